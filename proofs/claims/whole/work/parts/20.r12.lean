def f_X10_odds (S0 : SR) (a1 : Int32) (a2 : Int32) (a3 : Int32) (a4 : Int32) : Option (Int32) :=
  bo (f_X10_isSight a1 a2) (fun (r1 : Int32) => if r1 = 0 then (some (-102)) else (bo (f_X10_within a3 0 5) (fun (r3 : Int32) => if r3 = 0 then (some (-102)) else (bo (f_X10_within a4 0 1) (fun (r5 : Int32) => if r5 = 0 then (some (-102)) else (if (ri S0 0 0) = 0 then (some (-103)) else (bo (f_X10_oddsNow S0 a1 a2 a3 a4) (fun (r8 : Int32) => some r8))))))))
abbrev rmX10_odds : Room := { frames := 4, cells := 0, slots := 0, locals := 98 }
theorem hdV_X10_odds : yX10_odds.cls = "WitnessWallModel" ∧ yX10_odds.cls ≠ "java/lang/invoke/MethodHandle" ∧ yX10_odds.cls ≠ "java/lang/invoke/VarHandle" ∧ (parseMethodDescriptor yX10_odds.desc).map (fun d => d.parameters.length) = some 4 := by decide +kernel
set_option maxHeartbeats 4000000 in
set_option maxRecDepth 100000 in
theorem k_X10_odds {l : Launch} {D : va_G} {ad : Nat → Nat} {cI cB : ClassId} (hij : inj 31 ad)  {S0 : SR} {a1 : Int32} {a2 : Int32} {a3 : Int32} {a4 : Int32} {r : Int32} (hE : f_X10_odds S0 a1 a2 a3 a4 = some r) {sz : Nat} : Met l yX10_odds (wz yX10_odds cX10_odds 5 (some FieldType.int)) rmX10_odds (PG 31 ad (er ad cI cB) D (KR D cI cB) ZR [.ref (ad 0), .int a1, .int a2, .int a3, .int a4] S0 sz) (QGi 31 ad (er ad cI cB) D r S0 sz) 0 0 (AD 31 ad sz) := by
  unfold f_X10_odds at hE
  refine g_start (cc := cX10_odds) (maxL := 5) (ret := (some FieldType.int)) (Qc := fun sz => QGi 31 ad (er ad cI cB) D r S0 sz) (by decide) rfl (Nat.le_of_ble_eq_true rfl) ?_
  intro p e s m args below meth c H locs ls hx hb hr hts hown hlocks hml hK hZ hP hS hl
  replace hl : lv_has ls 5 [(0, .ref (ad 0)), (1, .int a1), (2, .int a2), (3, .int a3), (4, .int a4)] := hl
  obtain ⟨QQ, hQQ⟩ : ∃ q, q = MQ below (QGi 31 ad (er ad cI cB) D r S0 s.heap.size) args s 0 0 (AD 31 ad s.heap.size) := ⟨_, rfl⟩
  rw [← hQQ]
  refine lv_iload_n hx hb dX10_odds_0 rfl (lv_at hl 1 rfl) ?_
  refine lv_iload_n hx hb dX10_odds_1 rfl (lv_at hl 2 rfl) ?_
  obtain ⟨r1, hCr1, hE⟩ := st_bo hE
  refine g_calli (va_runS (As := [.int a1, .int a2]) (rest := []) ⟨hx, hb, hml, hown, hts⟩ (k_X10_isSight hij (S0 := S0) hCr1) (va_cwS 2 hts (wz_S tw_4_190 tw_4_191 tw_1_11 tw_4_192) rfl rfl rfl hdS_X10_isSight ⟨Nat.le_of_ble_eq_true rfl, Nat.le_of_ble_eq_true rfl⟩) (g_preS KR_st ZR_st hK hZ hP hS) rfl rfl hl.1 rfl (lv_room (Nat.le_of_ble_eq_true rfl)) dX10_odds_2 ⟨Nat.zero_le _, Nat.zero_le _⟩) hS (fun H locs hP hS => ?_)
  refine lv_if_eq (tgt := 27) hx hb dX10_odds_5 (by decide) (fun hc2 => ?_) (fun hc2 => ?_)
  · have hE := st_t hE hc2
    refine lv_bipush (v := (-102)) hx hb dX10_odds_27 (by decide) ?_
    replace hE := Option.some.inj hE
    subst hQQ
    exact g_iret hx hb hr hlocks hP hS hE rfl dX10_odds_29
  · have hE := st_f hE hc2
    refine lv_iload_n hx hb dX10_odds_8 rfl (lv_at hl 3 rfl) ?_
    refine lv_iconst (v := 0) hx hb dX10_odds_9 (by decide) ?_
    refine lv_iconst (v := 5) hx hb dX10_odds_10 (by decide) ?_
    obtain ⟨r3, hCr3, hE⟩ := st_bo hE
    refine g_calli (va_runS (As := [.int a3, .int 0, .int 5]) (rest := []) ⟨hx, hb, hml, hown, hts⟩ (k_X10_within hij (S0 := S0) hCr3) (va_cwS 3 hts (wz_S tw_4_66 tw_4_67 tw_1_11 tw_4_68) rfl rfl rfl hdS_X10_within ⟨Nat.le_of_ble_eq_true rfl, Nat.le_of_ble_eq_true rfl⟩) (g_preS KR_st ZR_st hK hZ hP hS) rfl rfl hl.1 rfl (lv_room (Nat.le_of_ble_eq_true rfl)) dX10_odds_11 ⟨Nat.zero_le _, Nat.zero_le _⟩) hS (fun H locs hP hS => ?_)
    refine lv_if_eq (tgt := 27) hx hb dX10_odds_14 (by decide) (fun hc4 => ?_) (fun hc4 => ?_)
    · have hE := st_t hE hc4
      refine lv_bipush (v := (-102)) hx hb dX10_odds_27 (by decide) ?_
      replace hE := Option.some.inj hE
      subst hQQ
      exact g_iret hx hb hr hlocks hP hS hE rfl dX10_odds_29
    · have hE := st_f hE hc4
      refine lv_iload hx hb dX10_odds_17 (lv_at hl 4 rfl) ?_
      refine lv_iconst (v := 0) hx hb dX10_odds_19 (by decide) ?_
      refine lv_iconst (v := 1) hx hb dX10_odds_20 (by decide) ?_
      obtain ⟨r5, hCr5, hE⟩ := st_bo hE
      refine g_calli (va_runS (As := [.int a4, .int 0, .int 1]) (rest := []) ⟨hx, hb, hml, hown, hts⟩ (k_X10_within hij (S0 := S0) hCr5) (va_cwS 3 hts (wz_S tw_4_66 tw_4_67 tw_1_11 tw_4_68) rfl rfl rfl hdS_X10_within ⟨Nat.le_of_ble_eq_true rfl, Nat.le_of_ble_eq_true rfl⟩) (g_preS KR_st ZR_st hK hZ hP hS) rfl rfl hl.1 rfl (lv_room (Nat.le_of_ble_eq_true rfl)) dX10_odds_21 ⟨Nat.zero_le _, Nat.zero_le _⟩) hS (fun H locs hP hS => ?_)
      refine lv_if_ne (tgt := 30) hx hb dX10_odds_24 (by decide) (fun hc6 => ?_) (fun hc6 => ?_)
      · have hE := st_f hE hc6
        refine lv_aload_n hx hb dX10_odds_30 rfl (lv_at hl 0 rfl) ?_
        refine r_get (v := .int (ri S0 0 0)) hx hb hts (fun w h => wz_m (inX10 w h)) hown hK hP (q_Ref (ad := ad) (cI := cI) (cB := cB)) rfl 0 (by decide) (hts _ (wz_m tw_3_156)) (fun _ h9 => h9) rfl dX10_odds_31 ?_
        refine lv_if_ne (tgt := 42) hx hb dX10_odds_34 (by decide) (fun hc7 => ?_) (fun hc7 => ?_)
        · have hE := st_f hE hc7
          refine lv_aload_n hx hb dX10_odds_42 rfl (lv_at hl 0 rfl) ?_
          refine lv_iload_n hx hb dX10_odds_43 rfl (lv_at hl 1 rfl) ?_
          refine lv_iload_n hx hb dX10_odds_44 rfl (lv_at hl 2 rfl) ?_
          refine lv_iload_n hx hb dX10_odds_45 rfl (lv_at hl 3 rfl) ?_
          refine lv_iload hx hb dX10_odds_46 (lv_at hl 4 rfl) ?_
          obtain ⟨r8, hCr8, hE⟩ := st_bo hE
          refine g_calli (va_runV (As := [.int a1, .int a2, .int a3, .int a4]) (rest := []) ⟨hx, hb, hml, hown, hts⟩ (k_X10_oddsNow hij hCr8) (cwV 4 hts (wz_V tw_5_55 tw_5_57 tp_36 tw_1_11 tw_5_58) rfl rfl rfl hdV_X10_oddsNow ⟨Nat.le_of_ble_eq_true rfl, Nat.le_of_ble_eq_true rfl⟩) (g_preV KR_st ZR_st hK hZ hP hS hK.1 ((q_Ref (ad := ad) (cI := cI) (cB := cB))).1 (er_o (q_Ref (ad := ad) (cI := cI) (cB := cB))) rfl) rfl rfl hl.1 rfl (lv_room (Nat.le_of_ble_eq_true rfl)) dX10_odds_48 ⟨Nat.zero_le _, Nat.zero_le _⟩) hS (fun H locs hP hS => ?_)
          replace hE := Option.some.inj hE
          subst hQQ
          exact g_iret hx hb hr hlocks hP hS hE rfl dX10_odds_51
        · have hE := st_t hE hc7
          refine lv_bipush (v := (-103)) hx hb dX10_odds_37 (by decide) ?_
          refine lv_goto (tgt := 51) hx hb dX10_odds_39 (by decide) ?_
          replace hE := Option.some.inj hE
          subst hQQ
          exact g_iret hx hb hr hlocks hP hS hE rfl dX10_odds_51
      · have hE := st_t hE hc6
        refine lv_bipush (v := (-102)) hx hb dX10_odds_27 (by decide) ?_
        replace hE := Option.some.inj hE
        subst hQQ
        exact g_iret hx hb hr hlocks hP hS hE rfl dX10_odds_29
def f_X10_peace (S0 : SR) (a1 : Int32) : Option (Int32) :=
  bo (f_X10_within a1 0 1) (fun (r1 : Int32) => if r1 = 0 then (some (-102)) else (if (ri S0 0 0) = 0 then (some (-103)) else (if a1 = 0 then (bo (f_X10_peaceSet S0) (fun (r6 : Int32) => bo (f_X10_size r6) (fun (r7 : Int32) => some r7))) else (bo (f_X10_peaceSet S0) (fun (r5 : Int32) => some r5)))))
abbrev rmX10_peace : Room := { frames := 5, cells := 0, slots := 0, locals := 117 }
theorem hdV_X10_peace : yX10_peace.cls = "WitnessWallModel" ∧ yX10_peace.cls ≠ "java/lang/invoke/MethodHandle" ∧ yX10_peace.cls ≠ "java/lang/invoke/VarHandle" ∧ (parseMethodDescriptor yX10_peace.desc).map (fun d => d.parameters.length) = some 1 := by decide +kernel
set_option maxHeartbeats 4000000 in
set_option maxRecDepth 100000 in
theorem k_X10_peace {l : Launch} {D : va_G} {ad : Nat → Nat} {cI cB : ClassId} (hij : inj 31 ad)  {S0 : SR} {a1 : Int32} {r : Int32} (hE : f_X10_peace S0 a1 = some r) {sz : Nat} : Met l yX10_peace (wz yX10_peace cX10_peace 2 (some FieldType.int)) rmX10_peace (PG 31 ad (er ad cI cB) D (KR D cI cB) ZR [.ref (ad 0), .int a1] S0 sz) (QGi 31 ad (er ad cI cB) D r S0 sz) 0 0 (AD 31 ad sz) := by
  unfold f_X10_peace at hE
  refine g_start (cc := cX10_peace) (maxL := 2) (ret := (some FieldType.int)) (Qc := fun sz => QGi 31 ad (er ad cI cB) D r S0 sz) (by decide) rfl (Nat.le_of_ble_eq_true rfl) ?_
  intro p e s m args below meth c H locs ls hx hb hr hts hown hlocks hml hK hZ hP hS hl
  replace hl : lv_has ls 2 [(0, .ref (ad 0)), (1, .int a1)] := hl
  obtain ⟨QQ, hQQ⟩ : ∃ q, q = MQ below (QGi 31 ad (er ad cI cB) D r S0 s.heap.size) args s 0 0 (AD 31 ad s.heap.size) := ⟨_, rfl⟩
  rw [← hQQ]
  refine lv_iload_n hx hb dX10_peace_0 rfl (lv_at hl 1 rfl) ?_
  refine lv_iconst (v := 0) hx hb dX10_peace_1 (by decide) ?_
  refine lv_iconst (v := 1) hx hb dX10_peace_2 (by decide) ?_
  obtain ⟨r1, hCr1, hE⟩ := st_bo hE
  refine g_calli (va_runS (As := [.int a1, .int 0, .int 1]) (rest := []) ⟨hx, hb, hml, hown, hts⟩ (k_X10_within hij (S0 := S0) hCr1) (va_cwS 3 hts (wz_S tw_4_66 tw_4_67 tw_1_11 tw_4_68) rfl rfl rfl hdS_X10_within ⟨Nat.le_of_ble_eq_true rfl, Nat.le_of_ble_eq_true rfl⟩) (g_preS KR_st ZR_st hK hZ hP hS) rfl rfl hl.1 rfl (lv_room (Nat.le_of_ble_eq_true rfl)) dX10_peace_3 ⟨Nat.zero_le _, Nat.zero_le _⟩) hS (fun H locs hP hS => ?_)
  refine lv_if_ne (tgt := 12) hx hb dX10_peace_6 (by decide) (fun hc2 => ?_) (fun hc2 => ?_)
  · have hE := st_f hE hc2
    refine lv_aload_n hx hb dX10_peace_12 rfl (lv_at hl 0 rfl) ?_
    refine r_get (v := .int (ri S0 0 0)) hx hb hts (fun w h => wz_m (inX10 w h)) hown hK hP (q_Ref (ad := ad) (cI := cI) (cB := cB)) rfl 0 (by decide) (hts _ (wz_m tw_3_156)) (fun _ h9 => h9) rfl dX10_peace_13 ?_
    refine lv_if_ne (tgt := 24) hx hb dX10_peace_16 (by decide) (fun hc3 => ?_) (fun hc3 => ?_)
    · have hE := st_f hE hc3
      refine lv_iload_n hx hb dX10_peace_24 rfl (lv_at hl 1 rfl) ?_
      refine lv_if_ne (tgt := 38) hx hb dX10_peace_25 (by decide) (fun hc4 => ?_) (fun hc4 => ?_)
      · have hE := st_f hE hc4
        refine lv_aload_n hx hb dX10_peace_38 rfl (lv_at hl 0 rfl) ?_
        obtain ⟨r5, hCr5, hE⟩ := st_bo hE
        refine g_calli (va_runV (As := []) (rest := []) ⟨hx, hb, hml, hown, hts⟩ (k_X10_peaceSet hij hCr5) (cwV 0 hts (wz_V tw_5_27 tw_5_29 tp_31 tw_1_11 tw_5_30) rfl rfl rfl hdV_X10_peaceSet ⟨Nat.le_of_ble_eq_true rfl, Nat.le_of_ble_eq_true rfl⟩) (g_preV KR_st ZR_st hK hZ hP hS hK.1 ((q_Ref (ad := ad) (cI := cI) (cB := cB))).1 (er_o (q_Ref (ad := ad) (cI := cI) (cB := cB))) rfl) rfl rfl hl.1 rfl (lv_room (Nat.le_of_ble_eq_true rfl)) dX10_peace_39 ⟨Nat.zero_le _, Nat.zero_le _⟩) hS (fun H locs hP hS => ?_)
        replace hE := Option.some.inj hE
        subst hQQ
        exact g_iret hx hb hr hlocks hP hS hE rfl dX10_peace_42
      · have hE := st_t hE hc4
        refine lv_aload_n hx hb dX10_peace_28 rfl (lv_at hl 0 rfl) ?_
        obtain ⟨r6, hCr6, hE⟩ := st_bo hE
        refine g_calli (va_runV (As := []) (rest := []) ⟨hx, hb, hml, hown, hts⟩ (k_X10_peaceSet hij hCr6) (cwV 0 hts (wz_V tw_5_27 tw_5_29 tp_31 tw_1_11 tw_5_30) rfl rfl rfl hdV_X10_peaceSet ⟨Nat.le_of_ble_eq_true rfl, Nat.le_of_ble_eq_true rfl⟩) (g_preV KR_st ZR_st hK hZ hP hS hK.1 ((q_Ref (ad := ad) (cI := cI) (cB := cB))).1 (er_o (q_Ref (ad := ad) (cI := cI) (cB := cB))) rfl) rfl rfl hl.1 rfl (lv_room (Nat.le_of_ble_eq_true rfl)) dX10_peace_29 ⟨Nat.zero_le _, Nat.zero_le _⟩) hS (fun H locs hP hS => ?_)
        obtain ⟨r7, hCr7, hE⟩ := st_bo hE
        refine g_calli (va_runS (As := [.int r6]) (rest := []) ⟨hx, hb, hml, hown, hts⟩ (k_X10_size hij (S0 := S0) hCr7) (va_cwS 1 hts (wz_S tw_4_147 tw_4_148 tw_1_11 tw_4_149) rfl rfl rfl hdS_X10_size ⟨Nat.le_of_ble_eq_true rfl, Nat.le_of_ble_eq_true rfl⟩) (g_preS KR_st ZR_st hK hZ hP hS) rfl rfl hl.1 rfl (lv_room (Nat.le_of_ble_eq_true rfl)) dX10_peace_32 ⟨Nat.zero_le _, Nat.zero_le _⟩) hS (fun H locs hP hS => ?_)
        refine lv_goto (tgt := 42) hx hb dX10_peace_35 (by decide) ?_
        replace hE := Option.some.inj hE
        subst hQQ
        exact g_iret hx hb hr hlocks hP hS hE rfl dX10_peace_42
    · have hE := st_t hE hc3
      refine lv_bipush (v := (-103)) hx hb dX10_peace_19 (by decide) ?_
      refine lv_goto (tgt := 42) hx hb dX10_peace_21 (by decide) ?_
      replace hE := Option.some.inj hE
      subst hQQ
      exact g_iret hx hb hr hlocks hP hS hE rfl dX10_peace_42
  · have hE := st_t hE hc2
    refine lv_bipush (v := (-102)) hx hb dX10_peace_9 (by decide) ?_
    replace hE := Option.some.inj hE
    subst hQQ
    exact g_iret hx hb hr hlocks hP hS hE rfl dX10_peace_11
def b_X10_restore_47 (c9 : Int32) (c10 : SR) : Option ((Int32 × SR) ⊕ (SR)) :=
  if 5 ≤ c9 then (some (.inr c10)) else (gd (inb c9 5) (gd (inb c9 5) (bv (ui c10 1 (c9.toNatClampNeg) (ri c10 22 (c9.toNatClampNeg))) (fun S14 => gd (inb c9 5) (gd (inb c9 5) (bv (ui S14 3 (c9.toNatClampNeg) (ri S14 24 (c9.toNatClampNeg))) (fun S17 => bv (c9 + 1) (fun (v18 : Int32) => some (.inl (v18, S17))))))))))
def b_X10_restore_84 (c22 : Int32) (c23 : SR) : Option ((Int32 × SR) ⊕ (SR)) :=
  if 20 ≤ c22 then (some (.inr c23)) else (gd (inb c22 20) (gd (inb c22 20) (bv (ui c23 2 (c22.toNatClampNeg) (ri c23 23 (c22.toNatClampNeg))) (fun S27 => bv (c22 + 1) (fun (v28 : Int32) => some (.inl (v28, S27)))))))
def b_X10_restore_110 (c32 : Int32) (c33 : SR) : Option ((Int32 × SR) ⊕ (SR)) :=
  if 6 ≤ c32 then (some (.inr c33)) else (gd (inb c32 6) (gd (inb c32 6) (bv (ui c33 6 (c32.toNatClampNeg) (ri c33 25 (c32.toNatClampNeg))) (fun S37 => gd (inb c32 6) (gd (inb c32 6) (bv (ui S37 7 (c32.toNatClampNeg) (ri S37 26 (c32.toNatClampNeg))) (fun S40 => gd (inb c32 6) (gd (inb c32 6) (bv (ui S40 8 (c32.toNatClampNeg) (ri S40 27 (c32.toNatClampNeg))) (fun S43 => gd (inb c32 6) (gd (inb c32 6) (bv (ui S43 9 (c32.toNatClampNeg) (ri S43 28 (c32.toNatClampNeg))) (fun S46 => gd (inb c32 6) (gd (inb c32 6) (bv (ui S46 10 (c32.toNatClampNeg) (ri S46 29 (c32.toNatClampNeg))) (fun S49 => gd (inb c32 6) (gd (inb c32 6) (bv (ui S49 11 (c32.toNatClampNeg) (ri S49 30 (c32.toNatClampNeg))) (fun S52 => bv (c32 + 1) (fun (v53 : Int32) => some (.inl (v53, S52))))))))))))))))))))))
def f_X10_restore (S0 : SR) : Option (Int32 × SR) :=
  if (ri S0 0 33) = 0 then (some ((-103), S0)) else (if (ri S0 0 34) = (ri S0 0 0) then (bv (ui S0 0 8 (ri S0 0 35)) (fun S3 => bv (ui S3 0 12 (ri S3 0 36)) (fun S4 => bv (ui S4 0 13 (ri S4 0 37)) (fun S5 => bo (lp (fun (s6 : Int32 × SR) => b_X10_restore_47 s6.1 s6.2) 5000 (0, S5)) (fun (x7 : SR) => bo (lp (fun (s19 : Int32 × SR) => b_X10_restore_84 s19.1 s19.2) 5000 (0, x7)) (fun (x20 : SR) => bo (lp (fun (s29 : Int32 × SR) => b_X10_restore_110 s29.1 s29.2) 5000 (0, x20)) (fun (x30 : SR) => some (ri x30 0 12, x30)))))))) else (some ((-103), S0)))
abbrev rmX10_restore : Room := { frames := 0, cells := 0, slots := 0, locals := 0 }
theorem hdV_X10_restore : yX10_restore.cls = "WitnessWallModel" ∧ yX10_restore.cls ≠ "java/lang/invoke/MethodHandle" ∧ yX10_restore.cls ≠ "java/lang/invoke/VarHandle" ∧ (parseMethodDescriptor yX10_restore.desc).map (fun d => d.parameters.length) = some 0 := by decide +kernel
set_option maxHeartbeats 4000000 in
set_option maxRecDepth 100000 in
theorem k_X10_restore {l : Launch} {D : va_G} {ad : Nat → Nat} {cI cB : ClassId} (hij : inj 31 ad)  {S0 : SR} {r : Int32} {Sr : SR} (hE : f_X10_restore S0 = some (r, Sr)) {sz : Nat} : Met l yX10_restore (wz yX10_restore cX10_restore 2 (some FieldType.int)) rmX10_restore (PG 31 ad (er ad cI cB) D (KR D cI cB) ZR [.ref (ad 0)] S0 sz) (QGi 31 ad (er ad cI cB) D r Sr sz) 0 0 (AD 31 ad sz) := by
  unfold f_X10_restore at hE
  refine g_start (cc := cX10_restore) (maxL := 2) (ret := (some FieldType.int)) (Qc := fun sz => QGi 31 ad (er ad cI cB) D r Sr sz) (by decide) rfl (Nat.le_of_ble_eq_true rfl) ?_
  intro p e s m args below meth c H locs ls hx hb hr hts hown hlocks hml hK hZ hP hS hl
  replace hl : lv_has ls 2 [(0, .ref (ad 0))] := hl
  obtain ⟨QQ, hQQ⟩ : ∃ q, q = MQ below (QGi 31 ad (er ad cI cB) D r Sr s.heap.size) args s 0 0 (AD 31 ad s.heap.size) := ⟨_, rfl⟩
  rw [← hQQ]
  refine lv_aload_n hx hb dX10_restore_0 rfl (lv_at hl 0 rfl) ?_
  refine r_get (v := .int (ri S0 0 33)) hx hb hts (fun w h => wz_m (inX10 w h)) hown hK hP (q_Ref (ad := ad) (cI := cI) (cB := cB)) rfl 33 (by decide) (hts _ (wz_m tw_3_189)) (fun _ h9 => h9) rfl dX10_restore_1 ?_
  refine lv_if_eq (tgt := 18) hx hb dX10_restore_4 (by decide) (fun hc1 => ?_) (fun hc1 => ?_)
  · have hE := st_t hE hc1
    refine lv_bipush (v := (-103)) hx hb dX10_restore_18 (by decide) ?_
    replace hE := Option.some.inj hE
    have hq := Prod.mk.inj hE
    subst hQQ
    exact g_iret hx hb hr hlocks hP hS hq.1 hq.2 dX10_restore_20
  · have hE := st_f hE hc1
    refine lv_aload_n hx hb dX10_restore_7 rfl (lv_at hl 0 rfl) ?_
    refine r_get (v := .int (ri S0 0 34)) hx hb hts (fun w h => wz_m (inX10 w h)) hown hK hP (q_Ref (ad := ad) (cI := cI) (cB := cB)) rfl 34 (by decide) (hts _ (wz_m tw_3_190)) (fun _ h9 => h9) rfl dX10_restore_8 ?_
    refine lv_aload_n hx hb dX10_restore_11 rfl (lv_at hl 0 rfl) ?_
    refine r_get (v := .int (ri S0 0 0)) hx hb hts (fun w h => wz_m (inX10 w h)) hown hK hP (q_Ref (ad := ad) (cI := cI) (cB := cB)) rfl 0 (by decide) (hts _ (wz_m tw_3_156)) (fun _ h9 => h9) rfl dX10_restore_12 ?_
    refine lv_icmp_eq (tgt := 21) hx hb dX10_restore_15 (by decide) (fun hc2 => ?_) (fun hc2 => ?_)
    · have hE := st_t hE hc2
      refine lv_aload_n hx hb dX10_restore_21 rfl (lv_at hl 0 rfl) ?_
      refine lv_aload_n hx hb dX10_restore_22 rfl (lv_at hl 0 rfl) ?_
      refine r_get (v := .int (ri S0 0 35)) hx hb hts (fun w h => wz_m (inX10 w h)) hown hK hP (q_Ref (ad := ad) (cI := cI) (cB := cB)) rfl 35 (by decide) (hts _ (wz_m tw_3_191)) (fun _ h9 => h9) rfl dX10_restore_23 ?_
      refine r_put hij hx hb hts (fun w h => wz_m (inX10 w h)) tyX10 tyX10_ok nmX10 hown hK hP hS (q_Ref (ad := ad) (cI := cI) (cB := cB)) rfl 8 (by decide) (hts _ (wz_m tw_3_164)) (fun _ h9 => h9) rfl rfl rfl (fun _ _ => Nat.le_of_ble_eq_true rfl) (fun _ _ => rfl) dX10_restore_26 (fun H locs hP hS => ?_)
      obtain ⟨S3, eS3, hE⟩ := st_bv hE
      rw [← eS3] at hP
      refine lv_aload_n hx hb dX10_restore_29 rfl (lv_at hl 0 rfl) ?_
      refine lv_aload_n hx hb dX10_restore_30 rfl (lv_at hl 0 rfl) ?_
      refine r_get (v := .int (ri S3 0 36)) hx hb hts (fun w h => wz_m (inX10 w h)) hown hK hP (q_Ref (ad := ad) (cI := cI) (cB := cB)) rfl 36 (by decide) (hts _ (wz_m tw_3_192)) (fun _ h9 => h9) rfl dX10_restore_31 ?_
      refine r_put hij hx hb hts (fun w h => wz_m (inX10 w h)) tyX10 tyX10_ok nmX10 hown hK hP hS (q_Ref (ad := ad) (cI := cI) (cB := cB)) rfl 12 (by decide) (hts _ (wz_m tw_3_168)) (fun _ h9 => h9) rfl rfl rfl (fun _ _ => Nat.le_of_ble_eq_true rfl) (fun _ _ => rfl) dX10_restore_34 (fun H locs hP hS => ?_)
      obtain ⟨S4, eS4, hE⟩ := st_bv hE
      rw [← eS4] at hP
      refine lv_aload_n hx hb dX10_restore_37 rfl (lv_at hl 0 rfl) ?_
      refine lv_aload_n hx hb dX10_restore_38 rfl (lv_at hl 0 rfl) ?_
      refine r_get (v := .int (ri S4 0 37)) hx hb hts (fun w h => wz_m (inX10 w h)) hown hK hP (q_Ref (ad := ad) (cI := cI) (cB := cB)) rfl 37 (by decide) (hts _ (wz_m tw_3_193)) (fun _ h9 => h9) rfl dX10_restore_39 ?_
      refine r_put hij hx hb hts (fun w h => wz_m (inX10 w h)) tyX10 tyX10_ok nmX10 hown hK hP hS (q_Ref (ad := ad) (cI := cI) (cB := cB)) rfl 13 (by decide) (hts _ (wz_m tw_3_169)) (fun _ h9 => h9) rfl rfl rfl (fun _ _ => Nat.le_of_ble_eq_true rfl) (fun _ _ => rfl) dX10_restore_42 (fun H locs hP hS => ?_)
      obtain ⟨S5, eS5, hE⟩ := st_bv hE
      rw [← eS5] at hP
      refine lv_iconst (v := 0) hx hb dX10_restore_45 (by decide) ?_
      refine lv_istore_n (lv' := [(1, .int 0), (0, .ref (ad 0))]) hx hb dX10_restore_46 rfl hl (by decide) rfl (fun ls hl => ?_)
      obtain ⟨x7, hx7, hE⟩ := st_bo hE
      refine lp_walk (body := fun (s6 : Int32 × SR) => b_X10_restore_47 s6.1 s6.2) (fun s6 => ∀ (ls : Array Slot) (H : Heap) (locs : List Loc), lv_has ls 2 [(0, .ref (ad 0)), (1, .int s6.1)] → rP D ad cI cB s6.2 H → rS ad s H locs → W p l e rmX10_restore s m args below meth c H locs 0 0 QQ (F0 m 47 ls [])) (fun x7 => ∀ (ls : Array Slot) (H : Heap) (locs : List Loc), lv_has ls 2 [(0, .ref (ad 0))] → rP D ad cI cB x7 H → rS ad s H locs → W p l e rmX10_restore s m args below meth c H locs 0 0 QQ (F0 m 82 ls [])) ?_ _ _ _ hx7 ?_ ls H locs (lv_sub hl [1, 0] rfl) hP hS
      · intro s6 t8 hE hKt8 ls H locs hl hP hS
        obtain ⟨c9, c10⟩ := s6
        replace hE : b_X10_restore_47 c9 c10 = some t8 := hE
        replace hl : lv_has ls 2 [(0, .ref (ad 0)), (1, .int c9)] := hl
        replace hP : rP D ad cI cB c10 H := hP
        unfold b_X10_restore_47 at hE
        refine lv_iload_n hx hb dX10_restore_47 rfl (lv_at hl 1 rfl) ?_
        refine lv_iconst (v := 5) hx hb dX10_restore_48 (by decide) ?_
        refine lv_icmp_ge (tgt := 82) hx hb dX10_restore_49 (by decide) (fun hc11 => ?_) (fun hc11 => ?_)
        · have hE := st_t hE hc11
          have hq := Option.some.inj hE
          subst hq
          exact hKt8 ls H locs (lv_sub hl [0] rfl) hP hS
        · have hE := st_f hE hc11
          refine lv_aload_n hx hb dX10_restore_52 rfl (lv_at hl 0 rfl) ?_
          refine r_get (v := .ref (ad 1)) hx hb hts (fun w h => wz_m (inX10 w h)) hown hK hP (q_Ref (ad := ad) (cI := cI) (cB := cB)) rfl 2 (by decide) (hts _ (wz_m tw_3_158)) (fun _ h9 => h9) rfl dX10_restore_53 ?_
          refine lv_iload_n hx hb dX10_restore_56 rfl (lv_at hl 1 rfl) ?_
          refine lv_aload_n hx hb dX10_restore_57 rfl (lv_at hl 0 rfl) ?_
          refine r_get (v := .ref (ad 22)) hx hb hts (fun w h => wz_m (inX10 w h)) hown hK hP (q_Ref (ad := ad) (cI := cI) (cB := cB)) rfl 38 (by decide) (hts _ (wz_m tw_3_194)) (fun _ h9 => h9) rfl dX10_restore_58 ?_
          refine lv_iload_n hx hb dX10_restore_61 rfl (lv_at hl 1 rfl) ?_
          obtain ⟨hi12, hE⟩ := st_gd hE
          refine r_iald hx hb hK hP qr_22 hi12 dX10_restore_62 ?_
          obtain ⟨hi13, hE⟩ := st_gd hE
          refine r_iast hij hx hb hK hP hS qr_1 hi13 dX10_restore_63 (fun H locs hP hS => ?_)
          obtain ⟨S14, eS14, hE⟩ := st_bv hE
          rw [← eS14] at hP
          refine lv_aload_n hx hb dX10_restore_64 rfl (lv_at hl 0 rfl) ?_
          refine r_get (v := .ref (ad 3)) hx hb hts (fun w h => wz_m (inX10 w h)) hown hK hP (q_Ref (ad := ad) (cI := cI) (cB := cB)) rfl 4 (by decide) (hts _ (wz_m tw_3_160)) (fun _ h9 => h9) rfl dX10_restore_65 ?_
          refine lv_iload_n hx hb dX10_restore_68 rfl (lv_at hl 1 rfl) ?_
          refine lv_aload_n hx hb dX10_restore_69 rfl (lv_at hl 0 rfl) ?_
          refine r_get (v := .ref (ad 24)) hx hb hts (fun w h => wz_m (inX10 w h)) hown hK hP (q_Ref (ad := ad) (cI := cI) (cB := cB)) rfl 40 (by decide) (hts _ (wz_m tw_3_196)) (fun _ h9 => h9) rfl dX10_restore_70 ?_
          refine lv_iload_n hx hb dX10_restore_73 rfl (lv_at hl 1 rfl) ?_
          obtain ⟨hi15, hE⟩ := st_gd hE
          refine r_iald hx hb hK hP qr_24 hi15 dX10_restore_74 ?_
          obtain ⟨hi16, hE⟩ := st_gd hE
          refine r_iast hij hx hb hK hP hS qr_3 hi16 dX10_restore_75 (fun H locs hP hS => ?_)
          obtain ⟨S17, eS17, hE⟩ := st_bv hE
          rw [← eS17] at hP
          obtain ⟨v18, ev18, hE⟩ := st_bv hE
          refine lv_iinc (v := v18) (lv' := [(1, .int v18), (0, .ref (ad 0))]) hx hb dX10_restore_76 hl (k := 1) rfl (by rw [ev18]; rfl) (by decide) rfl (fun ls hl => ?_)
          refine lv_goto (tgt := 47) hx hb dX10_restore_79 (by decide) ?_
          have hq := Option.some.inj hE
          subst hq
          exact hKt8 ls H locs (lv_sub hl [1, 0] rfl) hP hS
      · intro ls H locs hl hP hS
        refine lv_iconst (v := 0) hx hb dX10_restore_82 (by decide) ?_
        refine lv_istore_n (lv' := [(1, .int 0), (0, .ref (ad 0))]) hx hb dX10_restore_83 rfl hl (by decide) rfl (fun ls hl => ?_)
        obtain ⟨x20, hx20, hE⟩ := st_bo hE
        refine lp_walk (body := fun (s19 : Int32 × SR) => b_X10_restore_84 s19.1 s19.2) (fun s19 => ∀ (ls : Array Slot) (H : Heap) (locs : List Loc), lv_has ls 2 [(0, .ref (ad 0)), (1, .int s19.1)] → rP D ad cI cB s19.2 H → rS ad s H locs → W p l e rmX10_restore s m args below meth c H locs 0 0 QQ (F0 m 84 ls [])) (fun x20 => ∀ (ls : Array Slot) (H : Heap) (locs : List Loc), lv_has ls 2 [(0, .ref (ad 0))] → rP D ad cI cB x20 H → rS ad s H locs → W p l e rmX10_restore s m args below meth c H locs 0 0 QQ (F0 m 108 ls [])) ?_ _ _ _ hx20 ?_ ls H locs (lv_sub hl [1, 0] rfl) hP hS
        · intro s19 t21 hE hKt21 ls H locs hl hP hS
          obtain ⟨c22, c23⟩ := s19
          replace hE : b_X10_restore_84 c22 c23 = some t21 := hE
          replace hl : lv_has ls 2 [(0, .ref (ad 0)), (1, .int c22)] := hl
          replace hP : rP D ad cI cB c23 H := hP
          unfold b_X10_restore_84 at hE
          refine lv_iload_n hx hb dX10_restore_84 rfl (lv_at hl 1 rfl) ?_
          refine lv_bipush (v := 20) hx hb dX10_restore_85 (by decide) ?_
          refine lv_icmp_ge (tgt := 108) hx hb dX10_restore_87 (by decide) (fun hc24 => ?_) (fun hc24 => ?_)
          · have hE := st_t hE hc24
            have hq := Option.some.inj hE
            subst hq
            exact hKt21 ls H locs (lv_sub hl [0] rfl) hP hS
          · have hE := st_f hE hc24
            refine lv_aload_n hx hb dX10_restore_90 rfl (lv_at hl 0 rfl) ?_
            refine r_get (v := .ref (ad 2)) hx hb hts (fun w h => wz_m (inX10 w h)) hown hK hP (q_Ref (ad := ad) (cI := cI) (cB := cB)) rfl 3 (by decide) (hts _ (wz_m tw_3_159)) (fun _ h9 => h9) rfl dX10_restore_91 ?_
            refine lv_iload_n hx hb dX10_restore_94 rfl (lv_at hl 1 rfl) ?_
            refine lv_aload_n hx hb dX10_restore_95 rfl (lv_at hl 0 rfl) ?_
            refine r_get (v := .ref (ad 23)) hx hb hts (fun w h => wz_m (inX10 w h)) hown hK hP (q_Ref (ad := ad) (cI := cI) (cB := cB)) rfl 39 (by decide) (hts _ (wz_m tw_3_195)) (fun _ h9 => h9) rfl dX10_restore_96 ?_
            refine lv_iload_n hx hb dX10_restore_99 rfl (lv_at hl 1 rfl) ?_
            obtain ⟨hi25, hE⟩ := st_gd hE
            refine r_iald hx hb hK hP qr_23 hi25 dX10_restore_100 ?_
            obtain ⟨hi26, hE⟩ := st_gd hE
            refine r_iast hij hx hb hK hP hS qr_2 hi26 dX10_restore_101 (fun H locs hP hS => ?_)
            obtain ⟨S27, eS27, hE⟩ := st_bv hE
            rw [← eS27] at hP
            obtain ⟨v28, ev28, hE⟩ := st_bv hE
            refine lv_iinc (v := v28) (lv' := [(1, .int v28), (0, .ref (ad 0))]) hx hb dX10_restore_102 hl (k := 1) rfl (by rw [ev28]; rfl) (by decide) rfl (fun ls hl => ?_)
            refine lv_goto (tgt := 84) hx hb dX10_restore_105 (by decide) ?_
            have hq := Option.some.inj hE
            subst hq
            exact hKt21 ls H locs (lv_sub hl [1, 0] rfl) hP hS
        · intro ls H locs hl hP hS
          refine lv_iconst (v := 0) hx hb dX10_restore_108 (by decide) ?_
          refine lv_istore_n (lv' := [(1, .int 0), (0, .ref (ad 0))]) hx hb dX10_restore_109 rfl hl (by decide) rfl (fun ls hl => ?_)
          obtain ⟨x30, hx30, hE⟩ := st_bo hE
          refine lp_walk (body := fun (s29 : Int32 × SR) => b_X10_restore_110 s29.1 s29.2) (fun s29 => ∀ (ls : Array Slot) (H : Heap) (locs : List Loc), lv_has ls 2 [(0, .ref (ad 0)), (1, .int s29.1)] → rP D ad cI cB s29.2 H → rS ad s H locs → W p l e rmX10_restore s m args below meth c H locs 0 0 QQ (F0 m 110 ls [])) (fun x30 => ∀ (ls : Array Slot) (H : Heap) (locs : List Loc), lv_has ls 2 [(0, .ref (ad 0))] → rP D ad cI cB x30 H → rS ad s H locs → W p l e rmX10_restore s m args below meth c H locs 0 0 QQ (F0 m 194 ls [])) ?_ _ _ _ hx30 ?_ ls H locs (lv_sub hl [1, 0] rfl) hP hS
          · intro s29 t31 hE hKt31 ls H locs hl hP hS
            obtain ⟨c32, c33⟩ := s29
            replace hE : b_X10_restore_110 c32 c33 = some t31 := hE
            replace hl : lv_has ls 2 [(0, .ref (ad 0)), (1, .int c32)] := hl
            replace hP : rP D ad cI cB c33 H := hP
            unfold b_X10_restore_110 at hE
            refine lv_iload_n hx hb dX10_restore_110 rfl (lv_at hl 1 rfl) ?_
            refine lv_bipush (v := 6) hx hb dX10_restore_111 (by decide) ?_
            refine lv_icmp_ge (tgt := 194) hx hb dX10_restore_113 (by decide) (fun hc34 => ?_) (fun hc34 => ?_)
            · have hE := st_t hE hc34
              have hq := Option.some.inj hE
              subst hq
              exact hKt31 ls H locs (lv_sub hl [0] rfl) hP hS
            · have hE := st_f hE hc34
              refine lv_aload_n hx hb dX10_restore_116 rfl (lv_at hl 0 rfl) ?_
              refine r_get (v := .ref (ad 6)) hx hb hts (fun w h => wz_m (inX10 w h)) hown hK hP (q_Ref (ad := ad) (cI := cI) (cB := cB)) rfl 9 (by decide) (hts _ (wz_m tw_3_165)) (fun _ h9 => h9) rfl dX10_restore_117 ?_
              refine lv_iload_n hx hb dX10_restore_120 rfl (lv_at hl 1 rfl) ?_
              refine lv_aload_n hx hb dX10_restore_121 rfl (lv_at hl 0 rfl) ?_
              refine r_get (v := .ref (ad 25)) hx hb hts (fun w h => wz_m (inX10 w h)) hown hK hP (q_Ref (ad := ad) (cI := cI) (cB := cB)) rfl 41 (by decide) (hts _ (wz_m tw_3_197)) (fun _ h9 => h9) rfl dX10_restore_122 ?_
              refine lv_iload_n hx hb dX10_restore_125 rfl (lv_at hl 1 rfl) ?_
              obtain ⟨hi35, hE⟩ := st_gd hE
              refine r_iald hx hb hK hP qr_25 hi35 dX10_restore_126 ?_
              obtain ⟨hi36, hE⟩ := st_gd hE
              refine r_iast hij hx hb hK hP hS qr_6 hi36 dX10_restore_127 (fun H locs hP hS => ?_)
              obtain ⟨S37, eS37, hE⟩ := st_bv hE
              rw [← eS37] at hP
              refine lv_aload_n hx hb dX10_restore_128 rfl (lv_at hl 0 rfl) ?_
              refine r_get (v := .ref (ad 7)) hx hb hts (fun w h => wz_m (inX10 w h)) hown hK hP (q_Ref (ad := ad) (cI := cI) (cB := cB)) rfl 10 (by decide) (hts _ (wz_m tw_3_166)) (fun _ h9 => h9) rfl dX10_restore_129 ?_
              refine lv_iload_n hx hb dX10_restore_132 rfl (lv_at hl 1 rfl) ?_
              refine lv_aload_n hx hb dX10_restore_133 rfl (lv_at hl 0 rfl) ?_
              refine r_get (v := .ref (ad 26)) hx hb hts (fun w h => wz_m (inX10 w h)) hown hK hP (q_Ref (ad := ad) (cI := cI) (cB := cB)) rfl 42 (by decide) (hts _ (wz_m tw_3_198)) (fun _ h9 => h9) rfl dX10_restore_134 ?_
              refine lv_iload_n hx hb dX10_restore_137 rfl (lv_at hl 1 rfl) ?_
              obtain ⟨hi38, hE⟩ := st_gd hE
              refine r_iald hx hb hK hP qr_26 hi38 dX10_restore_138 ?_
              obtain ⟨hi39, hE⟩ := st_gd hE
              refine r_iast hij hx hb hK hP hS qr_7 hi39 dX10_restore_139 (fun H locs hP hS => ?_)
              obtain ⟨S40, eS40, hE⟩ := st_bv hE
              rw [← eS40] at hP
              refine lv_aload_n hx hb dX10_restore_140 rfl (lv_at hl 0 rfl) ?_
              refine r_get (v := .ref (ad 8)) hx hb hts (fun w h => wz_m (inX10 w h)) hown hK hP (q_Ref (ad := ad) (cI := cI) (cB := cB)) rfl 11 (by decide) (hts _ (wz_m tw_3_167)) (fun _ h9 => h9) rfl dX10_restore_141 ?_
              refine lv_iload_n hx hb dX10_restore_144 rfl (lv_at hl 1 rfl) ?_
              refine lv_aload_n hx hb dX10_restore_145 rfl (lv_at hl 0 rfl) ?_
              refine r_get (v := .ref (ad 27)) hx hb hts (fun w h => wz_m (inX10 w h)) hown hK hP (q_Ref (ad := ad) (cI := cI) (cB := cB)) rfl 43 (by decide) (hts _ (wz_m tw_3_199)) (fun _ h9 => h9) rfl dX10_restore_146 ?_
              refine lv_iload_n hx hb dX10_restore_149 rfl (lv_at hl 1 rfl) ?_
              obtain ⟨hi41, hE⟩ := st_gd hE
              refine r_iald hx hb hK hP qr_27 hi41 dX10_restore_150 ?_
              obtain ⟨hi42, hE⟩ := st_gd hE
              refine r_iast hij hx hb hK hP hS qr_8 hi42 dX10_restore_151 (fun H locs hP hS => ?_)
              obtain ⟨S43, eS43, hE⟩ := st_bv hE
              rw [← eS43] at hP
              refine lv_aload_n hx hb dX10_restore_152 rfl (lv_at hl 0 rfl) ?_
              refine r_get (v := .ref (ad 9)) hx hb hts (fun w h => wz_m (inX10 w h)) hown hK hP (q_Ref (ad := ad) (cI := cI) (cB := cB)) rfl 14 (by decide) (hts _ (wz_m tw_3_170)) (fun _ h9 => h9) rfl dX10_restore_153 ?_
              refine lv_iload_n hx hb dX10_restore_156 rfl (lv_at hl 1 rfl) ?_
              refine lv_aload_n hx hb dX10_restore_157 rfl (lv_at hl 0 rfl) ?_
              refine r_get (v := .ref (ad 28)) hx hb hts (fun w h => wz_m (inX10 w h)) hown hK hP (q_Ref (ad := ad) (cI := cI) (cB := cB)) rfl 44 (by decide) (hts _ (wz_m tw_3_200)) (fun _ h9 => h9) rfl dX10_restore_158 ?_
              refine lv_iload_n hx hb dX10_restore_161 rfl (lv_at hl 1 rfl) ?_
              obtain ⟨hi44, hE⟩ := st_gd hE
              refine r_iald hx hb hK hP qr_28 hi44 dX10_restore_162 ?_
              obtain ⟨hi45, hE⟩ := st_gd hE
              refine r_iast hij hx hb hK hP hS qr_9 hi45 dX10_restore_163 (fun H locs hP hS => ?_)
              obtain ⟨S46, eS46, hE⟩ := st_bv hE
              rw [← eS46] at hP
              refine lv_aload_n hx hb dX10_restore_164 rfl (lv_at hl 0 rfl) ?_
              refine r_get (v := .ref (ad 10)) hx hb hts (fun w h => wz_m (inX10 w h)) hown hK hP (q_Ref (ad := ad) (cI := cI) (cB := cB)) rfl 15 (by decide) (hts _ (wz_m tw_3_171)) (fun _ h9 => h9) rfl dX10_restore_165 ?_
              refine lv_iload_n hx hb dX10_restore_168 rfl (lv_at hl 1 rfl) ?_
              refine lv_aload_n hx hb dX10_restore_169 rfl (lv_at hl 0 rfl) ?_
              refine r_get (v := .ref (ad 29)) hx hb hts (fun w h => wz_m (inX10 w h)) hown hK hP (q_Ref (ad := ad) (cI := cI) (cB := cB)) rfl 45 (by decide) (hts _ (wz_m tw_3_201)) (fun _ h9 => h9) rfl dX10_restore_170 ?_
              refine lv_iload_n hx hb dX10_restore_173 rfl (lv_at hl 1 rfl) ?_
              obtain ⟨hi47, hE⟩ := st_gd hE
              refine r_iald hx hb hK hP qr_29 hi47 dX10_restore_174 ?_
              obtain ⟨hi48, hE⟩ := st_gd hE
              refine r_iast hij hx hb hK hP hS qr_10 hi48 dX10_restore_175 (fun H locs hP hS => ?_)
              obtain ⟨S49, eS49, hE⟩ := st_bv hE
              rw [← eS49] at hP
              refine lv_aload_n hx hb dX10_restore_176 rfl (lv_at hl 0 rfl) ?_
              refine r_get (v := .ref (ad 11)) hx hb hts (fun w h => wz_m (inX10 w h)) hown hK hP (q_Ref (ad := ad) (cI := cI) (cB := cB)) rfl 16 (by decide) (hts _ (wz_m tw_3_172)) (fun _ h9 => h9) rfl dX10_restore_177 ?_
              refine lv_iload_n hx hb dX10_restore_180 rfl (lv_at hl 1 rfl) ?_
              refine lv_aload_n hx hb dX10_restore_181 rfl (lv_at hl 0 rfl) ?_
              refine r_get (v := .ref (ad 30)) hx hb hts (fun w h => wz_m (inX10 w h)) hown hK hP (q_Ref (ad := ad) (cI := cI) (cB := cB)) rfl 46 (by decide) (hts _ (wz_m tw_3_202)) (fun _ h9 => h9) rfl dX10_restore_182 ?_
              refine lv_iload_n hx hb dX10_restore_185 rfl (lv_at hl 1 rfl) ?_
              obtain ⟨hi50, hE⟩ := st_gd hE
              refine r_iald hx hb hK hP qr_30 hi50 dX10_restore_186 ?_
              obtain ⟨hi51, hE⟩ := st_gd hE
              refine r_iast hij hx hb hK hP hS qr_11 hi51 dX10_restore_187 (fun H locs hP hS => ?_)
              obtain ⟨S52, eS52, hE⟩ := st_bv hE
              rw [← eS52] at hP
              obtain ⟨v53, ev53, hE⟩ := st_bv hE
              refine lv_iinc (v := v53) (lv' := [(1, .int v53), (0, .ref (ad 0))]) hx hb dX10_restore_188 hl (k := 1) rfl (by rw [ev53]; rfl) (by decide) rfl (fun ls hl => ?_)
              refine lv_goto (tgt := 110) hx hb dX10_restore_191 (by decide) ?_
              have hq := Option.some.inj hE
              subst hq
              exact hKt31 ls H locs (lv_sub hl [1, 0] rfl) hP hS
          · intro ls H locs hl hP hS
            refine lv_aload_n hx hb dX10_restore_194 rfl (lv_at hl 0 rfl) ?_
            refine r_get (v := .int (ri x30 0 12)) hx hb hts (fun w h => wz_m (inX10 w h)) hown hK hP (q_Ref (ad := ad) (cI := cI) (cB := cB)) rfl 12 (by decide) (hts _ (wz_m tw_3_168)) (fun _ h9 => h9) rfl dX10_restore_195 ?_
            replace hE := Option.some.inj hE
            have hq := Prod.mk.inj hE
            subst hQQ
            exact g_iret hx hb hr hlocks hP hS hq.1 hq.2 dX10_restore_198
    · have hE := st_f hE hc2
      refine lv_bipush (v := (-103)) hx hb dX10_restore_18 (by decide) ?_
      replace hE := Option.some.inj hE
      have hq := Prod.mk.inj hE
      subst hQQ
      exact g_iret hx hb hr hlocks hP hS hq.1 hq.2 dX10_restore_20
def f_X10_said (S0 : SR) (a1 : Int32) : Option (Int32) :=
  bo (f_X10_within a1 0 5) (fun (r1 : Int32) => if r1 = 0 then (some (-102)) else (if (ri S0 0 0) = 0 then (some (-103)) else (bo (f_X10_everybody S0) (fun (r4 : Int32) => bo (f_X10_saidBy S0 r4 a1) (fun (r5 : Int32) => some r5)))))
abbrev rmX10_said : Room := { frames := 2, cells := 0, slots := 0, locals := 52 }
theorem hdV_X10_said : yX10_said.cls = "WitnessWallModel" ∧ yX10_said.cls ≠ "java/lang/invoke/MethodHandle" ∧ yX10_said.cls ≠ "java/lang/invoke/VarHandle" ∧ (parseMethodDescriptor yX10_said.desc).map (fun d => d.parameters.length) = some 1 := by decide +kernel
set_option maxHeartbeats 4000000 in
set_option maxRecDepth 100000 in
theorem k_X10_said {l : Launch} {D : va_G} {ad : Nat → Nat} {cI cB : ClassId} (hij : inj 31 ad)  {S0 : SR} {a1 : Int32} {r : Int32} (hE : f_X10_said S0 a1 = some r) {sz : Nat} : Met l yX10_said (wz yX10_said cX10_said 2 (some FieldType.int)) rmX10_said (PG 31 ad (er ad cI cB) D (KR D cI cB) ZR [.ref (ad 0), .int a1] S0 sz) (QGi 31 ad (er ad cI cB) D r S0 sz) 0 0 (AD 31 ad sz) := by
  unfold f_X10_said at hE
  refine g_start (cc := cX10_said) (maxL := 2) (ret := (some FieldType.int)) (Qc := fun sz => QGi 31 ad (er ad cI cB) D r S0 sz) (by decide) rfl (Nat.le_of_ble_eq_true rfl) ?_
  intro p e s m args below meth c H locs ls hx hb hr hts hown hlocks hml hK hZ hP hS hl
  replace hl : lv_has ls 2 [(0, .ref (ad 0)), (1, .int a1)] := hl
  obtain ⟨QQ, hQQ⟩ : ∃ q, q = MQ below (QGi 31 ad (er ad cI cB) D r S0 s.heap.size) args s 0 0 (AD 31 ad s.heap.size) := ⟨_, rfl⟩
  rw [← hQQ]
  refine lv_iload_n hx hb dX10_said_0 rfl (lv_at hl 1 rfl) ?_
  refine lv_iconst (v := 0) hx hb dX10_said_1 (by decide) ?_
  refine lv_iconst (v := 5) hx hb dX10_said_2 (by decide) ?_
  obtain ⟨r1, hCr1, hE⟩ := st_bo hE
  refine g_calli (va_runS (As := [.int a1, .int 0, .int 5]) (rest := []) ⟨hx, hb, hml, hown, hts⟩ (k_X10_within hij (S0 := S0) hCr1) (va_cwS 3 hts (wz_S tw_4_66 tw_4_67 tw_1_11 tw_4_68) rfl rfl rfl hdS_X10_within ⟨Nat.le_of_ble_eq_true rfl, Nat.le_of_ble_eq_true rfl⟩) (g_preS KR_st ZR_st hK hZ hP hS) rfl rfl hl.1 rfl (lv_room (Nat.le_of_ble_eq_true rfl)) dX10_said_3 ⟨Nat.zero_le _, Nat.zero_le _⟩) hS (fun H locs hP hS => ?_)
  refine lv_if_ne (tgt := 12) hx hb dX10_said_6 (by decide) (fun hc2 => ?_) (fun hc2 => ?_)
  · have hE := st_f hE hc2
    refine lv_aload_n hx hb dX10_said_12 rfl (lv_at hl 0 rfl) ?_
    refine r_get (v := .int (ri S0 0 0)) hx hb hts (fun w h => wz_m (inX10 w h)) hown hK hP (q_Ref (ad := ad) (cI := cI) (cB := cB)) rfl 0 (by decide) (hts _ (wz_m tw_3_156)) (fun _ h9 => h9) rfl dX10_said_13 ?_
    refine lv_if_ne (tgt := 24) hx hb dX10_said_16 (by decide) (fun hc3 => ?_) (fun hc3 => ?_)
    · have hE := st_f hE hc3
      refine lv_aload_n hx hb dX10_said_24 rfl (lv_at hl 0 rfl) ?_
      refine lv_aload_n hx hb dX10_said_25 rfl (lv_at hl 0 rfl) ?_
      obtain ⟨r4, hCr4, hE⟩ := st_bo hE
      refine g_calli (va_runV (As := []) (rest := [.ref (ad 0)]) ⟨hx, hb, hml, hown, hts⟩ (k_X10_everybody hij hCr4) (cwV 0 hts (wz_V tw_4_178 tw_4_180 tp_19 tw_1_11 tw_4_181) rfl rfl rfl hdV_X10_everybody ⟨Nat.le_of_ble_eq_true rfl, Nat.le_of_ble_eq_true rfl⟩) (g_preV KR_st ZR_st hK hZ hP hS hK.1 ((q_Ref (ad := ad) (cI := cI) (cB := cB))).1 (er_o (q_Ref (ad := ad) (cI := cI) (cB := cB))) rfl) rfl rfl hl.1 rfl (lv_room (Nat.le_of_ble_eq_true rfl)) dX10_said_26 ⟨Nat.zero_le _, Nat.zero_le _⟩) hS (fun H locs hP hS => ?_)
      refine lv_iload_n hx hb dX10_said_29 rfl (lv_at hl 1 rfl) ?_
      obtain ⟨r5, hCr5, hE⟩ := st_bo hE
      refine g_calli (va_runV (As := [.int r4, .int a1]) (rest := []) ⟨hx, hb, hml, hown, hts⟩ (k_X10_saidBy hij hCr5) (cwV 2 hts (wz_V tw_4_182 tw_4_184 tp_20 tw_1_11 tw_4_185) rfl rfl rfl hdV_X10_saidBy ⟨Nat.le_of_ble_eq_true rfl, Nat.le_of_ble_eq_true rfl⟩) (g_preV KR_st ZR_st hK hZ hP hS hK.1 ((q_Ref (ad := ad) (cI := cI) (cB := cB))).1 (er_o (q_Ref (ad := ad) (cI := cI) (cB := cB))) rfl) rfl rfl hl.1 rfl (lv_room (Nat.le_of_ble_eq_true rfl)) dX10_said_30 ⟨Nat.zero_le _, Nat.zero_le _⟩) hS (fun H locs hP hS => ?_)
      replace hE := Option.some.inj hE
      subst hQQ
      exact g_iret hx hb hr hlocks hP hS hE rfl dX10_said_33
    · have hE := st_t hE hc3
      refine lv_bipush (v := (-103)) hx hb dX10_said_19 (by decide) ?_
      refine lv_goto (tgt := 33) hx hb dX10_said_21 (by decide) ?_
      replace hE := Option.some.inj hE
      subst hQQ
      exact g_iret hx hb hr hlocks hP hS hE rfl dX10_said_33
  · have hE := st_t hE hc2
    refine lv_bipush (v := (-102)) hx hb dX10_said_9 (by decide) ?_
    replace hE := Option.some.inj hE
    subst hQQ
    exact g_iret hx hb hr hlocks hP hS hE rfl dX10_said_11
def f_X10_see (S0 : SR) (a1 : Int32) (a2 : Int32) (a3 : Int32) : Option (Int32 × SR) :=
  bo (f_X10_isWitness S0 a1) (fun (r1 : Int32) => if r1 = 0 then (some ((-101), S0)) else (bo (f_X10_within a2 0 3) (fun (r3 : Int32) => if r3 = 0 then (some ((-102), S0)) else (if (ri S0 0 13) = 6 then (some ((-104), S0)) else (gd (inb (ri S0 0 13) 6) (bv (ui S0 9 ((ri S0 0 13).toNatClampNeg) a1) (fun S7 => gd (inb (ri S7 0 13) 6) (bv (ui S7 10 ((ri S7 0 13).toNatClampNeg) a2) (fun S9 => bo (if a3 = 0 then (some 0) else (some 1)) (fun (q10 : Int32) => gd (inb (ri S9 0 13) 6) (bv (ui S9 11 ((ri S9 0 13).toNatClampNeg) q10) (fun S14 => bv (ui S14 0 13 ((ri S14 0 13) + 1)) (fun S15 => some (ri S15 0 13, S15))))))))))))))
abbrev rmX10_see : Room := { frames := 2, cells := 0, slots := 0, locals := 43 }
theorem hdV_X10_see : yX10_see.cls = "WitnessWallModel" ∧ yX10_see.cls ≠ "java/lang/invoke/MethodHandle" ∧ yX10_see.cls ≠ "java/lang/invoke/VarHandle" ∧ (parseMethodDescriptor yX10_see.desc).map (fun d => d.parameters.length) = some 3 := by decide +kernel
set_option maxHeartbeats 4000000 in
set_option maxRecDepth 100000 in
theorem k_X10_see {l : Launch} {D : va_G} {ad : Nat → Nat} {cI cB : ClassId} (hij : inj 31 ad)  {S0 : SR} {a1 : Int32} {a2 : Int32} {a3 : Int32} {r : Int32} {Sr : SR} (hE : f_X10_see S0 a1 a2 a3 = some (r, Sr)) {sz : Nat} : Met l yX10_see (wz yX10_see cX10_see 4 (some FieldType.int)) rmX10_see (PG 31 ad (er ad cI cB) D (KR D cI cB) ZR [.ref (ad 0), .int a1, .int a2, .int a3] S0 sz) (QGi 31 ad (er ad cI cB) D r Sr sz) 0 0 (AD 31 ad sz) := by
  unfold f_X10_see at hE
  refine g_start (cc := cX10_see) (maxL := 4) (ret := (some FieldType.int)) (Qc := fun sz => QGi 31 ad (er ad cI cB) D r Sr sz) (by decide) rfl (Nat.le_of_ble_eq_true rfl) ?_
  intro p e s m args below meth c H locs ls hx hb hr hts hown hlocks hml hK hZ hP hS hl
  replace hl : lv_has ls 4 [(0, .ref (ad 0)), (1, .int a1), (2, .int a2), (3, .int a3)] := hl
  obtain ⟨QQ, hQQ⟩ : ∃ q, q = MQ below (QGi 31 ad (er ad cI cB) D r Sr s.heap.size) args s 0 0 (AD 31 ad s.heap.size) := ⟨_, rfl⟩
  rw [← hQQ]
  refine lv_aload_n hx hb dX10_see_0 rfl (lv_at hl 0 rfl) ?_
  refine lv_iload_n hx hb dX10_see_1 rfl (lv_at hl 1 rfl) ?_
  obtain ⟨r1, hCr1, hE⟩ := st_bo hE
  refine g_calli (va_runV (As := [.int a1]) (rest := []) ⟨hx, hb, hml, hown, hts⟩ (k_X10_isWitness hij hCr1) (cwV 1 hts (wz_V tw_4_124 tw_4_126 tp_11 tw_1_11 tw_4_127) rfl rfl rfl hdV_X10_isWitness ⟨Nat.le_of_ble_eq_true rfl, Nat.le_of_ble_eq_true rfl⟩) (g_preV KR_st ZR_st hK hZ hP hS hK.1 ((q_Ref (ad := ad) (cI := cI) (cB := cB))).1 (er_o (q_Ref (ad := ad) (cI := cI) (cB := cB))) rfl) rfl rfl hl.1 rfl (lv_room (Nat.le_of_ble_eq_true rfl)) dX10_see_2 ⟨Nat.zero_le _, Nat.zero_le _⟩) hS (fun H locs hP hS => ?_)
  refine lv_if_ne (tgt := 11) hx hb dX10_see_5 (by decide) (fun hc2 => ?_) (fun hc2 => ?_)
  · have hE := st_f hE hc2
    refine lv_iload_n hx hb dX10_see_11 rfl (lv_at hl 2 rfl) ?_
    refine lv_iconst (v := 0) hx hb dX10_see_12 (by decide) ?_
    refine lv_iconst (v := 3) hx hb dX10_see_13 (by decide) ?_
    obtain ⟨r3, hCr3, hE⟩ := st_bo hE
    refine g_calli (va_runS (As := [.int a2, .int 0, .int 3]) (rest := []) ⟨hx, hb, hml, hown, hts⟩ (k_X10_within hij (S0 := S0) hCr3) (va_cwS 3 hts (wz_S tw_4_66 tw_4_67 tw_1_11 tw_4_68) rfl rfl rfl hdS_X10_within ⟨Nat.le_of_ble_eq_true rfl, Nat.le_of_ble_eq_true rfl⟩) (g_preS KR_st ZR_st hK hZ hP hS) rfl rfl hl.1 rfl (lv_room (Nat.le_of_ble_eq_true rfl)) dX10_see_14 ⟨Nat.zero_le _, Nat.zero_le _⟩) hS (fun H locs hP hS => ?_)
    refine lv_if_ne (tgt := 23) hx hb dX10_see_17 (by decide) (fun hc4 => ?_) (fun hc4 => ?_)
    · have hE := st_f hE hc4
      refine lv_aload_n hx hb dX10_see_23 rfl (lv_at hl 0 rfl) ?_
      refine r_get (v := .int (ri S0 0 13)) hx hb hts (fun w h => wz_m (inX10 w h)) hown hK hP (q_Ref (ad := ad) (cI := cI) (cB := cB)) rfl 13 (by decide) (hts _ (wz_m tw_3_169)) (fun _ h9 => h9) rfl dX10_see_24 ?_
      refine lv_bipush (v := 6) hx hb dX10_see_27 (by decide) ?_
      refine lv_icmp_ne (tgt := 35) hx hb dX10_see_29 (by decide) (fun hc5 => ?_) (fun hc5 => ?_)
      · have hE := st_f hE hc5
        refine lv_aload_n hx hb dX10_see_35 rfl (lv_at hl 0 rfl) ?_
        refine r_get (v := .ref (ad 9)) hx hb hts (fun w h => wz_m (inX10 w h)) hown hK hP (q_Ref (ad := ad) (cI := cI) (cB := cB)) rfl 14 (by decide) (hts _ (wz_m tw_3_170)) (fun _ h9 => h9) rfl dX10_see_36 ?_
        refine lv_aload_n hx hb dX10_see_39 rfl (lv_at hl 0 rfl) ?_
        refine r_get (v := .int (ri S0 0 13)) hx hb hts (fun w h => wz_m (inX10 w h)) hown hK hP (q_Ref (ad := ad) (cI := cI) (cB := cB)) rfl 13 (by decide) (hts _ (wz_m tw_3_169)) (fun _ h9 => h9) rfl dX10_see_40 ?_
        refine lv_iload_n hx hb dX10_see_43 rfl (lv_at hl 1 rfl) ?_
        obtain ⟨hi6, hE⟩ := st_gd hE
        refine r_iast hij hx hb hK hP hS qr_9 hi6 dX10_see_44 (fun H locs hP hS => ?_)
        obtain ⟨S7, eS7, hE⟩ := st_bv hE
        rw [← eS7] at hP
        refine lv_aload_n hx hb dX10_see_45 rfl (lv_at hl 0 rfl) ?_
        refine r_get (v := .ref (ad 10)) hx hb hts (fun w h => wz_m (inX10 w h)) hown hK hP (q_Ref (ad := ad) (cI := cI) (cB := cB)) rfl 15 (by decide) (hts _ (wz_m tw_3_171)) (fun _ h9 => h9) rfl dX10_see_46 ?_
        refine lv_aload_n hx hb dX10_see_49 rfl (lv_at hl 0 rfl) ?_
        refine r_get (v := .int (ri S7 0 13)) hx hb hts (fun w h => wz_m (inX10 w h)) hown hK hP (q_Ref (ad := ad) (cI := cI) (cB := cB)) rfl 13 (by decide) (hts _ (wz_m tw_3_169)) (fun _ h9 => h9) rfl dX10_see_50 ?_
        refine lv_iload_n hx hb dX10_see_53 rfl (lv_at hl 2 rfl) ?_
        obtain ⟨hi8, hE⟩ := st_gd hE
        refine r_iast hij hx hb hK hP hS qr_10 hi8 dX10_see_54 (fun H locs hP hS => ?_)
        obtain ⟨S9, eS9, hE⟩ := st_bv hE
        rw [← eS9] at hP
        refine lv_aload_n hx hb dX10_see_55 rfl (lv_at hl 0 rfl) ?_
        refine r_get (v := .ref (ad 11)) hx hb hts (fun w h => wz_m (inX10 w h)) hown hK hP (q_Ref (ad := ad) (cI := cI) (cB := cB)) rfl 16 (by decide) (hts _ (wz_m tw_3_172)) (fun _ h9 => h9) rfl dX10_see_56 ?_
        refine lv_aload_n hx hb dX10_see_59 rfl (lv_at hl 0 rfl) ?_
        refine r_get (v := .int (ri S9 0 13)) hx hb hts (fun w h => wz_m (inX10 w h)) hown hK hP (q_Ref (ad := ad) (cI := cI) (cB := cB)) rfl 13 (by decide) (hts _ (wz_m tw_3_169)) (fun _ h9 => h9) rfl dX10_see_60 ?_
        refine lv_iload_n hx hb dX10_see_63 rfl (lv_at hl 3 rfl) ?_
        obtain ⟨q10, hq10, hE⟩ := st_bo hE
        have J11 : ∀ (ls : Array Slot) (H : Heap) (locs : List Loc), lv_has ls 4 [(0, .ref (ad 0))] → rP D ad cI cB S9 H → rS ad s H locs → W p l e rmX10_see s m args below meth c H locs 0 0 QQ (F0 m 72 ls [.int q10, .int (ri S9 0 13), .ref (ad 11)]) := by
          intro ls H locs hl hP hS
          obtain ⟨hi13, hE⟩ := st_gd hE
          refine r_iast hij hx hb hK hP hS qr_11 hi13 dX10_see_72 (fun H locs hP hS => ?_)
          obtain ⟨S14, eS14, hE⟩ := st_bv hE
          rw [← eS14] at hP
          refine lv_aload_n hx hb dX10_see_73 rfl (lv_at hl 0 rfl) ?_
          refine lv_dup hx hb dX10_see_74 rfl ?_
          refine r_get (v := .int (ri S14 0 13)) hx hb hts (fun w h => wz_m (inX10 w h)) hown hK hP (q_Ref (ad := ad) (cI := cI) (cB := cB)) rfl 13 (by decide) (hts _ (wz_m tw_3_169)) (fun _ h9 => h9) rfl dX10_see_75 ?_
          refine lv_iconst (v := 1) hx hb dX10_see_78 (by decide) ?_
          refine lv_iadd hx hb dX10_see_79 ?_
          refine r_put hij hx hb hts (fun w h => wz_m (inX10 w h)) tyX10 tyX10_ok nmX10 hown hK hP hS (q_Ref (ad := ad) (cI := cI) (cB := cB)) rfl 13 (by decide) (hts _ (wz_m tw_3_169)) (fun _ h9 => h9) rfl rfl rfl (fun _ _ => Nat.le_of_ble_eq_true rfl) (fun _ _ => rfl) dX10_see_80 (fun H locs hP hS => ?_)
          obtain ⟨S15, eS15, hE⟩ := st_bv hE
          rw [← eS15] at hP
          refine lv_aload_n hx hb dX10_see_83 rfl (lv_at hl 0 rfl) ?_
          refine r_get (v := .int (ri S15 0 13)) hx hb hts (fun w h => wz_m (inX10 w h)) hown hK hP (q_Ref (ad := ad) (cI := cI) (cB := cB)) rfl 13 (by decide) (hts _ (wz_m tw_3_169)) (fun _ h9 => h9) rfl dX10_see_84 ?_
          replace hE := Option.some.inj hE
          have hq := Prod.mk.inj hE
          subst hQQ
          exact g_iret hx hb hr hlocks hP hS hq.1 hq.2 dX10_see_87
        replace hE := hq10
        refine lv_if_eq (tgt := 71) hx hb dX10_see_64 (by decide) (fun hc12 => ?_) (fun hc12 => ?_)
        · have hE := st_t hE hc12
          refine lv_iconst (v := 0) hx hb dX10_see_71 (by decide) ?_
          have hq := Option.some.inj hE
          subst hq
          exact J11 ls H locs (lv_sub hl [0] rfl) hP hS
        · have hE := st_f hE hc12
          refine lv_iconst (v := 1) hx hb dX10_see_67 (by decide) ?_
          refine lv_goto (tgt := 72) hx hb dX10_see_68 (by decide) ?_
          have hq := Option.some.inj hE
          subst hq
          exact J11 ls H locs (lv_sub hl [0] rfl) hP hS
      · have hE := st_t hE hc5
        refine lv_bipush (v := (-104)) hx hb dX10_see_32 (by decide) ?_
        replace hE := Option.some.inj hE
        have hq := Prod.mk.inj hE
        subst hQQ
        exact g_iret hx hb hr hlocks hP hS hq.1 hq.2 dX10_see_34
    · have hE := st_t hE hc4
      refine lv_bipush (v := (-102)) hx hb dX10_see_20 (by decide) ?_
      replace hE := Option.some.inj hE
      have hq := Prod.mk.inj hE
      subst hQQ
      exact g_iret hx hb hr hlocks hP hS hq.1 hq.2 dX10_see_22
  · have hE := st_t hE hc2
    refine lv_bipush (v := (-101)) hx hb dX10_see_8 (by decide) ?_
    replace hE := Option.some.inj hE
    have hq := Prod.mk.inj hE
    subst hQQ
    exact g_iret hx hb hr hlocks hP hS hq.1 hq.2 dX10_see_10
def f_X10_show (S0 : SR) (a1 : Int32) (a2 : Int32) (a3 : Int32) : Option (Int32 × SR) :=
  bo (f_X10_isWitness S0 a1) (fun (r1 : Int32) => if r1 = 0 then (some ((-101), S0)) else (bo (f_X10_isSight a2 a3) (fun (r3 : Int32) => if r3 = 0 then (some ((-102), S0)) else (if (ri S0 0 12) = 9999 then (some ((-104), S0)) else (bv (ui S0 0 12 ((ri S0 0 12) + 1)) (fun S6 => bo (f_X10_showNow S6 a1 ((4 * a2) + a3)) (fun (r7 : Int32 × SR) => if r7.1 = 0 then (some (0, r7.2)) else (some (1, r7.2)))))))))
abbrev rmX10_show : Room := { frames := 3, cells := 0, slots := 0, locals := 70 }
theorem hdV_X10_show : yX10_show.cls = "WitnessWallModel" ∧ yX10_show.cls ≠ "java/lang/invoke/MethodHandle" ∧ yX10_show.cls ≠ "java/lang/invoke/VarHandle" ∧ (parseMethodDescriptor yX10_show.desc).map (fun d => d.parameters.length) = some 3 := by decide +kernel
set_option maxHeartbeats 4000000 in
set_option maxRecDepth 100000 in
theorem k_X10_show {l : Launch} {D : va_G} {ad : Nat → Nat} {cI cB : ClassId} (hij : inj 31 ad)  {S0 : SR} {a1 : Int32} {a2 : Int32} {a3 : Int32} {r : Int32} {Sr : SR} (hE : f_X10_show S0 a1 a2 a3 = some (r, Sr)) {sz : Nat} : Met l yX10_show (wz yX10_show cX10_show 4 (some FieldType.int)) rmX10_show (PG 31 ad (er ad cI cB) D (KR D cI cB) ZR [.ref (ad 0), .int a1, .int a2, .int a3] S0 sz) (QGi 31 ad (er ad cI cB) D r Sr sz) 0 0 (AD 31 ad sz) := by
  unfold f_X10_show at hE
  refine g_start (cc := cX10_show) (maxL := 4) (ret := (some FieldType.int)) (Qc := fun sz => QGi 31 ad (er ad cI cB) D r Sr sz) (by decide) rfl (Nat.le_of_ble_eq_true rfl) ?_
  intro p e s m args below meth c H locs ls hx hb hr hts hown hlocks hml hK hZ hP hS hl
  replace hl : lv_has ls 4 [(0, .ref (ad 0)), (1, .int a1), (2, .int a2), (3, .int a3)] := hl
  obtain ⟨QQ, hQQ⟩ : ∃ q, q = MQ below (QGi 31 ad (er ad cI cB) D r Sr s.heap.size) args s 0 0 (AD 31 ad s.heap.size) := ⟨_, rfl⟩
  rw [← hQQ]
  refine lv_aload_n hx hb dX10_show_0 rfl (lv_at hl 0 rfl) ?_
  refine lv_iload_n hx hb dX10_show_1 rfl (lv_at hl 1 rfl) ?_
  obtain ⟨r1, hCr1, hE⟩ := st_bo hE
  refine g_calli (va_runV (As := [.int a1]) (rest := []) ⟨hx, hb, hml, hown, hts⟩ (k_X10_isWitness hij hCr1) (cwV 1 hts (wz_V tw_4_124 tw_4_126 tp_11 tw_1_11 tw_4_127) rfl rfl rfl hdV_X10_isWitness ⟨Nat.le_of_ble_eq_true rfl, Nat.le_of_ble_eq_true rfl⟩) (g_preV KR_st ZR_st hK hZ hP hS hK.1 ((q_Ref (ad := ad) (cI := cI) (cB := cB))).1 (er_o (q_Ref (ad := ad) (cI := cI) (cB := cB))) rfl) rfl rfl hl.1 rfl (lv_room (Nat.le_of_ble_eq_true rfl)) dX10_show_2 ⟨Nat.zero_le _, Nat.zero_le _⟩) hS (fun H locs hP hS => ?_)
  refine lv_if_ne (tgt := 11) hx hb dX10_show_5 (by decide) (fun hc2 => ?_) (fun hc2 => ?_)
  · have hE := st_f hE hc2
    refine lv_iload_n hx hb dX10_show_11 rfl (lv_at hl 2 rfl) ?_
    refine lv_iload_n hx hb dX10_show_12 rfl (lv_at hl 3 rfl) ?_
    obtain ⟨r3, hCr3, hE⟩ := st_bo hE
    refine g_calli (va_runS (As := [.int a2, .int a3]) (rest := []) ⟨hx, hb, hml, hown, hts⟩ (k_X10_isSight hij (S0 := S0) hCr3) (va_cwS 2 hts (wz_S tw_4_190 tw_4_191 tw_1_11 tw_4_192) rfl rfl rfl hdS_X10_isSight ⟨Nat.le_of_ble_eq_true rfl, Nat.le_of_ble_eq_true rfl⟩) (g_preS KR_st ZR_st hK hZ hP hS) rfl rfl hl.1 rfl (lv_room (Nat.le_of_ble_eq_true rfl)) dX10_show_13 ⟨Nat.zero_le _, Nat.zero_le _⟩) hS (fun H locs hP hS => ?_)
    refine lv_if_ne (tgt := 22) hx hb dX10_show_16 (by decide) (fun hc4 => ?_) (fun hc4 => ?_)
    · have hE := st_f hE hc4
      refine lv_aload_n hx hb dX10_show_22 rfl (lv_at hl 0 rfl) ?_
      refine r_get (v := .int (ri S0 0 12)) hx hb hts (fun w h => wz_m (inX10 w h)) hown hK hP (q_Ref (ad := ad) (cI := cI) (cB := cB)) rfl 12 (by decide) (hts _ (wz_m tw_3_168)) (fun _ h9 => h9) rfl dX10_show_23 ?_
      refine lv_sipush (v := 9999) hx hb dX10_show_26 (by decide) ?_
      refine lv_icmp_ne (tgt := 35) hx hb dX10_show_29 (by decide) (fun hc5 => ?_) (fun hc5 => ?_)
      · have hE := st_f hE hc5
        refine lv_aload_n hx hb dX10_show_35 rfl (lv_at hl 0 rfl) ?_
        refine lv_dup hx hb dX10_show_36 rfl ?_
        refine r_get (v := .int (ri S0 0 12)) hx hb hts (fun w h => wz_m (inX10 w h)) hown hK hP (q_Ref (ad := ad) (cI := cI) (cB := cB)) rfl 12 (by decide) (hts _ (wz_m tw_3_168)) (fun _ h9 => h9) rfl dX10_show_37 ?_
        refine lv_iconst (v := 1) hx hb dX10_show_40 (by decide) ?_
        refine lv_iadd hx hb dX10_show_41 ?_
        refine r_put hij hx hb hts (fun w h => wz_m (inX10 w h)) tyX10 tyX10_ok nmX10 hown hK hP hS (q_Ref (ad := ad) (cI := cI) (cB := cB)) rfl 12 (by decide) (hts _ (wz_m tw_3_168)) (fun _ h9 => h9) rfl rfl rfl (fun _ _ => Nat.le_of_ble_eq_true rfl) (fun _ _ => rfl) dX10_show_42 (fun H locs hP hS => ?_)
        obtain ⟨S6, eS6, hE⟩ := st_bv hE
        rw [← eS6] at hP
        refine lv_aload_n hx hb dX10_show_45 rfl (lv_at hl 0 rfl) ?_
        refine lv_iload_n hx hb dX10_show_46 rfl (lv_at hl 1 rfl) ?_
        refine lv_iconst (v := 4) hx hb dX10_show_47 (by decide) ?_
        refine lv_iload_n hx hb dX10_show_48 rfl (lv_at hl 2 rfl) ?_
        refine lv_imul hx hb dX10_show_49 ?_
        refine lv_iload_n hx hb dX10_show_50 rfl (lv_at hl 3 rfl) ?_
        refine lv_iadd hx hb dX10_show_51 ?_
        obtain ⟨r7, hCr7, hE⟩ := st_bo hE
        refine g_calli (va_runV (As := [.int a1, .int ((4 * a2) + a3)]) (rest := []) ⟨hx, hb, hml, hown, hts⟩ (k_X10_showNow hij hCr7) (cwV 2 hts (wz_V tw_4_201 tw_4_203 tp_22 tw_1_11 tw_4_204) rfl rfl rfl hdV_X10_showNow ⟨Nat.le_of_ble_eq_true rfl, Nat.le_of_ble_eq_true rfl⟩) (g_preV KR_st ZR_st hK hZ hP hS hK.1 ((q_Ref (ad := ad) (cI := cI) (cB := cB))).1 (er_o (q_Ref (ad := ad) (cI := cI) (cB := cB))) rfl) rfl rfl hl.1 rfl (lv_room (Nat.le_of_ble_eq_true rfl)) dX10_show_52 ⟨Nat.zero_le _, Nat.zero_le _⟩) hS (fun H locs hP hS => ?_)
        refine lv_if_eq (tgt := 62) hx hb dX10_show_55 (by decide) (fun hc8 => ?_) (fun hc8 => ?_)
        · have hE := st_t hE hc8
          refine lv_iconst (v := 0) hx hb dX10_show_62 (by decide) ?_
          replace hE := Option.some.inj hE
          have hq := Prod.mk.inj hE
          subst hQQ
          exact g_iret hx hb hr hlocks hP hS hq.1 hq.2 dX10_show_63
        · have hE := st_f hE hc8
          refine lv_iconst (v := 1) hx hb dX10_show_58 (by decide) ?_
          refine lv_goto (tgt := 63) hx hb dX10_show_59 (by decide) ?_
          replace hE := Option.some.inj hE
          have hq := Prod.mk.inj hE
          subst hQQ
          exact g_iret hx hb hr hlocks hP hS hq.1 hq.2 dX10_show_63
      · have hE := st_t hE hc5
        refine lv_bipush (v := (-104)) hx hb dX10_show_32 (by decide) ?_
        replace hE := Option.some.inj hE
        have hq := Prod.mk.inj hE
        subst hQQ
        exact g_iret hx hb hr hlocks hP hS hq.1 hq.2 dX10_show_34
    · have hE := st_t hE hc4
      refine lv_bipush (v := (-102)) hx hb dX10_show_19 (by decide) ?_
      replace hE := Option.some.inj hE
      have hq := Prod.mk.inj hE
      subst hQQ
      exact g_iret hx hb hr hlocks hP hS hq.1 hq.2 dX10_show_21
  · have hE := st_t hE hc2
    refine lv_bipush (v := (-101)) hx hb dX10_show_8 (by decide) ?_
    replace hE := Option.some.inj hE
    have hq := Prod.mk.inj hE
    subst hQQ
    exact g_iret hx hb hr hlocks hP hS hq.1 hq.2 dX10_show_10

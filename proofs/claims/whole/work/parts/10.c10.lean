def f_X2_accepts (S0 : (Nat → Nat → Int32)) (a1 : Int32) : Option (Int32 × (Nat → Nat → Int32)) :=
  if (S0 1 4) = 0 then (bo (f_X2_acceptsKind S0 a1) (fun (r2 : Int32 × (Nat → Nat → Int32)) => some (r2.1 &&& 1, r2.2))) else (if (S0 1 4) = 1 then (bo (f_X2_acceptsInWitness S0 a1) (fun (r4 : Int32 × (Nat → Nat → Int32)) => some (r4.1 &&& 1, r4.2))) else (if (S0 1 4) = 2 then (bo (f_X2_acceptsColour S0 a1) (fun (r6 : Int32 × (Nat → Nat → Int32)) => some (r6.1 &&& 1, r6.2))) else (if (S0 1 4) = 3 then (bo (f_X2_acceptsThing S0 a1 5) (fun (r8 : Int32 × (Nat → Nat → Int32)) => some (r8.1 &&& 1, r8.2))) else (if (S0 1 4) = 4 then (bo (f_X2_acceptsThing S0 a1 5) (fun (r10 : Int32 × (Nat → Nat → Int32)) => some (r10.1 &&& 1, r10.2))) else (if (S0 1 4) = 5 then (bo (f_X2_acceptsDue S0 a1) (fun (r12 : Int32 × (Nat → Nat → Int32)) => some (r12.1 &&& 1, r12.2))) else (bo (f_X2_acceptsBehindCase S0 a1) (fun (r13 : Int32 × (Nat → Nat → Int32)) => some (r13.1 &&& 1, r13.2))))))))
abbrev rmX2_accepts : Room := { frames := 4, cells := 0, slots := 0, locals := 85 }
theorem hdV_X2_accepts : yX2_accepts.cls = "WitnessWall$Page" ∧ yX2_accepts.cls ≠ "java/lang/invoke/MethodHandle" ∧ yX2_accepts.cls ≠ "java/lang/invoke/VarHandle" ∧ (parseMethodDescriptor yX2_accepts.desc).map (fun d => d.parameters.length) = some 1 := by decide +kernel
set_option maxHeartbeats 4000000 in
set_option maxRecDepth 100000 in
theorem k_X2_accepts {l : Launch} {D : va_G} {ad : Nat → Nat} {cI cW : ClassId} {tK tC : Nat} (hij : inj 83 ad)  {S0 : (Nat → Nat → Int32)} {a1 : Int32} {r : Int32} {Sr : (Nat → Nat → Int32)} (hE : f_X2_accepts S0 a1 = some (r, Sr)) {sz : Nat} : Met l yX2_accepts (wz yX2_accepts cX2_accepts 2 (some FieldType.boolean)) rmX2_accepts (PG 83 ad (ec ad cI cW) D (KC D cI cW) (ZC tK tC) [.ref (ad 1), .int a1] S0 sz) (QGi 83 ad (ec ad cI cW) D r Sr sz) 0 0 (AD 83 ad sz) := by
  unfold f_X2_accepts at hE
  refine g_start (cc := cX2_accepts) (maxL := 2) (ret := (some FieldType.boolean)) (Qc := fun sz => QGi 83 ad (ec ad cI cW) D r Sr sz) (by decide) rfl (Nat.le_of_ble_eq_true rfl) ?_
  intro p e s m args below meth c H locs ls hx hb hr hts hown hlocks hml hK hZ hP hS hl
  replace hl : lv_has ls 2 [(0, .ref (ad 1)), (1, .int a1)] := hl
  obtain ⟨QQ, hQQ⟩ : ∃ q, q = MQ below (QGi 83 ad (ec ad cI cW) D r Sr s.heap.size) args s 0 0 (AD 83 ad s.heap.size) := ⟨_, rfl⟩
  rw [← hQQ]
  refine lv_aload_n hx hb dX2_accepts_0 rfl (lv_at hl 0 rfl) ?_
  refine c_get (v := .int (S0 1 4)) hx hb hts (fun w h => wz_m (inX2 w h)) hown hK hP (q_Page_1 (ad := ad) (cI := cI) (cW := cW)).1 rfl 4 (by decide) (hts _ (wz_m tw_1_100)) (fun _ h9 => h9) rfl dX2_accepts_1 ?_
  by_cases hc1 : (S0 1 4) = 0
  · have hE := st_t hE hc1
    refine lv_tableIn (tgt := 44) hx hb dX2_accepts_4 (by rw [hc1]; decide) (by rw [hc1]; decide) (by rw [hc1]; rfl) (by decide) ?_
    refine lv_aload_n hx hb dX2_accepts_44 rfl (lv_at hl 0 rfl) ?_
    refine lv_iload_n hx hb dX2_accepts_45 rfl (lv_at hl 1 rfl) ?_
    obtain ⟨r2, hCr2, hE⟩ := st_bo hE
    refine g_calli (va_runV (As := [.int a1]) (rest := []) ⟨hx, hb, hml, hown, hts⟩ (k_X2_acceptsKind hij hCr2) (cwV 1 hts (wz_V tw_2_24 tw_2_25 tw_2_26 tw_1_2 tw_2_27) rfl rfl rfl hdV_X2_acceptsKind ⟨Nat.le_of_ble_eq_true rfl, Nat.le_of_ble_eq_true rfl⟩) (g_preV KC_st ZC_st hK hZ hP hS hK.1 ((q_Page_1 (ad := ad) (cI := cI) (cW := cW)).1).1 (ec_o (q_Page_1 (ad := ad) (cI := cI) (cW := cW)).1) rfl) rfl rfl hl.1 rfl (lv_room (Nat.le_of_ble_eq_true rfl)) dX2_accepts_46 ⟨Nat.zero_le _, Nat.zero_le _⟩) hS (fun H locs hP hS => ?_)
    replace hE := Option.some.inj hE
    have hq := Prod.mk.inj hE
    subst hQQ
    exact g_zret hx hb hr hlocks hP hS hq.1 hq.2 dX2_accepts_49
  replace hE := st_f hE hc1
  by_cases hc3 : (S0 1 4) = 1
  · have hE := st_t hE hc3
    refine lv_tableIn (tgt := 50) hx hb dX2_accepts_4 (by rw [hc3]; decide) (by rw [hc3]; decide) (by rw [hc3]; rfl) (by decide) ?_
    refine lv_aload_n hx hb dX2_accepts_50 rfl (lv_at hl 0 rfl) ?_
    refine lv_iload_n hx hb dX2_accepts_51 rfl (lv_at hl 1 rfl) ?_
    obtain ⟨r4, hCr4, hE⟩ := st_bo hE
    refine g_calli (va_runV (As := [.int a1]) (rest := []) ⟨hx, hb, hml, hown, hts⟩ (k_X2_acceptsInWitness hij hCr4) (cwV 1 hts (wz_V tw_2_38 tw_2_39 tw_2_40 tw_1_2 tw_2_41) rfl rfl rfl hdV_X2_acceptsInWitness ⟨Nat.le_of_ble_eq_true rfl, Nat.le_of_ble_eq_true rfl⟩) (g_preV KC_st ZC_st hK hZ hP hS hK.1 ((q_Page_1 (ad := ad) (cI := cI) (cW := cW)).1).1 (ec_o (q_Page_1 (ad := ad) (cI := cI) (cW := cW)).1) rfl) rfl rfl hl.1 rfl (lv_room (Nat.le_of_ble_eq_true rfl)) dX2_accepts_52 ⟨Nat.zero_le _, Nat.zero_le _⟩) hS (fun H locs hP hS => ?_)
    replace hE := Option.some.inj hE
    have hq := Prod.mk.inj hE
    subst hQQ
    exact g_zret hx hb hr hlocks hP hS hq.1 hq.2 dX2_accepts_55
  replace hE := st_f hE hc3
  by_cases hc5 : (S0 1 4) = 2
  · have hE := st_t hE hc5
    refine lv_tableIn (tgt := 56) hx hb dX2_accepts_4 (by rw [hc5]; decide) (by rw [hc5]; decide) (by rw [hc5]; rfl) (by decide) ?_
    refine lv_aload_n hx hb dX2_accepts_56 rfl (lv_at hl 0 rfl) ?_
    refine lv_iload_n hx hb dX2_accepts_57 rfl (lv_at hl 1 rfl) ?_
    obtain ⟨r6, hCr6, hE⟩ := st_bo hE
    refine g_calli (va_runV (As := [.int a1]) (rest := []) ⟨hx, hb, hml, hown, hts⟩ (k_X2_acceptsColour hij hCr6) (cwV 1 hts (wz_V tw_2_56 tw_2_57 tw_2_58 tw_1_2 tw_2_59) rfl rfl rfl hdV_X2_acceptsColour ⟨Nat.le_of_ble_eq_true rfl, Nat.le_of_ble_eq_true rfl⟩) (g_preV KC_st ZC_st hK hZ hP hS hK.1 ((q_Page_1 (ad := ad) (cI := cI) (cW := cW)).1).1 (ec_o (q_Page_1 (ad := ad) (cI := cI) (cW := cW)).1) rfl) rfl rfl hl.1 rfl (lv_room (Nat.le_of_ble_eq_true rfl)) dX2_accepts_58 ⟨Nat.zero_le _, Nat.zero_le _⟩) hS (fun H locs hP hS => ?_)
    replace hE := Option.some.inj hE
    have hq := Prod.mk.inj hE
    subst hQQ
    exact g_zret hx hb hr hlocks hP hS hq.1 hq.2 dX2_accepts_61
  replace hE := st_f hE hc5
  by_cases hc7 : (S0 1 4) = 3
  · have hE := st_t hE hc7
    refine lv_tableIn (tgt := 62) hx hb dX2_accepts_4 (by rw [hc7]; decide) (by rw [hc7]; decide) (by rw [hc7]; rfl) (by decide) ?_
    refine lv_aload_n hx hb dX2_accepts_62 rfl (lv_at hl 0 rfl) ?_
    refine lv_iload_n hx hb dX2_accepts_63 rfl (lv_at hl 1 rfl) ?_
    refine lv_iconst (v := 5) hx hb dX2_accepts_64 (by decide) ?_
    obtain ⟨r8, hCr8, hE⟩ := st_bo hE
    refine g_calli (va_runV (As := [.int a1, .int 5]) (rest := []) ⟨hx, hb, hml, hown, hts⟩ (k_X2_acceptsThing hij hCr8) (cwV 2 hts (wz_V tw_2_49 tw_2_50 tw_2_51 tw_1_2 tw_2_52) rfl rfl rfl hdV_X2_acceptsThing ⟨Nat.le_of_ble_eq_true rfl, Nat.le_of_ble_eq_true rfl⟩) (g_preV KC_st ZC_st hK hZ hP hS hK.1 ((q_Page_1 (ad := ad) (cI := cI) (cW := cW)).1).1 (ec_o (q_Page_1 (ad := ad) (cI := cI) (cW := cW)).1) rfl) rfl rfl hl.1 rfl (lv_room (Nat.le_of_ble_eq_true rfl)) dX2_accepts_65 ⟨Nat.zero_le _, Nat.zero_le _⟩) hS (fun H locs hP hS => ?_)
    replace hE := Option.some.inj hE
    have hq := Prod.mk.inj hE
    subst hQQ
    exact g_zret hx hb hr hlocks hP hS hq.1 hq.2 dX2_accepts_68
  replace hE := st_f hE hc7
  by_cases hc9 : (S0 1 4) = 4
  · have hE := st_t hE hc9
    refine lv_tableIn (tgt := 62) hx hb dX2_accepts_4 (by rw [hc9]; decide) (by rw [hc9]; decide) (by rw [hc9]; rfl) (by decide) ?_
    refine lv_aload_n hx hb dX2_accepts_62 rfl (lv_at hl 0 rfl) ?_
    refine lv_iload_n hx hb dX2_accepts_63 rfl (lv_at hl 1 rfl) ?_
    refine lv_iconst (v := 5) hx hb dX2_accepts_64 (by decide) ?_
    obtain ⟨r10, hCr10, hE⟩ := st_bo hE
    refine g_calli (va_runV (As := [.int a1, .int 5]) (rest := []) ⟨hx, hb, hml, hown, hts⟩ (k_X2_acceptsThing hij hCr10) (cwV 2 hts (wz_V tw_2_49 tw_2_50 tw_2_51 tw_1_2 tw_2_52) rfl rfl rfl hdV_X2_acceptsThing ⟨Nat.le_of_ble_eq_true rfl, Nat.le_of_ble_eq_true rfl⟩) (g_preV KC_st ZC_st hK hZ hP hS hK.1 ((q_Page_1 (ad := ad) (cI := cI) (cW := cW)).1).1 (ec_o (q_Page_1 (ad := ad) (cI := cI) (cW := cW)).1) rfl) rfl rfl hl.1 rfl (lv_room (Nat.le_of_ble_eq_true rfl)) dX2_accepts_65 ⟨Nat.zero_le _, Nat.zero_le _⟩) hS (fun H locs hP hS => ?_)
    replace hE := Option.some.inj hE
    have hq := Prod.mk.inj hE
    subst hQQ
    exact g_zret hx hb hr hlocks hP hS hq.1 hq.2 dX2_accepts_68
  replace hE := st_f hE hc9
  by_cases hc11 : (S0 1 4) = 5
  · have hE := st_t hE hc11
    refine lv_tableIn (tgt := 69) hx hb dX2_accepts_4 (by rw [hc11]; decide) (by rw [hc11]; decide) (by rw [hc11]; rfl) (by decide) ?_
    refine lv_aload_n hx hb dX2_accepts_69 rfl (lv_at hl 0 rfl) ?_
    refine lv_iload_n hx hb dX2_accepts_70 rfl (lv_at hl 1 rfl) ?_
    obtain ⟨r12, hCr12, hE⟩ := st_bo hE
    refine g_calli (va_runV (As := [.int a1]) (rest := []) ⟨hx, hb, hml, hown, hts⟩ (k_X2_acceptsDue hij hCr12) (cwV 1 hts (wz_V tw_2_75 tw_2_76 tw_2_77 tw_1_2 tw_2_78) rfl rfl rfl hdV_X2_acceptsDue ⟨Nat.le_of_ble_eq_true rfl, Nat.le_of_ble_eq_true rfl⟩) (g_preV KC_st ZC_st hK hZ hP hS hK.1 ((q_Page_1 (ad := ad) (cI := cI) (cW := cW)).1).1 (ec_o (q_Page_1 (ad := ad) (cI := cI) (cW := cW)).1) rfl) rfl rfl hl.1 rfl (lv_room (Nat.le_of_ble_eq_true rfl)) dX2_accepts_71 ⟨Nat.zero_le _, Nat.zero_le _⟩) hS (fun H locs hP hS => ?_)
    replace hE := Option.some.inj hE
    have hq := Prod.mk.inj hE
    subst hQQ
    exact g_zret hx hb hr hlocks hP hS hq.1 hq.2 dX2_accepts_74
  replace hE := st_f hE hc11
  have nhc1 := lv_neT hc1 (show (0 : Int32).toInt = 0 from by decide)
  have nhc3 := lv_neT hc3 (show (1 : Int32).toInt = 1 from by decide)
  have nhc5 := lv_neT hc5 (show (2 : Int32).toInt = 2 from by decide)
  have nhc7 := lv_neT hc7 (show (3 : Int32).toInt = 3 from by decide)
  have nhc9 := lv_neT hc9 (show (4 : Int32).toInt = 4 from by decide)
  have nhc11 := lv_neT hc11 (show (5 : Int32).toInt = 5 from by decide)
  refine lv_tableOut (tgt := 75) hx hb dX2_accepts_4 (by omega) (by decide) ?_
  refine lv_aload_n hx hb dX2_accepts_75 rfl (lv_at hl 0 rfl) ?_
  refine lv_iload_n hx hb dX2_accepts_76 rfl (lv_at hl 1 rfl) ?_
  obtain ⟨r13, hCr13, hE⟩ := st_bo hE
  refine g_calli (va_runV (As := [.int a1]) (rest := []) ⟨hx, hb, hml, hown, hts⟩ (k_X2_acceptsBehindCase hij hCr13) (cwV 1 hts (wz_V tw_2_84 tw_2_85 tw_2_86 tw_1_2 tw_2_87) rfl rfl rfl hdV_X2_acceptsBehindCase ⟨Nat.le_of_ble_eq_true rfl, Nat.le_of_ble_eq_true rfl⟩) (g_preV KC_st ZC_st hK hZ hP hS hK.1 ((q_Page_1 (ad := ad) (cI := cI) (cW := cW)).1).1 (ec_o (q_Page_1 (ad := ad) (cI := cI) (cW := cW)).1) rfl) rfl rfl hl.1 rfl (lv_room (Nat.le_of_ble_eq_true rfl)) dX2_accepts_77 ⟨Nat.zero_le _, Nat.zero_le _⟩) hS (fun H locs hP hS => ?_)
  replace hE := Option.some.inj hE
  have hq := Prod.mk.inj hE
  subst hQQ
  exact g_zret hx hb hr hlocks hP hS hq.1 hq.2 dX2_accepts_80
def b_X2_read_23 (c7 : Int32) (c8 : (Nat → Nat → Int32)) : Option ((Int32 × (Nat → Nat → Int32)) ⊕ (((Nat → Nat → Int32)) ⊕ (Int32 × (Nat → Nat → Int32)))) :=
  if (c8 1 3) ≤ c7 then (some (.inr (.inl c8))) else (gd (inb c7 54) (bo (f_X2_accepts c8 (c8 2 (c7.toNatClampNeg))) (fun (r11 : Int32 × (Nat → Nat → Int32)) => if r11.1 = 0 then (some (.inr (.inr (c7, r11.2)))) else (bv (c7 + 1) (fun (v13 : Int32) => some (.inl (v13, r11.2)))))))
def f_X2_read (S0 : (Nat → Nat → Int32)) : Option (Int32 × (Nat → Nat → Int32)) :=
  bv (up2 S0 3 2 0) (fun S1 => bv (up2 S1 16 2 0) (fun S2 => bv (up2 S2 1 4 0) (fun S3 => bo (lp (fun (s4 : Int32 × (Nat → Nat → Int32)) => b_X2_read_23 s4.1 s4.2) 5000 (0, S3)) (fun (x5 : ((Nat → Nat → Int32)) ⊕ (Int32 × (Nat → Nat → Int32))) => Sum.elim (fun (x5 : (Nat → Nat → Int32)) => some (x5 1 3, x5)) (fun (x5 : Int32 × (Nat → Nat → Int32)) => some x5) x5))))
abbrev rmX2_read : Room := { frames := 5, cells := 0, slots := 0, locals := 106 }
theorem hdV_X2_read : yX2_read.cls = "WitnessWall$Page" ∧ yX2_read.cls ≠ "java/lang/invoke/MethodHandle" ∧ yX2_read.cls ≠ "java/lang/invoke/VarHandle" ∧ (parseMethodDescriptor yX2_read.desc).map (fun d => d.parameters.length) = some 0 := by decide +kernel
set_option maxHeartbeats 4000000 in
set_option maxRecDepth 100000 in
theorem k_X2_read {l : Launch} {D : va_G} {ad : Nat → Nat} {cI cW : ClassId} {tK tC : Nat} (hij : inj 83 ad)  {S0 : (Nat → Nat → Int32)} {r : Int32} {Sr : (Nat → Nat → Int32)} (hE : f_X2_read S0 = some (r, Sr)) {sz : Nat} : Met l yX2_read (wz yX2_read cX2_read 2 (some FieldType.int)) rmX2_read (PG 83 ad (ec ad cI cW) D (KC D cI cW) (ZC tK tC) [.ref (ad 1)] S0 sz) (QGi 83 ad (ec ad cI cW) D r Sr sz) 0 0 (AD 83 ad sz) := by
  unfold f_X2_read at hE
  refine g_start (cc := cX2_read) (maxL := 2) (ret := (some FieldType.int)) (Qc := fun sz => QGi 83 ad (ec ad cI cW) D r Sr sz) (by decide) rfl (Nat.le_of_ble_eq_true rfl) ?_
  intro p e s m args below meth c H locs ls hx hb hr hts hown hlocks hml hK hZ hP hS hl
  replace hl : lv_has ls 2 [(0, .ref (ad 1))] := hl
  obtain ⟨QQ, hQQ⟩ : ∃ q, q = MQ below (QGi 83 ad (ec ad cI cW) D r Sr s.heap.size) args s 0 0 (AD 83 ad s.heap.size) := ⟨_, rfl⟩
  rw [← hQQ]
  refine lv_aload_n hx hb dX2_read_0 rfl (lv_at hl 0 rfl) ?_
  refine c_get (v := .ref (ad 3)) hx hb hts (fun w h => wz_m (inX2 w h)) hown hK hP (q_Page_1 (ad := ad) (cI := cI) (cW := cW)).1 rfl 1 (by decide) (hts _ (wz_m tw_1_94)) (fun _ h9 => h9) rfl dX2_read_1 ?_
  refine lv_iconst (v := 0) hx hb dX2_read_4 (by decide) ?_
  refine c_putN hij hx hb hts (fun w h => wz_m (inX1 w h)) tyX1 tyX1_ok nmX1 hown hK hP hS (q_Hall_3 (ad := ad) (cI := cI) (cW := cW)).1 rfl 2 (by decide) (List.mem_of_getElem? (i := 8) rfl) (fun _ h9 => h9) rfl rfl rfl (fun _ => Nat.le_of_ble_eq_true rfl) (fun _ => rfl) dX2_read_5 (fun H locs hP hS => ?_)
  obtain ⟨S1, eS1, hE⟩ := st_bv hE
  rw [← eS1] at hP
  refine lv_aload_n hx hb dX2_read_8 rfl (lv_at hl 0 rfl) ?_
  refine c_get (v := .ref (ad 16)) hx hb hts (fun w h => wz_m (inX2 w h)) hown hK hP (q_Page_1 (ad := ad) (cI := cI) (cW := cW)).1 rfl 2 (by decide) (hts _ (wz_m tw_1_96)) (fun _ h9 => h9) rfl dX2_read_9 ?_
  refine lv_iconst (v := 0) hx hb dX2_read_12 (by decide) ?_
  refine c_putN hij hx hb hts (fun w h => wz_m (inX0 w h)) tyX0 tyX0_ok nmX0 hown hK hP hS (q_Cases_16 (ad := ad) (cI := cI) (cW := cW)).1 rfl 2 (by decide) (List.mem_of_getElem? (i := 15) rfl) (fun _ h9 => h9) rfl rfl rfl (fun _ => Nat.le_of_ble_eq_true rfl) (fun _ => rfl) dX2_read_13 (fun H locs hP hS => ?_)
  obtain ⟨S2, eS2, hE⟩ := st_bv hE
  rw [← eS2] at hP
  refine lv_aload_n hx hb dX2_read_16 rfl (lv_at hl 0 rfl) ?_
  refine lv_iconst (v := 0) hx hb dX2_read_17 (by decide) ?_
  refine c_put hij hx hb hts (fun w h => wz_m (inX2 w h)) tyX2 tyX2_ok nmX2 hown hK hP hS (q_Page_1 (ad := ad) (cI := cI) (cW := cW)).1 rfl 4 (by decide) (hts _ (wz_m tw_1_100)) (fun _ h9 => h9) rfl rfl rfl (fun _ => Nat.le_of_ble_eq_true rfl) (fun _ => rfl) dX2_read_18 (fun H locs hP hS => ?_)
  obtain ⟨S3, eS3, hE⟩ := st_bv hE
  rw [← eS3] at hP
  refine lv_iconst (v := 0) hx hb dX2_read_21 (by decide) ?_
  refine lv_istore_n (lv' := [(1, .int 0), (0, .ref (ad 1))]) hx hb dX2_read_22 rfl hl (by decide) rfl (fun ls hl => ?_)
  obtain ⟨x5, hx5, hE⟩ := st_bo hE
  refine lp_walk (body := fun (s4 : Int32 × (Nat → Nat → Int32)) => b_X2_read_23 s4.1 s4.2) (fun s4 => ∀ (ls : Array Slot) (H : Heap) (locs : List Loc), lv_has ls 2 [(0, .ref (ad 1)), (1, .int s4.1)] → cP D ad cI cW s4.2 H → cS ad s H locs → W p l e rmX2_read s m args below meth c H locs 0 0 QQ (F0 m 23 ls [])) (fun x5 => Sum.elim (fun x5 => ∀ (ls : Array Slot) (H : Heap) (locs : List Loc), lv_has ls 2 [(0, .ref (ad 1))] → cP D ad cI cW x5 H → cS ad s H locs → W p l e rmX2_read s m args below meth c H locs 0 0 QQ (F0 m 52 ls [])) (fun x5 => x5 = (r, Sr)) x5) ?_ _ _ _ hx5 ?_ ls H locs (lv_sub hl [1, 0] rfl) hP hS
  · intro s4 t6 hE hKt6 ls H locs hl hP hS
    obtain ⟨c7, c8⟩ := s4
    replace hE : b_X2_read_23 c7 c8 = some t6 := hE
    replace hl : lv_has ls 2 [(0, .ref (ad 1)), (1, .int c7)] := hl
    replace hP : cP D ad cI cW c8 H := hP
    unfold b_X2_read_23 at hE
    refine lv_iload_n hx hb dX2_read_23 rfl (lv_at hl 1 rfl) ?_
    refine lv_aload_n hx hb dX2_read_24 rfl (lv_at hl 0 rfl) ?_
    refine c_get (v := .int (c8 1 3)) hx hb hts (fun w h => wz_m (inX2 w h)) hown hK hP (q_Page_1 (ad := ad) (cI := cI) (cW := cW)).1 rfl 3 (by decide) (hts _ (wz_m tw_1_98)) (fun _ h9 => h9) rfl dX2_read_25 ?_
    refine lv_icmp_ge (tgt := 52) hx hb dX2_read_28 (by decide) (fun hc9 => ?_) (fun hc9 => ?_)
    · have hE := st_t hE hc9
      have hq := Option.some.inj hE
      subst hq
      exact hKt6 ls H locs (lv_sub hl [0] rfl) hP hS
    · have hE := st_f hE hc9
      refine lv_aload_n hx hb dX2_read_31 rfl (lv_at hl 0 rfl) ?_
      refine lv_aload_n hx hb dX2_read_32 rfl (lv_at hl 0 rfl) ?_
      refine c_get (v := .ref (ad 2)) hx hb hts (fun w h => wz_m (inX2 w h)) hown hK hP (q_Page_1 (ad := ad) (cI := cI) (cW := cW)).1 rfl 0 (by decide) (hts _ (wz_m tw_1_92)) (fun _ h9 => h9) rfl dX2_read_33 ?_
      refine lv_iload_n hx hb dX2_read_36 rfl (lv_at hl 1 rfl) ?_
      obtain ⟨hi10, hE⟩ := st_gd hE
      refine c_iald hx hb hK hP (q_Page_1 (ad := ad) (cI := cI) (cW := cW)).2.1 hi10 dX2_read_37 ?_
      obtain ⟨r11, hCr11, hE⟩ := st_bo hE
      refine g_calli (va_runV (As := [.int (c8 2 (c7.toNatClampNeg))]) (rest := []) ⟨hx, hb, hml, hown, hts⟩ (k_X2_accepts hij hCr11) (cwV 1 hts (wz_V tw_2_20 tw_2_21 tw_2_22 tw_1_2 tw_2_23) rfl rfl rfl hdV_X2_accepts ⟨Nat.le_of_ble_eq_true rfl, Nat.le_of_ble_eq_true rfl⟩) (g_preV KC_st ZC_st hK hZ hP hS hK.1 ((q_Page_1 (ad := ad) (cI := cI) (cW := cW)).1).1 (ec_o (q_Page_1 (ad := ad) (cI := cI) (cW := cW)).1) rfl) rfl rfl hl.1 rfl (lv_room (Nat.le_of_ble_eq_true rfl)) dX2_read_38 ⟨Nat.zero_le _, Nat.zero_le _⟩) hS (fun H locs hP hS => ?_)
      refine lv_if_ne (tgt := 46) hx hb dX2_read_41 (by decide) (fun hc12 => ?_) (fun hc12 => ?_)
      · have hE := st_f hE hc12
        obtain ⟨v13, ev13, hE⟩ := st_bv hE
        refine lv_iinc (v := v13) (lv' := [(1, .int v13), (0, .ref (ad 1))]) hx hb dX2_read_46 hl (k := 1) rfl (by rw [ev13]; rfl) (by decide) rfl (fun ls hl => ?_)
        refine lv_goto (tgt := 23) hx hb dX2_read_49 (by decide) ?_
        have hq := Option.some.inj hE
        subst hq
        exact hKt6 ls H locs (lv_sub hl [1, 0] rfl) hP hS
      · have hE := st_t hE hc12
        refine lv_iload_n hx hb dX2_read_44 rfl (lv_at hl 1 rfl) ?_
        have hq := Option.some.inj hE
        subst hq
        replace hE : (c7, r11.2) = (r, Sr) := hKt6
        have hq := Prod.mk.inj hE
        subst hQQ
        exact g_iret hx hb hr hlocks hP hS hq.1 hq.2 dX2_read_45
  · rcases x5 with x5 | x5
    · replace hE := st_el hE
      intro ls H locs hl hP hS
      refine lv_aload_n hx hb dX2_read_52 rfl (lv_at hl 0 rfl) ?_
      refine c_get (v := .int (x5 1 3)) hx hb hts (fun w h => wz_m (inX2 w h)) hown hK hP (q_Page_1 (ad := ad) (cI := cI) (cW := cW)).1 rfl 3 (by decide) (hts _ (wz_m tw_1_98)) (fun _ h9 => h9) rfl dX2_read_53 ?_
      replace hE := Option.some.inj hE
      have hq := Prod.mk.inj hE
      subst hQQ
      exact g_iret hx hb hr hlocks hP hS hq.1 hq.2 dX2_read_56
    · replace hE := st_er hE
      exact Option.some.inj hE
def f_X9_fault (S0 : (Nat → Nat → Int32)) : Option (Int32 × (Nat → Nat → Int32)) :=
  bo (f_X2_read S0) (fun (r1 : Int32 × (Nat → Nat → Int32)) => some (r1.1, r1.2))
abbrev rmX9_fault : Room := { frames := 6, cells := 0, slots := 0, locals := 127 }
theorem hdV_X9_fault : yX9_fault.cls = "WitnessWall" ∧ yX9_fault.cls ≠ "java/lang/invoke/MethodHandle" ∧ yX9_fault.cls ≠ "java/lang/invoke/VarHandle" ∧ (parseMethodDescriptor yX9_fault.desc).map (fun d => d.parameters.length) = some 0 := by decide +kernel
set_option maxHeartbeats 4000000 in
set_option maxRecDepth 100000 in
theorem k_X9_fault {l : Launch} {D : va_G} {ad : Nat → Nat} {cI cW : ClassId} {tK tC : Nat} (hij : inj 83 ad)  {S0 : (Nat → Nat → Int32)} {r : Int32} {Sr : (Nat → Nat → Int32)} (hE : f_X9_fault S0 = some (r, Sr)) {sz : Nat} : Met l yX9_fault (wz yX9_fault cX9_fault 1 (some FieldType.int)) rmX9_fault (PG 83 ad (ec ad cI cW) D (KC D cI cW) (ZC tK tC) [.ref (ad 0)] S0 sz) (QGi 83 ad (ec ad cI cW) D r Sr sz) 0 0 (AD 83 ad sz) := by
  unfold f_X9_fault at hE
  refine g_start (cc := cX9_fault) (maxL := 1) (ret := (some FieldType.int)) (Qc := fun sz => QGi 83 ad (ec ad cI cW) D r Sr sz) (by decide) rfl (Nat.le_of_ble_eq_true rfl) ?_
  intro p e s m args below meth c H locs ls hx hb hr hts hown hlocks hml hK hZ hP hS hl
  replace hl : lv_has ls 1 [(0, .ref (ad 0))] := hl
  obtain ⟨QQ, hQQ⟩ : ∃ q, q = MQ below (QGi 83 ad (ec ad cI cW) D r Sr s.heap.size) args s 0 0 (AD 83 ad s.heap.size) := ⟨_, rfl⟩
  rw [← hQQ]
  refine lv_aload_n hx hb dX9_fault_0 rfl (lv_at hl 0 rfl) ?_
  refine c_get (v := .ref (ad 1)) hx hb hts (fun w h => wz_m (inX9 w h)) hown hK hP (q_WW (ad := ad) (cI := cI) (cW := cW)) rfl 0 (by decide) (hts _ (wz_m tw_1_209)) (fun _ h9 => h9) rfl dX9_fault_1 ?_
  obtain ⟨r1, hCr1, hE⟩ := st_bo hE
  refine g_calli (va_runV (As := []) (rest := []) ⟨hx, hb, hml, hown, hts⟩ (k_X2_read hij hCr1) (cwV 0 hts (wz_V tw_2_16 tw_2_17 tw_2_18 tw_1_2 tw_2_19) rfl rfl rfl hdV_X2_read ⟨Nat.le_of_ble_eq_true rfl, Nat.le_of_ble_eq_true rfl⟩) (g_preV KC_st ZC_st hK hZ hP hS hK.1 ((q_Page_1 (ad := ad) (cI := cI) (cW := cW)).1).1 (ec_o (q_Page_1 (ad := ad) (cI := cI) (cW := cW)).1) rfl) rfl rfl hl.1 rfl (lv_room (Nat.le_of_ble_eq_true rfl)) dX9_fault_4 ⟨Nat.zero_le _, Nat.zero_le _⟩) hS (fun H locs hP hS => ?_)
  replace hE := Option.some.inj hE
  have hq := Prod.mk.inj hE
  subst hQQ
  exact g_iret hx hb hr hlocks hP hS hq.1 hq.2 dX9_fault_7
def f_X9_forget (S0 : (Nat → Nat → Int32)) : Option (Int32 × (Nat → Nat → Int32)) :=
  bv (S0 40 2) (fun (v1 : Int32) => bv (up2 S0 40 2 0) (fun S2 => some (v1, S2)))
abbrev rmX9_forget : Room := { frames := 0, cells := 0, slots := 0, locals := 0 }
theorem hdV_X9_forget : yX9_forget.cls = "WitnessWall" ∧ yX9_forget.cls ≠ "java/lang/invoke/MethodHandle" ∧ yX9_forget.cls ≠ "java/lang/invoke/VarHandle" ∧ (parseMethodDescriptor yX9_forget.desc).map (fun d => d.parameters.length) = some 0 := by decide +kernel
set_option maxHeartbeats 4000000 in
set_option maxRecDepth 100000 in
theorem k_X9_forget {l : Launch} {D : va_G} {ad : Nat → Nat} {cI cW : ClassId} {tK tC : Nat} (hij : inj 83 ad)  {S0 : (Nat → Nat → Int32)} {r : Int32} {Sr : (Nat → Nat → Int32)} (hE : f_X9_forget S0 = some (r, Sr)) {sz : Nat} : Met l yX9_forget (wz yX9_forget cX9_forget 2 (some FieldType.int)) rmX9_forget (PG 83 ad (ec ad cI cW) D (KC D cI cW) (ZC tK tC) [.ref (ad 0)] S0 sz) (QGi 83 ad (ec ad cI cW) D r Sr sz) 0 0 (AD 83 ad sz) := by
  unfold f_X9_forget at hE
  refine g_start (cc := cX9_forget) (maxL := 2) (ret := (some FieldType.int)) (Qc := fun sz => QGi 83 ad (ec ad cI cW) D r Sr sz) (by decide) rfl (Nat.le_of_ble_eq_true rfl) ?_
  intro p e s m args below meth c H locs ls hx hb hr hts hown hlocks hml hK hZ hP hS hl
  replace hl : lv_has ls 2 [(0, .ref (ad 0))] := hl
  obtain ⟨QQ, hQQ⟩ : ∃ q, q = MQ below (QGi 83 ad (ec ad cI cW) D r Sr s.heap.size) args s 0 0 (AD 83 ad s.heap.size) := ⟨_, rfl⟩
  rw [← hQQ]
  refine lv_aload_n hx hb dX9_forget_0 rfl (lv_at hl 0 rfl) ?_
  refine c_get (v := .ref (ad 22)) hx hb hts (fun w h => wz_m (inX9 w h)) hown hK hP (q_WW (ad := ad) (cI := cI) (cW := cW)) rfl 2 (by decide) (hts _ (wz_m tw_1_211)) (fun _ h9 => h9) rfl dX9_forget_1 ?_
  refine c_getN (v := .ref (ad 40)) hx hb hts (fun w h => wz_m (inX3 w h)) hown hK hP (q_Scene_22 (ad := ad) (cI := cI) (cW := cW)).1 rfl 2 (by decide) (List.mem_of_getElem? (i := 31) rfl) (fun _ h9 => h9) rfl dX9_forget_4 ?_
  refine c_getN (v := .int (S0 40 2)) hx hb hts (fun w h => wz_m (inX4 w h)) hown hK hP (q_Seen_40 (ad := ad) (cI := cI) (cW := cW)).1 rfl 2 (by decide) (List.mem_of_getElem? (i := 28) rfl) (fun _ h9 => h9) rfl dX9_forget_7 ?_
  obtain ⟨v1, ev1, hE⟩ := st_bv hE
  refine nm_i ev1 ?_
  refine lv_istore_n (lv' := [(1, .int v1), (0, .ref (ad 0))]) hx hb dX9_forget_10 rfl hl (by decide) rfl (fun ls hl => ?_)
  refine lv_aload_n hx hb dX9_forget_11 rfl (lv_at hl 1 rfl) ?_
  refine c_get (v := .ref (ad 22)) hx hb hts (fun w h => wz_m (inX9 w h)) hown hK hP (q_WW (ad := ad) (cI := cI) (cW := cW)) rfl 2 (by decide) (hts _ (wz_m tw_1_211)) (fun _ h9 => h9) rfl dX9_forget_12 ?_
  refine c_getN (v := .ref (ad 40)) hx hb hts (fun w h => wz_m (inX3 w h)) hown hK hP (q_Scene_22 (ad := ad) (cI := cI) (cW := cW)).1 rfl 2 (by decide) (List.mem_of_getElem? (i := 31) rfl) (fun _ h9 => h9) rfl dX9_forget_15 ?_
  refine lv_iconst (v := 0) hx hb dX9_forget_18 (by decide) ?_
  refine c_putN hij hx hb hts (fun w h => wz_m (inX4 w h)) tyX4 tyX4_ok nmX4 hown hK hP hS (q_Seen_40 (ad := ad) (cI := cI) (cW := cW)).1 rfl 2 (by decide) (List.mem_of_getElem? (i := 28) rfl) (fun _ h9 => h9) rfl rfl rfl (fun _ => Nat.le_of_ble_eq_true rfl) (fun _ => rfl) dX9_forget_19 (fun H locs hP hS => ?_)
  obtain ⟨S2, eS2, hE⟩ := st_bv hE
  rw [← eS2] at hP
  refine lv_iload_n hx hb dX9_forget_22 rfl (lv_at hl 0 rfl) ?_
  replace hE := Option.some.inj hE
  have hq := Prod.mk.inj hE
  subst hQQ
  exact g_iret hx hb hr hlocks hP hS hq.1 hq.2 dX9_forget_23
def f_X9_having (S0 : (Nat → Nat → Int32)) (a1 : Int32) (a2 : Int32) : Option (Int32) :=
  bo (f_X9_isThing a1) (fun (r1 : Int32) => if r1 = 0 then (some (-102)) else (bo (f_X9_isColour a2) (fun (r3 : Int32) => if r3 = 0 then (some (-102)) else (bo (f_X9_hasWall S0) (fun (r5 : Int32) => if r5 = 0 then (some (-103)) else (bo (f_X1_havingSight 23 S0 ((a1 * 4) + a2)) (fun (r7 : Int32) => some r7)))))))
abbrev rmX9_having : Room := { frames := 2, cells := 0, slots := 0, locals := 45 }
theorem hdV_X9_having : yX9_having.cls = "WitnessWall" ∧ yX9_having.cls ≠ "java/lang/invoke/MethodHandle" ∧ yX9_having.cls ≠ "java/lang/invoke/VarHandle" ∧ (parseMethodDescriptor yX9_having.desc).map (fun d => d.parameters.length) = some 2 := by decide +kernel
set_option maxHeartbeats 4000000 in
set_option maxRecDepth 100000 in
theorem k_X9_having {l : Launch} {D : va_G} {ad : Nat → Nat} {cI cW : ClassId} {tK tC : Nat} (hij : inj 83 ad)  {S0 : (Nat → Nat → Int32)} {a1 : Int32} {a2 : Int32} {r : Int32} (hE : f_X9_having S0 a1 a2 = some r) {sz : Nat} : Met l yX9_having (wz yX9_having cX9_having 3 (some FieldType.int)) rmX9_having (PG 83 ad (ec ad cI cW) D (KC D cI cW) (ZC tK tC) [.ref (ad 0), .int a1, .int a2] S0 sz) (QGi 83 ad (ec ad cI cW) D r S0 sz) 0 0 (AD 83 ad sz) := by
  unfold f_X9_having at hE
  refine g_start (cc := cX9_having) (maxL := 3) (ret := (some FieldType.int)) (Qc := fun sz => QGi 83 ad (ec ad cI cW) D r S0 sz) (by decide) rfl (Nat.le_of_ble_eq_true rfl) ?_
  intro p e s m args below meth c H locs ls hx hb hr hts hown hlocks hml hK hZ hP hS hl
  replace hl : lv_has ls 3 [(0, .ref (ad 0)), (1, .int a1), (2, .int a2)] := hl
  obtain ⟨QQ, hQQ⟩ : ∃ q, q = MQ below (QGi 83 ad (ec ad cI cW) D r S0 s.heap.size) args s 0 0 (AD 83 ad s.heap.size) := ⟨_, rfl⟩
  rw [← hQQ]
  refine lv_iload_n hx hb dX9_having_0 rfl (lv_at hl 1 rfl) ?_
  obtain ⟨r1, hCr1, hE⟩ := st_bo hE
  refine g_calli (va_runS (As := [.int a1]) (rest := []) ⟨hx, hb, hml, hown, hts⟩ (k_X9_isThing hij (S0 := S0) hCr1) (va_cwS 1 hts (wz_S tw_2_166 tw_2_54 tw_1_1 tw_2_55) rfl rfl rfl hdS_X9_isThing ⟨Nat.le_of_ble_eq_true rfl, Nat.le_of_ble_eq_true rfl⟩) (g_preS KC_st ZC_st hK hZ hP hS) rfl rfl hl.1 rfl (lv_room (Nat.le_of_ble_eq_true rfl)) dX9_having_1 ⟨Nat.zero_le _, Nat.zero_le _⟩) hS (fun H locs hP hS => ?_)
  refine lv_if_eq (tgt := 14) hx hb dX9_having_4 (by decide) (fun hc2 => ?_) (fun hc2 => ?_)
  · have hE := st_t hE hc2
    refine lv_bipush (v := (-102)) hx hb dX9_having_14 (by decide) ?_
    replace hE := Option.some.inj hE
    subst hQQ
    exact g_iret hx hb hr hlocks hP hS hE rfl dX9_having_16
  · have hE := st_f hE hc2
    refine lv_iload_n hx hb dX9_having_7 rfl (lv_at hl 2 rfl) ?_
    obtain ⟨r3, hCr3, hE⟩ := st_bo hE
    refine g_calli (va_runS (As := [.int a2]) (rest := []) ⟨hx, hb, hml, hown, hts⟩ (k_X9_isColour hij (S0 := S0) hCr3) (va_cwS 1 hts (wz_S tw_2_192 tw_2_61 tw_1_1 tw_2_62) rfl rfl rfl hdS_X9_isColour ⟨Nat.le_of_ble_eq_true rfl, Nat.le_of_ble_eq_true rfl⟩) (g_preS KC_st ZC_st hK hZ hP hS) rfl rfl hl.1 rfl (lv_room (Nat.le_of_ble_eq_true rfl)) dX9_having_8 ⟨Nat.zero_le _, Nat.zero_le _⟩) hS (fun H locs hP hS => ?_)
    refine lv_if_ne (tgt := 17) hx hb dX9_having_11 (by decide) (fun hc4 => ?_) (fun hc4 => ?_)
    · have hE := st_f hE hc4
      refine lv_aload_n hx hb dX9_having_17 rfl (lv_at hl 0 rfl) ?_
      obtain ⟨r5, hCr5, hE⟩ := st_bo hE
      refine g_calli (va_runV (As := []) (rest := []) ⟨hx, hb, hml, hown, hts⟩ (k_X9_hasWall hij hCr5) (cwV 0 hts (wz_V tw_2_172 tw_2_174 tp_1 tw_1_1 tw_2_175) rfl rfl rfl hdV_X9_hasWall ⟨Nat.le_of_ble_eq_true rfl, Nat.le_of_ble_eq_true rfl⟩) (g_preV KC_st ZC_st hK hZ hP hS hK.1 ((q_WW (ad := ad) (cI := cI) (cW := cW))).1 (ec_o (q_WW (ad := ad) (cI := cI) (cW := cW))) rfl) rfl rfl hl.1 rfl (lv_room (Nat.le_of_ble_eq_true rfl)) dX9_having_18 ⟨Nat.zero_le _, Nat.zero_le _⟩) hS (fun H locs hP hS => ?_)
      refine lv_if_ne (tgt := 27) hx hb dX9_having_21 (by decide) (fun hc6 => ?_) (fun hc6 => ?_)
      · have hE := st_f hE hc6
        refine lv_aload_n hx hb dX9_having_27 rfl (lv_at hl 0 rfl) ?_
        refine c_get (v := .ref (ad 22)) hx hb hts (fun w h => wz_m (inX9 w h)) hown hK hP (q_WW (ad := ad) (cI := cI) (cW := cW)) rfl 2 (by decide) (hts _ (wz_m tw_1_211)) (fun _ h9 => h9) rfl dX9_having_28 ?_
        refine c_getN (v := .ref (ad 23)) hx hb hts (fun w h => wz_m (inX3 w h)) hown hK hP (q_Scene_22 (ad := ad) (cI := cI) (cW := cW)).1 rfl 0 (by decide) (List.mem_of_getElem? (i := 29) rfl) (fun _ h9 => h9) rfl dX9_having_31 ?_
        refine lv_iload_n hx hb dX9_having_34 rfl (lv_at hl 1 rfl) ?_
        refine lv_iconst (v := 4) hx hb dX9_having_35 (by decide) ?_
        refine lv_imul hx hb dX9_having_36 ?_
        refine lv_iload_n hx hb dX9_having_37 rfl (lv_at hl 2 rfl) ?_
        refine lv_iadd hx hb dX9_having_38 ?_
        obtain ⟨r7, hCr7, hE⟩ := st_bo hE
        refine g_calli (va_runV (As := [.int ((a1 * 4) + a2)]) (rest := []) ⟨hx, hb, hml, hown, hts⟩ (k_X1_havingSight hij (q_Hall_23 (ad := ad) (cI := cI) (cW := cW)) hCr7) (cwV 1 hts (wz_V tw_2_193 tw_2_194 tw_2_195 tw_1_3 tw_2_196) rfl rfl rfl hdV_X1_havingSight ⟨Nat.le_of_ble_eq_true rfl, Nat.le_of_ble_eq_true rfl⟩) (g_preV KC_st ZC_st hK hZ hP hS hK.1 ((q_Hall_23 (ad := ad) (cI := cI) (cW := cW)).1).1 (ec_o (q_Hall_23 (ad := ad) (cI := cI) (cW := cW)).1) rfl) rfl rfl hl.1 rfl (lv_room (Nat.le_of_ble_eq_true rfl)) dX9_having_39 ⟨Nat.zero_le _, Nat.zero_le _⟩) hS (fun H locs hP hS => ?_)
        replace hE := Option.some.inj hE
        subst hQQ
        exact g_iret hx hb hr hlocks hP hS hE rfl dX9_having_42
      · have hE := st_t hE hc6
        refine lv_bipush (v := (-103)) hx hb dX9_having_24 (by decide) ?_
        replace hE := Option.some.inj hE
        subst hQQ
        exact g_iret hx hb hr hlocks hP hS hE rfl dX9_having_26
    · have hE := st_t hE hc4
      refine lv_bipush (v := (-102)) hx hb dX9_having_14 (by decide) ?_
      replace hE := Option.some.inj hE
      subst hQQ
      exact g_iret hx hb hr hlocks hP hS hE rfl dX9_having_16
def b_X5_copyFrom_10 (k : Nat) (a1 : Nat) (c5 : Int32) (c6 : (Nat → Nat → Int32)) : Option ((Int32 × (Nat → Nat → Int32)) ⊕ ((Nat → Nat → Int32))) :=
  if 6 ≤ c5 then (some (.inr c6)) else (gd (inb c5 6) (gd (inb c5 6) (bv (up2 c6 (k + 1) (c5.toNatClampNeg) (c6 (a1 + 1) (c5.toNatClampNeg))) (fun S10 => gd (inb c5 6) (gd (inb c5 6) (bv (up2 S10 (k + 2) (c5.toNatClampNeg) (S10 (a1 + 2) (c5.toNatClampNeg))) (fun S13 => gd (inb c5 6) (gd (inb c5 6) (bv (up2 S13 (k + 3) (c5.toNatClampNeg) (S13 (a1 + 3) (c5.toNatClampNeg))) (fun S16 => bv (c5 + 1) (fun (v17 : Int32) => some (.inl (v17, S16)))))))))))))
def f_X5_copyFrom (k : Nat) (S0 : (Nat → Nat → Int32)) (a1 : Nat) : Option ((Nat → Nat → Int32)) :=
  bv (up2 S0 k 3 (S0 a1 3)) (fun S1 => bo (lp (fun (s2 : Int32 × (Nat → Nat → Int32)) => b_X5_copyFrom_10 k a1 s2.1 s2.2) 5000 (0, S1)) (fun (x3 : (Nat → Nat → Int32)) => some x3))
abbrev rmX5_copyFrom : Room := { frames := 0, cells := 0, slots := 0, locals := 0 }
theorem hdV_X5_copyFrom : yX5_copyFrom.cls = "WitnessWall$Slips" ∧ yX5_copyFrom.cls ≠ "java/lang/invoke/MethodHandle" ∧ yX5_copyFrom.cls ≠ "java/lang/invoke/VarHandle" ∧ (parseMethodDescriptor yX5_copyFrom.desc).map (fun d => d.parameters.length) = some 1 := by decide +kernel
set_option maxHeartbeats 4000000 in
set_option maxRecDepth 100000 in
theorem k_X5_copyFrom {l : Launch} {D : va_G} {ad : Nat → Nat} {cI cW : ClassId} {tK tC : Nat} (hij : inj 83 ad) {k : Nat} (h0 : iSlips ad cI cW k) {S0 : (Nat → Nat → Int32)} {a1 : Nat} (h1 : iSlips ad cI cW a1) {Sr : (Nat → Nat → Int32)} (hE : f_X5_copyFrom k S0 a1 = some Sr) {sz : Nat} : Met l yX5_copyFrom (wz yX5_copyFrom cX5_copyFrom 3 none) rmX5_copyFrom (PG 83 ad (ec ad cI cW) D (KC D cI cW) (ZC tK tC) [.ref (ad k), .ref (ad a1)] S0 sz) (QGv 83 ad (ec ad cI cW) D Sr sz) 0 0 (AD 83 ad sz) := by
  unfold f_X5_copyFrom at hE
  refine g_start (cc := cX5_copyFrom) (maxL := 3) (ret := none) (Qc := fun sz => QGv 83 ad (ec ad cI cW) D Sr sz) (by decide) rfl (Nat.le_of_ble_eq_true rfl) ?_
  intro p e s m args below meth c H locs ls hx hb hr hts hown hlocks hml hK hZ hP hS hl
  replace hl : lv_has ls 3 [(0, .ref (ad k)), (1, .ref (ad a1))] := hl
  obtain ⟨QQ, hQQ⟩ : ∃ q, q = MQ below (QGv 83 ad (ec ad cI cW) D Sr s.heap.size) args s 0 0 (AD 83 ad s.heap.size) := ⟨_, rfl⟩
  rw [← hQQ]
  refine lv_aload_n hx hb dX5_copyFrom_0 rfl (lv_at hl 0 rfl) ?_
  refine lv_aload_n hx hb dX5_copyFrom_1 rfl (lv_at hl 1 rfl) ?_
  refine c_get (v := .int (S0 a1 3)) hx hb hts (fun w h => wz_m (inX5 w h)) hown hK hP h1.1 rfl 3 (by decide) (hts _ (wz_m tw_1_134)) (fun _ h9 => h9) rfl dX5_copyFrom_2 ?_
  refine c_put hij hx hb hts (fun w h => wz_m (inX5 w h)) tyX5 tyX5_ok nmX5 hown hK hP hS h0.1 rfl 3 (by decide) (hts _ (wz_m tw_1_134)) (fun _ h9 => h9) rfl rfl rfl (fun _ => Nat.le_of_ble_eq_true rfl) (fun _ => rfl) dX5_copyFrom_5 (fun H locs hP hS => ?_)
  obtain ⟨S1, eS1, hE⟩ := st_bv hE
  rw [← eS1] at hP
  refine lv_iconst (v := 0) hx hb dX5_copyFrom_8 (by decide) ?_
  refine lv_istore_n (lv' := [(2, .int 0), (0, .ref (ad k)), (1, .ref (ad a1))]) hx hb dX5_copyFrom_9 rfl hl (by decide) rfl (fun ls hl => ?_)
  obtain ⟨x3, hx3, hE⟩ := st_bo hE
  refine lp_walk (body := fun (s2 : Int32 × (Nat → Nat → Int32)) => b_X5_copyFrom_10 k a1 s2.1 s2.2) (fun s2 => ∀ (ls : Array Slot) (H : Heap) (locs : List Loc), lv_has ls 3 [(0, .ref (ad k)), (1, .ref (ad a1)), (2, .int s2.1)] → cP D ad cI cW s2.2 H → cS ad s H locs → W p l e rmX5_copyFrom s m args below meth c H locs 0 0 QQ (F0 m 10 ls [])) (fun x3 => ∀ (ls : Array Slot) (H : Heap) (locs : List Loc), lv_has ls 3 [] → cP D ad cI cW x3 H → cS ad s H locs → W p l e rmX5_copyFrom s m args below meth c H locs 0 0 QQ (F0 m 58 ls [])) ?_ _ _ _ hx3 ?_ ls H locs (lv_sub hl [1, 2, 0] rfl) hP hS
  · intro s2 t4 hE hKt4 ls H locs hl hP hS
    obtain ⟨c5, c6⟩ := s2
    replace hE : b_X5_copyFrom_10 k a1 c5 c6 = some t4 := hE
    replace hl : lv_has ls 3 [(0, .ref (ad k)), (1, .ref (ad a1)), (2, .int c5)] := hl
    replace hP : cP D ad cI cW c6 H := hP
    unfold b_X5_copyFrom_10 at hE
    refine lv_iload_n hx hb dX5_copyFrom_10 rfl (lv_at hl 2 rfl) ?_
    refine lv_bipush (v := 6) hx hb dX5_copyFrom_11 (by decide) ?_
    refine lv_icmp_ge (tgt := 58) hx hb dX5_copyFrom_13 (by decide) (fun hc7 => ?_) (fun hc7 => ?_)
    · have hE := st_t hE hc7
      have hq := Option.some.inj hE
      subst hq
      exact hKt4 ls H locs (lv_sub hl [] rfl) hP hS
    · have hE := st_f hE hc7
      refine lv_aload_n hx hb dX5_copyFrom_16 rfl (lv_at hl 0 rfl) ?_
      refine c_get (v := .ref (ad (k + 1))) hx hb hts (fun w h => wz_m (inX5 w h)) hown hK hP h0.1 rfl 0 (by decide) (hts _ (wz_m tw_1_131)) (fun _ h9 => h9) rfl dX5_copyFrom_17 ?_
      refine lv_iload_n hx hb dX5_copyFrom_20 rfl (lv_at hl 2 rfl) ?_
      refine lv_aload_n hx hb dX5_copyFrom_21 rfl (lv_at hl 1 rfl) ?_
      refine c_get (v := .ref (ad (a1 + 1))) hx hb hts (fun w h => wz_m (inX5 w h)) hown hK hP h1.1 rfl 0 (by decide) (hts _ (wz_m tw_1_131)) (fun _ h9 => h9) rfl dX5_copyFrom_22 ?_
      refine lv_iload_n hx hb dX5_copyFrom_25 rfl (lv_at hl 2 rfl) ?_
      obtain ⟨hi8, hE⟩ := st_gd hE
      refine c_iald hx hb hK hP h1.2.1 hi8 dX5_copyFrom_26 ?_
      obtain ⟨hi9, hE⟩ := st_gd hE
      refine c_iast hij hx hb hK hP hS h0.2.1 hi9 dX5_copyFrom_27 (fun H locs hP hS => ?_)
      obtain ⟨S10, eS10, hE⟩ := st_bv hE
      rw [← eS10] at hP
      refine lv_aload_n hx hb dX5_copyFrom_28 rfl (lv_at hl 0 rfl) ?_
      refine c_get (v := .ref (ad (k + 2))) hx hb hts (fun w h => wz_m (inX5 w h)) hown hK hP h0.1 rfl 1 (by decide) (hts _ (wz_m tw_1_132)) (fun _ h9 => h9) rfl dX5_copyFrom_29 ?_
      refine lv_iload_n hx hb dX5_copyFrom_32 rfl (lv_at hl 2 rfl) ?_
      refine lv_aload_n hx hb dX5_copyFrom_33 rfl (lv_at hl 1 rfl) ?_
      refine c_get (v := .ref (ad (a1 + 2))) hx hb hts (fun w h => wz_m (inX5 w h)) hown hK hP h1.1 rfl 1 (by decide) (hts _ (wz_m tw_1_132)) (fun _ h9 => h9) rfl dX5_copyFrom_34 ?_
      refine lv_iload_n hx hb dX5_copyFrom_37 rfl (lv_at hl 2 rfl) ?_
      obtain ⟨hi11, hE⟩ := st_gd hE
      refine c_iald hx hb hK hP h1.2.2.1 hi11 dX5_copyFrom_38 ?_
      obtain ⟨hi12, hE⟩ := st_gd hE
      refine c_iast hij hx hb hK hP hS h0.2.2.1 hi12 dX5_copyFrom_39 (fun H locs hP hS => ?_)
      obtain ⟨S13, eS13, hE⟩ := st_bv hE
      rw [← eS13] at hP
      refine lv_aload_n hx hb dX5_copyFrom_40 rfl (lv_at hl 0 rfl) ?_
      refine c_get (v := .ref (ad (k + 3))) hx hb hts (fun w h => wz_m (inX5 w h)) hown hK hP h0.1 rfl 2 (by decide) (hts _ (wz_m tw_1_133)) (fun _ h9 => h9) rfl dX5_copyFrom_41 ?_
      refine lv_iload_n hx hb dX5_copyFrom_44 rfl (lv_at hl 2 rfl) ?_
      refine lv_aload_n hx hb dX5_copyFrom_45 rfl (lv_at hl 1 rfl) ?_
      refine c_get (v := .ref (ad (a1 + 3))) hx hb hts (fun w h => wz_m (inX5 w h)) hown hK hP h1.1 rfl 2 (by decide) (hts _ (wz_m tw_1_133)) (fun _ h9 => h9) rfl dX5_copyFrom_46 ?_
      refine lv_iload_n hx hb dX5_copyFrom_49 rfl (lv_at hl 2 rfl) ?_
      obtain ⟨hi14, hE⟩ := st_gd hE
      refine c_iald hx hb hK hP h1.2.2.2 hi14 dX5_copyFrom_50 ?_
      obtain ⟨hi15, hE⟩ := st_gd hE
      refine c_iast hij hx hb hK hP hS h0.2.2.2 hi15 dX5_copyFrom_51 (fun H locs hP hS => ?_)
      obtain ⟨S16, eS16, hE⟩ := st_bv hE
      rw [← eS16] at hP
      obtain ⟨v17, ev17, hE⟩ := st_bv hE
      refine lv_iinc (v := v17) (lv' := [(2, .int v17), (0, .ref (ad k)), (1, .ref (ad a1))]) hx hb dX5_copyFrom_52 hl (k := 2) rfl (by rw [ev17]; rfl) (by decide) rfl (fun ls hl => ?_)
      refine lv_goto (tgt := 10) hx hb dX5_copyFrom_55 (by decide) ?_
      have hq := Option.some.inj hE
      subst hq
      exact hKt4 ls H locs (lv_sub hl [1, 2, 0] rfl) hP hS
  · intro ls H locs hl hP hS
    replace hE := Option.some.inj hE
    subst hQQ
    exact g_vret hx hb hr hlocks hP hS hE dX5_copyFrom_58
def b_X4_copyFrom_10 (k : Nat) (a1 : Nat) (c5 : Int32) (c6 : (Nat → Nat → Int32)) : Option ((Int32 × (Nat → Nat → Int32)) ⊕ ((Nat → Nat → Int32))) :=
  if 6 ≤ c5 then (some (.inr c6)) else (gd (inb c5 6) (gd (inb c5 6) (bv (up2 c6 (k + 1) (c5.toNatClampNeg) (c6 (a1 + 1) (c5.toNatClampNeg))) (fun S10 => gd (inb c5 6) (gd (inb c5 6) (bv (up2 S10 (k + 2) (c5.toNatClampNeg) (S10 (a1 + 2) (c5.toNatClampNeg))) (fun S13 => bv (c5 + 1) (fun (v14 : Int32) => some (.inl (v14, S13))))))))))
def f_X4_copyFrom (k : Nat) (S0 : (Nat → Nat → Int32)) (a1 : Nat) : Option ((Nat → Nat → Int32)) :=
  bv (up2 S0 k 2 (S0 a1 2)) (fun S1 => bo (lp (fun (s2 : Int32 × (Nat → Nat → Int32)) => b_X4_copyFrom_10 k a1 s2.1 s2.2) 5000 (0, S1)) (fun (x3 : (Nat → Nat → Int32)) => some x3))
abbrev rmX4_copyFrom : Room := { frames := 0, cells := 0, slots := 0, locals := 0 }
theorem hdV_X4_copyFrom : yX4_copyFrom.cls = "WitnessWall$Seen" ∧ yX4_copyFrom.cls ≠ "java/lang/invoke/MethodHandle" ∧ yX4_copyFrom.cls ≠ "java/lang/invoke/VarHandle" ∧ (parseMethodDescriptor yX4_copyFrom.desc).map (fun d => d.parameters.length) = some 1 := by decide +kernel
set_option maxHeartbeats 4000000 in
set_option maxRecDepth 100000 in
theorem k_X4_copyFrom {l : Launch} {D : va_G} {ad : Nat → Nat} {cI cW : ClassId} {tK tC : Nat} (hij : inj 83 ad) {k : Nat} (h0 : iSeen ad cI cW k) {S0 : (Nat → Nat → Int32)} {a1 : Nat} (h1 : iSeen ad cI cW a1) {Sr : (Nat → Nat → Int32)} (hE : f_X4_copyFrom k S0 a1 = some Sr) {sz : Nat} : Met l yX4_copyFrom (wz yX4_copyFrom cX4_copyFrom 3 none) rmX4_copyFrom (PG 83 ad (ec ad cI cW) D (KC D cI cW) (ZC tK tC) [.ref (ad k), .ref (ad a1)] S0 sz) (QGv 83 ad (ec ad cI cW) D Sr sz) 0 0 (AD 83 ad sz) := by
  unfold f_X4_copyFrom at hE
  refine g_start (cc := cX4_copyFrom) (maxL := 3) (ret := none) (Qc := fun sz => QGv 83 ad (ec ad cI cW) D Sr sz) (by decide) rfl (Nat.le_of_ble_eq_true rfl) ?_
  intro p e s m args below meth c H locs ls hx hb hr hts hown hlocks hml hK hZ hP hS hl
  replace hl : lv_has ls 3 [(0, .ref (ad k)), (1, .ref (ad a1))] := hl
  obtain ⟨QQ, hQQ⟩ : ∃ q, q = MQ below (QGv 83 ad (ec ad cI cW) D Sr s.heap.size) args s 0 0 (AD 83 ad s.heap.size) := ⟨_, rfl⟩
  rw [← hQQ]
  refine lv_aload_n hx hb dX4_copyFrom_0 rfl (lv_at hl 0 rfl) ?_
  refine lv_aload_n hx hb dX4_copyFrom_1 rfl (lv_at hl 1 rfl) ?_
  refine c_get (v := .int (S0 a1 2)) hx hb hts (fun w h => wz_m (inX4 w h)) hown hK hP h1.1 rfl 2 (by decide) (hts _ (wz_m tw_1_154)) (fun _ h9 => h9) rfl dX4_copyFrom_2 ?_
  refine c_put hij hx hb hts (fun w h => wz_m (inX4 w h)) tyX4 tyX4_ok nmX4 hown hK hP hS h0.1 rfl 2 (by decide) (hts _ (wz_m tw_1_154)) (fun _ h9 => h9) rfl rfl rfl (fun _ => Nat.le_of_ble_eq_true rfl) (fun _ => rfl) dX4_copyFrom_5 (fun H locs hP hS => ?_)
  obtain ⟨S1, eS1, hE⟩ := st_bv hE
  rw [← eS1] at hP
  refine lv_iconst (v := 0) hx hb dX4_copyFrom_8 (by decide) ?_
  refine lv_istore_n (lv' := [(2, .int 0), (0, .ref (ad k)), (1, .ref (ad a1))]) hx hb dX4_copyFrom_9 rfl hl (by decide) rfl (fun ls hl => ?_)
  obtain ⟨x3, hx3, hE⟩ := st_bo hE
  refine lp_walk (body := fun (s2 : Int32 × (Nat → Nat → Int32)) => b_X4_copyFrom_10 k a1 s2.1 s2.2) (fun s2 => ∀ (ls : Array Slot) (H : Heap) (locs : List Loc), lv_has ls 3 [(0, .ref (ad k)), (1, .ref (ad a1)), (2, .int s2.1)] → cP D ad cI cW s2.2 H → cS ad s H locs → W p l e rmX4_copyFrom s m args below meth c H locs 0 0 QQ (F0 m 10 ls [])) (fun x3 => ∀ (ls : Array Slot) (H : Heap) (locs : List Loc), lv_has ls 3 [] → cP D ad cI cW x3 H → cS ad s H locs → W p l e rmX4_copyFrom s m args below meth c H locs 0 0 QQ (F0 m 46 ls [])) ?_ _ _ _ hx3 ?_ ls H locs (lv_sub hl [1, 2, 0] rfl) hP hS
  · intro s2 t4 hE hKt4 ls H locs hl hP hS
    obtain ⟨c5, c6⟩ := s2
    replace hE : b_X4_copyFrom_10 k a1 c5 c6 = some t4 := hE
    replace hl : lv_has ls 3 [(0, .ref (ad k)), (1, .ref (ad a1)), (2, .int c5)] := hl
    replace hP : cP D ad cI cW c6 H := hP
    unfold b_X4_copyFrom_10 at hE
    refine lv_iload_n hx hb dX4_copyFrom_10 rfl (lv_at hl 2 rfl) ?_
    refine lv_bipush (v := 6) hx hb dX4_copyFrom_11 (by decide) ?_
    refine lv_icmp_ge (tgt := 46) hx hb dX4_copyFrom_13 (by decide) (fun hc7 => ?_) (fun hc7 => ?_)
    · have hE := st_t hE hc7
      have hq := Option.some.inj hE
      subst hq
      exact hKt4 ls H locs (lv_sub hl [] rfl) hP hS
    · have hE := st_f hE hc7
      refine lv_aload_n hx hb dX4_copyFrom_16 rfl (lv_at hl 0 rfl) ?_
      refine c_get (v := .ref (ad (k + 1))) hx hb hts (fun w h => wz_m (inX4 w h)) hown hK hP h0.1 rfl 0 (by decide) (hts _ (wz_m tw_1_152)) (fun _ h9 => h9) rfl dX4_copyFrom_17 ?_
      refine lv_iload_n hx hb dX4_copyFrom_20 rfl (lv_at hl 2 rfl) ?_
      refine lv_aload_n hx hb dX4_copyFrom_21 rfl (lv_at hl 1 rfl) ?_
      refine c_get (v := .ref (ad (a1 + 1))) hx hb hts (fun w h => wz_m (inX4 w h)) hown hK hP h1.1 rfl 0 (by decide) (hts _ (wz_m tw_1_152)) (fun _ h9 => h9) rfl dX4_copyFrom_22 ?_
      refine lv_iload_n hx hb dX4_copyFrom_25 rfl (lv_at hl 2 rfl) ?_
      obtain ⟨hi8, hE⟩ := st_gd hE
      refine c_iald hx hb hK hP h1.2.1 hi8 dX4_copyFrom_26 ?_
      obtain ⟨hi9, hE⟩ := st_gd hE
      refine c_iast hij hx hb hK hP hS h0.2.1 hi9 dX4_copyFrom_27 (fun H locs hP hS => ?_)
      obtain ⟨S10, eS10, hE⟩ := st_bv hE
      rw [← eS10] at hP
      refine lv_aload_n hx hb dX4_copyFrom_28 rfl (lv_at hl 0 rfl) ?_
      refine c_get (v := .ref (ad (k + 2))) hx hb hts (fun w h => wz_m (inX4 w h)) hown hK hP h0.1 rfl 1 (by decide) (hts _ (wz_m tw_1_153)) (fun _ h9 => h9) rfl dX4_copyFrom_29 ?_
      refine lv_iload_n hx hb dX4_copyFrom_32 rfl (lv_at hl 2 rfl) ?_
      refine lv_aload_n hx hb dX4_copyFrom_33 rfl (lv_at hl 1 rfl) ?_
      refine c_get (v := .ref (ad (a1 + 2))) hx hb hts (fun w h => wz_m (inX4 w h)) hown hK hP h1.1 rfl 1 (by decide) (hts _ (wz_m tw_1_153)) (fun _ h9 => h9) rfl dX4_copyFrom_34 ?_
      refine lv_iload_n hx hb dX4_copyFrom_37 rfl (lv_at hl 2 rfl) ?_
      obtain ⟨hi11, hE⟩ := st_gd hE
      refine c_iald hx hb hK hP h1.2.2 hi11 dX4_copyFrom_38 ?_
      obtain ⟨hi12, hE⟩ := st_gd hE
      refine c_iast hij hx hb hK hP hS h0.2.2 hi12 dX4_copyFrom_39 (fun H locs hP hS => ?_)
      obtain ⟨S13, eS13, hE⟩ := st_bv hE
      rw [← eS13] at hP
      obtain ⟨v14, ev14, hE⟩ := st_bv hE
      refine lv_iinc (v := v14) (lv' := [(2, .int v14), (0, .ref (ad k)), (1, .ref (ad a1))]) hx hb dX4_copyFrom_40 hl (k := 2) rfl (by rw [ev14]; rfl) (by decide) rfl (fun ls hl => ?_)
      refine lv_goto (tgt := 10) hx hb dX4_copyFrom_43 (by decide) ?_
      have hq := Option.some.inj hE
      subst hq
      exact hKt4 ls H locs (lv_sub hl [1, 2, 0] rfl) hP hS
  · intro ls H locs hl hP hS
    replace hE := Option.some.inj hE
    subst hQQ
    exact g_vret hx hb hr hlocks hP hS hE dX4_copyFrom_46
def f_X3_copyFrom (k : Nat) (S0 : (Nat → Nat → Int32)) (a1 : Nat) : Option ((Nat → Nat → Int32)) :=
  bo (f_X1_copyFrom (k + 1) S0 (a1 + 1)) (fun (r1 : (Nat → Nat → Int32)) => bo (f_X5_copyFrom (k + 14) r1 (a1 + 14)) (fun (r2 : (Nat → Nat → Int32)) => bo (f_X4_copyFrom (k + 18) r2 (a1 + 18)) (fun (r3 : (Nat → Nat → Int32)) => bv (up2 r3 k 3 (r3 a1 3)) (fun S4 => some S4))))
abbrev rmX3_copyFrom : Room := { frames := 2, cells := 0, slots := 0, locals := 44 }
theorem hdV_X3_copyFrom : yX3_copyFrom.cls = "WitnessWall$Scene" ∧ yX3_copyFrom.cls ≠ "java/lang/invoke/MethodHandle" ∧ yX3_copyFrom.cls ≠ "java/lang/invoke/VarHandle" ∧ (parseMethodDescriptor yX3_copyFrom.desc).map (fun d => d.parameters.length) = some 1 := by decide +kernel
set_option maxHeartbeats 4000000 in
set_option maxRecDepth 100000 in
theorem k_X3_copyFrom {l : Launch} {D : va_G} {ad : Nat → Nat} {cI cW : ClassId} {tK tC : Nat} (hij : inj 83 ad) {k : Nat} (h0 : iScene ad cI cW k) {S0 : (Nat → Nat → Int32)} {a1 : Nat} (h1 : iScene ad cI cW a1) {Sr : (Nat → Nat → Int32)} (hE : f_X3_copyFrom k S0 a1 = some Sr) {sz : Nat} : Met l yX3_copyFrom (wz yX3_copyFrom cX3_copyFrom 2 none) rmX3_copyFrom (PG 83 ad (ec ad cI cW) D (KC D cI cW) (ZC tK tC) [.ref (ad k), .ref (ad a1)] S0 sz) (QGv 83 ad (ec ad cI cW) D Sr sz) 0 0 (AD 83 ad sz) := by
  unfold f_X3_copyFrom at hE
  refine g_start (cc := cX3_copyFrom) (maxL := 2) (ret := none) (Qc := fun sz => QGv 83 ad (ec ad cI cW) D Sr sz) (by decide) rfl (Nat.le_of_ble_eq_true rfl) ?_
  intro p e s m args below meth c H locs ls hx hb hr hts hown hlocks hml hK hZ hP hS hl
  replace hl : lv_has ls 2 [(0, .ref (ad k)), (1, .ref (ad a1))] := hl
  obtain ⟨QQ, hQQ⟩ : ∃ q, q = MQ below (QGv 83 ad (ec ad cI cW) D Sr s.heap.size) args s 0 0 (AD 83 ad s.heap.size) := ⟨_, rfl⟩
  rw [← hQQ]
  refine lv_aload_n hx hb dX3_copyFrom_0 rfl (lv_at hl 0 rfl) ?_
  refine c_get (v := .ref (ad (k + 1))) hx hb hts (fun w h => wz_m (inX3 w h)) hown hK hP h0.1 rfl 0 (by decide) (hts _ (wz_m tw_1_164)) (fun _ h9 => h9) rfl dX3_copyFrom_1 ?_
  refine lv_aload_n hx hb dX3_copyFrom_4 rfl (lv_at hl 1 rfl) ?_
  refine c_get (v := .ref (ad (a1 + 1))) hx hb hts (fun w h => wz_m (inX3 w h)) hown hK hP h1.1 rfl 0 (by decide) (hts _ (wz_m tw_1_164)) (fun _ h9 => h9) rfl dX3_copyFrom_5 ?_
  obtain ⟨r1, hCr1, hE⟩ := st_bo hE
  refine g_callv (va_runV (As := [.ref (ad (a1 + 1))]) (rest := []) ⟨hx, hb, hml, hown, hts⟩ (k_X1_copyFrom hij h0.2.1 h1.2.1 hCr1) (cwV 1 hts (wz_V tw_2_100 tw_2_101 tw_2_102 tw_1_3 tw_2_103) rfl rfl rfl hdV_X1_copyFrom ⟨Nat.le_of_ble_eq_true rfl, Nat.le_of_ble_eq_true rfl⟩) (g_preV KC_st ZC_st hK hZ hP hS hK.1 (h0.2.1.1).1 (ec_o h0.2.1.1) rfl) rfl rfl hl.1 rfl (lv_room (Nat.le_of_ble_eq_true rfl)) dX3_copyFrom_8 ⟨Nat.zero_le _, Nat.zero_le _⟩) hS (fun H locs hP hS => ?_)
  refine lv_aload_n hx hb dX3_copyFrom_11 rfl (lv_at hl 0 rfl) ?_
  refine c_get (v := .ref (ad (k + 14))) hx hb hts (fun w h => wz_m (inX3 w h)) hown hK hP h0.1 rfl 1 (by decide) (hts _ (wz_m tw_1_166)) (fun _ h9 => h9) rfl dX3_copyFrom_12 ?_
  refine lv_aload_n hx hb dX3_copyFrom_15 rfl (lv_at hl 1 rfl) ?_
  refine c_get (v := .ref (ad (a1 + 14))) hx hb hts (fun w h => wz_m (inX3 w h)) hown hK hP h1.1 rfl 1 (by decide) (hts _ (wz_m tw_1_166)) (fun _ h9 => h9) rfl dX3_copyFrom_16 ?_
  obtain ⟨r2, hCr2, hE⟩ := st_bo hE
  refine g_callv (va_runV (As := [.ref (ad (a1 + 14))]) (rest := []) ⟨hx, hb, hml, hown, hts⟩ (k_X5_copyFrom hij h0.2.2.1 h1.2.2.1 hCr2) (cwV 1 hts (wz_V tw_3_116 tw_3_117 tw_3_118 tw_1_7 tw_3_119) rfl rfl rfl hdV_X5_copyFrom ⟨Nat.le_of_ble_eq_true rfl, Nat.le_of_ble_eq_true rfl⟩) (g_preV KC_st ZC_st hK hZ hP hS hK.1 (h0.2.2.1.1).1 (ec_o h0.2.2.1.1) rfl) rfl rfl hl.1 rfl (lv_room (Nat.le_of_ble_eq_true rfl)) dX3_copyFrom_19 ⟨Nat.zero_le _, Nat.zero_le _⟩) hS (fun H locs hP hS => ?_)
  refine lv_aload_n hx hb dX3_copyFrom_22 rfl (lv_at hl 0 rfl) ?_
  refine c_get (v := .ref (ad (k + 18))) hx hb hts (fun w h => wz_m (inX3 w h)) hown hK hP h0.1 rfl 2 (by decide) (hts _ (wz_m tw_1_168)) (fun _ h9 => h9) rfl dX3_copyFrom_23 ?_
  refine lv_aload_n hx hb dX3_copyFrom_26 rfl (lv_at hl 1 rfl) ?_
  refine c_get (v := .ref (ad (a1 + 18))) hx hb hts (fun w h => wz_m (inX3 w h)) hown hK hP h1.1 rfl 2 (by decide) (hts _ (wz_m tw_1_168)) (fun _ h9 => h9) rfl dX3_copyFrom_27 ?_
  obtain ⟨r3, hCr3, hE⟩ := st_bo hE
  refine g_callv (va_runV (As := [.ref (ad (a1 + 18))]) (rest := []) ⟨hx, hb, hml, hown, hts⟩ (k_X4_copyFrom hij h0.2.2.2 h1.2.2.2 hCr3) (cwV 1 hts (wz_V tw_3_120 tw_3_121 tw_3_122 tw_1_8 tw_3_123) rfl rfl rfl hdV_X4_copyFrom ⟨Nat.le_of_ble_eq_true rfl, Nat.le_of_ble_eq_true rfl⟩) (g_preV KC_st ZC_st hK hZ hP hS hK.1 (h0.2.2.2.1).1 (ec_o h0.2.2.2.1) rfl) rfl rfl hl.1 rfl (lv_room (Nat.le_of_ble_eq_true rfl)) dX3_copyFrom_30 ⟨Nat.zero_le _, Nat.zero_le _⟩) hS (fun H locs hP hS => ?_)
  refine lv_aload_n hx hb dX3_copyFrom_33 rfl (lv_at hl 0 rfl) ?_
  refine lv_aload_n hx hb dX3_copyFrom_34 rfl (lv_at hl 1 rfl) ?_
  refine c_get (v := .int (r3 a1 3)) hx hb hts (fun w h => wz_m (inX3 w h)) hown hK hP h1.1 rfl 3 (by decide) (hts _ (wz_m tw_1_170)) (fun _ h9 => h9) rfl dX3_copyFrom_35 ?_
  refine c_put hij hx hb hts (fun w h => wz_m (inX3 w h)) tyX3 tyX3_ok nmX3 hown hK hP hS h0.1 rfl 3 (by decide) (hts _ (wz_m tw_1_170)) (fun _ h9 => h9) rfl rfl rfl (fun _ => Nat.le_of_ble_eq_true rfl) (fun _ => rfl) dX3_copyFrom_38 (fun H locs hP hS => ?_)
  obtain ⟨S4, eS4, hE⟩ := st_bv hE
  rw [← eS4] at hP
  replace hE := Option.some.inj hE
  subst hQQ
  exact g_vret hx hb hr hlocks hP hS hE dX3_copyFrom_41
def f_X9_image (S0 : (Nat → Nat → Int32)) : Option (Int32 × (Nat → Nat → Int32)) :=
  bo (f_X9_hasWall S0) (fun (r1 : Int32) => if r1 = 0 then (some ((-103), S0)) else (bo (f_X3_copyFrom 43 S0 22) (fun (r3 : (Nat → Nat → Int32)) => bv (up2 r3 0 7 1) (fun S4 => some (S4 22 3, S4)))))
abbrev rmX9_image : Room := { frames := 3, cells := 0, slots := 0, locals := 65 }
theorem hdV_X9_image : yX9_image.cls = "WitnessWall" ∧ yX9_image.cls ≠ "java/lang/invoke/MethodHandle" ∧ yX9_image.cls ≠ "java/lang/invoke/VarHandle" ∧ (parseMethodDescriptor yX9_image.desc).map (fun d => d.parameters.length) = some 0 := by decide +kernel
set_option maxHeartbeats 4000000 in
set_option maxRecDepth 100000 in
theorem k_X9_image {l : Launch} {D : va_G} {ad : Nat → Nat} {cI cW : ClassId} {tK tC : Nat} (hij : inj 83 ad)  {S0 : (Nat → Nat → Int32)} {r : Int32} {Sr : (Nat → Nat → Int32)} (hE : f_X9_image S0 = some (r, Sr)) {sz : Nat} : Met l yX9_image (wz yX9_image cX9_image 1 (some FieldType.int)) rmX9_image (PG 83 ad (ec ad cI cW) D (KC D cI cW) (ZC tK tC) [.ref (ad 0)] S0 sz) (QGi 83 ad (ec ad cI cW) D r Sr sz) 0 0 (AD 83 ad sz) := by
  unfold f_X9_image at hE
  refine g_start (cc := cX9_image) (maxL := 1) (ret := (some FieldType.int)) (Qc := fun sz => QGi 83 ad (ec ad cI cW) D r Sr sz) (by decide) rfl (Nat.le_of_ble_eq_true rfl) ?_
  intro p e s m args below meth c H locs ls hx hb hr hts hown hlocks hml hK hZ hP hS hl
  replace hl : lv_has ls 1 [(0, .ref (ad 0))] := hl
  obtain ⟨QQ, hQQ⟩ : ∃ q, q = MQ below (QGi 83 ad (ec ad cI cW) D r Sr s.heap.size) args s 0 0 (AD 83 ad s.heap.size) := ⟨_, rfl⟩
  rw [← hQQ]
  refine lv_aload_n hx hb dX9_image_0 rfl (lv_at hl 0 rfl) ?_
  obtain ⟨r1, hCr1, hE⟩ := st_bo hE
  refine g_calli (va_runV (As := []) (rest := []) ⟨hx, hb, hml, hown, hts⟩ (k_X9_hasWall hij hCr1) (cwV 0 hts (wz_V tw_2_172 tw_2_174 tp_1 tw_1_1 tw_2_175) rfl rfl rfl hdV_X9_hasWall ⟨Nat.le_of_ble_eq_true rfl, Nat.le_of_ble_eq_true rfl⟩) (g_preV KC_st ZC_st hK hZ hP hS hK.1 ((q_WW (ad := ad) (cI := cI) (cW := cW))).1 (ec_o (q_WW (ad := ad) (cI := cI) (cW := cW))) rfl) rfl rfl hl.1 rfl (lv_room (Nat.le_of_ble_eq_true rfl)) dX9_image_1 ⟨Nat.zero_le _, Nat.zero_le _⟩) hS (fun H locs hP hS => ?_)
  refine lv_if_ne (tgt := 10) hx hb dX9_image_4 (by decide) (fun hc2 => ?_) (fun hc2 => ?_)
  · have hE := st_f hE hc2
    refine lv_aload_n hx hb dX9_image_10 rfl (lv_at hl 0 rfl) ?_
    refine c_get (v := .ref (ad 43)) hx hb hts (fun w h => wz_m (inX9 w h)) hown hK hP (q_WW (ad := ad) (cI := cI) (cW := cW)) rfl 3 (by decide) (hts _ (wz_m tw_1_212)) (fun _ h9 => h9) rfl dX9_image_11 ?_
    refine lv_aload_n hx hb dX9_image_14 rfl (lv_at hl 0 rfl) ?_
    refine c_get (v := .ref (ad 22)) hx hb hts (fun w h => wz_m (inX9 w h)) hown hK hP (q_WW (ad := ad) (cI := cI) (cW := cW)) rfl 2 (by decide) (hts _ (wz_m tw_1_211)) (fun _ h9 => h9) rfl dX9_image_15 ?_
    obtain ⟨r3, hCr3, hE⟩ := st_bo hE
    refine g_callv (va_runV (As := [.ref (ad 22)]) (rest := []) ⟨hx, hb, hml, hown, hts⟩ (k_X3_copyFrom hij (q_Scene_43 (ad := ad) (cI := cI) (cW := cW)) (q_Scene_22 (ad := ad) (cI := cI) (cW := cW)) hCr3) (cwV 1 hts (wz_V tw_3_112 tw_3_113 tw_3_114 tw_1_6 tw_3_115) rfl rfl rfl hdV_X3_copyFrom ⟨Nat.le_of_ble_eq_true rfl, Nat.le_of_ble_eq_true rfl⟩) (g_preV KC_st ZC_st hK hZ hP hS hK.1 ((q_Scene_43 (ad := ad) (cI := cI) (cW := cW)).1).1 (ec_o (q_Scene_43 (ad := ad) (cI := cI) (cW := cW)).1) rfl) rfl rfl hl.1 rfl (lv_room (Nat.le_of_ble_eq_true rfl)) dX9_image_18 ⟨Nat.zero_le _, Nat.zero_le _⟩) hS (fun H locs hP hS => ?_)
    refine lv_aload_n hx hb dX9_image_21 rfl (lv_at hl 0 rfl) ?_
    refine lv_iconst (v := 1) hx hb dX9_image_22 (by decide) ?_
    refine c_put hij hx hb hts (fun w h => wz_m (inX9 w h)) tyX9 tyX9_ok nmX9 hown hK hP hS (q_WW (ad := ad) (cI := cI) (cW := cW)) rfl 7 (by decide) (hts _ (wz_m tw_1_216)) (fun _ h9 => h9) rfl (by first | rfl | (split <;> rfl)) rfl (fun _ => Nat.le_of_ble_eq_true rfl) (fun _ => rfl) dX9_image_23 (fun H locs hP hS => ?_)
    obtain ⟨S4, eS4, hE⟩ := st_bv hE
    rw [← eS4] at hP
    refine lv_aload_n hx hb dX9_image_26 rfl (lv_at hl 0 rfl) ?_
    refine c_get (v := .ref (ad 22)) hx hb hts (fun w h => wz_m (inX9 w h)) hown hK hP (q_WW (ad := ad) (cI := cI) (cW := cW)) rfl 2 (by decide) (hts _ (wz_m tw_1_211)) (fun _ h9 => h9) rfl dX9_image_27 ?_
    refine c_getN (v := .int (S4 22 3)) hx hb hts (fun w h => wz_m (inX3 w h)) hown hK hP (q_Scene_22 (ad := ad) (cI := cI) (cW := cW)).1 rfl 3 (by decide) (List.mem_of_getElem? (i := 32) rfl) (fun _ h9 => h9) rfl dX9_image_30 ?_
    replace hE := Option.some.inj hE
    have hq := Prod.mk.inj hE
    subst hQQ
    exact g_iret hx hb hr hlocks hP hS hq.1 hq.2 dX9_image_33
  · have hE := st_t hE hc2
    refine lv_bipush (v := (-103)) hx hb dX9_image_7 (by decide) ?_
    replace hE := Option.some.inj hE
    have hq := Prod.mk.inj hE
    subst hQQ
    exact g_iret hx hb hr hlocks hP hS hq.1 hq.2 dX9_image_9
def f_X2_write (S0 : (Nat → Nat → Int32)) (a1 : Int32) : Option ((Nat → Nat → Int32)) :=
  if 54 ≤ (S0 1 3) then (some S0) else (gd (inb (S0 1 3) 54) (bv (up2 S0 2 ((S0 1 3).toNatClampNeg) a1) (fun S3 => bv (up2 S3 1 3 ((S3 1 3) + 1)) (fun S4 => some S4))))
abbrev rmX2_write : Room := { frames := 0, cells := 0, slots := 0, locals := 0 }
theorem hdV_X2_write : yX2_write.cls = "WitnessWall$Page" ∧ yX2_write.cls ≠ "java/lang/invoke/MethodHandle" ∧ yX2_write.cls ≠ "java/lang/invoke/VarHandle" ∧ (parseMethodDescriptor yX2_write.desc).map (fun d => d.parameters.length) = some 1 := by decide +kernel
set_option maxHeartbeats 4000000 in
set_option maxRecDepth 100000 in
theorem k_X2_write {l : Launch} {D : va_G} {ad : Nat → Nat} {cI cW : ClassId} {tK tC : Nat} (hij : inj 83 ad)  {S0 : (Nat → Nat → Int32)} {a1 : Int32} {Sr : (Nat → Nat → Int32)} (hE : f_X2_write S0 a1 = some Sr) {sz : Nat} : Met l yX2_write (wz yX2_write cX2_write 2 none) rmX2_write (PG 83 ad (ec ad cI cW) D (KC D cI cW) (ZC tK tC) [.ref (ad 1), .int a1] S0 sz) (QGv 83 ad (ec ad cI cW) D Sr sz) 0 0 (AD 83 ad sz) := by
  unfold f_X2_write at hE
  refine g_start (cc := cX2_write) (maxL := 2) (ret := none) (Qc := fun sz => QGv 83 ad (ec ad cI cW) D Sr sz) (by decide) rfl (Nat.le_of_ble_eq_true rfl) ?_
  intro p e s m args below meth c H locs ls hx hb hr hts hown hlocks hml hK hZ hP hS hl
  replace hl : lv_has ls 2 [(0, .ref (ad 1)), (1, .int a1)] := hl
  obtain ⟨QQ, hQQ⟩ : ∃ q, q = MQ below (QGv 83 ad (ec ad cI cW) D Sr s.heap.size) args s 0 0 (AD 83 ad s.heap.size) := ⟨_, rfl⟩
  rw [← hQQ]
  refine lv_aload_n hx hb dX2_write_0 rfl (lv_at hl 0 rfl) ?_
  refine c_get (v := .int (S0 1 3)) hx hb hts (fun w h => wz_m (inX2 w h)) hown hK hP (q_Page_1 (ad := ad) (cI := cI) (cW := cW)).1 rfl 3 (by decide) (hts _ (wz_m tw_1_98)) (fun _ h9 => h9) rfl dX2_write_1 ?_
  refine lv_bipush (v := 54) hx hb dX2_write_4 (by decide) ?_
  refine lv_icmp_ge (tgt := 29) hx hb dX2_write_6 (by decide) (fun hc1 => ?_) (fun hc1 => ?_)
  · have hE := st_t hE hc1
    replace hE := Option.some.inj hE
    subst hQQ
    exact g_vret hx hb hr hlocks hP hS hE dX2_write_29
  · have hE := st_f hE hc1
    refine lv_aload_n hx hb dX2_write_9 rfl (lv_at hl 0 rfl) ?_
    refine c_get (v := .ref (ad 2)) hx hb hts (fun w h => wz_m (inX2 w h)) hown hK hP (q_Page_1 (ad := ad) (cI := cI) (cW := cW)).1 rfl 0 (by decide) (hts _ (wz_m tw_1_92)) (fun _ h9 => h9) rfl dX2_write_10 ?_
    refine lv_aload_n hx hb dX2_write_13 rfl (lv_at hl 0 rfl) ?_
    refine c_get (v := .int (S0 1 3)) hx hb hts (fun w h => wz_m (inX2 w h)) hown hK hP (q_Page_1 (ad := ad) (cI := cI) (cW := cW)).1 rfl 3 (by decide) (hts _ (wz_m tw_1_98)) (fun _ h9 => h9) rfl dX2_write_14 ?_
    refine lv_iload_n hx hb dX2_write_17 rfl (lv_at hl 1 rfl) ?_
    obtain ⟨hi2, hE⟩ := st_gd hE
    refine c_iast hij hx hb hK hP hS (q_Page_1 (ad := ad) (cI := cI) (cW := cW)).2.1 hi2 dX2_write_18 (fun H locs hP hS => ?_)
    obtain ⟨S3, eS3, hE⟩ := st_bv hE
    rw [← eS3] at hP
    refine lv_aload_n hx hb dX2_write_19 rfl (lv_at hl 0 rfl) ?_
    refine lv_dup hx hb dX2_write_20 rfl ?_
    refine c_get (v := .int (S3 1 3)) hx hb hts (fun w h => wz_m (inX2 w h)) hown hK hP (q_Page_1 (ad := ad) (cI := cI) (cW := cW)).1 rfl 3 (by decide) (hts _ (wz_m tw_1_98)) (fun _ h9 => h9) rfl dX2_write_21 ?_
    refine lv_iconst (v := 1) hx hb dX2_write_24 (by decide) ?_
    refine lv_iadd hx hb dX2_write_25 ?_
    refine c_put hij hx hb hts (fun w h => wz_m (inX2 w h)) tyX2 tyX2_ok nmX2 hown hK hP hS (q_Page_1 (ad := ad) (cI := cI) (cW := cW)).1 rfl 3 (by decide) (hts _ (wz_m tw_1_98)) (fun _ h9 => h9) rfl rfl rfl (fun _ => Nat.le_of_ble_eq_true rfl) (fun _ => rfl) dX2_write_26 (fun H locs hP hS => ?_)
    obtain ⟨S4, eS4, hE⟩ := st_bv hE
    rw [← eS4] at hP
    replace hE := Option.some.inj hE
    subst hQQ
    exact g_vret hx hb hr hlocks hP hS hE dX2_write_29

def f_X9_said (S0 : (Nat → Nat → Int32)) (a1 : Int32) : Option (Int32 × (Nat → Nat → Int32)) :=
  bo (f_X9_isThing a1) (fun (r1 : Int32) => if r1 = 0 then (some ((-102), S0)) else (bo (f_X9_hasWall S0) (fun (r3 : Int32) => if r3 = 0 then (some ((-103), S0)) else (bo (f_X1_everyone 23 S0) (fun (r5 : Int32) => bo (f_X1_saidAmong 23 S0 r5 a1) (fun (r6 : Int32 × (Nat → Nat → Int32)) => some (r6.1, r6.2)))))))
abbrev rmX9_said : Room := { frames := 3, cells := 0, slots := 0, locals := 71 }
theorem hdV_X9_said : yX9_said.cls = "WitnessWall" ∧ yX9_said.cls ≠ "java/lang/invoke/MethodHandle" ∧ yX9_said.cls ≠ "java/lang/invoke/VarHandle" ∧ (parseMethodDescriptor yX9_said.desc).map (fun d => d.parameters.length) = some 1 := by decide +kernel
set_option maxHeartbeats 4000000 in
set_option maxRecDepth 100000 in
theorem k_X9_said {l : Launch} {D : va_G} {ad : Nat → Nat} {cI cW : ClassId} {tK tC : Nat} (hij : inj 83 ad)  {S0 : (Nat → Nat → Int32)} {a1 : Int32} {r : Int32} {Sr : (Nat → Nat → Int32)} (hE : f_X9_said S0 a1 = some (r, Sr)) {sz : Nat} : Met l yX9_said (wz yX9_said cX9_said 2 (some FieldType.int)) rmX9_said (PG 83 ad (ec ad cI cW) D (KC D cI cW) (ZC tK tC) [.ref (ad 0), .int a1] S0 sz) (QGi 83 ad (ec ad cI cW) D r Sr sz) 0 0 (AD 83 ad sz) := by
  unfold f_X9_said at hE
  refine g_start (cc := cX9_said) (maxL := 2) (ret := (some FieldType.int)) (Qc := fun sz => QGi 83 ad (ec ad cI cW) D r Sr sz) (by decide) rfl (Nat.le_of_ble_eq_true rfl) ?_
  intro p e s m args below meth c H locs ls hx hb hr hts hown hlocks hml hK hZ hP hS hl
  replace hl : lv_has ls 2 [(0, .ref (ad 0)), (1, .int a1)] := hl
  obtain ⟨QQ, hQQ⟩ : ∃ q, q = MQ below (QGi 83 ad (ec ad cI cW) D r Sr s.heap.size) args s 0 0 (AD 83 ad s.heap.size) := ⟨_, rfl⟩
  rw [← hQQ]
  refine lv_iload_n hx hb dX9_said_0 rfl (lv_at hl 1 rfl) ?_
  obtain ⟨r1, hCr1, hE⟩ := st_bo hE
  refine g_calli (va_runS (As := [.int a1]) (rest := []) ⟨hx, hb, hml, hown, hts⟩ (k_X9_isThing hij (S0 := S0) hCr1) (va_cwS 1 hts (wz_S tw_2_166 tw_2_54 tw_1_1 tw_2_55) rfl rfl rfl hdS_X9_isThing ⟨Nat.le_of_ble_eq_true rfl, Nat.le_of_ble_eq_true rfl⟩) (g_preS KC_st ZC_st hK hZ hP hS) rfl rfl hl.1 rfl (lv_room (Nat.le_of_ble_eq_true rfl)) dX9_said_1 ⟨Nat.zero_le _, Nat.zero_le _⟩) hS (fun H locs hP hS => ?_)
  refine lv_if_ne (tgt := 10) hx hb dX9_said_4 (by decide) (fun hc2 => ?_) (fun hc2 => ?_)
  · have hE := st_f hE hc2
    refine lv_aload_n hx hb dX9_said_10 rfl (lv_at hl 0 rfl) ?_
    obtain ⟨r3, hCr3, hE⟩ := st_bo hE
    refine g_calli (va_runV (As := []) (rest := []) ⟨hx, hb, hml, hown, hts⟩ (k_X9_hasWall hij hCr3) (cwV 0 hts (wz_V tw_2_172 tw_2_174 tp_1 tw_1_1 tw_2_175) rfl rfl rfl hdV_X9_hasWall ⟨Nat.le_of_ble_eq_true rfl, Nat.le_of_ble_eq_true rfl⟩) (g_preV KC_st ZC_st hK hZ hP hS hK.1 ((q_WW (ad := ad) (cI := cI) (cW := cW))).1 (ec_o (q_WW (ad := ad) (cI := cI) (cW := cW))) rfl) rfl rfl hl.1 rfl (lv_room (Nat.le_of_ble_eq_true rfl)) dX9_said_11 ⟨Nat.zero_le _, Nat.zero_le _⟩) hS (fun H locs hP hS => ?_)
    refine lv_if_ne (tgt := 20) hx hb dX9_said_14 (by decide) (fun hc4 => ?_) (fun hc4 => ?_)
    · have hE := st_f hE hc4
      refine lv_aload_n hx hb dX9_said_20 rfl (lv_at hl 0 rfl) ?_
      refine c_get (v := .ref (ad 22)) hx hb hts (fun w h => wz_m (inX9 w h)) hown hK hP (q_WW (ad := ad) (cI := cI) (cW := cW)) rfl 2 (by decide) (hts _ (wz_m tw_1_211)) (fun _ h9 => h9) rfl dX9_said_21 ?_
      refine c_getN (v := .ref (ad 23)) hx hb hts (fun w h => wz_m (inX3 w h)) hown hK hP (q_Scene_22 (ad := ad) (cI := cI) (cW := cW)).1 rfl 0 (by decide) (List.mem_of_getElem? (i := 29) rfl) (fun _ h9 => h9) rfl dX9_said_24 ?_
      refine lv_aload_n hx hb dX9_said_27 rfl (lv_at hl 0 rfl) ?_
      refine c_get (v := .ref (ad 22)) hx hb hts (fun w h => wz_m (inX9 w h)) hown hK hP (q_WW (ad := ad) (cI := cI) (cW := cW)) rfl 2 (by decide) (hts _ (wz_m tw_1_211)) (fun _ h9 => h9) rfl dX9_said_28 ?_
      refine c_getN (v := .ref (ad 23)) hx hb hts (fun w h => wz_m (inX3 w h)) hown hK hP (q_Scene_22 (ad := ad) (cI := cI) (cW := cW)).1 rfl 0 (by decide) (List.mem_of_getElem? (i := 29) rfl) (fun _ h9 => h9) rfl dX9_said_31 ?_
      obtain ⟨r5, hCr5, hE⟩ := st_bo hE
      refine g_calli (va_runV (As := []) (rest := [.ref (ad 23)]) ⟨hx, hb, hml, hown, hts⟩ (k_X1_everyone hij (q_Hall_23 (ad := ad) (cI := cI) (cW := cW)) hCr5) (cwV 0 hts (wz_V tw_2_176 tw_2_177 tw_2_178 tw_1_3 tw_2_179) rfl rfl rfl hdV_X1_everyone ⟨Nat.le_of_ble_eq_true rfl, Nat.le_of_ble_eq_true rfl⟩) (g_preV KC_st ZC_st hK hZ hP hS hK.1 ((q_Hall_23 (ad := ad) (cI := cI) (cW := cW)).1).1 (ec_o (q_Hall_23 (ad := ad) (cI := cI) (cW := cW)).1) rfl) rfl rfl hl.1 rfl (lv_room (Nat.le_of_ble_eq_true rfl)) dX9_said_34 ⟨Nat.zero_le _, Nat.zero_le _⟩) hS (fun H locs hP hS => ?_)
      refine lv_iload_n hx hb dX9_said_37 rfl (lv_at hl 1 rfl) ?_
      obtain ⟨r6, hCr6, hE⟩ := st_bo hE
      refine g_calli (va_runV (As := [.int r5, .int a1]) (rest := []) ⟨hx, hb, hml, hown, hts⟩ (k_X1_saidAmong hij (q_Hall_23 (ad := ad) (cI := cI) (cW := cW)) hCr6) (cwV 2 hts (wz_V tw_2_180 tw_2_181 tw_2_182 tw_1_3 tw_2_183) rfl rfl rfl hdV_X1_saidAmong ⟨Nat.le_of_ble_eq_true rfl, Nat.le_of_ble_eq_true rfl⟩) (g_preV KC_st ZC_st hK hZ hP hS hK.1 ((q_Hall_23 (ad := ad) (cI := cI) (cW := cW)).1).1 (ec_o (q_Hall_23 (ad := ad) (cI := cI) (cW := cW)).1) rfl) rfl rfl hl.1 rfl (lv_room (Nat.le_of_ble_eq_true rfl)) dX9_said_38 ⟨Nat.zero_le _, Nat.zero_le _⟩) hS (fun H locs hP hS => ?_)
      replace hE := Option.some.inj hE
      have hq := Prod.mk.inj hE
      subst hQQ
      exact g_iret hx hb hr hlocks hP hS hq.1 hq.2 dX9_said_41
    · have hE := st_t hE hc4
      refine lv_bipush (v := (-103)) hx hb dX9_said_17 (by decide) ?_
      replace hE := Option.some.inj hE
      have hq := Prod.mk.inj hE
      subst hQQ
      exact g_iret hx hb hr hlocks hP hS hq.1 hq.2 dX9_said_19
  · have hE := st_t hE hc2
    refine lv_bipush (v := (-102)) hx hb dX9_said_7 (by decide) ?_
    replace hE := Option.some.inj hE
    have hq := Prod.mk.inj hE
    subst hQQ
    exact g_iret hx hb hr hlocks hP hS hq.1 hq.2 dX9_said_9
def b_X7_copyFrom_18 (k : Nat) (a1 : Nat) (c6 : Int32) (c7 : (Nat → Nat → Int32)) : Option ((Int32 × (Nat → Nat → Int32)) ⊕ ((Nat → Nat → Int32))) :=
  if 3 ≤ c6 then (some (.inr c7)) else (gd (inb c6 3) (gd (inb c6 3) (bv (up2 c7 (k + 1) (c6.toNatClampNeg) (c7 (a1 + 1) (c6.toNatClampNeg))) (fun S11 => bv (c6 + 1) (fun (v12 : Int32) => some (.inl (v12, S11)))))))
def f_X7_copyFrom (k : Nat) (S0 : (Nat → Nat → Int32)) (a1 : Nat) : Option ((Nat → Nat → Int32)) :=
  bv (up2 S0 k 2 (S0 a1 2)) (fun S1 => bv (up2 S1 k 1 (S1 a1 1)) (fun S2 => bo (lp (fun (s3 : Int32 × (Nat → Nat → Int32)) => b_X7_copyFrom_18 k a1 s3.1 s3.2) 5000 (0, S2)) (fun (x4 : (Nat → Nat → Int32)) => some x4)))
abbrev rmX7_copyFrom : Room := { frames := 0, cells := 0, slots := 0, locals := 0 }
theorem hdV_X7_copyFrom : yX7_copyFrom.cls = "WitnessWall$Witness" ∧ yX7_copyFrom.cls ≠ "java/lang/invoke/MethodHandle" ∧ yX7_copyFrom.cls ≠ "java/lang/invoke/VarHandle" ∧ (parseMethodDescriptor yX7_copyFrom.desc).map (fun d => d.parameters.length) = some 1 := by decide +kernel
set_option maxHeartbeats 4000000 in
set_option maxRecDepth 100000 in
theorem k_X7_copyFrom {l : Launch} {D : va_G} {ad : Nat → Nat} {cI cW : ClassId} {tK tC : Nat} (hij : inj 83 ad) {k : Nat} (h0 : iWit ad cI cW k) {S0 : (Nat → Nat → Int32)} {a1 : Nat} (h1 : iWit ad cI cW a1) {Sr : (Nat → Nat → Int32)} (hE : f_X7_copyFrom k S0 a1 = some Sr) {sz : Nat} : Met l yX7_copyFrom (wz yX7_copyFrom cX7_copyFrom 3 none) rmX7_copyFrom (PG 83 ad (ec ad cI cW) D (KC D cI cW) (ZC tK tC) [.ref (ad k), .ref (ad a1)] S0 sz) (QGv 83 ad (ec ad cI cW) D Sr sz) 0 0 (AD 83 ad sz) := by
  unfold f_X7_copyFrom at hE
  refine g_start (cc := cX7_copyFrom) (maxL := 3) (ret := none) (Qc := fun sz => QGv 83 ad (ec ad cI cW) D Sr sz) (by decide) rfl (Nat.le_of_ble_eq_true rfl) ?_
  intro p e s m args below meth c H locs ls hx hb hr hts hown hlocks hml hK hZ hP hS hl
  replace hl : lv_has ls 3 [(0, .ref (ad k)), (1, .ref (ad a1))] := hl
  obtain ⟨QQ, hQQ⟩ : ∃ q, q = MQ below (QGv 83 ad (ec ad cI cW) D Sr s.heap.size) args s 0 0 (AD 83 ad s.heap.size) := ⟨_, rfl⟩
  rw [← hQQ]
  refine lv_aload_n hx hb dX7_copyFrom_0 rfl (lv_at hl 0 rfl) ?_
  refine lv_aload_n hx hb dX7_copyFrom_1 rfl (lv_at hl 1 rfl) ?_
  refine c_get (v := .int (S0 a1 2)) hx hb hts (fun w h => wz_m (inX7 w h)) hown hK hP h1.1 rfl 2 (by decide) (hts _ (wz_m tw_1_45)) (fun _ h9 => h9) rfl dX7_copyFrom_2 ?_
  refine c_put hij hx hb hts (fun w h => wz_m (inX7 w h)) tyX7 tyX7_ok nmX7 hown hK hP hS h0.1 rfl 2 (by decide) (hts _ (wz_m tw_1_45)) (fun _ h9 => h9) rfl rfl rfl (fun _ => Nat.le_of_ble_eq_true rfl) (fun _ => rfl) dX7_copyFrom_5 (fun H locs hP hS => ?_)
  obtain ⟨S1, eS1, hE⟩ := st_bv hE
  rw [← eS1] at hP
  refine lv_aload_n hx hb dX7_copyFrom_8 rfl (lv_at hl 0 rfl) ?_
  refine lv_aload_n hx hb dX7_copyFrom_9 rfl (lv_at hl 1 rfl) ?_
  refine c_get (v := .int (S1 a1 1)) hx hb hts (fun w h => wz_m (inX7 w h)) hown hK hP h1.1 rfl 1 (by decide) (hts _ (wz_m tw_1_42)) (fun _ h9 => h9) rfl dX7_copyFrom_10 ?_
  refine c_put hij hx hb hts (fun w h => wz_m (inX7 w h)) tyX7 tyX7_ok nmX7 hown hK hP hS h0.1 rfl 1 (by decide) (hts _ (wz_m tw_1_42)) (fun _ h9 => h9) rfl rfl rfl (fun _ => Nat.le_of_ble_eq_true rfl) (fun _ => rfl) dX7_copyFrom_13 (fun H locs hP hS => ?_)
  obtain ⟨S2, eS2, hE⟩ := st_bv hE
  rw [← eS2] at hP
  refine lv_iconst (v := 0) hx hb dX7_copyFrom_16 (by decide) ?_
  refine lv_istore_n (lv' := [(2, .int 0), (0, .ref (ad k)), (1, .ref (ad a1))]) hx hb dX7_copyFrom_17 rfl hl (by decide) rfl (fun ls hl => ?_)
  obtain ⟨x4, hx4, hE⟩ := st_bo hE
  refine lp_walk (body := fun (s3 : Int32 × (Nat → Nat → Int32)) => b_X7_copyFrom_18 k a1 s3.1 s3.2) (fun s3 => ∀ (ls : Array Slot) (H : Heap) (locs : List Loc), lv_has ls 3 [(0, .ref (ad k)), (1, .ref (ad a1)), (2, .int s3.1)] → cP D ad cI cW s3.2 H → cS ad s H locs → W p l e rmX7_copyFrom s m args below meth c H locs 0 0 QQ (F0 m 18 ls [])) (fun x4 => ∀ (ls : Array Slot) (H : Heap) (locs : List Loc), lv_has ls 3 [] → cP D ad cI cW x4 H → cS ad s H locs → W p l e rmX7_copyFrom s m args below meth c H locs 0 0 QQ (F0 m 41 ls [])) ?_ _ _ _ hx4 ?_ ls H locs (lv_sub hl [1, 2, 0] rfl) hP hS
  · intro s3 t5 hE hKt5 ls H locs hl hP hS
    obtain ⟨c6, c7⟩ := s3
    replace hE : b_X7_copyFrom_18 k a1 c6 c7 = some t5 := hE
    replace hl : lv_has ls 3 [(0, .ref (ad k)), (1, .ref (ad a1)), (2, .int c6)] := hl
    replace hP : cP D ad cI cW c7 H := hP
    unfold b_X7_copyFrom_18 at hE
    refine lv_iload_n hx hb dX7_copyFrom_18 rfl (lv_at hl 2 rfl) ?_
    refine lv_iconst (v := 3) hx hb dX7_copyFrom_19 (by decide) ?_
    refine lv_icmp_ge (tgt := 41) hx hb dX7_copyFrom_20 (by decide) (fun hc8 => ?_) (fun hc8 => ?_)
    · have hE := st_t hE hc8
      have hq := Option.some.inj hE
      subst hq
      exact hKt5 ls H locs (lv_sub hl [] rfl) hP hS
    · have hE := st_f hE hc8
      refine lv_aload_n hx hb dX7_copyFrom_23 rfl (lv_at hl 0 rfl) ?_
      refine c_get (v := .ref (ad (k + 1))) hx hb hts (fun w h => wz_m (inX7 w h)) hown hK hP h0.1 rfl 0 (by decide) (hts _ (wz_m tw_1_41)) (fun _ h9 => h9) rfl dX7_copyFrom_24 ?_
      refine lv_iload_n hx hb dX7_copyFrom_27 rfl (lv_at hl 2 rfl) ?_
      refine lv_aload_n hx hb dX7_copyFrom_28 rfl (lv_at hl 1 rfl) ?_
      refine c_get (v := .ref (ad (a1 + 1))) hx hb hts (fun w h => wz_m (inX7 w h)) hown hK hP h1.1 rfl 0 (by decide) (hts _ (wz_m tw_1_41)) (fun _ h9 => h9) rfl dX7_copyFrom_29 ?_
      refine lv_iload_n hx hb dX7_copyFrom_32 rfl (lv_at hl 2 rfl) ?_
      obtain ⟨hi9, hE⟩ := st_gd hE
      refine c_iald hx hb hK hP h1.2 hi9 dX7_copyFrom_33 ?_
      obtain ⟨hi10, hE⟩ := st_gd hE
      refine c_iast hij hx hb hK hP hS h0.2 hi10 dX7_copyFrom_34 (fun H locs hP hS => ?_)
      obtain ⟨S11, eS11, hE⟩ := st_bv hE
      rw [← eS11] at hP
      obtain ⟨v12, ev12, hE⟩ := st_bv hE
      refine lv_iinc (v := v12) (lv' := [(2, .int v12), (0, .ref (ad k)), (1, .ref (ad a1))]) hx hb dX7_copyFrom_35 hl (k := 2) rfl (by rw [ev12]; rfl) (by decide) rfl (fun ls hl => ?_)
      refine lv_goto (tgt := 18) hx hb dX7_copyFrom_38 (by decide) ?_
      have hq := Option.some.inj hE
      subst hq
      exact hKt5 ls H locs (lv_sub hl [1, 2, 0] rfl) hP hS
  · intro ls H locs hl hP hS
    replace hE := Option.some.inj hE
    subst hQQ
    exact g_vret hx hb hr hlocks hP hS hE dX7_copyFrom_41
def b_X1_copyFrom_10 (k : Nat) (a1 : Nat) (c5 : Int32) (c6 : (Nat → Nat → Int32)) : Option ((Int32 × (Nat → Nat → Int32)) ⊕ ((Nat → Nat → Int32))) :=
  if (c6 k 2) ≤ c5 then (some (.inr c6)) else (gd (inb c5 5) (gd (inb c5 5) (bo (f_X7_copyFrom (k + 3 + 2 * c5.toNatClampNeg) c6 (a1 + 3 + 2 * c5.toNatClampNeg)) (fun (r10 : (Nat → Nat → Int32)) => bv (c5 + 1) (fun (v11 : Int32) => some (.inl (v11, r10)))))))
def f_X1_copyFrom (k : Nat) (S0 : (Nat → Nat → Int32)) (a1 : Nat) : Option ((Nat → Nat → Int32)) :=
  bv (up2 S0 k 2 (S0 a1 2)) (fun S1 => bo (lp (fun (s2 : Int32 × (Nat → Nat → Int32)) => b_X1_copyFrom_10 k a1 s2.1 s2.2) 5000 (0, S1)) (fun (x3 : (Nat → Nat → Int32)) => some x3))
abbrev rmX1_copyFrom : Room := { frames := 1, cells := 0, slots := 0, locals := 22 }
theorem hdV_X1_copyFrom : yX1_copyFrom.cls = "WitnessWall$Hall" ∧ yX1_copyFrom.cls ≠ "java/lang/invoke/MethodHandle" ∧ yX1_copyFrom.cls ≠ "java/lang/invoke/VarHandle" ∧ (parseMethodDescriptor yX1_copyFrom.desc).map (fun d => d.parameters.length) = some 1 := by decide +kernel
set_option maxHeartbeats 4000000 in
set_option maxRecDepth 100000 in
theorem k_X1_copyFrom {l : Launch} {D : va_G} {ad : Nat → Nat} {cI cW : ClassId} {tK tC : Nat} (hij : inj 83 ad) {k : Nat} (h0 : iHall ad cI cW k) {S0 : (Nat → Nat → Int32)} {a1 : Nat} (h1 : iHall ad cI cW a1) {Sr : (Nat → Nat → Int32)} (hE : f_X1_copyFrom k S0 a1 = some Sr) {sz : Nat} : Met l yX1_copyFrom (wz yX1_copyFrom cX1_copyFrom 3 none) rmX1_copyFrom (PG 83 ad (ec ad cI cW) D (KC D cI cW) (ZC tK tC) [.ref (ad k), .ref (ad a1)] S0 sz) (QGv 83 ad (ec ad cI cW) D Sr sz) 0 0 (AD 83 ad sz) := by
  unfold f_X1_copyFrom at hE
  refine g_start (cc := cX1_copyFrom) (maxL := 3) (ret := none) (Qc := fun sz => QGv 83 ad (ec ad cI cW) D Sr sz) (by decide) rfl (Nat.le_of_ble_eq_true rfl) ?_
  intro p e s m args below meth c H locs ls hx hb hr hts hown hlocks hml hK hZ hP hS hl
  replace hl : lv_has ls 3 [(0, .ref (ad k)), (1, .ref (ad a1))] := hl
  obtain ⟨QQ, hQQ⟩ : ∃ q, q = MQ below (QGv 83 ad (ec ad cI cW) D Sr s.heap.size) args s 0 0 (AD 83 ad s.heap.size) := ⟨_, rfl⟩
  rw [← hQQ]
  refine lv_aload_n hx hb dX1_copyFrom_0 rfl (lv_at hl 0 rfl) ?_
  refine lv_aload_n hx hb dX1_copyFrom_1 rfl (lv_at hl 1 rfl) ?_
  refine c_get (v := .int (S0 a1 2)) hx hb hts (fun w h => wz_m (inX1 w h)) hown hK hP h1.1 rfl 2 (by decide) (hts _ (wz_m tw_1_60)) (fun _ h9 => h9) rfl dX1_copyFrom_2 ?_
  refine c_put hij hx hb hts (fun w h => wz_m (inX1 w h)) tyX1 tyX1_ok nmX1 hown hK hP hS h0.1 rfl 2 (by decide) (hts _ (wz_m tw_1_60)) (fun _ h9 => h9) rfl rfl rfl (fun _ => Nat.le_of_ble_eq_true rfl) (fun _ => rfl) dX1_copyFrom_5 (fun H locs hP hS => ?_)
  obtain ⟨S1, eS1, hE⟩ := st_bv hE
  rw [← eS1] at hP
  refine lv_iconst (v := 0) hx hb dX1_copyFrom_8 (by decide) ?_
  refine lv_istore_n (lv' := [(2, .int 0), (0, .ref (ad k)), (1, .ref (ad a1))]) hx hb dX1_copyFrom_9 rfl hl (by decide) rfl (fun ls hl => ?_)
  obtain ⟨x3, hx3, hE⟩ := st_bo hE
  refine lp_walk (body := fun (s2 : Int32 × (Nat → Nat → Int32)) => b_X1_copyFrom_10 k a1 s2.1 s2.2) (fun s2 => ∀ (ls : Array Slot) (H : Heap) (locs : List Loc), lv_has ls 3 [(0, .ref (ad k)), (1, .ref (ad a1)), (2, .int s2.1)] → cP D ad cI cW s2.2 H → cS ad s H locs → W p l e rmX1_copyFrom s m args below meth c H locs 0 0 QQ (F0 m 10 ls [])) (fun x3 => ∀ (ls : Array Slot) (H : Heap) (locs : List Loc), lv_has ls 3 [] → cP D ad cI cW x3 H → cS ad s H locs → W p l e rmX1_copyFrom s m args below meth c H locs 0 0 QQ (F0 m 39 ls [])) ?_ _ _ _ hx3 ?_ ls H locs (lv_sub hl [1, 2, 0] rfl) hP hS
  · intro s2 t4 hE hKt4 ls H locs hl hP hS
    obtain ⟨c5, c6⟩ := s2
    replace hE : b_X1_copyFrom_10 k a1 c5 c6 = some t4 := hE
    replace hl : lv_has ls 3 [(0, .ref (ad k)), (1, .ref (ad a1)), (2, .int c5)] := hl
    replace hP : cP D ad cI cW c6 H := hP
    unfold b_X1_copyFrom_10 at hE
    refine lv_iload_n hx hb dX1_copyFrom_10 rfl (lv_at hl 2 rfl) ?_
    refine lv_aload_n hx hb dX1_copyFrom_11 rfl (lv_at hl 0 rfl) ?_
    refine c_get (v := .int (c6 k 2)) hx hb hts (fun w h => wz_m (inX1 w h)) hown hK hP h0.1 rfl 2 (by decide) (hts _ (wz_m tw_1_60)) (fun _ h9 => h9) rfl dX1_copyFrom_12 ?_
    refine lv_icmp_ge (tgt := 39) hx hb dX1_copyFrom_15 (by decide) (fun hc7 => ?_) (fun hc7 => ?_)
    · have hE := st_t hE hc7
      have hq := Option.some.inj hE
      subst hq
      exact hKt4 ls H locs (lv_sub hl [] rfl) hP hS
    · have hE := st_f hE hc7
      refine lv_aload_n hx hb dX1_copyFrom_18 rfl (lv_at hl 0 rfl) ?_
      refine c_get (v := .ref (ad (k + 1))) hx hb hts (fun w h => wz_m (inX1 w h)) hown hK hP h0.1 rfl 0 (by decide) (hts _ (wz_m tw_1_55)) (fun _ h9 => h9) rfl dX1_copyFrom_19 ?_
      refine lv_iload_n hx hb dX1_copyFrom_22 rfl (lv_at hl 2 rfl) ?_
      obtain ⟨hi8, hE⟩ := st_gd hE
      refine c_aald hx hb hK hP h0.2.1 hi8 dX1_copyFrom_23 ?_
      refine lv_aload_n hx hb dX1_copyFrom_24 rfl (lv_at hl 1 rfl) ?_
      refine c_get (v := .ref (ad (a1 + 1))) hx hb hts (fun w h => wz_m (inX1 w h)) hown hK hP h1.1 rfl 0 (by decide) (hts _ (wz_m tw_1_55)) (fun _ h9 => h9) rfl dX1_copyFrom_25 ?_
      refine lv_iload_n hx hb dX1_copyFrom_28 rfl (lv_at hl 2 rfl) ?_
      obtain ⟨hi9, hE⟩ := st_gd hE
      refine c_aald hx hb hK hP h1.2.1 hi9 dX1_copyFrom_29 ?_
      obtain ⟨r10, hCr10, hE⟩ := st_bo hE
      refine g_callv (va_runV (As := [.ref (ad (a1 + 3 + 2 * c5.toNatClampNeg))]) (rest := []) ⟨hx, hb, hml, hown, hts⟩ (k_X7_copyFrom hij (h0.2.2.2 _ (st_lt hi8)) (h1.2.2.2 _ (st_lt hi9)) hCr10) (cwV 1 hts (wz_V tw_2_104 tw_2_105 tw_2_106 tw_1_4 tw_2_107) rfl rfl rfl hdV_X7_copyFrom ⟨Nat.le_of_ble_eq_true rfl, Nat.le_of_ble_eq_true rfl⟩) (g_preV KC_st ZC_st hK hZ hP hS hK.1 ((h0.2.2.2 _ (st_lt hi8)).1).1 (ec_o (h0.2.2.2 _ (st_lt hi8)).1) rfl) rfl rfl hl.1 rfl (lv_room (Nat.le_of_ble_eq_true rfl)) dX1_copyFrom_30 ⟨Nat.zero_le _, Nat.zero_le _⟩) hS (fun H locs hP hS => ?_)
      obtain ⟨v11, ev11, hE⟩ := st_bv hE
      refine lv_iinc (v := v11) (lv' := [(2, .int v11), (0, .ref (ad k)), (1, .ref (ad a1))]) hx hb dX1_copyFrom_33 hl (k := 2) rfl (by rw [ev11]; rfl) (by decide) rfl (fun ls hl => ?_)
      refine lv_goto (tgt := 10) hx hb dX1_copyFrom_36 (by decide) ?_
      have hq := Option.some.inj hE
      subst hq
      exact hKt4 ls H locs (lv_sub hl [1, 2, 0] rfl) hP hS
  · intro ls H locs hl hP hS
    replace hE := Option.some.inj hE
    subst hQQ
    exact g_vret hx hb hr hlocks hP hS hE dX1_copyFrom_39
def b_X6_winnableOn_6 (a1 : Int32) (a2 : Nat) (a3 : Nat) (c4 : Int32) (c5 : Int32) (c6 : (Nat → Nat → Int32)) : Option ((Int32 × Int32 × (Nat → Nat → Int32)) ⊕ (Int32 × (Nat → Nat → Int32))) :=
  if (c6 a2 2) ≤ c5 then (some (.inr (c4, c6))) else (gd (inb c5 4) (if (c6 (a2 + 2) (c5.toNatClampNeg)) < a1 then (bv (c5 + 1) (fun (v10 : Int32) => some (.inl (c4, v10, c6)))) else (bo (f_X1_everyone a3 c6) (fun (r11 : Int32) => gd (inb c5 4) (bo (f_X1_saidAmong a3 c6 r11 (c6 (a2 + 1) (c5.toNatClampNeg))) (fun (r13 : Int32 × (Nat → Nat → Int32)) => if r13.1 = (-1) then (bv (c5 + 1) (fun (v15 : Int32) => some (.inl (c4, v15, r13.2)))) else (bv (c4 ||| ((1 : Int32) <<< (c5 &&& 31))) (fun (v16 : Int32) => bv (c5 + 1) (fun (v17 : Int32) => some (.inl (v16, v17, r13.2)))))))))))
def f_X6_winnableOn (S0 : (Nat → Nat → Int32)) (a1 : Int32) (a2 : Nat) (a3 : Nat) : Option (Int32 × (Nat → Nat → Int32)) :=
  bo (lp (fun (s1 : Int32 × Int32 × (Nat → Nat → Int32)) => b_X6_winnableOn_6 a1 a2 a3 s1.1 s1.2.1 s1.2.2) 5000 (0, 0, S0)) (fun (x2 : Int32 × (Nat → Nat → Int32)) => some (x2.1, x2.2))
abbrev rmX6_winnableOn : Room := { frames := 3, cells := 0, slots := 0, locals := 71 }
theorem hdV_X6_winnableOn : yX6_winnableOn.cls = "WitnessWall$Term" ∧ yX6_winnableOn.cls ≠ "java/lang/invoke/MethodHandle" ∧ yX6_winnableOn.cls ≠ "java/lang/invoke/VarHandle" ∧ (parseMethodDescriptor yX6_winnableOn.desc).map (fun d => d.parameters.length) = some 3 := by decide +kernel
set_option maxHeartbeats 4000000 in
set_option maxRecDepth 100000 in
theorem k_X6_winnableOn {l : Launch} {D : va_G} {ad : Nat → Nat} {cI cW : ClassId} {tK tC : Nat} (hij : inj 83 ad)  {S0 : (Nat → Nat → Int32)} {a1 : Int32} {a2 : Nat} (h2 : iCases ad cI cW a2) {a3 : Nat} (h3 : iHall ad cI cW a3) {r : Int32} {Sr : (Nat → Nat → Int32)} (hE : f_X6_winnableOn S0 a1 a2 a3 = some (r, Sr)) {sz : Nat} : Met l yX6_winnableOn (wz yX6_winnableOn cX6_winnableOn 6 (some FieldType.int)) rmX6_winnableOn (PG 83 ad (ec ad cI cW) D (KC D cI cW) (ZC tK tC) [.ref (ad 77), .int a1, .ref (ad a2), .ref (ad a3)] S0 sz) (QGi 83 ad (ec ad cI cW) D r Sr sz) 0 0 (AD 83 ad sz) := by
  unfold f_X6_winnableOn at hE
  refine g_start (cc := cX6_winnableOn) (maxL := 6) (ret := (some FieldType.int)) (Qc := fun sz => QGi 83 ad (ec ad cI cW) D r Sr sz) (by decide) rfl (Nat.le_of_ble_eq_true rfl) ?_
  intro p e s m args below meth c H locs ls hx hb hr hts hown hlocks hml hK hZ hP hS hl
  replace hl : lv_has ls 6 [(0, .ref (ad 77)), (1, .int a1), (2, .ref (ad a2)), (3, .ref (ad a3))] := hl
  obtain ⟨QQ, hQQ⟩ : ∃ q, q = MQ below (QGi 83 ad (ec ad cI cW) D r Sr s.heap.size) args s 0 0 (AD 83 ad s.heap.size) := ⟨_, rfl⟩
  rw [← hQQ]
  refine lv_iconst (v := 0) hx hb dX6_winnableOn_0 (by decide) ?_
  refine lv_istore (lv' := [(4, .int 0), (0, .ref (ad 77)), (1, .int a1), (2, .ref (ad a2)), (3, .ref (ad a3))]) hx hb dX6_winnableOn_1 hl (by decide) rfl (fun ls hl => ?_)
  refine lv_iconst (v := 0) hx hb dX6_winnableOn_3 (by decide) ?_
  refine lv_istore (lv' := [(5, .int 0), (4, .int 0), (0, .ref (ad 77)), (1, .int a1), (2, .ref (ad a2)), (3, .ref (ad a3))]) hx hb dX6_winnableOn_4 hl (by decide) rfl (fun ls hl => ?_)
  obtain ⟨x2, hx2, hE⟩ := st_bo hE
  refine lp_walk (body := fun (s1 : Int32 × Int32 × (Nat → Nat → Int32)) => b_X6_winnableOn_6 a1 a2 a3 s1.1 s1.2.1 s1.2.2) (fun s1 => ∀ (ls : Array Slot) (H : Heap) (locs : List Loc), lv_has ls 6 [(1, .int a1), (2, .ref (ad a2)), (3, .ref (ad a3)), (4, .int s1.1), (5, .int s1.2.1)] → cP D ad cI cW s1.2.2 H → cS ad s H locs → W p l e rmX6_winnableOn s m args below meth c H locs 0 0 QQ (F0 m 6 ls [])) (fun x2 => ∀ (ls : Array Slot) (H : Heap) (locs : List Loc), lv_has ls 6 [(4, .int x2.1)] → cP D ad cI cW x2.2 H → cS ad s H locs → W p l e rmX6_winnableOn s m args below meth c H locs 0 0 QQ (F0 m 60 ls [])) ?_ _ _ _ hx2 ?_ ls H locs (lv_sub hl [3, 4, 5, 1, 0] rfl) hP hS
  · intro s1 t3 hE hKt3 ls H locs hl hP hS
    obtain ⟨c4, c5, c6⟩ := s1
    replace hE : b_X6_winnableOn_6 a1 a2 a3 c4 c5 c6 = some t3 := hE
    replace hl : lv_has ls 6 [(1, .int a1), (2, .ref (ad a2)), (3, .ref (ad a3)), (4, .int c4), (5, .int c5)] := hl
    replace hP : cP D ad cI cW c6 H := hP
    unfold b_X6_winnableOn_6 at hE
    refine lv_iload hx hb dX6_winnableOn_6 (lv_at hl 4 rfl) ?_
    refine lv_aload_n hx hb dX6_winnableOn_8 rfl (lv_at hl 1 rfl) ?_
    refine c_getN (v := .int (c6 a2 2)) hx hb hts (fun w h => wz_m (inX0 w h)) hown hK hP h2.1 rfl 2 (by decide) (List.mem_of_getElem? (i := 14) rfl) (fun _ h9 => h9) rfl dX6_winnableOn_9 ?_
    refine lv_icmp_ge (tgt := 60) hx hb dX6_winnableOn_12 (by decide) (fun hc7 => ?_) (fun hc7 => ?_)
    · have hE := st_t hE hc7
      have hq := Option.some.inj hE
      subst hq
      exact hKt3 ls H locs (lv_sub hl [3] rfl) hP hS
    · have hE := st_f hE hc7
      refine lv_aload_n hx hb dX6_winnableOn_15 rfl (lv_at hl 1 rfl) ?_
      refine c_getN (v := .ref (ad (a2 + 2))) hx hb hts (fun w h => wz_m (inX0 w h)) hown hK hP h2.1 rfl 1 (by decide) (List.mem_of_getElem? (i := 13) rfl) (fun _ h9 => h9) rfl dX6_winnableOn_16 ?_
      refine lv_iload hx hb dX6_winnableOn_19 (lv_at hl 4 rfl) ?_
      obtain ⟨hi8, hE⟩ := st_gd hE
      refine c_iald hx hb hK hP h2.2.2 hi8 dX6_winnableOn_21 ?_
      refine lv_iload_n hx hb dX6_winnableOn_22 rfl (lv_at hl 0 rfl) ?_
      refine lv_icmp_lt (tgt := 54) hx hb dX6_winnableOn_23 (by decide) (fun hc9 => ?_) (fun hc9 => ?_)
      · have hE := st_t hE hc9
        obtain ⟨v10, ev10, hE⟩ := st_bv hE
        refine lv_iinc (v := v10) (lv' := [(5, .int v10), (1, .int a1), (2, .ref (ad a2)), (3, .ref (ad a3)), (4, .int c4)]) hx hb dX6_winnableOn_54 hl (k := 4) rfl (by rw [ev10]; rfl) (by decide) rfl (fun ls hl => ?_)
        refine lv_goto (tgt := 6) hx hb dX6_winnableOn_57 (by decide) ?_
        have hq := Option.some.inj hE
        subst hq
        exact hKt3 ls H locs (lv_sub hl [1, 2, 3, 4, 0] rfl) hP hS
      · have hE := st_f hE hc9
        refine lv_aload_n hx hb dX6_winnableOn_26 rfl (lv_at hl 2 rfl) ?_
        refine lv_aload_n hx hb dX6_winnableOn_27 rfl (lv_at hl 2 rfl) ?_
        obtain ⟨r11, hCr11, hE⟩ := st_bo hE
        refine g_calli (va_runV (As := []) (rest := [.ref (ad a3)]) ⟨hx, hb, hml, hown, hts⟩ (k_X1_everyone hij h3 hCr11) (cwV 0 hts (wz_V tw_2_237 tw_2_177 tw_2_178 tw_1_3 tw_2_179) rfl rfl rfl hdV_X1_everyone ⟨Nat.le_of_ble_eq_true rfl, Nat.le_of_ble_eq_true rfl⟩) (g_preV KC_st ZC_st hK hZ hP hS hK.1 (h3.1).1 (ec_o h3.1) rfl) rfl rfl hl.1 rfl (lv_room (Nat.le_of_ble_eq_true rfl)) dX6_winnableOn_28 ⟨Nat.zero_le _, Nat.zero_le _⟩) hS (fun H locs hP hS => ?_)
        refine lv_aload_n hx hb dX6_winnableOn_31 rfl (lv_at hl 1 rfl) ?_
        refine c_getN (v := .ref (ad (a2 + 1))) hx hb hts (fun w h => wz_m (inX0 w h)) hown hK hP h2.1 rfl 0 (by decide) (List.mem_of_getElem? (i := 12) rfl) (fun _ h9 => h9) rfl dX6_winnableOn_32 ?_
        refine lv_iload hx hb dX6_winnableOn_35 (lv_at hl 4 rfl) ?_
        obtain ⟨hi12, hE⟩ := st_gd hE
        refine c_iald hx hb hK hP h2.2.1 hi12 dX6_winnableOn_37 ?_
        obtain ⟨r13, hCr13, hE⟩ := st_bo hE
        refine g_calli (va_runV (As := [.int r11, .int (c6 (a2 + 1) (c5.toNatClampNeg))]) (rest := []) ⟨hx, hb, hml, hown, hts⟩ (k_X1_saidAmong hij h3 hCr13) (cwV 2 hts (wz_V tw_2_238 tw_2_181 tw_2_182 tw_1_3 tw_2_183) rfl rfl rfl hdV_X1_saidAmong ⟨Nat.le_of_ble_eq_true rfl, Nat.le_of_ble_eq_true rfl⟩) (g_preV KC_st ZC_st hK hZ hP hS hK.1 (h3.1).1 (ec_o h3.1) rfl) rfl rfl hl.1 rfl (lv_room (Nat.le_of_ble_eq_true rfl)) dX6_winnableOn_38 ⟨Nat.zero_le _, Nat.zero_le _⟩) hS (fun H locs hP hS => ?_)
        refine lv_iconst (v := (-1)) hx hb dX6_winnableOn_41 (by decide) ?_
        refine lv_icmp_eq (tgt := 54) hx hb dX6_winnableOn_42 (by decide) (fun hc14 => ?_) (fun hc14 => ?_)
        · have hE := st_t hE hc14
          obtain ⟨v15, ev15, hE⟩ := st_bv hE
          refine lv_iinc (v := v15) (lv' := [(5, .int v15), (1, .int a1), (2, .ref (ad a2)), (3, .ref (ad a3)), (4, .int c4)]) hx hb dX6_winnableOn_54 hl (k := 4) rfl (by rw [ev15]; rfl) (by decide) rfl (fun ls hl => ?_)
          refine lv_goto (tgt := 6) hx hb dX6_winnableOn_57 (by decide) ?_
          have hq := Option.some.inj hE
          subst hq
          exact hKt3 ls H locs (lv_sub hl [1, 2, 3, 4, 0] rfl) hP hS
        · have hE := st_f hE hc14
          refine lv_iload hx hb dX6_winnableOn_45 (lv_at hl 3 rfl) ?_
          refine lv_iconst (v := 1) hx hb dX6_winnableOn_47 (by decide) ?_
          refine lv_iload hx hb dX6_winnableOn_48 (lv_at hl 4 rfl) ?_
          refine lv_ishl hx hb dX6_winnableOn_50 ?_
          refine lv_ior hx hb dX6_winnableOn_51 ?_
          obtain ⟨v16, ev16, hE⟩ := st_bv hE
          refine nm_i ev16 ?_
          refine lv_istore (lv' := [(4, .int v16), (1, .int a1), (2, .ref (ad a2)), (3, .ref (ad a3)), (5, .int c5)]) hx hb dX6_winnableOn_52 hl (by decide) rfl (fun ls hl => ?_)
          obtain ⟨v17, ev17, hE⟩ := st_bv hE
          refine lv_iinc (v := v17) (lv' := [(5, .int v17), (4, .int v16), (1, .int a1), (2, .ref (ad a2)), (3, .ref (ad a3))]) hx hb dX6_winnableOn_54 hl (k := 4) rfl (by rw [ev17]; rfl) (by decide) rfl (fun ls hl => ?_)
          refine lv_goto (tgt := 6) hx hb dX6_winnableOn_57 (by decide) ?_
          have hq := Option.some.inj hE
          subst hq
          exact hKt3 ls H locs (lv_sub hl [2, 3, 4, 1, 0] rfl) hP hS
  · intro ls H locs hl hP hS
    refine lv_iload hx hb dX6_winnableOn_60 (lv_at hl 0 rfl) ?_
    replace hE := Option.some.inj hE
    have hq := Prod.mk.inj hE
    subst hQQ
    exact g_iret hx hb hr hlocks hP hS hq.1 hq.2 dX6_winnableOn_62
def b_X7_dropBetween_5 (k : Nat) (a1 : Int32) (a2 : Int32) (c4 : Int32) (c5 : Int32) (c6 : (Nat → Nat → Int32)) : Option ((Int32 × Int32 × (Nat → Nat → Int32)) ⊕ (Int32 × (Nat → Nat → Int32))) :=
  if (c6 k 1) ≤ c5 then (some (.inr (c4, c6))) else (gd (inb c5 3) (if (c6 (k + 1) (c5.toNatClampNeg)) < a1 then (gd (inb c5 3) (gd (inb c4 3) (bv (up2 c6 (k + 1) (c4.toNatClampNeg) (c6 (k + 1) (c5.toNatClampNeg))) (fun S12 => bv (c4 + 1) (fun (v13 : Int32) => bv (c5 + 1) (fun (v14 : Int32) => some (.inl (v13, v14, S12)))))))) else (gd (inb c5 3) (if (c6 (k + 1) (c5.toNatClampNeg)) ≤ a2 then (bv (c5 + 1) (fun (v17 : Int32) => some (.inl (c4, v17, c6)))) else (gd (inb c5 3) (gd (inb c4 3) (bv (up2 c6 (k + 1) (c4.toNatClampNeg) (c6 (k + 1) (c5.toNatClampNeg))) (fun S20 => bv (c4 + 1) (fun (v21 : Int32) => bv (c5 + 1) (fun (v22 : Int32) => some (.inl (v21, v22, S20))))))))))))
def f_X7_dropBetween (k : Nat) (S0 : (Nat → Nat → Int32)) (a1 : Int32) (a2 : Int32) : Option ((Nat → Nat → Int32)) :=
  bo (lp (fun (s1 : Int32 × Int32 × (Nat → Nat → Int32)) => b_X7_dropBetween_5 k a1 a2 s1.1 s1.2.1 s1.2.2) 5000 (0, 0, S0)) (fun (x2 : Int32 × (Nat → Nat → Int32)) => bv (up2 x2.2 k 1 x2.1) (fun S23 => some S23))
abbrev rmX7_dropBetween : Room := { frames := 0, cells := 0, slots := 0, locals := 0 }
theorem hdV_X7_dropBetween : yX7_dropBetween.cls = "WitnessWall$Witness" ∧ yX7_dropBetween.cls ≠ "java/lang/invoke/MethodHandle" ∧ yX7_dropBetween.cls ≠ "java/lang/invoke/VarHandle" ∧ (parseMethodDescriptor yX7_dropBetween.desc).map (fun d => d.parameters.length) = some 2 := by decide +kernel
set_option maxHeartbeats 4000000 in
set_option maxRecDepth 100000 in
theorem k_X7_dropBetween {l : Launch} {D : va_G} {ad : Nat → Nat} {cI cW : ClassId} {tK tC : Nat} (hij : inj 83 ad) {k : Nat} (h0 : iWit ad cI cW k) {S0 : (Nat → Nat → Int32)} {a1 : Int32} {a2 : Int32} {Sr : (Nat → Nat → Int32)} (hE : f_X7_dropBetween k S0 a1 a2 = some Sr) {sz : Nat} : Met l yX7_dropBetween (wz yX7_dropBetween cX7_dropBetween 5 none) rmX7_dropBetween (PG 83 ad (ec ad cI cW) D (KC D cI cW) (ZC tK tC) [.ref (ad k), .int a1, .int a2] S0 sz) (QGv 83 ad (ec ad cI cW) D Sr sz) 0 0 (AD 83 ad sz) := by
  unfold f_X7_dropBetween at hE
  refine g_start (cc := cX7_dropBetween) (maxL := 5) (ret := none) (Qc := fun sz => QGv 83 ad (ec ad cI cW) D Sr sz) (by decide) rfl (Nat.le_of_ble_eq_true rfl) ?_
  intro p e s m args below meth c H locs ls hx hb hr hts hown hlocks hml hK hZ hP hS hl
  replace hl : lv_has ls 5 [(0, .ref (ad k)), (1, .int a1), (2, .int a2)] := hl
  obtain ⟨QQ, hQQ⟩ : ∃ q, q = MQ below (QGv 83 ad (ec ad cI cW) D Sr s.heap.size) args s 0 0 (AD 83 ad s.heap.size) := ⟨_, rfl⟩
  rw [← hQQ]
  refine lv_iconst (v := 0) hx hb dX7_dropBetween_0 (by decide) ?_
  refine lv_istore_n (lv' := [(3, .int 0), (0, .ref (ad k)), (1, .int a1), (2, .int a2)]) hx hb dX7_dropBetween_1 rfl hl (by decide) rfl (fun ls hl => ?_)
  refine lv_iconst (v := 0) hx hb dX7_dropBetween_2 (by decide) ?_
  refine lv_istore (lv' := [(4, .int 0), (3, .int 0), (0, .ref (ad k)), (1, .int a1), (2, .int a2)]) hx hb dX7_dropBetween_3 hl (by decide) rfl (fun ls hl => ?_)
  obtain ⟨x2, hx2, hE⟩ := st_bo hE
  refine lp_walk (body := fun (s1 : Int32 × Int32 × (Nat → Nat → Int32)) => b_X7_dropBetween_5 k a1 a2 s1.1 s1.2.1 s1.2.2) (fun s1 => ∀ (ls : Array Slot) (H : Heap) (locs : List Loc), lv_has ls 5 [(0, .ref (ad k)), (1, .int a1), (2, .int a2), (3, .int s1.1), (4, .int s1.2.1)] → cP D ad cI cW s1.2.2 H → cS ad s H locs → W p l e rmX7_dropBetween s m args below meth c H locs 0 0 QQ (F0 m 5 ls [])) (fun x2 => ∀ (ls : Array Slot) (H : Heap) (locs : List Loc), lv_has ls 5 [(0, .ref (ad k)), (3, .int x2.1)] → cP D ad cI cW x2.2 H → cS ad s H locs → W p l e rmX7_dropBetween s m args below meth c H locs 0 0 QQ (F0 m 58 ls [])) ?_ _ _ _ hx2 ?_ ls H locs (lv_sub hl [2, 3, 4, 1, 0] rfl) hP hS
  · intro s1 t3 hE hKt3 ls H locs hl hP hS
    obtain ⟨c4, c5, c6⟩ := s1
    replace hE : b_X7_dropBetween_5 k a1 a2 c4 c5 c6 = some t3 := hE
    replace hl : lv_has ls 5 [(0, .ref (ad k)), (1, .int a1), (2, .int a2), (3, .int c4), (4, .int c5)] := hl
    replace hP : cP D ad cI cW c6 H := hP
    unfold b_X7_dropBetween_5 at hE
    refine lv_iload hx hb dX7_dropBetween_5 (lv_at hl 4 rfl) ?_
    refine lv_aload_n hx hb dX7_dropBetween_7 rfl (lv_at hl 0 rfl) ?_
    refine c_get (v := .int (c6 k 1)) hx hb hts (fun w h => wz_m (inX7 w h)) hown hK hP h0.1 rfl 1 (by decide) (hts _ (wz_m tw_1_42)) (fun _ h9 => h9) rfl dX7_dropBetween_8 ?_
    refine lv_icmp_ge (tgt := 58) hx hb dX7_dropBetween_11 (by decide) (fun hc7 => ?_) (fun hc7 => ?_)
    · have hE := st_t hE hc7
      have hq := Option.some.inj hE
      subst hq
      exact hKt3 ls H locs (lv_sub hl [0, 3] rfl) hP hS
    · have hE := st_f hE hc7
      refine lv_aload_n hx hb dX7_dropBetween_14 rfl (lv_at hl 0 rfl) ?_
      refine c_get (v := .ref (ad (k + 1))) hx hb hts (fun w h => wz_m (inX7 w h)) hown hK hP h0.1 rfl 0 (by decide) (hts _ (wz_m tw_1_41)) (fun _ h9 => h9) rfl dX7_dropBetween_15 ?_
      refine lv_iload hx hb dX7_dropBetween_18 (lv_at hl 4 rfl) ?_
      obtain ⟨hi8, hE⟩ := st_gd hE
      refine c_iald hx hb hK hP h0.2 hi8 dX7_dropBetween_20 ?_
      refine lv_iload_n hx hb dX7_dropBetween_21 rfl (lv_at hl 1 rfl) ?_
      refine lv_icmp_lt (tgt := 36) hx hb dX7_dropBetween_22 (by decide) (fun hc9 => ?_) (fun hc9 => ?_)
      · have hE := st_t hE hc9
        refine lv_aload_n hx hb dX7_dropBetween_36 rfl (lv_at hl 0 rfl) ?_
        refine c_get (v := .ref (ad (k + 1))) hx hb hts (fun w h => wz_m (inX7 w h)) hown hK hP h0.1 rfl 0 (by decide) (hts _ (wz_m tw_1_41)) (fun _ h9 => h9) rfl dX7_dropBetween_37 ?_
        refine lv_iload_n hx hb dX7_dropBetween_40 rfl (lv_at hl 3 rfl) ?_
        refine lv_aload_n hx hb dX7_dropBetween_41 rfl (lv_at hl 0 rfl) ?_
        refine c_get (v := .ref (ad (k + 1))) hx hb hts (fun w h => wz_m (inX7 w h)) hown hK hP h0.1 rfl 0 (by decide) (hts _ (wz_m tw_1_41)) (fun _ h9 => h9) rfl dX7_dropBetween_42 ?_
        refine lv_iload hx hb dX7_dropBetween_45 (lv_at hl 4 rfl) ?_
        obtain ⟨hi10, hE⟩ := st_gd hE
        refine c_iald hx hb hK hP h0.2 hi10 dX7_dropBetween_47 ?_
        obtain ⟨hi11, hE⟩ := st_gd hE
        refine c_iast hij hx hb hK hP hS h0.2 hi11 dX7_dropBetween_48 (fun H locs hP hS => ?_)
        obtain ⟨S12, eS12, hE⟩ := st_bv hE
        rw [← eS12] at hP
        obtain ⟨v13, ev13, hE⟩ := st_bv hE
        refine lv_iinc (v := v13) (lv' := [(3, .int v13), (0, .ref (ad k)), (1, .int a1), (2, .int a2), (4, .int c5)]) hx hb dX7_dropBetween_49 hl (k := 3) rfl (by rw [ev13]; rfl) (by decide) rfl (fun ls hl => ?_)
        obtain ⟨v14, ev14, hE⟩ := st_bv hE
        refine lv_iinc (v := v14) (lv' := [(4, .int v14), (3, .int v13), (0, .ref (ad k)), (1, .int a1), (2, .int a2)]) hx hb dX7_dropBetween_52 hl (k := 4) rfl (by rw [ev14]; rfl) (by decide) rfl (fun ls hl => ?_)
        refine lv_goto (tgt := 5) hx hb dX7_dropBetween_55 (by decide) ?_
        have hq := Option.some.inj hE
        subst hq
        exact hKt3 ls H locs (lv_sub hl [2, 3, 4, 1, 0] rfl) hP hS
      · have hE := st_f hE hc9
        refine lv_aload_n hx hb dX7_dropBetween_25 rfl (lv_at hl 0 rfl) ?_
        refine c_get (v := .ref (ad (k + 1))) hx hb hts (fun w h => wz_m (inX7 w h)) hown hK hP h0.1 rfl 0 (by decide) (hts _ (wz_m tw_1_41)) (fun _ h9 => h9) rfl dX7_dropBetween_26 ?_
        refine lv_iload hx hb dX7_dropBetween_29 (lv_at hl 4 rfl) ?_
        obtain ⟨hi15, hE⟩ := st_gd hE
        refine c_iald hx hb hK hP h0.2 hi15 dX7_dropBetween_31 ?_
        refine lv_iload_n hx hb dX7_dropBetween_32 rfl (lv_at hl 2 rfl) ?_
        refine lv_icmp_le (tgt := 52) hx hb dX7_dropBetween_33 (by decide) (fun hc16 => ?_) (fun hc16 => ?_)
        · have hE := st_t hE hc16
          obtain ⟨v17, ev17, hE⟩ := st_bv hE
          refine lv_iinc (v := v17) (lv' := [(4, .int v17), (0, .ref (ad k)), (1, .int a1), (2, .int a2), (3, .int c4)]) hx hb dX7_dropBetween_52 hl (k := 4) rfl (by rw [ev17]; rfl) (by decide) rfl (fun ls hl => ?_)
          refine lv_goto (tgt := 5) hx hb dX7_dropBetween_55 (by decide) ?_
          have hq := Option.some.inj hE
          subst hq
          exact hKt3 ls H locs (lv_sub hl [1, 2, 3, 4, 0] rfl) hP hS
        · have hE := st_f hE hc16
          refine lv_aload_n hx hb dX7_dropBetween_36 rfl (lv_at hl 0 rfl) ?_
          refine c_get (v := .ref (ad (k + 1))) hx hb hts (fun w h => wz_m (inX7 w h)) hown hK hP h0.1 rfl 0 (by decide) (hts _ (wz_m tw_1_41)) (fun _ h9 => h9) rfl dX7_dropBetween_37 ?_
          refine lv_iload_n hx hb dX7_dropBetween_40 rfl (lv_at hl 3 rfl) ?_
          refine lv_aload_n hx hb dX7_dropBetween_41 rfl (lv_at hl 0 rfl) ?_
          refine c_get (v := .ref (ad (k + 1))) hx hb hts (fun w h => wz_m (inX7 w h)) hown hK hP h0.1 rfl 0 (by decide) (hts _ (wz_m tw_1_41)) (fun _ h9 => h9) rfl dX7_dropBetween_42 ?_
          refine lv_iload hx hb dX7_dropBetween_45 (lv_at hl 4 rfl) ?_
          obtain ⟨hi18, hE⟩ := st_gd hE
          refine c_iald hx hb hK hP h0.2 hi18 dX7_dropBetween_47 ?_
          obtain ⟨hi19, hE⟩ := st_gd hE
          refine c_iast hij hx hb hK hP hS h0.2 hi19 dX7_dropBetween_48 (fun H locs hP hS => ?_)
          obtain ⟨S20, eS20, hE⟩ := st_bv hE
          rw [← eS20] at hP
          obtain ⟨v21, ev21, hE⟩ := st_bv hE
          refine lv_iinc (v := v21) (lv' := [(3, .int v21), (0, .ref (ad k)), (1, .int a1), (2, .int a2), (4, .int c5)]) hx hb dX7_dropBetween_49 hl (k := 3) rfl (by rw [ev21]; rfl) (by decide) rfl (fun ls hl => ?_)
          obtain ⟨v22, ev22, hE⟩ := st_bv hE
          refine lv_iinc (v := v22) (lv' := [(4, .int v22), (3, .int v21), (0, .ref (ad k)), (1, .int a1), (2, .int a2)]) hx hb dX7_dropBetween_52 hl (k := 4) rfl (by rw [ev22]; rfl) (by decide) rfl (fun ls hl => ?_)
          refine lv_goto (tgt := 5) hx hb dX7_dropBetween_55 (by decide) ?_
          have hq := Option.some.inj hE
          subst hq
          exact hKt3 ls H locs (lv_sub hl [2, 3, 4, 1, 0] rfl) hP hS
  · intro ls H locs hl hP hS
    refine lv_aload_n hx hb dX7_dropBetween_58 rfl (lv_at hl 0 rfl) ?_
    refine lv_iload_n hx hb dX7_dropBetween_59 rfl (lv_at hl 1 rfl) ?_
    refine c_put hij hx hb hts (fun w h => wz_m (inX7 w h)) tyX7 tyX7_ok nmX7 hown hK hP hS h0.1 rfl 1 (by decide) (hts _ (wz_m tw_1_42)) (fun _ h9 => h9) rfl rfl rfl (fun _ => Nat.le_of_ble_eq_true rfl) (fun _ => rfl) dX7_dropBetween_60 (fun H locs hP hS => ?_)
    obtain ⟨S23, eS23, hE⟩ := st_bv hE
    rw [← eS23] at hP
    replace hE := Option.some.inj hE
    subst hQQ
    exact g_vret hx hb hr hlocks hP hS hE dX7_dropBetween_63
def f_X7_add (k : Nat) (S0 : (Nat → Nat → Int32)) (a1 : Int32) : Option ((Nat → Nat → Int32)) :=
  bo (if (S0 k 1) < 3 then (some S0) else (gd (inb 0 3) (gd (inb 0 3) (bo (f_X7_dropBetween k S0 (S0 (k + 1) ((0 : Int32).toNatClampNeg)) (S0 (k + 1) ((0 : Int32).toNatClampNeg))) (fun (r6 : (Nat → Nat → Int32)) => some r6))))) (fun (q1 : (Nat → Nat → Int32)) => if 3 ≤ (q1 k 1) then (some q1) else (gd (inb (q1 k 1) 3) (bv (up2 q1 (k + 1) ((q1 k 1).toNatClampNeg) a1) (fun S9 => bv (up2 S9 k 1 ((S9 k 1) + 1)) (fun S10 => some S10)))))
abbrev rmX7_add : Room := { frames := 1, cells := 0, slots := 0, locals := 24 }
theorem hdV_X7_add : yX7_add.cls = "WitnessWall$Witness" ∧ yX7_add.cls ≠ "java/lang/invoke/MethodHandle" ∧ yX7_add.cls ≠ "java/lang/invoke/VarHandle" ∧ (parseMethodDescriptor yX7_add.desc).map (fun d => d.parameters.length) = some 1 := by decide +kernel
set_option maxHeartbeats 4000000 in
set_option maxRecDepth 100000 in
theorem k_X7_add {l : Launch} {D : va_G} {ad : Nat → Nat} {cI cW : ClassId} {tK tC : Nat} (hij : inj 83 ad) {k : Nat} (h0 : iWit ad cI cW k) {S0 : (Nat → Nat → Int32)} {a1 : Int32} {Sr : (Nat → Nat → Int32)} (hE : f_X7_add k S0 a1 = some Sr) {sz : Nat} : Met l yX7_add (wz yX7_add cX7_add 2 none) rmX7_add (PG 83 ad (ec ad cI cW) D (KC D cI cW) (ZC tK tC) [.ref (ad k), .int a1] S0 sz) (QGv 83 ad (ec ad cI cW) D Sr sz) 0 0 (AD 83 ad sz) := by
  unfold f_X7_add at hE
  refine g_start (cc := cX7_add) (maxL := 2) (ret := none) (Qc := fun sz => QGv 83 ad (ec ad cI cW) D Sr sz) (by decide) rfl (Nat.le_of_ble_eq_true rfl) ?_
  intro p e s m args below meth c H locs ls hx hb hr hts hown hlocks hml hK hZ hP hS hl
  replace hl : lv_has ls 2 [(0, .ref (ad k)), (1, .int a1)] := hl
  obtain ⟨QQ, hQQ⟩ : ∃ q, q = MQ below (QGv 83 ad (ec ad cI cW) D Sr s.heap.size) args s 0 0 (AD 83 ad s.heap.size) := ⟨_, rfl⟩
  rw [← hQQ]
  refine lv_aload_n hx hb dX7_add_0 rfl (lv_at hl 0 rfl) ?_
  refine c_get (v := .int (S0 k 1)) hx hb hts (fun w h => wz_m (inX7 w h)) hown hK hP h0.1 rfl 1 (by decide) (hts _ (wz_m tw_1_42)) (fun _ h9 => h9) rfl dX7_add_1 ?_
  refine lv_iconst (v := 3) hx hb dX7_add_4 (by decide) ?_
  obtain ⟨q1, hq1, hE⟩ := st_bo hE
  have J2 : ∀ (ls : Array Slot) (H : Heap) (locs : List Loc), lv_has ls 2 [(0, .ref (ad k)), (1, .int a1)] → cP D ad cI cW q1 H → cS ad s H locs → W p l e rmX7_add s m args below meth c H locs 0 0 QQ (F0 m 24 ls []) := by
    intro ls H locs hl hP hS
    refine lv_aload_n hx hb dX7_add_24 rfl (lv_at hl 0 rfl) ?_
    refine c_get (v := .int (q1 k 1)) hx hb hts (fun w h => wz_m (inX7 w h)) hown hK hP h0.1 rfl 1 (by decide) (hts _ (wz_m tw_1_42)) (fun _ h9 => h9) rfl dX7_add_25 ?_
    refine lv_iconst (v := 3) hx hb dX7_add_28 (by decide) ?_
    refine lv_icmp_ge (tgt := 52) hx hb dX7_add_29 (by decide) (fun hc7 => ?_) (fun hc7 => ?_)
    · have hE := st_t hE hc7
      replace hE := Option.some.inj hE
      subst hQQ
      exact g_vret hx hb hr hlocks hP hS hE dX7_add_52
    · have hE := st_f hE hc7
      refine lv_aload_n hx hb dX7_add_32 rfl (lv_at hl 0 rfl) ?_
      refine c_get (v := .ref (ad (k + 1))) hx hb hts (fun w h => wz_m (inX7 w h)) hown hK hP h0.1 rfl 0 (by decide) (hts _ (wz_m tw_1_41)) (fun _ h9 => h9) rfl dX7_add_33 ?_
      refine lv_aload_n hx hb dX7_add_36 rfl (lv_at hl 0 rfl) ?_
      refine c_get (v := .int (q1 k 1)) hx hb hts (fun w h => wz_m (inX7 w h)) hown hK hP h0.1 rfl 1 (by decide) (hts _ (wz_m tw_1_42)) (fun _ h9 => h9) rfl dX7_add_37 ?_
      refine lv_iload_n hx hb dX7_add_40 rfl (lv_at hl 1 rfl) ?_
      obtain ⟨hi8, hE⟩ := st_gd hE
      refine c_iast hij hx hb hK hP hS h0.2 hi8 dX7_add_41 (fun H locs hP hS => ?_)
      obtain ⟨S9, eS9, hE⟩ := st_bv hE
      rw [← eS9] at hP
      refine lv_aload_n hx hb dX7_add_42 rfl (lv_at hl 0 rfl) ?_
      refine lv_dup hx hb dX7_add_43 rfl ?_
      refine c_get (v := .int (S9 k 1)) hx hb hts (fun w h => wz_m (inX7 w h)) hown hK hP h0.1 rfl 1 (by decide) (hts _ (wz_m tw_1_42)) (fun _ h9 => h9) rfl dX7_add_44 ?_
      refine lv_iconst (v := 1) hx hb dX7_add_47 (by decide) ?_
      refine lv_iadd hx hb dX7_add_48 ?_
      refine c_put hij hx hb hts (fun w h => wz_m (inX7 w h)) tyX7 tyX7_ok nmX7 hown hK hP hS h0.1 rfl 1 (by decide) (hts _ (wz_m tw_1_42)) (fun _ h9 => h9) rfl rfl rfl (fun _ => Nat.le_of_ble_eq_true rfl) (fun _ => rfl) dX7_add_49 (fun H locs hP hS => ?_)
      obtain ⟨S10, eS10, hE⟩ := st_bv hE
      rw [← eS10] at hP
      replace hE := Option.some.inj hE
      subst hQQ
      exact g_vret hx hb hr hlocks hP hS hE dX7_add_52
  replace hE := hq1
  refine lv_icmp_lt (tgt := 24) hx hb dX7_add_5 (by decide) (fun hc3 => ?_) (fun hc3 => ?_)
  · have hE := st_t hE hc3
    have hq := Option.some.inj hE
    subst hq
    exact J2 ls H locs (lv_sub hl [0, 1] rfl) hP hS
  · have hE := st_f hE hc3
    refine lv_aload_n hx hb dX7_add_8 rfl (lv_at hl 0 rfl) ?_
    refine lv_aload_n hx hb dX7_add_9 rfl (lv_at hl 0 rfl) ?_
    refine c_get (v := .ref (ad (k + 1))) hx hb hts (fun w h => wz_m (inX7 w h)) hown hK hP h0.1 rfl 0 (by decide) (hts _ (wz_m tw_1_41)) (fun _ h9 => h9) rfl dX7_add_10 ?_
    refine lv_iconst (v := 0) hx hb dX7_add_13 (by decide) ?_
    obtain ⟨hi4, hE⟩ := st_gd hE
    refine c_iald hx hb hK hP h0.2 hi4 dX7_add_14 ?_
    refine lv_aload_n hx hb dX7_add_15 rfl (lv_at hl 0 rfl) ?_
    refine c_get (v := .ref (ad (k + 1))) hx hb hts (fun w h => wz_m (inX7 w h)) hown hK hP h0.1 rfl 0 (by decide) (hts _ (wz_m tw_1_41)) (fun _ h9 => h9) rfl dX7_add_16 ?_
    refine lv_iconst (v := 0) hx hb dX7_add_19 (by decide) ?_
    obtain ⟨hi5, hE⟩ := st_gd hE
    refine c_iald hx hb hK hP h0.2 hi5 dX7_add_20 ?_
    obtain ⟨r6, hCr6, hE⟩ := st_bo hE
    refine g_callv (va_runV (As := [.int (S0 (k + 1) ((0 : Int32).toNatClampNeg)), .int (S0 (k + 1) ((0 : Int32).toNatClampNeg))]) (rest := []) ⟨hx, hb, hml, hown, hts⟩ (k_X7_dropBetween hij h0 hCr6) (cwV 2 hts (wz_V tw_2_71 tw_2_72 tw_2_73 tw_1_4 tw_2_74) rfl rfl rfl hdV_X7_dropBetween ⟨Nat.le_of_ble_eq_true rfl, Nat.le_of_ble_eq_true rfl⟩) (g_preV KC_st ZC_st hK hZ hP hS hK.1 (h0.1).1 (ec_o h0.1) rfl) rfl rfl hl.1 rfl (lv_room (Nat.le_of_ble_eq_true rfl)) dX7_add_21 ⟨Nat.zero_le _, Nat.zero_le _⟩) hS (fun H locs hP hS => ?_)
    have hq := Option.some.inj hE
    subst hq
    exact J2 ls H locs (lv_sub hl [0, 1] rfl) hP hS
def f_X7_meets (k : Nat) (S0 : (Nat → Nat → Int32)) (a1 : Int32) : Option (Int32 × (Nat → Nat → Int32)) :=
  bv (a1 / 4) (fun (v1 : Int32) => if (S0 k 2) = 1 then (bv (up2 S0 k 1 0) (fun S3 => bo (f_X7_add k S3 a1) (fun (r4 : (Nat → Nat → Int32)) => some (1, r4)))) else (if (S0 k 2) = 2 then (some (0, S0)) else (if (S0 k 2) = 3 then (bo (f_X7_dropBetween k S0 (v1 * 4) (((v1 * 4) + 4) - 1)) (fun (r7 : (Nat → Nat → Int32)) => bo (f_X7_add k r7 a1) (fun (r8 : (Nat → Nat → Int32)) => some (1, r8)))) else (if (S0 k 2) = 4 then (bo (f_X7_colourOf k S0 v1) (fun (r10 : Int32) => if r10 = (-1) then (bo (f_X7_add k S0 a1) (fun (r12 : (Nat → Nat → Int32)) => some (1, r12))) else (some (0, S0)))) else (bo (f_X7_dropBetween k S0 a1 a1) (fun (r13 : (Nat → Nat → Int32)) => bo (f_X7_add k r13 a1) (fun (r14 : (Nat → Nat → Int32)) => some (1, r14))))))))
abbrev rmX7_meets : Room := { frames := 2, cells := 0, slots := 0, locals := 45 }
theorem hdV_X7_meets : yX7_meets.cls = "WitnessWall$Witness" ∧ yX7_meets.cls ≠ "java/lang/invoke/MethodHandle" ∧ yX7_meets.cls ≠ "java/lang/invoke/VarHandle" ∧ (parseMethodDescriptor yX7_meets.desc).map (fun d => d.parameters.length) = some 1 := by decide +kernel
set_option maxHeartbeats 4000000 in
set_option maxRecDepth 100000 in
theorem k_X7_meets {l : Launch} {D : va_G} {ad : Nat → Nat} {cI cW : ClassId} {tK tC : Nat} (hij : inj 83 ad) {k : Nat} (h0 : iWit ad cI cW k) {S0 : (Nat → Nat → Int32)} {a1 : Int32} {r : Int32} {Sr : (Nat → Nat → Int32)} (hE : f_X7_meets k S0 a1 = some (r, Sr)) {sz : Nat} : Met l yX7_meets (wz yX7_meets cX7_meets 3 (some FieldType.boolean)) rmX7_meets (PG 83 ad (ec ad cI cW) D (KC D cI cW) (ZC tK tC) [.ref (ad k), .int a1] S0 sz) (QGi 83 ad (ec ad cI cW) D r Sr sz) 0 0 (AD 83 ad sz) := by
  unfold f_X7_meets at hE
  refine g_start (cc := cX7_meets) (maxL := 3) (ret := (some FieldType.boolean)) (Qc := fun sz => QGi 83 ad (ec ad cI cW) D r Sr sz) (by decide) rfl (Nat.le_of_ble_eq_true rfl) ?_
  intro p e s m args below meth c H locs ls hx hb hr hts hown hlocks hml hK hZ hP hS hl
  replace hl : lv_has ls 3 [(0, .ref (ad k)), (1, .int a1)] := hl
  obtain ⟨QQ, hQQ⟩ : ∃ q, q = MQ below (QGi 83 ad (ec ad cI cW) D r Sr s.heap.size) args s 0 0 (AD 83 ad s.heap.size) := ⟨_, rfl⟩
  rw [← hQQ]
  refine lv_iload_n hx hb dX7_meets_0 rfl (lv_at hl 1 rfl) ?_
  refine lv_iconst (v := 4) hx hb dX7_meets_1 (by decide) ?_
  refine lv_idiv hx hb dX7_meets_2 (by decide) ?_
  obtain ⟨v1, ev1, hE⟩ := st_bv hE
  refine nm_i ev1 ?_
  refine lv_istore_n (lv' := [(2, .int v1), (0, .ref (ad k)), (1, .int a1)]) hx hb dX7_meets_3 rfl hl (by decide) rfl (fun ls hl => ?_)
  refine lv_aload_n hx hb dX7_meets_4 rfl (lv_at hl 1 rfl) ?_
  refine c_get (v := .int (S0 k 2)) hx hb hts (fun w h => wz_m (inX7 w h)) hown hK hP h0.1 rfl 2 (by decide) (hts _ (wz_m tw_1_45)) (fun _ h9 => h9) rfl dX7_meets_5 ?_
  by_cases hc2 : (S0 k 2) = 1
  · have hE := st_t hE hc2
    refine lv_tableIn (tgt := 40) hx hb dX7_meets_8 (by rw [hc2]; decide) (by rw [hc2]; decide) (by rw [hc2]; rfl) (by decide) ?_
    refine lv_aload_n hx hb dX7_meets_40 rfl (lv_at hl 1 rfl) ?_
    refine lv_iconst (v := 0) hx hb dX7_meets_41 (by decide) ?_
    refine c_put hij hx hb hts (fun w h => wz_m (inX7 w h)) tyX7 tyX7_ok nmX7 hown hK hP hS h0.1 rfl 1 (by decide) (hts _ (wz_m tw_1_42)) (fun _ h9 => h9) rfl rfl rfl (fun _ => Nat.le_of_ble_eq_true rfl) (fun _ => rfl) dX7_meets_42 (fun H locs hP hS => ?_)
    obtain ⟨S3, eS3, hE⟩ := st_bv hE
    rw [← eS3] at hP
    refine lv_goto (tgt := 84) hx hb dX7_meets_45 (by decide) ?_
    refine lv_aload_n hx hb dX7_meets_84 rfl (lv_at hl 1 rfl) ?_
    refine lv_iload_n hx hb dX7_meets_85 rfl (lv_at hl 2 rfl) ?_
    obtain ⟨r4, hCr4, hE⟩ := st_bo hE
    refine g_callv (va_runV (As := [.int a1]) (rest := []) ⟨hx, hb, hml, hown, hts⟩ (k_X7_add hij h0 hCr4) (cwV 1 hts (wz_V tw_2_207 tw_2_68 tw_2_69 tw_1_4 tw_2_70) rfl rfl rfl hdV_X7_add ⟨Nat.le_of_ble_eq_true rfl, Nat.le_of_ble_eq_true rfl⟩) (g_preV KC_st ZC_st hK hZ hP hS hK.1 (h0.1).1 (ec_o h0.1) rfl) rfl rfl hl.1 rfl (lv_room (Nat.le_of_ble_eq_true rfl)) dX7_meets_86 ⟨Nat.zero_le _, Nat.zero_le _⟩) hS (fun H locs hP hS => ?_)
    refine lv_iconst (v := 1) hx hb dX7_meets_89 (by decide) ?_
    replace hE := Option.some.inj hE
    have hq := Prod.mk.inj hE
    subst hQQ
    exact g_zret hx hb hr hlocks hP hS ((by decide : (1 : Int32) &&& 1 = 1).trans hq.1) hq.2 dX7_meets_90
  replace hE := st_f hE hc2
  by_cases hc5 : (S0 k 2) = 2
  · have hE := st_t hE hc5
    refine lv_tableIn (tgt := 48) hx hb dX7_meets_8 (by rw [hc5]; decide) (by rw [hc5]; decide) (by rw [hc5]; rfl) (by decide) ?_
    refine lv_iconst (v := 0) hx hb dX7_meets_48 (by decide) ?_
    replace hE := Option.some.inj hE
    have hq := Prod.mk.inj hE
    subst hQQ
    exact g_zret hx hb hr hlocks hP hS ((by decide : (0 : Int32) &&& 1 = 0).trans hq.1) hq.2 dX7_meets_49
  replace hE := st_f hE hc5
  by_cases hc6 : (S0 k 2) = 3
  · have hE := st_t hE hc6
    refine lv_tableIn (tgt := 50) hx hb dX7_meets_8 (by rw [hc6]; decide) (by rw [hc6]; decide) (by rw [hc6]; rfl) (by decide) ?_
    refine lv_aload_n hx hb dX7_meets_50 rfl (lv_at hl 1 rfl) ?_
    refine lv_iload_n hx hb dX7_meets_51 rfl (lv_at hl 0 rfl) ?_
    refine lv_iconst (v := 4) hx hb dX7_meets_52 (by decide) ?_
    refine lv_imul hx hb dX7_meets_53 ?_
    refine lv_iload_n hx hb dX7_meets_54 rfl (lv_at hl 0 rfl) ?_
    refine lv_iconst (v := 4) hx hb dX7_meets_55 (by decide) ?_
    refine lv_imul hx hb dX7_meets_56 ?_
    refine lv_iconst (v := 4) hx hb dX7_meets_57 (by decide) ?_
    refine lv_iadd hx hb dX7_meets_58 ?_
    refine lv_iconst (v := 1) hx hb dX7_meets_59 (by decide) ?_
    refine lv_isub hx hb dX7_meets_60 ?_
    obtain ⟨r7, hCr7, hE⟩ := st_bo hE
    refine g_callv (va_runV (As := [.int (v1 * 4), .int (((v1 * 4) + 4) - 1)]) (rest := []) ⟨hx, hb, hml, hown, hts⟩ (k_X7_dropBetween hij h0 hCr7) (cwV 2 hts (wz_V tw_2_71 tw_2_72 tw_2_73 tw_1_4 tw_2_74) rfl rfl rfl hdV_X7_dropBetween ⟨Nat.le_of_ble_eq_true rfl, Nat.le_of_ble_eq_true rfl⟩) (g_preV KC_st ZC_st hK hZ hP hS hK.1 (h0.1).1 (ec_o h0.1) rfl) rfl rfl hl.1 rfl (lv_room (Nat.le_of_ble_eq_true rfl)) dX7_meets_61 ⟨Nat.zero_le _, Nat.zero_le _⟩) hS (fun H locs hP hS => ?_)
    refine lv_goto (tgt := 84) hx hb dX7_meets_64 (by decide) ?_
    refine lv_aload_n hx hb dX7_meets_84 rfl (lv_at hl 1 rfl) ?_
    refine lv_iload_n hx hb dX7_meets_85 rfl (lv_at hl 2 rfl) ?_
    obtain ⟨r8, hCr8, hE⟩ := st_bo hE
    refine g_callv (va_runV (As := [.int a1]) (rest := []) ⟨hx, hb, hml, hown, hts⟩ (k_X7_add hij h0 hCr8) (cwV 1 hts (wz_V tw_2_207 tw_2_68 tw_2_69 tw_1_4 tw_2_70) rfl rfl rfl hdV_X7_add ⟨Nat.le_of_ble_eq_true rfl, Nat.le_of_ble_eq_true rfl⟩) (g_preV KC_st ZC_st hK hZ hP hS hK.1 (h0.1).1 (ec_o h0.1) rfl) rfl rfl hl.1 rfl (lv_room (Nat.le_of_ble_eq_true rfl)) dX7_meets_86 ⟨Nat.zero_le _, Nat.zero_le _⟩) hS (fun H locs hP hS => ?_)
    refine lv_iconst (v := 1) hx hb dX7_meets_89 (by decide) ?_
    replace hE := Option.some.inj hE
    have hq := Prod.mk.inj hE
    subst hQQ
    exact g_zret hx hb hr hlocks hP hS ((by decide : (1 : Int32) &&& 1 = 1).trans hq.1) hq.2 dX7_meets_90
  replace hE := st_f hE hc6
  by_cases hc9 : (S0 k 2) = 4
  · have hE := st_t hE hc9
    refine lv_tableIn (tgt := 67) hx hb dX7_meets_8 (by rw [hc9]; decide) (by rw [hc9]; decide) (by rw [hc9]; rfl) (by decide) ?_
    refine lv_aload_n hx hb dX7_meets_67 rfl (lv_at hl 1 rfl) ?_
    refine lv_iload_n hx hb dX7_meets_68 rfl (lv_at hl 0 rfl) ?_
    obtain ⟨r10, hCr10, hE⟩ := st_bo hE
    refine g_calli (va_runV (As := [.int v1]) (rest := []) ⟨hx, hb, hml, hown, hts⟩ (k_X7_colourOf hij h0 hCr10) (cwV 1 hts (wz_V tw_2_206 tw_2_151 tw_2_152 tw_1_4 tw_2_153) rfl rfl rfl hdV_X7_colourOf ⟨Nat.le_of_ble_eq_true rfl, Nat.le_of_ble_eq_true rfl⟩) (g_preV KC_st ZC_st hK hZ hP hS hK.1 (h0.1).1 (ec_o h0.1) rfl) rfl rfl hl.1 rfl (lv_room (Nat.le_of_ble_eq_true rfl)) dX7_meets_69 ⟨Nat.zero_le _, Nat.zero_le _⟩) hS (fun H locs hP hS => ?_)
    refine lv_iconst (v := (-1)) hx hb dX7_meets_72 (by decide) ?_
    refine lv_icmp_eq (tgt := 84) hx hb dX7_meets_73 (by decide) (fun hc11 => ?_) (fun hc11 => ?_)
    · have hE := st_t hE hc11
      refine lv_aload_n hx hb dX7_meets_84 rfl (lv_at hl 1 rfl) ?_
      refine lv_iload_n hx hb dX7_meets_85 rfl (lv_at hl 2 rfl) ?_
      obtain ⟨r12, hCr12, hE⟩ := st_bo hE
      refine g_callv (va_runV (As := [.int a1]) (rest := []) ⟨hx, hb, hml, hown, hts⟩ (k_X7_add hij h0 hCr12) (cwV 1 hts (wz_V tw_2_207 tw_2_68 tw_2_69 tw_1_4 tw_2_70) rfl rfl rfl hdV_X7_add ⟨Nat.le_of_ble_eq_true rfl, Nat.le_of_ble_eq_true rfl⟩) (g_preV KC_st ZC_st hK hZ hP hS hK.1 (h0.1).1 (ec_o h0.1) rfl) rfl rfl hl.1 rfl (lv_room (Nat.le_of_ble_eq_true rfl)) dX7_meets_86 ⟨Nat.zero_le _, Nat.zero_le _⟩) hS (fun H locs hP hS => ?_)
      refine lv_iconst (v := 1) hx hb dX7_meets_89 (by decide) ?_
      replace hE := Option.some.inj hE
      have hq := Prod.mk.inj hE
      subst hQQ
      exact g_zret hx hb hr hlocks hP hS ((by decide : (1 : Int32) &&& 1 = 1).trans hq.1) hq.2 dX7_meets_90
    · have hE := st_f hE hc11
      refine lv_iconst (v := 0) hx hb dX7_meets_76 (by decide) ?_
      replace hE := Option.some.inj hE
      have hq := Prod.mk.inj hE
      subst hQQ
      exact g_zret hx hb hr hlocks hP hS ((by decide : (0 : Int32) &&& 1 = 0).trans hq.1) hq.2 dX7_meets_77
  replace hE := st_f hE hc9
  have nhc2 := lv_neT hc2 (show (1 : Int32).toInt = 1 from by decide)
  have nhc5 := lv_neT hc5 (show (2 : Int32).toInt = 2 from by decide)
  have nhc6 := lv_neT hc6 (show (3 : Int32).toInt = 3 from by decide)
  have nhc9 := lv_neT hc9 (show (4 : Int32).toInt = 4 from by decide)
  refine lv_tableOut (tgt := 78) hx hb dX7_meets_8 (by omega) (by decide) ?_
  refine lv_aload_n hx hb dX7_meets_78 rfl (lv_at hl 1 rfl) ?_
  refine lv_iload_n hx hb dX7_meets_79 rfl (lv_at hl 2 rfl) ?_
  refine lv_iload_n hx hb dX7_meets_80 rfl (lv_at hl 2 rfl) ?_
  obtain ⟨r13, hCr13, hE⟩ := st_bo hE
  refine g_callv (va_runV (As := [.int a1, .int a1]) (rest := []) ⟨hx, hb, hml, hown, hts⟩ (k_X7_dropBetween hij h0 hCr13) (cwV 2 hts (wz_V tw_2_71 tw_2_72 tw_2_73 tw_1_4 tw_2_74) rfl rfl rfl hdV_X7_dropBetween ⟨Nat.le_of_ble_eq_true rfl, Nat.le_of_ble_eq_true rfl⟩) (g_preV KC_st ZC_st hK hZ hP hS hK.1 (h0.1).1 (ec_o h0.1) rfl) rfl rfl hl.1 rfl (lv_room (Nat.le_of_ble_eq_true rfl)) dX7_meets_81 ⟨Nat.zero_le _, Nat.zero_le _⟩) hS (fun H locs hP hS => ?_)
  refine lv_aload_n hx hb dX7_meets_84 rfl (lv_at hl 1 rfl) ?_
  refine lv_iload_n hx hb dX7_meets_85 rfl (lv_at hl 2 rfl) ?_
  obtain ⟨r14, hCr14, hE⟩ := st_bo hE
  refine g_callv (va_runV (As := [.int a1]) (rest := []) ⟨hx, hb, hml, hown, hts⟩ (k_X7_add hij h0 hCr14) (cwV 1 hts (wz_V tw_2_207 tw_2_68 tw_2_69 tw_1_4 tw_2_70) rfl rfl rfl hdV_X7_add ⟨Nat.le_of_ble_eq_true rfl, Nat.le_of_ble_eq_true rfl⟩) (g_preV KC_st ZC_st hK hZ hP hS hK.1 (h0.1).1 (ec_o h0.1) rfl) rfl rfl hl.1 rfl (lv_room (Nat.le_of_ble_eq_true rfl)) dX7_meets_86 ⟨Nat.zero_le _, Nat.zero_le _⟩) hS (fun H locs hP hS => ?_)
  refine lv_iconst (v := 1) hx hb dX7_meets_89 (by decide) ?_
  replace hE := Option.some.inj hE
  have hq := Prod.mk.inj hE
  subst hQQ
  exact g_zret hx hb hr hlocks hP hS ((by decide : (1 : Int32) &&& 1 = 1).trans hq.1) hq.2 dX7_meets_90

def f_X9_term (S0 : (Nat → Nat → Int32)) (a1 : Int32) : Option (Int32 × (Nat → Nat → Int32)) :=
  bo (f_X9_isWithin a1 0 1) (fun (r1 : Int32) => if r1 = 0 then (some ((-102), S0)) else (bo (f_X9_hasWall S0) (fun (r3 : Int32) => if r3 = 0 then (some ((-103), S0)) else (bo (f_X1_copyFrom 64 S0 23) (fun (r5 : (Nat → Nat → Int32)) => bo (f_X6_goBy r5 19 64 36) (fun (r6 : (Nat → Nat → Int32)) => if a1 = 0 then (bo (f_X6_mostWon r6) (fun (r9 : Int32) => some (r9, r6))) else (bo (f_X6_leastOrder r6) (fun (r8 : Int32) => some (r8, r6)))))))))
abbrev rmX9_term : Room := { frames := 5, cells := 0, slots := 0, locals := 121 }
theorem hdV_X9_term : yX9_term.cls = "WitnessWall" ∧ yX9_term.cls ≠ "java/lang/invoke/MethodHandle" ∧ yX9_term.cls ≠ "java/lang/invoke/VarHandle" ∧ (parseMethodDescriptor yX9_term.desc).map (fun d => d.parameters.length) = some 1 := by decide +kernel
set_option maxHeartbeats 4000000 in
set_option maxRecDepth 100000 in
theorem k_X9_term {l : Launch} {D : va_G} {ad : Nat → Nat} {cI cW : ClassId} {tK tC : Nat} (hij : inj 83 ad)  {S0 : (Nat → Nat → Int32)} {a1 : Int32} {r : Int32} {Sr : (Nat → Nat → Int32)} (hE : f_X9_term S0 a1 = some (r, Sr)) {sz : Nat} : Met l yX9_term (wz yX9_term cX9_term 2 (some FieldType.int)) rmX9_term (PG 83 ad (ec ad cI cW) D (KC D cI cW) (ZC tK tC) [.ref (ad 0), .int a1] S0 sz) (QGi 83 ad (ec ad cI cW) D r Sr sz) 0 0 (AD 83 ad sz) := by
  unfold f_X9_term at hE
  refine g_start (cc := cX9_term) (maxL := 2) (ret := (some FieldType.int)) (Qc := fun sz => QGi 83 ad (ec ad cI cW) D r Sr sz) (by decide) rfl (Nat.le_of_ble_eq_true rfl) ?_
  intro p e s m args below meth c H locs ls hx hb hr hts hown hlocks hml hK hZ hP hS hl
  replace hl : lv_has ls 2 [(0, .ref (ad 0)), (1, .int a1)] := hl
  obtain ⟨QQ, hQQ⟩ : ∃ q, q = MQ below (QGi 83 ad (ec ad cI cW) D r Sr s.heap.size) args s 0 0 (AD 83 ad s.heap.size) := ⟨_, rfl⟩
  rw [← hQQ]
  refine lv_iload_n hx hb dX9_term_0 rfl (lv_at hl 1 rfl) ?_
  refine lv_iconst (v := 0) hx hb dX9_term_1 (by decide) ?_
  refine lv_iconst (v := 1) hx hb dX9_term_2 (by decide) ?_
  obtain ⟨r1, hCr1, hE⟩ := st_bo hE
  refine g_calli (va_runS (As := [.int a1, .int 0, .int 1]) (rest := []) ⟨hx, hb, hml, hown, hts⟩ (k_X9_isWithin hij (S0 := S0) hCr1) (va_cwS 3 hts (wz_S tw_2_1 tw_2_2 tw_1_1 tw_2_3) rfl rfl rfl hdS_X9_isWithin ⟨Nat.le_of_ble_eq_true rfl, Nat.le_of_ble_eq_true rfl⟩) (g_preS KC_st ZC_st hK hZ hP hS) rfl rfl hl.1 rfl (lv_room (Nat.le_of_ble_eq_true rfl)) dX9_term_3 ⟨Nat.zero_le _, Nat.zero_le _⟩) hS (fun H locs hP hS => ?_)
  refine lv_if_ne (tgt := 12) hx hb dX9_term_6 (by decide) (fun hc2 => ?_) (fun hc2 => ?_)
  · have hE := st_f hE hc2
    refine lv_aload_n hx hb dX9_term_12 rfl (lv_at hl 0 rfl) ?_
    obtain ⟨r3, hCr3, hE⟩ := st_bo hE
    refine g_calli (va_runV (As := []) (rest := []) ⟨hx, hb, hml, hown, hts⟩ (k_X9_hasWall hij hCr3) (cwV 0 hts (wz_V tw_2_172 tw_2_174 tp_1 tw_1_1 tw_2_175) rfl rfl rfl hdV_X9_hasWall ⟨Nat.le_of_ble_eq_true rfl, Nat.le_of_ble_eq_true rfl⟩) (g_preV KC_st ZC_st hK hZ hP hS hK.1 ((q_WW (ad := ad) (cI := cI) (cW := cW))).1 (ec_o (q_WW (ad := ad) (cI := cI) (cW := cW))) rfl) rfl rfl hl.1 rfl (lv_room (Nat.le_of_ble_eq_true rfl)) dX9_term_13 ⟨Nat.zero_le _, Nat.zero_le _⟩) hS (fun H locs hP hS => ?_)
    refine lv_if_ne (tgt := 22) hx hb dX9_term_16 (by decide) (fun hc4 => ?_) (fun hc4 => ?_)
    · have hE := st_f hE hc4
      refine lv_aload_n hx hb dX9_term_22 rfl (lv_at hl 0 rfl) ?_
      refine c_get (v := .ref (ad 64)) hx hb hts (fun w h => wz_m (inX9 w h)) hown hK hP (q_WW (ad := ad) (cI := cI) (cW := cW)) rfl 4 (by decide) (hts _ (wz_m tw_1_213)) (fun _ h9 => h9) rfl dX9_term_23 ?_
      refine lv_aload_n hx hb dX9_term_26 rfl (lv_at hl 0 rfl) ?_
      refine c_get (v := .ref (ad 22)) hx hb hts (fun w h => wz_m (inX9 w h)) hown hK hP (q_WW (ad := ad) (cI := cI) (cW := cW)) rfl 2 (by decide) (hts _ (wz_m tw_1_211)) (fun _ h9 => h9) rfl dX9_term_27 ?_
      refine c_getN (v := .ref (ad 23)) hx hb hts (fun w h => wz_m (inX3 w h)) hown hK hP (q_Scene_22 (ad := ad) (cI := cI) (cW := cW)).1 rfl 0 (by decide) (List.mem_of_getElem? (i := 29) rfl) (fun _ h9 => h9) rfl dX9_term_30 ?_
      obtain ⟨r5, hCr5, hE⟩ := st_bo hE
      refine g_callv (va_runV (As := [.ref (ad 23)]) (rest := []) ⟨hx, hb, hml, hown, hts⟩ (k_X1_copyFrom hij (q_Hall_64 (ad := ad) (cI := cI) (cW := cW)) (q_Hall_23 (ad := ad) (cI := cI) (cW := cW)) hCr5) (cwV 1 hts (wz_V tw_2_228 tw_2_101 tw_2_102 tw_1_3 tw_2_103) rfl rfl rfl hdV_X1_copyFrom ⟨Nat.le_of_ble_eq_true rfl, Nat.le_of_ble_eq_true rfl⟩) (g_preV KC_st ZC_st hK hZ hP hS hK.1 ((q_Hall_64 (ad := ad) (cI := cI) (cW := cW)).1).1 (ec_o (q_Hall_64 (ad := ad) (cI := cI) (cW := cW)).1) rfl) rfl rfl hl.1 rfl (lv_room (Nat.le_of_ble_eq_true rfl)) dX9_term_33 ⟨Nat.zero_le _, Nat.zero_le _⟩) hS (fun H locs hP hS => ?_)
      refine lv_aload_n hx hb dX9_term_36 rfl (lv_at hl 0 rfl) ?_
      refine c_get (v := .ref (ad 77)) hx hb hts (fun w h => wz_m (inX9 w h)) hown hK hP (q_WW (ad := ad) (cI := cI) (cW := cW)) rfl 5 (by decide) (hts _ (wz_m tw_1_214)) (fun _ h9 => h9) rfl dX9_term_37 ?_
      refine lv_aload_n hx hb dX9_term_40 rfl (lv_at hl 0 rfl) ?_
      refine c_get (v := .ref (ad 19)) hx hb hts (fun w h => wz_m (inX9 w h)) hown hK hP (q_WW (ad := ad) (cI := cI) (cW := cW)) rfl 1 (by decide) (hts _ (wz_m tw_1_210)) (fun _ h9 => h9) rfl dX9_term_41 ?_
      refine lv_aload_n hx hb dX9_term_44 rfl (lv_at hl 0 rfl) ?_
      refine c_get (v := .ref (ad 64)) hx hb hts (fun w h => wz_m (inX9 w h)) hown hK hP (q_WW (ad := ad) (cI := cI) (cW := cW)) rfl 4 (by decide) (hts _ (wz_m tw_1_213)) (fun _ h9 => h9) rfl dX9_term_45 ?_
      refine lv_aload_n hx hb dX9_term_48 rfl (lv_at hl 0 rfl) ?_
      refine c_get (v := .ref (ad 22)) hx hb hts (fun w h => wz_m (inX9 w h)) hown hK hP (q_WW (ad := ad) (cI := cI) (cW := cW)) rfl 2 (by decide) (hts _ (wz_m tw_1_211)) (fun _ h9 => h9) rfl dX9_term_49 ?_
      refine c_getN (v := .ref (ad 36)) hx hb hts (fun w h => wz_m (inX3 w h)) hown hK hP (q_Scene_22 (ad := ad) (cI := cI) (cW := cW)).1 rfl 1 (by decide) (List.mem_of_getElem? (i := 30) rfl) (fun _ h9 => h9) rfl dX9_term_52 ?_
      obtain ⟨r6, hCr6, hE⟩ := st_bo hE
      refine g_callv (va_runV (As := [.ref (ad 19), .ref (ad 64), .ref (ad 36)]) (rest := []) ⟨hx, hb, hml, hown, hts⟩ (k_X6_goBy hij (q_Cases_19 (ad := ad) (cI := cI) (cW := cW)) (q_Hall_64 (ad := ad) (cI := cI) (cW := cW)) (q_Slips_36 (ad := ad) (cI := cI) (cW := cW)) hCr6) (cwV 3 hts (wz_V tw_2_229 tw_2_230 tw_2_231 tw_1_9 tw_2_232) rfl rfl rfl hdV_X6_goBy ⟨Nat.le_of_ble_eq_true rfl, Nat.le_of_ble_eq_true rfl⟩) (g_preV KC_st ZC_st hK hZ hP hS hK.1 ((q_Term_77 (ad := ad) (cI := cI) (cW := cW)).1).1 (ec_o (q_Term_77 (ad := ad) (cI := cI) (cW := cW)).1) rfl) rfl rfl hl.1 rfl (lv_room (Nat.le_of_ble_eq_true rfl)) dX9_term_55 ⟨Nat.zero_le _, Nat.zero_le _⟩) hS (fun H locs hP hS => ?_)
      refine lv_iload_n hx hb dX9_term_58 rfl (lv_at hl 1 rfl) ?_
      refine lv_if_ne (tgt := 72) hx hb dX9_term_59 (by decide) (fun hc7 => ?_) (fun hc7 => ?_)
      · have hE := st_f hE hc7
        refine lv_aload_n hx hb dX9_term_72 rfl (lv_at hl 0 rfl) ?_
        refine c_get (v := .ref (ad 77)) hx hb hts (fun w h => wz_m (inX9 w h)) hown hK hP (q_WW (ad := ad) (cI := cI) (cW := cW)) rfl 5 (by decide) (hts _ (wz_m tw_1_214)) (fun _ h9 => h9) rfl dX9_term_73 ?_
        obtain ⟨r8, hCr8, hE⟩ := st_bo hE
        refine g_calli (va_runV (As := []) (rest := []) ⟨hx, hb, hml, hown, hts⟩ (k_X6_leastOrder hij hCr8) (cwV 0 hts (wz_V tw_3_18 tw_3_19 tw_3_20 tw_1_9 tw_3_21) rfl rfl rfl hdV_X6_leastOrder ⟨Nat.le_of_ble_eq_true rfl, Nat.le_of_ble_eq_true rfl⟩) (g_preV KC_st ZC_st hK hZ hP hS hK.1 ((q_Term_77 (ad := ad) (cI := cI) (cW := cW)).1).1 (ec_o (q_Term_77 (ad := ad) (cI := cI) (cW := cW)).1) rfl) rfl rfl hl.1 rfl (lv_room (Nat.le_of_ble_eq_true rfl)) dX9_term_76 ⟨Nat.zero_le _, Nat.zero_le _⟩) hS (fun H locs hP hS => ?_)
        replace hE := Option.some.inj hE
        have hq := Prod.mk.inj hE
        subst hQQ
        exact g_iret hx hb hr hlocks hP hS hq.1 hq.2 dX9_term_79
      · have hE := st_t hE hc7
        refine lv_aload_n hx hb dX9_term_62 rfl (lv_at hl 0 rfl) ?_
        refine c_get (v := .ref (ad 77)) hx hb hts (fun w h => wz_m (inX9 w h)) hown hK hP (q_WW (ad := ad) (cI := cI) (cW := cW)) rfl 5 (by decide) (hts _ (wz_m tw_1_214)) (fun _ h9 => h9) rfl dX9_term_63 ?_
        obtain ⟨r9, hCr9, hE⟩ := st_bo hE
        refine g_calli (va_runV (As := []) (rest := []) ⟨hx, hb, hml, hown, hts⟩ (k_X6_mostWon hij hCr9) (cwV 0 hts (wz_V tw_3_14 tw_3_15 tw_3_16 tw_1_9 tw_3_17) rfl rfl rfl hdV_X6_mostWon ⟨Nat.le_of_ble_eq_true rfl, Nat.le_of_ble_eq_true rfl⟩) (g_preV KC_st ZC_st hK hZ hP hS hK.1 ((q_Term_77 (ad := ad) (cI := cI) (cW := cW)).1).1 (ec_o (q_Term_77 (ad := ad) (cI := cI) (cW := cW)).1) rfl) rfl rfl hl.1 rfl (lv_room (Nat.le_of_ble_eq_true rfl)) dX9_term_66 ⟨Nat.zero_le _, Nat.zero_le _⟩) hS (fun H locs hP hS => ?_)
        refine lv_goto (tgt := 79) hx hb dX9_term_69 (by decide) ?_
        replace hE := Option.some.inj hE
        have hq := Prod.mk.inj hE
        subst hQQ
        exact g_iret hx hb hr hlocks hP hS hq.1 hq.2 dX9_term_79
    · have hE := st_t hE hc4
      refine lv_bipush (v := (-103)) hx hb dX9_term_19 (by decide) ?_
      replace hE := Option.some.inj hE
      have hq := Prod.mk.inj hE
      subst hQQ
      exact g_iret hx hb hr hlocks hP hS hq.1 hq.2 dX9_term_21
  · have hE := st_t hE hc2
    refine lv_bipush (v := (-102)) hx hb dX9_term_9 (by decide) ?_
    replace hE := Option.some.inj hE
    have hq := Prod.mk.inj hE
    subst hQQ
    exact g_iret hx hb hr hlocks hP hS hq.1 hq.2 dX9_term_11
def b_X1_saysTheSame_2 (k : Nat) (a1 : Int32) (c4 : Int32) (c5 : (Nat → Nat → Int32)) : Option ((Int32 × (Nat → Nat → Int32)) ⊕ (((Nat → Nat → Int32)) ⊕ (Int32 × (Nat → Nat → Int32)))) :=
  if 6 ≤ c4 then (some (.inr (.inl c5))) else (bo (f_X1_saidAmong k c5 a1 c4) (fun (r7 : Int32 × (Nat → Nat → Int32)) => bo (f_X1_everyone k r7.2) (fun (r8 : Int32) => bo (f_X1_saidAmong k r7.2 r8 c4) (fun (r9 : Int32 × (Nat → Nat → Int32)) => if r7.1 = r9.1 then (bv (c4 + 1) (fun (v11 : Int32) => some (.inl (v11, r9.2)))) else (some (.inr (.inr (0, r9.2))))))))
def f_X1_saysTheSame (k : Nat) (S0 : (Nat → Nat → Int32)) (a1 : Int32) : Option (Int32 × (Nat → Nat → Int32)) :=
  bo (lp (fun (s1 : Int32 × (Nat → Nat → Int32)) => b_X1_saysTheSame_2 k a1 s1.1 s1.2) 5000 (0, S0)) (fun (x2 : ((Nat → Nat → Int32)) ⊕ (Int32 × (Nat → Nat → Int32))) => Sum.elim (fun (x2 : (Nat → Nat → Int32)) => some (1, x2)) (fun (x2 : Int32 × (Nat → Nat → Int32)) => some x2) x2)
abbrev rmX1_saysTheSame : Room := { frames := 3, cells := 0, slots := 0, locals := 71 }
theorem hdV_X1_saysTheSame : yX1_saysTheSame.cls = "WitnessWall$Hall" ∧ yX1_saysTheSame.cls ≠ "java/lang/invoke/MethodHandle" ∧ yX1_saysTheSame.cls ≠ "java/lang/invoke/VarHandle" ∧ (parseMethodDescriptor yX1_saysTheSame.desc).map (fun d => d.parameters.length) = some 1 := by decide +kernel
set_option maxHeartbeats 4000000 in
set_option maxRecDepth 100000 in
theorem k_X1_saysTheSame {l : Launch} {D : va_G} {ad : Nat → Nat} {cI cW : ClassId} {tK tC : Nat} (hij : inj 83 ad) {k : Nat} (h0 : iHall ad cI cW k) {S0 : (Nat → Nat → Int32)} {a1 : Int32} {r : Int32} {Sr : (Nat → Nat → Int32)} (hE : f_X1_saysTheSame k S0 a1 = some (r, Sr)) {sz : Nat} : Met l yX1_saysTheSame (wz yX1_saysTheSame cX1_saysTheSame 3 (some FieldType.boolean)) rmX1_saysTheSame (PG 83 ad (ec ad cI cW) D (KC D cI cW) (ZC tK tC) [.ref (ad k), .int a1] S0 sz) (QGi 83 ad (ec ad cI cW) D r Sr sz) 0 0 (AD 83 ad sz) := by
  unfold f_X1_saysTheSame at hE
  refine g_start (cc := cX1_saysTheSame) (maxL := 3) (ret := (some FieldType.boolean)) (Qc := fun sz => QGi 83 ad (ec ad cI cW) D r Sr sz) (by decide) rfl (Nat.le_of_ble_eq_true rfl) ?_
  intro p e s m args below meth c H locs ls hx hb hr hts hown hlocks hml hK hZ hP hS hl
  replace hl : lv_has ls 3 [(0, .ref (ad k)), (1, .int a1)] := hl
  obtain ⟨QQ, hQQ⟩ : ∃ q, q = MQ below (QGi 83 ad (ec ad cI cW) D r Sr s.heap.size) args s 0 0 (AD 83 ad s.heap.size) := ⟨_, rfl⟩
  rw [← hQQ]
  refine lv_iconst (v := 0) hx hb dX1_saysTheSame_0 (by decide) ?_
  refine lv_istore_n (lv' := [(2, .int 0), (0, .ref (ad k)), (1, .int a1)]) hx hb dX1_saysTheSame_1 rfl hl (by decide) rfl (fun ls hl => ?_)
  obtain ⟨x2, hx2, hE⟩ := st_bo hE
  refine lp_walk (body := fun (s1 : Int32 × (Nat → Nat → Int32)) => b_X1_saysTheSame_2 k a1 s1.1 s1.2) (fun s1 => ∀ (ls : Array Slot) (H : Heap) (locs : List Loc), lv_has ls 3 [(0, .ref (ad k)), (1, .int a1), (2, .int s1.1)] → cP D ad cI cW s1.2 H → cS ad s H locs → W p l e rmX1_saysTheSame s m args below meth c H locs 0 0 QQ (F0 m 2 ls [])) (fun x2 => Sum.elim (fun x2 => ∀ (ls : Array Slot) (H : Heap) (locs : List Loc), lv_has ls 3 [] → cP D ad cI cW x2 H → cS ad s H locs → W p l e rmX1_saysTheSame s m args below meth c H locs 0 0 QQ (F0 m 34 ls [])) (fun x2 => x2 = (r, Sr)) x2) ?_ _ _ _ hx2 ?_ ls H locs (lv_sub hl [1, 2, 0] rfl) hP hS
  · intro s1 t3 hE hKt3 ls H locs hl hP hS
    obtain ⟨c4, c5⟩ := s1
    replace hE : b_X1_saysTheSame_2 k a1 c4 c5 = some t3 := hE
    replace hl : lv_has ls 3 [(0, .ref (ad k)), (1, .int a1), (2, .int c4)] := hl
    replace hP : cP D ad cI cW c5 H := hP
    unfold b_X1_saysTheSame_2 at hE
    refine lv_iload_n hx hb dX1_saysTheSame_2 rfl (lv_at hl 2 rfl) ?_
    refine lv_bipush (v := 6) hx hb dX1_saysTheSame_3 (by decide) ?_
    refine lv_icmp_ge (tgt := 34) hx hb dX1_saysTheSame_5 (by decide) (fun hc6 => ?_) (fun hc6 => ?_)
    · have hE := st_t hE hc6
      have hq := Option.some.inj hE
      subst hq
      exact hKt3 ls H locs (lv_sub hl [] rfl) hP hS
    · have hE := st_f hE hc6
      refine lv_aload_n hx hb dX1_saysTheSame_8 rfl (lv_at hl 0 rfl) ?_
      refine lv_iload_n hx hb dX1_saysTheSame_9 rfl (lv_at hl 1 rfl) ?_
      refine lv_iload_n hx hb dX1_saysTheSame_10 rfl (lv_at hl 2 rfl) ?_
      obtain ⟨r7, hCr7, hE⟩ := st_bo hE
      refine g_calli (va_runV (As := [.int a1, .int c4]) (rest := []) ⟨hx, hb, hml, hown, hts⟩ (k_X1_saidAmong hij h0 hCr7) (cwV 2 hts (wz_V tw_3_40 tw_2_181 tw_2_182 tw_1_3 tw_2_183) rfl rfl rfl hdV_X1_saidAmong ⟨Nat.le_of_ble_eq_true rfl, Nat.le_of_ble_eq_true rfl⟩) (g_preV KC_st ZC_st hK hZ hP hS hK.1 (h0.1).1 (ec_o h0.1) rfl) rfl rfl hl.1 rfl (lv_room (Nat.le_of_ble_eq_true rfl)) dX1_saysTheSame_11 ⟨Nat.zero_le _, Nat.zero_le _⟩) hS (fun H locs hP hS => ?_)
      refine lv_aload_n hx hb dX1_saysTheSame_14 rfl (lv_at hl 0 rfl) ?_
      refine lv_aload_n hx hb dX1_saysTheSame_15 rfl (lv_at hl 0 rfl) ?_
      obtain ⟨r8, hCr8, hE⟩ := st_bo hE
      refine g_calli (va_runV (As := []) (rest := [.ref (ad k), .int r7.1]) ⟨hx, hb, hml, hown, hts⟩ (k_X1_everyone hij h0 hCr8) (cwV 0 hts (wz_V tw_3_34 tw_2_177 tw_2_178 tw_1_3 tw_2_179) rfl rfl rfl hdV_X1_everyone ⟨Nat.le_of_ble_eq_true rfl, Nat.le_of_ble_eq_true rfl⟩) (g_preV KC_st ZC_st hK hZ hP hS hK.1 (h0.1).1 (ec_o h0.1) rfl) rfl rfl hl.1 rfl (lv_room (Nat.le_of_ble_eq_true rfl)) dX1_saysTheSame_16 ⟨Nat.zero_le _, Nat.zero_le _⟩) hS (fun H locs hP hS => ?_)
      refine lv_iload_n hx hb dX1_saysTheSame_19 rfl (lv_at hl 2 rfl) ?_
      obtain ⟨r9, hCr9, hE⟩ := st_bo hE
      refine g_calli (va_runV (As := [.int r8, .int c4]) (rest := [.int r7.1]) ⟨hx, hb, hml, hown, hts⟩ (k_X1_saidAmong hij h0 hCr9) (cwV 2 hts (wz_V tw_3_40 tw_2_181 tw_2_182 tw_1_3 tw_2_183) rfl rfl rfl hdV_X1_saidAmong ⟨Nat.le_of_ble_eq_true rfl, Nat.le_of_ble_eq_true rfl⟩) (g_preV KC_st ZC_st hK hZ hP hS hK.1 (h0.1).1 (ec_o h0.1) rfl) rfl rfl hl.1 rfl (lv_room (Nat.le_of_ble_eq_true rfl)) dX1_saysTheSame_20 ⟨Nat.zero_le _, Nat.zero_le _⟩) hS (fun H locs hP hS => ?_)
      refine lv_icmp_eq (tgt := 28) hx hb dX1_saysTheSame_23 (by decide) (fun hc10 => ?_) (fun hc10 => ?_)
      · have hE := st_t hE hc10
        obtain ⟨v11, ev11, hE⟩ := st_bv hE
        refine lv_iinc (v := v11) (lv' := [(2, .int v11), (0, .ref (ad k)), (1, .int a1)]) hx hb dX1_saysTheSame_28 hl (k := 2) rfl (by rw [ev11]; rfl) (by decide) rfl (fun ls hl => ?_)
        refine lv_goto (tgt := 2) hx hb dX1_saysTheSame_31 (by decide) ?_
        have hq := Option.some.inj hE
        subst hq
        exact hKt3 ls H locs (lv_sub hl [1, 2, 0] rfl) hP hS
      · have hE := st_f hE hc10
        refine lv_iconst (v := 0) hx hb dX1_saysTheSame_26 (by decide) ?_
        have hq := Option.some.inj hE
        subst hq
        replace hE : (0, r9.2) = (r, Sr) := hKt3
        have hq := Prod.mk.inj hE
        subst hQQ
        exact g_zret hx hb hr hlocks hP hS ((by decide : (0 : Int32) &&& 1 = 0).trans hq.1) hq.2 dX1_saysTheSame_27
  · rcases x2 with x2 | x2
    · replace hE := st_el hE
      intro ls H locs hl hP hS
      refine lv_iconst (v := 1) hx hb dX1_saysTheSame_34 (by decide) ?_
      replace hE := Option.some.inj hE
      have hq := Prod.mk.inj hE
      subst hQQ
      exact g_zret hx hb hr hlocks hP hS ((by decide : (1 : Int32) &&& 1 = 1).trans hq.1) hq.2 dX1_saysTheSame_35
    · replace hE := st_er hE
      exact Option.some.inj hE
def b_X1_fewestToKeep_12 (k : Nat) (c6 : Int32) (c7 : Int32) (c8 : Int32) (c9 : (Nat → Nat → Int32)) : Option ((Int32 × Int32 × Int32 × (Nat → Nat → Int32)) ⊕ (Int32 × (Nat → Nat → Int32))) :=
  bo (f_X1_everyone k c9) (fun (r10 : Int32) => if r10 ≤ c8 then (some (.inr (c6, c9))) else (bo (f_J6_bitCount_0f7a4 c8) (fun (r12 : Int32) => if c7 ≤ r12 then (bv (c8 + 1) (fun (v14 : Int32) => some (.inl (c6, c7, v14, c9)))) else (bo (f_X1_saysTheSame k c9 c8) (fun (r15 : Int32 × (Nat → Nat → Int32)) => if r15.1 = 0 then (bv (c8 + 1) (fun (v17 : Int32) => some (.inl (c6, c7, v17, r15.2)))) else (bo (f_J6_bitCount_0f7a4 c8) (fun (r18 : Int32) => bv (c8 + 1) (fun (v19 : Int32) => some (.inl (c8, r18, v19, r15.2))))))))))
def f_X1_fewestToKeep (k : Nat) (S0 : (Nat → Nat → Int32)) : Option (Int32 × (Nat → Nat → Int32)) :=
  bo (f_X1_everyone k S0) (fun (r1 : Int32) => bv (S0 k 2) (fun (v2 : Int32) => bo (lp (fun (s3 : Int32 × Int32 × Int32 × (Nat → Nat → Int32)) => b_X1_fewestToKeep_12 k s3.1 s3.2.1 s3.2.2.1 s3.2.2.2) 5000 (r1, v2, 0, S0)) (fun (x4 : Int32 × (Nat → Nat → Int32)) => some (x4.1, x4.2))))
abbrev rmX1_fewestToKeep : Room := { frames := 4, cells := 0, slots := 0, locals := 93 }
theorem hdV_X1_fewestToKeep : yX1_fewestToKeep.cls = "WitnessWall$Hall" ∧ yX1_fewestToKeep.cls ≠ "java/lang/invoke/MethodHandle" ∧ yX1_fewestToKeep.cls ≠ "java/lang/invoke/VarHandle" ∧ (parseMethodDescriptor yX1_fewestToKeep.desc).map (fun d => d.parameters.length) = some 0 := by decide +kernel
set_option maxHeartbeats 4000000 in
set_option maxRecDepth 100000 in
theorem k_X1_fewestToKeep {l : Launch} {D : va_G} {ad : Nat → Nat} {cI cW : ClassId} {tK tC : Nat} (hij : inj 83 ad) {k : Nat} (h0 : iHall ad cI cW k) {S0 : (Nat → Nat → Int32)} {r : Int32} {Sr : (Nat → Nat → Int32)} (hE : f_X1_fewestToKeep k S0 = some (r, Sr)) {sz : Nat} : Met l yX1_fewestToKeep (wz yX1_fewestToKeep cX1_fewestToKeep 4 (some FieldType.int)) rmX1_fewestToKeep (PG 83 ad (ec ad cI cW) D (KC D cI cW) (ZC tK tC) [.ref (ad k)] S0 sz) (QGi 83 ad (ec ad cI cW) D r Sr sz) 0 0 (AD 83 ad sz) := by
  unfold f_X1_fewestToKeep at hE
  refine g_start (cc := cX1_fewestToKeep) (maxL := 4) (ret := (some FieldType.int)) (Qc := fun sz => QGi 83 ad (ec ad cI cW) D r Sr sz) (by decide) rfl (Nat.le_of_ble_eq_true rfl) ?_
  intro p e s m args below meth c H locs ls hx hb hr hts hown hlocks hml hK hZ hP hS hl
  replace hl : lv_has ls 4 [(0, .ref (ad k))] := hl
  obtain ⟨QQ, hQQ⟩ : ∃ q, q = MQ below (QGi 83 ad (ec ad cI cW) D r Sr s.heap.size) args s 0 0 (AD 83 ad s.heap.size) := ⟨_, rfl⟩
  rw [← hQQ]
  refine lv_aload_n hx hb dX1_fewestToKeep_0 rfl (lv_at hl 0 rfl) ?_
  obtain ⟨r1, hCr1, hE⟩ := st_bo hE
  refine g_calli (va_runV (As := []) (rest := []) ⟨hx, hb, hml, hown, hts⟩ (k_X1_everyone hij h0 hCr1) (cwV 0 hts (wz_V tw_3_34 tw_2_177 tw_2_178 tw_1_3 tw_2_179) rfl rfl rfl hdV_X1_everyone ⟨Nat.le_of_ble_eq_true rfl, Nat.le_of_ble_eq_true rfl⟩) (g_preV KC_st ZC_st hK hZ hP hS hK.1 (h0.1).1 (ec_o h0.1) rfl) rfl rfl hl.1 rfl (lv_room (Nat.le_of_ble_eq_true rfl)) dX1_fewestToKeep_1 ⟨Nat.zero_le _, Nat.zero_le _⟩) hS (fun H locs hP hS => ?_)
  refine lv_istore_n (lv' := [(1, .int r1), (0, .ref (ad k))]) hx hb dX1_fewestToKeep_4 rfl hl (by decide) rfl (fun ls hl => ?_)
  refine lv_aload_n hx hb dX1_fewestToKeep_5 rfl (lv_at hl 1 rfl) ?_
  refine c_get (v := .int (S0 k 2)) hx hb hts (fun w h => wz_m (inX1 w h)) hown hK hP h0.1 rfl 2 (by decide) (hts _ (wz_m tw_1_60)) (fun _ h9 => h9) rfl dX1_fewestToKeep_6 ?_
  obtain ⟨v2, ev2, hE⟩ := st_bv hE
  refine nm_i ev2 ?_
  refine lv_istore_n (lv' := [(2, .int v2), (1, .int r1), (0, .ref (ad k))]) hx hb dX1_fewestToKeep_9 rfl hl (by decide) rfl (fun ls hl => ?_)
  refine lv_iconst (v := 0) hx hb dX1_fewestToKeep_10 (by decide) ?_
  refine lv_istore_n (lv' := [(3, .int 0), (2, .int v2), (1, .int r1), (0, .ref (ad k))]) hx hb dX1_fewestToKeep_11 rfl hl (by decide) rfl (fun ls hl => ?_)
  obtain ⟨x4, hx4, hE⟩ := st_bo hE
  refine lp_walk (body := fun (s3 : Int32 × Int32 × Int32 × (Nat → Nat → Int32)) => b_X1_fewestToKeep_12 k s3.1 s3.2.1 s3.2.2.1 s3.2.2.2) (fun s3 => ∀ (ls : Array Slot) (H : Heap) (locs : List Loc), lv_has ls 4 [(0, .ref (ad k)), (1, .int s3.1), (2, .int s3.2.1), (3, .int s3.2.2.1)] → cP D ad cI cW s3.2.2.2 H → cS ad s H locs → W p l e rmX1_fewestToKeep s m args below meth c H locs 0 0 QQ (F0 m 12 ls [])) (fun x4 => ∀ (ls : Array Slot) (H : Heap) (locs : List Loc), lv_has ls 4 [(1, .int x4.1)] → cP D ad cI cW x4.2 H → cS ad s H locs → W p l e rmX1_fewestToKeep s m args below meth c H locs 0 0 QQ (F0 m 49 ls [])) ?_ _ _ _ hx4 ?_ ls H locs (lv_sub hl [3, 2, 1, 0] rfl) hP hS
  · intro s3 t5 hE hKt5 ls H locs hl hP hS
    obtain ⟨c6, c7, c8, c9⟩ := s3
    replace hE : b_X1_fewestToKeep_12 k c6 c7 c8 c9 = some t5 := hE
    replace hl : lv_has ls 4 [(0, .ref (ad k)), (1, .int c6), (2, .int c7), (3, .int c8)] := hl
    replace hP : cP D ad cI cW c9 H := hP
    unfold b_X1_fewestToKeep_12 at hE
    refine lv_iload_n hx hb dX1_fewestToKeep_12 rfl (lv_at hl 3 rfl) ?_
    refine lv_aload_n hx hb dX1_fewestToKeep_13 rfl (lv_at hl 0 rfl) ?_
    obtain ⟨r10, hCr10, hE⟩ := st_bo hE
    refine g_calli (va_runV (As := []) (rest := [.int c8]) ⟨hx, hb, hml, hown, hts⟩ (k_X1_everyone hij h0 hCr10) (cwV 0 hts (wz_V tw_3_34 tw_2_177 tw_2_178 tw_1_3 tw_2_179) rfl rfl rfl hdV_X1_everyone ⟨Nat.le_of_ble_eq_true rfl, Nat.le_of_ble_eq_true rfl⟩) (g_preV KC_st ZC_st hK hZ hP hS hK.1 (h0.1).1 (ec_o h0.1) rfl) rfl rfl hl.1 rfl (lv_room (Nat.le_of_ble_eq_true rfl)) dX1_fewestToKeep_14 ⟨Nat.zero_le _, Nat.zero_le _⟩) hS (fun H locs hP hS => ?_)
    refine lv_icmp_ge (tgt := 49) hx hb dX1_fewestToKeep_17 (by decide) (fun hc11 => ?_) (fun hc11 => ?_)
    · have hE := st_t hE hc11
      have hq := Option.some.inj hE
      subst hq
      exact hKt5 ls H locs (lv_sub hl [1] rfl) hP hS
    · have hE := st_f hE hc11
      refine lv_iload_n hx hb dX1_fewestToKeep_20 rfl (lv_at hl 3 rfl) ?_
      obtain ⟨r12, hCr12, hE⟩ := st_bo hE
      refine g_calli (va_runS (As := [.int c8]) (rest := []) ⟨hx, hb, hml, hown, hts⟩ (k_J6_bitCount_0f7a4 hij (S0 := c9) hCr12) (va_cwS 1 hts (wz_S tw_3_35 tw_2_136 tw_1_13 tw_2_137) rfl rfl rfl hdS_J6_bitCount_0f7a4 ⟨Nat.le_of_ble_eq_true rfl, Nat.le_of_ble_eq_true rfl⟩) (g_preS KC_st ZC_st hK hZ hP hS) rfl rfl hl.1 rfl (lv_room (Nat.le_of_ble_eq_true rfl)) dX1_fewestToKeep_21 ⟨Nat.zero_le _, Nat.zero_le _⟩) hS (fun H locs hP hS => ?_)
      refine lv_iload_n hx hb dX1_fewestToKeep_24 rfl (lv_at hl 2 rfl) ?_
      refine lv_icmp_ge (tgt := 43) hx hb dX1_fewestToKeep_25 (by decide) (fun hc13 => ?_) (fun hc13 => ?_)
      · have hE := st_t hE hc13
        obtain ⟨v14, ev14, hE⟩ := st_bv hE
        refine lv_iinc (v := v14) (lv' := [(3, .int v14), (0, .ref (ad k)), (1, .int c6), (2, .int c7)]) hx hb dX1_fewestToKeep_43 hl (k := 3) rfl (by rw [ev14]; rfl) (by decide) rfl (fun ls hl => ?_)
        refine lv_goto (tgt := 12) hx hb dX1_fewestToKeep_46 (by decide) ?_
        have hq := Option.some.inj hE
        subst hq
        exact hKt5 ls H locs (lv_sub hl [1, 2, 3, 0] rfl) hP hS
      · have hE := st_f hE hc13
        refine lv_aload_n hx hb dX1_fewestToKeep_28 rfl (lv_at hl 0 rfl) ?_
        refine lv_iload_n hx hb dX1_fewestToKeep_29 rfl (lv_at hl 3 rfl) ?_
        obtain ⟨r15, hCr15, hE⟩ := st_bo hE
        refine g_calli (va_runV (As := [.int c8]) (rest := []) ⟨hx, hb, hml, hown, hts⟩ (k_X1_saysTheSame hij h0 hCr15) (cwV 1 hts (wz_V tw_3_36 tw_3_37 tw_3_38 tw_1_3 tw_3_39) rfl rfl rfl hdV_X1_saysTheSame ⟨Nat.le_of_ble_eq_true rfl, Nat.le_of_ble_eq_true rfl⟩) (g_preV KC_st ZC_st hK hZ hP hS hK.1 (h0.1).1 (ec_o h0.1) rfl) rfl rfl hl.1 rfl (lv_room (Nat.le_of_ble_eq_true rfl)) dX1_fewestToKeep_30 ⟨Nat.zero_le _, Nat.zero_le _⟩) hS (fun H locs hP hS => ?_)
        refine lv_if_eq (tgt := 43) hx hb dX1_fewestToKeep_33 (by decide) (fun hc16 => ?_) (fun hc16 => ?_)
        · have hE := st_t hE hc16
          obtain ⟨v17, ev17, hE⟩ := st_bv hE
          refine lv_iinc (v := v17) (lv' := [(3, .int v17), (0, .ref (ad k)), (1, .int c6), (2, .int c7)]) hx hb dX1_fewestToKeep_43 hl (k := 3) rfl (by rw [ev17]; rfl) (by decide) rfl (fun ls hl => ?_)
          refine lv_goto (tgt := 12) hx hb dX1_fewestToKeep_46 (by decide) ?_
          have hq := Option.some.inj hE
          subst hq
          exact hKt5 ls H locs (lv_sub hl [1, 2, 3, 0] rfl) hP hS
        · have hE := st_f hE hc16
          refine lv_iload_n hx hb dX1_fewestToKeep_36 rfl (lv_at hl 3 rfl) ?_
          refine lv_istore_n (lv' := [(1, .int c8), (0, .ref (ad k)), (2, .int c7), (3, .int c8)]) hx hb dX1_fewestToKeep_37 rfl hl (by decide) rfl (fun ls hl => ?_)
          refine lv_iload_n hx hb dX1_fewestToKeep_38 rfl (lv_at hl 3 rfl) ?_
          obtain ⟨r18, hCr18, hE⟩ := st_bo hE
          refine g_calli (va_runS (As := [.int c8]) (rest := []) ⟨hx, hb, hml, hown, hts⟩ (k_J6_bitCount_0f7a4 hij (S0 := r15.2) hCr18) (va_cwS 1 hts (wz_S tw_3_35 tw_2_136 tw_1_13 tw_2_137) rfl rfl rfl hdS_J6_bitCount_0f7a4 ⟨Nat.le_of_ble_eq_true rfl, Nat.le_of_ble_eq_true rfl⟩) (g_preS KC_st ZC_st hK hZ hP hS) rfl rfl hl.1 rfl (lv_room (Nat.le_of_ble_eq_true rfl)) dX1_fewestToKeep_39 ⟨Nat.zero_le _, Nat.zero_le _⟩) hS (fun H locs hP hS => ?_)
          refine lv_istore_n (lv' := [(2, .int r18), (1, .int c8), (0, .ref (ad k)), (3, .int c8)]) hx hb dX1_fewestToKeep_42 rfl hl (by decide) rfl (fun ls hl => ?_)
          obtain ⟨v19, ev19, hE⟩ := st_bv hE
          refine lv_iinc (v := v19) (lv' := [(3, .int v19), (2, .int r18), (1, .int c8), (0, .ref (ad k))]) hx hb dX1_fewestToKeep_43 hl (k := 3) rfl (by rw [ev19]; rfl) (by decide) rfl (fun ls hl => ?_)
          refine lv_goto (tgt := 12) hx hb dX1_fewestToKeep_46 (by decide) ?_
          have hq := Option.some.inj hE
          subst hq
          exact hKt5 ls H locs (lv_sub hl [3, 2, 1, 0] rfl) hP hS
  · intro ls H locs hl hP hS
    refine lv_iload_n hx hb dX1_fewestToKeep_49 rfl (lv_at hl 0 rfl) ?_
    replace hE := Option.some.inj hE
    have hq := Prod.mk.inj hE
    subst hQQ
    exact g_iret hx hb hr hlocks hP hS hq.1 hq.2 dX1_fewestToKeep_50
def f_X9_keep (S0 : (Nat → Nat → Int32)) (a1 : Int32) : Option (Int32 × (Nat → Nat → Int32)) :=
  bo (f_X9_isWithin a1 0 1) (fun (r1 : Int32) => if r1 = 0 then (some ((-102), S0)) else (bo (f_X9_hasWall S0) (fun (r3 : Int32) => if r3 = 0 then (some ((-103), S0)) else (bo (f_X1_fewestToKeep 23 S0) (fun (r5 : Int32 × (Nat → Nat → Int32)) => if a1 = 0 then (bo (f_J6_bitCount_0f7a4 r5.1) (fun (r7 : Int32) => some (r7, r5.2))) else (some (r5.1, r5.2)))))))
abbrev rmX9_keep : Room := { frames := 5, cells := 0, slots := 0, locals := 116 }
theorem hdV_X9_keep : yX9_keep.cls = "WitnessWall" ∧ yX9_keep.cls ≠ "java/lang/invoke/MethodHandle" ∧ yX9_keep.cls ≠ "java/lang/invoke/VarHandle" ∧ (parseMethodDescriptor yX9_keep.desc).map (fun d => d.parameters.length) = some 1 := by decide +kernel
set_option maxHeartbeats 4000000 in
set_option maxRecDepth 100000 in
theorem k_X9_keep {l : Launch} {D : va_G} {ad : Nat → Nat} {cI cW : ClassId} {tK tC : Nat} (hij : inj 83 ad)  {S0 : (Nat → Nat → Int32)} {a1 : Int32} {r : Int32} {Sr : (Nat → Nat → Int32)} (hE : f_X9_keep S0 a1 = some (r, Sr)) {sz : Nat} : Met l yX9_keep (wz yX9_keep cX9_keep 3 (some FieldType.int)) rmX9_keep (PG 83 ad (ec ad cI cW) D (KC D cI cW) (ZC tK tC) [.ref (ad 0), .int a1] S0 sz) (QGi 83 ad (ec ad cI cW) D r Sr sz) 0 0 (AD 83 ad sz) := by
  unfold f_X9_keep at hE
  refine g_start (cc := cX9_keep) (maxL := 3) (ret := (some FieldType.int)) (Qc := fun sz => QGi 83 ad (ec ad cI cW) D r Sr sz) (by decide) rfl (Nat.le_of_ble_eq_true rfl) ?_
  intro p e s m args below meth c H locs ls hx hb hr hts hown hlocks hml hK hZ hP hS hl
  replace hl : lv_has ls 3 [(0, .ref (ad 0)), (1, .int a1)] := hl
  obtain ⟨QQ, hQQ⟩ : ∃ q, q = MQ below (QGi 83 ad (ec ad cI cW) D r Sr s.heap.size) args s 0 0 (AD 83 ad s.heap.size) := ⟨_, rfl⟩
  rw [← hQQ]
  refine lv_iload_n hx hb dX9_keep_0 rfl (lv_at hl 1 rfl) ?_
  refine lv_iconst (v := 0) hx hb dX9_keep_1 (by decide) ?_
  refine lv_iconst (v := 1) hx hb dX9_keep_2 (by decide) ?_
  obtain ⟨r1, hCr1, hE⟩ := st_bo hE
  refine g_calli (va_runS (As := [.int a1, .int 0, .int 1]) (rest := []) ⟨hx, hb, hml, hown, hts⟩ (k_X9_isWithin hij (S0 := S0) hCr1) (va_cwS 3 hts (wz_S tw_2_1 tw_2_2 tw_1_1 tw_2_3) rfl rfl rfl hdS_X9_isWithin ⟨Nat.le_of_ble_eq_true rfl, Nat.le_of_ble_eq_true rfl⟩) (g_preS KC_st ZC_st hK hZ hP hS) rfl rfl hl.1 rfl (lv_room (Nat.le_of_ble_eq_true rfl)) dX9_keep_3 ⟨Nat.zero_le _, Nat.zero_le _⟩) hS (fun H locs hP hS => ?_)
  refine lv_if_ne (tgt := 12) hx hb dX9_keep_6 (by decide) (fun hc2 => ?_) (fun hc2 => ?_)
  · have hE := st_f hE hc2
    refine lv_aload_n hx hb dX9_keep_12 rfl (lv_at hl 0 rfl) ?_
    obtain ⟨r3, hCr3, hE⟩ := st_bo hE
    refine g_calli (va_runV (As := []) (rest := []) ⟨hx, hb, hml, hown, hts⟩ (k_X9_hasWall hij hCr3) (cwV 0 hts (wz_V tw_2_172 tw_2_174 tp_1 tw_1_1 tw_2_175) rfl rfl rfl hdV_X9_hasWall ⟨Nat.le_of_ble_eq_true rfl, Nat.le_of_ble_eq_true rfl⟩) (g_preV KC_st ZC_st hK hZ hP hS hK.1 ((q_WW (ad := ad) (cI := cI) (cW := cW))).1 (ec_o (q_WW (ad := ad) (cI := cI) (cW := cW))) rfl) rfl rfl hl.1 rfl (lv_room (Nat.le_of_ble_eq_true rfl)) dX9_keep_13 ⟨Nat.zero_le _, Nat.zero_le _⟩) hS (fun H locs hP hS => ?_)
    refine lv_if_ne (tgt := 22) hx hb dX9_keep_16 (by decide) (fun hc4 => ?_) (fun hc4 => ?_)
    · have hE := st_f hE hc4
      refine lv_aload_n hx hb dX9_keep_22 rfl (lv_at hl 0 rfl) ?_
      refine c_get (v := .ref (ad 22)) hx hb hts (fun w h => wz_m (inX9 w h)) hown hK hP (q_WW (ad := ad) (cI := cI) (cW := cW)) rfl 2 (by decide) (hts _ (wz_m tw_1_211)) (fun _ h9 => h9) rfl dX9_keep_23 ?_
      refine c_getN (v := .ref (ad 23)) hx hb hts (fun w h => wz_m (inX3 w h)) hown hK hP (q_Scene_22 (ad := ad) (cI := cI) (cW := cW)).1 rfl 0 (by decide) (List.mem_of_getElem? (i := 29) rfl) (fun _ h9 => h9) rfl dX9_keep_26 ?_
      obtain ⟨r5, hCr5, hE⟩ := st_bo hE
      refine g_calli (va_runV (As := []) (rest := []) ⟨hx, hb, hml, hown, hts⟩ (k_X1_fewestToKeep hij (q_Hall_23 (ad := ad) (cI := cI) (cW := cW)) hCr5) (cwV 0 hts (wz_V tw_3_30 tw_3_31 tw_3_32 tw_1_3 tw_3_33) rfl rfl rfl hdV_X1_fewestToKeep ⟨Nat.le_of_ble_eq_true rfl, Nat.le_of_ble_eq_true rfl⟩) (g_preV KC_st ZC_st hK hZ hP hS hK.1 ((q_Hall_23 (ad := ad) (cI := cI) (cW := cW)).1).1 (ec_o (q_Hall_23 (ad := ad) (cI := cI) (cW := cW)).1) rfl) rfl rfl hl.1 rfl (lv_room (Nat.le_of_ble_eq_true rfl)) dX9_keep_29 ⟨Nat.zero_le _, Nat.zero_le _⟩) hS (fun H locs hP hS => ?_)
      refine lv_istore_n (lv' := [(2, .int r5.1), (0, .ref (ad 0)), (1, .int a1)]) hx hb dX9_keep_32 rfl hl (by decide) rfl (fun ls hl => ?_)
      refine lv_iload_n hx hb dX9_keep_33 rfl (lv_at hl 2 rfl) ?_
      refine lv_if_ne (tgt := 44) hx hb dX9_keep_34 (by decide) (fun hc6 => ?_) (fun hc6 => ?_)
      · have hE := st_f hE hc6
        refine lv_iload_n hx hb dX9_keep_44 rfl (lv_at hl 0 rfl) ?_
        replace hE := Option.some.inj hE
        have hq := Prod.mk.inj hE
        subst hQQ
        exact g_iret hx hb hr hlocks hP hS hq.1 hq.2 dX9_keep_45
      · have hE := st_t hE hc6
        refine lv_iload_n hx hb dX9_keep_37 rfl (lv_at hl 0 rfl) ?_
        obtain ⟨r7, hCr7, hE⟩ := st_bo hE
        refine g_calli (va_runS (As := [.int r5.1]) (rest := []) ⟨hx, hb, hml, hown, hts⟩ (k_J6_bitCount_0f7a4 hij (S0 := r5.2) hCr7) (va_cwS 1 hts (wz_S tw_3_41 tw_2_136 tw_1_13 tw_2_137) rfl rfl rfl hdS_J6_bitCount_0f7a4 ⟨Nat.le_of_ble_eq_true rfl, Nat.le_of_ble_eq_true rfl⟩) (g_preS KC_st ZC_st hK hZ hP hS) rfl rfl hl.1 rfl (lv_room (Nat.le_of_ble_eq_true rfl)) dX9_keep_38 ⟨Nat.zero_le _, Nat.zero_le _⟩) hS (fun H locs hP hS => ?_)
        refine lv_goto (tgt := 45) hx hb dX9_keep_41 (by decide) ?_
        replace hE := Option.some.inj hE
        have hq := Prod.mk.inj hE
        subst hQQ
        exact g_iret hx hb hr hlocks hP hS hq.1 hq.2 dX9_keep_45
    · have hE := st_t hE hc4
      refine lv_bipush (v := (-103)) hx hb dX9_keep_19 (by decide) ?_
      replace hE := Option.some.inj hE
      have hq := Prod.mk.inj hE
      subst hQQ
      exact g_iret hx hb hr hlocks hP hS hq.1 hq.2 dX9_keep_21
  · have hE := st_t hE hc2
    refine lv_bipush (v := (-102)) hx hb dX9_keep_9 (by decide) ?_
    replace hE := Option.some.inj hE
    have hq := Prod.mk.inj hE
    subst hQQ
    exact g_iret hx hb hr hlocks hP hS hq.1 hq.2 dX9_keep_11
def b_X1_fewestToSendAway_12 (k : Nat) (S0 : (Nat → Nat → Int32)) (c6 : Int32) (c7 : Int32) (c8 : Int32) : Option ((Int32 × Int32 × Int32) ⊕ (Int32)) :=
  bo (f_X1_everyone k S0) (fun (r9 : Int32) => if r9 ≤ c8 then (some (.inr c6)) else (bo (f_J6_bitCount_0f7a4 c8) (fun (r11 : Int32) => if c7 ≤ r11 then (bv (c8 + 1) (fun (v13 : Int32) => some (.inl (c6, c7, v13)))) else (bo (f_X1_everyone k S0) (fun (r14 : Int32) => bo (f_X1_clashesAmong k S0 (r14 &&& (c8 ^^^ (-1)))) (fun (r15 : Int32) => if r15 = 0 then (bo (f_J6_bitCount_0f7a4 c8) (fun (r18 : Int32) => bv (c8 + 1) (fun (v19 : Int32) => some (.inl (c8, r18, v19))))) else (bv (c8 + 1) (fun (v17 : Int32) => some (.inl (c6, c7, v17))))))))))
def f_X1_fewestToSendAway (k : Nat) (S0 : (Nat → Nat → Int32)) : Option (Int32) :=
  bo (f_X1_everyone k S0) (fun (r1 : Int32) => bv (S0 k 2) (fun (v2 : Int32) => bo (lp (fun (s3 : Int32 × Int32 × Int32) => b_X1_fewestToSendAway_12 k S0 s3.1 s3.2.1 s3.2.2) 5000 (r1, v2, 0)) (fun (x4 : Int32) => some x4)))
abbrev rmX1_fewestToSendAway : Room := { frames := 3, cells := 0, slots := 0, locals := 72 }
theorem hdV_X1_fewestToSendAway : yX1_fewestToSendAway.cls = "WitnessWall$Hall" ∧ yX1_fewestToSendAway.cls ≠ "java/lang/invoke/MethodHandle" ∧ yX1_fewestToSendAway.cls ≠ "java/lang/invoke/VarHandle" ∧ (parseMethodDescriptor yX1_fewestToSendAway.desc).map (fun d => d.parameters.length) = some 0 := by decide +kernel
set_option maxHeartbeats 4000000 in
set_option maxRecDepth 100000 in
theorem k_X1_fewestToSendAway {l : Launch} {D : va_G} {ad : Nat → Nat} {cI cW : ClassId} {tK tC : Nat} (hij : inj 83 ad) {k : Nat} (h0 : iHall ad cI cW k) {S0 : (Nat → Nat → Int32)} {r : Int32} (hE : f_X1_fewestToSendAway k S0 = some r) {sz : Nat} : Met l yX1_fewestToSendAway (wz yX1_fewestToSendAway cX1_fewestToSendAway 4 (some FieldType.int)) rmX1_fewestToSendAway (PG 83 ad (ec ad cI cW) D (KC D cI cW) (ZC tK tC) [.ref (ad k)] S0 sz) (QGi 83 ad (ec ad cI cW) D r S0 sz) 0 0 (AD 83 ad sz) := by
  unfold f_X1_fewestToSendAway at hE
  refine g_start (cc := cX1_fewestToSendAway) (maxL := 4) (ret := (some FieldType.int)) (Qc := fun sz => QGi 83 ad (ec ad cI cW) D r S0 sz) (by decide) rfl (Nat.le_of_ble_eq_true rfl) ?_
  intro p e s m args below meth c H locs ls hx hb hr hts hown hlocks hml hK hZ hP hS hl
  replace hl : lv_has ls 4 [(0, .ref (ad k))] := hl
  obtain ⟨QQ, hQQ⟩ : ∃ q, q = MQ below (QGi 83 ad (ec ad cI cW) D r S0 s.heap.size) args s 0 0 (AD 83 ad s.heap.size) := ⟨_, rfl⟩
  rw [← hQQ]
  refine lv_aload_n hx hb dX1_fewestToSendAway_0 rfl (lv_at hl 0 rfl) ?_
  obtain ⟨r1, hCr1, hE⟩ := st_bo hE
  refine g_calli (va_runV (As := []) (rest := []) ⟨hx, hb, hml, hown, hts⟩ (k_X1_everyone hij h0 hCr1) (cwV 0 hts (wz_V tw_3_34 tw_2_177 tw_2_178 tw_1_3 tw_2_179) rfl rfl rfl hdV_X1_everyone ⟨Nat.le_of_ble_eq_true rfl, Nat.le_of_ble_eq_true rfl⟩) (g_preV KC_st ZC_st hK hZ hP hS hK.1 (h0.1).1 (ec_o h0.1) rfl) rfl rfl hl.1 rfl (lv_room (Nat.le_of_ble_eq_true rfl)) dX1_fewestToSendAway_1 ⟨Nat.zero_le _, Nat.zero_le _⟩) hS (fun H locs hP hS => ?_)
  refine lv_istore_n (lv' := [(1, .int r1), (0, .ref (ad k))]) hx hb dX1_fewestToSendAway_4 rfl hl (by decide) rfl (fun ls hl => ?_)
  refine lv_aload_n hx hb dX1_fewestToSendAway_5 rfl (lv_at hl 1 rfl) ?_
  refine c_get (v := .int (S0 k 2)) hx hb hts (fun w h => wz_m (inX1 w h)) hown hK hP h0.1 rfl 2 (by decide) (hts _ (wz_m tw_1_60)) (fun _ h9 => h9) rfl dX1_fewestToSendAway_6 ?_
  obtain ⟨v2, ev2, hE⟩ := st_bv hE
  refine nm_i ev2 ?_
  refine lv_istore_n (lv' := [(2, .int v2), (1, .int r1), (0, .ref (ad k))]) hx hb dX1_fewestToSendAway_9 rfl hl (by decide) rfl (fun ls hl => ?_)
  refine lv_iconst (v := 0) hx hb dX1_fewestToSendAway_10 (by decide) ?_
  refine lv_istore_n (lv' := [(3, .int 0), (2, .int v2), (1, .int r1), (0, .ref (ad k))]) hx hb dX1_fewestToSendAway_11 rfl hl (by decide) rfl (fun ls hl => ?_)
  obtain ⟨x4, hx4, hE⟩ := st_bo hE
  refine lp_walk (body := fun (s3 : Int32 × Int32 × Int32) => b_X1_fewestToSendAway_12 k S0 s3.1 s3.2.1 s3.2.2) (fun s3 => ∀ (ls : Array Slot) (H : Heap) (locs : List Loc), lv_has ls 4 [(0, .ref (ad k)), (1, .int s3.1), (2, .int s3.2.1), (3, .int s3.2.2)] → cP D ad cI cW S0 H → cS ad s H locs → W p l e rmX1_fewestToSendAway s m args below meth c H locs 0 0 QQ (F0 m 12 ls [])) (fun x4 => ∀ (ls : Array Slot) (H : Heap) (locs : List Loc), lv_has ls 4 [(1, .int x4)] → cP D ad cI cW S0 H → cS ad s H locs → W p l e rmX1_fewestToSendAway s m args below meth c H locs 0 0 QQ (F0 m 56 ls [])) ?_ _ _ _ hx4 ?_ ls H locs (lv_sub hl [3, 2, 1, 0] rfl) hP hS
  · intro s3 t5 hE hKt5 ls H locs hl hP hS
    obtain ⟨c6, c7, c8⟩ := s3
    replace hE : b_X1_fewestToSendAway_12 k S0 c6 c7 c8 = some t5 := hE
    replace hl : lv_has ls 4 [(0, .ref (ad k)), (1, .int c6), (2, .int c7), (3, .int c8)] := hl
    replace hP : cP D ad cI cW S0 H := hP
    unfold b_X1_fewestToSendAway_12 at hE
    refine lv_iload_n hx hb dX1_fewestToSendAway_12 rfl (lv_at hl 3 rfl) ?_
    refine lv_aload_n hx hb dX1_fewestToSendAway_13 rfl (lv_at hl 0 rfl) ?_
    obtain ⟨r9, hCr9, hE⟩ := st_bo hE
    refine g_calli (va_runV (As := []) (rest := [.int c8]) ⟨hx, hb, hml, hown, hts⟩ (k_X1_everyone hij h0 hCr9) (cwV 0 hts (wz_V tw_3_34 tw_2_177 tw_2_178 tw_1_3 tw_2_179) rfl rfl rfl hdV_X1_everyone ⟨Nat.le_of_ble_eq_true rfl, Nat.le_of_ble_eq_true rfl⟩) (g_preV KC_st ZC_st hK hZ hP hS hK.1 (h0.1).1 (ec_o h0.1) rfl) rfl rfl hl.1 rfl (lv_room (Nat.le_of_ble_eq_true rfl)) dX1_fewestToSendAway_14 ⟨Nat.zero_le _, Nat.zero_le _⟩) hS (fun H locs hP hS => ?_)
    refine lv_icmp_ge (tgt := 56) hx hb dX1_fewestToSendAway_17 (by decide) (fun hc10 => ?_) (fun hc10 => ?_)
    · have hE := st_t hE hc10
      have hq := Option.some.inj hE
      subst hq
      exact hKt5 ls H locs (lv_sub hl [1] rfl) hP hS
    · have hE := st_f hE hc10
      refine lv_iload_n hx hb dX1_fewestToSendAway_20 rfl (lv_at hl 3 rfl) ?_
      obtain ⟨r11, hCr11, hE⟩ := st_bo hE
      refine g_calli (va_runS (As := [.int c8]) (rest := []) ⟨hx, hb, hml, hown, hts⟩ (k_J6_bitCount_0f7a4 hij (S0 := S0) hCr11) (va_cwS 1 hts (wz_S tw_3_35 tw_2_136 tw_1_13 tw_2_137) rfl rfl rfl hdS_J6_bitCount_0f7a4 ⟨Nat.le_of_ble_eq_true rfl, Nat.le_of_ble_eq_true rfl⟩) (g_preS KC_st ZC_st hK hZ hP hS) rfl rfl hl.1 rfl (lv_room (Nat.le_of_ble_eq_true rfl)) dX1_fewestToSendAway_21 ⟨Nat.zero_le _, Nat.zero_le _⟩) hS (fun H locs hP hS => ?_)
      refine lv_iload_n hx hb dX1_fewestToSendAway_24 rfl (lv_at hl 2 rfl) ?_
      refine lv_icmp_ge (tgt := 50) hx hb dX1_fewestToSendAway_25 (by decide) (fun hc12 => ?_) (fun hc12 => ?_)
      · have hE := st_t hE hc12
        obtain ⟨v13, ev13, hE⟩ := st_bv hE
        refine lv_iinc (v := v13) (lv' := [(3, .int v13), (0, .ref (ad k)), (1, .int c6), (2, .int c7)]) hx hb dX1_fewestToSendAway_50 hl (k := 3) rfl (by rw [ev13]; rfl) (by decide) rfl (fun ls hl => ?_)
        refine lv_goto (tgt := 12) hx hb dX1_fewestToSendAway_53 (by decide) ?_
        have hq := Option.some.inj hE
        subst hq
        exact hKt5 ls H locs (lv_sub hl [1, 2, 3, 0] rfl) hP hS
      · have hE := st_f hE hc12
        refine lv_aload_n hx hb dX1_fewestToSendAway_28 rfl (lv_at hl 0 rfl) ?_
        refine lv_aload_n hx hb dX1_fewestToSendAway_29 rfl (lv_at hl 0 rfl) ?_
        obtain ⟨r14, hCr14, hE⟩ := st_bo hE
        refine g_calli (va_runV (As := []) (rest := [.ref (ad k)]) ⟨hx, hb, hml, hown, hts⟩ (k_X1_everyone hij h0 hCr14) (cwV 0 hts (wz_V tw_3_34 tw_2_177 tw_2_178 tw_1_3 tw_2_179) rfl rfl rfl hdV_X1_everyone ⟨Nat.le_of_ble_eq_true rfl, Nat.le_of_ble_eq_true rfl⟩) (g_preV KC_st ZC_st hK hZ hP hS hK.1 (h0.1).1 (ec_o h0.1) rfl) rfl rfl hl.1 rfl (lv_room (Nat.le_of_ble_eq_true rfl)) dX1_fewestToSendAway_30 ⟨Nat.zero_le _, Nat.zero_le _⟩) hS (fun H locs hP hS => ?_)
        refine lv_iload_n hx hb dX1_fewestToSendAway_33 rfl (lv_at hl 3 rfl) ?_
        refine lv_iconst (v := (-1)) hx hb dX1_fewestToSendAway_34 (by decide) ?_
        refine lv_ixor hx hb dX1_fewestToSendAway_35 ?_
        refine lv_iand hx hb dX1_fewestToSendAway_36 ?_
        obtain ⟨r15, hCr15, hE⟩ := st_bo hE
        refine g_calli (va_runV (As := [.int (r14 &&& (c8 ^^^ (-1)))]) (rest := []) ⟨hx, hb, hml, hown, hts⟩ (k_X1_clashesAmong hij h0 hCr15) (cwV 1 hts (wz_V tw_3_50 tw_3_51 tw_3_52 tw_1_3 tw_3_53) rfl rfl rfl hdV_X1_clashesAmong ⟨Nat.le_of_ble_eq_true rfl, Nat.le_of_ble_eq_true rfl⟩) (g_preV KC_st ZC_st hK hZ hP hS hK.1 (h0.1).1 (ec_o h0.1) rfl) rfl rfl hl.1 rfl (lv_room (Nat.le_of_ble_eq_true rfl)) dX1_fewestToSendAway_37 ⟨Nat.zero_le _, Nat.zero_le _⟩) hS (fun H locs hP hS => ?_)
        refine lv_if_ne (tgt := 50) hx hb dX1_fewestToSendAway_40 (by decide) (fun hc16 => ?_) (fun hc16 => ?_)
        · have hE := st_f hE hc16
          obtain ⟨v17, ev17, hE⟩ := st_bv hE
          refine lv_iinc (v := v17) (lv' := [(3, .int v17), (0, .ref (ad k)), (1, .int c6), (2, .int c7)]) hx hb dX1_fewestToSendAway_50 hl (k := 3) rfl (by rw [ev17]; rfl) (by decide) rfl (fun ls hl => ?_)
          refine lv_goto (tgt := 12) hx hb dX1_fewestToSendAway_53 (by decide) ?_
          have hq := Option.some.inj hE
          subst hq
          exact hKt5 ls H locs (lv_sub hl [1, 2, 3, 0] rfl) hP hS
        · have hE := st_t hE hc16
          refine lv_iload_n hx hb dX1_fewestToSendAway_43 rfl (lv_at hl 3 rfl) ?_
          refine lv_istore_n (lv' := [(1, .int c8), (0, .ref (ad k)), (2, .int c7), (3, .int c8)]) hx hb dX1_fewestToSendAway_44 rfl hl (by decide) rfl (fun ls hl => ?_)
          refine lv_iload_n hx hb dX1_fewestToSendAway_45 rfl (lv_at hl 3 rfl) ?_
          obtain ⟨r18, hCr18, hE⟩ := st_bo hE
          refine g_calli (va_runS (As := [.int c8]) (rest := []) ⟨hx, hb, hml, hown, hts⟩ (k_J6_bitCount_0f7a4 hij (S0 := S0) hCr18) (va_cwS 1 hts (wz_S tw_3_35 tw_2_136 tw_1_13 tw_2_137) rfl rfl rfl hdS_J6_bitCount_0f7a4 ⟨Nat.le_of_ble_eq_true rfl, Nat.le_of_ble_eq_true rfl⟩) (g_preS KC_st ZC_st hK hZ hP hS) rfl rfl hl.1 rfl (lv_room (Nat.le_of_ble_eq_true rfl)) dX1_fewestToSendAway_46 ⟨Nat.zero_le _, Nat.zero_le _⟩) hS (fun H locs hP hS => ?_)
          refine lv_istore_n (lv' := [(2, .int r18), (1, .int c8), (0, .ref (ad k)), (3, .int c8)]) hx hb dX1_fewestToSendAway_49 rfl hl (by decide) rfl (fun ls hl => ?_)
          obtain ⟨v19, ev19, hE⟩ := st_bv hE
          refine lv_iinc (v := v19) (lv' := [(3, .int v19), (2, .int r18), (1, .int c8), (0, .ref (ad k))]) hx hb dX1_fewestToSendAway_50 hl (k := 3) rfl (by rw [ev19]; rfl) (by decide) rfl (fun ls hl => ?_)
          refine lv_goto (tgt := 12) hx hb dX1_fewestToSendAway_53 (by decide) ?_
          have hq := Option.some.inj hE
          subst hq
          exact hKt5 ls H locs (lv_sub hl [3, 2, 1, 0] rfl) hP hS
  · intro ls H locs hl hP hS
    refine lv_iload_n hx hb dX1_fewestToSendAway_56 rfl (lv_at hl 0 rfl) ?_
    replace hE := Option.some.inj hE
    subst hQQ
    exact g_iret hx hb hr hlocks hP hS hE rfl dX1_fewestToSendAway_57
def f_X9_peace (S0 : (Nat → Nat → Int32)) (a1 : Int32) : Option (Int32) :=
  bo (f_X9_isWithin a1 0 1) (fun (r1 : Int32) => if r1 = 0 then (some (-102)) else (bo (f_X9_hasWall S0) (fun (r3 : Int32) => if r3 = 0 then (some (-103)) else (bo (f_X1_fewestToSendAway 23 S0) (fun (r5 : Int32) => if a1 = 0 then (bo (f_J6_bitCount_0f7a4 r5) (fun (r7 : Int32) => some r7)) else (some r5))))))
abbrev rmX9_peace : Room := { frames := 4, cells := 0, slots := 0, locals := 95 }
theorem hdV_X9_peace : yX9_peace.cls = "WitnessWall" ∧ yX9_peace.cls ≠ "java/lang/invoke/MethodHandle" ∧ yX9_peace.cls ≠ "java/lang/invoke/VarHandle" ∧ (parseMethodDescriptor yX9_peace.desc).map (fun d => d.parameters.length) = some 1 := by decide +kernel
set_option maxHeartbeats 4000000 in
set_option maxRecDepth 100000 in
theorem k_X9_peace {l : Launch} {D : va_G} {ad : Nat → Nat} {cI cW : ClassId} {tK tC : Nat} (hij : inj 83 ad)  {S0 : (Nat → Nat → Int32)} {a1 : Int32} {r : Int32} (hE : f_X9_peace S0 a1 = some r) {sz : Nat} : Met l yX9_peace (wz yX9_peace cX9_peace 3 (some FieldType.int)) rmX9_peace (PG 83 ad (ec ad cI cW) D (KC D cI cW) (ZC tK tC) [.ref (ad 0), .int a1] S0 sz) (QGi 83 ad (ec ad cI cW) D r S0 sz) 0 0 (AD 83 ad sz) := by
  unfold f_X9_peace at hE
  refine g_start (cc := cX9_peace) (maxL := 3) (ret := (some FieldType.int)) (Qc := fun sz => QGi 83 ad (ec ad cI cW) D r S0 sz) (by decide) rfl (Nat.le_of_ble_eq_true rfl) ?_
  intro p e s m args below meth c H locs ls hx hb hr hts hown hlocks hml hK hZ hP hS hl
  replace hl : lv_has ls 3 [(0, .ref (ad 0)), (1, .int a1)] := hl
  obtain ⟨QQ, hQQ⟩ : ∃ q, q = MQ below (QGi 83 ad (ec ad cI cW) D r S0 s.heap.size) args s 0 0 (AD 83 ad s.heap.size) := ⟨_, rfl⟩
  rw [← hQQ]
  refine lv_iload_n hx hb dX9_peace_0 rfl (lv_at hl 1 rfl) ?_
  refine lv_iconst (v := 0) hx hb dX9_peace_1 (by decide) ?_
  refine lv_iconst (v := 1) hx hb dX9_peace_2 (by decide) ?_
  obtain ⟨r1, hCr1, hE⟩ := st_bo hE
  refine g_calli (va_runS (As := [.int a1, .int 0, .int 1]) (rest := []) ⟨hx, hb, hml, hown, hts⟩ (k_X9_isWithin hij (S0 := S0) hCr1) (va_cwS 3 hts (wz_S tw_2_1 tw_2_2 tw_1_1 tw_2_3) rfl rfl rfl hdS_X9_isWithin ⟨Nat.le_of_ble_eq_true rfl, Nat.le_of_ble_eq_true rfl⟩) (g_preS KC_st ZC_st hK hZ hP hS) rfl rfl hl.1 rfl (lv_room (Nat.le_of_ble_eq_true rfl)) dX9_peace_3 ⟨Nat.zero_le _, Nat.zero_le _⟩) hS (fun H locs hP hS => ?_)
  refine lv_if_ne (tgt := 12) hx hb dX9_peace_6 (by decide) (fun hc2 => ?_) (fun hc2 => ?_)
  · have hE := st_f hE hc2
    refine lv_aload_n hx hb dX9_peace_12 rfl (lv_at hl 0 rfl) ?_
    obtain ⟨r3, hCr3, hE⟩ := st_bo hE
    refine g_calli (va_runV (As := []) (rest := []) ⟨hx, hb, hml, hown, hts⟩ (k_X9_hasWall hij hCr3) (cwV 0 hts (wz_V tw_2_172 tw_2_174 tp_1 tw_1_1 tw_2_175) rfl rfl rfl hdV_X9_hasWall ⟨Nat.le_of_ble_eq_true rfl, Nat.le_of_ble_eq_true rfl⟩) (g_preV KC_st ZC_st hK hZ hP hS hK.1 ((q_WW (ad := ad) (cI := cI) (cW := cW))).1 (ec_o (q_WW (ad := ad) (cI := cI) (cW := cW))) rfl) rfl rfl hl.1 rfl (lv_room (Nat.le_of_ble_eq_true rfl)) dX9_peace_13 ⟨Nat.zero_le _, Nat.zero_le _⟩) hS (fun H locs hP hS => ?_)
    refine lv_if_ne (tgt := 22) hx hb dX9_peace_16 (by decide) (fun hc4 => ?_) (fun hc4 => ?_)
    · have hE := st_f hE hc4
      refine lv_aload_n hx hb dX9_peace_22 rfl (lv_at hl 0 rfl) ?_
      refine c_get (v := .ref (ad 22)) hx hb hts (fun w h => wz_m (inX9 w h)) hown hK hP (q_WW (ad := ad) (cI := cI) (cW := cW)) rfl 2 (by decide) (hts _ (wz_m tw_1_211)) (fun _ h9 => h9) rfl dX9_peace_23 ?_
      refine c_getN (v := .ref (ad 23)) hx hb hts (fun w h => wz_m (inX3 w h)) hown hK hP (q_Scene_22 (ad := ad) (cI := cI) (cW := cW)).1 rfl 0 (by decide) (List.mem_of_getElem? (i := 29) rfl) (fun _ h9 => h9) rfl dX9_peace_26 ?_
      obtain ⟨r5, hCr5, hE⟩ := st_bo hE
      refine g_calli (va_runV (As := []) (rest := []) ⟨hx, hb, hml, hown, hts⟩ (k_X1_fewestToSendAway hij (q_Hall_23 (ad := ad) (cI := cI) (cW := cW)) hCr5) (cwV 0 hts (wz_V tw_3_46 tw_3_47 tw_3_48 tw_1_3 tw_3_49) rfl rfl rfl hdV_X1_fewestToSendAway ⟨Nat.le_of_ble_eq_true rfl, Nat.le_of_ble_eq_true rfl⟩) (g_preV KC_st ZC_st hK hZ hP hS hK.1 ((q_Hall_23 (ad := ad) (cI := cI) (cW := cW)).1).1 (ec_o (q_Hall_23 (ad := ad) (cI := cI) (cW := cW)).1) rfl) rfl rfl hl.1 rfl (lv_room (Nat.le_of_ble_eq_true rfl)) dX9_peace_29 ⟨Nat.zero_le _, Nat.zero_le _⟩) hS (fun H locs hP hS => ?_)
      refine lv_istore_n (lv' := [(2, .int r5), (0, .ref (ad 0)), (1, .int a1)]) hx hb dX9_peace_32 rfl hl (by decide) rfl (fun ls hl => ?_)
      refine lv_iload_n hx hb dX9_peace_33 rfl (lv_at hl 2 rfl) ?_
      refine lv_if_ne (tgt := 44) hx hb dX9_peace_34 (by decide) (fun hc6 => ?_) (fun hc6 => ?_)
      · have hE := st_f hE hc6
        refine lv_iload_n hx hb dX9_peace_44 rfl (lv_at hl 0 rfl) ?_
        replace hE := Option.some.inj hE
        subst hQQ
        exact g_iret hx hb hr hlocks hP hS hE rfl dX9_peace_45
      · have hE := st_t hE hc6
        refine lv_iload_n hx hb dX9_peace_37 rfl (lv_at hl 0 rfl) ?_
        obtain ⟨r7, hCr7, hE⟩ := st_bo hE
        refine g_calli (va_runS (As := [.int r5]) (rest := []) ⟨hx, hb, hml, hown, hts⟩ (k_J6_bitCount_0f7a4 hij (S0 := S0) hCr7) (va_cwS 1 hts (wz_S tw_3_41 tw_2_136 tw_1_13 tw_2_137) rfl rfl rfl hdS_J6_bitCount_0f7a4 ⟨Nat.le_of_ble_eq_true rfl, Nat.le_of_ble_eq_true rfl⟩) (g_preS KC_st ZC_st hK hZ hP hS) rfl rfl hl.1 rfl (lv_room (Nat.le_of_ble_eq_true rfl)) dX9_peace_38 ⟨Nat.zero_le _, Nat.zero_le _⟩) hS (fun H locs hP hS => ?_)
        refine lv_goto (tgt := 45) hx hb dX9_peace_41 (by decide) ?_
        replace hE := Option.some.inj hE
        subst hQQ
        exact g_iret hx hb hr hlocks hP hS hE rfl dX9_peace_45
    · have hE := st_t hE hc4
      refine lv_bipush (v := (-103)) hx hb dX9_peace_19 (by decide) ?_
      replace hE := Option.some.inj hE
      subst hQQ
      exact g_iret hx hb hr hlocks hP hS hE rfl dX9_peace_21
  · have hE := st_t hE hc2
    refine lv_bipush (v := (-102)) hx hb dX9_peace_9 (by decide) ?_
    replace hE := Option.some.inj hE
    subst hQQ
    exact g_iret hx hb hr hlocks hP hS hE rfl dX9_peace_11
def b_X7_hasOtherColour_2 (k : Nat) (S0 : (Nat → Nat → Int32)) (a1 : Int32) (a2 : Int32) (c4 : Int32) : Option ((Int32) ⊕ ((Unit) ⊕ (Int32))) :=
  if (S0 k 1) ≤ c4 then (some (.inr (.inl ()))) else (gd (inb c4 3) (if ((S0 (k + 1) (c4.toNatClampNeg)) / 4) = a1 then (gd (inb c4 3) (if ((S0 (k + 1) (c4.toNatClampNeg)) - (S0 (k + 1) (c4.toNatClampNeg)) / 4 * 4) = a2 then (bv (c4 + 1) (fun (v11 : Int32) => some (.inl v11))) else (some (.inr (.inr 1))))) else (bv (c4 + 1) (fun (v8 : Int32) => some (.inl v8)))))
def f_X7_hasOtherColour (k : Nat) (S0 : (Nat → Nat → Int32)) (a1 : Int32) (a2 : Int32) : Option (Int32) :=
  bo (lp (fun (s1 : Int32) => b_X7_hasOtherColour_2 k S0 a1 a2 s1) 5000 0) (fun (x2 : (Unit) ⊕ (Int32)) => Sum.elim (fun (x2 : Unit) => some 0) (fun (x2 : Int32) => some x2) x2)
abbrev rmX7_hasOtherColour : Room := { frames := 0, cells := 0, slots := 0, locals := 0 }
theorem hdV_X7_hasOtherColour : yX7_hasOtherColour.cls = "WitnessWall$Witness" ∧ yX7_hasOtherColour.cls ≠ "java/lang/invoke/MethodHandle" ∧ yX7_hasOtherColour.cls ≠ "java/lang/invoke/VarHandle" ∧ (parseMethodDescriptor yX7_hasOtherColour.desc).map (fun d => d.parameters.length) = some 2 := by decide +kernel
set_option maxHeartbeats 4000000 in
set_option maxRecDepth 100000 in
theorem k_X7_hasOtherColour {l : Launch} {D : va_G} {ad : Nat → Nat} {cI cW : ClassId} {tK tC : Nat} (hij : inj 83 ad) {k : Nat} (h0 : iWit ad cI cW k) {S0 : (Nat → Nat → Int32)} {a1 : Int32} {a2 : Int32} {r : Int32} (hE : f_X7_hasOtherColour k S0 a1 a2 = some r) {sz : Nat} : Met l yX7_hasOtherColour (wz yX7_hasOtherColour cX7_hasOtherColour 4 (some FieldType.boolean)) rmX7_hasOtherColour (PG 83 ad (ec ad cI cW) D (KC D cI cW) (ZC tK tC) [.ref (ad k), .int a1, .int a2] S0 sz) (QGi 83 ad (ec ad cI cW) D r S0 sz) 0 0 (AD 83 ad sz) := by
  unfold f_X7_hasOtherColour at hE
  refine g_start (cc := cX7_hasOtherColour) (maxL := 4) (ret := (some FieldType.boolean)) (Qc := fun sz => QGi 83 ad (ec ad cI cW) D r S0 sz) (by decide) rfl (Nat.le_of_ble_eq_true rfl) ?_
  intro p e s m args below meth c H locs ls hx hb hr hts hown hlocks hml hK hZ hP hS hl
  replace hl : lv_has ls 4 [(0, .ref (ad k)), (1, .int a1), (2, .int a2)] := hl
  obtain ⟨QQ, hQQ⟩ : ∃ q, q = MQ below (QGi 83 ad (ec ad cI cW) D r S0 s.heap.size) args s 0 0 (AD 83 ad s.heap.size) := ⟨_, rfl⟩
  rw [← hQQ]
  refine lv_iconst (v := 0) hx hb dX7_hasOtherColour_0 (by decide) ?_
  refine lv_istore_n (lv' := [(3, .int 0), (0, .ref (ad k)), (1, .int a1), (2, .int a2)]) hx hb dX7_hasOtherColour_1 rfl hl (by decide) rfl (fun ls hl => ?_)
  obtain ⟨x2, hx2, hE⟩ := st_bo hE
  refine lp_walk (body := fun (s1 : Int32) => b_X7_hasOtherColour_2 k S0 a1 a2 s1) (fun s1 => ∀ (ls : Array Slot) (H : Heap) (locs : List Loc), lv_has ls 4 [(0, .ref (ad k)), (1, .int a1), (2, .int a2), (3, .int s1)] → cP D ad cI cW S0 H → cS ad s H locs → W p l e rmX7_hasOtherColour s m args below meth c H locs 0 0 QQ (F0 m 2 ls [])) (fun x2 => Sum.elim (fun x2 => ∀ (ls : Array Slot) (H : Heap) (locs : List Loc), lv_has ls 4 [] → cP D ad cI cW S0 H → cS ad s H locs → W p l e rmX7_hasOtherColour s m args below meth c H locs 0 0 QQ (F0 m 42 ls [])) (fun x2 => x2 = r) x2) ?_ _ _ _ hx2 ?_ ls H locs (lv_sub hl [1, 2, 3, 0] rfl) hP hS
  · intro s1 t3 hE hKt3 ls H locs hl hP hS
    obtain ⟨c4, ec4⟩ : ∃ z, z = s1 := ⟨_, rfl⟩
    subst ec4
    replace hE : b_X7_hasOtherColour_2 k S0 a1 a2 c4 = some t3 := hE
    replace hl : lv_has ls 4 [(0, .ref (ad k)), (1, .int a1), (2, .int a2), (3, .int c4)] := hl
    replace hP : cP D ad cI cW S0 H := hP
    unfold b_X7_hasOtherColour_2 at hE
    refine lv_iload_n hx hb dX7_hasOtherColour_2 rfl (lv_at hl 3 rfl) ?_
    refine lv_aload_n hx hb dX7_hasOtherColour_3 rfl (lv_at hl 0 rfl) ?_
    refine c_get (v := .int (S0 k 1)) hx hb hts (fun w h => wz_m (inX7 w h)) hown hK hP h0.1 rfl 1 (by decide) (hts _ (wz_m tw_1_42)) (fun _ h9 => h9) rfl dX7_hasOtherColour_4 ?_
    refine lv_icmp_ge (tgt := 42) hx hb dX7_hasOtherColour_7 (by decide) (fun hc5 => ?_) (fun hc5 => ?_)
    · have hE := st_t hE hc5
      have hq := Option.some.inj hE
      subst hq
      exact hKt3 ls H locs (lv_sub hl [] rfl) hP hS
    · have hE := st_f hE hc5
      refine lv_aload_n hx hb dX7_hasOtherColour_10 rfl (lv_at hl 0 rfl) ?_
      refine c_get (v := .ref (ad (k + 1))) hx hb hts (fun w h => wz_m (inX7 w h)) hown hK hP h0.1 rfl 0 (by decide) (hts _ (wz_m tw_1_41)) (fun _ h9 => h9) rfl dX7_hasOtherColour_11 ?_
      refine lv_iload_n hx hb dX7_hasOtherColour_14 rfl (lv_at hl 3 rfl) ?_
      obtain ⟨hi6, hE⟩ := st_gd hE
      refine c_iald hx hb hK hP h0.2 hi6 dX7_hasOtherColour_15 ?_
      refine lv_iconst (v := 4) hx hb dX7_hasOtherColour_16 (by decide) ?_
      refine lv_idiv hx hb dX7_hasOtherColour_17 (by decide) ?_
      refine lv_iload_n hx hb dX7_hasOtherColour_18 rfl (lv_at hl 1 rfl) ?_
      refine lv_icmp_ne (tgt := 36) hx hb dX7_hasOtherColour_19 (by decide) (fun hc7 => ?_) (fun hc7 => ?_)
      · have hE := st_f hE hc7
        obtain ⟨v8, ev8, hE⟩ := st_bv hE
        refine lv_iinc (v := v8) (lv' := [(3, .int v8), (0, .ref (ad k)), (1, .int a1), (2, .int a2)]) hx hb dX7_hasOtherColour_36 hl (k := 3) rfl (by rw [ev8]; rfl) (by decide) rfl (fun ls hl => ?_)
        refine lv_goto (tgt := 2) hx hb dX7_hasOtherColour_39 (by decide) ?_
        have hq := Option.some.inj hE
        subst hq
        exact hKt3 ls H locs (lv_sub hl [1, 2, 3, 0] rfl) hP hS
      · have hE := st_t hE hc7
        refine lv_aload_n hx hb dX7_hasOtherColour_22 rfl (lv_at hl 0 rfl) ?_
        refine c_get (v := .ref (ad (k + 1))) hx hb hts (fun w h => wz_m (inX7 w h)) hown hK hP h0.1 rfl 0 (by decide) (hts _ (wz_m tw_1_41)) (fun _ h9 => h9) rfl dX7_hasOtherColour_23 ?_
        refine lv_iload_n hx hb dX7_hasOtherColour_26 rfl (lv_at hl 3 rfl) ?_
        obtain ⟨hi9, hE⟩ := st_gd hE
        refine c_iald hx hb hK hP h0.2 hi9 dX7_hasOtherColour_27 ?_
        refine lv_iconst (v := 4) hx hb dX7_hasOtherColour_28 (by decide) ?_
        refine lv_irem hx hb dX7_hasOtherColour_29 (by decide) ?_
        refine lv_iload_n hx hb dX7_hasOtherColour_30 rfl (lv_at hl 2 rfl) ?_
        refine lv_icmp_eq (tgt := 36) hx hb dX7_hasOtherColour_31 (by decide) (fun hc10 => ?_) (fun hc10 => ?_)
        · have hE := st_t hE hc10
          obtain ⟨v11, ev11, hE⟩ := st_bv hE
          refine lv_iinc (v := v11) (lv' := [(3, .int v11), (0, .ref (ad k)), (1, .int a1), (2, .int a2)]) hx hb dX7_hasOtherColour_36 hl (k := 3) rfl (by rw [ev11]; rfl) (by decide) rfl (fun ls hl => ?_)
          refine lv_goto (tgt := 2) hx hb dX7_hasOtherColour_39 (by decide) ?_
          have hq := Option.some.inj hE
          subst hq
          exact hKt3 ls H locs (lv_sub hl [1, 2, 3, 0] rfl) hP hS
        · have hE := st_f hE hc10
          refine lv_iconst (v := 1) hx hb dX7_hasOtherColour_34 (by decide) ?_
          have hq := Option.some.inj hE
          subst hq
          replace hE : 1 = r := hKt3
          subst hQQ
          exact g_zret hx hb hr hlocks hP hS ((by decide : (1 : Int32) &&& 1 = 1).trans hE) rfl dX7_hasOtherColour_35
  · rcases x2 with x2 | x2
    · replace hE := st_el hE
      intro ls H locs hl hP hS
      refine lv_iconst (v := 0) hx hb dX7_hasOtherColour_42 (by decide) ?_
      replace hE := Option.some.inj hE
      subst hQQ
      exact g_zret hx hb hr hlocks hP hS ((by decide : (0 : Int32) &&& 1 = 0).trans hE) rfl dX7_hasOtherColour_43
    · replace hE := st_er hE
      exact Option.some.inj hE

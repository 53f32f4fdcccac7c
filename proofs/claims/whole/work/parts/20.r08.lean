def b_X10_divisor_4 (c4 : Int32) (c5 : Int32) : Option ((Int32 × Int32) ⊕ (Int32)) :=
  if c5 = 0 then (some (.inr c4)) else (gd (nz c5) (bv (c4 - c4 / c5 * c5) (fun (v8 : Int32) => some (.inl (c5, v8)))))
def f_X10_divisor (a1 : Int32) (a2 : Int32) : Option (Int32) :=
  bo (lp (fun (s1 : Int32 × Int32) => b_X10_divisor_4 s1.1 s1.2) 5000 (a1, a2)) (fun (x2 : Int32) => some x2)
abbrev rmX10_divisor : Room := { frames := 0, cells := 0, slots := 0, locals := 0 }
theorem hdS_X10_divisor : yX10_divisor.cls ≠ "java/lang/invoke/MethodHandle" ∧ yX10_divisor.cls ≠ "java/lang/invoke/VarHandle" ∧ (parseMethodDescriptor yX10_divisor.desc).map (fun d => d.parameters.length) = some 2 := by decide +kernel
set_option maxHeartbeats 4000000 in
set_option maxRecDepth 100000 in
theorem k_X10_divisor {l : Launch} {D : va_G} {ad : Nat → Nat} {cI cB : ClassId} (hij : inj 31 ad)  {S0 : SR} {a1 : Int32} {a2 : Int32} {r : Int32} (hE : f_X10_divisor a1 a2 = some r) {sz : Nat} : Met l yX10_divisor (wz yX10_divisor cX10_divisor 5 (some FieldType.int)) rmX10_divisor (PG 31 ad (er ad cI cB) D (KR D cI cB) ZR [.int a1, .int a2] S0 sz) (QGi 31 ad (er ad cI cB) D r S0 sz) 0 0 (AD 31 ad sz) := by
  unfold f_X10_divisor at hE
  refine g_start (cc := cX10_divisor) (maxL := 5) (ret := (some FieldType.int)) (Qc := fun sz => QGi 31 ad (er ad cI cB) D r S0 sz) (by decide) rfl (Nat.le_of_ble_eq_true rfl) ?_
  intro p e s m args below meth c H locs ls hx hb hr hts hown hlocks hml hK hZ hP hS hl
  replace hl : lv_has ls 5 [(0, .int a1), (1, .int a2)] := hl
  obtain ⟨QQ, hQQ⟩ : ∃ q, q = MQ below (QGi 31 ad (er ad cI cB) D r S0 s.heap.size) args s 0 0 (AD 31 ad s.heap.size) := ⟨_, rfl⟩
  rw [← hQQ]
  refine lv_iload_n hx hb dX10_divisor_0 rfl (lv_at hl 0 rfl) ?_
  refine lv_istore_n (lv' := [(2, .int a1), (0, .int a1), (1, .int a2)]) hx hb dX10_divisor_1 rfl hl (by decide) rfl (fun ls hl => ?_)
  refine lv_iload_n hx hb dX10_divisor_2 rfl (lv_at hl 2 rfl) ?_
  refine lv_istore_n (lv' := [(3, .int a2), (2, .int a1), (0, .int a1), (1, .int a2)]) hx hb dX10_divisor_3 rfl hl (by decide) rfl (fun ls hl => ?_)
  obtain ⟨x2, hx2, hE⟩ := st_bo hE
  refine lp_walk (body := fun (s1 : Int32 × Int32) => b_X10_divisor_4 s1.1 s1.2) (fun s1 => ∀ (ls : Array Slot) (H : Heap) (locs : List Loc), lv_has ls 5 [(2, .int s1.1), (3, .int s1.2)] → rP D ad cI cB S0 H → rS ad s H locs → W p l e rmX10_divisor s m args below meth c H locs 0 0 QQ (F0 m 4 ls [])) (fun x2 => ∀ (ls : Array Slot) (H : Heap) (locs : List Loc), lv_has ls 5 [(2, .int x2)] → rP D ad cI cB S0 H → rS ad s H locs → W p l e rmX10_divisor s m args below meth c H locs 0 0 QQ (F0 m 21 ls [])) ?_ _ _ _ hx2 ?_ ls H locs (lv_sub hl [1, 0] rfl) hP hS
  · intro s1 t3 hE hKt3 ls H locs hl hP hS
    obtain ⟨c4, c5⟩ := s1
    replace hE : b_X10_divisor_4 c4 c5 = some t3 := hE
    replace hl : lv_has ls 5 [(2, .int c4), (3, .int c5)] := hl
    replace hP : rP D ad cI cB S0 H := hP
    unfold b_X10_divisor_4 at hE
    refine lv_iload_n hx hb dX10_divisor_4 rfl (lv_at hl 1 rfl) ?_
    refine lv_if_eq (tgt := 21) hx hb dX10_divisor_5 (by decide) (fun hc6 => ?_) (fun hc6 => ?_)
    · have hE := st_t hE hc6
      have hq := Option.some.inj hE
      subst hq
      exact hKt3 ls H locs (lv_sub hl [0] rfl) hP hS
    · have hE := st_f hE hc6
      refine lv_iload_n hx hb dX10_divisor_8 rfl (lv_at hl 0 rfl) ?_
      refine lv_iload_n hx hb dX10_divisor_9 rfl (lv_at hl 1 rfl) ?_
      obtain ⟨hn7, hE⟩ := st_gd hE
      refine lv_irem hx hb dX10_divisor_10 (st_nz hn7) ?_
      obtain ⟨v8, ev8, hE⟩ := st_bv hE
      refine nm_i ev8 ?_
      refine lv_istore (lv' := [(4, .int v8), (2, .int c4), (3, .int c5)]) hx hb dX10_divisor_11 hl (by decide) rfl (fun ls hl => ?_)
      refine lv_iload_n hx hb dX10_divisor_13 rfl (lv_at hl 2 rfl) ?_
      refine lv_istore_n (lv' := [(2, .int c5), (4, .int v8), (3, .int c5)]) hx hb dX10_divisor_14 rfl hl (by decide) rfl (fun ls hl => ?_)
      refine lv_iload hx hb dX10_divisor_15 (lv_at hl 1 rfl) ?_
      refine lv_istore_n (lv' := [(3, .int v8), (2, .int c5), (4, .int v8)]) hx hb dX10_divisor_17 rfl hl (by decide) rfl (fun ls hl => ?_)
      refine lv_goto (tgt := 4) hx hb dX10_divisor_18 (by decide) ?_
      have hq := Option.some.inj hE
      subst hq
      exact hKt3 ls H locs (lv_sub hl [1, 0] rfl) hP hS
  · intro ls H locs hl hP hS
    refine lv_iload_n hx hb dX10_divisor_21 rfl (lv_at hl 0 rfl) ?_
    replace hE := Option.some.inj hE
    subst hQQ
    exact g_iret hx hb hr hlocks hP hS hE rfl dX10_divisor_22
def f_X10_draw (S0 : SR) (a1 : Int32) : Option (Int32 × SR) :=
  bv (ul S0 32 (((1103515245 * (rl S0 32)) + 12345) &&& 2147483647)) (fun S1 => gd (nzL ((a1 : Int32).toInt64)) (some ((((rl S1 32) / 65536) - ((rl S1 32) / 65536) / ((a1 : Int32).toInt64) * ((a1 : Int32).toInt64) : Int64).toInt32, S1)))
abbrev rmX10_draw : Room := { frames := 0, cells := 0, slots := 0, locals := 0 }
theorem hdV_X10_draw : yX10_draw.cls = "WitnessWallModel" ∧ yX10_draw.cls ≠ "java/lang/invoke/MethodHandle" ∧ yX10_draw.cls ≠ "java/lang/invoke/VarHandle" ∧ (parseMethodDescriptor yX10_draw.desc).map (fun d => d.parameters.length) = some 1 := by decide +kernel
set_option maxHeartbeats 4000000 in
set_option maxRecDepth 100000 in
theorem k_X10_draw {l : Launch} {D : va_G} {ad : Nat → Nat} {cI cB : ClassId} (hij : inj 31 ad)  {S0 : SR} {a1 : Int32} {r : Int32} {Sr : SR} (hE : f_X10_draw S0 a1 = some (r, Sr)) {sz : Nat} : Met l yX10_draw (wz yX10_draw cX10_draw 2 (some FieldType.int)) rmX10_draw (PG 31 ad (er ad cI cB) D (KR D cI cB) ZR [.ref (ad 0), .int a1] S0 sz) (QGi 31 ad (er ad cI cB) D r Sr sz) 0 0 (AD 31 ad sz) := by
  unfold f_X10_draw at hE
  refine g_start (cc := cX10_draw) (maxL := 2) (ret := (some FieldType.int)) (Qc := fun sz => QGi 31 ad (er ad cI cB) D r Sr sz) (by decide) rfl (Nat.le_of_ble_eq_true rfl) ?_
  intro p e s m args below meth c H locs ls hx hb hr hts hown hlocks hml hK hZ hP hS hl
  replace hl : lv_has ls 2 [(0, .ref (ad 0)), (1, .int a1)] := hl
  obtain ⟨QQ, hQQ⟩ : ∃ q, q = MQ below (QGi 31 ad (er ad cI cB) D r Sr s.heap.size) args s 0 0 (AD 31 ad s.heap.size) := ⟨_, rfl⟩
  rw [← hQQ]
  refine lv_aload_n hx hb dX10_draw_0 rfl (lv_at hl 0 rfl) ?_
  refine lv_ldc2 (v := 1103515245) hx hb hown (hts _ (wz_m tw_5_82)) dX10_draw_1 ?_
  refine lv_aload_n hx hb dX10_draw_4 rfl (lv_at hl 0 rfl) ?_
  refine r_get (v := .long (rl S0 32)) hx hb hts (fun w h => wz_m (inX10 w h)) hown hK hP (q_Ref (ad := ad) (cI := cI) (cB := cB)) rfl 32 (by decide) (hts _ (wz_m tw_3_188)) (fun _ h9 => h9) rfl dX10_draw_5 ?_
  refine lv_lmul hx hb dX10_draw_8 ?_
  refine lv_ldc2 (v := 12345) hx hb hown (hts _ (wz_m tw_5_83)) dX10_draw_9 ?_
  refine lv_ladd hx hb dX10_draw_12 ?_
  refine lv_ldc2 (v := 2147483647) hx hb hown (hts _ (wz_m tw_5_84)) dX10_draw_13 ?_
  refine lv_land hx hb dX10_draw_16 ?_
  refine r_putL hij hx hb hts (fun w h => wz_m (inX10 w h)) tyX10 tyX10_ok nmX10 hown hK hP hS (q_Ref (ad := ad) (cI := cI) (cB := cB)) rfl 32 (by decide) (hts _ (wz_m tw_3_188)) (fun _ h9 => h9) rfl rfl rfl (fun _ _ => Nat.le_of_ble_eq_true rfl) (fun _ _ => rfl) dX10_draw_17 (fun H locs hP hS => ?_)
  obtain ⟨S1, eS1, hE⟩ := st_bv hE
  rw [← eS1] at hP
  refine lv_aload_n hx hb dX10_draw_20 rfl (lv_at hl 0 rfl) ?_
  refine r_get (v := .long (rl S1 32)) hx hb hts (fun w h => wz_m (inX10 w h)) hown hK hP (q_Ref (ad := ad) (cI := cI) (cB := cB)) rfl 32 (by decide) (hts _ (wz_m tw_3_188)) (fun _ h9 => h9) rfl dX10_draw_21 ?_
  refine lv_ldc2 (v := 65536) hx hb hown (hts _ (wz_m tw_5_85)) dX10_draw_24 ?_
  refine lv_ldiv hx hb dX10_draw_27 (by decide) ?_
  refine lv_iload_n hx hb dX10_draw_28 rfl (lv_at hl 1 rfl) ?_
  refine lv_i2l (v := (a1 : Int32).toInt64) hx hb dX10_draw_29 rfl ?_
  obtain ⟨hn2, hE⟩ := st_gd hE
  refine lv_lrem hx hb dX10_draw_30 (st_nzL hn2) ?_
  refine lv_l2i (v := (((rl S1 32) / 65536) - ((rl S1 32) / 65536) / ((a1 : Int32).toInt64) * ((a1 : Int32).toInt64) : Int64).toInt32) hx hb dX10_draw_31 rfl ?_
  replace hE := Option.some.inj hE
  have hq := Prod.mk.inj hE
  subst hQQ
  exact g_iret hx hb hr hlocks hP hS hq.1 hq.2 dX10_draw_32
def b_X10_drawnNow_16 (a1 : Int32) (c6 : Int32) (c7 : Int32) (c8 : SR) : Option ((Int32 × Int32 × SR) ⊕ (Int32 × SR)) :=
  if a1 ≤ c7 then (some (.inr (c6, c8))) else (bo (f_X10_draw c8 (ri c8 0 1)) (fun (r10 : Int32 × SR) => bo (f_X10_draw r10.2 6) (fun (r11 : Int32 × SR) => bo (f_X10_draw r11.2 4) (fun (r12 : Int32 × SR) => bo (f_X10_showNow r12.2 r10.1 ((4 * r11.1) + r12.1)) (fun (r13 : Int32 × SR) => if r13.1 = 0 then (bv (c6 + 0) (fun (v15 : Int32) => bv (c7 + 1) (fun (v16 : Int32) => some (.inl (v15, v16, r13.2))))) else (bv (c6 + 1) (fun (v17 : Int32) => bv (c7 + 1) (fun (v18 : Int32) => some (.inl (v17, v18, r13.2))))))))))
def f_X10_drawnNow (S0 : SR) (a1 : Int32) (a2 : Int32) (a3 : Int32) : Option (Int32 × SR) :=
  bo (f_X10_lay S0) (fun (r1 : SR) => bv (ul r1 32 ((a2 : Int32).toInt64)) (fun S2 => bo (lp (fun (s3 : Int32 × Int32 × SR) => b_X10_drawnNow_16 a1 s3.1 s3.2.1 s3.2.2) 5000 (0, 0, S2)) (fun (x4 : Int32 × SR) => bo (if a3 = 0 then (some x4.1) else (if a3 = 1 then (bo (f_X10_everybody x4.2) (fun (r23 : Int32) => bo (f_X10_clashesAmong x4.2 r23) (fun (r24 : Int32) => some r24))) else (some ((rl x4.2 32 : Int64).toInt32)))) (fun (q19 : Int32) => bo (f_X10_layBack x4.2) (fun (r25 : SR) => some (q19, r25))))))
abbrev rmX10_drawnNow : Room := { frames := 4, cells := 0, slots := 0, locals := 95 }
theorem hdV_X10_drawnNow : yX10_drawnNow.cls = "WitnessWallModel" ∧ yX10_drawnNow.cls ≠ "java/lang/invoke/MethodHandle" ∧ yX10_drawnNow.cls ≠ "java/lang/invoke/VarHandle" ∧ (parseMethodDescriptor yX10_drawnNow.desc).map (fun d => d.parameters.length) = some 3 := by decide +kernel
set_option maxHeartbeats 4000000 in
set_option maxRecDepth 100000 in
theorem k_X10_drawnNow {l : Launch} {D : va_G} {ad : Nat → Nat} {cI cB : ClassId} (hij : inj 31 ad)  {S0 : SR} {a1 : Int32} {a2 : Int32} {a3 : Int32} {r : Int32} {Sr : SR} (hE : f_X10_drawnNow S0 a1 a2 a3 = some (r, Sr)) {sz : Nat} : Met l yX10_drawnNow (wz yX10_drawnNow cX10_drawnNow 8 (some FieldType.int)) rmX10_drawnNow (PG 31 ad (er ad cI cB) D (KR D cI cB) ZR [.ref (ad 0), .int a1, .int a2, .int a3] S0 sz) (QGi 31 ad (er ad cI cB) D r Sr sz) 0 0 (AD 31 ad sz) := by
  unfold f_X10_drawnNow at hE
  refine g_start (cc := cX10_drawnNow) (maxL := 8) (ret := (some FieldType.int)) (Qc := fun sz => QGi 31 ad (er ad cI cB) D r Sr sz) (by decide) rfl (Nat.le_of_ble_eq_true rfl) ?_
  intro p e s m args below meth c H locs ls hx hb hr hts hown hlocks hml hK hZ hP hS hl
  replace hl : lv_has ls 8 [(0, .ref (ad 0)), (1, .int a1), (2, .int a2), (3, .int a3)] := hl
  obtain ⟨QQ, hQQ⟩ : ∃ q, q = MQ below (QGi 31 ad (er ad cI cB) D r Sr s.heap.size) args s 0 0 (AD 31 ad s.heap.size) := ⟨_, rfl⟩
  rw [← hQQ]
  refine lv_aload_n hx hb dX10_drawnNow_0 rfl (lv_at hl 0 rfl) ?_
  obtain ⟨r1, hCr1, hE⟩ := st_bo hE
  refine g_callv (va_runV (As := []) (rest := []) ⟨hx, hb, hml, hown, hts⟩ (k_X10_lay hij hCr1) (cwV 0 hts (wz_V tw_4_235 tw_4_237 tp_25 tw_1_11 tw_4_238) rfl rfl rfl hdV_X10_lay ⟨Nat.le_of_ble_eq_true rfl, Nat.le_of_ble_eq_true rfl⟩) (g_preV KR_st ZR_st hK hZ hP hS hK.1 ((q_Ref (ad := ad) (cI := cI) (cB := cB))).1 (er_o (q_Ref (ad := ad) (cI := cI) (cB := cB))) rfl) rfl rfl hl.1 rfl (lv_room (Nat.le_of_ble_eq_true rfl)) dX10_drawnNow_1 ⟨Nat.zero_le _, Nat.zero_le _⟩) hS (fun H locs hP hS => ?_)
  refine lv_aload_n hx hb dX10_drawnNow_4 rfl (lv_at hl 0 rfl) ?_
  refine lv_iload_n hx hb dX10_drawnNow_5 rfl (lv_at hl 2 rfl) ?_
  refine lv_i2l (v := (a2 : Int32).toInt64) hx hb dX10_drawnNow_6 rfl ?_
  refine r_putL hij hx hb hts (fun w h => wz_m (inX10 w h)) tyX10 tyX10_ok nmX10 hown hK hP hS (q_Ref (ad := ad) (cI := cI) (cB := cB)) rfl 32 (by decide) (hts _ (wz_m tw_3_188)) (fun _ h9 => h9) rfl rfl rfl (fun _ _ => Nat.le_of_ble_eq_true rfl) (fun _ _ => rfl) dX10_drawnNow_7 (fun H locs hP hS => ?_)
  obtain ⟨S2, eS2, hE⟩ := st_bv hE
  rw [← eS2] at hP
  refine lv_iconst (v := 0) hx hb dX10_drawnNow_10 (by decide) ?_
  refine lv_istore (lv' := [(4, .int 0), (0, .ref (ad 0)), (1, .int a1), (2, .int a2), (3, .int a3)]) hx hb dX10_drawnNow_11 hl (by decide) rfl (fun ls hl => ?_)
  refine lv_iconst (v := 0) hx hb dX10_drawnNow_13 (by decide) ?_
  refine lv_istore (lv' := [(5, .int 0), (4, .int 0), (0, .ref (ad 0)), (1, .int a1), (2, .int a2), (3, .int a3)]) hx hb dX10_drawnNow_14 hl (by decide) rfl (fun ls hl => ?_)
  obtain ⟨x4, hx4, hE⟩ := st_bo hE
  refine lp_walk (body := fun (s3 : Int32 × Int32 × SR) => b_X10_drawnNow_16 a1 s3.1 s3.2.1 s3.2.2) (fun s3 => ∀ (ls : Array Slot) (H : Heap) (locs : List Loc), lv_has ls 8 [(0, .ref (ad 0)), (1, .int a1), (3, .int a3), (4, .int s3.1), (5, .int s3.2.1)] → rP D ad cI cB s3.2.2 H → rS ad s H locs → W p l e rmX10_drawnNow s m args below meth c H locs 0 0 QQ (F0 m 16 ls [])) (fun x4 => ∀ (ls : Array Slot) (H : Heap) (locs : List Loc), lv_has ls 8 [(0, .ref (ad 0)), (3, .int a3), (4, .int x4.1)] → rP D ad cI cB x4.2 H → rS ad s H locs → W p l e rmX10_drawnNow s m args below meth c H locs 0 0 QQ (F0 m 75 ls [])) ?_ _ _ _ hx4 ?_ ls H locs (lv_sub hl [2, 3, 5, 1, 0] rfl) hP hS
  · intro s3 t5 hE hKt5 ls H locs hl hP hS
    obtain ⟨c6, c7, c8⟩ := s3
    replace hE : b_X10_drawnNow_16 a1 c6 c7 c8 = some t5 := hE
    replace hl : lv_has ls 8 [(0, .ref (ad 0)), (1, .int a1), (3, .int a3), (4, .int c6), (5, .int c7)] := hl
    replace hP : rP D ad cI cB c8 H := hP
    unfold b_X10_drawnNow_16 at hE
    refine lv_iload hx hb dX10_drawnNow_16 (lv_at hl 4 rfl) ?_
    refine lv_iload_n hx hb dX10_drawnNow_18 rfl (lv_at hl 1 rfl) ?_
    refine lv_icmp_ge (tgt := 75) hx hb dX10_drawnNow_19 (by decide) (fun hc9 => ?_) (fun hc9 => ?_)
    · have hE := st_t hE hc9
      have hq := Option.some.inj hE
      subst hq
      exact hKt5 ls H locs (lv_sub hl [0, 2, 3] rfl) hP hS
    · have hE := st_f hE hc9
      refine lv_aload_n hx hb dX10_drawnNow_22 rfl (lv_at hl 0 rfl) ?_
      refine lv_aload_n hx hb dX10_drawnNow_23 rfl (lv_at hl 0 rfl) ?_
      refine r_get (v := .int (ri c8 0 1)) hx hb hts (fun w h => wz_m (inX10 w h)) hown hK hP (q_Ref (ad := ad) (cI := cI) (cB := cB)) rfl 1 (by decide) (hts _ (wz_m tw_3_157)) (fun _ h9 => h9) rfl dX10_drawnNow_24 ?_
      obtain ⟨r10, hCr10, hE⟩ := st_bo hE
      refine g_calli (va_runV (As := [.int (ri c8 0 1)]) (rest := []) ⟨hx, hb, hml, hown, hts⟩ (k_X10_draw hij hCr10) (cwV 1 hts (wz_V tw_5_78 tw_5_80 tp_38 tw_1_11 tw_5_81) rfl rfl rfl hdV_X10_draw ⟨Nat.le_of_ble_eq_true rfl, Nat.le_of_ble_eq_true rfl⟩) (g_preV KR_st ZR_st hK hZ hP hS hK.1 ((q_Ref (ad := ad) (cI := cI) (cB := cB))).1 (er_o (q_Ref (ad := ad) (cI := cI) (cB := cB))) rfl) rfl rfl hl.1 rfl (lv_room (Nat.le_of_ble_eq_true rfl)) dX10_drawnNow_27 ⟨Nat.zero_le _, Nat.zero_le _⟩) hS (fun H locs hP hS => ?_)
      refine lv_istore (lv' := [(6, .int r10.1), (0, .ref (ad 0)), (1, .int a1), (3, .int a3), (4, .int c6), (5, .int c7)]) hx hb dX10_drawnNow_30 hl (by decide) rfl (fun ls hl => ?_)
      refine lv_aload_n hx hb dX10_drawnNow_32 rfl (lv_at hl 1 rfl) ?_
      refine lv_bipush (v := 6) hx hb dX10_drawnNow_33 (by decide) ?_
      obtain ⟨r11, hCr11, hE⟩ := st_bo hE
      refine g_calli (va_runV (As := [.int 6]) (rest := []) ⟨hx, hb, hml, hown, hts⟩ (k_X10_draw hij hCr11) (cwV 1 hts (wz_V tw_5_78 tw_5_80 tp_38 tw_1_11 tw_5_81) rfl rfl rfl hdV_X10_draw ⟨Nat.le_of_ble_eq_true rfl, Nat.le_of_ble_eq_true rfl⟩) (g_preV KR_st ZR_st hK hZ hP hS hK.1 ((q_Ref (ad := ad) (cI := cI) (cB := cB))).1 (er_o (q_Ref (ad := ad) (cI := cI) (cB := cB))) rfl) rfl rfl hl.1 rfl (lv_room (Nat.le_of_ble_eq_true rfl)) dX10_drawnNow_35 ⟨Nat.zero_le _, Nat.zero_le _⟩) hS (fun H locs hP hS => ?_)
      refine lv_istore (lv' := [(7, .int r11.1), (6, .int r10.1), (0, .ref (ad 0)), (1, .int a1), (3, .int a3), (4, .int c6), (5, .int c7)]) hx hb dX10_drawnNow_38 hl (by decide) rfl (fun ls hl => ?_)
      refine lv_iload hx hb dX10_drawnNow_40 (lv_at hl 5 rfl) ?_
      refine lv_aload_n hx hb dX10_drawnNow_42 rfl (lv_at hl 2 rfl) ?_
      refine lv_iload hx hb dX10_drawnNow_43 (lv_at hl 1 rfl) ?_
      refine lv_iconst (v := 4) hx hb dX10_drawnNow_45 (by decide) ?_
      refine lv_iload hx hb dX10_drawnNow_46 (lv_at hl 0 rfl) ?_
      refine lv_imul hx hb dX10_drawnNow_48 ?_
      refine lv_aload_n hx hb dX10_drawnNow_49 rfl (lv_at hl 2 rfl) ?_
      refine lv_iconst (v := 4) hx hb dX10_drawnNow_50 (by decide) ?_
      obtain ⟨r12, hCr12, hE⟩ := st_bo hE
      refine g_calli (va_runV (As := [.int 4]) (rest := [.int (4 * r11.1), .int r10.1, .ref (ad 0), .int c6]) ⟨hx, hb, hml, hown, hts⟩ (k_X10_draw hij hCr12) (cwV 1 hts (wz_V tw_5_78 tw_5_80 tp_38 tw_1_11 tw_5_81) rfl rfl rfl hdV_X10_draw ⟨Nat.le_of_ble_eq_true rfl, Nat.le_of_ble_eq_true rfl⟩) (g_preV KR_st ZR_st hK hZ hP hS hK.1 ((q_Ref (ad := ad) (cI := cI) (cB := cB))).1 (er_o (q_Ref (ad := ad) (cI := cI) (cB := cB))) rfl) rfl rfl hl.1 rfl (lv_room (Nat.le_of_ble_eq_true rfl)) dX10_drawnNow_51 ⟨Nat.zero_le _, Nat.zero_le _⟩) hS (fun H locs hP hS => ?_)
      refine lv_iadd hx hb dX10_drawnNow_54 ?_
      obtain ⟨r13, hCr13, hE⟩ := st_bo hE
      refine g_calli (va_runV (As := [.int r10.1, .int ((4 * r11.1) + r12.1)]) (rest := [.int c6]) ⟨hx, hb, hml, hown, hts⟩ (k_X10_showNow hij hCr13) (cwV 2 hts (wz_V tw_4_201 tw_4_203 tp_22 tw_1_11 tw_4_204) rfl rfl rfl hdV_X10_showNow ⟨Nat.le_of_ble_eq_true rfl, Nat.le_of_ble_eq_true rfl⟩) (g_preV KR_st ZR_st hK hZ hP hS hK.1 ((q_Ref (ad := ad) (cI := cI) (cB := cB))).1 (er_o (q_Ref (ad := ad) (cI := cI) (cB := cB))) rfl) rfl rfl hl.1 rfl (lv_room (Nat.le_of_ble_eq_true rfl)) dX10_drawnNow_55 ⟨Nat.zero_le _, Nat.zero_le _⟩) hS (fun H locs hP hS => ?_)
      refine lv_if_eq (tgt := 65) hx hb dX10_drawnNow_58 (by decide) (fun hc14 => ?_) (fun hc14 => ?_)
      · have hE := st_t hE hc14
        refine lv_iconst (v := 0) hx hb dX10_drawnNow_65 (by decide) ?_
        refine lv_iadd hx hb dX10_drawnNow_66 ?_
        obtain ⟨v15, ev15, hE⟩ := st_bv hE
        refine nm_i ev15 ?_
        refine lv_istore (lv' := [(4, .int v15), (7, .int r11.1), (6, .int r10.1), (0, .ref (ad 0)), (1, .int a1), (3, .int a3), (5, .int c7)]) hx hb dX10_drawnNow_67 hl (by decide) rfl (fun ls hl => ?_)
        obtain ⟨v16, ev16, hE⟩ := st_bv hE
        refine lv_iinc (v := v16) (lv' := [(5, .int v16), (4, .int v15), (7, .int r11.1), (6, .int r10.1), (0, .ref (ad 0)), (1, .int a1), (3, .int a3)]) hx hb dX10_drawnNow_69 hl (k := 6) rfl (by rw [ev16]; rfl) (by decide) rfl (fun ls hl => ?_)
        refine lv_goto (tgt := 16) hx hb dX10_drawnNow_72 (by decide) ?_
        have hq := Option.some.inj hE
        subst hq
        exact hKt5 ls H locs (lv_sub hl [4, 5, 6, 1, 0] rfl) hP hS
      · have hE := st_f hE hc14
        refine lv_iconst (v := 1) hx hb dX10_drawnNow_61 (by decide) ?_
        refine lv_goto (tgt := 66) hx hb dX10_drawnNow_62 (by decide) ?_
        refine lv_iadd hx hb dX10_drawnNow_66 ?_
        obtain ⟨v17, ev17, hE⟩ := st_bv hE
        refine nm_i ev17 ?_
        refine lv_istore (lv' := [(4, .int v17), (7, .int r11.1), (6, .int r10.1), (0, .ref (ad 0)), (1, .int a1), (3, .int a3), (5, .int c7)]) hx hb dX10_drawnNow_67 hl (by decide) rfl (fun ls hl => ?_)
        obtain ⟨v18, ev18, hE⟩ := st_bv hE
        refine lv_iinc (v := v18) (lv' := [(5, .int v18), (4, .int v17), (7, .int r11.1), (6, .int r10.1), (0, .ref (ad 0)), (1, .int a1), (3, .int a3)]) hx hb dX10_drawnNow_69 hl (k := 6) rfl (by rw [ev18]; rfl) (by decide) rfl (fun ls hl => ?_)
        refine lv_goto (tgt := 16) hx hb dX10_drawnNow_72 (by decide) ?_
        have hq := Option.some.inj hE
        subst hq
        exact hKt5 ls H locs (lv_sub hl [4, 5, 6, 1, 0] rfl) hP hS
  · intro ls H locs hl hP hS
    refine lv_iload_n hx hb dX10_drawnNow_75 rfl (lv_at hl 1 rfl) ?_
    obtain ⟨q19, hq19, hE⟩ := st_bo hE
    have J20 : ∀ (ls : Array Slot) (H : Heap) (locs : List Loc), lv_has ls 8 [(0, .ref (ad 0))] → rP D ad cI cB x4.2 H → rS ad s H locs → W p l e rmX10_drawnNow s m args below meth c H locs 0 0 QQ (F0 m 105 ls [.int q19]) := by
      intro ls H locs hl hP hS
      refine lv_istore (lv' := [(5, .int q19), (0, .ref (ad 0))]) hx hb dX10_drawnNow_105 hl (by decide) rfl (fun ls hl => ?_)
      refine lv_aload_n hx hb dX10_drawnNow_107 rfl (lv_at hl 1 rfl) ?_
      obtain ⟨r25, hCr25, hE⟩ := st_bo hE
      refine g_callv (va_runV (As := []) (rest := []) ⟨hx, hb, hml, hown, hts⟩ (k_X10_layBack hij hCr25) (cwV 0 hts (wz_V tw_4_239 tw_5_1 tp_26 tw_1_11 tw_5_2) rfl rfl rfl hdV_X10_layBack ⟨Nat.le_of_ble_eq_true rfl, Nat.le_of_ble_eq_true rfl⟩) (g_preV KR_st ZR_st hK hZ hP hS hK.1 ((q_Ref (ad := ad) (cI := cI) (cB := cB))).1 (er_o (q_Ref (ad := ad) (cI := cI) (cB := cB))) rfl) rfl rfl hl.1 rfl (lv_room (Nat.le_of_ble_eq_true rfl)) dX10_drawnNow_108 ⟨Nat.zero_le _, Nat.zero_le _⟩) hS (fun H locs hP hS => ?_)
      refine lv_iload hx hb dX10_drawnNow_111 (lv_at hl 0 rfl) ?_
      replace hE := Option.some.inj hE
      have hq := Prod.mk.inj hE
      subst hQQ
      exact g_iret hx hb hr hlocks hP hS hq.1 hq.2 dX10_drawnNow_113
    replace hE := hq19
    refine lv_if_ne (tgt := 84) hx hb dX10_drawnNow_76 (by decide) (fun hc21 => ?_) (fun hc21 => ?_)
    · have hE := st_f hE hc21
      refine lv_iload_n hx hb dX10_drawnNow_84 rfl (lv_at hl 1 rfl) ?_
      refine lv_iconst (v := 1) hx hb dX10_drawnNow_85 (by decide) ?_
      refine lv_icmp_ne (tgt := 100) hx hb dX10_drawnNow_86 (by decide) (fun hc22 => ?_) (fun hc22 => ?_)
      · have hE := st_f hE hc22
        refine lv_aload_n hx hb dX10_drawnNow_100 rfl (lv_at hl 0 rfl) ?_
        refine r_get (v := .long (rl x4.2 32)) hx hb hts (fun w h => wz_m (inX10 w h)) hown hK hP (q_Ref (ad := ad) (cI := cI) (cB := cB)) rfl 32 (by decide) (hts _ (wz_m tw_3_188)) (fun _ h9 => h9) rfl dX10_drawnNow_101 ?_
        refine lv_l2i (v := (rl x4.2 32 : Int64).toInt32) hx hb dX10_drawnNow_104 rfl ?_
        have hq := Option.some.inj hE
        subst hq
        exact J20 ls H locs (lv_sub hl [0] rfl) hP hS
      · have hE := st_t hE hc22
        refine lv_aload_n hx hb dX10_drawnNow_89 rfl (lv_at hl 0 rfl) ?_
        refine lv_aload_n hx hb dX10_drawnNow_90 rfl (lv_at hl 0 rfl) ?_
        obtain ⟨r23, hCr23, hE⟩ := st_bo hE
        refine g_calli (va_runV (As := []) (rest := [.ref (ad 0)]) ⟨hx, hb, hml, hown, hts⟩ (k_X10_everybody hij hCr23) (cwV 0 hts (wz_V tw_4_178 tw_4_180 tp_19 tw_1_11 tw_4_181) rfl rfl rfl hdV_X10_everybody ⟨Nat.le_of_ble_eq_true rfl, Nat.le_of_ble_eq_true rfl⟩) (g_preV KR_st ZR_st hK hZ hP hS hK.1 ((q_Ref (ad := ad) (cI := cI) (cB := cB))).1 (er_o (q_Ref (ad := ad) (cI := cI) (cB := cB))) rfl) rfl rfl hl.1 rfl (lv_room (Nat.le_of_ble_eq_true rfl)) dX10_drawnNow_91 ⟨Nat.zero_le _, Nat.zero_le _⟩) hS (fun H locs hP hS => ?_)
        obtain ⟨r24, hCr24, hE⟩ := st_bo hE
        refine g_calli (va_runV (As := [.int r23]) (rest := []) ⟨hx, hb, hml, hown, hts⟩ (k_X10_clashesAmong hij hCr24) (cwV 1 hts (wz_V tw_5_31 tw_5_33 tp_32 tw_1_11 tw_5_34) rfl rfl rfl hdV_X10_clashesAmong ⟨Nat.le_of_ble_eq_true rfl, Nat.le_of_ble_eq_true rfl⟩) (g_preV KR_st ZR_st hK hZ hP hS hK.1 ((q_Ref (ad := ad) (cI := cI) (cB := cB))).1 (er_o (q_Ref (ad := ad) (cI := cI) (cB := cB))) rfl) rfl rfl hl.1 rfl (lv_room (Nat.le_of_ble_eq_true rfl)) dX10_drawnNow_94 ⟨Nat.zero_le _, Nat.zero_le _⟩) hS (fun H locs hP hS => ?_)
        refine lv_goto (tgt := 105) hx hb dX10_drawnNow_97 (by decide) ?_
        have hq := Option.some.inj hE
        subst hq
        exact J20 ls H locs (lv_sub hl [0] rfl) hP hS
    · have hE := st_t hE hc21
      refine lv_iload hx hb dX10_drawnNow_79 (lv_at hl 2 rfl) ?_
      refine lv_goto (tgt := 105) hx hb dX10_drawnNow_81 (by decide) ?_
      have hq := Option.some.inj hE
      subst hq
      exact J20 ls H locs (lv_sub hl [0] rfl) hP hS
def f_X10_drawn (S0 : SR) (a1 : Int32) (a2 : Int32) (a3 : Int32) : Option (Int32 × SR) :=
  bo (f_X10_within a1 1 60) (fun (r1 : Int32) => if r1 = 0 then (some ((-102), S0)) else (if a2 < 0 then (some ((-102), S0)) else (bo (f_X10_within a3 0 2) (fun (r4 : Int32) => if r4 = 0 then (some ((-102), S0)) else (if (ri S0 0 0) = 0 then (some ((-103), S0)) else (bo (f_X10_drawnNow S0 a1 a2 a3) (fun (r7 : Int32 × SR) => some (r7.1, r7.2))))))))
abbrev rmX10_drawn : Room := { frames := 5, cells := 0, slots := 0, locals := 122 }
theorem hdV_X10_drawn : yX10_drawn.cls = "WitnessWallModel" ∧ yX10_drawn.cls ≠ "java/lang/invoke/MethodHandle" ∧ yX10_drawn.cls ≠ "java/lang/invoke/VarHandle" ∧ (parseMethodDescriptor yX10_drawn.desc).map (fun d => d.parameters.length) = some 3 := by decide +kernel
set_option maxHeartbeats 4000000 in
set_option maxRecDepth 100000 in
theorem k_X10_drawn {l : Launch} {D : va_G} {ad : Nat → Nat} {cI cB : ClassId} (hij : inj 31 ad)  {S0 : SR} {a1 : Int32} {a2 : Int32} {a3 : Int32} {r : Int32} {Sr : SR} (hE : f_X10_drawn S0 a1 a2 a3 = some (r, Sr)) {sz : Nat} : Met l yX10_drawn (wz yX10_drawn cX10_drawn 4 (some FieldType.int)) rmX10_drawn (PG 31 ad (er ad cI cB) D (KR D cI cB) ZR [.ref (ad 0), .int a1, .int a2, .int a3] S0 sz) (QGi 31 ad (er ad cI cB) D r Sr sz) 0 0 (AD 31 ad sz) := by
  unfold f_X10_drawn at hE
  refine g_start (cc := cX10_drawn) (maxL := 4) (ret := (some FieldType.int)) (Qc := fun sz => QGi 31 ad (er ad cI cB) D r Sr sz) (by decide) rfl (Nat.le_of_ble_eq_true rfl) ?_
  intro p e s m args below meth c H locs ls hx hb hr hts hown hlocks hml hK hZ hP hS hl
  replace hl : lv_has ls 4 [(0, .ref (ad 0)), (1, .int a1), (2, .int a2), (3, .int a3)] := hl
  obtain ⟨QQ, hQQ⟩ : ∃ q, q = MQ below (QGi 31 ad (er ad cI cB) D r Sr s.heap.size) args s 0 0 (AD 31 ad s.heap.size) := ⟨_, rfl⟩
  rw [← hQQ]
  refine lv_iload_n hx hb dX10_drawn_0 rfl (lv_at hl 1 rfl) ?_
  refine lv_iconst (v := 1) hx hb dX10_drawn_1 (by decide) ?_
  refine lv_bipush (v := 60) hx hb dX10_drawn_2 (by decide) ?_
  obtain ⟨r1, hCr1, hE⟩ := st_bo hE
  refine g_calli (va_runS (As := [.int a1, .int 1, .int 60]) (rest := []) ⟨hx, hb, hml, hown, hts⟩ (k_X10_within hij (S0 := S0) hCr1) (va_cwS 3 hts (wz_S tw_4_66 tw_4_67 tw_1_11 tw_4_68) rfl rfl rfl hdS_X10_within ⟨Nat.le_of_ble_eq_true rfl, Nat.le_of_ble_eq_true rfl⟩) (g_preS KR_st ZR_st hK hZ hP hS) rfl rfl hl.1 rfl (lv_room (Nat.le_of_ble_eq_true rfl)) dX10_drawn_4 ⟨Nat.zero_le _, Nat.zero_le _⟩) hS (fun H locs hP hS => ?_)
  refine lv_if_eq (tgt := 23) hx hb dX10_drawn_7 (by decide) (fun hc2 => ?_) (fun hc2 => ?_)
  · have hE := st_t hE hc2
    refine lv_bipush (v := (-102)) hx hb dX10_drawn_23 (by decide) ?_
    replace hE := Option.some.inj hE
    have hq := Prod.mk.inj hE
    subst hQQ
    exact g_iret hx hb hr hlocks hP hS hq.1 hq.2 dX10_drawn_25
  · have hE := st_f hE hc2
    refine lv_iload_n hx hb dX10_drawn_10 rfl (lv_at hl 2 rfl) ?_
    refine lv_if_lt (tgt := 23) hx hb dX10_drawn_11 (by decide) (fun hc3 => ?_) (fun hc3 => ?_)
    · have hE := st_t hE hc3
      refine lv_bipush (v := (-102)) hx hb dX10_drawn_23 (by decide) ?_
      replace hE := Option.some.inj hE
      have hq := Prod.mk.inj hE
      subst hQQ
      exact g_iret hx hb hr hlocks hP hS hq.1 hq.2 dX10_drawn_25
    · have hE := st_f hE hc3
      refine lv_iload_n hx hb dX10_drawn_14 rfl (lv_at hl 3 rfl) ?_
      refine lv_iconst (v := 0) hx hb dX10_drawn_15 (by decide) ?_
      refine lv_iconst (v := 2) hx hb dX10_drawn_16 (by decide) ?_
      obtain ⟨r4, hCr4, hE⟩ := st_bo hE
      refine g_calli (va_runS (As := [.int a3, .int 0, .int 2]) (rest := []) ⟨hx, hb, hml, hown, hts⟩ (k_X10_within hij (S0 := S0) hCr4) (va_cwS 3 hts (wz_S tw_4_66 tw_4_67 tw_1_11 tw_4_68) rfl rfl rfl hdS_X10_within ⟨Nat.le_of_ble_eq_true rfl, Nat.le_of_ble_eq_true rfl⟩) (g_preS KR_st ZR_st hK hZ hP hS) rfl rfl hl.1 rfl (lv_room (Nat.le_of_ble_eq_true rfl)) dX10_drawn_17 ⟨Nat.zero_le _, Nat.zero_le _⟩) hS (fun H locs hP hS => ?_)
      refine lv_if_ne (tgt := 26) hx hb dX10_drawn_20 (by decide) (fun hc5 => ?_) (fun hc5 => ?_)
      · have hE := st_f hE hc5
        refine lv_aload_n hx hb dX10_drawn_26 rfl (lv_at hl 0 rfl) ?_
        refine r_get (v := .int (ri S0 0 0)) hx hb hts (fun w h => wz_m (inX10 w h)) hown hK hP (q_Ref (ad := ad) (cI := cI) (cB := cB)) rfl 0 (by decide) (hts _ (wz_m tw_3_156)) (fun _ h9 => h9) rfl dX10_drawn_27 ?_
        refine lv_if_ne (tgt := 38) hx hb dX10_drawn_30 (by decide) (fun hc6 => ?_) (fun hc6 => ?_)
        · have hE := st_f hE hc6
          refine lv_aload_n hx hb dX10_drawn_38 rfl (lv_at hl 0 rfl) ?_
          refine lv_iload_n hx hb dX10_drawn_39 rfl (lv_at hl 1 rfl) ?_
          refine lv_iload_n hx hb dX10_drawn_40 rfl (lv_at hl 2 rfl) ?_
          refine lv_iload_n hx hb dX10_drawn_41 rfl (lv_at hl 3 rfl) ?_
          obtain ⟨r7, hCr7, hE⟩ := st_bo hE
          refine g_calli (va_runV (As := [.int a1, .int a2, .int a3]) (rest := []) ⟨hx, hb, hml, hown, hts⟩ (k_X10_drawnNow hij hCr7) (cwV 3 hts (wz_V tw_5_74 tw_5_76 tp_37 tw_1_11 tw_5_77) rfl rfl rfl hdV_X10_drawnNow ⟨Nat.le_of_ble_eq_true rfl, Nat.le_of_ble_eq_true rfl⟩) (g_preV KR_st ZR_st hK hZ hP hS hK.1 ((q_Ref (ad := ad) (cI := cI) (cB := cB))).1 (er_o (q_Ref (ad := ad) (cI := cI) (cB := cB))) rfl) rfl rfl hl.1 rfl (lv_room (Nat.le_of_ble_eq_true rfl)) dX10_drawn_42 ⟨Nat.zero_le _, Nat.zero_le _⟩) hS (fun H locs hP hS => ?_)
          replace hE := Option.some.inj hE
          have hq := Prod.mk.inj hE
          subst hQQ
          exact g_iret hx hb hr hlocks hP hS hq.1 hq.2 dX10_drawn_45
        · have hE := st_t hE hc6
          refine lv_bipush (v := (-103)) hx hb dX10_drawn_33 (by decide) ?_
          refine lv_goto (tgt := 45) hx hb dX10_drawn_35 (by decide) ?_
          replace hE := Option.some.inj hE
          have hq := Prod.mk.inj hE
          subst hQQ
          exact g_iret hx hb hr hlocks hP hS hq.1 hq.2 dX10_drawn_45
      · have hE := st_t hE hc5
        refine lv_bipush (v := (-102)) hx hb dX10_drawn_23 (by decide) ?_
        replace hE := Option.some.inj hE
        have hq := Prod.mk.inj hE
        subst hQQ
        exact g_iret hx hb hr hlocks hP hS hq.1 hq.2 dX10_drawn_25
def f_X10_kindBy (a1 : Int32) : Option (Int32) :=
  if a1 = 98 then (some 2) else (if a1 = 102 then (some 1) else (if a1 = 109 then (some 3) else (if a1 = 115 then (some 4) else (if a1 = 119 then (some 0) else (some (-1))))))
abbrev rmX10_kindBy : Room := { frames := 0, cells := 0, slots := 0, locals := 0 }
theorem hdS_X10_kindBy : yX10_kindBy.cls ≠ "java/lang/invoke/MethodHandle" ∧ yX10_kindBy.cls ≠ "java/lang/invoke/VarHandle" ∧ (parseMethodDescriptor yX10_kindBy.desc).map (fun d => d.parameters.length) = some 1 := by decide +kernel
set_option maxHeartbeats 4000000 in
set_option maxRecDepth 100000 in
theorem k_X10_kindBy {l : Launch} {D : va_G} {ad : Nat → Nat} {cI cB : ClassId} (hij : inj 31 ad)  {S0 : SR} {a1 : Int32} {r : Int32} (hE : f_X10_kindBy a1 = some r) {sz : Nat} : Met l yX10_kindBy (wz yX10_kindBy cX10_kindBy 1 (some FieldType.int)) rmX10_kindBy (PG 31 ad (er ad cI cB) D (KR D cI cB) ZR [.int a1] S0 sz) (QGi 31 ad (er ad cI cB) D r S0 sz) 0 0 (AD 31 ad sz) := by
  unfold f_X10_kindBy at hE
  refine g_start (cc := cX10_kindBy) (maxL := 1) (ret := (some FieldType.int)) (Qc := fun sz => QGi 31 ad (er ad cI cB) D r S0 sz) (by decide) rfl (Nat.le_of_ble_eq_true rfl) ?_
  intro p e s m args below meth c H locs ls hx hb hr hts hown hlocks hml hK hZ hP hS hl
  replace hl : lv_has ls 1 [(0, .int a1)] := hl
  obtain ⟨QQ, hQQ⟩ : ∃ q, q = MQ below (QGi 31 ad (er ad cI cB) D r S0 s.heap.size) args s 0 0 (AD 31 ad s.heap.size) := ⟨_, rfl⟩
  rw [← hQQ]
  refine lv_iload_n hx hb dX10_kindBy_0 rfl (lv_at hl 0 rfl) ?_
  by_cases hc1 : a1 = 98
  · have hE := st_t hE hc1
    refine lv_lookup (tgt := 56) (off := 55) hx hb dX10_kindBy_1 (by decide) (by rw [hc1]; decide) (by decide) ?_
    refine lv_iconst (v := 2) hx hb dX10_kindBy_56 (by decide) ?_
    replace hE := Option.some.inj hE
    subst hQQ
    exact g_iret hx hb hr hlocks hP hS hE rfl dX10_kindBy_57
  replace hE := st_f hE hc1
  by_cases hc2 : a1 = 102
  · have hE := st_t hE hc2
    refine lv_lookup (tgt := 54) (off := 53) hx hb dX10_kindBy_1 (by decide) (by rw [hc2]; decide) (by decide) ?_
    refine lv_iconst (v := 1) hx hb dX10_kindBy_54 (by decide) ?_
    replace hE := Option.some.inj hE
    subst hQQ
    exact g_iret hx hb hr hlocks hP hS hE rfl dX10_kindBy_55
  replace hE := st_f hE hc2
  by_cases hc3 : a1 = 109
  · have hE := st_t hE hc3
    refine lv_lookup (tgt := 58) (off := 57) hx hb dX10_kindBy_1 (by decide) (by rw [hc3]; decide) (by decide) ?_
    refine lv_iconst (v := 3) hx hb dX10_kindBy_58 (by decide) ?_
    replace hE := Option.some.inj hE
    subst hQQ
    exact g_iret hx hb hr hlocks hP hS hE rfl dX10_kindBy_59
  replace hE := st_f hE hc3
  by_cases hc4 : a1 = 115
  · have hE := st_t hE hc4
    refine lv_lookup (tgt := 60) (off := 59) hx hb dX10_kindBy_1 (by decide) (by rw [hc4]; decide) (by decide) ?_
    refine lv_iconst (v := 4) hx hb dX10_kindBy_60 (by decide) ?_
    replace hE := Option.some.inj hE
    subst hQQ
    exact g_iret hx hb hr hlocks hP hS hE rfl dX10_kindBy_61
  replace hE := st_f hE hc4
  by_cases hc5 : a1 = 119
  · have hE := st_t hE hc5
    refine lv_lookup (tgt := 52) (off := 51) hx hb dX10_kindBy_1 (by decide) (by rw [hc5]; decide) (by decide) ?_
    refine lv_iconst (v := 0) hx hb dX10_kindBy_52 (by decide) ?_
    replace hE := Option.some.inj hE
    subst hQQ
    exact g_iret hx hb hr hlocks hP hS hE rfl dX10_kindBy_53
  replace hE := st_f hE hc5
  refine lv_lookup (tgt := 62) (off := 61) hx hb dX10_kindBy_1 (by decide) (by rw [lv_osw hc1 (show (98 : Int32).toInt = 98 from by decide), lv_osw hc2 (show (102 : Int32).toInt = 102 from by decide), lv_osw hc3 (show (109 : Int32).toInt = 109 from by decide), lv_osw hc4 (show (115 : Int32).toInt = 115 from by decide), lv_osw hc5 (show (119 : Int32).toInt = 119 from by decide)]; rfl) (by decide) ?_
  refine lv_iconst (v := (-1)) hx hb dX10_kindBy_62 (by decide) ?_
  replace hE := Option.some.inj hE
  subst hQQ
  exact g_iret hx hb hr hlocks hP hS hE rfl dX10_kindBy_63
def f_X10_isThing (S0 : SR) (a1 : Int32) : Option (Int32) :=
  bo (f_X10_at S0 a1) (fun (r1 : Int32) => bo (f_X10_within (r1 - 97) 0 5) (fun (r2 : Int32) => some (r2 &&& 1)))
abbrev rmX10_isThing : Room := { frames := 1, cells := 0, slots := 0, locals := 22 }
theorem hdV_X10_isThing : yX10_isThing.cls = "WitnessWallModel" ∧ yX10_isThing.cls ≠ "java/lang/invoke/MethodHandle" ∧ yX10_isThing.cls ≠ "java/lang/invoke/VarHandle" ∧ (parseMethodDescriptor yX10_isThing.desc).map (fun d => d.parameters.length) = some 1 := by decide +kernel
set_option maxHeartbeats 4000000 in
set_option maxRecDepth 100000 in
theorem k_X10_isThing {l : Launch} {D : va_G} {ad : Nat → Nat} {cI cB : ClassId} (hij : inj 31 ad)  {S0 : SR} {a1 : Int32} {r : Int32} (hE : f_X10_isThing S0 a1 = some r) {sz : Nat} : Met l yX10_isThing (wz yX10_isThing cX10_isThing 2 (some FieldType.boolean)) rmX10_isThing (PG 31 ad (er ad cI cB) D (KR D cI cB) ZR [.ref (ad 0), .int a1] S0 sz) (QGi 31 ad (er ad cI cB) D r S0 sz) 0 0 (AD 31 ad sz) := by
  unfold f_X10_isThing at hE
  refine g_start (cc := cX10_isThing) (maxL := 2) (ret := (some FieldType.boolean)) (Qc := fun sz => QGi 31 ad (er ad cI cB) D r S0 sz) (by decide) rfl (Nat.le_of_ble_eq_true rfl) ?_
  intro p e s m args below meth c H locs ls hx hb hr hts hown hlocks hml hK hZ hP hS hl
  replace hl : lv_has ls 2 [(0, .ref (ad 0)), (1, .int a1)] := hl
  obtain ⟨QQ, hQQ⟩ : ∃ q, q = MQ below (QGi 31 ad (er ad cI cB) D r S0 s.heap.size) args s 0 0 (AD 31 ad s.heap.size) := ⟨_, rfl⟩
  rw [← hQQ]
  refine lv_aload_n hx hb dX10_isThing_0 rfl (lv_at hl 0 rfl) ?_
  refine lv_iload_n hx hb dX10_isThing_1 rfl (lv_at hl 1 rfl) ?_
  obtain ⟨r1, hCr1, hE⟩ := st_bo hE
  refine g_calli (va_runV (As := [.int a1]) (rest := []) ⟨hx, hb, hml, hown, hts⟩ (k_X10_at hij hCr1) (cwV 1 hts (wz_V tw_4_85 tw_4_87 tp_4 tw_1_11 tw_4_88) rfl rfl rfl hdV_X10_at ⟨Nat.le_of_ble_eq_true rfl, Nat.le_of_ble_eq_true rfl⟩) (g_preV KR_st ZR_st hK hZ hP hS hK.1 ((q_Ref (ad := ad) (cI := cI) (cB := cB))).1 (er_o (q_Ref (ad := ad) (cI := cI) (cB := cB))) rfl) rfl rfl hl.1 rfl (lv_room (Nat.le_of_ble_eq_true rfl)) dX10_isThing_2 ⟨Nat.zero_le _, Nat.zero_le _⟩) hS (fun H locs hP hS => ?_)
  refine lv_bipush (v := 97) hx hb dX10_isThing_5 (by decide) ?_
  refine lv_isub hx hb dX10_isThing_7 ?_
  refine lv_iconst (v := 0) hx hb dX10_isThing_8 (by decide) ?_
  refine lv_iconst (v := 5) hx hb dX10_isThing_9 (by decide) ?_
  obtain ⟨r2, hCr2, hE⟩ := st_bo hE
  refine g_calli (va_runS (As := [.int (r1 - 97), .int 0, .int 5]) (rest := []) ⟨hx, hb, hml, hown, hts⟩ (k_X10_within hij (S0 := S0) hCr2) (va_cwS 3 hts (wz_S tw_4_66 tw_4_67 tw_1_11 tw_4_68) rfl rfl rfl hdS_X10_within ⟨Nat.le_of_ble_eq_true rfl, Nat.le_of_ble_eq_true rfl⟩) (g_preS KR_st ZR_st hK hZ hP hS) rfl rfl hl.1 rfl (lv_room (Nat.le_of_ble_eq_true rfl)) dX10_isThing_10 ⟨Nat.zero_le _, Nat.zero_le _⟩) hS (fun H locs hP hS => ?_)
  replace hE := Option.some.inj hE
  subst hQQ
  exact g_zret hx hb hr hlocks hP hS hE rfl dX10_isThing_13
def f_X10_isDigit (S0 : SR) (a1 : Int32) (a2 : Int32) (a3 : Int32) : Option (Int32) :=
  bo (f_X10_at S0 a1) (fun (r1 : Int32) => bo (f_X10_within (r1 - 48) a2 a3) (fun (r2 : Int32) => some (r2 &&& 1)))
abbrev rmX10_isDigit : Room := { frames := 1, cells := 0, slots := 0, locals := 22 }
theorem hdV_X10_isDigit : yX10_isDigit.cls = "WitnessWallModel" ∧ yX10_isDigit.cls ≠ "java/lang/invoke/MethodHandle" ∧ yX10_isDigit.cls ≠ "java/lang/invoke/VarHandle" ∧ (parseMethodDescriptor yX10_isDigit.desc).map (fun d => d.parameters.length) = some 3 := by decide +kernel
set_option maxHeartbeats 4000000 in
set_option maxRecDepth 100000 in
theorem k_X10_isDigit {l : Launch} {D : va_G} {ad : Nat → Nat} {cI cB : ClassId} (hij : inj 31 ad)  {S0 : SR} {a1 : Int32} {a2 : Int32} {a3 : Int32} {r : Int32} (hE : f_X10_isDigit S0 a1 a2 a3 = some r) {sz : Nat} : Met l yX10_isDigit (wz yX10_isDigit cX10_isDigit 4 (some FieldType.boolean)) rmX10_isDigit (PG 31 ad (er ad cI cB) D (KR D cI cB) ZR [.ref (ad 0), .int a1, .int a2, .int a3] S0 sz) (QGi 31 ad (er ad cI cB) D r S0 sz) 0 0 (AD 31 ad sz) := by
  unfold f_X10_isDigit at hE
  refine g_start (cc := cX10_isDigit) (maxL := 4) (ret := (some FieldType.boolean)) (Qc := fun sz => QGi 31 ad (er ad cI cB) D r S0 sz) (by decide) rfl (Nat.le_of_ble_eq_true rfl) ?_
  intro p e s m args below meth c H locs ls hx hb hr hts hown hlocks hml hK hZ hP hS hl
  replace hl : lv_has ls 4 [(0, .ref (ad 0)), (1, .int a1), (2, .int a2), (3, .int a3)] := hl
  obtain ⟨QQ, hQQ⟩ : ∃ q, q = MQ below (QGi 31 ad (er ad cI cB) D r S0 s.heap.size) args s 0 0 (AD 31 ad s.heap.size) := ⟨_, rfl⟩
  rw [← hQQ]
  refine lv_aload_n hx hb dX10_isDigit_0 rfl (lv_at hl 0 rfl) ?_
  refine lv_iload_n hx hb dX10_isDigit_1 rfl (lv_at hl 1 rfl) ?_
  obtain ⟨r1, hCr1, hE⟩ := st_bo hE
  refine g_calli (va_runV (As := [.int a1]) (rest := []) ⟨hx, hb, hml, hown, hts⟩ (k_X10_at hij hCr1) (cwV 1 hts (wz_V tw_4_85 tw_4_87 tp_4 tw_1_11 tw_4_88) rfl rfl rfl hdV_X10_at ⟨Nat.le_of_ble_eq_true rfl, Nat.le_of_ble_eq_true rfl⟩) (g_preV KR_st ZR_st hK hZ hP hS hK.1 ((q_Ref (ad := ad) (cI := cI) (cB := cB))).1 (er_o (q_Ref (ad := ad) (cI := cI) (cB := cB))) rfl) rfl rfl hl.1 rfl (lv_room (Nat.le_of_ble_eq_true rfl)) dX10_isDigit_2 ⟨Nat.zero_le _, Nat.zero_le _⟩) hS (fun H locs hP hS => ?_)
  refine lv_bipush (v := 48) hx hb dX10_isDigit_5 (by decide) ?_
  refine lv_isub hx hb dX10_isDigit_7 ?_
  refine lv_iload_n hx hb dX10_isDigit_8 rfl (lv_at hl 2 rfl) ?_
  refine lv_iload_n hx hb dX10_isDigit_9 rfl (lv_at hl 3 rfl) ?_
  obtain ⟨r2, hCr2, hE⟩ := st_bo hE
  refine g_calli (va_runS (As := [.int (r1 - 48), .int a2, .int a3]) (rest := []) ⟨hx, hb, hml, hown, hts⟩ (k_X10_within hij (S0 := S0) hCr2) (va_cwS 3 hts (wz_S tw_4_66 tw_4_67 tw_1_11 tw_4_68) rfl rfl rfl hdS_X10_within ⟨Nat.le_of_ble_eq_true rfl, Nat.le_of_ble_eq_true rfl⟩) (g_preS KR_st ZR_st hK hZ hP hS) rfl rfl hl.1 rfl (lv_room (Nat.le_of_ble_eq_true rfl)) dX10_isDigit_10 ⟨Nat.zero_le _, Nat.zero_le _⟩) hS (fun H locs hP hS => ?_)
  replace hE := Option.some.inj hE
  subst hQQ
  exact g_zret hx hb hr hlocks hP hS hE rfl dX10_isDigit_13
def f_X10_sightAt (S0 : SR) (a1 : Int32) : Option (Int32) :=
  bo (f_X10_at S0 a1) (fun (r1 : Int32) => bo (f_X10_at S0 (a1 + 1)) (fun (r2 : Int32) => some (((4 * (r1 - 97)) + r2) - 48)))
abbrev rmX10_sightAt : Room := { frames := 1, cells := 0, slots := 0, locals := 21 }
theorem hdV_X10_sightAt : yX10_sightAt.cls = "WitnessWallModel" ∧ yX10_sightAt.cls ≠ "java/lang/invoke/MethodHandle" ∧ yX10_sightAt.cls ≠ "java/lang/invoke/VarHandle" ∧ (parseMethodDescriptor yX10_sightAt.desc).map (fun d => d.parameters.length) = some 1 := by decide +kernel
set_option maxHeartbeats 4000000 in
set_option maxRecDepth 100000 in
theorem k_X10_sightAt {l : Launch} {D : va_G} {ad : Nat → Nat} {cI cB : ClassId} (hij : inj 31 ad)  {S0 : SR} {a1 : Int32} {r : Int32} (hE : f_X10_sightAt S0 a1 = some r) {sz : Nat} : Met l yX10_sightAt (wz yX10_sightAt cX10_sightAt 2 (some FieldType.int)) rmX10_sightAt (PG 31 ad (er ad cI cB) D (KR D cI cB) ZR [.ref (ad 0), .int a1] S0 sz) (QGi 31 ad (er ad cI cB) D r S0 sz) 0 0 (AD 31 ad sz) := by
  unfold f_X10_sightAt at hE
  refine g_start (cc := cX10_sightAt) (maxL := 2) (ret := (some FieldType.int)) (Qc := fun sz => QGi 31 ad (er ad cI cB) D r S0 sz) (by decide) rfl (Nat.le_of_ble_eq_true rfl) ?_
  intro p e s m args below meth c H locs ls hx hb hr hts hown hlocks hml hK hZ hP hS hl
  replace hl : lv_has ls 2 [(0, .ref (ad 0)), (1, .int a1)] := hl
  obtain ⟨QQ, hQQ⟩ : ∃ q, q = MQ below (QGi 31 ad (er ad cI cB) D r S0 s.heap.size) args s 0 0 (AD 31 ad s.heap.size) := ⟨_, rfl⟩
  rw [← hQQ]
  refine lv_iconst (v := 4) hx hb dX10_sightAt_0 (by decide) ?_
  refine lv_aload_n hx hb dX10_sightAt_1 rfl (lv_at hl 0 rfl) ?_
  refine lv_iload_n hx hb dX10_sightAt_2 rfl (lv_at hl 1 rfl) ?_
  obtain ⟨r1, hCr1, hE⟩ := st_bo hE
  refine g_calli (va_runV (As := [.int a1]) (rest := [.int 4]) ⟨hx, hb, hml, hown, hts⟩ (k_X10_at hij hCr1) (cwV 1 hts (wz_V tw_4_85 tw_4_87 tp_4 tw_1_11 tw_4_88) rfl rfl rfl hdV_X10_at ⟨Nat.le_of_ble_eq_true rfl, Nat.le_of_ble_eq_true rfl⟩) (g_preV KR_st ZR_st hK hZ hP hS hK.1 ((q_Ref (ad := ad) (cI := cI) (cB := cB))).1 (er_o (q_Ref (ad := ad) (cI := cI) (cB := cB))) rfl) rfl rfl hl.1 rfl (lv_room (Nat.le_of_ble_eq_true rfl)) dX10_sightAt_3 ⟨Nat.zero_le _, Nat.zero_le _⟩) hS (fun H locs hP hS => ?_)
  refine lv_bipush (v := 97) hx hb dX10_sightAt_6 (by decide) ?_
  refine lv_isub hx hb dX10_sightAt_8 ?_
  refine lv_imul hx hb dX10_sightAt_9 ?_
  refine lv_aload_n hx hb dX10_sightAt_10 rfl (lv_at hl 0 rfl) ?_
  refine lv_iload_n hx hb dX10_sightAt_11 rfl (lv_at hl 1 rfl) ?_
  refine lv_iconst (v := 1) hx hb dX10_sightAt_12 (by decide) ?_
  refine lv_iadd hx hb dX10_sightAt_13 ?_
  obtain ⟨r2, hCr2, hE⟩ := st_bo hE
  refine g_calli (va_runV (As := [.int (a1 + 1)]) (rest := [.int (4 * (r1 - 97))]) ⟨hx, hb, hml, hown, hts⟩ (k_X10_at hij hCr2) (cwV 1 hts (wz_V tw_4_85 tw_4_87 tp_4 tw_1_11 tw_4_88) rfl rfl rfl hdV_X10_at ⟨Nat.le_of_ble_eq_true rfl, Nat.le_of_ble_eq_true rfl⟩) (g_preV KR_st ZR_st hK hZ hP hS hK.1 ((q_Ref (ad := ad) (cI := cI) (cB := cB))).1 (er_o (q_Ref (ad := ad) (cI := cI) (cB := cB))) rfl) rfl rfl hl.1 rfl (lv_room (Nat.le_of_ble_eq_true rfl)) dX10_sightAt_14 ⟨Nat.zero_le _, Nat.zero_le _⟩) hS (fun H locs hP hS => ?_)
  refine lv_iadd hx hb dX10_sightAt_17 ?_
  refine lv_bipush (v := 48) hx hb dX10_sightAt_18 (by decide) ?_
  refine lv_isub hx hb dX10_sightAt_20 ?_
  replace hE := Option.some.inj hE
  subst hQQ
  exact g_iret hx hb hr hlocks hP hS hE rfl dX10_sightAt_21
def b_X10_isTold_5 (S0 : SR) (a1 : Int32) (a2 : Int32) (c4 : Int32) (c5 : Int32) : Option ((Int32 × Int32) ⊕ (Int32)) :=
  gd (inb a1 5) (if (ri S0 15 (a1.toNatClampNeg)) ≤ c5 then (some (.inr c4)) else (if c4 = 0 then (gd (inb ((3 * a1) + c5) 15) (if (ri S0 14 (((3 * a1) + c5).toNatClampNeg)) = a2 then (bv (c5 + 1) (fun (v13 : Int32) => some (.inl (1, v13)))) else (bv (c5 + 1) (fun (v12 : Int32) => some (.inl (0, v12)))))) else (bv (c5 + 1) (fun (v9 : Int32) => some (.inl (1, v9))))))
def f_X10_isTold (S0 : SR) (a1 : Int32) (a2 : Int32) : Option (Int32) :=
  bo (lp (fun (s1 : Int32 × Int32) => b_X10_isTold_5 S0 a1 a2 s1.1 s1.2) 5000 (0, 0)) (fun (x2 : Int32) => some (x2 &&& 1))
abbrev rmX10_isTold : Room := { frames := 0, cells := 0, slots := 0, locals := 0 }
theorem hdV_X10_isTold : yX10_isTold.cls = "WitnessWallModel" ∧ yX10_isTold.cls ≠ "java/lang/invoke/MethodHandle" ∧ yX10_isTold.cls ≠ "java/lang/invoke/VarHandle" ∧ (parseMethodDescriptor yX10_isTold.desc).map (fun d => d.parameters.length) = some 2 := by decide +kernel
set_option maxHeartbeats 4000000 in
set_option maxRecDepth 100000 in
theorem k_X10_isTold {l : Launch} {D : va_G} {ad : Nat → Nat} {cI cB : ClassId} (hij : inj 31 ad)  {S0 : SR} {a1 : Int32} {a2 : Int32} {r : Int32} (hE : f_X10_isTold S0 a1 a2 = some r) {sz : Nat} : Met l yX10_isTold (wz yX10_isTold cX10_isTold 5 (some FieldType.boolean)) rmX10_isTold (PG 31 ad (er ad cI cB) D (KR D cI cB) ZR [.ref (ad 0), .int a1, .int a2] S0 sz) (QGi 31 ad (er ad cI cB) D r S0 sz) 0 0 (AD 31 ad sz) := by
  unfold f_X10_isTold at hE
  refine g_start (cc := cX10_isTold) (maxL := 5) (ret := (some FieldType.boolean)) (Qc := fun sz => QGi 31 ad (er ad cI cB) D r S0 sz) (by decide) rfl (Nat.le_of_ble_eq_true rfl) ?_
  intro p e s m args below meth c H locs ls hx hb hr hts hown hlocks hml hK hZ hP hS hl
  replace hl : lv_has ls 5 [(0, .ref (ad 0)), (1, .int a1), (2, .int a2)] := hl
  obtain ⟨QQ, hQQ⟩ : ∃ q, q = MQ below (QGi 31 ad (er ad cI cB) D r S0 s.heap.size) args s 0 0 (AD 31 ad s.heap.size) := ⟨_, rfl⟩
  rw [← hQQ]
  refine lv_iconst (v := 0) hx hb dX10_isTold_0 (by decide) ?_
  refine lv_istore_n (lv' := [(3, .int 0), (0, .ref (ad 0)), (1, .int a1), (2, .int a2)]) hx hb dX10_isTold_1 rfl hl (by decide) rfl (fun ls hl => ?_)
  refine lv_iconst (v := 0) hx hb dX10_isTold_2 (by decide) ?_
  refine lv_istore (lv' := [(4, .int 0), (3, .int 0), (0, .ref (ad 0)), (1, .int a1), (2, .int a2)]) hx hb dX10_isTold_3 hl (by decide) rfl (fun ls hl => ?_)
  obtain ⟨x2, hx2, hE⟩ := st_bo hE
  refine lp_walk (body := fun (s1 : Int32 × Int32) => b_X10_isTold_5 S0 a1 a2 s1.1 s1.2) (fun s1 => ∀ (ls : Array Slot) (H : Heap) (locs : List Loc), lv_has ls 5 [(0, .ref (ad 0)), (1, .int a1), (2, .int a2), (3, .int s1.1), (4, .int s1.2)] → rP D ad cI cB S0 H → rS ad s H locs → W p l e rmX10_isTold s m args below meth c H locs 0 0 QQ (F0 m 5 ls [])) (fun x2 => ∀ (ls : Array Slot) (H : Heap) (locs : List Loc), lv_has ls 5 [(3, .int x2)] → rP D ad cI cB S0 H → rS ad s H locs → W p l e rmX10_isTold s m args below meth c H locs 0 0 QQ (F0 m 47 ls [])) ?_ _ _ _ hx2 ?_ ls H locs (lv_sub hl [2, 3, 4, 1, 0] rfl) hP hS
  · intro s1 t3 hE hKt3 ls H locs hl hP hS
    obtain ⟨c4, c5⟩ := s1
    replace hE : b_X10_isTold_5 S0 a1 a2 c4 c5 = some t3 := hE
    replace hl : lv_has ls 5 [(0, .ref (ad 0)), (1, .int a1), (2, .int a2), (3, .int c4), (4, .int c5)] := hl
    replace hP : rP D ad cI cB S0 H := hP
    unfold b_X10_isTold_5 at hE
    refine lv_iload hx hb dX10_isTold_5 (lv_at hl 4 rfl) ?_
    refine lv_aload_n hx hb dX10_isTold_7 rfl (lv_at hl 0 rfl) ?_
    refine r_get (v := .ref (ad 15)) hx hb hts (fun w h => wz_m (inX10 w h)) hown hK hP (q_Ref (ad := ad) (cI := cI) (cB := cB)) rfl 24 (by decide) (hts _ (wz_m tw_3_180)) (fun _ h9 => h9) rfl dX10_isTold_8 ?_
    refine lv_iload_n hx hb dX10_isTold_11 rfl (lv_at hl 1 rfl) ?_
    obtain ⟨hi6, hE⟩ := st_gd hE
    refine r_iald hx hb hK hP qr_15 hi6 dX10_isTold_12 ?_
    refine lv_icmp_ge (tgt := 47) hx hb dX10_isTold_13 (by decide) (fun hc7 => ?_) (fun hc7 => ?_)
    · have hE := st_t hE hc7
      have hq := Option.some.inj hE
      subst hq
      exact hKt3 ls H locs (lv_sub hl [3] rfl) hP hS
    · have hE := st_f hE hc7
      refine lv_iload_n hx hb dX10_isTold_16 rfl (lv_at hl 3 rfl) ?_
      refine lv_if_ne (tgt := 35) hx hb dX10_isTold_17 (by decide) (fun hc8 => ?_) (fun hc8 => ?_)
      · have hE := st_f hE hc8
        refine lv_iconst (v := 1) hx hb dX10_isTold_35 (by decide) ?_
        refine lv_goto (tgt := 40) hx hb dX10_isTold_36 (by decide) ?_
        refine lv_istore_n (lv' := [(3, .int 1), (0, .ref (ad 0)), (1, .int a1), (2, .int a2), (4, .int c5)]) hx hb dX10_isTold_40 rfl hl (by decide) rfl (fun ls hl => ?_)
        obtain ⟨v9, ev9, hE⟩ := st_bv hE
        refine lv_iinc (v := v9) (lv' := [(4, .int v9), (3, .int 1), (0, .ref (ad 0)), (1, .int a1), (2, .int a2)]) hx hb dX10_isTold_41 hl (k := 4) rfl (by rw [ev9]; rfl) (by decide) rfl (fun ls hl => ?_)
        refine lv_goto (tgt := 5) hx hb dX10_isTold_44 (by decide) ?_
        have hq := Option.some.inj hE
        subst hq
        exact hKt3 ls H locs (lv_sub hl [2, 3, 4, 1, 0] rfl) hP hS
      · have hE := st_t hE hc8
        refine lv_aload_n hx hb dX10_isTold_20 rfl (lv_at hl 0 rfl) ?_
        refine r_get (v := .ref (ad 14)) hx hb hts (fun w h => wz_m (inX10 w h)) hown hK hP (q_Ref (ad := ad) (cI := cI) (cB := cB)) rfl 23 (by decide) (hts _ (wz_m tw_3_179)) (fun _ h9 => h9) rfl dX10_isTold_21 ?_
        refine lv_iconst (v := 3) hx hb dX10_isTold_24 (by decide) ?_
        refine lv_iload_n hx hb dX10_isTold_25 rfl (lv_at hl 1 rfl) ?_
        refine lv_imul hx hb dX10_isTold_26 ?_
        refine lv_iload hx hb dX10_isTold_27 (lv_at hl 4 rfl) ?_
        refine lv_iadd hx hb dX10_isTold_29 ?_
        obtain ⟨hi10, hE⟩ := st_gd hE
        refine r_iald hx hb hK hP qr_14 hi10 dX10_isTold_30 ?_
        refine lv_iload_n hx hb dX10_isTold_31 rfl (lv_at hl 2 rfl) ?_
        refine lv_icmp_ne (tgt := 39) hx hb dX10_isTold_32 (by decide) (fun hc11 => ?_) (fun hc11 => ?_)
        · have hE := st_f hE hc11
          refine lv_iconst (v := 0) hx hb dX10_isTold_39 (by decide) ?_
          refine lv_istore_n (lv' := [(3, .int 0), (0, .ref (ad 0)), (1, .int a1), (2, .int a2), (4, .int c5)]) hx hb dX10_isTold_40 rfl hl (by decide) rfl (fun ls hl => ?_)
          obtain ⟨v12, ev12, hE⟩ := st_bv hE
          refine lv_iinc (v := v12) (lv' := [(4, .int v12), (3, .int 0), (0, .ref (ad 0)), (1, .int a1), (2, .int a2)]) hx hb dX10_isTold_41 hl (k := 4) rfl (by rw [ev12]; rfl) (by decide) rfl (fun ls hl => ?_)
          refine lv_goto (tgt := 5) hx hb dX10_isTold_44 (by decide) ?_
          have hq := Option.some.inj hE
          subst hq
          exact hKt3 ls H locs (lv_sub hl [2, 3, 4, 1, 0] rfl) hP hS
        · have hE := st_t hE hc11
          refine lv_iconst (v := 1) hx hb dX10_isTold_35 (by decide) ?_
          refine lv_goto (tgt := 40) hx hb dX10_isTold_36 (by decide) ?_
          refine lv_istore_n (lv' := [(3, .int 1), (0, .ref (ad 0)), (1, .int a1), (2, .int a2), (4, .int c5)]) hx hb dX10_isTold_40 rfl hl (by decide) rfl (fun ls hl => ?_)
          obtain ⟨v13, ev13, hE⟩ := st_bv hE
          refine lv_iinc (v := v13) (lv' := [(4, .int v13), (3, .int 1), (0, .ref (ad 0)), (1, .int a1), (2, .int a2)]) hx hb dX10_isTold_41 hl (k := 4) rfl (by rw [ev13]; rfl) (by decide) rfl (fun ls hl => ?_)
          refine lv_goto (tgt := 5) hx hb dX10_isTold_44 (by decide) ?_
          have hq := Option.some.inj hE
          subst hq
          exact hKt3 ls H locs (lv_sub hl [2, 3, 4, 1, 0] rfl) hP hS
  · intro ls H locs hl hP hS
    refine lv_iload_n hx hb dX10_isTold_47 rfl (lv_at hl 0 rfl) ?_
    replace hE := Option.some.inj hE
    subst hQQ
    exact g_zret hx hb hr hlocks hP hS hE rfl dX10_isTold_48

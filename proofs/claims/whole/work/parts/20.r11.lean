def b_X10_having_26 (S0 : SR) (a1 : Int32) (a2 : Int32) (c7 : Int32) (c8 : Int32) : Option ((Int32 × Int32) ⊕ (Int32)) :=
  if (ri S0 0 1) ≤ c8 then (some (.inr c7)) else (bo (f_X10_has S0 c8 ((4 * a1) + a2)) (fun (r10 : Int32) => if r10 = 0 then (bv (c7 + 0) (fun (v12 : Int32) => bv (c8 + 1) (fun (v13 : Int32) => some (.inl (v12, v13))))) else (bv (c7 + 1) (fun (v14 : Int32) => bv (c8 + 1) (fun (v15 : Int32) => some (.inl (v14, v15)))))))
def f_X10_having (S0 : SR) (a1 : Int32) (a2 : Int32) : Option (Int32) :=
  bo (f_X10_isSight a1 a2) (fun (r1 : Int32) => if r1 = 0 then (some (-102)) else (if (ri S0 0 0) = 0 then (some (-103)) else (bo (lp (fun (s4 : Int32 × Int32) => b_X10_having_26 S0 a1 a2 s4.1 s4.2) 5000 (0, 0)) (fun (x5 : Int32) => some x5))))
abbrev rmX10_having : Room := { frames := 2, cells := 0, slots := 0, locals := 43 }
theorem hdV_X10_having : yX10_having.cls = "WitnessWallModel" ∧ yX10_having.cls ≠ "java/lang/invoke/MethodHandle" ∧ yX10_having.cls ≠ "java/lang/invoke/VarHandle" ∧ (parseMethodDescriptor yX10_having.desc).map (fun d => d.parameters.length) = some 2 := by decide +kernel
set_option maxHeartbeats 4000000 in
set_option maxRecDepth 100000 in
theorem k_X10_having {l : Launch} {D : va_G} {ad : Nat → Nat} {cI cB : ClassId} (hij : inj 31 ad)  {S0 : SR} {a1 : Int32} {a2 : Int32} {r : Int32} (hE : f_X10_having S0 a1 a2 = some r) {sz : Nat} : Met l yX10_having (wz yX10_having cX10_having 5 (some FieldType.int)) rmX10_having (PG 31 ad (er ad cI cB) D (KR D cI cB) ZR [.ref (ad 0), .int a1, .int a2] S0 sz) (QGi 31 ad (er ad cI cB) D r S0 sz) 0 0 (AD 31 ad sz) := by
  unfold f_X10_having at hE
  refine g_start (cc := cX10_having) (maxL := 5) (ret := (some FieldType.int)) (Qc := fun sz => QGi 31 ad (er ad cI cB) D r S0 sz) (by decide) rfl (Nat.le_of_ble_eq_true rfl) ?_
  intro p e s m args below meth c H locs ls hx hb hr hts hown hlocks hml hK hZ hP hS hl
  replace hl : lv_has ls 5 [(0, .ref (ad 0)), (1, .int a1), (2, .int a2)] := hl
  obtain ⟨QQ, hQQ⟩ : ∃ q, q = MQ below (QGi 31 ad (er ad cI cB) D r S0 s.heap.size) args s 0 0 (AD 31 ad s.heap.size) := ⟨_, rfl⟩
  rw [← hQQ]
  refine lv_iload_n hx hb dX10_having_0 rfl (lv_at hl 1 rfl) ?_
  refine lv_iload_n hx hb dX10_having_1 rfl (lv_at hl 2 rfl) ?_
  obtain ⟨r1, hCr1, hE⟩ := st_bo hE
  refine g_calli (va_runS (As := [.int a1, .int a2]) (rest := []) ⟨hx, hb, hml, hown, hts⟩ (k_X10_isSight hij (S0 := S0) hCr1) (va_cwS 2 hts (wz_S tw_4_190 tw_4_191 tw_1_11 tw_4_192) rfl rfl rfl hdS_X10_isSight ⟨Nat.le_of_ble_eq_true rfl, Nat.le_of_ble_eq_true rfl⟩) (g_preS KR_st ZR_st hK hZ hP hS) rfl rfl hl.1 rfl (lv_room (Nat.le_of_ble_eq_true rfl)) dX10_having_2 ⟨Nat.zero_le _, Nat.zero_le _⟩) hS (fun H locs hP hS => ?_)
  refine lv_if_ne (tgt := 11) hx hb dX10_having_5 (by decide) (fun hc2 => ?_) (fun hc2 => ?_)
  · have hE := st_f hE hc2
    refine lv_aload_n hx hb dX10_having_11 rfl (lv_at hl 0 rfl) ?_
    refine r_get (v := .int (ri S0 0 0)) hx hb hts (fun w h => wz_m (inX10 w h)) hown hK hP (q_Ref (ad := ad) (cI := cI) (cB := cB)) rfl 0 (by decide) (hts _ (wz_m tw_3_156)) (fun _ h9 => h9) rfl dX10_having_12 ?_
    refine lv_if_ne (tgt := 21) hx hb dX10_having_15 (by decide) (fun hc3 => ?_) (fun hc3 => ?_)
    · have hE := st_f hE hc3
      refine lv_iconst (v := 0) hx hb dX10_having_21 (by decide) ?_
      refine lv_istore_n (lv' := [(3, .int 0), (0, .ref (ad 0)), (1, .int a1), (2, .int a2)]) hx hb dX10_having_22 rfl hl (by decide) rfl (fun ls hl => ?_)
      refine lv_iconst (v := 0) hx hb dX10_having_23 (by decide) ?_
      refine lv_istore (lv' := [(4, .int 0), (3, .int 0), (0, .ref (ad 0)), (1, .int a1), (2, .int a2)]) hx hb dX10_having_24 hl (by decide) rfl (fun ls hl => ?_)
      obtain ⟨x5, hx5, hE⟩ := st_bo hE
      refine lp_walk (body := fun (s4 : Int32 × Int32) => b_X10_having_26 S0 a1 a2 s4.1 s4.2) (fun s4 => ∀ (ls : Array Slot) (H : Heap) (locs : List Loc), lv_has ls 5 [(0, .ref (ad 0)), (1, .int a1), (2, .int a2), (3, .int s4.1), (4, .int s4.2)] → rP D ad cI cB S0 H → rS ad s H locs → W p l e rmX10_having s m args below meth c H locs 0 0 QQ (F0 m 26 ls [])) (fun x5 => ∀ (ls : Array Slot) (H : Heap) (locs : List Loc), lv_has ls 5 [(3, .int x5)] → rP D ad cI cB S0 H → rS ad s H locs → W p l e rmX10_having s m args below meth c H locs 0 0 QQ (F0 m 63 ls [])) ?_ _ _ _ hx5 ?_ ls H locs (lv_sub hl [2, 3, 4, 1, 0] rfl) hP hS
      · intro s4 t6 hE hKt6 ls H locs hl hP hS
        obtain ⟨c7, c8⟩ := s4
        replace hE : b_X10_having_26 S0 a1 a2 c7 c8 = some t6 := hE
        replace hl : lv_has ls 5 [(0, .ref (ad 0)), (1, .int a1), (2, .int a2), (3, .int c7), (4, .int c8)] := hl
        replace hP : rP D ad cI cB S0 H := hP
        unfold b_X10_having_26 at hE
        refine lv_iload hx hb dX10_having_26 (lv_at hl 4 rfl) ?_
        refine lv_aload_n hx hb dX10_having_28 rfl (lv_at hl 0 rfl) ?_
        refine r_get (v := .int (ri S0 0 1)) hx hb hts (fun w h => wz_m (inX10 w h)) hown hK hP (q_Ref (ad := ad) (cI := cI) (cB := cB)) rfl 1 (by decide) (hts _ (wz_m tw_3_157)) (fun _ h9 => h9) rfl dX10_having_29 ?_
        refine lv_icmp_ge (tgt := 63) hx hb dX10_having_32 (by decide) (fun hc9 => ?_) (fun hc9 => ?_)
        · have hE := st_t hE hc9
          have hq := Option.some.inj hE
          subst hq
          exact hKt6 ls H locs (lv_sub hl [3] rfl) hP hS
        · have hE := st_f hE hc9
          refine lv_iload_n hx hb dX10_having_35 rfl (lv_at hl 3 rfl) ?_
          refine lv_aload_n hx hb dX10_having_36 rfl (lv_at hl 0 rfl) ?_
          refine lv_iload hx hb dX10_having_37 (lv_at hl 4 rfl) ?_
          refine lv_iconst (v := 4) hx hb dX10_having_39 (by decide) ?_
          refine lv_iload_n hx hb dX10_having_40 rfl (lv_at hl 1 rfl) ?_
          refine lv_imul hx hb dX10_having_41 ?_
          refine lv_iload_n hx hb dX10_having_42 rfl (lv_at hl 2 rfl) ?_
          refine lv_iadd hx hb dX10_having_43 ?_
          obtain ⟨r10, hCr10, hE⟩ := st_bo hE
          refine g_calli (va_runV (As := [.int c8, .int ((4 * a1) + a2)]) (rest := [.int c7]) ⟨hx, hb, hml, hown, hts⟩ (k_X10_has hij hCr10) (cwV 2 hts (wz_V tw_4_193 tw_4_195 tp_21 tw_1_11 tw_4_196) rfl rfl rfl hdV_X10_has ⟨Nat.le_of_ble_eq_true rfl, Nat.le_of_ble_eq_true rfl⟩) (g_preV KR_st ZR_st hK hZ hP hS hK.1 ((q_Ref (ad := ad) (cI := cI) (cB := cB))).1 (er_o (q_Ref (ad := ad) (cI := cI) (cB := cB))) rfl) rfl rfl hl.1 rfl (lv_room (Nat.le_of_ble_eq_true rfl)) dX10_having_44 ⟨Nat.zero_le _, Nat.zero_le _⟩) hS (fun H locs hP hS => ?_)
          refine lv_if_eq (tgt := 54) hx hb dX10_having_47 (by decide) (fun hc11 => ?_) (fun hc11 => ?_)
          · have hE := st_t hE hc11
            refine lv_iconst (v := 0) hx hb dX10_having_54 (by decide) ?_
            refine lv_iadd hx hb dX10_having_55 ?_
            obtain ⟨v12, ev12, hE⟩ := st_bv hE
            refine nm_i ev12 ?_
            refine lv_istore_n (lv' := [(3, .int v12), (0, .ref (ad 0)), (1, .int a1), (2, .int a2), (4, .int c8)]) hx hb dX10_having_56 rfl hl (by decide) rfl (fun ls hl => ?_)
            obtain ⟨v13, ev13, hE⟩ := st_bv hE
            refine lv_iinc (v := v13) (lv' := [(4, .int v13), (3, .int v12), (0, .ref (ad 0)), (1, .int a1), (2, .int a2)]) hx hb dX10_having_57 hl (k := 4) rfl (by rw [ev13]; rfl) (by decide) rfl (fun ls hl => ?_)
            refine lv_goto (tgt := 26) hx hb dX10_having_60 (by decide) ?_
            have hq := Option.some.inj hE
            subst hq
            exact hKt6 ls H locs (lv_sub hl [2, 3, 4, 1, 0] rfl) hP hS
          · have hE := st_f hE hc11
            refine lv_iconst (v := 1) hx hb dX10_having_50 (by decide) ?_
            refine lv_goto (tgt := 55) hx hb dX10_having_51 (by decide) ?_
            refine lv_iadd hx hb dX10_having_55 ?_
            obtain ⟨v14, ev14, hE⟩ := st_bv hE
            refine nm_i ev14 ?_
            refine lv_istore_n (lv' := [(3, .int v14), (0, .ref (ad 0)), (1, .int a1), (2, .int a2), (4, .int c8)]) hx hb dX10_having_56 rfl hl (by decide) rfl (fun ls hl => ?_)
            obtain ⟨v15, ev15, hE⟩ := st_bv hE
            refine lv_iinc (v := v15) (lv' := [(4, .int v15), (3, .int v14), (0, .ref (ad 0)), (1, .int a1), (2, .int a2)]) hx hb dX10_having_57 hl (k := 4) rfl (by rw [ev15]; rfl) (by decide) rfl (fun ls hl => ?_)
            refine lv_goto (tgt := 26) hx hb dX10_having_60 (by decide) ?_
            have hq := Option.some.inj hE
            subst hq
            exact hKt6 ls H locs (lv_sub hl [2, 3, 4, 1, 0] rfl) hP hS
      · intro ls H locs hl hP hS
        refine lv_iload_n hx hb dX10_having_63 rfl (lv_at hl 0 rfl) ?_
        replace hE := Option.some.inj hE
        subst hQQ
        exact g_iret hx hb hr hlocks hP hS hE rfl dX10_having_64
    · have hE := st_t hE hc3
      refine lv_bipush (v := (-103)) hx hb dX10_having_18 (by decide) ?_
      replace hE := Option.some.inj hE
      subst hQQ
      exact g_iret hx hb hr hlocks hP hS hE rfl dX10_having_20
  · have hE := st_t hE hc2
    refine lv_bipush (v := (-102)) hx hb dX10_having_8 (by decide) ?_
    replace hE := Option.some.inj hE
    subst hQQ
    exact g_iret hx hb hr hlocks hP hS hE rfl dX10_having_10
def b_X10_image_49 (c10 : Int32) (c11 : SR) : Option ((Int32 × SR) ⊕ (SR)) :=
  if 5 ≤ c10 then (some (.inr c11)) else (gd (inb c10 5) (gd (inb c10 5) (bv (ui c11 22 (c10.toNatClampNeg) (ri c11 1 (c10.toNatClampNeg))) (fun S15 => gd (inb c10 5) (gd (inb c10 5) (bv (ui S15 24 (c10.toNatClampNeg) (ri S15 3 (c10.toNatClampNeg))) (fun S18 => bv (c10 + 1) (fun (v19 : Int32) => some (.inl (v19, S18))))))))))
def b_X10_image_86 (c23 : Int32) (c24 : SR) : Option ((Int32 × SR) ⊕ (SR)) :=
  if 20 ≤ c23 then (some (.inr c24)) else (gd (inb c23 20) (gd (inb c23 20) (bv (ui c24 23 (c23.toNatClampNeg) (ri c24 2 (c23.toNatClampNeg))) (fun S28 => bv (c23 + 1) (fun (v29 : Int32) => some (.inl (v29, S28)))))))
def b_X10_image_112 (c33 : Int32) (c34 : SR) : Option ((Int32 × SR) ⊕ (SR)) :=
  if 6 ≤ c33 then (some (.inr c34)) else (gd (inb c33 6) (gd (inb c33 6) (bv (ui c34 25 (c33.toNatClampNeg) (ri c34 6 (c33.toNatClampNeg))) (fun S38 => gd (inb c33 6) (gd (inb c33 6) (bv (ui S38 26 (c33.toNatClampNeg) (ri S38 7 (c33.toNatClampNeg))) (fun S41 => gd (inb c33 6) (gd (inb c33 6) (bv (ui S41 27 (c33.toNatClampNeg) (ri S41 8 (c33.toNatClampNeg))) (fun S44 => gd (inb c33 6) (gd (inb c33 6) (bv (ui S44 28 (c33.toNatClampNeg) (ri S44 9 (c33.toNatClampNeg))) (fun S47 => gd (inb c33 6) (gd (inb c33 6) (bv (ui S47 29 (c33.toNatClampNeg) (ri S47 10 (c33.toNatClampNeg))) (fun S50 => gd (inb c33 6) (gd (inb c33 6) (bv (ui S50 30 (c33.toNatClampNeg) (ri S50 11 (c33.toNatClampNeg))) (fun S53 => bv (c33 + 1) (fun (v54 : Int32) => some (.inl (v54, S53))))))))))))))))))))))
def f_X10_image (S0 : SR) : Option (Int32 × SR) :=
  if (ri S0 0 0) = 0 then (some ((-103), S0)) else (bv (ui S0 0 33 1) (fun S2 => bv (ui S2 0 34 (ri S2 0 0)) (fun S3 => bv (ui S3 0 35 (ri S3 0 8)) (fun S4 => bv (ui S4 0 36 (ri S4 0 12)) (fun S5 => bv (ui S5 0 37 (ri S5 0 13)) (fun S6 => bo (lp (fun (s7 : Int32 × SR) => b_X10_image_49 s7.1 s7.2) 5000 (0, S6)) (fun (x8 : SR) => bo (lp (fun (s20 : Int32 × SR) => b_X10_image_86 s20.1 s20.2) 5000 (0, x8)) (fun (x21 : SR) => bo (lp (fun (s30 : Int32 × SR) => b_X10_image_112 s30.1 s30.2) 5000 (0, x21)) (fun (x31 : SR) => some (ri x31 0 12, x31))))))))))
abbrev rmX10_image : Room := { frames := 0, cells := 0, slots := 0, locals := 0 }
theorem hdV_X10_image : yX10_image.cls = "WitnessWallModel" ∧ yX10_image.cls ≠ "java/lang/invoke/MethodHandle" ∧ yX10_image.cls ≠ "java/lang/invoke/VarHandle" ∧ (parseMethodDescriptor yX10_image.desc).map (fun d => d.parameters.length) = some 0 := by decide +kernel
set_option maxHeartbeats 4000000 in
set_option maxRecDepth 100000 in
theorem k_X10_image {l : Launch} {D : va_G} {ad : Nat → Nat} {cI cB : ClassId} (hij : inj 31 ad)  {S0 : SR} {r : Int32} {Sr : SR} (hE : f_X10_image S0 = some (r, Sr)) {sz : Nat} : Met l yX10_image (wz yX10_image cX10_image 2 (some FieldType.int)) rmX10_image (PG 31 ad (er ad cI cB) D (KR D cI cB) ZR [.ref (ad 0)] S0 sz) (QGi 31 ad (er ad cI cB) D r Sr sz) 0 0 (AD 31 ad sz) := by
  unfold f_X10_image at hE
  refine g_start (cc := cX10_image) (maxL := 2) (ret := (some FieldType.int)) (Qc := fun sz => QGi 31 ad (er ad cI cB) D r Sr sz) (by decide) rfl (Nat.le_of_ble_eq_true rfl) ?_
  intro p e s m args below meth c H locs ls hx hb hr hts hown hlocks hml hK hZ hP hS hl
  replace hl : lv_has ls 2 [(0, .ref (ad 0))] := hl
  obtain ⟨QQ, hQQ⟩ : ∃ q, q = MQ below (QGi 31 ad (er ad cI cB) D r Sr s.heap.size) args s 0 0 (AD 31 ad s.heap.size) := ⟨_, rfl⟩
  rw [← hQQ]
  refine lv_aload_n hx hb dX10_image_0 rfl (lv_at hl 0 rfl) ?_
  refine r_get (v := .int (ri S0 0 0)) hx hb hts (fun w h => wz_m (inX10 w h)) hown hK hP (q_Ref (ad := ad) (cI := cI) (cB := cB)) rfl 0 (by decide) (hts _ (wz_m tw_3_156)) (fun _ h9 => h9) rfl dX10_image_1 ?_
  refine lv_if_ne (tgt := 10) hx hb dX10_image_4 (by decide) (fun hc1 => ?_) (fun hc1 => ?_)
  · have hE := st_f hE hc1
    refine lv_aload_n hx hb dX10_image_10 rfl (lv_at hl 0 rfl) ?_
    refine lv_iconst (v := 1) hx hb dX10_image_11 (by decide) ?_
    refine r_put hij hx hb hts (fun w h => wz_m (inX10 w h)) tyX10 tyX10_ok nmX10 hown hK hP hS (q_Ref (ad := ad) (cI := cI) (cB := cB)) rfl 33 (by decide) (hts _ (wz_m tw_3_189)) (fun _ h9 => h9) rfl rfl rfl (fun _ _ => Nat.le_of_ble_eq_true rfl) (fun _ _ => rfl) dX10_image_12 (fun H locs hP hS => ?_)
    obtain ⟨S2, eS2, hE⟩ := st_bv hE
    rw [← eS2] at hP
    refine lv_aload_n hx hb dX10_image_15 rfl (lv_at hl 0 rfl) ?_
    refine lv_aload_n hx hb dX10_image_16 rfl (lv_at hl 0 rfl) ?_
    refine r_get (v := .int (ri S2 0 0)) hx hb hts (fun w h => wz_m (inX10 w h)) hown hK hP (q_Ref (ad := ad) (cI := cI) (cB := cB)) rfl 0 (by decide) (hts _ (wz_m tw_3_156)) (fun _ h9 => h9) rfl dX10_image_17 ?_
    refine r_put hij hx hb hts (fun w h => wz_m (inX10 w h)) tyX10 tyX10_ok nmX10 hown hK hP hS (q_Ref (ad := ad) (cI := cI) (cB := cB)) rfl 34 (by decide) (hts _ (wz_m tw_3_190)) (fun _ h9 => h9) rfl rfl rfl (fun _ _ => Nat.le_of_ble_eq_true rfl) (fun _ _ => rfl) dX10_image_20 (fun H locs hP hS => ?_)
    obtain ⟨S3, eS3, hE⟩ := st_bv hE
    rw [← eS3] at hP
    refine lv_aload_n hx hb dX10_image_23 rfl (lv_at hl 0 rfl) ?_
    refine lv_aload_n hx hb dX10_image_24 rfl (lv_at hl 0 rfl) ?_
    refine r_get (v := .int (ri S3 0 8)) hx hb hts (fun w h => wz_m (inX10 w h)) hown hK hP (q_Ref (ad := ad) (cI := cI) (cB := cB)) rfl 8 (by decide) (hts _ (wz_m tw_3_164)) (fun _ h9 => h9) rfl dX10_image_25 ?_
    refine r_put hij hx hb hts (fun w h => wz_m (inX10 w h)) tyX10 tyX10_ok nmX10 hown hK hP hS (q_Ref (ad := ad) (cI := cI) (cB := cB)) rfl 35 (by decide) (hts _ (wz_m tw_3_191)) (fun _ h9 => h9) rfl rfl rfl (fun _ _ => Nat.le_of_ble_eq_true rfl) (fun _ _ => rfl) dX10_image_28 (fun H locs hP hS => ?_)
    obtain ⟨S4, eS4, hE⟩ := st_bv hE
    rw [← eS4] at hP
    refine lv_aload_n hx hb dX10_image_31 rfl (lv_at hl 0 rfl) ?_
    refine lv_aload_n hx hb dX10_image_32 rfl (lv_at hl 0 rfl) ?_
    refine r_get (v := .int (ri S4 0 12)) hx hb hts (fun w h => wz_m (inX10 w h)) hown hK hP (q_Ref (ad := ad) (cI := cI) (cB := cB)) rfl 12 (by decide) (hts _ (wz_m tw_3_168)) (fun _ h9 => h9) rfl dX10_image_33 ?_
    refine r_put hij hx hb hts (fun w h => wz_m (inX10 w h)) tyX10 tyX10_ok nmX10 hown hK hP hS (q_Ref (ad := ad) (cI := cI) (cB := cB)) rfl 36 (by decide) (hts _ (wz_m tw_3_192)) (fun _ h9 => h9) rfl rfl rfl (fun _ _ => Nat.le_of_ble_eq_true rfl) (fun _ _ => rfl) dX10_image_36 (fun H locs hP hS => ?_)
    obtain ⟨S5, eS5, hE⟩ := st_bv hE
    rw [← eS5] at hP
    refine lv_aload_n hx hb dX10_image_39 rfl (lv_at hl 0 rfl) ?_
    refine lv_aload_n hx hb dX10_image_40 rfl (lv_at hl 0 rfl) ?_
    refine r_get (v := .int (ri S5 0 13)) hx hb hts (fun w h => wz_m (inX10 w h)) hown hK hP (q_Ref (ad := ad) (cI := cI) (cB := cB)) rfl 13 (by decide) (hts _ (wz_m tw_3_169)) (fun _ h9 => h9) rfl dX10_image_41 ?_
    refine r_put hij hx hb hts (fun w h => wz_m (inX10 w h)) tyX10 tyX10_ok nmX10 hown hK hP hS (q_Ref (ad := ad) (cI := cI) (cB := cB)) rfl 37 (by decide) (hts _ (wz_m tw_3_193)) (fun _ h9 => h9) rfl rfl rfl (fun _ _ => Nat.le_of_ble_eq_true rfl) (fun _ _ => rfl) dX10_image_44 (fun H locs hP hS => ?_)
    obtain ⟨S6, eS6, hE⟩ := st_bv hE
    rw [← eS6] at hP
    refine lv_iconst (v := 0) hx hb dX10_image_47 (by decide) ?_
    refine lv_istore_n (lv' := [(1, .int 0), (0, .ref (ad 0))]) hx hb dX10_image_48 rfl hl (by decide) rfl (fun ls hl => ?_)
    obtain ⟨x8, hx8, hE⟩ := st_bo hE
    refine lp_walk (body := fun (s7 : Int32 × SR) => b_X10_image_49 s7.1 s7.2) (fun s7 => ∀ (ls : Array Slot) (H : Heap) (locs : List Loc), lv_has ls 2 [(0, .ref (ad 0)), (1, .int s7.1)] → rP D ad cI cB s7.2 H → rS ad s H locs → W p l e rmX10_image s m args below meth c H locs 0 0 QQ (F0 m 49 ls [])) (fun x8 => ∀ (ls : Array Slot) (H : Heap) (locs : List Loc), lv_has ls 2 [(0, .ref (ad 0))] → rP D ad cI cB x8 H → rS ad s H locs → W p l e rmX10_image s m args below meth c H locs 0 0 QQ (F0 m 84 ls [])) ?_ _ _ _ hx8 ?_ ls H locs (lv_sub hl [1, 0] rfl) hP hS
    · intro s7 t9 hE hKt9 ls H locs hl hP hS
      obtain ⟨c10, c11⟩ := s7
      replace hE : b_X10_image_49 c10 c11 = some t9 := hE
      replace hl : lv_has ls 2 [(0, .ref (ad 0)), (1, .int c10)] := hl
      replace hP : rP D ad cI cB c11 H := hP
      unfold b_X10_image_49 at hE
      refine lv_iload_n hx hb dX10_image_49 rfl (lv_at hl 1 rfl) ?_
      refine lv_iconst (v := 5) hx hb dX10_image_50 (by decide) ?_
      refine lv_icmp_ge (tgt := 84) hx hb dX10_image_51 (by decide) (fun hc12 => ?_) (fun hc12 => ?_)
      · have hE := st_t hE hc12
        have hq := Option.some.inj hE
        subst hq
        exact hKt9 ls H locs (lv_sub hl [0] rfl) hP hS
      · have hE := st_f hE hc12
        refine lv_aload_n hx hb dX10_image_54 rfl (lv_at hl 0 rfl) ?_
        refine r_get (v := .ref (ad 22)) hx hb hts (fun w h => wz_m (inX10 w h)) hown hK hP (q_Ref (ad := ad) (cI := cI) (cB := cB)) rfl 38 (by decide) (hts _ (wz_m tw_3_194)) (fun _ h9 => h9) rfl dX10_image_55 ?_
        refine lv_iload_n hx hb dX10_image_58 rfl (lv_at hl 1 rfl) ?_
        refine lv_aload_n hx hb dX10_image_59 rfl (lv_at hl 0 rfl) ?_
        refine r_get (v := .ref (ad 1)) hx hb hts (fun w h => wz_m (inX10 w h)) hown hK hP (q_Ref (ad := ad) (cI := cI) (cB := cB)) rfl 2 (by decide) (hts _ (wz_m tw_3_158)) (fun _ h9 => h9) rfl dX10_image_60 ?_
        refine lv_iload_n hx hb dX10_image_63 rfl (lv_at hl 1 rfl) ?_
        obtain ⟨hi13, hE⟩ := st_gd hE
        refine r_iald hx hb hK hP qr_1 hi13 dX10_image_64 ?_
        obtain ⟨hi14, hE⟩ := st_gd hE
        refine r_iast hij hx hb hK hP hS qr_22 hi14 dX10_image_65 (fun H locs hP hS => ?_)
        obtain ⟨S15, eS15, hE⟩ := st_bv hE
        rw [← eS15] at hP
        refine lv_aload_n hx hb dX10_image_66 rfl (lv_at hl 0 rfl) ?_
        refine r_get (v := .ref (ad 24)) hx hb hts (fun w h => wz_m (inX10 w h)) hown hK hP (q_Ref (ad := ad) (cI := cI) (cB := cB)) rfl 40 (by decide) (hts _ (wz_m tw_3_196)) (fun _ h9 => h9) rfl dX10_image_67 ?_
        refine lv_iload_n hx hb dX10_image_70 rfl (lv_at hl 1 rfl) ?_
        refine lv_aload_n hx hb dX10_image_71 rfl (lv_at hl 0 rfl) ?_
        refine r_get (v := .ref (ad 3)) hx hb hts (fun w h => wz_m (inX10 w h)) hown hK hP (q_Ref (ad := ad) (cI := cI) (cB := cB)) rfl 4 (by decide) (hts _ (wz_m tw_3_160)) (fun _ h9 => h9) rfl dX10_image_72 ?_
        refine lv_iload_n hx hb dX10_image_75 rfl (lv_at hl 1 rfl) ?_
        obtain ⟨hi16, hE⟩ := st_gd hE
        refine r_iald hx hb hK hP qr_3 hi16 dX10_image_76 ?_
        obtain ⟨hi17, hE⟩ := st_gd hE
        refine r_iast hij hx hb hK hP hS qr_24 hi17 dX10_image_77 (fun H locs hP hS => ?_)
        obtain ⟨S18, eS18, hE⟩ := st_bv hE
        rw [← eS18] at hP
        obtain ⟨v19, ev19, hE⟩ := st_bv hE
        refine lv_iinc (v := v19) (lv' := [(1, .int v19), (0, .ref (ad 0))]) hx hb dX10_image_78 hl (k := 1) rfl (by rw [ev19]; rfl) (by decide) rfl (fun ls hl => ?_)
        refine lv_goto (tgt := 49) hx hb dX10_image_81 (by decide) ?_
        have hq := Option.some.inj hE
        subst hq
        exact hKt9 ls H locs (lv_sub hl [1, 0] rfl) hP hS
    · intro ls H locs hl hP hS
      refine lv_iconst (v := 0) hx hb dX10_image_84 (by decide) ?_
      refine lv_istore_n (lv' := [(1, .int 0), (0, .ref (ad 0))]) hx hb dX10_image_85 rfl hl (by decide) rfl (fun ls hl => ?_)
      obtain ⟨x21, hx21, hE⟩ := st_bo hE
      refine lp_walk (body := fun (s20 : Int32 × SR) => b_X10_image_86 s20.1 s20.2) (fun s20 => ∀ (ls : Array Slot) (H : Heap) (locs : List Loc), lv_has ls 2 [(0, .ref (ad 0)), (1, .int s20.1)] → rP D ad cI cB s20.2 H → rS ad s H locs → W p l e rmX10_image s m args below meth c H locs 0 0 QQ (F0 m 86 ls [])) (fun x21 => ∀ (ls : Array Slot) (H : Heap) (locs : List Loc), lv_has ls 2 [(0, .ref (ad 0))] → rP D ad cI cB x21 H → rS ad s H locs → W p l e rmX10_image s m args below meth c H locs 0 0 QQ (F0 m 110 ls [])) ?_ _ _ _ hx21 ?_ ls H locs (lv_sub hl [1, 0] rfl) hP hS
      · intro s20 t22 hE hKt22 ls H locs hl hP hS
        obtain ⟨c23, c24⟩ := s20
        replace hE : b_X10_image_86 c23 c24 = some t22 := hE
        replace hl : lv_has ls 2 [(0, .ref (ad 0)), (1, .int c23)] := hl
        replace hP : rP D ad cI cB c24 H := hP
        unfold b_X10_image_86 at hE
        refine lv_iload_n hx hb dX10_image_86 rfl (lv_at hl 1 rfl) ?_
        refine lv_bipush (v := 20) hx hb dX10_image_87 (by decide) ?_
        refine lv_icmp_ge (tgt := 110) hx hb dX10_image_89 (by decide) (fun hc25 => ?_) (fun hc25 => ?_)
        · have hE := st_t hE hc25
          have hq := Option.some.inj hE
          subst hq
          exact hKt22 ls H locs (lv_sub hl [0] rfl) hP hS
        · have hE := st_f hE hc25
          refine lv_aload_n hx hb dX10_image_92 rfl (lv_at hl 0 rfl) ?_
          refine r_get (v := .ref (ad 23)) hx hb hts (fun w h => wz_m (inX10 w h)) hown hK hP (q_Ref (ad := ad) (cI := cI) (cB := cB)) rfl 39 (by decide) (hts _ (wz_m tw_3_195)) (fun _ h9 => h9) rfl dX10_image_93 ?_
          refine lv_iload_n hx hb dX10_image_96 rfl (lv_at hl 1 rfl) ?_
          refine lv_aload_n hx hb dX10_image_97 rfl (lv_at hl 0 rfl) ?_
          refine r_get (v := .ref (ad 2)) hx hb hts (fun w h => wz_m (inX10 w h)) hown hK hP (q_Ref (ad := ad) (cI := cI) (cB := cB)) rfl 3 (by decide) (hts _ (wz_m tw_3_159)) (fun _ h9 => h9) rfl dX10_image_98 ?_
          refine lv_iload_n hx hb dX10_image_101 rfl (lv_at hl 1 rfl) ?_
          obtain ⟨hi26, hE⟩ := st_gd hE
          refine r_iald hx hb hK hP qr_2 hi26 dX10_image_102 ?_
          obtain ⟨hi27, hE⟩ := st_gd hE
          refine r_iast hij hx hb hK hP hS qr_23 hi27 dX10_image_103 (fun H locs hP hS => ?_)
          obtain ⟨S28, eS28, hE⟩ := st_bv hE
          rw [← eS28] at hP
          obtain ⟨v29, ev29, hE⟩ := st_bv hE
          refine lv_iinc (v := v29) (lv' := [(1, .int v29), (0, .ref (ad 0))]) hx hb dX10_image_104 hl (k := 1) rfl (by rw [ev29]; rfl) (by decide) rfl (fun ls hl => ?_)
          refine lv_goto (tgt := 86) hx hb dX10_image_107 (by decide) ?_
          have hq := Option.some.inj hE
          subst hq
          exact hKt22 ls H locs (lv_sub hl [1, 0] rfl) hP hS
      · intro ls H locs hl hP hS
        refine lv_iconst (v := 0) hx hb dX10_image_110 (by decide) ?_
        refine lv_istore_n (lv' := [(1, .int 0), (0, .ref (ad 0))]) hx hb dX10_image_111 rfl hl (by decide) rfl (fun ls hl => ?_)
        obtain ⟨x31, hx31, hE⟩ := st_bo hE
        refine lp_walk (body := fun (s30 : Int32 × SR) => b_X10_image_112 s30.1 s30.2) (fun s30 => ∀ (ls : Array Slot) (H : Heap) (locs : List Loc), lv_has ls 2 [(0, .ref (ad 0)), (1, .int s30.1)] → rP D ad cI cB s30.2 H → rS ad s H locs → W p l e rmX10_image s m args below meth c H locs 0 0 QQ (F0 m 112 ls [])) (fun x31 => ∀ (ls : Array Slot) (H : Heap) (locs : List Loc), lv_has ls 2 [(0, .ref (ad 0))] → rP D ad cI cB x31 H → rS ad s H locs → W p l e rmX10_image s m args below meth c H locs 0 0 QQ (F0 m 196 ls [])) ?_ _ _ _ hx31 ?_ ls H locs (lv_sub hl [1, 0] rfl) hP hS
        · intro s30 t32 hE hKt32 ls H locs hl hP hS
          obtain ⟨c33, c34⟩ := s30
          replace hE : b_X10_image_112 c33 c34 = some t32 := hE
          replace hl : lv_has ls 2 [(0, .ref (ad 0)), (1, .int c33)] := hl
          replace hP : rP D ad cI cB c34 H := hP
          unfold b_X10_image_112 at hE
          refine lv_iload_n hx hb dX10_image_112 rfl (lv_at hl 1 rfl) ?_
          refine lv_bipush (v := 6) hx hb dX10_image_113 (by decide) ?_
          refine lv_icmp_ge (tgt := 196) hx hb dX10_image_115 (by decide) (fun hc35 => ?_) (fun hc35 => ?_)
          · have hE := st_t hE hc35
            have hq := Option.some.inj hE
            subst hq
            exact hKt32 ls H locs (lv_sub hl [0] rfl) hP hS
          · have hE := st_f hE hc35
            refine lv_aload_n hx hb dX10_image_118 rfl (lv_at hl 0 rfl) ?_
            refine r_get (v := .ref (ad 25)) hx hb hts (fun w h => wz_m (inX10 w h)) hown hK hP (q_Ref (ad := ad) (cI := cI) (cB := cB)) rfl 41 (by decide) (hts _ (wz_m tw_3_197)) (fun _ h9 => h9) rfl dX10_image_119 ?_
            refine lv_iload_n hx hb dX10_image_122 rfl (lv_at hl 1 rfl) ?_
            refine lv_aload_n hx hb dX10_image_123 rfl (lv_at hl 0 rfl) ?_
            refine r_get (v := .ref (ad 6)) hx hb hts (fun w h => wz_m (inX10 w h)) hown hK hP (q_Ref (ad := ad) (cI := cI) (cB := cB)) rfl 9 (by decide) (hts _ (wz_m tw_3_165)) (fun _ h9 => h9) rfl dX10_image_124 ?_
            refine lv_iload_n hx hb dX10_image_127 rfl (lv_at hl 1 rfl) ?_
            obtain ⟨hi36, hE⟩ := st_gd hE
            refine r_iald hx hb hK hP qr_6 hi36 dX10_image_128 ?_
            obtain ⟨hi37, hE⟩ := st_gd hE
            refine r_iast hij hx hb hK hP hS qr_25 hi37 dX10_image_129 (fun H locs hP hS => ?_)
            obtain ⟨S38, eS38, hE⟩ := st_bv hE
            rw [← eS38] at hP
            refine lv_aload_n hx hb dX10_image_130 rfl (lv_at hl 0 rfl) ?_
            refine r_get (v := .ref (ad 26)) hx hb hts (fun w h => wz_m (inX10 w h)) hown hK hP (q_Ref (ad := ad) (cI := cI) (cB := cB)) rfl 42 (by decide) (hts _ (wz_m tw_3_198)) (fun _ h9 => h9) rfl dX10_image_131 ?_
            refine lv_iload_n hx hb dX10_image_134 rfl (lv_at hl 1 rfl) ?_
            refine lv_aload_n hx hb dX10_image_135 rfl (lv_at hl 0 rfl) ?_
            refine r_get (v := .ref (ad 7)) hx hb hts (fun w h => wz_m (inX10 w h)) hown hK hP (q_Ref (ad := ad) (cI := cI) (cB := cB)) rfl 10 (by decide) (hts _ (wz_m tw_3_166)) (fun _ h9 => h9) rfl dX10_image_136 ?_
            refine lv_iload_n hx hb dX10_image_139 rfl (lv_at hl 1 rfl) ?_
            obtain ⟨hi39, hE⟩ := st_gd hE
            refine r_iald hx hb hK hP qr_7 hi39 dX10_image_140 ?_
            obtain ⟨hi40, hE⟩ := st_gd hE
            refine r_iast hij hx hb hK hP hS qr_26 hi40 dX10_image_141 (fun H locs hP hS => ?_)
            obtain ⟨S41, eS41, hE⟩ := st_bv hE
            rw [← eS41] at hP
            refine lv_aload_n hx hb dX10_image_142 rfl (lv_at hl 0 rfl) ?_
            refine r_get (v := .ref (ad 27)) hx hb hts (fun w h => wz_m (inX10 w h)) hown hK hP (q_Ref (ad := ad) (cI := cI) (cB := cB)) rfl 43 (by decide) (hts _ (wz_m tw_3_199)) (fun _ h9 => h9) rfl dX10_image_143 ?_
            refine lv_iload_n hx hb dX10_image_146 rfl (lv_at hl 1 rfl) ?_
            refine lv_aload_n hx hb dX10_image_147 rfl (lv_at hl 0 rfl) ?_
            refine r_get (v := .ref (ad 8)) hx hb hts (fun w h => wz_m (inX10 w h)) hown hK hP (q_Ref (ad := ad) (cI := cI) (cB := cB)) rfl 11 (by decide) (hts _ (wz_m tw_3_167)) (fun _ h9 => h9) rfl dX10_image_148 ?_
            refine lv_iload_n hx hb dX10_image_151 rfl (lv_at hl 1 rfl) ?_
            obtain ⟨hi42, hE⟩ := st_gd hE
            refine r_iald hx hb hK hP qr_8 hi42 dX10_image_152 ?_
            obtain ⟨hi43, hE⟩ := st_gd hE
            refine r_iast hij hx hb hK hP hS qr_27 hi43 dX10_image_153 (fun H locs hP hS => ?_)
            obtain ⟨S44, eS44, hE⟩ := st_bv hE
            rw [← eS44] at hP
            refine lv_aload_n hx hb dX10_image_154 rfl (lv_at hl 0 rfl) ?_
            refine r_get (v := .ref (ad 28)) hx hb hts (fun w h => wz_m (inX10 w h)) hown hK hP (q_Ref (ad := ad) (cI := cI) (cB := cB)) rfl 44 (by decide) (hts _ (wz_m tw_3_200)) (fun _ h9 => h9) rfl dX10_image_155 ?_
            refine lv_iload_n hx hb dX10_image_158 rfl (lv_at hl 1 rfl) ?_
            refine lv_aload_n hx hb dX10_image_159 rfl (lv_at hl 0 rfl) ?_
            refine r_get (v := .ref (ad 9)) hx hb hts (fun w h => wz_m (inX10 w h)) hown hK hP (q_Ref (ad := ad) (cI := cI) (cB := cB)) rfl 14 (by decide) (hts _ (wz_m tw_3_170)) (fun _ h9 => h9) rfl dX10_image_160 ?_
            refine lv_iload_n hx hb dX10_image_163 rfl (lv_at hl 1 rfl) ?_
            obtain ⟨hi45, hE⟩ := st_gd hE
            refine r_iald hx hb hK hP qr_9 hi45 dX10_image_164 ?_
            obtain ⟨hi46, hE⟩ := st_gd hE
            refine r_iast hij hx hb hK hP hS qr_28 hi46 dX10_image_165 (fun H locs hP hS => ?_)
            obtain ⟨S47, eS47, hE⟩ := st_bv hE
            rw [← eS47] at hP
            refine lv_aload_n hx hb dX10_image_166 rfl (lv_at hl 0 rfl) ?_
            refine r_get (v := .ref (ad 29)) hx hb hts (fun w h => wz_m (inX10 w h)) hown hK hP (q_Ref (ad := ad) (cI := cI) (cB := cB)) rfl 45 (by decide) (hts _ (wz_m tw_3_201)) (fun _ h9 => h9) rfl dX10_image_167 ?_
            refine lv_iload_n hx hb dX10_image_170 rfl (lv_at hl 1 rfl) ?_
            refine lv_aload_n hx hb dX10_image_171 rfl (lv_at hl 0 rfl) ?_
            refine r_get (v := .ref (ad 10)) hx hb hts (fun w h => wz_m (inX10 w h)) hown hK hP (q_Ref (ad := ad) (cI := cI) (cB := cB)) rfl 15 (by decide) (hts _ (wz_m tw_3_171)) (fun _ h9 => h9) rfl dX10_image_172 ?_
            refine lv_iload_n hx hb dX10_image_175 rfl (lv_at hl 1 rfl) ?_
            obtain ⟨hi48, hE⟩ := st_gd hE
            refine r_iald hx hb hK hP qr_10 hi48 dX10_image_176 ?_
            obtain ⟨hi49, hE⟩ := st_gd hE
            refine r_iast hij hx hb hK hP hS qr_29 hi49 dX10_image_177 (fun H locs hP hS => ?_)
            obtain ⟨S50, eS50, hE⟩ := st_bv hE
            rw [← eS50] at hP
            refine lv_aload_n hx hb dX10_image_178 rfl (lv_at hl 0 rfl) ?_
            refine r_get (v := .ref (ad 30)) hx hb hts (fun w h => wz_m (inX10 w h)) hown hK hP (q_Ref (ad := ad) (cI := cI) (cB := cB)) rfl 46 (by decide) (hts _ (wz_m tw_3_202)) (fun _ h9 => h9) rfl dX10_image_179 ?_
            refine lv_iload_n hx hb dX10_image_182 rfl (lv_at hl 1 rfl) ?_
            refine lv_aload_n hx hb dX10_image_183 rfl (lv_at hl 0 rfl) ?_
            refine r_get (v := .ref (ad 11)) hx hb hts (fun w h => wz_m (inX10 w h)) hown hK hP (q_Ref (ad := ad) (cI := cI) (cB := cB)) rfl 16 (by decide) (hts _ (wz_m tw_3_172)) (fun _ h9 => h9) rfl dX10_image_184 ?_
            refine lv_iload_n hx hb dX10_image_187 rfl (lv_at hl 1 rfl) ?_
            obtain ⟨hi51, hE⟩ := st_gd hE
            refine r_iald hx hb hK hP qr_11 hi51 dX10_image_188 ?_
            obtain ⟨hi52, hE⟩ := st_gd hE
            refine r_iast hij hx hb hK hP hS qr_30 hi52 dX10_image_189 (fun H locs hP hS => ?_)
            obtain ⟨S53, eS53, hE⟩ := st_bv hE
            rw [← eS53] at hP
            obtain ⟨v54, ev54, hE⟩ := st_bv hE
            refine lv_iinc (v := v54) (lv' := [(1, .int v54), (0, .ref (ad 0))]) hx hb dX10_image_190 hl (k := 1) rfl (by rw [ev54]; rfl) (by decide) rfl (fun ls hl => ?_)
            refine lv_goto (tgt := 112) hx hb dX10_image_193 (by decide) ?_
            have hq := Option.some.inj hE
            subst hq
            exact hKt32 ls H locs (lv_sub hl [1, 0] rfl) hP hS
        · intro ls H locs hl hP hS
          refine lv_aload_n hx hb dX10_image_196 rfl (lv_at hl 0 rfl) ?_
          refine r_get (v := .int (ri x31 0 12)) hx hb hts (fun w h => wz_m (inX10 w h)) hown hK hP (q_Ref (ad := ad) (cI := cI) (cB := cB)) rfl 12 (by decide) (hts _ (wz_m tw_3_168)) (fun _ h9 => h9) rfl dX10_image_197 ?_
          replace hE := Option.some.inj hE
          have hq := Prod.mk.inj hE
          subst hQQ
          exact g_iret hx hb hr hlocks hP hS hq.1 hq.2 dX10_image_200
  · have hE := st_t hE hc1
    refine lv_bipush (v := (-103)) hx hb dX10_image_7 (by decide) ?_
    replace hE := Option.some.inj hE
    have hq := Prod.mk.inj hE
    subst hQQ
    exact g_iret hx hb hr hlocks hP hS hq.1 hq.2 dX10_image_9
def f_X10_keep (S0 : SR) (a1 : Int32) : Option (Int32) :=
  bo (f_X10_within a1 0 1) (fun (r1 : Int32) => if r1 = 0 then (some (-102)) else (if (ri S0 0 0) = 0 then (some (-103)) else (if a1 = 0 then (bo (f_X10_keepSet S0) (fun (r6 : Int32) => bo (f_X10_size r6) (fun (r7 : Int32) => some r7))) else (bo (f_X10_keepSet S0) (fun (r5 : Int32) => some r5)))))
abbrev rmX10_keep : Room := { frames := 4, cells := 0, slots := 0, locals := 97 }
theorem hdV_X10_keep : yX10_keep.cls = "WitnessWallModel" ∧ yX10_keep.cls ≠ "java/lang/invoke/MethodHandle" ∧ yX10_keep.cls ≠ "java/lang/invoke/VarHandle" ∧ (parseMethodDescriptor yX10_keep.desc).map (fun d => d.parameters.length) = some 1 := by decide +kernel
set_option maxHeartbeats 4000000 in
set_option maxRecDepth 100000 in
theorem k_X10_keep {l : Launch} {D : va_G} {ad : Nat → Nat} {cI cB : ClassId} (hij : inj 31 ad)  {S0 : SR} {a1 : Int32} {r : Int32} (hE : f_X10_keep S0 a1 = some r) {sz : Nat} : Met l yX10_keep (wz yX10_keep cX10_keep 2 (some FieldType.int)) rmX10_keep (PG 31 ad (er ad cI cB) D (KR D cI cB) ZR [.ref (ad 0), .int a1] S0 sz) (QGi 31 ad (er ad cI cB) D r S0 sz) 0 0 (AD 31 ad sz) := by
  unfold f_X10_keep at hE
  refine g_start (cc := cX10_keep) (maxL := 2) (ret := (some FieldType.int)) (Qc := fun sz => QGi 31 ad (er ad cI cB) D r S0 sz) (by decide) rfl (Nat.le_of_ble_eq_true rfl) ?_
  intro p e s m args below meth c H locs ls hx hb hr hts hown hlocks hml hK hZ hP hS hl
  replace hl : lv_has ls 2 [(0, .ref (ad 0)), (1, .int a1)] := hl
  obtain ⟨QQ, hQQ⟩ : ∃ q, q = MQ below (QGi 31 ad (er ad cI cB) D r S0 s.heap.size) args s 0 0 (AD 31 ad s.heap.size) := ⟨_, rfl⟩
  rw [← hQQ]
  refine lv_iload_n hx hb dX10_keep_0 rfl (lv_at hl 1 rfl) ?_
  refine lv_iconst (v := 0) hx hb dX10_keep_1 (by decide) ?_
  refine lv_iconst (v := 1) hx hb dX10_keep_2 (by decide) ?_
  obtain ⟨r1, hCr1, hE⟩ := st_bo hE
  refine g_calli (va_runS (As := [.int a1, .int 0, .int 1]) (rest := []) ⟨hx, hb, hml, hown, hts⟩ (k_X10_within hij (S0 := S0) hCr1) (va_cwS 3 hts (wz_S tw_4_66 tw_4_67 tw_1_11 tw_4_68) rfl rfl rfl hdS_X10_within ⟨Nat.le_of_ble_eq_true rfl, Nat.le_of_ble_eq_true rfl⟩) (g_preS KR_st ZR_st hK hZ hP hS) rfl rfl hl.1 rfl (lv_room (Nat.le_of_ble_eq_true rfl)) dX10_keep_3 ⟨Nat.zero_le _, Nat.zero_le _⟩) hS (fun H locs hP hS => ?_)
  refine lv_if_ne (tgt := 12) hx hb dX10_keep_6 (by decide) (fun hc2 => ?_) (fun hc2 => ?_)
  · have hE := st_f hE hc2
    refine lv_aload_n hx hb dX10_keep_12 rfl (lv_at hl 0 rfl) ?_
    refine r_get (v := .int (ri S0 0 0)) hx hb hts (fun w h => wz_m (inX10 w h)) hown hK hP (q_Ref (ad := ad) (cI := cI) (cB := cB)) rfl 0 (by decide) (hts _ (wz_m tw_3_156)) (fun _ h9 => h9) rfl dX10_keep_13 ?_
    refine lv_if_ne (tgt := 24) hx hb dX10_keep_16 (by decide) (fun hc3 => ?_) (fun hc3 => ?_)
    · have hE := st_f hE hc3
      refine lv_iload_n hx hb dX10_keep_24 rfl (lv_at hl 1 rfl) ?_
      refine lv_if_ne (tgt := 38) hx hb dX10_keep_25 (by decide) (fun hc4 => ?_) (fun hc4 => ?_)
      · have hE := st_f hE hc4
        refine lv_aload_n hx hb dX10_keep_38 rfl (lv_at hl 0 rfl) ?_
        obtain ⟨r5, hCr5, hE⟩ := st_bo hE
        refine g_calli (va_runV (As := []) (rest := []) ⟨hx, hb, hml, hown, hts⟩ (k_X10_keepSet hij hCr5) (cwV 0 hts (wz_V tw_5_15 tw_5_17 tp_29 tw_1_11 tw_5_18) rfl rfl rfl hdV_X10_keepSet ⟨Nat.le_of_ble_eq_true rfl, Nat.le_of_ble_eq_true rfl⟩) (g_preV KR_st ZR_st hK hZ hP hS hK.1 ((q_Ref (ad := ad) (cI := cI) (cB := cB))).1 (er_o (q_Ref (ad := ad) (cI := cI) (cB := cB))) rfl) rfl rfl hl.1 rfl (lv_room (Nat.le_of_ble_eq_true rfl)) dX10_keep_39 ⟨Nat.zero_le _, Nat.zero_le _⟩) hS (fun H locs hP hS => ?_)
        replace hE := Option.some.inj hE
        subst hQQ
        exact g_iret hx hb hr hlocks hP hS hE rfl dX10_keep_42
      · have hE := st_t hE hc4
        refine lv_aload_n hx hb dX10_keep_28 rfl (lv_at hl 0 rfl) ?_
        obtain ⟨r6, hCr6, hE⟩ := st_bo hE
        refine g_calli (va_runV (As := []) (rest := []) ⟨hx, hb, hml, hown, hts⟩ (k_X10_keepSet hij hCr6) (cwV 0 hts (wz_V tw_5_15 tw_5_17 tp_29 tw_1_11 tw_5_18) rfl rfl rfl hdV_X10_keepSet ⟨Nat.le_of_ble_eq_true rfl, Nat.le_of_ble_eq_true rfl⟩) (g_preV KR_st ZR_st hK hZ hP hS hK.1 ((q_Ref (ad := ad) (cI := cI) (cB := cB))).1 (er_o (q_Ref (ad := ad) (cI := cI) (cB := cB))) rfl) rfl rfl hl.1 rfl (lv_room (Nat.le_of_ble_eq_true rfl)) dX10_keep_29 ⟨Nat.zero_le _, Nat.zero_le _⟩) hS (fun H locs hP hS => ?_)
        obtain ⟨r7, hCr7, hE⟩ := st_bo hE
        refine g_calli (va_runS (As := [.int r6]) (rest := []) ⟨hx, hb, hml, hown, hts⟩ (k_X10_size hij (S0 := S0) hCr7) (va_cwS 1 hts (wz_S tw_4_147 tw_4_148 tw_1_11 tw_4_149) rfl rfl rfl hdS_X10_size ⟨Nat.le_of_ble_eq_true rfl, Nat.le_of_ble_eq_true rfl⟩) (g_preS KR_st ZR_st hK hZ hP hS) rfl rfl hl.1 rfl (lv_room (Nat.le_of_ble_eq_true rfl)) dX10_keep_32 ⟨Nat.zero_le _, Nat.zero_le _⟩) hS (fun H locs hP hS => ?_)
        refine lv_goto (tgt := 42) hx hb dX10_keep_35 (by decide) ?_
        replace hE := Option.some.inj hE
        subst hQQ
        exact g_iret hx hb hr hlocks hP hS hE rfl dX10_keep_42
    · have hE := st_t hE hc3
      refine lv_bipush (v := (-103)) hx hb dX10_keep_19 (by decide) ?_
      refine lv_goto (tgt := 42) hx hb dX10_keep_21 (by decide) ?_
      replace hE := Option.some.inj hE
      subst hQQ
      exact g_iret hx hb hr hlocks hP hS hE rfl dX10_keep_42
  · have hE := st_t hE hc2
    refine lv_bipush (v := (-102)) hx hb dX10_keep_9 (by decide) ?_
    replace hE := Option.some.inj hE
    subst hQQ
    exact g_iret hx hb hr hlocks hP hS hE rfl dX10_keep_11
def f_X10_letter (S0 : SR) (a1 : Int32) : Option (Int32 × SR) :=
  bo (f_X10_within a1 32 126) (fun (r1 : Int32) => if r1 = 0 then (some ((-102), S0)) else (if (ri S0 0 17) = 54 then (some ((-104), S0)) else (gd (inb (ri S0 0 17) 54) (bv (ui S0 12 ((ri S0 0 17).toNatClampNeg) (vp_nar .byte ((a1 : Int32).toInt8.toInt32))) (fun S5 => bv (ui S5 0 17 ((ri S5 0 17) + 1)) (fun S6 => some (ri S6 0 17, S6)))))))
abbrev rmX10_letter : Room := { frames := 1, cells := 0, slots := 0, locals := 22 }
theorem hdV_X10_letter : yX10_letter.cls = "WitnessWallModel" ∧ yX10_letter.cls ≠ "java/lang/invoke/MethodHandle" ∧ yX10_letter.cls ≠ "java/lang/invoke/VarHandle" ∧ (parseMethodDescriptor yX10_letter.desc).map (fun d => d.parameters.length) = some 1 := by decide +kernel
set_option maxHeartbeats 4000000 in
set_option maxRecDepth 100000 in
theorem k_X10_letter {l : Launch} {D : va_G} {ad : Nat → Nat} {cI cB : ClassId} (hij : inj 31 ad)  {S0 : SR} {a1 : Int32} {r : Int32} {Sr : SR} (hE : f_X10_letter S0 a1 = some (r, Sr)) {sz : Nat} : Met l yX10_letter (wz yX10_letter cX10_letter 2 (some FieldType.int)) rmX10_letter (PG 31 ad (er ad cI cB) D (KR D cI cB) ZR [.ref (ad 0), .int a1] S0 sz) (QGi 31 ad (er ad cI cB) D r Sr sz) 0 0 (AD 31 ad sz) := by
  unfold f_X10_letter at hE
  refine g_start (cc := cX10_letter) (maxL := 2) (ret := (some FieldType.int)) (Qc := fun sz => QGi 31 ad (er ad cI cB) D r Sr sz) (by decide) rfl (Nat.le_of_ble_eq_true rfl) ?_
  intro p e s m args below meth c H locs ls hx hb hr hts hown hlocks hml hK hZ hP hS hl
  replace hl : lv_has ls 2 [(0, .ref (ad 0)), (1, .int a1)] := hl
  obtain ⟨QQ, hQQ⟩ : ∃ q, q = MQ below (QGi 31 ad (er ad cI cB) D r Sr s.heap.size) args s 0 0 (AD 31 ad s.heap.size) := ⟨_, rfl⟩
  rw [← hQQ]
  refine lv_iload_n hx hb dX10_letter_0 rfl (lv_at hl 1 rfl) ?_
  refine lv_bipush (v := 32) hx hb dX10_letter_1 (by decide) ?_
  refine lv_bipush (v := 126) hx hb dX10_letter_3 (by decide) ?_
  obtain ⟨r1, hCr1, hE⟩ := st_bo hE
  refine g_calli (va_runS (As := [.int a1, .int 32, .int 126]) (rest := []) ⟨hx, hb, hml, hown, hts⟩ (k_X10_within hij (S0 := S0) hCr1) (va_cwS 3 hts (wz_S tw_4_66 tw_4_67 tw_1_11 tw_4_68) rfl rfl rfl hdS_X10_within ⟨Nat.le_of_ble_eq_true rfl, Nat.le_of_ble_eq_true rfl⟩) (g_preS KR_st ZR_st hK hZ hP hS) rfl rfl hl.1 rfl (lv_room (Nat.le_of_ble_eq_true rfl)) dX10_letter_5 ⟨Nat.zero_le _, Nat.zero_le _⟩) hS (fun H locs hP hS => ?_)
  refine lv_if_ne (tgt := 14) hx hb dX10_letter_8 (by decide) (fun hc2 => ?_) (fun hc2 => ?_)
  · have hE := st_f hE hc2
    refine lv_aload_n hx hb dX10_letter_14 rfl (lv_at hl 0 rfl) ?_
    refine r_get (v := .int (ri S0 0 17)) hx hb hts (fun w h => wz_m (inX10 w h)) hown hK hP (q_Ref (ad := ad) (cI := cI) (cB := cB)) rfl 17 (by decide) (hts _ (wz_m tw_3_173)) (fun _ h9 => h9) rfl dX10_letter_15 ?_
    refine lv_bipush (v := 54) hx hb dX10_letter_18 (by decide) ?_
    refine lv_icmp_ne (tgt := 26) hx hb dX10_letter_20 (by decide) (fun hc3 => ?_) (fun hc3 => ?_)
    · have hE := st_f hE hc3
      refine lv_aload_n hx hb dX10_letter_26 rfl (lv_at hl 0 rfl) ?_
      refine r_get (v := .ref (ad 12)) hx hb hts (fun w h => wz_m (inX10 w h)) hown hK hP (q_Ref (ad := ad) (cI := cI) (cB := cB)) rfl 18 (by decide) (hts _ (wz_m tw_3_174)) (fun _ h9 => h9) rfl dX10_letter_27 ?_
      refine lv_aload_n hx hb dX10_letter_30 rfl (lv_at hl 0 rfl) ?_
      refine r_get (v := .int (ri S0 0 17)) hx hb hts (fun w h => wz_m (inX10 w h)) hown hK hP (q_Ref (ad := ad) (cI := cI) (cB := cB)) rfl 17 (by decide) (hts _ (wz_m tw_3_173)) (fun _ h9 => h9) rfl dX10_letter_31 ?_
      refine lv_iload_n hx hb dX10_letter_34 rfl (lv_at hl 1 rfl) ?_
      refine lv_i2b (v := (a1 : Int32).toInt8.toInt32) hx hb dX10_letter_35 rfl ?_
      obtain ⟨hi4, hE⟩ := st_gd hE
      refine r_bast hij hx hb hK hP hS qr_12 hi4 dX10_letter_36 (fun H locs hP hS => ?_)
      obtain ⟨S5, eS5, hE⟩ := st_bv hE
      rw [← eS5] at hP
      refine lv_aload_n hx hb dX10_letter_37 rfl (lv_at hl 0 rfl) ?_
      refine lv_dup hx hb dX10_letter_38 rfl ?_
      refine r_get (v := .int (ri S5 0 17)) hx hb hts (fun w h => wz_m (inX10 w h)) hown hK hP (q_Ref (ad := ad) (cI := cI) (cB := cB)) rfl 17 (by decide) (hts _ (wz_m tw_3_173)) (fun _ h9 => h9) rfl dX10_letter_39 ?_
      refine lv_iconst (v := 1) hx hb dX10_letter_42 (by decide) ?_
      refine lv_iadd hx hb dX10_letter_43 ?_
      refine r_put hij hx hb hts (fun w h => wz_m (inX10 w h)) tyX10 tyX10_ok nmX10 hown hK hP hS (q_Ref (ad := ad) (cI := cI) (cB := cB)) rfl 17 (by decide) (hts _ (wz_m tw_3_173)) (fun _ h9 => h9) rfl rfl rfl (fun _ _ => Nat.le_of_ble_eq_true rfl) (fun _ _ => rfl) dX10_letter_44 (fun H locs hP hS => ?_)
      obtain ⟨S6, eS6, hE⟩ := st_bv hE
      rw [← eS6] at hP
      refine lv_aload_n hx hb dX10_letter_47 rfl (lv_at hl 0 rfl) ?_
      refine r_get (v := .int (ri S6 0 17)) hx hb hts (fun w h => wz_m (inX10 w h)) hown hK hP (q_Ref (ad := ad) (cI := cI) (cB := cB)) rfl 17 (by decide) (hts _ (wz_m tw_3_173)) (fun _ h9 => h9) rfl dX10_letter_48 ?_
      replace hE := Option.some.inj hE
      have hq := Prod.mk.inj hE
      subst hQQ
      exact g_iret hx hb hr hlocks hP hS hq.1 hq.2 dX10_letter_51
    · have hE := st_t hE hc3
      refine lv_bipush (v := (-104)) hx hb dX10_letter_23 (by decide) ?_
      replace hE := Option.some.inj hE
      have hq := Prod.mk.inj hE
      subst hQQ
      exact g_iret hx hb hr hlocks hP hS hq.1 hq.2 dX10_letter_25
  · have hE := st_t hE hc2
    refine lv_bipush (v := (-102)) hx hb dX10_letter_11 (by decide) ?_
    replace hE := Option.some.inj hE
    have hq := Prod.mk.inj hE
    subst hQQ
    exact g_iret hx hb hr hlocks hP hS hq.1 hq.2 dX10_letter_13
def b_X10_oddsNow_6 (S0 : SR) (a1 : Int32) (a2 : Int32) (a3 : Int32) (c4 : Int32) (c5 : Int32) : Option ((Int32 × Int32) ⊕ (Int32)) :=
  if 4096 ≤ c5 then (some (.inr c4)) else (if ((c5 >>> ((2 * a1) &&& 31)) &&& 3) = a2 then (bo (f_X10_isWorld S0 c5 a3) (fun (r10 : Int32) => if r10 = 0 then (bv (c4 + 0) (fun (v12 : Int32) => bv (c5 + 1) (fun (v13 : Int32) => some (.inl (v12, v13))))) else (bv (c4 + 1) (fun (v14 : Int32) => bv (c5 + 1) (fun (v15 : Int32) => some (.inl (v14, v15))))))) else (bv (c4 + 0) (fun (v8 : Int32) => bv (c5 + 1) (fun (v9 : Int32) => some (.inl (v8, v9))))))
def f_X10_oddsNow (S0 : SR) (a1 : Int32) (a2 : Int32) (a3 : Int32) (a4 : Int32) : Option (Int32) :=
  bo (lp (fun (s1 : Int32 × Int32) => b_X10_oddsNow_6 S0 a1 a2 a3 s1.1 s1.2) 5000 (0, 0)) (fun (x2 : Int32) => if x2 = 0 then (some a4) else (bo (f_X10_worldsNow S0 a3) (fun (r17 : Int32) => bo (f_X10_divisor x2 r17) (fun (r18 : Int32) => if a4 = 0 then (gd (nz r18) (some (x2 / r18))) else (gd (nz r18) (some (r17 / r18)))))))
abbrev rmX10_oddsNow : Room := { frames := 3, cells := 0, slots := 0, locals := 71 }
theorem hdV_X10_oddsNow : yX10_oddsNow.cls = "WitnessWallModel" ∧ yX10_oddsNow.cls ≠ "java/lang/invoke/MethodHandle" ∧ yX10_oddsNow.cls ≠ "java/lang/invoke/VarHandle" ∧ (parseMethodDescriptor yX10_oddsNow.desc).map (fun d => d.parameters.length) = some 4 := by decide +kernel
set_option maxHeartbeats 4000000 in
set_option maxRecDepth 100000 in
theorem k_X10_oddsNow {l : Launch} {D : va_G} {ad : Nat → Nat} {cI cB : ClassId} (hij : inj 31 ad)  {S0 : SR} {a1 : Int32} {a2 : Int32} {a3 : Int32} {a4 : Int32} {r : Int32} (hE : f_X10_oddsNow S0 a1 a2 a3 a4 = some r) {sz : Nat} : Met l yX10_oddsNow (wz yX10_oddsNow cX10_oddsNow 8 (some FieldType.int)) rmX10_oddsNow (PG 31 ad (er ad cI cB) D (KR D cI cB) ZR [.ref (ad 0), .int a1, .int a2, .int a3, .int a4] S0 sz) (QGi 31 ad (er ad cI cB) D r S0 sz) 0 0 (AD 31 ad sz) := by
  unfold f_X10_oddsNow at hE
  refine g_start (cc := cX10_oddsNow) (maxL := 8) (ret := (some FieldType.int)) (Qc := fun sz => QGi 31 ad (er ad cI cB) D r S0 sz) (by decide) rfl (Nat.le_of_ble_eq_true rfl) ?_
  intro p e s m args below meth c H locs ls hx hb hr hts hown hlocks hml hK hZ hP hS hl
  replace hl : lv_has ls 8 [(0, .ref (ad 0)), (1, .int a1), (2, .int a2), (3, .int a3), (4, .int a4)] := hl
  obtain ⟨QQ, hQQ⟩ : ∃ q, q = MQ below (QGi 31 ad (er ad cI cB) D r S0 s.heap.size) args s 0 0 (AD 31 ad s.heap.size) := ⟨_, rfl⟩
  rw [← hQQ]
  refine lv_iconst (v := 0) hx hb dX10_oddsNow_0 (by decide) ?_
  refine lv_istore (lv' := [(5, .int 0), (0, .ref (ad 0)), (1, .int a1), (2, .int a2), (3, .int a3), (4, .int a4)]) hx hb dX10_oddsNow_1 hl (by decide) rfl (fun ls hl => ?_)
  refine lv_iconst (v := 0) hx hb dX10_oddsNow_3 (by decide) ?_
  refine lv_istore (lv' := [(6, .int 0), (5, .int 0), (0, .ref (ad 0)), (1, .int a1), (2, .int a2), (3, .int a3), (4, .int a4)]) hx hb dX10_oddsNow_4 hl (by decide) rfl (fun ls hl => ?_)
  obtain ⟨x2, hx2, hE⟩ := st_bo hE
  refine lp_walk (body := fun (s1 : Int32 × Int32) => b_X10_oddsNow_6 S0 a1 a2 a3 s1.1 s1.2) (fun s1 => ∀ (ls : Array Slot) (H : Heap) (locs : List Loc), lv_has ls 8 [(0, .ref (ad 0)), (1, .int a1), (2, .int a2), (3, .int a3), (4, .int a4), (5, .int s1.1), (6, .int s1.2)] → rP D ad cI cB S0 H → rS ad s H locs → W p l e rmX10_oddsNow s m args below meth c H locs 0 0 QQ (F0 m 6 ls [])) (fun x2 => ∀ (ls : Array Slot) (H : Heap) (locs : List Loc), lv_has ls 8 [(0, .ref (ad 0)), (3, .int a3), (4, .int a4), (5, .int x2)] → rP D ad cI cB S0 H → rS ad s H locs → W p l e rmX10_oddsNow s m args below meth c H locs 0 0 QQ (F0 m 52 ls [])) ?_ _ _ _ hx2 ?_ ls H locs (lv_sub hl [2, 3, 4, 5, 6, 1, 0] rfl) hP hS
  · intro s1 t3 hE hKt3 ls H locs hl hP hS
    obtain ⟨c4, c5⟩ := s1
    replace hE : b_X10_oddsNow_6 S0 a1 a2 a3 c4 c5 = some t3 := hE
    replace hl : lv_has ls 8 [(0, .ref (ad 0)), (1, .int a1), (2, .int a2), (3, .int a3), (4, .int a4), (5, .int c4), (6, .int c5)] := hl
    replace hP : rP D ad cI cB S0 H := hP
    unfold b_X10_oddsNow_6 at hE
    refine lv_iload hx hb dX10_oddsNow_6 (lv_at hl 6 rfl) ?_
    refine lv_sipush (v := 4096) hx hb dX10_oddsNow_8 (by decide) ?_
    refine lv_icmp_ge (tgt := 52) hx hb dX10_oddsNow_11 (by decide) (fun hc6 => ?_) (fun hc6 => ?_)
    · have hE := st_t hE hc6
      have hq := Option.some.inj hE
      subst hq
      exact hKt3 ls H locs (lv_sub hl [0, 3, 4, 5] rfl) hP hS
    · have hE := st_f hE hc6
      refine lv_iload hx hb dX10_oddsNow_14 (lv_at hl 5 rfl) ?_
      refine lv_iload hx hb dX10_oddsNow_16 (lv_at hl 6 rfl) ?_
      refine lv_iconst (v := 2) hx hb dX10_oddsNow_18 (by decide) ?_
      refine lv_iload_n hx hb dX10_oddsNow_19 rfl (lv_at hl 1 rfl) ?_
      refine lv_imul hx hb dX10_oddsNow_20 ?_
      refine lv_ishr hx hb dX10_oddsNow_21 ?_
      refine lv_iconst (v := 3) hx hb dX10_oddsNow_22 (by decide) ?_
      refine lv_iand hx hb dX10_oddsNow_23 ?_
      refine lv_iload_n hx hb dX10_oddsNow_24 rfl (lv_at hl 2 rfl) ?_
      refine lv_icmp_ne (tgt := 42) hx hb dX10_oddsNow_25 (by decide) (fun hc7 => ?_) (fun hc7 => ?_)
      · have hE := st_f hE hc7
        refine lv_iconst (v := 0) hx hb dX10_oddsNow_42 (by decide) ?_
        refine lv_iadd hx hb dX10_oddsNow_43 ?_
        obtain ⟨v8, ev8, hE⟩ := st_bv hE
        refine nm_i ev8 ?_
        refine lv_istore (lv' := [(5, .int v8), (0, .ref (ad 0)), (1, .int a1), (2, .int a2), (3, .int a3), (4, .int a4), (6, .int c5)]) hx hb dX10_oddsNow_44 hl (by decide) rfl (fun ls hl => ?_)
        obtain ⟨v9, ev9, hE⟩ := st_bv hE
        refine lv_iinc (v := v9) (lv' := [(6, .int v9), (5, .int v8), (0, .ref (ad 0)), (1, .int a1), (2, .int a2), (3, .int a3), (4, .int a4)]) hx hb dX10_oddsNow_46 hl (k := 6) rfl (by rw [ev9]; rfl) (by decide) rfl (fun ls hl => ?_)
        refine lv_goto (tgt := 6) hx hb dX10_oddsNow_49 (by decide) ?_
        have hq := Option.some.inj hE
        subst hq
        exact hKt3 ls H locs (lv_sub hl [2, 3, 4, 5, 6, 1, 0] rfl) hP hS
      · have hE := st_t hE hc7
        refine lv_aload_n hx hb dX10_oddsNow_28 rfl (lv_at hl 0 rfl) ?_
        refine lv_iload hx hb dX10_oddsNow_29 (lv_at hl 6 rfl) ?_
        refine lv_iload_n hx hb dX10_oddsNow_31 rfl (lv_at hl 3 rfl) ?_
        obtain ⟨r10, hCr10, hE⟩ := st_bo hE
        refine g_calli (va_runV (As := [.int c5, .int a3]) (rest := [.int c4]) ⟨hx, hb, hml, hown, hts⟩ (k_X10_isWorld hij hCr10) (cwV 2 hts (wz_V tw_5_43 tw_5_45 tp_34 tw_1_11 tw_5_46) rfl rfl rfl hdV_X10_isWorld ⟨Nat.le_of_ble_eq_true rfl, Nat.le_of_ble_eq_true rfl⟩) (g_preV KR_st ZR_st hK hZ hP hS hK.1 ((q_Ref (ad := ad) (cI := cI) (cB := cB))).1 (er_o (q_Ref (ad := ad) (cI := cI) (cB := cB))) rfl) rfl rfl hl.1 rfl (lv_room (Nat.le_of_ble_eq_true rfl)) dX10_oddsNow_32 ⟨Nat.zero_le _, Nat.zero_le _⟩) hS (fun H locs hP hS => ?_)
        refine lv_if_eq (tgt := 42) hx hb dX10_oddsNow_35 (by decide) (fun hc11 => ?_) (fun hc11 => ?_)
        · have hE := st_t hE hc11
          refine lv_iconst (v := 0) hx hb dX10_oddsNow_42 (by decide) ?_
          refine lv_iadd hx hb dX10_oddsNow_43 ?_
          obtain ⟨v12, ev12, hE⟩ := st_bv hE
          refine nm_i ev12 ?_
          refine lv_istore (lv' := [(5, .int v12), (0, .ref (ad 0)), (1, .int a1), (2, .int a2), (3, .int a3), (4, .int a4), (6, .int c5)]) hx hb dX10_oddsNow_44 hl (by decide) rfl (fun ls hl => ?_)
          obtain ⟨v13, ev13, hE⟩ := st_bv hE
          refine lv_iinc (v := v13) (lv' := [(6, .int v13), (5, .int v12), (0, .ref (ad 0)), (1, .int a1), (2, .int a2), (3, .int a3), (4, .int a4)]) hx hb dX10_oddsNow_46 hl (k := 6) rfl (by rw [ev13]; rfl) (by decide) rfl (fun ls hl => ?_)
          refine lv_goto (tgt := 6) hx hb dX10_oddsNow_49 (by decide) ?_
          have hq := Option.some.inj hE
          subst hq
          exact hKt3 ls H locs (lv_sub hl [2, 3, 4, 5, 6, 1, 0] rfl) hP hS
        · have hE := st_f hE hc11
          refine lv_iconst (v := 1) hx hb dX10_oddsNow_38 (by decide) ?_
          refine lv_goto (tgt := 43) hx hb dX10_oddsNow_39 (by decide) ?_
          refine lv_iadd hx hb dX10_oddsNow_43 ?_
          obtain ⟨v14, ev14, hE⟩ := st_bv hE
          refine nm_i ev14 ?_
          refine lv_istore (lv' := [(5, .int v14), (0, .ref (ad 0)), (1, .int a1), (2, .int a2), (3, .int a3), (4, .int a4), (6, .int c5)]) hx hb dX10_oddsNow_44 hl (by decide) rfl (fun ls hl => ?_)
          obtain ⟨v15, ev15, hE⟩ := st_bv hE
          refine lv_iinc (v := v15) (lv' := [(6, .int v15), (5, .int v14), (0, .ref (ad 0)), (1, .int a1), (2, .int a2), (3, .int a3), (4, .int a4)]) hx hb dX10_oddsNow_46 hl (k := 6) rfl (by rw [ev15]; rfl) (by decide) rfl (fun ls hl => ?_)
          refine lv_goto (tgt := 6) hx hb dX10_oddsNow_49 (by decide) ?_
          have hq := Option.some.inj hE
          subst hq
          exact hKt3 ls H locs (lv_sub hl [2, 3, 4, 5, 6, 1, 0] rfl) hP hS
  · intro ls H locs hl hP hS
    refine lv_iload hx hb dX10_oddsNow_52 (lv_at hl 3 rfl) ?_
    refine lv_if_ne (tgt := 60) hx hb dX10_oddsNow_54 (by decide) (fun hc16 => ?_) (fun hc16 => ?_)
    · have hE := st_f hE hc16
      refine lv_aload_n hx hb dX10_oddsNow_60 rfl (lv_at hl 0 rfl) ?_
      refine lv_iload_n hx hb dX10_oddsNow_61 rfl (lv_at hl 1 rfl) ?_
      obtain ⟨r17, hCr17, hE⟩ := st_bo hE
      refine g_calli (va_runV (As := [.int a3]) (rest := []) ⟨hx, hb, hml, hown, hts⟩ (k_X10_worldsNow hij hCr17) (cwV 1 hts (wz_V tw_5_39 tw_5_41 tp_33 tw_1_11 tw_5_42) rfl rfl rfl hdV_X10_worldsNow ⟨Nat.le_of_ble_eq_true rfl, Nat.le_of_ble_eq_true rfl⟩) (g_preV KR_st ZR_st hK hZ hP hS hK.1 ((q_Ref (ad := ad) (cI := cI) (cB := cB))).1 (er_o (q_Ref (ad := ad) (cI := cI) (cB := cB))) rfl) rfl rfl hl.1 rfl (lv_room (Nat.le_of_ble_eq_true rfl)) dX10_oddsNow_62 ⟨Nat.zero_le _, Nat.zero_le _⟩) hS (fun H locs hP hS => ?_)
      refine lv_istore (lv' := [(6, .int r17), (0, .ref (ad 0)), (3, .int a3), (4, .int a4), (5, .int x2)]) hx hb dX10_oddsNow_65 hl (by decide) rfl (fun ls hl => ?_)
      refine lv_iload hx hb dX10_oddsNow_67 (lv_at hl 4 rfl) ?_
      refine lv_iload hx hb dX10_oddsNow_69 (lv_at hl 0 rfl) ?_
      obtain ⟨r18, hCr18, hE⟩ := st_bo hE
      refine g_calli (va_runS (As := [.int x2, .int r17]) (rest := []) ⟨hx, hb, hml, hown, hts⟩ (k_X10_divisor hij (S0 := S0) hCr18) (va_cwS 2 hts (wz_S tw_5_59 tw_5_60 tw_1_11 tw_5_61) rfl rfl rfl hdS_X10_divisor ⟨Nat.le_of_ble_eq_true rfl, Nat.le_of_ble_eq_true rfl⟩) (g_preS KR_st ZR_st hK hZ hP hS) rfl rfl hl.1 rfl (lv_room (Nat.le_of_ble_eq_true rfl)) dX10_oddsNow_71 ⟨Nat.zero_le _, Nat.zero_le _⟩) hS (fun H locs hP hS => ?_)
      refine lv_istore (lv' := [(7, .int r18), (6, .int r17), (0, .ref (ad 0)), (3, .int a3), (4, .int a4), (5, .int x2)]) hx hb dX10_oddsNow_74 hl (by decide) rfl (fun ls hl => ?_)
      refine lv_iload hx hb dX10_oddsNow_76 (lv_at hl 4 rfl) ?_
      refine lv_if_ne (tgt := 89) hx hb dX10_oddsNow_78 (by decide) (fun hc19 => ?_) (fun hc19 => ?_)
      · have hE := st_f hE hc19
        refine lv_iload hx hb dX10_oddsNow_89 (lv_at hl 1 rfl) ?_
        refine lv_iload hx hb dX10_oddsNow_91 (lv_at hl 0 rfl) ?_
        obtain ⟨hn20, hE⟩ := st_gd hE
        refine lv_idiv hx hb dX10_oddsNow_93 (st_nz hn20) ?_
        replace hE := Option.some.inj hE
        subst hQQ
        exact g_iret hx hb hr hlocks hP hS hE rfl dX10_oddsNow_94
      · have hE := st_t hE hc19
        refine lv_iload hx hb dX10_oddsNow_81 (lv_at hl 5 rfl) ?_
        refine lv_iload hx hb dX10_oddsNow_83 (lv_at hl 0 rfl) ?_
        obtain ⟨hn21, hE⟩ := st_gd hE
        refine lv_idiv hx hb dX10_oddsNow_85 (st_nz hn21) ?_
        refine lv_goto (tgt := 94) hx hb dX10_oddsNow_86 (by decide) ?_
        replace hE := Option.some.inj hE
        subst hQQ
        exact g_iret hx hb hr hlocks hP hS hE rfl dX10_oddsNow_94
    · have hE := st_t hE hc16
      refine lv_iload hx hb dX10_oddsNow_57 (lv_at hl 2 rfl) ?_
      replace hE := Option.some.inj hE
      subst hQQ
      exact g_iret hx hb hr hlocks hP hS hE rfl dX10_oddsNow_59

def b_X10_readSights_9 (a2 : Int32) (c6 : Int32) (c7 : SR) : Option ((Int32 × SR) ⊕ ((Int32 × SR) ⊕ (Int32 × SR))) :=
  gd (inb a2 5) (if 3 ≤ (ri c7 15 (a2.toNatClampNeg)) then (some (.inr (.inl (c6, c7)))) else (bo (f_X10_isThing c7 c6) (fun (r10 : Int32) => if r10 = 0 then (some (.inr (.inl (c6, c7)))) else (bo (f_X10_isDigit c7 (c6 + 1) 0 3) (fun (r12 : Int32) => if r12 = 0 then (bv (ui c7 0 27 1) (fun S14 => some (.inr (.inr (c6 + 1, S14))))) else (bo (f_X10_sightAt c7 c6) (fun (r15 : Int32) => bo (f_X10_isTold c7 a2 r15) (fun (r16 : Int32) => if r16 = 0 then (gd (inb a2 5) (bo (f_X10_sightAt c7 c6) (fun (r19 : Int32) => gd (inb ((3 * a2) + (ri c7 15 (a2.toNatClampNeg))) 15) (bv (ui c7 14 (((3 * a2) + (ri c7 15 (a2.toNatClampNeg))).toNatClampNeg) r19) (fun S21 => gd (inb a2 5) (gd (inb a2 5) (bv (ui S21 15 (a2.toNatClampNeg) ((ri S21 15 (a2.toNatClampNeg)) + 1)) (fun S24 => bv (c6 + 2) (fun (v25 : Int32) => some (.inl (v25, S24))))))))))) else (bv (ui c7 0 27 1) (fun S26 => some (.inr (.inr (c6 + 1, S26)))))))))))))
def f_X10_readSights (S0 : SR) (a1 : Int32) (a2 : Int32) : Option (Int32 × SR) :=
  gd (inb a2 5) (bv (ui S0 15 (a2.toNatClampNeg) 0) (fun S2 => bo (lp (fun (s3 : Int32 × SR) => b_X10_readSights_9 a2 s3.1 s3.2) 5000 (a1, S2)) (fun (x4 : (Int32 × SR) ⊕ (Int32 × SR)) => Sum.elim (fun (x4 : Int32 × SR) => some (x4.1, x4.2)) (fun (x4 : Int32 × SR) => some x4) x4)))
abbrev rmX10_readSights : Room := { frames := 2, cells := 0, slots := 0, locals := 45 }
theorem hdV_X10_readSights : yX10_readSights.cls = "WitnessWallModel" ∧ yX10_readSights.cls ≠ "java/lang/invoke/MethodHandle" ∧ yX10_readSights.cls ≠ "java/lang/invoke/VarHandle" ∧ (parseMethodDescriptor yX10_readSights.desc).map (fun d => d.parameters.length) = some 2 := by decide +kernel
set_option maxHeartbeats 4000000 in
set_option maxRecDepth 100000 in
theorem k_X10_readSights {l : Launch} {D : va_G} {ad : Nat → Nat} {cI cB : ClassId} (hij : inj 31 ad)  {S0 : SR} {a1 : Int32} {a2 : Int32} {r : Int32} {Sr : SR} (hE : f_X10_readSights S0 a1 a2 = some (r, Sr)) {sz : Nat} : Met l yX10_readSights (wz yX10_readSights cX10_readSights 4 (some FieldType.int)) rmX10_readSights (PG 31 ad (er ad cI cB) D (KR D cI cB) ZR [.ref (ad 0), .int a1, .int a2] S0 sz) (QGi 31 ad (er ad cI cB) D r Sr sz) 0 0 (AD 31 ad sz) := by
  unfold f_X10_readSights at hE
  refine g_start (cc := cX10_readSights) (maxL := 4) (ret := (some FieldType.int)) (Qc := fun sz => QGi 31 ad (er ad cI cB) D r Sr sz) (by decide) rfl (Nat.le_of_ble_eq_true rfl) ?_
  intro p e s m args below meth c H locs ls hx hb hr hts hown hlocks hml hK hZ hP hS hl
  replace hl : lv_has ls 4 [(0, .ref (ad 0)), (1, .int a1), (2, .int a2)] := hl
  obtain ⟨QQ, hQQ⟩ : ∃ q, q = MQ below (QGi 31 ad (er ad cI cB) D r Sr s.heap.size) args s 0 0 (AD 31 ad s.heap.size) := ⟨_, rfl⟩
  rw [← hQQ]
  refine lv_iload_n hx hb dX10_readSights_0 rfl (lv_at hl 1 rfl) ?_
  refine lv_istore_n (lv' := [(3, .int a1), (0, .ref (ad 0)), (1, .int a1), (2, .int a2)]) hx hb dX10_readSights_1 rfl hl (by decide) rfl (fun ls hl => ?_)
  refine lv_aload_n hx hb dX10_readSights_2 rfl (lv_at hl 1 rfl) ?_
  refine r_get (v := .ref (ad 15)) hx hb hts (fun w h => wz_m (inX10 w h)) hown hK hP (q_Ref (ad := ad) (cI := cI) (cB := cB)) rfl 24 (by decide) (hts _ (wz_m tw_3_180)) (fun _ h9 => h9) rfl dX10_readSights_3 ?_
  refine lv_iload_n hx hb dX10_readSights_6 rfl (lv_at hl 3 rfl) ?_
  refine lv_iconst (v := 0) hx hb dX10_readSights_7 (by decide) ?_
  obtain ⟨hi1, hE⟩ := st_gd hE
  refine r_iast hij hx hb hK hP hS qr_15 hi1 dX10_readSights_8 (fun H locs hP hS => ?_)
  obtain ⟨S2, eS2, hE⟩ := st_bv hE
  rw [← eS2] at hP
  obtain ⟨x4, hx4, hE⟩ := st_bo hE
  refine lp_walk (body := fun (s3 : Int32 × SR) => b_X10_readSights_9 a2 s3.1 s3.2) (fun s3 => ∀ (ls : Array Slot) (H : Heap) (locs : List Loc), lv_has ls 4 [(0, .ref (ad 0)), (2, .int a2), (3, .int s3.1)] → rP D ad cI cB s3.2 H → rS ad s H locs → W p l e rmX10_readSights s m args below meth c H locs 0 0 QQ (F0 m 9 ls [])) (fun x4 => Sum.elim (fun x4 => ∀ (ls : Array Slot) (H : Heap) (locs : List Loc), lv_has ls 4 [(3, .int x4.1)] → rP D ad cI cB x4.2 H → rS ad s H locs → W p l e rmX10_readSights s m args below meth c H locs 0 0 QQ (F0 m 97 ls [])) (fun x4 => x4 = (r, Sr)) x4) ?_ _ _ _ hx4 ?_ ls H locs (lv_sub hl [1, 3, 0] rfl) hP hS
  · intro s3 t5 hE hKt5 ls H locs hl hP hS
    obtain ⟨c6, c7⟩ := s3
    replace hE : b_X10_readSights_9 a2 c6 c7 = some t5 := hE
    replace hl : lv_has ls 4 [(0, .ref (ad 0)), (2, .int a2), (3, .int c6)] := hl
    replace hP : rP D ad cI cB c7 H := hP
    unfold b_X10_readSights_9 at hE
    refine lv_aload_n hx hb dX10_readSights_9 rfl (lv_at hl 0 rfl) ?_
    refine r_get (v := .ref (ad 15)) hx hb hts (fun w h => wz_m (inX10 w h)) hown hK hP (q_Ref (ad := ad) (cI := cI) (cB := cB)) rfl 24 (by decide) (hts _ (wz_m tw_3_180)) (fun _ h9 => h9) rfl dX10_readSights_10 ?_
    refine lv_iload_n hx hb dX10_readSights_13 rfl (lv_at hl 1 rfl) ?_
    obtain ⟨hi8, hE⟩ := st_gd hE
    refine r_iald hx hb hK hP qr_15 hi8 dX10_readSights_14 ?_
    refine lv_iconst (v := 3) hx hb dX10_readSights_15 (by decide) ?_
    refine lv_icmp_ge (tgt := 97) hx hb dX10_readSights_16 (by decide) (fun hc9 => ?_) (fun hc9 => ?_)
    · have hE := st_t hE hc9
      have hq := Option.some.inj hE
      subst hq
      exact hKt5 ls H locs (lv_sub hl [2] rfl) hP hS
    · have hE := st_f hE hc9
      refine lv_aload_n hx hb dX10_readSights_19 rfl (lv_at hl 0 rfl) ?_
      refine lv_iload_n hx hb dX10_readSights_20 rfl (lv_at hl 2 rfl) ?_
      obtain ⟨r10, hCr10, hE⟩ := st_bo hE
      refine g_calli (va_runV (As := [.int c6]) (rest := []) ⟨hx, hb, hml, hown, hts⟩ (k_X10_isThing hij hCr10) (cwV 1 hts (wz_V tw_4_96 tw_4_98 tp_6 tw_1_11 tw_4_99) rfl rfl rfl hdV_X10_isThing ⟨Nat.le_of_ble_eq_true rfl, Nat.le_of_ble_eq_true rfl⟩) (g_preV KR_st ZR_st hK hZ hP hS hK.1 ((q_Ref (ad := ad) (cI := cI) (cB := cB))).1 (er_o (q_Ref (ad := ad) (cI := cI) (cB := cB))) rfl) rfl rfl hl.1 rfl (lv_room (Nat.le_of_ble_eq_true rfl)) dX10_readSights_21 ⟨Nat.zero_le _, Nat.zero_le _⟩) hS (fun H locs hP hS => ?_)
      refine lv_if_eq (tgt := 97) hx hb dX10_readSights_24 (by decide) (fun hc11 => ?_) (fun hc11 => ?_)
      · have hE := st_t hE hc11
        have hq := Option.some.inj hE
        subst hq
        exact hKt5 ls H locs (lv_sub hl [2] rfl) hP hS
      · have hE := st_f hE hc11
        refine lv_aload_n hx hb dX10_readSights_27 rfl (lv_at hl 0 rfl) ?_
        refine lv_iload_n hx hb dX10_readSights_28 rfl (lv_at hl 2 rfl) ?_
        refine lv_iconst (v := 1) hx hb dX10_readSights_29 (by decide) ?_
        refine lv_iadd hx hb dX10_readSights_30 ?_
        refine lv_iconst (v := 0) hx hb dX10_readSights_31 (by decide) ?_
        refine lv_iconst (v := 3) hx hb dX10_readSights_32 (by decide) ?_
        obtain ⟨r12, hCr12, hE⟩ := st_bo hE
        refine g_calli (va_runV (As := [.int (c6 + 1), .int 0, .int 3]) (rest := []) ⟨hx, hb, hml, hown, hts⟩ (k_X10_isDigit hij hCr12) (cwV 3 hts (wz_V tw_4_100 tw_4_102 tp_7 tw_1_11 tw_4_103) rfl rfl rfl hdV_X10_isDigit ⟨Nat.le_of_ble_eq_true rfl, Nat.le_of_ble_eq_true rfl⟩) (g_preV KR_st ZR_st hK hZ hP hS hK.1 ((q_Ref (ad := ad) (cI := cI) (cB := cB))).1 (er_o (q_Ref (ad := ad) (cI := cI) (cB := cB))) rfl) rfl rfl hl.1 rfl (lv_room (Nat.le_of_ble_eq_true rfl)) dX10_readSights_33 ⟨Nat.zero_le _, Nat.zero_le _⟩) hS (fun H locs hP hS => ?_)
        refine lv_if_eq (tgt := 52) hx hb dX10_readSights_36 (by decide) (fun hc13 => ?_) (fun hc13 => ?_)
        · have hE := st_t hE hc13
          refine lv_aload_n hx hb dX10_readSights_52 rfl (lv_at hl 0 rfl) ?_
          refine lv_iconst (v := 1) hx hb dX10_readSights_53 (by decide) ?_
          refine r_put hij hx hb hts (fun w h => wz_m (inX10 w h)) tyX10 tyX10_ok nmX10 hown hK hP hS (q_Ref (ad := ad) (cI := cI) (cB := cB)) rfl 27 (by decide) (hts _ (wz_m tw_3_183)) (fun _ h9 => h9) rfl rfl rfl (fun _ _ => Nat.le_of_ble_eq_true rfl) (fun _ _ => rfl) dX10_readSights_54 (fun H locs hP hS => ?_)
          obtain ⟨S14, eS14, hE⟩ := st_bv hE
          rw [← eS14] at hP
          refine lv_iload_n hx hb dX10_readSights_57 rfl (lv_at hl 2 rfl) ?_
          refine lv_iconst (v := 1) hx hb dX10_readSights_58 (by decide) ?_
          refine lv_iadd hx hb dX10_readSights_59 ?_
          have hq := Option.some.inj hE
          subst hq
          replace hE : (c6 + 1, S14) = (r, Sr) := hKt5
          have hq := Prod.mk.inj hE
          subst hQQ
          exact g_iret hx hb hr hlocks hP hS hq.1 hq.2 dX10_readSights_60
        · have hE := st_f hE hc13
          refine lv_aload_n hx hb dX10_readSights_39 rfl (lv_at hl 0 rfl) ?_
          refine lv_iload_n hx hb dX10_readSights_40 rfl (lv_at hl 1 rfl) ?_
          refine lv_aload_n hx hb dX10_readSights_41 rfl (lv_at hl 0 rfl) ?_
          refine lv_iload_n hx hb dX10_readSights_42 rfl (lv_at hl 2 rfl) ?_
          obtain ⟨r15, hCr15, hE⟩ := st_bo hE
          refine g_calli (va_runV (As := [.int c6]) (rest := [.int a2, .ref (ad 0)]) ⟨hx, hb, hml, hown, hts⟩ (k_X10_sightAt hij hCr15) (cwV 1 hts (wz_V tw_4_104 tw_4_106 tp_8 tw_1_11 tw_4_107) rfl rfl rfl hdV_X10_sightAt ⟨Nat.le_of_ble_eq_true rfl, Nat.le_of_ble_eq_true rfl⟩) (g_preV KR_st ZR_st hK hZ hP hS hK.1 ((q_Ref (ad := ad) (cI := cI) (cB := cB))).1 (er_o (q_Ref (ad := ad) (cI := cI) (cB := cB))) rfl) rfl rfl hl.1 rfl (lv_room (Nat.le_of_ble_eq_true rfl)) dX10_readSights_43 ⟨Nat.zero_le _, Nat.zero_le _⟩) hS (fun H locs hP hS => ?_)
          obtain ⟨r16, hCr16, hE⟩ := st_bo hE
          refine g_calli (va_runV (As := [.int a2, .int r15]) (rest := []) ⟨hx, hb, hml, hown, hts⟩ (k_X10_isTold hij hCr16) (cwV 2 hts (wz_V tw_4_108 tw_4_110 tp_9 tw_1_11 tw_4_111) rfl rfl rfl hdV_X10_isTold ⟨Nat.le_of_ble_eq_true rfl, Nat.le_of_ble_eq_true rfl⟩) (g_preV KR_st ZR_st hK hZ hP hS hK.1 ((q_Ref (ad := ad) (cI := cI) (cB := cB))).1 (er_o (q_Ref (ad := ad) (cI := cI) (cB := cB))) rfl) rfl rfl hl.1 rfl (lv_room (Nat.le_of_ble_eq_true rfl)) dX10_readSights_46 ⟨Nat.zero_le _, Nat.zero_le _⟩) hS (fun H locs hP hS => ?_)
          refine lv_if_eq (tgt := 61) hx hb dX10_readSights_49 (by decide) (fun hc17 => ?_) (fun hc17 => ?_)
          · have hE := st_t hE hc17
            refine lv_aload_n hx hb dX10_readSights_61 rfl (lv_at hl 0 rfl) ?_
            refine r_get (v := .ref (ad 14)) hx hb hts (fun w h => wz_m (inX10 w h)) hown hK hP (q_Ref (ad := ad) (cI := cI) (cB := cB)) rfl 23 (by decide) (hts _ (wz_m tw_3_179)) (fun _ h9 => h9) rfl dX10_readSights_62 ?_
            refine lv_iconst (v := 3) hx hb dX10_readSights_65 (by decide) ?_
            refine lv_iload_n hx hb dX10_readSights_66 rfl (lv_at hl 1 rfl) ?_
            refine lv_imul hx hb dX10_readSights_67 ?_
            refine lv_aload_n hx hb dX10_readSights_68 rfl (lv_at hl 0 rfl) ?_
            refine r_get (v := .ref (ad 15)) hx hb hts (fun w h => wz_m (inX10 w h)) hown hK hP (q_Ref (ad := ad) (cI := cI) (cB := cB)) rfl 24 (by decide) (hts _ (wz_m tw_3_180)) (fun _ h9 => h9) rfl dX10_readSights_69 ?_
            refine lv_iload_n hx hb dX10_readSights_72 rfl (lv_at hl 1 rfl) ?_
            obtain ⟨hi18, hE⟩ := st_gd hE
            refine r_iald hx hb hK hP qr_15 hi18 dX10_readSights_73 ?_
            refine lv_iadd hx hb dX10_readSights_74 ?_
            refine lv_aload_n hx hb dX10_readSights_75 rfl (lv_at hl 0 rfl) ?_
            refine lv_iload_n hx hb dX10_readSights_76 rfl (lv_at hl 2 rfl) ?_
            obtain ⟨r19, hCr19, hE⟩ := st_bo hE
            refine g_calli (va_runV (As := [.int c6]) (rest := [.int ((3 * a2) + (ri c7 15 (a2.toNatClampNeg))), .ref (ad 14)]) ⟨hx, hb, hml, hown, hts⟩ (k_X10_sightAt hij hCr19) (cwV 1 hts (wz_V tw_4_104 tw_4_106 tp_8 tw_1_11 tw_4_107) rfl rfl rfl hdV_X10_sightAt ⟨Nat.le_of_ble_eq_true rfl, Nat.le_of_ble_eq_true rfl⟩) (g_preV KR_st ZR_st hK hZ hP hS hK.1 ((q_Ref (ad := ad) (cI := cI) (cB := cB))).1 (er_o (q_Ref (ad := ad) (cI := cI) (cB := cB))) rfl) rfl rfl hl.1 rfl (lv_room (Nat.le_of_ble_eq_true rfl)) dX10_readSights_77 ⟨Nat.zero_le _, Nat.zero_le _⟩) hS (fun H locs hP hS => ?_)
            obtain ⟨hi20, hE⟩ := st_gd hE
            refine r_iast hij hx hb hK hP hS qr_14 hi20 dX10_readSights_80 (fun H locs hP hS => ?_)
            obtain ⟨S21, eS21, hE⟩ := st_bv hE
            rw [← eS21] at hP
            refine lv_aload_n hx hb dX10_readSights_81 rfl (lv_at hl 0 rfl) ?_
            refine r_get (v := .ref (ad 15)) hx hb hts (fun w h => wz_m (inX10 w h)) hown hK hP (q_Ref (ad := ad) (cI := cI) (cB := cB)) rfl 24 (by decide) (hts _ (wz_m tw_3_180)) (fun _ h9 => h9) rfl dX10_readSights_82 ?_
            refine lv_iload_n hx hb dX10_readSights_85 rfl (lv_at hl 1 rfl) ?_
            refine lv_dup2_11 hx hb dX10_readSights_86 rfl rfl ?_
            obtain ⟨hi22, hE⟩ := st_gd hE
            refine r_iald hx hb hK hP qr_15 hi22 dX10_readSights_87 ?_
            refine lv_iconst (v := 1) hx hb dX10_readSights_88 (by decide) ?_
            refine lv_iadd hx hb dX10_readSights_89 ?_
            obtain ⟨hi23, hE⟩ := st_gd hE
            refine r_iast hij hx hb hK hP hS qr_15 hi23 dX10_readSights_90 (fun H locs hP hS => ?_)
            obtain ⟨S24, eS24, hE⟩ := st_bv hE
            rw [← eS24] at hP
            obtain ⟨v25, ev25, hE⟩ := st_bv hE
            refine lv_iinc (v := v25) (lv' := [(3, .int v25), (0, .ref (ad 0)), (2, .int a2)]) hx hb dX10_readSights_91 hl (k := 2) rfl (by rw [ev25]; rfl) (by decide) rfl (fun ls hl => ?_)
            refine lv_goto (tgt := 9) hx hb dX10_readSights_94 (by decide) ?_
            have hq := Option.some.inj hE
            subst hq
            exact hKt5 ls H locs (lv_sub hl [1, 2, 0] rfl) hP hS
          · have hE := st_f hE hc17
            refine lv_aload_n hx hb dX10_readSights_52 rfl (lv_at hl 0 rfl) ?_
            refine lv_iconst (v := 1) hx hb dX10_readSights_53 (by decide) ?_
            refine r_put hij hx hb hts (fun w h => wz_m (inX10 w h)) tyX10 tyX10_ok nmX10 hown hK hP hS (q_Ref (ad := ad) (cI := cI) (cB := cB)) rfl 27 (by decide) (hts _ (wz_m tw_3_183)) (fun _ h9 => h9) rfl rfl rfl (fun _ _ => Nat.le_of_ble_eq_true rfl) (fun _ _ => rfl) dX10_readSights_54 (fun H locs hP hS => ?_)
            obtain ⟨S26, eS26, hE⟩ := st_bv hE
            rw [← eS26] at hP
            refine lv_iload_n hx hb dX10_readSights_57 rfl (lv_at hl 2 rfl) ?_
            refine lv_iconst (v := 1) hx hb dX10_readSights_58 (by decide) ?_
            refine lv_iadd hx hb dX10_readSights_59 ?_
            have hq := Option.some.inj hE
            subst hq
            replace hE : (c6 + 1, S26) = (r, Sr) := hKt5
            have hq := Prod.mk.inj hE
            subst hQQ
            exact g_iret hx hb hr hlocks hP hS hq.1 hq.2 dX10_readSights_60
  · rcases x4 with x4 | x4
    · replace hE := st_el hE
      intro ls H locs hl hP hS
      refine lv_iload_n hx hb dX10_readSights_97 rfl (lv_at hl 0 rfl) ?_
      replace hE := Option.some.inj hE
      have hq := Prod.mk.inj hE
      subst hQQ
      exact g_iret hx hb hr hlocks hP hS hq.1 hq.2 dX10_readSights_98
    · replace hE := st_er hE
      exact Option.some.inj hE
def b_X10_readWitnesses_2 (c4 : Int32) (c5 : SR) : Option ((Int32 × SR) ⊕ (Int32 × SR)) :=
  bo (f_X10_at c5 c4) (fun (r6 : Int32) => bo (f_X10_kindBy r6) (fun (r7 : Int32) => gd (inb (ri c5 0 20) 5) (bv (ui c5 13 ((ri c5 0 20).toNatClampNeg) r7) (fun S9 => gd (inb (ri S9 0 20) 5) (if (ri S9 13 ((ri S9 0 20).toNatClampNeg)) = (-1) then (bv (ui S9 0 27 1) (fun S19 => some (.inr (c4, S19)))) else (bo (f_X10_readSights S9 (c4 + 1) (ri S9 0 20)) (fun (r12 : Int32 × SR) => if (ri r12.2 0 27) = 0 then (bv (ui r12.2 0 20 ((ri r12.2 0 20) + 1)) (fun S14 => if (ri S14 0 20) = 5 then (some (.inr (r12.1, S14))) else (bo (f_X10_at S14 r12.1) (fun (r16 : Int32) => if r16 = 44 then (bv (r12.1 + 1) (fun (v18 : Int32) => some (.inl (v18, S14)))) else (some (.inr (r12.1, S14))))))) else (some (.inr (r12.1, r12.2))))))))))
def f_X10_readWitnesses (S0 : SR) : Option (Int32 × SR) :=
  bo (lp (fun (s1 : Int32 × SR) => b_X10_readWitnesses_2 s1.1 s1.2) 5000 (0, S0)) (fun (x2 : Int32 × SR) => some x2)
abbrev rmX10_readWitnesses : Room := { frames := 3, cells := 0, slots := 0, locals := 68 }
theorem hdV_X10_readWitnesses : yX10_readWitnesses.cls = "WitnessWallModel" ∧ yX10_readWitnesses.cls ≠ "java/lang/invoke/MethodHandle" ∧ yX10_readWitnesses.cls ≠ "java/lang/invoke/VarHandle" ∧ (parseMethodDescriptor yX10_readWitnesses.desc).map (fun d => d.parameters.length) = some 0 := by decide +kernel
set_option maxHeartbeats 4000000 in
set_option maxRecDepth 100000 in
theorem k_X10_readWitnesses {l : Launch} {D : va_G} {ad : Nat → Nat} {cI cB : ClassId} (hij : inj 31 ad)  {S0 : SR} {r : Int32} {Sr : SR} (hE : f_X10_readWitnesses S0 = some (r, Sr)) {sz : Nat} : Met l yX10_readWitnesses (wz yX10_readWitnesses cX10_readWitnesses 2 (some FieldType.int)) rmX10_readWitnesses (PG 31 ad (er ad cI cB) D (KR D cI cB) ZR [.ref (ad 0)] S0 sz) (QGi 31 ad (er ad cI cB) D r Sr sz) 0 0 (AD 31 ad sz) := by
  unfold f_X10_readWitnesses at hE
  refine g_start (cc := cX10_readWitnesses) (maxL := 2) (ret := (some FieldType.int)) (Qc := fun sz => QGi 31 ad (er ad cI cB) D r Sr sz) (by decide) rfl (Nat.le_of_ble_eq_true rfl) ?_
  intro p e s m args below meth c H locs ls hx hb hr hts hown hlocks hml hK hZ hP hS hl
  replace hl : lv_has ls 2 [(0, .ref (ad 0))] := hl
  obtain ⟨QQ, hQQ⟩ : ∃ q, q = MQ below (QGi 31 ad (er ad cI cB) D r Sr s.heap.size) args s 0 0 (AD 31 ad s.heap.size) := ⟨_, rfl⟩
  rw [← hQQ]
  refine lv_iconst (v := 0) hx hb dX10_readWitnesses_0 (by decide) ?_
  refine lv_istore_n (lv' := [(1, .int 0), (0, .ref (ad 0))]) hx hb dX10_readWitnesses_1 rfl hl (by decide) rfl (fun ls hl => ?_)
  obtain ⟨x2, hx2, hE⟩ := st_bo hE
  refine lp_walk (body := fun (s1 : Int32 × SR) => b_X10_readWitnesses_2 s1.1 s1.2) (fun s1 => ∀ (ls : Array Slot) (H : Heap) (locs : List Loc), lv_has ls 2 [(0, .ref (ad 0)), (1, .int s1.1)] → rP D ad cI cB s1.2 H → rS ad s H locs → W p l e rmX10_readWitnesses s m args below meth c H locs 0 0 QQ (F0 m 2 ls [])) (fun x2 => x2 = (r, Sr)) ?_ _ _ _ hx2 ?_ ls H locs (lv_sub hl [1, 0] rfl) hP hS
  · intro s1 t3 hE hKt3 ls H locs hl hP hS
    obtain ⟨c4, c5⟩ := s1
    replace hE : b_X10_readWitnesses_2 c4 c5 = some t3 := hE
    replace hl : lv_has ls 2 [(0, .ref (ad 0)), (1, .int c4)] := hl
    replace hP : rP D ad cI cB c5 H := hP
    unfold b_X10_readWitnesses_2 at hE
    refine lv_aload_n hx hb dX10_readWitnesses_2 rfl (lv_at hl 0 rfl) ?_
    refine r_get (v := .ref (ad 13)) hx hb hts (fun w h => wz_m (inX10 w h)) hown hK hP (q_Ref (ad := ad) (cI := cI) (cB := cB)) rfl 22 (by decide) (hts _ (wz_m tw_3_178)) (fun _ h9 => h9) rfl dX10_readWitnesses_3 ?_
    refine lv_aload_n hx hb dX10_readWitnesses_6 rfl (lv_at hl 0 rfl) ?_
    refine r_get (v := .int (ri c5 0 20)) hx hb hts (fun w h => wz_m (inX10 w h)) hown hK hP (q_Ref (ad := ad) (cI := cI) (cB := cB)) rfl 20 (by decide) (hts _ (wz_m tw_3_176)) (fun _ h9 => h9) rfl dX10_readWitnesses_7 ?_
    refine lv_aload_n hx hb dX10_readWitnesses_10 rfl (lv_at hl 0 rfl) ?_
    refine lv_iload_n hx hb dX10_readWitnesses_11 rfl (lv_at hl 1 rfl) ?_
    obtain ⟨r6, hCr6, hE⟩ := st_bo hE
    refine g_calli (va_runV (As := [.int c4]) (rest := [.int (ri c5 0 20), .ref (ad 13)]) ⟨hx, hb, hml, hown, hts⟩ (k_X10_at hij hCr6) (cwV 1 hts (wz_V tw_4_85 tw_4_87 tp_4 tw_1_11 tw_4_88) rfl rfl rfl hdV_X10_at ⟨Nat.le_of_ble_eq_true rfl, Nat.le_of_ble_eq_true rfl⟩) (g_preV KR_st ZR_st hK hZ hP hS hK.1 ((q_Ref (ad := ad) (cI := cI) (cB := cB))).1 (er_o (q_Ref (ad := ad) (cI := cI) (cB := cB))) rfl) rfl rfl hl.1 rfl (lv_room (Nat.le_of_ble_eq_true rfl)) dX10_readWitnesses_12 ⟨Nat.zero_le _, Nat.zero_le _⟩) hS (fun H locs hP hS => ?_)
    obtain ⟨r7, hCr7, hE⟩ := st_bo hE
    refine g_calli (va_runS (As := [.int r6]) (rest := [.int (ri c5 0 20), .ref (ad 13)]) ⟨hx, hb, hml, hown, hts⟩ (k_X10_kindBy hij (S0 := c5) hCr7) (va_cwS 1 hts (wz_S tw_4_89 tw_4_90 tw_1_11 tw_4_91) rfl rfl rfl hdS_X10_kindBy ⟨Nat.le_of_ble_eq_true rfl, Nat.le_of_ble_eq_true rfl⟩) (g_preS KR_st ZR_st hK hZ hP hS) rfl rfl hl.1 rfl (lv_room (Nat.le_of_ble_eq_true rfl)) dX10_readWitnesses_15 ⟨Nat.zero_le _, Nat.zero_le _⟩) hS (fun H locs hP hS => ?_)
    obtain ⟨hi8, hE⟩ := st_gd hE
    refine r_iast hij hx hb hK hP hS qr_13 hi8 dX10_readWitnesses_18 (fun H locs hP hS => ?_)
    obtain ⟨S9, eS9, hE⟩ := st_bv hE
    rw [← eS9] at hP
    refine lv_aload_n hx hb dX10_readWitnesses_19 rfl (lv_at hl 0 rfl) ?_
    refine r_get (v := .ref (ad 13)) hx hb hts (fun w h => wz_m (inX10 w h)) hown hK hP (q_Ref (ad := ad) (cI := cI) (cB := cB)) rfl 22 (by decide) (hts _ (wz_m tw_3_178)) (fun _ h9 => h9) rfl dX10_readWitnesses_20 ?_
    refine lv_aload_n hx hb dX10_readWitnesses_23 rfl (lv_at hl 0 rfl) ?_
    refine r_get (v := .int (ri S9 0 20)) hx hb hts (fun w h => wz_m (inX10 w h)) hown hK hP (q_Ref (ad := ad) (cI := cI) (cB := cB)) rfl 20 (by decide) (hts _ (wz_m tw_3_176)) (fun _ h9 => h9) rfl dX10_readWitnesses_24 ?_
    obtain ⟨hi10, hE⟩ := st_gd hE
    refine r_iald hx hb hK hP qr_13 hi10 dX10_readWitnesses_27 ?_
    refine lv_iconst (v := (-1)) hx hb dX10_readWitnesses_28 (by decide) ?_
    refine lv_icmp_ne (tgt := 39) hx hb dX10_readWitnesses_29 (by decide) (fun hc11 => ?_) (fun hc11 => ?_)
    · have hE := st_f hE hc11
      refine lv_aload_n hx hb dX10_readWitnesses_39 rfl (lv_at hl 0 rfl) ?_
      refine lv_iload_n hx hb dX10_readWitnesses_40 rfl (lv_at hl 1 rfl) ?_
      refine lv_iconst (v := 1) hx hb dX10_readWitnesses_41 (by decide) ?_
      refine lv_iadd hx hb dX10_readWitnesses_42 ?_
      refine lv_aload_n hx hb dX10_readWitnesses_43 rfl (lv_at hl 0 rfl) ?_
      refine r_get (v := .int (ri S9 0 20)) hx hb hts (fun w h => wz_m (inX10 w h)) hown hK hP (q_Ref (ad := ad) (cI := cI) (cB := cB)) rfl 20 (by decide) (hts _ (wz_m tw_3_176)) (fun _ h9 => h9) rfl dX10_readWitnesses_44 ?_
      obtain ⟨r12, hCr12, hE⟩ := st_bo hE
      refine g_calli (va_runV (As := [.int (c4 + 1), .int (ri S9 0 20)]) (rest := []) ⟨hx, hb, hml, hown, hts⟩ (k_X10_readSights hij hCr12) (cwV 2 hts (wz_V tw_4_92 tw_4_94 tp_5 tw_1_11 tw_4_95) rfl rfl rfl hdV_X10_readSights ⟨Nat.le_of_ble_eq_true rfl, Nat.le_of_ble_eq_true rfl⟩) (g_preV KR_st ZR_st hK hZ hP hS hK.1 ((q_Ref (ad := ad) (cI := cI) (cB := cB))).1 (er_o (q_Ref (ad := ad) (cI := cI) (cB := cB))) rfl) rfl rfl hl.1 rfl (lv_room (Nat.le_of_ble_eq_true rfl)) dX10_readWitnesses_47 ⟨Nat.zero_le _, Nat.zero_le _⟩) hS (fun H locs hP hS => ?_)
      refine lv_istore_n (lv' := [(1, .int r12.1), (0, .ref (ad 0))]) hx hb dX10_readWitnesses_50 rfl hl (by decide) rfl (fun ls hl => ?_)
      refine lv_aload_n hx hb dX10_readWitnesses_51 rfl (lv_at hl 1 rfl) ?_
      refine r_get (v := .int (ri r12.2 0 27)) hx hb hts (fun w h => wz_m (inX10 w h)) hown hK hP (q_Ref (ad := ad) (cI := cI) (cB := cB)) rfl 27 (by decide) (hts _ (wz_m tw_3_183)) (fun _ h9 => h9) rfl dX10_readWitnesses_52 ?_
      refine lv_if_eq (tgt := 60) hx hb dX10_readWitnesses_55 (by decide) (fun hc13 => ?_) (fun hc13 => ?_)
      · have hE := st_t hE hc13
        refine lv_aload_n hx hb dX10_readWitnesses_60 rfl (lv_at hl 1 rfl) ?_
        refine lv_dup hx hb dX10_readWitnesses_61 rfl ?_
        refine r_get (v := .int (ri r12.2 0 20)) hx hb hts (fun w h => wz_m (inX10 w h)) hown hK hP (q_Ref (ad := ad) (cI := cI) (cB := cB)) rfl 20 (by decide) (hts _ (wz_m tw_3_176)) (fun _ h9 => h9) rfl dX10_readWitnesses_62 ?_
        refine lv_iconst (v := 1) hx hb dX10_readWitnesses_65 (by decide) ?_
        refine lv_iadd hx hb dX10_readWitnesses_66 ?_
        refine r_put hij hx hb hts (fun w h => wz_m (inX10 w h)) tyX10 tyX10_ok nmX10 hown hK hP hS (q_Ref (ad := ad) (cI := cI) (cB := cB)) rfl 20 (by decide) (hts _ (wz_m tw_3_176)) (fun _ h9 => h9) rfl rfl rfl (fun _ _ => Nat.le_of_ble_eq_true rfl) (fun _ _ => rfl) dX10_readWitnesses_67 (fun H locs hP hS => ?_)
        obtain ⟨S14, eS14, hE⟩ := st_bv hE
        rw [← eS14] at hP
        refine lv_aload_n hx hb dX10_readWitnesses_70 rfl (lv_at hl 1 rfl) ?_
        refine r_get (v := .int (ri S14 0 20)) hx hb hts (fun w h => wz_m (inX10 w h)) hown hK hP (q_Ref (ad := ad) (cI := cI) (cB := cB)) rfl 20 (by decide) (hts _ (wz_m tw_3_176)) (fun _ h9 => h9) rfl dX10_readWitnesses_71 ?_
        refine lv_iconst (v := 5) hx hb dX10_readWitnesses_74 (by decide) ?_
        refine lv_icmp_eq (tgt := 88) hx hb dX10_readWitnesses_75 (by decide) (fun hc15 => ?_) (fun hc15 => ?_)
        · have hE := st_t hE hc15
          refine lv_iload_n hx hb dX10_readWitnesses_88 rfl (lv_at hl 0 rfl) ?_
          have hq := Option.some.inj hE
          subst hq
          replace hE : (r12.1, S14) = (r, Sr) := hKt3
          have hq := Prod.mk.inj hE
          subst hQQ
          exact g_iret hx hb hr hlocks hP hS hq.1 hq.2 dX10_readWitnesses_89
        · have hE := st_f hE hc15
          refine lv_aload_n hx hb dX10_readWitnesses_78 rfl (lv_at hl 1 rfl) ?_
          refine lv_iload_n hx hb dX10_readWitnesses_79 rfl (lv_at hl 0 rfl) ?_
          obtain ⟨r16, hCr16, hE⟩ := st_bo hE
          refine g_calli (va_runV (As := [.int r12.1]) (rest := []) ⟨hx, hb, hml, hown, hts⟩ (k_X10_at hij hCr16) (cwV 1 hts (wz_V tw_4_85 tw_4_87 tp_4 tw_1_11 tw_4_88) rfl rfl rfl hdV_X10_at ⟨Nat.le_of_ble_eq_true rfl, Nat.le_of_ble_eq_true rfl⟩) (g_preV KR_st ZR_st hK hZ hP hS hK.1 ((q_Ref (ad := ad) (cI := cI) (cB := cB))).1 (er_o (q_Ref (ad := ad) (cI := cI) (cB := cB))) rfl) rfl rfl hl.1 rfl (lv_room (Nat.le_of_ble_eq_true rfl)) dX10_readWitnesses_80 ⟨Nat.zero_le _, Nat.zero_le _⟩) hS (fun H locs hP hS => ?_)
          refine lv_bipush (v := 44) hx hb dX10_readWitnesses_83 (by decide) ?_
          refine lv_icmp_eq (tgt := 90) hx hb dX10_readWitnesses_85 (by decide) (fun hc17 => ?_) (fun hc17 => ?_)
          · have hE := st_t hE hc17
            obtain ⟨v18, ev18, hE⟩ := st_bv hE
            refine lv_iinc (v := v18) (lv' := [(1, .int v18), (0, .ref (ad 0))]) hx hb dX10_readWitnesses_90 hl (k := 0) rfl (by rw [ev18]; rfl) (by decide) rfl (fun ls hl => ?_)
            refine lv_goto (tgt := 2) hx hb dX10_readWitnesses_93 (by decide) ?_
            have hq := Option.some.inj hE
            subst hq
            exact hKt3 ls H locs (lv_sub hl [1, 0] rfl) hP hS
          · have hE := st_f hE hc17
            refine lv_iload_n hx hb dX10_readWitnesses_88 rfl (lv_at hl 0 rfl) ?_
            have hq := Option.some.inj hE
            subst hq
            replace hE : (r12.1, S14) = (r, Sr) := hKt3
            have hq := Prod.mk.inj hE
            subst hQQ
            exact g_iret hx hb hr hlocks hP hS hq.1 hq.2 dX10_readWitnesses_89
      · have hE := st_f hE hc13
        refine lv_iload_n hx hb dX10_readWitnesses_58 rfl (lv_at hl 0 rfl) ?_
        have hq := Option.some.inj hE
        subst hq
        replace hE : (r12.1, r12.2) = (r, Sr) := hKt3
        have hq := Prod.mk.inj hE
        subst hQQ
        exact g_iret hx hb hr hlocks hP hS hq.1 hq.2 dX10_readWitnesses_59
    · have hE := st_t hE hc11
      refine lv_aload_n hx hb dX10_readWitnesses_32 rfl (lv_at hl 0 rfl) ?_
      refine lv_iconst (v := 1) hx hb dX10_readWitnesses_33 (by decide) ?_
      refine r_put hij hx hb hts (fun w h => wz_m (inX10 w h)) tyX10 tyX10_ok nmX10 hown hK hP hS (q_Ref (ad := ad) (cI := cI) (cB := cB)) rfl 27 (by decide) (hts _ (wz_m tw_3_183)) (fun _ h9 => h9) rfl rfl rfl (fun _ _ => Nat.le_of_ble_eq_true rfl) (fun _ _ => rfl) dX10_readWitnesses_34 (fun H locs hP hS => ?_)
      obtain ⟨S19, eS19, hE⟩ := st_bv hE
      rw [← eS19] at hP
      refine lv_iload_n hx hb dX10_readWitnesses_37 rfl (lv_at hl 1 rfl) ?_
      have hq := Option.some.inj hE
      subst hq
      replace hE : (c4, S19) = (r, Sr) := hKt3
      have hq := Prod.mk.inj hE
      subst hQQ
      exact g_iret hx hb hr hlocks hP hS hq.1 hq.2 dX10_readWitnesses_38
  · skip
    exact Option.some.inj hE

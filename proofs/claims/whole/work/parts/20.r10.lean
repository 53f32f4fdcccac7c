def b_X10_readCases_19 (c8 : Int32) (c9 : SR) : Option ((Int32 × SR) ⊕ ((Int32 × SR) ⊕ (Int32 × SR))) :=
  if 4 ≤ (ri c9 0 21) then (some (.inr (.inl (c8, c9)))) else (if 0 < (ri c9 0 21) then (bo (f_X10_isThing c9 c8) (fun (r12 : Int32) => if r12 = 0 then (some (.inr (.inr (c8, c9)))) else (bo (f_X10_isDigit c9 (c8 + 1) 1 6) (fun (r14 : Int32) => if r14 = 0 then (some (.inr (.inr (c8 + 1, c9)))) else (bo (f_X10_at c9 c8) (fun (r16 : Int32) => gd (inb (ri c9 0 21) 4) (bv (ui c9 16 ((ri c9 0 21).toNatClampNeg) (r16 - 97)) (fun S18 => bo (f_X10_at S18 (c8 + 1)) (fun (r19 : Int32) => gd (inb (ri S18 0 21) 4) (bv (ui S18 17 ((ri S18 0 21).toNatClampNeg) (r19 - 48)) (fun S21 => bv (ui S21 0 21 ((ri S21 0 21) + 1)) (fun S22 => bv (c8 + 2) (fun (v23 : Int32) => bo (if v23 = (ri S22 0 17) then (some 1) else (some 0)) (fun (q24 : Int32) => bv (ui S22 0 19 q24) (fun S27 => if (ri S27 0 21) = 4 then (some (.inr (.inr (v23, S27)))) else (bo (f_X10_at S27 v23) (fun (r29 : Int32) => if r29 = 44 then (bv (v23 + 1) (fun (v31 : Int32) => some (.inl (v31, S27)))) else (some (.inr (.inr (v23, S27))))))))))))))))))))) else (if (ri c9 0 19) = 0 then (bo (f_X10_isThing c9 c8) (fun (r33 : Int32) => if r33 = 0 then (some (.inr (.inr (c8, c9)))) else (bo (f_X10_isDigit c9 (c8 + 1) 1 6) (fun (r35 : Int32) => if r35 = 0 then (some (.inr (.inr (c8 + 1, c9)))) else (bo (f_X10_at c9 c8) (fun (r37 : Int32) => gd (inb (ri c9 0 21) 4) (bv (ui c9 16 ((ri c9 0 21).toNatClampNeg) (r37 - 97)) (fun S39 => bo (f_X10_at S39 (c8 + 1)) (fun (r40 : Int32) => gd (inb (ri S39 0 21) 4) (bv (ui S39 17 ((ri S39 0 21).toNatClampNeg) (r40 - 48)) (fun S42 => bv (ui S42 0 21 ((ri S42 0 21) + 1)) (fun S43 => bv (c8 + 2) (fun (v44 : Int32) => bo (if v44 = (ri S43 0 17) then (some 1) else (some 0)) (fun (q45 : Int32) => bv (ui S43 0 19 q45) (fun S48 => if (ri S48 0 21) = 4 then (some (.inr (.inr (v44, S48)))) else (bo (f_X10_at S48 v44) (fun (r50 : Int32) => if r50 = 44 then (bv (v44 + 1) (fun (v52 : Int32) => some (.inl (v52, S48)))) else (some (.inr (.inr (v44, S48))))))))))))))))))))) else (some (.inr (.inl (c8, c9))))))
def f_X10_readCases (S0 : SR) (a1 : Int32) : Option (Int32 × SR) :=
  bo (if a1 = (ri S0 0 17) then (some 1) else (some 0)) (fun (q1 : Int32) => bv (ui S0 0 19 q1) (fun S4 => bo (lp (fun (s5 : Int32 × SR) => b_X10_readCases_19 s5.1 s5.2) 5000 (a1, S4)) (fun (x6 : (Int32 × SR) ⊕ (Int32 × SR)) => Sum.elim (fun (x6 : Int32 × SR) => some (x6.1, x6.2)) (fun (x6 : Int32 × SR) => some x6) x6)))
abbrev rmX10_readCases : Room := { frames := 2, cells := 0, slots := 0, locals := 45 }
theorem hdV_X10_readCases : yX10_readCases.cls = "WitnessWallModel" ∧ yX10_readCases.cls ≠ "java/lang/invoke/MethodHandle" ∧ yX10_readCases.cls ≠ "java/lang/invoke/VarHandle" ∧ (parseMethodDescriptor yX10_readCases.desc).map (fun d => d.parameters.length) = some 1 := by decide +kernel
set_option maxHeartbeats 4000000 in
set_option maxRecDepth 100000 in
theorem k_X10_readCases {l : Launch} {D : va_G} {ad : Nat → Nat} {cI cB : ClassId} (hij : inj 31 ad)  {S0 : SR} {a1 : Int32} {r : Int32} {Sr : SR} (hE : f_X10_readCases S0 a1 = some (r, Sr)) {sz : Nat} : Met l yX10_readCases (wz yX10_readCases cX10_readCases 3 (some FieldType.int)) rmX10_readCases (PG 31 ad (er ad cI cB) D (KR D cI cB) ZR [.ref (ad 0), .int a1] S0 sz) (QGi 31 ad (er ad cI cB) D r Sr sz) 0 0 (AD 31 ad sz) := by
  unfold f_X10_readCases at hE
  refine g_start (cc := cX10_readCases) (maxL := 3) (ret := (some FieldType.int)) (Qc := fun sz => QGi 31 ad (er ad cI cB) D r Sr sz) (by decide) rfl (Nat.le_of_ble_eq_true rfl) ?_
  intro p e s m args below meth c H locs ls hx hb hr hts hown hlocks hml hK hZ hP hS hl
  replace hl : lv_has ls 3 [(0, .ref (ad 0)), (1, .int a1)] := hl
  obtain ⟨QQ, hQQ⟩ : ∃ q, q = MQ below (QGi 31 ad (er ad cI cB) D r Sr s.heap.size) args s 0 0 (AD 31 ad s.heap.size) := ⟨_, rfl⟩
  rw [← hQQ]
  refine lv_iload_n hx hb dX10_readCases_0 rfl (lv_at hl 1 rfl) ?_
  refine lv_istore_n (lv' := [(2, .int a1), (0, .ref (ad 0)), (1, .int a1)]) hx hb dX10_readCases_1 rfl hl (by decide) rfl (fun ls hl => ?_)
  refine lv_aload_n hx hb dX10_readCases_2 rfl (lv_at hl 1 rfl) ?_
  refine lv_iload_n hx hb dX10_readCases_3 rfl (lv_at hl 0 rfl) ?_
  refine lv_aload_n hx hb dX10_readCases_4 rfl (lv_at hl 1 rfl) ?_
  refine r_get (v := .int (ri S0 0 17)) hx hb hts (fun w h => wz_m (inX10 w h)) hown hK hP (q_Ref (ad := ad) (cI := cI) (cB := cB)) rfl 17 (by decide) (hts _ (wz_m tw_3_173)) (fun _ h9 => h9) rfl dX10_readCases_5 ?_
  obtain ⟨q1, hq1, hE⟩ := st_bo hE
  have J2 : ∀ (ls : Array Slot) (H : Heap) (locs : List Loc), lv_has ls 3 [(0, .ref (ad 0)), (2, .int a1)] → rP D ad cI cB S0 H → rS ad s H locs → W p l e rmX10_readCases s m args below meth c H locs 0 0 QQ (F0 m 16 ls [.int q1, .ref (ad 0)]) := by
    intro ls H locs hl hP hS
    refine r_put hij hx hb hts (fun w h => wz_m (inX10 w h)) tyX10 tyX10_ok nmX10 hown hK hP hS (q_Ref (ad := ad) (cI := cI) (cB := cB)) rfl 19 (by decide) (hts _ (wz_m tw_3_175)) (fun _ h9 => h9) rfl (by first | exact nb01 hq1 | exact nb10 hq1) (by first | exact nf01 hq1 | exact nf10 hq1) (fun _ _ => Nat.le_of_ble_eq_true rfl) (fun _ _ => rfl) dX10_readCases_16 (fun H locs hP hS => ?_)
    obtain ⟨S4, eS4, hE⟩ := st_bv hE
    rw [← eS4] at hP
    obtain ⟨x6, hx6, hE⟩ := st_bo hE
    refine lp_walk (body := fun (s5 : Int32 × SR) => b_X10_readCases_19 s5.1 s5.2) (fun s5 => ∀ (ls : Array Slot) (H : Heap) (locs : List Loc), lv_has ls 3 [(0, .ref (ad 0)), (2, .int s5.1)] → rP D ad cI cB s5.2 H → rS ad s H locs → W p l e rmX10_readCases s m args below meth c H locs 0 0 QQ (F0 m 19 ls [])) (fun x6 => Sum.elim (fun x6 => ∀ (ls : Array Slot) (H : Heap) (locs : List Loc), lv_has ls 3 [(2, .int x6.1)] → rP D ad cI cB x6.2 H → rS ad s H locs → W p l e rmX10_readCases s m args below meth c H locs 0 0 QQ (F0 m 160 ls [])) (fun x6 => x6 = (r, Sr)) x6) ?_ _ _ _ hx6 ?_ ls H locs (lv_sub hl [0, 1] rfl) hP hS
    · intro s5 t7 hE hKt7 ls H locs hl hP hS
      obtain ⟨c8, c9⟩ := s5
      replace hE : b_X10_readCases_19 c8 c9 = some t7 := hE
      replace hl : lv_has ls 3 [(0, .ref (ad 0)), (2, .int c8)] := hl
      replace hP : rP D ad cI cB c9 H := hP
      unfold b_X10_readCases_19 at hE
      refine lv_aload_n hx hb dX10_readCases_19 rfl (lv_at hl 0 rfl) ?_
      refine r_get (v := .int (ri c9 0 21)) hx hb hts (fun w h => wz_m (inX10 w h)) hown hK hP (q_Ref (ad := ad) (cI := cI) (cB := cB)) rfl 21 (by decide) (hts _ (wz_m tw_3_177)) (fun _ h9 => h9) rfl dX10_readCases_20 ?_
      refine lv_iconst (v := 4) hx hb dX10_readCases_23 (by decide) ?_
      refine lv_icmp_ge (tgt := 160) hx hb dX10_readCases_24 (by decide) (fun hc10 => ?_) (fun hc10 => ?_)
      · have hE := st_t hE hc10
        have hq := Option.some.inj hE
        subst hq
        exact hKt7 ls H locs (lv_sub hl [1] rfl) hP hS
      · have hE := st_f hE hc10
        refine lv_aload_n hx hb dX10_readCases_27 rfl (lv_at hl 0 rfl) ?_
        refine r_get (v := .int (ri c9 0 21)) hx hb hts (fun w h => wz_m (inX10 w h)) hown hK hP (q_Ref (ad := ad) (cI := cI) (cB := cB)) rfl 21 (by decide) (hts _ (wz_m tw_3_177)) (fun _ h9 => h9) rfl dX10_readCases_28 ?_
        refine lv_if_gt (tgt := 41) hx hb dX10_readCases_31 (by decide) (fun hc11 => ?_) (fun hc11 => ?_)
        · have hE := st_t hE hc11
          refine lv_aload_n hx hb dX10_readCases_41 rfl (lv_at hl 0 rfl) ?_
          refine lv_iload_n hx hb dX10_readCases_42 rfl (lv_at hl 1 rfl) ?_
          obtain ⟨r12, hCr12, hE⟩ := st_bo hE
          refine g_calli (va_runV (As := [.int c8]) (rest := []) ⟨hx, hb, hml, hown, hts⟩ (k_X10_isThing hij hCr12) (cwV 1 hts (wz_V tw_4_96 tw_4_98 tp_6 tw_1_11 tw_4_99) rfl rfl rfl hdV_X10_isThing ⟨Nat.le_of_ble_eq_true rfl, Nat.le_of_ble_eq_true rfl⟩) (g_preV KR_st ZR_st hK hZ hP hS hK.1 ((q_Ref (ad := ad) (cI := cI) (cB := cB))).1 (er_o (q_Ref (ad := ad) (cI := cI) (cB := cB))) rfl) rfl rfl hl.1 rfl (lv_room (Nat.le_of_ble_eq_true rfl)) dX10_readCases_43 ⟨Nat.zero_le _, Nat.zero_le _⟩) hS (fun H locs hP hS => ?_)
          refine lv_if_ne (tgt := 51) hx hb dX10_readCases_46 (by decide) (fun hc13 => ?_) (fun hc13 => ?_)
          · have hE := st_f hE hc13
            refine lv_aload_n hx hb dX10_readCases_51 rfl (lv_at hl 0 rfl) ?_
            refine lv_iload_n hx hb dX10_readCases_52 rfl (lv_at hl 1 rfl) ?_
            refine lv_iconst (v := 1) hx hb dX10_readCases_53 (by decide) ?_
            refine lv_iadd hx hb dX10_readCases_54 ?_
            refine lv_iconst (v := 1) hx hb dX10_readCases_55 (by decide) ?_
            refine lv_bipush (v := 6) hx hb dX10_readCases_56 (by decide) ?_
            obtain ⟨r14, hCr14, hE⟩ := st_bo hE
            refine g_calli (va_runV (As := [.int (c8 + 1), .int 1, .int 6]) (rest := []) ⟨hx, hb, hml, hown, hts⟩ (k_X10_isDigit hij hCr14) (cwV 3 hts (wz_V tw_4_100 tw_4_102 tp_7 tw_1_11 tw_4_103) rfl rfl rfl hdV_X10_isDigit ⟨Nat.le_of_ble_eq_true rfl, Nat.le_of_ble_eq_true rfl⟩) (g_preV KR_st ZR_st hK hZ hP hS hK.1 ((q_Ref (ad := ad) (cI := cI) (cB := cB))).1 (er_o (q_Ref (ad := ad) (cI := cI) (cB := cB))) rfl) rfl rfl hl.1 rfl (lv_room (Nat.le_of_ble_eq_true rfl)) dX10_readCases_58 ⟨Nat.zero_le _, Nat.zero_le _⟩) hS (fun H locs hP hS => ?_)
            refine lv_if_ne (tgt := 68) hx hb dX10_readCases_61 (by decide) (fun hc15 => ?_) (fun hc15 => ?_)
            · have hE := st_f hE hc15
              refine lv_aload_n hx hb dX10_readCases_68 rfl (lv_at hl 0 rfl) ?_
              refine r_get (v := .ref (ad 16)) hx hb hts (fun w h => wz_m (inX10 w h)) hown hK hP (q_Ref (ad := ad) (cI := cI) (cB := cB)) rfl 25 (by decide) (hts _ (wz_m tw_3_181)) (fun _ h9 => h9) rfl dX10_readCases_69 ?_
              refine lv_aload_n hx hb dX10_readCases_72 rfl (lv_at hl 0 rfl) ?_
              refine r_get (v := .int (ri c9 0 21)) hx hb hts (fun w h => wz_m (inX10 w h)) hown hK hP (q_Ref (ad := ad) (cI := cI) (cB := cB)) rfl 21 (by decide) (hts _ (wz_m tw_3_177)) (fun _ h9 => h9) rfl dX10_readCases_73 ?_
              refine lv_aload_n hx hb dX10_readCases_76 rfl (lv_at hl 0 rfl) ?_
              refine lv_iload_n hx hb dX10_readCases_77 rfl (lv_at hl 1 rfl) ?_
              obtain ⟨r16, hCr16, hE⟩ := st_bo hE
              refine g_calli (va_runV (As := [.int c8]) (rest := [.int (ri c9 0 21), .ref (ad 16)]) ⟨hx, hb, hml, hown, hts⟩ (k_X10_at hij hCr16) (cwV 1 hts (wz_V tw_4_85 tw_4_87 tp_4 tw_1_11 tw_4_88) rfl rfl rfl hdV_X10_at ⟨Nat.le_of_ble_eq_true rfl, Nat.le_of_ble_eq_true rfl⟩) (g_preV KR_st ZR_st hK hZ hP hS hK.1 ((q_Ref (ad := ad) (cI := cI) (cB := cB))).1 (er_o (q_Ref (ad := ad) (cI := cI) (cB := cB))) rfl) rfl rfl hl.1 rfl (lv_room (Nat.le_of_ble_eq_true rfl)) dX10_readCases_78 ⟨Nat.zero_le _, Nat.zero_le _⟩) hS (fun H locs hP hS => ?_)
              refine lv_bipush (v := 97) hx hb dX10_readCases_81 (by decide) ?_
              refine lv_isub hx hb dX10_readCases_83 ?_
              obtain ⟨hi17, hE⟩ := st_gd hE
              refine r_iast hij hx hb hK hP hS qr_16 hi17 dX10_readCases_84 (fun H locs hP hS => ?_)
              obtain ⟨S18, eS18, hE⟩ := st_bv hE
              rw [← eS18] at hP
              refine lv_aload_n hx hb dX10_readCases_85 rfl (lv_at hl 0 rfl) ?_
              refine r_get (v := .ref (ad 17)) hx hb hts (fun w h => wz_m (inX10 w h)) hown hK hP (q_Ref (ad := ad) (cI := cI) (cB := cB)) rfl 26 (by decide) (hts _ (wz_m tw_3_182)) (fun _ h9 => h9) rfl dX10_readCases_86 ?_
              refine lv_aload_n hx hb dX10_readCases_89 rfl (lv_at hl 0 rfl) ?_
              refine r_get (v := .int (ri S18 0 21)) hx hb hts (fun w h => wz_m (inX10 w h)) hown hK hP (q_Ref (ad := ad) (cI := cI) (cB := cB)) rfl 21 (by decide) (hts _ (wz_m tw_3_177)) (fun _ h9 => h9) rfl dX10_readCases_90 ?_
              refine lv_aload_n hx hb dX10_readCases_93 rfl (lv_at hl 0 rfl) ?_
              refine lv_iload_n hx hb dX10_readCases_94 rfl (lv_at hl 1 rfl) ?_
              refine lv_iconst (v := 1) hx hb dX10_readCases_95 (by decide) ?_
              refine lv_iadd hx hb dX10_readCases_96 ?_
              obtain ⟨r19, hCr19, hE⟩ := st_bo hE
              refine g_calli (va_runV (As := [.int (c8 + 1)]) (rest := [.int (ri S18 0 21), .ref (ad 17)]) ⟨hx, hb, hml, hown, hts⟩ (k_X10_at hij hCr19) (cwV 1 hts (wz_V tw_4_85 tw_4_87 tp_4 tw_1_11 tw_4_88) rfl rfl rfl hdV_X10_at ⟨Nat.le_of_ble_eq_true rfl, Nat.le_of_ble_eq_true rfl⟩) (g_preV KR_st ZR_st hK hZ hP hS hK.1 ((q_Ref (ad := ad) (cI := cI) (cB := cB))).1 (er_o (q_Ref (ad := ad) (cI := cI) (cB := cB))) rfl) rfl rfl hl.1 rfl (lv_room (Nat.le_of_ble_eq_true rfl)) dX10_readCases_97 ⟨Nat.zero_le _, Nat.zero_le _⟩) hS (fun H locs hP hS => ?_)
              refine lv_bipush (v := 48) hx hb dX10_readCases_100 (by decide) ?_
              refine lv_isub hx hb dX10_readCases_102 ?_
              obtain ⟨hi20, hE⟩ := st_gd hE
              refine r_iast hij hx hb hK hP hS qr_17 hi20 dX10_readCases_103 (fun H locs hP hS => ?_)
              obtain ⟨S21, eS21, hE⟩ := st_bv hE
              rw [← eS21] at hP
              refine lv_aload_n hx hb dX10_readCases_104 rfl (lv_at hl 0 rfl) ?_
              refine lv_dup hx hb dX10_readCases_105 rfl ?_
              refine r_get (v := .int (ri S21 0 21)) hx hb hts (fun w h => wz_m (inX10 w h)) hown hK hP (q_Ref (ad := ad) (cI := cI) (cB := cB)) rfl 21 (by decide) (hts _ (wz_m tw_3_177)) (fun _ h9 => h9) rfl dX10_readCases_106 ?_
              refine lv_iconst (v := 1) hx hb dX10_readCases_109 (by decide) ?_
              refine lv_iadd hx hb dX10_readCases_110 ?_
              refine r_put hij hx hb hts (fun w h => wz_m (inX10 w h)) tyX10 tyX10_ok nmX10 hown hK hP hS (q_Ref (ad := ad) (cI := cI) (cB := cB)) rfl 21 (by decide) (hts _ (wz_m tw_3_177)) (fun _ h9 => h9) rfl rfl rfl (fun _ _ => Nat.le_of_ble_eq_true rfl) (fun _ _ => rfl) dX10_readCases_111 (fun H locs hP hS => ?_)
              obtain ⟨S22, eS22, hE⟩ := st_bv hE
              rw [← eS22] at hP
              obtain ⟨v23, ev23, hE⟩ := st_bv hE
              refine lv_iinc (v := v23) (lv' := [(2, .int v23), (0, .ref (ad 0))]) hx hb dX10_readCases_114 hl (k := 1) rfl (by rw [ev23]; rfl) (by decide) rfl (fun ls hl => ?_)
              refine lv_aload_n hx hb dX10_readCases_117 rfl (lv_at hl 1 rfl) ?_
              refine lv_iload_n hx hb dX10_readCases_118 rfl (lv_at hl 0 rfl) ?_
              refine lv_aload_n hx hb dX10_readCases_119 rfl (lv_at hl 1 rfl) ?_
              refine r_get (v := .int (ri S22 0 17)) hx hb hts (fun w h => wz_m (inX10 w h)) hown hK hP (q_Ref (ad := ad) (cI := cI) (cB := cB)) rfl 17 (by decide) (hts _ (wz_m tw_3_173)) (fun _ h9 => h9) rfl dX10_readCases_120 ?_
              obtain ⟨q24, hq24, hE⟩ := st_bo hE
              have J25 : ∀ (ls : Array Slot) (H : Heap) (locs : List Loc), lv_has ls 3 [(0, .ref (ad 0)), (2, .int v23)] → rP D ad cI cB S22 H → rS ad s H locs → W p l e rmX10_readCases s m args below meth c H locs 0 0 QQ (F0 m 131 ls [.int q24, .ref (ad 0)]) := by
                intro ls H locs hl hP hS
                refine r_put hij hx hb hts (fun w h => wz_m (inX10 w h)) tyX10 tyX10_ok nmX10 hown hK hP hS (q_Ref (ad := ad) (cI := cI) (cB := cB)) rfl 19 (by decide) (hts _ (wz_m tw_3_175)) (fun _ h9 => h9) rfl (by first | exact nb01 hq24 | exact nb10 hq24) (by first | exact nf01 hq24 | exact nf10 hq24) (fun _ _ => Nat.le_of_ble_eq_true rfl) (fun _ _ => rfl) dX10_readCases_131 (fun H locs hP hS => ?_)
                obtain ⟨S27, eS27, hE⟩ := st_bv hE
                rw [← eS27] at hP
                refine lv_aload_n hx hb dX10_readCases_134 rfl (lv_at hl 0 rfl) ?_
                refine r_get (v := .int (ri S27 0 21)) hx hb hts (fun w h => wz_m (inX10 w h)) hown hK hP (q_Ref (ad := ad) (cI := cI) (cB := cB)) rfl 21 (by decide) (hts _ (wz_m tw_3_177)) (fun _ h9 => h9) rfl dX10_readCases_135 ?_
                refine lv_iconst (v := 4) hx hb dX10_readCases_138 (by decide) ?_
                refine lv_icmp_eq (tgt := 152) hx hb dX10_readCases_139 (by decide) (fun hc28 => ?_) (fun hc28 => ?_)
                · have hE := st_t hE hc28
                  refine lv_iload_n hx hb dX10_readCases_152 rfl (lv_at hl 1 rfl) ?_
                  have hq := Option.some.inj hE
                  subst hq
                  replace hE : (v23, S27) = (r, Sr) := hKt7
                  have hq := Prod.mk.inj hE
                  subst hQQ
                  exact g_iret hx hb hr hlocks hP hS hq.1 hq.2 dX10_readCases_153
                · have hE := st_f hE hc28
                  refine lv_aload_n hx hb dX10_readCases_142 rfl (lv_at hl 0 rfl) ?_
                  refine lv_iload_n hx hb dX10_readCases_143 rfl (lv_at hl 1 rfl) ?_
                  obtain ⟨r29, hCr29, hE⟩ := st_bo hE
                  refine g_calli (va_runV (As := [.int v23]) (rest := []) ⟨hx, hb, hml, hown, hts⟩ (k_X10_at hij hCr29) (cwV 1 hts (wz_V tw_4_85 tw_4_87 tp_4 tw_1_11 tw_4_88) rfl rfl rfl hdV_X10_at ⟨Nat.le_of_ble_eq_true rfl, Nat.le_of_ble_eq_true rfl⟩) (g_preV KR_st ZR_st hK hZ hP hS hK.1 ((q_Ref (ad := ad) (cI := cI) (cB := cB))).1 (er_o (q_Ref (ad := ad) (cI := cI) (cB := cB))) rfl) rfl rfl hl.1 rfl (lv_room (Nat.le_of_ble_eq_true rfl)) dX10_readCases_144 ⟨Nat.zero_le _, Nat.zero_le _⟩) hS (fun H locs hP hS => ?_)
                  refine lv_bipush (v := 44) hx hb dX10_readCases_147 (by decide) ?_
                  refine lv_icmp_eq (tgt := 154) hx hb dX10_readCases_149 (by decide) (fun hc30 => ?_) (fun hc30 => ?_)
                  · have hE := st_t hE hc30
                    obtain ⟨v31, ev31, hE⟩ := st_bv hE
                    refine lv_iinc (v := v31) (lv' := [(2, .int v31), (0, .ref (ad 0))]) hx hb dX10_readCases_154 hl (k := 1) rfl (by rw [ev31]; rfl) (by decide) rfl (fun ls hl => ?_)
                    refine lv_goto (tgt := 19) hx hb dX10_readCases_157 (by decide) ?_
                    have hq := Option.some.inj hE
                    subst hq
                    exact hKt7 ls H locs (lv_sub hl [1, 0] rfl) hP hS
                  · have hE := st_f hE hc30
                    refine lv_iload_n hx hb dX10_readCases_152 rfl (lv_at hl 1 rfl) ?_
                    have hq := Option.some.inj hE
                    subst hq
                    replace hE : (v23, S27) = (r, Sr) := hKt7
                    have hq := Prod.mk.inj hE
                    subst hQQ
                    exact g_iret hx hb hr hlocks hP hS hq.1 hq.2 dX10_readCases_153
              replace hE := hq24
              refine lv_icmp_ne (tgt := 130) hx hb dX10_readCases_123 (by decide) (fun hc26 => ?_) (fun hc26 => ?_)
              · have hE := st_f hE hc26
                refine lv_iconst (v := 0) hx hb dX10_readCases_130 (by decide) ?_
                have hq := Option.some.inj hE
                subst hq
                exact J25 ls H locs (lv_sub hl [1, 0] rfl) hP hS
              · have hE := st_t hE hc26
                refine lv_iconst (v := 1) hx hb dX10_readCases_126 (by decide) ?_
                refine lv_goto (tgt := 131) hx hb dX10_readCases_127 (by decide) ?_
                have hq := Option.some.inj hE
                subst hq
                exact J25 ls H locs (lv_sub hl [1, 0] rfl) hP hS
            · have hE := st_t hE hc15
              refine lv_iload_n hx hb dX10_readCases_64 rfl (lv_at hl 1 rfl) ?_
              refine lv_iconst (v := 1) hx hb dX10_readCases_65 (by decide) ?_
              refine lv_iadd hx hb dX10_readCases_66 ?_
              have hq := Option.some.inj hE
              subst hq
              replace hE : (c8 + 1, c9) = (r, Sr) := hKt7
              have hq := Prod.mk.inj hE
              subst hQQ
              exact g_iret hx hb hr hlocks hP hS hq.1 hq.2 dX10_readCases_67
          · have hE := st_t hE hc13
            refine lv_iload_n hx hb dX10_readCases_49 rfl (lv_at hl 1 rfl) ?_
            have hq := Option.some.inj hE
            subst hq
            replace hE : (c8, c9) = (r, Sr) := hKt7
            have hq := Prod.mk.inj hE
            subst hQQ
            exact g_iret hx hb hr hlocks hP hS hq.1 hq.2 dX10_readCases_50
        · have hE := st_f hE hc11
          refine lv_aload_n hx hb dX10_readCases_34 rfl (lv_at hl 0 rfl) ?_
          refine r_get (v := .int (ri c9 0 19)) hx hb hts (fun w h => wz_m (inX10 w h)) hown hK hP (q_Ref (ad := ad) (cI := cI) (cB := cB)) rfl 19 (by decide) (hts _ (wz_m tw_3_175)) (fun _ h9 => h9) rfl dX10_readCases_35 ?_
          refine lv_if_ne (tgt := 160) hx hb dX10_readCases_38 (by decide) (fun hc32 => ?_) (fun hc32 => ?_)
          · have hE := st_f hE hc32
            have hq := Option.some.inj hE
            subst hq
            exact hKt7 ls H locs (lv_sub hl [1] rfl) hP hS
          · have hE := st_t hE hc32
            refine lv_aload_n hx hb dX10_readCases_41 rfl (lv_at hl 0 rfl) ?_
            refine lv_iload_n hx hb dX10_readCases_42 rfl (lv_at hl 1 rfl) ?_
            obtain ⟨r33, hCr33, hE⟩ := st_bo hE
            refine g_calli (va_runV (As := [.int c8]) (rest := []) ⟨hx, hb, hml, hown, hts⟩ (k_X10_isThing hij hCr33) (cwV 1 hts (wz_V tw_4_96 tw_4_98 tp_6 tw_1_11 tw_4_99) rfl rfl rfl hdV_X10_isThing ⟨Nat.le_of_ble_eq_true rfl, Nat.le_of_ble_eq_true rfl⟩) (g_preV KR_st ZR_st hK hZ hP hS hK.1 ((q_Ref (ad := ad) (cI := cI) (cB := cB))).1 (er_o (q_Ref (ad := ad) (cI := cI) (cB := cB))) rfl) rfl rfl hl.1 rfl (lv_room (Nat.le_of_ble_eq_true rfl)) dX10_readCases_43 ⟨Nat.zero_le _, Nat.zero_le _⟩) hS (fun H locs hP hS => ?_)
            refine lv_if_ne (tgt := 51) hx hb dX10_readCases_46 (by decide) (fun hc34 => ?_) (fun hc34 => ?_)
            · have hE := st_f hE hc34
              refine lv_aload_n hx hb dX10_readCases_51 rfl (lv_at hl 0 rfl) ?_
              refine lv_iload_n hx hb dX10_readCases_52 rfl (lv_at hl 1 rfl) ?_
              refine lv_iconst (v := 1) hx hb dX10_readCases_53 (by decide) ?_
              refine lv_iadd hx hb dX10_readCases_54 ?_
              refine lv_iconst (v := 1) hx hb dX10_readCases_55 (by decide) ?_
              refine lv_bipush (v := 6) hx hb dX10_readCases_56 (by decide) ?_
              obtain ⟨r35, hCr35, hE⟩ := st_bo hE
              refine g_calli (va_runV (As := [.int (c8 + 1), .int 1, .int 6]) (rest := []) ⟨hx, hb, hml, hown, hts⟩ (k_X10_isDigit hij hCr35) (cwV 3 hts (wz_V tw_4_100 tw_4_102 tp_7 tw_1_11 tw_4_103) rfl rfl rfl hdV_X10_isDigit ⟨Nat.le_of_ble_eq_true rfl, Nat.le_of_ble_eq_true rfl⟩) (g_preV KR_st ZR_st hK hZ hP hS hK.1 ((q_Ref (ad := ad) (cI := cI) (cB := cB))).1 (er_o (q_Ref (ad := ad) (cI := cI) (cB := cB))) rfl) rfl rfl hl.1 rfl (lv_room (Nat.le_of_ble_eq_true rfl)) dX10_readCases_58 ⟨Nat.zero_le _, Nat.zero_le _⟩) hS (fun H locs hP hS => ?_)
              refine lv_if_ne (tgt := 68) hx hb dX10_readCases_61 (by decide) (fun hc36 => ?_) (fun hc36 => ?_)
              · have hE := st_f hE hc36
                refine lv_aload_n hx hb dX10_readCases_68 rfl (lv_at hl 0 rfl) ?_
                refine r_get (v := .ref (ad 16)) hx hb hts (fun w h => wz_m (inX10 w h)) hown hK hP (q_Ref (ad := ad) (cI := cI) (cB := cB)) rfl 25 (by decide) (hts _ (wz_m tw_3_181)) (fun _ h9 => h9) rfl dX10_readCases_69 ?_
                refine lv_aload_n hx hb dX10_readCases_72 rfl (lv_at hl 0 rfl) ?_
                refine r_get (v := .int (ri c9 0 21)) hx hb hts (fun w h => wz_m (inX10 w h)) hown hK hP (q_Ref (ad := ad) (cI := cI) (cB := cB)) rfl 21 (by decide) (hts _ (wz_m tw_3_177)) (fun _ h9 => h9) rfl dX10_readCases_73 ?_
                refine lv_aload_n hx hb dX10_readCases_76 rfl (lv_at hl 0 rfl) ?_
                refine lv_iload_n hx hb dX10_readCases_77 rfl (lv_at hl 1 rfl) ?_
                obtain ⟨r37, hCr37, hE⟩ := st_bo hE
                refine g_calli (va_runV (As := [.int c8]) (rest := [.int (ri c9 0 21), .ref (ad 16)]) ⟨hx, hb, hml, hown, hts⟩ (k_X10_at hij hCr37) (cwV 1 hts (wz_V tw_4_85 tw_4_87 tp_4 tw_1_11 tw_4_88) rfl rfl rfl hdV_X10_at ⟨Nat.le_of_ble_eq_true rfl, Nat.le_of_ble_eq_true rfl⟩) (g_preV KR_st ZR_st hK hZ hP hS hK.1 ((q_Ref (ad := ad) (cI := cI) (cB := cB))).1 (er_o (q_Ref (ad := ad) (cI := cI) (cB := cB))) rfl) rfl rfl hl.1 rfl (lv_room (Nat.le_of_ble_eq_true rfl)) dX10_readCases_78 ⟨Nat.zero_le _, Nat.zero_le _⟩) hS (fun H locs hP hS => ?_)
                refine lv_bipush (v := 97) hx hb dX10_readCases_81 (by decide) ?_
                refine lv_isub hx hb dX10_readCases_83 ?_
                obtain ⟨hi38, hE⟩ := st_gd hE
                refine r_iast hij hx hb hK hP hS qr_16 hi38 dX10_readCases_84 (fun H locs hP hS => ?_)
                obtain ⟨S39, eS39, hE⟩ := st_bv hE
                rw [← eS39] at hP
                refine lv_aload_n hx hb dX10_readCases_85 rfl (lv_at hl 0 rfl) ?_
                refine r_get (v := .ref (ad 17)) hx hb hts (fun w h => wz_m (inX10 w h)) hown hK hP (q_Ref (ad := ad) (cI := cI) (cB := cB)) rfl 26 (by decide) (hts _ (wz_m tw_3_182)) (fun _ h9 => h9) rfl dX10_readCases_86 ?_
                refine lv_aload_n hx hb dX10_readCases_89 rfl (lv_at hl 0 rfl) ?_
                refine r_get (v := .int (ri S39 0 21)) hx hb hts (fun w h => wz_m (inX10 w h)) hown hK hP (q_Ref (ad := ad) (cI := cI) (cB := cB)) rfl 21 (by decide) (hts _ (wz_m tw_3_177)) (fun _ h9 => h9) rfl dX10_readCases_90 ?_
                refine lv_aload_n hx hb dX10_readCases_93 rfl (lv_at hl 0 rfl) ?_
                refine lv_iload_n hx hb dX10_readCases_94 rfl (lv_at hl 1 rfl) ?_
                refine lv_iconst (v := 1) hx hb dX10_readCases_95 (by decide) ?_
                refine lv_iadd hx hb dX10_readCases_96 ?_
                obtain ⟨r40, hCr40, hE⟩ := st_bo hE
                refine g_calli (va_runV (As := [.int (c8 + 1)]) (rest := [.int (ri S39 0 21), .ref (ad 17)]) ⟨hx, hb, hml, hown, hts⟩ (k_X10_at hij hCr40) (cwV 1 hts (wz_V tw_4_85 tw_4_87 tp_4 tw_1_11 tw_4_88) rfl rfl rfl hdV_X10_at ⟨Nat.le_of_ble_eq_true rfl, Nat.le_of_ble_eq_true rfl⟩) (g_preV KR_st ZR_st hK hZ hP hS hK.1 ((q_Ref (ad := ad) (cI := cI) (cB := cB))).1 (er_o (q_Ref (ad := ad) (cI := cI) (cB := cB))) rfl) rfl rfl hl.1 rfl (lv_room (Nat.le_of_ble_eq_true rfl)) dX10_readCases_97 ⟨Nat.zero_le _, Nat.zero_le _⟩) hS (fun H locs hP hS => ?_)
                refine lv_bipush (v := 48) hx hb dX10_readCases_100 (by decide) ?_
                refine lv_isub hx hb dX10_readCases_102 ?_
                obtain ⟨hi41, hE⟩ := st_gd hE
                refine r_iast hij hx hb hK hP hS qr_17 hi41 dX10_readCases_103 (fun H locs hP hS => ?_)
                obtain ⟨S42, eS42, hE⟩ := st_bv hE
                rw [← eS42] at hP
                refine lv_aload_n hx hb dX10_readCases_104 rfl (lv_at hl 0 rfl) ?_
                refine lv_dup hx hb dX10_readCases_105 rfl ?_
                refine r_get (v := .int (ri S42 0 21)) hx hb hts (fun w h => wz_m (inX10 w h)) hown hK hP (q_Ref (ad := ad) (cI := cI) (cB := cB)) rfl 21 (by decide) (hts _ (wz_m tw_3_177)) (fun _ h9 => h9) rfl dX10_readCases_106 ?_
                refine lv_iconst (v := 1) hx hb dX10_readCases_109 (by decide) ?_
                refine lv_iadd hx hb dX10_readCases_110 ?_
                refine r_put hij hx hb hts (fun w h => wz_m (inX10 w h)) tyX10 tyX10_ok nmX10 hown hK hP hS (q_Ref (ad := ad) (cI := cI) (cB := cB)) rfl 21 (by decide) (hts _ (wz_m tw_3_177)) (fun _ h9 => h9) rfl rfl rfl (fun _ _ => Nat.le_of_ble_eq_true rfl) (fun _ _ => rfl) dX10_readCases_111 (fun H locs hP hS => ?_)
                obtain ⟨S43, eS43, hE⟩ := st_bv hE
                rw [← eS43] at hP
                obtain ⟨v44, ev44, hE⟩ := st_bv hE
                refine lv_iinc (v := v44) (lv' := [(2, .int v44), (0, .ref (ad 0))]) hx hb dX10_readCases_114 hl (k := 1) rfl (by rw [ev44]; rfl) (by decide) rfl (fun ls hl => ?_)
                refine lv_aload_n hx hb dX10_readCases_117 rfl (lv_at hl 1 rfl) ?_
                refine lv_iload_n hx hb dX10_readCases_118 rfl (lv_at hl 0 rfl) ?_
                refine lv_aload_n hx hb dX10_readCases_119 rfl (lv_at hl 1 rfl) ?_
                refine r_get (v := .int (ri S43 0 17)) hx hb hts (fun w h => wz_m (inX10 w h)) hown hK hP (q_Ref (ad := ad) (cI := cI) (cB := cB)) rfl 17 (by decide) (hts _ (wz_m tw_3_173)) (fun _ h9 => h9) rfl dX10_readCases_120 ?_
                obtain ⟨q45, hq45, hE⟩ := st_bo hE
                have J46 : ∀ (ls : Array Slot) (H : Heap) (locs : List Loc), lv_has ls 3 [(0, .ref (ad 0)), (2, .int v44)] → rP D ad cI cB S43 H → rS ad s H locs → W p l e rmX10_readCases s m args below meth c H locs 0 0 QQ (F0 m 131 ls [.int q45, .ref (ad 0)]) := by
                  intro ls H locs hl hP hS
                  refine r_put hij hx hb hts (fun w h => wz_m (inX10 w h)) tyX10 tyX10_ok nmX10 hown hK hP hS (q_Ref (ad := ad) (cI := cI) (cB := cB)) rfl 19 (by decide) (hts _ (wz_m tw_3_175)) (fun _ h9 => h9) rfl (by first | exact nb01 hq45 | exact nb10 hq45) (by first | exact nf01 hq45 | exact nf10 hq45) (fun _ _ => Nat.le_of_ble_eq_true rfl) (fun _ _ => rfl) dX10_readCases_131 (fun H locs hP hS => ?_)
                  obtain ⟨S48, eS48, hE⟩ := st_bv hE
                  rw [← eS48] at hP
                  refine lv_aload_n hx hb dX10_readCases_134 rfl (lv_at hl 0 rfl) ?_
                  refine r_get (v := .int (ri S48 0 21)) hx hb hts (fun w h => wz_m (inX10 w h)) hown hK hP (q_Ref (ad := ad) (cI := cI) (cB := cB)) rfl 21 (by decide) (hts _ (wz_m tw_3_177)) (fun _ h9 => h9) rfl dX10_readCases_135 ?_
                  refine lv_iconst (v := 4) hx hb dX10_readCases_138 (by decide) ?_
                  refine lv_icmp_eq (tgt := 152) hx hb dX10_readCases_139 (by decide) (fun hc49 => ?_) (fun hc49 => ?_)
                  · have hE := st_t hE hc49
                    refine lv_iload_n hx hb dX10_readCases_152 rfl (lv_at hl 1 rfl) ?_
                    have hq := Option.some.inj hE
                    subst hq
                    replace hE : (v44, S48) = (r, Sr) := hKt7
                    have hq := Prod.mk.inj hE
                    subst hQQ
                    exact g_iret hx hb hr hlocks hP hS hq.1 hq.2 dX10_readCases_153
                  · have hE := st_f hE hc49
                    refine lv_aload_n hx hb dX10_readCases_142 rfl (lv_at hl 0 rfl) ?_
                    refine lv_iload_n hx hb dX10_readCases_143 rfl (lv_at hl 1 rfl) ?_
                    obtain ⟨r50, hCr50, hE⟩ := st_bo hE
                    refine g_calli (va_runV (As := [.int v44]) (rest := []) ⟨hx, hb, hml, hown, hts⟩ (k_X10_at hij hCr50) (cwV 1 hts (wz_V tw_4_85 tw_4_87 tp_4 tw_1_11 tw_4_88) rfl rfl rfl hdV_X10_at ⟨Nat.le_of_ble_eq_true rfl, Nat.le_of_ble_eq_true rfl⟩) (g_preV KR_st ZR_st hK hZ hP hS hK.1 ((q_Ref (ad := ad) (cI := cI) (cB := cB))).1 (er_o (q_Ref (ad := ad) (cI := cI) (cB := cB))) rfl) rfl rfl hl.1 rfl (lv_room (Nat.le_of_ble_eq_true rfl)) dX10_readCases_144 ⟨Nat.zero_le _, Nat.zero_le _⟩) hS (fun H locs hP hS => ?_)
                    refine lv_bipush (v := 44) hx hb dX10_readCases_147 (by decide) ?_
                    refine lv_icmp_eq (tgt := 154) hx hb dX10_readCases_149 (by decide) (fun hc51 => ?_) (fun hc51 => ?_)
                    · have hE := st_t hE hc51
                      obtain ⟨v52, ev52, hE⟩ := st_bv hE
                      refine lv_iinc (v := v52) (lv' := [(2, .int v52), (0, .ref (ad 0))]) hx hb dX10_readCases_154 hl (k := 1) rfl (by rw [ev52]; rfl) (by decide) rfl (fun ls hl => ?_)
                      refine lv_goto (tgt := 19) hx hb dX10_readCases_157 (by decide) ?_
                      have hq := Option.some.inj hE
                      subst hq
                      exact hKt7 ls H locs (lv_sub hl [1, 0] rfl) hP hS
                    · have hE := st_f hE hc51
                      refine lv_iload_n hx hb dX10_readCases_152 rfl (lv_at hl 1 rfl) ?_
                      have hq := Option.some.inj hE
                      subst hq
                      replace hE : (v44, S48) = (r, Sr) := hKt7
                      have hq := Prod.mk.inj hE
                      subst hQQ
                      exact g_iret hx hb hr hlocks hP hS hq.1 hq.2 dX10_readCases_153
                replace hE := hq45
                refine lv_icmp_ne (tgt := 130) hx hb dX10_readCases_123 (by decide) (fun hc47 => ?_) (fun hc47 => ?_)
                · have hE := st_f hE hc47
                  refine lv_iconst (v := 0) hx hb dX10_readCases_130 (by decide) ?_
                  have hq := Option.some.inj hE
                  subst hq
                  exact J46 ls H locs (lv_sub hl [1, 0] rfl) hP hS
                · have hE := st_t hE hc47
                  refine lv_iconst (v := 1) hx hb dX10_readCases_126 (by decide) ?_
                  refine lv_goto (tgt := 131) hx hb dX10_readCases_127 (by decide) ?_
                  have hq := Option.some.inj hE
                  subst hq
                  exact J46 ls H locs (lv_sub hl [1, 0] rfl) hP hS
              · have hE := st_t hE hc36
                refine lv_iload_n hx hb dX10_readCases_64 rfl (lv_at hl 1 rfl) ?_
                refine lv_iconst (v := 1) hx hb dX10_readCases_65 (by decide) ?_
                refine lv_iadd hx hb dX10_readCases_66 ?_
                have hq := Option.some.inj hE
                subst hq
                replace hE : (c8 + 1, c9) = (r, Sr) := hKt7
                have hq := Prod.mk.inj hE
                subst hQQ
                exact g_iret hx hb hr hlocks hP hS hq.1 hq.2 dX10_readCases_67
            · have hE := st_t hE hc34
              refine lv_iload_n hx hb dX10_readCases_49 rfl (lv_at hl 1 rfl) ?_
              have hq := Option.some.inj hE
              subst hq
              replace hE : (c8, c9) = (r, Sr) := hKt7
              have hq := Prod.mk.inj hE
              subst hQQ
              exact g_iret hx hb hr hlocks hP hS hq.1 hq.2 dX10_readCases_50
    · rcases x6 with x6 | x6
      · replace hE := st_el hE
        intro ls H locs hl hP hS
        refine lv_iload_n hx hb dX10_readCases_160 rfl (lv_at hl 0 rfl) ?_
        replace hE := Option.some.inj hE
        have hq := Prod.mk.inj hE
        subst hQQ
        exact g_iret hx hb hr hlocks hP hS hq.1 hq.2 dX10_readCases_161
      · replace hE := st_er hE
        exact Option.some.inj hE
  replace hE := hq1
  refine lv_icmp_ne (tgt := 15) hx hb dX10_readCases_8 (by decide) (fun hc3 => ?_) (fun hc3 => ?_)
  · have hE := st_f hE hc3
    refine lv_iconst (v := 0) hx hb dX10_readCases_15 (by decide) ?_
    have hq := Option.some.inj hE
    subst hq
    exact J2 ls H locs (lv_sub hl [1, 0] rfl) hP hS
  · have hE := st_t hE hc3
    refine lv_iconst (v := 1) hx hb dX10_readCases_11 (by decide) ?_
    refine lv_goto (tgt := 16) hx hb dX10_readCases_12 (by decide) ?_
    have hq := Option.some.inj hE
    subst hq
    exact J2 ls H locs (lv_sub hl [1, 0] rfl) hP hS
def f_X10_read (S0 : SR) : Option (Int32 × SR) :=
  bv (ui S0 0 19 0) (fun S1 => bv (ui S1 0 27 0) (fun S2 => bv (ui S2 0 20 0) (fun S3 => bv (ui S3 0 21 0) (fun S4 => bo (f_X10_readWitnesses S4) (fun (r5 : Int32 × SR) => if (ri r5.2 0 27) = 0 then (bo (f_X10_at r5.2 r5.1) (fun (r7 : Int32) => if r7 = 59 then (bo (f_X10_readCases r5.2 (r5.1 + 1)) (fun (r9 : Int32 × SR) => some (r9.1, r9.2))) else (some (r5.1, r5.2)))) else (some (r5.1, r5.2)))))))
abbrev rmX10_read : Room := { frames := 4, cells := 0, slots := 0, locals := 89 }
theorem hdV_X10_read : yX10_read.cls = "WitnessWallModel" ∧ yX10_read.cls ≠ "java/lang/invoke/MethodHandle" ∧ yX10_read.cls ≠ "java/lang/invoke/VarHandle" ∧ (parseMethodDescriptor yX10_read.desc).map (fun d => d.parameters.length) = some 0 := by decide +kernel
set_option maxHeartbeats 4000000 in
set_option maxRecDepth 100000 in
theorem k_X10_read {l : Launch} {D : va_G} {ad : Nat → Nat} {cI cB : ClassId} (hij : inj 31 ad)  {S0 : SR} {r : Int32} {Sr : SR} (hE : f_X10_read S0 = some (r, Sr)) {sz : Nat} : Met l yX10_read (wz yX10_read cX10_read 2 (some FieldType.int)) rmX10_read (PG 31 ad (er ad cI cB) D (KR D cI cB) ZR [.ref (ad 0)] S0 sz) (QGi 31 ad (er ad cI cB) D r Sr sz) 0 0 (AD 31 ad sz) := by
  unfold f_X10_read at hE
  refine g_start (cc := cX10_read) (maxL := 2) (ret := (some FieldType.int)) (Qc := fun sz => QGi 31 ad (er ad cI cB) D r Sr sz) (by decide) rfl (Nat.le_of_ble_eq_true rfl) ?_
  intro p e s m args below meth c H locs ls hx hb hr hts hown hlocks hml hK hZ hP hS hl
  replace hl : lv_has ls 2 [(0, .ref (ad 0))] := hl
  obtain ⟨QQ, hQQ⟩ : ∃ q, q = MQ below (QGi 31 ad (er ad cI cB) D r Sr s.heap.size) args s 0 0 (AD 31 ad s.heap.size) := ⟨_, rfl⟩
  rw [← hQQ]
  refine lv_aload_n hx hb dX10_read_0 rfl (lv_at hl 0 rfl) ?_
  refine lv_iconst (v := 0) hx hb dX10_read_1 (by decide) ?_
  refine r_put hij hx hb hts (fun w h => wz_m (inX10 w h)) tyX10 tyX10_ok nmX10 hown hK hP hS (q_Ref (ad := ad) (cI := cI) (cB := cB)) rfl 19 (by decide) (hts _ (wz_m tw_3_175)) (fun _ h9 => h9) rfl rfl rfl (fun _ _ => Nat.le_of_ble_eq_true rfl) (fun _ _ => rfl) dX10_read_2 (fun H locs hP hS => ?_)
  obtain ⟨S1, eS1, hE⟩ := st_bv hE
  rw [← eS1] at hP
  refine lv_aload_n hx hb dX10_read_5 rfl (lv_at hl 0 rfl) ?_
  refine lv_iconst (v := 0) hx hb dX10_read_6 (by decide) ?_
  refine r_put hij hx hb hts (fun w h => wz_m (inX10 w h)) tyX10 tyX10_ok nmX10 hown hK hP hS (q_Ref (ad := ad) (cI := cI) (cB := cB)) rfl 27 (by decide) (hts _ (wz_m tw_3_183)) (fun _ h9 => h9) rfl rfl rfl (fun _ _ => Nat.le_of_ble_eq_true rfl) (fun _ _ => rfl) dX10_read_7 (fun H locs hP hS => ?_)
  obtain ⟨S2, eS2, hE⟩ := st_bv hE
  rw [← eS2] at hP
  refine lv_aload_n hx hb dX10_read_10 rfl (lv_at hl 0 rfl) ?_
  refine lv_iconst (v := 0) hx hb dX10_read_11 (by decide) ?_
  refine r_put hij hx hb hts (fun w h => wz_m (inX10 w h)) tyX10 tyX10_ok nmX10 hown hK hP hS (q_Ref (ad := ad) (cI := cI) (cB := cB)) rfl 20 (by decide) (hts _ (wz_m tw_3_176)) (fun _ h9 => h9) rfl rfl rfl (fun _ _ => Nat.le_of_ble_eq_true rfl) (fun _ _ => rfl) dX10_read_12 (fun H locs hP hS => ?_)
  obtain ⟨S3, eS3, hE⟩ := st_bv hE
  rw [← eS3] at hP
  refine lv_aload_n hx hb dX10_read_15 rfl (lv_at hl 0 rfl) ?_
  refine lv_iconst (v := 0) hx hb dX10_read_16 (by decide) ?_
  refine r_put hij hx hb hts (fun w h => wz_m (inX10 w h)) tyX10 tyX10_ok nmX10 hown hK hP hS (q_Ref (ad := ad) (cI := cI) (cB := cB)) rfl 21 (by decide) (hts _ (wz_m tw_3_177)) (fun _ h9 => h9) rfl rfl rfl (fun _ _ => Nat.le_of_ble_eq_true rfl) (fun _ _ => rfl) dX10_read_17 (fun H locs hP hS => ?_)
  obtain ⟨S4, eS4, hE⟩ := st_bv hE
  rw [← eS4] at hP
  refine lv_aload_n hx hb dX10_read_20 rfl (lv_at hl 0 rfl) ?_
  obtain ⟨r5, hCr5, hE⟩ := st_bo hE
  refine g_calli (va_runV (As := []) (rest := []) ⟨hx, hb, hml, hown, hts⟩ (k_X10_readWitnesses hij hCr5) (cwV 0 hts (wz_V tw_4_81 tw_4_83 tp_3 tw_1_11 tw_4_84) rfl rfl rfl hdV_X10_readWitnesses ⟨Nat.le_of_ble_eq_true rfl, Nat.le_of_ble_eq_true rfl⟩) (g_preV KR_st ZR_st hK hZ hP hS hK.1 ((q_Ref (ad := ad) (cI := cI) (cB := cB))).1 (er_o (q_Ref (ad := ad) (cI := cI) (cB := cB))) rfl) rfl rfl hl.1 rfl (lv_room (Nat.le_of_ble_eq_true rfl)) dX10_read_21 ⟨Nat.zero_le _, Nat.zero_le _⟩) hS (fun H locs hP hS => ?_)
  refine lv_istore_n (lv' := [(1, .int r5.1), (0, .ref (ad 0))]) hx hb dX10_read_24 rfl hl (by decide) rfl (fun ls hl => ?_)
  refine lv_aload_n hx hb dX10_read_25 rfl (lv_at hl 1 rfl) ?_
  refine r_get (v := .int (ri r5.2 0 27)) hx hb hts (fun w h => wz_m (inX10 w h)) hown hK hP (q_Ref (ad := ad) (cI := cI) (cB := cB)) rfl 27 (by decide) (hts _ (wz_m tw_3_183)) (fun _ h9 => h9) rfl dX10_read_26 ?_
  refine lv_if_ne (tgt := 42) hx hb dX10_read_29 (by decide) (fun hc6 => ?_) (fun hc6 => ?_)
  · have hE := st_f hE hc6
    refine lv_iload_n hx hb dX10_read_42 rfl (lv_at hl 0 rfl) ?_
    replace hE := Option.some.inj hE
    have hq := Prod.mk.inj hE
    subst hQQ
    exact g_iret hx hb hr hlocks hP hS hq.1 hq.2 dX10_read_43
  · have hE := st_t hE hc6
    refine lv_aload_n hx hb dX10_read_32 rfl (lv_at hl 1 rfl) ?_
    refine lv_iload_n hx hb dX10_read_33 rfl (lv_at hl 0 rfl) ?_
    obtain ⟨r7, hCr7, hE⟩ := st_bo hE
    refine g_calli (va_runV (As := [.int r5.1]) (rest := []) ⟨hx, hb, hml, hown, hts⟩ (k_X10_at hij hCr7) (cwV 1 hts (wz_V tw_4_85 tw_4_87 tp_4 tw_1_11 tw_4_88) rfl rfl rfl hdV_X10_at ⟨Nat.le_of_ble_eq_true rfl, Nat.le_of_ble_eq_true rfl⟩) (g_preV KR_st ZR_st hK hZ hP hS hK.1 ((q_Ref (ad := ad) (cI := cI) (cB := cB))).1 (er_o (q_Ref (ad := ad) (cI := cI) (cB := cB))) rfl) rfl rfl hl.1 rfl (lv_room (Nat.le_of_ble_eq_true rfl)) dX10_read_34 ⟨Nat.zero_le _, Nat.zero_le _⟩) hS (fun H locs hP hS => ?_)
    refine lv_bipush (v := 59) hx hb dX10_read_37 (by decide) ?_
    refine lv_icmp_eq (tgt := 44) hx hb dX10_read_39 (by decide) (fun hc8 => ?_) (fun hc8 => ?_)
    · have hE := st_t hE hc8
      refine lv_aload_n hx hb dX10_read_44 rfl (lv_at hl 1 rfl) ?_
      refine lv_iload_n hx hb dX10_read_45 rfl (lv_at hl 0 rfl) ?_
      refine lv_iconst (v := 1) hx hb dX10_read_46 (by decide) ?_
      refine lv_iadd hx hb dX10_read_47 ?_
      obtain ⟨r9, hCr9, hE⟩ := st_bo hE
      refine g_calli (va_runV (As := [.int (r5.1 + 1)]) (rest := []) ⟨hx, hb, hml, hown, hts⟩ (k_X10_readCases hij hCr9) (cwV 1 hts (wz_V tw_4_112 tw_4_114 tp_10 tw_1_11 tw_4_115) rfl rfl rfl hdV_X10_readCases ⟨Nat.le_of_ble_eq_true rfl, Nat.le_of_ble_eq_true rfl⟩) (g_preV KR_st ZR_st hK hZ hP hS hK.1 ((q_Ref (ad := ad) (cI := cI) (cB := cB))).1 (er_o (q_Ref (ad := ad) (cI := cI) (cB := cB))) rfl) rfl rfl hl.1 rfl (lv_room (Nat.le_of_ble_eq_true rfl)) dX10_read_48 ⟨Nat.zero_le _, Nat.zero_le _⟩) hS (fun H locs hP hS => ?_)
      replace hE := Option.some.inj hE
      have hq := Prod.mk.inj hE
      subst hQQ
      exact g_iret hx hb hr hlocks hP hS hq.1 hq.2 dX10_read_51
    · have hE := st_f hE hc8
      refine lv_iload_n hx hb dX10_read_42 rfl (lv_at hl 0 rfl) ?_
      replace hE := Option.some.inj hE
      have hq := Prod.mk.inj hE
      subst hQQ
      exact g_iret hx hb hr hlocks hP hS hq.1 hq.2 dX10_read_43
def f_X10_fault (S0 : SR) : Option (Int32 × SR) :=
  bo (f_X10_read S0) (fun (r1 : Int32 × SR) => some (r1.1, r1.2))
abbrev rmX10_fault : Room := { frames := 5, cells := 0, slots := 0, locals := 110 }
theorem hdV_X10_fault : yX10_fault.cls = "WitnessWallModel" ∧ yX10_fault.cls ≠ "java/lang/invoke/MethodHandle" ∧ yX10_fault.cls ≠ "java/lang/invoke/VarHandle" ∧ (parseMethodDescriptor yX10_fault.desc).map (fun d => d.parameters.length) = some 0 := by decide +kernel
set_option maxHeartbeats 4000000 in
set_option maxRecDepth 100000 in
theorem k_X10_fault {l : Launch} {D : va_G} {ad : Nat → Nat} {cI cB : ClassId} (hij : inj 31 ad)  {S0 : SR} {r : Int32} {Sr : SR} (hE : f_X10_fault S0 = some (r, Sr)) {sz : Nat} : Met l yX10_fault (wz yX10_fault cX10_fault 1 (some FieldType.int)) rmX10_fault (PG 31 ad (er ad cI cB) D (KR D cI cB) ZR [.ref (ad 0)] S0 sz) (QGi 31 ad (er ad cI cB) D r Sr sz) 0 0 (AD 31 ad sz) := by
  unfold f_X10_fault at hE
  refine g_start (cc := cX10_fault) (maxL := 1) (ret := (some FieldType.int)) (Qc := fun sz => QGi 31 ad (er ad cI cB) D r Sr sz) (by decide) rfl (Nat.le_of_ble_eq_true rfl) ?_
  intro p e s m args below meth c H locs ls hx hb hr hts hown hlocks hml hK hZ hP hS hl
  replace hl : lv_has ls 1 [(0, .ref (ad 0))] := hl
  obtain ⟨QQ, hQQ⟩ : ∃ q, q = MQ below (QGi 31 ad (er ad cI cB) D r Sr s.heap.size) args s 0 0 (AD 31 ad s.heap.size) := ⟨_, rfl⟩
  rw [← hQQ]
  refine lv_aload_n hx hb dX10_fault_0 rfl (lv_at hl 0 rfl) ?_
  obtain ⟨r1, hCr1, hE⟩ := st_bo hE
  refine g_calli (va_runV (As := []) (rest := []) ⟨hx, hb, hml, hown, hts⟩ (k_X10_read hij hCr1) (cwV 0 hts (wz_V tw_4_77 tw_4_79 tp_2 tw_1_11 tw_4_80) rfl rfl rfl hdV_X10_read ⟨Nat.le_of_ble_eq_true rfl, Nat.le_of_ble_eq_true rfl⟩) (g_preV KR_st ZR_st hK hZ hP hS hK.1 ((q_Ref (ad := ad) (cI := cI) (cB := cB))).1 (er_o (q_Ref (ad := ad) (cI := cI) (cB := cB))) rfl) rfl rfl hl.1 rfl (lv_room (Nat.le_of_ble_eq_true rfl)) dX10_fault_1 ⟨Nat.zero_le _, Nat.zero_le _⟩) hS (fun H locs hP hS => ?_)
  replace hE := Option.some.inj hE
  have hq := Prod.mk.inj hE
  subst hQQ
  exact g_iret hx hb hr hlocks hP hS hq.1 hq.2 dX10_fault_4
def f_X10_forget (S0 : SR) : Option (Int32 × SR) :=
  bv (ri S0 0 13) (fun (v1 : Int32) => bv (ui S0 0 13 0) (fun S2 => some (v1, S2)))
abbrev rmX10_forget : Room := { frames := 0, cells := 0, slots := 0, locals := 0 }
theorem hdV_X10_forget : yX10_forget.cls = "WitnessWallModel" ∧ yX10_forget.cls ≠ "java/lang/invoke/MethodHandle" ∧ yX10_forget.cls ≠ "java/lang/invoke/VarHandle" ∧ (parseMethodDescriptor yX10_forget.desc).map (fun d => d.parameters.length) = some 0 := by decide +kernel
set_option maxHeartbeats 4000000 in
set_option maxRecDepth 100000 in
theorem k_X10_forget {l : Launch} {D : va_G} {ad : Nat → Nat} {cI cB : ClassId} (hij : inj 31 ad)  {S0 : SR} {r : Int32} {Sr : SR} (hE : f_X10_forget S0 = some (r, Sr)) {sz : Nat} : Met l yX10_forget (wz yX10_forget cX10_forget 2 (some FieldType.int)) rmX10_forget (PG 31 ad (er ad cI cB) D (KR D cI cB) ZR [.ref (ad 0)] S0 sz) (QGi 31 ad (er ad cI cB) D r Sr sz) 0 0 (AD 31 ad sz) := by
  unfold f_X10_forget at hE
  refine g_start (cc := cX10_forget) (maxL := 2) (ret := (some FieldType.int)) (Qc := fun sz => QGi 31 ad (er ad cI cB) D r Sr sz) (by decide) rfl (Nat.le_of_ble_eq_true rfl) ?_
  intro p e s m args below meth c H locs ls hx hb hr hts hown hlocks hml hK hZ hP hS hl
  replace hl : lv_has ls 2 [(0, .ref (ad 0))] := hl
  obtain ⟨QQ, hQQ⟩ : ∃ q, q = MQ below (QGi 31 ad (er ad cI cB) D r Sr s.heap.size) args s 0 0 (AD 31 ad s.heap.size) := ⟨_, rfl⟩
  rw [← hQQ]
  refine lv_aload_n hx hb dX10_forget_0 rfl (lv_at hl 0 rfl) ?_
  refine r_get (v := .int (ri S0 0 13)) hx hb hts (fun w h => wz_m (inX10 w h)) hown hK hP (q_Ref (ad := ad) (cI := cI) (cB := cB)) rfl 13 (by decide) (hts _ (wz_m tw_3_169)) (fun _ h9 => h9) rfl dX10_forget_1 ?_
  obtain ⟨v1, ev1, hE⟩ := st_bv hE
  refine nm_i ev1 ?_
  refine lv_istore_n (lv' := [(1, .int v1), (0, .ref (ad 0))]) hx hb dX10_forget_4 rfl hl (by decide) rfl (fun ls hl => ?_)
  refine lv_aload_n hx hb dX10_forget_5 rfl (lv_at hl 1 rfl) ?_
  refine lv_iconst (v := 0) hx hb dX10_forget_6 (by decide) ?_
  refine r_put hij hx hb hts (fun w h => wz_m (inX10 w h)) tyX10 tyX10_ok nmX10 hown hK hP hS (q_Ref (ad := ad) (cI := cI) (cB := cB)) rfl 13 (by decide) (hts _ (wz_m tw_3_169)) (fun _ h9 => h9) rfl rfl rfl (fun _ _ => Nat.le_of_ble_eq_true rfl) (fun _ _ => rfl) dX10_forget_7 (fun H locs hP hS => ?_)
  obtain ⟨S2, eS2, hE⟩ := st_bv hE
  rw [← eS2] at hP
  refine lv_iload_n hx hb dX10_forget_10 rfl (lv_at hl 0 rfl) ?_
  replace hE := Option.some.inj hE
  have hq := Prod.mk.inj hE
  subst hQQ
  exact g_iret hx hb hr hlocks hP hS hq.1 hq.2 dX10_forget_11
def b_X10_has_5 (S0 : SR) (a1 : Int32) (a2 : Int32) (c4 : Int32) (c5 : Int32) : Option ((Int32 × Int32) ⊕ (Int32)) :=
  gd (inb a1 5) (if (ri S0 3 (a1.toNatClampNeg)) ≤ c5 then (some (.inr c4)) else (if c4 = 0 then (gd (inb ((4 * a1) + c5) 20) (if (ri S0 2 (((4 * a1) + c5).toNatClampNeg)) = a2 then (bv (c5 + 1) (fun (v13 : Int32) => some (.inl (1, v13)))) else (bv (c5 + 1) (fun (v12 : Int32) => some (.inl (0, v12)))))) else (bv (c5 + 1) (fun (v9 : Int32) => some (.inl (1, v9))))))
def f_X10_has (S0 : SR) (a1 : Int32) (a2 : Int32) : Option (Int32) :=
  bo (lp (fun (s1 : Int32 × Int32) => b_X10_has_5 S0 a1 a2 s1.1 s1.2) 5000 (0, 0)) (fun (x2 : Int32) => some (x2 &&& 1))
abbrev rmX10_has : Room := { frames := 0, cells := 0, slots := 0, locals := 0 }
theorem hdV_X10_has : yX10_has.cls = "WitnessWallModel" ∧ yX10_has.cls ≠ "java/lang/invoke/MethodHandle" ∧ yX10_has.cls ≠ "java/lang/invoke/VarHandle" ∧ (parseMethodDescriptor yX10_has.desc).map (fun d => d.parameters.length) = some 2 := by decide +kernel
set_option maxHeartbeats 4000000 in
set_option maxRecDepth 100000 in
theorem k_X10_has {l : Launch} {D : va_G} {ad : Nat → Nat} {cI cB : ClassId} (hij : inj 31 ad)  {S0 : SR} {a1 : Int32} {a2 : Int32} {r : Int32} (hE : f_X10_has S0 a1 a2 = some r) {sz : Nat} : Met l yX10_has (wz yX10_has cX10_has 5 (some FieldType.boolean)) rmX10_has (PG 31 ad (er ad cI cB) D (KR D cI cB) ZR [.ref (ad 0), .int a1, .int a2] S0 sz) (QGi 31 ad (er ad cI cB) D r S0 sz) 0 0 (AD 31 ad sz) := by
  unfold f_X10_has at hE
  refine g_start (cc := cX10_has) (maxL := 5) (ret := (some FieldType.boolean)) (Qc := fun sz => QGi 31 ad (er ad cI cB) D r S0 sz) (by decide) rfl (Nat.le_of_ble_eq_true rfl) ?_
  intro p e s m args below meth c H locs ls hx hb hr hts hown hlocks hml hK hZ hP hS hl
  replace hl : lv_has ls 5 [(0, .ref (ad 0)), (1, .int a1), (2, .int a2)] := hl
  obtain ⟨QQ, hQQ⟩ : ∃ q, q = MQ below (QGi 31 ad (er ad cI cB) D r S0 s.heap.size) args s 0 0 (AD 31 ad s.heap.size) := ⟨_, rfl⟩
  rw [← hQQ]
  refine lv_iconst (v := 0) hx hb dX10_has_0 (by decide) ?_
  refine lv_istore_n (lv' := [(3, .int 0), (0, .ref (ad 0)), (1, .int a1), (2, .int a2)]) hx hb dX10_has_1 rfl hl (by decide) rfl (fun ls hl => ?_)
  refine lv_iconst (v := 0) hx hb dX10_has_2 (by decide) ?_
  refine lv_istore (lv' := [(4, .int 0), (3, .int 0), (0, .ref (ad 0)), (1, .int a1), (2, .int a2)]) hx hb dX10_has_3 hl (by decide) rfl (fun ls hl => ?_)
  obtain ⟨x2, hx2, hE⟩ := st_bo hE
  refine lp_walk (body := fun (s1 : Int32 × Int32) => b_X10_has_5 S0 a1 a2 s1.1 s1.2) (fun s1 => ∀ (ls : Array Slot) (H : Heap) (locs : List Loc), lv_has ls 5 [(0, .ref (ad 0)), (1, .int a1), (2, .int a2), (3, .int s1.1), (4, .int s1.2)] → rP D ad cI cB S0 H → rS ad s H locs → W p l e rmX10_has s m args below meth c H locs 0 0 QQ (F0 m 5 ls [])) (fun x2 => ∀ (ls : Array Slot) (H : Heap) (locs : List Loc), lv_has ls 5 [(3, .int x2)] → rP D ad cI cB S0 H → rS ad s H locs → W p l e rmX10_has s m args below meth c H locs 0 0 QQ (F0 m 47 ls [])) ?_ _ _ _ hx2 ?_ ls H locs (lv_sub hl [2, 3, 4, 1, 0] rfl) hP hS
  · intro s1 t3 hE hKt3 ls H locs hl hP hS
    obtain ⟨c4, c5⟩ := s1
    replace hE : b_X10_has_5 S0 a1 a2 c4 c5 = some t3 := hE
    replace hl : lv_has ls 5 [(0, .ref (ad 0)), (1, .int a1), (2, .int a2), (3, .int c4), (4, .int c5)] := hl
    replace hP : rP D ad cI cB S0 H := hP
    unfold b_X10_has_5 at hE
    refine lv_iload hx hb dX10_has_5 (lv_at hl 4 rfl) ?_
    refine lv_aload_n hx hb dX10_has_7 rfl (lv_at hl 0 rfl) ?_
    refine r_get (v := .ref (ad 3)) hx hb hts (fun w h => wz_m (inX10 w h)) hown hK hP (q_Ref (ad := ad) (cI := cI) (cB := cB)) rfl 4 (by decide) (hts _ (wz_m tw_3_160)) (fun _ h9 => h9) rfl dX10_has_8 ?_
    refine lv_iload_n hx hb dX10_has_11 rfl (lv_at hl 1 rfl) ?_
    obtain ⟨hi6, hE⟩ := st_gd hE
    refine r_iald hx hb hK hP qr_3 hi6 dX10_has_12 ?_
    refine lv_icmp_ge (tgt := 47) hx hb dX10_has_13 (by decide) (fun hc7 => ?_) (fun hc7 => ?_)
    · have hE := st_t hE hc7
      have hq := Option.some.inj hE
      subst hq
      exact hKt3 ls H locs (lv_sub hl [3] rfl) hP hS
    · have hE := st_f hE hc7
      refine lv_iload_n hx hb dX10_has_16 rfl (lv_at hl 3 rfl) ?_
      refine lv_if_ne (tgt := 35) hx hb dX10_has_17 (by decide) (fun hc8 => ?_) (fun hc8 => ?_)
      · have hE := st_f hE hc8
        refine lv_iconst (v := 1) hx hb dX10_has_35 (by decide) ?_
        refine lv_goto (tgt := 40) hx hb dX10_has_36 (by decide) ?_
        refine lv_istore_n (lv' := [(3, .int 1), (0, .ref (ad 0)), (1, .int a1), (2, .int a2), (4, .int c5)]) hx hb dX10_has_40 rfl hl (by decide) rfl (fun ls hl => ?_)
        obtain ⟨v9, ev9, hE⟩ := st_bv hE
        refine lv_iinc (v := v9) (lv' := [(4, .int v9), (3, .int 1), (0, .ref (ad 0)), (1, .int a1), (2, .int a2)]) hx hb dX10_has_41 hl (k := 4) rfl (by rw [ev9]; rfl) (by decide) rfl (fun ls hl => ?_)
        refine lv_goto (tgt := 5) hx hb dX10_has_44 (by decide) ?_
        have hq := Option.some.inj hE
        subst hq
        exact hKt3 ls H locs (lv_sub hl [2, 3, 4, 1, 0] rfl) hP hS
      · have hE := st_t hE hc8
        refine lv_aload_n hx hb dX10_has_20 rfl (lv_at hl 0 rfl) ?_
        refine r_get (v := .ref (ad 2)) hx hb hts (fun w h => wz_m (inX10 w h)) hown hK hP (q_Ref (ad := ad) (cI := cI) (cB := cB)) rfl 3 (by decide) (hts _ (wz_m tw_3_159)) (fun _ h9 => h9) rfl dX10_has_21 ?_
        refine lv_iconst (v := 4) hx hb dX10_has_24 (by decide) ?_
        refine lv_iload_n hx hb dX10_has_25 rfl (lv_at hl 1 rfl) ?_
        refine lv_imul hx hb dX10_has_26 ?_
        refine lv_iload hx hb dX10_has_27 (lv_at hl 4 rfl) ?_
        refine lv_iadd hx hb dX10_has_29 ?_
        obtain ⟨hi10, hE⟩ := st_gd hE
        refine r_iald hx hb hK hP qr_2 hi10 dX10_has_30 ?_
        refine lv_iload_n hx hb dX10_has_31 rfl (lv_at hl 2 rfl) ?_
        refine lv_icmp_ne (tgt := 39) hx hb dX10_has_32 (by decide) (fun hc11 => ?_) (fun hc11 => ?_)
        · have hE := st_f hE hc11
          refine lv_iconst (v := 0) hx hb dX10_has_39 (by decide) ?_
          refine lv_istore_n (lv' := [(3, .int 0), (0, .ref (ad 0)), (1, .int a1), (2, .int a2), (4, .int c5)]) hx hb dX10_has_40 rfl hl (by decide) rfl (fun ls hl => ?_)
          obtain ⟨v12, ev12, hE⟩ := st_bv hE
          refine lv_iinc (v := v12) (lv' := [(4, .int v12), (3, .int 0), (0, .ref (ad 0)), (1, .int a1), (2, .int a2)]) hx hb dX10_has_41 hl (k := 4) rfl (by rw [ev12]; rfl) (by decide) rfl (fun ls hl => ?_)
          refine lv_goto (tgt := 5) hx hb dX10_has_44 (by decide) ?_
          have hq := Option.some.inj hE
          subst hq
          exact hKt3 ls H locs (lv_sub hl [2, 3, 4, 1, 0] rfl) hP hS
        · have hE := st_t hE hc11
          refine lv_iconst (v := 1) hx hb dX10_has_35 (by decide) ?_
          refine lv_goto (tgt := 40) hx hb dX10_has_36 (by decide) ?_
          refine lv_istore_n (lv' := [(3, .int 1), (0, .ref (ad 0)), (1, .int a1), (2, .int a2), (4, .int c5)]) hx hb dX10_has_40 rfl hl (by decide) rfl (fun ls hl => ?_)
          obtain ⟨v13, ev13, hE⟩ := st_bv hE
          refine lv_iinc (v := v13) (lv' := [(4, .int v13), (3, .int 1), (0, .ref (ad 0)), (1, .int a1), (2, .int a2)]) hx hb dX10_has_41 hl (k := 4) rfl (by rw [ev13]; rfl) (by decide) rfl (fun ls hl => ?_)
          refine lv_goto (tgt := 5) hx hb dX10_has_44 (by decide) ?_
          have hq := Option.some.inj hE
          subst hq
          exact hKt3 ls H locs (lv_sub hl [2, 3, 4, 1, 0] rfl) hP hS
  · intro ls H locs hl hP hS
    refine lv_iload_n hx hb dX10_has_47 rfl (lv_at hl 0 rfl) ?_
    replace hE := Option.some.inj hE
    subst hQQ
    exact g_zret hx hb hr hlocks hP hS hE rfl dX10_has_48
def f_X10_isSight (a1 : Int32) (a2 : Int32) : Option (Int32) :=
  bo (f_X10_within a1 0 5) (fun (r1 : Int32) => if r1 = 0 then (some 0) else (bo (f_X10_within a2 0 3) (fun (r3 : Int32) => if r3 = 0 then (some 0) else (some 1))))
abbrev rmX10_isSight : Room := { frames := 1, cells := 0, slots := 0, locals := 22 }
theorem hdS_X10_isSight : yX10_isSight.cls ≠ "java/lang/invoke/MethodHandle" ∧ yX10_isSight.cls ≠ "java/lang/invoke/VarHandle" ∧ (parseMethodDescriptor yX10_isSight.desc).map (fun d => d.parameters.length) = some 2 := by decide +kernel
set_option maxHeartbeats 4000000 in
set_option maxRecDepth 100000 in
theorem k_X10_isSight {l : Launch} {D : va_G} {ad : Nat → Nat} {cI cB : ClassId} (hij : inj 31 ad)  {S0 : SR} {a1 : Int32} {a2 : Int32} {r : Int32} (hE : f_X10_isSight a1 a2 = some r) {sz : Nat} : Met l yX10_isSight (wz yX10_isSight cX10_isSight 2 (some FieldType.boolean)) rmX10_isSight (PG 31 ad (er ad cI cB) D (KR D cI cB) ZR [.int a1, .int a2] S0 sz) (QGi 31 ad (er ad cI cB) D r S0 sz) 0 0 (AD 31 ad sz) := by
  unfold f_X10_isSight at hE
  refine g_start (cc := cX10_isSight) (maxL := 2) (ret := (some FieldType.boolean)) (Qc := fun sz => QGi 31 ad (er ad cI cB) D r S0 sz) (by decide) rfl (Nat.le_of_ble_eq_true rfl) ?_
  intro p e s m args below meth c H locs ls hx hb hr hts hown hlocks hml hK hZ hP hS hl
  replace hl : lv_has ls 2 [(0, .int a1), (1, .int a2)] := hl
  obtain ⟨QQ, hQQ⟩ : ∃ q, q = MQ below (QGi 31 ad (er ad cI cB) D r S0 s.heap.size) args s 0 0 (AD 31 ad s.heap.size) := ⟨_, rfl⟩
  rw [← hQQ]
  refine lv_iload_n hx hb dX10_isSight_0 rfl (lv_at hl 0 rfl) ?_
  refine lv_iconst (v := 0) hx hb dX10_isSight_1 (by decide) ?_
  refine lv_iconst (v := 5) hx hb dX10_isSight_2 (by decide) ?_
  obtain ⟨r1, hCr1, hE⟩ := st_bo hE
  refine g_calli (va_runS (As := [.int a1, .int 0, .int 5]) (rest := []) ⟨hx, hb, hml, hown, hts⟩ (k_X10_within hij (S0 := S0) hCr1) (va_cwS 3 hts (wz_S tw_4_66 tw_4_67 tw_1_11 tw_4_68) rfl rfl rfl hdS_X10_within ⟨Nat.le_of_ble_eq_true rfl, Nat.le_of_ble_eq_true rfl⟩) (g_preS KR_st ZR_st hK hZ hP hS) rfl rfl hl.1 rfl (lv_room (Nat.le_of_ble_eq_true rfl)) dX10_isSight_3 ⟨Nat.zero_le _, Nat.zero_le _⟩) hS (fun H locs hP hS => ?_)
  refine lv_if_eq (tgt := 22) hx hb dX10_isSight_6 (by decide) (fun hc2 => ?_) (fun hc2 => ?_)
  · have hE := st_t hE hc2
    refine lv_iconst (v := 0) hx hb dX10_isSight_22 (by decide) ?_
    replace hE := Option.some.inj hE
    subst hQQ
    exact g_zret hx hb hr hlocks hP hS ((by decide : (0 : Int32) &&& 1 = 0).trans hE) rfl dX10_isSight_23
  · have hE := st_f hE hc2
    refine lv_iload_n hx hb dX10_isSight_9 rfl (lv_at hl 1 rfl) ?_
    refine lv_iconst (v := 0) hx hb dX10_isSight_10 (by decide) ?_
    refine lv_iconst (v := 3) hx hb dX10_isSight_11 (by decide) ?_
    obtain ⟨r3, hCr3, hE⟩ := st_bo hE
    refine g_calli (va_runS (As := [.int a2, .int 0, .int 3]) (rest := []) ⟨hx, hb, hml, hown, hts⟩ (k_X10_within hij (S0 := S0) hCr3) (va_cwS 3 hts (wz_S tw_4_66 tw_4_67 tw_1_11 tw_4_68) rfl rfl rfl hdS_X10_within ⟨Nat.le_of_ble_eq_true rfl, Nat.le_of_ble_eq_true rfl⟩) (g_preS KR_st ZR_st hK hZ hP hS) rfl rfl hl.1 rfl (lv_room (Nat.le_of_ble_eq_true rfl)) dX10_isSight_12 ⟨Nat.zero_le _, Nat.zero_le _⟩) hS (fun H locs hP hS => ?_)
    refine lv_if_eq (tgt := 22) hx hb dX10_isSight_15 (by decide) (fun hc4 => ?_) (fun hc4 => ?_)
    · have hE := st_t hE hc4
      refine lv_iconst (v := 0) hx hb dX10_isSight_22 (by decide) ?_
      replace hE := Option.some.inj hE
      subst hQQ
      exact g_zret hx hb hr hlocks hP hS ((by decide : (0 : Int32) &&& 1 = 0).trans hE) rfl dX10_isSight_23
    · have hE := st_f hE hc4
      refine lv_iconst (v := 1) hx hb dX10_isSight_18 (by decide) ?_
      refine lv_goto (tgt := 23) hx hb dX10_isSight_19 (by decide) ?_
      replace hE := Option.some.inj hE
      subst hQQ
      exact g_zret hx hb hr hlocks hP hS ((by decide : (1 : Int32) &&& 1 = 1).trans hE) rfl dX10_isSight_23

def b_X4_askFor_15 (r1 : Int32) (c5 : Int32) (c6 : Int32) (c7 : Int32) : Option ((Int32 × Int32 × Int32) ⊕ (Int32)) :=
  if 4 ≤ c7 then (some (.inr c5)) else (gd (inb c7 4) (bo (f_J6_bitCount_0f7a4 (r1 &&& (co c7))) (fun (r10 : Int32) => gd (inb c7 4) (bo (f_J6_bitCount_0f7a4 (r1 &&& ((co c7) ^^^ (-1)))) (fun (r12 : Int32) => bv (if r10 < r12 then r12 else r10) (fun (v13 : Int32) => if c6 ≤ v13 then (bv (c7 + 1) (fun (v15 : Int32) => some (.inl (c5, c6, v15)))) else (bv (c7 + 1) (fun (v16 : Int32) => some (.inl (c7, v13, v16))))))))))
def f_X4_askFor (k : Nat) (S0 : (Nat → Nat → Int32)) (a1 : Int32) : Option (Int32) :=
  bo (f_X4_sortsOf k S0 a1) (fun (r1 : Int32) => bo (lp (fun (s2 : Int32 × Int32 × Int32) => b_X4_askFor_15 r1 s2.1 s2.2.1 s2.2.2) 5000 ((-1), 6, 0)) (fun (x3 : Int32) => if r1 = 0 then (some (-1)) else (some x3)))
abbrev rmX4_askFor : Room := { frames := 1, cells := 0, slots := 0, locals := 23 }
theorem hdV_X4_askFor : yX4_askFor.cls = "WitnessWall$Seen" ∧ yX4_askFor.cls ≠ "java/lang/invoke/MethodHandle" ∧ yX4_askFor.cls ≠ "java/lang/invoke/VarHandle" ∧ (parseMethodDescriptor yX4_askFor.desc).map (fun d => d.parameters.length) = some 1 := by decide +kernel
set_option maxHeartbeats 4000000 in
set_option maxRecDepth 100000 in
theorem k_X4_askFor {l : Launch} {D : va_G} {ad : Nat → Nat} {cI cW : ClassId} {tK tC : Nat} (hij : inj 83 ad) {k : Nat} (h0 : iSeen ad cI cW k) {S0 : (Nat → Nat → Int32)} {a1 : Int32} {r : Int32} (hE : f_X4_askFor k S0 a1 = some r) {sz : Nat} : Met l yX4_askFor (wz yX4_askFor cX4_askFor 9 (some FieldType.int)) rmX4_askFor (PG 83 ad (ec ad cI cW) D (KC D cI cW) (ZC tK tC) [.ref (ad k), .int a1] S0 sz) (QGi 83 ad (ec ad cI cW) D r S0 sz) 0 0 (AD 83 ad sz) := by
  unfold f_X4_askFor at hE
  refine g_start (cc := cX4_askFor) (maxL := 9) (ret := (some FieldType.int)) (Qc := fun sz => QGi 83 ad (ec ad cI cW) D r S0 sz) (by decide) rfl (Nat.le_of_ble_eq_true rfl) ?_
  intro p e s m args below meth c H locs ls hx hb hr hts hown hlocks hml hK hZ hP hS hl
  replace hl : lv_has ls 9 [(0, .ref (ad k)), (1, .int a1)] := hl
  obtain ⟨QQ, hQQ⟩ : ∃ q, q = MQ below (QGi 83 ad (ec ad cI cW) D r S0 s.heap.size) args s 0 0 (AD 83 ad s.heap.size) := ⟨_, rfl⟩
  rw [← hQQ]
  refine lv_aload_n hx hb dX4_askFor_0 rfl (lv_at hl 0 rfl) ?_
  refine lv_iload_n hx hb dX4_askFor_1 rfl (lv_at hl 1 rfl) ?_
  obtain ⟨r1, hCr1, hE⟩ := st_bo hE
  refine g_calli (va_runV (As := [.int a1]) (rest := []) ⟨hx, hb, hml, hown, hts⟩ (k_X4_sortsOf hij h0 hCr1) (cwV 1 hts (wz_V tw_2_132 tw_2_125 tw_2_126 tw_1_8 tw_2_127) rfl rfl rfl hdV_X4_sortsOf ⟨Nat.le_of_ble_eq_true rfl, Nat.le_of_ble_eq_true rfl⟩) (g_preV KC_st ZC_st hK hZ hP hS hK.1 (h0.1).1 (ec_o h0.1) rfl) rfl rfl hl.1 rfl (lv_room (Nat.le_of_ble_eq_true rfl)) dX4_askFor_2 ⟨Nat.zero_le _, Nat.zero_le _⟩) hS (fun H locs hP hS => ?_)
  refine lv_istore_n (lv' := [(2, .int r1), (0, .ref (ad k)), (1, .int a1)]) hx hb dX4_askFor_5 rfl hl (by decide) rfl (fun ls hl => ?_)
  refine lv_iconst (v := (-1)) hx hb dX4_askFor_6 (by decide) ?_
  refine lv_istore_n (lv' := [(3, .int (-1)), (2, .int r1), (0, .ref (ad k)), (1, .int a1)]) hx hb dX4_askFor_7 rfl hl (by decide) rfl (fun ls hl => ?_)
  refine lv_bipush (v := 6) hx hb dX4_askFor_8 (by decide) ?_
  refine lv_istore (lv' := [(4, .int 6), (3, .int (-1)), (2, .int r1), (0, .ref (ad k)), (1, .int a1)]) hx hb dX4_askFor_10 hl (by decide) rfl (fun ls hl => ?_)
  refine lv_iconst (v := 0) hx hb dX4_askFor_12 (by decide) ?_
  refine lv_istore (lv' := [(5, .int 0), (4, .int 6), (3, .int (-1)), (2, .int r1), (0, .ref (ad k)), (1, .int a1)]) hx hb dX4_askFor_13 hl (by decide) rfl (fun ls hl => ?_)
  obtain ⟨x3, hx3, hE⟩ := st_bo hE
  refine lp_walk (body := fun (s2 : Int32 × Int32 × Int32) => b_X4_askFor_15 r1 s2.1 s2.2.1 s2.2.2) (fun s2 => ∀ (ls : Array Slot) (H : Heap) (locs : List Loc), lv_has ls 9 [(2, .int r1), (3, .int s2.1), (4, .int s2.2.1), (5, .int s2.2.2)] → cP D ad cI cW S0 H → cS ad s H locs → W p l e rmX4_askFor s m args below meth c H locs 0 0 QQ (F0 m 15 ls [])) (fun x3 => ∀ (ls : Array Slot) (H : Heap) (locs : List Loc), lv_has ls 9 [(2, .int r1), (3, .int x3)] → cP D ad cI cW S0 H → cS ad s H locs → W p l e rmX4_askFor s m args below meth c H locs 0 0 QQ (F0 m 78 ls [])) ?_ _ _ _ hx3 ?_ ls H locs (lv_sub hl [3, 2, 1, 0] rfl) hP hS
  · intro s2 t4 hE hKt4 ls H locs hl hP hS
    obtain ⟨c5, c6, c7⟩ := s2
    replace hE : b_X4_askFor_15 r1 c5 c6 c7 = some t4 := hE
    replace hl : lv_has ls 9 [(2, .int r1), (3, .int c5), (4, .int c6), (5, .int c7)] := hl
    replace hP : cP D ad cI cW S0 H := hP
    unfold b_X4_askFor_15 at hE
    refine lv_iload hx hb dX4_askFor_15 (lv_at hl 3 rfl) ?_
    refine lv_iconst (v := 4) hx hb dX4_askFor_17 (by decide) ?_
    refine lv_icmp_ge (tgt := 78) hx hb dX4_askFor_18 (by decide) (fun hc8 => ?_) (fun hc8 => ?_)
    · have hE := st_t hE hc8
      have hq := Option.some.inj hE
      subst hq
      exact hKt4 ls H locs (lv_sub hl [0, 1] rfl) hP hS
    · have hE := st_f hE hc8
      refine lv_iload_n hx hb dX4_askFor_21 rfl (lv_at hl 0 rfl) ?_
      refine va_getsN hx hb hZ.2.2.1 hS hown (va_Nw.use rfl (hK.2 _ (List.mem_of_getElem? (i := 39) rfl))) (fun _ h9 => h9) dX4_askFor_22 ?_
      refine lv_iload hx hb dX4_askFor_25 (lv_at hl 3 rfl) ?_
      obtain ⟨hi9, hE⟩ := st_gd hE
      refine c_co hx hb hZ hS hi9 dX4_askFor_27 ?_
      refine lv_iand hx hb dX4_askFor_28 ?_
      obtain ⟨r10, hCr10, hE⟩ := st_bo hE
      refine g_calli (va_runS (As := [.int (r1 &&& (co c7))]) (rest := []) ⟨hx, hb, hml, hown, hts⟩ (k_J6_bitCount_0f7a4 hij (S0 := S0) hCr10) (va_cwS 1 hts (wz_S tw_2_135 tw_2_136 tw_1_13 tw_2_137) rfl rfl rfl hdS_J6_bitCount_0f7a4 ⟨Nat.le_of_ble_eq_true rfl, Nat.le_of_ble_eq_true rfl⟩) (g_preS KC_st ZC_st hK hZ hP hS) rfl rfl hl.1 rfl (lv_room (Nat.le_of_ble_eq_true rfl)) dX4_askFor_29 ⟨Nat.zero_le _, Nat.zero_le _⟩) hS (fun H locs hP hS => ?_)
      refine lv_istore (lv' := [(6, .int r10), (2, .int r1), (3, .int c5), (4, .int c6), (5, .int c7)]) hx hb dX4_askFor_32 hl (by decide) rfl (fun ls hl => ?_)
      refine lv_iload_n hx hb dX4_askFor_34 rfl (lv_at hl 1 rfl) ?_
      refine va_getsN hx hb hZ.2.2.1 hS hown (va_Nw.use rfl (hK.2 _ (List.mem_of_getElem? (i := 39) rfl))) (fun _ h9 => h9) dX4_askFor_35 ?_
      refine lv_iload hx hb dX4_askFor_38 (lv_at hl 4 rfl) ?_
      obtain ⟨hi11, hE⟩ := st_gd hE
      refine c_co hx hb hZ hS hi11 dX4_askFor_40 ?_
      refine lv_iconst (v := (-1)) hx hb dX4_askFor_41 (by decide) ?_
      refine lv_ixor hx hb dX4_askFor_42 ?_
      refine lv_iand hx hb dX4_askFor_43 ?_
      obtain ⟨r12, hCr12, hE⟩ := st_bo hE
      refine g_calli (va_runS (As := [.int (r1 &&& ((co c7) ^^^ (-1)))]) (rest := []) ⟨hx, hb, hml, hown, hts⟩ (k_J6_bitCount_0f7a4 hij (S0 := S0) hCr12) (va_cwS 1 hts (wz_S tw_2_135 tw_2_136 tw_1_13 tw_2_137) rfl rfl rfl hdS_J6_bitCount_0f7a4 ⟨Nat.le_of_ble_eq_true rfl, Nat.le_of_ble_eq_true rfl⟩) (g_preS KC_st ZC_st hK hZ hP hS) rfl rfl hl.1 rfl (lv_room (Nat.le_of_ble_eq_true rfl)) dX4_askFor_44 ⟨Nat.zero_le _, Nat.zero_le _⟩) hS (fun H locs hP hS => ?_)
      refine lv_istore (lv' := [(7, .int r12), (6, .int r10), (2, .int r1), (3, .int c5), (4, .int c6), (5, .int c7)]) hx hb dX4_askFor_47 hl (by decide) rfl (fun ls hl => ?_)
      refine lv_iload hx hb dX4_askFor_49 (lv_at hl 1 rfl) ?_
      refine lv_iload hx hb dX4_askFor_51 (lv_at hl 0 rfl) ?_
      refine va_mmax hx hb (hml.trans hl.1.symm) hown (hts _ (wz_m tw_2_141)) (hts _ (wz_m tw_2_47)) (hts _ (wz_m tw_1_12)) (hts _ (wz_m tw_2_48)) (Nat.le_of_ble_eq_true rfl) (Nat.le_of_ble_eq_true rfl) (Nat.zero_le _) (Nat.zero_le _) dX4_askFor_53 ?_
      obtain ⟨v13, ev13, hE⟩ := st_bv hE
      refine nm_i ev13 ?_
      refine lv_istore (lv' := [(8, .int v13), (7, .int r12), (6, .int r10), (2, .int r1), (3, .int c5), (4, .int c6), (5, .int c7)]) hx hb dX4_askFor_56 hl (by decide) rfl (fun ls hl => ?_)
      refine lv_iload hx hb dX4_askFor_58 (lv_at hl 0 rfl) ?_
      refine lv_iload hx hb dX4_askFor_60 (lv_at hl 5 rfl) ?_
      refine lv_icmp_ge (tgt := 72) hx hb dX4_askFor_62 (by decide) (fun hc14 => ?_) (fun hc14 => ?_)
      · have hE := st_t hE hc14
        obtain ⟨v15, ev15, hE⟩ := st_bv hE
        refine lv_iinc (v := v15) (lv' := [(5, .int v15), (8, .int v13), (7, .int r12), (6, .int r10), (2, .int r1), (3, .int c5), (4, .int c6)]) hx hb dX4_askFor_72 hl (k := 6) rfl (by rw [ev15]; rfl) (by decide) rfl (fun ls hl => ?_)
        refine lv_goto (tgt := 15) hx hb dX4_askFor_75 (by decide) ?_
        have hq := Option.some.inj hE
        subst hq
        exact hKt4 ls H locs (lv_sub hl [4, 5, 6, 0] rfl) hP hS
      · have hE := st_f hE hc14
        refine lv_iload hx hb dX4_askFor_65 (lv_at hl 6 rfl) ?_
        refine lv_istore_n (lv' := [(3, .int c7), (8, .int v13), (7, .int r12), (6, .int r10), (2, .int r1), (4, .int c6), (5, .int c7)]) hx hb dX4_askFor_67 rfl hl (by decide) rfl (fun ls hl => ?_)
        refine lv_iload hx hb dX4_askFor_68 (lv_at hl 1 rfl) ?_
        refine lv_istore (lv' := [(4, .int v13), (3, .int c7), (8, .int v13), (7, .int r12), (6, .int r10), (2, .int r1), (5, .int c7)]) hx hb dX4_askFor_70 hl (by decide) rfl (fun ls hl => ?_)
        obtain ⟨v16, ev16, hE⟩ := st_bv hE
        refine lv_iinc (v := v16) (lv' := [(5, .int v16), (4, .int v13), (3, .int c7), (8, .int v13), (7, .int r12), (6, .int r10), (2, .int r1)]) hx hb dX4_askFor_72 hl (k := 6) rfl (by rw [ev16]; rfl) (by decide) rfl (fun ls hl => ?_)
        refine lv_goto (tgt := 15) hx hb dX4_askFor_75 (by decide) ?_
        have hq := Option.some.inj hE
        subst hq
        exact hKt4 ls H locs (lv_sub hl [6, 2, 1, 0] rfl) hP hS
  · intro ls H locs hl hP hS
    refine lv_iload_n hx hb dX4_askFor_78 rfl (lv_at hl 0 rfl) ?_
    refine lv_if_ne (tgt := 86) hx hb dX4_askFor_79 (by decide) (fun hc17 => ?_) (fun hc17 => ?_)
    · have hE := st_f hE hc17
      refine lv_iload_n hx hb dX4_askFor_86 rfl (lv_at hl 1 rfl) ?_
      replace hE := Option.some.inj hE
      subst hQQ
      exact g_iret hx hb hr hlocks hP hS hE rfl dX4_askFor_87
    · have hE := st_t hE hc17
      refine lv_iconst (v := (-1)) hx hb dX4_askFor_82 (by decide) ?_
      refine lv_goto (tgt := 87) hx hb dX4_askFor_83 (by decide) ?_
      replace hE := Option.some.inj hE
      subst hQQ
      exact g_iret hx hb hr hlocks hP hS hE rfl dX4_askFor_87
def b_X1_clashesOf_4 (k : Nat) (S0 : (Nat → Nat → Int32)) (a1 : Int32) (c4 : Int32) (c5 : Int32) : Option ((Int32 × Int32) ⊕ (Int32)) :=
  if (S0 k 2) ≤ c5 then (some (.inr c4)) else (bo (f_X1_clashesBetween k S0 a1 c5) (fun (r7 : Int32) => bv (c4 + r7) (fun (v8 : Int32) => bv (c5 + 1) (fun (v9 : Int32) => some (.inl (v8, v9))))))
def f_X1_clashesOf (k : Nat) (S0 : (Nat → Nat → Int32)) (a1 : Int32) : Option (Int32) :=
  bo (lp (fun (s1 : Int32 × Int32) => b_X1_clashesOf_4 k S0 a1 s1.1 s1.2) 5000 (0, 0)) (fun (x2 : Int32) => some x2)
abbrev rmX1_clashesOf : Room := { frames := 2, cells := 0, slots := 0, locals := 48 }
theorem hdV_X1_clashesOf : yX1_clashesOf.cls = "WitnessWall$Hall" ∧ yX1_clashesOf.cls ≠ "java/lang/invoke/MethodHandle" ∧ yX1_clashesOf.cls ≠ "java/lang/invoke/VarHandle" ∧ (parseMethodDescriptor yX1_clashesOf.desc).map (fun d => d.parameters.length) = some 1 := by decide +kernel
set_option maxHeartbeats 4000000 in
set_option maxRecDepth 100000 in
theorem k_X1_clashesOf {l : Launch} {D : va_G} {ad : Nat → Nat} {cI cW : ClassId} {tK tC : Nat} (hij : inj 83 ad) {k : Nat} (h0 : iHall ad cI cW k) {S0 : (Nat → Nat → Int32)} {a1 : Int32} {r : Int32} (hE : f_X1_clashesOf k S0 a1 = some r) {sz : Nat} : Met l yX1_clashesOf (wz yX1_clashesOf cX1_clashesOf 4 (some FieldType.int)) rmX1_clashesOf (PG 83 ad (ec ad cI cW) D (KC D cI cW) (ZC tK tC) [.ref (ad k), .int a1] S0 sz) (QGi 83 ad (ec ad cI cW) D r S0 sz) 0 0 (AD 83 ad sz) := by
  unfold f_X1_clashesOf at hE
  refine g_start (cc := cX1_clashesOf) (maxL := 4) (ret := (some FieldType.int)) (Qc := fun sz => QGi 83 ad (ec ad cI cW) D r S0 sz) (by decide) rfl (Nat.le_of_ble_eq_true rfl) ?_
  intro p e s m args below meth c H locs ls hx hb hr hts hown hlocks hml hK hZ hP hS hl
  replace hl : lv_has ls 4 [(0, .ref (ad k)), (1, .int a1)] := hl
  obtain ⟨QQ, hQQ⟩ : ∃ q, q = MQ below (QGi 83 ad (ec ad cI cW) D r S0 s.heap.size) args s 0 0 (AD 83 ad s.heap.size) := ⟨_, rfl⟩
  rw [← hQQ]
  refine lv_iconst (v := 0) hx hb dX1_clashesOf_0 (by decide) ?_
  refine lv_istore_n (lv' := [(2, .int 0), (0, .ref (ad k)), (1, .int a1)]) hx hb dX1_clashesOf_1 rfl hl (by decide) rfl (fun ls hl => ?_)
  refine lv_iconst (v := 0) hx hb dX1_clashesOf_2 (by decide) ?_
  refine lv_istore_n (lv' := [(3, .int 0), (2, .int 0), (0, .ref (ad k)), (1, .int a1)]) hx hb dX1_clashesOf_3 rfl hl (by decide) rfl (fun ls hl => ?_)
  obtain ⟨x2, hx2, hE⟩ := st_bo hE
  refine lp_walk (body := fun (s1 : Int32 × Int32) => b_X1_clashesOf_4 k S0 a1 s1.1 s1.2) (fun s1 => ∀ (ls : Array Slot) (H : Heap) (locs : List Loc), lv_has ls 4 [(0, .ref (ad k)), (1, .int a1), (2, .int s1.1), (3, .int s1.2)] → cP D ad cI cW S0 H → cS ad s H locs → W p l e rmX1_clashesOf s m args below meth c H locs 0 0 QQ (F0 m 4 ls [])) (fun x2 => ∀ (ls : Array Slot) (H : Heap) (locs : List Loc), lv_has ls 4 [(2, .int x2)] → cP D ad cI cW S0 H → cS ad s H locs → W p l e rmX1_clashesOf s m args below meth c H locs 0 0 QQ (F0 m 27 ls [])) ?_ _ _ _ hx2 ?_ ls H locs (lv_sub hl [2, 3, 1, 0] rfl) hP hS
  · intro s1 t3 hE hKt3 ls H locs hl hP hS
    obtain ⟨c4, c5⟩ := s1
    replace hE : b_X1_clashesOf_4 k S0 a1 c4 c5 = some t3 := hE
    replace hl : lv_has ls 4 [(0, .ref (ad k)), (1, .int a1), (2, .int c4), (3, .int c5)] := hl
    replace hP : cP D ad cI cW S0 H := hP
    unfold b_X1_clashesOf_4 at hE
    refine lv_iload_n hx hb dX1_clashesOf_4 rfl (lv_at hl 3 rfl) ?_
    refine lv_aload_n hx hb dX1_clashesOf_5 rfl (lv_at hl 0 rfl) ?_
    refine c_get (v := .int (S0 k 2)) hx hb hts (fun w h => wz_m (inX1 w h)) hown hK hP h0.1 rfl 2 (by decide) (hts _ (wz_m tw_1_60)) (fun _ h9 => h9) rfl dX1_clashesOf_6 ?_
    refine lv_icmp_ge (tgt := 27) hx hb dX1_clashesOf_9 (by decide) (fun hc6 => ?_) (fun hc6 => ?_)
    · have hE := st_t hE hc6
      have hq := Option.some.inj hE
      subst hq
      exact hKt3 ls H locs (lv_sub hl [2] rfl) hP hS
    · have hE := st_f hE hc6
      refine lv_iload_n hx hb dX1_clashesOf_12 rfl (lv_at hl 2 rfl) ?_
      refine lv_aload_n hx hb dX1_clashesOf_13 rfl (lv_at hl 0 rfl) ?_
      refine lv_iload_n hx hb dX1_clashesOf_14 rfl (lv_at hl 1 rfl) ?_
      refine lv_iload_n hx hb dX1_clashesOf_15 rfl (lv_at hl 3 rfl) ?_
      obtain ⟨r7, hCr7, hE⟩ := st_bo hE
      refine g_calli (va_runV (As := [.int a1, .int c5]) (rest := [.int c4]) ⟨hx, hb, hml, hown, hts⟩ (k_X1_clashesBetween hij h0 hCr7) (cwV 2 hts (wz_V tw_2_146 tw_2_147 tw_2_148 tw_1_3 tw_2_149) rfl rfl rfl hdV_X1_clashesBetween ⟨Nat.le_of_ble_eq_true rfl, Nat.le_of_ble_eq_true rfl⟩) (g_preV KC_st ZC_st hK hZ hP hS hK.1 (h0.1).1 (ec_o h0.1) rfl) rfl rfl hl.1 rfl (lv_room (Nat.le_of_ble_eq_true rfl)) dX1_clashesOf_16 ⟨Nat.zero_le _, Nat.zero_le _⟩) hS (fun H locs hP hS => ?_)
      refine lv_iadd hx hb dX1_clashesOf_19 ?_
      obtain ⟨v8, ev8, hE⟩ := st_bv hE
      refine nm_i ev8 ?_
      refine lv_istore_n (lv' := [(2, .int v8), (0, .ref (ad k)), (1, .int a1), (3, .int c5)]) hx hb dX1_clashesOf_20 rfl hl (by decide) rfl (fun ls hl => ?_)
      obtain ⟨v9, ev9, hE⟩ := st_bv hE
      refine lv_iinc (v := v9) (lv' := [(3, .int v9), (2, .int v8), (0, .ref (ad k)), (1, .int a1)]) hx hb dX1_clashesOf_21 hl (k := 3) rfl (by rw [ev9]; rfl) (by decide) rfl (fun ls hl => ?_)
      refine lv_goto (tgt := 4) hx hb dX1_clashesOf_24 (by decide) ?_
      have hq := Option.some.inj hE
      subst hq
      exact hKt3 ls H locs (lv_sub hl [2, 3, 1, 0] rfl) hP hS
  · intro ls H locs hl hP hS
    refine lv_iload_n hx hb dX1_clashesOf_27 rfl (lv_at hl 0 rfl) ?_
    replace hE := Option.some.inj hE
    subst hQQ
    exact g_iret hx hb hr hlocks hP hS hE rfl dX1_clashesOf_28
def f_X9_witness (S0 : (Nat → Nat → Int32)) (a1 : Int32) (a2 : Int32) : Option (Int32) :=
  bo (f_X9_isWitness S0 a1) (fun (r1 : Int32) => if r1 = 0 then (some (-101)) else (gd (inb a1 5) (if a2 = 0 then (some (S0 (26 + 2 * a1.toNatClampNeg) 2)) else (if a2 = 1 then (some (S0 (26 + 2 * a1.toNatClampNeg) 1)) else (if a2 = 2 then (bo (f_X7_sightAt (26 + 2 * a1.toNatClampNeg) S0 (a2 - 2)) (fun (r7 : Int32) => some r7)) else (if a2 = 3 then (bo (f_X7_sightAt (26 + 2 * a1.toNatClampNeg) S0 (a2 - 2)) (fun (r9 : Int32) => some r9)) else (if a2 = 4 then (bo (f_X7_sightAt (26 + 2 * a1.toNatClampNeg) S0 (a2 - 2)) (fun (r11 : Int32) => some r11)) else (if a2 = 5 then (bo (f_X4_sortsOf 40 S0 a1) (fun (r13 : Int32) => some r13)) else (if a2 = 6 then (bo (f_X4_askFor 40 S0 a1) (fun (r15 : Int32) => some r15)) else (if a2 = 7 then (bo (f_X1_clashesOf 23 S0 a1) (fun (r17 : Int32) => some r17)) else (some (-102))))))))))))
abbrev rmX9_witness : Room := { frames := 3, cells := 0, slots := 0, locals := 71 }
theorem hdV_X9_witness : yX9_witness.cls = "WitnessWall" ∧ yX9_witness.cls ≠ "java/lang/invoke/MethodHandle" ∧ yX9_witness.cls ≠ "java/lang/invoke/VarHandle" ∧ (parseMethodDescriptor yX9_witness.desc).map (fun d => d.parameters.length) = some 2 := by decide +kernel
set_option maxHeartbeats 4000000 in
set_option maxRecDepth 100000 in
theorem k_X9_witness {l : Launch} {D : va_G} {ad : Nat → Nat} {cI cW : ClassId} {tK tC : Nat} (hij : inj 83 ad)  {S0 : (Nat → Nat → Int32)} {a1 : Int32} {a2 : Int32} {r : Int32} (hE : f_X9_witness S0 a1 a2 = some r) {sz : Nat} : Met l yX9_witness (wz yX9_witness cX9_witness 4 (some FieldType.int)) rmX9_witness (PG 83 ad (ec ad cI cW) D (KC D cI cW) (ZC tK tC) [.ref (ad 0), .int a1, .int a2] S0 sz) (QGi 83 ad (ec ad cI cW) D r S0 sz) 0 0 (AD 83 ad sz) := by
  unfold f_X9_witness at hE
  refine g_start (cc := cX9_witness) (maxL := 4) (ret := (some FieldType.int)) (Qc := fun sz => QGi 83 ad (ec ad cI cW) D r S0 sz) (by decide) rfl (Nat.le_of_ble_eq_true rfl) ?_
  intro p e s m args below meth c H locs ls hx hb hr hts hown hlocks hml hK hZ hP hS hl
  replace hl : lv_has ls 4 [(0, .ref (ad 0)), (1, .int a1), (2, .int a2)] := hl
  obtain ⟨QQ, hQQ⟩ : ∃ q, q = MQ below (QGi 83 ad (ec ad cI cW) D r S0 s.heap.size) args s 0 0 (AD 83 ad s.heap.size) := ⟨_, rfl⟩
  rw [← hQQ]
  refine lv_aload_n hx hb dX9_witness_0 rfl (lv_at hl 0 rfl) ?_
  refine lv_iload_n hx hb dX9_witness_1 rfl (lv_at hl 1 rfl) ?_
  obtain ⟨r1, hCr1, hE⟩ := st_bo hE
  refine g_calli (va_runV (As := [.int a1]) (rest := []) ⟨hx, hb, hml, hown, hts⟩ (k_X9_isWitness hij hCr1) (cwV 1 hts (wz_V tw_2_116 tw_2_118 tp_0 tw_1_1 tw_2_119) rfl rfl rfl hdV_X9_isWitness ⟨Nat.le_of_ble_eq_true rfl, Nat.le_of_ble_eq_true rfl⟩) (g_preV KC_st ZC_st hK hZ hP hS hK.1 ((q_WW (ad := ad) (cI := cI) (cW := cW))).1 (ec_o (q_WW (ad := ad) (cI := cI) (cW := cW))) rfl) rfl rfl hl.1 rfl (lv_room (Nat.le_of_ble_eq_true rfl)) dX9_witness_2 ⟨Nat.zero_le _, Nat.zero_le _⟩) hS (fun H locs hP hS => ?_)
  refine lv_if_ne (tgt := 11) hx hb dX9_witness_5 (by decide) (fun hc2 => ?_) (fun hc2 => ?_)
  · have hE := st_f hE hc2
    refine lv_aload_n hx hb dX9_witness_11 rfl (lv_at hl 0 rfl) ?_
    refine c_get (v := .ref (ad 22)) hx hb hts (fun w h => wz_m (inX9 w h)) hown hK hP (q_WW (ad := ad) (cI := cI) (cW := cW)) rfl 2 (by decide) (hts _ (wz_m tw_1_211)) (fun _ h9 => h9) rfl dX9_witness_12 ?_
    refine c_getN (v := .ref (ad 23)) hx hb hts (fun w h => wz_m (inX3 w h)) hown hK hP (q_Scene_22 (ad := ad) (cI := cI) (cW := cW)).1 rfl 0 (by decide) (List.mem_of_getElem? (i := 29) rfl) (fun _ h9 => h9) rfl dX9_witness_15 ?_
    refine c_getN (v := .ref (ad 24)) hx hb hts (fun w h => wz_m (inX1 w h)) hown hK hP (q_Hall_23 (ad := ad) (cI := cI) (cW := cW)).1 rfl 0 (by decide) (List.mem_of_getElem? (i := 6) rfl) (fun _ h9 => h9) rfl dX9_witness_18 ?_
    refine lv_iload_n hx hb dX9_witness_21 rfl (lv_at hl 1 rfl) ?_
    obtain ⟨hi3, hE⟩ := st_gd hE
    refine c_aald hx hb hK hP (q_Hall_23 (ad := ad) (cI := cI) (cW := cW)).2.1 hi3 dX9_witness_22 ?_
    refine lv_astore_n (lv' := [(3, .ref (ad (26 + 2 * a1.toNatClampNeg))), (0, .ref (ad 0)), (1, .int a1), (2, .int a2)]) hx hb dX9_witness_23 rfl hl (by decide) rfl (fun ls hl => ?_)
    refine lv_iload_n hx hb dX9_witness_24 rfl (lv_at hl 3 rfl) ?_
    by_cases hc4 : a2 = 0
    · have hE := st_t hE hc4
      refine lv_tableIn (tgt := 72) hx hb dX9_witness_25 (by rw [hc4]; decide) (by rw [hc4]; decide) (by rw [hc4]; rfl) (by decide) ?_
      refine lv_aload_n hx hb dX9_witness_72 rfl (lv_at hl 0 rfl) ?_
      refine c_getN (v := .int (S0 (26 + 2 * a1.toNatClampNeg) 2)) hx hb hts (fun w h => wz_m (inX7 w h)) hown hK hP ((q_Hall_23 (ad := ad) (cI := cI) (cW := cW)).2.2.2 _ (st_lt hi3)).1 rfl 2 (by decide) (List.mem_of_getElem? (i := 4) rfl) (fun _ h9 => h9) rfl dX9_witness_73 ?_
      replace hE := Option.some.inj hE
      subst hQQ
      exact g_iret hx hb hr hlocks hP hS hE rfl dX9_witness_76
    replace hE := st_f hE hc4
    by_cases hc5 : a2 = 1
    · have hE := st_t hE hc5
      refine lv_tableIn (tgt := 77) hx hb dX9_witness_25 (by rw [hc5]; decide) (by rw [hc5]; decide) (by rw [hc5]; rfl) (by decide) ?_
      refine lv_aload_n hx hb dX9_witness_77 rfl (lv_at hl 0 rfl) ?_
      refine c_getN (v := .int (S0 (26 + 2 * a1.toNatClampNeg) 1)) hx hb hts (fun w h => wz_m (inX7 w h)) hown hK hP ((q_Hall_23 (ad := ad) (cI := cI) (cW := cW)).2.2.2 _ (st_lt hi3)).1 rfl 1 (by decide) (List.mem_of_getElem? (i := 2) rfl) (fun _ h9 => h9) rfl dX9_witness_78 ?_
      replace hE := Option.some.inj hE
      subst hQQ
      exact g_iret hx hb hr hlocks hP hS hE rfl dX9_witness_81
    replace hE := st_f hE hc5
    by_cases hc6 : a2 = 2
    · have hE := st_t hE hc6
      refine lv_tableIn (tgt := 82) hx hb dX9_witness_25 (by rw [hc6]; decide) (by rw [hc6]; decide) (by rw [hc6]; rfl) (by decide) ?_
      refine lv_aload_n hx hb dX9_witness_82 rfl (lv_at hl 0 rfl) ?_
      refine lv_iload_n hx hb dX9_witness_83 rfl (lv_at hl 3 rfl) ?_
      refine lv_iconst (v := 2) hx hb dX9_witness_84 (by decide) ?_
      refine lv_isub hx hb dX9_witness_85 ?_
      obtain ⟨r7, hCr7, hE⟩ := st_bo hE
      refine g_calli (va_runV (As := [.int (a2 - 2)]) (rest := []) ⟨hx, hb, hml, hown, hts⟩ (k_X7_sightAt hij ((q_Hall_23 (ad := ad) (cI := cI) (cW := cW)).2.2.2 _ (st_lt hi3)) hCr7) (cwV 1 hts (wz_V tw_2_120 tw_2_121 tw_2_122 tw_1_4 tw_2_123) rfl rfl rfl hdV_X7_sightAt ⟨Nat.le_of_ble_eq_true rfl, Nat.le_of_ble_eq_true rfl⟩) (g_preV KC_st ZC_st hK hZ hP hS hK.1 (((q_Hall_23 (ad := ad) (cI := cI) (cW := cW)).2.2.2 _ (st_lt hi3)).1).1 (ec_o ((q_Hall_23 (ad := ad) (cI := cI) (cW := cW)).2.2.2 _ (st_lt hi3)).1) rfl) rfl rfl hl.1 rfl (lv_room (Nat.le_of_ble_eq_true rfl)) dX9_witness_86 ⟨Nat.zero_le _, Nat.zero_le _⟩) hS (fun H locs hP hS => ?_)
      replace hE := Option.some.inj hE
      subst hQQ
      exact g_iret hx hb hr hlocks hP hS hE rfl dX9_witness_89
    replace hE := st_f hE hc6
    by_cases hc8 : a2 = 3
    · have hE := st_t hE hc8
      refine lv_tableIn (tgt := 82) hx hb dX9_witness_25 (by rw [hc8]; decide) (by rw [hc8]; decide) (by rw [hc8]; rfl) (by decide) ?_
      refine lv_aload_n hx hb dX9_witness_82 rfl (lv_at hl 0 rfl) ?_
      refine lv_iload_n hx hb dX9_witness_83 rfl (lv_at hl 3 rfl) ?_
      refine lv_iconst (v := 2) hx hb dX9_witness_84 (by decide) ?_
      refine lv_isub hx hb dX9_witness_85 ?_
      obtain ⟨r9, hCr9, hE⟩ := st_bo hE
      refine g_calli (va_runV (As := [.int (a2 - 2)]) (rest := []) ⟨hx, hb, hml, hown, hts⟩ (k_X7_sightAt hij ((q_Hall_23 (ad := ad) (cI := cI) (cW := cW)).2.2.2 _ (st_lt hi3)) hCr9) (cwV 1 hts (wz_V tw_2_120 tw_2_121 tw_2_122 tw_1_4 tw_2_123) rfl rfl rfl hdV_X7_sightAt ⟨Nat.le_of_ble_eq_true rfl, Nat.le_of_ble_eq_true rfl⟩) (g_preV KC_st ZC_st hK hZ hP hS hK.1 (((q_Hall_23 (ad := ad) (cI := cI) (cW := cW)).2.2.2 _ (st_lt hi3)).1).1 (ec_o ((q_Hall_23 (ad := ad) (cI := cI) (cW := cW)).2.2.2 _ (st_lt hi3)).1) rfl) rfl rfl hl.1 rfl (lv_room (Nat.le_of_ble_eq_true rfl)) dX9_witness_86 ⟨Nat.zero_le _, Nat.zero_le _⟩) hS (fun H locs hP hS => ?_)
      replace hE := Option.some.inj hE
      subst hQQ
      exact g_iret hx hb hr hlocks hP hS hE rfl dX9_witness_89
    replace hE := st_f hE hc8
    by_cases hc10 : a2 = 4
    · have hE := st_t hE hc10
      refine lv_tableIn (tgt := 82) hx hb dX9_witness_25 (by rw [hc10]; decide) (by rw [hc10]; decide) (by rw [hc10]; rfl) (by decide) ?_
      refine lv_aload_n hx hb dX9_witness_82 rfl (lv_at hl 0 rfl) ?_
      refine lv_iload_n hx hb dX9_witness_83 rfl (lv_at hl 3 rfl) ?_
      refine lv_iconst (v := 2) hx hb dX9_witness_84 (by decide) ?_
      refine lv_isub hx hb dX9_witness_85 ?_
      obtain ⟨r11, hCr11, hE⟩ := st_bo hE
      refine g_calli (va_runV (As := [.int (a2 - 2)]) (rest := []) ⟨hx, hb, hml, hown, hts⟩ (k_X7_sightAt hij ((q_Hall_23 (ad := ad) (cI := cI) (cW := cW)).2.2.2 _ (st_lt hi3)) hCr11) (cwV 1 hts (wz_V tw_2_120 tw_2_121 tw_2_122 tw_1_4 tw_2_123) rfl rfl rfl hdV_X7_sightAt ⟨Nat.le_of_ble_eq_true rfl, Nat.le_of_ble_eq_true rfl⟩) (g_preV KC_st ZC_st hK hZ hP hS hK.1 (((q_Hall_23 (ad := ad) (cI := cI) (cW := cW)).2.2.2 _ (st_lt hi3)).1).1 (ec_o ((q_Hall_23 (ad := ad) (cI := cI) (cW := cW)).2.2.2 _ (st_lt hi3)).1) rfl) rfl rfl hl.1 rfl (lv_room (Nat.le_of_ble_eq_true rfl)) dX9_witness_86 ⟨Nat.zero_le _, Nat.zero_le _⟩) hS (fun H locs hP hS => ?_)
      replace hE := Option.some.inj hE
      subst hQQ
      exact g_iret hx hb hr hlocks hP hS hE rfl dX9_witness_89
    replace hE := st_f hE hc10
    by_cases hc12 : a2 = 5
    · have hE := st_t hE hc12
      refine lv_tableIn (tgt := 90) hx hb dX9_witness_25 (by rw [hc12]; decide) (by rw [hc12]; decide) (by rw [hc12]; rfl) (by decide) ?_
      refine lv_aload_n hx hb dX9_witness_90 rfl (lv_at hl 1 rfl) ?_
      refine c_get (v := .ref (ad 22)) hx hb hts (fun w h => wz_m (inX9 w h)) hown hK hP (q_WW (ad := ad) (cI := cI) (cW := cW)) rfl 2 (by decide) (hts _ (wz_m tw_1_211)) (fun _ h9 => h9) rfl dX9_witness_91 ?_
      refine c_getN (v := .ref (ad 40)) hx hb hts (fun w h => wz_m (inX3 w h)) hown hK hP (q_Scene_22 (ad := ad) (cI := cI) (cW := cW)).1 rfl 2 (by decide) (List.mem_of_getElem? (i := 31) rfl) (fun _ h9 => h9) rfl dX9_witness_94 ?_
      refine lv_iload_n hx hb dX9_witness_97 rfl (lv_at hl 2 rfl) ?_
      obtain ⟨r13, hCr13, hE⟩ := st_bo hE
      refine g_calli (va_runV (As := [.int a1]) (rest := []) ⟨hx, hb, hml, hown, hts⟩ (k_X4_sortsOf hij (q_Seen_40 (ad := ad) (cI := cI) (cW := cW)) hCr13) (cwV 1 hts (wz_V tw_2_124 tw_2_125 tw_2_126 tw_1_8 tw_2_127) rfl rfl rfl hdV_X4_sortsOf ⟨Nat.le_of_ble_eq_true rfl, Nat.le_of_ble_eq_true rfl⟩) (g_preV KC_st ZC_st hK hZ hP hS hK.1 ((q_Seen_40 (ad := ad) (cI := cI) (cW := cW)).1).1 (ec_o (q_Seen_40 (ad := ad) (cI := cI) (cW := cW)).1) rfl) rfl rfl hl.1 rfl (lv_room (Nat.le_of_ble_eq_true rfl)) dX9_witness_98 ⟨Nat.zero_le _, Nat.zero_le _⟩) hS (fun H locs hP hS => ?_)
      replace hE := Option.some.inj hE
      subst hQQ
      exact g_iret hx hb hr hlocks hP hS hE rfl dX9_witness_101
    replace hE := st_f hE hc12
    by_cases hc14 : a2 = 6
    · have hE := st_t hE hc14
      refine lv_tableIn (tgt := 102) hx hb dX9_witness_25 (by rw [hc14]; decide) (by rw [hc14]; decide) (by rw [hc14]; rfl) (by decide) ?_
      refine lv_aload_n hx hb dX9_witness_102 rfl (lv_at hl 1 rfl) ?_
      refine c_get (v := .ref (ad 22)) hx hb hts (fun w h => wz_m (inX9 w h)) hown hK hP (q_WW (ad := ad) (cI := cI) (cW := cW)) rfl 2 (by decide) (hts _ (wz_m tw_1_211)) (fun _ h9 => h9) rfl dX9_witness_103 ?_
      refine c_getN (v := .ref (ad 40)) hx hb hts (fun w h => wz_m (inX3 w h)) hown hK hP (q_Scene_22 (ad := ad) (cI := cI) (cW := cW)).1 rfl 2 (by decide) (List.mem_of_getElem? (i := 31) rfl) (fun _ h9 => h9) rfl dX9_witness_106 ?_
      refine lv_iload_n hx hb dX9_witness_109 rfl (lv_at hl 2 rfl) ?_
      obtain ⟨r15, hCr15, hE⟩ := st_bo hE
      refine g_calli (va_runV (As := [.int a1]) (rest := []) ⟨hx, hb, hml, hown, hts⟩ (k_X4_askFor hij (q_Seen_40 (ad := ad) (cI := cI) (cW := cW)) hCr15) (cwV 1 hts (wz_V tw_2_128 tw_2_129 tw_2_130 tw_1_8 tw_2_131) rfl rfl rfl hdV_X4_askFor ⟨Nat.le_of_ble_eq_true rfl, Nat.le_of_ble_eq_true rfl⟩) (g_preV KC_st ZC_st hK hZ hP hS hK.1 ((q_Seen_40 (ad := ad) (cI := cI) (cW := cW)).1).1 (ec_o (q_Seen_40 (ad := ad) (cI := cI) (cW := cW)).1) rfl) rfl rfl hl.1 rfl (lv_room (Nat.le_of_ble_eq_true rfl)) dX9_witness_110 ⟨Nat.zero_le _, Nat.zero_le _⟩) hS (fun H locs hP hS => ?_)
      replace hE := Option.some.inj hE
      subst hQQ
      exact g_iret hx hb hr hlocks hP hS hE rfl dX9_witness_113
    replace hE := st_f hE hc14
    by_cases hc16 : a2 = 7
    · have hE := st_t hE hc16
      refine lv_tableIn (tgt := 114) hx hb dX9_witness_25 (by rw [hc16]; decide) (by rw [hc16]; decide) (by rw [hc16]; rfl) (by decide) ?_
      refine lv_aload_n hx hb dX9_witness_114 rfl (lv_at hl 1 rfl) ?_
      refine c_get (v := .ref (ad 22)) hx hb hts (fun w h => wz_m (inX9 w h)) hown hK hP (q_WW (ad := ad) (cI := cI) (cW := cW)) rfl 2 (by decide) (hts _ (wz_m tw_1_211)) (fun _ h9 => h9) rfl dX9_witness_115 ?_
      refine c_getN (v := .ref (ad 23)) hx hb hts (fun w h => wz_m (inX3 w h)) hown hK hP (q_Scene_22 (ad := ad) (cI := cI) (cW := cW)).1 rfl 0 (by decide) (List.mem_of_getElem? (i := 29) rfl) (fun _ h9 => h9) rfl dX9_witness_118 ?_
      refine lv_iload_n hx hb dX9_witness_121 rfl (lv_at hl 2 rfl) ?_
      obtain ⟨r17, hCr17, hE⟩ := st_bo hE
      refine g_calli (va_runV (As := [.int a1]) (rest := []) ⟨hx, hb, hml, hown, hts⟩ (k_X1_clashesOf hij (q_Hall_23 (ad := ad) (cI := cI) (cW := cW)) hCr17) (cwV 1 hts (wz_V tw_2_142 tw_2_143 tw_2_144 tw_1_3 tw_2_145) rfl rfl rfl hdV_X1_clashesOf ⟨Nat.le_of_ble_eq_true rfl, Nat.le_of_ble_eq_true rfl⟩) (g_preV KC_st ZC_st hK hZ hP hS hK.1 ((q_Hall_23 (ad := ad) (cI := cI) (cW := cW)).1).1 (ec_o (q_Hall_23 (ad := ad) (cI := cI) (cW := cW)).1) rfl) rfl rfl hl.1 rfl (lv_room (Nat.le_of_ble_eq_true rfl)) dX9_witness_122 ⟨Nat.zero_le _, Nat.zero_le _⟩) hS (fun H locs hP hS => ?_)
      replace hE := Option.some.inj hE
      subst hQQ
      exact g_iret hx hb hr hlocks hP hS hE rfl dX9_witness_125
    replace hE := st_f hE hc16
    have nhc4 := lv_neT hc4 (show (0 : Int32).toInt = 0 from by decide)
    have nhc5 := lv_neT hc5 (show (1 : Int32).toInt = 1 from by decide)
    have nhc6 := lv_neT hc6 (show (2 : Int32).toInt = 2 from by decide)
    have nhc8 := lv_neT hc8 (show (3 : Int32).toInt = 3 from by decide)
    have nhc10 := lv_neT hc10 (show (4 : Int32).toInt = 4 from by decide)
    have nhc12 := lv_neT hc12 (show (5 : Int32).toInt = 5 from by decide)
    have nhc14 := lv_neT hc14 (show (6 : Int32).toInt = 6 from by decide)
    have nhc16 := lv_neT hc16 (show (7 : Int32).toInt = 7 from by decide)
    refine lv_tableOut (tgt := 126) hx hb dX9_witness_25 (by omega) (by decide) ?_
    refine lv_bipush (v := (-102)) hx hb dX9_witness_126 (by decide) ?_
    replace hE := Option.some.inj hE
    subst hQQ
    exact g_iret hx hb hr hlocks hP hS hE rfl dX9_witness_128
  · have hE := st_t hE hc2
    refine lv_bipush (v := (-101)) hx hb dX9_witness_8 (by decide) ?_
    replace hE := Option.some.inj hE
    subst hQQ
    exact g_iret hx hb hr hlocks hP hS hE rfl dX9_witness_10
def f_X9_hasWall (S0 : (Nat → Nat → Int32)) : Option (Int32) :=
  if (S0 23 2) ≤ 0 then (some 0) else (some 1)
abbrev rmX9_hasWall : Room := { frames := 0, cells := 0, slots := 0, locals := 0 }
theorem hdV_X9_hasWall : yX9_hasWall.cls = "WitnessWall" ∧ yX9_hasWall.cls ≠ "java/lang/invoke/MethodHandle" ∧ yX9_hasWall.cls ≠ "java/lang/invoke/VarHandle" ∧ (parseMethodDescriptor yX9_hasWall.desc).map (fun d => d.parameters.length) = some 0 := by decide +kernel
set_option maxHeartbeats 4000000 in
set_option maxRecDepth 100000 in
theorem k_X9_hasWall {l : Launch} {D : va_G} {ad : Nat → Nat} {cI cW : ClassId} {tK tC : Nat} (hij : inj 83 ad)  {S0 : (Nat → Nat → Int32)} {r : Int32} (hE : f_X9_hasWall S0 = some r) {sz : Nat} : Met l yX9_hasWall (wz yX9_hasWall cX9_hasWall 1 (some FieldType.boolean)) rmX9_hasWall (PG 83 ad (ec ad cI cW) D (KC D cI cW) (ZC tK tC) [.ref (ad 0)] S0 sz) (QGi 83 ad (ec ad cI cW) D r S0 sz) 0 0 (AD 83 ad sz) := by
  unfold f_X9_hasWall at hE
  refine g_start (cc := cX9_hasWall) (maxL := 1) (ret := (some FieldType.boolean)) (Qc := fun sz => QGi 83 ad (ec ad cI cW) D r S0 sz) (by decide) rfl (Nat.le_of_ble_eq_true rfl) ?_
  intro p e s m args below meth c H locs ls hx hb hr hts hown hlocks hml hK hZ hP hS hl
  replace hl : lv_has ls 1 [(0, .ref (ad 0))] := hl
  obtain ⟨QQ, hQQ⟩ : ∃ q, q = MQ below (QGi 83 ad (ec ad cI cW) D r S0 s.heap.size) args s 0 0 (AD 83 ad s.heap.size) := ⟨_, rfl⟩
  rw [← hQQ]
  refine lv_aload_n hx hb dX9_hasWall_0 rfl (lv_at hl 0 rfl) ?_
  refine c_get (v := .ref (ad 22)) hx hb hts (fun w h => wz_m (inX9 w h)) hown hK hP (q_WW (ad := ad) (cI := cI) (cW := cW)) rfl 2 (by decide) (hts _ (wz_m tw_1_211)) (fun _ h9 => h9) rfl dX9_hasWall_1 ?_
  refine c_getN (v := .ref (ad 23)) hx hb hts (fun w h => wz_m (inX3 w h)) hown hK hP (q_Scene_22 (ad := ad) (cI := cI) (cW := cW)).1 rfl 0 (by decide) (List.mem_of_getElem? (i := 29) rfl) (fun _ h9 => h9) rfl dX9_hasWall_4 ?_
  refine c_getN (v := .int (S0 23 2)) hx hb hts (fun w h => wz_m (inX1 w h)) hown hK hP (q_Hall_23 (ad := ad) (cI := cI) (cW := cW)).1 rfl 2 (by decide) (List.mem_of_getElem? (i := 10) rfl) (fun _ h9 => h9) rfl dX9_hasWall_7 ?_
  refine lv_if_le (tgt := 17) hx hb dX9_hasWall_10 (by decide) (fun hc1 => ?_) (fun hc1 => ?_)
  · have hE := st_t hE hc1
    refine lv_iconst (v := 0) hx hb dX9_hasWall_17 (by decide) ?_
    replace hE := Option.some.inj hE
    subst hQQ
    exact g_zret hx hb hr hlocks hP hS ((by decide : (0 : Int32) &&& 1 = 0).trans hE) rfl dX9_hasWall_18
  · have hE := st_f hE hc1
    refine lv_iconst (v := 1) hx hb dX9_hasWall_13 (by decide) ?_
    refine lv_goto (tgt := 18) hx hb dX9_hasWall_14 (by decide) ?_
    replace hE := Option.some.inj hE
    subst hQQ
    exact g_zret hx hb hr hlocks hP hS ((by decide : (1 : Int32) &&& 1 = 1).trans hE) rfl dX9_hasWall_18
def f_X9_isThing (a1 : Int32) : Option (Int32) :=
  bo (f_X9_isWithin a1 0 5) (fun (r1 : Int32) => some (r1 &&& 1))
abbrev rmX9_isThing : Room := { frames := 1, cells := 0, slots := 0, locals := 22 }
theorem hdS_X9_isThing : yX9_isThing.cls ≠ "java/lang/invoke/MethodHandle" ∧ yX9_isThing.cls ≠ "java/lang/invoke/VarHandle" ∧ (parseMethodDescriptor yX9_isThing.desc).map (fun d => d.parameters.length) = some 1 := by decide +kernel
set_option maxHeartbeats 4000000 in
set_option maxRecDepth 100000 in
theorem k_X9_isThing {l : Launch} {D : va_G} {ad : Nat → Nat} {cI cW : ClassId} {tK tC : Nat} (hij : inj 83 ad)  {S0 : (Nat → Nat → Int32)} {a1 : Int32} {r : Int32} (hE : f_X9_isThing a1 = some r) {sz : Nat} : Met l yX9_isThing (wz yX9_isThing cX9_isThing 1 (some FieldType.boolean)) rmX9_isThing (PG 83 ad (ec ad cI cW) D (KC D cI cW) (ZC tK tC) [.int a1] S0 sz) (QGi 83 ad (ec ad cI cW) D r S0 sz) 0 0 (AD 83 ad sz) := by
  unfold f_X9_isThing at hE
  refine g_start (cc := cX9_isThing) (maxL := 1) (ret := (some FieldType.boolean)) (Qc := fun sz => QGi 83 ad (ec ad cI cW) D r S0 sz) (by decide) rfl (Nat.le_of_ble_eq_true rfl) ?_
  intro p e s m args below meth c H locs ls hx hb hr hts hown hlocks hml hK hZ hP hS hl
  replace hl : lv_has ls 1 [(0, .int a1)] := hl
  obtain ⟨QQ, hQQ⟩ : ∃ q, q = MQ below (QGi 83 ad (ec ad cI cW) D r S0 s.heap.size) args s 0 0 (AD 83 ad s.heap.size) := ⟨_, rfl⟩
  rw [← hQQ]
  refine lv_iload_n hx hb dX9_isThing_0 rfl (lv_at hl 0 rfl) ?_
  refine lv_iconst (v := 0) hx hb dX9_isThing_1 (by decide) ?_
  refine lv_iconst (v := 5) hx hb dX9_isThing_2 (by decide) ?_
  obtain ⟨r1, hCr1, hE⟩ := st_bo hE
  refine g_calli (va_runS (As := [.int a1, .int 0, .int 5]) (rest := []) ⟨hx, hb, hml, hown, hts⟩ (k_X9_isWithin hij (S0 := S0) hCr1) (va_cwS 3 hts (wz_S tw_2_1 tw_2_2 tw_1_1 tw_2_3) rfl rfl rfl hdS_X9_isWithin ⟨Nat.le_of_ble_eq_true rfl, Nat.le_of_ble_eq_true rfl⟩) (g_preS KC_st ZC_st hK hZ hP hS) rfl rfl hl.1 rfl (lv_room (Nat.le_of_ble_eq_true rfl)) dX9_isThing_3 ⟨Nat.zero_le _, Nat.zero_le _⟩) hS (fun H locs hP hS => ?_)
  replace hE := Option.some.inj hE
  subst hQQ
  exact g_zret hx hb hr hlocks hP hS hE rfl dX9_isThing_6
def b_X1_countTellers_2 (k : Nat) (c4 : Int32) (c5 : (Nat → Nat → Int32)) : Option ((Int32 × (Nat → Nat → Int32)) ⊕ ((Nat → Nat → Int32))) :=
  if 4 ≤ c4 then (some (.inr c5)) else (gd (inb c4 4) (bv (up2 c5 (k + 2) (c4.toNatClampNeg) 0) (fun S8 => bv (c4 + 1) (fun (v9 : Int32) => some (.inl (v9, S8))))))
def b_X1_countTellers_22 (k : Nat) (a1 : Int32) (a2 : Int32) (c13 : Int32) (c14 : (Nat → Nat → Int32)) : Option ((Int32 × (Nat → Nat → Int32)) ⊕ ((Nat → Nat → Int32))) :=
  if (c14 k 2) ≤ c13 then (some (.inr c14)) else (gd (inb c13 5) (bo (f_X7_colourOf (k + 3 + 2 * c13.toNatClampNeg) c14 a2) (fun (r17 : Int32) => if ((a1 >>> (c13 &&& 31)) &&& 1) = 1 then (if r17 < 0 then (bv (c13 + 1) (fun (v21 : Int32) => some (.inl (v21, c14)))) else (if 4 ≤ r17 then (bv (c13 + 1) (fun (v23 : Int32) => some (.inl (v23, c14)))) else (gd (inb r17 4) (gd (inb r17 4) (bv (up2 c14 (k + 2) (r17.toNatClampNeg) ((c14 (k + 2) (r17.toNatClampNeg)) + 1)) (fun S26 => bv (c13 + 1) (fun (v27 : Int32) => some (.inl (v27, S26))))))))) else (bv (c13 + 1) (fun (v19 : Int32) => some (.inl (v19, c14)))))))
def f_X1_countTellers (k : Nat) (S0 : (Nat → Nat → Int32)) (a1 : Int32) (a2 : Int32) : Option ((Nat → Nat → Int32)) :=
  bo (lp (fun (s1 : Int32 × (Nat → Nat → Int32)) => b_X1_countTellers_2 k s1.1 s1.2) 5000 (0, S0)) (fun (x2 : (Nat → Nat → Int32)) => bo (lp (fun (s10 : Int32 × (Nat → Nat → Int32)) => b_X1_countTellers_22 k a1 a2 s10.1 s10.2) 5000 (0, x2)) (fun (x11 : (Nat → Nat → Int32)) => some x11))
abbrev rmX1_countTellers : Room := { frames := 1, cells := 0, slots := 0, locals := 22 }
theorem hdV_X1_countTellers : yX1_countTellers.cls = "WitnessWall$Hall" ∧ yX1_countTellers.cls ≠ "java/lang/invoke/MethodHandle" ∧ yX1_countTellers.cls ≠ "java/lang/invoke/VarHandle" ∧ (parseMethodDescriptor yX1_countTellers.desc).map (fun d => d.parameters.length) = some 2 := by decide +kernel
set_option maxHeartbeats 4000000 in
set_option maxRecDepth 100000 in
theorem k_X1_countTellers {l : Launch} {D : va_G} {ad : Nat → Nat} {cI cW : ClassId} {tK tC : Nat} (hij : inj 83 ad) {k : Nat} (h0 : iHall ad cI cW k) {S0 : (Nat → Nat → Int32)} {a1 : Int32} {a2 : Int32} {Sr : (Nat → Nat → Int32)} (hE : f_X1_countTellers k S0 a1 a2 = some Sr) {sz : Nat} : Met l yX1_countTellers (wz yX1_countTellers cX1_countTellers 5 none) rmX1_countTellers (PG 83 ad (ec ad cI cW) D (KC D cI cW) (ZC tK tC) [.ref (ad k), .int a1, .int a2] S0 sz) (QGv 83 ad (ec ad cI cW) D Sr sz) 0 0 (AD 83 ad sz) := by
  unfold f_X1_countTellers at hE
  refine g_start (cc := cX1_countTellers) (maxL := 5) (ret := none) (Qc := fun sz => QGv 83 ad (ec ad cI cW) D Sr sz) (by decide) rfl (Nat.le_of_ble_eq_true rfl) ?_
  intro p e s m args below meth c H locs ls hx hb hr hts hown hlocks hml hK hZ hP hS hl
  replace hl : lv_has ls 5 [(0, .ref (ad k)), (1, .int a1), (2, .int a2)] := hl
  obtain ⟨QQ, hQQ⟩ : ∃ q, q = MQ below (QGv 83 ad (ec ad cI cW) D Sr s.heap.size) args s 0 0 (AD 83 ad s.heap.size) := ⟨_, rfl⟩
  rw [← hQQ]
  refine lv_iconst (v := 0) hx hb dX1_countTellers_0 (by decide) ?_
  refine lv_istore_n (lv' := [(3, .int 0), (0, .ref (ad k)), (1, .int a1), (2, .int a2)]) hx hb dX1_countTellers_1 rfl hl (by decide) rfl (fun ls hl => ?_)
  obtain ⟨x2, hx2, hE⟩ := st_bo hE
  refine lp_walk (body := fun (s1 : Int32 × (Nat → Nat → Int32)) => b_X1_countTellers_2 k s1.1 s1.2) (fun s1 => ∀ (ls : Array Slot) (H : Heap) (locs : List Loc), lv_has ls 5 [(0, .ref (ad k)), (1, .int a1), (2, .int a2), (3, .int s1.1)] → cP D ad cI cW s1.2 H → cS ad s H locs → W p l e rmX1_countTellers s m args below meth c H locs 0 0 QQ (F0 m 2 ls [])) (fun x2 => ∀ (ls : Array Slot) (H : Heap) (locs : List Loc), lv_has ls 5 [(0, .ref (ad k)), (1, .int a1), (2, .int a2)] → cP D ad cI cW x2 H → cS ad s H locs → W p l e rmX1_countTellers s m args below meth c H locs 0 0 QQ (F0 m 20 ls [])) ?_ _ _ _ hx2 ?_ ls H locs (lv_sub hl [1, 2, 3, 0] rfl) hP hS
  · intro s1 t3 hE hKt3 ls H locs hl hP hS
    obtain ⟨c4, c5⟩ := s1
    replace hE : b_X1_countTellers_2 k c4 c5 = some t3 := hE
    replace hl : lv_has ls 5 [(0, .ref (ad k)), (1, .int a1), (2, .int a2), (3, .int c4)] := hl
    replace hP : cP D ad cI cW c5 H := hP
    unfold b_X1_countTellers_2 at hE
    refine lv_iload_n hx hb dX1_countTellers_2 rfl (lv_at hl 3 rfl) ?_
    refine lv_iconst (v := 4) hx hb dX1_countTellers_3 (by decide) ?_
    refine lv_icmp_ge (tgt := 20) hx hb dX1_countTellers_4 (by decide) (fun hc6 => ?_) (fun hc6 => ?_)
    · have hE := st_t hE hc6
      have hq := Option.some.inj hE
      subst hq
      exact hKt3 ls H locs (lv_sub hl [0, 1, 2] rfl) hP hS
    · have hE := st_f hE hc6
      refine lv_aload_n hx hb dX1_countTellers_7 rfl (lv_at hl 0 rfl) ?_
      refine c_get (v := .ref (ad (k + 2))) hx hb hts (fun w h => wz_m (inX1 w h)) hown hK hP h0.1 rfl 1 (by decide) (hts _ (wz_m tw_1_59)) (fun _ h9 => h9) rfl dX1_countTellers_8 ?_
      refine lv_iload_n hx hb dX1_countTellers_11 rfl (lv_at hl 3 rfl) ?_
      refine lv_iconst (v := 0) hx hb dX1_countTellers_12 (by decide) ?_
      obtain ⟨hi7, hE⟩ := st_gd hE
      refine c_iast hij hx hb hK hP hS h0.2.2.1 hi7 dX1_countTellers_13 (fun H locs hP hS => ?_)
      obtain ⟨S8, eS8, hE⟩ := st_bv hE
      rw [← eS8] at hP
      obtain ⟨v9, ev9, hE⟩ := st_bv hE
      refine lv_iinc (v := v9) (lv' := [(3, .int v9), (0, .ref (ad k)), (1, .int a1), (2, .int a2)]) hx hb dX1_countTellers_14 hl (k := 3) rfl (by rw [ev9]; rfl) (by decide) rfl (fun ls hl => ?_)
      refine lv_goto (tgt := 2) hx hb dX1_countTellers_17 (by decide) ?_
      have hq := Option.some.inj hE
      subst hq
      exact hKt3 ls H locs (lv_sub hl [1, 2, 3, 0] rfl) hP hS
  · intro ls H locs hl hP hS
    refine lv_iconst (v := 0) hx hb dX1_countTellers_20 (by decide) ?_
    refine lv_istore_n (lv' := [(3, .int 0), (0, .ref (ad k)), (1, .int a1), (2, .int a2)]) hx hb dX1_countTellers_21 rfl hl (by decide) rfl (fun ls hl => ?_)
    obtain ⟨x11, hx11, hE⟩ := st_bo hE
    refine lp_walk (body := fun (s10 : Int32 × (Nat → Nat → Int32)) => b_X1_countTellers_22 k a1 a2 s10.1 s10.2) (fun s10 => ∀ (ls : Array Slot) (H : Heap) (locs : List Loc), lv_has ls 5 [(0, .ref (ad k)), (1, .int a1), (2, .int a2), (3, .int s10.1)] → cP D ad cI cW s10.2 H → cS ad s H locs → W p l e rmX1_countTellers s m args below meth c H locs 0 0 QQ (F0 m 22 ls [])) (fun x11 => ∀ (ls : Array Slot) (H : Heap) (locs : List Loc), lv_has ls 5 [] → cP D ad cI cW x11 H → cS ad s H locs → W p l e rmX1_countTellers s m args below meth c H locs 0 0 QQ (F0 m 79 ls [])) ?_ _ _ _ hx11 ?_ ls H locs (lv_sub hl [1, 2, 3, 0] rfl) hP hS
    · intro s10 t12 hE hKt12 ls H locs hl hP hS
      obtain ⟨c13, c14⟩ := s10
      replace hE : b_X1_countTellers_22 k a1 a2 c13 c14 = some t12 := hE
      replace hl : lv_has ls 5 [(0, .ref (ad k)), (1, .int a1), (2, .int a2), (3, .int c13)] := hl
      replace hP : cP D ad cI cW c14 H := hP
      unfold b_X1_countTellers_22 at hE
      refine lv_iload_n hx hb dX1_countTellers_22 rfl (lv_at hl 3 rfl) ?_
      refine lv_aload_n hx hb dX1_countTellers_23 rfl (lv_at hl 0 rfl) ?_
      refine c_get (v := .int (c14 k 2)) hx hb hts (fun w h => wz_m (inX1 w h)) hown hK hP h0.1 rfl 2 (by decide) (hts _ (wz_m tw_1_60)) (fun _ h9 => h9) rfl dX1_countTellers_24 ?_
      refine lv_icmp_ge (tgt := 79) hx hb dX1_countTellers_27 (by decide) (fun hc15 => ?_) (fun hc15 => ?_)
      · have hE := st_t hE hc15
        have hq := Option.some.inj hE
        subst hq
        exact hKt12 ls H locs (lv_sub hl [] rfl) hP hS
      · have hE := st_f hE hc15
        refine lv_aload_n hx hb dX1_countTellers_30 rfl (lv_at hl 0 rfl) ?_
        refine c_get (v := .ref (ad (k + 1))) hx hb hts (fun w h => wz_m (inX1 w h)) hown hK hP h0.1 rfl 0 (by decide) (hts _ (wz_m tw_1_55)) (fun _ h9 => h9) rfl dX1_countTellers_31 ?_
        refine lv_iload_n hx hb dX1_countTellers_34 rfl (lv_at hl 3 rfl) ?_
        obtain ⟨hi16, hE⟩ := st_gd hE
        refine c_aald hx hb hK hP h0.2.1 hi16 dX1_countTellers_35 ?_
        refine lv_iload_n hx hb dX1_countTellers_36 rfl (lv_at hl 2 rfl) ?_
        obtain ⟨r17, hCr17, hE⟩ := st_bo hE
        refine g_calli (va_runV (As := [.int a2]) (rest := []) ⟨hx, hb, hml, hown, hts⟩ (k_X7_colourOf hij (h0.2.2.2 _ (st_lt hi16)) hCr17) (cwV 1 hts (wz_V tw_2_150 tw_2_151 tw_2_152 tw_1_4 tw_2_153) rfl rfl rfl hdV_X7_colourOf ⟨Nat.le_of_ble_eq_true rfl, Nat.le_of_ble_eq_true rfl⟩) (g_preV KC_st ZC_st hK hZ hP hS hK.1 ((h0.2.2.2 _ (st_lt hi16)).1).1 (ec_o (h0.2.2.2 _ (st_lt hi16)).1) rfl) rfl rfl hl.1 rfl (lv_room (Nat.le_of_ble_eq_true rfl)) dX1_countTellers_37 ⟨Nat.zero_le _, Nat.zero_le _⟩) hS (fun H locs hP hS => ?_)
        refine lv_istore (lv' := [(4, .int r17), (0, .ref (ad k)), (1, .int a1), (2, .int a2), (3, .int c13)]) hx hb dX1_countTellers_40 hl (by decide) rfl (fun ls hl => ?_)
        refine lv_iload_n hx hb dX1_countTellers_42 rfl (lv_at hl 2 rfl) ?_
        refine lv_iload_n hx hb dX1_countTellers_43 rfl (lv_at hl 4 rfl) ?_
        refine lv_ishr hx hb dX1_countTellers_44 ?_
        refine lv_iconst (v := 1) hx hb dX1_countTellers_45 (by decide) ?_
        refine lv_iand hx hb dX1_countTellers_46 ?_
        refine lv_iconst (v := 1) hx hb dX1_countTellers_47 (by decide) ?_
        refine lv_icmp_ne (tgt := 73) hx hb dX1_countTellers_48 (by decide) (fun hc18 => ?_) (fun hc18 => ?_)
        · have hE := st_f hE hc18
          obtain ⟨v19, ev19, hE⟩ := st_bv hE
          refine lv_iinc (v := v19) (lv' := [(3, .int v19), (4, .int r17), (0, .ref (ad k)), (1, .int a1), (2, .int a2)]) hx hb dX1_countTellers_73 hl (k := 4) rfl (by rw [ev19]; rfl) (by decide) rfl (fun ls hl => ?_)
          refine lv_goto (tgt := 22) hx hb dX1_countTellers_76 (by decide) ?_
          have hq := Option.some.inj hE
          subst hq
          exact hKt12 ls H locs (lv_sub hl [2, 3, 4, 0] rfl) hP hS
        · have hE := st_t hE hc18
          refine lv_iload hx hb dX1_countTellers_51 (lv_at hl 0 rfl) ?_
          refine lv_if_lt (tgt := 73) hx hb dX1_countTellers_53 (by decide) (fun hc20 => ?_) (fun hc20 => ?_)
          · have hE := st_t hE hc20
            obtain ⟨v21, ev21, hE⟩ := st_bv hE
            refine lv_iinc (v := v21) (lv' := [(3, .int v21), (4, .int r17), (0, .ref (ad k)), (1, .int a1), (2, .int a2)]) hx hb dX1_countTellers_73 hl (k := 4) rfl (by rw [ev21]; rfl) (by decide) rfl (fun ls hl => ?_)
            refine lv_goto (tgt := 22) hx hb dX1_countTellers_76 (by decide) ?_
            have hq := Option.some.inj hE
            subst hq
            exact hKt12 ls H locs (lv_sub hl [2, 3, 4, 0] rfl) hP hS
          · have hE := st_f hE hc20
            refine lv_iload hx hb dX1_countTellers_56 (lv_at hl 0 rfl) ?_
            refine lv_iconst (v := 4) hx hb dX1_countTellers_58 (by decide) ?_
            refine lv_icmp_ge (tgt := 73) hx hb dX1_countTellers_59 (by decide) (fun hc22 => ?_) (fun hc22 => ?_)
            · have hE := st_t hE hc22
              obtain ⟨v23, ev23, hE⟩ := st_bv hE
              refine lv_iinc (v := v23) (lv' := [(3, .int v23), (4, .int r17), (0, .ref (ad k)), (1, .int a1), (2, .int a2)]) hx hb dX1_countTellers_73 hl (k := 4) rfl (by rw [ev23]; rfl) (by decide) rfl (fun ls hl => ?_)
              refine lv_goto (tgt := 22) hx hb dX1_countTellers_76 (by decide) ?_
              have hq := Option.some.inj hE
              subst hq
              exact hKt12 ls H locs (lv_sub hl [2, 3, 4, 0] rfl) hP hS
            · have hE := st_f hE hc22
              refine lv_aload_n hx hb dX1_countTellers_62 rfl (lv_at hl 1 rfl) ?_
              refine c_get (v := .ref (ad (k + 2))) hx hb hts (fun w h => wz_m (inX1 w h)) hown hK hP h0.1 rfl 1 (by decide) (hts _ (wz_m tw_1_59)) (fun _ h9 => h9) rfl dX1_countTellers_63 ?_
              refine lv_iload hx hb dX1_countTellers_66 (lv_at hl 0 rfl) ?_
              refine lv_dup2_11 hx hb dX1_countTellers_68 rfl rfl ?_
              obtain ⟨hi24, hE⟩ := st_gd hE
              refine c_iald hx hb hK hP h0.2.2.1 hi24 dX1_countTellers_69 ?_
              refine lv_iconst (v := 1) hx hb dX1_countTellers_70 (by decide) ?_
              refine lv_iadd hx hb dX1_countTellers_71 ?_
              obtain ⟨hi25, hE⟩ := st_gd hE
              refine c_iast hij hx hb hK hP hS h0.2.2.1 hi25 dX1_countTellers_72 (fun H locs hP hS => ?_)
              obtain ⟨S26, eS26, hE⟩ := st_bv hE
              rw [← eS26] at hP
              obtain ⟨v27, ev27, hE⟩ := st_bv hE
              refine lv_iinc (v := v27) (lv' := [(3, .int v27), (4, .int r17), (0, .ref (ad k)), (1, .int a1), (2, .int a2)]) hx hb dX1_countTellers_73 hl (k := 4) rfl (by rw [ev27]; rfl) (by decide) rfl (fun ls hl => ?_)
              refine lv_goto (tgt := 22) hx hb dX1_countTellers_76 (by decide) ?_
              have hq := Option.some.inj hE
              subst hq
              exact hKt12 ls H locs (lv_sub hl [2, 3, 4, 0] rfl) hP hS
    · intro ls H locs hl hP hS
      replace hE := Option.some.inj hE
      subst hQQ
      exact g_vret hx hb hr hlocks hP hS hE dX1_countTellers_79
def b_X1_saidAmong_14 (k : Nat) (r1 : (Nat → Nat → Int32)) (c5 : Int32) (c6 : Int32) (c7 : Int32) : Option ((Int32 × Int32 × Int32) ⊕ (Int32)) :=
  if 4 ≤ c7 then (some (.inr c5)) else (gd (inb c7 4) (if (r1 (k + 2) (c7.toNatClampNeg)) ≤ c6 then (gd (inb c7 4) (if (r1 (k + 2) (c7.toNatClampNeg)) = c6 then (bv (c7 + 1) (fun (v14 : Int32) => some (.inl ((-1), c6, v14)))) else (bv (c7 + 1) (fun (v13 : Int32) => some (.inl (c5, c6, v13)))))) else (gd (inb c7 4) (bv (r1 (k + 2) (c7.toNatClampNeg)) (fun (v16 : Int32) => bv (c7 + 1) (fun (v17 : Int32) => some (.inl (c7, v16, v17))))))))
def f_X1_saidAmong (k : Nat) (S0 : (Nat → Nat → Int32)) (a1 : Int32) (a2 : Int32) : Option (Int32 × (Nat → Nat → Int32)) :=
  bo (f_X1_countTellers k S0 a1 a2) (fun (r1 : (Nat → Nat → Int32)) => bo (lp (fun (s2 : Int32 × Int32 × Int32) => b_X1_saidAmong_14 k r1 s2.1 s2.2.1 s2.2.2) 5000 ((-1), 0, 0)) (fun (x3 : Int32) => some (x3, r1)))
abbrev rmX1_saidAmong : Room := { frames := 2, cells := 0, slots := 0, locals := 46 }
theorem hdV_X1_saidAmong : yX1_saidAmong.cls = "WitnessWall$Hall" ∧ yX1_saidAmong.cls ≠ "java/lang/invoke/MethodHandle" ∧ yX1_saidAmong.cls ≠ "java/lang/invoke/VarHandle" ∧ (parseMethodDescriptor yX1_saidAmong.desc).map (fun d => d.parameters.length) = some 2 := by decide +kernel
set_option maxHeartbeats 4000000 in
set_option maxRecDepth 100000 in
theorem k_X1_saidAmong {l : Launch} {D : va_G} {ad : Nat → Nat} {cI cW : ClassId} {tK tC : Nat} (hij : inj 83 ad) {k : Nat} (h0 : iHall ad cI cW k) {S0 : (Nat → Nat → Int32)} {a1 : Int32} {a2 : Int32} {r : Int32} {Sr : (Nat → Nat → Int32)} (hE : f_X1_saidAmong k S0 a1 a2 = some (r, Sr)) {sz : Nat} : Met l yX1_saidAmong (wz yX1_saidAmong cX1_saidAmong 6 (some FieldType.int)) rmX1_saidAmong (PG 83 ad (ec ad cI cW) D (KC D cI cW) (ZC tK tC) [.ref (ad k), .int a1, .int a2] S0 sz) (QGi 83 ad (ec ad cI cW) D r Sr sz) 0 0 (AD 83 ad sz) := by
  unfold f_X1_saidAmong at hE
  refine g_start (cc := cX1_saidAmong) (maxL := 6) (ret := (some FieldType.int)) (Qc := fun sz => QGi 83 ad (ec ad cI cW) D r Sr sz) (by decide) rfl (Nat.le_of_ble_eq_true rfl) ?_
  intro p e s m args below meth c H locs ls hx hb hr hts hown hlocks hml hK hZ hP hS hl
  replace hl : lv_has ls 6 [(0, .ref (ad k)), (1, .int a1), (2, .int a2)] := hl
  obtain ⟨QQ, hQQ⟩ : ∃ q, q = MQ below (QGi 83 ad (ec ad cI cW) D r Sr s.heap.size) args s 0 0 (AD 83 ad s.heap.size) := ⟨_, rfl⟩
  rw [← hQQ]
  refine lv_aload_n hx hb dX1_saidAmong_0 rfl (lv_at hl 0 rfl) ?_
  refine lv_iload_n hx hb dX1_saidAmong_1 rfl (lv_at hl 1 rfl) ?_
  refine lv_iload_n hx hb dX1_saidAmong_2 rfl (lv_at hl 2 rfl) ?_
  obtain ⟨r1, hCr1, hE⟩ := st_bo hE
  refine g_callv (va_runV (As := [.int a1, .int a2]) (rest := []) ⟨hx, hb, hml, hown, hts⟩ (k_X1_countTellers hij h0 hCr1) (cwV 2 hts (wz_V tw_2_184 tw_2_185 tw_2_186 tw_1_3 tw_2_187) rfl rfl rfl hdV_X1_countTellers ⟨Nat.le_of_ble_eq_true rfl, Nat.le_of_ble_eq_true rfl⟩) (g_preV KC_st ZC_st hK hZ hP hS hK.1 (h0.1).1 (ec_o h0.1) rfl) rfl rfl hl.1 rfl (lv_room (Nat.le_of_ble_eq_true rfl)) dX1_saidAmong_3 ⟨Nat.zero_le _, Nat.zero_le _⟩) hS (fun H locs hP hS => ?_)
  refine lv_iconst (v := (-1)) hx hb dX1_saidAmong_6 (by decide) ?_
  refine lv_istore_n (lv' := [(3, .int (-1)), (0, .ref (ad k)), (1, .int a1), (2, .int a2)]) hx hb dX1_saidAmong_7 rfl hl (by decide) rfl (fun ls hl => ?_)
  refine lv_iconst (v := 0) hx hb dX1_saidAmong_8 (by decide) ?_
  refine lv_istore (lv' := [(4, .int 0), (3, .int (-1)), (0, .ref (ad k)), (1, .int a1), (2, .int a2)]) hx hb dX1_saidAmong_9 hl (by decide) rfl (fun ls hl => ?_)
  refine lv_iconst (v := 0) hx hb dX1_saidAmong_11 (by decide) ?_
  refine lv_istore (lv' := [(5, .int 0), (4, .int 0), (3, .int (-1)), (0, .ref (ad k)), (1, .int a1), (2, .int a2)]) hx hb dX1_saidAmong_12 hl (by decide) rfl (fun ls hl => ?_)
  obtain ⟨x3, hx3, hE⟩ := st_bo hE
  refine lp_walk (body := fun (s2 : Int32 × Int32 × Int32) => b_X1_saidAmong_14 k r1 s2.1 s2.2.1 s2.2.2) (fun s2 => ∀ (ls : Array Slot) (H : Heap) (locs : List Loc), lv_has ls 6 [(0, .ref (ad k)), (3, .int s2.1), (4, .int s2.2.1), (5, .int s2.2.2)] → cP D ad cI cW r1 H → cS ad s H locs → W p l e rmX1_saidAmong s m args below meth c H locs 0 0 QQ (F0 m 14 ls [])) (fun x3 => ∀ (ls : Array Slot) (H : Heap) (locs : List Loc), lv_has ls 6 [(3, .int x3)] → cP D ad cI cW r1 H → cS ad s H locs → W p l e rmX1_saidAmong s m args below meth c H locs 0 0 QQ (F0 m 67 ls [])) ?_ _ _ _ hx3 ?_ ls H locs (lv_sub hl [3, 2, 1, 0] rfl) hP hS
  · intro s2 t4 hE hKt4 ls H locs hl hP hS
    obtain ⟨c5, c6, c7⟩ := s2
    replace hE : b_X1_saidAmong_14 k r1 c5 c6 c7 = some t4 := hE
    replace hl : lv_has ls 6 [(0, .ref (ad k)), (3, .int c5), (4, .int c6), (5, .int c7)] := hl
    replace hP : cP D ad cI cW r1 H := hP
    unfold b_X1_saidAmong_14 at hE
    refine lv_iload hx hb dX1_saidAmong_14 (lv_at hl 3 rfl) ?_
    refine lv_iconst (v := 4) hx hb dX1_saidAmong_16 (by decide) ?_
    refine lv_icmp_ge (tgt := 67) hx hb dX1_saidAmong_17 (by decide) (fun hc8 => ?_) (fun hc8 => ?_)
    · have hE := st_t hE hc8
      have hq := Option.some.inj hE
      subst hq
      exact hKt4 ls H locs (lv_sub hl [1] rfl) hP hS
    · have hE := st_f hE hc8
      refine lv_aload_n hx hb dX1_saidAmong_20 rfl (lv_at hl 0 rfl) ?_
      refine c_get (v := .ref (ad (k + 2))) hx hb hts (fun w h => wz_m (inX1 w h)) hown hK hP h0.1 rfl 1 (by decide) (hts _ (wz_m tw_1_59)) (fun _ h9 => h9) rfl dX1_saidAmong_21 ?_
      refine lv_iload hx hb dX1_saidAmong_24 (lv_at hl 3 rfl) ?_
      obtain ⟨hi9, hE⟩ := st_gd hE
      refine c_iald hx hb hK hP h0.2.2.1 hi9 dX1_saidAmong_26 ?_
      refine lv_iload hx hb dX1_saidAmong_27 (lv_at hl 2 rfl) ?_
      refine lv_icmp_le (tgt := 47) hx hb dX1_saidAmong_29 (by decide) (fun hc10 => ?_) (fun hc10 => ?_)
      · have hE := st_t hE hc10
        refine lv_aload_n hx hb dX1_saidAmong_47 rfl (lv_at hl 0 rfl) ?_
        refine c_get (v := .ref (ad (k + 2))) hx hb hts (fun w h => wz_m (inX1 w h)) hown hK hP h0.1 rfl 1 (by decide) (hts _ (wz_m tw_1_59)) (fun _ h9 => h9) rfl dX1_saidAmong_48 ?_
        refine lv_iload hx hb dX1_saidAmong_51 (lv_at hl 3 rfl) ?_
        obtain ⟨hi11, hE⟩ := st_gd hE
        refine c_iald hx hb hK hP h0.2.2.1 hi11 dX1_saidAmong_53 ?_
        refine lv_iload hx hb dX1_saidAmong_54 (lv_at hl 2 rfl) ?_
        refine lv_icmp_ne (tgt := 61) hx hb dX1_saidAmong_56 (by decide) (fun hc12 => ?_) (fun hc12 => ?_)
        · have hE := st_f hE hc12
          obtain ⟨v13, ev13, hE⟩ := st_bv hE
          refine lv_iinc (v := v13) (lv' := [(5, .int v13), (0, .ref (ad k)), (3, .int c5), (4, .int c6)]) hx hb dX1_saidAmong_61 hl (k := 3) rfl (by rw [ev13]; rfl) (by decide) rfl (fun ls hl => ?_)
          refine lv_goto (tgt := 14) hx hb dX1_saidAmong_64 (by decide) ?_
          have hq := Option.some.inj hE
          subst hq
          exact hKt4 ls H locs (lv_sub hl [1, 2, 3, 0] rfl) hP hS
        · have hE := st_t hE hc12
          refine lv_iconst (v := (-1)) hx hb dX1_saidAmong_59 (by decide) ?_
          refine lv_istore_n (lv' := [(3, .int (-1)), (0, .ref (ad k)), (4, .int c6), (5, .int c7)]) hx hb dX1_saidAmong_60 rfl hl (by decide) rfl (fun ls hl => ?_)
          obtain ⟨v14, ev14, hE⟩ := st_bv hE
          refine lv_iinc (v := v14) (lv' := [(5, .int v14), (3, .int (-1)), (0, .ref (ad k)), (4, .int c6)]) hx hb dX1_saidAmong_61 hl (k := 3) rfl (by rw [ev14]; rfl) (by decide) rfl (fun ls hl => ?_)
          refine lv_goto (tgt := 14) hx hb dX1_saidAmong_64 (by decide) ?_
          have hq := Option.some.inj hE
          subst hq
          exact hKt4 ls H locs (lv_sub hl [2, 1, 3, 0] rfl) hP hS
      · have hE := st_f hE hc10
        refine lv_iload hx hb dX1_saidAmong_32 (lv_at hl 3 rfl) ?_
        refine lv_istore_n (lv' := [(3, .int c7), (0, .ref (ad k)), (4, .int c6), (5, .int c7)]) hx hb dX1_saidAmong_34 rfl hl (by decide) rfl (fun ls hl => ?_)
        refine lv_aload_n hx hb dX1_saidAmong_35 rfl (lv_at hl 1 rfl) ?_
        refine c_get (v := .ref (ad (k + 2))) hx hb hts (fun w h => wz_m (inX1 w h)) hown hK hP h0.1 rfl 1 (by decide) (hts _ (wz_m tw_1_59)) (fun _ h9 => h9) rfl dX1_saidAmong_36 ?_
        refine lv_iload hx hb dX1_saidAmong_39 (lv_at hl 3 rfl) ?_
        obtain ⟨hi15, hE⟩ := st_gd hE
        refine c_iald hx hb hK hP h0.2.2.1 hi15 dX1_saidAmong_41 ?_
        obtain ⟨v16, ev16, hE⟩ := st_bv hE
        refine nm_i ev16 ?_
        refine lv_istore (lv' := [(4, .int v16), (3, .int c7), (0, .ref (ad k)), (5, .int c7)]) hx hb dX1_saidAmong_42 hl (by decide) rfl (fun ls hl => ?_)
        refine lv_goto (tgt := 61) hx hb dX1_saidAmong_44 (by decide) ?_
        obtain ⟨v17, ev17, hE⟩ := st_bv hE
        refine lv_iinc (v := v17) (lv' := [(5, .int v17), (4, .int v16), (3, .int c7), (0, .ref (ad k))]) hx hb dX1_saidAmong_61 hl (k := 3) rfl (by rw [ev17]; rfl) (by decide) rfl (fun ls hl => ?_)
        refine lv_goto (tgt := 14) hx hb dX1_saidAmong_64 (by decide) ?_
        have hq := Option.some.inj hE
        subst hq
        exact hKt4 ls H locs (lv_sub hl [3, 2, 1, 0] rfl) hP hS
  · intro ls H locs hl hP hS
    refine lv_iload_n hx hb dX1_saidAmong_67 rfl (lv_at hl 0 rfl) ?_
    replace hE := Option.some.inj hE
    have hq := Prod.mk.inj hE
    subst hQQ
    exact g_iret hx hb hr hlocks hP hS hq.1 hq.2 dX1_saidAmong_68

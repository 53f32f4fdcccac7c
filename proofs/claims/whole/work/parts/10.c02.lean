def b_X1_clashesBetween_5 (k : Nat) (S0 : (Nat → Nat → Int32)) (a1 : Int32) (a2 : Int32) (c4 : Int32) (c5 : Int32) : Option ((Int32 × Int32) ⊕ (Int32)) :=
  if 6 ≤ c5 then (some (.inr c4)) else (gd (inb a1 5) (bo (f_X7_colourOf (k + 3 + 2 * a1.toNatClampNeg) S0 c5) (fun (r8 : Int32) => gd (inb a2 5) (bo (f_X7_colourOf (k + 3 + 2 * a2.toNatClampNeg) S0 c5) (fun (r10 : Int32) => if r8 = (-1) then (bv (c5 + 1) (fun (v12 : Int32) => some (.inl (c4, v12)))) else (if r10 = (-1) then (bv (c5 + 1) (fun (v14 : Int32) => some (.inl (c4, v14)))) else (if r8 = r10 then (bv (c5 + 1) (fun (v16 : Int32) => some (.inl (c4, v16)))) else (bv (c4 + 1) (fun (v17 : Int32) => bv (c5 + 1) (fun (v18 : Int32) => some (.inl (v17, v18))))))))))))
def f_X1_clashesBetween (k : Nat) (S0 : (Nat → Nat → Int32)) (a1 : Int32) (a2 : Int32) : Option (Int32) :=
  bo (lp (fun (s1 : Int32 × Int32) => b_X1_clashesBetween_5 k S0 a1 a2 s1.1 s1.2) 5000 (0, 0)) (fun (x2 : Int32) => some x2)
abbrev rmX1_clashesBetween : Room := { frames := 1, cells := 0, slots := 0, locals := 22 }
theorem hdV_X1_clashesBetween : yX1_clashesBetween.cls = "WitnessWall$Hall" ∧ yX1_clashesBetween.cls ≠ "java/lang/invoke/MethodHandle" ∧ yX1_clashesBetween.cls ≠ "java/lang/invoke/VarHandle" ∧ (parseMethodDescriptor yX1_clashesBetween.desc).map (fun d => d.parameters.length) = some 2 := by decide +kernel
set_option maxHeartbeats 4000000 in
set_option maxRecDepth 100000 in
theorem k_X1_clashesBetween {l : Launch} {D : va_G} {ad : Nat → Nat} {cI cW : ClassId} {tK tC : Nat} (hij : inj 83 ad) {k : Nat} (h0 : iHall ad cI cW k) {S0 : (Nat → Nat → Int32)} {a1 : Int32} {a2 : Int32} {r : Int32} (hE : f_X1_clashesBetween k S0 a1 a2 = some r) {sz : Nat} : Met l yX1_clashesBetween (wz yX1_clashesBetween cX1_clashesBetween 7 (some FieldType.int)) rmX1_clashesBetween (PG 83 ad (ec ad cI cW) D (KC D cI cW) (ZC tK tC) [.ref (ad k), .int a1, .int a2] S0 sz) (QGi 83 ad (ec ad cI cW) D r S0 sz) 0 0 (AD 83 ad sz) := by
  unfold f_X1_clashesBetween at hE
  refine g_start (cc := cX1_clashesBetween) (maxL := 7) (ret := (some FieldType.int)) (Qc := fun sz => QGi 83 ad (ec ad cI cW) D r S0 sz) (by decide) rfl (Nat.le_of_ble_eq_true rfl) ?_
  intro p e s m args below meth c H locs ls hx hb hr hts hown hlocks hml hK hZ hP hS hl
  replace hl : lv_has ls 7 [(0, .ref (ad k)), (1, .int a1), (2, .int a2)] := hl
  obtain ⟨QQ, hQQ⟩ : ∃ q, q = MQ below (QGi 83 ad (ec ad cI cW) D r S0 s.heap.size) args s 0 0 (AD 83 ad s.heap.size) := ⟨_, rfl⟩
  rw [← hQQ]
  refine lv_iconst (v := 0) hx hb dX1_clashesBetween_0 (by decide) ?_
  refine lv_istore_n (lv' := [(3, .int 0), (0, .ref (ad k)), (1, .int a1), (2, .int a2)]) hx hb dX1_clashesBetween_1 rfl hl (by decide) rfl (fun ls hl => ?_)
  refine lv_iconst (v := 0) hx hb dX1_clashesBetween_2 (by decide) ?_
  refine lv_istore (lv' := [(4, .int 0), (3, .int 0), (0, .ref (ad k)), (1, .int a1), (2, .int a2)]) hx hb dX1_clashesBetween_3 hl (by decide) rfl (fun ls hl => ?_)
  obtain ⟨x2, hx2, hE⟩ := st_bo hE
  refine lp_walk (body := fun (s1 : Int32 × Int32) => b_X1_clashesBetween_5 k S0 a1 a2 s1.1 s1.2) (fun s1 => ∀ (ls : Array Slot) (H : Heap) (locs : List Loc), lv_has ls 7 [(0, .ref (ad k)), (1, .int a1), (2, .int a2), (3, .int s1.1), (4, .int s1.2)] → cP D ad cI cW S0 H → cS ad s H locs → W p l e rmX1_clashesBetween s m args below meth c H locs 0 0 QQ (F0 m 5 ls [])) (fun x2 => ∀ (ls : Array Slot) (H : Heap) (locs : List Loc), lv_has ls 7 [(3, .int x2)] → cP D ad cI cW S0 H → cS ad s H locs → W p l e rmX1_clashesBetween s m args below meth c H locs 0 0 QQ (F0 m 66 ls [])) ?_ _ _ _ hx2 ?_ ls H locs (lv_sub hl [2, 3, 4, 1, 0] rfl) hP hS
  · intro s1 t3 hE hKt3 ls H locs hl hP hS
    obtain ⟨c4, c5⟩ := s1
    replace hE : b_X1_clashesBetween_5 k S0 a1 a2 c4 c5 = some t3 := hE
    replace hl : lv_has ls 7 [(0, .ref (ad k)), (1, .int a1), (2, .int a2), (3, .int c4), (4, .int c5)] := hl
    replace hP : cP D ad cI cW S0 H := hP
    unfold b_X1_clashesBetween_5 at hE
    refine lv_iload hx hb dX1_clashesBetween_5 (lv_at hl 4 rfl) ?_
    refine lv_bipush (v := 6) hx hb dX1_clashesBetween_7 (by decide) ?_
    refine lv_icmp_ge (tgt := 66) hx hb dX1_clashesBetween_9 (by decide) (fun hc6 => ?_) (fun hc6 => ?_)
    · have hE := st_t hE hc6
      have hq := Option.some.inj hE
      subst hq
      exact hKt3 ls H locs (lv_sub hl [3] rfl) hP hS
    · have hE := st_f hE hc6
      refine lv_aload_n hx hb dX1_clashesBetween_12 rfl (lv_at hl 0 rfl) ?_
      refine c_get (v := .ref (ad (k + 1))) hx hb hts (fun w h => wz_m (inX1 w h)) hown hK hP h0.1 rfl 0 (by decide) (hts _ (wz_m tw_1_55)) (fun _ h9 => h9) rfl dX1_clashesBetween_13 ?_
      refine lv_iload_n hx hb dX1_clashesBetween_16 rfl (lv_at hl 1 rfl) ?_
      obtain ⟨hi7, hE⟩ := st_gd hE
      refine c_aald hx hb hK hP h0.2.1 hi7 dX1_clashesBetween_17 ?_
      refine lv_iload hx hb dX1_clashesBetween_18 (lv_at hl 4 rfl) ?_
      obtain ⟨r8, hCr8, hE⟩ := st_bo hE
      refine g_calli (va_runV (As := [.int c5]) (rest := []) ⟨hx, hb, hml, hown, hts⟩ (k_X7_colourOf hij (h0.2.2.2 _ (st_lt hi7)) hCr8) (cwV 1 hts (wz_V tw_2_150 tw_2_151 tw_2_152 tw_1_4 tw_2_153) rfl rfl rfl hdV_X7_colourOf ⟨Nat.le_of_ble_eq_true rfl, Nat.le_of_ble_eq_true rfl⟩) (g_preV KC_st ZC_st hK hZ hP hS hK.1 ((h0.2.2.2 _ (st_lt hi7)).1).1 (ec_o (h0.2.2.2 _ (st_lt hi7)).1) rfl) rfl rfl hl.1 rfl (lv_room (Nat.le_of_ble_eq_true rfl)) dX1_clashesBetween_20 ⟨Nat.zero_le _, Nat.zero_le _⟩) hS (fun H locs hP hS => ?_)
      refine lv_istore (lv' := [(5, .int r8), (0, .ref (ad k)), (1, .int a1), (2, .int a2), (3, .int c4), (4, .int c5)]) hx hb dX1_clashesBetween_23 hl (by decide) rfl (fun ls hl => ?_)
      refine lv_aload_n hx hb dX1_clashesBetween_25 rfl (lv_at hl 1 rfl) ?_
      refine c_get (v := .ref (ad (k + 1))) hx hb hts (fun w h => wz_m (inX1 w h)) hown hK hP h0.1 rfl 0 (by decide) (hts _ (wz_m tw_1_55)) (fun _ h9 => h9) rfl dX1_clashesBetween_26 ?_
      refine lv_iload_n hx hb dX1_clashesBetween_29 rfl (lv_at hl 3 rfl) ?_
      obtain ⟨hi9, hE⟩ := st_gd hE
      refine c_aald hx hb hK hP h0.2.1 hi9 dX1_clashesBetween_30 ?_
      refine lv_iload hx hb dX1_clashesBetween_31 (lv_at hl 5 rfl) ?_
      obtain ⟨r10, hCr10, hE⟩ := st_bo hE
      refine g_calli (va_runV (As := [.int c5]) (rest := []) ⟨hx, hb, hml, hown, hts⟩ (k_X7_colourOf hij (h0.2.2.2 _ (st_lt hi9)) hCr10) (cwV 1 hts (wz_V tw_2_150 tw_2_151 tw_2_152 tw_1_4 tw_2_153) rfl rfl rfl hdV_X7_colourOf ⟨Nat.le_of_ble_eq_true rfl, Nat.le_of_ble_eq_true rfl⟩) (g_preV KC_st ZC_st hK hZ hP hS hK.1 ((h0.2.2.2 _ (st_lt hi9)).1).1 (ec_o (h0.2.2.2 _ (st_lt hi9)).1) rfl) rfl rfl hl.1 rfl (lv_room (Nat.le_of_ble_eq_true rfl)) dX1_clashesBetween_33 ⟨Nat.zero_le _, Nat.zero_le _⟩) hS (fun H locs hP hS => ?_)
      refine lv_istore (lv' := [(6, .int r10), (5, .int r8), (0, .ref (ad k)), (1, .int a1), (2, .int a2), (3, .int c4), (4, .int c5)]) hx hb dX1_clashesBetween_36 hl (by decide) rfl (fun ls hl => ?_)
      refine lv_iload hx hb dX1_clashesBetween_38 (lv_at hl 1 rfl) ?_
      refine lv_iconst (v := (-1)) hx hb dX1_clashesBetween_40 (by decide) ?_
      refine lv_icmp_eq (tgt := 60) hx hb dX1_clashesBetween_41 (by decide) (fun hc11 => ?_) (fun hc11 => ?_)
      · have hE := st_t hE hc11
        obtain ⟨v12, ev12, hE⟩ := st_bv hE
        refine lv_iinc (v := v12) (lv' := [(4, .int v12), (6, .int r10), (5, .int r8), (0, .ref (ad k)), (1, .int a1), (2, .int a2), (3, .int c4)]) hx hb dX1_clashesBetween_60 hl (k := 6) rfl (by rw [ev12]; rfl) (by decide) rfl (fun ls hl => ?_)
        refine lv_goto (tgt := 5) hx hb dX1_clashesBetween_63 (by decide) ?_
        have hq := Option.some.inj hE
        subst hq
        exact hKt3 ls H locs (lv_sub hl [3, 4, 5, 6, 0] rfl) hP hS
      · have hE := st_f hE hc11
        refine lv_iload hx hb dX1_clashesBetween_44 (lv_at hl 0 rfl) ?_
        refine lv_iconst (v := (-1)) hx hb dX1_clashesBetween_46 (by decide) ?_
        refine lv_icmp_eq (tgt := 60) hx hb dX1_clashesBetween_47 (by decide) (fun hc13 => ?_) (fun hc13 => ?_)
        · have hE := st_t hE hc13
          obtain ⟨v14, ev14, hE⟩ := st_bv hE
          refine lv_iinc (v := v14) (lv' := [(4, .int v14), (6, .int r10), (5, .int r8), (0, .ref (ad k)), (1, .int a1), (2, .int a2), (3, .int c4)]) hx hb dX1_clashesBetween_60 hl (k := 6) rfl (by rw [ev14]; rfl) (by decide) rfl (fun ls hl => ?_)
          refine lv_goto (tgt := 5) hx hb dX1_clashesBetween_63 (by decide) ?_
          have hq := Option.some.inj hE
          subst hq
          exact hKt3 ls H locs (lv_sub hl [3, 4, 5, 6, 0] rfl) hP hS
        · have hE := st_f hE hc13
          refine lv_iload hx hb dX1_clashesBetween_50 (lv_at hl 1 rfl) ?_
          refine lv_iload hx hb dX1_clashesBetween_52 (lv_at hl 0 rfl) ?_
          refine lv_icmp_eq (tgt := 60) hx hb dX1_clashesBetween_54 (by decide) (fun hc15 => ?_) (fun hc15 => ?_)
          · have hE := st_t hE hc15
            obtain ⟨v16, ev16, hE⟩ := st_bv hE
            refine lv_iinc (v := v16) (lv' := [(4, .int v16), (6, .int r10), (5, .int r8), (0, .ref (ad k)), (1, .int a1), (2, .int a2), (3, .int c4)]) hx hb dX1_clashesBetween_60 hl (k := 6) rfl (by rw [ev16]; rfl) (by decide) rfl (fun ls hl => ?_)
            refine lv_goto (tgt := 5) hx hb dX1_clashesBetween_63 (by decide) ?_
            have hq := Option.some.inj hE
            subst hq
            exact hKt3 ls H locs (lv_sub hl [3, 4, 5, 6, 0] rfl) hP hS
          · have hE := st_f hE hc15
            obtain ⟨v17, ev17, hE⟩ := st_bv hE
            refine lv_iinc (v := v17) (lv' := [(3, .int v17), (6, .int r10), (5, .int r8), (0, .ref (ad k)), (1, .int a1), (2, .int a2), (4, .int c5)]) hx hb dX1_clashesBetween_57 hl (k := 5) rfl (by rw [ev17]; rfl) (by decide) rfl (fun ls hl => ?_)
            obtain ⟨v18, ev18, hE⟩ := st_bv hE
            refine lv_iinc (v := v18) (lv' := [(4, .int v18), (3, .int v17), (6, .int r10), (5, .int r8), (0, .ref (ad k)), (1, .int a1), (2, .int a2)]) hx hb dX1_clashesBetween_60 hl (k := 6) rfl (by rw [ev18]; rfl) (by decide) rfl (fun ls hl => ?_)
            refine lv_goto (tgt := 5) hx hb dX1_clashesBetween_63 (by decide) ?_
            have hq := Option.some.inj hE
            subst hq
            exact hKt3 ls H locs (lv_sub hl [4, 5, 6, 1, 0] rfl) hP hS
  · intro ls H locs hl hP hS
    refine lv_iload_n hx hb dX1_clashesBetween_66 rfl (lv_at hl 0 rfl) ?_
    replace hE := Option.some.inj hE
    subst hQQ
    exact g_iret hx hb hr hlocks hP hS hE rfl dX1_clashesBetween_67
def b_X1_clashesAmong_15 (k : Nat) (S0 : (Nat → Nat → Int32)) (a1 : Int32) (c5 : Int32) (c10 : Int32) (c11 : Int32) : Option ((Int32 × Int32) ⊕ (Int32)) :=
  if c5 ≤ c11 then (some (.inr c10)) else (if ((a1 >>> (c11 &&& 31)) &&& 1) = 1 then (if ((a1 >>> (c5 &&& 31)) &&& 1) = 1 then (bo (f_X1_clashesBetween k S0 c11 c5) (fun (r17 : Int32) => bv (c10 + r17) (fun (v18 : Int32) => bv (c11 + 1) (fun (v19 : Int32) => some (.inl (v18, v19)))))) else (bv (c11 + 1) (fun (v16 : Int32) => some (.inl (c10, v16))))) else (bv (c11 + 1) (fun (v14 : Int32) => some (.inl (c10, v14)))))
def b_X1_clashesAmong_4 (k : Nat) (S0 : (Nat → Nat → Int32)) (a1 : Int32) (c4 : Int32) (c5 : Int32) : Option ((Int32 × Int32) ⊕ (Int32)) :=
  if (S0 k 2) ≤ c5 then (some (.inr c4)) else (bo (lp (fun (s7 : Int32 × Int32) => b_X1_clashesAmong_15 k S0 a1 c5 s7.1 s7.2) 5000 (c4, 0)) (fun (x8 : Int32) => bv (c5 + 1) (fun (v20 : Int32) => some (.inl (x8, v20)))))
def f_X1_clashesAmong (k : Nat) (S0 : (Nat → Nat → Int32)) (a1 : Int32) : Option (Int32) :=
  bo (lp (fun (s1 : Int32 × Int32) => b_X1_clashesAmong_4 k S0 a1 s1.1 s1.2) 5000 (0, 1)) (fun (x2 : Int32) => some x2)
abbrev rmX1_clashesAmong : Room := { frames := 2, cells := 0, slots := 0, locals := 48 }
theorem hdV_X1_clashesAmong : yX1_clashesAmong.cls = "WitnessWall$Hall" ∧ yX1_clashesAmong.cls ≠ "java/lang/invoke/MethodHandle" ∧ yX1_clashesAmong.cls ≠ "java/lang/invoke/VarHandle" ∧ (parseMethodDescriptor yX1_clashesAmong.desc).map (fun d => d.parameters.length) = some 1 := by decide +kernel
set_option maxHeartbeats 4000000 in
set_option maxRecDepth 100000 in
theorem k_X1_clashesAmong {l : Launch} {D : va_G} {ad : Nat → Nat} {cI cW : ClassId} {tK tC : Nat} (hij : inj 83 ad) {k : Nat} (h0 : iHall ad cI cW k) {S0 : (Nat → Nat → Int32)} {a1 : Int32} {r : Int32} (hE : f_X1_clashesAmong k S0 a1 = some r) {sz : Nat} : Met l yX1_clashesAmong (wz yX1_clashesAmong cX1_clashesAmong 5 (some FieldType.int)) rmX1_clashesAmong (PG 83 ad (ec ad cI cW) D (KC D cI cW) (ZC tK tC) [.ref (ad k), .int a1] S0 sz) (QGi 83 ad (ec ad cI cW) D r S0 sz) 0 0 (AD 83 ad sz) := by
  unfold f_X1_clashesAmong at hE
  refine g_start (cc := cX1_clashesAmong) (maxL := 5) (ret := (some FieldType.int)) (Qc := fun sz => QGi 83 ad (ec ad cI cW) D r S0 sz) (by decide) rfl (Nat.le_of_ble_eq_true rfl) ?_
  intro p e s m args below meth c H locs ls hx hb hr hts hown hlocks hml hK hZ hP hS hl
  replace hl : lv_has ls 5 [(0, .ref (ad k)), (1, .int a1)] := hl
  obtain ⟨QQ, hQQ⟩ : ∃ q, q = MQ below (QGi 83 ad (ec ad cI cW) D r S0 s.heap.size) args s 0 0 (AD 83 ad s.heap.size) := ⟨_, rfl⟩
  rw [← hQQ]
  refine lv_iconst (v := 0) hx hb dX1_clashesAmong_0 (by decide) ?_
  refine lv_istore_n (lv' := [(2, .int 0), (0, .ref (ad k)), (1, .int a1)]) hx hb dX1_clashesAmong_1 rfl hl (by decide) rfl (fun ls hl => ?_)
  refine lv_iconst (v := 1) hx hb dX1_clashesAmong_2 (by decide) ?_
  refine lv_istore_n (lv' := [(3, .int 1), (2, .int 0), (0, .ref (ad k)), (1, .int a1)]) hx hb dX1_clashesAmong_3 rfl hl (by decide) rfl (fun ls hl => ?_)
  obtain ⟨x2, hx2, hE⟩ := st_bo hE
  refine lp_walk (body := fun (s1 : Int32 × Int32) => b_X1_clashesAmong_4 k S0 a1 s1.1 s1.2) (fun s1 => ∀ (ls : Array Slot) (H : Heap) (locs : List Loc), lv_has ls 5 [(0, .ref (ad k)), (1, .int a1), (2, .int s1.1), (3, .int s1.2)] → cP D ad cI cW S0 H → cS ad s H locs → W p l e rmX1_clashesAmong s m args below meth c H locs 0 0 QQ (F0 m 4 ls [])) (fun x2 => ∀ (ls : Array Slot) (H : Heap) (locs : List Loc), lv_has ls 5 [(2, .int x2)] → cP D ad cI cW S0 H → cS ad s H locs → W p l e rmX1_clashesAmong s m args below meth c H locs 0 0 QQ (F0 m 62 ls [])) ?_ _ _ _ hx2 ?_ ls H locs (lv_sub hl [2, 3, 1, 0] rfl) hP hS
  · intro s1 t3 hE hKt3 ls H locs hl hP hS
    obtain ⟨c4, c5⟩ := s1
    replace hE : b_X1_clashesAmong_4 k S0 a1 c4 c5 = some t3 := hE
    replace hl : lv_has ls 5 [(0, .ref (ad k)), (1, .int a1), (2, .int c4), (3, .int c5)] := hl
    replace hP : cP D ad cI cW S0 H := hP
    unfold b_X1_clashesAmong_4 at hE
    refine lv_iload_n hx hb dX1_clashesAmong_4 rfl (lv_at hl 3 rfl) ?_
    refine lv_aload_n hx hb dX1_clashesAmong_5 rfl (lv_at hl 0 rfl) ?_
    refine c_get (v := .int (S0 k 2)) hx hb hts (fun w h => wz_m (inX1 w h)) hown hK hP h0.1 rfl 2 (by decide) (hts _ (wz_m tw_1_60)) (fun _ h9 => h9) rfl dX1_clashesAmong_6 ?_
    refine lv_icmp_ge (tgt := 62) hx hb dX1_clashesAmong_9 (by decide) (fun hc6 => ?_) (fun hc6 => ?_)
    · have hE := st_t hE hc6
      have hq := Option.some.inj hE
      subst hq
      exact hKt3 ls H locs (lv_sub hl [2] rfl) hP hS
    · have hE := st_f hE hc6
      refine lv_iconst (v := 0) hx hb dX1_clashesAmong_12 (by decide) ?_
      refine lv_istore (lv' := [(4, .int 0), (0, .ref (ad k)), (1, .int a1), (2, .int c4), (3, .int c5)]) hx hb dX1_clashesAmong_13 hl (by decide) rfl (fun ls hl => ?_)
      obtain ⟨x8, hx8, hE⟩ := st_bo hE
      refine lp_walk (body := fun (s7 : Int32 × Int32) => b_X1_clashesAmong_15 k S0 a1 c5 s7.1 s7.2) (fun s7 => ∀ (ls : Array Slot) (H : Heap) (locs : List Loc), lv_has ls 5 [(0, .ref (ad k)), (1, .int a1), (2, .int s7.1), (3, .int c5), (4, .int s7.2)] → cP D ad cI cW S0 H → cS ad s H locs → W p l e rmX1_clashesAmong s m args below meth c H locs 0 0 QQ (F0 m 15 ls [])) (fun x8 => ∀ (ls : Array Slot) (H : Heap) (locs : List Loc), lv_has ls 5 [(0, .ref (ad k)), (1, .int a1), (2, .int x8), (3, .int c5)] → cP D ad cI cW S0 H → cS ad s H locs → W p l e rmX1_clashesAmong s m args below meth c H locs 0 0 QQ (F0 m 56 ls [])) ?_ _ _ _ hx8 ?_ ls H locs (lv_sub hl [1, 2, 3, 4, 0] rfl) hP hS
      · intro s7 t9 hE hKt9 ls H locs hl hP hS
        obtain ⟨c10, c11⟩ := s7
        replace hE : b_X1_clashesAmong_15 k S0 a1 c5 c10 c11 = some t9 := hE
        replace hl : lv_has ls 5 [(0, .ref (ad k)), (1, .int a1), (2, .int c10), (3, .int c5), (4, .int c11)] := hl
        replace hP : cP D ad cI cW S0 H := hP
        unfold b_X1_clashesAmong_15 at hE
        refine lv_iload hx hb dX1_clashesAmong_15 (lv_at hl 4 rfl) ?_
        refine lv_iload_n hx hb dX1_clashesAmong_17 rfl (lv_at hl 3 rfl) ?_
        refine lv_icmp_ge (tgt := 56) hx hb dX1_clashesAmong_18 (by decide) (fun hc12 => ?_) (fun hc12 => ?_)
        · have hE := st_t hE hc12
          have hq := Option.some.inj hE
          subst hq
          exact hKt9 ls H locs (lv_sub hl [0, 1, 2, 3] rfl) hP hS
        · have hE := st_f hE hc12
          refine lv_iload_n hx hb dX1_clashesAmong_21 rfl (lv_at hl 1 rfl) ?_
          refine lv_iload hx hb dX1_clashesAmong_22 (lv_at hl 4 rfl) ?_
          refine lv_ishr hx hb dX1_clashesAmong_24 ?_
          refine lv_iconst (v := 1) hx hb dX1_clashesAmong_25 (by decide) ?_
          refine lv_iand hx hb dX1_clashesAmong_26 ?_
          refine lv_iconst (v := 1) hx hb dX1_clashesAmong_27 (by decide) ?_
          refine lv_icmp_ne (tgt := 50) hx hb dX1_clashesAmong_28 (by decide) (fun hc13 => ?_) (fun hc13 => ?_)
          · have hE := st_f hE hc13
            obtain ⟨v14, ev14, hE⟩ := st_bv hE
            refine lv_iinc (v := v14) (lv' := [(4, .int v14), (0, .ref (ad k)), (1, .int a1), (2, .int c10), (3, .int c5)]) hx hb dX1_clashesAmong_50 hl (k := 4) rfl (by rw [ev14]; rfl) (by decide) rfl (fun ls hl => ?_)
            refine lv_goto (tgt := 15) hx hb dX1_clashesAmong_53 (by decide) ?_
            have hq := Option.some.inj hE
            subst hq
            exact hKt9 ls H locs (lv_sub hl [1, 2, 3, 4, 0] rfl) hP hS
          · have hE := st_t hE hc13
            refine lv_iload_n hx hb dX1_clashesAmong_31 rfl (lv_at hl 1 rfl) ?_
            refine lv_iload_n hx hb dX1_clashesAmong_32 rfl (lv_at hl 3 rfl) ?_
            refine lv_ishr hx hb dX1_clashesAmong_33 ?_
            refine lv_iconst (v := 1) hx hb dX1_clashesAmong_34 (by decide) ?_
            refine lv_iand hx hb dX1_clashesAmong_35 ?_
            refine lv_iconst (v := 1) hx hb dX1_clashesAmong_36 (by decide) ?_
            refine lv_icmp_ne (tgt := 50) hx hb dX1_clashesAmong_37 (by decide) (fun hc15 => ?_) (fun hc15 => ?_)
            · have hE := st_f hE hc15
              obtain ⟨v16, ev16, hE⟩ := st_bv hE
              refine lv_iinc (v := v16) (lv' := [(4, .int v16), (0, .ref (ad k)), (1, .int a1), (2, .int c10), (3, .int c5)]) hx hb dX1_clashesAmong_50 hl (k := 4) rfl (by rw [ev16]; rfl) (by decide) rfl (fun ls hl => ?_)
              refine lv_goto (tgt := 15) hx hb dX1_clashesAmong_53 (by decide) ?_
              have hq := Option.some.inj hE
              subst hq
              exact hKt9 ls H locs (lv_sub hl [1, 2, 3, 4, 0] rfl) hP hS
            · have hE := st_t hE hc15
              refine lv_iload_n hx hb dX1_clashesAmong_40 rfl (lv_at hl 2 rfl) ?_
              refine lv_aload_n hx hb dX1_clashesAmong_41 rfl (lv_at hl 0 rfl) ?_
              refine lv_iload hx hb dX1_clashesAmong_42 (lv_at hl 4 rfl) ?_
              refine lv_iload_n hx hb dX1_clashesAmong_44 rfl (lv_at hl 3 rfl) ?_
              obtain ⟨r17, hCr17, hE⟩ := st_bo hE
              refine g_calli (va_runV (As := [.int c11, .int c5]) (rest := [.int c10]) ⟨hx, hb, hml, hown, hts⟩ (k_X1_clashesBetween hij h0 hCr17) (cwV 2 hts (wz_V tw_2_146 tw_2_147 tw_2_148 tw_1_3 tw_2_149) rfl rfl rfl hdV_X1_clashesBetween ⟨Nat.le_of_ble_eq_true rfl, Nat.le_of_ble_eq_true rfl⟩) (g_preV KC_st ZC_st hK hZ hP hS hK.1 (h0.1).1 (ec_o h0.1) rfl) rfl rfl hl.1 rfl (lv_room (Nat.le_of_ble_eq_true rfl)) dX1_clashesAmong_45 ⟨Nat.zero_le _, Nat.zero_le _⟩) hS (fun H locs hP hS => ?_)
              refine lv_iadd hx hb dX1_clashesAmong_48 ?_
              obtain ⟨v18, ev18, hE⟩ := st_bv hE
              refine nm_i ev18 ?_
              refine lv_istore_n (lv' := [(2, .int v18), (0, .ref (ad k)), (1, .int a1), (3, .int c5), (4, .int c11)]) hx hb dX1_clashesAmong_49 rfl hl (by decide) rfl (fun ls hl => ?_)
              obtain ⟨v19, ev19, hE⟩ := st_bv hE
              refine lv_iinc (v := v19) (lv' := [(4, .int v19), (2, .int v18), (0, .ref (ad k)), (1, .int a1), (3, .int c5)]) hx hb dX1_clashesAmong_50 hl (k := 4) rfl (by rw [ev19]; rfl) (by decide) rfl (fun ls hl => ?_)
              refine lv_goto (tgt := 15) hx hb dX1_clashesAmong_53 (by decide) ?_
              have hq := Option.some.inj hE
              subst hq
              exact hKt9 ls H locs (lv_sub hl [2, 3, 1, 4, 0] rfl) hP hS
      · intro ls H locs hl hP hS
        obtain ⟨v20, ev20, hE⟩ := st_bv hE
        refine lv_iinc (v := v20) (lv' := [(3, .int v20), (0, .ref (ad k)), (1, .int a1), (2, .int x8)]) hx hb dX1_clashesAmong_56 hl (k := 3) rfl (by rw [ev20]; rfl) (by decide) rfl (fun ls hl => ?_)
        refine lv_goto (tgt := 4) hx hb dX1_clashesAmong_59 (by decide) ?_
        have hq := Option.some.inj hE
        subst hq
        exact hKt3 ls H locs (lv_sub hl [1, 2, 3, 0] rfl) hP hS
  · intro ls H locs hl hP hS
    refine lv_iload_n hx hb dX1_clashesAmong_62 rfl (lv_at hl 0 rfl) ?_
    replace hE := Option.some.inj hE
    subst hQQ
    exact g_iret hx hb hr hlocks hP hS hE rfl dX1_clashesAmong_63
def f_X9_count (S0 : (Nat → Nat → Int32)) (a1 : Int32) : Option (Int32) :=
  if a1 = 0 then (some (S0 23 2)) else (if a1 = 1 then (some (S0 19 2)) else (if a1 = 2 then (some (S0 36 3)) else (if a1 = 3 then (bo (f_X1_unlikeSights 23 S0) (fun (r5 : Int32) => some r5)) else (if a1 = 4 then (bo (f_X1_everyone 23 S0) (fun (r7 : Int32) => bo (f_X1_clashesAmong 23 S0 r7) (fun (r8 : Int32) => some r8))) else (if a1 = 5 then (some (S0 22 3)) else (if a1 = 6 then (some (S0 40 2)) else (if a1 = 7 then (some (S0 1 3)) else (if a1 = 8 then (some (S0 0 8)) else (some (-102))))))))))
abbrev rmX9_count : Room := { frames := 3, cells := 0, slots := 0, locals := 72 }
theorem hdV_X9_count : yX9_count.cls = "WitnessWall" ∧ yX9_count.cls ≠ "java/lang/invoke/MethodHandle" ∧ yX9_count.cls ≠ "java/lang/invoke/VarHandle" ∧ (parseMethodDescriptor yX9_count.desc).map (fun d => d.parameters.length) = some 1 := by decide +kernel
set_option maxHeartbeats 4000000 in
set_option maxRecDepth 100000 in
theorem k_X9_count {l : Launch} {D : va_G} {ad : Nat → Nat} {cI cW : ClassId} {tK tC : Nat} (hij : inj 83 ad)  {S0 : (Nat → Nat → Int32)} {a1 : Int32} {r : Int32} (hE : f_X9_count S0 a1 = some r) {sz : Nat} : Met l yX9_count (wz yX9_count cX9_count 2 (some FieldType.int)) rmX9_count (PG 83 ad (ec ad cI cW) D (KC D cI cW) (ZC tK tC) [.ref (ad 0), .int a1] S0 sz) (QGi 83 ad (ec ad cI cW) D r S0 sz) 0 0 (AD 83 ad sz) := by
  unfold f_X9_count at hE
  refine g_start (cc := cX9_count) (maxL := 2) (ret := (some FieldType.int)) (Qc := fun sz => QGi 83 ad (ec ad cI cW) D r S0 sz) (by decide) rfl (Nat.le_of_ble_eq_true rfl) ?_
  intro p e s m args below meth c H locs ls hx hb hr hts hown hlocks hml hK hZ hP hS hl
  replace hl : lv_has ls 2 [(0, .ref (ad 0)), (1, .int a1)] := hl
  obtain ⟨QQ, hQQ⟩ : ∃ q, q = MQ below (QGi 83 ad (ec ad cI cW) D r S0 s.heap.size) args s 0 0 (AD 83 ad s.heap.size) := ⟨_, rfl⟩
  rw [← hQQ]
  refine lv_iload_n hx hb dX9_count_0 rfl (lv_at hl 1 rfl) ?_
  by_cases hc1 : a1 = 0
  · have hE := st_t hE hc1
    refine lv_tableIn (tgt := 52) hx hb dX9_count_1 (by rw [hc1]; decide) (by rw [hc1]; decide) (by rw [hc1]; rfl) (by decide) ?_
    refine lv_aload_n hx hb dX9_count_52 rfl (lv_at hl 0 rfl) ?_
    refine c_get (v := .ref (ad 22)) hx hb hts (fun w h => wz_m (inX9 w h)) hown hK hP (q_WW (ad := ad) (cI := cI) (cW := cW)) rfl 2 (by decide) (hts _ (wz_m tw_1_211)) (fun _ h9 => h9) rfl dX9_count_53 ?_
    refine c_getN (v := .ref (ad 23)) hx hb hts (fun w h => wz_m (inX3 w h)) hown hK hP (q_Scene_22 (ad := ad) (cI := cI) (cW := cW)).1 rfl 0 (by decide) (List.mem_of_getElem? (i := 29) rfl) (fun _ h9 => h9) rfl dX9_count_56 ?_
    refine c_getN (v := .int (S0 23 2)) hx hb hts (fun w h => wz_m (inX1 w h)) hown hK hP (q_Hall_23 (ad := ad) (cI := cI) (cW := cW)).1 rfl 2 (by decide) (List.mem_of_getElem? (i := 10) rfl) (fun _ h9 => h9) rfl dX9_count_59 ?_
    replace hE := Option.some.inj hE
    subst hQQ
    exact g_iret hx hb hr hlocks hP hS hE rfl dX9_count_62
  replace hE := st_f hE hc1
  by_cases hc2 : a1 = 1
  · have hE := st_t hE hc2
    refine lv_tableIn (tgt := 63) hx hb dX9_count_1 (by rw [hc2]; decide) (by rw [hc2]; decide) (by rw [hc2]; rfl) (by decide) ?_
    refine lv_aload_n hx hb dX9_count_63 rfl (lv_at hl 0 rfl) ?_
    refine c_get (v := .ref (ad 19)) hx hb hts (fun w h => wz_m (inX9 w h)) hown hK hP (q_WW (ad := ad) (cI := cI) (cW := cW)) rfl 1 (by decide) (hts _ (wz_m tw_1_210)) (fun _ h9 => h9) rfl dX9_count_64 ?_
    refine c_getN (v := .int (S0 19 2)) hx hb hts (fun w h => wz_m (inX0 w h)) hown hK hP (q_Cases_19 (ad := ad) (cI := cI) (cW := cW)).1 rfl 2 (by decide) (List.mem_of_getElem? (i := 16) rfl) (fun _ h9 => h9) rfl dX9_count_67 ?_
    replace hE := Option.some.inj hE
    subst hQQ
    exact g_iret hx hb hr hlocks hP hS hE rfl dX9_count_70
  replace hE := st_f hE hc2
  by_cases hc3 : a1 = 2
  · have hE := st_t hE hc3
    refine lv_tableIn (tgt := 71) hx hb dX9_count_1 (by rw [hc3]; decide) (by rw [hc3]; decide) (by rw [hc3]; rfl) (by decide) ?_
    refine lv_aload_n hx hb dX9_count_71 rfl (lv_at hl 0 rfl) ?_
    refine c_get (v := .ref (ad 22)) hx hb hts (fun w h => wz_m (inX9 w h)) hown hK hP (q_WW (ad := ad) (cI := cI) (cW := cW)) rfl 2 (by decide) (hts _ (wz_m tw_1_211)) (fun _ h9 => h9) rfl dX9_count_72 ?_
    refine c_getN (v := .ref (ad 36)) hx hb hts (fun w h => wz_m (inX3 w h)) hown hK hP (q_Scene_22 (ad := ad) (cI := cI) (cW := cW)).1 rfl 1 (by decide) (List.mem_of_getElem? (i := 30) rfl) (fun _ h9 => h9) rfl dX9_count_75 ?_
    refine c_getN (v := .int (S0 36 3)) hx hb hts (fun w h => wz_m (inX5 w h)) hown hK hP (q_Slips_36 (ad := ad) (cI := cI) (cW := cW)).1 rfl 3 (by decide) (List.mem_of_getElem? (i := 25) rfl) (fun _ h9 => h9) rfl dX9_count_78 ?_
    replace hE := Option.some.inj hE
    subst hQQ
    exact g_iret hx hb hr hlocks hP hS hE rfl dX9_count_81
  replace hE := st_f hE hc3
  by_cases hc4 : a1 = 3
  · have hE := st_t hE hc4
    refine lv_tableIn (tgt := 82) hx hb dX9_count_1 (by rw [hc4]; decide) (by rw [hc4]; decide) (by rw [hc4]; rfl) (by decide) ?_
    refine lv_aload_n hx hb dX9_count_82 rfl (lv_at hl 0 rfl) ?_
    refine c_get (v := .ref (ad 22)) hx hb hts (fun w h => wz_m (inX9 w h)) hown hK hP (q_WW (ad := ad) (cI := cI) (cW := cW)) rfl 2 (by decide) (hts _ (wz_m tw_1_211)) (fun _ h9 => h9) rfl dX9_count_83 ?_
    refine c_getN (v := .ref (ad 23)) hx hb hts (fun w h => wz_m (inX3 w h)) hown hK hP (q_Scene_22 (ad := ad) (cI := cI) (cW := cW)).1 rfl 0 (by decide) (List.mem_of_getElem? (i := 29) rfl) (fun _ h9 => h9) rfl dX9_count_86 ?_
    obtain ⟨r5, hCr5, hE⟩ := st_bo hE
    refine g_calli (va_runV (As := []) (rest := []) ⟨hx, hb, hml, hown, hts⟩ (k_X1_unlikeSights hij (q_Hall_23 (ad := ad) (cI := cI) (cW := cW)) hCr5) (cwV 0 hts (wz_V tw_3_132 tw_3_133 tw_3_134 tw_1_3 tw_3_135) rfl rfl rfl hdV_X1_unlikeSights ⟨Nat.le_of_ble_eq_true rfl, Nat.le_of_ble_eq_true rfl⟩) (g_preV KC_st ZC_st hK hZ hP hS hK.1 ((q_Hall_23 (ad := ad) (cI := cI) (cW := cW)).1).1 (ec_o (q_Hall_23 (ad := ad) (cI := cI) (cW := cW)).1) rfl) rfl rfl hl.1 rfl (lv_room (Nat.le_of_ble_eq_true rfl)) dX9_count_89 ⟨Nat.zero_le _, Nat.zero_le _⟩) hS (fun H locs hP hS => ?_)
    replace hE := Option.some.inj hE
    subst hQQ
    exact g_iret hx hb hr hlocks hP hS hE rfl dX9_count_92
  replace hE := st_f hE hc4
  by_cases hc6 : a1 = 4
  · have hE := st_t hE hc6
    refine lv_tableIn (tgt := 93) hx hb dX9_count_1 (by rw [hc6]; decide) (by rw [hc6]; decide) (by rw [hc6]; rfl) (by decide) ?_
    refine lv_aload_n hx hb dX9_count_93 rfl (lv_at hl 0 rfl) ?_
    refine c_get (v := .ref (ad 22)) hx hb hts (fun w h => wz_m (inX9 w h)) hown hK hP (q_WW (ad := ad) (cI := cI) (cW := cW)) rfl 2 (by decide) (hts _ (wz_m tw_1_211)) (fun _ h9 => h9) rfl dX9_count_94 ?_
    refine c_getN (v := .ref (ad 23)) hx hb hts (fun w h => wz_m (inX3 w h)) hown hK hP (q_Scene_22 (ad := ad) (cI := cI) (cW := cW)).1 rfl 0 (by decide) (List.mem_of_getElem? (i := 29) rfl) (fun _ h9 => h9) rfl dX9_count_97 ?_
    refine lv_aload_n hx hb dX9_count_100 rfl (lv_at hl 0 rfl) ?_
    refine c_get (v := .ref (ad 22)) hx hb hts (fun w h => wz_m (inX9 w h)) hown hK hP (q_WW (ad := ad) (cI := cI) (cW := cW)) rfl 2 (by decide) (hts _ (wz_m tw_1_211)) (fun _ h9 => h9) rfl dX9_count_101 ?_
    refine c_getN (v := .ref (ad 23)) hx hb hts (fun w h => wz_m (inX3 w h)) hown hK hP (q_Scene_22 (ad := ad) (cI := cI) (cW := cW)).1 rfl 0 (by decide) (List.mem_of_getElem? (i := 29) rfl) (fun _ h9 => h9) rfl dX9_count_104 ?_
    obtain ⟨r7, hCr7, hE⟩ := st_bo hE
    refine g_calli (va_runV (As := []) (rest := [.ref (ad 23)]) ⟨hx, hb, hml, hown, hts⟩ (k_X1_everyone hij (q_Hall_23 (ad := ad) (cI := cI) (cW := cW)) hCr7) (cwV 0 hts (wz_V tw_2_176 tw_2_177 tw_2_178 tw_1_3 tw_2_179) rfl rfl rfl hdV_X1_everyone ⟨Nat.le_of_ble_eq_true rfl, Nat.le_of_ble_eq_true rfl⟩) (g_preV KC_st ZC_st hK hZ hP hS hK.1 ((q_Hall_23 (ad := ad) (cI := cI) (cW := cW)).1).1 (ec_o (q_Hall_23 (ad := ad) (cI := cI) (cW := cW)).1) rfl) rfl rfl hl.1 rfl (lv_room (Nat.le_of_ble_eq_true rfl)) dX9_count_107 ⟨Nat.zero_le _, Nat.zero_le _⟩) hS (fun H locs hP hS => ?_)
    obtain ⟨r8, hCr8, hE⟩ := st_bo hE
    refine g_calli (va_runV (As := [.int r7]) (rest := []) ⟨hx, hb, hml, hown, hts⟩ (k_X1_clashesAmong hij (q_Hall_23 (ad := ad) (cI := cI) (cW := cW)) hCr8) (cwV 1 hts (wz_V tw_3_107 tw_3_51 tw_3_52 tw_1_3 tw_3_53) rfl rfl rfl hdV_X1_clashesAmong ⟨Nat.le_of_ble_eq_true rfl, Nat.le_of_ble_eq_true rfl⟩) (g_preV KC_st ZC_st hK hZ hP hS hK.1 ((q_Hall_23 (ad := ad) (cI := cI) (cW := cW)).1).1 (ec_o (q_Hall_23 (ad := ad) (cI := cI) (cW := cW)).1) rfl) rfl rfl hl.1 rfl (lv_room (Nat.le_of_ble_eq_true rfl)) dX9_count_110 ⟨Nat.zero_le _, Nat.zero_le _⟩) hS (fun H locs hP hS => ?_)
    replace hE := Option.some.inj hE
    subst hQQ
    exact g_iret hx hb hr hlocks hP hS hE rfl dX9_count_113
  replace hE := st_f hE hc6
  by_cases hc9 : a1 = 5
  · have hE := st_t hE hc9
    refine lv_tableIn (tgt := 114) hx hb dX9_count_1 (by rw [hc9]; decide) (by rw [hc9]; decide) (by rw [hc9]; rfl) (by decide) ?_
    refine lv_aload_n hx hb dX9_count_114 rfl (lv_at hl 0 rfl) ?_
    refine c_get (v := .ref (ad 22)) hx hb hts (fun w h => wz_m (inX9 w h)) hown hK hP (q_WW (ad := ad) (cI := cI) (cW := cW)) rfl 2 (by decide) (hts _ (wz_m tw_1_211)) (fun _ h9 => h9) rfl dX9_count_115 ?_
    refine c_getN (v := .int (S0 22 3)) hx hb hts (fun w h => wz_m (inX3 w h)) hown hK hP (q_Scene_22 (ad := ad) (cI := cI) (cW := cW)).1 rfl 3 (by decide) (List.mem_of_getElem? (i := 32) rfl) (fun _ h9 => h9) rfl dX9_count_118 ?_
    replace hE := Option.some.inj hE
    subst hQQ
    exact g_iret hx hb hr hlocks hP hS hE rfl dX9_count_121
  replace hE := st_f hE hc9
  by_cases hc10 : a1 = 6
  · have hE := st_t hE hc10
    refine lv_tableIn (tgt := 122) hx hb dX9_count_1 (by rw [hc10]; decide) (by rw [hc10]; decide) (by rw [hc10]; rfl) (by decide) ?_
    refine lv_aload_n hx hb dX9_count_122 rfl (lv_at hl 0 rfl) ?_
    refine c_get (v := .ref (ad 22)) hx hb hts (fun w h => wz_m (inX9 w h)) hown hK hP (q_WW (ad := ad) (cI := cI) (cW := cW)) rfl 2 (by decide) (hts _ (wz_m tw_1_211)) (fun _ h9 => h9) rfl dX9_count_123 ?_
    refine c_getN (v := .ref (ad 40)) hx hb hts (fun w h => wz_m (inX3 w h)) hown hK hP (q_Scene_22 (ad := ad) (cI := cI) (cW := cW)).1 rfl 2 (by decide) (List.mem_of_getElem? (i := 31) rfl) (fun _ h9 => h9) rfl dX9_count_126 ?_
    refine c_getN (v := .int (S0 40 2)) hx hb hts (fun w h => wz_m (inX4 w h)) hown hK hP (q_Seen_40 (ad := ad) (cI := cI) (cW := cW)).1 rfl 2 (by decide) (List.mem_of_getElem? (i := 28) rfl) (fun _ h9 => h9) rfl dX9_count_129 ?_
    replace hE := Option.some.inj hE
    subst hQQ
    exact g_iret hx hb hr hlocks hP hS hE rfl dX9_count_132
  replace hE := st_f hE hc10
  by_cases hc11 : a1 = 7
  · have hE := st_t hE hc11
    refine lv_tableIn (tgt := 133) hx hb dX9_count_1 (by rw [hc11]; decide) (by rw [hc11]; decide) (by rw [hc11]; rfl) (by decide) ?_
    refine lv_aload_n hx hb dX9_count_133 rfl (lv_at hl 0 rfl) ?_
    refine c_get (v := .ref (ad 1)) hx hb hts (fun w h => wz_m (inX9 w h)) hown hK hP (q_WW (ad := ad) (cI := cI) (cW := cW)) rfl 0 (by decide) (hts _ (wz_m tw_1_209)) (fun _ h9 => h9) rfl dX9_count_134 ?_
    refine c_getN (v := .int (S0 1 3)) hx hb hts (fun w h => wz_m (inX2 w h)) hown hK hP (q_Page_1 (ad := ad) (cI := cI) (cW := cW)).1 rfl 3 (by decide) (List.mem_of_getElem? (i := 20) rfl) (fun _ h9 => h9) rfl dX9_count_137 ?_
    replace hE := Option.some.inj hE
    subst hQQ
    exact g_iret hx hb hr hlocks hP hS hE rfl dX9_count_140
  replace hE := st_f hE hc11
  by_cases hc12 : a1 = 8
  · have hE := st_t hE hc12
    refine lv_tableIn (tgt := 141) hx hb dX9_count_1 (by rw [hc12]; decide) (by rw [hc12]; decide) (by rw [hc12]; rfl) (by decide) ?_
    refine lv_aload_n hx hb dX9_count_141 rfl (lv_at hl 0 rfl) ?_
    refine c_get (v := .int (S0 0 8)) hx hb hts (fun w h => wz_m (inX9 w h)) hown hK hP (q_WW (ad := ad) (cI := cI) (cW := cW)) rfl 8 (by decide) (hts _ (wz_m tw_1_217)) (fun _ h9 => h9) rfl dX9_count_142 ?_
    replace hE := Option.some.inj hE
    subst hQQ
    exact g_iret hx hb hr hlocks hP hS hE rfl dX9_count_145
  replace hE := st_f hE hc12
  have nhc1 := lv_neT hc1 (show (0 : Int32).toInt = 0 from by decide)
  have nhc2 := lv_neT hc2 (show (1 : Int32).toInt = 1 from by decide)
  have nhc3 := lv_neT hc3 (show (2 : Int32).toInt = 2 from by decide)
  have nhc4 := lv_neT hc4 (show (3 : Int32).toInt = 3 from by decide)
  have nhc6 := lv_neT hc6 (show (4 : Int32).toInt = 4 from by decide)
  have nhc9 := lv_neT hc9 (show (5 : Int32).toInt = 5 from by decide)
  have nhc10 := lv_neT hc10 (show (6 : Int32).toInt = 6 from by decide)
  have nhc11 := lv_neT hc11 (show (7 : Int32).toInt = 7 from by decide)
  have nhc12 := lv_neT hc12 (show (8 : Int32).toInt = 8 from by decide)
  refine lv_tableOut (tgt := 146) hx hb dX9_count_1 (by omega) (by decide) ?_
  refine lv_bipush (v := (-102)) hx hb dX9_count_146 (by decide) ?_
  replace hE := Option.some.inj hE
  subst hQQ
  exact g_iret hx hb hr hlocks hP hS hE rfl dX9_count_148
def f_X7_sightAt (k : Nat) (S0 : (Nat → Nat → Int32)) (a1 : Int32) : Option (Int32) :=
  if a1 < 0 then (some (-1)) else (if (S0 k 1) ≤ a1 then (some (-1)) else (gd (inb a1 3) (some (S0 (k + 1) (a1.toNatClampNeg)))))
abbrev rmX7_sightAt : Room := { frames := 0, cells := 0, slots := 0, locals := 0 }
theorem hdV_X7_sightAt : yX7_sightAt.cls = "WitnessWall$Witness" ∧ yX7_sightAt.cls ≠ "java/lang/invoke/MethodHandle" ∧ yX7_sightAt.cls ≠ "java/lang/invoke/VarHandle" ∧ (parseMethodDescriptor yX7_sightAt.desc).map (fun d => d.parameters.length) = some 1 := by decide +kernel
set_option maxHeartbeats 4000000 in
set_option maxRecDepth 100000 in
theorem k_X7_sightAt {l : Launch} {D : va_G} {ad : Nat → Nat} {cI cW : ClassId} {tK tC : Nat} (hij : inj 83 ad) {k : Nat} (h0 : iWit ad cI cW k) {S0 : (Nat → Nat → Int32)} {a1 : Int32} {r : Int32} (hE : f_X7_sightAt k S0 a1 = some r) {sz : Nat} : Met l yX7_sightAt (wz yX7_sightAt cX7_sightAt 2 (some FieldType.int)) rmX7_sightAt (PG 83 ad (ec ad cI cW) D (KC D cI cW) (ZC tK tC) [.ref (ad k), .int a1] S0 sz) (QGi 83 ad (ec ad cI cW) D r S0 sz) 0 0 (AD 83 ad sz) := by
  unfold f_X7_sightAt at hE
  refine g_start (cc := cX7_sightAt) (maxL := 2) (ret := (some FieldType.int)) (Qc := fun sz => QGi 83 ad (ec ad cI cW) D r S0 sz) (by decide) rfl (Nat.le_of_ble_eq_true rfl) ?_
  intro p e s m args below meth c H locs ls hx hb hr hts hown hlocks hml hK hZ hP hS hl
  replace hl : lv_has ls 2 [(0, .ref (ad k)), (1, .int a1)] := hl
  obtain ⟨QQ, hQQ⟩ : ∃ q, q = MQ below (QGi 83 ad (ec ad cI cW) D r S0 s.heap.size) args s 0 0 (AD 83 ad s.heap.size) := ⟨_, rfl⟩
  rw [← hQQ]
  refine lv_iload_n hx hb dX7_sightAt_0 rfl (lv_at hl 1 rfl) ?_
  refine lv_if_lt (tgt := 21) hx hb dX7_sightAt_1 (by decide) (fun hc1 => ?_) (fun hc1 => ?_)
  · have hE := st_t hE hc1
    refine lv_iconst (v := (-1)) hx hb dX7_sightAt_21 (by decide) ?_
    replace hE := Option.some.inj hE
    subst hQQ
    exact g_iret hx hb hr hlocks hP hS hE rfl dX7_sightAt_22
  · have hE := st_f hE hc1
    refine lv_iload_n hx hb dX7_sightAt_4 rfl (lv_at hl 1 rfl) ?_
    refine lv_aload_n hx hb dX7_sightAt_5 rfl (lv_at hl 0 rfl) ?_
    refine c_get (v := .int (S0 k 1)) hx hb hts (fun w h => wz_m (inX7 w h)) hown hK hP h0.1 rfl 1 (by decide) (hts _ (wz_m tw_1_42)) (fun _ h9 => h9) rfl dX7_sightAt_6 ?_
    refine lv_icmp_ge (tgt := 21) hx hb dX7_sightAt_9 (by decide) (fun hc2 => ?_) (fun hc2 => ?_)
    · have hE := st_t hE hc2
      refine lv_iconst (v := (-1)) hx hb dX7_sightAt_21 (by decide) ?_
      replace hE := Option.some.inj hE
      subst hQQ
      exact g_iret hx hb hr hlocks hP hS hE rfl dX7_sightAt_22
    · have hE := st_f hE hc2
      refine lv_aload_n hx hb dX7_sightAt_12 rfl (lv_at hl 0 rfl) ?_
      refine c_get (v := .ref (ad (k + 1))) hx hb hts (fun w h => wz_m (inX7 w h)) hown hK hP h0.1 rfl 0 (by decide) (hts _ (wz_m tw_1_41)) (fun _ h9 => h9) rfl dX7_sightAt_13 ?_
      refine lv_iload_n hx hb dX7_sightAt_16 rfl (lv_at hl 1 rfl) ?_
      obtain ⟨hi3, hE⟩ := st_gd hE
      refine c_iald hx hb hK hP h0.2 hi3 dX7_sightAt_17 ?_
      refine lv_goto (tgt := 22) hx hb dX7_sightAt_18 (by decide) ?_
      replace hE := Option.some.inj hE
      subst hQQ
      exact g_iret hx hb hr hlocks hP hS hE rfl dX7_sightAt_22
def b_X4_sortsOf_5 (k : Nat) (S0 : (Nat → Nat → Int32)) (a1 : Int32) (c4 : Int32) (c5 : Int32) : Option ((Int32 × Int32) ⊕ (Int32)) :=
  if (S0 k 2) ≤ c5 then (some (.inr c4)) else (gd (inb c5 6) (if (S0 (k + 1) (c5.toNatClampNeg)) = a1 then (gd (inb c5 6) (bv (c4 &&& (S0 (k + 2) (c5.toNatClampNeg))) (fun (v11 : Int32) => bv (c5 + 1) (fun (v12 : Int32) => some (.inl (v11, v12)))))) else (bv (c5 + 1) (fun (v9 : Int32) => some (.inl (c4, v9))))))
def f_X4_sortsOf (k : Nat) (S0 : (Nat → Nat → Int32)) (a1 : Int32) : Option (Int32) :=
  bo (lp (fun (s1 : Int32 × Int32) => b_X4_sortsOf_5 k S0 a1 s1.1 s1.2) 5000 (31, 0)) (fun (x2 : Int32) => some x2)
abbrev rmX4_sortsOf : Room := { frames := 0, cells := 0, slots := 0, locals := 0 }
theorem hdV_X4_sortsOf : yX4_sortsOf.cls = "WitnessWall$Seen" ∧ yX4_sortsOf.cls ≠ "java/lang/invoke/MethodHandle" ∧ yX4_sortsOf.cls ≠ "java/lang/invoke/VarHandle" ∧ (parseMethodDescriptor yX4_sortsOf.desc).map (fun d => d.parameters.length) = some 1 := by decide +kernel
set_option maxHeartbeats 4000000 in
set_option maxRecDepth 100000 in
theorem k_X4_sortsOf {l : Launch} {D : va_G} {ad : Nat → Nat} {cI cW : ClassId} {tK tC : Nat} (hij : inj 83 ad) {k : Nat} (h0 : iSeen ad cI cW k) {S0 : (Nat → Nat → Int32)} {a1 : Int32} {r : Int32} (hE : f_X4_sortsOf k S0 a1 = some r) {sz : Nat} : Met l yX4_sortsOf (wz yX4_sortsOf cX4_sortsOf 4 (some FieldType.int)) rmX4_sortsOf (PG 83 ad (ec ad cI cW) D (KC D cI cW) (ZC tK tC) [.ref (ad k), .int a1] S0 sz) (QGi 83 ad (ec ad cI cW) D r S0 sz) 0 0 (AD 83 ad sz) := by
  unfold f_X4_sortsOf at hE
  refine g_start (cc := cX4_sortsOf) (maxL := 4) (ret := (some FieldType.int)) (Qc := fun sz => QGi 83 ad (ec ad cI cW) D r S0 sz) (by decide) rfl (Nat.le_of_ble_eq_true rfl) ?_
  intro p e s m args below meth c H locs ls hx hb hr hts hown hlocks hml hK hZ hP hS hl
  replace hl : lv_has ls 4 [(0, .ref (ad k)), (1, .int a1)] := hl
  obtain ⟨QQ, hQQ⟩ : ∃ q, q = MQ below (QGi 83 ad (ec ad cI cW) D r S0 s.heap.size) args s 0 0 (AD 83 ad s.heap.size) := ⟨_, rfl⟩
  rw [← hQQ]
  refine lv_bipush (v := 31) hx hb dX4_sortsOf_0 (by decide) ?_
  refine lv_istore_n (lv' := [(2, .int 31), (0, .ref (ad k)), (1, .int a1)]) hx hb dX4_sortsOf_2 rfl hl (by decide) rfl (fun ls hl => ?_)
  refine lv_iconst (v := 0) hx hb dX4_sortsOf_3 (by decide) ?_
  refine lv_istore_n (lv' := [(3, .int 0), (2, .int 31), (0, .ref (ad k)), (1, .int a1)]) hx hb dX4_sortsOf_4 rfl hl (by decide) rfl (fun ls hl => ?_)
  obtain ⟨x2, hx2, hE⟩ := st_bo hE
  refine lp_walk (body := fun (s1 : Int32 × Int32) => b_X4_sortsOf_5 k S0 a1 s1.1 s1.2) (fun s1 => ∀ (ls : Array Slot) (H : Heap) (locs : List Loc), lv_has ls 4 [(0, .ref (ad k)), (1, .int a1), (2, .int s1.1), (3, .int s1.2)] → cP D ad cI cW S0 H → cS ad s H locs → W p l e rmX4_sortsOf s m args below meth c H locs 0 0 QQ (F0 m 5 ls [])) (fun x2 => ∀ (ls : Array Slot) (H : Heap) (locs : List Loc), lv_has ls 4 [(2, .int x2)] → cP D ad cI cW S0 H → cS ad s H locs → W p l e rmX4_sortsOf s m args below meth c H locs 0 0 QQ (F0 m 38 ls [])) ?_ _ _ _ hx2 ?_ ls H locs (lv_sub hl [2, 3, 1, 0] rfl) hP hS
  · intro s1 t3 hE hKt3 ls H locs hl hP hS
    obtain ⟨c4, c5⟩ := s1
    replace hE : b_X4_sortsOf_5 k S0 a1 c4 c5 = some t3 := hE
    replace hl : lv_has ls 4 [(0, .ref (ad k)), (1, .int a1), (2, .int c4), (3, .int c5)] := hl
    replace hP : cP D ad cI cW S0 H := hP
    unfold b_X4_sortsOf_5 at hE
    refine lv_iload_n hx hb dX4_sortsOf_5 rfl (lv_at hl 3 rfl) ?_
    refine lv_aload_n hx hb dX4_sortsOf_6 rfl (lv_at hl 0 rfl) ?_
    refine c_get (v := .int (S0 k 2)) hx hb hts (fun w h => wz_m (inX4 w h)) hown hK hP h0.1 rfl 2 (by decide) (hts _ (wz_m tw_1_154)) (fun _ h9 => h9) rfl dX4_sortsOf_7 ?_
    refine lv_icmp_ge (tgt := 38) hx hb dX4_sortsOf_10 (by decide) (fun hc6 => ?_) (fun hc6 => ?_)
    · have hE := st_t hE hc6
      have hq := Option.some.inj hE
      subst hq
      exact hKt3 ls H locs (lv_sub hl [2] rfl) hP hS
    · have hE := st_f hE hc6
      refine lv_aload_n hx hb dX4_sortsOf_13 rfl (lv_at hl 0 rfl) ?_
      refine c_get (v := .ref (ad (k + 1))) hx hb hts (fun w h => wz_m (inX4 w h)) hown hK hP h0.1 rfl 0 (by decide) (hts _ (wz_m tw_1_152)) (fun _ h9 => h9) rfl dX4_sortsOf_14 ?_
      refine lv_iload_n hx hb dX4_sortsOf_17 rfl (lv_at hl 3 rfl) ?_
      obtain ⟨hi7, hE⟩ := st_gd hE
      refine c_iald hx hb hK hP h0.2.1 hi7 dX4_sortsOf_18 ?_
      refine lv_iload_n hx hb dX4_sortsOf_19 rfl (lv_at hl 1 rfl) ?_
      refine lv_icmp_ne (tgt := 32) hx hb dX4_sortsOf_20 (by decide) (fun hc8 => ?_) (fun hc8 => ?_)
      · have hE := st_f hE hc8
        obtain ⟨v9, ev9, hE⟩ := st_bv hE
        refine lv_iinc (v := v9) (lv' := [(3, .int v9), (0, .ref (ad k)), (1, .int a1), (2, .int c4)]) hx hb dX4_sortsOf_32 hl (k := 3) rfl (by rw [ev9]; rfl) (by decide) rfl (fun ls hl => ?_)
        refine lv_goto (tgt := 5) hx hb dX4_sortsOf_35 (by decide) ?_
        have hq := Option.some.inj hE
        subst hq
        exact hKt3 ls H locs (lv_sub hl [1, 2, 3, 0] rfl) hP hS
      · have hE := st_t hE hc8
        refine lv_iload_n hx hb dX4_sortsOf_23 rfl (lv_at hl 2 rfl) ?_
        refine lv_aload_n hx hb dX4_sortsOf_24 rfl (lv_at hl 0 rfl) ?_
        refine c_get (v := .ref (ad (k + 2))) hx hb hts (fun w h => wz_m (inX4 w h)) hown hK hP h0.1 rfl 1 (by decide) (hts _ (wz_m tw_1_153)) (fun _ h9 => h9) rfl dX4_sortsOf_25 ?_
        refine lv_iload_n hx hb dX4_sortsOf_28 rfl (lv_at hl 3 rfl) ?_
        obtain ⟨hi10, hE⟩ := st_gd hE
        refine c_iald hx hb hK hP h0.2.2 hi10 dX4_sortsOf_29 ?_
        refine lv_iand hx hb dX4_sortsOf_30 ?_
        obtain ⟨v11, ev11, hE⟩ := st_bv hE
        refine nm_i ev11 ?_
        refine lv_istore_n (lv' := [(2, .int v11), (0, .ref (ad k)), (1, .int a1), (3, .int c5)]) hx hb dX4_sortsOf_31 rfl hl (by decide) rfl (fun ls hl => ?_)
        obtain ⟨v12, ev12, hE⟩ := st_bv hE
        refine lv_iinc (v := v12) (lv' := [(3, .int v12), (2, .int v11), (0, .ref (ad k)), (1, .int a1)]) hx hb dX4_sortsOf_32 hl (k := 3) rfl (by rw [ev12]; rfl) (by decide) rfl (fun ls hl => ?_)
        refine lv_goto (tgt := 5) hx hb dX4_sortsOf_35 (by decide) ?_
        have hq := Option.some.inj hE
        subst hq
        exact hKt3 ls H locs (lv_sub hl [2, 3, 1, 0] rfl) hP hS
  · intro ls H locs hl hP hS
    refine lv_iload_n hx hb dX4_sortsOf_38 rfl (lv_at hl 0 rfl) ?_
    replace hE := Option.some.inj hE
    subst hQQ
    exact g_iret hx hb hr hlocks hP hS hE rfl dX4_sortsOf_39
def f_J6_bitCount_0f7a4 (a1 : Int32) : Option (Int32) :=
  bv (a1 - (((a1.toUInt32 >>> ((1 : Int32).toUInt32 &&& Int32.toUInt32 31)).toInt32) &&& 1431655765)) (fun (v1 : Int32) => bv ((v1 &&& 858993459) + (((v1.toUInt32 >>> ((2 : Int32).toUInt32 &&& Int32.toUInt32 31)).toInt32) &&& 858993459)) (fun (v2 : Int32) => bv ((v2 + ((v2.toUInt32 >>> ((4 : Int32).toUInt32 &&& Int32.toUInt32 31)).toInt32)) &&& 252645135) (fun (v3 : Int32) => bv (v3 + ((v3.toUInt32 >>> ((8 : Int32).toUInt32 &&& Int32.toUInt32 31)).toInt32)) (fun (v4 : Int32) => bv (v4 + ((v4.toUInt32 >>> ((16 : Int32).toUInt32 &&& Int32.toUInt32 31)).toInt32)) (fun (v5 : Int32) => some (v5 &&& 63))))))
abbrev rmJ6_bitCount_0f7a4 : Room := { frames := 0, cells := 0, slots := 0, locals := 0 }
theorem hdS_J6_bitCount_0f7a4 : yJ6_bitCount_0f7a4.cls ≠ "java/lang/invoke/MethodHandle" ∧ yJ6_bitCount_0f7a4.cls ≠ "java/lang/invoke/VarHandle" ∧ (parseMethodDescriptor yJ6_bitCount_0f7a4.desc).map (fun d => d.parameters.length) = some 1 := by decide +kernel
set_option maxHeartbeats 4000000 in
set_option maxRecDepth 100000 in
theorem k_J6_bitCount_0f7a4 {l : Launch} {D : va_G} {ad : Nat → Nat} {cI cW : ClassId} {tK tC : Nat} (hij : inj 83 ad)  {S0 : (Nat → Nat → Int32)} {a1 : Int32} {r : Int32} (hE : f_J6_bitCount_0f7a4 a1 = some r) {sz : Nat} : Met l yJ6_bitCount_0f7a4 (wz yJ6_bitCount_0f7a4 cJ6_bitCount_0f7a4 1 (some FieldType.int)) rmJ6_bitCount_0f7a4 (PG 83 ad (ec ad cI cW) D (KC D cI cW) (ZC tK tC) [.int a1] S0 sz) (QGi 83 ad (ec ad cI cW) D r S0 sz) 0 0 (AD 83 ad sz) := by
  unfold f_J6_bitCount_0f7a4 at hE
  refine g_start (cc := cJ6_bitCount_0f7a4) (maxL := 1) (ret := (some FieldType.int)) (Qc := fun sz => QGi 83 ad (ec ad cI cW) D r S0 sz) (by decide) rfl (Nat.le_of_ble_eq_true rfl) ?_
  intro p e s m args below meth c H locs ls hx hb hr hts hown hlocks hml hK hZ hP hS hl
  replace hl : lv_has ls 1 [(0, .int a1)] := hl
  obtain ⟨QQ, hQQ⟩ : ∃ q, q = MQ below (QGi 83 ad (ec ad cI cW) D r S0 s.heap.size) args s 0 0 (AD 83 ad s.heap.size) := ⟨_, rfl⟩
  rw [← hQQ]
  refine lv_iload_n hx hb dJ6_bitCount_0f7a4_0 rfl (lv_at hl 0 rfl) ?_
  refine lv_iload_n hx hb dJ6_bitCount_0f7a4_1 rfl (lv_at hl 0 rfl) ?_
  refine lv_iconst (v := 1) hx hb dJ6_bitCount_0f7a4_2 (by decide) ?_
  refine lv_iushr (v := (a1.toUInt32 >>> ((1 : Int32).toUInt32 &&& Int32.toUInt32 31)).toInt32) hx hb dJ6_bitCount_0f7a4_3 rfl ?_
  refine lv_ldcw (v := 1431655765) hx hb hown (hts _ (wz_m tw_2_138)) dJ6_bitCount_0f7a4_4 ?_
  refine lv_iand hx hb dJ6_bitCount_0f7a4_7 ?_
  refine lv_isub hx hb dJ6_bitCount_0f7a4_8 ?_
  obtain ⟨v1, ev1, hE⟩ := st_bv hE
  refine nm_i ev1 ?_
  refine lv_istore_n (lv' := [(0, .int v1)]) hx hb dJ6_bitCount_0f7a4_9 rfl hl (by decide) rfl (fun ls hl => ?_)
  refine lv_iload_n hx hb dJ6_bitCount_0f7a4_10 rfl (lv_at hl 0 rfl) ?_
  refine lv_ldcw (v := 858993459) hx hb hown (hts _ (wz_m tw_2_139)) dJ6_bitCount_0f7a4_11 ?_
  refine lv_iand hx hb dJ6_bitCount_0f7a4_14 ?_
  refine lv_iload_n hx hb dJ6_bitCount_0f7a4_15 rfl (lv_at hl 0 rfl) ?_
  refine lv_iconst (v := 2) hx hb dJ6_bitCount_0f7a4_16 (by decide) ?_
  refine lv_iushr (v := (v1.toUInt32 >>> ((2 : Int32).toUInt32 &&& Int32.toUInt32 31)).toInt32) hx hb dJ6_bitCount_0f7a4_17 rfl ?_
  refine lv_ldcw (v := 858993459) hx hb hown (hts _ (wz_m tw_2_139)) dJ6_bitCount_0f7a4_18 ?_
  refine lv_iand hx hb dJ6_bitCount_0f7a4_21 ?_
  refine lv_iadd hx hb dJ6_bitCount_0f7a4_22 ?_
  obtain ⟨v2, ev2, hE⟩ := st_bv hE
  refine nm_i ev2 ?_
  refine lv_istore_n (lv' := [(0, .int v2)]) hx hb dJ6_bitCount_0f7a4_23 rfl hl (by decide) rfl (fun ls hl => ?_)
  refine lv_iload_n hx hb dJ6_bitCount_0f7a4_24 rfl (lv_at hl 0 rfl) ?_
  refine lv_iload_n hx hb dJ6_bitCount_0f7a4_25 rfl (lv_at hl 0 rfl) ?_
  refine lv_iconst (v := 4) hx hb dJ6_bitCount_0f7a4_26 (by decide) ?_
  refine lv_iushr (v := (v2.toUInt32 >>> ((4 : Int32).toUInt32 &&& Int32.toUInt32 31)).toInt32) hx hb dJ6_bitCount_0f7a4_27 rfl ?_
  refine lv_iadd hx hb dJ6_bitCount_0f7a4_28 ?_
  refine lv_ldcw (v := 252645135) hx hb hown (hts _ (wz_m tw_2_140)) dJ6_bitCount_0f7a4_29 ?_
  refine lv_iand hx hb dJ6_bitCount_0f7a4_32 ?_
  obtain ⟨v3, ev3, hE⟩ := st_bv hE
  refine nm_i ev3 ?_
  refine lv_istore_n (lv' := [(0, .int v3)]) hx hb dJ6_bitCount_0f7a4_33 rfl hl (by decide) rfl (fun ls hl => ?_)
  refine lv_iload_n hx hb dJ6_bitCount_0f7a4_34 rfl (lv_at hl 0 rfl) ?_
  refine lv_iload_n hx hb dJ6_bitCount_0f7a4_35 rfl (lv_at hl 0 rfl) ?_
  refine lv_bipush (v := 8) hx hb dJ6_bitCount_0f7a4_36 (by decide) ?_
  refine lv_iushr (v := (v3.toUInt32 >>> ((8 : Int32).toUInt32 &&& Int32.toUInt32 31)).toInt32) hx hb dJ6_bitCount_0f7a4_38 rfl ?_
  refine lv_iadd hx hb dJ6_bitCount_0f7a4_39 ?_
  obtain ⟨v4, ev4, hE⟩ := st_bv hE
  refine nm_i ev4 ?_
  refine lv_istore_n (lv' := [(0, .int v4)]) hx hb dJ6_bitCount_0f7a4_40 rfl hl (by decide) rfl (fun ls hl => ?_)
  refine lv_iload_n hx hb dJ6_bitCount_0f7a4_41 rfl (lv_at hl 0 rfl) ?_
  refine lv_iload_n hx hb dJ6_bitCount_0f7a4_42 rfl (lv_at hl 0 rfl) ?_
  refine lv_bipush (v := 16) hx hb dJ6_bitCount_0f7a4_43 (by decide) ?_
  refine lv_iushr (v := (v4.toUInt32 >>> ((16 : Int32).toUInt32 &&& Int32.toUInt32 31)).toInt32) hx hb dJ6_bitCount_0f7a4_45 rfl ?_
  refine lv_iadd hx hb dJ6_bitCount_0f7a4_46 ?_
  obtain ⟨v5, ev5, hE⟩ := st_bv hE
  refine nm_i ev5 ?_
  refine lv_istore_n (lv' := [(0, .int v5)]) hx hb dJ6_bitCount_0f7a4_47 rfl hl (by decide) rfl (fun ls hl => ?_)
  refine lv_iload_n hx hb dJ6_bitCount_0f7a4_48 rfl (lv_at hl 0 rfl) ?_
  refine lv_bipush (v := 63) hx hb dJ6_bitCount_0f7a4_49 (by decide) ?_
  refine lv_iand hx hb dJ6_bitCount_0f7a4_51 ?_
  replace hE := Option.some.inj hE
  subst hQQ
  exact g_iret hx hb hr hlocks hP hS hE rfl dJ6_bitCount_0f7a4_52

def b_X10_isWrong_5 (S0 : SR) (a1 : Int32) (a2 : Int32) (c4 : Int32) (c5 : Int32) : Option ((Int32 × Int32) ⊕ (Int32)) :=
  gd (inb a1 5) (if (ri S0 3 (a1.toNatClampNeg)) ≤ c5 then (some (.inr c4)) else (if c4 = 0 then (gd (inb ((4 * a1) + c5) 20) (gd (inb ((4 * a1) + c5) 20) (if ((a2 >>> ((2 * ((ri S0 2 (((4 * a1) + c5).toNatClampNeg)) / 4)) &&& 31)) &&& 3) = ((ri S0 2 (((4 * a1) + c5).toNatClampNeg)) - (ri S0 2 (((4 * a1) + c5).toNatClampNeg)) / 4 * 4) then (bv (c5 + 1) (fun (v13 : Int32) => some (.inl (0, v13)))) else (bv (c5 + 1) (fun (v14 : Int32) => some (.inl (1, v14))))))) else (bv (c5 + 1) (fun (v9 : Int32) => some (.inl (1, v9))))))
def f_X10_isWrong (S0 : SR) (a1 : Int32) (a2 : Int32) : Option (Int32) :=
  bo (lp (fun (s1 : Int32 × Int32) => b_X10_isWrong_5 S0 a1 a2 s1.1 s1.2) 5000 (0, 0)) (fun (x2 : Int32) => some (x2 &&& 1))
abbrev rmX10_isWrong : Room := { frames := 0, cells := 0, slots := 0, locals := 0 }
theorem hdV_X10_isWrong : yX10_isWrong.cls = "WitnessWallModel" ∧ yX10_isWrong.cls ≠ "java/lang/invoke/MethodHandle" ∧ yX10_isWrong.cls ≠ "java/lang/invoke/VarHandle" ∧ (parseMethodDescriptor yX10_isWrong.desc).map (fun d => d.parameters.length) = some 2 := by decide +kernel
set_option maxHeartbeats 4000000 in
set_option maxRecDepth 100000 in
theorem k_X10_isWrong {l : Launch} {D : va_G} {ad : Nat → Nat} {cI cB : ClassId} (hij : inj 31 ad)  {S0 : SR} {a1 : Int32} {a2 : Int32} {r : Int32} (hE : f_X10_isWrong S0 a1 a2 = some r) {sz : Nat} : Met l yX10_isWrong (wz yX10_isWrong cX10_isWrong 5 (some FieldType.boolean)) rmX10_isWrong (PG 31 ad (er ad cI cB) D (KR D cI cB) ZR [.ref (ad 0), .int a1, .int a2] S0 sz) (QGi 31 ad (er ad cI cB) D r S0 sz) 0 0 (AD 31 ad sz) := by
  unfold f_X10_isWrong at hE
  refine g_start (cc := cX10_isWrong) (maxL := 5) (ret := (some FieldType.boolean)) (Qc := fun sz => QGi 31 ad (er ad cI cB) D r S0 sz) (by decide) rfl (Nat.le_of_ble_eq_true rfl) ?_
  intro p e s m args below meth c H locs ls hx hb hr hts hown hlocks hml hK hZ hP hS hl
  replace hl : lv_has ls 5 [(0, .ref (ad 0)), (1, .int a1), (2, .int a2)] := hl
  obtain ⟨QQ, hQQ⟩ : ∃ q, q = MQ below (QGi 31 ad (er ad cI cB) D r S0 s.heap.size) args s 0 0 (AD 31 ad s.heap.size) := ⟨_, rfl⟩
  rw [← hQQ]
  refine lv_iconst (v := 0) hx hb dX10_isWrong_0 (by decide) ?_
  refine lv_istore_n (lv' := [(3, .int 0), (0, .ref (ad 0)), (1, .int a1), (2, .int a2)]) hx hb dX10_isWrong_1 rfl hl (by decide) rfl (fun ls hl => ?_)
  refine lv_iconst (v := 0) hx hb dX10_isWrong_2 (by decide) ?_
  refine lv_istore (lv' := [(4, .int 0), (3, .int 0), (0, .ref (ad 0)), (1, .int a1), (2, .int a2)]) hx hb dX10_isWrong_3 hl (by decide) rfl (fun ls hl => ?_)
  obtain ⟨x2, hx2, hE⟩ := st_bo hE
  refine lp_walk (body := fun (s1 : Int32 × Int32) => b_X10_isWrong_5 S0 a1 a2 s1.1 s1.2) (fun s1 => ∀ (ls : Array Slot) (H : Heap) (locs : List Loc), lv_has ls 5 [(0, .ref (ad 0)), (1, .int a1), (2, .int a2), (3, .int s1.1), (4, .int s1.2)] → rP D ad cI cB S0 H → rS ad s H locs → W p l e rmX10_isWrong s m args below meth c H locs 0 0 QQ (F0 m 5 ls [])) (fun x2 => ∀ (ls : Array Slot) (H : Heap) (locs : List Loc), lv_has ls 5 [(3, .int x2)] → rP D ad cI cB S0 H → rS ad s H locs → W p l e rmX10_isWrong s m args below meth c H locs 0 0 QQ (F0 m 67 ls [])) ?_ _ _ _ hx2 ?_ ls H locs (lv_sub hl [2, 3, 4, 1, 0] rfl) hP hS
  · intro s1 t3 hE hKt3 ls H locs hl hP hS
    obtain ⟨c4, c5⟩ := s1
    replace hE : b_X10_isWrong_5 S0 a1 a2 c4 c5 = some t3 := hE
    replace hl : lv_has ls 5 [(0, .ref (ad 0)), (1, .int a1), (2, .int a2), (3, .int c4), (4, .int c5)] := hl
    replace hP : rP D ad cI cB S0 H := hP
    unfold b_X10_isWrong_5 at hE
    refine lv_iload hx hb dX10_isWrong_5 (lv_at hl 4 rfl) ?_
    refine lv_aload_n hx hb dX10_isWrong_7 rfl (lv_at hl 0 rfl) ?_
    refine r_get (v := .ref (ad 3)) hx hb hts (fun w h => wz_m (inX10 w h)) hown hK hP (q_Ref (ad := ad) (cI := cI) (cB := cB)) rfl 4 (by decide) (hts _ (wz_m tw_3_160)) (fun _ h9 => h9) rfl dX10_isWrong_8 ?_
    refine lv_iload_n hx hb dX10_isWrong_11 rfl (lv_at hl 1 rfl) ?_
    obtain ⟨hi6, hE⟩ := st_gd hE
    refine r_iald hx hb hK hP qr_3 hi6 dX10_isWrong_12 ?_
    refine lv_icmp_ge (tgt := 67) hx hb dX10_isWrong_13 (by decide) (fun hc7 => ?_) (fun hc7 => ?_)
    · have hE := st_t hE hc7
      have hq := Option.some.inj hE
      subst hq
      exact hKt3 ls H locs (lv_sub hl [3] rfl) hP hS
    · have hE := st_f hE hc7
      refine lv_iload_n hx hb dX10_isWrong_16 rfl (lv_at hl 3 rfl) ?_
      refine lv_if_ne (tgt := 55) hx hb dX10_isWrong_17 (by decide) (fun hc8 => ?_) (fun hc8 => ?_)
      · have hE := st_f hE hc8
        refine lv_iconst (v := 1) hx hb dX10_isWrong_55 (by decide) ?_
        refine lv_goto (tgt := 60) hx hb dX10_isWrong_56 (by decide) ?_
        refine lv_istore_n (lv' := [(3, .int 1), (0, .ref (ad 0)), (1, .int a1), (2, .int a2), (4, .int c5)]) hx hb dX10_isWrong_60 rfl hl (by decide) rfl (fun ls hl => ?_)
        obtain ⟨v9, ev9, hE⟩ := st_bv hE
        refine lv_iinc (v := v9) (lv' := [(4, .int v9), (3, .int 1), (0, .ref (ad 0)), (1, .int a1), (2, .int a2)]) hx hb dX10_isWrong_61 hl (k := 4) rfl (by rw [ev9]; rfl) (by decide) rfl (fun ls hl => ?_)
        refine lv_goto (tgt := 5) hx hb dX10_isWrong_64 (by decide) ?_
        have hq := Option.some.inj hE
        subst hq
        exact hKt3 ls H locs (lv_sub hl [2, 3, 4, 1, 0] rfl) hP hS
      · have hE := st_t hE hc8
        refine lv_iload_n hx hb dX10_isWrong_20 rfl (lv_at hl 2 rfl) ?_
        refine lv_iconst (v := 2) hx hb dX10_isWrong_21 (by decide) ?_
        refine lv_aload_n hx hb dX10_isWrong_22 rfl (lv_at hl 0 rfl) ?_
        refine r_get (v := .ref (ad 2)) hx hb hts (fun w h => wz_m (inX10 w h)) hown hK hP (q_Ref (ad := ad) (cI := cI) (cB := cB)) rfl 3 (by decide) (hts _ (wz_m tw_3_159)) (fun _ h9 => h9) rfl dX10_isWrong_23 ?_
        refine lv_iconst (v := 4) hx hb dX10_isWrong_26 (by decide) ?_
        refine lv_iload_n hx hb dX10_isWrong_27 rfl (lv_at hl 1 rfl) ?_
        refine lv_imul hx hb dX10_isWrong_28 ?_
        refine lv_iload hx hb dX10_isWrong_29 (lv_at hl 4 rfl) ?_
        refine lv_iadd hx hb dX10_isWrong_31 ?_
        obtain ⟨hi10, hE⟩ := st_gd hE
        refine r_iald hx hb hK hP qr_2 hi10 dX10_isWrong_32 ?_
        refine lv_iconst (v := 4) hx hb dX10_isWrong_33 (by decide) ?_
        refine lv_idiv hx hb dX10_isWrong_34 (by decide) ?_
        refine lv_imul hx hb dX10_isWrong_35 ?_
        refine lv_ishr hx hb dX10_isWrong_36 ?_
        refine lv_iconst (v := 3) hx hb dX10_isWrong_37 (by decide) ?_
        refine lv_iand hx hb dX10_isWrong_38 ?_
        refine lv_aload_n hx hb dX10_isWrong_39 rfl (lv_at hl 0 rfl) ?_
        refine r_get (v := .ref (ad 2)) hx hb hts (fun w h => wz_m (inX10 w h)) hown hK hP (q_Ref (ad := ad) (cI := cI) (cB := cB)) rfl 3 (by decide) (hts _ (wz_m tw_3_159)) (fun _ h9 => h9) rfl dX10_isWrong_40 ?_
        refine lv_iconst (v := 4) hx hb dX10_isWrong_43 (by decide) ?_
        refine lv_iload_n hx hb dX10_isWrong_44 rfl (lv_at hl 1 rfl) ?_
        refine lv_imul hx hb dX10_isWrong_45 ?_
        refine lv_iload hx hb dX10_isWrong_46 (lv_at hl 4 rfl) ?_
        refine lv_iadd hx hb dX10_isWrong_48 ?_
        obtain ⟨hi11, hE⟩ := st_gd hE
        refine r_iald hx hb hK hP qr_2 hi11 dX10_isWrong_49 ?_
        refine lv_iconst (v := 4) hx hb dX10_isWrong_50 (by decide) ?_
        refine lv_irem hx hb dX10_isWrong_51 (by decide) ?_
        refine lv_icmp_eq (tgt := 59) hx hb dX10_isWrong_52 (by decide) (fun hc12 => ?_) (fun hc12 => ?_)
        · have hE := st_t hE hc12
          refine lv_iconst (v := 0) hx hb dX10_isWrong_59 (by decide) ?_
          refine lv_istore_n (lv' := [(3, .int 0), (0, .ref (ad 0)), (1, .int a1), (2, .int a2), (4, .int c5)]) hx hb dX10_isWrong_60 rfl hl (by decide) rfl (fun ls hl => ?_)
          obtain ⟨v13, ev13, hE⟩ := st_bv hE
          refine lv_iinc (v := v13) (lv' := [(4, .int v13), (3, .int 0), (0, .ref (ad 0)), (1, .int a1), (2, .int a2)]) hx hb dX10_isWrong_61 hl (k := 4) rfl (by rw [ev13]; rfl) (by decide) rfl (fun ls hl => ?_)
          refine lv_goto (tgt := 5) hx hb dX10_isWrong_64 (by decide) ?_
          have hq := Option.some.inj hE
          subst hq
          exact hKt3 ls H locs (lv_sub hl [2, 3, 4, 1, 0] rfl) hP hS
        · have hE := st_f hE hc12
          refine lv_iconst (v := 1) hx hb dX10_isWrong_55 (by decide) ?_
          refine lv_goto (tgt := 60) hx hb dX10_isWrong_56 (by decide) ?_
          refine lv_istore_n (lv' := [(3, .int 1), (0, .ref (ad 0)), (1, .int a1), (2, .int a2), (4, .int c5)]) hx hb dX10_isWrong_60 rfl hl (by decide) rfl (fun ls hl => ?_)
          obtain ⟨v14, ev14, hE⟩ := st_bv hE
          refine lv_iinc (v := v14) (lv' := [(4, .int v14), (3, .int 1), (0, .ref (ad 0)), (1, .int a1), (2, .int a2)]) hx hb dX10_isWrong_61 hl (k := 4) rfl (by rw [ev14]; rfl) (by decide) rfl (fun ls hl => ?_)
          refine lv_goto (tgt := 5) hx hb dX10_isWrong_64 (by decide) ?_
          have hq := Option.some.inj hE
          subst hq
          exact hKt3 ls H locs (lv_sub hl [2, 3, 4, 1, 0] rfl) hP hS
  · intro ls H locs hl hP hS
    refine lv_iload_n hx hb dX10_isWrong_67 rfl (lv_at hl 0 rfl) ?_
    replace hE := Option.some.inj hE
    subst hQQ
    exact g_zret hx hb hr hlocks hP hS hE rfl dX10_isWrong_68
def b_X10_isWorld_5 (S0 : SR) (a1 : Int32) (c4 : Int32) (c5 : Int32) : Option ((Int32 × Int32) ⊕ (Int32)) :=
  if (ri S0 0 1) ≤ c5 then (some (.inr c4)) else (bo (f_X10_isWrong S0 c5 a1) (fun (r7 : Int32) => if r7 = 0 then (bv (c4 + 0) (fun (v9 : Int32) => bv (c5 + 1) (fun (v10 : Int32) => some (.inl (v9, v10))))) else (bv (c4 + 1) (fun (v11 : Int32) => bv (c5 + 1) (fun (v12 : Int32) => some (.inl (v11, v12)))))))
def f_X10_isWorld (S0 : SR) (a1 : Int32) (a2 : Int32) : Option (Int32) :=
  bo (lp (fun (s1 : Int32 × Int32) => b_X10_isWorld_5 S0 a1 s1.1 s1.2) 5000 (0, 0)) (fun (x2 : Int32) => if a2 < x2 then (some 0) else (some 1))
abbrev rmX10_isWorld : Room := { frames := 1, cells := 0, slots := 0, locals := 24 }
theorem hdV_X10_isWorld : yX10_isWorld.cls = "WitnessWallModel" ∧ yX10_isWorld.cls ≠ "java/lang/invoke/MethodHandle" ∧ yX10_isWorld.cls ≠ "java/lang/invoke/VarHandle" ∧ (parseMethodDescriptor yX10_isWorld.desc).map (fun d => d.parameters.length) = some 2 := by decide +kernel
set_option maxHeartbeats 4000000 in
set_option maxRecDepth 100000 in
theorem k_X10_isWorld {l : Launch} {D : va_G} {ad : Nat → Nat} {cI cB : ClassId} (hij : inj 31 ad)  {S0 : SR} {a1 : Int32} {a2 : Int32} {r : Int32} (hE : f_X10_isWorld S0 a1 a2 = some r) {sz : Nat} : Met l yX10_isWorld (wz yX10_isWorld cX10_isWorld 5 (some FieldType.boolean)) rmX10_isWorld (PG 31 ad (er ad cI cB) D (KR D cI cB) ZR [.ref (ad 0), .int a1, .int a2] S0 sz) (QGi 31 ad (er ad cI cB) D r S0 sz) 0 0 (AD 31 ad sz) := by
  unfold f_X10_isWorld at hE
  refine g_start (cc := cX10_isWorld) (maxL := 5) (ret := (some FieldType.boolean)) (Qc := fun sz => QGi 31 ad (er ad cI cB) D r S0 sz) (by decide) rfl (Nat.le_of_ble_eq_true rfl) ?_
  intro p e s m args below meth c H locs ls hx hb hr hts hown hlocks hml hK hZ hP hS hl
  replace hl : lv_has ls 5 [(0, .ref (ad 0)), (1, .int a1), (2, .int a2)] := hl
  obtain ⟨QQ, hQQ⟩ : ∃ q, q = MQ below (QGi 31 ad (er ad cI cB) D r S0 s.heap.size) args s 0 0 (AD 31 ad s.heap.size) := ⟨_, rfl⟩
  rw [← hQQ]
  refine lv_iconst (v := 0) hx hb dX10_isWorld_0 (by decide) ?_
  refine lv_istore_n (lv' := [(3, .int 0), (0, .ref (ad 0)), (1, .int a1), (2, .int a2)]) hx hb dX10_isWorld_1 rfl hl (by decide) rfl (fun ls hl => ?_)
  refine lv_iconst (v := 0) hx hb dX10_isWorld_2 (by decide) ?_
  refine lv_istore (lv' := [(4, .int 0), (3, .int 0), (0, .ref (ad 0)), (1, .int a1), (2, .int a2)]) hx hb dX10_isWorld_3 hl (by decide) rfl (fun ls hl => ?_)
  obtain ⟨x2, hx2, hE⟩ := st_bo hE
  refine lp_walk (body := fun (s1 : Int32 × Int32) => b_X10_isWorld_5 S0 a1 s1.1 s1.2) (fun s1 => ∀ (ls : Array Slot) (H : Heap) (locs : List Loc), lv_has ls 5 [(0, .ref (ad 0)), (1, .int a1), (2, .int a2), (3, .int s1.1), (4, .int s1.2)] → rP D ad cI cB S0 H → rS ad s H locs → W p l e rmX10_isWorld s m args below meth c H locs 0 0 QQ (F0 m 5 ls [])) (fun x2 => ∀ (ls : Array Slot) (H : Heap) (locs : List Loc), lv_has ls 5 [(2, .int a2), (3, .int x2)] → rP D ad cI cB S0 H → rS ad s H locs → W p l e rmX10_isWorld s m args below meth c H locs 0 0 QQ (F0 m 38 ls [])) ?_ _ _ _ hx2 ?_ ls H locs (lv_sub hl [2, 3, 4, 1, 0] rfl) hP hS
  · intro s1 t3 hE hKt3 ls H locs hl hP hS
    obtain ⟨c4, c5⟩ := s1
    replace hE : b_X10_isWorld_5 S0 a1 c4 c5 = some t3 := hE
    replace hl : lv_has ls 5 [(0, .ref (ad 0)), (1, .int a1), (2, .int a2), (3, .int c4), (4, .int c5)] := hl
    replace hP : rP D ad cI cB S0 H := hP
    unfold b_X10_isWorld_5 at hE
    refine lv_iload hx hb dX10_isWorld_5 (lv_at hl 4 rfl) ?_
    refine lv_aload_n hx hb dX10_isWorld_7 rfl (lv_at hl 0 rfl) ?_
    refine r_get (v := .int (ri S0 0 1)) hx hb hts (fun w h => wz_m (inX10 w h)) hown hK hP (q_Ref (ad := ad) (cI := cI) (cB := cB)) rfl 1 (by decide) (hts _ (wz_m tw_3_157)) (fun _ h9 => h9) rfl dX10_isWorld_8 ?_
    refine lv_icmp_ge (tgt := 38) hx hb dX10_isWorld_11 (by decide) (fun hc6 => ?_) (fun hc6 => ?_)
    · have hE := st_t hE hc6
      have hq := Option.some.inj hE
      subst hq
      exact hKt3 ls H locs (lv_sub hl [2, 3] rfl) hP hS
    · have hE := st_f hE hc6
      refine lv_iload_n hx hb dX10_isWorld_14 rfl (lv_at hl 3 rfl) ?_
      refine lv_aload_n hx hb dX10_isWorld_15 rfl (lv_at hl 0 rfl) ?_
      refine lv_iload hx hb dX10_isWorld_16 (lv_at hl 4 rfl) ?_
      refine lv_iload_n hx hb dX10_isWorld_18 rfl (lv_at hl 1 rfl) ?_
      obtain ⟨r7, hCr7, hE⟩ := st_bo hE
      refine g_calli (va_runV (As := [.int c5, .int a1]) (rest := [.int c4]) ⟨hx, hb, hml, hown, hts⟩ (k_X10_isWrong hij hCr7) (cwV 2 hts (wz_V tw_5_47 tw_5_49 tp_35 tw_1_11 tw_5_50) rfl rfl rfl hdV_X10_isWrong ⟨Nat.le_of_ble_eq_true rfl, Nat.le_of_ble_eq_true rfl⟩) (g_preV KR_st ZR_st hK hZ hP hS hK.1 ((q_Ref (ad := ad) (cI := cI) (cB := cB))).1 (er_o (q_Ref (ad := ad) (cI := cI) (cB := cB))) rfl) rfl rfl hl.1 rfl (lv_room (Nat.le_of_ble_eq_true rfl)) dX10_isWorld_19 ⟨Nat.zero_le _, Nat.zero_le _⟩) hS (fun H locs hP hS => ?_)
      refine lv_if_eq (tgt := 29) hx hb dX10_isWorld_22 (by decide) (fun hc8 => ?_) (fun hc8 => ?_)
      · have hE := st_t hE hc8
        refine lv_iconst (v := 0) hx hb dX10_isWorld_29 (by decide) ?_
        refine lv_iadd hx hb dX10_isWorld_30 ?_
        obtain ⟨v9, ev9, hE⟩ := st_bv hE
        refine nm_i ev9 ?_
        refine lv_istore_n (lv' := [(3, .int v9), (0, .ref (ad 0)), (1, .int a1), (2, .int a2), (4, .int c5)]) hx hb dX10_isWorld_31 rfl hl (by decide) rfl (fun ls hl => ?_)
        obtain ⟨v10, ev10, hE⟩ := st_bv hE
        refine lv_iinc (v := v10) (lv' := [(4, .int v10), (3, .int v9), (0, .ref (ad 0)), (1, .int a1), (2, .int a2)]) hx hb dX10_isWorld_32 hl (k := 4) rfl (by rw [ev10]; rfl) (by decide) rfl (fun ls hl => ?_)
        refine lv_goto (tgt := 5) hx hb dX10_isWorld_35 (by decide) ?_
        have hq := Option.some.inj hE
        subst hq
        exact hKt3 ls H locs (lv_sub hl [2, 3, 4, 1, 0] rfl) hP hS
      · have hE := st_f hE hc8
        refine lv_iconst (v := 1) hx hb dX10_isWorld_25 (by decide) ?_
        refine lv_goto (tgt := 30) hx hb dX10_isWorld_26 (by decide) ?_
        refine lv_iadd hx hb dX10_isWorld_30 ?_
        obtain ⟨v11, ev11, hE⟩ := st_bv hE
        refine nm_i ev11 ?_
        refine lv_istore_n (lv' := [(3, .int v11), (0, .ref (ad 0)), (1, .int a1), (2, .int a2), (4, .int c5)]) hx hb dX10_isWorld_31 rfl hl (by decide) rfl (fun ls hl => ?_)
        obtain ⟨v12, ev12, hE⟩ := st_bv hE
        refine lv_iinc (v := v12) (lv' := [(4, .int v12), (3, .int v11), (0, .ref (ad 0)), (1, .int a1), (2, .int a2)]) hx hb dX10_isWorld_32 hl (k := 4) rfl (by rw [ev12]; rfl) (by decide) rfl (fun ls hl => ?_)
        refine lv_goto (tgt := 5) hx hb dX10_isWorld_35 (by decide) ?_
        have hq := Option.some.inj hE
        subst hq
        exact hKt3 ls H locs (lv_sub hl [2, 3, 4, 1, 0] rfl) hP hS
  · intro ls H locs hl hP hS
    refine lv_iload_n hx hb dX10_isWorld_38 rfl (lv_at hl 1 rfl) ?_
    refine lv_iload_n hx hb dX10_isWorld_39 rfl (lv_at hl 0 rfl) ?_
    refine lv_icmp_gt (tgt := 47) hx hb dX10_isWorld_40 (by decide) (fun hc13 => ?_) (fun hc13 => ?_)
    · have hE := st_t hE hc13
      refine lv_iconst (v := 0) hx hb dX10_isWorld_47 (by decide) ?_
      replace hE := Option.some.inj hE
      subst hQQ
      exact g_zret hx hb hr hlocks hP hS ((by decide : (0 : Int32) &&& 1 = 0).trans hE) rfl dX10_isWorld_48
    · have hE := st_f hE hc13
      refine lv_iconst (v := 1) hx hb dX10_isWorld_43 (by decide) ?_
      refine lv_goto (tgt := 48) hx hb dX10_isWorld_44 (by decide) ?_
      replace hE := Option.some.inj hE
      subst hQQ
      exact g_zret hx hb hr hlocks hP hS ((by decide : (1 : Int32) &&& 1 = 1).trans hE) rfl dX10_isWorld_48
def b_X10_worldsNow_4 (S0 : SR) (a1 : Int32) (c4 : Int32) (c5 : Int32) : Option ((Int32 × Int32) ⊕ (Int32)) :=
  if 4096 ≤ c5 then (some (.inr c4)) else (bo (f_X10_isWorld S0 c5 a1) (fun (r7 : Int32) => if r7 = 0 then (bv (c4 + 0) (fun (v9 : Int32) => bv (c5 + 1) (fun (v10 : Int32) => some (.inl (v9, v10))))) else (bv (c4 + 1) (fun (v11 : Int32) => bv (c5 + 1) (fun (v12 : Int32) => some (.inl (v11, v12)))))))
def f_X10_worldsNow (S0 : SR) (a1 : Int32) : Option (Int32) :=
  bo (lp (fun (s1 : Int32 × Int32) => b_X10_worldsNow_4 S0 a1 s1.1 s1.2) 5000 (0, 0)) (fun (x2 : Int32) => some x2)
abbrev rmX10_worldsNow : Room := { frames := 2, cells := 0, slots := 0, locals := 48 }
theorem hdV_X10_worldsNow : yX10_worldsNow.cls = "WitnessWallModel" ∧ yX10_worldsNow.cls ≠ "java/lang/invoke/MethodHandle" ∧ yX10_worldsNow.cls ≠ "java/lang/invoke/VarHandle" ∧ (parseMethodDescriptor yX10_worldsNow.desc).map (fun d => d.parameters.length) = some 1 := by decide +kernel
set_option maxHeartbeats 4000000 in
set_option maxRecDepth 100000 in
theorem k_X10_worldsNow {l : Launch} {D : va_G} {ad : Nat → Nat} {cI cB : ClassId} (hij : inj 31 ad)  {S0 : SR} {a1 : Int32} {r : Int32} (hE : f_X10_worldsNow S0 a1 = some r) {sz : Nat} : Met l yX10_worldsNow (wz yX10_worldsNow cX10_worldsNow 4 (some FieldType.int)) rmX10_worldsNow (PG 31 ad (er ad cI cB) D (KR D cI cB) ZR [.ref (ad 0), .int a1] S0 sz) (QGi 31 ad (er ad cI cB) D r S0 sz) 0 0 (AD 31 ad sz) := by
  unfold f_X10_worldsNow at hE
  refine g_start (cc := cX10_worldsNow) (maxL := 4) (ret := (some FieldType.int)) (Qc := fun sz => QGi 31 ad (er ad cI cB) D r S0 sz) (by decide) rfl (Nat.le_of_ble_eq_true rfl) ?_
  intro p e s m args below meth c H locs ls hx hb hr hts hown hlocks hml hK hZ hP hS hl
  replace hl : lv_has ls 4 [(0, .ref (ad 0)), (1, .int a1)] := hl
  obtain ⟨QQ, hQQ⟩ : ∃ q, q = MQ below (QGi 31 ad (er ad cI cB) D r S0 s.heap.size) args s 0 0 (AD 31 ad s.heap.size) := ⟨_, rfl⟩
  rw [← hQQ]
  refine lv_iconst (v := 0) hx hb dX10_worldsNow_0 (by decide) ?_
  refine lv_istore_n (lv' := [(2, .int 0), (0, .ref (ad 0)), (1, .int a1)]) hx hb dX10_worldsNow_1 rfl hl (by decide) rfl (fun ls hl => ?_)
  refine lv_iconst (v := 0) hx hb dX10_worldsNow_2 (by decide) ?_
  refine lv_istore_n (lv' := [(3, .int 0), (2, .int 0), (0, .ref (ad 0)), (1, .int a1)]) hx hb dX10_worldsNow_3 rfl hl (by decide) rfl (fun ls hl => ?_)
  obtain ⟨x2, hx2, hE⟩ := st_bo hE
  refine lp_walk (body := fun (s1 : Int32 × Int32) => b_X10_worldsNow_4 S0 a1 s1.1 s1.2) (fun s1 => ∀ (ls : Array Slot) (H : Heap) (locs : List Loc), lv_has ls 4 [(0, .ref (ad 0)), (1, .int a1), (2, .int s1.1), (3, .int s1.2)] → rP D ad cI cB S0 H → rS ad s H locs → W p l e rmX10_worldsNow s m args below meth c H locs 0 0 QQ (F0 m 4 ls [])) (fun x2 => ∀ (ls : Array Slot) (H : Heap) (locs : List Loc), lv_has ls 4 [(2, .int x2)] → rP D ad cI cB S0 H → rS ad s H locs → W p l e rmX10_worldsNow s m args below meth c H locs 0 0 QQ (F0 m 34 ls [])) ?_ _ _ _ hx2 ?_ ls H locs (lv_sub hl [2, 3, 1, 0] rfl) hP hS
  · intro s1 t3 hE hKt3 ls H locs hl hP hS
    obtain ⟨c4, c5⟩ := s1
    replace hE : b_X10_worldsNow_4 S0 a1 c4 c5 = some t3 := hE
    replace hl : lv_has ls 4 [(0, .ref (ad 0)), (1, .int a1), (2, .int c4), (3, .int c5)] := hl
    replace hP : rP D ad cI cB S0 H := hP
    unfold b_X10_worldsNow_4 at hE
    refine lv_iload_n hx hb dX10_worldsNow_4 rfl (lv_at hl 3 rfl) ?_
    refine lv_sipush (v := 4096) hx hb dX10_worldsNow_5 (by decide) ?_
    refine lv_icmp_ge (tgt := 34) hx hb dX10_worldsNow_8 (by decide) (fun hc6 => ?_) (fun hc6 => ?_)
    · have hE := st_t hE hc6
      have hq := Option.some.inj hE
      subst hq
      exact hKt3 ls H locs (lv_sub hl [2] rfl) hP hS
    · have hE := st_f hE hc6
      refine lv_iload_n hx hb dX10_worldsNow_11 rfl (lv_at hl 2 rfl) ?_
      refine lv_aload_n hx hb dX10_worldsNow_12 rfl (lv_at hl 0 rfl) ?_
      refine lv_iload_n hx hb dX10_worldsNow_13 rfl (lv_at hl 3 rfl) ?_
      refine lv_iload_n hx hb dX10_worldsNow_14 rfl (lv_at hl 1 rfl) ?_
      obtain ⟨r7, hCr7, hE⟩ := st_bo hE
      refine g_calli (va_runV (As := [.int c5, .int a1]) (rest := [.int c4]) ⟨hx, hb, hml, hown, hts⟩ (k_X10_isWorld hij hCr7) (cwV 2 hts (wz_V tw_5_43 tw_5_45 tp_34 tw_1_11 tw_5_46) rfl rfl rfl hdV_X10_isWorld ⟨Nat.le_of_ble_eq_true rfl, Nat.le_of_ble_eq_true rfl⟩) (g_preV KR_st ZR_st hK hZ hP hS hK.1 ((q_Ref (ad := ad) (cI := cI) (cB := cB))).1 (er_o (q_Ref (ad := ad) (cI := cI) (cB := cB))) rfl) rfl rfl hl.1 rfl (lv_room (Nat.le_of_ble_eq_true rfl)) dX10_worldsNow_15 ⟨Nat.zero_le _, Nat.zero_le _⟩) hS (fun H locs hP hS => ?_)
      refine lv_if_eq (tgt := 25) hx hb dX10_worldsNow_18 (by decide) (fun hc8 => ?_) (fun hc8 => ?_)
      · have hE := st_t hE hc8
        refine lv_iconst (v := 0) hx hb dX10_worldsNow_25 (by decide) ?_
        refine lv_iadd hx hb dX10_worldsNow_26 ?_
        obtain ⟨v9, ev9, hE⟩ := st_bv hE
        refine nm_i ev9 ?_
        refine lv_istore_n (lv' := [(2, .int v9), (0, .ref (ad 0)), (1, .int a1), (3, .int c5)]) hx hb dX10_worldsNow_27 rfl hl (by decide) rfl (fun ls hl => ?_)
        obtain ⟨v10, ev10, hE⟩ := st_bv hE
        refine lv_iinc (v := v10) (lv' := [(3, .int v10), (2, .int v9), (0, .ref (ad 0)), (1, .int a1)]) hx hb dX10_worldsNow_28 hl (k := 3) rfl (by rw [ev10]; rfl) (by decide) rfl (fun ls hl => ?_)
        refine lv_goto (tgt := 4) hx hb dX10_worldsNow_31 (by decide) ?_
        have hq := Option.some.inj hE
        subst hq
        exact hKt3 ls H locs (lv_sub hl [2, 3, 1, 0] rfl) hP hS
      · have hE := st_f hE hc8
        refine lv_iconst (v := 1) hx hb dX10_worldsNow_21 (by decide) ?_
        refine lv_goto (tgt := 26) hx hb dX10_worldsNow_22 (by decide) ?_
        refine lv_iadd hx hb dX10_worldsNow_26 ?_
        obtain ⟨v11, ev11, hE⟩ := st_bv hE
        refine nm_i ev11 ?_
        refine lv_istore_n (lv' := [(2, .int v11), (0, .ref (ad 0)), (1, .int a1), (3, .int c5)]) hx hb dX10_worldsNow_27 rfl hl (by decide) rfl (fun ls hl => ?_)
        obtain ⟨v12, ev12, hE⟩ := st_bv hE
        refine lv_iinc (v := v12) (lv' := [(3, .int v12), (2, .int v11), (0, .ref (ad 0)), (1, .int a1)]) hx hb dX10_worldsNow_28 hl (k := 3) rfl (by rw [ev12]; rfl) (by decide) rfl (fun ls hl => ?_)
        refine lv_goto (tgt := 4) hx hb dX10_worldsNow_31 (by decide) ?_
        have hq := Option.some.inj hE
        subst hq
        exact hKt3 ls H locs (lv_sub hl [2, 3, 1, 0] rfl) hP hS
  · intro ls H locs hl hP hS
    refine lv_iload_n hx hb dX10_worldsNow_34 rfl (lv_at hl 0 rfl) ?_
    replace hE := Option.some.inj hE
    subst hQQ
    exact g_iret hx hb hr hlocks hP hS hE rfl dX10_worldsNow_35
def b_X10_mixWall_2 (c4 : Int32) (c5 : SR) : Option ((Int32 × SR) ⊕ (SR)) :=
  if 6 ≤ c4 then (some (.inr c5)) else (bo (f_X10_everybody c5) (fun (r7 : Int32) => bo (f_X10_saidBy c5 r7 c4) (fun (r8 : Int32) => bo (f_X10_mix c5 ((r8 : Int32).toInt64)) (fun (r9 : SR) => bv (c4 + 1) (fun (v10 : Int32) => some (.inl (v10, r9)))))))
def f_X10_mixWall (S0 : SR) : Option (SR) :=
  bo (lp (fun (s1 : Int32 × SR) => b_X10_mixWall_2 s1.1 s1.2) 5000 (0, S0)) (fun (x2 : SR) => bo (f_X10_termNow x2 0) (fun (r11 : Int32 × SR) => bo (f_X10_mix r11.2 ((r11.1 : Int32).toInt64)) (fun (r12 : SR) => bo (f_X10_termNow r12 1) (fun (r13 : Int32 × SR) => bo (f_X10_mix r13.2 ((r13.1 : Int32).toInt64)) (fun (r14 : SR) => bo (f_X10_keepSet r14) (fun (r15 : Int32) => bo (f_X10_size r15) (fun (r16 : Int32) => bo (f_X10_mix r14 ((r16 : Int32).toInt64)) (fun (r17 : SR) => bo (f_X10_keepSet r17) (fun (r18 : Int32) => bo (f_X10_mix r17 ((r18 : Int32).toInt64)) (fun (r19 : SR) => bo (f_X10_peaceSet r19) (fun (r20 : Int32) => bo (f_X10_size r20) (fun (r21 : Int32) => bo (f_X10_mix r19 ((r21 : Int32).toInt64)) (fun (r22 : SR) => bo (f_X10_peaceSet r22) (fun (r23 : Int32) => bo (f_X10_mix r22 ((r23 : Int32).toInt64)) (fun (r24 : SR) => bo (f_X10_worldsNow r24 1) (fun (r25 : Int32) => bo (f_X10_mix r24 ((r25 : Int32).toInt64)) (fun (r26 : SR) => some r26)))))))))))))))))
abbrev rmX10_mixWall : Room := { frames := 5, cells := 0, slots := 0, locals := 117 }
theorem hdV_X10_mixWall : yX10_mixWall.cls = "WitnessWallModel" ∧ yX10_mixWall.cls ≠ "java/lang/invoke/MethodHandle" ∧ yX10_mixWall.cls ≠ "java/lang/invoke/VarHandle" ∧ (parseMethodDescriptor yX10_mixWall.desc).map (fun d => d.parameters.length) = some 0 := by decide +kernel
set_option maxHeartbeats 4000000 in
set_option maxRecDepth 100000 in
theorem k_X10_mixWall {l : Launch} {D : va_G} {ad : Nat → Nat} {cI cB : ClassId} (hij : inj 31 ad)  {S0 : SR} {Sr : SR} (hE : f_X10_mixWall S0 = some Sr) {sz : Nat} : Met l yX10_mixWall (wz yX10_mixWall cX10_mixWall 2 none) rmX10_mixWall (PG 31 ad (er ad cI cB) D (KR D cI cB) ZR [.ref (ad 0)] S0 sz) (QGv 31 ad (er ad cI cB) D Sr sz) 0 0 (AD 31 ad sz) := by
  unfold f_X10_mixWall at hE
  refine g_start (cc := cX10_mixWall) (maxL := 2) (ret := none) (Qc := fun sz => QGv 31 ad (er ad cI cB) D Sr sz) (by decide) rfl (Nat.le_of_ble_eq_true rfl) ?_
  intro p e s m args below meth c H locs ls hx hb hr hts hown hlocks hml hK hZ hP hS hl
  replace hl : lv_has ls 2 [(0, .ref (ad 0))] := hl
  obtain ⟨QQ, hQQ⟩ : ∃ q, q = MQ below (QGv 31 ad (er ad cI cB) D Sr s.heap.size) args s 0 0 (AD 31 ad s.heap.size) := ⟨_, rfl⟩
  rw [← hQQ]
  refine lv_iconst (v := 0) hx hb dX10_mixWall_0 (by decide) ?_
  refine lv_istore_n (lv' := [(1, .int 0), (0, .ref (ad 0))]) hx hb dX10_mixWall_1 rfl hl (by decide) rfl (fun ls hl => ?_)
  obtain ⟨x2, hx2, hE⟩ := st_bo hE
  refine lp_walk (body := fun (s1 : Int32 × SR) => b_X10_mixWall_2 s1.1 s1.2) (fun s1 => ∀ (ls : Array Slot) (H : Heap) (locs : List Loc), lv_has ls 2 [(0, .ref (ad 0)), (1, .int s1.1)] → rP D ad cI cB s1.2 H → rS ad s H locs → W p l e rmX10_mixWall s m args below meth c H locs 0 0 QQ (F0 m 2 ls [])) (fun x2 => ∀ (ls : Array Slot) (H : Heap) (locs : List Loc), lv_has ls 2 [(0, .ref (ad 0))] → rP D ad cI cB x2 H → rS ad s H locs → W p l e rmX10_mixWall s m args below meth c H locs 0 0 QQ (F0 m 28 ls [])) ?_ _ _ _ hx2 ?_ ls H locs (lv_sub hl [1, 0] rfl) hP hS
  · intro s1 t3 hE hKt3 ls H locs hl hP hS
    obtain ⟨c4, c5⟩ := s1
    replace hE : b_X10_mixWall_2 c4 c5 = some t3 := hE
    replace hl : lv_has ls 2 [(0, .ref (ad 0)), (1, .int c4)] := hl
    replace hP : rP D ad cI cB c5 H := hP
    unfold b_X10_mixWall_2 at hE
    refine lv_iload_n hx hb dX10_mixWall_2 rfl (lv_at hl 1 rfl) ?_
    refine lv_bipush (v := 6) hx hb dX10_mixWall_3 (by decide) ?_
    refine lv_icmp_ge (tgt := 28) hx hb dX10_mixWall_5 (by decide) (fun hc6 => ?_) (fun hc6 => ?_)
    · have hE := st_t hE hc6
      have hq := Option.some.inj hE
      subst hq
      exact hKt3 ls H locs (lv_sub hl [0] rfl) hP hS
    · have hE := st_f hE hc6
      refine lv_aload_n hx hb dX10_mixWall_8 rfl (lv_at hl 0 rfl) ?_
      refine lv_aload_n hx hb dX10_mixWall_9 rfl (lv_at hl 0 rfl) ?_
      refine lv_aload_n hx hb dX10_mixWall_10 rfl (lv_at hl 0 rfl) ?_
      obtain ⟨r7, hCr7, hE⟩ := st_bo hE
      refine g_calli (va_runV (As := []) (rest := [.ref (ad 0), .ref (ad 0)]) ⟨hx, hb, hml, hown, hts⟩ (k_X10_everybody hij hCr7) (cwV 0 hts (wz_V tw_4_178 tw_4_180 tp_19 tw_1_11 tw_4_181) rfl rfl rfl hdV_X10_everybody ⟨Nat.le_of_ble_eq_true rfl, Nat.le_of_ble_eq_true rfl⟩) (g_preV KR_st ZR_st hK hZ hP hS hK.1 ((q_Ref (ad := ad) (cI := cI) (cB := cB))).1 (er_o (q_Ref (ad := ad) (cI := cI) (cB := cB))) rfl) rfl rfl hl.1 rfl (lv_room (Nat.le_of_ble_eq_true rfl)) dX10_mixWall_11 ⟨Nat.zero_le _, Nat.zero_le _⟩) hS (fun H locs hP hS => ?_)
      refine lv_iload_n hx hb dX10_mixWall_14 rfl (lv_at hl 1 rfl) ?_
      obtain ⟨r8, hCr8, hE⟩ := st_bo hE
      refine g_calli (va_runV (As := [.int r7, .int c4]) (rest := [.ref (ad 0)]) ⟨hx, hb, hml, hown, hts⟩ (k_X10_saidBy hij hCr8) (cwV 2 hts (wz_V tw_4_182 tw_4_184 tp_20 tw_1_11 tw_4_185) rfl rfl rfl hdV_X10_saidBy ⟨Nat.le_of_ble_eq_true rfl, Nat.le_of_ble_eq_true rfl⟩) (g_preV KR_st ZR_st hK hZ hP hS hK.1 ((q_Ref (ad := ad) (cI := cI) (cB := cB))).1 (er_o (q_Ref (ad := ad) (cI := cI) (cB := cB))) rfl) rfl rfl hl.1 rfl (lv_room (Nat.le_of_ble_eq_true rfl)) dX10_mixWall_15 ⟨Nat.zero_le _, Nat.zero_le _⟩) hS (fun H locs hP hS => ?_)
      refine lv_i2l (v := (r8 : Int32).toInt64) hx hb dX10_mixWall_18 rfl ?_
      obtain ⟨r9, hCr9, hE⟩ := st_bo hE
      refine g_callv (va_runV (As := [.long ((r8 : Int32).toInt64)]) (rest := []) ⟨hx, hb, hml, hown, hts⟩ (k_X10_mix hij hCr9) (cwV 1 hts (wz_V tw_5_111 tw_5_113 tp_41 tw_1_11 tw_5_114) rfl rfl rfl hdV_X10_mix ⟨Nat.le_of_ble_eq_true rfl, Nat.le_of_ble_eq_true rfl⟩) (g_preV KR_st ZR_st hK hZ hP hS hK.1 ((q_Ref (ad := ad) (cI := cI) (cB := cB))).1 (er_o (q_Ref (ad := ad) (cI := cI) (cB := cB))) rfl) rfl rfl hl.1 rfl (lv_room (Nat.le_of_ble_eq_true rfl)) dX10_mixWall_19 ⟨Nat.zero_le _, Nat.zero_le _⟩) hS (fun H locs hP hS => ?_)
      obtain ⟨v10, ev10, hE⟩ := st_bv hE
      refine lv_iinc (v := v10) (lv' := [(1, .int v10), (0, .ref (ad 0))]) hx hb dX10_mixWall_22 hl (k := 1) rfl (by rw [ev10]; rfl) (by decide) rfl (fun ls hl => ?_)
      refine lv_goto (tgt := 2) hx hb dX10_mixWall_25 (by decide) ?_
      have hq := Option.some.inj hE
      subst hq
      exact hKt3 ls H locs (lv_sub hl [1, 0] rfl) hP hS
  · intro ls H locs hl hP hS
    refine lv_aload_n hx hb dX10_mixWall_28 rfl (lv_at hl 0 rfl) ?_
    refine lv_aload_n hx hb dX10_mixWall_29 rfl (lv_at hl 0 rfl) ?_
    refine lv_iconst (v := 0) hx hb dX10_mixWall_30 (by decide) ?_
    obtain ⟨r11, hCr11, hE⟩ := st_bo hE
    refine g_calli (va_runV (As := [.int 0]) (rest := [.ref (ad 0)]) ⟨hx, hb, hml, hown, hts⟩ (k_X10_termNow hij hCr11) (cwV 1 hts (wz_V tw_4_227 tw_4_229 tp_23 tw_1_11 tw_4_230) rfl rfl rfl hdV_X10_termNow ⟨Nat.le_of_ble_eq_true rfl, Nat.le_of_ble_eq_true rfl⟩) (g_preV KR_st ZR_st hK hZ hP hS hK.1 ((q_Ref (ad := ad) (cI := cI) (cB := cB))).1 (er_o (q_Ref (ad := ad) (cI := cI) (cB := cB))) rfl) rfl rfl hl.1 rfl (lv_room (Nat.le_of_ble_eq_true rfl)) dX10_mixWall_31 ⟨Nat.zero_le _, Nat.zero_le _⟩) hS (fun H locs hP hS => ?_)
    refine lv_i2l (v := (r11.1 : Int32).toInt64) hx hb dX10_mixWall_34 rfl ?_
    obtain ⟨r12, hCr12, hE⟩ := st_bo hE
    refine g_callv (va_runV (As := [.long ((r11.1 : Int32).toInt64)]) (rest := []) ⟨hx, hb, hml, hown, hts⟩ (k_X10_mix hij hCr12) (cwV 1 hts (wz_V tw_5_111 tw_5_113 tp_41 tw_1_11 tw_5_114) rfl rfl rfl hdV_X10_mix ⟨Nat.le_of_ble_eq_true rfl, Nat.le_of_ble_eq_true rfl⟩) (g_preV KR_st ZR_st hK hZ hP hS hK.1 ((q_Ref (ad := ad) (cI := cI) (cB := cB))).1 (er_o (q_Ref (ad := ad) (cI := cI) (cB := cB))) rfl) rfl rfl hl.1 rfl (lv_room (Nat.le_of_ble_eq_true rfl)) dX10_mixWall_35 ⟨Nat.zero_le _, Nat.zero_le _⟩) hS (fun H locs hP hS => ?_)
    refine lv_aload_n hx hb dX10_mixWall_38 rfl (lv_at hl 0 rfl) ?_
    refine lv_aload_n hx hb dX10_mixWall_39 rfl (lv_at hl 0 rfl) ?_
    refine lv_iconst (v := 1) hx hb dX10_mixWall_40 (by decide) ?_
    obtain ⟨r13, hCr13, hE⟩ := st_bo hE
    refine g_calli (va_runV (As := [.int 1]) (rest := [.ref (ad 0)]) ⟨hx, hb, hml, hown, hts⟩ (k_X10_termNow hij hCr13) (cwV 1 hts (wz_V tw_4_227 tw_4_229 tp_23 tw_1_11 tw_4_230) rfl rfl rfl hdV_X10_termNow ⟨Nat.le_of_ble_eq_true rfl, Nat.le_of_ble_eq_true rfl⟩) (g_preV KR_st ZR_st hK hZ hP hS hK.1 ((q_Ref (ad := ad) (cI := cI) (cB := cB))).1 (er_o (q_Ref (ad := ad) (cI := cI) (cB := cB))) rfl) rfl rfl hl.1 rfl (lv_room (Nat.le_of_ble_eq_true rfl)) dX10_mixWall_41 ⟨Nat.zero_le _, Nat.zero_le _⟩) hS (fun H locs hP hS => ?_)
    refine lv_i2l (v := (r13.1 : Int32).toInt64) hx hb dX10_mixWall_44 rfl ?_
    obtain ⟨r14, hCr14, hE⟩ := st_bo hE
    refine g_callv (va_runV (As := [.long ((r13.1 : Int32).toInt64)]) (rest := []) ⟨hx, hb, hml, hown, hts⟩ (k_X10_mix hij hCr14) (cwV 1 hts (wz_V tw_5_111 tw_5_113 tp_41 tw_1_11 tw_5_114) rfl rfl rfl hdV_X10_mix ⟨Nat.le_of_ble_eq_true rfl, Nat.le_of_ble_eq_true rfl⟩) (g_preV KR_st ZR_st hK hZ hP hS hK.1 ((q_Ref (ad := ad) (cI := cI) (cB := cB))).1 (er_o (q_Ref (ad := ad) (cI := cI) (cB := cB))) rfl) rfl rfl hl.1 rfl (lv_room (Nat.le_of_ble_eq_true rfl)) dX10_mixWall_45 ⟨Nat.zero_le _, Nat.zero_le _⟩) hS (fun H locs hP hS => ?_)
    refine lv_aload_n hx hb dX10_mixWall_48 rfl (lv_at hl 0 rfl) ?_
    refine lv_aload_n hx hb dX10_mixWall_49 rfl (lv_at hl 0 rfl) ?_
    obtain ⟨r15, hCr15, hE⟩ := st_bo hE
    refine g_calli (va_runV (As := []) (rest := [.ref (ad 0)]) ⟨hx, hb, hml, hown, hts⟩ (k_X10_keepSet hij hCr15) (cwV 0 hts (wz_V tw_5_15 tw_5_17 tp_29 tw_1_11 tw_5_18) rfl rfl rfl hdV_X10_keepSet ⟨Nat.le_of_ble_eq_true rfl, Nat.le_of_ble_eq_true rfl⟩) (g_preV KR_st ZR_st hK hZ hP hS hK.1 ((q_Ref (ad := ad) (cI := cI) (cB := cB))).1 (er_o (q_Ref (ad := ad) (cI := cI) (cB := cB))) rfl) rfl rfl hl.1 rfl (lv_room (Nat.le_of_ble_eq_true rfl)) dX10_mixWall_50 ⟨Nat.zero_le _, Nat.zero_le _⟩) hS (fun H locs hP hS => ?_)
    obtain ⟨r16, hCr16, hE⟩ := st_bo hE
    refine g_calli (va_runS (As := [.int r15]) (rest := [.ref (ad 0)]) ⟨hx, hb, hml, hown, hts⟩ (k_X10_size hij (S0 := r14) hCr16) (va_cwS 1 hts (wz_S tw_4_147 tw_4_148 tw_1_11 tw_4_149) rfl rfl rfl hdS_X10_size ⟨Nat.le_of_ble_eq_true rfl, Nat.le_of_ble_eq_true rfl⟩) (g_preS KR_st ZR_st hK hZ hP hS) rfl rfl hl.1 rfl (lv_room (Nat.le_of_ble_eq_true rfl)) dX10_mixWall_53 ⟨Nat.zero_le _, Nat.zero_le _⟩) hS (fun H locs hP hS => ?_)
    refine lv_i2l (v := (r16 : Int32).toInt64) hx hb dX10_mixWall_56 rfl ?_
    obtain ⟨r17, hCr17, hE⟩ := st_bo hE
    refine g_callv (va_runV (As := [.long ((r16 : Int32).toInt64)]) (rest := []) ⟨hx, hb, hml, hown, hts⟩ (k_X10_mix hij hCr17) (cwV 1 hts (wz_V tw_5_111 tw_5_113 tp_41 tw_1_11 tw_5_114) rfl rfl rfl hdV_X10_mix ⟨Nat.le_of_ble_eq_true rfl, Nat.le_of_ble_eq_true rfl⟩) (g_preV KR_st ZR_st hK hZ hP hS hK.1 ((q_Ref (ad := ad) (cI := cI) (cB := cB))).1 (er_o (q_Ref (ad := ad) (cI := cI) (cB := cB))) rfl) rfl rfl hl.1 rfl (lv_room (Nat.le_of_ble_eq_true rfl)) dX10_mixWall_57 ⟨Nat.zero_le _, Nat.zero_le _⟩) hS (fun H locs hP hS => ?_)
    refine lv_aload_n hx hb dX10_mixWall_60 rfl (lv_at hl 0 rfl) ?_
    refine lv_aload_n hx hb dX10_mixWall_61 rfl (lv_at hl 0 rfl) ?_
    obtain ⟨r18, hCr18, hE⟩ := st_bo hE
    refine g_calli (va_runV (As := []) (rest := [.ref (ad 0)]) ⟨hx, hb, hml, hown, hts⟩ (k_X10_keepSet hij hCr18) (cwV 0 hts (wz_V tw_5_15 tw_5_17 tp_29 tw_1_11 tw_5_18) rfl rfl rfl hdV_X10_keepSet ⟨Nat.le_of_ble_eq_true rfl, Nat.le_of_ble_eq_true rfl⟩) (g_preV KR_st ZR_st hK hZ hP hS hK.1 ((q_Ref (ad := ad) (cI := cI) (cB := cB))).1 (er_o (q_Ref (ad := ad) (cI := cI) (cB := cB))) rfl) rfl rfl hl.1 rfl (lv_room (Nat.le_of_ble_eq_true rfl)) dX10_mixWall_62 ⟨Nat.zero_le _, Nat.zero_le _⟩) hS (fun H locs hP hS => ?_)
    refine lv_i2l (v := (r18 : Int32).toInt64) hx hb dX10_mixWall_65 rfl ?_
    obtain ⟨r19, hCr19, hE⟩ := st_bo hE
    refine g_callv (va_runV (As := [.long ((r18 : Int32).toInt64)]) (rest := []) ⟨hx, hb, hml, hown, hts⟩ (k_X10_mix hij hCr19) (cwV 1 hts (wz_V tw_5_111 tw_5_113 tp_41 tw_1_11 tw_5_114) rfl rfl rfl hdV_X10_mix ⟨Nat.le_of_ble_eq_true rfl, Nat.le_of_ble_eq_true rfl⟩) (g_preV KR_st ZR_st hK hZ hP hS hK.1 ((q_Ref (ad := ad) (cI := cI) (cB := cB))).1 (er_o (q_Ref (ad := ad) (cI := cI) (cB := cB))) rfl) rfl rfl hl.1 rfl (lv_room (Nat.le_of_ble_eq_true rfl)) dX10_mixWall_66 ⟨Nat.zero_le _, Nat.zero_le _⟩) hS (fun H locs hP hS => ?_)
    refine lv_aload_n hx hb dX10_mixWall_69 rfl (lv_at hl 0 rfl) ?_
    refine lv_aload_n hx hb dX10_mixWall_70 rfl (lv_at hl 0 rfl) ?_
    obtain ⟨r20, hCr20, hE⟩ := st_bo hE
    refine g_calli (va_runV (As := []) (rest := [.ref (ad 0)]) ⟨hx, hb, hml, hown, hts⟩ (k_X10_peaceSet hij hCr20) (cwV 0 hts (wz_V tw_5_27 tw_5_29 tp_31 tw_1_11 tw_5_30) rfl rfl rfl hdV_X10_peaceSet ⟨Nat.le_of_ble_eq_true rfl, Nat.le_of_ble_eq_true rfl⟩) (g_preV KR_st ZR_st hK hZ hP hS hK.1 ((q_Ref (ad := ad) (cI := cI) (cB := cB))).1 (er_o (q_Ref (ad := ad) (cI := cI) (cB := cB))) rfl) rfl rfl hl.1 rfl (lv_room (Nat.le_of_ble_eq_true rfl)) dX10_mixWall_71 ⟨Nat.zero_le _, Nat.zero_le _⟩) hS (fun H locs hP hS => ?_)
    obtain ⟨r21, hCr21, hE⟩ := st_bo hE
    refine g_calli (va_runS (As := [.int r20]) (rest := [.ref (ad 0)]) ⟨hx, hb, hml, hown, hts⟩ (k_X10_size hij (S0 := r19) hCr21) (va_cwS 1 hts (wz_S tw_4_147 tw_4_148 tw_1_11 tw_4_149) rfl rfl rfl hdS_X10_size ⟨Nat.le_of_ble_eq_true rfl, Nat.le_of_ble_eq_true rfl⟩) (g_preS KR_st ZR_st hK hZ hP hS) rfl rfl hl.1 rfl (lv_room (Nat.le_of_ble_eq_true rfl)) dX10_mixWall_74 ⟨Nat.zero_le _, Nat.zero_le _⟩) hS (fun H locs hP hS => ?_)
    refine lv_i2l (v := (r21 : Int32).toInt64) hx hb dX10_mixWall_77 rfl ?_
    obtain ⟨r22, hCr22, hE⟩ := st_bo hE
    refine g_callv (va_runV (As := [.long ((r21 : Int32).toInt64)]) (rest := []) ⟨hx, hb, hml, hown, hts⟩ (k_X10_mix hij hCr22) (cwV 1 hts (wz_V tw_5_111 tw_5_113 tp_41 tw_1_11 tw_5_114) rfl rfl rfl hdV_X10_mix ⟨Nat.le_of_ble_eq_true rfl, Nat.le_of_ble_eq_true rfl⟩) (g_preV KR_st ZR_st hK hZ hP hS hK.1 ((q_Ref (ad := ad) (cI := cI) (cB := cB))).1 (er_o (q_Ref (ad := ad) (cI := cI) (cB := cB))) rfl) rfl rfl hl.1 rfl (lv_room (Nat.le_of_ble_eq_true rfl)) dX10_mixWall_78 ⟨Nat.zero_le _, Nat.zero_le _⟩) hS (fun H locs hP hS => ?_)
    refine lv_aload_n hx hb dX10_mixWall_81 rfl (lv_at hl 0 rfl) ?_
    refine lv_aload_n hx hb dX10_mixWall_82 rfl (lv_at hl 0 rfl) ?_
    obtain ⟨r23, hCr23, hE⟩ := st_bo hE
    refine g_calli (va_runV (As := []) (rest := [.ref (ad 0)]) ⟨hx, hb, hml, hown, hts⟩ (k_X10_peaceSet hij hCr23) (cwV 0 hts (wz_V tw_5_27 tw_5_29 tp_31 tw_1_11 tw_5_30) rfl rfl rfl hdV_X10_peaceSet ⟨Nat.le_of_ble_eq_true rfl, Nat.le_of_ble_eq_true rfl⟩) (g_preV KR_st ZR_st hK hZ hP hS hK.1 ((q_Ref (ad := ad) (cI := cI) (cB := cB))).1 (er_o (q_Ref (ad := ad) (cI := cI) (cB := cB))) rfl) rfl rfl hl.1 rfl (lv_room (Nat.le_of_ble_eq_true rfl)) dX10_mixWall_83 ⟨Nat.zero_le _, Nat.zero_le _⟩) hS (fun H locs hP hS => ?_)
    refine lv_i2l (v := (r23 : Int32).toInt64) hx hb dX10_mixWall_86 rfl ?_
    obtain ⟨r24, hCr24, hE⟩ := st_bo hE
    refine g_callv (va_runV (As := [.long ((r23 : Int32).toInt64)]) (rest := []) ⟨hx, hb, hml, hown, hts⟩ (k_X10_mix hij hCr24) (cwV 1 hts (wz_V tw_5_111 tw_5_113 tp_41 tw_1_11 tw_5_114) rfl rfl rfl hdV_X10_mix ⟨Nat.le_of_ble_eq_true rfl, Nat.le_of_ble_eq_true rfl⟩) (g_preV KR_st ZR_st hK hZ hP hS hK.1 ((q_Ref (ad := ad) (cI := cI) (cB := cB))).1 (er_o (q_Ref (ad := ad) (cI := cI) (cB := cB))) rfl) rfl rfl hl.1 rfl (lv_room (Nat.le_of_ble_eq_true rfl)) dX10_mixWall_87 ⟨Nat.zero_le _, Nat.zero_le _⟩) hS (fun H locs hP hS => ?_)
    refine lv_aload_n hx hb dX10_mixWall_90 rfl (lv_at hl 0 rfl) ?_
    refine lv_aload_n hx hb dX10_mixWall_91 rfl (lv_at hl 0 rfl) ?_
    refine lv_iconst (v := 1) hx hb dX10_mixWall_92 (by decide) ?_
    obtain ⟨r25, hCr25, hE⟩ := st_bo hE
    refine g_calli (va_runV (As := [.int 1]) (rest := [.ref (ad 0)]) ⟨hx, hb, hml, hown, hts⟩ (k_X10_worldsNow hij hCr25) (cwV 1 hts (wz_V tw_5_39 tw_5_41 tp_33 tw_1_11 tw_5_42) rfl rfl rfl hdV_X10_worldsNow ⟨Nat.le_of_ble_eq_true rfl, Nat.le_of_ble_eq_true rfl⟩) (g_preV KR_st ZR_st hK hZ hP hS hK.1 ((q_Ref (ad := ad) (cI := cI) (cB := cB))).1 (er_o (q_Ref (ad := ad) (cI := cI) (cB := cB))) rfl) rfl rfl hl.1 rfl (lv_room (Nat.le_of_ble_eq_true rfl)) dX10_mixWall_93 ⟨Nat.zero_le _, Nat.zero_le _⟩) hS (fun H locs hP hS => ?_)
    refine lv_i2l (v := (r25 : Int32).toInt64) hx hb dX10_mixWall_96 rfl ?_
    obtain ⟨r26, hCr26, hE⟩ := st_bo hE
    refine g_callv (va_runV (As := [.long ((r25 : Int32).toInt64)]) (rest := []) ⟨hx, hb, hml, hown, hts⟩ (k_X10_mix hij hCr26) (cwV 1 hts (wz_V tw_5_111 tw_5_113 tp_41 tw_1_11 tw_5_114) rfl rfl rfl hdV_X10_mix ⟨Nat.le_of_ble_eq_true rfl, Nat.le_of_ble_eq_true rfl⟩) (g_preV KR_st ZR_st hK hZ hP hS hK.1 ((q_Ref (ad := ad) (cI := cI) (cB := cB))).1 (er_o (q_Ref (ad := ad) (cI := cI) (cB := cB))) rfl) rfl rfl hl.1 rfl (lv_room (Nat.le_of_ble_eq_true rfl)) dX10_mixWall_97 ⟨Nat.zero_le _, Nat.zero_le _⟩) hS (fun H locs hP hS => ?_)
    replace hE := Option.some.inj hE
    subst hQQ
    exact g_vret hx hb hr hlocks hP hS hE dX10_mixWall_100
def b_X10_digest_19 (c5 : Int32) (c11 : Int32) (c12 : SR) : Option ((Int32 × SR) ⊕ (SR)) :=
  if 8 ≤ c11 then (some (.inr c12)) else (bo (f_X10_witnessNow c12 c5 c11) (fun (r14 : Int32) => bo (f_X10_mix c12 ((r14 : Int32).toInt64)) (fun (r15 : SR) => bv (c11 + 1) (fun (v16 : Int32) => some (.inl (v16, r15))))))
def b_X10_digest_9 (c5 : Int32) (c6 : SR) : Option ((Int32 × SR) ⊕ (SR)) :=
  if (ri c6 0 1) ≤ c5 then (some (.inr c6)) else (bo (lp (fun (s8 : Int32 × SR) => b_X10_digest_19 c5 s8.1 s8.2) 5000 (0, c6)) (fun (x9 : SR) => bv (c5 + 1) (fun (v17 : Int32) => some (.inl (v17, x9)))))
def b_X10_digest_61 (c25 : Int32) (c26 : SR) : Option ((Int32 × SR) ⊕ (SR)) :=
  if (ri c26 0 17) ≤ c25 then (some (.inr c26)) else (gd (inb c25 54) (bo (f_X10_mix c26 ((ri c26 12 (c25.toNatClampNeg) : Int32).toInt64)) (fun (r29 : SR) => bv (c25 + 1) (fun (v30 : Int32) => some (.inl (v30, r29))))))
def b_X10_digest_88 (c34 : Int32) (c35 : SR) : Option ((Int32 × SR) ⊕ (SR)) :=
  if 9 ≤ c34 then (some (.inr c35)) else (bo (f_X10_howMany c35 c34) (fun (r37 : Int32) => bo (f_X10_mix c35 ((r37 : Int32).toInt64)) (fun (r38 : SR) => bv (c34 + 1) (fun (v39 : Int32) => some (.inl (v39, r38))))))
def f_X10_digest (S0 : SR) : Option (Int64 × SR) :=
  bv (ul S0 47 1361) (fun S1 => bo (lp (fun (s2 : Int32 × SR) => b_X10_digest_9 s2.1 s2.2) 5000 (0, S1)) (fun (x3 : SR) => bo (if (ri x3 0 0) ≤ 0 then (some x3) else (bo (f_X10_mixWall x3) (fun (r21 : SR) => some r21))) (fun (q18 : SR) => bo (lp (fun (s22 : Int32 × SR) => b_X10_digest_61 s22.1 s22.2) 5000 (0, q18)) (fun (x23 : SR) => bo (lp (fun (s31 : Int32 × SR) => b_X10_digest_88 s31.1 s31.2) 5000 (0, x23)) (fun (x32 : SR) => some (rl x32 47, x32))))))
abbrev rmX10_digest : Room := { frames := 6, cells := 0, slots := 0, locals := 138 }
theorem hdV_X10_digest : yX10_digest.cls = "WitnessWallModel" ∧ yX10_digest.cls ≠ "java/lang/invoke/MethodHandle" ∧ yX10_digest.cls ≠ "java/lang/invoke/VarHandle" ∧ (parseMethodDescriptor yX10_digest.desc).map (fun d => d.parameters.length) = some 0 := by decide +kernel
set_option maxHeartbeats 4000000 in
set_option maxRecDepth 100000 in
theorem k_X10_digest {l : Launch} {D : va_G} {ad : Nat → Nat} {cI cB : ClassId} (hij : inj 31 ad)  {S0 : SR} {r : Int64} {Sr : SR} (hE : f_X10_digest S0 = some (r, Sr)) {sz : Nat} : Met l yX10_digest (wz yX10_digest cX10_digest 3 (some FieldType.long)) rmX10_digest (PG 31 ad (er ad cI cB) D (KR D cI cB) ZR [.ref (ad 0)] S0 sz) (QGl 31 ad (er ad cI cB) D r Sr sz) 0 0 (AD 31 ad sz) := by
  unfold f_X10_digest at hE
  refine g_start (cc := cX10_digest) (maxL := 3) (ret := (some FieldType.long)) (Qc := fun sz => QGl 31 ad (er ad cI cB) D r Sr sz) (by decide) rfl (Nat.le_of_ble_eq_true rfl) ?_
  intro p e s m args below meth c H locs ls hx hb hr hts hown hlocks hml hK hZ hP hS hl
  replace hl : lv_has ls 3 [(0, .ref (ad 0))] := hl
  obtain ⟨QQ, hQQ⟩ : ∃ q, q = MQ below (QGl 31 ad (er ad cI cB) D r Sr s.heap.size) args s 0 0 (AD 31 ad s.heap.size) := ⟨_, rfl⟩
  rw [← hQQ]
  refine lv_aload_n hx hb dX10_digest_0 rfl (lv_at hl 0 rfl) ?_
  refine lv_ldc2 (v := 1361) hx hb hown (hts _ (wz_m tw_5_110)) dX10_digest_1 ?_
  refine r_putL hij hx hb hts (fun w h => wz_m (inX10 w h)) tyX10 tyX10_ok nmX10 hown hK hP hS (q_Ref (ad := ad) (cI := cI) (cB := cB)) rfl 47 (by decide) (hts _ (wz_m tw_3_203)) (fun _ h9 => h9) rfl rfl rfl (fun _ _ => Nat.le_of_ble_eq_true rfl) (fun _ _ => rfl) dX10_digest_4 (fun H locs hP hS => ?_)
  obtain ⟨S1, eS1, hE⟩ := st_bv hE
  rw [← eS1] at hP
  refine lv_iconst (v := 0) hx hb dX10_digest_7 (by decide) ?_
  refine lv_istore_n (lv' := [(1, .int 0), (0, .ref (ad 0))]) hx hb dX10_digest_8 rfl hl (by decide) rfl (fun ls hl => ?_)
  obtain ⟨x3, hx3, hE⟩ := st_bo hE
  refine lp_walk (body := fun (s2 : Int32 × SR) => b_X10_digest_9 s2.1 s2.2) (fun s2 => ∀ (ls : Array Slot) (H : Heap) (locs : List Loc), lv_has ls 3 [(0, .ref (ad 0)), (1, .int s2.1)] → rP D ad cI cB s2.2 H → rS ad s H locs → W p l e rmX10_digest s m args below meth c H locs 0 0 QQ (F0 m 9 ls [])) (fun x3 => ∀ (ls : Array Slot) (H : Heap) (locs : List Loc), lv_has ls 3 [(0, .ref (ad 0))] → rP D ad cI cB x3 H → rS ad s H locs → W p l e rmX10_digest s m args below meth c H locs 0 0 QQ (F0 m 48 ls [])) ?_ _ _ _ hx3 ?_ ls H locs (lv_sub hl [1, 0] rfl) hP hS
  · intro s2 t4 hE hKt4 ls H locs hl hP hS
    obtain ⟨c5, c6⟩ := s2
    replace hE : b_X10_digest_9 c5 c6 = some t4 := hE
    replace hl : lv_has ls 3 [(0, .ref (ad 0)), (1, .int c5)] := hl
    replace hP : rP D ad cI cB c6 H := hP
    unfold b_X10_digest_9 at hE
    refine lv_iload_n hx hb dX10_digest_9 rfl (lv_at hl 1 rfl) ?_
    refine lv_aload_n hx hb dX10_digest_10 rfl (lv_at hl 0 rfl) ?_
    refine r_get (v := .int (ri c6 0 1)) hx hb hts (fun w h => wz_m (inX10 w h)) hown hK hP (q_Ref (ad := ad) (cI := cI) (cB := cB)) rfl 1 (by decide) (hts _ (wz_m tw_3_157)) (fun _ h9 => h9) rfl dX10_digest_11 ?_
    refine lv_icmp_ge (tgt := 48) hx hb dX10_digest_14 (by decide) (fun hc7 => ?_) (fun hc7 => ?_)
    · have hE := st_t hE hc7
      have hq := Option.some.inj hE
      subst hq
      exact hKt4 ls H locs (lv_sub hl [0] rfl) hP hS
    · have hE := st_f hE hc7
      refine lv_iconst (v := 0) hx hb dX10_digest_17 (by decide) ?_
      refine lv_istore_n (lv' := [(2, .int 0), (0, .ref (ad 0)), (1, .int c5)]) hx hb dX10_digest_18 rfl hl (by decide) rfl (fun ls hl => ?_)
      obtain ⟨x9, hx9, hE⟩ := st_bo hE
      refine lp_walk (body := fun (s8 : Int32 × SR) => b_X10_digest_19 c5 s8.1 s8.2) (fun s8 => ∀ (ls : Array Slot) (H : Heap) (locs : List Loc), lv_has ls 3 [(0, .ref (ad 0)), (1, .int c5), (2, .int s8.1)] → rP D ad cI cB s8.2 H → rS ad s H locs → W p l e rmX10_digest s m args below meth c H locs 0 0 QQ (F0 m 19 ls [])) (fun x9 => ∀ (ls : Array Slot) (H : Heap) (locs : List Loc), lv_has ls 3 [(0, .ref (ad 0)), (1, .int c5)] → rP D ad cI cB x9 H → rS ad s H locs → W p l e rmX10_digest s m args below meth c H locs 0 0 QQ (F0 m 42 ls [])) ?_ _ _ _ hx9 ?_ ls H locs (lv_sub hl [1, 2, 0] rfl) hP hS
      · intro s8 t10 hE hKt10 ls H locs hl hP hS
        obtain ⟨c11, c12⟩ := s8
        replace hE : b_X10_digest_19 c5 c11 c12 = some t10 := hE
        replace hl : lv_has ls 3 [(0, .ref (ad 0)), (1, .int c5), (2, .int c11)] := hl
        replace hP : rP D ad cI cB c12 H := hP
        unfold b_X10_digest_19 at hE
        refine lv_iload_n hx hb dX10_digest_19 rfl (lv_at hl 2 rfl) ?_
        refine lv_bipush (v := 8) hx hb dX10_digest_20 (by decide) ?_
        refine lv_icmp_ge (tgt := 42) hx hb dX10_digest_22 (by decide) (fun hc13 => ?_) (fun hc13 => ?_)
        · have hE := st_t hE hc13
          have hq := Option.some.inj hE
          subst hq
          exact hKt10 ls H locs (lv_sub hl [0, 1] rfl) hP hS
        · have hE := st_f hE hc13
          refine lv_aload_n hx hb dX10_digest_25 rfl (lv_at hl 0 rfl) ?_
          refine lv_aload_n hx hb dX10_digest_26 rfl (lv_at hl 0 rfl) ?_
          refine lv_iload_n hx hb dX10_digest_27 rfl (lv_at hl 1 rfl) ?_
          refine lv_iload_n hx hb dX10_digest_28 rfl (lv_at hl 2 rfl) ?_
          obtain ⟨r14, hCr14, hE⟩ := st_bo hE
          refine g_calli (va_runV (As := [.int c5, .int c11]) (rest := [.ref (ad 0)]) ⟨hx, hb, hml, hown, hts⟩ (k_X10_witnessNow hij hCr14) (cwV 2 hts (wz_V tw_4_128 tw_4_130 tp_12 tw_1_11 tw_4_131) rfl rfl rfl hdV_X10_witnessNow ⟨Nat.le_of_ble_eq_true rfl, Nat.le_of_ble_eq_true rfl⟩) (g_preV KR_st ZR_st hK hZ hP hS hK.1 ((q_Ref (ad := ad) (cI := cI) (cB := cB))).1 (er_o (q_Ref (ad := ad) (cI := cI) (cB := cB))) rfl) rfl rfl hl.1 rfl (lv_room (Nat.le_of_ble_eq_true rfl)) dX10_digest_29 ⟨Nat.zero_le _, Nat.zero_le _⟩) hS (fun H locs hP hS => ?_)
          refine lv_i2l (v := (r14 : Int32).toInt64) hx hb dX10_digest_32 rfl ?_
          obtain ⟨r15, hCr15, hE⟩ := st_bo hE
          refine g_callv (va_runV (As := [.long ((r14 : Int32).toInt64)]) (rest := []) ⟨hx, hb, hml, hown, hts⟩ (k_X10_mix hij hCr15) (cwV 1 hts (wz_V tw_5_111 tw_5_113 tp_41 tw_1_11 tw_5_114) rfl rfl rfl hdV_X10_mix ⟨Nat.le_of_ble_eq_true rfl, Nat.le_of_ble_eq_true rfl⟩) (g_preV KR_st ZR_st hK hZ hP hS hK.1 ((q_Ref (ad := ad) (cI := cI) (cB := cB))).1 (er_o (q_Ref (ad := ad) (cI := cI) (cB := cB))) rfl) rfl rfl hl.1 rfl (lv_room (Nat.le_of_ble_eq_true rfl)) dX10_digest_33 ⟨Nat.zero_le _, Nat.zero_le _⟩) hS (fun H locs hP hS => ?_)
          obtain ⟨v16, ev16, hE⟩ := st_bv hE
          refine lv_iinc (v := v16) (lv' := [(2, .int v16), (0, .ref (ad 0)), (1, .int c5)]) hx hb dX10_digest_36 hl (k := 2) rfl (by rw [ev16]; rfl) (by decide) rfl (fun ls hl => ?_)
          refine lv_goto (tgt := 19) hx hb dX10_digest_39 (by decide) ?_
          have hq := Option.some.inj hE
          subst hq
          exact hKt10 ls H locs (lv_sub hl [1, 2, 0] rfl) hP hS
      · intro ls H locs hl hP hS
        obtain ⟨v17, ev17, hE⟩ := st_bv hE
        refine lv_iinc (v := v17) (lv' := [(1, .int v17), (0, .ref (ad 0))]) hx hb dX10_digest_42 hl (k := 1) rfl (by rw [ev17]; rfl) (by decide) rfl (fun ls hl => ?_)
        refine lv_goto (tgt := 9) hx hb dX10_digest_45 (by decide) ?_
        have hq := Option.some.inj hE
        subst hq
        exact hKt4 ls H locs (lv_sub hl [1, 0] rfl) hP hS
  · intro ls H locs hl hP hS
    refine lv_aload_n hx hb dX10_digest_48 rfl (lv_at hl 0 rfl) ?_
    refine r_get (v := .int (ri x3 0 0)) hx hb hts (fun w h => wz_m (inX10 w h)) hown hK hP (q_Ref (ad := ad) (cI := cI) (cB := cB)) rfl 0 (by decide) (hts _ (wz_m tw_3_156)) (fun _ h9 => h9) rfl dX10_digest_49 ?_
    obtain ⟨q18, hq18, hE⟩ := st_bo hE
    have J19 : ∀ (ls : Array Slot) (H : Heap) (locs : List Loc), lv_has ls 3 [(0, .ref (ad 0))] → rP D ad cI cB q18 H → rS ad s H locs → W p l e rmX10_digest s m args below meth c H locs 0 0 QQ (F0 m 59 ls []) := by
      intro ls H locs hl hP hS
      refine lv_iconst (v := 0) hx hb dX10_digest_59 (by decide) ?_
      refine lv_istore_n (lv' := [(1, .int 0), (0, .ref (ad 0))]) hx hb dX10_digest_60 rfl hl (by decide) rfl (fun ls hl => ?_)
      obtain ⟨x23, hx23, hE⟩ := st_bo hE
      refine lp_walk (body := fun (s22 : Int32 × SR) => b_X10_digest_61 s22.1 s22.2) (fun s22 => ∀ (ls : Array Slot) (H : Heap) (locs : List Loc), lv_has ls 3 [(0, .ref (ad 0)), (1, .int s22.1)] → rP D ad cI cB s22.2 H → rS ad s H locs → W p l e rmX10_digest s m args below meth c H locs 0 0 QQ (F0 m 61 ls [])) (fun x23 => ∀ (ls : Array Slot) (H : Heap) (locs : List Loc), lv_has ls 3 [(0, .ref (ad 0))] → rP D ad cI cB x23 H → rS ad s H locs → W p l e rmX10_digest s m args below meth c H locs 0 0 QQ (F0 m 86 ls [])) ?_ _ _ _ hx23 ?_ ls H locs (lv_sub hl [1, 0] rfl) hP hS
      · intro s22 t24 hE hKt24 ls H locs hl hP hS
        obtain ⟨c25, c26⟩ := s22
        replace hE : b_X10_digest_61 c25 c26 = some t24 := hE
        replace hl : lv_has ls 3 [(0, .ref (ad 0)), (1, .int c25)] := hl
        replace hP : rP D ad cI cB c26 H := hP
        unfold b_X10_digest_61 at hE
        refine lv_iload_n hx hb dX10_digest_61 rfl (lv_at hl 1 rfl) ?_
        refine lv_aload_n hx hb dX10_digest_62 rfl (lv_at hl 0 rfl) ?_
        refine r_get (v := .int (ri c26 0 17)) hx hb hts (fun w h => wz_m (inX10 w h)) hown hK hP (q_Ref (ad := ad) (cI := cI) (cB := cB)) rfl 17 (by decide) (hts _ (wz_m tw_3_173)) (fun _ h9 => h9) rfl dX10_digest_63 ?_
        refine lv_icmp_ge (tgt := 86) hx hb dX10_digest_66 (by decide) (fun hc27 => ?_) (fun hc27 => ?_)
        · have hE := st_t hE hc27
          have hq := Option.some.inj hE
          subst hq
          exact hKt24 ls H locs (lv_sub hl [0] rfl) hP hS
        · have hE := st_f hE hc27
          refine lv_aload_n hx hb dX10_digest_69 rfl (lv_at hl 0 rfl) ?_
          refine lv_aload_n hx hb dX10_digest_70 rfl (lv_at hl 0 rfl) ?_
          refine r_get (v := .ref (ad 12)) hx hb hts (fun w h => wz_m (inX10 w h)) hown hK hP (q_Ref (ad := ad) (cI := cI) (cB := cB)) rfl 18 (by decide) (hts _ (wz_m tw_3_174)) (fun _ h9 => h9) rfl dX10_digest_71 ?_
          refine lv_iload_n hx hb dX10_digest_74 rfl (lv_at hl 1 rfl) ?_
          obtain ⟨hi28, hE⟩ := st_gd hE
          refine r_bald hx hb hK hP qr_12 hi28 dX10_digest_75 ?_
          refine lv_i2l (v := (ri c26 12 (c25.toNatClampNeg) : Int32).toInt64) hx hb dX10_digest_76 rfl ?_
          obtain ⟨r29, hCr29, hE⟩ := st_bo hE
          refine g_callv (va_runV (As := [.long ((ri c26 12 (c25.toNatClampNeg) : Int32).toInt64)]) (rest := []) ⟨hx, hb, hml, hown, hts⟩ (k_X10_mix hij hCr29) (cwV 1 hts (wz_V tw_5_111 tw_5_113 tp_41 tw_1_11 tw_5_114) rfl rfl rfl hdV_X10_mix ⟨Nat.le_of_ble_eq_true rfl, Nat.le_of_ble_eq_true rfl⟩) (g_preV KR_st ZR_st hK hZ hP hS hK.1 ((q_Ref (ad := ad) (cI := cI) (cB := cB))).1 (er_o (q_Ref (ad := ad) (cI := cI) (cB := cB))) rfl) rfl rfl hl.1 rfl (lv_room (Nat.le_of_ble_eq_true rfl)) dX10_digest_77 ⟨Nat.zero_le _, Nat.zero_le _⟩) hS (fun H locs hP hS => ?_)
          obtain ⟨v30, ev30, hE⟩ := st_bv hE
          refine lv_iinc (v := v30) (lv' := [(1, .int v30), (0, .ref (ad 0))]) hx hb dX10_digest_80 hl (k := 1) rfl (by rw [ev30]; rfl) (by decide) rfl (fun ls hl => ?_)
          refine lv_goto (tgt := 61) hx hb dX10_digest_83 (by decide) ?_
          have hq := Option.some.inj hE
          subst hq
          exact hKt24 ls H locs (lv_sub hl [1, 0] rfl) hP hS
      · intro ls H locs hl hP hS
        refine lv_iconst (v := 0) hx hb dX10_digest_86 (by decide) ?_
        refine lv_istore_n (lv' := [(1, .int 0), (0, .ref (ad 0))]) hx hb dX10_digest_87 rfl hl (by decide) rfl (fun ls hl => ?_)
        obtain ⟨x32, hx32, hE⟩ := st_bo hE
        refine lp_walk (body := fun (s31 : Int32 × SR) => b_X10_digest_88 s31.1 s31.2) (fun s31 => ∀ (ls : Array Slot) (H : Heap) (locs : List Loc), lv_has ls 3 [(0, .ref (ad 0)), (1, .int s31.1)] → rP D ad cI cB s31.2 H → rS ad s H locs → W p l e rmX10_digest s m args below meth c H locs 0 0 QQ (F0 m 88 ls [])) (fun x32 => ∀ (ls : Array Slot) (H : Heap) (locs : List Loc), lv_has ls 3 [(0, .ref (ad 0))] → rP D ad cI cB x32 H → rS ad s H locs → W p l e rmX10_digest s m args below meth c H locs 0 0 QQ (F0 m 110 ls [])) ?_ _ _ _ hx32 ?_ ls H locs (lv_sub hl [1, 0] rfl) hP hS
        · intro s31 t33 hE hKt33 ls H locs hl hP hS
          obtain ⟨c34, c35⟩ := s31
          replace hE : b_X10_digest_88 c34 c35 = some t33 := hE
          replace hl : lv_has ls 3 [(0, .ref (ad 0)), (1, .int c34)] := hl
          replace hP : rP D ad cI cB c35 H := hP
          unfold b_X10_digest_88 at hE
          refine lv_iload_n hx hb dX10_digest_88 rfl (lv_at hl 1 rfl) ?_
          refine lv_bipush (v := 9) hx hb dX10_digest_89 (by decide) ?_
          refine lv_icmp_ge (tgt := 110) hx hb dX10_digest_91 (by decide) (fun hc36 => ?_) (fun hc36 => ?_)
          · have hE := st_t hE hc36
            have hq := Option.some.inj hE
            subst hq
            exact hKt33 ls H locs (lv_sub hl [0] rfl) hP hS
          · have hE := st_f hE hc36
            refine lv_aload_n hx hb dX10_digest_94 rfl (lv_at hl 0 rfl) ?_
            refine lv_aload_n hx hb dX10_digest_95 rfl (lv_at hl 0 rfl) ?_
            refine lv_iload_n hx hb dX10_digest_96 rfl (lv_at hl 1 rfl) ?_
            obtain ⟨r37, hCr37, hE⟩ := st_bo hE
            refine g_calli (va_runV (As := [.int c34]) (rest := [.ref (ad 0)]) ⟨hx, hb, hml, hown, hts⟩ (k_X10_howMany hij hCr37) (cwV 1 hts (wz_V tw_5_98 tw_5_100 tp_39 tw_1_11 tw_5_101) rfl rfl rfl hdV_X10_howMany ⟨Nat.le_of_ble_eq_true rfl, Nat.le_of_ble_eq_true rfl⟩) (g_preV KR_st ZR_st hK hZ hP hS hK.1 ((q_Ref (ad := ad) (cI := cI) (cB := cB))).1 (er_o (q_Ref (ad := ad) (cI := cI) (cB := cB))) rfl) rfl rfl hl.1 rfl (lv_room (Nat.le_of_ble_eq_true rfl)) dX10_digest_97 ⟨Nat.zero_le _, Nat.zero_le _⟩) hS (fun H locs hP hS => ?_)
            refine lv_i2l (v := (r37 : Int32).toInt64) hx hb dX10_digest_100 rfl ?_
            obtain ⟨r38, hCr38, hE⟩ := st_bo hE
            refine g_callv (va_runV (As := [.long ((r37 : Int32).toInt64)]) (rest := []) ⟨hx, hb, hml, hown, hts⟩ (k_X10_mix hij hCr38) (cwV 1 hts (wz_V tw_5_111 tw_5_113 tp_41 tw_1_11 tw_5_114) rfl rfl rfl hdV_X10_mix ⟨Nat.le_of_ble_eq_true rfl, Nat.le_of_ble_eq_true rfl⟩) (g_preV KR_st ZR_st hK hZ hP hS hK.1 ((q_Ref (ad := ad) (cI := cI) (cB := cB))).1 (er_o (q_Ref (ad := ad) (cI := cI) (cB := cB))) rfl) rfl rfl hl.1 rfl (lv_room (Nat.le_of_ble_eq_true rfl)) dX10_digest_101 ⟨Nat.zero_le _, Nat.zero_le _⟩) hS (fun H locs hP hS => ?_)
            obtain ⟨v39, ev39, hE⟩ := st_bv hE
            refine lv_iinc (v := v39) (lv' := [(1, .int v39), (0, .ref (ad 0))]) hx hb dX10_digest_104 hl (k := 1) rfl (by rw [ev39]; rfl) (by decide) rfl (fun ls hl => ?_)
            refine lv_goto (tgt := 88) hx hb dX10_digest_107 (by decide) ?_
            have hq := Option.some.inj hE
            subst hq
            exact hKt33 ls H locs (lv_sub hl [1, 0] rfl) hP hS
        · intro ls H locs hl hP hS
          refine lv_aload_n hx hb dX10_digest_110 rfl (lv_at hl 0 rfl) ?_
          refine r_get (v := .long (rl x32 47)) hx hb hts (fun w h => wz_m (inX10 w h)) hown hK hP (q_Ref (ad := ad) (cI := cI) (cB := cB)) rfl 47 (by decide) (hts _ (wz_m tw_3_203)) (fun _ h9 => h9) rfl dX10_digest_111 ?_
          replace hE := Option.some.inj hE
          have hq := Prod.mk.inj hE
          subst hQQ
          exact g_lret hx hb hr hlocks hP hS hq.1 hq.2 dX10_digest_114
    replace hE := hq18
    refine lv_if_le (tgt := 59) hx hb dX10_digest_52 (by decide) (fun hc20 => ?_) (fun hc20 => ?_)
    · have hE := st_t hE hc20
      have hq := Option.some.inj hE
      subst hq
      exact J19 ls H locs (lv_sub hl [0] rfl) hP hS
    · have hE := st_f hE hc20
      refine lv_aload_n hx hb dX10_digest_55 rfl (lv_at hl 0 rfl) ?_
      obtain ⟨r21, hCr21, hE⟩ := st_bo hE
      refine g_callv (va_runV (As := []) (rest := []) ⟨hx, hb, hml, hown, hts⟩ (k_X10_mixWall hij hCr21) (cwV 0 hts (wz_V tw_5_116 tw_5_118 tp_42 tw_1_11 tw_5_119) rfl rfl rfl hdV_X10_mixWall ⟨Nat.le_of_ble_eq_true rfl, Nat.le_of_ble_eq_true rfl⟩) (g_preV KR_st ZR_st hK hZ hP hS hK.1 ((q_Ref (ad := ad) (cI := cI) (cB := cB))).1 (er_o (q_Ref (ad := ad) (cI := cI) (cB := cB))) rfl) rfl rfl hl.1 rfl (lv_room (Nat.le_of_ble_eq_true rfl)) dX10_digest_56 ⟨Nat.zero_le _, Nat.zero_le _⟩) hS (fun H locs hP hS => ?_)
      have hq := Option.some.inj hE
      subst hq
      exact J19 ls H locs (lv_sub hl [0] rfl) hP hS

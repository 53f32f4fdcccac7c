def b_X10_clashesAmong_15 (S0 : SR) (a1 : Int32) (c5 : Int32) (c10 : Int32) (c11 : Int32) : Option ((Int32 × Int32) ⊕ (Int32)) :=
  if c5 ≤ c11 then (some (.inr c10)) else (bo (f_X10_isIn a1 c5) (fun (r13 : Int32) => if r13 = 0 then (bv (c10 + 0) (fun (v15 : Int32) => bv (c11 + 1) (fun (v16 : Int32) => some (.inl (v15, v16))))) else (bo (f_X10_isIn a1 c11) (fun (r17 : Int32) => if r17 = 0 then (bv (c10 + 0) (fun (v19 : Int32) => bv (c11 + 1) (fun (v20 : Int32) => some (.inl (v19, v20))))) else (bo (f_X10_clashesOfTwo S0 c5 c11) (fun (r21 : Int32) => bv (c10 + r21) (fun (v22 : Int32) => bv (c11 + 1) (fun (v23 : Int32) => some (.inl (v22, v23))))))))))
def b_X10_clashesAmong_4 (S0 : SR) (a1 : Int32) (c4 : Int32) (c5 : Int32) : Option ((Int32 × Int32) ⊕ (Int32)) :=
  if (ri S0 0 1) ≤ c5 then (some (.inr c4)) else (bo (lp (fun (s7 : Int32 × Int32) => b_X10_clashesAmong_15 S0 a1 c5 s7.1 s7.2) 5000 (c4, 0)) (fun (x8 : Int32) => bv (c5 + 1) (fun (v24 : Int32) => some (.inl (x8, v24)))))
def f_X10_clashesAmong (S0 : SR) (a1 : Int32) : Option (Int32) :=
  bo (lp (fun (s1 : Int32 × Int32) => b_X10_clashesAmong_4 S0 a1 s1.1 s1.2) 5000 (0, 0)) (fun (x2 : Int32) => some x2)
abbrev rmX10_clashesAmong : Room := { frames := 3, cells := 0, slots := 0, locals := 71 }
theorem hdV_X10_clashesAmong : yX10_clashesAmong.cls = "WitnessWallModel" ∧ yX10_clashesAmong.cls ≠ "java/lang/invoke/MethodHandle" ∧ yX10_clashesAmong.cls ≠ "java/lang/invoke/VarHandle" ∧ (parseMethodDescriptor yX10_clashesAmong.desc).map (fun d => d.parameters.length) = some 1 := by decide +kernel
set_option maxHeartbeats 4000000 in
set_option maxRecDepth 100000 in
theorem k_X10_clashesAmong {l : Launch} {D : va_G} {ad : Nat → Nat} {cI cB : ClassId} (hij : inj 31 ad)  {S0 : SR} {a1 : Int32} {r : Int32} (hE : f_X10_clashesAmong S0 a1 = some r) {sz : Nat} : Met l yX10_clashesAmong (wz yX10_clashesAmong cX10_clashesAmong 5 (some FieldType.int)) rmX10_clashesAmong (PG 31 ad (er ad cI cB) D (KR D cI cB) ZR [.ref (ad 0), .int a1] S0 sz) (QGi 31 ad (er ad cI cB) D r S0 sz) 0 0 (AD 31 ad sz) := by
  unfold f_X10_clashesAmong at hE
  refine g_start (cc := cX10_clashesAmong) (maxL := 5) (ret := (some FieldType.int)) (Qc := fun sz => QGi 31 ad (er ad cI cB) D r S0 sz) (by decide) rfl (Nat.le_of_ble_eq_true rfl) ?_
  intro p e s m args below meth c H locs ls hx hb hr hts hown hlocks hml hK hZ hP hS hl
  replace hl : lv_has ls 5 [(0, .ref (ad 0)), (1, .int a1)] := hl
  obtain ⟨QQ, hQQ⟩ : ∃ q, q = MQ below (QGi 31 ad (er ad cI cB) D r S0 s.heap.size) args s 0 0 (AD 31 ad s.heap.size) := ⟨_, rfl⟩
  rw [← hQQ]
  refine lv_iconst (v := 0) hx hb dX10_clashesAmong_0 (by decide) ?_
  refine lv_istore_n (lv' := [(2, .int 0), (0, .ref (ad 0)), (1, .int a1)]) hx hb dX10_clashesAmong_1 rfl hl (by decide) rfl (fun ls hl => ?_)
  refine lv_iconst (v := 0) hx hb dX10_clashesAmong_2 (by decide) ?_
  refine lv_istore_n (lv' := [(3, .int 0), (2, .int 0), (0, .ref (ad 0)), (1, .int a1)]) hx hb dX10_clashesAmong_3 rfl hl (by decide) rfl (fun ls hl => ?_)
  obtain ⟨x2, hx2, hE⟩ := st_bo hE
  refine lp_walk (body := fun (s1 : Int32 × Int32) => b_X10_clashesAmong_4 S0 a1 s1.1 s1.2) (fun s1 => ∀ (ls : Array Slot) (H : Heap) (locs : List Loc), lv_has ls 5 [(0, .ref (ad 0)), (1, .int a1), (2, .int s1.1), (3, .int s1.2)] → rP D ad cI cB S0 H → rS ad s H locs → W p l e rmX10_clashesAmong s m args below meth c H locs 0 0 QQ (F0 m 4 ls [])) (fun x2 => ∀ (ls : Array Slot) (H : Heap) (locs : List Loc), lv_has ls 5 [(2, .int x2)] → rP D ad cI cB S0 H → rS ad s H locs → W p l e rmX10_clashesAmong s m args below meth c H locs 0 0 QQ (F0 m 64 ls [])) ?_ _ _ _ hx2 ?_ ls H locs (lv_sub hl [2, 3, 1, 0] rfl) hP hS
  · intro s1 t3 hE hKt3 ls H locs hl hP hS
    obtain ⟨c4, c5⟩ := s1
    replace hE : b_X10_clashesAmong_4 S0 a1 c4 c5 = some t3 := hE
    replace hl : lv_has ls 5 [(0, .ref (ad 0)), (1, .int a1), (2, .int c4), (3, .int c5)] := hl
    replace hP : rP D ad cI cB S0 H := hP
    unfold b_X10_clashesAmong_4 at hE
    refine lv_iload_n hx hb dX10_clashesAmong_4 rfl (lv_at hl 3 rfl) ?_
    refine lv_aload_n hx hb dX10_clashesAmong_5 rfl (lv_at hl 0 rfl) ?_
    refine r_get (v := .int (ri S0 0 1)) hx hb hts (fun w h => wz_m (inX10 w h)) hown hK hP (q_Ref (ad := ad) (cI := cI) (cB := cB)) rfl 1 (by decide) (hts _ (wz_m tw_3_157)) (fun _ h9 => h9) rfl dX10_clashesAmong_6 ?_
    refine lv_icmp_ge (tgt := 64) hx hb dX10_clashesAmong_9 (by decide) (fun hc6 => ?_) (fun hc6 => ?_)
    · have hE := st_t hE hc6
      have hq := Option.some.inj hE
      subst hq
      exact hKt3 ls H locs (lv_sub hl [2] rfl) hP hS
    · have hE := st_f hE hc6
      refine lv_iconst (v := 0) hx hb dX10_clashesAmong_12 (by decide) ?_
      refine lv_istore (lv' := [(4, .int 0), (0, .ref (ad 0)), (1, .int a1), (2, .int c4), (3, .int c5)]) hx hb dX10_clashesAmong_13 hl (by decide) rfl (fun ls hl => ?_)
      obtain ⟨x8, hx8, hE⟩ := st_bo hE
      refine lp_walk (body := fun (s7 : Int32 × Int32) => b_X10_clashesAmong_15 S0 a1 c5 s7.1 s7.2) (fun s7 => ∀ (ls : Array Slot) (H : Heap) (locs : List Loc), lv_has ls 5 [(0, .ref (ad 0)), (1, .int a1), (2, .int s7.1), (3, .int c5), (4, .int s7.2)] → rP D ad cI cB S0 H → rS ad s H locs → W p l e rmX10_clashesAmong s m args below meth c H locs 0 0 QQ (F0 m 15 ls [])) (fun x8 => ∀ (ls : Array Slot) (H : Heap) (locs : List Loc), lv_has ls 5 [(0, .ref (ad 0)), (1, .int a1), (2, .int x8), (3, .int c5)] → rP D ad cI cB S0 H → rS ad s H locs → W p l e rmX10_clashesAmong s m args below meth c H locs 0 0 QQ (F0 m 58 ls [])) ?_ _ _ _ hx8 ?_ ls H locs (lv_sub hl [1, 2, 3, 4, 0] rfl) hP hS
      · intro s7 t9 hE hKt9 ls H locs hl hP hS
        obtain ⟨c10, c11⟩ := s7
        replace hE : b_X10_clashesAmong_15 S0 a1 c5 c10 c11 = some t9 := hE
        replace hl : lv_has ls 5 [(0, .ref (ad 0)), (1, .int a1), (2, .int c10), (3, .int c5), (4, .int c11)] := hl
        replace hP : rP D ad cI cB S0 H := hP
        unfold b_X10_clashesAmong_15 at hE
        refine lv_iload hx hb dX10_clashesAmong_15 (lv_at hl 4 rfl) ?_
        refine lv_iload_n hx hb dX10_clashesAmong_17 rfl (lv_at hl 3 rfl) ?_
        refine lv_icmp_ge (tgt := 58) hx hb dX10_clashesAmong_18 (by decide) (fun hc12 => ?_) (fun hc12 => ?_)
        · have hE := st_t hE hc12
          have hq := Option.some.inj hE
          subst hq
          exact hKt9 ls H locs (lv_sub hl [0, 1, 2, 3] rfl) hP hS
        · have hE := st_f hE hc12
          refine lv_iload_n hx hb dX10_clashesAmong_21 rfl (lv_at hl 2 rfl) ?_
          refine lv_iload_n hx hb dX10_clashesAmong_22 rfl (lv_at hl 1 rfl) ?_
          refine lv_iload_n hx hb dX10_clashesAmong_23 rfl (lv_at hl 3 rfl) ?_
          obtain ⟨r13, hCr13, hE⟩ := st_bo hE
          refine g_calli (va_runS (As := [.int a1, .int c5]) (rest := [.int c10]) ⟨hx, hb, hml, hown, hts⟩ (k_X10_isIn hij (S0 := S0) hCr13) (va_cwS 2 hts (wz_S tw_4_144 tw_4_145 tw_1_11 tw_4_146) rfl rfl rfl hdS_X10_isIn ⟨Nat.le_of_ble_eq_true rfl, Nat.le_of_ble_eq_true rfl⟩) (g_preS KR_st ZR_st hK hZ hP hS) rfl rfl hl.1 rfl (lv_room (Nat.le_of_ble_eq_true rfl)) dX10_clashesAmong_24 ⟨Nat.zero_le _, Nat.zero_le _⟩) hS (fun H locs hP hS => ?_)
          refine lv_if_eq (tgt := 49) hx hb dX10_clashesAmong_27 (by decide) (fun hc14 => ?_) (fun hc14 => ?_)
          · have hE := st_t hE hc14
            refine lv_iconst (v := 0) hx hb dX10_clashesAmong_49 (by decide) ?_
            refine lv_iadd hx hb dX10_clashesAmong_50 ?_
            obtain ⟨v15, ev15, hE⟩ := st_bv hE
            refine nm_i ev15 ?_
            refine lv_istore_n (lv' := [(2, .int v15), (0, .ref (ad 0)), (1, .int a1), (3, .int c5), (4, .int c11)]) hx hb dX10_clashesAmong_51 rfl hl (by decide) rfl (fun ls hl => ?_)
            obtain ⟨v16, ev16, hE⟩ := st_bv hE
            refine lv_iinc (v := v16) (lv' := [(4, .int v16), (2, .int v15), (0, .ref (ad 0)), (1, .int a1), (3, .int c5)]) hx hb dX10_clashesAmong_52 hl (k := 4) rfl (by rw [ev16]; rfl) (by decide) rfl (fun ls hl => ?_)
            refine lv_goto (tgt := 15) hx hb dX10_clashesAmong_55 (by decide) ?_
            have hq := Option.some.inj hE
            subst hq
            exact hKt9 ls H locs (lv_sub hl [2, 3, 1, 4, 0] rfl) hP hS
          · have hE := st_f hE hc14
            refine lv_iload_n hx hb dX10_clashesAmong_30 rfl (lv_at hl 1 rfl) ?_
            refine lv_iload hx hb dX10_clashesAmong_31 (lv_at hl 4 rfl) ?_
            obtain ⟨r17, hCr17, hE⟩ := st_bo hE
            refine g_calli (va_runS (As := [.int a1, .int c11]) (rest := [.int c10]) ⟨hx, hb, hml, hown, hts⟩ (k_X10_isIn hij (S0 := S0) hCr17) (va_cwS 2 hts (wz_S tw_4_144 tw_4_145 tw_1_11 tw_4_146) rfl rfl rfl hdS_X10_isIn ⟨Nat.le_of_ble_eq_true rfl, Nat.le_of_ble_eq_true rfl⟩) (g_preS KR_st ZR_st hK hZ hP hS) rfl rfl hl.1 rfl (lv_room (Nat.le_of_ble_eq_true rfl)) dX10_clashesAmong_33 ⟨Nat.zero_le _, Nat.zero_le _⟩) hS (fun H locs hP hS => ?_)
            refine lv_if_eq (tgt := 49) hx hb dX10_clashesAmong_36 (by decide) (fun hc18 => ?_) (fun hc18 => ?_)
            · have hE := st_t hE hc18
              refine lv_iconst (v := 0) hx hb dX10_clashesAmong_49 (by decide) ?_
              refine lv_iadd hx hb dX10_clashesAmong_50 ?_
              obtain ⟨v19, ev19, hE⟩ := st_bv hE
              refine nm_i ev19 ?_
              refine lv_istore_n (lv' := [(2, .int v19), (0, .ref (ad 0)), (1, .int a1), (3, .int c5), (4, .int c11)]) hx hb dX10_clashesAmong_51 rfl hl (by decide) rfl (fun ls hl => ?_)
              obtain ⟨v20, ev20, hE⟩ := st_bv hE
              refine lv_iinc (v := v20) (lv' := [(4, .int v20), (2, .int v19), (0, .ref (ad 0)), (1, .int a1), (3, .int c5)]) hx hb dX10_clashesAmong_52 hl (k := 4) rfl (by rw [ev20]; rfl) (by decide) rfl (fun ls hl => ?_)
              refine lv_goto (tgt := 15) hx hb dX10_clashesAmong_55 (by decide) ?_
              have hq := Option.some.inj hE
              subst hq
              exact hKt9 ls H locs (lv_sub hl [2, 3, 1, 4, 0] rfl) hP hS
            · have hE := st_f hE hc18
              refine lv_aload_n hx hb dX10_clashesAmong_39 rfl (lv_at hl 0 rfl) ?_
              refine lv_iload_n hx hb dX10_clashesAmong_40 rfl (lv_at hl 3 rfl) ?_
              refine lv_iload hx hb dX10_clashesAmong_41 (lv_at hl 4 rfl) ?_
              obtain ⟨r21, hCr21, hE⟩ := st_bo hE
              refine g_calli (va_runV (As := [.int c5, .int c11]) (rest := [.int c10]) ⟨hx, hb, hml, hown, hts⟩ (k_X10_clashesOfTwo hij hCr21) (cwV 2 hts (wz_V tw_4_154 tw_4_156 tp_16 tw_1_11 tw_4_157) rfl rfl rfl hdV_X10_clashesOfTwo ⟨Nat.le_of_ble_eq_true rfl, Nat.le_of_ble_eq_true rfl⟩) (g_preV KR_st ZR_st hK hZ hP hS hK.1 ((q_Ref (ad := ad) (cI := cI) (cB := cB))).1 (er_o (q_Ref (ad := ad) (cI := cI) (cB := cB))) rfl) rfl rfl hl.1 rfl (lv_room (Nat.le_of_ble_eq_true rfl)) dX10_clashesAmong_43 ⟨Nat.zero_le _, Nat.zero_le _⟩) hS (fun H locs hP hS => ?_)
              refine lv_goto (tgt := 50) hx hb dX10_clashesAmong_46 (by decide) ?_
              refine lv_iadd hx hb dX10_clashesAmong_50 ?_
              obtain ⟨v22, ev22, hE⟩ := st_bv hE
              refine nm_i ev22 ?_
              refine lv_istore_n (lv' := [(2, .int v22), (0, .ref (ad 0)), (1, .int a1), (3, .int c5), (4, .int c11)]) hx hb dX10_clashesAmong_51 rfl hl (by decide) rfl (fun ls hl => ?_)
              obtain ⟨v23, ev23, hE⟩ := st_bv hE
              refine lv_iinc (v := v23) (lv' := [(4, .int v23), (2, .int v22), (0, .ref (ad 0)), (1, .int a1), (3, .int c5)]) hx hb dX10_clashesAmong_52 hl (k := 4) rfl (by rw [ev23]; rfl) (by decide) rfl (fun ls hl => ?_)
              refine lv_goto (tgt := 15) hx hb dX10_clashesAmong_55 (by decide) ?_
              have hq := Option.some.inj hE
              subst hq
              exact hKt9 ls H locs (lv_sub hl [2, 3, 1, 4, 0] rfl) hP hS
      · intro ls H locs hl hP hS
        obtain ⟨v24, ev24, hE⟩ := st_bv hE
        refine lv_iinc (v := v24) (lv' := [(3, .int v24), (0, .ref (ad 0)), (1, .int a1), (2, .int x8)]) hx hb dX10_clashesAmong_58 hl (k := 3) rfl (by rw [ev24]; rfl) (by decide) rfl (fun ls hl => ?_)
        refine lv_goto (tgt := 4) hx hb dX10_clashesAmong_61 (by decide) ?_
        have hq := Option.some.inj hE
        subst hq
        exact hKt3 ls H locs (lv_sub hl [1, 2, 3, 0] rfl) hP hS
  · intro ls H locs hl hP hS
    refine lv_iload_n hx hb dX10_clashesAmong_64 rfl (lv_at hl 0 rfl) ?_
    replace hE := Option.some.inj hE
    subst hQQ
    exact g_iret hx hb hr hlocks hP hS hE rfl dX10_clashesAmong_65
def b_X10_clashesOf_4 (S0 : SR) (a1 : Int32) (c4 : Int32) (c5 : Int32) : Option ((Int32 × Int32) ⊕ (Int32)) :=
  if (ri S0 0 1) ≤ c5 then (some (.inr c4)) else (if c5 = a1 then (bv (c4 + 0) (fun (v11 : Int32) => bv (c5 + 1) (fun (v12 : Int32) => some (.inl (v11, v12))))) else (bo (f_X10_clashesOfTwo S0 a1 c5) (fun (r8 : Int32) => bv (c4 + r8) (fun (v9 : Int32) => bv (c5 + 1) (fun (v10 : Int32) => some (.inl (v9, v10)))))))
def f_X10_clashesOf (S0 : SR) (a1 : Int32) : Option (Int32) :=
  bo (lp (fun (s1 : Int32 × Int32) => b_X10_clashesOf_4 S0 a1 s1.1 s1.2) 5000 (0, 0)) (fun (x2 : Int32) => some x2)
abbrev rmX10_clashesOf : Room := { frames := 3, cells := 0, slots := 0, locals := 71 }
theorem hdV_X10_clashesOf : yX10_clashesOf.cls = "WitnessWallModel" ∧ yX10_clashesOf.cls ≠ "java/lang/invoke/MethodHandle" ∧ yX10_clashesOf.cls ≠ "java/lang/invoke/VarHandle" ∧ (parseMethodDescriptor yX10_clashesOf.desc).map (fun d => d.parameters.length) = some 1 := by decide +kernel
set_option maxHeartbeats 4000000 in
set_option maxRecDepth 100000 in
theorem k_X10_clashesOf {l : Launch} {D : va_G} {ad : Nat → Nat} {cI cB : ClassId} (hij : inj 31 ad)  {S0 : SR} {a1 : Int32} {r : Int32} (hE : f_X10_clashesOf S0 a1 = some r) {sz : Nat} : Met l yX10_clashesOf (wz yX10_clashesOf cX10_clashesOf 4 (some FieldType.int)) rmX10_clashesOf (PG 31 ad (er ad cI cB) D (KR D cI cB) ZR [.ref (ad 0), .int a1] S0 sz) (QGi 31 ad (er ad cI cB) D r S0 sz) 0 0 (AD 31 ad sz) := by
  unfold f_X10_clashesOf at hE
  refine g_start (cc := cX10_clashesOf) (maxL := 4) (ret := (some FieldType.int)) (Qc := fun sz => QGi 31 ad (er ad cI cB) D r S0 sz) (by decide) rfl (Nat.le_of_ble_eq_true rfl) ?_
  intro p e s m args below meth c H locs ls hx hb hr hts hown hlocks hml hK hZ hP hS hl
  replace hl : lv_has ls 4 [(0, .ref (ad 0)), (1, .int a1)] := hl
  obtain ⟨QQ, hQQ⟩ : ∃ q, q = MQ below (QGi 31 ad (er ad cI cB) D r S0 s.heap.size) args s 0 0 (AD 31 ad s.heap.size) := ⟨_, rfl⟩
  rw [← hQQ]
  refine lv_iconst (v := 0) hx hb dX10_clashesOf_0 (by decide) ?_
  refine lv_istore_n (lv' := [(2, .int 0), (0, .ref (ad 0)), (1, .int a1)]) hx hb dX10_clashesOf_1 rfl hl (by decide) rfl (fun ls hl => ?_)
  refine lv_iconst (v := 0) hx hb dX10_clashesOf_2 (by decide) ?_
  refine lv_istore_n (lv' := [(3, .int 0), (2, .int 0), (0, .ref (ad 0)), (1, .int a1)]) hx hb dX10_clashesOf_3 rfl hl (by decide) rfl (fun ls hl => ?_)
  obtain ⟨x2, hx2, hE⟩ := st_bo hE
  refine lp_walk (body := fun (s1 : Int32 × Int32) => b_X10_clashesOf_4 S0 a1 s1.1 s1.2) (fun s1 => ∀ (ls : Array Slot) (H : Heap) (locs : List Loc), lv_has ls 4 [(0, .ref (ad 0)), (1, .int a1), (2, .int s1.1), (3, .int s1.2)] → rP D ad cI cB S0 H → rS ad s H locs → W p l e rmX10_clashesOf s m args below meth c H locs 0 0 QQ (F0 m 4 ls [])) (fun x2 => ∀ (ls : Array Slot) (H : Heap) (locs : List Loc), lv_has ls 4 [(2, .int x2)] → rP D ad cI cB S0 H → rS ad s H locs → W p l e rmX10_clashesOf s m args below meth c H locs 0 0 QQ (F0 m 36 ls [])) ?_ _ _ _ hx2 ?_ ls H locs (lv_sub hl [2, 3, 1, 0] rfl) hP hS
  · intro s1 t3 hE hKt3 ls H locs hl hP hS
    obtain ⟨c4, c5⟩ := s1
    replace hE : b_X10_clashesOf_4 S0 a1 c4 c5 = some t3 := hE
    replace hl : lv_has ls 4 [(0, .ref (ad 0)), (1, .int a1), (2, .int c4), (3, .int c5)] := hl
    replace hP : rP D ad cI cB S0 H := hP
    unfold b_X10_clashesOf_4 at hE
    refine lv_iload_n hx hb dX10_clashesOf_4 rfl (lv_at hl 3 rfl) ?_
    refine lv_aload_n hx hb dX10_clashesOf_5 rfl (lv_at hl 0 rfl) ?_
    refine r_get (v := .int (ri S0 0 1)) hx hb hts (fun w h => wz_m (inX10 w h)) hown hK hP (q_Ref (ad := ad) (cI := cI) (cB := cB)) rfl 1 (by decide) (hts _ (wz_m tw_3_157)) (fun _ h9 => h9) rfl dX10_clashesOf_6 ?_
    refine lv_icmp_ge (tgt := 36) hx hb dX10_clashesOf_9 (by decide) (fun hc6 => ?_) (fun hc6 => ?_)
    · have hE := st_t hE hc6
      have hq := Option.some.inj hE
      subst hq
      exact hKt3 ls H locs (lv_sub hl [2] rfl) hP hS
    · have hE := st_f hE hc6
      refine lv_iload_n hx hb dX10_clashesOf_12 rfl (lv_at hl 2 rfl) ?_
      refine lv_iload_n hx hb dX10_clashesOf_13 rfl (lv_at hl 3 rfl) ?_
      refine lv_iload_n hx hb dX10_clashesOf_14 rfl (lv_at hl 1 rfl) ?_
      refine lv_icmp_ne (tgt := 22) hx hb dX10_clashesOf_15 (by decide) (fun hc7 => ?_) (fun hc7 => ?_)
      · have hE := st_f hE hc7
        refine lv_aload_n hx hb dX10_clashesOf_22 rfl (lv_at hl 0 rfl) ?_
        refine lv_iload_n hx hb dX10_clashesOf_23 rfl (lv_at hl 1 rfl) ?_
        refine lv_iload_n hx hb dX10_clashesOf_24 rfl (lv_at hl 3 rfl) ?_
        obtain ⟨r8, hCr8, hE⟩ := st_bo hE
        refine g_calli (va_runV (As := [.int a1, .int c5]) (rest := [.int c4]) ⟨hx, hb, hml, hown, hts⟩ (k_X10_clashesOfTwo hij hCr8) (cwV 2 hts (wz_V tw_4_154 tw_4_156 tp_16 tw_1_11 tw_4_157) rfl rfl rfl hdV_X10_clashesOfTwo ⟨Nat.le_of_ble_eq_true rfl, Nat.le_of_ble_eq_true rfl⟩) (g_preV KR_st ZR_st hK hZ hP hS hK.1 ((q_Ref (ad := ad) (cI := cI) (cB := cB))).1 (er_o (q_Ref (ad := ad) (cI := cI) (cB := cB))) rfl) rfl rfl hl.1 rfl (lv_room (Nat.le_of_ble_eq_true rfl)) dX10_clashesOf_25 ⟨Nat.zero_le _, Nat.zero_le _⟩) hS (fun H locs hP hS => ?_)
        refine lv_iadd hx hb dX10_clashesOf_28 ?_
        obtain ⟨v9, ev9, hE⟩ := st_bv hE
        refine nm_i ev9 ?_
        refine lv_istore_n (lv' := [(2, .int v9), (0, .ref (ad 0)), (1, .int a1), (3, .int c5)]) hx hb dX10_clashesOf_29 rfl hl (by decide) rfl (fun ls hl => ?_)
        obtain ⟨v10, ev10, hE⟩ := st_bv hE
        refine lv_iinc (v := v10) (lv' := [(3, .int v10), (2, .int v9), (0, .ref (ad 0)), (1, .int a1)]) hx hb dX10_clashesOf_30 hl (k := 3) rfl (by rw [ev10]; rfl) (by decide) rfl (fun ls hl => ?_)
        refine lv_goto (tgt := 4) hx hb dX10_clashesOf_33 (by decide) ?_
        have hq := Option.some.inj hE
        subst hq
        exact hKt3 ls H locs (lv_sub hl [2, 3, 1, 0] rfl) hP hS
      · have hE := st_t hE hc7
        refine lv_iconst (v := 0) hx hb dX10_clashesOf_18 (by decide) ?_
        refine lv_goto (tgt := 28) hx hb dX10_clashesOf_19 (by decide) ?_
        refine lv_iadd hx hb dX10_clashesOf_28 ?_
        obtain ⟨v11, ev11, hE⟩ := st_bv hE
        refine nm_i ev11 ?_
        refine lv_istore_n (lv' := [(2, .int v11), (0, .ref (ad 0)), (1, .int a1), (3, .int c5)]) hx hb dX10_clashesOf_29 rfl hl (by decide) rfl (fun ls hl => ?_)
        obtain ⟨v12, ev12, hE⟩ := st_bv hE
        refine lv_iinc (v := v12) (lv' := [(3, .int v12), (2, .int v11), (0, .ref (ad 0)), (1, .int a1)]) hx hb dX10_clashesOf_30 hl (k := 3) rfl (by rw [ev12]; rfl) (by decide) rfl (fun ls hl => ?_)
        refine lv_goto (tgt := 4) hx hb dX10_clashesOf_33 (by decide) ?_
        have hq := Option.some.inj hE
        subst hq
        exact hKt3 ls H locs (lv_sub hl [2, 3, 1, 0] rfl) hP hS
  · intro ls H locs hl hP hS
    refine lv_iload_n hx hb dX10_clashesOf_36 rfl (lv_at hl 0 rfl) ?_
    replace hE := Option.some.inj hE
    subst hQQ
    exact g_iret hx hb hr hlocks hP hS hE rfl dX10_clashesOf_37
def b_X10_sightsOfAll_14 (S0 : SR) (c5 : Int32) (c10 : Int32) (c11 : Int32) : Option ((Int32 × Int32) ⊕ (Int32)) :=
  gd (inb c5 5) (if (ri S0 3 (c5.toNatClampNeg)) ≤ c11 then (some (.inr c10)) else (gd (inb ((4 * c5) + c11) 20) (bv (c10 ||| ((1 : Int32) <<< ((ri S0 2 (((4 * c5) + c11).toNatClampNeg)) &&& 31))) (fun (v15 : Int32) => bv (c11 + 1) (fun (v16 : Int32) => some (.inl (v15, v16)))))))
def b_X10_sightsOfAll_4 (S0 : SR) (c4 : Int32) (c5 : Int32) : Option ((Int32 × Int32) ⊕ (Int32)) :=
  if (ri S0 0 1) ≤ c5 then (some (.inr c4)) else (bo (lp (fun (s7 : Int32 × Int32) => b_X10_sightsOfAll_14 S0 c5 s7.1 s7.2) 5000 (c4, 0)) (fun (x8 : Int32) => bv (c5 + 1) (fun (v17 : Int32) => some (.inl (x8, v17)))))
def f_X10_sightsOfAll (S0 : SR) : Option (Int32) :=
  bo (lp (fun (s1 : Int32 × Int32) => b_X10_sightsOfAll_4 S0 s1.1 s1.2) 5000 (0, 0)) (fun (x2 : Int32) => bo (f_X10_size x2) (fun (r18 : Int32) => some r18))
abbrev rmX10_sightsOfAll : Room := { frames := 1, cells := 0, slots := 0, locals := 22 }
theorem hdV_X10_sightsOfAll : yX10_sightsOfAll.cls = "WitnessWallModel" ∧ yX10_sightsOfAll.cls ≠ "java/lang/invoke/MethodHandle" ∧ yX10_sightsOfAll.cls ≠ "java/lang/invoke/VarHandle" ∧ (parseMethodDescriptor yX10_sightsOfAll.desc).map (fun d => d.parameters.length) = some 0 := by decide +kernel
set_option maxHeartbeats 4000000 in
set_option maxRecDepth 100000 in
theorem k_X10_sightsOfAll {l : Launch} {D : va_G} {ad : Nat → Nat} {cI cB : ClassId} (hij : inj 31 ad)  {S0 : SR} {r : Int32} (hE : f_X10_sightsOfAll S0 = some r) {sz : Nat} : Met l yX10_sightsOfAll (wz yX10_sightsOfAll cX10_sightsOfAll 4 (some FieldType.int)) rmX10_sightsOfAll (PG 31 ad (er ad cI cB) D (KR D cI cB) ZR [.ref (ad 0)] S0 sz) (QGi 31 ad (er ad cI cB) D r S0 sz) 0 0 (AD 31 ad sz) := by
  unfold f_X10_sightsOfAll at hE
  refine g_start (cc := cX10_sightsOfAll) (maxL := 4) (ret := (some FieldType.int)) (Qc := fun sz => QGi 31 ad (er ad cI cB) D r S0 sz) (by decide) rfl (Nat.le_of_ble_eq_true rfl) ?_
  intro p e s m args below meth c H locs ls hx hb hr hts hown hlocks hml hK hZ hP hS hl
  replace hl : lv_has ls 4 [(0, .ref (ad 0))] := hl
  obtain ⟨QQ, hQQ⟩ : ∃ q, q = MQ below (QGi 31 ad (er ad cI cB) D r S0 s.heap.size) args s 0 0 (AD 31 ad s.heap.size) := ⟨_, rfl⟩
  rw [← hQQ]
  refine lv_iconst (v := 0) hx hb dX10_sightsOfAll_0 (by decide) ?_
  refine lv_istore_n (lv' := [(1, .int 0), (0, .ref (ad 0))]) hx hb dX10_sightsOfAll_1 rfl hl (by decide) rfl (fun ls hl => ?_)
  refine lv_iconst (v := 0) hx hb dX10_sightsOfAll_2 (by decide) ?_
  refine lv_istore_n (lv' := [(2, .int 0), (1, .int 0), (0, .ref (ad 0))]) hx hb dX10_sightsOfAll_3 rfl hl (by decide) rfl (fun ls hl => ?_)
  obtain ⟨x2, hx2, hE⟩ := st_bo hE
  refine lp_walk (body := fun (s1 : Int32 × Int32) => b_X10_sightsOfAll_4 S0 s1.1 s1.2) (fun s1 => ∀ (ls : Array Slot) (H : Heap) (locs : List Loc), lv_has ls 4 [(0, .ref (ad 0)), (1, .int s1.1), (2, .int s1.2)] → rP D ad cI cB S0 H → rS ad s H locs → W p l e rmX10_sightsOfAll s m args below meth c H locs 0 0 QQ (F0 m 4 ls [])) (fun x2 => ∀ (ls : Array Slot) (H : Heap) (locs : List Loc), lv_has ls 4 [(1, .int x2)] → rP D ad cI cB S0 H → rS ad s H locs → W p l e rmX10_sightsOfAll s m args below meth c H locs 0 0 QQ (F0 m 51 ls [])) ?_ _ _ _ hx2 ?_ ls H locs (lv_sub hl [2, 1, 0] rfl) hP hS
  · intro s1 t3 hE hKt3 ls H locs hl hP hS
    obtain ⟨c4, c5⟩ := s1
    replace hE : b_X10_sightsOfAll_4 S0 c4 c5 = some t3 := hE
    replace hl : lv_has ls 4 [(0, .ref (ad 0)), (1, .int c4), (2, .int c5)] := hl
    replace hP : rP D ad cI cB S0 H := hP
    unfold b_X10_sightsOfAll_4 at hE
    refine lv_iload_n hx hb dX10_sightsOfAll_4 rfl (lv_at hl 2 rfl) ?_
    refine lv_aload_n hx hb dX10_sightsOfAll_5 rfl (lv_at hl 0 rfl) ?_
    refine r_get (v := .int (ri S0 0 1)) hx hb hts (fun w h => wz_m (inX10 w h)) hown hK hP (q_Ref (ad := ad) (cI := cI) (cB := cB)) rfl 1 (by decide) (hts _ (wz_m tw_3_157)) (fun _ h9 => h9) rfl dX10_sightsOfAll_6 ?_
    refine lv_icmp_ge (tgt := 51) hx hb dX10_sightsOfAll_9 (by decide) (fun hc6 => ?_) (fun hc6 => ?_)
    · have hE := st_t hE hc6
      have hq := Option.some.inj hE
      subst hq
      exact hKt3 ls H locs (lv_sub hl [1] rfl) hP hS
    · have hE := st_f hE hc6
      refine lv_iconst (v := 0) hx hb dX10_sightsOfAll_12 (by decide) ?_
      refine lv_istore_n (lv' := [(3, .int 0), (0, .ref (ad 0)), (1, .int c4), (2, .int c5)]) hx hb dX10_sightsOfAll_13 rfl hl (by decide) rfl (fun ls hl => ?_)
      obtain ⟨x8, hx8, hE⟩ := st_bo hE
      refine lp_walk (body := fun (s7 : Int32 × Int32) => b_X10_sightsOfAll_14 S0 c5 s7.1 s7.2) (fun s7 => ∀ (ls : Array Slot) (H : Heap) (locs : List Loc), lv_has ls 4 [(0, .ref (ad 0)), (1, .int s7.1), (2, .int c5), (3, .int s7.2)] → rP D ad cI cB S0 H → rS ad s H locs → W p l e rmX10_sightsOfAll s m args below meth c H locs 0 0 QQ (F0 m 14 ls [])) (fun x8 => ∀ (ls : Array Slot) (H : Heap) (locs : List Loc), lv_has ls 4 [(0, .ref (ad 0)), (1, .int x8), (2, .int c5)] → rP D ad cI cB S0 H → rS ad s H locs → W p l e rmX10_sightsOfAll s m args below meth c H locs 0 0 QQ (F0 m 45 ls [])) ?_ _ _ _ hx8 ?_ ls H locs (lv_sub hl [1, 2, 3, 0] rfl) hP hS
      · intro s7 t9 hE hKt9 ls H locs hl hP hS
        obtain ⟨c10, c11⟩ := s7
        replace hE : b_X10_sightsOfAll_14 S0 c5 c10 c11 = some t9 := hE
        replace hl : lv_has ls 4 [(0, .ref (ad 0)), (1, .int c10), (2, .int c5), (3, .int c11)] := hl
        replace hP : rP D ad cI cB S0 H := hP
        unfold b_X10_sightsOfAll_14 at hE
        refine lv_iload_n hx hb dX10_sightsOfAll_14 rfl (lv_at hl 3 rfl) ?_
        refine lv_aload_n hx hb dX10_sightsOfAll_15 rfl (lv_at hl 0 rfl) ?_
        refine r_get (v := .ref (ad 3)) hx hb hts (fun w h => wz_m (inX10 w h)) hown hK hP (q_Ref (ad := ad) (cI := cI) (cB := cB)) rfl 4 (by decide) (hts _ (wz_m tw_3_160)) (fun _ h9 => h9) rfl dX10_sightsOfAll_16 ?_
        refine lv_iload_n hx hb dX10_sightsOfAll_19 rfl (lv_at hl 2 rfl) ?_
        obtain ⟨hi12, hE⟩ := st_gd hE
        refine r_iald hx hb hK hP qr_3 hi12 dX10_sightsOfAll_20 ?_
        refine lv_icmp_ge (tgt := 45) hx hb dX10_sightsOfAll_21 (by decide) (fun hc13 => ?_) (fun hc13 => ?_)
        · have hE := st_t hE hc13
          have hq := Option.some.inj hE
          subst hq
          exact hKt9 ls H locs (lv_sub hl [0, 1, 2] rfl) hP hS
        · have hE := st_f hE hc13
          refine lv_iload_n hx hb dX10_sightsOfAll_24 rfl (lv_at hl 1 rfl) ?_
          refine lv_iconst (v := 1) hx hb dX10_sightsOfAll_25 (by decide) ?_
          refine lv_aload_n hx hb dX10_sightsOfAll_26 rfl (lv_at hl 0 rfl) ?_
          refine r_get (v := .ref (ad 2)) hx hb hts (fun w h => wz_m (inX10 w h)) hown hK hP (q_Ref (ad := ad) (cI := cI) (cB := cB)) rfl 3 (by decide) (hts _ (wz_m tw_3_159)) (fun _ h9 => h9) rfl dX10_sightsOfAll_27 ?_
          refine lv_iconst (v := 4) hx hb dX10_sightsOfAll_30 (by decide) ?_
          refine lv_iload_n hx hb dX10_sightsOfAll_31 rfl (lv_at hl 2 rfl) ?_
          refine lv_imul hx hb dX10_sightsOfAll_32 ?_
          refine lv_iload_n hx hb dX10_sightsOfAll_33 rfl (lv_at hl 3 rfl) ?_
          refine lv_iadd hx hb dX10_sightsOfAll_34 ?_
          obtain ⟨hi14, hE⟩ := st_gd hE
          refine r_iald hx hb hK hP qr_2 hi14 dX10_sightsOfAll_35 ?_
          refine lv_ishl hx hb dX10_sightsOfAll_36 ?_
          refine lv_ior hx hb dX10_sightsOfAll_37 ?_
          obtain ⟨v15, ev15, hE⟩ := st_bv hE
          refine nm_i ev15 ?_
          refine lv_istore_n (lv' := [(1, .int v15), (0, .ref (ad 0)), (2, .int c5), (3, .int c11)]) hx hb dX10_sightsOfAll_38 rfl hl (by decide) rfl (fun ls hl => ?_)
          obtain ⟨v16, ev16, hE⟩ := st_bv hE
          refine lv_iinc (v := v16) (lv' := [(3, .int v16), (1, .int v15), (0, .ref (ad 0)), (2, .int c5)]) hx hb dX10_sightsOfAll_39 hl (k := 3) rfl (by rw [ev16]; rfl) (by decide) rfl (fun ls hl => ?_)
          refine lv_goto (tgt := 14) hx hb dX10_sightsOfAll_42 (by decide) ?_
          have hq := Option.some.inj hE
          subst hq
          exact hKt9 ls H locs (lv_sub hl [2, 1, 3, 0] rfl) hP hS
      · intro ls H locs hl hP hS
        obtain ⟨v17, ev17, hE⟩ := st_bv hE
        refine lv_iinc (v := v17) (lv' := [(2, .int v17), (0, .ref (ad 0)), (1, .int x8)]) hx hb dX10_sightsOfAll_45 hl (k := 2) rfl (by rw [ev17]; rfl) (by decide) rfl (fun ls hl => ?_)
        refine lv_goto (tgt := 4) hx hb dX10_sightsOfAll_48 (by decide) ?_
        have hq := Option.some.inj hE
        subst hq
        exact hKt3 ls H locs (lv_sub hl [1, 2, 0] rfl) hP hS
  · intro ls H locs hl hP hS
    refine lv_iload_n hx hb dX10_sightsOfAll_51 rfl (lv_at hl 0 rfl) ?_
    obtain ⟨r18, hCr18, hE⟩ := st_bo hE
    refine g_calli (va_runS (As := [.int x2]) (rest := []) ⟨hx, hb, hml, hown, hts⟩ (k_X10_size hij (S0 := S0) hCr18) (va_cwS 1 hts (wz_S tw_4_147 tw_4_148 tw_1_11 tw_4_149) rfl rfl rfl hdS_X10_size ⟨Nat.le_of_ble_eq_true rfl, Nat.le_of_ble_eq_true rfl⟩) (g_preS KR_st ZR_st hK hZ hP hS) rfl rfl hl.1 rfl (lv_room (Nat.le_of_ble_eq_true rfl)) dX10_sightsOfAll_52 ⟨Nat.zero_le _, Nat.zero_le _⟩) hS (fun H locs hP hS => ?_)
    replace hE := Option.some.inj hE
    subst hQQ
    exact g_iret hx hb hr hlocks hP hS hE rfl dX10_sightsOfAll_55
def f_X10_everybody (S0 : SR) : Option (Int32) :=
  some (((1 : Int32) <<< ((ri S0 0 1) &&& 31)) - 1)
abbrev rmX10_everybody : Room := { frames := 0, cells := 0, slots := 0, locals := 0 }
theorem hdV_X10_everybody : yX10_everybody.cls = "WitnessWallModel" ∧ yX10_everybody.cls ≠ "java/lang/invoke/MethodHandle" ∧ yX10_everybody.cls ≠ "java/lang/invoke/VarHandle" ∧ (parseMethodDescriptor yX10_everybody.desc).map (fun d => d.parameters.length) = some 0 := by decide +kernel
set_option maxHeartbeats 4000000 in
set_option maxRecDepth 100000 in
theorem k_X10_everybody {l : Launch} {D : va_G} {ad : Nat → Nat} {cI cB : ClassId} (hij : inj 31 ad)  {S0 : SR} {r : Int32} (hE : f_X10_everybody S0 = some r) {sz : Nat} : Met l yX10_everybody (wz yX10_everybody cX10_everybody 1 (some FieldType.int)) rmX10_everybody (PG 31 ad (er ad cI cB) D (KR D cI cB) ZR [.ref (ad 0)] S0 sz) (QGi 31 ad (er ad cI cB) D r S0 sz) 0 0 (AD 31 ad sz) := by
  unfold f_X10_everybody at hE
  refine g_start (cc := cX10_everybody) (maxL := 1) (ret := (some FieldType.int)) (Qc := fun sz => QGi 31 ad (er ad cI cB) D r S0 sz) (by decide) rfl (Nat.le_of_ble_eq_true rfl) ?_
  intro p e s m args below meth c H locs ls hx hb hr hts hown hlocks hml hK hZ hP hS hl
  replace hl : lv_has ls 1 [(0, .ref (ad 0))] := hl
  obtain ⟨QQ, hQQ⟩ : ∃ q, q = MQ below (QGi 31 ad (er ad cI cB) D r S0 s.heap.size) args s 0 0 (AD 31 ad s.heap.size) := ⟨_, rfl⟩
  rw [← hQQ]
  refine lv_iconst (v := 1) hx hb dX10_everybody_0 (by decide) ?_
  refine lv_aload_n hx hb dX10_everybody_1 rfl (lv_at hl 0 rfl) ?_
  refine r_get (v := .int (ri S0 0 1)) hx hb hts (fun w h => wz_m (inX10 w h)) hown hK hP (q_Ref (ad := ad) (cI := cI) (cB := cB)) rfl 1 (by decide) (hts _ (wz_m tw_3_157)) (fun _ h9 => h9) rfl dX10_everybody_2 ?_
  refine lv_ishl hx hb dX10_everybody_5 ?_
  refine lv_iconst (v := 1) hx hb dX10_everybody_6 (by decide) ?_
  refine lv_isub hx hb dX10_everybody_7 ?_
  replace hE := Option.some.inj hE
  subst hQQ
  exact g_iret hx hb hr hlocks hP hS hE rfl dX10_everybody_8
def f_X10_howMany (S0 : SR) (a1 : Int32) : Option (Int32) :=
  if a1 = 0 then (some (ri S0 0 1)) else (if a1 = 1 then (some (ri S0 0 5)) else (if a1 = 2 then (some (ri S0 0 8)) else (if a1 = 3 then (bo (f_X10_sightsOfAll S0) (fun (r5 : Int32) => some r5)) else (if a1 = 4 then (bo (f_X10_everybody S0) (fun (r7 : Int32) => bo (f_X10_clashesAmong S0 r7) (fun (r8 : Int32) => some r8))) else (if a1 = 5 then (some (ri S0 0 12)) else (if a1 = 6 then (some (ri S0 0 13)) else (if a1 = 7 then (some (ri S0 0 17)) else (if a1 = 8 then (some (ri S0 0 0)) else (some (-102))))))))))
abbrev rmX10_howMany : Room := { frames := 4, cells := 0, slots := 0, locals := 95 }
theorem hdV_X10_howMany : yX10_howMany.cls = "WitnessWallModel" ∧ yX10_howMany.cls ≠ "java/lang/invoke/MethodHandle" ∧ yX10_howMany.cls ≠ "java/lang/invoke/VarHandle" ∧ (parseMethodDescriptor yX10_howMany.desc).map (fun d => d.parameters.length) = some 1 := by decide +kernel
set_option maxHeartbeats 4000000 in
set_option maxRecDepth 100000 in
theorem k_X10_howMany {l : Launch} {D : va_G} {ad : Nat → Nat} {cI cB : ClassId} (hij : inj 31 ad)  {S0 : SR} {a1 : Int32} {r : Int32} (hE : f_X10_howMany S0 a1 = some r) {sz : Nat} : Met l yX10_howMany (wz yX10_howMany cX10_howMany 2 (some FieldType.int)) rmX10_howMany (PG 31 ad (er ad cI cB) D (KR D cI cB) ZR [.ref (ad 0), .int a1] S0 sz) (QGi 31 ad (er ad cI cB) D r S0 sz) 0 0 (AD 31 ad sz) := by
  unfold f_X10_howMany at hE
  refine g_start (cc := cX10_howMany) (maxL := 2) (ret := (some FieldType.int)) (Qc := fun sz => QGi 31 ad (er ad cI cB) D r S0 sz) (by decide) rfl (Nat.le_of_ble_eq_true rfl) ?_
  intro p e s m args below meth c H locs ls hx hb hr hts hown hlocks hml hK hZ hP hS hl
  replace hl : lv_has ls 2 [(0, .ref (ad 0)), (1, .int a1)] := hl
  obtain ⟨QQ, hQQ⟩ : ∃ q, q = MQ below (QGi 31 ad (er ad cI cB) D r S0 s.heap.size) args s 0 0 (AD 31 ad s.heap.size) := ⟨_, rfl⟩
  rw [← hQQ]
  refine lv_iload_n hx hb dX10_howMany_0 rfl (lv_at hl 1 rfl) ?_
  by_cases hc1 : a1 = 0
  · have hE := st_t hE hc1
    refine lv_tableIn (tgt := 52) hx hb dX10_howMany_1 (by rw [hc1]; decide) (by rw [hc1]; decide) (by rw [hc1]; rfl) (by decide) ?_
    refine lv_aload_n hx hb dX10_howMany_52 rfl (lv_at hl 0 rfl) ?_
    refine r_get (v := .int (ri S0 0 1)) hx hb hts (fun w h => wz_m (inX10 w h)) hown hK hP (q_Ref (ad := ad) (cI := cI) (cB := cB)) rfl 1 (by decide) (hts _ (wz_m tw_3_157)) (fun _ h9 => h9) rfl dX10_howMany_53 ?_
    replace hE := Option.some.inj hE
    subst hQQ
    exact g_iret hx hb hr hlocks hP hS hE rfl dX10_howMany_56
  replace hE := st_f hE hc1
  by_cases hc2 : a1 = 1
  · have hE := st_t hE hc2
    refine lv_tableIn (tgt := 57) hx hb dX10_howMany_1 (by rw [hc2]; decide) (by rw [hc2]; decide) (by rw [hc2]; rfl) (by decide) ?_
    refine lv_aload_n hx hb dX10_howMany_57 rfl (lv_at hl 0 rfl) ?_
    refine r_get (v := .int (ri S0 0 5)) hx hb hts (fun w h => wz_m (inX10 w h)) hown hK hP (q_Ref (ad := ad) (cI := cI) (cB := cB)) rfl 5 (by decide) (hts _ (wz_m tw_3_161)) (fun _ h9 => h9) rfl dX10_howMany_58 ?_
    replace hE := Option.some.inj hE
    subst hQQ
    exact g_iret hx hb hr hlocks hP hS hE rfl dX10_howMany_61
  replace hE := st_f hE hc2
  by_cases hc3 : a1 = 2
  · have hE := st_t hE hc3
    refine lv_tableIn (tgt := 62) hx hb dX10_howMany_1 (by rw [hc3]; decide) (by rw [hc3]; decide) (by rw [hc3]; rfl) (by decide) ?_
    refine lv_aload_n hx hb dX10_howMany_62 rfl (lv_at hl 0 rfl) ?_
    refine r_get (v := .int (ri S0 0 8)) hx hb hts (fun w h => wz_m (inX10 w h)) hown hK hP (q_Ref (ad := ad) (cI := cI) (cB := cB)) rfl 8 (by decide) (hts _ (wz_m tw_3_164)) (fun _ h9 => h9) rfl dX10_howMany_63 ?_
    replace hE := Option.some.inj hE
    subst hQQ
    exact g_iret hx hb hr hlocks hP hS hE rfl dX10_howMany_66
  replace hE := st_f hE hc3
  by_cases hc4 : a1 = 3
  · have hE := st_t hE hc4
    refine lv_tableIn (tgt := 67) hx hb dX10_howMany_1 (by rw [hc4]; decide) (by rw [hc4]; decide) (by rw [hc4]; rfl) (by decide) ?_
    refine lv_aload_n hx hb dX10_howMany_67 rfl (lv_at hl 0 rfl) ?_
    obtain ⟨r5, hCr5, hE⟩ := st_bo hE
    refine g_calli (va_runV (As := []) (rest := []) ⟨hx, hb, hml, hown, hts⟩ (k_X10_sightsOfAll hij hCr5) (cwV 0 hts (wz_V tw_5_102 tw_5_104 tp_40 tw_1_11 tw_5_105) rfl rfl rfl hdV_X10_sightsOfAll ⟨Nat.le_of_ble_eq_true rfl, Nat.le_of_ble_eq_true rfl⟩) (g_preV KR_st ZR_st hK hZ hP hS hK.1 ((q_Ref (ad := ad) (cI := cI) (cB := cB))).1 (er_o (q_Ref (ad := ad) (cI := cI) (cB := cB))) rfl) rfl rfl hl.1 rfl (lv_room (Nat.le_of_ble_eq_true rfl)) dX10_howMany_68 ⟨Nat.zero_le _, Nat.zero_le _⟩) hS (fun H locs hP hS => ?_)
    replace hE := Option.some.inj hE
    subst hQQ
    exact g_iret hx hb hr hlocks hP hS hE rfl dX10_howMany_71
  replace hE := st_f hE hc4
  by_cases hc6 : a1 = 4
  · have hE := st_t hE hc6
    refine lv_tableIn (tgt := 72) hx hb dX10_howMany_1 (by rw [hc6]; decide) (by rw [hc6]; decide) (by rw [hc6]; rfl) (by decide) ?_
    refine lv_aload_n hx hb dX10_howMany_72 rfl (lv_at hl 0 rfl) ?_
    refine lv_aload_n hx hb dX10_howMany_73 rfl (lv_at hl 0 rfl) ?_
    obtain ⟨r7, hCr7, hE⟩ := st_bo hE
    refine g_calli (va_runV (As := []) (rest := [.ref (ad 0)]) ⟨hx, hb, hml, hown, hts⟩ (k_X10_everybody hij hCr7) (cwV 0 hts (wz_V tw_4_178 tw_4_180 tp_19 tw_1_11 tw_4_181) rfl rfl rfl hdV_X10_everybody ⟨Nat.le_of_ble_eq_true rfl, Nat.le_of_ble_eq_true rfl⟩) (g_preV KR_st ZR_st hK hZ hP hS hK.1 ((q_Ref (ad := ad) (cI := cI) (cB := cB))).1 (er_o (q_Ref (ad := ad) (cI := cI) (cB := cB))) rfl) rfl rfl hl.1 rfl (lv_room (Nat.le_of_ble_eq_true rfl)) dX10_howMany_74 ⟨Nat.zero_le _, Nat.zero_le _⟩) hS (fun H locs hP hS => ?_)
    obtain ⟨r8, hCr8, hE⟩ := st_bo hE
    refine g_calli (va_runV (As := [.int r7]) (rest := []) ⟨hx, hb, hml, hown, hts⟩ (k_X10_clashesAmong hij hCr8) (cwV 1 hts (wz_V tw_5_31 tw_5_33 tp_32 tw_1_11 tw_5_34) rfl rfl rfl hdV_X10_clashesAmong ⟨Nat.le_of_ble_eq_true rfl, Nat.le_of_ble_eq_true rfl⟩) (g_preV KR_st ZR_st hK hZ hP hS hK.1 ((q_Ref (ad := ad) (cI := cI) (cB := cB))).1 (er_o (q_Ref (ad := ad) (cI := cI) (cB := cB))) rfl) rfl rfl hl.1 rfl (lv_room (Nat.le_of_ble_eq_true rfl)) dX10_howMany_77 ⟨Nat.zero_le _, Nat.zero_le _⟩) hS (fun H locs hP hS => ?_)
    replace hE := Option.some.inj hE
    subst hQQ
    exact g_iret hx hb hr hlocks hP hS hE rfl dX10_howMany_80
  replace hE := st_f hE hc6
  by_cases hc9 : a1 = 5
  · have hE := st_t hE hc9
    refine lv_tableIn (tgt := 81) hx hb dX10_howMany_1 (by rw [hc9]; decide) (by rw [hc9]; decide) (by rw [hc9]; rfl) (by decide) ?_
    refine lv_aload_n hx hb dX10_howMany_81 rfl (lv_at hl 0 rfl) ?_
    refine r_get (v := .int (ri S0 0 12)) hx hb hts (fun w h => wz_m (inX10 w h)) hown hK hP (q_Ref (ad := ad) (cI := cI) (cB := cB)) rfl 12 (by decide) (hts _ (wz_m tw_3_168)) (fun _ h9 => h9) rfl dX10_howMany_82 ?_
    replace hE := Option.some.inj hE
    subst hQQ
    exact g_iret hx hb hr hlocks hP hS hE rfl dX10_howMany_85
  replace hE := st_f hE hc9
  by_cases hc10 : a1 = 6
  · have hE := st_t hE hc10
    refine lv_tableIn (tgt := 86) hx hb dX10_howMany_1 (by rw [hc10]; decide) (by rw [hc10]; decide) (by rw [hc10]; rfl) (by decide) ?_
    refine lv_aload_n hx hb dX10_howMany_86 rfl (lv_at hl 0 rfl) ?_
    refine r_get (v := .int (ri S0 0 13)) hx hb hts (fun w h => wz_m (inX10 w h)) hown hK hP (q_Ref (ad := ad) (cI := cI) (cB := cB)) rfl 13 (by decide) (hts _ (wz_m tw_3_169)) (fun _ h9 => h9) rfl dX10_howMany_87 ?_
    replace hE := Option.some.inj hE
    subst hQQ
    exact g_iret hx hb hr hlocks hP hS hE rfl dX10_howMany_90
  replace hE := st_f hE hc10
  by_cases hc11 : a1 = 7
  · have hE := st_t hE hc11
    refine lv_tableIn (tgt := 91) hx hb dX10_howMany_1 (by rw [hc11]; decide) (by rw [hc11]; decide) (by rw [hc11]; rfl) (by decide) ?_
    refine lv_aload_n hx hb dX10_howMany_91 rfl (lv_at hl 0 rfl) ?_
    refine r_get (v := .int (ri S0 0 17)) hx hb hts (fun w h => wz_m (inX10 w h)) hown hK hP (q_Ref (ad := ad) (cI := cI) (cB := cB)) rfl 17 (by decide) (hts _ (wz_m tw_3_173)) (fun _ h9 => h9) rfl dX10_howMany_92 ?_
    replace hE := Option.some.inj hE
    subst hQQ
    exact g_iret hx hb hr hlocks hP hS hE rfl dX10_howMany_95
  replace hE := st_f hE hc11
  by_cases hc12 : a1 = 8
  · have hE := st_t hE hc12
    refine lv_tableIn (tgt := 96) hx hb dX10_howMany_1 (by rw [hc12]; decide) (by rw [hc12]; decide) (by rw [hc12]; rfl) (by decide) ?_
    refine lv_aload_n hx hb dX10_howMany_96 rfl (lv_at hl 0 rfl) ?_
    refine r_get (v := .int (ri S0 0 0)) hx hb hts (fun w h => wz_m (inX10 w h)) hown hK hP (q_Ref (ad := ad) (cI := cI) (cB := cB)) rfl 0 (by decide) (hts _ (wz_m tw_3_156)) (fun _ h9 => h9) rfl dX10_howMany_97 ?_
    replace hE := Option.some.inj hE
    subst hQQ
    exact g_iret hx hb hr hlocks hP hS hE rfl dX10_howMany_100
  replace hE := st_f hE hc12
  have nhc1 := lv_neT hc1 (show (0 : Int32).toInt = 0 from by decide)
  have nhc2 := lv_neT hc2 (show (1 : Int32).toInt = 1 from by decide)
  have nhc3 := lv_neT hc3 (show (2 : Int32).toInt = 2 from by decide)
  have nhc4 := lv_neT hc4 (show (3 : Int32).toInt = 3 from by decide)
  have nhc6 := lv_neT hc6 (show (4 : Int32).toInt = 4 from by decide)
  have nhc9 := lv_neT hc9 (show (5 : Int32).toInt = 5 from by decide)
  have nhc10 := lv_neT hc10 (show (6 : Int32).toInt = 6 from by decide)
  have nhc11 := lv_neT hc11 (show (7 : Int32).toInt = 7 from by decide)
  have nhc12 := lv_neT hc12 (show (8 : Int32).toInt = 8 from by decide)
  refine lv_tableOut (tgt := 101) hx hb dX10_howMany_1 (by omega) (by decide) ?_
  refine lv_bipush (v := (-102)) hx hb dX10_howMany_101 (by decide) ?_
  replace hE := Option.some.inj hE
  subst hQQ
  exact g_iret hx hb hr hlocks hP hS hE rfl dX10_howMany_103
def f_X10_count (S0 : SR) (a1 : Int32) : Option (Int32) :=
  bo (f_X10_howMany S0 a1) (fun (r1 : Int32) => some r1)
abbrev rmX10_count : Room := { frames := 5, cells := 0, slots := 0, locals := 116 }
theorem hdV_X10_count : yX10_count.cls = "WitnessWallModel" ∧ yX10_count.cls ≠ "java/lang/invoke/MethodHandle" ∧ yX10_count.cls ≠ "java/lang/invoke/VarHandle" ∧ (parseMethodDescriptor yX10_count.desc).map (fun d => d.parameters.length) = some 1 := by decide +kernel
set_option maxHeartbeats 4000000 in
set_option maxRecDepth 100000 in
theorem k_X10_count {l : Launch} {D : va_G} {ad : Nat → Nat} {cI cB : ClassId} (hij : inj 31 ad)  {S0 : SR} {a1 : Int32} {r : Int32} (hE : f_X10_count S0 a1 = some r) {sz : Nat} : Met l yX10_count (wz yX10_count cX10_count 2 (some FieldType.int)) rmX10_count (PG 31 ad (er ad cI cB) D (KR D cI cB) ZR [.ref (ad 0), .int a1] S0 sz) (QGi 31 ad (er ad cI cB) D r S0 sz) 0 0 (AD 31 ad sz) := by
  unfold f_X10_count at hE
  refine g_start (cc := cX10_count) (maxL := 2) (ret := (some FieldType.int)) (Qc := fun sz => QGi 31 ad (er ad cI cB) D r S0 sz) (by decide) rfl (Nat.le_of_ble_eq_true rfl) ?_
  intro p e s m args below meth c H locs ls hx hb hr hts hown hlocks hml hK hZ hP hS hl
  replace hl : lv_has ls 2 [(0, .ref (ad 0)), (1, .int a1)] := hl
  obtain ⟨QQ, hQQ⟩ : ∃ q, q = MQ below (QGi 31 ad (er ad cI cB) D r S0 s.heap.size) args s 0 0 (AD 31 ad s.heap.size) := ⟨_, rfl⟩
  rw [← hQQ]
  refine lv_aload_n hx hb dX10_count_0 rfl (lv_at hl 0 rfl) ?_
  refine lv_iload_n hx hb dX10_count_1 rfl (lv_at hl 1 rfl) ?_
  obtain ⟨r1, hCr1, hE⟩ := st_bo hE
  refine g_calli (va_runV (As := [.int a1]) (rest := []) ⟨hx, hb, hml, hown, hts⟩ (k_X10_howMany hij hCr1) (cwV 1 hts (wz_V tw_5_98 tw_5_100 tp_39 tw_1_11 tw_5_101) rfl rfl rfl hdV_X10_howMany ⟨Nat.le_of_ble_eq_true rfl, Nat.le_of_ble_eq_true rfl⟩) (g_preV KR_st ZR_st hK hZ hP hS hK.1 ((q_Ref (ad := ad) (cI := cI) (cB := cB))).1 (er_o (q_Ref (ad := ad) (cI := cI) (cB := cB))) rfl) rfl rfl hl.1 rfl (lv_room (Nat.le_of_ble_eq_true rfl)) dX10_count_2 ⟨Nat.zero_le _, Nat.zero_le _⟩) hS (fun H locs hP hS => ?_)
  replace hE := Option.some.inj hE
  subst hQQ
  exact g_iret hx hb hr hlocks hP hS hE rfl dX10_count_5
def f_X10_witnessNow (S0 : SR) (a1 : Int32) (a2 : Int32) : Option (Int32) :=
  if a2 = 0 then (gd (inb a1 5) (some (ri S0 1 (a1.toNatClampNeg)))) else (if a2 = 1 then (gd (inb a1 5) (some (ri S0 3 (a1.toNatClampNeg)))) else (if a2 = 2 then (gd (inb a1 5) (if (ri S0 3 (a1.toNatClampNeg)) ≤ (a2 - 2) then (some (-1)) else (gd (inb (((4 * a1) + a2) - 2) 20) (some (ri S0 2 ((((4 * a1) + a2) - 2).toNatClampNeg)))))) else (if a2 = 3 then (gd (inb a1 5) (if (ri S0 3 (a1.toNatClampNeg)) ≤ (a2 - 2) then (some (-1)) else (gd (inb (((4 * a1) + a2) - 2) 20) (some (ri S0 2 ((((4 * a1) + a2) - 2).toNatClampNeg)))))) else (if a2 = 4 then (gd (inb a1 5) (if (ri S0 3 (a1.toNatClampNeg)) ≤ (a2 - 2) then (some (-1)) else (gd (inb (((4 * a1) + a2) - 2) 20) (some (ri S0 2 ((((4 * a1) + a2) - 2).toNatClampNeg)))))) else (if a2 = 5 then (bo (f_X10_sortsOf S0 a1) (fun (r18 : Int32) => some r18)) else (if a2 = 6 then (bo (f_X10_askOf S0 a1) (fun (r20 : Int32) => some r20)) else (if a2 = 7 then (bo (f_X10_clashesOf S0 a1) (fun (r22 : Int32) => some r22)) else (gd (inb a1 5) (if (ri S0 3 (a1.toNatClampNeg)) ≤ (a2 - 2) then (some (-1)) else (gd (inb (((4 * a1) + a2) - 2) 20) (some (ri S0 2 ((((4 * a1) + a2) - 2).toNatClampNeg)))))))))))))
abbrev rmX10_witnessNow : Room := { frames := 4, cells := 0, slots := 0, locals := 94 }
theorem hdV_X10_witnessNow : yX10_witnessNow.cls = "WitnessWallModel" ∧ yX10_witnessNow.cls ≠ "java/lang/invoke/MethodHandle" ∧ yX10_witnessNow.cls ≠ "java/lang/invoke/VarHandle" ∧ (parseMethodDescriptor yX10_witnessNow.desc).map (fun d => d.parameters.length) = some 2 := by decide +kernel
set_option maxHeartbeats 4000000 in
set_option maxRecDepth 100000 in
theorem k_X10_witnessNow {l : Launch} {D : va_G} {ad : Nat → Nat} {cI cB : ClassId} (hij : inj 31 ad)  {S0 : SR} {a1 : Int32} {a2 : Int32} {r : Int32} (hE : f_X10_witnessNow S0 a1 a2 = some r) {sz : Nat} : Met l yX10_witnessNow (wz yX10_witnessNow cX10_witnessNow 3 (some FieldType.int)) rmX10_witnessNow (PG 31 ad (er ad cI cB) D (KR D cI cB) ZR [.ref (ad 0), .int a1, .int a2] S0 sz) (QGi 31 ad (er ad cI cB) D r S0 sz) 0 0 (AD 31 ad sz) := by
  unfold f_X10_witnessNow at hE
  refine g_start (cc := cX10_witnessNow) (maxL := 3) (ret := (some FieldType.int)) (Qc := fun sz => QGi 31 ad (er ad cI cB) D r S0 sz) (by decide) rfl (Nat.le_of_ble_eq_true rfl) ?_
  intro p e s m args below meth c H locs ls hx hb hr hts hown hlocks hml hK hZ hP hS hl
  replace hl : lv_has ls 3 [(0, .ref (ad 0)), (1, .int a1), (2, .int a2)] := hl
  obtain ⟨QQ, hQQ⟩ : ∃ q, q = MQ below (QGi 31 ad (er ad cI cB) D r S0 s.heap.size) args s 0 0 (AD 31 ad s.heap.size) := ⟨_, rfl⟩
  rw [← hQQ]
  refine lv_iload_n hx hb dX10_witnessNow_0 rfl (lv_at hl 2 rfl) ?_
  by_cases hc1 : a2 = 0
  · have hE := st_t hE hc1
    refine lv_tableIn (tgt := 48) hx hb dX10_witnessNow_1 (by rw [hc1]; decide) (by rw [hc1]; decide) (by rw [hc1]; rfl) (by decide) ?_
    refine lv_aload_n hx hb dX10_witnessNow_48 rfl (lv_at hl 0 rfl) ?_
    refine r_get (v := .ref (ad 1)) hx hb hts (fun w h => wz_m (inX10 w h)) hown hK hP (q_Ref (ad := ad) (cI := cI) (cB := cB)) rfl 2 (by decide) (hts _ (wz_m tw_3_158)) (fun _ h9 => h9) rfl dX10_witnessNow_49 ?_
    refine lv_iload_n hx hb dX10_witnessNow_52 rfl (lv_at hl 1 rfl) ?_
    obtain ⟨hi2, hE⟩ := st_gd hE
    refine r_iald hx hb hK hP qr_1 hi2 dX10_witnessNow_53 ?_
    replace hE := Option.some.inj hE
    subst hQQ
    exact g_iret hx hb hr hlocks hP hS hE rfl dX10_witnessNow_54
  replace hE := st_f hE hc1
  by_cases hc3 : a2 = 1
  · have hE := st_t hE hc3
    refine lv_tableIn (tgt := 55) hx hb dX10_witnessNow_1 (by rw [hc3]; decide) (by rw [hc3]; decide) (by rw [hc3]; rfl) (by decide) ?_
    refine lv_aload_n hx hb dX10_witnessNow_55 rfl (lv_at hl 0 rfl) ?_
    refine r_get (v := .ref (ad 3)) hx hb hts (fun w h => wz_m (inX10 w h)) hown hK hP (q_Ref (ad := ad) (cI := cI) (cB := cB)) rfl 4 (by decide) (hts _ (wz_m tw_3_160)) (fun _ h9 => h9) rfl dX10_witnessNow_56 ?_
    refine lv_iload_n hx hb dX10_witnessNow_59 rfl (lv_at hl 1 rfl) ?_
    obtain ⟨hi4, hE⟩ := st_gd hE
    refine r_iald hx hb hK hP qr_3 hi4 dX10_witnessNow_60 ?_
    replace hE := Option.some.inj hE
    subst hQQ
    exact g_iret hx hb hr hlocks hP hS hE rfl dX10_witnessNow_61
  replace hE := st_f hE hc3
  by_cases hc5 : a2 = 2
  · have hE := st_t hE hc5
    refine lv_tableIn (tgt := 80) hx hb dX10_witnessNow_1 (by rw [hc5]; decide) (by rw [hc5]; decide) (by rw [hc5]; rfl) (by decide) ?_
    refine lv_iload_n hx hb dX10_witnessNow_80 rfl (lv_at hl 2 rfl) ?_
    refine lv_iconst (v := 2) hx hb dX10_witnessNow_81 (by decide) ?_
    refine lv_isub hx hb dX10_witnessNow_82 ?_
    refine lv_aload_n hx hb dX10_witnessNow_83 rfl (lv_at hl 0 rfl) ?_
    refine r_get (v := .ref (ad 3)) hx hb hts (fun w h => wz_m (inX10 w h)) hown hK hP (q_Ref (ad := ad) (cI := cI) (cB := cB)) rfl 4 (by decide) (hts _ (wz_m tw_3_160)) (fun _ h9 => h9) rfl dX10_witnessNow_84 ?_
    refine lv_iload_n hx hb dX10_witnessNow_87 rfl (lv_at hl 1 rfl) ?_
    obtain ⟨hi6, hE⟩ := st_gd hE
    refine r_iald hx hb hK hP qr_3 hi6 dX10_witnessNow_88 ?_
    refine lv_icmp_ge (tgt := 107) hx hb dX10_witnessNow_89 (by decide) (fun hc7 => ?_) (fun hc7 => ?_)
    · have hE := st_t hE hc7
      refine lv_iconst (v := (-1)) hx hb dX10_witnessNow_107 (by decide) ?_
      replace hE := Option.some.inj hE
      subst hQQ
      exact g_iret hx hb hr hlocks hP hS hE rfl dX10_witnessNow_108
    · have hE := st_f hE hc7
      refine lv_aload_n hx hb dX10_witnessNow_92 rfl (lv_at hl 0 rfl) ?_
      refine r_get (v := .ref (ad 2)) hx hb hts (fun w h => wz_m (inX10 w h)) hown hK hP (q_Ref (ad := ad) (cI := cI) (cB := cB)) rfl 3 (by decide) (hts _ (wz_m tw_3_159)) (fun _ h9 => h9) rfl dX10_witnessNow_93 ?_
      refine lv_iconst (v := 4) hx hb dX10_witnessNow_96 (by decide) ?_
      refine lv_iload_n hx hb dX10_witnessNow_97 rfl (lv_at hl 1 rfl) ?_
      refine lv_imul hx hb dX10_witnessNow_98 ?_
      refine lv_iload_n hx hb dX10_witnessNow_99 rfl (lv_at hl 2 rfl) ?_
      refine lv_iadd hx hb dX10_witnessNow_100 ?_
      refine lv_iconst (v := 2) hx hb dX10_witnessNow_101 (by decide) ?_
      refine lv_isub hx hb dX10_witnessNow_102 ?_
      obtain ⟨hi8, hE⟩ := st_gd hE
      refine r_iald hx hb hK hP qr_2 hi8 dX10_witnessNow_103 ?_
      refine lv_goto (tgt := 108) hx hb dX10_witnessNow_104 (by decide) ?_
      replace hE := Option.some.inj hE
      subst hQQ
      exact g_iret hx hb hr hlocks hP hS hE rfl dX10_witnessNow_108
  replace hE := st_f hE hc5
  by_cases hc9 : a2 = 3
  · have hE := st_t hE hc9
    refine lv_tableIn (tgt := 80) hx hb dX10_witnessNow_1 (by rw [hc9]; decide) (by rw [hc9]; decide) (by rw [hc9]; rfl) (by decide) ?_
    refine lv_iload_n hx hb dX10_witnessNow_80 rfl (lv_at hl 2 rfl) ?_
    refine lv_iconst (v := 2) hx hb dX10_witnessNow_81 (by decide) ?_
    refine lv_isub hx hb dX10_witnessNow_82 ?_
    refine lv_aload_n hx hb dX10_witnessNow_83 rfl (lv_at hl 0 rfl) ?_
    refine r_get (v := .ref (ad 3)) hx hb hts (fun w h => wz_m (inX10 w h)) hown hK hP (q_Ref (ad := ad) (cI := cI) (cB := cB)) rfl 4 (by decide) (hts _ (wz_m tw_3_160)) (fun _ h9 => h9) rfl dX10_witnessNow_84 ?_
    refine lv_iload_n hx hb dX10_witnessNow_87 rfl (lv_at hl 1 rfl) ?_
    obtain ⟨hi10, hE⟩ := st_gd hE
    refine r_iald hx hb hK hP qr_3 hi10 dX10_witnessNow_88 ?_
    refine lv_icmp_ge (tgt := 107) hx hb dX10_witnessNow_89 (by decide) (fun hc11 => ?_) (fun hc11 => ?_)
    · have hE := st_t hE hc11
      refine lv_iconst (v := (-1)) hx hb dX10_witnessNow_107 (by decide) ?_
      replace hE := Option.some.inj hE
      subst hQQ
      exact g_iret hx hb hr hlocks hP hS hE rfl dX10_witnessNow_108
    · have hE := st_f hE hc11
      refine lv_aload_n hx hb dX10_witnessNow_92 rfl (lv_at hl 0 rfl) ?_
      refine r_get (v := .ref (ad 2)) hx hb hts (fun w h => wz_m (inX10 w h)) hown hK hP (q_Ref (ad := ad) (cI := cI) (cB := cB)) rfl 3 (by decide) (hts _ (wz_m tw_3_159)) (fun _ h9 => h9) rfl dX10_witnessNow_93 ?_
      refine lv_iconst (v := 4) hx hb dX10_witnessNow_96 (by decide) ?_
      refine lv_iload_n hx hb dX10_witnessNow_97 rfl (lv_at hl 1 rfl) ?_
      refine lv_imul hx hb dX10_witnessNow_98 ?_
      refine lv_iload_n hx hb dX10_witnessNow_99 rfl (lv_at hl 2 rfl) ?_
      refine lv_iadd hx hb dX10_witnessNow_100 ?_
      refine lv_iconst (v := 2) hx hb dX10_witnessNow_101 (by decide) ?_
      refine lv_isub hx hb dX10_witnessNow_102 ?_
      obtain ⟨hi12, hE⟩ := st_gd hE
      refine r_iald hx hb hK hP qr_2 hi12 dX10_witnessNow_103 ?_
      refine lv_goto (tgt := 108) hx hb dX10_witnessNow_104 (by decide) ?_
      replace hE := Option.some.inj hE
      subst hQQ
      exact g_iret hx hb hr hlocks hP hS hE rfl dX10_witnessNow_108
  replace hE := st_f hE hc9
  by_cases hc13 : a2 = 4
  · have hE := st_t hE hc13
    refine lv_tableIn (tgt := 80) hx hb dX10_witnessNow_1 (by rw [hc13]; decide) (by rw [hc13]; decide) (by rw [hc13]; rfl) (by decide) ?_
    refine lv_iload_n hx hb dX10_witnessNow_80 rfl (lv_at hl 2 rfl) ?_
    refine lv_iconst (v := 2) hx hb dX10_witnessNow_81 (by decide) ?_
    refine lv_isub hx hb dX10_witnessNow_82 ?_
    refine lv_aload_n hx hb dX10_witnessNow_83 rfl (lv_at hl 0 rfl) ?_
    refine r_get (v := .ref (ad 3)) hx hb hts (fun w h => wz_m (inX10 w h)) hown hK hP (q_Ref (ad := ad) (cI := cI) (cB := cB)) rfl 4 (by decide) (hts _ (wz_m tw_3_160)) (fun _ h9 => h9) rfl dX10_witnessNow_84 ?_
    refine lv_iload_n hx hb dX10_witnessNow_87 rfl (lv_at hl 1 rfl) ?_
    obtain ⟨hi14, hE⟩ := st_gd hE
    refine r_iald hx hb hK hP qr_3 hi14 dX10_witnessNow_88 ?_
    refine lv_icmp_ge (tgt := 107) hx hb dX10_witnessNow_89 (by decide) (fun hc15 => ?_) (fun hc15 => ?_)
    · have hE := st_t hE hc15
      refine lv_iconst (v := (-1)) hx hb dX10_witnessNow_107 (by decide) ?_
      replace hE := Option.some.inj hE
      subst hQQ
      exact g_iret hx hb hr hlocks hP hS hE rfl dX10_witnessNow_108
    · have hE := st_f hE hc15
      refine lv_aload_n hx hb dX10_witnessNow_92 rfl (lv_at hl 0 rfl) ?_
      refine r_get (v := .ref (ad 2)) hx hb hts (fun w h => wz_m (inX10 w h)) hown hK hP (q_Ref (ad := ad) (cI := cI) (cB := cB)) rfl 3 (by decide) (hts _ (wz_m tw_3_159)) (fun _ h9 => h9) rfl dX10_witnessNow_93 ?_
      refine lv_iconst (v := 4) hx hb dX10_witnessNow_96 (by decide) ?_
      refine lv_iload_n hx hb dX10_witnessNow_97 rfl (lv_at hl 1 rfl) ?_
      refine lv_imul hx hb dX10_witnessNow_98 ?_
      refine lv_iload_n hx hb dX10_witnessNow_99 rfl (lv_at hl 2 rfl) ?_
      refine lv_iadd hx hb dX10_witnessNow_100 ?_
      refine lv_iconst (v := 2) hx hb dX10_witnessNow_101 (by decide) ?_
      refine lv_isub hx hb dX10_witnessNow_102 ?_
      obtain ⟨hi16, hE⟩ := st_gd hE
      refine r_iald hx hb hK hP qr_2 hi16 dX10_witnessNow_103 ?_
      refine lv_goto (tgt := 108) hx hb dX10_witnessNow_104 (by decide) ?_
      replace hE := Option.some.inj hE
      subst hQQ
      exact g_iret hx hb hr hlocks hP hS hE rfl dX10_witnessNow_108
  replace hE := st_f hE hc13
  by_cases hc17 : a2 = 5
  · have hE := st_t hE hc17
    refine lv_tableIn (tgt := 62) hx hb dX10_witnessNow_1 (by rw [hc17]; decide) (by rw [hc17]; decide) (by rw [hc17]; rfl) (by decide) ?_
    refine lv_aload_n hx hb dX10_witnessNow_62 rfl (lv_at hl 0 rfl) ?_
    refine lv_iload_n hx hb dX10_witnessNow_63 rfl (lv_at hl 1 rfl) ?_
    obtain ⟨r18, hCr18, hE⟩ := st_bo hE
    refine g_calli (va_runV (As := [.int a1]) (rest := []) ⟨hx, hb, hml, hown, hts⟩ (k_X10_sortsOf hij hCr18) (cwV 1 hts (wz_V tw_4_132 tw_4_134 tp_13 tw_1_11 tw_4_135) rfl rfl rfl hdV_X10_sortsOf ⟨Nat.le_of_ble_eq_true rfl, Nat.le_of_ble_eq_true rfl⟩) (g_preV KR_st ZR_st hK hZ hP hS hK.1 ((q_Ref (ad := ad) (cI := cI) (cB := cB))).1 (er_o (q_Ref (ad := ad) (cI := cI) (cB := cB))) rfl) rfl rfl hl.1 rfl (lv_room (Nat.le_of_ble_eq_true rfl)) dX10_witnessNow_64 ⟨Nat.zero_le _, Nat.zero_le _⟩) hS (fun H locs hP hS => ?_)
    replace hE := Option.some.inj hE
    subst hQQ
    exact g_iret hx hb hr hlocks hP hS hE rfl dX10_witnessNow_67
  replace hE := st_f hE hc17
  by_cases hc19 : a2 = 6
  · have hE := st_t hE hc19
    refine lv_tableIn (tgt := 68) hx hb dX10_witnessNow_1 (by rw [hc19]; decide) (by rw [hc19]; decide) (by rw [hc19]; rfl) (by decide) ?_
    refine lv_aload_n hx hb dX10_witnessNow_68 rfl (lv_at hl 0 rfl) ?_
    refine lv_iload_n hx hb dX10_witnessNow_69 rfl (lv_at hl 1 rfl) ?_
    obtain ⟨r20, hCr20, hE⟩ := st_bo hE
    refine g_calli (va_runV (As := [.int a1]) (rest := []) ⟨hx, hb, hml, hown, hts⟩ (k_X10_askOf hij hCr20) (cwV 1 hts (wz_V tw_4_139 tw_4_141 tp_14 tw_1_11 tw_4_142) rfl rfl rfl hdV_X10_askOf ⟨Nat.le_of_ble_eq_true rfl, Nat.le_of_ble_eq_true rfl⟩) (g_preV KR_st ZR_st hK hZ hP hS hK.1 ((q_Ref (ad := ad) (cI := cI) (cB := cB))).1 (er_o (q_Ref (ad := ad) (cI := cI) (cB := cB))) rfl) rfl rfl hl.1 rfl (lv_room (Nat.le_of_ble_eq_true rfl)) dX10_witnessNow_70 ⟨Nat.zero_le _, Nat.zero_le _⟩) hS (fun H locs hP hS => ?_)
    replace hE := Option.some.inj hE
    subst hQQ
    exact g_iret hx hb hr hlocks hP hS hE rfl dX10_witnessNow_73
  replace hE := st_f hE hc19
  by_cases hc21 : a2 = 7
  · have hE := st_t hE hc21
    refine lv_tableIn (tgt := 74) hx hb dX10_witnessNow_1 (by rw [hc21]; decide) (by rw [hc21]; decide) (by rw [hc21]; rfl) (by decide) ?_
    refine lv_aload_n hx hb dX10_witnessNow_74 rfl (lv_at hl 0 rfl) ?_
    refine lv_iload_n hx hb dX10_witnessNow_75 rfl (lv_at hl 1 rfl) ?_
    obtain ⟨r22, hCr22, hE⟩ := st_bo hE
    refine g_calli (va_runV (As := [.int a1]) (rest := []) ⟨hx, hb, hml, hown, hts⟩ (k_X10_clashesOf hij hCr22) (cwV 1 hts (wz_V tw_4_150 tw_4_152 tp_15 tw_1_11 tw_4_153) rfl rfl rfl hdV_X10_clashesOf ⟨Nat.le_of_ble_eq_true rfl, Nat.le_of_ble_eq_true rfl⟩) (g_preV KR_st ZR_st hK hZ hP hS hK.1 ((q_Ref (ad := ad) (cI := cI) (cB := cB))).1 (er_o (q_Ref (ad := ad) (cI := cI) (cB := cB))) rfl) rfl rfl hl.1 rfl (lv_room (Nat.le_of_ble_eq_true rfl)) dX10_witnessNow_76 ⟨Nat.zero_le _, Nat.zero_le _⟩) hS (fun H locs hP hS => ?_)
    replace hE := Option.some.inj hE
    subst hQQ
    exact g_iret hx hb hr hlocks hP hS hE rfl dX10_witnessNow_79
  replace hE := st_f hE hc21
  have nhc1 := lv_neT hc1 (show (0 : Int32).toInt = 0 from by decide)
  have nhc3 := lv_neT hc3 (show (1 : Int32).toInt = 1 from by decide)
  have nhc5 := lv_neT hc5 (show (2 : Int32).toInt = 2 from by decide)
  have nhc9 := lv_neT hc9 (show (3 : Int32).toInt = 3 from by decide)
  have nhc13 := lv_neT hc13 (show (4 : Int32).toInt = 4 from by decide)
  have nhc17 := lv_neT hc17 (show (5 : Int32).toInt = 5 from by decide)
  have nhc19 := lv_neT hc19 (show (6 : Int32).toInt = 6 from by decide)
  have nhc21 := lv_neT hc21 (show (7 : Int32).toInt = 7 from by decide)
  refine lv_tableOut (tgt := 80) hx hb dX10_witnessNow_1 (by omega) (by decide) ?_
  refine lv_iload_n hx hb dX10_witnessNow_80 rfl (lv_at hl 2 rfl) ?_
  refine lv_iconst (v := 2) hx hb dX10_witnessNow_81 (by decide) ?_
  refine lv_isub hx hb dX10_witnessNow_82 ?_
  refine lv_aload_n hx hb dX10_witnessNow_83 rfl (lv_at hl 0 rfl) ?_
  refine r_get (v := .ref (ad 3)) hx hb hts (fun w h => wz_m (inX10 w h)) hown hK hP (q_Ref (ad := ad) (cI := cI) (cB := cB)) rfl 4 (by decide) (hts _ (wz_m tw_3_160)) (fun _ h9 => h9) rfl dX10_witnessNow_84 ?_
  refine lv_iload_n hx hb dX10_witnessNow_87 rfl (lv_at hl 1 rfl) ?_
  obtain ⟨hi23, hE⟩ := st_gd hE
  refine r_iald hx hb hK hP qr_3 hi23 dX10_witnessNow_88 ?_
  refine lv_icmp_ge (tgt := 107) hx hb dX10_witnessNow_89 (by decide) (fun hc24 => ?_) (fun hc24 => ?_)
  · have hE := st_t hE hc24
    refine lv_iconst (v := (-1)) hx hb dX10_witnessNow_107 (by decide) ?_
    replace hE := Option.some.inj hE
    subst hQQ
    exact g_iret hx hb hr hlocks hP hS hE rfl dX10_witnessNow_108
  · have hE := st_f hE hc24
    refine lv_aload_n hx hb dX10_witnessNow_92 rfl (lv_at hl 0 rfl) ?_
    refine r_get (v := .ref (ad 2)) hx hb hts (fun w h => wz_m (inX10 w h)) hown hK hP (q_Ref (ad := ad) (cI := cI) (cB := cB)) rfl 3 (by decide) (hts _ (wz_m tw_3_159)) (fun _ h9 => h9) rfl dX10_witnessNow_93 ?_
    refine lv_iconst (v := 4) hx hb dX10_witnessNow_96 (by decide) ?_
    refine lv_iload_n hx hb dX10_witnessNow_97 rfl (lv_at hl 1 rfl) ?_
    refine lv_imul hx hb dX10_witnessNow_98 ?_
    refine lv_iload_n hx hb dX10_witnessNow_99 rfl (lv_at hl 2 rfl) ?_
    refine lv_iadd hx hb dX10_witnessNow_100 ?_
    refine lv_iconst (v := 2) hx hb dX10_witnessNow_101 (by decide) ?_
    refine lv_isub hx hb dX10_witnessNow_102 ?_
    obtain ⟨hi25, hE⟩ := st_gd hE
    refine r_iald hx hb hK hP qr_2 hi25 dX10_witnessNow_103 ?_
    refine lv_goto (tgt := 108) hx hb dX10_witnessNow_104 (by decide) ?_
    replace hE := Option.some.inj hE
    subst hQQ
    exact g_iret hx hb hr hlocks hP hS hE rfl dX10_witnessNow_108

def b_X10_askOf_31 (r1 : Int32) (c7 : Int32) (c13 : Int32) (c14 : Int32) : Option ((Int32 × Int32) ⊕ (Int32)) :=
  if 4 < c14 then (some (.inr c13)) else (bo (f_X10_isIn r1 c14) (fun (r16 : Int32) => if r16 = 0 then (bv (c13 + 0) (fun (v18 : Int32) => bv (c14 + 1) (fun (v19 : Int32) => some (.inl (v18, v19))))) else (bo (f_X10_could c14 c7) (fun (r20 : Int32) => if r20 = 0 then (bv (c13 + 0) (fun (v22 : Int32) => bv (c14 + 1) (fun (v23 : Int32) => some (.inl (v22, v23))))) else (bv (c13 + 1) (fun (v24 : Int32) => bv (c14 + 1) (fun (v25 : Int32) => some (.inl (v24, v25)))))))))
def b_X10_askOf_15 (r1 : Int32) (c5 : Int32) (c6 : Int32) (c7 : Int32) : Option ((Int32 × Int32 × Int32) ⊕ (Int32)) :=
  if 4 ≤ c7 then (some (.inr c5)) else (if r1 = 0 then (some (.inr c5)) else (bo (lp (fun (s10 : Int32 × Int32) => b_X10_askOf_31 r1 c7 s10.1 s10.2) 5000 (0, 0)) (fun (x11 : Int32) => bo (f_X10_size r1) (fun (r26 : Int32) => bv (r26 - x11) (fun (v27 : Int32) => bo (if x11 ≤ v27 then (some v27) else (some x11)) (fun (q28 : Int32) => bo (if c6 ≤ q28 then (some c5) else (some c7)) (fun (q31 : Int32) => if c6 ≤ q28 then (bv (c7 + 1) (fun (v35 : Int32) => some (.inl (q31, c6, v35)))) else (bv (c7 + 1) (fun (v36 : Int32) => some (.inl (q31, q28, v36)))))))))))
def f_X10_askOf (S0 : SR) (a1 : Int32) : Option (Int32) :=
  bo (f_X10_sortsOf S0 a1) (fun (r1 : Int32) => bo (lp (fun (s2 : Int32 × Int32 × Int32) => b_X10_askOf_15 r1 s2.1 s2.2.1 s2.2.2) 5000 ((-1), 268435456, 0)) (fun (x3 : Int32) => some x3))
abbrev rmX10_askOf : Room := { frames := 2, cells := 0, slots := 0, locals := 46 }
theorem hdV_X10_askOf : yX10_askOf.cls = "WitnessWallModel" ∧ yX10_askOf.cls ≠ "java/lang/invoke/MethodHandle" ∧ yX10_askOf.cls ≠ "java/lang/invoke/VarHandle" ∧ (parseMethodDescriptor yX10_askOf.desc).map (fun d => d.parameters.length) = some 1 := by decide +kernel
set_option maxHeartbeats 4000000 in
set_option maxRecDepth 100000 in
theorem k_X10_askOf {l : Launch} {D : va_G} {ad : Nat → Nat} {cI cB : ClassId} (hij : inj 31 ad)  {S0 : SR} {a1 : Int32} {r : Int32} (hE : f_X10_askOf S0 a1 = some r) {sz : Nat} : Met l yX10_askOf (wz yX10_askOf cX10_askOf 9 (some FieldType.int)) rmX10_askOf (PG 31 ad (er ad cI cB) D (KR D cI cB) ZR [.ref (ad 0), .int a1] S0 sz) (QGi 31 ad (er ad cI cB) D r S0 sz) 0 0 (AD 31 ad sz) := by
  unfold f_X10_askOf at hE
  refine g_start (cc := cX10_askOf) (maxL := 9) (ret := (some FieldType.int)) (Qc := fun sz => QGi 31 ad (er ad cI cB) D r S0 sz) (by decide) rfl (Nat.le_of_ble_eq_true rfl) ?_
  intro p e s m args below meth c H locs ls hx hb hr hts hown hlocks hml hK hZ hP hS hl
  replace hl : lv_has ls 9 [(0, .ref (ad 0)), (1, .int a1)] := hl
  obtain ⟨QQ, hQQ⟩ : ∃ q, q = MQ below (QGi 31 ad (er ad cI cB) D r S0 s.heap.size) args s 0 0 (AD 31 ad s.heap.size) := ⟨_, rfl⟩
  rw [← hQQ]
  refine lv_aload_n hx hb dX10_askOf_0 rfl (lv_at hl 0 rfl) ?_
  refine lv_iload_n hx hb dX10_askOf_1 rfl (lv_at hl 1 rfl) ?_
  obtain ⟨r1, hCr1, hE⟩ := st_bo hE
  refine g_calli (va_runV (As := [.int a1]) (rest := []) ⟨hx, hb, hml, hown, hts⟩ (k_X10_sortsOf hij hCr1) (cwV 1 hts (wz_V tw_4_132 tw_4_134 tp_13 tw_1_11 tw_4_135) rfl rfl rfl hdV_X10_sortsOf ⟨Nat.le_of_ble_eq_true rfl, Nat.le_of_ble_eq_true rfl⟩) (g_preV KR_st ZR_st hK hZ hP hS hK.1 ((q_Ref (ad := ad) (cI := cI) (cB := cB))).1 (er_o (q_Ref (ad := ad) (cI := cI) (cB := cB))) rfl) rfl rfl hl.1 rfl (lv_room (Nat.le_of_ble_eq_true rfl)) dX10_askOf_2 ⟨Nat.zero_le _, Nat.zero_le _⟩) hS (fun H locs hP hS => ?_)
  refine lv_istore_n (lv' := [(2, .int r1), (0, .ref (ad 0)), (1, .int a1)]) hx hb dX10_askOf_5 rfl hl (by decide) rfl (fun ls hl => ?_)
  refine lv_iconst (v := (-1)) hx hb dX10_askOf_6 (by decide) ?_
  refine lv_istore_n (lv' := [(3, .int (-1)), (2, .int r1), (0, .ref (ad 0)), (1, .int a1)]) hx hb dX10_askOf_7 rfl hl (by decide) rfl (fun ls hl => ?_)
  refine lv_ldc (v := 268435456) hx hb hown (hts _ (wz_m tw_4_143)) dX10_askOf_8 ?_
  refine lv_istore (lv' := [(4, .int 268435456), (3, .int (-1)), (2, .int r1), (0, .ref (ad 0)), (1, .int a1)]) hx hb dX10_askOf_10 hl (by decide) rfl (fun ls hl => ?_)
  refine lv_iconst (v := 0) hx hb dX10_askOf_12 (by decide) ?_
  refine lv_istore (lv' := [(5, .int 0), (4, .int 268435456), (3, .int (-1)), (2, .int r1), (0, .ref (ad 0)), (1, .int a1)]) hx hb dX10_askOf_13 hl (by decide) rfl (fun ls hl => ?_)
  obtain ⟨x3, hx3, hE⟩ := st_bo hE
  refine lp_walk (body := fun (s2 : Int32 × Int32 × Int32) => b_X10_askOf_15 r1 s2.1 s2.2.1 s2.2.2) (fun s2 => ∀ (ls : Array Slot) (H : Heap) (locs : List Loc), lv_has ls 9 [(2, .int r1), (3, .int s2.1), (4, .int s2.2.1), (5, .int s2.2.2)] → rP D ad cI cB S0 H → rS ad s H locs → W p l e rmX10_askOf s m args below meth c H locs 0 0 QQ (F0 m 15 ls [])) (fun x3 => ∀ (ls : Array Slot) (H : Heap) (locs : List Loc), lv_has ls 9 [(3, .int x3)] → rP D ad cI cB S0 H → rS ad s H locs → W p l e rmX10_askOf s m args below meth c H locs 0 0 QQ (F0 m 133 ls [])) ?_ _ _ _ hx3 ?_ ls H locs (lv_sub hl [3, 2, 1, 0] rfl) hP hS
  · intro s2 t4 hE hKt4 ls H locs hl hP hS
    obtain ⟨c5, c6, c7⟩ := s2
    replace hE : b_X10_askOf_15 r1 c5 c6 c7 = some t4 := hE
    replace hl : lv_has ls 9 [(2, .int r1), (3, .int c5), (4, .int c6), (5, .int c7)] := hl
    replace hP : rP D ad cI cB S0 H := hP
    unfold b_X10_askOf_15 at hE
    refine lv_iload hx hb dX10_askOf_15 (lv_at hl 3 rfl) ?_
    refine lv_iconst (v := 4) hx hb dX10_askOf_17 (by decide) ?_
    refine lv_icmp_ge (tgt := 133) hx hb dX10_askOf_18 (by decide) (fun hc8 => ?_) (fun hc8 => ?_)
    · have hE := st_t hE hc8
      have hq := Option.some.inj hE
      subst hq
      exact hKt4 ls H locs (lv_sub hl [1] rfl) hP hS
    · have hE := st_f hE hc8
      refine lv_iload_n hx hb dX10_askOf_21 rfl (lv_at hl 0 rfl) ?_
      refine lv_if_eq (tgt := 133) hx hb dX10_askOf_22 (by decide) (fun hc9 => ?_) (fun hc9 => ?_)
      · have hE := st_t hE hc9
        have hq := Option.some.inj hE
        subst hq
        exact hKt4 ls H locs (lv_sub hl [1] rfl) hP hS
      · have hE := st_f hE hc9
        refine lv_iconst (v := 0) hx hb dX10_askOf_25 (by decide) ?_
        refine lv_istore (lv' := [(6, .int 0), (2, .int r1), (3, .int c5), (4, .int c6), (5, .int c7)]) hx hb dX10_askOf_26 hl (by decide) rfl (fun ls hl => ?_)
        refine lv_iconst (v := 0) hx hb dX10_askOf_28 (by decide) ?_
        refine lv_istore (lv' := [(7, .int 0), (6, .int 0), (2, .int r1), (3, .int c5), (4, .int c6), (5, .int c7)]) hx hb dX10_askOf_29 hl (by decide) rfl (fun ls hl => ?_)
        obtain ⟨x11, hx11, hE⟩ := st_bo hE
        refine lp_walk (body := fun (s10 : Int32 × Int32) => b_X10_askOf_31 r1 c7 s10.1 s10.2) (fun s10 => ∀ (ls : Array Slot) (H : Heap) (locs : List Loc), lv_has ls 9 [(2, .int r1), (3, .int c5), (4, .int c6), (5, .int c7), (6, .int s10.1), (7, .int s10.2)] → rP D ad cI cB S0 H → rS ad s H locs → W p l e rmX10_askOf s m args below meth c H locs 0 0 QQ (F0 m 31 ls [])) (fun x11 => ∀ (ls : Array Slot) (H : Heap) (locs : List Loc), lv_has ls 9 [(2, .int r1), (3, .int c5), (4, .int c6), (5, .int c7), (6, .int x11)] → rP D ad cI cB S0 H → rS ad s H locs → W p l e rmX10_askOf s m args below meth c H locs 0 0 QQ (F0 m 72 ls [])) ?_ _ _ _ hx11 ?_ ls H locs (lv_sub hl [2, 3, 4, 5, 1, 0] rfl) hP hS
        · intro s10 t12 hE hKt12 ls H locs hl hP hS
          obtain ⟨c13, c14⟩ := s10
          replace hE : b_X10_askOf_31 r1 c7 c13 c14 = some t12 := hE
          replace hl : lv_has ls 9 [(2, .int r1), (3, .int c5), (4, .int c6), (5, .int c7), (6, .int c13), (7, .int c14)] := hl
          replace hP : rP D ad cI cB S0 H := hP
          unfold b_X10_askOf_31 at hE
          refine lv_iload hx hb dX10_askOf_31 (lv_at hl 5 rfl) ?_
          refine lv_iconst (v := 4) hx hb dX10_askOf_33 (by decide) ?_
          refine lv_icmp_gt (tgt := 72) hx hb dX10_askOf_34 (by decide) (fun hc15 => ?_) (fun hc15 => ?_)
          · have hE := st_t hE hc15
            have hq := Option.some.inj hE
            subst hq
            exact hKt12 ls H locs (lv_sub hl [0, 1, 2, 3, 4] rfl) hP hS
          · have hE := st_f hE hc15
            refine lv_iload hx hb dX10_askOf_37 (lv_at hl 4 rfl) ?_
            refine lv_iload_n hx hb dX10_askOf_39 rfl (lv_at hl 0 rfl) ?_
            refine lv_iload hx hb dX10_askOf_40 (lv_at hl 5 rfl) ?_
            obtain ⟨r16, hCr16, hE⟩ := st_bo hE
            refine g_calli (va_runS (As := [.int r1, .int c14]) (rest := [.int c13]) ⟨hx, hb, hml, hown, hts⟩ (k_X10_isIn hij (S0 := S0) hCr16) (va_cwS 2 hts (wz_S tw_4_144 tw_4_145 tw_1_11 tw_4_146) rfl rfl rfl hdS_X10_isIn ⟨Nat.le_of_ble_eq_true rfl, Nat.le_of_ble_eq_true rfl⟩) (g_preS KR_st ZR_st hK hZ hP hS) rfl rfl hl.1 rfl (lv_room (Nat.le_of_ble_eq_true rfl)) dX10_askOf_42 ⟨Nat.zero_le _, Nat.zero_le _⟩) hS (fun H locs hP hS => ?_)
            refine lv_if_eq (tgt := 62) hx hb dX10_askOf_45 (by decide) (fun hc17 => ?_) (fun hc17 => ?_)
            · have hE := st_t hE hc17
              refine lv_iconst (v := 0) hx hb dX10_askOf_62 (by decide) ?_
              refine lv_iadd hx hb dX10_askOf_63 ?_
              obtain ⟨v18, ev18, hE⟩ := st_bv hE
              refine nm_i ev18 ?_
              refine lv_istore (lv' := [(6, .int v18), (2, .int r1), (3, .int c5), (4, .int c6), (5, .int c7), (7, .int c14)]) hx hb dX10_askOf_64 hl (by decide) rfl (fun ls hl => ?_)
              obtain ⟨v19, ev19, hE⟩ := st_bv hE
              refine lv_iinc (v := v19) (lv' := [(7, .int v19), (6, .int v18), (2, .int r1), (3, .int c5), (4, .int c6), (5, .int c7)]) hx hb dX10_askOf_66 hl (k := 5) rfl (by rw [ev19]; rfl) (by decide) rfl (fun ls hl => ?_)
              refine lv_goto (tgt := 31) hx hb dX10_askOf_69 (by decide) ?_
              have hq := Option.some.inj hE
              subst hq
              exact hKt12 ls H locs (lv_sub hl [2, 3, 4, 5, 1, 0] rfl) hP hS
            · have hE := st_f hE hc17
              refine lv_iload hx hb dX10_askOf_48 (lv_at hl 5 rfl) ?_
              refine lv_iload hx hb dX10_askOf_50 (lv_at hl 3 rfl) ?_
              obtain ⟨r20, hCr20, hE⟩ := st_bo hE
              refine g_calli (va_runS (As := [.int c14, .int c7]) (rest := [.int c13]) ⟨hx, hb, hml, hown, hts⟩ (k_X10_could hij (S0 := S0) hCr20) (va_cwS 2 hts (wz_S tw_4_136 tw_4_137 tw_1_11 tw_4_138) rfl rfl rfl hdS_X10_could ⟨Nat.le_of_ble_eq_true rfl, Nat.le_of_ble_eq_true rfl⟩) (g_preS KR_st ZR_st hK hZ hP hS) rfl rfl hl.1 rfl (lv_room (Nat.le_of_ble_eq_true rfl)) dX10_askOf_52 ⟨Nat.zero_le _, Nat.zero_le _⟩) hS (fun H locs hP hS => ?_)
              refine lv_if_eq (tgt := 62) hx hb dX10_askOf_55 (by decide) (fun hc21 => ?_) (fun hc21 => ?_)
              · have hE := st_t hE hc21
                refine lv_iconst (v := 0) hx hb dX10_askOf_62 (by decide) ?_
                refine lv_iadd hx hb dX10_askOf_63 ?_
                obtain ⟨v22, ev22, hE⟩ := st_bv hE
                refine nm_i ev22 ?_
                refine lv_istore (lv' := [(6, .int v22), (2, .int r1), (3, .int c5), (4, .int c6), (5, .int c7), (7, .int c14)]) hx hb dX10_askOf_64 hl (by decide) rfl (fun ls hl => ?_)
                obtain ⟨v23, ev23, hE⟩ := st_bv hE
                refine lv_iinc (v := v23) (lv' := [(7, .int v23), (6, .int v22), (2, .int r1), (3, .int c5), (4, .int c6), (5, .int c7)]) hx hb dX10_askOf_66 hl (k := 5) rfl (by rw [ev23]; rfl) (by decide) rfl (fun ls hl => ?_)
                refine lv_goto (tgt := 31) hx hb dX10_askOf_69 (by decide) ?_
                have hq := Option.some.inj hE
                subst hq
                exact hKt12 ls H locs (lv_sub hl [2, 3, 4, 5, 1, 0] rfl) hP hS
              · have hE := st_f hE hc21
                refine lv_iconst (v := 1) hx hb dX10_askOf_58 (by decide) ?_
                refine lv_goto (tgt := 63) hx hb dX10_askOf_59 (by decide) ?_
                refine lv_iadd hx hb dX10_askOf_63 ?_
                obtain ⟨v24, ev24, hE⟩ := st_bv hE
                refine nm_i ev24 ?_
                refine lv_istore (lv' := [(6, .int v24), (2, .int r1), (3, .int c5), (4, .int c6), (5, .int c7), (7, .int c14)]) hx hb dX10_askOf_64 hl (by decide) rfl (fun ls hl => ?_)
                obtain ⟨v25, ev25, hE⟩ := st_bv hE
                refine lv_iinc (v := v25) (lv' := [(7, .int v25), (6, .int v24), (2, .int r1), (3, .int c5), (4, .int c6), (5, .int c7)]) hx hb dX10_askOf_66 hl (k := 5) rfl (by rw [ev25]; rfl) (by decide) rfl (fun ls hl => ?_)
                refine lv_goto (tgt := 31) hx hb dX10_askOf_69 (by decide) ?_
                have hq := Option.some.inj hE
                subst hq
                exact hKt12 ls H locs (lv_sub hl [2, 3, 4, 5, 1, 0] rfl) hP hS
        · intro ls H locs hl hP hS
          refine lv_iload_n hx hb dX10_askOf_72 rfl (lv_at hl 0 rfl) ?_
          obtain ⟨r26, hCr26, hE⟩ := st_bo hE
          refine g_calli (va_runS (As := [.int r1]) (rest := []) ⟨hx, hb, hml, hown, hts⟩ (k_X10_size hij (S0 := S0) hCr26) (va_cwS 1 hts (wz_S tw_4_147 tw_4_148 tw_1_11 tw_4_149) rfl rfl rfl hdS_X10_size ⟨Nat.le_of_ble_eq_true rfl, Nat.le_of_ble_eq_true rfl⟩) (g_preS KR_st ZR_st hK hZ hP hS) rfl rfl hl.1 rfl (lv_room (Nat.le_of_ble_eq_true rfl)) dX10_askOf_73 ⟨Nat.zero_le _, Nat.zero_le _⟩) hS (fun H locs hP hS => ?_)
          refine lv_iload hx hb dX10_askOf_76 (lv_at hl 4 rfl) ?_
          refine lv_isub hx hb dX10_askOf_78 ?_
          obtain ⟨v27, ev27, hE⟩ := st_bv hE
          refine nm_i ev27 ?_
          refine lv_istore (lv' := [(7, .int v27), (2, .int r1), (3, .int c5), (4, .int c6), (5, .int c7), (6, .int x11)]) hx hb dX10_askOf_79 hl (by decide) rfl (fun ls hl => ?_)
          refine lv_iload hx hb dX10_askOf_81 (lv_at hl 5 rfl) ?_
          refine lv_iload hx hb dX10_askOf_83 (lv_at hl 0 rfl) ?_
          obtain ⟨q28, hq28, hE⟩ := st_bo hE
          have J29 : ∀ (ls : Array Slot) (H : Heap) (locs : List Loc), lv_has ls 9 [(2, .int r1), (3, .int c5), (4, .int c6), (5, .int c7)] → rP D ad cI cB S0 H → rS ad s H locs → W p l e rmX10_askOf s m args below meth c H locs 0 0 QQ (F0 m 95 ls [.int q28]) := by
            intro ls H locs hl hP hS
            refine lv_istore (lv' := [(8, .int q28), (2, .int r1), (3, .int c5), (4, .int c6), (5, .int c7)]) hx hb dX10_askOf_95 hl (by decide) rfl (fun ls hl => ?_)
            refine lv_iload hx hb dX10_askOf_97 (lv_at hl 0 rfl) ?_
            refine lv_iload hx hb dX10_askOf_99 (lv_at hl 3 rfl) ?_
            obtain ⟨q31, hq31, hE⟩ := st_bo hE
            have J32 : ∀ (ls : Array Slot) (H : Heap) (locs : List Loc), lv_has ls 9 [(2, .int r1), (4, .int c6), (5, .int c7), (8, .int q28)] → rP D ad cI cB S0 H → rS ad s H locs → W p l e rmX10_askOf s m args below meth c H locs 0 0 QQ (F0 m 110 ls [.int q31]) := by
              intro ls H locs hl hP hS
              refine lv_istore_n (lv' := [(3, .int q31), (2, .int r1), (4, .int c6), (5, .int c7), (8, .int q28)]) hx hb dX10_askOf_110 rfl hl (by decide) rfl (fun ls hl => ?_)
              refine lv_iload hx hb dX10_askOf_111 (lv_at hl 4 rfl) ?_
              refine lv_iload hx hb dX10_askOf_113 (lv_at hl 2 rfl) ?_
              refine lv_icmp_ge (tgt := 123) hx hb dX10_askOf_115 (by decide) (fun hc34 => ?_) (fun hc34 => ?_)
              · have hE := st_t hE hc34
                refine lv_iload hx hb dX10_askOf_123 (lv_at hl 2 rfl) ?_
                refine lv_istore (lv' := [(4, .int c6), (3, .int q31), (2, .int r1), (5, .int c7), (8, .int q28)]) hx hb dX10_askOf_125 hl (by decide) rfl (fun ls hl => ?_)
                obtain ⟨v35, ev35, hE⟩ := st_bv hE
                refine lv_iinc (v := v35) (lv' := [(5, .int v35), (4, .int c6), (3, .int q31), (2, .int r1), (8, .int q28)]) hx hb dX10_askOf_127 hl (k := 3) rfl (by rw [ev35]; rfl) (by decide) rfl (fun ls hl => ?_)
                refine lv_goto (tgt := 15) hx hb dX10_askOf_130 (by decide) ?_
                have hq := Option.some.inj hE
                subst hq
                exact hKt4 ls H locs (lv_sub hl [3, 2, 1, 0] rfl) hP hS
              · have hE := st_f hE hc34
                refine lv_iload hx hb dX10_askOf_118 (lv_at hl 4 rfl) ?_
                refine lv_goto (tgt := 125) hx hb dX10_askOf_120 (by decide) ?_
                refine lv_istore (lv' := [(4, .int q28), (3, .int q31), (2, .int r1), (5, .int c7), (8, .int q28)]) hx hb dX10_askOf_125 hl (by decide) rfl (fun ls hl => ?_)
                obtain ⟨v36, ev36, hE⟩ := st_bv hE
                refine lv_iinc (v := v36) (lv' := [(5, .int v36), (4, .int q28), (3, .int q31), (2, .int r1), (8, .int q28)]) hx hb dX10_askOf_127 hl (k := 3) rfl (by rw [ev36]; rfl) (by decide) rfl (fun ls hl => ?_)
                refine lv_goto (tgt := 15) hx hb dX10_askOf_130 (by decide) ?_
                have hq := Option.some.inj hE
                subst hq
                exact hKt4 ls H locs (lv_sub hl [3, 2, 1, 0] rfl) hP hS
            replace hE := hq31
            refine lv_icmp_ge (tgt := 109) hx hb dX10_askOf_101 (by decide) (fun hc33 => ?_) (fun hc33 => ?_)
            · have hE := st_t hE hc33
              refine lv_iload_n hx hb dX10_askOf_109 rfl (lv_at hl 2 rfl) ?_
              have hq := Option.some.inj hE
              subst hq
              exact J32 ls H locs (lv_sub hl [1, 3, 4, 0] rfl) hP hS
            · have hE := st_f hE hc33
              refine lv_iload hx hb dX10_askOf_104 (lv_at hl 4 rfl) ?_
              refine lv_goto (tgt := 110) hx hb dX10_askOf_106 (by decide) ?_
              have hq := Option.some.inj hE
              subst hq
              exact J32 ls H locs (lv_sub hl [1, 3, 4, 0] rfl) hP hS
          replace hE := hq28
          refine lv_icmp_le (tgt := 93) hx hb dX10_askOf_85 (by decide) (fun hc30 => ?_) (fun hc30 => ?_)
          · have hE := st_t hE hc30
            refine lv_iload hx hb dX10_askOf_93 (lv_at hl 0 rfl) ?_
            have hq := Option.some.inj hE
            subst hq
            exact J29 ls H locs (lv_sub hl [1, 2, 3, 4] rfl) hP hS
          · have hE := st_f hE hc30
            refine lv_iload hx hb dX10_askOf_88 (lv_at hl 5 rfl) ?_
            refine lv_goto (tgt := 95) hx hb dX10_askOf_90 (by decide) ?_
            have hq := Option.some.inj hE
            subst hq
            exact J29 ls H locs (lv_sub hl [1, 2, 3, 4] rfl) hP hS
  · intro ls H locs hl hP hS
    refine lv_iload_n hx hb dX10_askOf_133 rfl (lv_at hl 0 rfl) ?_
    replace hE := Option.some.inj hE
    subst hQQ
    exact g_iret hx hb hr hlocks hP hS hE rfl dX10_askOf_134
def f_X10_at (S0 : SR) (a1 : Int32) : Option (Int32) :=
  if (ri S0 0 17) ≤ a1 then (some 0) else (gd (inb a1 54) (some (ri S0 12 (a1.toNatClampNeg))))
abbrev rmX10_at : Room := { frames := 0, cells := 0, slots := 0, locals := 0 }
theorem hdV_X10_at : yX10_at.cls = "WitnessWallModel" ∧ yX10_at.cls ≠ "java/lang/invoke/MethodHandle" ∧ yX10_at.cls ≠ "java/lang/invoke/VarHandle" ∧ (parseMethodDescriptor yX10_at.desc).map (fun d => d.parameters.length) = some 1 := by decide +kernel
set_option maxHeartbeats 4000000 in
set_option maxRecDepth 100000 in
theorem k_X10_at {l : Launch} {D : va_G} {ad : Nat → Nat} {cI cB : ClassId} (hij : inj 31 ad)  {S0 : SR} {a1 : Int32} {r : Int32} (hE : f_X10_at S0 a1 = some r) {sz : Nat} : Met l yX10_at (wz yX10_at cX10_at 2 (some FieldType.int)) rmX10_at (PG 31 ad (er ad cI cB) D (KR D cI cB) ZR [.ref (ad 0), .int a1] S0 sz) (QGi 31 ad (er ad cI cB) D r S0 sz) 0 0 (AD 31 ad sz) := by
  unfold f_X10_at at hE
  refine g_start (cc := cX10_at) (maxL := 2) (ret := (some FieldType.int)) (Qc := fun sz => QGi 31 ad (er ad cI cB) D r S0 sz) (by decide) rfl (Nat.le_of_ble_eq_true rfl) ?_
  intro p e s m args below meth c H locs ls hx hb hr hts hown hlocks hml hK hZ hP hS hl
  replace hl : lv_has ls 2 [(0, .ref (ad 0)), (1, .int a1)] := hl
  obtain ⟨QQ, hQQ⟩ : ∃ q, q = MQ below (QGi 31 ad (er ad cI cB) D r S0 s.heap.size) args s 0 0 (AD 31 ad s.heap.size) := ⟨_, rfl⟩
  rw [← hQQ]
  refine lv_iload_n hx hb dX10_at_0 rfl (lv_at hl 1 rfl) ?_
  refine lv_aload_n hx hb dX10_at_1 rfl (lv_at hl 0 rfl) ?_
  refine r_get (v := .int (ri S0 0 17)) hx hb hts (fun w h => wz_m (inX10 w h)) hown hK hP (q_Ref (ad := ad) (cI := cI) (cB := cB)) rfl 17 (by decide) (hts _ (wz_m tw_3_173)) (fun _ h9 => h9) rfl dX10_at_2 ?_
  refine lv_icmp_ge (tgt := 17) hx hb dX10_at_5 (by decide) (fun hc1 => ?_) (fun hc1 => ?_)
  · have hE := st_t hE hc1
    refine lv_iconst (v := 0) hx hb dX10_at_17 (by decide) ?_
    replace hE := Option.some.inj hE
    subst hQQ
    exact g_iret hx hb hr hlocks hP hS hE rfl dX10_at_18
  · have hE := st_f hE hc1
    refine lv_aload_n hx hb dX10_at_8 rfl (lv_at hl 0 rfl) ?_
    refine r_get (v := .ref (ad 12)) hx hb hts (fun w h => wz_m (inX10 w h)) hown hK hP (q_Ref (ad := ad) (cI := cI) (cB := cB)) rfl 18 (by decide) (hts _ (wz_m tw_3_174)) (fun _ h9 => h9) rfl dX10_at_9 ?_
    refine lv_iload_n hx hb dX10_at_12 rfl (lv_at hl 1 rfl) ?_
    obtain ⟨hi2, hE⟩ := st_gd hE
    refine r_bald hx hb hK hP qr_12 hi2 dX10_at_13 ?_
    refine lv_goto (tgt := 18) hx hb dX10_at_14 (by decide) ?_
    replace hE := Option.some.inj hE
    subst hQQ
    exact g_iret hx hb hr hlocks hP hS hE rfl dX10_at_18
def f_X10_be (S0 : SR) (a1 : Int32) (a2 : Int32) : Option (Int32 × SR) :=
  bo (f_X10_isWitness S0 a1) (fun (r1 : Int32) => if r1 = 0 then (some ((-101), S0)) else (bo (f_X10_within a2 0 4) (fun (r3 : Int32) => if r3 = 0 then (some ((-102), S0)) else (gd (inb a1 5) (bv (ri S0 1 (a1.toNatClampNeg)) (fun (v6 : Int32) => gd (inb a1 5) (bv (ui S0 1 (a1.toNatClampNeg) a2) (fun S8 => some (v6, S8)))))))))
abbrev rmX10_be : Room := { frames := 2, cells := 0, slots := 0, locals := 43 }
theorem hdV_X10_be : yX10_be.cls = "WitnessWallModel" ∧ yX10_be.cls ≠ "java/lang/invoke/MethodHandle" ∧ yX10_be.cls ≠ "java/lang/invoke/VarHandle" ∧ (parseMethodDescriptor yX10_be.desc).map (fun d => d.parameters.length) = some 2 := by decide +kernel
set_option maxHeartbeats 4000000 in
set_option maxRecDepth 100000 in
theorem k_X10_be {l : Launch} {D : va_G} {ad : Nat → Nat} {cI cB : ClassId} (hij : inj 31 ad)  {S0 : SR} {a1 : Int32} {a2 : Int32} {r : Int32} {Sr : SR} (hE : f_X10_be S0 a1 a2 = some (r, Sr)) {sz : Nat} : Met l yX10_be (wz yX10_be cX10_be 4 (some FieldType.int)) rmX10_be (PG 31 ad (er ad cI cB) D (KR D cI cB) ZR [.ref (ad 0), .int a1, .int a2] S0 sz) (QGi 31 ad (er ad cI cB) D r Sr sz) 0 0 (AD 31 ad sz) := by
  unfold f_X10_be at hE
  refine g_start (cc := cX10_be) (maxL := 4) (ret := (some FieldType.int)) (Qc := fun sz => QGi 31 ad (er ad cI cB) D r Sr sz) (by decide) rfl (Nat.le_of_ble_eq_true rfl) ?_
  intro p e s m args below meth c H locs ls hx hb hr hts hown hlocks hml hK hZ hP hS hl
  replace hl : lv_has ls 4 [(0, .ref (ad 0)), (1, .int a1), (2, .int a2)] := hl
  obtain ⟨QQ, hQQ⟩ : ∃ q, q = MQ below (QGi 31 ad (er ad cI cB) D r Sr s.heap.size) args s 0 0 (AD 31 ad s.heap.size) := ⟨_, rfl⟩
  rw [← hQQ]
  refine lv_aload_n hx hb dX10_be_0 rfl (lv_at hl 0 rfl) ?_
  refine lv_iload_n hx hb dX10_be_1 rfl (lv_at hl 1 rfl) ?_
  obtain ⟨r1, hCr1, hE⟩ := st_bo hE
  refine g_calli (va_runV (As := [.int a1]) (rest := []) ⟨hx, hb, hml, hown, hts⟩ (k_X10_isWitness hij hCr1) (cwV 1 hts (wz_V tw_4_124 tw_4_126 tp_11 tw_1_11 tw_4_127) rfl rfl rfl hdV_X10_isWitness ⟨Nat.le_of_ble_eq_true rfl, Nat.le_of_ble_eq_true rfl⟩) (g_preV KR_st ZR_st hK hZ hP hS hK.1 ((q_Ref (ad := ad) (cI := cI) (cB := cB))).1 (er_o (q_Ref (ad := ad) (cI := cI) (cB := cB))) rfl) rfl rfl hl.1 rfl (lv_room (Nat.le_of_ble_eq_true rfl)) dX10_be_2 ⟨Nat.zero_le _, Nat.zero_le _⟩) hS (fun H locs hP hS => ?_)
  refine lv_if_ne (tgt := 11) hx hb dX10_be_5 (by decide) (fun hc2 => ?_) (fun hc2 => ?_)
  · have hE := st_f hE hc2
    refine lv_iload_n hx hb dX10_be_11 rfl (lv_at hl 2 rfl) ?_
    refine lv_iconst (v := 0) hx hb dX10_be_12 (by decide) ?_
    refine lv_iconst (v := 4) hx hb dX10_be_13 (by decide) ?_
    obtain ⟨r3, hCr3, hE⟩ := st_bo hE
    refine g_calli (va_runS (As := [.int a2, .int 0, .int 4]) (rest := []) ⟨hx, hb, hml, hown, hts⟩ (k_X10_within hij (S0 := S0) hCr3) (va_cwS 3 hts (wz_S tw_4_66 tw_4_67 tw_1_11 tw_4_68) rfl rfl rfl hdS_X10_within ⟨Nat.le_of_ble_eq_true rfl, Nat.le_of_ble_eq_true rfl⟩) (g_preS KR_st ZR_st hK hZ hP hS) rfl rfl hl.1 rfl (lv_room (Nat.le_of_ble_eq_true rfl)) dX10_be_14 ⟨Nat.zero_le _, Nat.zero_le _⟩) hS (fun H locs hP hS => ?_)
    refine lv_if_ne (tgt := 23) hx hb dX10_be_17 (by decide) (fun hc4 => ?_) (fun hc4 => ?_)
    · have hE := st_f hE hc4
      refine lv_aload_n hx hb dX10_be_23 rfl (lv_at hl 0 rfl) ?_
      refine r_get (v := .ref (ad 1)) hx hb hts (fun w h => wz_m (inX10 w h)) hown hK hP (q_Ref (ad := ad) (cI := cI) (cB := cB)) rfl 2 (by decide) (hts _ (wz_m tw_3_158)) (fun _ h9 => h9) rfl dX10_be_24 ?_
      refine lv_iload_n hx hb dX10_be_27 rfl (lv_at hl 1 rfl) ?_
      obtain ⟨hi5, hE⟩ := st_gd hE
      refine r_iald hx hb hK hP qr_1 hi5 dX10_be_28 ?_
      obtain ⟨v6, ev6, hE⟩ := st_bv hE
      refine nm_i ev6 ?_
      refine lv_istore_n (lv' := [(3, .int v6), (0, .ref (ad 0)), (1, .int a1), (2, .int a2)]) hx hb dX10_be_29 rfl hl (by decide) rfl (fun ls hl => ?_)
      refine lv_aload_n hx hb dX10_be_30 rfl (lv_at hl 1 rfl) ?_
      refine r_get (v := .ref (ad 1)) hx hb hts (fun w h => wz_m (inX10 w h)) hown hK hP (q_Ref (ad := ad) (cI := cI) (cB := cB)) rfl 2 (by decide) (hts _ (wz_m tw_3_158)) (fun _ h9 => h9) rfl dX10_be_31 ?_
      refine lv_iload_n hx hb dX10_be_34 rfl (lv_at hl 2 rfl) ?_
      refine lv_iload_n hx hb dX10_be_35 rfl (lv_at hl 3 rfl) ?_
      obtain ⟨hi7, hE⟩ := st_gd hE
      refine r_iast hij hx hb hK hP hS qr_1 hi7 dX10_be_36 (fun H locs hP hS => ?_)
      obtain ⟨S8, eS8, hE⟩ := st_bv hE
      rw [← eS8] at hP
      refine lv_iload_n hx hb dX10_be_37 rfl (lv_at hl 0 rfl) ?_
      replace hE := Option.some.inj hE
      have hq := Prod.mk.inj hE
      subst hQQ
      exact g_iret hx hb hr hlocks hP hS hq.1 hq.2 dX10_be_38
    · have hE := st_t hE hc4
      refine lv_bipush (v := (-102)) hx hb dX10_be_20 (by decide) ?_
      replace hE := Option.some.inj hE
      have hq := Prod.mk.inj hE
      subst hQQ
      exact g_iret hx hb hr hlocks hP hS hq.1 hq.2 dX10_be_22
  · have hE := st_t hE hc2
    refine lv_bipush (v := (-101)) hx hb dX10_be_8 (by decide) ?_
    replace hE := Option.some.inj hE
    have hq := Prod.mk.inj hE
    subst hQQ
    exact g_iret hx hb hr hlocks hP hS hq.1 hq.2 dX10_be_10
def f_X10_blank (S0 : SR) : Option (Int32 × SR) :=
  bv (ri S0 0 17) (fun (v1 : Int32) => bv (ui S0 0 17 0) (fun S2 => some (v1, S2)))
abbrev rmX10_blank : Room := { frames := 0, cells := 0, slots := 0, locals := 0 }
theorem hdV_X10_blank : yX10_blank.cls = "WitnessWallModel" ∧ yX10_blank.cls ≠ "java/lang/invoke/MethodHandle" ∧ yX10_blank.cls ≠ "java/lang/invoke/VarHandle" ∧ (parseMethodDescriptor yX10_blank.desc).map (fun d => d.parameters.length) = some 0 := by decide +kernel
set_option maxHeartbeats 4000000 in
set_option maxRecDepth 100000 in
theorem k_X10_blank {l : Launch} {D : va_G} {ad : Nat → Nat} {cI cB : ClassId} (hij : inj 31 ad)  {S0 : SR} {r : Int32} {Sr : SR} (hE : f_X10_blank S0 = some (r, Sr)) {sz : Nat} : Met l yX10_blank (wz yX10_blank cX10_blank 2 (some FieldType.int)) rmX10_blank (PG 31 ad (er ad cI cB) D (KR D cI cB) ZR [.ref (ad 0)] S0 sz) (QGi 31 ad (er ad cI cB) D r Sr sz) 0 0 (AD 31 ad sz) := by
  unfold f_X10_blank at hE
  refine g_start (cc := cX10_blank) (maxL := 2) (ret := (some FieldType.int)) (Qc := fun sz => QGi 31 ad (er ad cI cB) D r Sr sz) (by decide) rfl (Nat.le_of_ble_eq_true rfl) ?_
  intro p e s m args below meth c H locs ls hx hb hr hts hown hlocks hml hK hZ hP hS hl
  replace hl : lv_has ls 2 [(0, .ref (ad 0))] := hl
  obtain ⟨QQ, hQQ⟩ : ∃ q, q = MQ below (QGi 31 ad (er ad cI cB) D r Sr s.heap.size) args s 0 0 (AD 31 ad s.heap.size) := ⟨_, rfl⟩
  rw [← hQQ]
  refine lv_aload_n hx hb dX10_blank_0 rfl (lv_at hl 0 rfl) ?_
  refine r_get (v := .int (ri S0 0 17)) hx hb hts (fun w h => wz_m (inX10 w h)) hown hK hP (q_Ref (ad := ad) (cI := cI) (cB := cB)) rfl 17 (by decide) (hts _ (wz_m tw_3_173)) (fun _ h9 => h9) rfl dX10_blank_1 ?_
  obtain ⟨v1, ev1, hE⟩ := st_bv hE
  refine nm_i ev1 ?_
  refine lv_istore_n (lv' := [(1, .int v1), (0, .ref (ad 0))]) hx hb dX10_blank_4 rfl hl (by decide) rfl (fun ls hl => ?_)
  refine lv_aload_n hx hb dX10_blank_5 rfl (lv_at hl 1 rfl) ?_
  refine lv_iconst (v := 0) hx hb dX10_blank_6 (by decide) ?_
  refine r_put hij hx hb hts (fun w h => wz_m (inX10 w h)) tyX10 tyX10_ok nmX10 hown hK hP hS (q_Ref (ad := ad) (cI := cI) (cB := cB)) rfl 17 (by decide) (hts _ (wz_m tw_3_173)) (fun _ h9 => h9) rfl rfl rfl (fun _ _ => Nat.le_of_ble_eq_true rfl) (fun _ _ => rfl) dX10_blank_7 (fun H locs hP hS => ?_)
  obtain ⟨S2, eS2, hE⟩ := st_bv hE
  rw [← eS2] at hP
  refine lv_iload_n hx hb dX10_blank_10 rfl (lv_at hl 0 rfl) ?_
  replace hE := Option.some.inj hE
  have hq := Prod.mk.inj hE
  subst hQQ
  exact g_iret hx hb hr hlocks hP hS hq.1 hq.2 dX10_blank_11
def b_X10_tellsNow_5 (S0 : SR) (a1 : Int32) (a2 : Int32) (c4 : Int32) (c5 : Int32) : Option ((Int32 × Int32) ⊕ (Int32)) :=
  gd (inb a1 5) (if (ri S0 3 (a1.toNatClampNeg)) ≤ c5 then (some (.inr c4)) else (gd (inb ((4 * a1) + c5) 20) (if ((ri S0 2 (((4 * a1) + c5).toNatClampNeg)) / 4) = a2 then (gd (inb ((4 * a1) + c5) 20) (bv ((ri S0 2 (((4 * a1) + c5).toNatClampNeg)) - (ri S0 2 (((4 * a1) + c5).toNatClampNeg)) / 4 * 4) (fun (v12 : Int32) => bv (c5 + 1) (fun (v13 : Int32) => some (.inl (v12, v13)))))) else (bv (c5 + 1) (fun (v10 : Int32) => some (.inl (c4, v10)))))))
def f_X10_tellsNow (S0 : SR) (a1 : Int32) (a2 : Int32) : Option (Int32) :=
  bo (lp (fun (s1 : Int32 × Int32) => b_X10_tellsNow_5 S0 a1 a2 s1.1 s1.2) 5000 ((-1), 0)) (fun (x2 : Int32) => some x2)
abbrev rmX10_tellsNow : Room := { frames := 0, cells := 0, slots := 0, locals := 0 }
theorem hdV_X10_tellsNow : yX10_tellsNow.cls = "WitnessWallModel" ∧ yX10_tellsNow.cls ≠ "java/lang/invoke/MethodHandle" ∧ yX10_tellsNow.cls ≠ "java/lang/invoke/VarHandle" ∧ (parseMethodDescriptor yX10_tellsNow.desc).map (fun d => d.parameters.length) = some 2 := by decide +kernel
set_option maxHeartbeats 4000000 in
set_option maxRecDepth 100000 in
theorem k_X10_tellsNow {l : Launch} {D : va_G} {ad : Nat → Nat} {cI cB : ClassId} (hij : inj 31 ad)  {S0 : SR} {a1 : Int32} {a2 : Int32} {r : Int32} (hE : f_X10_tellsNow S0 a1 a2 = some r) {sz : Nat} : Met l yX10_tellsNow (wz yX10_tellsNow cX10_tellsNow 5 (some FieldType.int)) rmX10_tellsNow (PG 31 ad (er ad cI cB) D (KR D cI cB) ZR [.ref (ad 0), .int a1, .int a2] S0 sz) (QGi 31 ad (er ad cI cB) D r S0 sz) 0 0 (AD 31 ad sz) := by
  unfold f_X10_tellsNow at hE
  refine g_start (cc := cX10_tellsNow) (maxL := 5) (ret := (some FieldType.int)) (Qc := fun sz => QGi 31 ad (er ad cI cB) D r S0 sz) (by decide) rfl (Nat.le_of_ble_eq_true rfl) ?_
  intro p e s m args below meth c H locs ls hx hb hr hts hown hlocks hml hK hZ hP hS hl
  replace hl : lv_has ls 5 [(0, .ref (ad 0)), (1, .int a1), (2, .int a2)] := hl
  obtain ⟨QQ, hQQ⟩ : ∃ q, q = MQ below (QGi 31 ad (er ad cI cB) D r S0 s.heap.size) args s 0 0 (AD 31 ad s.heap.size) := ⟨_, rfl⟩
  rw [← hQQ]
  refine lv_iconst (v := (-1)) hx hb dX10_tellsNow_0 (by decide) ?_
  refine lv_istore_n (lv' := [(3, .int (-1)), (0, .ref (ad 0)), (1, .int a1), (2, .int a2)]) hx hb dX10_tellsNow_1 rfl hl (by decide) rfl (fun ls hl => ?_)
  refine lv_iconst (v := 0) hx hb dX10_tellsNow_2 (by decide) ?_
  refine lv_istore (lv' := [(4, .int 0), (3, .int (-1)), (0, .ref (ad 0)), (1, .int a1), (2, .int a2)]) hx hb dX10_tellsNow_3 hl (by decide) rfl (fun ls hl => ?_)
  obtain ⟨x2, hx2, hE⟩ := st_bo hE
  refine lp_walk (body := fun (s1 : Int32 × Int32) => b_X10_tellsNow_5 S0 a1 a2 s1.1 s1.2) (fun s1 => ∀ (ls : Array Slot) (H : Heap) (locs : List Loc), lv_has ls 5 [(0, .ref (ad 0)), (1, .int a1), (2, .int a2), (3, .int s1.1), (4, .int s1.2)] → rP D ad cI cB S0 H → rS ad s H locs → W p l e rmX10_tellsNow s m args below meth c H locs 0 0 QQ (F0 m 5 ls [])) (fun x2 => ∀ (ls : Array Slot) (H : Heap) (locs : List Loc), lv_has ls 5 [(3, .int x2)] → rP D ad cI cB S0 H → rS ad s H locs → W p l e rmX10_tellsNow s m args below meth c H locs 0 0 QQ (F0 m 57 ls [])) ?_ _ _ _ hx2 ?_ ls H locs (lv_sub hl [2, 3, 4, 1, 0] rfl) hP hS
  · intro s1 t3 hE hKt3 ls H locs hl hP hS
    obtain ⟨c4, c5⟩ := s1
    replace hE : b_X10_tellsNow_5 S0 a1 a2 c4 c5 = some t3 := hE
    replace hl : lv_has ls 5 [(0, .ref (ad 0)), (1, .int a1), (2, .int a2), (3, .int c4), (4, .int c5)] := hl
    replace hP : rP D ad cI cB S0 H := hP
    unfold b_X10_tellsNow_5 at hE
    refine lv_iload hx hb dX10_tellsNow_5 (lv_at hl 4 rfl) ?_
    refine lv_aload_n hx hb dX10_tellsNow_7 rfl (lv_at hl 0 rfl) ?_
    refine r_get (v := .ref (ad 3)) hx hb hts (fun w h => wz_m (inX10 w h)) hown hK hP (q_Ref (ad := ad) (cI := cI) (cB := cB)) rfl 4 (by decide) (hts _ (wz_m tw_3_160)) (fun _ h9 => h9) rfl dX10_tellsNow_8 ?_
    refine lv_iload_n hx hb dX10_tellsNow_11 rfl (lv_at hl 1 rfl) ?_
    obtain ⟨hi6, hE⟩ := st_gd hE
    refine r_iald hx hb hK hP qr_3 hi6 dX10_tellsNow_12 ?_
    refine lv_icmp_ge (tgt := 57) hx hb dX10_tellsNow_13 (by decide) (fun hc7 => ?_) (fun hc7 => ?_)
    · have hE := st_t hE hc7
      have hq := Option.some.inj hE
      subst hq
      exact hKt3 ls H locs (lv_sub hl [3] rfl) hP hS
    · have hE := st_f hE hc7
      refine lv_aload_n hx hb dX10_tellsNow_16 rfl (lv_at hl 0 rfl) ?_
      refine r_get (v := .ref (ad 2)) hx hb hts (fun w h => wz_m (inX10 w h)) hown hK hP (q_Ref (ad := ad) (cI := cI) (cB := cB)) rfl 3 (by decide) (hts _ (wz_m tw_3_159)) (fun _ h9 => h9) rfl dX10_tellsNow_17 ?_
      refine lv_iconst (v := 4) hx hb dX10_tellsNow_20 (by decide) ?_
      refine lv_iload_n hx hb dX10_tellsNow_21 rfl (lv_at hl 1 rfl) ?_
      refine lv_imul hx hb dX10_tellsNow_22 ?_
      refine lv_iload hx hb dX10_tellsNow_23 (lv_at hl 4 rfl) ?_
      refine lv_iadd hx hb dX10_tellsNow_25 ?_
      obtain ⟨hi8, hE⟩ := st_gd hE
      refine r_iald hx hb hK hP qr_2 hi8 dX10_tellsNow_26 ?_
      refine lv_iconst (v := 4) hx hb dX10_tellsNow_27 (by decide) ?_
      refine lv_idiv hx hb dX10_tellsNow_28 (by decide) ?_
      refine lv_iload_n hx hb dX10_tellsNow_29 rfl (lv_at hl 2 rfl) ?_
      refine lv_icmp_ne (tgt := 49) hx hb dX10_tellsNow_30 (by decide) (fun hc9 => ?_) (fun hc9 => ?_)
      · have hE := st_f hE hc9
        refine lv_iload_n hx hb dX10_tellsNow_49 rfl (lv_at hl 3 rfl) ?_
        refine lv_istore_n (lv' := [(3, .int c4), (0, .ref (ad 0)), (1, .int a1), (2, .int a2), (4, .int c5)]) hx hb dX10_tellsNow_50 rfl hl (by decide) rfl (fun ls hl => ?_)
        obtain ⟨v10, ev10, hE⟩ := st_bv hE
        refine lv_iinc (v := v10) (lv' := [(4, .int v10), (3, .int c4), (0, .ref (ad 0)), (1, .int a1), (2, .int a2)]) hx hb dX10_tellsNow_51 hl (k := 4) rfl (by rw [ev10]; rfl) (by decide) rfl (fun ls hl => ?_)
        refine lv_goto (tgt := 5) hx hb dX10_tellsNow_54 (by decide) ?_
        have hq := Option.some.inj hE
        subst hq
        exact hKt3 ls H locs (lv_sub hl [2, 3, 4, 1, 0] rfl) hP hS
      · have hE := st_t hE hc9
        refine lv_aload_n hx hb dX10_tellsNow_33 rfl (lv_at hl 0 rfl) ?_
        refine r_get (v := .ref (ad 2)) hx hb hts (fun w h => wz_m (inX10 w h)) hown hK hP (q_Ref (ad := ad) (cI := cI) (cB := cB)) rfl 3 (by decide) (hts _ (wz_m tw_3_159)) (fun _ h9 => h9) rfl dX10_tellsNow_34 ?_
        refine lv_iconst (v := 4) hx hb dX10_tellsNow_37 (by decide) ?_
        refine lv_iload_n hx hb dX10_tellsNow_38 rfl (lv_at hl 1 rfl) ?_
        refine lv_imul hx hb dX10_tellsNow_39 ?_
        refine lv_iload hx hb dX10_tellsNow_40 (lv_at hl 4 rfl) ?_
        refine lv_iadd hx hb dX10_tellsNow_42 ?_
        obtain ⟨hi11, hE⟩ := st_gd hE
        refine r_iald hx hb hK hP qr_2 hi11 dX10_tellsNow_43 ?_
        refine lv_iconst (v := 4) hx hb dX10_tellsNow_44 (by decide) ?_
        refine lv_irem hx hb dX10_tellsNow_45 (by decide) ?_
        refine lv_goto (tgt := 50) hx hb dX10_tellsNow_46 (by decide) ?_
        obtain ⟨v12, ev12, hE⟩ := st_bv hE
        refine nm_i ev12 ?_
        refine lv_istore_n (lv' := [(3, .int v12), (0, .ref (ad 0)), (1, .int a1), (2, .int a2), (4, .int c5)]) hx hb dX10_tellsNow_50 rfl hl (by decide) rfl (fun ls hl => ?_)
        obtain ⟨v13, ev13, hE⟩ := st_bv hE
        refine lv_iinc (v := v13) (lv' := [(4, .int v13), (3, .int v12), (0, .ref (ad 0)), (1, .int a1), (2, .int a2)]) hx hb dX10_tellsNow_51 hl (k := 4) rfl (by rw [ev13]; rfl) (by decide) rfl (fun ls hl => ?_)
        refine lv_goto (tgt := 5) hx hb dX10_tellsNow_54 (by decide) ?_
        have hq := Option.some.inj hE
        subst hq
        exact hKt3 ls H locs (lv_sub hl [2, 3, 4, 1, 0] rfl) hP hS
  · intro ls H locs hl hP hS
    refine lv_iload_n hx hb dX10_tellsNow_57 rfl (lv_at hl 0 rfl) ?_
    replace hE := Option.some.inj hE
    subst hQQ
    exact g_iret hx hb hr hlocks hP hS hE rfl dX10_tellsNow_58
def f_X10_hasThing (S0 : SR) (a1 : Int32) (a2 : Int32) : Option (Int32) :=
  bo (f_X10_tellsNow S0 a1 a2) (fun (r1 : Int32) => if r1 = (-1) then (some 0) else (some 1))
abbrev rmX10_hasThing : Room := { frames := 1, cells := 0, slots := 0, locals := 24 }
theorem hdV_X10_hasThing : yX10_hasThing.cls = "WitnessWallModel" ∧ yX10_hasThing.cls ≠ "java/lang/invoke/MethodHandle" ∧ yX10_hasThing.cls ≠ "java/lang/invoke/VarHandle" ∧ (parseMethodDescriptor yX10_hasThing.desc).map (fun d => d.parameters.length) = some 2 := by decide +kernel
set_option maxHeartbeats 4000000 in
set_option maxRecDepth 100000 in
theorem k_X10_hasThing {l : Launch} {D : va_G} {ad : Nat → Nat} {cI cB : ClassId} (hij : inj 31 ad)  {S0 : SR} {a1 : Int32} {a2 : Int32} {r : Int32} (hE : f_X10_hasThing S0 a1 a2 = some r) {sz : Nat} : Met l yX10_hasThing (wz yX10_hasThing cX10_hasThing 3 (some FieldType.boolean)) rmX10_hasThing (PG 31 ad (er ad cI cB) D (KR D cI cB) ZR [.ref (ad 0), .int a1, .int a2] S0 sz) (QGi 31 ad (er ad cI cB) D r S0 sz) 0 0 (AD 31 ad sz) := by
  unfold f_X10_hasThing at hE
  refine g_start (cc := cX10_hasThing) (maxL := 3) (ret := (some FieldType.boolean)) (Qc := fun sz => QGi 31 ad (er ad cI cB) D r S0 sz) (by decide) rfl (Nat.le_of_ble_eq_true rfl) ?_
  intro p e s m args below meth c H locs ls hx hb hr hts hown hlocks hml hK hZ hP hS hl
  replace hl : lv_has ls 3 [(0, .ref (ad 0)), (1, .int a1), (2, .int a2)] := hl
  obtain ⟨QQ, hQQ⟩ : ∃ q, q = MQ below (QGi 31 ad (er ad cI cB) D r S0 s.heap.size) args s 0 0 (AD 31 ad s.heap.size) := ⟨_, rfl⟩
  rw [← hQQ]
  refine lv_aload_n hx hb dX10_hasThing_0 rfl (lv_at hl 0 rfl) ?_
  refine lv_iload_n hx hb dX10_hasThing_1 rfl (lv_at hl 1 rfl) ?_
  refine lv_iload_n hx hb dX10_hasThing_2 rfl (lv_at hl 2 rfl) ?_
  obtain ⟨r1, hCr1, hE⟩ := st_bo hE
  refine g_calli (va_runV (As := [.int a1, .int a2]) (rest := []) ⟨hx, hb, hml, hown, hts⟩ (k_X10_tellsNow hij hCr1) (cwV 2 hts (wz_V tw_4_162 tw_4_164 tp_18 tw_1_11 tw_4_165) rfl rfl rfl hdV_X10_tellsNow ⟨Nat.le_of_ble_eq_true rfl, Nat.le_of_ble_eq_true rfl⟩) (g_preV KR_st ZR_st hK hZ hP hS hK.1 ((q_Ref (ad := ad) (cI := cI) (cB := cB))).1 (er_o (q_Ref (ad := ad) (cI := cI) (cB := cB))) rfl) rfl rfl hl.1 rfl (lv_room (Nat.le_of_ble_eq_true rfl)) dX10_hasThing_3 ⟨Nat.zero_le _, Nat.zero_le _⟩) hS (fun H locs hP hS => ?_)
  refine lv_iconst (v := (-1)) hx hb dX10_hasThing_6 (by decide) ?_
  refine lv_icmp_eq (tgt := 14) hx hb dX10_hasThing_7 (by decide) (fun hc2 => ?_) (fun hc2 => ?_)
  · have hE := st_t hE hc2
    refine lv_iconst (v := 0) hx hb dX10_hasThing_14 (by decide) ?_
    replace hE := Option.some.inj hE
    subst hQQ
    exact g_zret hx hb hr hlocks hP hS ((by decide : (0 : Int32) &&& 1 = 0).trans hE) rfl dX10_hasThing_15
  · have hE := st_f hE hc2
    refine lv_iconst (v := 1) hx hb dX10_hasThing_10 (by decide) ?_
    refine lv_goto (tgt := 15) hx hb dX10_hasThing_11 (by decide) ?_
    replace hE := Option.some.inj hE
    subst hQQ
    exact g_zret hx hb hr hlocks hP hS ((by decide : (1 : Int32) &&& 1 = 1).trans hE) rfl dX10_hasThing_15
def b_X10_clashesOfTwo_5 (S0 : SR) (a1 : Int32) (a2 : Int32) (c4 : Int32) (c5 : Int32) : Option ((Int32 × Int32) ⊕ (Int32)) :=
  if 6 ≤ c5 then (some (.inr c4)) else (bo (f_X10_hasThing S0 a1 c5) (fun (r7 : Int32) => bo (if r7 = 0 then (some 0) else (bo (f_X10_hasThing S0 a2 c5) (fun (r11 : Int32) => if r11 = 0 then (some 0) else (some 1)))) (fun (q8 : Int32) => if q8 = 0 then (bv (c4 + 0) (fun (v14 : Int32) => bv (c5 + 1) (fun (v15 : Int32) => some (.inl (v14, v15))))) else (bo (f_X10_tellsNow S0 a1 c5) (fun (r16 : Int32) => bo (f_X10_tellsNow S0 a2 c5) (fun (r17 : Int32) => if r16 = r17 then (bv (c4 + 0) (fun (v19 : Int32) => bv (c5 + 1) (fun (v20 : Int32) => some (.inl (v19, v20))))) else (bv (c4 + 1) (fun (v21 : Int32) => bv (c5 + 1) (fun (v22 : Int32) => some (.inl (v21, v22)))))))))))
def f_X10_clashesOfTwo (S0 : SR) (a1 : Int32) (a2 : Int32) : Option (Int32) :=
  bo (lp (fun (s1 : Int32 × Int32) => b_X10_clashesOfTwo_5 S0 a1 a2 s1.1 s1.2) 5000 (0, 0)) (fun (x2 : Int32) => some x2)
abbrev rmX10_clashesOfTwo : Room := { frames := 2, cells := 0, slots := 0, locals := 46 }
theorem hdV_X10_clashesOfTwo : yX10_clashesOfTwo.cls = "WitnessWallModel" ∧ yX10_clashesOfTwo.cls ≠ "java/lang/invoke/MethodHandle" ∧ yX10_clashesOfTwo.cls ≠ "java/lang/invoke/VarHandle" ∧ (parseMethodDescriptor yX10_clashesOfTwo.desc).map (fun d => d.parameters.length) = some 2 := by decide +kernel
set_option maxHeartbeats 4000000 in
set_option maxRecDepth 100000 in
theorem k_X10_clashesOfTwo {l : Launch} {D : va_G} {ad : Nat → Nat} {cI cB : ClassId} (hij : inj 31 ad)  {S0 : SR} {a1 : Int32} {a2 : Int32} {r : Int32} (hE : f_X10_clashesOfTwo S0 a1 a2 = some r) {sz : Nat} : Met l yX10_clashesOfTwo (wz yX10_clashesOfTwo cX10_clashesOfTwo 6 (some FieldType.int)) rmX10_clashesOfTwo (PG 31 ad (er ad cI cB) D (KR D cI cB) ZR [.ref (ad 0), .int a1, .int a2] S0 sz) (QGi 31 ad (er ad cI cB) D r S0 sz) 0 0 (AD 31 ad sz) := by
  unfold f_X10_clashesOfTwo at hE
  refine g_start (cc := cX10_clashesOfTwo) (maxL := 6) (ret := (some FieldType.int)) (Qc := fun sz => QGi 31 ad (er ad cI cB) D r S0 sz) (by decide) rfl (Nat.le_of_ble_eq_true rfl) ?_
  intro p e s m args below meth c H locs ls hx hb hr hts hown hlocks hml hK hZ hP hS hl
  replace hl : lv_has ls 6 [(0, .ref (ad 0)), (1, .int a1), (2, .int a2)] := hl
  obtain ⟨QQ, hQQ⟩ : ∃ q, q = MQ below (QGi 31 ad (er ad cI cB) D r S0 s.heap.size) args s 0 0 (AD 31 ad s.heap.size) := ⟨_, rfl⟩
  rw [← hQQ]
  refine lv_iconst (v := 0) hx hb dX10_clashesOfTwo_0 (by decide) ?_
  refine lv_istore_n (lv' := [(3, .int 0), (0, .ref (ad 0)), (1, .int a1), (2, .int a2)]) hx hb dX10_clashesOfTwo_1 rfl hl (by decide) rfl (fun ls hl => ?_)
  refine lv_iconst (v := 0) hx hb dX10_clashesOfTwo_2 (by decide) ?_
  refine lv_istore (lv' := [(4, .int 0), (3, .int 0), (0, .ref (ad 0)), (1, .int a1), (2, .int a2)]) hx hb dX10_clashesOfTwo_3 hl (by decide) rfl (fun ls hl => ?_)
  obtain ⟨x2, hx2, hE⟩ := st_bo hE
  refine lp_walk (body := fun (s1 : Int32 × Int32) => b_X10_clashesOfTwo_5 S0 a1 a2 s1.1 s1.2) (fun s1 => ∀ (ls : Array Slot) (H : Heap) (locs : List Loc), lv_has ls 6 [(0, .ref (ad 0)), (1, .int a1), (2, .int a2), (3, .int s1.1), (4, .int s1.2)] → rP D ad cI cB S0 H → rS ad s H locs → W p l e rmX10_clashesOfTwo s m args below meth c H locs 0 0 QQ (F0 m 5 ls [])) (fun x2 => ∀ (ls : Array Slot) (H : Heap) (locs : List Loc), lv_has ls 6 [(3, .int x2)] → rP D ad cI cB S0 H → rS ad s H locs → W p l e rmX10_clashesOfTwo s m args below meth c H locs 0 0 QQ (F0 m 75 ls [])) ?_ _ _ _ hx2 ?_ ls H locs (lv_sub hl [2, 3, 4, 1, 0] rfl) hP hS
  · intro s1 t3 hE hKt3 ls H locs hl hP hS
    obtain ⟨c4, c5⟩ := s1
    replace hE : b_X10_clashesOfTwo_5 S0 a1 a2 c4 c5 = some t3 := hE
    replace hl : lv_has ls 6 [(0, .ref (ad 0)), (1, .int a1), (2, .int a2), (3, .int c4), (4, .int c5)] := hl
    replace hP : rP D ad cI cB S0 H := hP
    unfold b_X10_clashesOfTwo_5 at hE
    refine lv_iload hx hb dX10_clashesOfTwo_5 (lv_at hl 4 rfl) ?_
    refine lv_bipush (v := 6) hx hb dX10_clashesOfTwo_7 (by decide) ?_
    refine lv_icmp_ge (tgt := 75) hx hb dX10_clashesOfTwo_9 (by decide) (fun hc6 => ?_) (fun hc6 => ?_)
    · have hE := st_t hE hc6
      have hq := Option.some.inj hE
      subst hq
      exact hKt3 ls H locs (lv_sub hl [3] rfl) hP hS
    · have hE := st_f hE hc6
      refine lv_aload_n hx hb dX10_clashesOfTwo_12 rfl (lv_at hl 0 rfl) ?_
      refine lv_iload_n hx hb dX10_clashesOfTwo_13 rfl (lv_at hl 1 rfl) ?_
      refine lv_iload hx hb dX10_clashesOfTwo_14 (lv_at hl 4 rfl) ?_
      obtain ⟨r7, hCr7, hE⟩ := st_bo hE
      refine g_calli (va_runV (As := [.int a1, .int c5]) (rest := []) ⟨hx, hb, hml, hown, hts⟩ (k_X10_hasThing hij hCr7) (cwV 2 hts (wz_V tw_4_158 tw_4_160 tp_17 tw_1_11 tw_4_161) rfl rfl rfl hdV_X10_hasThing ⟨Nat.le_of_ble_eq_true rfl, Nat.le_of_ble_eq_true rfl⟩) (g_preV KR_st ZR_st hK hZ hP hS hK.1 ((q_Ref (ad := ad) (cI := cI) (cB := cB))).1 (er_o (q_Ref (ad := ad) (cI := cI) (cB := cB))) rfl) rfl rfl hl.1 rfl (lv_room (Nat.le_of_ble_eq_true rfl)) dX10_clashesOfTwo_16 ⟨Nat.zero_le _, Nat.zero_le _⟩) hS (fun H locs hP hS => ?_)
      obtain ⟨q8, hq8, hE⟩ := st_bo hE
      have J9 : ∀ (ls : Array Slot) (H : Heap) (locs : List Loc), lv_has ls 6 [(0, .ref (ad 0)), (1, .int a1), (2, .int a2), (3, .int c4), (4, .int c5)] → rP D ad cI cB S0 H → rS ad s H locs → W p l e rmX10_clashesOfTwo s m args below meth c H locs 0 0 QQ (F0 m 37 ls [.int q8]) := by
        intro ls H locs hl hP hS
        refine lv_istore (lv' := [(5, .int q8), (0, .ref (ad 0)), (1, .int a1), (2, .int a2), (3, .int c4), (4, .int c5)]) hx hb dX10_clashesOfTwo_37 hl (by decide) rfl (fun ls hl => ?_)
        refine lv_iload_n hx hb dX10_clashesOfTwo_39 rfl (lv_at hl 4 rfl) ?_
        refine lv_iload hx hb dX10_clashesOfTwo_40 (lv_at hl 0 rfl) ?_
        refine lv_if_eq (tgt := 66) hx hb dX10_clashesOfTwo_42 (by decide) (fun hc13 => ?_) (fun hc13 => ?_)
        · have hE := st_t hE hc13
          refine lv_iconst (v := 0) hx hb dX10_clashesOfTwo_66 (by decide) ?_
          refine lv_iadd hx hb dX10_clashesOfTwo_67 ?_
          obtain ⟨v14, ev14, hE⟩ := st_bv hE
          refine nm_i ev14 ?_
          refine lv_istore_n (lv' := [(3, .int v14), (5, .int q8), (0, .ref (ad 0)), (1, .int a1), (2, .int a2), (4, .int c5)]) hx hb dX10_clashesOfTwo_68 rfl hl (by decide) rfl (fun ls hl => ?_)
          obtain ⟨v15, ev15, hE⟩ := st_bv hE
          refine lv_iinc (v := v15) (lv' := [(4, .int v15), (3, .int v14), (5, .int q8), (0, .ref (ad 0)), (1, .int a1), (2, .int a2)]) hx hb dX10_clashesOfTwo_69 hl (k := 5) rfl (by rw [ev15]; rfl) (by decide) rfl (fun ls hl => ?_)
          refine lv_goto (tgt := 5) hx hb dX10_clashesOfTwo_72 (by decide) ?_
          have hq := Option.some.inj hE
          subst hq
          exact hKt3 ls H locs (lv_sub hl [3, 4, 5, 1, 0] rfl) hP hS
        · have hE := st_f hE hc13
          refine lv_aload_n hx hb dX10_clashesOfTwo_45 rfl (lv_at hl 1 rfl) ?_
          refine lv_iload_n hx hb dX10_clashesOfTwo_46 rfl (lv_at hl 2 rfl) ?_
          refine lv_iload hx hb dX10_clashesOfTwo_47 (lv_at hl 5 rfl) ?_
          obtain ⟨r16, hCr16, hE⟩ := st_bo hE
          refine g_calli (va_runV (As := [.int a1, .int c5]) (rest := [.int c4]) ⟨hx, hb, hml, hown, hts⟩ (k_X10_tellsNow hij hCr16) (cwV 2 hts (wz_V tw_4_162 tw_4_164 tp_18 tw_1_11 tw_4_165) rfl rfl rfl hdV_X10_tellsNow ⟨Nat.le_of_ble_eq_true rfl, Nat.le_of_ble_eq_true rfl⟩) (g_preV KR_st ZR_st hK hZ hP hS hK.1 ((q_Ref (ad := ad) (cI := cI) (cB := cB))).1 (er_o (q_Ref (ad := ad) (cI := cI) (cB := cB))) rfl) rfl rfl hl.1 rfl (lv_room (Nat.le_of_ble_eq_true rfl)) dX10_clashesOfTwo_49 ⟨Nat.zero_le _, Nat.zero_le _⟩) hS (fun H locs hP hS => ?_)
          refine lv_aload_n hx hb dX10_clashesOfTwo_52 rfl (lv_at hl 1 rfl) ?_
          refine lv_iload_n hx hb dX10_clashesOfTwo_53 rfl (lv_at hl 3 rfl) ?_
          refine lv_iload hx hb dX10_clashesOfTwo_54 (lv_at hl 5 rfl) ?_
          obtain ⟨r17, hCr17, hE⟩ := st_bo hE
          refine g_calli (va_runV (As := [.int a2, .int c5]) (rest := [.int r16, .int c4]) ⟨hx, hb, hml, hown, hts⟩ (k_X10_tellsNow hij hCr17) (cwV 2 hts (wz_V tw_4_162 tw_4_164 tp_18 tw_1_11 tw_4_165) rfl rfl rfl hdV_X10_tellsNow ⟨Nat.le_of_ble_eq_true rfl, Nat.le_of_ble_eq_true rfl⟩) (g_preV KR_st ZR_st hK hZ hP hS hK.1 ((q_Ref (ad := ad) (cI := cI) (cB := cB))).1 (er_o (q_Ref (ad := ad) (cI := cI) (cB := cB))) rfl) rfl rfl hl.1 rfl (lv_room (Nat.le_of_ble_eq_true rfl)) dX10_clashesOfTwo_56 ⟨Nat.zero_le _, Nat.zero_le _⟩) hS (fun H locs hP hS => ?_)
          refine lv_icmp_eq (tgt := 66) hx hb dX10_clashesOfTwo_59 (by decide) (fun hc18 => ?_) (fun hc18 => ?_)
          · have hE := st_t hE hc18
            refine lv_iconst (v := 0) hx hb dX10_clashesOfTwo_66 (by decide) ?_
            refine lv_iadd hx hb dX10_clashesOfTwo_67 ?_
            obtain ⟨v19, ev19, hE⟩ := st_bv hE
            refine nm_i ev19 ?_
            refine lv_istore_n (lv' := [(3, .int v19), (5, .int q8), (0, .ref (ad 0)), (1, .int a1), (2, .int a2), (4, .int c5)]) hx hb dX10_clashesOfTwo_68 rfl hl (by decide) rfl (fun ls hl => ?_)
            obtain ⟨v20, ev20, hE⟩ := st_bv hE
            refine lv_iinc (v := v20) (lv' := [(4, .int v20), (3, .int v19), (5, .int q8), (0, .ref (ad 0)), (1, .int a1), (2, .int a2)]) hx hb dX10_clashesOfTwo_69 hl (k := 5) rfl (by rw [ev20]; rfl) (by decide) rfl (fun ls hl => ?_)
            refine lv_goto (tgt := 5) hx hb dX10_clashesOfTwo_72 (by decide) ?_
            have hq := Option.some.inj hE
            subst hq
            exact hKt3 ls H locs (lv_sub hl [3, 4, 5, 1, 0] rfl) hP hS
          · have hE := st_f hE hc18
            refine lv_iconst (v := 1) hx hb dX10_clashesOfTwo_62 (by decide) ?_
            refine lv_goto (tgt := 67) hx hb dX10_clashesOfTwo_63 (by decide) ?_
            refine lv_iadd hx hb dX10_clashesOfTwo_67 ?_
            obtain ⟨v21, ev21, hE⟩ := st_bv hE
            refine nm_i ev21 ?_
            refine lv_istore_n (lv' := [(3, .int v21), (5, .int q8), (0, .ref (ad 0)), (1, .int a1), (2, .int a2), (4, .int c5)]) hx hb dX10_clashesOfTwo_68 rfl hl (by decide) rfl (fun ls hl => ?_)
            obtain ⟨v22, ev22, hE⟩ := st_bv hE
            refine lv_iinc (v := v22) (lv' := [(4, .int v22), (3, .int v21), (5, .int q8), (0, .ref (ad 0)), (1, .int a1), (2, .int a2)]) hx hb dX10_clashesOfTwo_69 hl (k := 5) rfl (by rw [ev22]; rfl) (by decide) rfl (fun ls hl => ?_)
            refine lv_goto (tgt := 5) hx hb dX10_clashesOfTwo_72 (by decide) ?_
            have hq := Option.some.inj hE
            subst hq
            exact hKt3 ls H locs (lv_sub hl [3, 4, 5, 1, 0] rfl) hP hS
      replace hE := hq8
      refine lv_if_eq (tgt := 36) hx hb dX10_clashesOfTwo_19 (by decide) (fun hc10 => ?_) (fun hc10 => ?_)
      · have hE := st_t hE hc10
        refine lv_iconst (v := 0) hx hb dX10_clashesOfTwo_36 (by decide) ?_
        have hq := Option.some.inj hE
        subst hq
        exact J9 ls H locs (lv_sub hl [0, 1, 2, 3, 4] rfl) hP hS
      · have hE := st_f hE hc10
        refine lv_aload_n hx hb dX10_clashesOfTwo_22 rfl (lv_at hl 0 rfl) ?_
        refine lv_iload_n hx hb dX10_clashesOfTwo_23 rfl (lv_at hl 2 rfl) ?_
        refine lv_iload hx hb dX10_clashesOfTwo_24 (lv_at hl 4 rfl) ?_
        obtain ⟨r11, hCr11, hE⟩ := st_bo hE
        refine g_calli (va_runV (As := [.int a2, .int c5]) (rest := []) ⟨hx, hb, hml, hown, hts⟩ (k_X10_hasThing hij hCr11) (cwV 2 hts (wz_V tw_4_158 tw_4_160 tp_17 tw_1_11 tw_4_161) rfl rfl rfl hdV_X10_hasThing ⟨Nat.le_of_ble_eq_true rfl, Nat.le_of_ble_eq_true rfl⟩) (g_preV KR_st ZR_st hK hZ hP hS hK.1 ((q_Ref (ad := ad) (cI := cI) (cB := cB))).1 (er_o (q_Ref (ad := ad) (cI := cI) (cB := cB))) rfl) rfl rfl hl.1 rfl (lv_room (Nat.le_of_ble_eq_true rfl)) dX10_clashesOfTwo_26 ⟨Nat.zero_le _, Nat.zero_le _⟩) hS (fun H locs hP hS => ?_)
        refine lv_if_eq (tgt := 36) hx hb dX10_clashesOfTwo_29 (by decide) (fun hc12 => ?_) (fun hc12 => ?_)
        · have hE := st_t hE hc12
          refine lv_iconst (v := 0) hx hb dX10_clashesOfTwo_36 (by decide) ?_
          have hq := Option.some.inj hE
          subst hq
          exact J9 ls H locs (lv_sub hl [0, 1, 2, 3, 4] rfl) hP hS
        · have hE := st_f hE hc12
          refine lv_iconst (v := 1) hx hb dX10_clashesOfTwo_32 (by decide) ?_
          refine lv_goto (tgt := 37) hx hb dX10_clashesOfTwo_33 (by decide) ?_
          have hq := Option.some.inj hE
          subst hq
          exact J9 ls H locs (lv_sub hl [0, 1, 2, 3, 4] rfl) hP hS
  · intro ls H locs hl hP hS
    refine lv_iload_n hx hb dX10_clashesOfTwo_75 rfl (lv_at hl 0 rfl) ?_
    replace hE := Option.some.inj hE
    subst hQQ
    exact g_iret hx hb hr hlocks hP hS hE rfl dX10_clashesOfTwo_76

def f_X10_mix (S0 : SR) (a1 : Int64) : Option (SR) :=
  bv (ul S0 47 ((31 * (rl S0 47)) + a1)) (fun S1 => some S1)
abbrev rmX10_mix : Room := { frames := 0, cells := 0, slots := 0, locals := 0 }
theorem hdV_X10_mix : yX10_mix.cls = "WitnessWallModel" ∧ yX10_mix.cls ≠ "java/lang/invoke/MethodHandle" ∧ yX10_mix.cls ≠ "java/lang/invoke/VarHandle" ∧ (parseMethodDescriptor yX10_mix.desc).map (fun d => d.parameters.length) = some 1 := by decide +kernel
set_option maxHeartbeats 4000000 in
set_option maxRecDepth 100000 in
theorem k_X10_mix {l : Launch} {D : va_G} {ad : Nat → Nat} {cI cB : ClassId} (hij : inj 31 ad)  {S0 : SR} {a1 : Int64} {Sr : SR} (hE : f_X10_mix S0 a1 = some Sr) {sz : Nat} : Met l yX10_mix (wz yX10_mix cX10_mix 3 none) rmX10_mix (PG 31 ad (er ad cI cB) D (KR D cI cB) ZR [.ref (ad 0), .long a1] S0 sz) (QGv 31 ad (er ad cI cB) D Sr sz) 0 0 (AD 31 ad sz) := by
  unfold f_X10_mix at hE
  refine g_start (cc := cX10_mix) (maxL := 3) (ret := none) (Qc := fun sz => QGv 31 ad (er ad cI cB) D Sr sz) (by decide) rfl (Nat.le_of_ble_eq_true rfl) ?_
  intro p e s m args below meth c H locs ls hx hb hr hts hown hlocks hml hK hZ hP hS hl
  replace hl : lv_has ls 3 [(0, .ref (ad 0)), (1, .long a1)] := hl
  obtain ⟨QQ, hQQ⟩ : ∃ q, q = MQ below (QGv 31 ad (er ad cI cB) D Sr s.heap.size) args s 0 0 (AD 31 ad s.heap.size) := ⟨_, rfl⟩
  rw [← hQQ]
  refine lv_aload_n hx hb dX10_mix_0 rfl (lv_at hl 0 rfl) ?_
  refine lv_ldc2 (v := 31) hx hb hown (hts _ (wz_m tw_5_115)) dX10_mix_1 ?_
  refine lv_aload_n hx hb dX10_mix_4 rfl (lv_at hl 0 rfl) ?_
  refine r_get (v := .long (rl S0 47)) hx hb hts (fun w h => wz_m (inX10 w h)) hown hK hP (q_Ref (ad := ad) (cI := cI) (cB := cB)) rfl 47 (by decide) (hts _ (wz_m tw_3_203)) (fun _ h9 => h9) rfl dX10_mix_5 ?_
  refine lv_lmul hx hb dX10_mix_8 ?_
  refine lv_lload_n hx hb dX10_mix_9 rfl (lv_at hl 1 rfl) ?_
  refine lv_ladd hx hb dX10_mix_10 ?_
  refine r_putL hij hx hb hts (fun w h => wz_m (inX10 w h)) tyX10 tyX10_ok nmX10 hown hK hP hS (q_Ref (ad := ad) (cI := cI) (cB := cB)) rfl 47 (by decide) (hts _ (wz_m tw_3_203)) (fun _ h9 => h9) rfl rfl rfl (fun _ _ => Nat.le_of_ble_eq_true rfl) (fun _ _ => rfl) dX10_mix_11 (fun H locs hP hS => ?_)
  obtain ⟨S1, eS1, hE⟩ := st_bv hE
  rw [← eS1] at hP
  replace hE := Option.some.inj hE
  subst hQQ
  exact g_vret hx hb hr hlocks hP hS hE dX10_mix_14
def b_X10_saidBy_23 (S0 : SR) (a1 : Int32) (a2 : Int32) (c7 : Int32) (c12 : Int32) (c13 : Int32) : Option ((Int32 × Int32) ⊕ (Int32)) :=
  if (ri S0 0 1) ≤ c13 then (some (.inr c12)) else (bo (f_X10_isIn a1 c13) (fun (r15 : Int32) => if r15 = 0 then (bv (c12 + 0) (fun (v17 : Int32) => bv (c13 + 1) (fun (v18 : Int32) => some (.inl (v17, v18))))) else (bo (f_X10_tellsNow S0 c13 a2) (fun (r19 : Int32) => if r19 = c7 then (bv (c12 + 1) (fun (v23 : Int32) => bv (c13 + 1) (fun (v24 : Int32) => some (.inl (v23, v24))))) else (bv (c12 + 0) (fun (v21 : Int32) => bv (c13 + 1) (fun (v22 : Int32) => some (.inl (v21, v22)))))))))
def b_X10_saidBy_11 (S0 : SR) (a1 : Int32) (a2 : Int32) (c4 : Int32) (c5 : Int32) (c6 : Int32) (c7 : Int32) : Option ((Int32 × Int32 × Int32 × Int32) ⊕ (Int32 × Int32 × Int32)) :=
  if 4 ≤ c7 then (some (.inr (c4, c5, c6))) else (bo (lp (fun (s9 : Int32 × Int32) => b_X10_saidBy_23 S0 a1 a2 c7 s9.1 s9.2) 5000 (0, 0)) (fun (x10 : Int32) => bo (if x10 ≤ c5 then (if x10 ≤ c6 then (some c6) else (some x10)) else (some c5)) (fun (q25 : Int32) => bo (if x10 ≤ c5 then (some c4) else (some c7)) (fun (q29 : Int32) => if x10 ≤ c5 then (bv (c7 + 1) (fun (v33 : Int32) => some (.inl (q29, c5, q25, v33)))) else (bv (c7 + 1) (fun (v34 : Int32) => some (.inl (q29, x10, q25, v34))))))))
def f_X10_saidBy (S0 : SR) (a1 : Int32) (a2 : Int32) : Option (Int32) :=
  bo (lp (fun (s1 : Int32 × Int32 × Int32 × Int32) => b_X10_saidBy_11 S0 a1 a2 s1.1 s1.2.1 s1.2.2.1 s1.2.2.2) 5000 ((-1), 0, 0, 0)) (fun (x2 : Int32 × Int32 × Int32) => if x2.2.1 ≤ x2.2.2 then (some (-1)) else (some x2.1))
abbrev rmX10_saidBy : Room := { frames := 1, cells := 0, slots := 0, locals := 24 }
theorem hdV_X10_saidBy : yX10_saidBy.cls = "WitnessWallModel" ∧ yX10_saidBy.cls ≠ "java/lang/invoke/MethodHandle" ∧ yX10_saidBy.cls ≠ "java/lang/invoke/VarHandle" ∧ (parseMethodDescriptor yX10_saidBy.desc).map (fun d => d.parameters.length) = some 2 := by decide +kernel
set_option maxHeartbeats 4000000 in
set_option maxRecDepth 100000 in
theorem k_X10_saidBy {l : Launch} {D : va_G} {ad : Nat → Nat} {cI cB : ClassId} (hij : inj 31 ad)  {S0 : SR} {a1 : Int32} {a2 : Int32} {r : Int32} (hE : f_X10_saidBy S0 a1 a2 = some r) {sz : Nat} : Met l yX10_saidBy (wz yX10_saidBy cX10_saidBy 9 (some FieldType.int)) rmX10_saidBy (PG 31 ad (er ad cI cB) D (KR D cI cB) ZR [.ref (ad 0), .int a1, .int a2] S0 sz) (QGi 31 ad (er ad cI cB) D r S0 sz) 0 0 (AD 31 ad sz) := by
  unfold f_X10_saidBy at hE
  refine g_start (cc := cX10_saidBy) (maxL := 9) (ret := (some FieldType.int)) (Qc := fun sz => QGi 31 ad (er ad cI cB) D r S0 sz) (by decide) rfl (Nat.le_of_ble_eq_true rfl) ?_
  intro p e s m args below meth c H locs ls hx hb hr hts hown hlocks hml hK hZ hP hS hl
  replace hl : lv_has ls 9 [(0, .ref (ad 0)), (1, .int a1), (2, .int a2)] := hl
  obtain ⟨QQ, hQQ⟩ : ∃ q, q = MQ below (QGi 31 ad (er ad cI cB) D r S0 s.heap.size) args s 0 0 (AD 31 ad s.heap.size) := ⟨_, rfl⟩
  rw [← hQQ]
  refine lv_iconst (v := (-1)) hx hb dX10_saidBy_0 (by decide) ?_
  refine lv_istore_n (lv' := [(3, .int (-1)), (0, .ref (ad 0)), (1, .int a1), (2, .int a2)]) hx hb dX10_saidBy_1 rfl hl (by decide) rfl (fun ls hl => ?_)
  refine lv_iconst (v := 0) hx hb dX10_saidBy_2 (by decide) ?_
  refine lv_istore (lv' := [(4, .int 0), (3, .int (-1)), (0, .ref (ad 0)), (1, .int a1), (2, .int a2)]) hx hb dX10_saidBy_3 hl (by decide) rfl (fun ls hl => ?_)
  refine lv_iconst (v := 0) hx hb dX10_saidBy_5 (by decide) ?_
  refine lv_istore (lv' := [(5, .int 0), (4, .int 0), (3, .int (-1)), (0, .ref (ad 0)), (1, .int a1), (2, .int a2)]) hx hb dX10_saidBy_6 hl (by decide) rfl (fun ls hl => ?_)
  refine lv_iconst (v := 0) hx hb dX10_saidBy_8 (by decide) ?_
  refine lv_istore (lv' := [(6, .int 0), (5, .int 0), (4, .int 0), (3, .int (-1)), (0, .ref (ad 0)), (1, .int a1), (2, .int a2)]) hx hb dX10_saidBy_9 hl (by decide) rfl (fun ls hl => ?_)
  obtain ⟨x2, hx2, hE⟩ := st_bo hE
  refine lp_walk (body := fun (s1 : Int32 × Int32 × Int32 × Int32) => b_X10_saidBy_11 S0 a1 a2 s1.1 s1.2.1 s1.2.2.1 s1.2.2.2) (fun s1 => ∀ (ls : Array Slot) (H : Heap) (locs : List Loc), lv_has ls 9 [(0, .ref (ad 0)), (1, .int a1), (2, .int a2), (3, .int s1.1), (4, .int s1.2.1), (5, .int s1.2.2.1), (6, .int s1.2.2.2)] → rP D ad cI cB S0 H → rS ad s H locs → W p l e rmX10_saidBy s m args below meth c H locs 0 0 QQ (F0 m 11 ls [])) (fun x2 => ∀ (ls : Array Slot) (H : Heap) (locs : List Loc), lv_has ls 9 [(3, .int x2.1), (4, .int x2.2.1), (5, .int x2.2.2)] → rP D ad cI cB S0 H → rS ad s H locs → W p l e rmX10_saidBy s m args below meth c H locs 0 0 QQ (F0 m 133 ls [])) ?_ _ _ _ hx2 ?_ ls H locs (lv_sub hl [4, 5, 6, 3, 2, 1, 0] rfl) hP hS
  · intro s1 t3 hE hKt3 ls H locs hl hP hS
    obtain ⟨c4, c5, c6, c7⟩ := s1
    replace hE : b_X10_saidBy_11 S0 a1 a2 c4 c5 c6 c7 = some t3 := hE
    replace hl : lv_has ls 9 [(0, .ref (ad 0)), (1, .int a1), (2, .int a2), (3, .int c4), (4, .int c5), (5, .int c6), (6, .int c7)] := hl
    replace hP : rP D ad cI cB S0 H := hP
    unfold b_X10_saidBy_11 at hE
    refine lv_iload hx hb dX10_saidBy_11 (lv_at hl 6 rfl) ?_
    refine lv_iconst (v := 4) hx hb dX10_saidBy_13 (by decide) ?_
    refine lv_icmp_ge (tgt := 133) hx hb dX10_saidBy_14 (by decide) (fun hc8 => ?_) (fun hc8 => ?_)
    · have hE := st_t hE hc8
      have hq := Option.some.inj hE
      subst hq
      exact hKt3 ls H locs (lv_sub hl [3, 4, 5] rfl) hP hS
    · have hE := st_f hE hc8
      refine lv_iconst (v := 0) hx hb dX10_saidBy_17 (by decide) ?_
      refine lv_istore (lv' := [(7, .int 0), (0, .ref (ad 0)), (1, .int a1), (2, .int a2), (3, .int c4), (4, .int c5), (5, .int c6), (6, .int c7)]) hx hb dX10_saidBy_18 hl (by decide) rfl (fun ls hl => ?_)
      refine lv_iconst (v := 0) hx hb dX10_saidBy_20 (by decide) ?_
      refine lv_istore (lv' := [(8, .int 0), (7, .int 0), (0, .ref (ad 0)), (1, .int a1), (2, .int a2), (3, .int c4), (4, .int c5), (5, .int c6), (6, .int c7)]) hx hb dX10_saidBy_21 hl (by decide) rfl (fun ls hl => ?_)
      obtain ⟨x10, hx10, hE⟩ := st_bo hE
      refine lp_walk (body := fun (s9 : Int32 × Int32) => b_X10_saidBy_23 S0 a1 a2 c7 s9.1 s9.2) (fun s9 => ∀ (ls : Array Slot) (H : Heap) (locs : List Loc), lv_has ls 9 [(0, .ref (ad 0)), (1, .int a1), (2, .int a2), (3, .int c4), (4, .int c5), (5, .int c6), (6, .int c7), (7, .int s9.1), (8, .int s9.2)] → rP D ad cI cB S0 H → rS ad s H locs → W p l e rmX10_saidBy s m args below meth c H locs 0 0 QQ (F0 m 23 ls [])) (fun x10 => ∀ (ls : Array Slot) (H : Heap) (locs : List Loc), lv_has ls 9 [(0, .ref (ad 0)), (1, .int a1), (2, .int a2), (3, .int c4), (4, .int c5), (5, .int c6), (6, .int c7), (7, .int x10)] → rP D ad cI cB S0 H → rS ad s H locs → W p l e rmX10_saidBy s m args below meth c H locs 0 0 QQ (F0 m 69 ls [])) ?_ _ _ _ hx10 ?_ ls H locs (lv_sub hl [2, 3, 4, 5, 6, 7, 8, 1, 0] rfl) hP hS
      · intro s9 t11 hE hKt11 ls H locs hl hP hS
        obtain ⟨c12, c13⟩ := s9
        replace hE : b_X10_saidBy_23 S0 a1 a2 c7 c12 c13 = some t11 := hE
        replace hl : lv_has ls 9 [(0, .ref (ad 0)), (1, .int a1), (2, .int a2), (3, .int c4), (4, .int c5), (5, .int c6), (6, .int c7), (7, .int c12), (8, .int c13)] := hl
        replace hP : rP D ad cI cB S0 H := hP
        unfold b_X10_saidBy_23 at hE
        refine lv_iload hx hb dX10_saidBy_23 (lv_at hl 8 rfl) ?_
        refine lv_aload_n hx hb dX10_saidBy_25 rfl (lv_at hl 0 rfl) ?_
        refine r_get (v := .int (ri S0 0 1)) hx hb hts (fun w h => wz_m (inX10 w h)) hown hK hP (q_Ref (ad := ad) (cI := cI) (cB := cB)) rfl 1 (by decide) (hts _ (wz_m tw_3_157)) (fun _ h9 => h9) rfl dX10_saidBy_26 ?_
        refine lv_icmp_ge (tgt := 69) hx hb dX10_saidBy_29 (by decide) (fun hc14 => ?_) (fun hc14 => ?_)
        · have hE := st_t hE hc14
          have hq := Option.some.inj hE
          subst hq
          exact hKt11 ls H locs (lv_sub hl [0, 1, 2, 3, 4, 5, 6, 7] rfl) hP hS
        · have hE := st_f hE hc14
          refine lv_iload hx hb dX10_saidBy_32 (lv_at hl 7 rfl) ?_
          refine lv_iload_n hx hb dX10_saidBy_34 rfl (lv_at hl 1 rfl) ?_
          refine lv_iload hx hb dX10_saidBy_35 (lv_at hl 8 rfl) ?_
          obtain ⟨r15, hCr15, hE⟩ := st_bo hE
          refine g_calli (va_runS (As := [.int a1, .int c13]) (rest := [.int c12]) ⟨hx, hb, hml, hown, hts⟩ (k_X10_isIn hij (S0 := S0) hCr15) (va_cwS 2 hts (wz_S tw_4_144 tw_4_145 tw_1_11 tw_4_146) rfl rfl rfl hdS_X10_isIn ⟨Nat.le_of_ble_eq_true rfl, Nat.le_of_ble_eq_true rfl⟩) (g_preS KR_st ZR_st hK hZ hP hS) rfl rfl hl.1 rfl (lv_room (Nat.le_of_ble_eq_true rfl)) dX10_saidBy_37 ⟨Nat.zero_le _, Nat.zero_le _⟩) hS (fun H locs hP hS => ?_)
          refine lv_if_eq (tgt := 59) hx hb dX10_saidBy_40 (by decide) (fun hc16 => ?_) (fun hc16 => ?_)
          · have hE := st_t hE hc16
            refine lv_iconst (v := 0) hx hb dX10_saidBy_59 (by decide) ?_
            refine lv_iadd hx hb dX10_saidBy_60 ?_
            obtain ⟨v17, ev17, hE⟩ := st_bv hE
            refine nm_i ev17 ?_
            refine lv_istore (lv' := [(7, .int v17), (0, .ref (ad 0)), (1, .int a1), (2, .int a2), (3, .int c4), (4, .int c5), (5, .int c6), (6, .int c7), (8, .int c13)]) hx hb dX10_saidBy_61 hl (by decide) rfl (fun ls hl => ?_)
            obtain ⟨v18, ev18, hE⟩ := st_bv hE
            refine lv_iinc (v := v18) (lv' := [(8, .int v18), (7, .int v17), (0, .ref (ad 0)), (1, .int a1), (2, .int a2), (3, .int c4), (4, .int c5), (5, .int c6), (6, .int c7)]) hx hb dX10_saidBy_63 hl (k := 8) rfl (by rw [ev18]; rfl) (by decide) rfl (fun ls hl => ?_)
            refine lv_goto (tgt := 23) hx hb dX10_saidBy_66 (by decide) ?_
            have hq := Option.some.inj hE
            subst hq
            exact hKt11 ls H locs (lv_sub hl [2, 3, 4, 5, 6, 7, 8, 1, 0] rfl) hP hS
          · have hE := st_f hE hc16
            refine lv_aload_n hx hb dX10_saidBy_43 rfl (lv_at hl 0 rfl) ?_
            refine lv_iload hx hb dX10_saidBy_44 (lv_at hl 8 rfl) ?_
            refine lv_iload_n hx hb dX10_saidBy_46 rfl (lv_at hl 2 rfl) ?_
            obtain ⟨r19, hCr19, hE⟩ := st_bo hE
            refine g_calli (va_runV (As := [.int c13, .int a2]) (rest := [.int c12]) ⟨hx, hb, hml, hown, hts⟩ (k_X10_tellsNow hij hCr19) (cwV 2 hts (wz_V tw_4_162 tw_4_164 tp_18 tw_1_11 tw_4_165) rfl rfl rfl hdV_X10_tellsNow ⟨Nat.le_of_ble_eq_true rfl, Nat.le_of_ble_eq_true rfl⟩) (g_preV KR_st ZR_st hK hZ hP hS hK.1 ((q_Ref (ad := ad) (cI := cI) (cB := cB))).1 (er_o (q_Ref (ad := ad) (cI := cI) (cB := cB))) rfl) rfl rfl hl.1 rfl (lv_room (Nat.le_of_ble_eq_true rfl)) dX10_saidBy_47 ⟨Nat.zero_le _, Nat.zero_le _⟩) hS (fun H locs hP hS => ?_)
            refine lv_iload hx hb dX10_saidBy_50 (lv_at hl 6 rfl) ?_
            refine lv_icmp_ne (tgt := 59) hx hb dX10_saidBy_52 (by decide) (fun hc20 => ?_) (fun hc20 => ?_)
            · have hE := st_f hE hc20
              refine lv_iconst (v := 0) hx hb dX10_saidBy_59 (by decide) ?_
              refine lv_iadd hx hb dX10_saidBy_60 ?_
              obtain ⟨v21, ev21, hE⟩ := st_bv hE
              refine nm_i ev21 ?_
              refine lv_istore (lv' := [(7, .int v21), (0, .ref (ad 0)), (1, .int a1), (2, .int a2), (3, .int c4), (4, .int c5), (5, .int c6), (6, .int c7), (8, .int c13)]) hx hb dX10_saidBy_61 hl (by decide) rfl (fun ls hl => ?_)
              obtain ⟨v22, ev22, hE⟩ := st_bv hE
              refine lv_iinc (v := v22) (lv' := [(8, .int v22), (7, .int v21), (0, .ref (ad 0)), (1, .int a1), (2, .int a2), (3, .int c4), (4, .int c5), (5, .int c6), (6, .int c7)]) hx hb dX10_saidBy_63 hl (k := 8) rfl (by rw [ev22]; rfl) (by decide) rfl (fun ls hl => ?_)
              refine lv_goto (tgt := 23) hx hb dX10_saidBy_66 (by decide) ?_
              have hq := Option.some.inj hE
              subst hq
              exact hKt11 ls H locs (lv_sub hl [2, 3, 4, 5, 6, 7, 8, 1, 0] rfl) hP hS
            · have hE := st_t hE hc20
              refine lv_iconst (v := 1) hx hb dX10_saidBy_55 (by decide) ?_
              refine lv_goto (tgt := 60) hx hb dX10_saidBy_56 (by decide) ?_
              refine lv_iadd hx hb dX10_saidBy_60 ?_
              obtain ⟨v23, ev23, hE⟩ := st_bv hE
              refine nm_i ev23 ?_
              refine lv_istore (lv' := [(7, .int v23), (0, .ref (ad 0)), (1, .int a1), (2, .int a2), (3, .int c4), (4, .int c5), (5, .int c6), (6, .int c7), (8, .int c13)]) hx hb dX10_saidBy_61 hl (by decide) rfl (fun ls hl => ?_)
              obtain ⟨v24, ev24, hE⟩ := st_bv hE
              refine lv_iinc (v := v24) (lv' := [(8, .int v24), (7, .int v23), (0, .ref (ad 0)), (1, .int a1), (2, .int a2), (3, .int c4), (4, .int c5), (5, .int c6), (6, .int c7)]) hx hb dX10_saidBy_63 hl (k := 8) rfl (by rw [ev24]; rfl) (by decide) rfl (fun ls hl => ?_)
              refine lv_goto (tgt := 23) hx hb dX10_saidBy_66 (by decide) ?_
              have hq := Option.some.inj hE
              subst hq
              exact hKt11 ls H locs (lv_sub hl [2, 3, 4, 5, 6, 7, 8, 1, 0] rfl) hP hS
      · intro ls H locs hl hP hS
        refine lv_iload hx hb dX10_saidBy_69 (lv_at hl 7 rfl) ?_
        refine lv_iload hx hb dX10_saidBy_71 (lv_at hl 4 rfl) ?_
        obtain ⟨q25, hq25, hE⟩ := st_bo hE
        have J26 : ∀ (ls : Array Slot) (H : Heap) (locs : List Loc), lv_has ls 9 [(0, .ref (ad 0)), (1, .int a1), (2, .int a2), (3, .int c4), (4, .int c5), (6, .int c7), (7, .int x10)] → rP D ad cI cB S0 H → rS ad s H locs → W p l e rmX10_saidBy s m args below meth c H locs 0 0 QQ (F0 m 95 ls [.int q25]) := by
          intro ls H locs hl hP hS
          refine lv_istore (lv' := [(5, .int q25), (0, .ref (ad 0)), (1, .int a1), (2, .int a2), (3, .int c4), (4, .int c5), (6, .int c7), (7, .int x10)]) hx hb dX10_saidBy_95 hl (by decide) rfl (fun ls hl => ?_)
          refine lv_iload hx hb dX10_saidBy_97 (lv_at hl 7 rfl) ?_
          refine lv_iload hx hb dX10_saidBy_99 (lv_at hl 5 rfl) ?_
          obtain ⟨q29, hq29, hE⟩ := st_bo hE
          have J30 : ∀ (ls : Array Slot) (H : Heap) (locs : List Loc), lv_has ls 9 [(0, .ref (ad 0)), (1, .int a1), (2, .int a2), (4, .int c5), (5, .int q25), (6, .int c7), (7, .int x10)] → rP D ad cI cB S0 H → rS ad s H locs → W p l e rmX10_saidBy s m args below meth c H locs 0 0 QQ (F0 m 110 ls [.int q29]) := by
            intro ls H locs hl hP hS
            refine lv_istore_n (lv' := [(3, .int q29), (0, .ref (ad 0)), (1, .int a1), (2, .int a2), (4, .int c5), (5, .int q25), (6, .int c7), (7, .int x10)]) hx hb dX10_saidBy_110 rfl hl (by decide) rfl (fun ls hl => ?_)
            refine lv_iload hx hb dX10_saidBy_111 (lv_at hl 7 rfl) ?_
            refine lv_iload hx hb dX10_saidBy_113 (lv_at hl 4 rfl) ?_
            refine lv_icmp_le (tgt := 123) hx hb dX10_saidBy_115 (by decide) (fun hc32 => ?_) (fun hc32 => ?_)
            · have hE := st_t hE hc32
              refine lv_iload hx hb dX10_saidBy_123 (lv_at hl 4 rfl) ?_
              refine lv_istore (lv' := [(4, .int c5), (3, .int q29), (0, .ref (ad 0)), (1, .int a1), (2, .int a2), (5, .int q25), (6, .int c7), (7, .int x10)]) hx hb dX10_saidBy_125 hl (by decide) rfl (fun ls hl => ?_)
              obtain ⟨v33, ev33, hE⟩ := st_bv hE
              refine lv_iinc (v := v33) (lv' := [(6, .int v33), (4, .int c5), (3, .int q29), (0, .ref (ad 0)), (1, .int a1), (2, .int a2), (5, .int q25), (7, .int x10)]) hx hb dX10_saidBy_127 hl (k := 6) rfl (by rw [ev33]; rfl) (by decide) rfl (fun ls hl => ?_)
              refine lv_goto (tgt := 11) hx hb dX10_saidBy_130 (by decide) ?_
              have hq := Option.some.inj hE
              subst hq
              exact hKt3 ls H locs (lv_sub hl [3, 4, 5, 2, 1, 6, 0] rfl) hP hS
            · have hE := st_f hE hc32
              refine lv_iload hx hb dX10_saidBy_118 (lv_at hl 7 rfl) ?_
              refine lv_goto (tgt := 125) hx hb dX10_saidBy_120 (by decide) ?_
              refine lv_istore (lv' := [(4, .int x10), (3, .int q29), (0, .ref (ad 0)), (1, .int a1), (2, .int a2), (5, .int q25), (6, .int c7), (7, .int x10)]) hx hb dX10_saidBy_125 hl (by decide) rfl (fun ls hl => ?_)
              obtain ⟨v34, ev34, hE⟩ := st_bv hE
              refine lv_iinc (v := v34) (lv' := [(6, .int v34), (4, .int x10), (3, .int q29), (0, .ref (ad 0)), (1, .int a1), (2, .int a2), (5, .int q25), (7, .int x10)]) hx hb dX10_saidBy_127 hl (k := 6) rfl (by rw [ev34]; rfl) (by decide) rfl (fun ls hl => ?_)
              refine lv_goto (tgt := 11) hx hb dX10_saidBy_130 (by decide) ?_
              have hq := Option.some.inj hE
              subst hq
              exact hKt3 ls H locs (lv_sub hl [3, 4, 5, 2, 1, 6, 0] rfl) hP hS
          replace hE := hq29
          refine lv_icmp_le (tgt := 109) hx hb dX10_saidBy_101 (by decide) (fun hc31 => ?_) (fun hc31 => ?_)
          · have hE := st_t hE hc31
            refine lv_iload_n hx hb dX10_saidBy_109 rfl (lv_at hl 4 rfl) ?_
            have hq := Option.some.inj hE
            subst hq
            exact J30 ls H locs (lv_sub hl [1, 2, 3, 5, 0, 6, 7] rfl) hP hS
          · have hE := st_f hE hc31
            refine lv_iload hx hb dX10_saidBy_104 (lv_at hl 6 rfl) ?_
            refine lv_goto (tgt := 110) hx hb dX10_saidBy_106 (by decide) ?_
            have hq := Option.some.inj hE
            subst hq
            exact J30 ls H locs (lv_sub hl [1, 2, 3, 5, 0, 6, 7] rfl) hP hS
        replace hE := hq25
        refine lv_icmp_le (tgt := 81) hx hb dX10_saidBy_73 (by decide) (fun hc27 => ?_) (fun hc27 => ?_)
        · have hE := st_t hE hc27
          refine lv_iload hx hb dX10_saidBy_81 (lv_at hl 7 rfl) ?_
          refine lv_iload hx hb dX10_saidBy_83 (lv_at hl 5 rfl) ?_
          refine lv_icmp_le (tgt := 93) hx hb dX10_saidBy_85 (by decide) (fun hc28 => ?_) (fun hc28 => ?_)
          · have hE := st_t hE hc28
            refine lv_iload hx hb dX10_saidBy_93 (lv_at hl 5 rfl) ?_
            have hq := Option.some.inj hE
            subst hq
            exact J26 ls H locs (lv_sub hl [0, 1, 2, 3, 4, 6, 7] rfl) hP hS
          · have hE := st_f hE hc28
            refine lv_iload hx hb dX10_saidBy_88 (lv_at hl 7 rfl) ?_
            refine lv_goto (tgt := 95) hx hb dX10_saidBy_90 (by decide) ?_
            have hq := Option.some.inj hE
            subst hq
            exact J26 ls H locs (lv_sub hl [0, 1, 2, 3, 4, 6, 7] rfl) hP hS
        · have hE := st_f hE hc27
          refine lv_iload hx hb dX10_saidBy_76 (lv_at hl 4 rfl) ?_
          refine lv_goto (tgt := 95) hx hb dX10_saidBy_78 (by decide) ?_
          have hq := Option.some.inj hE
          subst hq
          exact J26 ls H locs (lv_sub hl [0, 1, 2, 3, 4, 6, 7] rfl) hP hS
  · intro ls H locs hl hP hS
    refine lv_iload hx hb dX10_saidBy_133 (lv_at hl 1 rfl) ?_
    refine lv_iload hx hb dX10_saidBy_135 (lv_at hl 2 rfl) ?_
    refine lv_icmp_le (tgt := 144) hx hb dX10_saidBy_137 (by decide) (fun hc35 => ?_) (fun hc35 => ?_)
    · have hE := st_t hE hc35
      refine lv_iconst (v := (-1)) hx hb dX10_saidBy_144 (by decide) ?_
      replace hE := Option.some.inj hE
      subst hQQ
      exact g_iret hx hb hr hlocks hP hS hE rfl dX10_saidBy_145
    · have hE := st_f hE hc35
      refine lv_iload_n hx hb dX10_saidBy_140 rfl (lv_at hl 0 rfl) ?_
      refine lv_goto (tgt := 145) hx hb dX10_saidBy_141 (by decide) ?_
      replace hE := Option.some.inj hE
      subst hQQ
      exact g_iret hx hb hr hlocks hP hS hE rfl dX10_saidBy_145
def b_X10_lay_2 (c4 : Int32) (c5 : SR) : Option ((Int32 × SR) ⊕ (SR)) :=
  if 20 ≤ c4 then (some (.inr c5)) else (gd (inb c4 20) (gd (inb c4 20) (bv (ui c5 18 (c4.toNatClampNeg) (ri c5 2 (c4.toNatClampNeg))) (fun S9 => bv (c4 + 1) (fun (v10 : Int32) => some (.inl (v10, S9)))))))
def b_X10_lay_28 (c14 : Int32) (c15 : SR) : Option ((Int32 × SR) ⊕ (SR)) :=
  if 5 ≤ c14 then (some (.inr c15)) else (gd (inb c14 5) (gd (inb c14 5) (bv (ui c15 19 (c14.toNatClampNeg) (ri c15 3 (c14.toNatClampNeg))) (fun S19 => bv (c14 + 1) (fun (v20 : Int32) => some (.inl (v20, S19)))))))
def f_X10_lay (S0 : SR) : Option (SR) :=
  bo (lp (fun (s1 : Int32 × SR) => b_X10_lay_2 s1.1 s1.2) 5000 (0, S0)) (fun (x2 : SR) => bo (lp (fun (s11 : Int32 × SR) => b_X10_lay_28 s11.1 s11.2) 5000 (0, x2)) (fun (x12 : SR) => some x12))
abbrev rmX10_lay : Room := { frames := 0, cells := 0, slots := 0, locals := 0 }
theorem hdV_X10_lay : yX10_lay.cls = "WitnessWallModel" ∧ yX10_lay.cls ≠ "java/lang/invoke/MethodHandle" ∧ yX10_lay.cls ≠ "java/lang/invoke/VarHandle" ∧ (parseMethodDescriptor yX10_lay.desc).map (fun d => d.parameters.length) = some 0 := by decide +kernel
set_option maxHeartbeats 4000000 in
set_option maxRecDepth 100000 in
theorem k_X10_lay {l : Launch} {D : va_G} {ad : Nat → Nat} {cI cB : ClassId} (hij : inj 31 ad)  {S0 : SR} {Sr : SR} (hE : f_X10_lay S0 = some Sr) {sz : Nat} : Met l yX10_lay (wz yX10_lay cX10_lay 2 none) rmX10_lay (PG 31 ad (er ad cI cB) D (KR D cI cB) ZR [.ref (ad 0)] S0 sz) (QGv 31 ad (er ad cI cB) D Sr sz) 0 0 (AD 31 ad sz) := by
  unfold f_X10_lay at hE
  refine g_start (cc := cX10_lay) (maxL := 2) (ret := none) (Qc := fun sz => QGv 31 ad (er ad cI cB) D Sr sz) (by decide) rfl (Nat.le_of_ble_eq_true rfl) ?_
  intro p e s m args below meth c H locs ls hx hb hr hts hown hlocks hml hK hZ hP hS hl
  replace hl : lv_has ls 2 [(0, .ref (ad 0))] := hl
  obtain ⟨QQ, hQQ⟩ : ∃ q, q = MQ below (QGv 31 ad (er ad cI cB) D Sr s.heap.size) args s 0 0 (AD 31 ad s.heap.size) := ⟨_, rfl⟩
  rw [← hQQ]
  refine lv_iconst (v := 0) hx hb dX10_lay_0 (by decide) ?_
  refine lv_istore_n (lv' := [(1, .int 0), (0, .ref (ad 0))]) hx hb dX10_lay_1 rfl hl (by decide) rfl (fun ls hl => ?_)
  obtain ⟨x2, hx2, hE⟩ := st_bo hE
  refine lp_walk (body := fun (s1 : Int32 × SR) => b_X10_lay_2 s1.1 s1.2) (fun s1 => ∀ (ls : Array Slot) (H : Heap) (locs : List Loc), lv_has ls 2 [(0, .ref (ad 0)), (1, .int s1.1)] → rP D ad cI cB s1.2 H → rS ad s H locs → W p l e rmX10_lay s m args below meth c H locs 0 0 QQ (F0 m 2 ls [])) (fun x2 => ∀ (ls : Array Slot) (H : Heap) (locs : List Loc), lv_has ls 2 [(0, .ref (ad 0))] → rP D ad cI cB x2 H → rS ad s H locs → W p l e rmX10_lay s m args below meth c H locs 0 0 QQ (F0 m 26 ls [])) ?_ _ _ _ hx2 ?_ ls H locs (lv_sub hl [1, 0] rfl) hP hS
  · intro s1 t3 hE hKt3 ls H locs hl hP hS
    obtain ⟨c4, c5⟩ := s1
    replace hE : b_X10_lay_2 c4 c5 = some t3 := hE
    replace hl : lv_has ls 2 [(0, .ref (ad 0)), (1, .int c4)] := hl
    replace hP : rP D ad cI cB c5 H := hP
    unfold b_X10_lay_2 at hE
    refine lv_iload_n hx hb dX10_lay_2 rfl (lv_at hl 1 rfl) ?_
    refine lv_bipush (v := 20) hx hb dX10_lay_3 (by decide) ?_
    refine lv_icmp_ge (tgt := 26) hx hb dX10_lay_5 (by decide) (fun hc6 => ?_) (fun hc6 => ?_)
    · have hE := st_t hE hc6
      have hq := Option.some.inj hE
      subst hq
      exact hKt3 ls H locs (lv_sub hl [0] rfl) hP hS
    · have hE := st_f hE hc6
      refine lv_aload_n hx hb dX10_lay_8 rfl (lv_at hl 0 rfl) ?_
      refine r_get (v := .ref (ad 18)) hx hb hts (fun w h => wz_m (inX10 w h)) hown hK hP (q_Ref (ad := ad) (cI := cI) (cB := cB)) rfl 28 (by decide) (hts _ (wz_m tw_3_184)) (fun _ h9 => h9) rfl dX10_lay_9 ?_
      refine lv_iload_n hx hb dX10_lay_12 rfl (lv_at hl 1 rfl) ?_
      refine lv_aload_n hx hb dX10_lay_13 rfl (lv_at hl 0 rfl) ?_
      refine r_get (v := .ref (ad 2)) hx hb hts (fun w h => wz_m (inX10 w h)) hown hK hP (q_Ref (ad := ad) (cI := cI) (cB := cB)) rfl 3 (by decide) (hts _ (wz_m tw_3_159)) (fun _ h9 => h9) rfl dX10_lay_14 ?_
      refine lv_iload_n hx hb dX10_lay_17 rfl (lv_at hl 1 rfl) ?_
      obtain ⟨hi7, hE⟩ := st_gd hE
      refine r_iald hx hb hK hP qr_2 hi7 dX10_lay_18 ?_
      obtain ⟨hi8, hE⟩ := st_gd hE
      refine r_iast hij hx hb hK hP hS qr_18 hi8 dX10_lay_19 (fun H locs hP hS => ?_)
      obtain ⟨S9, eS9, hE⟩ := st_bv hE
      rw [← eS9] at hP
      obtain ⟨v10, ev10, hE⟩ := st_bv hE
      refine lv_iinc (v := v10) (lv' := [(1, .int v10), (0, .ref (ad 0))]) hx hb dX10_lay_20 hl (k := 1) rfl (by rw [ev10]; rfl) (by decide) rfl (fun ls hl => ?_)
      refine lv_goto (tgt := 2) hx hb dX10_lay_23 (by decide) ?_
      have hq := Option.some.inj hE
      subst hq
      exact hKt3 ls H locs (lv_sub hl [1, 0] rfl) hP hS
  · intro ls H locs hl hP hS
    refine lv_iconst (v := 0) hx hb dX10_lay_26 (by decide) ?_
    refine lv_istore_n (lv' := [(1, .int 0), (0, .ref (ad 0))]) hx hb dX10_lay_27 rfl hl (by decide) rfl (fun ls hl => ?_)
    obtain ⟨x12, hx12, hE⟩ := st_bo hE
    refine lp_walk (body := fun (s11 : Int32 × SR) => b_X10_lay_28 s11.1 s11.2) (fun s11 => ∀ (ls : Array Slot) (H : Heap) (locs : List Loc), lv_has ls 2 [(0, .ref (ad 0)), (1, .int s11.1)] → rP D ad cI cB s11.2 H → rS ad s H locs → W p l e rmX10_lay s m args below meth c H locs 0 0 QQ (F0 m 28 ls [])) (fun x12 => ∀ (ls : Array Slot) (H : Heap) (locs : List Loc), lv_has ls 2 [] → rP D ad cI cB x12 H → rS ad s H locs → W p l e rmX10_lay s m args below meth c H locs 0 0 QQ (F0 m 51 ls [])) ?_ _ _ _ hx12 ?_ ls H locs (lv_sub hl [1, 0] rfl) hP hS
    · intro s11 t13 hE hKt13 ls H locs hl hP hS
      obtain ⟨c14, c15⟩ := s11
      replace hE : b_X10_lay_28 c14 c15 = some t13 := hE
      replace hl : lv_has ls 2 [(0, .ref (ad 0)), (1, .int c14)] := hl
      replace hP : rP D ad cI cB c15 H := hP
      unfold b_X10_lay_28 at hE
      refine lv_iload_n hx hb dX10_lay_28 rfl (lv_at hl 1 rfl) ?_
      refine lv_iconst (v := 5) hx hb dX10_lay_29 (by decide) ?_
      refine lv_icmp_ge (tgt := 51) hx hb dX10_lay_30 (by decide) (fun hc16 => ?_) (fun hc16 => ?_)
      · have hE := st_t hE hc16
        have hq := Option.some.inj hE
        subst hq
        exact hKt13 ls H locs (lv_sub hl [] rfl) hP hS
      · have hE := st_f hE hc16
        refine lv_aload_n hx hb dX10_lay_33 rfl (lv_at hl 0 rfl) ?_
        refine r_get (v := .ref (ad 19)) hx hb hts (fun w h => wz_m (inX10 w h)) hown hK hP (q_Ref (ad := ad) (cI := cI) (cB := cB)) rfl 29 (by decide) (hts _ (wz_m tw_3_185)) (fun _ h9 => h9) rfl dX10_lay_34 ?_
        refine lv_iload_n hx hb dX10_lay_37 rfl (lv_at hl 1 rfl) ?_
        refine lv_aload_n hx hb dX10_lay_38 rfl (lv_at hl 0 rfl) ?_
        refine r_get (v := .ref (ad 3)) hx hb hts (fun w h => wz_m (inX10 w h)) hown hK hP (q_Ref (ad := ad) (cI := cI) (cB := cB)) rfl 4 (by decide) (hts _ (wz_m tw_3_160)) (fun _ h9 => h9) rfl dX10_lay_39 ?_
        refine lv_iload_n hx hb dX10_lay_42 rfl (lv_at hl 1 rfl) ?_
        obtain ⟨hi17, hE⟩ := st_gd hE
        refine r_iald hx hb hK hP qr_3 hi17 dX10_lay_43 ?_
        obtain ⟨hi18, hE⟩ := st_gd hE
        refine r_iast hij hx hb hK hP hS qr_19 hi18 dX10_lay_44 (fun H locs hP hS => ?_)
        obtain ⟨S19, eS19, hE⟩ := st_bv hE
        rw [← eS19] at hP
        obtain ⟨v20, ev20, hE⟩ := st_bv hE
        refine lv_iinc (v := v20) (lv' := [(1, .int v20), (0, .ref (ad 0))]) hx hb dX10_lay_45 hl (k := 1) rfl (by rw [ev20]; rfl) (by decide) rfl (fun ls hl => ?_)
        refine lv_goto (tgt := 28) hx hb dX10_lay_48 (by decide) ?_
        have hq := Option.some.inj hE
        subst hq
        exact hKt13 ls H locs (lv_sub hl [1, 0] rfl) hP hS
    · intro ls H locs hl hP hS
      replace hE := Option.some.inj hE
      subst hQQ
      exact g_vret hx hb hr hlocks hP hS hE dX10_lay_51
def f_X10_takes (a1 : Int32) (a2 : Int32) : Option (Int32) :=
  if a1 = 2 then (some 0) else (if a1 = 4 then (if a2 = 0 then (some 1) else (some 0)) else (some 1))
abbrev rmX10_takes : Room := { frames := 0, cells := 0, slots := 0, locals := 0 }
theorem hdS_X10_takes : yX10_takes.cls ≠ "java/lang/invoke/MethodHandle" ∧ yX10_takes.cls ≠ "java/lang/invoke/VarHandle" ∧ (parseMethodDescriptor yX10_takes.desc).map (fun d => d.parameters.length) = some 2 := by decide +kernel
set_option maxHeartbeats 4000000 in
set_option maxRecDepth 100000 in
theorem k_X10_takes {l : Launch} {D : va_G} {ad : Nat → Nat} {cI cB : ClassId} (hij : inj 31 ad)  {S0 : SR} {a1 : Int32} {a2 : Int32} {r : Int32} (hE : f_X10_takes a1 a2 = some r) {sz : Nat} : Met l yX10_takes (wz yX10_takes cX10_takes 2 (some FieldType.boolean)) rmX10_takes (PG 31 ad (er ad cI cB) D (KR D cI cB) ZR [.int a1, .int a2] S0 sz) (QGi 31 ad (er ad cI cB) D r S0 sz) 0 0 (AD 31 ad sz) := by
  unfold f_X10_takes at hE
  refine g_start (cc := cX10_takes) (maxL := 2) (ret := (some FieldType.boolean)) (Qc := fun sz => QGi 31 ad (er ad cI cB) D r S0 sz) (by decide) rfl (Nat.le_of_ble_eq_true rfl) ?_
  intro p e s m args below meth c H locs ls hx hb hr hts hown hlocks hml hK hZ hP hS hl
  replace hl : lv_has ls 2 [(0, .int a1), (1, .int a2)] := hl
  obtain ⟨QQ, hQQ⟩ : ∃ q, q = MQ below (QGi 31 ad (er ad cI cB) D r S0 s.heap.size) args s 0 0 (AD 31 ad s.heap.size) := ⟨_, rfl⟩
  rw [← hQQ]
  refine lv_iload_n hx hb dX10_takes_0 rfl (lv_at hl 0 rfl) ?_
  refine lv_iconst (v := 2) hx hb dX10_takes_1 (by decide) ?_
  refine lv_icmp_eq (tgt := 18) hx hb dX10_takes_2 (by decide) (fun hc1 => ?_) (fun hc1 => ?_)
  · have hE := st_t hE hc1
    refine lv_iconst (v := 0) hx hb dX10_takes_18 (by decide) ?_
    replace hE := Option.some.inj hE
    subst hQQ
    exact g_zret hx hb hr hlocks hP hS ((by decide : (0 : Int32) &&& 1 = 0).trans hE) rfl dX10_takes_19
  · have hE := st_f hE hc1
    refine lv_iload_n hx hb dX10_takes_5 rfl (lv_at hl 0 rfl) ?_
    refine lv_iconst (v := 4) hx hb dX10_takes_6 (by decide) ?_
    refine lv_icmp_ne (tgt := 14) hx hb dX10_takes_7 (by decide) (fun hc2 => ?_) (fun hc2 => ?_)
    · have hE := st_f hE hc2
      refine lv_iconst (v := 1) hx hb dX10_takes_14 (by decide) ?_
      refine lv_goto (tgt := 19) hx hb dX10_takes_15 (by decide) ?_
      replace hE := Option.some.inj hE
      subst hQQ
      exact g_zret hx hb hr hlocks hP hS ((by decide : (1 : Int32) &&& 1 = 1).trans hE) rfl dX10_takes_19
    · have hE := st_t hE hc2
      refine lv_iload_n hx hb dX10_takes_10 rfl (lv_at hl 1 rfl) ?_
      refine lv_if_ne (tgt := 18) hx hb dX10_takes_11 (by decide) (fun hc3 => ?_) (fun hc3 => ?_)
      · have hE := st_f hE hc3
        refine lv_iconst (v := 0) hx hb dX10_takes_18 (by decide) ?_
        replace hE := Option.some.inj hE
        subst hQQ
        exact g_zret hx hb hr hlocks hP hS ((by decide : (0 : Int32) &&& 1 = 0).trans hE) rfl dX10_takes_19
      · have hE := st_t hE hc3
        refine lv_iconst (v := 1) hx hb dX10_takes_14 (by decide) ?_
        refine lv_goto (tgt := 19) hx hb dX10_takes_15 (by decide) ?_
        replace hE := Option.some.inj hE
        subst hQQ
        exact g_zret hx hb hr hlocks hP hS ((by decide : (1 : Int32) &&& 1 = 1).trans hE) rfl dX10_takes_19
def f_X10_goes (a1 : Int32) (a2 : Int32) (a3 : Int32) : Option (Int32) :=
  if a2 = a3 then (some 1) else (if a1 = 1 then (some 1) else (if a1 = 3 then (if (a2 / 4) = (a3 / 4) then (some 1) else (some 0)) else (some 0)))
abbrev rmX10_goes : Room := { frames := 0, cells := 0, slots := 0, locals := 0 }
theorem hdS_X10_goes : yX10_goes.cls ≠ "java/lang/invoke/MethodHandle" ∧ yX10_goes.cls ≠ "java/lang/invoke/VarHandle" ∧ (parseMethodDescriptor yX10_goes.desc).map (fun d => d.parameters.length) = some 3 := by decide +kernel
set_option maxHeartbeats 4000000 in
set_option maxRecDepth 100000 in
theorem k_X10_goes {l : Launch} {D : va_G} {ad : Nat → Nat} {cI cB : ClassId} (hij : inj 31 ad)  {S0 : SR} {a1 : Int32} {a2 : Int32} {a3 : Int32} {r : Int32} (hE : f_X10_goes a1 a2 a3 = some r) {sz : Nat} : Met l yX10_goes (wz yX10_goes cX10_goes 3 (some FieldType.boolean)) rmX10_goes (PG 31 ad (er ad cI cB) D (KR D cI cB) ZR [.int a1, .int a2, .int a3] S0 sz) (QGi 31 ad (er ad cI cB) D r S0 sz) 0 0 (AD 31 ad sz) := by
  unfold f_X10_goes at hE
  refine g_start (cc := cX10_goes) (maxL := 3) (ret := (some FieldType.boolean)) (Qc := fun sz => QGi 31 ad (er ad cI cB) D r S0 sz) (by decide) rfl (Nat.le_of_ble_eq_true rfl) ?_
  intro p e s m args below meth c H locs ls hx hb hr hts hown hlocks hml hK hZ hP hS hl
  replace hl : lv_has ls 3 [(0, .int a1), (1, .int a2), (2, .int a3)] := hl
  obtain ⟨QQ, hQQ⟩ : ∃ q, q = MQ below (QGi 31 ad (er ad cI cB) D r S0 s.heap.size) args s 0 0 (AD 31 ad s.heap.size) := ⟨_, rfl⟩
  rw [← hQQ]
  refine lv_iload_n hx hb dX10_goes_0 rfl (lv_at hl 1 rfl) ?_
  refine lv_iload_n hx hb dX10_goes_1 rfl (lv_at hl 2 rfl) ?_
  refine lv_icmp_eq (tgt := 24) hx hb dX10_goes_2 (by decide) (fun hc1 => ?_) (fun hc1 => ?_)
  · have hE := st_t hE hc1
    refine lv_iconst (v := 1) hx hb dX10_goes_24 (by decide) ?_
    refine lv_goto (tgt := 29) hx hb dX10_goes_25 (by decide) ?_
    replace hE := Option.some.inj hE
    subst hQQ
    exact g_zret hx hb hr hlocks hP hS ((by decide : (1 : Int32) &&& 1 = 1).trans hE) rfl dX10_goes_29
  · have hE := st_f hE hc1
    refine lv_iload_n hx hb dX10_goes_5 rfl (lv_at hl 0 rfl) ?_
    refine lv_iconst (v := 1) hx hb dX10_goes_6 (by decide) ?_
    refine lv_icmp_eq (tgt := 24) hx hb dX10_goes_7 (by decide) (fun hc2 => ?_) (fun hc2 => ?_)
    · have hE := st_t hE hc2
      refine lv_iconst (v := 1) hx hb dX10_goes_24 (by decide) ?_
      refine lv_goto (tgt := 29) hx hb dX10_goes_25 (by decide) ?_
      replace hE := Option.some.inj hE
      subst hQQ
      exact g_zret hx hb hr hlocks hP hS ((by decide : (1 : Int32) &&& 1 = 1).trans hE) rfl dX10_goes_29
    · have hE := st_f hE hc2
      refine lv_iload_n hx hb dX10_goes_10 rfl (lv_at hl 0 rfl) ?_
      refine lv_iconst (v := 3) hx hb dX10_goes_11 (by decide) ?_
      refine lv_icmp_ne (tgt := 28) hx hb dX10_goes_12 (by decide) (fun hc3 => ?_) (fun hc3 => ?_)
      · have hE := st_f hE hc3
        refine lv_iconst (v := 0) hx hb dX10_goes_28 (by decide) ?_
        replace hE := Option.some.inj hE
        subst hQQ
        exact g_zret hx hb hr hlocks hP hS ((by decide : (0 : Int32) &&& 1 = 0).trans hE) rfl dX10_goes_29
      · have hE := st_t hE hc3
        refine lv_iload_n hx hb dX10_goes_15 rfl (lv_at hl 1 rfl) ?_
        refine lv_iconst (v := 4) hx hb dX10_goes_16 (by decide) ?_
        refine lv_idiv hx hb dX10_goes_17 (by decide) ?_
        refine lv_iload_n hx hb dX10_goes_18 rfl (lv_at hl 2 rfl) ?_
        refine lv_iconst (v := 4) hx hb dX10_goes_19 (by decide) ?_
        refine lv_idiv hx hb dX10_goes_20 (by decide) ?_
        refine lv_icmp_ne (tgt := 28) hx hb dX10_goes_21 (by decide) (fun hc4 => ?_) (fun hc4 => ?_)
        · have hE := st_f hE hc4
          refine lv_iconst (v := 0) hx hb dX10_goes_28 (by decide) ?_
          replace hE := Option.some.inj hE
          subst hQQ
          exact g_zret hx hb hr hlocks hP hS ((by decide : (0 : Int32) &&& 1 = 0).trans hE) rfl dX10_goes_29
        · have hE := st_t hE hc4
          refine lv_iconst (v := 1) hx hb dX10_goes_24 (by decide) ?_
          refine lv_goto (tgt := 29) hx hb dX10_goes_25 (by decide) ?_
          replace hE := Option.some.inj hE
          subst hQQ
          exact g_zret hx hb hr hlocks hP hS ((by decide : (1 : Int32) &&& 1 = 1).trans hE) rfl dX10_goes_29
def b_X10_showNow_27 (a1 : Int32) (a2 : Int32) (c8 : Int32) (c9 : Int32) (c10 : SR) : Option ((Int32 × Int32 × SR) ⊕ (Int32 × SR)) :=
  gd (inb a1 5) (if (ri c10 3 (a1.toNatClampNeg)) ≤ c9 then (some (.inr (c8, c10))) else (gd (inb a1 5) (gd (inb ((4 * a1) + c9) 20) (bo (f_X10_goes (ri c10 1 (a1.toNatClampNeg)) (ri c10 2 (((4 * a1) + c9).toNatClampNeg)) a2) (fun (r15 : Int32) => if r15 = 0 then (gd (inb ((4 * a1) + c9) 20) (gd (inb ((4 * a1) + c8) 20) (bv (ui c10 2 (((4 * a1) + c8).toNatClampNeg) (ri c10 2 (((4 * a1) + c9).toNatClampNeg))) (fun S20 => bv (c8 + 1) (fun (v21 : Int32) => bv (c9 + 1) (fun (v22 : Int32) => some (.inl (v21, v22, S20)))))))) else (bv (c9 + 1) (fun (v17 : Int32) => some (.inl (c8, v17, c10)))))))))
def b_X10_showNow_125 (a1 : Int32) (c32 : Int32) (c33 : SR) : Option ((Int32 × SR) ⊕ (SR)) :=
  if 3 ≤ c32 then (some (.inr c33)) else (gd (inb (((4 * a1) + c32) + 1) 20) (gd (inb ((4 * a1) + c32) 20) (bv (ui c33 2 (((4 * a1) + c32).toNatClampNeg) (ri c33 2 ((((4 * a1) + c32) + 1).toNatClampNeg))) (fun S37 => bv (c32 + 1) (fun (v38 : Int32) => some (.inl (v38, S37)))))))
def f_X10_showNow (S0 : SR) (a1 : Int32) (a2 : Int32) : Option (Int32 × SR) :=
  gd (inb a1 5) (bo (f_X10_hasThing S0 a1 (a2 / 4)) (fun (r2 : Int32) => bo (f_X10_takes (ri S0 1 (a1.toNatClampNeg)) r2) (fun (r3 : Int32) => if r3 = 0 then (some (0, S0)) else (bo (lp (fun (s5 : Int32 × Int32 × SR) => b_X10_showNow_27 a1 a2 s5.1 s5.2.1 s5.2.2) 5000 (0, 0, S0)) (fun (x6 : Int32 × SR) => gd (inb ((4 * a1) + x6.1) 20) (bv (ui x6.2 2 (((4 * a1) + x6.1).toNatClampNeg) a2) (fun S24 => gd (inb a1 5) (bv (ui S24 3 (a1.toNatClampNeg) (x6.1 + 1)) (fun S26 => gd (inb a1 5) (if (ri S26 3 (a1.toNatClampNeg)) ≤ 3 then (some (1, S26)) else (bo (lp (fun (s29 : Int32 × SR) => b_X10_showNow_125 a1 s29.1 s29.2) 5000 (0, S26)) (fun (x30 : SR) => gd (inb a1 5) (bv (ui x30 3 (a1.toNatClampNeg) 3) (fun S40 => some (1, S40)))))))))))))))
abbrev rmX10_showNow : Room := { frames := 2, cells := 0, slots := 0, locals := 46 }
theorem hdV_X10_showNow : yX10_showNow.cls = "WitnessWallModel" ∧ yX10_showNow.cls ≠ "java/lang/invoke/MethodHandle" ∧ yX10_showNow.cls ≠ "java/lang/invoke/VarHandle" ∧ (parseMethodDescriptor yX10_showNow.desc).map (fun d => d.parameters.length) = some 2 := by decide +kernel
set_option maxHeartbeats 4000000 in
set_option maxRecDepth 100000 in
theorem k_X10_showNow {l : Launch} {D : va_G} {ad : Nat → Nat} {cI cB : ClassId} (hij : inj 31 ad)  {S0 : SR} {a1 : Int32} {a2 : Int32} {r : Int32} {Sr : SR} (hE : f_X10_showNow S0 a1 a2 = some (r, Sr)) {sz : Nat} : Met l yX10_showNow (wz yX10_showNow cX10_showNow 5 (some FieldType.boolean)) rmX10_showNow (PG 31 ad (er ad cI cB) D (KR D cI cB) ZR [.ref (ad 0), .int a1, .int a2] S0 sz) (QGi 31 ad (er ad cI cB) D r Sr sz) 0 0 (AD 31 ad sz) := by
  unfold f_X10_showNow at hE
  refine g_start (cc := cX10_showNow) (maxL := 5) (ret := (some FieldType.boolean)) (Qc := fun sz => QGi 31 ad (er ad cI cB) D r Sr sz) (by decide) rfl (Nat.le_of_ble_eq_true rfl) ?_
  intro p e s m args below meth c H locs ls hx hb hr hts hown hlocks hml hK hZ hP hS hl
  replace hl : lv_has ls 5 [(0, .ref (ad 0)), (1, .int a1), (2, .int a2)] := hl
  obtain ⟨QQ, hQQ⟩ : ∃ q, q = MQ below (QGi 31 ad (er ad cI cB) D r Sr s.heap.size) args s 0 0 (AD 31 ad s.heap.size) := ⟨_, rfl⟩
  rw [← hQQ]
  refine lv_aload_n hx hb dX10_showNow_0 rfl (lv_at hl 0 rfl) ?_
  refine r_get (v := .ref (ad 1)) hx hb hts (fun w h => wz_m (inX10 w h)) hown hK hP (q_Ref (ad := ad) (cI := cI) (cB := cB)) rfl 2 (by decide) (hts _ (wz_m tw_3_158)) (fun _ h9 => h9) rfl dX10_showNow_1 ?_
  refine lv_iload_n hx hb dX10_showNow_4 rfl (lv_at hl 1 rfl) ?_
  obtain ⟨hi1, hE⟩ := st_gd hE
  refine r_iald hx hb hK hP qr_1 hi1 dX10_showNow_5 ?_
  refine lv_aload_n hx hb dX10_showNow_6 rfl (lv_at hl 0 rfl) ?_
  refine lv_iload_n hx hb dX10_showNow_7 rfl (lv_at hl 1 rfl) ?_
  refine lv_iload_n hx hb dX10_showNow_8 rfl (lv_at hl 2 rfl) ?_
  refine lv_iconst (v := 4) hx hb dX10_showNow_9 (by decide) ?_
  refine lv_idiv hx hb dX10_showNow_10 (by decide) ?_
  obtain ⟨r2, hCr2, hE⟩ := st_bo hE
  refine g_calli (va_runV (As := [.int a1, .int (a2 / 4)]) (rest := [.int (ri S0 1 (a1.toNatClampNeg))]) ⟨hx, hb, hml, hown, hts⟩ (k_X10_hasThing hij hCr2) (cwV 2 hts (wz_V tw_4_158 tw_4_160 tp_17 tw_1_11 tw_4_161) rfl rfl rfl hdV_X10_hasThing ⟨Nat.le_of_ble_eq_true rfl, Nat.le_of_ble_eq_true rfl⟩) (g_preV KR_st ZR_st hK hZ hP hS hK.1 ((q_Ref (ad := ad) (cI := cI) (cB := cB))).1 (er_o (q_Ref (ad := ad) (cI := cI) (cB := cB))) rfl) rfl rfl hl.1 rfl (lv_room (Nat.le_of_ble_eq_true rfl)) dX10_showNow_11 ⟨Nat.zero_le _, Nat.zero_le _⟩) hS (fun H locs hP hS => ?_)
  obtain ⟨r3, hCr3, hE⟩ := st_bo hE
  refine g_calli (va_runS (As := [.int (ri S0 1 (a1.toNatClampNeg)), .int r2]) (rest := []) ⟨hx, hb, hml, hown, hts⟩ (k_X10_takes hij (S0 := S0) hCr3) (va_cwS 2 hts (wz_S tw_4_205 tw_4_206 tw_1_11 tw_4_207) rfl rfl rfl hdS_X10_takes ⟨Nat.le_of_ble_eq_true rfl, Nat.le_of_ble_eq_true rfl⟩) (g_preS KR_st ZR_st hK hZ hP hS) rfl rfl hl.1 rfl (lv_room (Nat.le_of_ble_eq_true rfl)) dX10_showNow_14 ⟨Nat.zero_le _, Nat.zero_le _⟩) hS (fun H locs hP hS => ?_)
  refine lv_if_ne (tgt := 22) hx hb dX10_showNow_17 (by decide) (fun hc4 => ?_) (fun hc4 => ?_)
  · have hE := st_f hE hc4
    refine lv_iconst (v := 0) hx hb dX10_showNow_22 (by decide) ?_
    refine lv_istore_n (lv' := [(3, .int 0), (0, .ref (ad 0)), (1, .int a1), (2, .int a2)]) hx hb dX10_showNow_23 rfl hl (by decide) rfl (fun ls hl => ?_)
    refine lv_iconst (v := 0) hx hb dX10_showNow_24 (by decide) ?_
    refine lv_istore (lv' := [(4, .int 0), (3, .int 0), (0, .ref (ad 0)), (1, .int a1), (2, .int a2)]) hx hb dX10_showNow_25 hl (by decide) rfl (fun ls hl => ?_)
    obtain ⟨x6, hx6, hE⟩ := st_bo hE
    refine lp_walk (body := fun (s5 : Int32 × Int32 × SR) => b_X10_showNow_27 a1 a2 s5.1 s5.2.1 s5.2.2) (fun s5 => ∀ (ls : Array Slot) (H : Heap) (locs : List Loc), lv_has ls 5 [(0, .ref (ad 0)), (1, .int a1), (2, .int a2), (3, .int s5.1), (4, .int s5.2.1)] → rP D ad cI cB s5.2.2 H → rS ad s H locs → W p l e rmX10_showNow s m args below meth c H locs 0 0 QQ (F0 m 27 ls [])) (fun x6 => ∀ (ls : Array Slot) (H : Heap) (locs : List Loc), lv_has ls 5 [(0, .ref (ad 0)), (1, .int a1), (2, .int a2), (3, .int x6.1)] → rP D ad cI cB x6.2 H → rS ad s H locs → W p l e rmX10_showNow s m args below meth c H locs 0 0 QQ (F0 m 92 ls [])) ?_ _ _ _ hx6 ?_ ls H locs (lv_sub hl [2, 3, 4, 1, 0] rfl) hP hS
    · intro s5 t7 hE hKt7 ls H locs hl hP hS
      obtain ⟨c8, c9, c10⟩ := s5
      replace hE : b_X10_showNow_27 a1 a2 c8 c9 c10 = some t7 := hE
      replace hl : lv_has ls 5 [(0, .ref (ad 0)), (1, .int a1), (2, .int a2), (3, .int c8), (4, .int c9)] := hl
      replace hP : rP D ad cI cB c10 H := hP
      unfold b_X10_showNow_27 at hE
      refine lv_iload hx hb dX10_showNow_27 (lv_at hl 4 rfl) ?_
      refine lv_aload_n hx hb dX10_showNow_29 rfl (lv_at hl 0 rfl) ?_
      refine r_get (v := .ref (ad 3)) hx hb hts (fun w h => wz_m (inX10 w h)) hown hK hP (q_Ref (ad := ad) (cI := cI) (cB := cB)) rfl 4 (by decide) (hts _ (wz_m tw_3_160)) (fun _ h9 => h9) rfl dX10_showNow_30 ?_
      refine lv_iload_n hx hb dX10_showNow_33 rfl (lv_at hl 1 rfl) ?_
      obtain ⟨hi11, hE⟩ := st_gd hE
      refine r_iald hx hb hK hP qr_3 hi11 dX10_showNow_34 ?_
      refine lv_icmp_ge (tgt := 92) hx hb dX10_showNow_35 (by decide) (fun hc12 => ?_) (fun hc12 => ?_)
      · have hE := st_t hE hc12
        have hq := Option.some.inj hE
        subst hq
        exact hKt7 ls H locs (lv_sub hl [0, 1, 2, 3] rfl) hP hS
      · have hE := st_f hE hc12
        refine lv_aload_n hx hb dX10_showNow_38 rfl (lv_at hl 0 rfl) ?_
        refine r_get (v := .ref (ad 1)) hx hb hts (fun w h => wz_m (inX10 w h)) hown hK hP (q_Ref (ad := ad) (cI := cI) (cB := cB)) rfl 2 (by decide) (hts _ (wz_m tw_3_158)) (fun _ h9 => h9) rfl dX10_showNow_39 ?_
        refine lv_iload_n hx hb dX10_showNow_42 rfl (lv_at hl 1 rfl) ?_
        obtain ⟨hi13, hE⟩ := st_gd hE
        refine r_iald hx hb hK hP qr_1 hi13 dX10_showNow_43 ?_
        refine lv_aload_n hx hb dX10_showNow_44 rfl (lv_at hl 0 rfl) ?_
        refine r_get (v := .ref (ad 2)) hx hb hts (fun w h => wz_m (inX10 w h)) hown hK hP (q_Ref (ad := ad) (cI := cI) (cB := cB)) rfl 3 (by decide) (hts _ (wz_m tw_3_159)) (fun _ h9 => h9) rfl dX10_showNow_45 ?_
        refine lv_iconst (v := 4) hx hb dX10_showNow_48 (by decide) ?_
        refine lv_iload_n hx hb dX10_showNow_49 rfl (lv_at hl 1 rfl) ?_
        refine lv_imul hx hb dX10_showNow_50 ?_
        refine lv_iload hx hb dX10_showNow_51 (lv_at hl 4 rfl) ?_
        refine lv_iadd hx hb dX10_showNow_53 ?_
        obtain ⟨hi14, hE⟩ := st_gd hE
        refine r_iald hx hb hK hP qr_2 hi14 dX10_showNow_54 ?_
        refine lv_iload_n hx hb dX10_showNow_55 rfl (lv_at hl 2 rfl) ?_
        obtain ⟨r15, hCr15, hE⟩ := st_bo hE
        refine g_calli (va_runS (As := [.int (ri c10 1 (a1.toNatClampNeg)), .int (ri c10 2 (((4 * a1) + c9).toNatClampNeg)), .int a2]) (rest := []) ⟨hx, hb, hml, hown, hts⟩ (k_X10_goes hij (S0 := c10) hCr15) (va_cwS 3 hts (wz_S tw_4_208 tw_4_209 tw_1_11 tw_4_210) rfl rfl rfl hdS_X10_goes ⟨Nat.le_of_ble_eq_true rfl, Nat.le_of_ble_eq_true rfl⟩) (g_preS KR_st ZR_st hK hZ hP hS) rfl rfl hl.1 rfl (lv_room (Nat.le_of_ble_eq_true rfl)) dX10_showNow_56 ⟨Nat.zero_le _, Nat.zero_le _⟩) hS (fun H locs hP hS => ?_)
        refine lv_if_ne (tgt := 86) hx hb dX10_showNow_59 (by decide) (fun hc16 => ?_) (fun hc16 => ?_)
        · have hE := st_f hE hc16
          obtain ⟨v17, ev17, hE⟩ := st_bv hE
          refine lv_iinc (v := v17) (lv' := [(4, .int v17), (0, .ref (ad 0)), (1, .int a1), (2, .int a2), (3, .int c8)]) hx hb dX10_showNow_86 hl (k := 4) rfl (by rw [ev17]; rfl) (by decide) rfl (fun ls hl => ?_)
          refine lv_goto (tgt := 27) hx hb dX10_showNow_89 (by decide) ?_
          have hq := Option.some.inj hE
          subst hq
          exact hKt7 ls H locs (lv_sub hl [1, 2, 3, 4, 0] rfl) hP hS
        · have hE := st_t hE hc16
          refine lv_aload_n hx hb dX10_showNow_62 rfl (lv_at hl 0 rfl) ?_
          refine r_get (v := .ref (ad 2)) hx hb hts (fun w h => wz_m (inX10 w h)) hown hK hP (q_Ref (ad := ad) (cI := cI) (cB := cB)) rfl 3 (by decide) (hts _ (wz_m tw_3_159)) (fun _ h9 => h9) rfl dX10_showNow_63 ?_
          refine lv_iconst (v := 4) hx hb dX10_showNow_66 (by decide) ?_
          refine lv_iload_n hx hb dX10_showNow_67 rfl (lv_at hl 1 rfl) ?_
          refine lv_imul hx hb dX10_showNow_68 ?_
          refine lv_iload_n hx hb dX10_showNow_69 rfl (lv_at hl 3 rfl) ?_
          refine lv_iadd hx hb dX10_showNow_70 ?_
          refine lv_aload_n hx hb dX10_showNow_71 rfl (lv_at hl 0 rfl) ?_
          refine r_get (v := .ref (ad 2)) hx hb hts (fun w h => wz_m (inX10 w h)) hown hK hP (q_Ref (ad := ad) (cI := cI) (cB := cB)) rfl 3 (by decide) (hts _ (wz_m tw_3_159)) (fun _ h9 => h9) rfl dX10_showNow_72 ?_
          refine lv_iconst (v := 4) hx hb dX10_showNow_75 (by decide) ?_
          refine lv_iload_n hx hb dX10_showNow_76 rfl (lv_at hl 1 rfl) ?_
          refine lv_imul hx hb dX10_showNow_77 ?_
          refine lv_iload hx hb dX10_showNow_78 (lv_at hl 4 rfl) ?_
          refine lv_iadd hx hb dX10_showNow_80 ?_
          obtain ⟨hi18, hE⟩ := st_gd hE
          refine r_iald hx hb hK hP qr_2 hi18 dX10_showNow_81 ?_
          obtain ⟨hi19, hE⟩ := st_gd hE
          refine r_iast hij hx hb hK hP hS qr_2 hi19 dX10_showNow_82 (fun H locs hP hS => ?_)
          obtain ⟨S20, eS20, hE⟩ := st_bv hE
          rw [← eS20] at hP
          obtain ⟨v21, ev21, hE⟩ := st_bv hE
          refine lv_iinc (v := v21) (lv' := [(3, .int v21), (0, .ref (ad 0)), (1, .int a1), (2, .int a2), (4, .int c9)]) hx hb dX10_showNow_83 hl (k := 3) rfl (by rw [ev21]; rfl) (by decide) rfl (fun ls hl => ?_)
          obtain ⟨v22, ev22, hE⟩ := st_bv hE
          refine lv_iinc (v := v22) (lv' := [(4, .int v22), (3, .int v21), (0, .ref (ad 0)), (1, .int a1), (2, .int a2)]) hx hb dX10_showNow_86 hl (k := 4) rfl (by rw [ev22]; rfl) (by decide) rfl (fun ls hl => ?_)
          refine lv_goto (tgt := 27) hx hb dX10_showNow_89 (by decide) ?_
          have hq := Option.some.inj hE
          subst hq
          exact hKt7 ls H locs (lv_sub hl [2, 3, 4, 1, 0] rfl) hP hS
    · intro ls H locs hl hP hS
      refine lv_aload_n hx hb dX10_showNow_92 rfl (lv_at hl 0 rfl) ?_
      refine r_get (v := .ref (ad 2)) hx hb hts (fun w h => wz_m (inX10 w h)) hown hK hP (q_Ref (ad := ad) (cI := cI) (cB := cB)) rfl 3 (by decide) (hts _ (wz_m tw_3_159)) (fun _ h9 => h9) rfl dX10_showNow_93 ?_
      refine lv_iconst (v := 4) hx hb dX10_showNow_96 (by decide) ?_
      refine lv_iload_n hx hb dX10_showNow_97 rfl (lv_at hl 1 rfl) ?_
      refine lv_imul hx hb dX10_showNow_98 ?_
      refine lv_iload_n hx hb dX10_showNow_99 rfl (lv_at hl 3 rfl) ?_
      refine lv_iadd hx hb dX10_showNow_100 ?_
      refine lv_iload_n hx hb dX10_showNow_101 rfl (lv_at hl 2 rfl) ?_
      obtain ⟨hi23, hE⟩ := st_gd hE
      refine r_iast hij hx hb hK hP hS qr_2 hi23 dX10_showNow_102 (fun H locs hP hS => ?_)
      obtain ⟨S24, eS24, hE⟩ := st_bv hE
      rw [← eS24] at hP
      refine lv_aload_n hx hb dX10_showNow_103 rfl (lv_at hl 0 rfl) ?_
      refine r_get (v := .ref (ad 3)) hx hb hts (fun w h => wz_m (inX10 w h)) hown hK hP (q_Ref (ad := ad) (cI := cI) (cB := cB)) rfl 4 (by decide) (hts _ (wz_m tw_3_160)) (fun _ h9 => h9) rfl dX10_showNow_104 ?_
      refine lv_iload_n hx hb dX10_showNow_107 rfl (lv_at hl 1 rfl) ?_
      refine lv_iload_n hx hb dX10_showNow_108 rfl (lv_at hl 3 rfl) ?_
      refine lv_iconst (v := 1) hx hb dX10_showNow_109 (by decide) ?_
      refine lv_iadd hx hb dX10_showNow_110 ?_
      obtain ⟨hi25, hE⟩ := st_gd hE
      refine r_iast hij hx hb hK hP hS qr_3 hi25 dX10_showNow_111 (fun H locs hP hS => ?_)
      obtain ⟨S26, eS26, hE⟩ := st_bv hE
      rw [← eS26] at hP
      refine lv_aload_n hx hb dX10_showNow_112 rfl (lv_at hl 0 rfl) ?_
      refine r_get (v := .ref (ad 3)) hx hb hts (fun w h => wz_m (inX10 w h)) hown hK hP (q_Ref (ad := ad) (cI := cI) (cB := cB)) rfl 4 (by decide) (hts _ (wz_m tw_3_160)) (fun _ h9 => h9) rfl dX10_showNow_113 ?_
      refine lv_iload_n hx hb dX10_showNow_116 rfl (lv_at hl 1 rfl) ?_
      obtain ⟨hi27, hE⟩ := st_gd hE
      refine r_iald hx hb hK hP qr_3 hi27 dX10_showNow_117 ?_
      refine lv_iconst (v := 3) hx hb dX10_showNow_118 (by decide) ?_
      refine lv_icmp_le (tgt := 168) hx hb dX10_showNow_119 (by decide) (fun hc28 => ?_) (fun hc28 => ?_)
      · have hE := st_t hE hc28
        refine lv_iconst (v := 1) hx hb dX10_showNow_168 (by decide) ?_
        replace hE := Option.some.inj hE
        have hq := Prod.mk.inj hE
        subst hQQ
        exact g_zret hx hb hr hlocks hP hS ((by decide : (1 : Int32) &&& 1 = 1).trans hq.1) hq.2 dX10_showNow_169
      · have hE := st_f hE hc28
        refine lv_iconst (v := 0) hx hb dX10_showNow_122 (by decide) ?_
        refine lv_istore (lv' := [(4, .int 0), (0, .ref (ad 0)), (1, .int a1), (2, .int a2), (3, .int x6.1)]) hx hb dX10_showNow_123 hl (by decide) rfl (fun ls hl => ?_)
        obtain ⟨x30, hx30, hE⟩ := st_bo hE
        refine lp_walk (body := fun (s29 : Int32 × SR) => b_X10_showNow_125 a1 s29.1 s29.2) (fun s29 => ∀ (ls : Array Slot) (H : Heap) (locs : List Loc), lv_has ls 5 [(0, .ref (ad 0)), (1, .int a1), (4, .int s29.1)] → rP D ad cI cB s29.2 H → rS ad s H locs → W p l e rmX10_showNow s m args below meth c H locs 0 0 QQ (F0 m 125 ls [])) (fun x30 => ∀ (ls : Array Slot) (H : Heap) (locs : List Loc), lv_has ls 5 [(0, .ref (ad 0)), (1, .int a1)] → rP D ad cI cB x30 H → rS ad s H locs → W p l e rmX10_showNow s m args below meth c H locs 0 0 QQ (F0 m 161 ls [])) ?_ _ _ _ hx30 ?_ ls H locs (lv_sub hl [1, 2, 0] rfl) hP hS
        · intro s29 t31 hE hKt31 ls H locs hl hP hS
          obtain ⟨c32, c33⟩ := s29
          replace hE : b_X10_showNow_125 a1 c32 c33 = some t31 := hE
          replace hl : lv_has ls 5 [(0, .ref (ad 0)), (1, .int a1), (4, .int c32)] := hl
          replace hP : rP D ad cI cB c33 H := hP
          unfold b_X10_showNow_125 at hE
          refine lv_iload hx hb dX10_showNow_125 (lv_at hl 2 rfl) ?_
          refine lv_iconst (v := 3) hx hb dX10_showNow_127 (by decide) ?_
          refine lv_icmp_ge (tgt := 161) hx hb dX10_showNow_128 (by decide) (fun hc34 => ?_) (fun hc34 => ?_)
          · have hE := st_t hE hc34
            have hq := Option.some.inj hE
            subst hq
            exact hKt31 ls H locs (lv_sub hl [0, 1] rfl) hP hS
          · have hE := st_f hE hc34
            refine lv_aload_n hx hb dX10_showNow_131 rfl (lv_at hl 0 rfl) ?_
            refine r_get (v := .ref (ad 2)) hx hb hts (fun w h => wz_m (inX10 w h)) hown hK hP (q_Ref (ad := ad) (cI := cI) (cB := cB)) rfl 3 (by decide) (hts _ (wz_m tw_3_159)) (fun _ h9 => h9) rfl dX10_showNow_132 ?_
            refine lv_iconst (v := 4) hx hb dX10_showNow_135 (by decide) ?_
            refine lv_iload_n hx hb dX10_showNow_136 rfl (lv_at hl 1 rfl) ?_
            refine lv_imul hx hb dX10_showNow_137 ?_
            refine lv_iload hx hb dX10_showNow_138 (lv_at hl 2 rfl) ?_
            refine lv_iadd hx hb dX10_showNow_140 ?_
            refine lv_aload_n hx hb dX10_showNow_141 rfl (lv_at hl 0 rfl) ?_
            refine r_get (v := .ref (ad 2)) hx hb hts (fun w h => wz_m (inX10 w h)) hown hK hP (q_Ref (ad := ad) (cI := cI) (cB := cB)) rfl 3 (by decide) (hts _ (wz_m tw_3_159)) (fun _ h9 => h9) rfl dX10_showNow_142 ?_
            refine lv_iconst (v := 4) hx hb dX10_showNow_145 (by decide) ?_
            refine lv_iload_n hx hb dX10_showNow_146 rfl (lv_at hl 1 rfl) ?_
            refine lv_imul hx hb dX10_showNow_147 ?_
            refine lv_iload hx hb dX10_showNow_148 (lv_at hl 2 rfl) ?_
            refine lv_iadd hx hb dX10_showNow_150 ?_
            refine lv_iconst (v := 1) hx hb dX10_showNow_151 (by decide) ?_
            refine lv_iadd hx hb dX10_showNow_152 ?_
            obtain ⟨hi35, hE⟩ := st_gd hE
            refine r_iald hx hb hK hP qr_2 hi35 dX10_showNow_153 ?_
            obtain ⟨hi36, hE⟩ := st_gd hE
            refine r_iast hij hx hb hK hP hS qr_2 hi36 dX10_showNow_154 (fun H locs hP hS => ?_)
            obtain ⟨S37, eS37, hE⟩ := st_bv hE
            rw [← eS37] at hP
            obtain ⟨v38, ev38, hE⟩ := st_bv hE
            refine lv_iinc (v := v38) (lv' := [(4, .int v38), (0, .ref (ad 0)), (1, .int a1)]) hx hb dX10_showNow_155 hl (k := 2) rfl (by rw [ev38]; rfl) (by decide) rfl (fun ls hl => ?_)
            refine lv_goto (tgt := 125) hx hb dX10_showNow_158 (by decide) ?_
            have hq := Option.some.inj hE
            subst hq
            exact hKt31 ls H locs (lv_sub hl [1, 2, 0] rfl) hP hS
        · intro ls H locs hl hP hS
          refine lv_aload_n hx hb dX10_showNow_161 rfl (lv_at hl 0 rfl) ?_
          refine r_get (v := .ref (ad 3)) hx hb hts (fun w h => wz_m (inX10 w h)) hown hK hP (q_Ref (ad := ad) (cI := cI) (cB := cB)) rfl 4 (by decide) (hts _ (wz_m tw_3_160)) (fun _ h9 => h9) rfl dX10_showNow_162 ?_
          refine lv_iload_n hx hb dX10_showNow_165 rfl (lv_at hl 1 rfl) ?_
          refine lv_iconst (v := 3) hx hb dX10_showNow_166 (by decide) ?_
          obtain ⟨hi39, hE⟩ := st_gd hE
          refine r_iast hij hx hb hK hP hS qr_3 hi39 dX10_showNow_167 (fun H locs hP hS => ?_)
          obtain ⟨S40, eS40, hE⟩ := st_bv hE
          rw [← eS40] at hP
          refine lv_iconst (v := 1) hx hb dX10_showNow_168 (by decide) ?_
          replace hE := Option.some.inj hE
          have hq := Prod.mk.inj hE
          subst hQQ
          exact g_zret hx hb hr hlocks hP hS ((by decide : (1 : Int32) &&& 1 = 1).trans hq.1) hq.2 dX10_showNow_169
  · have hE := st_t hE hc4
    refine lv_iconst (v := 0) hx hb dX10_showNow_20 (by decide) ?_
    replace hE := Option.some.inj hE
    have hq := Prod.mk.inj hE
    subst hQQ
    exact g_zret hx hb hr hlocks hP hS ((by decide : (0 : Int32) &&& 1 = 0).trans hq.1) hq.2 dX10_showNow_21

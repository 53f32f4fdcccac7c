def b_X9_digest_23 (S0 : (Nat → Nat → Int32)) (c5 : Int32) (c10 : Int64) (c11 : Int32) : Option ((Int64 × Int32) ⊕ (Int64)) :=
  if 7 < c11 then (some (.inr c10)) else (bo (f_X9_witness S0 c5 c11) (fun (r13 : Int32) => bv ((31 * c10) + ((r13 : Int32).toInt64)) (fun (v14 : Int64) => bv (c11 + 1) (fun (v15 : Int32) => some (.inl (v14, v15))))))
def b_X9_digest_6 (S0 : (Nat → Nat → Int32)) (c4 : Int64) (c5 : Int32) : Option ((Int64 × Int32) ⊕ (Int64)) :=
  if (S0 23 2) ≤ c5 then (some (.inr c4)) else (bo (lp (fun (s7 : Int64 × Int32) => b_X9_digest_23 S0 c5 s7.1 s7.2) 5000 (c4, 0)) (fun (x8 : Int64) => bv (c5 + 1) (fun (v16 : Int32) => some (.inl (x8, v16)))))
def b_X9_digest_66 (c24 : Int64) (c25 : Int32) (c26 : (Nat → Nat → Int32)) : Option ((Int64 × Int32 × (Nat → Nat → Int32)) ⊕ (Int64 × (Nat → Nat → Int32))) :=
  if 6 ≤ c25 then (some (.inr (c24, c26))) else (bo (f_X9_said c26 c25) (fun (r28 : Int32 × (Nat → Nat → Int32)) => bv ((31 * c24) + ((r28.1 : Int32).toInt64)) (fun (v29 : Int64) => bv (c25 + 1) (fun (v30 : Int32) => some (.inl (v29, v30, r28.2))))))
def b_X9_digest_184 (q18 : Int64 × (Nat → Nat → Int32)) (c48 : Int64) (c49 : Int32) : Option ((Int64 × Int32) ⊕ (Int64)) :=
  if (q18.2 1 3) ≤ c49 then (some (.inr c48)) else (gd (inb c49 54) (bv ((31 * c48) + ((q18.2 2 (c49.toNatClampNeg) : Int32).toInt64)) (fun (v52 : Int64) => bv (c49 + 1) (fun (v53 : Int32) => some (.inl (v52, v53))))))
def b_X9_digest_220 (q18 : Int64 × (Nat → Nat → Int32)) (c57 : Int64) (c58 : Int32) : Option ((Int64 × Int32) ⊕ (Int64)) :=
  if 8 < c58 then (some (.inr c57)) else (bo (f_X9_count q18.2 c58) (fun (r60 : Int32) => bv ((31 * c57) + ((r60 : Int32).toInt64)) (fun (v61 : Int64) => bv (c58 + 1) (fun (v62 : Int32) => some (.inl (v61, v62))))))
def f_X9_digest (S0 : (Nat → Nat → Int32)) : Option (Int64 × (Nat → Nat → Int32)) :=
  bo (lp (fun (s1 : Int64 × Int32) => b_X9_digest_6 S0 s1.1 s1.2) 5000 (1361, 0)) (fun (x2 : Int64) => bo (f_X9_hasWall S0) (fun (r17 : Int32) => bo (if r17 = 0 then (some (x2, S0)) else (bo (lp (fun (s21 : Int64 × Int32 × (Nat → Nat → Int32)) => b_X9_digest_66 s21.1 s21.2.1 s21.2.2) 5000 (x2, 0, S0)) (fun (x22 : Int64 × (Nat → Nat → Int32)) => bo (f_X9_term x22.2 0) (fun (r31 : Int32 × (Nat → Nat → Int32)) => bv ((31 * x22.1) + ((r31.1 : Int32).toInt64)) (fun (v32 : Int64) => bo (f_X9_term r31.2 1) (fun (r33 : Int32 × (Nat → Nat → Int32)) => bv ((31 * v32) + ((r33.1 : Int32).toInt64)) (fun (v34 : Int64) => bo (f_X9_keep r33.2 0) (fun (r35 : Int32 × (Nat → Nat → Int32)) => bv ((31 * v34) + ((r35.1 : Int32).toInt64)) (fun (v36 : Int64) => bo (f_X9_keep r35.2 1) (fun (r37 : Int32 × (Nat → Nat → Int32)) => bv ((31 * v36) + ((r37.1 : Int32).toInt64)) (fun (v38 : Int64) => bo (f_X9_peace r37.2 0) (fun (r39 : Int32) => bv ((31 * v38) + ((r39 : Int32).toInt64)) (fun (v40 : Int64) => bo (f_X9_peace r37.2 1) (fun (r41 : Int32) => bv ((31 * v40) + ((r41 : Int32).toInt64)) (fun (v42 : Int64) => bo (f_X9_worlds r37.2 1) (fun (r43 : Int32 × (Nat → Nat → Int32)) => bv ((31 * v42) + ((r43.1 : Int32).toInt64)) (fun (v44 : Int64) => some (v44, r43.2)))))))))))))))))) (fun (q18 : Int64 × (Nat → Nat → Int32)) => bo (lp (fun (s45 : Int64 × Int32) => b_X9_digest_184 q18 s45.1 s45.2) 5000 (q18.1, 0)) (fun (x46 : Int64) => bo (lp (fun (s54 : Int64 × Int32) => b_X9_digest_220 q18 s54.1 s54.2) 5000 (x46, 0)) (fun (x55 : Int64) => some (x55, q18.2))))))
abbrev rmX9_digest : Room := { frames := 6, cells := 0, slots := 0, locals := 142 }
theorem hdV_X9_digest : yX9_digest.cls = "WitnessWall" ∧ yX9_digest.cls ≠ "java/lang/invoke/MethodHandle" ∧ yX9_digest.cls ≠ "java/lang/invoke/VarHandle" ∧ (parseMethodDescriptor yX9_digest.desc).map (fun d => d.parameters.length) = some 0 := by decide +kernel
set_option maxHeartbeats 4000000 in
set_option maxRecDepth 100000 in
theorem k_X9_digest {l : Launch} {D : va_G} {ad : Nat → Nat} {cI cW : ClassId} {tK tC : Nat} (hij : inj 83 ad)  {S0 : (Nat → Nat → Int32)} {r : Int64} {Sr : (Nat → Nat → Int32)} (hE : f_X9_digest S0 = some (r, Sr)) {sz : Nat} : Met l yX9_digest (wz yX9_digest cX9_digest 5 (some FieldType.long)) rmX9_digest (PG 83 ad (ec ad cI cW) D (KC D cI cW) (ZC tK tC) [.ref (ad 0)] S0 sz) (QGl 83 ad (ec ad cI cW) D r Sr sz) 0 0 (AD 83 ad sz) := by
  unfold f_X9_digest at hE
  refine g_start (cc := cX9_digest) (maxL := 5) (ret := (some FieldType.long)) (Qc := fun sz => QGl 83 ad (ec ad cI cW) D r Sr sz) (by decide) rfl (Nat.le_of_ble_eq_true rfl) ?_
  intro p e s m args below meth c H locs ls hx hb hr hts hown hlocks hml hK hZ hP hS hl
  replace hl : lv_has ls 5 [(0, .ref (ad 0))] := hl
  obtain ⟨QQ, hQQ⟩ : ∃ q, q = MQ below (QGl 83 ad (ec ad cI cW) D r Sr s.heap.size) args s 0 0 (AD 83 ad s.heap.size) := ⟨_, rfl⟩
  rw [← hQQ]
  refine lv_ldc2 (v := 1361) hx hb hown (hts _ (wz_m tw_3_141)) dX9_digest_0 ?_
  refine lv_lstore_n (lv' := [(1, .long 1361), (0, .ref (ad 0))]) hx hb dX9_digest_3 rfl hl (by decide) rfl (fun ls hl => ?_)
  refine lv_iconst (v := 0) hx hb dX9_digest_4 (by decide) ?_
  refine lv_istore_n (lv' := [(3, .int 0), (1, .long 1361), (0, .ref (ad 0))]) hx hb dX9_digest_5 rfl hl (by decide) rfl (fun ls hl => ?_)
  obtain ⟨x2, hx2, hE⟩ := st_bo hE
  refine lp_walk (body := fun (s1 : Int64 × Int32) => b_X9_digest_6 S0 s1.1 s1.2) (fun s1 => ∀ (ls : Array Slot) (H : Heap) (locs : List Loc), lv_has ls 5 [(0, .ref (ad 0)), (1, .long s1.1), (3, .int s1.2)] → cP D ad cI cW S0 H → cS ad s H locs → W p l e rmX9_digest s m args below meth c H locs 0 0 QQ (F0 m 6 ls [])) (fun x2 => ∀ (ls : Array Slot) (H : Heap) (locs : List Loc), lv_has ls 5 [(0, .ref (ad 0)), (1, .long x2)] → cP D ad cI cW S0 H → cS ad s H locs → W p l e rmX9_digest s m args below meth c H locs 0 0 QQ (F0 m 57 ls [])) ?_ _ _ _ hx2 ?_ ls H locs (lv_sub hl [2, 1, 0] rfl) hP hS
  · intro s1 t3 hE hKt3 ls H locs hl hP hS
    obtain ⟨c4, c5⟩ := s1
    replace hE : b_X9_digest_6 S0 c4 c5 = some t3 := hE
    replace hl : lv_has ls 5 [(0, .ref (ad 0)), (1, .long c4), (3, .int c5)] := hl
    replace hP : cP D ad cI cW S0 H := hP
    unfold b_X9_digest_6 at hE
    refine lv_iload_n hx hb dX9_digest_6 rfl (lv_at hl 2 rfl) ?_
    refine lv_aload_n hx hb dX9_digest_7 rfl (lv_at hl 0 rfl) ?_
    refine c_get (v := .ref (ad 22)) hx hb hts (fun w h => wz_m (inX9 w h)) hown hK hP (q_WW (ad := ad) (cI := cI) (cW := cW)) rfl 2 (by decide) (hts _ (wz_m tw_1_211)) (fun _ h9 => h9) rfl dX9_digest_8 ?_
    refine c_getN (v := .ref (ad 23)) hx hb hts (fun w h => wz_m (inX3 w h)) hown hK hP (q_Scene_22 (ad := ad) (cI := cI) (cW := cW)).1 rfl 0 (by decide) (List.mem_of_getElem? (i := 29) rfl) (fun _ h9 => h9) rfl dX9_digest_11 ?_
    refine c_getN (v := .int (S0 23 2)) hx hb hts (fun w h => wz_m (inX1 w h)) hown hK hP (q_Hall_23 (ad := ad) (cI := cI) (cW := cW)).1 rfl 2 (by decide) (List.mem_of_getElem? (i := 10) rfl) (fun _ h9 => h9) rfl dX9_digest_14 ?_
    refine lv_icmp_ge (tgt := 57) hx hb dX9_digest_17 (by decide) (fun hc6 => ?_) (fun hc6 => ?_)
    · have hE := st_t hE hc6
      have hq := Option.some.inj hE
      subst hq
      exact hKt3 ls H locs (lv_sub hl [0, 1] rfl) hP hS
    · have hE := st_f hE hc6
      refine lv_iconst (v := 0) hx hb dX9_digest_20 (by decide) ?_
      refine lv_istore (lv' := [(4, .int 0), (0, .ref (ad 0)), (1, .long c4), (3, .int c5)]) hx hb dX9_digest_21 hl (by decide) rfl (fun ls hl => ?_)
      obtain ⟨x8, hx8, hE⟩ := st_bo hE
      refine lp_walk (body := fun (s7 : Int64 × Int32) => b_X9_digest_23 S0 c5 s7.1 s7.2) (fun s7 => ∀ (ls : Array Slot) (H : Heap) (locs : List Loc), lv_has ls 5 [(0, .ref (ad 0)), (1, .long s7.1), (3, .int c5), (4, .int s7.2)] → cP D ad cI cW S0 H → cS ad s H locs → W p l e rmX9_digest s m args below meth c H locs 0 0 QQ (F0 m 23 ls [])) (fun x8 => ∀ (ls : Array Slot) (H : Heap) (locs : List Loc), lv_has ls 5 [(0, .ref (ad 0)), (1, .long x8), (3, .int c5)] → cP D ad cI cW S0 H → cS ad s H locs → W p l e rmX9_digest s m args below meth c H locs 0 0 QQ (F0 m 51 ls [])) ?_ _ _ _ hx8 ?_ ls H locs (lv_sub hl [1, 2, 3, 0] rfl) hP hS
      · intro s7 t9 hE hKt9 ls H locs hl hP hS
        obtain ⟨c10, c11⟩ := s7
        replace hE : b_X9_digest_23 S0 c5 c10 c11 = some t9 := hE
        replace hl : lv_has ls 5 [(0, .ref (ad 0)), (1, .long c10), (3, .int c5), (4, .int c11)] := hl
        replace hP : cP D ad cI cW S0 H := hP
        unfold b_X9_digest_23 at hE
        refine lv_iload hx hb dX9_digest_23 (lv_at hl 3 rfl) ?_
        refine lv_bipush (v := 7) hx hb dX9_digest_25 (by decide) ?_
        refine lv_icmp_gt (tgt := 51) hx hb dX9_digest_27 (by decide) (fun hc12 => ?_) (fun hc12 => ?_)
        · have hE := st_t hE hc12
          have hq := Option.some.inj hE
          subst hq
          exact hKt9 ls H locs (lv_sub hl [0, 1, 2] rfl) hP hS
        · have hE := st_f hE hc12
          refine lv_ldc2 (v := 31) hx hb hown (hts _ (wz_m tw_3_142)) dX9_digest_30 ?_
          refine lv_lload_n hx hb dX9_digest_33 rfl (lv_at hl 1 rfl) ?_
          refine lv_lmul hx hb dX9_digest_34 ?_
          refine lv_aload_n hx hb dX9_digest_35 rfl (lv_at hl 0 rfl) ?_
          refine lv_iload_n hx hb dX9_digest_36 rfl (lv_at hl 2 rfl) ?_
          refine lv_iload hx hb dX9_digest_37 (lv_at hl 3 rfl) ?_
          obtain ⟨r13, hCr13, hE⟩ := st_bo hE
          refine g_calli (va_runV (As := [.int c5, .int c11]) (rest := [.long (31 * c10)]) ⟨hx, hb, hml, hown, hts⟩ (k_X9_witness hij hCr13) (cwV 2 hts (wz_V tw_3_143 tw_2_113 tw_2_114 tw_1_1 tw_2_115) rfl rfl rfl hdV_X9_witness ⟨Nat.le_of_ble_eq_true rfl, Nat.le_of_ble_eq_true rfl⟩) (g_preV KC_st ZC_st hK hZ hP hS hK.1 ((q_WW (ad := ad) (cI := cI) (cW := cW))).1 (ec_o (q_WW (ad := ad) (cI := cI) (cW := cW))) rfl) rfl rfl hl.1 rfl (lv_room (Nat.le_of_ble_eq_true rfl)) dX9_digest_39 ⟨Nat.zero_le _, Nat.zero_le _⟩) hS (fun H locs hP hS => ?_)
          refine lv_i2l (v := (r13 : Int32).toInt64) hx hb dX9_digest_42 rfl ?_
          refine lv_ladd hx hb dX9_digest_43 ?_
          obtain ⟨v14, ev14, hE⟩ := st_bv hE
          refine nm_l ev14 ?_
          refine lv_lstore_n (lv' := [(1, .long v14), (0, .ref (ad 0)), (3, .int c5), (4, .int c11)]) hx hb dX9_digest_44 rfl hl (by decide) rfl (fun ls hl => ?_)
          obtain ⟨v15, ev15, hE⟩ := st_bv hE
          refine lv_iinc (v := v15) (lv' := [(4, .int v15), (1, .long v14), (0, .ref (ad 0)), (3, .int c5)]) hx hb dX9_digest_45 hl (k := 3) rfl (by rw [ev15]; rfl) (by decide) rfl (fun ls hl => ?_)
          refine lv_goto (tgt := 23) hx hb dX9_digest_48 (by decide) ?_
          have hq := Option.some.inj hE
          subst hq
          exact hKt9 ls H locs (lv_sub hl [2, 1, 3, 0] rfl) hP hS
      · intro ls H locs hl hP hS
        obtain ⟨v16, ev16, hE⟩ := st_bv hE
        refine lv_iinc (v := v16) (lv' := [(3, .int v16), (0, .ref (ad 0)), (1, .long x8)]) hx hb dX9_digest_51 hl (k := 2) rfl (by rw [ev16]; rfl) (by decide) rfl (fun ls hl => ?_)
        refine lv_goto (tgt := 6) hx hb dX9_digest_54 (by decide) ?_
        have hq := Option.some.inj hE
        subst hq
        exact hKt3 ls H locs (lv_sub hl [1, 2, 0] rfl) hP hS
  · intro ls H locs hl hP hS
    refine lv_aload_n hx hb dX9_digest_57 rfl (lv_at hl 0 rfl) ?_
    obtain ⟨r17, hCr17, hE⟩ := st_bo hE
    refine g_calli (va_runV (As := []) (rest := []) ⟨hx, hb, hml, hown, hts⟩ (k_X9_hasWall hij hCr17) (cwV 0 hts (wz_V tw_2_172 tw_2_174 tp_1 tw_1_1 tw_2_175) rfl rfl rfl hdV_X9_hasWall ⟨Nat.le_of_ble_eq_true rfl, Nat.le_of_ble_eq_true rfl⟩) (g_preV KC_st ZC_st hK hZ hP hS hK.1 ((q_WW (ad := ad) (cI := cI) (cW := cW))).1 (ec_o (q_WW (ad := ad) (cI := cI) (cW := cW))) rfl) rfl rfl hl.1 rfl (lv_room (Nat.le_of_ble_eq_true rfl)) dX9_digest_58 ⟨Nat.zero_le _, Nat.zero_le _⟩) hS (fun H locs hP hS => ?_)
    obtain ⟨q18, hq18, hE⟩ := st_bo hE
    have J19 : ∀ (ls : Array Slot) (H : Heap) (locs : List Loc), lv_has ls 5 [(0, .ref (ad 0)), (1, .long q18.1)] → cP D ad cI cW q18.2 H → cS ad s H locs → W p l e rmX9_digest s m args below meth c H locs 0 0 QQ (F0 m 182 ls []) := by
      intro ls H locs hl hP hS
      refine lv_iconst (v := 0) hx hb dX9_digest_182 (by decide) ?_
      refine lv_istore_n (lv' := [(3, .int 0), (0, .ref (ad 0)), (1, .long q18.1)]) hx hb dX9_digest_183 rfl hl (by decide) rfl (fun ls hl => ?_)
      obtain ⟨x46, hx46, hE⟩ := st_bo hE
      refine lp_walk (body := fun (s45 : Int64 × Int32) => b_X9_digest_184 q18 s45.1 s45.2) (fun s45 => ∀ (ls : Array Slot) (H : Heap) (locs : List Loc), lv_has ls 5 [(0, .ref (ad 0)), (1, .long s45.1), (3, .int s45.2)] → cP D ad cI cW q18.2 H → cS ad s H locs → W p l e rmX9_digest s m args below meth c H locs 0 0 QQ (F0 m 184 ls [])) (fun x46 => ∀ (ls : Array Slot) (H : Heap) (locs : List Loc), lv_has ls 5 [(0, .ref (ad 0)), (1, .long x46)] → cP D ad cI cW q18.2 H → cS ad s H locs → W p l e rmX9_digest s m args below meth c H locs 0 0 QQ (F0 m 218 ls [])) ?_ _ _ _ hx46 ?_ ls H locs (lv_sub hl [1, 2, 0] rfl) hP hS
      · intro s45 t47 hE hKt47 ls H locs hl hP hS
        obtain ⟨c48, c49⟩ := s45
        replace hE : b_X9_digest_184 q18 c48 c49 = some t47 := hE
        replace hl : lv_has ls 5 [(0, .ref (ad 0)), (1, .long c48), (3, .int c49)] := hl
        replace hP : cP D ad cI cW q18.2 H := hP
        unfold b_X9_digest_184 at hE
        refine lv_iload_n hx hb dX9_digest_184 rfl (lv_at hl 2 rfl) ?_
        refine lv_aload_n hx hb dX9_digest_185 rfl (lv_at hl 0 rfl) ?_
        refine c_get (v := .ref (ad 1)) hx hb hts (fun w h => wz_m (inX9 w h)) hown hK hP (q_WW (ad := ad) (cI := cI) (cW := cW)) rfl 0 (by decide) (hts _ (wz_m tw_1_209)) (fun _ h9 => h9) rfl dX9_digest_186 ?_
        refine c_getN (v := .int (q18.2 1 3)) hx hb hts (fun w h => wz_m (inX2 w h)) hown hK hP (q_Page_1 (ad := ad) (cI := cI) (cW := cW)).1 rfl 3 (by decide) (List.mem_of_getElem? (i := 20) rfl) (fun _ h9 => h9) rfl dX9_digest_189 ?_
        refine lv_icmp_ge (tgt := 218) hx hb dX9_digest_192 (by decide) (fun hc50 => ?_) (fun hc50 => ?_)
        · have hE := st_t hE hc50
          have hq := Option.some.inj hE
          subst hq
          exact hKt47 ls H locs (lv_sub hl [0, 1] rfl) hP hS
        · have hE := st_f hE hc50
          refine lv_ldc2 (v := 31) hx hb hown (hts _ (wz_m tw_3_142)) dX9_digest_195 ?_
          refine lv_lload_n hx hb dX9_digest_198 rfl (lv_at hl 1 rfl) ?_
          refine lv_lmul hx hb dX9_digest_199 ?_
          refine lv_aload_n hx hb dX9_digest_200 rfl (lv_at hl 0 rfl) ?_
          refine c_get (v := .ref (ad 1)) hx hb hts (fun w h => wz_m (inX9 w h)) hown hK hP (q_WW (ad := ad) (cI := cI) (cW := cW)) rfl 0 (by decide) (hts _ (wz_m tw_1_209)) (fun _ h9 => h9) rfl dX9_digest_201 ?_
          refine c_getN (v := .ref (ad 2)) hx hb hts (fun w h => wz_m (inX2 w h)) hown hK hP (q_Page_1 (ad := ad) (cI := cI) (cW := cW)).1 rfl 0 (by decide) (List.mem_of_getElem? (i := 17) rfl) (fun _ h9 => h9) rfl dX9_digest_204 ?_
          refine lv_iload_n hx hb dX9_digest_207 rfl (lv_at hl 2 rfl) ?_
          obtain ⟨hi51, hE⟩ := st_gd hE
          refine c_iald hx hb hK hP (q_Page_1 (ad := ad) (cI := cI) (cW := cW)).2.1 hi51 dX9_digest_208 ?_
          refine lv_i2l (v := (q18.2 2 (c49.toNatClampNeg) : Int32).toInt64) hx hb dX9_digest_209 rfl ?_
          refine lv_ladd hx hb dX9_digest_210 ?_
          obtain ⟨v52, ev52, hE⟩ := st_bv hE
          refine nm_l ev52 ?_
          refine lv_lstore_n (lv' := [(1, .long v52), (0, .ref (ad 0)), (3, .int c49)]) hx hb dX9_digest_211 rfl hl (by decide) rfl (fun ls hl => ?_)
          obtain ⟨v53, ev53, hE⟩ := st_bv hE
          refine lv_iinc (v := v53) (lv' := [(3, .int v53), (1, .long v52), (0, .ref (ad 0))]) hx hb dX9_digest_212 hl (k := 2) rfl (by rw [ev53]; rfl) (by decide) rfl (fun ls hl => ?_)
          refine lv_goto (tgt := 184) hx hb dX9_digest_215 (by decide) ?_
          have hq := Option.some.inj hE
          subst hq
          exact hKt47 ls H locs (lv_sub hl [2, 1, 0] rfl) hP hS
      · intro ls H locs hl hP hS
        refine lv_iconst (v := 0) hx hb dX9_digest_218 (by decide) ?_
        refine lv_istore_n (lv' := [(3, .int 0), (0, .ref (ad 0)), (1, .long x46)]) hx hb dX9_digest_219 rfl hl (by decide) rfl (fun ls hl => ?_)
        obtain ⟨x55, hx55, hE⟩ := st_bo hE
        refine lp_walk (body := fun (s54 : Int64 × Int32) => b_X9_digest_220 q18 s54.1 s54.2) (fun s54 => ∀ (ls : Array Slot) (H : Heap) (locs : List Loc), lv_has ls 5 [(0, .ref (ad 0)), (1, .long s54.1), (3, .int s54.2)] → cP D ad cI cW q18.2 H → cS ad s H locs → W p l e rmX9_digest s m args below meth c H locs 0 0 QQ (F0 m 220 ls [])) (fun x55 => ∀ (ls : Array Slot) (H : Heap) (locs : List Loc), lv_has ls 5 [(1, .long x55)] → cP D ad cI cW q18.2 H → cS ad s H locs → W p l e rmX9_digest s m args below meth c H locs 0 0 QQ (F0 m 245 ls [])) ?_ _ _ _ hx55 ?_ ls H locs (lv_sub hl [1, 2, 0] rfl) hP hS
        · intro s54 t56 hE hKt56 ls H locs hl hP hS
          obtain ⟨c57, c58⟩ := s54
          replace hE : b_X9_digest_220 q18 c57 c58 = some t56 := hE
          replace hl : lv_has ls 5 [(0, .ref (ad 0)), (1, .long c57), (3, .int c58)] := hl
          replace hP : cP D ad cI cW q18.2 H := hP
          unfold b_X9_digest_220 at hE
          refine lv_iload_n hx hb dX9_digest_220 rfl (lv_at hl 2 rfl) ?_
          refine lv_bipush (v := 8) hx hb dX9_digest_221 (by decide) ?_
          refine lv_icmp_gt (tgt := 245) hx hb dX9_digest_223 (by decide) (fun hc59 => ?_) (fun hc59 => ?_)
          · have hE := st_t hE hc59
            have hq := Option.some.inj hE
            subst hq
            exact hKt56 ls H locs (lv_sub hl [1] rfl) hP hS
          · have hE := st_f hE hc59
            refine lv_ldc2 (v := 31) hx hb hown (hts _ (wz_m tw_3_142)) dX9_digest_226 ?_
            refine lv_lload_n hx hb dX9_digest_229 rfl (lv_at hl 1 rfl) ?_
            refine lv_lmul hx hb dX9_digest_230 ?_
            refine lv_aload_n hx hb dX9_digest_231 rfl (lv_at hl 0 rfl) ?_
            refine lv_iload_n hx hb dX9_digest_232 rfl (lv_at hl 2 rfl) ?_
            obtain ⟨r60, hCr60, hE⟩ := st_bo hE
            refine g_calli (va_runV (As := [.int c58]) (rest := [.long (31 * c57)]) ⟨hx, hb, hml, hown, hts⟩ (k_X9_count hij hCr60) (cwV 1 hts (wz_V tw_3_149 tw_3_129 tw_3_130 tw_1_1 tw_3_131) rfl rfl rfl hdV_X9_count ⟨Nat.le_of_ble_eq_true rfl, Nat.le_of_ble_eq_true rfl⟩) (g_preV KC_st ZC_st hK hZ hP hS hK.1 ((q_WW (ad := ad) (cI := cI) (cW := cW))).1 (ec_o (q_WW (ad := ad) (cI := cI) (cW := cW))) rfl) rfl rfl hl.1 rfl (lv_room (Nat.le_of_ble_eq_true rfl)) dX9_digest_233 ⟨Nat.zero_le _, Nat.zero_le _⟩) hS (fun H locs hP hS => ?_)
            refine lv_i2l (v := (r60 : Int32).toInt64) hx hb dX9_digest_236 rfl ?_
            refine lv_ladd hx hb dX9_digest_237 ?_
            obtain ⟨v61, ev61, hE⟩ := st_bv hE
            refine nm_l ev61 ?_
            refine lv_lstore_n (lv' := [(1, .long v61), (0, .ref (ad 0)), (3, .int c58)]) hx hb dX9_digest_238 rfl hl (by decide) rfl (fun ls hl => ?_)
            obtain ⟨v62, ev62, hE⟩ := st_bv hE
            refine lv_iinc (v := v62) (lv' := [(3, .int v62), (1, .long v61), (0, .ref (ad 0))]) hx hb dX9_digest_239 hl (k := 2) rfl (by rw [ev62]; rfl) (by decide) rfl (fun ls hl => ?_)
            refine lv_goto (tgt := 220) hx hb dX9_digest_242 (by decide) ?_
            have hq := Option.some.inj hE
            subst hq
            exact hKt56 ls H locs (lv_sub hl [2, 1, 0] rfl) hP hS
        · intro ls H locs hl hP hS
          refine lv_lload_n hx hb dX9_digest_245 rfl (lv_at hl 0 rfl) ?_
          replace hE := Option.some.inj hE
          have hq := Prod.mk.inj hE
          subst hQQ
          exact g_lret hx hb hr hlocks hP hS hq.1 hq.2 dX9_digest_246
    replace hE := hq18
    refine lv_if_eq (tgt := 182) hx hb dX9_digest_61 (by decide) (fun hc20 => ?_) (fun hc20 => ?_)
    · have hE := st_t hE hc20
      have hq := Option.some.inj hE
      subst hq
      exact J19 ls H locs (lv_sub hl [0, 1] rfl) hP hS
    · have hE := st_f hE hc20
      refine lv_iconst (v := 0) hx hb dX9_digest_64 (by decide) ?_
      refine lv_istore_n (lv' := [(3, .int 0), (0, .ref (ad 0)), (1, .long x2)]) hx hb dX9_digest_65 rfl hl (by decide) rfl (fun ls hl => ?_)
      obtain ⟨x22, hx22, hE⟩ := st_bo hE
      refine lp_walk (body := fun (s21 : Int64 × Int32 × (Nat → Nat → Int32)) => b_X9_digest_66 s21.1 s21.2.1 s21.2.2) (fun s21 => ∀ (ls : Array Slot) (H : Heap) (locs : List Loc), lv_has ls 5 [(0, .ref (ad 0)), (1, .long s21.1), (3, .int s21.2.1)] → cP D ad cI cW s21.2.2 H → cS ad s H locs → W p l e rmX9_digest s m args below meth c H locs 0 0 QQ (F0 m 66 ls [])) (fun x22 => ∀ (ls : Array Slot) (H : Heap) (locs : List Loc), lv_has ls 5 [(0, .ref (ad 0)), (1, .long x22.1)] → cP D ad cI cW x22.2 H → cS ad s H locs → W p l e rmX9_digest s m args below meth c H locs 0 0 QQ (F0 m 91 ls [])) ?_ _ _ _ hx22 ?_ ls H locs (lv_sub hl [1, 2, 0] rfl) hP hS
      · intro s21 t23 hE hKt23 ls H locs hl hP hS
        obtain ⟨c24, c25, c26⟩ := s21
        replace hE : b_X9_digest_66 c24 c25 c26 = some t23 := hE
        replace hl : lv_has ls 5 [(0, .ref (ad 0)), (1, .long c24), (3, .int c25)] := hl
        replace hP : cP D ad cI cW c26 H := hP
        unfold b_X9_digest_66 at hE
        refine lv_iload_n hx hb dX9_digest_66 rfl (lv_at hl 2 rfl) ?_
        refine lv_bipush (v := 6) hx hb dX9_digest_67 (by decide) ?_
        refine lv_icmp_ge (tgt := 91) hx hb dX9_digest_69 (by decide) (fun hc27 => ?_) (fun hc27 => ?_)
        · have hE := st_t hE hc27
          have hq := Option.some.inj hE
          subst hq
          exact hKt23 ls H locs (lv_sub hl [0, 1] rfl) hP hS
        · have hE := st_f hE hc27
          refine lv_ldc2 (v := 31) hx hb hown (hts _ (wz_m tw_3_142)) dX9_digest_72 ?_
          refine lv_lload_n hx hb dX9_digest_75 rfl (lv_at hl 1 rfl) ?_
          refine lv_lmul hx hb dX9_digest_76 ?_
          refine lv_aload_n hx hb dX9_digest_77 rfl (lv_at hl 0 rfl) ?_
          refine lv_iload_n hx hb dX9_digest_78 rfl (lv_at hl 2 rfl) ?_
          obtain ⟨r28, hCr28, hE⟩ := st_bo hE
          refine g_calli (va_runV (As := [.int c25]) (rest := [.long (31 * c24)]) ⟨hx, hb, hml, hown, hts⟩ (k_X9_said hij hCr28) (cwV 1 hts (wz_V tw_3_144 tw_2_169 tw_2_170 tw_1_1 tw_2_171) rfl rfl rfl hdV_X9_said ⟨Nat.le_of_ble_eq_true rfl, Nat.le_of_ble_eq_true rfl⟩) (g_preV KC_st ZC_st hK hZ hP hS hK.1 ((q_WW (ad := ad) (cI := cI) (cW := cW))).1 (ec_o (q_WW (ad := ad) (cI := cI) (cW := cW))) rfl) rfl rfl hl.1 rfl (lv_room (Nat.le_of_ble_eq_true rfl)) dX9_digest_79 ⟨Nat.zero_le _, Nat.zero_le _⟩) hS (fun H locs hP hS => ?_)
          refine lv_i2l (v := (r28.1 : Int32).toInt64) hx hb dX9_digest_82 rfl ?_
          refine lv_ladd hx hb dX9_digest_83 ?_
          obtain ⟨v29, ev29, hE⟩ := st_bv hE
          refine nm_l ev29 ?_
          refine lv_lstore_n (lv' := [(1, .long v29), (0, .ref (ad 0)), (3, .int c25)]) hx hb dX9_digest_84 rfl hl (by decide) rfl (fun ls hl => ?_)
          obtain ⟨v30, ev30, hE⟩ := st_bv hE
          refine lv_iinc (v := v30) (lv' := [(3, .int v30), (1, .long v29), (0, .ref (ad 0))]) hx hb dX9_digest_85 hl (k := 2) rfl (by rw [ev30]; rfl) (by decide) rfl (fun ls hl => ?_)
          refine lv_goto (tgt := 66) hx hb dX9_digest_88 (by decide) ?_
          have hq := Option.some.inj hE
          subst hq
          exact hKt23 ls H locs (lv_sub hl [2, 1, 0] rfl) hP hS
      · intro ls H locs hl hP hS
        refine lv_ldc2 (v := 31) hx hb hown (hts _ (wz_m tw_3_142)) dX9_digest_91 ?_
        refine lv_lload_n hx hb dX9_digest_94 rfl (lv_at hl 1 rfl) ?_
        refine lv_lmul hx hb dX9_digest_95 ?_
        refine lv_aload_n hx hb dX9_digest_96 rfl (lv_at hl 0 rfl) ?_
        refine lv_iconst (v := 0) hx hb dX9_digest_97 (by decide) ?_
        obtain ⟨r31, hCr31, hE⟩ := st_bo hE
        refine g_calli (va_runV (As := [.int 0]) (rest := [.long (31 * x22.1)]) ⟨hx, hb, hml, hown, hts⟩ (k_X9_term hij hCr31) (cwV 1 hts (wz_V tw_3_145 tw_2_225 tw_2_226 tw_1_1 tw_2_227) rfl rfl rfl hdV_X9_term ⟨Nat.le_of_ble_eq_true rfl, Nat.le_of_ble_eq_true rfl⟩) (g_preV KC_st ZC_st hK hZ hP hS hK.1 ((q_WW (ad := ad) (cI := cI) (cW := cW))).1 (ec_o (q_WW (ad := ad) (cI := cI) (cW := cW))) rfl) rfl rfl hl.1 rfl (lv_room (Nat.le_of_ble_eq_true rfl)) dX9_digest_98 ⟨Nat.zero_le _, Nat.zero_le _⟩) hS (fun H locs hP hS => ?_)
        refine lv_i2l (v := (r31.1 : Int32).toInt64) hx hb dX9_digest_101 rfl ?_
        refine lv_ladd hx hb dX9_digest_102 ?_
        obtain ⟨v32, ev32, hE⟩ := st_bv hE
        refine nm_l ev32 ?_
        refine lv_lstore_n (lv' := [(1, .long v32), (0, .ref (ad 0))]) hx hb dX9_digest_103 rfl hl (by decide) rfl (fun ls hl => ?_)
        refine lv_ldc2 (v := 31) hx hb hown (hts _ (wz_m tw_3_142)) dX9_digest_104 ?_
        refine lv_lload_n hx hb dX9_digest_107 rfl (lv_at hl 0 rfl) ?_
        refine lv_lmul hx hb dX9_digest_108 ?_
        refine lv_aload_n hx hb dX9_digest_109 rfl (lv_at hl 1 rfl) ?_
        refine lv_iconst (v := 1) hx hb dX9_digest_110 (by decide) ?_
        obtain ⟨r33, hCr33, hE⟩ := st_bo hE
        refine g_calli (va_runV (As := [.int 1]) (rest := [.long (31 * v32)]) ⟨hx, hb, hml, hown, hts⟩ (k_X9_term hij hCr33) (cwV 1 hts (wz_V tw_3_145 tw_2_225 tw_2_226 tw_1_1 tw_2_227) rfl rfl rfl hdV_X9_term ⟨Nat.le_of_ble_eq_true rfl, Nat.le_of_ble_eq_true rfl⟩) (g_preV KC_st ZC_st hK hZ hP hS hK.1 ((q_WW (ad := ad) (cI := cI) (cW := cW))).1 (ec_o (q_WW (ad := ad) (cI := cI) (cW := cW))) rfl) rfl rfl hl.1 rfl (lv_room (Nat.le_of_ble_eq_true rfl)) dX9_digest_111 ⟨Nat.zero_le _, Nat.zero_le _⟩) hS (fun H locs hP hS => ?_)
        refine lv_i2l (v := (r33.1 : Int32).toInt64) hx hb dX9_digest_114 rfl ?_
        refine lv_ladd hx hb dX9_digest_115 ?_
        obtain ⟨v34, ev34, hE⟩ := st_bv hE
        refine nm_l ev34 ?_
        refine lv_lstore_n (lv' := [(1, .long v34), (0, .ref (ad 0))]) hx hb dX9_digest_116 rfl hl (by decide) rfl (fun ls hl => ?_)
        refine lv_ldc2 (v := 31) hx hb hown (hts _ (wz_m tw_3_142)) dX9_digest_117 ?_
        refine lv_lload_n hx hb dX9_digest_120 rfl (lv_at hl 0 rfl) ?_
        refine lv_lmul hx hb dX9_digest_121 ?_
        refine lv_aload_n hx hb dX9_digest_122 rfl (lv_at hl 1 rfl) ?_
        refine lv_iconst (v := 0) hx hb dX9_digest_123 (by decide) ?_
        obtain ⟨r35, hCr35, hE⟩ := st_bo hE
        refine g_calli (va_runV (As := [.int 0]) (rest := [.long (31 * v34)]) ⟨hx, hb, hml, hown, hts⟩ (k_X9_keep hij hCr35) (cwV 1 hts (wz_V tw_3_146 tw_3_27 tw_3_28 tw_1_1 tw_3_29) rfl rfl rfl hdV_X9_keep ⟨Nat.le_of_ble_eq_true rfl, Nat.le_of_ble_eq_true rfl⟩) (g_preV KC_st ZC_st hK hZ hP hS hK.1 ((q_WW (ad := ad) (cI := cI) (cW := cW))).1 (ec_o (q_WW (ad := ad) (cI := cI) (cW := cW))) rfl) rfl rfl hl.1 rfl (lv_room (Nat.le_of_ble_eq_true rfl)) dX9_digest_124 ⟨Nat.zero_le _, Nat.zero_le _⟩) hS (fun H locs hP hS => ?_)
        refine lv_i2l (v := (r35.1 : Int32).toInt64) hx hb dX9_digest_127 rfl ?_
        refine lv_ladd hx hb dX9_digest_128 ?_
        obtain ⟨v36, ev36, hE⟩ := st_bv hE
        refine nm_l ev36 ?_
        refine lv_lstore_n (lv' := [(1, .long v36), (0, .ref (ad 0))]) hx hb dX9_digest_129 rfl hl (by decide) rfl (fun ls hl => ?_)
        refine lv_ldc2 (v := 31) hx hb hown (hts _ (wz_m tw_3_142)) dX9_digest_130 ?_
        refine lv_lload_n hx hb dX9_digest_133 rfl (lv_at hl 0 rfl) ?_
        refine lv_lmul hx hb dX9_digest_134 ?_
        refine lv_aload_n hx hb dX9_digest_135 rfl (lv_at hl 1 rfl) ?_
        refine lv_iconst (v := 1) hx hb dX9_digest_136 (by decide) ?_
        obtain ⟨r37, hCr37, hE⟩ := st_bo hE
        refine g_calli (va_runV (As := [.int 1]) (rest := [.long (31 * v36)]) ⟨hx, hb, hml, hown, hts⟩ (k_X9_keep hij hCr37) (cwV 1 hts (wz_V tw_3_146 tw_3_27 tw_3_28 tw_1_1 tw_3_29) rfl rfl rfl hdV_X9_keep ⟨Nat.le_of_ble_eq_true rfl, Nat.le_of_ble_eq_true rfl⟩) (g_preV KC_st ZC_st hK hZ hP hS hK.1 ((q_WW (ad := ad) (cI := cI) (cW := cW))).1 (ec_o (q_WW (ad := ad) (cI := cI) (cW := cW))) rfl) rfl rfl hl.1 rfl (lv_room (Nat.le_of_ble_eq_true rfl)) dX9_digest_137 ⟨Nat.zero_le _, Nat.zero_le _⟩) hS (fun H locs hP hS => ?_)
        refine lv_i2l (v := (r37.1 : Int32).toInt64) hx hb dX9_digest_140 rfl ?_
        refine lv_ladd hx hb dX9_digest_141 ?_
        obtain ⟨v38, ev38, hE⟩ := st_bv hE
        refine nm_l ev38 ?_
        refine lv_lstore_n (lv' := [(1, .long v38), (0, .ref (ad 0))]) hx hb dX9_digest_142 rfl hl (by decide) rfl (fun ls hl => ?_)
        refine lv_ldc2 (v := 31) hx hb hown (hts _ (wz_m tw_3_142)) dX9_digest_143 ?_
        refine lv_lload_n hx hb dX9_digest_146 rfl (lv_at hl 0 rfl) ?_
        refine lv_lmul hx hb dX9_digest_147 ?_
        refine lv_aload_n hx hb dX9_digest_148 rfl (lv_at hl 1 rfl) ?_
        refine lv_iconst (v := 0) hx hb dX9_digest_149 (by decide) ?_
        obtain ⟨r39, hCr39, hE⟩ := st_bo hE
        refine g_calli (va_runV (As := [.int 0]) (rest := [.long (31 * v38)]) ⟨hx, hb, hml, hown, hts⟩ (k_X9_peace hij hCr39) (cwV 1 hts (wz_V tw_3_147 tw_3_43 tw_3_44 tw_1_1 tw_3_45) rfl rfl rfl hdV_X9_peace ⟨Nat.le_of_ble_eq_true rfl, Nat.le_of_ble_eq_true rfl⟩) (g_preV KC_st ZC_st hK hZ hP hS hK.1 ((q_WW (ad := ad) (cI := cI) (cW := cW))).1 (ec_o (q_WW (ad := ad) (cI := cI) (cW := cW))) rfl) rfl rfl hl.1 rfl (lv_room (Nat.le_of_ble_eq_true rfl)) dX9_digest_150 ⟨Nat.zero_le _, Nat.zero_le _⟩) hS (fun H locs hP hS => ?_)
        refine lv_i2l (v := (r39 : Int32).toInt64) hx hb dX9_digest_153 rfl ?_
        refine lv_ladd hx hb dX9_digest_154 ?_
        obtain ⟨v40, ev40, hE⟩ := st_bv hE
        refine nm_l ev40 ?_
        refine lv_lstore_n (lv' := [(1, .long v40), (0, .ref (ad 0))]) hx hb dX9_digest_155 rfl hl (by decide) rfl (fun ls hl => ?_)
        refine lv_ldc2 (v := 31) hx hb hown (hts _ (wz_m tw_3_142)) dX9_digest_156 ?_
        refine lv_lload_n hx hb dX9_digest_159 rfl (lv_at hl 0 rfl) ?_
        refine lv_lmul hx hb dX9_digest_160 ?_
        refine lv_aload_n hx hb dX9_digest_161 rfl (lv_at hl 1 rfl) ?_
        refine lv_iconst (v := 1) hx hb dX9_digest_162 (by decide) ?_
        obtain ⟨r41, hCr41, hE⟩ := st_bo hE
        refine g_calli (va_runV (As := [.int 1]) (rest := [.long (31 * v40)]) ⟨hx, hb, hml, hown, hts⟩ (k_X9_peace hij hCr41) (cwV 1 hts (wz_V tw_3_147 tw_3_43 tw_3_44 tw_1_1 tw_3_45) rfl rfl rfl hdV_X9_peace ⟨Nat.le_of_ble_eq_true rfl, Nat.le_of_ble_eq_true rfl⟩) (g_preV KC_st ZC_st hK hZ hP hS hK.1 ((q_WW (ad := ad) (cI := cI) (cW := cW))).1 (ec_o (q_WW (ad := ad) (cI := cI) (cW := cW))) rfl) rfl rfl hl.1 rfl (lv_room (Nat.le_of_ble_eq_true rfl)) dX9_digest_163 ⟨Nat.zero_le _, Nat.zero_le _⟩) hS (fun H locs hP hS => ?_)
        refine lv_i2l (v := (r41 : Int32).toInt64) hx hb dX9_digest_166 rfl ?_
        refine lv_ladd hx hb dX9_digest_167 ?_
        obtain ⟨v42, ev42, hE⟩ := st_bv hE
        refine nm_l ev42 ?_
        refine lv_lstore_n (lv' := [(1, .long v42), (0, .ref (ad 0))]) hx hb dX9_digest_168 rfl hl (by decide) rfl (fun ls hl => ?_)
        refine lv_ldc2 (v := 31) hx hb hown (hts _ (wz_m tw_3_142)) dX9_digest_169 ?_
        refine lv_lload_n hx hb dX9_digest_172 rfl (lv_at hl 0 rfl) ?_
        refine lv_lmul hx hb dX9_digest_173 ?_
        refine lv_aload_n hx hb dX9_digest_174 rfl (lv_at hl 1 rfl) ?_
        refine lv_iconst (v := 1) hx hb dX9_digest_175 (by decide) ?_
        obtain ⟨r43, hCr43, hE⟩ := st_bo hE
        refine g_calli (va_runV (As := [.int 1]) (rest := [.long (31 * v42)]) ⟨hx, hb, hml, hown, hts⟩ (k_X9_worlds hij hCr43) (cwV 1 hts (wz_V tw_3_148 tw_3_55 tw_3_56 tw_1_1 tw_3_57) rfl rfl rfl hdV_X9_worlds ⟨Nat.le_of_ble_eq_true rfl, Nat.le_of_ble_eq_true rfl⟩) (g_preV KC_st ZC_st hK hZ hP hS hK.1 ((q_WW (ad := ad) (cI := cI) (cW := cW))).1 (ec_o (q_WW (ad := ad) (cI := cI) (cW := cW))) rfl) rfl rfl hl.1 rfl (lv_room (Nat.le_of_ble_eq_true rfl)) dX9_digest_176 ⟨Nat.zero_le _, Nat.zero_le _⟩) hS (fun H locs hP hS => ?_)
        refine lv_i2l (v := (r43.1 : Int32).toInt64) hx hb dX9_digest_179 rfl ?_
        refine lv_ladd hx hb dX9_digest_180 ?_
        obtain ⟨v44, ev44, hE⟩ := st_bv hE
        refine nm_l ev44 ?_
        refine lv_lstore_n (lv' := [(1, .long v44), (0, .ref (ad 0))]) hx hb dX9_digest_181 rfl hl (by decide) rfl (fun ls hl => ?_)
        have hq := Option.some.inj hE
        subst hq
        exact J19 ls H locs (lv_sub hl [1, 0] rfl) hP hS
def f_X9_drawOf (a1 : Int32) (a2 : Int32) : Option (Int32) :=
  if 1 ≤ a1 then (gd (nz a1) (some ((a2 / 65536) - (a2 / 65536) / a1 * a1))) else (some 0)
abbrev rmX9_drawOf : Room := { frames := 0, cells := 0, slots := 0, locals := 0 }
theorem hdS_X9_drawOf : yX9_drawOf.cls ≠ "java/lang/invoke/MethodHandle" ∧ yX9_drawOf.cls ≠ "java/lang/invoke/VarHandle" ∧ (parseMethodDescriptor yX9_drawOf.desc).map (fun d => d.parameters.length) = some 2 := by decide +kernel
set_option maxHeartbeats 4000000 in
set_option maxRecDepth 100000 in
theorem k_X9_drawOf {l : Launch} {D : va_G} {ad : Nat → Nat} {cI cW : ClassId} {tK tC : Nat} (hij : inj 83 ad)  {S0 : (Nat → Nat → Int32)} {a1 : Int32} {a2 : Int32} {r : Int32} (hE : f_X9_drawOf a1 a2 = some r) {sz : Nat} : Met l yX9_drawOf (wz yX9_drawOf cX9_drawOf 2 (some FieldType.int)) rmX9_drawOf (PG 83 ad (ec ad cI cW) D (KC D cI cW) (ZC tK tC) [.int a1, .int a2] S0 sz) (QGi 83 ad (ec ad cI cW) D r S0 sz) 0 0 (AD 83 ad sz) := by
  unfold f_X9_drawOf at hE
  refine g_start (cc := cX9_drawOf) (maxL := 2) (ret := (some FieldType.int)) (Qc := fun sz => QGi 83 ad (ec ad cI cW) D r S0 sz) (by decide) rfl (Nat.le_of_ble_eq_true rfl) ?_
  intro p e s m args below meth c H locs ls hx hb hr hts hown hlocks hml hK hZ hP hS hl
  replace hl : lv_has ls 2 [(0, .int a1), (1, .int a2)] := hl
  obtain ⟨QQ, hQQ⟩ : ∃ q, q = MQ below (QGi 83 ad (ec ad cI cW) D r S0 s.heap.size) args s 0 0 (AD 83 ad s.heap.size) := ⟨_, rfl⟩
  rw [← hQQ]
  refine lv_iload_n hx hb dX9_drawOf_0 rfl (lv_at hl 0 rfl) ?_
  refine lv_iconst (v := 1) hx hb dX9_drawOf_1 (by decide) ?_
  refine lv_icmp_ge (tgt := 9) hx hb dX9_drawOf_2 (by decide) (fun hc1 => ?_) (fun hc1 => ?_)
  · have hE := st_t hE hc1
    refine lv_iload_n hx hb dX9_drawOf_9 rfl (lv_at hl 1 rfl) ?_
    refine lv_ldc (v := 65536) hx hb hown (hts _ (wz_m tw_3_106)) dX9_drawOf_10 ?_
    refine lv_idiv hx hb dX9_drawOf_12 (by decide) ?_
    refine lv_iload_n hx hb dX9_drawOf_13 rfl (lv_at hl 0 rfl) ?_
    obtain ⟨hn2, hE⟩ := st_gd hE
    refine lv_irem hx hb dX9_drawOf_14 (st_nz hn2) ?_
    replace hE := Option.some.inj hE
    subst hQQ
    exact g_iret hx hb hr hlocks hP hS hE rfl dX9_drawOf_15
  · have hE := st_f hE hc1
    refine lv_iconst (v := 0) hx hb dX9_drawOf_5 (by decide) ?_
    refine lv_goto (tgt := 15) hx hb dX9_drawOf_6 (by decide) ?_
    replace hE := Option.some.inj hE
    subst hQQ
    exact g_iret hx hb hr hlocks hP hS hE rfl dX9_drawOf_15
def f_X9_seedAfter (a1 : Int32) : Option (Int32) :=
  some (((1103515245 * a1) + 12345) &&& 2147483647)
abbrev rmX9_seedAfter : Room := { frames := 0, cells := 0, slots := 0, locals := 0 }
theorem hdS_X9_seedAfter : yX9_seedAfter.cls ≠ "java/lang/invoke/MethodHandle" ∧ yX9_seedAfter.cls ≠ "java/lang/invoke/VarHandle" ∧ (parseMethodDescriptor yX9_seedAfter.desc).map (fun d => d.parameters.length) = some 1 := by decide +kernel
set_option maxHeartbeats 4000000 in
set_option maxRecDepth 100000 in
theorem k_X9_seedAfter {l : Launch} {D : va_G} {ad : Nat → Nat} {cI cW : ClassId} {tK tC : Nat} (hij : inj 83 ad)  {S0 : (Nat → Nat → Int32)} {a1 : Int32} {r : Int32} (hE : f_X9_seedAfter a1 = some r) {sz : Nat} : Met l yX9_seedAfter (wz yX9_seedAfter cX9_seedAfter 1 (some FieldType.int)) rmX9_seedAfter (PG 83 ad (ec ad cI cW) D (KC D cI cW) (ZC tK tC) [.int a1] S0 sz) (QGi 83 ad (ec ad cI cW) D r S0 sz) 0 0 (AD 83 ad sz) := by
  unfold f_X9_seedAfter at hE
  refine g_start (cc := cX9_seedAfter) (maxL := 1) (ret := (some FieldType.int)) (Qc := fun sz => QGi 83 ad (ec ad cI cW) D r S0 sz) (by decide) rfl (Nat.le_of_ble_eq_true rfl) ?_
  intro p e s m args below meth c H locs ls hx hb hr hts hown hlocks hml hK hZ hP hS hl
  replace hl : lv_has ls 1 [(0, .int a1)] := hl
  obtain ⟨QQ, hQQ⟩ : ∃ q, q = MQ below (QGi 83 ad (ec ad cI cW) D r S0 s.heap.size) args s 0 0 (AD 83 ad s.heap.size) := ⟨_, rfl⟩
  rw [← hQQ]
  refine lv_ldc (v := 1103515245) hx hb hown (hts _ (wz_m tw_3_101)) dX9_seedAfter_0 ?_
  refine lv_iload_n hx hb dX9_seedAfter_2 rfl (lv_at hl 0 rfl) ?_
  refine lv_imul hx hb dX9_seedAfter_3 ?_
  refine lv_sipush (v := 12345) hx hb dX9_seedAfter_4 (by decide) ?_
  refine lv_iadd hx hb dX9_seedAfter_7 ?_
  refine lv_ldc (v := 2147483647) hx hb hown (hts _ (wz_m tw_3_102)) dX9_seedAfter_8 ?_
  refine lv_iand hx hb dX9_seedAfter_10 ?_
  replace hE := Option.some.inj hE
  subst hQQ
  exact g_iret hx hb hr hlocks hP hS hE rfl dX9_seedAfter_11
def b_X9_drawn_59 (a1 : Int32) (c12 : Int32) (c13 : Int32) (c14 : Int32) (c15 : (Nat → Nat → Int32)) : Option ((Int32 × Int32 × Int32 × (Nat → Nat → Int32)) ⊕ (Int32 × Int32 × (Nat → Nat → Int32))) :=
  if a1 ≤ c14 then (some (.inr (c12, c13, c15))) else (bo (f_X9_seedAfter c13) (fun (r17 : Int32) => bo (f_X9_drawOf (c15 64 2) r17) (fun (r18 : Int32) => bo (f_X9_seedAfter r17) (fun (r19 : Int32) => bo (f_X9_drawOf 6 r19) (fun (r20 : Int32) => bo (f_X9_seedAfter r19) (fun (r21 : Int32) => bo (f_X9_drawOf 4 r21) (fun (r22 : Int32) => gd (inb r18 5) (bo (f_X7_meets (67 + 2 * r18.toNatClampNeg) c15 ((r20 * 4) + r22)) (fun (r24 : Int32 × (Nat → Nat → Int32)) => if r24.1 = 0 then (bv (c14 + 1) (fun (v26 : Int32) => some (.inl (c12, r21, v26, r24.2)))) else (bv (c12 + 1) (fun (v27 : Int32) => bv (c14 + 1) (fun (v28 : Int32) => some (.inl (v27, r21, v28, r24.2))))))))))))))
def f_X9_drawn (S0 : (Nat → Nat → Int32)) (a1 : Int32) (a2 : Int32) (a3 : Int32) : Option (Int32 × (Nat → Nat → Int32)) :=
  bo (f_X9_isWithin a1 1 60) (fun (r1 : Int32) => if r1 = 0 then (some ((-102), S0)) else (if a2 < 0 then (some ((-102), S0)) else (bo (f_X9_isWithin a3 0 2) (fun (r4 : Int32) => if r4 = 0 then (some ((-102), S0)) else (bo (f_X9_hasWall S0) (fun (r6 : Int32) => if r6 = 0 then (some ((-103), S0)) else (bo (f_X1_copyFrom 64 S0 23) (fun (r8 : (Nat → Nat → Int32)) => bo (lp (fun (s9 : Int32 × Int32 × Int32 × (Nat → Nat → Int32)) => b_X9_drawn_59 a1 s9.1 s9.2.1 s9.2.2.1 s9.2.2.2) 5000 (0, a2, 0, r8)) (fun (x10 : Int32 × Int32 × (Nat → Nat → Int32)) => if a3 = 0 then (some (x10.1, x10.2.2)) else (if a3 = 1 then (bo (f_X1_everyone 64 x10.2.2) (fun (r31 : Int32) => bo (f_X1_clashesAmong 64 x10.2.2 r31) (fun (r32 : Int32) => some (r32, x10.2.2)))) else (some (x10.2.1, x10.2.2))))))))))))
abbrev rmX9_drawn : Room := { frames := 3, cells := 0, slots := 0, locals := 72 }
theorem hdV_X9_drawn : yX9_drawn.cls = "WitnessWall" ∧ yX9_drawn.cls ≠ "java/lang/invoke/MethodHandle" ∧ yX9_drawn.cls ≠ "java/lang/invoke/VarHandle" ∧ (parseMethodDescriptor yX9_drawn.desc).map (fun d => d.parameters.length) = some 3 := by decide +kernel
set_option maxHeartbeats 4000000 in
set_option maxRecDepth 100000 in
theorem k_X9_drawn {l : Launch} {D : va_G} {ad : Nat → Nat} {cI cW : ClassId} {tK tC : Nat} (hij : inj 83 ad)  {S0 : (Nat → Nat → Int32)} {a1 : Int32} {a2 : Int32} {a3 : Int32} {r : Int32} {Sr : (Nat → Nat → Int32)} (hE : f_X9_drawn S0 a1 a2 a3 = some (r, Sr)) {sz : Nat} : Met l yX9_drawn (wz yX9_drawn cX9_drawn 10 (some FieldType.int)) rmX9_drawn (PG 83 ad (ec ad cI cW) D (KC D cI cW) (ZC tK tC) [.ref (ad 0), .int a1, .int a2, .int a3] S0 sz) (QGi 83 ad (ec ad cI cW) D r Sr sz) 0 0 (AD 83 ad sz) := by
  unfold f_X9_drawn at hE
  refine g_start (cc := cX9_drawn) (maxL := 10) (ret := (some FieldType.int)) (Qc := fun sz => QGi 83 ad (ec ad cI cW) D r Sr sz) (by decide) rfl (Nat.le_of_ble_eq_true rfl) ?_
  intro p e s m args below meth c H locs ls hx hb hr hts hown hlocks hml hK hZ hP hS hl
  replace hl : lv_has ls 10 [(0, .ref (ad 0)), (1, .int a1), (2, .int a2), (3, .int a3)] := hl
  obtain ⟨QQ, hQQ⟩ : ∃ q, q = MQ below (QGi 83 ad (ec ad cI cW) D r Sr s.heap.size) args s 0 0 (AD 83 ad s.heap.size) := ⟨_, rfl⟩
  rw [← hQQ]
  refine lv_iload_n hx hb dX9_drawn_0 rfl (lv_at hl 1 rfl) ?_
  refine lv_iconst (v := 1) hx hb dX9_drawn_1 (by decide) ?_
  refine lv_bipush (v := 60) hx hb dX9_drawn_2 (by decide) ?_
  obtain ⟨r1, hCr1, hE⟩ := st_bo hE
  refine g_calli (va_runS (As := [.int a1, .int 1, .int 60]) (rest := []) ⟨hx, hb, hml, hown, hts⟩ (k_X9_isWithin hij (S0 := S0) hCr1) (va_cwS 3 hts (wz_S tw_2_1 tw_2_2 tw_1_1 tw_2_3) rfl rfl rfl hdS_X9_isWithin ⟨Nat.le_of_ble_eq_true rfl, Nat.le_of_ble_eq_true rfl⟩) (g_preS KC_st ZC_st hK hZ hP hS) rfl rfl hl.1 rfl (lv_room (Nat.le_of_ble_eq_true rfl)) dX9_drawn_4 ⟨Nat.zero_le _, Nat.zero_le _⟩) hS (fun H locs hP hS => ?_)
  refine lv_if_eq (tgt := 23) hx hb dX9_drawn_7 (by decide) (fun hc2 => ?_) (fun hc2 => ?_)
  · have hE := st_t hE hc2
    refine lv_bipush (v := (-102)) hx hb dX9_drawn_23 (by decide) ?_
    replace hE := Option.some.inj hE
    have hq := Prod.mk.inj hE
    subst hQQ
    exact g_iret hx hb hr hlocks hP hS hq.1 hq.2 dX9_drawn_25
  · have hE := st_f hE hc2
    refine lv_iload_n hx hb dX9_drawn_10 rfl (lv_at hl 2 rfl) ?_
    refine lv_if_lt (tgt := 23) hx hb dX9_drawn_11 (by decide) (fun hc3 => ?_) (fun hc3 => ?_)
    · have hE := st_t hE hc3
      refine lv_bipush (v := (-102)) hx hb dX9_drawn_23 (by decide) ?_
      replace hE := Option.some.inj hE
      have hq := Prod.mk.inj hE
      subst hQQ
      exact g_iret hx hb hr hlocks hP hS hq.1 hq.2 dX9_drawn_25
    · have hE := st_f hE hc3
      refine lv_iload_n hx hb dX9_drawn_14 rfl (lv_at hl 3 rfl) ?_
      refine lv_iconst (v := 0) hx hb dX9_drawn_15 (by decide) ?_
      refine lv_iconst (v := 2) hx hb dX9_drawn_16 (by decide) ?_
      obtain ⟨r4, hCr4, hE⟩ := st_bo hE
      refine g_calli (va_runS (As := [.int a3, .int 0, .int 2]) (rest := []) ⟨hx, hb, hml, hown, hts⟩ (k_X9_isWithin hij (S0 := S0) hCr4) (va_cwS 3 hts (wz_S tw_2_1 tw_2_2 tw_1_1 tw_2_3) rfl rfl rfl hdS_X9_isWithin ⟨Nat.le_of_ble_eq_true rfl, Nat.le_of_ble_eq_true rfl⟩) (g_preS KC_st ZC_st hK hZ hP hS) rfl rfl hl.1 rfl (lv_room (Nat.le_of_ble_eq_true rfl)) dX9_drawn_17 ⟨Nat.zero_le _, Nat.zero_le _⟩) hS (fun H locs hP hS => ?_)
      refine lv_if_ne (tgt := 26) hx hb dX9_drawn_20 (by decide) (fun hc5 => ?_) (fun hc5 => ?_)
      · have hE := st_f hE hc5
        refine lv_aload_n hx hb dX9_drawn_26 rfl (lv_at hl 0 rfl) ?_
        obtain ⟨r6, hCr6, hE⟩ := st_bo hE
        refine g_calli (va_runV (As := []) (rest := []) ⟨hx, hb, hml, hown, hts⟩ (k_X9_hasWall hij hCr6) (cwV 0 hts (wz_V tw_2_172 tw_2_174 tp_1 tw_1_1 tw_2_175) rfl rfl rfl hdV_X9_hasWall ⟨Nat.le_of_ble_eq_true rfl, Nat.le_of_ble_eq_true rfl⟩) (g_preV KC_st ZC_st hK hZ hP hS hK.1 ((q_WW (ad := ad) (cI := cI) (cW := cW))).1 (ec_o (q_WW (ad := ad) (cI := cI) (cW := cW))) rfl) rfl rfl hl.1 rfl (lv_room (Nat.le_of_ble_eq_true rfl)) dX9_drawn_27 ⟨Nat.zero_le _, Nat.zero_le _⟩) hS (fun H locs hP hS => ?_)
        refine lv_if_ne (tgt := 36) hx hb dX9_drawn_30 (by decide) (fun hc7 => ?_) (fun hc7 => ?_)
        · have hE := st_f hE hc7
          refine lv_aload_n hx hb dX9_drawn_36 rfl (lv_at hl 0 rfl) ?_
          refine c_get (v := .ref (ad 64)) hx hb hts (fun w h => wz_m (inX9 w h)) hown hK hP (q_WW (ad := ad) (cI := cI) (cW := cW)) rfl 4 (by decide) (hts _ (wz_m tw_1_213)) (fun _ h9 => h9) rfl dX9_drawn_37 ?_
          refine lv_aload_n hx hb dX9_drawn_40 rfl (lv_at hl 0 rfl) ?_
          refine c_get (v := .ref (ad 22)) hx hb hts (fun w h => wz_m (inX9 w h)) hown hK hP (q_WW (ad := ad) (cI := cI) (cW := cW)) rfl 2 (by decide) (hts _ (wz_m tw_1_211)) (fun _ h9 => h9) rfl dX9_drawn_41 ?_
          refine c_getN (v := .ref (ad 23)) hx hb hts (fun w h => wz_m (inX3 w h)) hown hK hP (q_Scene_22 (ad := ad) (cI := cI) (cW := cW)).1 rfl 0 (by decide) (List.mem_of_getElem? (i := 29) rfl) (fun _ h9 => h9) rfl dX9_drawn_44 ?_
          obtain ⟨r8, hCr8, hE⟩ := st_bo hE
          refine g_callv (va_runV (As := [.ref (ad 23)]) (rest := []) ⟨hx, hb, hml, hown, hts⟩ (k_X1_copyFrom hij (q_Hall_64 (ad := ad) (cI := cI) (cW := cW)) (q_Hall_23 (ad := ad) (cI := cI) (cW := cW)) hCr8) (cwV 1 hts (wz_V tw_2_228 tw_2_101 tw_2_102 tw_1_3 tw_2_103) rfl rfl rfl hdV_X1_copyFrom ⟨Nat.le_of_ble_eq_true rfl, Nat.le_of_ble_eq_true rfl⟩) (g_preV KC_st ZC_st hK hZ hP hS hK.1 ((q_Hall_64 (ad := ad) (cI := cI) (cW := cW)).1).1 (ec_o (q_Hall_64 (ad := ad) (cI := cI) (cW := cW)).1) rfl) rfl rfl hl.1 rfl (lv_room (Nat.le_of_ble_eq_true rfl)) dX9_drawn_47 ⟨Nat.zero_le _, Nat.zero_le _⟩) hS (fun H locs hP hS => ?_)
          refine lv_iconst (v := 0) hx hb dX9_drawn_50 (by decide) ?_
          refine lv_istore (lv' := [(4, .int 0), (0, .ref (ad 0)), (1, .int a1), (2, .int a2), (3, .int a3)]) hx hb dX9_drawn_51 hl (by decide) rfl (fun ls hl => ?_)
          refine lv_iload_n hx hb dX9_drawn_53 rfl (lv_at hl 3 rfl) ?_
          refine lv_istore (lv' := [(5, .int a2), (4, .int 0), (0, .ref (ad 0)), (1, .int a1), (2, .int a2), (3, .int a3)]) hx hb dX9_drawn_54 hl (by decide) rfl (fun ls hl => ?_)
          refine lv_iconst (v := 0) hx hb dX9_drawn_56 (by decide) ?_
          refine lv_istore (lv' := [(6, .int 0), (5, .int a2), (4, .int 0), (0, .ref (ad 0)), (1, .int a1), (2, .int a2), (3, .int a3)]) hx hb dX9_drawn_57 hl (by decide) rfl (fun ls hl => ?_)
          obtain ⟨x10, hx10, hE⟩ := st_bo hE
          refine lp_walk (body := fun (s9 : Int32 × Int32 × Int32 × (Nat → Nat → Int32)) => b_X9_drawn_59 a1 s9.1 s9.2.1 s9.2.2.1 s9.2.2.2) (fun s9 => ∀ (ls : Array Slot) (H : Heap) (locs : List Loc), lv_has ls 10 [(0, .ref (ad 0)), (1, .int a1), (3, .int a3), (4, .int s9.1), (5, .int s9.2.1), (6, .int s9.2.2.1)] → cP D ad cI cW s9.2.2.2 H → cS ad s H locs → W p l e rmX9_drawn s m args below meth c H locs 0 0 QQ (F0 m 59 ls [])) (fun x10 => ∀ (ls : Array Slot) (H : Heap) (locs : List Loc), lv_has ls 10 [(0, .ref (ad 0)), (3, .int a3), (4, .int x10.1), (5, .int x10.2.1)] → cP D ad cI cW x10.2.2 H → cS ad s H locs → W p l e rmX9_drawn s m args below meth c H locs 0 0 QQ (F0 m 149 ls [])) ?_ _ _ _ hx10 ?_ ls H locs (lv_sub hl [3, 4, 6, 2, 1, 0] rfl) hP hS
          · intro s9 t11 hE hKt11 ls H locs hl hP hS
            obtain ⟨c12, c13, c14, c15⟩ := s9
            replace hE : b_X9_drawn_59 a1 c12 c13 c14 c15 = some t11 := hE
            replace hl : lv_has ls 10 [(0, .ref (ad 0)), (1, .int a1), (3, .int a3), (4, .int c12), (5, .int c13), (6, .int c14)] := hl
            replace hP : cP D ad cI cW c15 H := hP
            unfold b_X9_drawn_59 at hE
            refine lv_iload hx hb dX9_drawn_59 (lv_at hl 5 rfl) ?_
            refine lv_iload_n hx hb dX9_drawn_61 rfl (lv_at hl 1 rfl) ?_
            refine lv_icmp_ge (tgt := 149) hx hb dX9_drawn_62 (by decide) (fun hc16 => ?_) (fun hc16 => ?_)
            · have hE := st_t hE hc16
              have hq := Option.some.inj hE
              subst hq
              exact hKt11 ls H locs (lv_sub hl [0, 2, 3, 4] rfl) hP hS
            · have hE := st_f hE hc16
              refine lv_iload hx hb dX9_drawn_65 (lv_at hl 4 rfl) ?_
              obtain ⟨r17, hCr17, hE⟩ := st_bo hE
              refine g_calli (va_runS (As := [.int c13]) (rest := []) ⟨hx, hb, hml, hown, hts⟩ (k_X9_seedAfter hij (S0 := c15) hCr17) (va_cwS 1 hts (wz_S tw_3_98 tw_3_99 tw_1_1 tw_3_100) rfl rfl rfl hdS_X9_seedAfter ⟨Nat.le_of_ble_eq_true rfl, Nat.le_of_ble_eq_true rfl⟩) (g_preS KC_st ZC_st hK hZ hP hS) rfl rfl hl.1 rfl (lv_room (Nat.le_of_ble_eq_true rfl)) dX9_drawn_67 ⟨Nat.zero_le _, Nat.zero_le _⟩) hS (fun H locs hP hS => ?_)
              refine lv_istore (lv' := [(5, .int r17), (0, .ref (ad 0)), (1, .int a1), (3, .int a3), (4, .int c12), (6, .int c14)]) hx hb dX9_drawn_70 hl (by decide) rfl (fun ls hl => ?_)
              refine lv_aload_n hx hb dX9_drawn_72 rfl (lv_at hl 1 rfl) ?_
              refine c_get (v := .ref (ad 64)) hx hb hts (fun w h => wz_m (inX9 w h)) hown hK hP (q_WW (ad := ad) (cI := cI) (cW := cW)) rfl 4 (by decide) (hts _ (wz_m tw_1_213)) (fun _ h9 => h9) rfl dX9_drawn_73 ?_
              refine c_getN (v := .int (c15 64 2)) hx hb hts (fun w h => wz_m (inX1 w h)) hown hK hP (q_Hall_64 (ad := ad) (cI := cI) (cW := cW)).1 rfl 2 (by decide) (List.mem_of_getElem? (i := 10) rfl) (fun _ h9 => h9) rfl dX9_drawn_76 ?_
              refine lv_iload hx hb dX9_drawn_79 (lv_at hl 0 rfl) ?_
              obtain ⟨r18, hCr18, hE⟩ := st_bo hE
              refine g_calli (va_runS (As := [.int (c15 64 2), .int r17]) (rest := []) ⟨hx, hb, hml, hown, hts⟩ (k_X9_drawOf hij (S0 := c15) hCr18) (va_cwS 2 hts (wz_S tw_3_103 tw_3_104 tw_1_1 tw_3_105) rfl rfl rfl hdS_X9_drawOf ⟨Nat.le_of_ble_eq_true rfl, Nat.le_of_ble_eq_true rfl⟩) (g_preS KC_st ZC_st hK hZ hP hS) rfl rfl hl.1 rfl (lv_room (Nat.le_of_ble_eq_true rfl)) dX9_drawn_81 ⟨Nat.zero_le _, Nat.zero_le _⟩) hS (fun H locs hP hS => ?_)
              refine lv_istore (lv' := [(7, .int r18), (5, .int r17), (0, .ref (ad 0)), (1, .int a1), (3, .int a3), (4, .int c12), (6, .int c14)]) hx hb dX9_drawn_84 hl (by decide) rfl (fun ls hl => ?_)
              refine lv_iload hx hb dX9_drawn_86 (lv_at hl 1 rfl) ?_
              obtain ⟨r19, hCr19, hE⟩ := st_bo hE
              refine g_calli (va_runS (As := [.int r17]) (rest := []) ⟨hx, hb, hml, hown, hts⟩ (k_X9_seedAfter hij (S0 := c15) hCr19) (va_cwS 1 hts (wz_S tw_3_98 tw_3_99 tw_1_1 tw_3_100) rfl rfl rfl hdS_X9_seedAfter ⟨Nat.le_of_ble_eq_true rfl, Nat.le_of_ble_eq_true rfl⟩) (g_preS KC_st ZC_st hK hZ hP hS) rfl rfl hl.1 rfl (lv_room (Nat.le_of_ble_eq_true rfl)) dX9_drawn_88 ⟨Nat.zero_le _, Nat.zero_le _⟩) hS (fun H locs hP hS => ?_)
              refine lv_istore (lv' := [(5, .int r19), (7, .int r18), (0, .ref (ad 0)), (1, .int a1), (3, .int a3), (4, .int c12), (6, .int c14)]) hx hb dX9_drawn_91 hl (by decide) rfl (fun ls hl => ?_)
              refine lv_bipush (v := 6) hx hb dX9_drawn_93 (by decide) ?_
              refine lv_iload hx hb dX9_drawn_95 (lv_at hl 0 rfl) ?_
              obtain ⟨r20, hCr20, hE⟩ := st_bo hE
              refine g_calli (va_runS (As := [.int 6, .int r19]) (rest := []) ⟨hx, hb, hml, hown, hts⟩ (k_X9_drawOf hij (S0 := c15) hCr20) (va_cwS 2 hts (wz_S tw_3_103 tw_3_104 tw_1_1 tw_3_105) rfl rfl rfl hdS_X9_drawOf ⟨Nat.le_of_ble_eq_true rfl, Nat.le_of_ble_eq_true rfl⟩) (g_preS KC_st ZC_st hK hZ hP hS) rfl rfl hl.1 rfl (lv_room (Nat.le_of_ble_eq_true rfl)) dX9_drawn_97 ⟨Nat.zero_le _, Nat.zero_le _⟩) hS (fun H locs hP hS => ?_)
              refine lv_istore (lv' := [(8, .int r20), (5, .int r19), (7, .int r18), (0, .ref (ad 0)), (1, .int a1), (3, .int a3), (4, .int c12), (6, .int c14)]) hx hb dX9_drawn_100 hl (by decide) rfl (fun ls hl => ?_)
              refine lv_iload hx hb dX9_drawn_102 (lv_at hl 1 rfl) ?_
              obtain ⟨r21, hCr21, hE⟩ := st_bo hE
              refine g_calli (va_runS (As := [.int r19]) (rest := []) ⟨hx, hb, hml, hown, hts⟩ (k_X9_seedAfter hij (S0 := c15) hCr21) (va_cwS 1 hts (wz_S tw_3_98 tw_3_99 tw_1_1 tw_3_100) rfl rfl rfl hdS_X9_seedAfter ⟨Nat.le_of_ble_eq_true rfl, Nat.le_of_ble_eq_true rfl⟩) (g_preS KC_st ZC_st hK hZ hP hS) rfl rfl hl.1 rfl (lv_room (Nat.le_of_ble_eq_true rfl)) dX9_drawn_104 ⟨Nat.zero_le _, Nat.zero_le _⟩) hS (fun H locs hP hS => ?_)
              refine lv_istore (lv' := [(5, .int r21), (8, .int r20), (7, .int r18), (0, .ref (ad 0)), (1, .int a1), (3, .int a3), (4, .int c12), (6, .int c14)]) hx hb dX9_drawn_107 hl (by decide) rfl (fun ls hl => ?_)
              refine lv_iconst (v := 4) hx hb dX9_drawn_109 (by decide) ?_
              refine lv_iload hx hb dX9_drawn_110 (lv_at hl 0 rfl) ?_
              obtain ⟨r22, hCr22, hE⟩ := st_bo hE
              refine g_calli (va_runS (As := [.int 4, .int r21]) (rest := []) ⟨hx, hb, hml, hown, hts⟩ (k_X9_drawOf hij (S0 := c15) hCr22) (va_cwS 2 hts (wz_S tw_3_103 tw_3_104 tw_1_1 tw_3_105) rfl rfl rfl hdS_X9_drawOf ⟨Nat.le_of_ble_eq_true rfl, Nat.le_of_ble_eq_true rfl⟩) (g_preS KC_st ZC_st hK hZ hP hS) rfl rfl hl.1 rfl (lv_room (Nat.le_of_ble_eq_true rfl)) dX9_drawn_112 ⟨Nat.zero_le _, Nat.zero_le _⟩) hS (fun H locs hP hS => ?_)
              refine lv_istore (lv' := [(9, .int r22), (5, .int r21), (8, .int r20), (7, .int r18), (0, .ref (ad 0)), (1, .int a1), (3, .int a3), (4, .int c12), (6, .int c14)]) hx hb dX9_drawn_115 hl (by decide) rfl (fun ls hl => ?_)
              refine lv_aload_n hx hb dX9_drawn_117 rfl (lv_at hl 4 rfl) ?_
              refine c_get (v := .ref (ad 64)) hx hb hts (fun w h => wz_m (inX9 w h)) hown hK hP (q_WW (ad := ad) (cI := cI) (cW := cW)) rfl 4 (by decide) (hts _ (wz_m tw_1_213)) (fun _ h9 => h9) rfl dX9_drawn_118 ?_
              refine c_getN (v := .ref (ad 65)) hx hb hts (fun w h => wz_m (inX1 w h)) hown hK hP (q_Hall_64 (ad := ad) (cI := cI) (cW := cW)).1 rfl 0 (by decide) (List.mem_of_getElem? (i := 6) rfl) (fun _ h9 => h9) rfl dX9_drawn_121 ?_
              refine lv_iload hx hb dX9_drawn_124 (lv_at hl 3 rfl) ?_
              obtain ⟨hi23, hE⟩ := st_gd hE
              refine c_aald hx hb hK hP (q_Hall_64 (ad := ad) (cI := cI) (cW := cW)).2.1 hi23 dX9_drawn_126 ?_
              refine lv_iload hx hb dX9_drawn_127 (lv_at hl 2 rfl) ?_
              refine lv_iconst (v := 4) hx hb dX9_drawn_129 (by decide) ?_
              refine lv_imul hx hb dX9_drawn_130 ?_
              refine lv_iload hx hb dX9_drawn_131 (lv_at hl 0 rfl) ?_
              refine lv_iadd hx hb dX9_drawn_133 ?_
              obtain ⟨r24, hCr24, hE⟩ := st_bo hE
              refine g_calli (va_runV (As := [.int ((r20 * 4) + r22)]) (rest := []) ⟨hx, hb, hml, hown, hts⟩ (k_X7_meets hij ((q_Hall_64 (ad := ad) (cI := cI) (cW := cW)).2.2.2 _ (st_lt hi23)) hCr24) (cwV 1 hts (wz_V tw_2_202 tw_2_203 tw_2_204 tw_1_4 tw_2_205) rfl rfl rfl hdV_X7_meets ⟨Nat.le_of_ble_eq_true rfl, Nat.le_of_ble_eq_true rfl⟩) (g_preV KC_st ZC_st hK hZ hP hS hK.1 (((q_Hall_64 (ad := ad) (cI := cI) (cW := cW)).2.2.2 _ (st_lt hi23)).1).1 (ec_o ((q_Hall_64 (ad := ad) (cI := cI) (cW := cW)).2.2.2 _ (st_lt hi23)).1) rfl) rfl rfl hl.1 rfl (lv_room (Nat.le_of_ble_eq_true rfl)) dX9_drawn_134 ⟨Nat.zero_le _, Nat.zero_le _⟩) hS (fun H locs hP hS => ?_)
              refine lv_if_eq (tgt := 143) hx hb dX9_drawn_137 (by decide) (fun hc25 => ?_) (fun hc25 => ?_)
              · have hE := st_t hE hc25
                obtain ⟨v26, ev26, hE⟩ := st_bv hE
                refine lv_iinc (v := v26) (lv' := [(6, .int v26), (9, .int r22), (5, .int r21), (8, .int r20), (7, .int r18), (0, .ref (ad 0)), (1, .int a1), (3, .int a3), (4, .int c12)]) hx hb dX9_drawn_143 hl (k := 8) rfl (by rw [ev26]; rfl) (by decide) rfl (fun ls hl => ?_)
                refine lv_goto (tgt := 59) hx hb dX9_drawn_146 (by decide) ?_
                have hq := Option.some.inj hE
                subst hq
                exact hKt11 ls H locs (lv_sub hl [5, 6, 7, 8, 2, 0] rfl) hP hS
              · have hE := st_f hE hc25
                obtain ⟨v27, ev27, hE⟩ := st_bv hE
                refine lv_iinc (v := v27) (lv' := [(4, .int v27), (9, .int r22), (5, .int r21), (8, .int r20), (7, .int r18), (0, .ref (ad 0)), (1, .int a1), (3, .int a3), (6, .int c14)]) hx hb dX9_drawn_140 hl (k := 7) rfl (by rw [ev27]; rfl) (by decide) rfl (fun ls hl => ?_)
                obtain ⟨v28, ev28, hE⟩ := st_bv hE
                refine lv_iinc (v := v28) (lv' := [(6, .int v28), (4, .int v27), (9, .int r22), (5, .int r21), (8, .int r20), (7, .int r18), (0, .ref (ad 0)), (1, .int a1), (3, .int a3)]) hx hb dX9_drawn_143 hl (k := 8) rfl (by rw [ev28]; rfl) (by decide) rfl (fun ls hl => ?_)
                refine lv_goto (tgt := 59) hx hb dX9_drawn_146 (by decide) ?_
                have hq := Option.some.inj hE
                subst hq
                exact hKt11 ls H locs (lv_sub hl [6, 7, 8, 1, 3, 0] rfl) hP hS
          · intro ls H locs hl hP hS
            refine lv_iload_n hx hb dX9_drawn_149 rfl (lv_at hl 1 rfl) ?_
            refine lv_if_ne (tgt := 156) hx hb dX9_drawn_150 (by decide) (fun hc29 => ?_) (fun hc29 => ?_)
            · have hE := st_f hE hc29
              refine lv_iload_n hx hb dX9_drawn_156 rfl (lv_at hl 1 rfl) ?_
              refine lv_iconst (v := 1) hx hb dX9_drawn_157 (by decide) ?_
              refine lv_icmp_ne (tgt := 178) hx hb dX9_drawn_158 (by decide) (fun hc30 => ?_) (fun hc30 => ?_)
              · have hE := st_f hE hc30
                refine lv_iload hx hb dX9_drawn_178 (lv_at hl 3 rfl) ?_
                replace hE := Option.some.inj hE
                have hq := Prod.mk.inj hE
                subst hQQ
                exact g_iret hx hb hr hlocks hP hS hq.1 hq.2 dX9_drawn_180
              · have hE := st_t hE hc30
                refine lv_aload_n hx hb dX9_drawn_161 rfl (lv_at hl 0 rfl) ?_
                refine c_get (v := .ref (ad 64)) hx hb hts (fun w h => wz_m (inX9 w h)) hown hK hP (q_WW (ad := ad) (cI := cI) (cW := cW)) rfl 4 (by decide) (hts _ (wz_m tw_1_213)) (fun _ h9 => h9) rfl dX9_drawn_162 ?_
                refine lv_aload_n hx hb dX9_drawn_165 rfl (lv_at hl 0 rfl) ?_
                refine c_get (v := .ref (ad 64)) hx hb hts (fun w h => wz_m (inX9 w h)) hown hK hP (q_WW (ad := ad) (cI := cI) (cW := cW)) rfl 4 (by decide) (hts _ (wz_m tw_1_213)) (fun _ h9 => h9) rfl dX9_drawn_166 ?_
                obtain ⟨r31, hCr31, hE⟩ := st_bo hE
                refine g_calli (va_runV (As := []) (rest := [.ref (ad 64)]) ⟨hx, hb, hml, hown, hts⟩ (k_X1_everyone hij (q_Hall_64 (ad := ad) (cI := cI) (cW := cW)) hCr31) (cwV 0 hts (wz_V tw_2_176 tw_2_177 tw_2_178 tw_1_3 tw_2_179) rfl rfl rfl hdV_X1_everyone ⟨Nat.le_of_ble_eq_true rfl, Nat.le_of_ble_eq_true rfl⟩) (g_preV KC_st ZC_st hK hZ hP hS hK.1 ((q_Hall_64 (ad := ad) (cI := cI) (cW := cW)).1).1 (ec_o (q_Hall_64 (ad := ad) (cI := cI) (cW := cW)).1) rfl) rfl rfl hl.1 rfl (lv_room (Nat.le_of_ble_eq_true rfl)) dX9_drawn_169 ⟨Nat.zero_le _, Nat.zero_le _⟩) hS (fun H locs hP hS => ?_)
                obtain ⟨r32, hCr32, hE⟩ := st_bo hE
                refine g_calli (va_runV (As := [.int r31]) (rest := []) ⟨hx, hb, hml, hown, hts⟩ (k_X1_clashesAmong hij (q_Hall_64 (ad := ad) (cI := cI) (cW := cW)) hCr32) (cwV 1 hts (wz_V tw_3_107 tw_3_51 tw_3_52 tw_1_3 tw_3_53) rfl rfl rfl hdV_X1_clashesAmong ⟨Nat.le_of_ble_eq_true rfl, Nat.le_of_ble_eq_true rfl⟩) (g_preV KC_st ZC_st hK hZ hP hS hK.1 ((q_Hall_64 (ad := ad) (cI := cI) (cW := cW)).1).1 (ec_o (q_Hall_64 (ad := ad) (cI := cI) (cW := cW)).1) rfl) rfl rfl hl.1 rfl (lv_room (Nat.le_of_ble_eq_true rfl)) dX9_drawn_172 ⟨Nat.zero_le _, Nat.zero_le _⟩) hS (fun H locs hP hS => ?_)
                refine lv_goto (tgt := 180) hx hb dX9_drawn_175 (by decide) ?_
                replace hE := Option.some.inj hE
                have hq := Prod.mk.inj hE
                subst hQQ
                exact g_iret hx hb hr hlocks hP hS hq.1 hq.2 dX9_drawn_180
            · have hE := st_t hE hc29
              refine lv_iload hx hb dX9_drawn_153 (lv_at hl 2 rfl) ?_
              replace hE := Option.some.inj hE
              have hq := Prod.mk.inj hE
              subst hQQ
              exact g_iret hx hb hr hlocks hP hS hq.1 hq.2 dX9_drawn_155
        · have hE := st_t hE hc7
          refine lv_bipush (v := (-103)) hx hb dX9_drawn_33 (by decide) ?_
          replace hE := Option.some.inj hE
          have hq := Prod.mk.inj hE
          subst hQQ
          exact g_iret hx hb hr hlocks hP hS hq.1 hq.2 dX9_drawn_35
      · have hE := st_t hE hc5
        refine lv_bipush (v := (-102)) hx hb dX9_drawn_23 (by decide) ?_
        replace hE := Option.some.inj hE
        have hq := Prod.mk.inj hE
        subst hQQ
        exact g_iret hx hb hr hlocks hP hS hq.1 hq.2 dX9_drawn_25

def b_X1_wrongBy_5 (k : Nat) (S0 : (Nat → Nat → Int32)) (a1 : Int32) (a2 : Int32) (c4 : Int32) (c5 : Int32) : Option ((Int32 × Int32) ⊕ (Int32)) :=
  if (S0 k 2) ≤ c5 then (some (.inr c4)) else (gd (inb c5 5) (bo (f_X7_hasOtherColour (k + 3 + 2 * c5.toNatClampNeg) S0 a1 a2) (fun (r8 : Int32) => if r8 = 0 then (bv (c5 + 1) (fun (v10 : Int32) => some (.inl (c4, v10)))) else (bv (c4 ||| ((1 : Int32) <<< (c5 &&& 31))) (fun (v11 : Int32) => bv (c5 + 1) (fun (v12 : Int32) => some (.inl (v11, v12))))))))
def f_X1_wrongBy (k : Nat) (S0 : (Nat → Nat → Int32)) (a1 : Int32) (a2 : Int32) : Option (Int32) :=
  bo (lp (fun (s1 : Int32 × Int32) => b_X1_wrongBy_5 k S0 a1 a2 s1.1 s1.2) 5000 (0, 0)) (fun (x2 : Int32) => some x2)
abbrev rmX1_wrongBy : Room := { frames := 1, cells := 0, slots := 0, locals := 23 }
theorem hdV_X1_wrongBy : yX1_wrongBy.cls = "WitnessWall$Hall" ∧ yX1_wrongBy.cls ≠ "java/lang/invoke/MethodHandle" ∧ yX1_wrongBy.cls ≠ "java/lang/invoke/VarHandle" ∧ (parseMethodDescriptor yX1_wrongBy.desc).map (fun d => d.parameters.length) = some 2 := by decide +kernel
set_option maxHeartbeats 4000000 in
set_option maxRecDepth 100000 in
theorem k_X1_wrongBy {l : Launch} {D : va_G} {ad : Nat → Nat} {cI cW : ClassId} {tK tC : Nat} (hij : inj 83 ad) {k : Nat} (h0 : iHall ad cI cW k) {S0 : (Nat → Nat → Int32)} {a1 : Int32} {a2 : Int32} {r : Int32} (hE : f_X1_wrongBy k S0 a1 a2 = some r) {sz : Nat} : Met l yX1_wrongBy (wz yX1_wrongBy cX1_wrongBy 5 (some FieldType.int)) rmX1_wrongBy (PG 83 ad (ec ad cI cW) D (KC D cI cW) (ZC tK tC) [.ref (ad k), .int a1, .int a2] S0 sz) (QGi 83 ad (ec ad cI cW) D r S0 sz) 0 0 (AD 83 ad sz) := by
  unfold f_X1_wrongBy at hE
  refine g_start (cc := cX1_wrongBy) (maxL := 5) (ret := (some FieldType.int)) (Qc := fun sz => QGi 83 ad (ec ad cI cW) D r S0 sz) (by decide) rfl (Nat.le_of_ble_eq_true rfl) ?_
  intro p e s m args below meth c H locs ls hx hb hr hts hown hlocks hml hK hZ hP hS hl
  replace hl : lv_has ls 5 [(0, .ref (ad k)), (1, .int a1), (2, .int a2)] := hl
  obtain ⟨QQ, hQQ⟩ : ∃ q, q = MQ below (QGi 83 ad (ec ad cI cW) D r S0 s.heap.size) args s 0 0 (AD 83 ad s.heap.size) := ⟨_, rfl⟩
  rw [← hQQ]
  refine lv_iconst (v := 0) hx hb dX1_wrongBy_0 (by decide) ?_
  refine lv_istore_n (lv' := [(3, .int 0), (0, .ref (ad k)), (1, .int a1), (2, .int a2)]) hx hb dX1_wrongBy_1 rfl hl (by decide) rfl (fun ls hl => ?_)
  refine lv_iconst (v := 0) hx hb dX1_wrongBy_2 (by decide) ?_
  refine lv_istore (lv' := [(4, .int 0), (3, .int 0), (0, .ref (ad k)), (1, .int a1), (2, .int a2)]) hx hb dX1_wrongBy_3 hl (by decide) rfl (fun ls hl => ?_)
  obtain ⟨x2, hx2, hE⟩ := st_bo hE
  refine lp_walk (body := fun (s1 : Int32 × Int32) => b_X1_wrongBy_5 k S0 a1 a2 s1.1 s1.2) (fun s1 => ∀ (ls : Array Slot) (H : Heap) (locs : List Loc), lv_has ls 5 [(0, .ref (ad k)), (1, .int a1), (2, .int a2), (3, .int s1.1), (4, .int s1.2)] → cP D ad cI cW S0 H → cS ad s H locs → W p l e rmX1_wrongBy s m args below meth c H locs 0 0 QQ (F0 m 5 ls [])) (fun x2 => ∀ (ls : Array Slot) (H : Heap) (locs : List Loc), lv_has ls 5 [(3, .int x2)] → cP D ad cI cW S0 H → cS ad s H locs → W p l e rmX1_wrongBy s m args below meth c H locs 0 0 QQ (F0 m 42 ls [])) ?_ _ _ _ hx2 ?_ ls H locs (lv_sub hl [2, 3, 4, 1, 0] rfl) hP hS
  · intro s1 t3 hE hKt3 ls H locs hl hP hS
    obtain ⟨c4, c5⟩ := s1
    replace hE : b_X1_wrongBy_5 k S0 a1 a2 c4 c5 = some t3 := hE
    replace hl : lv_has ls 5 [(0, .ref (ad k)), (1, .int a1), (2, .int a2), (3, .int c4), (4, .int c5)] := hl
    replace hP : cP D ad cI cW S0 H := hP
    unfold b_X1_wrongBy_5 at hE
    refine lv_iload hx hb dX1_wrongBy_5 (lv_at hl 4 rfl) ?_
    refine lv_aload_n hx hb dX1_wrongBy_7 rfl (lv_at hl 0 rfl) ?_
    refine c_get (v := .int (S0 k 2)) hx hb hts (fun w h => wz_m (inX1 w h)) hown hK hP h0.1 rfl 2 (by decide) (hts _ (wz_m tw_1_60)) (fun _ h9 => h9) rfl dX1_wrongBy_8 ?_
    refine lv_icmp_ge (tgt := 42) hx hb dX1_wrongBy_11 (by decide) (fun hc6 => ?_) (fun hc6 => ?_)
    · have hE := st_t hE hc6
      have hq := Option.some.inj hE
      subst hq
      exact hKt3 ls H locs (lv_sub hl [3] rfl) hP hS
    · have hE := st_f hE hc6
      refine lv_aload_n hx hb dX1_wrongBy_14 rfl (lv_at hl 0 rfl) ?_
      refine c_get (v := .ref (ad (k + 1))) hx hb hts (fun w h => wz_m (inX1 w h)) hown hK hP h0.1 rfl 0 (by decide) (hts _ (wz_m tw_1_55)) (fun _ h9 => h9) rfl dX1_wrongBy_15 ?_
      refine lv_iload hx hb dX1_wrongBy_18 (lv_at hl 4 rfl) ?_
      obtain ⟨hi7, hE⟩ := st_gd hE
      refine c_aald hx hb hK hP h0.2.1 hi7 dX1_wrongBy_20 ?_
      refine lv_iload_n hx hb dX1_wrongBy_21 rfl (lv_at hl 1 rfl) ?_
      refine lv_iload_n hx hb dX1_wrongBy_22 rfl (lv_at hl 2 rfl) ?_
      obtain ⟨r8, hCr8, hE⟩ := st_bo hE
      refine g_calli (va_runV (As := [.int a1, .int a2]) (rest := []) ⟨hx, hb, hml, hown, hts⟩ (k_X7_hasOtherColour hij (h0.2.2.2 _ (st_lt hi7)) hCr8) (cwV 2 hts (wz_V tw_3_70 tw_3_71 tw_3_72 tw_1_4 tw_3_73) rfl rfl rfl hdV_X7_hasOtherColour ⟨Nat.le_of_ble_eq_true rfl, Nat.le_of_ble_eq_true rfl⟩) (g_preV KC_st ZC_st hK hZ hP hS hK.1 ((h0.2.2.2 _ (st_lt hi7)).1).1 (ec_o (h0.2.2.2 _ (st_lt hi7)).1) rfl) rfl rfl hl.1 rfl (lv_room (Nat.le_of_ble_eq_true rfl)) dX1_wrongBy_23 ⟨Nat.zero_le _, Nat.zero_le _⟩) hS (fun H locs hP hS => ?_)
      refine lv_if_eq (tgt := 36) hx hb dX1_wrongBy_26 (by decide) (fun hc9 => ?_) (fun hc9 => ?_)
      · have hE := st_t hE hc9
        obtain ⟨v10, ev10, hE⟩ := st_bv hE
        refine lv_iinc (v := v10) (lv' := [(4, .int v10), (0, .ref (ad k)), (1, .int a1), (2, .int a2), (3, .int c4)]) hx hb dX1_wrongBy_36 hl (k := 4) rfl (by rw [ev10]; rfl) (by decide) rfl (fun ls hl => ?_)
        refine lv_goto (tgt := 5) hx hb dX1_wrongBy_39 (by decide) ?_
        have hq := Option.some.inj hE
        subst hq
        exact hKt3 ls H locs (lv_sub hl [1, 2, 3, 4, 0] rfl) hP hS
      · have hE := st_f hE hc9
        refine lv_iload_n hx hb dX1_wrongBy_29 rfl (lv_at hl 3 rfl) ?_
        refine lv_iconst (v := 1) hx hb dX1_wrongBy_30 (by decide) ?_
        refine lv_iload hx hb dX1_wrongBy_31 (lv_at hl 4 rfl) ?_
        refine lv_ishl hx hb dX1_wrongBy_33 ?_
        refine lv_ior hx hb dX1_wrongBy_34 ?_
        obtain ⟨v11, ev11, hE⟩ := st_bv hE
        refine nm_i ev11 ?_
        refine lv_istore_n (lv' := [(3, .int v11), (0, .ref (ad k)), (1, .int a1), (2, .int a2), (4, .int c5)]) hx hb dX1_wrongBy_35 rfl hl (by decide) rfl (fun ls hl => ?_)
        obtain ⟨v12, ev12, hE⟩ := st_bv hE
        refine lv_iinc (v := v12) (lv' := [(4, .int v12), (3, .int v11), (0, .ref (ad k)), (1, .int a1), (2, .int a2)]) hx hb dX1_wrongBy_36 hl (k := 4) rfl (by rw [ev12]; rfl) (by decide) rfl (fun ls hl => ?_)
        refine lv_goto (tgt := 5) hx hb dX1_wrongBy_39 (by decide) ?_
        have hq := Option.some.inj hE
        subst hq
        exact hKt3 ls H locs (lv_sub hl [2, 3, 4, 1, 0] rfl) hP hS
  · intro ls H locs hl hP hS
    refine lv_iload_n hx hb dX1_wrongBy_42 rfl (lv_at hl 0 rfl) ?_
    replace hE := Option.some.inj hE
    subst hQQ
    exact g_iret hx hb hr hlocks hP hS hE rfl dX1_wrongBy_43
def b_X8_tellOf_3 (c4 : Int32) (c5 : (Nat → Nat → Int32)) : Option ((Int32 × (Nat → Nat → Int32)) ⊕ ((Nat → Nat → Int32))) :=
  if 32 ≤ c4 then (some (.inr c5)) else (gd (inb c4 32) (bv (up2 c5 82 (c4.toNatClampNeg) 0) (fun S8 => bv (c4 + 1) (fun (v9 : Int32) => some (.inl (v9, S8))))))
def b_X8_tellOf_56 (r17 : Int32) (c21 : Int32) (c22 : (Nat → Nat → Int32)) : Option ((Int32 × (Nat → Nat → Int32)) ⊕ ((Nat → Nat → Int32))) :=
  if 32 ≤ c21 then (some (.inr c22)) else (gd (inb (c21 ||| r17) 32) (gd (inb c21 32) (gd (inb (c21 ||| r17) 32) (bv (up2 c22 82 ((c21 ||| r17).toNatClampNeg) ((c22 82 ((c21 ||| r17).toNatClampNeg)) + (c22 81 (c21.toNatClampNeg)))) (fun S27 => bv (c21 + 1) (fun (v28 : Int32) => some (.inl (v28, S27))))))))
def b_X8_tellOf_56_2 (r32 : Int32) (c36 : Int32) (c37 : (Nat → Nat → Int32)) : Option ((Int32 × (Nat → Nat → Int32)) ⊕ ((Nat → Nat → Int32))) :=
  if 32 ≤ c36 then (some (.inr c37)) else (gd (inb (c36 ||| r32) 32) (gd (inb c36 32) (gd (inb (c36 ||| r32) 32) (bv (up2 c37 82 ((c36 ||| r32).toNatClampNeg) ((c37 82 ((c36 ||| r32).toNatClampNeg)) + (c37 81 (c36.toNatClampNeg)))) (fun S42 => bv (c36 + 1) (fun (v43 : Int32) => some (.inl (v43, S42))))))))
def b_X8_tellOf_27 (a1 : Nat) (a2 : Int32) (a3 : Int32) (c13 : Int32) (c14 : (Nat → Nat → Int32)) : Option ((Int32 × (Nat → Nat → Int32)) ⊕ ((Nat → Nat → Int32))) :=
  if 4 ≤ c13 then (some (.inr c14)) else (if a3 = (-1) then (bo (f_X1_wrongBy a1 c14 a2 c13) (fun (r17 : Int32) => bo (lp (fun (s18 : Int32 × (Nat → Nat → Int32)) => b_X8_tellOf_56 r17 s18.1 s18.2) 5000 (0, c14)) (fun (x19 : (Nat → Nat → Int32)) => bv (c13 + 1) (fun (v29 : Int32) => some (.inl (v29, x19)))))) else (if a3 = c13 then (bo (f_X1_wrongBy a1 c14 a2 c13) (fun (r32 : Int32) => bo (lp (fun (s33 : Int32 × (Nat → Nat → Int32)) => b_X8_tellOf_56_2 r32 s33.1 s33.2) 5000 (0, c14)) (fun (x34 : (Nat → Nat → Int32)) => bv (c13 + 1) (fun (v44 : Int32) => some (.inl (v44, x34)))))) else (bv (c13 + 1) (fun (v31 : Int32) => some (.inl (v31, c14))))))
def b_X8_tellOf_98 (c48 : Int32) (c49 : (Nat → Nat → Int32)) : Option ((Int32 × (Nat → Nat → Int32)) ⊕ ((Nat → Nat → Int32))) :=
  if 32 ≤ c48 then (some (.inr c49)) else (gd (inb c48 32) (gd (inb c48 32) (bv (up2 c49 81 (c48.toNatClampNeg) (c49 82 (c48.toNatClampNeg))) (fun S53 => bv (c48 + 1) (fun (v54 : Int32) => some (.inl (v54, S53)))))))
def f_X8_tellOf (S0 : (Nat → Nat → Int32)) (a1 : Nat) (a2 : Int32) (a3 : Int32) : Option ((Nat → Nat → Int32)) :=
  bo (lp (fun (s1 : Int32 × (Nat → Nat → Int32)) => b_X8_tellOf_3 s1.1 s1.2) 5000 (0, S0)) (fun (x2 : (Nat → Nat → Int32)) => bo (lp (fun (s10 : Int32 × (Nat → Nat → Int32)) => b_X8_tellOf_27 a1 a2 a3 s10.1 s10.2) 5000 (0, x2)) (fun (x11 : (Nat → Nat → Int32)) => bo (lp (fun (s45 : Int32 × (Nat → Nat → Int32)) => b_X8_tellOf_98 s45.1 s45.2) 5000 (0, x11)) (fun (x46 : (Nat → Nat → Int32)) => some x46)))
abbrev rmX8_tellOf : Room := { frames := 2, cells := 0, slots := 0, locals := 47 }
theorem hdV_X8_tellOf : yX8_tellOf.cls = "WitnessWall$Worlds" ∧ yX8_tellOf.cls ≠ "java/lang/invoke/MethodHandle" ∧ yX8_tellOf.cls ≠ "java/lang/invoke/VarHandle" ∧ (parseMethodDescriptor yX8_tellOf.desc).map (fun d => d.parameters.length) = some 3 := by decide +kernel
set_option maxHeartbeats 4000000 in
set_option maxRecDepth 100000 in
theorem k_X8_tellOf {l : Launch} {D : va_G} {ad : Nat → Nat} {cI cW : ClassId} {tK tC : Nat} (hij : inj 83 ad)  {S0 : (Nat → Nat → Int32)} {a1 : Nat} (h1 : iHall ad cI cW a1) {a2 : Int32} {a3 : Int32} {Sr : (Nat → Nat → Int32)} (hE : f_X8_tellOf S0 a1 a2 a3 = some Sr) {sz : Nat} : Met l yX8_tellOf (wz yX8_tellOf cX8_tellOf 7 none) rmX8_tellOf (PG 83 ad (ec ad cI cW) D (KC D cI cW) (ZC tK tC) [.ref (ad 80), .ref (ad a1), .int a2, .int a3] S0 sz) (QGv 83 ad (ec ad cI cW) D Sr sz) 0 0 (AD 83 ad sz) := by
  unfold f_X8_tellOf at hE
  refine g_start (cc := cX8_tellOf) (maxL := 7) (ret := none) (Qc := fun sz => QGv 83 ad (ec ad cI cW) D Sr sz) (by decide) rfl (Nat.le_of_ble_eq_true rfl) ?_
  intro p e s m args below meth c H locs ls hx hb hr hts hown hlocks hml hK hZ hP hS hl
  replace hl : lv_has ls 7 [(0, .ref (ad 80)), (1, .ref (ad a1)), (2, .int a2), (3, .int a3)] := hl
  obtain ⟨QQ, hQQ⟩ : ∃ q, q = MQ below (QGv 83 ad (ec ad cI cW) D Sr s.heap.size) args s 0 0 (AD 83 ad s.heap.size) := ⟨_, rfl⟩
  rw [← hQQ]
  refine lv_iconst (v := 0) hx hb dX8_tellOf_0 (by decide) ?_
  refine lv_istore (lv' := [(4, .int 0), (0, .ref (ad 80)), (1, .ref (ad a1)), (2, .int a2), (3, .int a3)]) hx hb dX8_tellOf_1 hl (by decide) rfl (fun ls hl => ?_)
  obtain ⟨x2, hx2, hE⟩ := st_bo hE
  refine lp_walk (body := fun (s1 : Int32 × (Nat → Nat → Int32)) => b_X8_tellOf_3 s1.1 s1.2) (fun s1 => ∀ (ls : Array Slot) (H : Heap) (locs : List Loc), lv_has ls 7 [(0, .ref (ad 80)), (1, .ref (ad a1)), (2, .int a2), (3, .int a3), (4, .int s1.1)] → cP D ad cI cW s1.2 H → cS ad s H locs → W p l e rmX8_tellOf s m args below meth c H locs 0 0 QQ (F0 m 3 ls [])) (fun x2 => ∀ (ls : Array Slot) (H : Heap) (locs : List Loc), lv_has ls 7 [(0, .ref (ad 80)), (1, .ref (ad a1)), (2, .int a2), (3, .int a3)] → cP D ad cI cW x2 H → cS ad s H locs → W p l e rmX8_tellOf s m args below meth c H locs 0 0 QQ (F0 m 24 ls [])) ?_ _ _ _ hx2 ?_ ls H locs (lv_sub hl [1, 2, 3, 4, 0] rfl) hP hS
  · intro s1 t3 hE hKt3 ls H locs hl hP hS
    obtain ⟨c4, c5⟩ := s1
    replace hE : b_X8_tellOf_3 c4 c5 = some t3 := hE
    replace hl : lv_has ls 7 [(0, .ref (ad 80)), (1, .ref (ad a1)), (2, .int a2), (3, .int a3), (4, .int c4)] := hl
    replace hP : cP D ad cI cW c5 H := hP
    unfold b_X8_tellOf_3 at hE
    refine lv_iload hx hb dX8_tellOf_3 (lv_at hl 4 rfl) ?_
    refine lv_bipush (v := 32) hx hb dX8_tellOf_5 (by decide) ?_
    refine lv_icmp_ge (tgt := 24) hx hb dX8_tellOf_7 (by decide) (fun hc6 => ?_) (fun hc6 => ?_)
    · have hE := st_t hE hc6
      have hq := Option.some.inj hE
      subst hq
      exact hKt3 ls H locs (lv_sub hl [0, 1, 2, 3] rfl) hP hS
    · have hE := st_f hE hc6
      refine lv_aload_n hx hb dX8_tellOf_10 rfl (lv_at hl 0 rfl) ?_
      refine c_get (v := .ref (ad 82)) hx hb hts (fun w h => wz_m (inX8 w h)) hown hK hP (q_Worlds_80 (ad := ad) (cI := cI) (cW := cW)).1 rfl 1 (by decide) (hts _ (wz_m tw_1_203)) (fun _ h9 => h9) rfl dX8_tellOf_11 ?_
      refine lv_iload hx hb dX8_tellOf_14 (lv_at hl 4 rfl) ?_
      refine lv_iconst (v := 0) hx hb dX8_tellOf_16 (by decide) ?_
      obtain ⟨hi7, hE⟩ := st_gd hE
      refine c_iast hij hx hb hK hP hS (q_Worlds_80 (ad := ad) (cI := cI) (cW := cW)).2.2 hi7 dX8_tellOf_17 (fun H locs hP hS => ?_)
      obtain ⟨S8, eS8, hE⟩ := st_bv hE
      rw [← eS8] at hP
      obtain ⟨v9, ev9, hE⟩ := st_bv hE
      refine lv_iinc (v := v9) (lv' := [(4, .int v9), (0, .ref (ad 80)), (1, .ref (ad a1)), (2, .int a2), (3, .int a3)]) hx hb dX8_tellOf_18 hl (k := 4) rfl (by rw [ev9]; rfl) (by decide) rfl (fun ls hl => ?_)
      refine lv_goto (tgt := 3) hx hb dX8_tellOf_21 (by decide) ?_
      have hq := Option.some.inj hE
      subst hq
      exact hKt3 ls H locs (lv_sub hl [1, 2, 3, 4, 0] rfl) hP hS
  · intro ls H locs hl hP hS
    refine lv_iconst (v := 0) hx hb dX8_tellOf_24 (by decide) ?_
    refine lv_istore (lv' := [(4, .int 0), (0, .ref (ad 80)), (1, .ref (ad a1)), (2, .int a2), (3, .int a3)]) hx hb dX8_tellOf_25 hl (by decide) rfl (fun ls hl => ?_)
    obtain ⟨x11, hx11, hE⟩ := st_bo hE
    refine lp_walk (body := fun (s10 : Int32 × (Nat → Nat → Int32)) => b_X8_tellOf_27 a1 a2 a3 s10.1 s10.2) (fun s10 => ∀ (ls : Array Slot) (H : Heap) (locs : List Loc), lv_has ls 7 [(0, .ref (ad 80)), (1, .ref (ad a1)), (2, .int a2), (3, .int a3), (4, .int s10.1)] → cP D ad cI cW s10.2 H → cS ad s H locs → W p l e rmX8_tellOf s m args below meth c H locs 0 0 QQ (F0 m 27 ls [])) (fun x11 => ∀ (ls : Array Slot) (H : Heap) (locs : List Loc), lv_has ls 7 [(0, .ref (ad 80))] → cP D ad cI cW x11 H → cS ad s H locs → W p l e rmX8_tellOf s m args below meth c H locs 0 0 QQ (F0 m 95 ls [])) ?_ _ _ _ hx11 ?_ ls H locs (lv_sub hl [1, 2, 3, 4, 0] rfl) hP hS
    · intro s10 t12 hE hKt12 ls H locs hl hP hS
      obtain ⟨c13, c14⟩ := s10
      replace hE : b_X8_tellOf_27 a1 a2 a3 c13 c14 = some t12 := hE
      replace hl : lv_has ls 7 [(0, .ref (ad 80)), (1, .ref (ad a1)), (2, .int a2), (3, .int a3), (4, .int c13)] := hl
      replace hP : cP D ad cI cW c14 H := hP
      unfold b_X8_tellOf_27 at hE
      refine lv_iload hx hb dX8_tellOf_27 (lv_at hl 4 rfl) ?_
      refine lv_iconst (v := 4) hx hb dX8_tellOf_29 (by decide) ?_
      refine lv_icmp_ge (tgt := 95) hx hb dX8_tellOf_30 (by decide) (fun hc15 => ?_) (fun hc15 => ?_)
      · have hE := st_t hE hc15
        have hq := Option.some.inj hE
        subst hq
        exact hKt12 ls H locs (lv_sub hl [0] rfl) hP hS
      · have hE := st_f hE hc15
        refine lv_iload_n hx hb dX8_tellOf_33 rfl (lv_at hl 3 rfl) ?_
        refine lv_iconst (v := (-1)) hx hb dX8_tellOf_34 (by decide) ?_
        refine lv_icmp_eq (tgt := 44) hx hb dX8_tellOf_35 (by decide) (fun hc16 => ?_) (fun hc16 => ?_)
        · have hE := st_t hE hc16
          refine lv_aload_n hx hb dX8_tellOf_44 rfl (lv_at hl 1 rfl) ?_
          refine lv_iload_n hx hb dX8_tellOf_45 rfl (lv_at hl 2 rfl) ?_
          refine lv_iload hx hb dX8_tellOf_46 (lv_at hl 4 rfl) ?_
          obtain ⟨r17, hCr17, hE⟩ := st_bo hE
          refine g_calli (va_runV (As := [.int a2, .int c13]) (rest := []) ⟨hx, hb, hml, hown, hts⟩ (k_X1_wrongBy hij h1 hCr17) (cwV 2 hts (wz_V tw_3_66 tw_3_67 tw_3_68 tw_1_3 tw_3_69) rfl rfl rfl hdV_X1_wrongBy ⟨Nat.le_of_ble_eq_true rfl, Nat.le_of_ble_eq_true rfl⟩) (g_preV KC_st ZC_st hK hZ hP hS hK.1 (h1.1).1 (ec_o h1.1) rfl) rfl rfl hl.1 rfl (lv_room (Nat.le_of_ble_eq_true rfl)) dX8_tellOf_48 ⟨Nat.zero_le _, Nat.zero_le _⟩) hS (fun H locs hP hS => ?_)
          refine lv_istore (lv' := [(5, .int r17), (0, .ref (ad 80)), (1, .ref (ad a1)), (2, .int a2), (3, .int a3), (4, .int c13)]) hx hb dX8_tellOf_51 hl (by decide) rfl (fun ls hl => ?_)
          refine lv_iconst (v := 0) hx hb dX8_tellOf_53 (by decide) ?_
          refine lv_istore (lv' := [(6, .int 0), (5, .int r17), (0, .ref (ad 80)), (1, .ref (ad a1)), (2, .int a2), (3, .int a3), (4, .int c13)]) hx hb dX8_tellOf_54 hl (by decide) rfl (fun ls hl => ?_)
          obtain ⟨x19, hx19, hE⟩ := st_bo hE
          refine lp_walk (body := fun (s18 : Int32 × (Nat → Nat → Int32)) => b_X8_tellOf_56 r17 s18.1 s18.2) (fun s18 => ∀ (ls : Array Slot) (H : Heap) (locs : List Loc), lv_has ls 7 [(0, .ref (ad 80)), (1, .ref (ad a1)), (2, .int a2), (3, .int a3), (4, .int c13), (5, .int r17), (6, .int s18.1)] → cP D ad cI cW s18.2 H → cS ad s H locs → W p l e rmX8_tellOf s m args below meth c H locs 0 0 QQ (F0 m 56 ls [])) (fun x19 => ∀ (ls : Array Slot) (H : Heap) (locs : List Loc), lv_has ls 7 [(0, .ref (ad 80)), (1, .ref (ad a1)), (2, .int a2), (3, .int a3), (4, .int c13)] → cP D ad cI cW x19 H → cS ad s H locs → W p l e rmX8_tellOf s m args below meth c H locs 0 0 QQ (F0 m 89 ls [])) ?_ _ _ _ hx19 ?_ ls H locs (lv_sub hl [2, 3, 4, 5, 6, 1, 0] rfl) hP hS
          · intro s18 t20 hE hKt20 ls H locs hl hP hS
            obtain ⟨c21, c22⟩ := s18
            replace hE : b_X8_tellOf_56 r17 c21 c22 = some t20 := hE
            replace hl : lv_has ls 7 [(0, .ref (ad 80)), (1, .ref (ad a1)), (2, .int a2), (3, .int a3), (4, .int c13), (5, .int r17), (6, .int c21)] := hl
            replace hP : cP D ad cI cW c22 H := hP
            unfold b_X8_tellOf_56 at hE
            refine lv_iload hx hb dX8_tellOf_56 (lv_at hl 6 rfl) ?_
            refine lv_bipush (v := 32) hx hb dX8_tellOf_58 (by decide) ?_
            refine lv_icmp_ge (tgt := 89) hx hb dX8_tellOf_60 (by decide) (fun hc23 => ?_) (fun hc23 => ?_)
            · have hE := st_t hE hc23
              have hq := Option.some.inj hE
              subst hq
              exact hKt20 ls H locs (lv_sub hl [0, 1, 2, 3, 4] rfl) hP hS
            · have hE := st_f hE hc23
              refine lv_aload_n hx hb dX8_tellOf_63 rfl (lv_at hl 0 rfl) ?_
              refine c_get (v := .ref (ad 82)) hx hb hts (fun w h => wz_m (inX8 w h)) hown hK hP (q_Worlds_80 (ad := ad) (cI := cI) (cW := cW)).1 rfl 1 (by decide) (hts _ (wz_m tw_1_203)) (fun _ h9 => h9) rfl dX8_tellOf_64 ?_
              refine lv_iload hx hb dX8_tellOf_67 (lv_at hl 6 rfl) ?_
              refine lv_iload hx hb dX8_tellOf_69 (lv_at hl 5 rfl) ?_
              refine lv_ior hx hb dX8_tellOf_71 ?_
              refine lv_dup2_11 hx hb dX8_tellOf_72 rfl rfl ?_
              obtain ⟨hi24, hE⟩ := st_gd hE
              refine c_iald hx hb hK hP (q_Worlds_80 (ad := ad) (cI := cI) (cW := cW)).2.2 hi24 dX8_tellOf_73 ?_
              refine lv_aload_n hx hb dX8_tellOf_74 rfl (lv_at hl 0 rfl) ?_
              refine c_get (v := .ref (ad 81)) hx hb hts (fun w h => wz_m (inX8 w h)) hown hK hP (q_Worlds_80 (ad := ad) (cI := cI) (cW := cW)).1 rfl 0 (by decide) (hts _ (wz_m tw_1_202)) (fun _ h9 => h9) rfl dX8_tellOf_75 ?_
              refine lv_iload hx hb dX8_tellOf_78 (lv_at hl 6 rfl) ?_
              obtain ⟨hi25, hE⟩ := st_gd hE
              refine c_iald hx hb hK hP (q_Worlds_80 (ad := ad) (cI := cI) (cW := cW)).2.1 hi25 dX8_tellOf_80 ?_
              refine lv_iadd hx hb dX8_tellOf_81 ?_
              obtain ⟨hi26, hE⟩ := st_gd hE
              refine c_iast hij hx hb hK hP hS (q_Worlds_80 (ad := ad) (cI := cI) (cW := cW)).2.2 hi26 dX8_tellOf_82 (fun H locs hP hS => ?_)
              obtain ⟨S27, eS27, hE⟩ := st_bv hE
              rw [← eS27] at hP
              obtain ⟨v28, ev28, hE⟩ := st_bv hE
              refine lv_iinc (v := v28) (lv' := [(6, .int v28), (0, .ref (ad 80)), (1, .ref (ad a1)), (2, .int a2), (3, .int a3), (4, .int c13), (5, .int r17)]) hx hb dX8_tellOf_83 hl (k := 6) rfl (by rw [ev28]; rfl) (by decide) rfl (fun ls hl => ?_)
              refine lv_goto (tgt := 56) hx hb dX8_tellOf_86 (by decide) ?_
              have hq := Option.some.inj hE
              subst hq
              exact hKt20 ls H locs (lv_sub hl [1, 2, 3, 4, 5, 6, 0] rfl) hP hS
          · intro ls H locs hl hP hS
            obtain ⟨v29, ev29, hE⟩ := st_bv hE
            refine lv_iinc (v := v29) (lv' := [(4, .int v29), (0, .ref (ad 80)), (1, .ref (ad a1)), (2, .int a2), (3, .int a3)]) hx hb dX8_tellOf_89 hl (k := 4) rfl (by rw [ev29]; rfl) (by decide) rfl (fun ls hl => ?_)
            refine lv_goto (tgt := 27) hx hb dX8_tellOf_92 (by decide) ?_
            have hq := Option.some.inj hE
            subst hq
            exact hKt12 ls H locs (lv_sub hl [1, 2, 3, 4, 0] rfl) hP hS
        · have hE := st_f hE hc16
          refine lv_iload_n hx hb dX8_tellOf_38 rfl (lv_at hl 3 rfl) ?_
          refine lv_iload hx hb dX8_tellOf_39 (lv_at hl 4 rfl) ?_
          refine lv_icmp_ne (tgt := 89) hx hb dX8_tellOf_41 (by decide) (fun hc30 => ?_) (fun hc30 => ?_)
          · have hE := st_f hE hc30
            obtain ⟨v31, ev31, hE⟩ := st_bv hE
            refine lv_iinc (v := v31) (lv' := [(4, .int v31), (0, .ref (ad 80)), (1, .ref (ad a1)), (2, .int a2), (3, .int a3)]) hx hb dX8_tellOf_89 hl (k := 4) rfl (by rw [ev31]; rfl) (by decide) rfl (fun ls hl => ?_)
            refine lv_goto (tgt := 27) hx hb dX8_tellOf_92 (by decide) ?_
            have hq := Option.some.inj hE
            subst hq
            exact hKt12 ls H locs (lv_sub hl [1, 2, 3, 4, 0] rfl) hP hS
          · have hE := st_t hE hc30
            refine lv_aload_n hx hb dX8_tellOf_44 rfl (lv_at hl 1 rfl) ?_
            refine lv_iload_n hx hb dX8_tellOf_45 rfl (lv_at hl 2 rfl) ?_
            refine lv_iload hx hb dX8_tellOf_46 (lv_at hl 4 rfl) ?_
            obtain ⟨r32, hCr32, hE⟩ := st_bo hE
            refine g_calli (va_runV (As := [.int a2, .int c13]) (rest := []) ⟨hx, hb, hml, hown, hts⟩ (k_X1_wrongBy hij h1 hCr32) (cwV 2 hts (wz_V tw_3_66 tw_3_67 tw_3_68 tw_1_3 tw_3_69) rfl rfl rfl hdV_X1_wrongBy ⟨Nat.le_of_ble_eq_true rfl, Nat.le_of_ble_eq_true rfl⟩) (g_preV KC_st ZC_st hK hZ hP hS hK.1 (h1.1).1 (ec_o h1.1) rfl) rfl rfl hl.1 rfl (lv_room (Nat.le_of_ble_eq_true rfl)) dX8_tellOf_48 ⟨Nat.zero_le _, Nat.zero_le _⟩) hS (fun H locs hP hS => ?_)
            refine lv_istore (lv' := [(5, .int r32), (0, .ref (ad 80)), (1, .ref (ad a1)), (2, .int a2), (3, .int a3), (4, .int c13)]) hx hb dX8_tellOf_51 hl (by decide) rfl (fun ls hl => ?_)
            refine lv_iconst (v := 0) hx hb dX8_tellOf_53 (by decide) ?_
            refine lv_istore (lv' := [(6, .int 0), (5, .int r32), (0, .ref (ad 80)), (1, .ref (ad a1)), (2, .int a2), (3, .int a3), (4, .int c13)]) hx hb dX8_tellOf_54 hl (by decide) rfl (fun ls hl => ?_)
            obtain ⟨x34, hx34, hE⟩ := st_bo hE
            refine lp_walk (body := fun (s33 : Int32 × (Nat → Nat → Int32)) => b_X8_tellOf_56_2 r32 s33.1 s33.2) (fun s33 => ∀ (ls : Array Slot) (H : Heap) (locs : List Loc), lv_has ls 7 [(0, .ref (ad 80)), (1, .ref (ad a1)), (2, .int a2), (3, .int a3), (4, .int c13), (5, .int r32), (6, .int s33.1)] → cP D ad cI cW s33.2 H → cS ad s H locs → W p l e rmX8_tellOf s m args below meth c H locs 0 0 QQ (F0 m 56 ls [])) (fun x34 => ∀ (ls : Array Slot) (H : Heap) (locs : List Loc), lv_has ls 7 [(0, .ref (ad 80)), (1, .ref (ad a1)), (2, .int a2), (3, .int a3), (4, .int c13)] → cP D ad cI cW x34 H → cS ad s H locs → W p l e rmX8_tellOf s m args below meth c H locs 0 0 QQ (F0 m 89 ls [])) ?_ _ _ _ hx34 ?_ ls H locs (lv_sub hl [2, 3, 4, 5, 6, 1, 0] rfl) hP hS
            · intro s33 t35 hE hKt35 ls H locs hl hP hS
              obtain ⟨c36, c37⟩ := s33
              replace hE : b_X8_tellOf_56_2 r32 c36 c37 = some t35 := hE
              replace hl : lv_has ls 7 [(0, .ref (ad 80)), (1, .ref (ad a1)), (2, .int a2), (3, .int a3), (4, .int c13), (5, .int r32), (6, .int c36)] := hl
              replace hP : cP D ad cI cW c37 H := hP
              unfold b_X8_tellOf_56_2 at hE
              refine lv_iload hx hb dX8_tellOf_56 (lv_at hl 6 rfl) ?_
              refine lv_bipush (v := 32) hx hb dX8_tellOf_58 (by decide) ?_
              refine lv_icmp_ge (tgt := 89) hx hb dX8_tellOf_60 (by decide) (fun hc38 => ?_) (fun hc38 => ?_)
              · have hE := st_t hE hc38
                have hq := Option.some.inj hE
                subst hq
                exact hKt35 ls H locs (lv_sub hl [0, 1, 2, 3, 4] rfl) hP hS
              · have hE := st_f hE hc38
                refine lv_aload_n hx hb dX8_tellOf_63 rfl (lv_at hl 0 rfl) ?_
                refine c_get (v := .ref (ad 82)) hx hb hts (fun w h => wz_m (inX8 w h)) hown hK hP (q_Worlds_80 (ad := ad) (cI := cI) (cW := cW)).1 rfl 1 (by decide) (hts _ (wz_m tw_1_203)) (fun _ h9 => h9) rfl dX8_tellOf_64 ?_
                refine lv_iload hx hb dX8_tellOf_67 (lv_at hl 6 rfl) ?_
                refine lv_iload hx hb dX8_tellOf_69 (lv_at hl 5 rfl) ?_
                refine lv_ior hx hb dX8_tellOf_71 ?_
                refine lv_dup2_11 hx hb dX8_tellOf_72 rfl rfl ?_
                obtain ⟨hi39, hE⟩ := st_gd hE
                refine c_iald hx hb hK hP (q_Worlds_80 (ad := ad) (cI := cI) (cW := cW)).2.2 hi39 dX8_tellOf_73 ?_
                refine lv_aload_n hx hb dX8_tellOf_74 rfl (lv_at hl 0 rfl) ?_
                refine c_get (v := .ref (ad 81)) hx hb hts (fun w h => wz_m (inX8 w h)) hown hK hP (q_Worlds_80 (ad := ad) (cI := cI) (cW := cW)).1 rfl 0 (by decide) (hts _ (wz_m tw_1_202)) (fun _ h9 => h9) rfl dX8_tellOf_75 ?_
                refine lv_iload hx hb dX8_tellOf_78 (lv_at hl 6 rfl) ?_
                obtain ⟨hi40, hE⟩ := st_gd hE
                refine c_iald hx hb hK hP (q_Worlds_80 (ad := ad) (cI := cI) (cW := cW)).2.1 hi40 dX8_tellOf_80 ?_
                refine lv_iadd hx hb dX8_tellOf_81 ?_
                obtain ⟨hi41, hE⟩ := st_gd hE
                refine c_iast hij hx hb hK hP hS (q_Worlds_80 (ad := ad) (cI := cI) (cW := cW)).2.2 hi41 dX8_tellOf_82 (fun H locs hP hS => ?_)
                obtain ⟨S42, eS42, hE⟩ := st_bv hE
                rw [← eS42] at hP
                obtain ⟨v43, ev43, hE⟩ := st_bv hE
                refine lv_iinc (v := v43) (lv' := [(6, .int v43), (0, .ref (ad 80)), (1, .ref (ad a1)), (2, .int a2), (3, .int a3), (4, .int c13), (5, .int r32)]) hx hb dX8_tellOf_83 hl (k := 6) rfl (by rw [ev43]; rfl) (by decide) rfl (fun ls hl => ?_)
                refine lv_goto (tgt := 56) hx hb dX8_tellOf_86 (by decide) ?_
                have hq := Option.some.inj hE
                subst hq
                exact hKt35 ls H locs (lv_sub hl [1, 2, 3, 4, 5, 6, 0] rfl) hP hS
            · intro ls H locs hl hP hS
              obtain ⟨v44, ev44, hE⟩ := st_bv hE
              refine lv_iinc (v := v44) (lv' := [(4, .int v44), (0, .ref (ad 80)), (1, .ref (ad a1)), (2, .int a2), (3, .int a3)]) hx hb dX8_tellOf_89 hl (k := 4) rfl (by rw [ev44]; rfl) (by decide) rfl (fun ls hl => ?_)
              refine lv_goto (tgt := 27) hx hb dX8_tellOf_92 (by decide) ?_
              have hq := Option.some.inj hE
              subst hq
              exact hKt12 ls H locs (lv_sub hl [1, 2, 3, 4, 0] rfl) hP hS
    · intro ls H locs hl hP hS
      refine lv_iconst (v := 0) hx hb dX8_tellOf_95 (by decide) ?_
      refine lv_istore (lv' := [(4, .int 0), (0, .ref (ad 80))]) hx hb dX8_tellOf_96 hl (by decide) rfl (fun ls hl => ?_)
      obtain ⟨x46, hx46, hE⟩ := st_bo hE
      refine lp_walk (body := fun (s45 : Int32 × (Nat → Nat → Int32)) => b_X8_tellOf_98 s45.1 s45.2) (fun s45 => ∀ (ls : Array Slot) (H : Heap) (locs : List Loc), lv_has ls 7 [(0, .ref (ad 80)), (4, .int s45.1)] → cP D ad cI cW s45.2 H → cS ad s H locs → W p l e rmX8_tellOf s m args below meth c H locs 0 0 QQ (F0 m 98 ls [])) (fun x46 => ∀ (ls : Array Slot) (H : Heap) (locs : List Loc), lv_has ls 7 [] → cP D ad cI cW x46 H → cS ad s H locs → W p l e rmX8_tellOf s m args below meth c H locs 0 0 QQ (F0 m 125 ls [])) ?_ _ _ _ hx46 ?_ ls H locs (lv_sub hl [1, 0] rfl) hP hS
      · intro s45 t47 hE hKt47 ls H locs hl hP hS
        obtain ⟨c48, c49⟩ := s45
        replace hE : b_X8_tellOf_98 c48 c49 = some t47 := hE
        replace hl : lv_has ls 7 [(0, .ref (ad 80)), (4, .int c48)] := hl
        replace hP : cP D ad cI cW c49 H := hP
        unfold b_X8_tellOf_98 at hE
        refine lv_iload hx hb dX8_tellOf_98 (lv_at hl 1 rfl) ?_
        refine lv_bipush (v := 32) hx hb dX8_tellOf_100 (by decide) ?_
        refine lv_icmp_ge (tgt := 125) hx hb dX8_tellOf_102 (by decide) (fun hc50 => ?_) (fun hc50 => ?_)
        · have hE := st_t hE hc50
          have hq := Option.some.inj hE
          subst hq
          exact hKt47 ls H locs (lv_sub hl [] rfl) hP hS
        · have hE := st_f hE hc50
          refine lv_aload_n hx hb dX8_tellOf_105 rfl (lv_at hl 0 rfl) ?_
          refine c_get (v := .ref (ad 81)) hx hb hts (fun w h => wz_m (inX8 w h)) hown hK hP (q_Worlds_80 (ad := ad) (cI := cI) (cW := cW)).1 rfl 0 (by decide) (hts _ (wz_m tw_1_202)) (fun _ h9 => h9) rfl dX8_tellOf_106 ?_
          refine lv_iload hx hb dX8_tellOf_109 (lv_at hl 1 rfl) ?_
          refine lv_aload_n hx hb dX8_tellOf_111 rfl (lv_at hl 0 rfl) ?_
          refine c_get (v := .ref (ad 82)) hx hb hts (fun w h => wz_m (inX8 w h)) hown hK hP (q_Worlds_80 (ad := ad) (cI := cI) (cW := cW)).1 rfl 1 (by decide) (hts _ (wz_m tw_1_203)) (fun _ h9 => h9) rfl dX8_tellOf_112 ?_
          refine lv_iload hx hb dX8_tellOf_115 (lv_at hl 1 rfl) ?_
          obtain ⟨hi51, hE⟩ := st_gd hE
          refine c_iald hx hb hK hP (q_Worlds_80 (ad := ad) (cI := cI) (cW := cW)).2.2 hi51 dX8_tellOf_117 ?_
          obtain ⟨hi52, hE⟩ := st_gd hE
          refine c_iast hij hx hb hK hP hS (q_Worlds_80 (ad := ad) (cI := cI) (cW := cW)).2.1 hi52 dX8_tellOf_118 (fun H locs hP hS => ?_)
          obtain ⟨S53, eS53, hE⟩ := st_bv hE
          rw [← eS53] at hP
          obtain ⟨v54, ev54, hE⟩ := st_bv hE
          refine lv_iinc (v := v54) (lv' := [(4, .int v54), (0, .ref (ad 80))]) hx hb dX8_tellOf_119 hl (k := 1) rfl (by rw [ev54]; rfl) (by decide) rfl (fun ls hl => ?_)
          refine lv_goto (tgt := 98) hx hb dX8_tellOf_122 (by decide) ?_
          have hq := Option.some.inj hE
          subst hq
          exact hKt47 ls H locs (lv_sub hl [1, 0] rfl) hP hS
      · intro ls H locs hl hP hS
        replace hE := Option.some.inj hE
        subst hQQ
        exact g_vret hx hb hr hlocks hP hS hE dX8_tellOf_125
def b_X8_howMany_3 (c4 : Int32) (c5 : (Nat → Nat → Int32)) : Option ((Int32 × (Nat → Nat → Int32)) ⊕ ((Nat → Nat → Int32))) :=
  if 32 ≤ c4 then (some (.inr c5)) else (if c4 = 0 then (gd (inb c4 32) (bv (up2 c5 81 (c4.toNatClampNeg) 1) (fun S12 => bv (c4 + 1) (fun (v13 : Int32) => some (.inl (v13, S12)))))) else (gd (inb c4 32) (bv (up2 c5 81 (c4.toNatClampNeg) 0) (fun S9 => bv (c4 + 1) (fun (v10 : Int32) => some (.inl (v10, S9)))))))
def b_X8_howMany_36 (a1 : Nat) (a3 : Int32) (a4 : Int32) (c17 : Int32) (c18 : (Nat → Nat → Int32)) : Option ((Int32 × (Nat → Nat → Int32)) ⊕ ((Nat → Nat → Int32))) :=
  if 6 ≤ c17 then (some (.inr c18)) else (bo (if c17 = a3 then (some a4) else (some (-1))) (fun (q20 : Int32) => bo (f_X8_tellOf c18 a1 c17 q20) (fun (r23 : (Nat → Nat → Int32)) => bv (c17 + 1) (fun (v24 : Int32) => some (.inl (v24, r23))))))
def b_X8_howMany_74 (a2 : Int32) (x15 : (Nat → Nat → Int32)) (c28 : Int32) (c29 : Int32) : Option ((Int32 × Int32) ⊕ (Int32)) :=
  if 32 ≤ c29 then (some (.inr c28)) else (bo (f_J6_bitCount_0f7a4 c29) (fun (r31 : Int32) => if a2 < r31 then (bv (c29 + 1) (fun (v33 : Int32) => some (.inl (c28, v33)))) else (gd (inb c29 32) (bv (c28 + (x15 81 (c29.toNatClampNeg))) (fun (v35 : Int32) => bv (c29 + 1) (fun (v36 : Int32) => some (.inl (v35, v36))))))))
def f_X8_howMany (S0 : (Nat → Nat → Int32)) (a1 : Nat) (a2 : Int32) (a3 : Int32) (a4 : Int32) : Option (Int32 × (Nat → Nat → Int32)) :=
  bo (lp (fun (s1 : Int32 × (Nat → Nat → Int32)) => b_X8_howMany_3 s1.1 s1.2) 5000 (0, S0)) (fun (x2 : (Nat → Nat → Int32)) => bo (lp (fun (s14 : Int32 × (Nat → Nat → Int32)) => b_X8_howMany_36 a1 a3 a4 s14.1 s14.2) 5000 (0, x2)) (fun (x15 : (Nat → Nat → Int32)) => bo (lp (fun (s25 : Int32 × Int32) => b_X8_howMany_74 a2 x15 s25.1 s25.2) 5000 (0, 0)) (fun (x26 : Int32) => some (x26, x15))))
abbrev rmX8_howMany : Room := { frames := 3, cells := 0, slots := 0, locals := 73 }
theorem hdV_X8_howMany : yX8_howMany.cls = "WitnessWall$Worlds" ∧ yX8_howMany.cls ≠ "java/lang/invoke/MethodHandle" ∧ yX8_howMany.cls ≠ "java/lang/invoke/VarHandle" ∧ (parseMethodDescriptor yX8_howMany.desc).map (fun d => d.parameters.length) = some 4 := by decide +kernel
set_option maxHeartbeats 4000000 in
set_option maxRecDepth 100000 in
theorem k_X8_howMany {l : Launch} {D : va_G} {ad : Nat → Nat} {cI cW : ClassId} {tK tC : Nat} (hij : inj 83 ad)  {S0 : (Nat → Nat → Int32)} {a1 : Nat} (h1 : iHall ad cI cW a1) {a2 : Int32} {a3 : Int32} {a4 : Int32} {r : Int32} {Sr : (Nat → Nat → Int32)} (hE : f_X8_howMany S0 a1 a2 a3 a4 = some (r, Sr)) {sz : Nat} : Met l yX8_howMany (wz yX8_howMany cX8_howMany 7 (some FieldType.int)) rmX8_howMany (PG 83 ad (ec ad cI cW) D (KC D cI cW) (ZC tK tC) [.ref (ad 80), .ref (ad a1), .int a2, .int a3, .int a4] S0 sz) (QGi 83 ad (ec ad cI cW) D r Sr sz) 0 0 (AD 83 ad sz) := by
  unfold f_X8_howMany at hE
  refine g_start (cc := cX8_howMany) (maxL := 7) (ret := (some FieldType.int)) (Qc := fun sz => QGi 83 ad (ec ad cI cW) D r Sr sz) (by decide) rfl (Nat.le_of_ble_eq_true rfl) ?_
  intro p e s m args below meth c H locs ls hx hb hr hts hown hlocks hml hK hZ hP hS hl
  replace hl : lv_has ls 7 [(0, .ref (ad 80)), (1, .ref (ad a1)), (2, .int a2), (3, .int a3), (4, .int a4)] := hl
  obtain ⟨QQ, hQQ⟩ : ∃ q, q = MQ below (QGi 83 ad (ec ad cI cW) D r Sr s.heap.size) args s 0 0 (AD 83 ad s.heap.size) := ⟨_, rfl⟩
  rw [← hQQ]
  refine lv_iconst (v := 0) hx hb dX8_howMany_0 (by decide) ?_
  refine lv_istore (lv' := [(5, .int 0), (0, .ref (ad 80)), (1, .ref (ad a1)), (2, .int a2), (3, .int a3), (4, .int a4)]) hx hb dX8_howMany_1 hl (by decide) rfl (fun ls hl => ?_)
  obtain ⟨x2, hx2, hE⟩ := st_bo hE
  refine lp_walk (body := fun (s1 : Int32 × (Nat → Nat → Int32)) => b_X8_howMany_3 s1.1 s1.2) (fun s1 => ∀ (ls : Array Slot) (H : Heap) (locs : List Loc), lv_has ls 7 [(0, .ref (ad 80)), (1, .ref (ad a1)), (2, .int a2), (3, .int a3), (4, .int a4), (5, .int s1.1)] → cP D ad cI cW s1.2 H → cS ad s H locs → W p l e rmX8_howMany s m args below meth c H locs 0 0 QQ (F0 m 3 ls [])) (fun x2 => ∀ (ls : Array Slot) (H : Heap) (locs : List Loc), lv_has ls 7 [(0, .ref (ad 80)), (1, .ref (ad a1)), (2, .int a2), (3, .int a3), (4, .int a4)] → cP D ad cI cW x2 H → cS ad s H locs → W p l e rmX8_howMany s m args below meth c H locs 0 0 QQ (F0 m 33 ls [])) ?_ _ _ _ hx2 ?_ ls H locs (lv_sub hl [1, 2, 3, 4, 5, 0] rfl) hP hS
  · intro s1 t3 hE hKt3 ls H locs hl hP hS
    obtain ⟨c4, c5⟩ := s1
    replace hE : b_X8_howMany_3 c4 c5 = some t3 := hE
    replace hl : lv_has ls 7 [(0, .ref (ad 80)), (1, .ref (ad a1)), (2, .int a2), (3, .int a3), (4, .int a4), (5, .int c4)] := hl
    replace hP : cP D ad cI cW c5 H := hP
    unfold b_X8_howMany_3 at hE
    refine lv_iload hx hb dX8_howMany_3 (lv_at hl 5 rfl) ?_
    refine lv_bipush (v := 32) hx hb dX8_howMany_5 (by decide) ?_
    refine lv_icmp_ge (tgt := 33) hx hb dX8_howMany_7 (by decide) (fun hc6 => ?_) (fun hc6 => ?_)
    · have hE := st_t hE hc6
      have hq := Option.some.inj hE
      subst hq
      exact hKt3 ls H locs (lv_sub hl [0, 1, 2, 3, 4] rfl) hP hS
    · have hE := st_f hE hc6
      refine lv_aload_n hx hb dX8_howMany_10 rfl (lv_at hl 0 rfl) ?_
      refine c_get (v := .ref (ad 81)) hx hb hts (fun w h => wz_m (inX8 w h)) hown hK hP (q_Worlds_80 (ad := ad) (cI := cI) (cW := cW)).1 rfl 0 (by decide) (hts _ (wz_m tw_1_202)) (fun _ h9 => h9) rfl dX8_howMany_11 ?_
      refine lv_iload hx hb dX8_howMany_14 (lv_at hl 5 rfl) ?_
      refine lv_iload hx hb dX8_howMany_16 (lv_at hl 5 rfl) ?_
      refine lv_if_ne (tgt := 25) hx hb dX8_howMany_18 (by decide) (fun hc7 => ?_) (fun hc7 => ?_)
      · have hE := st_f hE hc7
        refine lv_iconst (v := 0) hx hb dX8_howMany_25 (by decide) ?_
        obtain ⟨hi8, hE⟩ := st_gd hE
        refine c_iast hij hx hb hK hP hS (q_Worlds_80 (ad := ad) (cI := cI) (cW := cW)).2.1 hi8 dX8_howMany_26 (fun H locs hP hS => ?_)
        obtain ⟨S9, eS9, hE⟩ := st_bv hE
        rw [← eS9] at hP
        obtain ⟨v10, ev10, hE⟩ := st_bv hE
        refine lv_iinc (v := v10) (lv' := [(5, .int v10), (0, .ref (ad 80)), (1, .ref (ad a1)), (2, .int a2), (3, .int a3), (4, .int a4)]) hx hb dX8_howMany_27 hl (k := 5) rfl (by rw [ev10]; rfl) (by decide) rfl (fun ls hl => ?_)
        refine lv_goto (tgt := 3) hx hb dX8_howMany_30 (by decide) ?_
        have hq := Option.some.inj hE
        subst hq
        exact hKt3 ls H locs (lv_sub hl [1, 2, 3, 4, 5, 0] rfl) hP hS
      · have hE := st_t hE hc7
        refine lv_iconst (v := 1) hx hb dX8_howMany_21 (by decide) ?_
        refine lv_goto (tgt := 26) hx hb dX8_howMany_22 (by decide) ?_
        obtain ⟨hi11, hE⟩ := st_gd hE
        refine c_iast hij hx hb hK hP hS (q_Worlds_80 (ad := ad) (cI := cI) (cW := cW)).2.1 hi11 dX8_howMany_26 (fun H locs hP hS => ?_)
        obtain ⟨S12, eS12, hE⟩ := st_bv hE
        rw [← eS12] at hP
        obtain ⟨v13, ev13, hE⟩ := st_bv hE
        refine lv_iinc (v := v13) (lv' := [(5, .int v13), (0, .ref (ad 80)), (1, .ref (ad a1)), (2, .int a2), (3, .int a3), (4, .int a4)]) hx hb dX8_howMany_27 hl (k := 5) rfl (by rw [ev13]; rfl) (by decide) rfl (fun ls hl => ?_)
        refine lv_goto (tgt := 3) hx hb dX8_howMany_30 (by decide) ?_
        have hq := Option.some.inj hE
        subst hq
        exact hKt3 ls H locs (lv_sub hl [1, 2, 3, 4, 5, 0] rfl) hP hS
  · intro ls H locs hl hP hS
    refine lv_iconst (v := 0) hx hb dX8_howMany_33 (by decide) ?_
    refine lv_istore (lv' := [(5, .int 0), (0, .ref (ad 80)), (1, .ref (ad a1)), (2, .int a2), (3, .int a3), (4, .int a4)]) hx hb dX8_howMany_34 hl (by decide) rfl (fun ls hl => ?_)
    obtain ⟨x15, hx15, hE⟩ := st_bo hE
    refine lp_walk (body := fun (s14 : Int32 × (Nat → Nat → Int32)) => b_X8_howMany_36 a1 a3 a4 s14.1 s14.2) (fun s14 => ∀ (ls : Array Slot) (H : Heap) (locs : List Loc), lv_has ls 7 [(0, .ref (ad 80)), (1, .ref (ad a1)), (2, .int a2), (3, .int a3), (4, .int a4), (5, .int s14.1)] → cP D ad cI cW s14.2 H → cS ad s H locs → W p l e rmX8_howMany s m args below meth c H locs 0 0 QQ (F0 m 36 ls [])) (fun x15 => ∀ (ls : Array Slot) (H : Heap) (locs : List Loc), lv_has ls 7 [(0, .ref (ad 80)), (2, .int a2)] → cP D ad cI cW x15 H → cS ad s H locs → W p l e rmX8_howMany s m args below meth c H locs 0 0 QQ (F0 m 68 ls [])) ?_ _ _ _ hx15 ?_ ls H locs (lv_sub hl [1, 2, 3, 4, 5, 0] rfl) hP hS
    · intro s14 t16 hE hKt16 ls H locs hl hP hS
      obtain ⟨c17, c18⟩ := s14
      replace hE : b_X8_howMany_36 a1 a3 a4 c17 c18 = some t16 := hE
      replace hl : lv_has ls 7 [(0, .ref (ad 80)), (1, .ref (ad a1)), (2, .int a2), (3, .int a3), (4, .int a4), (5, .int c17)] := hl
      replace hP : cP D ad cI cW c18 H := hP
      unfold b_X8_howMany_36 at hE
      refine lv_iload hx hb dX8_howMany_36 (lv_at hl 5 rfl) ?_
      refine lv_bipush (v := 6) hx hb dX8_howMany_38 (by decide) ?_
      refine lv_icmp_ge (tgt := 68) hx hb dX8_howMany_40 (by decide) (fun hc19 => ?_) (fun hc19 => ?_)
      · have hE := st_t hE hc19
        have hq := Option.some.inj hE
        subst hq
        exact hKt16 ls H locs (lv_sub hl [0, 2] rfl) hP hS
      · have hE := st_f hE hc19
        refine lv_aload_n hx hb dX8_howMany_43 rfl (lv_at hl 0 rfl) ?_
        refine lv_aload_n hx hb dX8_howMany_44 rfl (lv_at hl 1 rfl) ?_
        refine lv_iload hx hb dX8_howMany_45 (lv_at hl 5 rfl) ?_
        refine lv_iload hx hb dX8_howMany_47 (lv_at hl 5 rfl) ?_
        refine lv_iload_n hx hb dX8_howMany_49 rfl (lv_at hl 3 rfl) ?_
        obtain ⟨q20, hq20, hE⟩ := st_bo hE
        have J21 : ∀ (ls : Array Slot) (H : Heap) (locs : List Loc), lv_has ls 7 [(0, .ref (ad 80)), (1, .ref (ad a1)), (2, .int a2), (3, .int a3), (4, .int a4), (5, .int c17)] → cP D ad cI cW c18 H → cS ad s H locs → W p l e rmX8_howMany s m args below meth c H locs 0 0 QQ (F0 m 59 ls [.int q20, .int c17, .ref (ad a1), .ref (ad 80)]) := by
          intro ls H locs hl hP hS
          obtain ⟨r23, hCr23, hE⟩ := st_bo hE
          refine g_callv (va_runV (As := [.ref (ad a1), .int c17, .int q20]) (rest := []) ⟨hx, hb, hml, hown, hts⟩ (k_X8_tellOf hij h1 hCr23) (cwV 3 hts (wz_V tw_3_62 tw_3_63 tw_3_64 tw_1_10 tw_3_65) rfl rfl rfl hdV_X8_tellOf ⟨Nat.le_of_ble_eq_true rfl, Nat.le_of_ble_eq_true rfl⟩) (g_preV KC_st ZC_st hK hZ hP hS hK.1 ((q_Worlds_80 (ad := ad) (cI := cI) (cW := cW)).1).1 (ec_o (q_Worlds_80 (ad := ad) (cI := cI) (cW := cW)).1) rfl) rfl rfl hl.1 rfl (lv_room (Nat.le_of_ble_eq_true rfl)) dX8_howMany_59 ⟨Nat.zero_le _, Nat.zero_le _⟩) hS (fun H locs hP hS => ?_)
          obtain ⟨v24, ev24, hE⟩ := st_bv hE
          refine lv_iinc (v := v24) (lv' := [(5, .int v24), (0, .ref (ad 80)), (1, .ref (ad a1)), (2, .int a2), (3, .int a3), (4, .int a4)]) hx hb dX8_howMany_62 hl (k := 5) rfl (by rw [ev24]; rfl) (by decide) rfl (fun ls hl => ?_)
          refine lv_goto (tgt := 36) hx hb dX8_howMany_65 (by decide) ?_
          have hq := Option.some.inj hE
          subst hq
          exact hKt16 ls H locs (lv_sub hl [1, 2, 3, 4, 5, 0] rfl) hP hS
        replace hE := hq20
        refine lv_icmp_ne (tgt := 58) hx hb dX8_howMany_50 (by decide) (fun hc22 => ?_) (fun hc22 => ?_)
        · have hE := st_f hE hc22
          refine lv_iconst (v := (-1)) hx hb dX8_howMany_58 (by decide) ?_
          have hq := Option.some.inj hE
          subst hq
          exact J21 ls H locs (lv_sub hl [0, 1, 2, 3, 4, 5] rfl) hP hS
        · have hE := st_t hE hc22
          refine lv_iload hx hb dX8_howMany_53 (lv_at hl 4 rfl) ?_
          refine lv_goto (tgt := 59) hx hb dX8_howMany_55 (by decide) ?_
          have hq := Option.some.inj hE
          subst hq
          exact J21 ls H locs (lv_sub hl [0, 1, 2, 3, 4, 5] rfl) hP hS
    · intro ls H locs hl hP hS
      refine lv_iconst (v := 0) hx hb dX8_howMany_68 (by decide) ?_
      refine lv_istore (lv' := [(5, .int 0), (0, .ref (ad 80)), (2, .int a2)]) hx hb dX8_howMany_69 hl (by decide) rfl (fun ls hl => ?_)
      refine lv_iconst (v := 0) hx hb dX8_howMany_71 (by decide) ?_
      refine lv_istore (lv' := [(6, .int 0), (5, .int 0), (0, .ref (ad 80)), (2, .int a2)]) hx hb dX8_howMany_72 hl (by decide) rfl (fun ls hl => ?_)
      obtain ⟨x26, hx26, hE⟩ := st_bo hE
      refine lp_walk (body := fun (s25 : Int32 × Int32) => b_X8_howMany_74 a2 x15 s25.1 s25.2) (fun s25 => ∀ (ls : Array Slot) (H : Heap) (locs : List Loc), lv_has ls 7 [(0, .ref (ad 80)), (2, .int a2), (5, .int s25.1), (6, .int s25.2)] → cP D ad cI cW x15 H → cS ad s H locs → W p l e rmX8_howMany s m args below meth c H locs 0 0 QQ (F0 m 74 ls [])) (fun x26 => ∀ (ls : Array Slot) (H : Heap) (locs : List Loc), lv_has ls 7 [(5, .int x26)] → cP D ad cI cW x15 H → cS ad s H locs → W p l e rmX8_howMany s m args below meth c H locs 0 0 QQ (F0 m 108 ls [])) ?_ _ _ _ hx26 ?_ ls H locs (lv_sub hl [2, 3, 1, 0] rfl) hP hS
      · intro s25 t27 hE hKt27 ls H locs hl hP hS
        obtain ⟨c28, c29⟩ := s25
        replace hE : b_X8_howMany_74 a2 x15 c28 c29 = some t27 := hE
        replace hl : lv_has ls 7 [(0, .ref (ad 80)), (2, .int a2), (5, .int c28), (6, .int c29)] := hl
        replace hP : cP D ad cI cW x15 H := hP
        unfold b_X8_howMany_74 at hE
        refine lv_iload hx hb dX8_howMany_74 (lv_at hl 3 rfl) ?_
        refine lv_bipush (v := 32) hx hb dX8_howMany_76 (by decide) ?_
        refine lv_icmp_ge (tgt := 108) hx hb dX8_howMany_78 (by decide) (fun hc30 => ?_) (fun hc30 => ?_)
        · have hE := st_t hE hc30
          have hq := Option.some.inj hE
          subst hq
          exact hKt27 ls H locs (lv_sub hl [2] rfl) hP hS
        · have hE := st_f hE hc30
          refine lv_iload hx hb dX8_howMany_81 (lv_at hl 3 rfl) ?_
          obtain ⟨r31, hCr31, hE⟩ := st_bo hE
          refine g_calli (va_runS (As := [.int c29]) (rest := []) ⟨hx, hb, hml, hown, hts⟩ (k_J6_bitCount_0f7a4 hij (S0 := x15) hCr31) (va_cwS 1 hts (wz_S tw_3_74 tw_2_136 tw_1_13 tw_2_137) rfl rfl rfl hdS_J6_bitCount_0f7a4 ⟨Nat.le_of_ble_eq_true rfl, Nat.le_of_ble_eq_true rfl⟩) (g_preS KC_st ZC_st hK hZ hP hS) rfl rfl hl.1 rfl (lv_room (Nat.le_of_ble_eq_true rfl)) dX8_howMany_83 ⟨Nat.zero_le _, Nat.zero_le _⟩) hS (fun H locs hP hS => ?_)
          refine lv_iload_n hx hb dX8_howMany_86 rfl (lv_at hl 1 rfl) ?_
          refine lv_icmp_gt (tgt := 102) hx hb dX8_howMany_87 (by decide) (fun hc32 => ?_) (fun hc32 => ?_)
          · have hE := st_t hE hc32
            obtain ⟨v33, ev33, hE⟩ := st_bv hE
            refine lv_iinc (v := v33) (lv' := [(6, .int v33), (0, .ref (ad 80)), (2, .int a2), (5, .int c28)]) hx hb dX8_howMany_102 hl (k := 3) rfl (by rw [ev33]; rfl) (by decide) rfl (fun ls hl => ?_)
            refine lv_goto (tgt := 74) hx hb dX8_howMany_105 (by decide) ?_
            have hq := Option.some.inj hE
            subst hq
            exact hKt27 ls H locs (lv_sub hl [1, 2, 3, 0] rfl) hP hS
          · have hE := st_f hE hc32
            refine lv_iload hx hb dX8_howMany_90 (lv_at hl 2 rfl) ?_
            refine lv_aload_n hx hb dX8_howMany_92 rfl (lv_at hl 0 rfl) ?_
            refine c_get (v := .ref (ad 81)) hx hb hts (fun w h => wz_m (inX8 w h)) hown hK hP (q_Worlds_80 (ad := ad) (cI := cI) (cW := cW)).1 rfl 0 (by decide) (hts _ (wz_m tw_1_202)) (fun _ h9 => h9) rfl dX8_howMany_93 ?_
            refine lv_iload hx hb dX8_howMany_96 (lv_at hl 3 rfl) ?_
            obtain ⟨hi34, hE⟩ := st_gd hE
            refine c_iald hx hb hK hP (q_Worlds_80 (ad := ad) (cI := cI) (cW := cW)).2.1 hi34 dX8_howMany_98 ?_
            refine lv_iadd hx hb dX8_howMany_99 ?_
            obtain ⟨v35, ev35, hE⟩ := st_bv hE
            refine nm_i ev35 ?_
            refine lv_istore (lv' := [(5, .int v35), (0, .ref (ad 80)), (2, .int a2), (6, .int c29)]) hx hb dX8_howMany_100 hl (by decide) rfl (fun ls hl => ?_)
            obtain ⟨v36, ev36, hE⟩ := st_bv hE
            refine lv_iinc (v := v36) (lv' := [(6, .int v36), (5, .int v35), (0, .ref (ad 80)), (2, .int a2)]) hx hb dX8_howMany_102 hl (k := 3) rfl (by rw [ev36]; rfl) (by decide) rfl (fun ls hl => ?_)
            refine lv_goto (tgt := 74) hx hb dX8_howMany_105 (by decide) ?_
            have hq := Option.some.inj hE
            subst hq
            exact hKt27 ls H locs (lv_sub hl [2, 3, 1, 0] rfl) hP hS
      · intro ls H locs hl hP hS
        refine lv_iload hx hb dX8_howMany_108 (lv_at hl 0 rfl) ?_
        replace hE := Option.some.inj hE
        have hq := Prod.mk.inj hE
        subst hQQ
        exact g_iret hx hb hr hlocks hP hS hq.1 hq.2 dX8_howMany_110
def f_X9_worlds (S0 : (Nat → Nat → Int32)) (a1 : Int32) : Option (Int32 × (Nat → Nat → Int32)) :=
  bo (f_X9_isWithin a1 0 5) (fun (r1 : Int32) => if r1 = 0 then (some ((-102), S0)) else (bo (f_X9_hasWall S0) (fun (r3 : Int32) => if r3 = 0 then (some ((-103), S0)) else (bo (f_X8_howMany S0 23 a1 (-1) (-1)) (fun (r5 : Int32 × (Nat → Nat → Int32)) => some (r5.1, r5.2))))))
abbrev rmX9_worlds : Room := { frames := 4, cells := 0, slots := 0, locals := 99 }
theorem hdV_X9_worlds : yX9_worlds.cls = "WitnessWall" ∧ yX9_worlds.cls ≠ "java/lang/invoke/MethodHandle" ∧ yX9_worlds.cls ≠ "java/lang/invoke/VarHandle" ∧ (parseMethodDescriptor yX9_worlds.desc).map (fun d => d.parameters.length) = some 1 := by decide +kernel
set_option maxHeartbeats 4000000 in
set_option maxRecDepth 100000 in
theorem k_X9_worlds {l : Launch} {D : va_G} {ad : Nat → Nat} {cI cW : ClassId} {tK tC : Nat} (hij : inj 83 ad)  {S0 : (Nat → Nat → Int32)} {a1 : Int32} {r : Int32} {Sr : (Nat → Nat → Int32)} (hE : f_X9_worlds S0 a1 = some (r, Sr)) {sz : Nat} : Met l yX9_worlds (wz yX9_worlds cX9_worlds 2 (some FieldType.int)) rmX9_worlds (PG 83 ad (ec ad cI cW) D (KC D cI cW) (ZC tK tC) [.ref (ad 0), .int a1] S0 sz) (QGi 83 ad (ec ad cI cW) D r Sr sz) 0 0 (AD 83 ad sz) := by
  unfold f_X9_worlds at hE
  refine g_start (cc := cX9_worlds) (maxL := 2) (ret := (some FieldType.int)) (Qc := fun sz => QGi 83 ad (ec ad cI cW) D r Sr sz) (by decide) rfl (Nat.le_of_ble_eq_true rfl) ?_
  intro p e s m args below meth c H locs ls hx hb hr hts hown hlocks hml hK hZ hP hS hl
  replace hl : lv_has ls 2 [(0, .ref (ad 0)), (1, .int a1)] := hl
  obtain ⟨QQ, hQQ⟩ : ∃ q, q = MQ below (QGi 83 ad (ec ad cI cW) D r Sr s.heap.size) args s 0 0 (AD 83 ad s.heap.size) := ⟨_, rfl⟩
  rw [← hQQ]
  refine lv_iload_n hx hb dX9_worlds_0 rfl (lv_at hl 1 rfl) ?_
  refine lv_iconst (v := 0) hx hb dX9_worlds_1 (by decide) ?_
  refine lv_iconst (v := 5) hx hb dX9_worlds_2 (by decide) ?_
  obtain ⟨r1, hCr1, hE⟩ := st_bo hE
  refine g_calli (va_runS (As := [.int a1, .int 0, .int 5]) (rest := []) ⟨hx, hb, hml, hown, hts⟩ (k_X9_isWithin hij (S0 := S0) hCr1) (va_cwS 3 hts (wz_S tw_2_1 tw_2_2 tw_1_1 tw_2_3) rfl rfl rfl hdS_X9_isWithin ⟨Nat.le_of_ble_eq_true rfl, Nat.le_of_ble_eq_true rfl⟩) (g_preS KC_st ZC_st hK hZ hP hS) rfl rfl hl.1 rfl (lv_room (Nat.le_of_ble_eq_true rfl)) dX9_worlds_3 ⟨Nat.zero_le _, Nat.zero_le _⟩) hS (fun H locs hP hS => ?_)
  refine lv_if_ne (tgt := 12) hx hb dX9_worlds_6 (by decide) (fun hc2 => ?_) (fun hc2 => ?_)
  · have hE := st_f hE hc2
    refine lv_aload_n hx hb dX9_worlds_12 rfl (lv_at hl 0 rfl) ?_
    obtain ⟨r3, hCr3, hE⟩ := st_bo hE
    refine g_calli (va_runV (As := []) (rest := []) ⟨hx, hb, hml, hown, hts⟩ (k_X9_hasWall hij hCr3) (cwV 0 hts (wz_V tw_2_172 tw_2_174 tp_1 tw_1_1 tw_2_175) rfl rfl rfl hdV_X9_hasWall ⟨Nat.le_of_ble_eq_true rfl, Nat.le_of_ble_eq_true rfl⟩) (g_preV KC_st ZC_st hK hZ hP hS hK.1 ((q_WW (ad := ad) (cI := cI) (cW := cW))).1 (ec_o (q_WW (ad := ad) (cI := cI) (cW := cW))) rfl) rfl rfl hl.1 rfl (lv_room (Nat.le_of_ble_eq_true rfl)) dX9_worlds_13 ⟨Nat.zero_le _, Nat.zero_le _⟩) hS (fun H locs hP hS => ?_)
    refine lv_if_ne (tgt := 22) hx hb dX9_worlds_16 (by decide) (fun hc4 => ?_) (fun hc4 => ?_)
    · have hE := st_f hE hc4
      refine lv_aload_n hx hb dX9_worlds_22 rfl (lv_at hl 0 rfl) ?_
      refine c_get (v := .ref (ad 80)) hx hb hts (fun w h => wz_m (inX9 w h)) hown hK hP (q_WW (ad := ad) (cI := cI) (cW := cW)) rfl 6 (by decide) (hts _ (wz_m tw_1_215)) (fun _ h9 => h9) rfl dX9_worlds_23 ?_
      refine lv_aload_n hx hb dX9_worlds_26 rfl (lv_at hl 0 rfl) ?_
      refine c_get (v := .ref (ad 22)) hx hb hts (fun w h => wz_m (inX9 w h)) hown hK hP (q_WW (ad := ad) (cI := cI) (cW := cW)) rfl 2 (by decide) (hts _ (wz_m tw_1_211)) (fun _ h9 => h9) rfl dX9_worlds_27 ?_
      refine c_getN (v := .ref (ad 23)) hx hb hts (fun w h => wz_m (inX3 w h)) hown hK hP (q_Scene_22 (ad := ad) (cI := cI) (cW := cW)).1 rfl 0 (by decide) (List.mem_of_getElem? (i := 29) rfl) (fun _ h9 => h9) rfl dX9_worlds_30 ?_
      refine lv_iload_n hx hb dX9_worlds_33 rfl (lv_at hl 1 rfl) ?_
      refine lv_iconst (v := (-1)) hx hb dX9_worlds_34 (by decide) ?_
      refine lv_iconst (v := (-1)) hx hb dX9_worlds_35 (by decide) ?_
      obtain ⟨r5, hCr5, hE⟩ := st_bo hE
      refine g_calli (va_runV (As := [.ref (ad 23), .int a1, .int (-1), .int (-1)]) (rest := []) ⟨hx, hb, hml, hown, hts⟩ (k_X8_howMany hij (q_Hall_23 (ad := ad) (cI := cI) (cW := cW)) hCr5) (cwV 4 hts (wz_V tw_3_58 tw_3_59 tw_3_60 tw_1_10 tw_3_61) rfl rfl rfl hdV_X8_howMany ⟨Nat.le_of_ble_eq_true rfl, Nat.le_of_ble_eq_true rfl⟩) (g_preV KC_st ZC_st hK hZ hP hS hK.1 ((q_Worlds_80 (ad := ad) (cI := cI) (cW := cW)).1).1 (ec_o (q_Worlds_80 (ad := ad) (cI := cI) (cW := cW)).1) rfl) rfl rfl hl.1 rfl (lv_room (Nat.le_of_ble_eq_true rfl)) dX9_worlds_36 ⟨Nat.zero_le _, Nat.zero_le _⟩) hS (fun H locs hP hS => ?_)
      replace hE := Option.some.inj hE
      have hq := Prod.mk.inj hE
      subst hQQ
      exact g_iret hx hb hr hlocks hP hS hq.1 hq.2 dX9_worlds_39
    · have hE := st_t hE hc4
      refine lv_bipush (v := (-103)) hx hb dX9_worlds_19 (by decide) ?_
      replace hE := Option.some.inj hE
      have hq := Prod.mk.inj hE
      subst hQQ
      exact g_iret hx hb hr hlocks hP hS hq.1 hq.2 dX9_worlds_21
  · have hE := st_t hE hc2
    refine lv_bipush (v := (-102)) hx hb dX9_worlds_9 (by decide) ?_
    replace hE := Option.some.inj hE
    have hq := Prod.mk.inj hE
    subst hQQ
    exact g_iret hx hb hr hlocks hP hS hq.1 hq.2 dX9_worlds_11

def b_X5_comeIn_2 (k : Nat) (a1 : Int32) (a2 : Nat) (c4 : Int32) (c5 : (Nat → Nat → Int32)) : Option ((Int32 × (Nat → Nat → Int32)) ⊕ ((Nat → Nat → Int32))) :=
  if (c5 k 3) ≤ c4 then (some (.inr c5)) else (gd (inb c4 6) (if (c5 (k + 1) (c4.toNatClampNeg)) = a1 then (gd (inb c4 6) (bo (f_X9_isWithin (c5 (k + 2) (c4.toNatClampNeg)) 0 ((c5 a2 2) - 1)) (fun (r11 : Int32) => if r11 = 0 then (bv (c4 + 1) (fun (v13 : Int32) => some (.inl (v13, c5)))) else (gd (inb c4 6) (gd (inb (c5 (k + 2) (c4.toNatClampNeg)) 5) (gd (inb c4 6) (bo (f_X7_meets (a2 + 3 + 2 * (c5 (k + 2) (c4.toNatClampNeg)).toNatClampNeg) c5 (c5 (k + 3) (c4.toNatClampNeg))) (fun (r17 : Int32 × (Nat → Nat → Int32)) => bv (c4 + 1) (fun (v18 : Int32) => some (.inl (v18, r17.2))))))))))) else (bv (c4 + 1) (fun (v9 : Int32) => some (.inl (v9, c5))))))
def f_X5_comeIn (k : Nat) (S0 : (Nat → Nat → Int32)) (a1 : Int32) (a2 : Nat) : Option ((Nat → Nat → Int32)) :=
  bo (lp (fun (s1 : Int32 × (Nat → Nat → Int32)) => b_X5_comeIn_2 k a1 a2 s1.1 s1.2) 5000 (0, S0)) (fun (x2 : (Nat → Nat → Int32)) => some x2)
abbrev rmX5_comeIn : Room := { frames := 3, cells := 0, slots := 0, locals := 67 }
theorem hdV_X5_comeIn : yX5_comeIn.cls = "WitnessWall$Slips" ∧ yX5_comeIn.cls ≠ "java/lang/invoke/MethodHandle" ∧ yX5_comeIn.cls ≠ "java/lang/invoke/VarHandle" ∧ (parseMethodDescriptor yX5_comeIn.desc).map (fun d => d.parameters.length) = some 2 := by decide +kernel
set_option maxHeartbeats 4000000 in
set_option maxRecDepth 100000 in
theorem k_X5_comeIn {l : Launch} {D : va_G} {ad : Nat → Nat} {cI cW : ClassId} {tK tC : Nat} (hij : inj 83 ad) {k : Nat} (h0 : iSlips ad cI cW k) {S0 : (Nat → Nat → Int32)} {a1 : Int32} {a2 : Nat} (h2 : iHall ad cI cW a2) {Sr : (Nat → Nat → Int32)} (hE : f_X5_comeIn k S0 a1 a2 = some Sr) {sz : Nat} : Met l yX5_comeIn (wz yX5_comeIn cX5_comeIn 4 none) rmX5_comeIn (PG 83 ad (ec ad cI cW) D (KC D cI cW) (ZC tK tC) [.ref (ad k), .int a1, .ref (ad a2)] S0 sz) (QGv 83 ad (ec ad cI cW) D Sr sz) 0 0 (AD 83 ad sz) := by
  unfold f_X5_comeIn at hE
  refine g_start (cc := cX5_comeIn) (maxL := 4) (ret := none) (Qc := fun sz => QGv 83 ad (ec ad cI cW) D Sr sz) (by decide) rfl (Nat.le_of_ble_eq_true rfl) ?_
  intro p e s m args below meth c H locs ls hx hb hr hts hown hlocks hml hK hZ hP hS hl
  replace hl : lv_has ls 4 [(0, .ref (ad k)), (1, .int a1), (2, .ref (ad a2))] := hl
  obtain ⟨QQ, hQQ⟩ : ∃ q, q = MQ below (QGv 83 ad (ec ad cI cW) D Sr s.heap.size) args s 0 0 (AD 83 ad s.heap.size) := ⟨_, rfl⟩
  rw [← hQQ]
  refine lv_iconst (v := 0) hx hb dX5_comeIn_0 (by decide) ?_
  refine lv_istore_n (lv' := [(3, .int 0), (0, .ref (ad k)), (1, .int a1), (2, .ref (ad a2))]) hx hb dX5_comeIn_1 rfl hl (by decide) rfl (fun ls hl => ?_)
  obtain ⟨x2, hx2, hE⟩ := st_bo hE
  refine lp_walk (body := fun (s1 : Int32 × (Nat → Nat → Int32)) => b_X5_comeIn_2 k a1 a2 s1.1 s1.2) (fun s1 => ∀ (ls : Array Slot) (H : Heap) (locs : List Loc), lv_has ls 4 [(0, .ref (ad k)), (1, .int a1), (2, .ref (ad a2)), (3, .int s1.1)] → cP D ad cI cW s1.2 H → cS ad s H locs → W p l e rmX5_comeIn s m args below meth c H locs 0 0 QQ (F0 m 2 ls [])) (fun x2 => ∀ (ls : Array Slot) (H : Heap) (locs : List Loc), lv_has ls 4 [] → cP D ad cI cW x2 H → cS ad s H locs → W p l e rmX5_comeIn s m args below meth c H locs 0 0 QQ (F0 m 66 ls [])) ?_ _ _ _ hx2 ?_ ls H locs (lv_sub hl [1, 2, 3, 0] rfl) hP hS
  · intro s1 t3 hE hKt3 ls H locs hl hP hS
    obtain ⟨c4, c5⟩ := s1
    replace hE : b_X5_comeIn_2 k a1 a2 c4 c5 = some t3 := hE
    replace hl : lv_has ls 4 [(0, .ref (ad k)), (1, .int a1), (2, .ref (ad a2)), (3, .int c4)] := hl
    replace hP : cP D ad cI cW c5 H := hP
    unfold b_X5_comeIn_2 at hE
    refine lv_iload_n hx hb dX5_comeIn_2 rfl (lv_at hl 3 rfl) ?_
    refine lv_aload_n hx hb dX5_comeIn_3 rfl (lv_at hl 0 rfl) ?_
    refine c_get (v := .int (c5 k 3)) hx hb hts (fun w h => wz_m (inX5 w h)) hown hK hP h0.1 rfl 3 (by decide) (hts _ (wz_m tw_1_134)) (fun _ h9 => h9) rfl dX5_comeIn_4 ?_
    refine lv_icmp_ge (tgt := 66) hx hb dX5_comeIn_7 (by decide) (fun hc6 => ?_) (fun hc6 => ?_)
    · have hE := st_t hE hc6
      have hq := Option.some.inj hE
      subst hq
      exact hKt3 ls H locs (lv_sub hl [] rfl) hP hS
    · have hE := st_f hE hc6
      refine lv_aload_n hx hb dX5_comeIn_10 rfl (lv_at hl 0 rfl) ?_
      refine c_get (v := .ref (ad (k + 1))) hx hb hts (fun w h => wz_m (inX5 w h)) hown hK hP h0.1 rfl 0 (by decide) (hts _ (wz_m tw_1_131)) (fun _ h9 => h9) rfl dX5_comeIn_11 ?_
      refine lv_iload_n hx hb dX5_comeIn_14 rfl (lv_at hl 3 rfl) ?_
      obtain ⟨hi7, hE⟩ := st_gd hE
      refine c_iald hx hb hK hP h0.2.1 hi7 dX5_comeIn_15 ?_
      refine lv_iload_n hx hb dX5_comeIn_16 rfl (lv_at hl 1 rfl) ?_
      refine lv_icmp_ne (tgt := 60) hx hb dX5_comeIn_17 (by decide) (fun hc8 => ?_) (fun hc8 => ?_)
      · have hE := st_f hE hc8
        obtain ⟨v9, ev9, hE⟩ := st_bv hE
        refine lv_iinc (v := v9) (lv' := [(3, .int v9), (0, .ref (ad k)), (1, .int a1), (2, .ref (ad a2))]) hx hb dX5_comeIn_60 hl (k := 3) rfl (by rw [ev9]; rfl) (by decide) rfl (fun ls hl => ?_)
        refine lv_goto (tgt := 2) hx hb dX5_comeIn_63 (by decide) ?_
        have hq := Option.some.inj hE
        subst hq
        exact hKt3 ls H locs (lv_sub hl [1, 2, 3, 0] rfl) hP hS
      · have hE := st_t hE hc8
        refine lv_aload_n hx hb dX5_comeIn_20 rfl (lv_at hl 0 rfl) ?_
        refine c_get (v := .ref (ad (k + 2))) hx hb hts (fun w h => wz_m (inX5 w h)) hown hK hP h0.1 rfl 1 (by decide) (hts _ (wz_m tw_1_132)) (fun _ h9 => h9) rfl dX5_comeIn_21 ?_
        refine lv_iload_n hx hb dX5_comeIn_24 rfl (lv_at hl 3 rfl) ?_
        obtain ⟨hi10, hE⟩ := st_gd hE
        refine c_iald hx hb hK hP h0.2.2.1 hi10 dX5_comeIn_25 ?_
        refine lv_iconst (v := 0) hx hb dX5_comeIn_26 (by decide) ?_
        refine lv_aload_n hx hb dX5_comeIn_27 rfl (lv_at hl 2 rfl) ?_
        refine c_getN (v := .int (c5 a2 2)) hx hb hts (fun w h => wz_m (inX1 w h)) hown hK hP h2.1 rfl 2 (by decide) (List.mem_of_getElem? (i := 9) rfl) (fun _ h9 => h9) rfl dX5_comeIn_28 ?_
        refine lv_iconst (v := 1) hx hb dX5_comeIn_31 (by decide) ?_
        refine lv_isub hx hb dX5_comeIn_32 ?_
        obtain ⟨r11, hCr11, hE⟩ := st_bo hE
        refine g_calli (va_runSN (As := [.int (c5 (k + 2) (c4.toNatClampNeg)), .int 0, .int ((c5 a2 2) - 1)]) (rest := []) ⟨hx, hb, hml, hown, hts⟩ (k_X9_isWithin hij (S0 := c5) hCr11) ⟨va_cnB 3 hts (wz_good tw_2_3) rfl rfl rfl (hK.2 _ (List.mem_of_getElem? (i := 40) rfl)) (hts _ (wz_m tw_1_1)) hdS_X9_isWithin ⟨Nat.le_of_ble_eq_true rfl, Nat.le_of_ble_eq_true rfl⟩, hts _ (wz_m tw_2_2), trivial⟩ (g_preS KC_st ZC_st hK hZ hP hS) rfl rfl hl.1 rfl (lv_room (Nat.le_of_ble_eq_true rfl)) dX5_comeIn_33 ⟨Nat.zero_le _, Nat.zero_le _⟩) hS (fun H locs hP hS => ?_)
        refine lv_if_eq (tgt := 60) hx hb dX5_comeIn_36 (by decide) (fun hc12 => ?_) (fun hc12 => ?_)
        · have hE := st_t hE hc12
          obtain ⟨v13, ev13, hE⟩ := st_bv hE
          refine lv_iinc (v := v13) (lv' := [(3, .int v13), (0, .ref (ad k)), (1, .int a1), (2, .ref (ad a2))]) hx hb dX5_comeIn_60 hl (k := 3) rfl (by rw [ev13]; rfl) (by decide) rfl (fun ls hl => ?_)
          refine lv_goto (tgt := 2) hx hb dX5_comeIn_63 (by decide) ?_
          have hq := Option.some.inj hE
          subst hq
          exact hKt3 ls H locs (lv_sub hl [1, 2, 3, 0] rfl) hP hS
        · have hE := st_f hE hc12
          refine lv_aload_n hx hb dX5_comeIn_39 rfl (lv_at hl 2 rfl) ?_
          refine c_getN (v := .ref (ad (a2 + 1))) hx hb hts (fun w h => wz_m (inX1 w h)) hown hK hP h2.1 rfl 0 (by decide) (List.mem_of_getElem? (i := 5) rfl) (fun _ h9 => h9) rfl dX5_comeIn_40 ?_
          refine lv_aload_n hx hb dX5_comeIn_43 rfl (lv_at hl 0 rfl) ?_
          refine c_get (v := .ref (ad (k + 2))) hx hb hts (fun w h => wz_m (inX5 w h)) hown hK hP h0.1 rfl 1 (by decide) (hts _ (wz_m tw_1_132)) (fun _ h9 => h9) rfl dX5_comeIn_44 ?_
          refine lv_iload_n hx hb dX5_comeIn_47 rfl (lv_at hl 3 rfl) ?_
          obtain ⟨hi14, hE⟩ := st_gd hE
          refine c_iald hx hb hK hP h0.2.2.1 hi14 dX5_comeIn_48 ?_
          obtain ⟨hi15, hE⟩ := st_gd hE
          refine c_aald hx hb hK hP h2.2.1 hi15 dX5_comeIn_49 ?_
          refine lv_aload_n hx hb dX5_comeIn_50 rfl (lv_at hl 0 rfl) ?_
          refine c_get (v := .ref (ad (k + 3))) hx hb hts (fun w h => wz_m (inX5 w h)) hown hK hP h0.1 rfl 2 (by decide) (hts _ (wz_m tw_1_133)) (fun _ h9 => h9) rfl dX5_comeIn_51 ?_
          refine lv_iload_n hx hb dX5_comeIn_54 rfl (lv_at hl 3 rfl) ?_
          obtain ⟨hi16, hE⟩ := st_gd hE
          refine c_iald hx hb hK hP h0.2.2.2 hi16 dX5_comeIn_55 ?_
          obtain ⟨r17, hCr17, hE⟩ := st_bo hE
          refine g_calli (va_runV (As := [.int (c5 (k + 3) (c4.toNatClampNeg))]) (rest := []) ⟨hx, hb, hml, hown, hts⟩ (k_X7_meets hij (h2.2.2.2 _ (st_lt hi15)) hCr17) (cwV 1 hts (wz_V tw_3_4 tw_2_203 tw_2_204 tw_1_4 tw_2_205) rfl rfl rfl hdV_X7_meets ⟨Nat.le_of_ble_eq_true rfl, Nat.le_of_ble_eq_true rfl⟩) (g_preV KC_st ZC_st hK hZ hP hS hK.1 ((h2.2.2.2 _ (st_lt hi15)).1).1 (ec_o (h2.2.2.2 _ (st_lt hi15)).1) rfl) rfl rfl hl.1 rfl (lv_room (Nat.le_of_ble_eq_true rfl)) dX5_comeIn_56 ⟨Nat.zero_le _, Nat.zero_le _⟩) hS (fun H locs hP hS => ?_)
          refine lv_pop hx hb dX5_comeIn_59 rfl ?_
          obtain ⟨v18, ev18, hE⟩ := st_bv hE
          refine lv_iinc (v := v18) (lv' := [(3, .int v18), (0, .ref (ad k)), (1, .int a1), (2, .ref (ad a2))]) hx hb dX5_comeIn_60 hl (k := 3) rfl (by rw [ev18]; rfl) (by decide) rfl (fun ls hl => ?_)
          refine lv_goto (tgt := 2) hx hb dX5_comeIn_63 (by decide) ?_
          have hq := Option.some.inj hE
          subst hq
          exact hKt3 ls H locs (lv_sub hl [1, 2, 3, 0] rfl) hP hS
  · intro ls H locs hl hP hS
    replace hE := Option.some.inj hE
    subst hQQ
    exact g_vret hx hb hr hlocks hP hS hE dX5_comeIn_66
def f_X6_wonBy (S0 : (Nat → Nat → Int32)) (a1 : Int32) (a2 : Int32) (a3 : Int32) : Option (Int32) :=
  bv ((a2 + 1) * 16) (fun (v1 : Int32) => if a1 = 0 then (gd (inb (v1 + a3) 128) (some (S0 79 ((v1 + a3).toNatClampNeg)))) else (bv ((1 : Int32) <<< ((a1 - 1) &&& 31)) (fun (v3 : Int32) => gd (inb a2 7) (bo (if (((S0 78 (a2.toNatClampNeg)) &&& (a3 ^^^ (-1))) &&& v3) = 0 then (some 0) else (some 1)) (fun (q5 : Int32) => if q5 = 0 then (some (-1)) else (gd (inb (v1 + (a3 ||| v3)) 128) (some (1 + (S0 79 ((v1 + (a3 ||| v3)).toNatClampNeg))))))))))
abbrev rmX6_wonBy : Room := { frames := 0, cells := 0, slots := 0, locals := 0 }
theorem hdV_X6_wonBy : yX6_wonBy.cls = "WitnessWall$Term" ∧ yX6_wonBy.cls ≠ "java/lang/invoke/MethodHandle" ∧ yX6_wonBy.cls ≠ "java/lang/invoke/VarHandle" ∧ (parseMethodDescriptor yX6_wonBy.desc).map (fun d => d.parameters.length) = some 3 := by decide +kernel
set_option maxHeartbeats 4000000 in
set_option maxRecDepth 100000 in
theorem k_X6_wonBy {l : Launch} {D : va_G} {ad : Nat → Nat} {cI cW : ClassId} {tK tC : Nat} (hij : inj 83 ad)  {S0 : (Nat → Nat → Int32)} {a1 : Int32} {a2 : Int32} {a3 : Int32} {r : Int32} (hE : f_X6_wonBy S0 a1 a2 a3 = some r) {sz : Nat} : Met l yX6_wonBy (wz yX6_wonBy cX6_wonBy 7 (some FieldType.int)) rmX6_wonBy (PG 83 ad (ec ad cI cW) D (KC D cI cW) (ZC tK tC) [.ref (ad 77), .int a1, .int a2, .int a3] S0 sz) (QGi 83 ad (ec ad cI cW) D r S0 sz) 0 0 (AD 83 ad sz) := by
  unfold f_X6_wonBy at hE
  refine g_start (cc := cX6_wonBy) (maxL := 7) (ret := (some FieldType.int)) (Qc := fun sz => QGi 83 ad (ec ad cI cW) D r S0 sz) (by decide) rfl (Nat.le_of_ble_eq_true rfl) ?_
  intro p e s m args below meth c H locs ls hx hb hr hts hown hlocks hml hK hZ hP hS hl
  replace hl : lv_has ls 7 [(0, .ref (ad 77)), (1, .int a1), (2, .int a2), (3, .int a3)] := hl
  obtain ⟨QQ, hQQ⟩ : ∃ q, q = MQ below (QGi 83 ad (ec ad cI cW) D r S0 s.heap.size) args s 0 0 (AD 83 ad s.heap.size) := ⟨_, rfl⟩
  rw [← hQQ]
  refine lv_iload_n hx hb dX6_wonBy_0 rfl (lv_at hl 2 rfl) ?_
  refine lv_iconst (v := 1) hx hb dX6_wonBy_1 (by decide) ?_
  refine lv_iadd hx hb dX6_wonBy_2 ?_
  refine lv_bipush (v := 16) hx hb dX6_wonBy_3 (by decide) ?_
  refine lv_imul hx hb dX6_wonBy_5 ?_
  obtain ⟨v1, ev1, hE⟩ := st_bv hE
  refine nm_i ev1 ?_
  refine lv_istore (lv' := [(4, .int v1), (0, .ref (ad 77)), (1, .int a1), (2, .int a2), (3, .int a3)]) hx hb dX6_wonBy_6 hl (by decide) rfl (fun ls hl => ?_)
  refine lv_iload_n hx hb dX6_wonBy_8 rfl (lv_at hl 2 rfl) ?_
  refine lv_if_ne (tgt := 22) hx hb dX6_wonBy_9 (by decide) (fun hc2 => ?_) (fun hc2 => ?_)
  · have hE := st_f hE hc2
    refine lv_iconst (v := 1) hx hb dX6_wonBy_22 (by decide) ?_
    refine lv_iload_n hx hb dX6_wonBy_23 rfl (lv_at hl 2 rfl) ?_
    refine lv_iconst (v := 1) hx hb dX6_wonBy_24 (by decide) ?_
    refine lv_isub hx hb dX6_wonBy_25 ?_
    refine lv_ishl hx hb dX6_wonBy_26 ?_
    obtain ⟨v3, ev3, hE⟩ := st_bv hE
    refine nm_i ev3 ?_
    refine lv_istore (lv' := [(5, .int v3), (4, .int v1), (0, .ref (ad 77)), (1, .int a1), (2, .int a2), (3, .int a3)]) hx hb dX6_wonBy_27 hl (by decide) rfl (fun ls hl => ?_)
    refine lv_aload_n hx hb dX6_wonBy_29 rfl (lv_at hl 2 rfl) ?_
    refine c_get (v := .ref (ad 78)) hx hb hts (fun w h => wz_m (inX6 w h)) hown hK hP (q_Term_77 (ad := ad) (cI := cI) (cW := cW)).1 rfl 0 (by decide) (hts _ (wz_m tw_1_189)) (fun _ h9 => h9) rfl dX6_wonBy_30 ?_
    refine lv_iload_n hx hb dX6_wonBy_33 rfl (lv_at hl 4 rfl) ?_
    obtain ⟨hi4, hE⟩ := st_gd hE
    refine c_iald hx hb hK hP (q_Term_77 (ad := ad) (cI := cI) (cW := cW)).2.1 hi4 dX6_wonBy_34 ?_
    refine lv_iload_n hx hb dX6_wonBy_35 rfl (lv_at hl 5 rfl) ?_
    refine lv_iconst (v := (-1)) hx hb dX6_wonBy_36 (by decide) ?_
    refine lv_ixor hx hb dX6_wonBy_37 ?_
    refine lv_iand hx hb dX6_wonBy_38 ?_
    refine lv_iload hx hb dX6_wonBy_39 (lv_at hl 0 rfl) ?_
    refine lv_iand hx hb dX6_wonBy_41 ?_
    obtain ⟨q5, hq5, hE⟩ := st_bo hE
    have J6 : ∀ (ls : Array Slot) (H : Heap) (locs : List Loc), lv_has ls 7 [(0, .ref (ad 77)), (3, .int a3), (4, .int v1), (5, .int v3)] → cP D ad cI cW S0 H → cS ad s H locs → W p l e rmX6_wonBy s m args below meth c H locs 0 0 QQ (F0 m 50 ls [.int q5]) := by
      intro ls H locs hl hP hS
      refine lv_istore (lv' := [(6, .int q5), (0, .ref (ad 77)), (3, .int a3), (4, .int v1), (5, .int v3)]) hx hb dX6_wonBy_50 hl (by decide) rfl (fun ls hl => ?_)
      refine lv_iload hx hb dX6_wonBy_52 (lv_at hl 0 rfl) ?_
      refine lv_if_eq (tgt := 74) hx hb dX6_wonBy_54 (by decide) (fun hc8 => ?_) (fun hc8 => ?_)
      · have hE := st_t hE hc8
        refine lv_iconst (v := (-1)) hx hb dX6_wonBy_74 (by decide) ?_
        replace hE := Option.some.inj hE
        subst hQQ
        exact g_iret hx hb hr hlocks hP hS hE rfl dX6_wonBy_75
      · have hE := st_f hE hc8
        refine lv_iconst (v := 1) hx hb dX6_wonBy_57 (by decide) ?_
        refine lv_aload_n hx hb dX6_wonBy_58 rfl (lv_at hl 1 rfl) ?_
        refine c_get (v := .ref (ad 79)) hx hb hts (fun w h => wz_m (inX6 w h)) hown hK hP (q_Term_77 (ad := ad) (cI := cI) (cW := cW)).1 rfl 1 (by decide) (hts _ (wz_m tw_1_190)) (fun _ h9 => h9) rfl dX6_wonBy_59 ?_
        refine lv_iload hx hb dX6_wonBy_62 (lv_at hl 3 rfl) ?_
        refine lv_iload_n hx hb dX6_wonBy_64 rfl (lv_at hl 2 rfl) ?_
        refine lv_iload hx hb dX6_wonBy_65 (lv_at hl 4 rfl) ?_
        refine lv_ior hx hb dX6_wonBy_67 ?_
        refine lv_iadd hx hb dX6_wonBy_68 ?_
        obtain ⟨hi9, hE⟩ := st_gd hE
        refine c_iald hx hb hK hP (q_Term_77 (ad := ad) (cI := cI) (cW := cW)).2.2 hi9 dX6_wonBy_69 ?_
        refine lv_iadd hx hb dX6_wonBy_70 ?_
        refine lv_goto (tgt := 75) hx hb dX6_wonBy_71 (by decide) ?_
        replace hE := Option.some.inj hE
        subst hQQ
        exact g_iret hx hb hr hlocks hP hS hE rfl dX6_wonBy_75
    replace hE := hq5
    refine lv_if_eq (tgt := 49) hx hb dX6_wonBy_42 (by decide) (fun hc7 => ?_) (fun hc7 => ?_)
    · have hE := st_t hE hc7
      refine lv_iconst (v := 0) hx hb dX6_wonBy_49 (by decide) ?_
      have hq := Option.some.inj hE
      subst hq
      exact J6 ls H locs (lv_sub hl [2, 5, 1, 0] rfl) hP hS
    · have hE := st_f hE hc7
      refine lv_iconst (v := 1) hx hb dX6_wonBy_45 (by decide) ?_
      refine lv_goto (tgt := 50) hx hb dX6_wonBy_46 (by decide) ?_
      have hq := Option.some.inj hE
      subst hq
      exact J6 ls H locs (lv_sub hl [2, 5, 1, 0] rfl) hP hS
  · have hE := st_t hE hc2
    refine lv_aload_n hx hb dX6_wonBy_12 rfl (lv_at hl 1 rfl) ?_
    refine c_get (v := .ref (ad 79)) hx hb hts (fun w h => wz_m (inX6 w h)) hown hK hP (q_Term_77 (ad := ad) (cI := cI) (cW := cW)).1 rfl 1 (by decide) (hts _ (wz_m tw_1_190)) (fun _ h9 => h9) rfl dX6_wonBy_13 ?_
    refine lv_iload hx hb dX6_wonBy_16 (lv_at hl 0 rfl) ?_
    refine lv_iload_n hx hb dX6_wonBy_18 rfl (lv_at hl 4 rfl) ?_
    refine lv_iadd hx hb dX6_wonBy_19 ?_
    obtain ⟨hi10, hE⟩ := st_gd hE
    refine c_iald hx hb hK hP (q_Term_77 (ad := ad) (cI := cI) (cW := cW)).2.2 hi10 dX6_wonBy_20 ?_
    replace hE := Option.some.inj hE
    subst hQQ
    exact g_iret hx hb hr hlocks hP hS hE rfl dX6_wonBy_21
def b_X6_mostFrom_5 (S0 : (Nat → Nat → Int32)) (a1 : Int32) (a2 : Int32) (c4 : Int32) (c5 : Int32) : Option ((Int32 × Int32) ⊕ (Int32)) :=
  if 4 < c5 then (some (.inr c4)) else (bo (f_X6_wonBy S0 c5 a1 a2) (fun (r7 : Int32) => bv (if c4 < r7 then r7 else c4) (fun (v8 : Int32) => bv (c5 + 1) (fun (v9 : Int32) => some (.inl (v8, v9))))))
def f_X6_mostFrom (S0 : (Nat → Nat → Int32)) (a1 : Int32) (a2 : Int32) : Option (Int32) :=
  bo (lp (fun (s1 : Int32 × Int32) => b_X6_mostFrom_5 S0 a1 a2 s1.1 s1.2) 5000 (0, 0)) (fun (x2 : Int32) => some x2)
abbrev rmX6_mostFrom : Room := { frames := 1, cells := 0, slots := 0, locals := 26 }
theorem hdV_X6_mostFrom : yX6_mostFrom.cls = "WitnessWall$Term" ∧ yX6_mostFrom.cls ≠ "java/lang/invoke/MethodHandle" ∧ yX6_mostFrom.cls ≠ "java/lang/invoke/VarHandle" ∧ (parseMethodDescriptor yX6_mostFrom.desc).map (fun d => d.parameters.length) = some 2 := by decide +kernel
set_option maxHeartbeats 4000000 in
set_option maxRecDepth 100000 in
theorem k_X6_mostFrom {l : Launch} {D : va_G} {ad : Nat → Nat} {cI cW : ClassId} {tK tC : Nat} (hij : inj 83 ad)  {S0 : (Nat → Nat → Int32)} {a1 : Int32} {a2 : Int32} {r : Int32} (hE : f_X6_mostFrom S0 a1 a2 = some r) {sz : Nat} : Met l yX6_mostFrom (wz yX6_mostFrom cX6_mostFrom 5 (some FieldType.int)) rmX6_mostFrom (PG 83 ad (ec ad cI cW) D (KC D cI cW) (ZC tK tC) [.ref (ad 77), .int a1, .int a2] S0 sz) (QGi 83 ad (ec ad cI cW) D r S0 sz) 0 0 (AD 83 ad sz) := by
  unfold f_X6_mostFrom at hE
  refine g_start (cc := cX6_mostFrom) (maxL := 5) (ret := (some FieldType.int)) (Qc := fun sz => QGi 83 ad (ec ad cI cW) D r S0 sz) (by decide) rfl (Nat.le_of_ble_eq_true rfl) ?_
  intro p e s m args below meth c H locs ls hx hb hr hts hown hlocks hml hK hZ hP hS hl
  replace hl : lv_has ls 5 [(0, .ref (ad 77)), (1, .int a1), (2, .int a2)] := hl
  obtain ⟨QQ, hQQ⟩ : ∃ q, q = MQ below (QGi 83 ad (ec ad cI cW) D r S0 s.heap.size) args s 0 0 (AD 83 ad s.heap.size) := ⟨_, rfl⟩
  rw [← hQQ]
  refine lv_iconst (v := 0) hx hb dX6_mostFrom_0 (by decide) ?_
  refine lv_istore_n (lv' := [(3, .int 0), (0, .ref (ad 77)), (1, .int a1), (2, .int a2)]) hx hb dX6_mostFrom_1 rfl hl (by decide) rfl (fun ls hl => ?_)
  refine lv_iconst (v := 0) hx hb dX6_mostFrom_2 (by decide) ?_
  refine lv_istore (lv' := [(4, .int 0), (3, .int 0), (0, .ref (ad 77)), (1, .int a1), (2, .int a2)]) hx hb dX6_mostFrom_3 hl (by decide) rfl (fun ls hl => ?_)
  obtain ⟨x2, hx2, hE⟩ := st_bo hE
  refine lp_walk (body := fun (s1 : Int32 × Int32) => b_X6_mostFrom_5 S0 a1 a2 s1.1 s1.2) (fun s1 => ∀ (ls : Array Slot) (H : Heap) (locs : List Loc), lv_has ls 5 [(0, .ref (ad 77)), (1, .int a1), (2, .int a2), (3, .int s1.1), (4, .int s1.2)] → cP D ad cI cW S0 H → cS ad s H locs → W p l e rmX6_mostFrom s m args below meth c H locs 0 0 QQ (F0 m 5 ls [])) (fun x2 => ∀ (ls : Array Slot) (H : Heap) (locs : List Loc), lv_has ls 5 [(3, .int x2)] → cP D ad cI cW S0 H → cS ad s H locs → W p l e rmX6_mostFrom s m args below meth c H locs 0 0 QQ (F0 m 30 ls [])) ?_ _ _ _ hx2 ?_ ls H locs (lv_sub hl [2, 3, 4, 1, 0] rfl) hP hS
  · intro s1 t3 hE hKt3 ls H locs hl hP hS
    obtain ⟨c4, c5⟩ := s1
    replace hE : b_X6_mostFrom_5 S0 a1 a2 c4 c5 = some t3 := hE
    replace hl : lv_has ls 5 [(0, .ref (ad 77)), (1, .int a1), (2, .int a2), (3, .int c4), (4, .int c5)] := hl
    replace hP : cP D ad cI cW S0 H := hP
    unfold b_X6_mostFrom_5 at hE
    refine lv_iload hx hb dX6_mostFrom_5 (lv_at hl 4 rfl) ?_
    refine lv_iconst (v := 4) hx hb dX6_mostFrom_7 (by decide) ?_
    refine lv_icmp_gt (tgt := 30) hx hb dX6_mostFrom_8 (by decide) (fun hc6 => ?_) (fun hc6 => ?_)
    · have hE := st_t hE hc6
      have hq := Option.some.inj hE
      subst hq
      exact hKt3 ls H locs (lv_sub hl [3] rfl) hP hS
    · have hE := st_f hE hc6
      refine lv_iload_n hx hb dX6_mostFrom_11 rfl (lv_at hl 3 rfl) ?_
      refine lv_aload_n hx hb dX6_mostFrom_12 rfl (lv_at hl 0 rfl) ?_
      refine lv_iload hx hb dX6_mostFrom_13 (lv_at hl 4 rfl) ?_
      refine lv_iload_n hx hb dX6_mostFrom_15 rfl (lv_at hl 1 rfl) ?_
      refine lv_iload_n hx hb dX6_mostFrom_16 rfl (lv_at hl 2 rfl) ?_
      obtain ⟨r7, hCr7, hE⟩ := st_bo hE
      refine g_calli (va_runV (As := [.int c5, .int a1, .int a2]) (rest := [.int c4]) ⟨hx, hb, hml, hown, hts⟩ (k_X6_wonBy hij hCr7) (cwV 3 hts (wz_V tw_3_9 tw_3_10 tw_3_11 tw_1_9 tw_3_12) rfl rfl rfl hdV_X6_wonBy ⟨Nat.le_of_ble_eq_true rfl, Nat.le_of_ble_eq_true rfl⟩) (g_preV KC_st ZC_st hK hZ hP hS hK.1 ((q_Term_77 (ad := ad) (cI := cI) (cW := cW)).1).1 (ec_o (q_Term_77 (ad := ad) (cI := cI) (cW := cW)).1) rfl) rfl rfl hl.1 rfl (lv_room (Nat.le_of_ble_eq_true rfl)) dX6_mostFrom_17 ⟨Nat.zero_le _, Nat.zero_le _⟩) hS (fun H locs hP hS => ?_)
      refine va_mmax hx hb (hml.trans hl.1.symm) hown (hts _ (wz_m tw_3_13)) (hts _ (wz_m tw_2_47)) (hts _ (wz_m tw_1_12)) (hts _ (wz_m tw_2_48)) (Nat.le_of_ble_eq_true rfl) (Nat.le_of_ble_eq_true rfl) (Nat.zero_le _) (Nat.zero_le _) dX6_mostFrom_20 ?_
      obtain ⟨v8, ev8, hE⟩ := st_bv hE
      refine nm_i ev8 ?_
      refine lv_istore_n (lv' := [(3, .int v8), (0, .ref (ad 77)), (1, .int a1), (2, .int a2), (4, .int c5)]) hx hb dX6_mostFrom_23 rfl hl (by decide) rfl (fun ls hl => ?_)
      obtain ⟨v9, ev9, hE⟩ := st_bv hE
      refine lv_iinc (v := v9) (lv' := [(4, .int v9), (3, .int v8), (0, .ref (ad 77)), (1, .int a1), (2, .int a2)]) hx hb dX6_mostFrom_24 hl (k := 4) rfl (by rw [ev9]; rfl) (by decide) rfl (fun ls hl => ?_)
      refine lv_goto (tgt := 5) hx hb dX6_mostFrom_27 (by decide) ?_
      have hq := Option.some.inj hE
      subst hq
      exact hKt3 ls H locs (lv_sub hl [2, 3, 4, 1, 0] rfl) hP hS
  · intro ls H locs hl hP hS
    refine lv_iload_n hx hb dX6_mostFrom_30 rfl (lv_at hl 0 rfl) ?_
    replace hE := Option.some.inj hE
    subst hQQ
    exact g_iret hx hb hr hlocks hP hS hE rfl dX6_mostFrom_31
def b_X6_goBy_3 (a1 : Nat) (a2 : Nat) (a3 : Nat) (c4 : Int32) (c5 : (Nat → Nat → Int32)) : Option ((Int32 × (Nat → Nat → Int32)) ⊕ ((Nat → Nat → Int32))) :=
  if 6 < c4 then (some (.inr c5)) else (bo (f_X6_winnableOn c5 c4 a1 a2) (fun (r7 : Int32 × (Nat → Nat → Int32)) => gd (inb c4 7) (bv (up2 r7.2 78 (c4.toNatClampNeg) r7.1) (fun S9 => bo (f_X5_comeIn a3 S9 c4 a2) (fun (r10 : (Nat → Nat → Int32)) => bv (c4 + 1) (fun (v11 : Int32) => some (.inl (v11, r10))))))))
def b_X6_goBy_51 (c15 : Int32) (c21 : Int32) (c22 : (Nat → Nat → Int32)) : Option ((Int32 × (Nat → Nat → Int32)) ⊕ ((Nat → Nat → Int32))) :=
  if 16 ≤ c21 then (some (.inr c22)) else (bo (f_X6_mostFrom c22 c15 c21) (fun (r24 : Int32) => gd (inb ((c15 * 16) + c21) 128) (bv (up2 c22 79 (((c15 * 16) + c21).toNatClampNeg) r24) (fun S26 => bv (c21 + 1) (fun (v27 : Int32) => some (.inl (v27, S26)))))))
def b_X6_goBy_42 (c15 : Int32) (c16 : (Nat → Nat → Int32)) : Option ((Int32 × (Nat → Nat → Int32)) ⊕ ((Nat → Nat → Int32))) :=
  if c15 < 1 then (some (.inr c16)) else (bo (lp (fun (s18 : Int32 × (Nat → Nat → Int32)) => b_X6_goBy_51 c15 s18.1 s18.2) 5000 (0, c16)) (fun (x19 : (Nat → Nat → Int32)) => bv (c15 + (-1)) (fun (v28 : Int32) => some (.inl (v28, x19)))))
def f_X6_goBy (S0 : (Nat → Nat → Int32)) (a1 : Nat) (a2 : Nat) (a3 : Nat) : Option ((Nat → Nat → Int32)) :=
  bo (lp (fun (s1 : Int32 × (Nat → Nat → Int32)) => b_X6_goBy_3 a1 a2 a3 s1.1 s1.2) 5000 (1, S0)) (fun (x2 : (Nat → Nat → Int32)) => bo (lp (fun (s12 : Int32 × (Nat → Nat → Int32)) => b_X6_goBy_42 s12.1 s12.2) 5000 (6, x2)) (fun (x13 : (Nat → Nat → Int32)) => some x13))
abbrev rmX6_goBy : Room := { frames := 4, cells := 0, slots := 0, locals := 96 }
theorem hdV_X6_goBy : yX6_goBy.cls = "WitnessWall$Term" ∧ yX6_goBy.cls ≠ "java/lang/invoke/MethodHandle" ∧ yX6_goBy.cls ≠ "java/lang/invoke/VarHandle" ∧ (parseMethodDescriptor yX6_goBy.desc).map (fun d => d.parameters.length) = some 3 := by decide +kernel
set_option maxHeartbeats 4000000 in
set_option maxRecDepth 100000 in
theorem k_X6_goBy {l : Launch} {D : va_G} {ad : Nat → Nat} {cI cW : ClassId} {tK tC : Nat} (hij : inj 83 ad)  {S0 : (Nat → Nat → Int32)} {a1 : Nat} (h1 : iCases ad cI cW a1) {a2 : Nat} (h2 : iHall ad cI cW a2) {a3 : Nat} (h3 : iSlips ad cI cW a3) {Sr : (Nat → Nat → Int32)} (hE : f_X6_goBy S0 a1 a2 a3 = some Sr) {sz : Nat} : Met l yX6_goBy (wz yX6_goBy cX6_goBy 6 none) rmX6_goBy (PG 83 ad (ec ad cI cW) D (KC D cI cW) (ZC tK tC) [.ref (ad 77), .ref (ad a1), .ref (ad a2), .ref (ad a3)] S0 sz) (QGv 83 ad (ec ad cI cW) D Sr sz) 0 0 (AD 83 ad sz) := by
  unfold f_X6_goBy at hE
  refine g_start (cc := cX6_goBy) (maxL := 6) (ret := none) (Qc := fun sz => QGv 83 ad (ec ad cI cW) D Sr sz) (by decide) rfl (Nat.le_of_ble_eq_true rfl) ?_
  intro p e s m args below meth c H locs ls hx hb hr hts hown hlocks hml hK hZ hP hS hl
  replace hl : lv_has ls 6 [(0, .ref (ad 77)), (1, .ref (ad a1)), (2, .ref (ad a2)), (3, .ref (ad a3))] := hl
  obtain ⟨QQ, hQQ⟩ : ∃ q, q = MQ below (QGv 83 ad (ec ad cI cW) D Sr s.heap.size) args s 0 0 (AD 83 ad s.heap.size) := ⟨_, rfl⟩
  rw [← hQQ]
  refine lv_iconst (v := 1) hx hb dX6_goBy_0 (by decide) ?_
  refine lv_istore (lv' := [(4, .int 1), (0, .ref (ad 77)), (1, .ref (ad a1)), (2, .ref (ad a2)), (3, .ref (ad a3))]) hx hb dX6_goBy_1 hl (by decide) rfl (fun ls hl => ?_)
  obtain ⟨x2, hx2, hE⟩ := st_bo hE
  refine lp_walk (body := fun (s1 : Int32 × (Nat → Nat → Int32)) => b_X6_goBy_3 a1 a2 a3 s1.1 s1.2) (fun s1 => ∀ (ls : Array Slot) (H : Heap) (locs : List Loc), lv_has ls 6 [(0, .ref (ad 77)), (1, .ref (ad a1)), (2, .ref (ad a2)), (3, .ref (ad a3)), (4, .int s1.1)] → cP D ad cI cW s1.2 H → cS ad s H locs → W p l e rmX6_goBy s m args below meth c H locs 0 0 QQ (F0 m 3 ls [])) (fun x2 => ∀ (ls : Array Slot) (H : Heap) (locs : List Loc), lv_has ls 6 [(0, .ref (ad 77))] → cP D ad cI cW x2 H → cS ad s H locs → W p l e rmX6_goBy s m args below meth c H locs 0 0 QQ (F0 m 38 ls [])) ?_ _ _ _ hx2 ?_ ls H locs (lv_sub hl [1, 2, 3, 4, 0] rfl) hP hS
  · intro s1 t3 hE hKt3 ls H locs hl hP hS
    obtain ⟨c4, c5⟩ := s1
    replace hE : b_X6_goBy_3 a1 a2 a3 c4 c5 = some t3 := hE
    replace hl : lv_has ls 6 [(0, .ref (ad 77)), (1, .ref (ad a1)), (2, .ref (ad a2)), (3, .ref (ad a3)), (4, .int c4)] := hl
    replace hP : cP D ad cI cW c5 H := hP
    unfold b_X6_goBy_3 at hE
    refine lv_iload hx hb dX6_goBy_3 (lv_at hl 4 rfl) ?_
    refine lv_bipush (v := 6) hx hb dX6_goBy_5 (by decide) ?_
    refine lv_icmp_gt (tgt := 38) hx hb dX6_goBy_7 (by decide) (fun hc6 => ?_) (fun hc6 => ?_)
    · have hE := st_t hE hc6
      have hq := Option.some.inj hE
      subst hq
      exact hKt3 ls H locs (lv_sub hl [0] rfl) hP hS
    · have hE := st_f hE hc6
      refine lv_aload_n hx hb dX6_goBy_10 rfl (lv_at hl 0 rfl) ?_
      refine c_get (v := .ref (ad 78)) hx hb hts (fun w h => wz_m (inX6 w h)) hown hK hP (q_Term_77 (ad := ad) (cI := cI) (cW := cW)).1 rfl 0 (by decide) (hts _ (wz_m tw_1_189)) (fun _ h9 => h9) rfl dX6_goBy_11 ?_
      refine lv_iload hx hb dX6_goBy_14 (lv_at hl 4 rfl) ?_
      refine lv_aload_n hx hb dX6_goBy_16 rfl (lv_at hl 0 rfl) ?_
      refine lv_iload hx hb dX6_goBy_17 (lv_at hl 4 rfl) ?_
      refine lv_aload_n hx hb dX6_goBy_19 rfl (lv_at hl 1 rfl) ?_
      refine lv_aload_n hx hb dX6_goBy_20 rfl (lv_at hl 2 rfl) ?_
      obtain ⟨r7, hCr7, hE⟩ := st_bo hE
      refine g_calli (va_runV (As := [.int c4, .ref (ad a1), .ref (ad a2)]) (rest := [.int c4, .ref (ad 78)]) ⟨hx, hb, hml, hown, hts⟩ (k_X6_winnableOn hij h1 h2 hCr7) (cwV 3 hts (wz_V tw_2_233 tw_2_234 tw_2_235 tw_1_9 tw_2_236) rfl rfl rfl hdV_X6_winnableOn ⟨Nat.le_of_ble_eq_true rfl, Nat.le_of_ble_eq_true rfl⟩) (g_preV KC_st ZC_st hK hZ hP hS hK.1 ((q_Term_77 (ad := ad) (cI := cI) (cW := cW)).1).1 (ec_o (q_Term_77 (ad := ad) (cI := cI) (cW := cW)).1) rfl) rfl rfl hl.1 rfl (lv_room (Nat.le_of_ble_eq_true rfl)) dX6_goBy_21 ⟨Nat.zero_le _, Nat.zero_le _⟩) hS (fun H locs hP hS => ?_)
      obtain ⟨hi8, hE⟩ := st_gd hE
      refine c_iast hij hx hb hK hP hS (q_Term_77 (ad := ad) (cI := cI) (cW := cW)).2.1 hi8 dX6_goBy_24 (fun H locs hP hS => ?_)
      obtain ⟨S9, eS9, hE⟩ := st_bv hE
      rw [← eS9] at hP
      refine lv_aload_n hx hb dX6_goBy_25 rfl (lv_at hl 3 rfl) ?_
      refine lv_iload hx hb dX6_goBy_26 (lv_at hl 4 rfl) ?_
      refine lv_aload_n hx hb dX6_goBy_28 rfl (lv_at hl 2 rfl) ?_
      obtain ⟨r10, hCr10, hE⟩ := st_bo hE
      refine g_callv (va_runV (As := [.int c4, .ref (ad a2)]) (rest := []) ⟨hx, hb, hml, hown, hts⟩ (k_X5_comeIn hij h3 h2 hCr10) (cwV 2 hts (wz_V tw_2_239 tw_3_0 tw_3_1 tw_1_7 tw_3_2) rfl rfl rfl hdV_X5_comeIn ⟨Nat.le_of_ble_eq_true rfl, Nat.le_of_ble_eq_true rfl⟩) (g_preV KC_st ZC_st hK hZ hP hS hK.1 (h3.1).1 (ec_o h3.1) rfl) rfl rfl hl.1 rfl (lv_room (Nat.le_of_ble_eq_true rfl)) dX6_goBy_29 ⟨Nat.zero_le _, Nat.zero_le _⟩) hS (fun H locs hP hS => ?_)
      obtain ⟨v11, ev11, hE⟩ := st_bv hE
      refine lv_iinc (v := v11) (lv' := [(4, .int v11), (0, .ref (ad 77)), (1, .ref (ad a1)), (2, .ref (ad a2)), (3, .ref (ad a3))]) hx hb dX6_goBy_32 hl (k := 4) rfl (by rw [ev11]; rfl) (by decide) rfl (fun ls hl => ?_)
      refine lv_goto (tgt := 3) hx hb dX6_goBy_35 (by decide) ?_
      have hq := Option.some.inj hE
      subst hq
      exact hKt3 ls H locs (lv_sub hl [1, 2, 3, 4, 0] rfl) hP hS
  · intro ls H locs hl hP hS
    refine lv_bipush (v := 6) hx hb dX6_goBy_38 (by decide) ?_
    refine lv_istore (lv' := [(4, .int 6), (0, .ref (ad 77))]) hx hb dX6_goBy_40 hl (by decide) rfl (fun ls hl => ?_)
    obtain ⟨x13, hx13, hE⟩ := st_bo hE
    refine lp_walk (body := fun (s12 : Int32 × (Nat → Nat → Int32)) => b_X6_goBy_42 s12.1 s12.2) (fun s12 => ∀ (ls : Array Slot) (H : Heap) (locs : List Loc), lv_has ls 6 [(0, .ref (ad 77)), (4, .int s12.1)] → cP D ad cI cW s12.2 H → cS ad s H locs → W p l e rmX6_goBy s m args below meth c H locs 0 0 QQ (F0 m 42 ls [])) (fun x13 => ∀ (ls : Array Slot) (H : Heap) (locs : List Loc), lv_has ls 6 [] → cP D ad cI cW x13 H → cS ad s H locs → W p l e rmX6_goBy s m args below meth c H locs 0 0 QQ (F0 m 91 ls [])) ?_ _ _ _ hx13 ?_ ls H locs (lv_sub hl [1, 0] rfl) hP hS
    · intro s12 t14 hE hKt14 ls H locs hl hP hS
      obtain ⟨c15, c16⟩ := s12
      replace hE : b_X6_goBy_42 c15 c16 = some t14 := hE
      replace hl : lv_has ls 6 [(0, .ref (ad 77)), (4, .int c15)] := hl
      replace hP : cP D ad cI cW c16 H := hP
      unfold b_X6_goBy_42 at hE
      refine lv_iload hx hb dX6_goBy_42 (lv_at hl 1 rfl) ?_
      refine lv_iconst (v := 1) hx hb dX6_goBy_44 (by decide) ?_
      refine lv_icmp_lt (tgt := 91) hx hb dX6_goBy_45 (by decide) (fun hc17 => ?_) (fun hc17 => ?_)
      · have hE := st_t hE hc17
        have hq := Option.some.inj hE
        subst hq
        exact hKt14 ls H locs (lv_sub hl [] rfl) hP hS
      · have hE := st_f hE hc17
        refine lv_iconst (v := 0) hx hb dX6_goBy_48 (by decide) ?_
        refine lv_istore (lv' := [(5, .int 0), (0, .ref (ad 77)), (4, .int c15)]) hx hb dX6_goBy_49 hl (by decide) rfl (fun ls hl => ?_)
        obtain ⟨x19, hx19, hE⟩ := st_bo hE
        refine lp_walk (body := fun (s18 : Int32 × (Nat → Nat → Int32)) => b_X6_goBy_51 c15 s18.1 s18.2) (fun s18 => ∀ (ls : Array Slot) (H : Heap) (locs : List Loc), lv_has ls 6 [(0, .ref (ad 77)), (4, .int c15), (5, .int s18.1)] → cP D ad cI cW s18.2 H → cS ad s H locs → W p l e rmX6_goBy s m args below meth c H locs 0 0 QQ (F0 m 51 ls [])) (fun x19 => ∀ (ls : Array Slot) (H : Heap) (locs : List Loc), lv_has ls 6 [(0, .ref (ad 77)), (4, .int c15)] → cP D ad cI cW x19 H → cS ad s H locs → W p l e rmX6_goBy s m args below meth c H locs 0 0 QQ (F0 m 85 ls [])) ?_ _ _ _ hx19 ?_ ls H locs (lv_sub hl [1, 2, 0] rfl) hP hS
        · intro s18 t20 hE hKt20 ls H locs hl hP hS
          obtain ⟨c21, c22⟩ := s18
          replace hE : b_X6_goBy_51 c15 c21 c22 = some t20 := hE
          replace hl : lv_has ls 6 [(0, .ref (ad 77)), (4, .int c15), (5, .int c21)] := hl
          replace hP : cP D ad cI cW c22 H := hP
          unfold b_X6_goBy_51 at hE
          refine lv_iload hx hb dX6_goBy_51 (lv_at hl 2 rfl) ?_
          refine lv_bipush (v := 16) hx hb dX6_goBy_53 (by decide) ?_
          refine lv_icmp_ge (tgt := 85) hx hb dX6_goBy_55 (by decide) (fun hc23 => ?_) (fun hc23 => ?_)
          · have hE := st_t hE hc23
            have hq := Option.some.inj hE
            subst hq
            exact hKt20 ls H locs (lv_sub hl [0, 1] rfl) hP hS
          · have hE := st_f hE hc23
            refine lv_aload_n hx hb dX6_goBy_58 rfl (lv_at hl 0 rfl) ?_
            refine c_get (v := .ref (ad 79)) hx hb hts (fun w h => wz_m (inX6 w h)) hown hK hP (q_Term_77 (ad := ad) (cI := cI) (cW := cW)).1 rfl 1 (by decide) (hts _ (wz_m tw_1_190)) (fun _ h9 => h9) rfl dX6_goBy_59 ?_
            refine lv_iload hx hb dX6_goBy_62 (lv_at hl 1 rfl) ?_
            refine lv_bipush (v := 16) hx hb dX6_goBy_64 (by decide) ?_
            refine lv_imul hx hb dX6_goBy_66 ?_
            refine lv_iload hx hb dX6_goBy_67 (lv_at hl 2 rfl) ?_
            refine lv_iadd hx hb dX6_goBy_69 ?_
            refine lv_aload_n hx hb dX6_goBy_70 rfl (lv_at hl 0 rfl) ?_
            refine lv_iload hx hb dX6_goBy_71 (lv_at hl 1 rfl) ?_
            refine lv_iload hx hb dX6_goBy_73 (lv_at hl 2 rfl) ?_
            obtain ⟨r24, hCr24, hE⟩ := st_bo hE
            refine g_calli (va_runV (As := [.int c15, .int c21]) (rest := [.int ((c15 * 16) + c21), .ref (ad 79)]) ⟨hx, hb, hml, hown, hts⟩ (k_X6_mostFrom hij hCr24) (cwV 2 hts (wz_V tw_3_5 tw_3_6 tw_3_7 tw_1_9 tw_3_8) rfl rfl rfl hdV_X6_mostFrom ⟨Nat.le_of_ble_eq_true rfl, Nat.le_of_ble_eq_true rfl⟩) (g_preV KC_st ZC_st hK hZ hP hS hK.1 ((q_Term_77 (ad := ad) (cI := cI) (cW := cW)).1).1 (ec_o (q_Term_77 (ad := ad) (cI := cI) (cW := cW)).1) rfl) rfl rfl hl.1 rfl (lv_room (Nat.le_of_ble_eq_true rfl)) dX6_goBy_75 ⟨Nat.zero_le _, Nat.zero_le _⟩) hS (fun H locs hP hS => ?_)
            obtain ⟨hi25, hE⟩ := st_gd hE
            refine c_iast hij hx hb hK hP hS (q_Term_77 (ad := ad) (cI := cI) (cW := cW)).2.2 hi25 dX6_goBy_78 (fun H locs hP hS => ?_)
            obtain ⟨S26, eS26, hE⟩ := st_bv hE
            rw [← eS26] at hP
            obtain ⟨v27, ev27, hE⟩ := st_bv hE
            refine lv_iinc (v := v27) (lv' := [(5, .int v27), (0, .ref (ad 77)), (4, .int c15)]) hx hb dX6_goBy_79 hl (k := 2) rfl (by rw [ev27]; rfl) (by decide) rfl (fun ls hl => ?_)
            refine lv_goto (tgt := 51) hx hb dX6_goBy_82 (by decide) ?_
            have hq := Option.some.inj hE
            subst hq
            exact hKt20 ls H locs (lv_sub hl [1, 2, 0] rfl) hP hS
        · intro ls H locs hl hP hS
          obtain ⟨v28, ev28, hE⟩ := st_bv hE
          refine lv_iinc (v := v28) (lv' := [(4, .int v28), (0, .ref (ad 77))]) hx hb dX6_goBy_85 hl (k := 1) rfl (by rw [ev28]; rfl) (by decide) rfl (fun ls hl => ?_)
          refine lv_goto (tgt := 42) hx hb dX6_goBy_88 (by decide) ?_
          have hq := Option.some.inj hE
          subst hq
          exact hKt14 ls H locs (lv_sub hl [1, 0] rfl) hP hS
    · intro ls H locs hl hP hS
      replace hE := Option.some.inj hE
      subst hQQ
      exact g_vret hx hb hr hlocks hP hS hE dX6_goBy_91
def f_X6_mostWon (S0 : (Nat → Nat → Int32)) : Option (Int32) :=
  gd (inb 16 128) (some (S0 79 ((16 : Int32).toNatClampNeg)))
abbrev rmX6_mostWon : Room := { frames := 0, cells := 0, slots := 0, locals := 0 }
theorem hdV_X6_mostWon : yX6_mostWon.cls = "WitnessWall$Term" ∧ yX6_mostWon.cls ≠ "java/lang/invoke/MethodHandle" ∧ yX6_mostWon.cls ≠ "java/lang/invoke/VarHandle" ∧ (parseMethodDescriptor yX6_mostWon.desc).map (fun d => d.parameters.length) = some 0 := by decide +kernel
set_option maxHeartbeats 4000000 in
set_option maxRecDepth 100000 in
theorem k_X6_mostWon {l : Launch} {D : va_G} {ad : Nat → Nat} {cI cW : ClassId} {tK tC : Nat} (hij : inj 83 ad)  {S0 : (Nat → Nat → Int32)} {r : Int32} (hE : f_X6_mostWon S0 = some r) {sz : Nat} : Met l yX6_mostWon (wz yX6_mostWon cX6_mostWon 1 (some FieldType.int)) rmX6_mostWon (PG 83 ad (ec ad cI cW) D (KC D cI cW) (ZC tK tC) [.ref (ad 77)] S0 sz) (QGi 83 ad (ec ad cI cW) D r S0 sz) 0 0 (AD 83 ad sz) := by
  unfold f_X6_mostWon at hE
  refine g_start (cc := cX6_mostWon) (maxL := 1) (ret := (some FieldType.int)) (Qc := fun sz => QGi 83 ad (ec ad cI cW) D r S0 sz) (by decide) rfl (Nat.le_of_ble_eq_true rfl) ?_
  intro p e s m args below meth c H locs ls hx hb hr hts hown hlocks hml hK hZ hP hS hl
  replace hl : lv_has ls 1 [(0, .ref (ad 77))] := hl
  obtain ⟨QQ, hQQ⟩ : ∃ q, q = MQ below (QGi 83 ad (ec ad cI cW) D r S0 s.heap.size) args s 0 0 (AD 83 ad s.heap.size) := ⟨_, rfl⟩
  rw [← hQQ]
  refine lv_aload_n hx hb dX6_mostWon_0 rfl (lv_at hl 0 rfl) ?_
  refine c_get (v := .ref (ad 79)) hx hb hts (fun w h => wz_m (inX6 w h)) hown hK hP (q_Term_77 (ad := ad) (cI := cI) (cW := cW)).1 rfl 1 (by decide) (hts _ (wz_m tw_1_190)) (fun _ h9 => h9) rfl dX6_mostWon_1 ?_
  refine lv_bipush (v := 16) hx hb dX6_mostWon_4 (by decide) ?_
  obtain ⟨hi1, hE⟩ := st_gd hE
  refine c_iald hx hb hK hP (q_Term_77 (ad := ad) (cI := cI) (cW := cW)).2.2 hi1 dX6_mostWon_6 ?_
  replace hE := Option.some.inj hE
  subst hQQ
  exact g_iret hx hb hr hlocks hP hS hE rfl dX6_mostWon_7
def b_X6_leastChoice_2 (S0 : (Nat → Nat → Int32)) (a1 : Int32) (a2 : Int32) (c4 : Int32) : Option ((Int32) ⊕ ((Unit) ⊕ (Int32))) :=
  if 4 ≤ c4 then (some (.inr (.inl ()))) else (bo (f_X6_wonBy S0 c4 a1 a2) (fun (r6 : Int32) => gd (inb ((a1 * 16) + a2) 128) (if r6 = (S0 79 (((a1 * 16) + a2).toNatClampNeg)) then (some (.inr (.inr c4))) else (bv (c4 + 1) (fun (v9 : Int32) => some (.inl v9))))))
def f_X6_leastChoice (S0 : (Nat → Nat → Int32)) (a1 : Int32) (a2 : Int32) : Option (Int32) :=
  bo (lp (fun (s1 : Int32) => b_X6_leastChoice_2 S0 a1 a2 s1) 5000 0) (fun (x2 : (Unit) ⊕ (Int32)) => Sum.elim (fun (x2 : Unit) => some 4) (fun (x2 : Int32) => some x2) x2)
abbrev rmX6_leastChoice : Room := { frames := 1, cells := 0, slots := 0, locals := 26 }
theorem hdV_X6_leastChoice : yX6_leastChoice.cls = "WitnessWall$Term" ∧ yX6_leastChoice.cls ≠ "java/lang/invoke/MethodHandle" ∧ yX6_leastChoice.cls ≠ "java/lang/invoke/VarHandle" ∧ (parseMethodDescriptor yX6_leastChoice.desc).map (fun d => d.parameters.length) = some 2 := by decide +kernel
set_option maxHeartbeats 4000000 in
set_option maxRecDepth 100000 in
theorem k_X6_leastChoice {l : Launch} {D : va_G} {ad : Nat → Nat} {cI cW : ClassId} {tK tC : Nat} (hij : inj 83 ad)  {S0 : (Nat → Nat → Int32)} {a1 : Int32} {a2 : Int32} {r : Int32} (hE : f_X6_leastChoice S0 a1 a2 = some r) {sz : Nat} : Met l yX6_leastChoice (wz yX6_leastChoice cX6_leastChoice 4 (some FieldType.int)) rmX6_leastChoice (PG 83 ad (ec ad cI cW) D (KC D cI cW) (ZC tK tC) [.ref (ad 77), .int a1, .int a2] S0 sz) (QGi 83 ad (ec ad cI cW) D r S0 sz) 0 0 (AD 83 ad sz) := by
  unfold f_X6_leastChoice at hE
  refine g_start (cc := cX6_leastChoice) (maxL := 4) (ret := (some FieldType.int)) (Qc := fun sz => QGi 83 ad (ec ad cI cW) D r S0 sz) (by decide) rfl (Nat.le_of_ble_eq_true rfl) ?_
  intro p e s m args below meth c H locs ls hx hb hr hts hown hlocks hml hK hZ hP hS hl
  replace hl : lv_has ls 4 [(0, .ref (ad 77)), (1, .int a1), (2, .int a2)] := hl
  obtain ⟨QQ, hQQ⟩ : ∃ q, q = MQ below (QGi 83 ad (ec ad cI cW) D r S0 s.heap.size) args s 0 0 (AD 83 ad s.heap.size) := ⟨_, rfl⟩
  rw [← hQQ]
  refine lv_iconst (v := 0) hx hb dX6_leastChoice_0 (by decide) ?_
  refine lv_istore_n (lv' := [(3, .int 0), (0, .ref (ad 77)), (1, .int a1), (2, .int a2)]) hx hb dX6_leastChoice_1 rfl hl (by decide) rfl (fun ls hl => ?_)
  obtain ⟨x2, hx2, hE⟩ := st_bo hE
  refine lp_walk (body := fun (s1 : Int32) => b_X6_leastChoice_2 S0 a1 a2 s1) (fun s1 => ∀ (ls : Array Slot) (H : Heap) (locs : List Loc), lv_has ls 4 [(0, .ref (ad 77)), (1, .int a1), (2, .int a2), (3, .int s1)] → cP D ad cI cW S0 H → cS ad s H locs → W p l e rmX6_leastChoice s m args below meth c H locs 0 0 QQ (F0 m 2 ls [])) (fun x2 => Sum.elim (fun x2 => ∀ (ls : Array Slot) (H : Heap) (locs : List Loc), lv_has ls 4 [] → cP D ad cI cW S0 H → cS ad s H locs → W p l e rmX6_leastChoice s m args below meth c H locs 0 0 QQ (F0 m 36 ls [])) (fun x2 => x2 = r) x2) ?_ _ _ _ hx2 ?_ ls H locs (lv_sub hl [1, 2, 3, 0] rfl) hP hS
  · intro s1 t3 hE hKt3 ls H locs hl hP hS
    obtain ⟨c4, ec4⟩ : ∃ z, z = s1 := ⟨_, rfl⟩
    subst ec4
    replace hE : b_X6_leastChoice_2 S0 a1 a2 c4 = some t3 := hE
    replace hl : lv_has ls 4 [(0, .ref (ad 77)), (1, .int a1), (2, .int a2), (3, .int c4)] := hl
    replace hP : cP D ad cI cW S0 H := hP
    unfold b_X6_leastChoice_2 at hE
    refine lv_iload_n hx hb dX6_leastChoice_2 rfl (lv_at hl 3 rfl) ?_
    refine lv_iconst (v := 4) hx hb dX6_leastChoice_3 (by decide) ?_
    refine lv_icmp_ge (tgt := 36) hx hb dX6_leastChoice_4 (by decide) (fun hc5 => ?_) (fun hc5 => ?_)
    · have hE := st_t hE hc5
      have hq := Option.some.inj hE
      subst hq
      exact hKt3 ls H locs (lv_sub hl [] rfl) hP hS
    · have hE := st_f hE hc5
      refine lv_aload_n hx hb dX6_leastChoice_7 rfl (lv_at hl 0 rfl) ?_
      refine lv_iload_n hx hb dX6_leastChoice_8 rfl (lv_at hl 3 rfl) ?_
      refine lv_iload_n hx hb dX6_leastChoice_9 rfl (lv_at hl 1 rfl) ?_
      refine lv_iload_n hx hb dX6_leastChoice_10 rfl (lv_at hl 2 rfl) ?_
      obtain ⟨r6, hCr6, hE⟩ := st_bo hE
      refine g_calli (va_runV (As := [.int c4, .int a1, .int a2]) (rest := []) ⟨hx, hb, hml, hown, hts⟩ (k_X6_wonBy hij hCr6) (cwV 3 hts (wz_V tw_3_9 tw_3_10 tw_3_11 tw_1_9 tw_3_12) rfl rfl rfl hdV_X6_wonBy ⟨Nat.le_of_ble_eq_true rfl, Nat.le_of_ble_eq_true rfl⟩) (g_preV KC_st ZC_st hK hZ hP hS hK.1 ((q_Term_77 (ad := ad) (cI := cI) (cW := cW)).1).1 (ec_o (q_Term_77 (ad := ad) (cI := cI) (cW := cW)).1) rfl) rfl rfl hl.1 rfl (lv_room (Nat.le_of_ble_eq_true rfl)) dX6_leastChoice_11 ⟨Nat.zero_le _, Nat.zero_le _⟩) hS (fun H locs hP hS => ?_)
      refine lv_aload_n hx hb dX6_leastChoice_14 rfl (lv_at hl 0 rfl) ?_
      refine c_get (v := .ref (ad 79)) hx hb hts (fun w h => wz_m (inX6 w h)) hown hK hP (q_Term_77 (ad := ad) (cI := cI) (cW := cW)).1 rfl 1 (by decide) (hts _ (wz_m tw_1_190)) (fun _ h9 => h9) rfl dX6_leastChoice_15 ?_
      refine lv_iload_n hx hb dX6_leastChoice_18 rfl (lv_at hl 1 rfl) ?_
      refine lv_bipush (v := 16) hx hb dX6_leastChoice_19 (by decide) ?_
      refine lv_imul hx hb dX6_leastChoice_21 ?_
      refine lv_iload_n hx hb dX6_leastChoice_22 rfl (lv_at hl 2 rfl) ?_
      refine lv_iadd hx hb dX6_leastChoice_23 ?_
      obtain ⟨hi7, hE⟩ := st_gd hE
      refine c_iald hx hb hK hP (q_Term_77 (ad := ad) (cI := cI) (cW := cW)).2.2 hi7 dX6_leastChoice_24 ?_
      refine lv_icmp_ne (tgt := 30) hx hb dX6_leastChoice_25 (by decide) (fun hc8 => ?_) (fun hc8 => ?_)
      · have hE := st_f hE hc8
        obtain ⟨v9, ev9, hE⟩ := st_bv hE
        refine lv_iinc (v := v9) (lv' := [(3, .int v9), (0, .ref (ad 77)), (1, .int a1), (2, .int a2)]) hx hb dX6_leastChoice_30 hl (k := 3) rfl (by rw [ev9]; rfl) (by decide) rfl (fun ls hl => ?_)
        refine lv_goto (tgt := 2) hx hb dX6_leastChoice_33 (by decide) ?_
        have hq := Option.some.inj hE
        subst hq
        exact hKt3 ls H locs (lv_sub hl [1, 2, 3, 0] rfl) hP hS
      · have hE := st_t hE hc8
        refine lv_iload_n hx hb dX6_leastChoice_28 rfl (lv_at hl 3 rfl) ?_
        have hq := Option.some.inj hE
        subst hq
        replace hE : c4 = r := hKt3
        subst hQQ
        exact g_iret hx hb hr hlocks hP hS hE rfl dX6_leastChoice_29
  · rcases x2 with x2 | x2
    · replace hE := st_el hE
      intro ls H locs hl hP hS
      refine lv_iconst (v := 4) hx hb dX6_leastChoice_36 (by decide) ?_
      replace hE := Option.some.inj hE
      subst hQQ
      exact g_iret hx hb hr hlocks hP hS hE rfl dX6_leastChoice_37
    · replace hE := st_er hE
      exact Option.some.inj hE
def b_X6_leastOrder_6 (S0 : (Nat → Nat → Int32)) (c4 : Int32) (c5 : Int32) (c6 : Int32) : Option ((Int32 × Int32 × Int32) ⊕ (Int32)) :=
  if 6 < c6 then (some (.inr c4)) else (bo (f_X6_leastChoice S0 c6 c5) (fun (r8 : Int32) => bv ((c4 * 10) + r8) (fun (v9 : Int32) => if r8 = 0 then (bv (c5 ||| 0) (fun (v13 : Int32) => bv (c6 + 1) (fun (v14 : Int32) => some (.inl (v9, v13, v14))))) else (bv (c5 ||| ((1 : Int32) <<< ((r8 - 1) &&& 31))) (fun (v11 : Int32) => bv (c6 + 1) (fun (v12 : Int32) => some (.inl (v9, v11, v12))))))))
def f_X6_leastOrder (S0 : (Nat → Nat → Int32)) : Option (Int32) :=
  bo (lp (fun (s1 : Int32 × Int32 × Int32) => b_X6_leastOrder_6 S0 s1.1 s1.2.1 s1.2.2) 5000 (0, 0, 1)) (fun (x2 : Int32) => some x2)
abbrev rmX6_leastOrder : Room := { frames := 2, cells := 0, slots := 0, locals := 49 }
theorem hdV_X6_leastOrder : yX6_leastOrder.cls = "WitnessWall$Term" ∧ yX6_leastOrder.cls ≠ "java/lang/invoke/MethodHandle" ∧ yX6_leastOrder.cls ≠ "java/lang/invoke/VarHandle" ∧ (parseMethodDescriptor yX6_leastOrder.desc).map (fun d => d.parameters.length) = some 0 := by decide +kernel
set_option maxHeartbeats 4000000 in
set_option maxRecDepth 100000 in
theorem k_X6_leastOrder {l : Launch} {D : va_G} {ad : Nat → Nat} {cI cW : ClassId} {tK tC : Nat} (hij : inj 83 ad)  {S0 : (Nat → Nat → Int32)} {r : Int32} (hE : f_X6_leastOrder S0 = some r) {sz : Nat} : Met l yX6_leastOrder (wz yX6_leastOrder cX6_leastOrder 5 (some FieldType.int)) rmX6_leastOrder (PG 83 ad (ec ad cI cW) D (KC D cI cW) (ZC tK tC) [.ref (ad 77)] S0 sz) (QGi 83 ad (ec ad cI cW) D r S0 sz) 0 0 (AD 83 ad sz) := by
  unfold f_X6_leastOrder at hE
  refine g_start (cc := cX6_leastOrder) (maxL := 5) (ret := (some FieldType.int)) (Qc := fun sz => QGi 83 ad (ec ad cI cW) D r S0 sz) (by decide) rfl (Nat.le_of_ble_eq_true rfl) ?_
  intro p e s m args below meth c H locs ls hx hb hr hts hown hlocks hml hK hZ hP hS hl
  replace hl : lv_has ls 5 [(0, .ref (ad 77))] := hl
  obtain ⟨QQ, hQQ⟩ : ∃ q, q = MQ below (QGi 83 ad (ec ad cI cW) D r S0 s.heap.size) args s 0 0 (AD 83 ad s.heap.size) := ⟨_, rfl⟩
  rw [← hQQ]
  refine lv_iconst (v := 0) hx hb dX6_leastOrder_0 (by decide) ?_
  refine lv_istore_n (lv' := [(1, .int 0), (0, .ref (ad 77))]) hx hb dX6_leastOrder_1 rfl hl (by decide) rfl (fun ls hl => ?_)
  refine lv_iconst (v := 0) hx hb dX6_leastOrder_2 (by decide) ?_
  refine lv_istore_n (lv' := [(2, .int 0), (1, .int 0), (0, .ref (ad 77))]) hx hb dX6_leastOrder_3 rfl hl (by decide) rfl (fun ls hl => ?_)
  refine lv_iconst (v := 1) hx hb dX6_leastOrder_4 (by decide) ?_
  refine lv_istore_n (lv' := [(3, .int 1), (2, .int 0), (1, .int 0), (0, .ref (ad 77))]) hx hb dX6_leastOrder_5 rfl hl (by decide) rfl (fun ls hl => ?_)
  obtain ⟨x2, hx2, hE⟩ := st_bo hE
  refine lp_walk (body := fun (s1 : Int32 × Int32 × Int32) => b_X6_leastOrder_6 S0 s1.1 s1.2.1 s1.2.2) (fun s1 => ∀ (ls : Array Slot) (H : Heap) (locs : List Loc), lv_has ls 5 [(0, .ref (ad 77)), (1, .int s1.1), (2, .int s1.2.1), (3, .int s1.2.2)] → cP D ad cI cW S0 H → cS ad s H locs → W p l e rmX6_leastOrder s m args below meth c H locs 0 0 QQ (F0 m 6 ls [])) (fun x2 => ∀ (ls : Array Slot) (H : Heap) (locs : List Loc), lv_has ls 5 [(1, .int x2)] → cP D ad cI cW S0 H → cS ad s H locs → W p l e rmX6_leastOrder s m args below meth c H locs 0 0 QQ (F0 m 52 ls [])) ?_ _ _ _ hx2 ?_ ls H locs (lv_sub hl [3, 2, 1, 0] rfl) hP hS
  · intro s1 t3 hE hKt3 ls H locs hl hP hS
    obtain ⟨c4, c5, c6⟩ := s1
    replace hE : b_X6_leastOrder_6 S0 c4 c5 c6 = some t3 := hE
    replace hl : lv_has ls 5 [(0, .ref (ad 77)), (1, .int c4), (2, .int c5), (3, .int c6)] := hl
    replace hP : cP D ad cI cW S0 H := hP
    unfold b_X6_leastOrder_6 at hE
    refine lv_iload_n hx hb dX6_leastOrder_6 rfl (lv_at hl 3 rfl) ?_
    refine lv_bipush (v := 6) hx hb dX6_leastOrder_7 (by decide) ?_
    refine lv_icmp_gt (tgt := 52) hx hb dX6_leastOrder_9 (by decide) (fun hc7 => ?_) (fun hc7 => ?_)
    · have hE := st_t hE hc7
      have hq := Option.some.inj hE
      subst hq
      exact hKt3 ls H locs (lv_sub hl [1] rfl) hP hS
    · have hE := st_f hE hc7
      refine lv_aload_n hx hb dX6_leastOrder_12 rfl (lv_at hl 0 rfl) ?_
      refine lv_iload_n hx hb dX6_leastOrder_13 rfl (lv_at hl 3 rfl) ?_
      refine lv_iload_n hx hb dX6_leastOrder_14 rfl (lv_at hl 2 rfl) ?_
      obtain ⟨r8, hCr8, hE⟩ := st_bo hE
      refine g_calli (va_runV (As := [.int c6, .int c5]) (rest := []) ⟨hx, hb, hml, hown, hts⟩ (k_X6_leastChoice hij hCr8) (cwV 2 hts (wz_V tw_3_22 tw_3_23 tw_3_24 tw_1_9 tw_3_25) rfl rfl rfl hdV_X6_leastChoice ⟨Nat.le_of_ble_eq_true rfl, Nat.le_of_ble_eq_true rfl⟩) (g_preV KC_st ZC_st hK hZ hP hS hK.1 ((q_Term_77 (ad := ad) (cI := cI) (cW := cW)).1).1 (ec_o (q_Term_77 (ad := ad) (cI := cI) (cW := cW)).1) rfl) rfl rfl hl.1 rfl (lv_room (Nat.le_of_ble_eq_true rfl)) dX6_leastOrder_15 ⟨Nat.zero_le _, Nat.zero_le _⟩) hS (fun H locs hP hS => ?_)
      refine lv_istore (lv' := [(4, .int r8), (0, .ref (ad 77)), (1, .int c4), (2, .int c5), (3, .int c6)]) hx hb dX6_leastOrder_18 hl (by decide) rfl (fun ls hl => ?_)
      refine lv_iload_n hx hb dX6_leastOrder_20 rfl (lv_at hl 2 rfl) ?_
      refine lv_bipush (v := 10) hx hb dX6_leastOrder_21 (by decide) ?_
      refine lv_imul hx hb dX6_leastOrder_23 ?_
      refine lv_iload hx hb dX6_leastOrder_24 (lv_at hl 0 rfl) ?_
      refine lv_iadd hx hb dX6_leastOrder_26 ?_
      obtain ⟨v9, ev9, hE⟩ := st_bv hE
      refine nm_i ev9 ?_
      refine lv_istore_n (lv' := [(1, .int v9), (4, .int r8), (0, .ref (ad 77)), (2, .int c5), (3, .int c6)]) hx hb dX6_leastOrder_27 rfl hl (by decide) rfl (fun ls hl => ?_)
      refine lv_iload_n hx hb dX6_leastOrder_28 rfl (lv_at hl 3 rfl) ?_
      refine lv_iload hx hb dX6_leastOrder_29 (lv_at hl 1 rfl) ?_
      refine lv_if_ne (tgt := 38) hx hb dX6_leastOrder_31 (by decide) (fun hc10 => ?_) (fun hc10 => ?_)
      · have hE := st_f hE hc10
        refine lv_iconst (v := 1) hx hb dX6_leastOrder_38 (by decide) ?_
        refine lv_iload hx hb dX6_leastOrder_39 (lv_at hl 1 rfl) ?_
        refine lv_iconst (v := 1) hx hb dX6_leastOrder_41 (by decide) ?_
        refine lv_isub hx hb dX6_leastOrder_42 ?_
        refine lv_ishl hx hb dX6_leastOrder_43 ?_
        refine lv_ior hx hb dX6_leastOrder_44 ?_
        obtain ⟨v11, ev11, hE⟩ := st_bv hE
        refine nm_i ev11 ?_
        refine lv_istore_n (lv' := [(2, .int v11), (1, .int v9), (4, .int r8), (0, .ref (ad 77)), (3, .int c6)]) hx hb dX6_leastOrder_45 rfl hl (by decide) rfl (fun ls hl => ?_)
        obtain ⟨v12, ev12, hE⟩ := st_bv hE
        refine lv_iinc (v := v12) (lv' := [(3, .int v12), (2, .int v11), (1, .int v9), (4, .int r8), (0, .ref (ad 77))]) hx hb dX6_leastOrder_46 hl (k := 4) rfl (by rw [ev12]; rfl) (by decide) rfl (fun ls hl => ?_)
        refine lv_goto (tgt := 6) hx hb dX6_leastOrder_49 (by decide) ?_
        have hq := Option.some.inj hE
        subst hq
        exact hKt3 ls H locs (lv_sub hl [4, 2, 1, 0] rfl) hP hS
      · have hE := st_t hE hc10
        refine lv_iconst (v := 0) hx hb dX6_leastOrder_34 (by decide) ?_
        refine lv_goto (tgt := 44) hx hb dX6_leastOrder_35 (by decide) ?_
        refine lv_ior hx hb dX6_leastOrder_44 ?_
        obtain ⟨v13, ev13, hE⟩ := st_bv hE
        refine nm_i ev13 ?_
        refine lv_istore_n (lv' := [(2, .int v13), (1, .int v9), (4, .int r8), (0, .ref (ad 77)), (3, .int c6)]) hx hb dX6_leastOrder_45 rfl hl (by decide) rfl (fun ls hl => ?_)
        obtain ⟨v14, ev14, hE⟩ := st_bv hE
        refine lv_iinc (v := v14) (lv' := [(3, .int v14), (2, .int v13), (1, .int v9), (4, .int r8), (0, .ref (ad 77))]) hx hb dX6_leastOrder_46 hl (k := 4) rfl (by rw [ev14]; rfl) (by decide) rfl (fun ls hl => ?_)
        refine lv_goto (tgt := 6) hx hb dX6_leastOrder_49 (by decide) ?_
        have hq := Option.some.inj hE
        subst hq
        exact hKt3 ls H locs (lv_sub hl [4, 2, 1, 0] rfl) hP hS
  · intro ls H locs hl hP hS
    refine lv_iload_n hx hb dX6_leastOrder_52 rfl (lv_at hl 0 rfl) ?_
    replace hE := Option.some.inj hE
    subst hQQ
    exact g_iret hx hb hr hlocks hP hS hE rfl dX6_leastOrder_53

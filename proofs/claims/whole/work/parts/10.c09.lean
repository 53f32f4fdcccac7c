def f_X7_beginAs (k : Nat) (S0 : (Nat → Nat → Int32)) (a1 : Int32) : Option ((Nat → Nat → Int32)) :=
  bv (up2 S0 k 2 a1) (fun S1 => bv (up2 S1 k 1 0) (fun S2 => some S2))
abbrev rmX7_beginAs : Room := { frames := 0, cells := 0, slots := 0, locals := 0 }
theorem hdV_X7_beginAs : yX7_beginAs.cls = "WitnessWall$Witness" ∧ yX7_beginAs.cls ≠ "java/lang/invoke/MethodHandle" ∧ yX7_beginAs.cls ≠ "java/lang/invoke/VarHandle" ∧ (parseMethodDescriptor yX7_beginAs.desc).map (fun d => d.parameters.length) = some 1 := by decide +kernel
set_option maxHeartbeats 4000000 in
set_option maxRecDepth 100000 in
theorem k_X7_beginAs {l : Launch} {D : va_G} {ad : Nat → Nat} {cI cW : ClassId} {tK tC : Nat} (hij : inj 83 ad) {k : Nat} (h0 : iWit ad cI cW k) {S0 : (Nat → Nat → Int32)} {a1 : Int32} {Sr : (Nat → Nat → Int32)} (hE : f_X7_beginAs k S0 a1 = some Sr) {sz : Nat} : Met l yX7_beginAs (wz yX7_beginAs cX7_beginAs 2 none) rmX7_beginAs (PG 83 ad (ec ad cI cW) D (KC D cI cW) (ZC tK tC) [.ref (ad k), .int a1] S0 sz) (QGv 83 ad (ec ad cI cW) D Sr sz) 0 0 (AD 83 ad sz) := by
  unfold f_X7_beginAs at hE
  refine g_start (cc := cX7_beginAs) (maxL := 2) (ret := none) (Qc := fun sz => QGv 83 ad (ec ad cI cW) D Sr sz) (by decide) rfl (Nat.le_of_ble_eq_true rfl) ?_
  intro p e s m args below meth c H locs ls hx hb hr hts hown hlocks hml hK hZ hP hS hl
  replace hl : lv_has ls 2 [(0, .ref (ad k)), (1, .int a1)] := hl
  obtain ⟨QQ, hQQ⟩ : ∃ q, q = MQ below (QGv 83 ad (ec ad cI cW) D Sr s.heap.size) args s 0 0 (AD 83 ad s.heap.size) := ⟨_, rfl⟩
  rw [← hQQ]
  refine lv_aload_n hx hb dX7_beginAs_0 rfl (lv_at hl 0 rfl) ?_
  refine lv_iload_n hx hb dX7_beginAs_1 rfl (lv_at hl 1 rfl) ?_
  refine c_put hij hx hb hts (fun w h => wz_m (inX7 w h)) tyX7 tyX7_ok nmX7 hown hK hP hS h0.1 rfl 2 (by decide) (hts _ (wz_m tw_1_45)) (fun _ h9 => h9) rfl rfl rfl (fun _ => Nat.le_of_ble_eq_true rfl) (fun _ => rfl) dX7_beginAs_2 (fun H locs hP hS => ?_)
  obtain ⟨S1, eS1, hE⟩ := st_bv hE
  rw [← eS1] at hP
  refine lv_aload_n hx hb dX7_beginAs_5 rfl (lv_at hl 0 rfl) ?_
  refine lv_iconst (v := 0) hx hb dX7_beginAs_6 (by decide) ?_
  refine c_put hij hx hb hts (fun w h => wz_m (inX7 w h)) tyX7 tyX7_ok nmX7 hown hK hP hS h0.1 rfl 1 (by decide) (hts _ (wz_m tw_1_42)) (fun _ h9 => h9) rfl rfl rfl (fun _ => Nat.le_of_ble_eq_true rfl) (fun _ => rfl) dX7_beginAs_7 (fun H locs hP hS => ?_)
  obtain ⟨S2, eS2, hE⟩ := st_bv hE
  rw [← eS2] at hP
  replace hE := Option.some.inj hE
  subst hQQ
  exact g_vret hx hb hr hlocks hP hS hE dX7_beginAs_10
def f_X1_add (k : Nat) (S0 : (Nat → Nat → Int32)) (a1 : Int32) : Option ((Nat → Nat → Int32)) :=
  if 5 ≤ (S0 k 2) then (some S0) else (gd (inb (S0 k 2) 5) (bo (f_X7_beginAs (k + 3 + 2 * (S0 k 2).toNatClampNeg) S0 a1) (fun (r3 : (Nat → Nat → Int32)) => bv (up2 r3 k 2 ((r3 k 2) + 1)) (fun S4 => some S4))))
abbrev rmX1_add : Room := { frames := 1, cells := 0, slots := 0, locals := 21 }
theorem hdV_X1_add : yX1_add.cls = "WitnessWall$Hall" ∧ yX1_add.cls ≠ "java/lang/invoke/MethodHandle" ∧ yX1_add.cls ≠ "java/lang/invoke/VarHandle" ∧ (parseMethodDescriptor yX1_add.desc).map (fun d => d.parameters.length) = some 1 := by decide +kernel
set_option maxHeartbeats 4000000 in
set_option maxRecDepth 100000 in
theorem k_X1_add {l : Launch} {D : va_G} {ad : Nat → Nat} {cI cW : ClassId} {tK tC : Nat} (hij : inj 83 ad) {k : Nat} (h0 : iHall ad cI cW k) {S0 : (Nat → Nat → Int32)} {a1 : Int32} {Sr : (Nat → Nat → Int32)} (hE : f_X1_add k S0 a1 = some Sr) {sz : Nat} : Met l yX1_add (wz yX1_add cX1_add 2 none) rmX1_add (PG 83 ad (ec ad cI cW) D (KC D cI cW) (ZC tK tC) [.ref (ad k), .int a1] S0 sz) (QGv 83 ad (ec ad cI cW) D Sr sz) 0 0 (AD 83 ad sz) := by
  unfold f_X1_add at hE
  refine g_start (cc := cX1_add) (maxL := 2) (ret := none) (Qc := fun sz => QGv 83 ad (ec ad cI cW) D Sr sz) (by decide) rfl (Nat.le_of_ble_eq_true rfl) ?_
  intro p e s m args below meth c H locs ls hx hb hr hts hown hlocks hml hK hZ hP hS hl
  replace hl : lv_has ls 2 [(0, .ref (ad k)), (1, .int a1)] := hl
  obtain ⟨QQ, hQQ⟩ : ∃ q, q = MQ below (QGv 83 ad (ec ad cI cW) D Sr s.heap.size) args s 0 0 (AD 83 ad s.heap.size) := ⟨_, rfl⟩
  rw [← hQQ]
  refine lv_aload_n hx hb dX1_add_0 rfl (lv_at hl 0 rfl) ?_
  refine c_get (v := .int (S0 k 2)) hx hb hts (fun w h => wz_m (inX1 w h)) hown hK hP h0.1 rfl 2 (by decide) (hts _ (wz_m tw_1_60)) (fun _ h9 => h9) rfl dX1_add_1 ?_
  refine lv_iconst (v := 5) hx hb dX1_add_4 (by decide) ?_
  refine lv_icmp_ge (tgt := 31) hx hb dX1_add_5 (by decide) (fun hc1 => ?_) (fun hc1 => ?_)
  · have hE := st_t hE hc1
    replace hE := Option.some.inj hE
    subst hQQ
    exact g_vret hx hb hr hlocks hP hS hE dX1_add_31
  · have hE := st_f hE hc1
    refine lv_aload_n hx hb dX1_add_8 rfl (lv_at hl 0 rfl) ?_
    refine c_get (v := .ref (ad (k + 1))) hx hb hts (fun w h => wz_m (inX1 w h)) hown hK hP h0.1 rfl 0 (by decide) (hts _ (wz_m tw_1_55)) (fun _ h9 => h9) rfl dX1_add_9 ?_
    refine lv_aload_n hx hb dX1_add_12 rfl (lv_at hl 0 rfl) ?_
    refine c_get (v := .int (S0 k 2)) hx hb hts (fun w h => wz_m (inX1 w h)) hown hK hP h0.1 rfl 2 (by decide) (hts _ (wz_m tw_1_60)) (fun _ h9 => h9) rfl dX1_add_13 ?_
    obtain ⟨hi2, hE⟩ := st_gd hE
    refine c_aald hx hb hK hP h0.2.1 hi2 dX1_add_16 ?_
    refine lv_iload_n hx hb dX1_add_17 rfl (lv_at hl 1 rfl) ?_
    obtain ⟨r3, hCr3, hE⟩ := st_bo hE
    refine g_callv (va_runV (As := [.int a1]) (rest := []) ⟨hx, hb, hml, hown, hts⟩ (k_X7_beginAs hij (h0.2.2.2 _ (st_lt hi2)) hCr3) (cwV 1 hts (wz_V tw_2_34 tw_2_35 tw_2_36 tw_1_4 tw_2_37) rfl rfl rfl hdV_X7_beginAs ⟨Nat.le_of_ble_eq_true rfl, Nat.le_of_ble_eq_true rfl⟩) (g_preV KC_st ZC_st hK hZ hP hS hK.1 ((h0.2.2.2 _ (st_lt hi2)).1).1 (ec_o (h0.2.2.2 _ (st_lt hi2)).1) rfl) rfl rfl hl.1 rfl (lv_room (Nat.le_of_ble_eq_true rfl)) dX1_add_18 ⟨Nat.zero_le _, Nat.zero_le _⟩) hS (fun H locs hP hS => ?_)
    refine lv_aload_n hx hb dX1_add_21 rfl (lv_at hl 0 rfl) ?_
    refine lv_dup hx hb dX1_add_22 rfl ?_
    refine c_get (v := .int (r3 k 2)) hx hb hts (fun w h => wz_m (inX1 w h)) hown hK hP h0.1 rfl 2 (by decide) (hts _ (wz_m tw_1_60)) (fun _ h9 => h9) rfl dX1_add_23 ?_
    refine lv_iconst (v := 1) hx hb dX1_add_26 (by decide) ?_
    refine lv_iadd hx hb dX1_add_27 ?_
    refine c_put hij hx hb hts (fun w h => wz_m (inX1 w h)) tyX1 tyX1_ok nmX1 hown hK hP hS h0.1 rfl 2 (by decide) (hts _ (wz_m tw_1_60)) (fun _ h9 => h9) rfl rfl rfl (fun _ => Nat.le_of_ble_eq_true rfl) (fun _ => rfl) dX1_add_28 (fun H locs hP hS => ?_)
    obtain ⟨S4, eS4, hE⟩ := st_bv hE
    rw [← eS4] at hP
    replace hE := Option.some.inj hE
    subst hQQ
    exact g_vret hx hb hr hlocks hP hS hE dX1_add_31
def b_X2_acceptsKind_2 (S0 : (Nat → Nat → Int32)) (a1 : Int32) (c4 : Int32) : Option ((Int32) ⊕ (((Nat → Nat → Int32)) ⊕ (Int32 × (Nat → Nat → Int32)))) :=
  if 5 ≤ c4 then (some (.inr (.inl S0))) else (gd (inb c4 5) (if (kl c4) = a1 then (bo (f_X1_add 3 S0 c4) (fun (r9 : (Nat → Nat → Int32)) => bv (up2 r9 1 4 1) (fun S10 => some (.inr (.inr (1, S10)))))) else (bv (c4 + 1) (fun (v8 : Int32) => some (.inl v8)))))
def f_X2_acceptsKind (S0 : (Nat → Nat → Int32)) (a1 : Int32) : Option (Int32 × (Nat → Nat → Int32)) :=
  bo (lp (fun (s1 : Int32) => b_X2_acceptsKind_2 S0 a1 s1) 5000 0) (fun (x2 : ((Nat → Nat → Int32)) ⊕ (Int32 × (Nat → Nat → Int32))) => Sum.elim (fun (x2 : (Nat → Nat → Int32)) => some (0, x2)) (fun (x2 : Int32 × (Nat → Nat → Int32)) => some x2) x2)
abbrev rmX2_acceptsKind : Room := { frames := 2, cells := 0, slots := 0, locals := 42 }
theorem hdV_X2_acceptsKind : yX2_acceptsKind.cls = "WitnessWall$Page" ∧ yX2_acceptsKind.cls ≠ "java/lang/invoke/MethodHandle" ∧ yX2_acceptsKind.cls ≠ "java/lang/invoke/VarHandle" ∧ (parseMethodDescriptor yX2_acceptsKind.desc).map (fun d => d.parameters.length) = some 1 := by decide +kernel
set_option maxHeartbeats 4000000 in
set_option maxRecDepth 100000 in
theorem k_X2_acceptsKind {l : Launch} {D : va_G} {ad : Nat → Nat} {cI cW : ClassId} {tK tC : Nat} (hij : inj 83 ad)  {S0 : (Nat → Nat → Int32)} {a1 : Int32} {r : Int32} {Sr : (Nat → Nat → Int32)} (hE : f_X2_acceptsKind S0 a1 = some (r, Sr)) {sz : Nat} : Met l yX2_acceptsKind (wz yX2_acceptsKind cX2_acceptsKind 3 (some FieldType.boolean)) rmX2_acceptsKind (PG 83 ad (ec ad cI cW) D (KC D cI cW) (ZC tK tC) [.ref (ad 1), .int a1] S0 sz) (QGi 83 ad (ec ad cI cW) D r Sr sz) 0 0 (AD 83 ad sz) := by
  unfold f_X2_acceptsKind at hE
  refine g_start (cc := cX2_acceptsKind) (maxL := 3) (ret := (some FieldType.boolean)) (Qc := fun sz => QGi 83 ad (ec ad cI cW) D r Sr sz) (by decide) rfl (Nat.le_of_ble_eq_true rfl) ?_
  intro p e s m args below meth c H locs ls hx hb hr hts hown hlocks hml hK hZ hP hS hl
  replace hl : lv_has ls 3 [(0, .ref (ad 1)), (1, .int a1)] := hl
  obtain ⟨QQ, hQQ⟩ : ∃ q, q = MQ below (QGi 83 ad (ec ad cI cW) D r Sr s.heap.size) args s 0 0 (AD 83 ad s.heap.size) := ⟨_, rfl⟩
  rw [← hQQ]
  refine lv_iconst (v := 0) hx hb dX2_acceptsKind_0 (by decide) ?_
  refine lv_istore_n (lv' := [(2, .int 0), (0, .ref (ad 1)), (1, .int a1)]) hx hb dX2_acceptsKind_1 rfl hl (by decide) rfl (fun ls hl => ?_)
  obtain ⟨x2, hx2, hE⟩ := st_bo hE
  refine lp_walk (body := fun (s1 : Int32) => b_X2_acceptsKind_2 S0 a1 s1) (fun s1 => ∀ (ls : Array Slot) (H : Heap) (locs : List Loc), lv_has ls 3 [(0, .ref (ad 1)), (1, .int a1), (2, .int s1)] → cP D ad cI cW S0 H → cS ad s H locs → W p l e rmX2_acceptsKind s m args below meth c H locs 0 0 QQ (F0 m 2 ls [])) (fun x2 => Sum.elim (fun x2 => ∀ (ls : Array Slot) (H : Heap) (locs : List Loc), lv_has ls 3 [] → cP D ad cI cW x2 H → cS ad s H locs → W p l e rmX2_acceptsKind s m args below meth c H locs 0 0 QQ (F0 m 37 ls [])) (fun x2 => x2 = (r, Sr)) x2) ?_ _ _ _ hx2 ?_ ls H locs (lv_sub hl [1, 2, 0] rfl) hP hS
  · intro s1 t3 hE hKt3 ls H locs hl hP hS
    obtain ⟨c4, ec4⟩ : ∃ z, z = s1 := ⟨_, rfl⟩
    subst ec4
    replace hE : b_X2_acceptsKind_2 S0 a1 c4 = some t3 := hE
    replace hl : lv_has ls 3 [(0, .ref (ad 1)), (1, .int a1), (2, .int c4)] := hl
    replace hP : cP D ad cI cW S0 H := hP
    unfold b_X2_acceptsKind_2 at hE
    refine lv_iload_n hx hb dX2_acceptsKind_2 rfl (lv_at hl 2 rfl) ?_
    refine lv_iconst (v := 5) hx hb dX2_acceptsKind_3 (by decide) ?_
    refine lv_icmp_ge (tgt := 37) hx hb dX2_acceptsKind_4 (by decide) (fun hc5 => ?_) (fun hc5 => ?_)
    · have hE := st_t hE hc5
      have hq := Option.some.inj hE
      subst hq
      exact hKt3 ls H locs (lv_sub hl [] rfl) hP hS
    · have hE := st_f hE hc5
      refine va_getsN hx hb hZ.1 hS hown (va_Nw.use rfl (hK.2 _ (List.mem_of_getElem? (i := 35) rfl))) (fun _ h9 => h9) dX2_acceptsKind_7 ?_
      refine lv_iload_n hx hb dX2_acceptsKind_10 rfl (lv_at hl 2 rfl) ?_
      obtain ⟨hi6, hE⟩ := st_gd hE
      refine c_kl hx hb hZ hS hi6 dX2_acceptsKind_11 ?_
      refine lv_iload_n hx hb dX2_acceptsKind_12 rfl (lv_at hl 1 rfl) ?_
      refine lv_icmp_ne (tgt := 31) hx hb dX2_acceptsKind_13 (by decide) (fun hc7 => ?_) (fun hc7 => ?_)
      · have hE := st_f hE hc7
        obtain ⟨v8, ev8, hE⟩ := st_bv hE
        refine lv_iinc (v := v8) (lv' := [(2, .int v8), (0, .ref (ad 1)), (1, .int a1)]) hx hb dX2_acceptsKind_31 hl (k := 2) rfl (by rw [ev8]; rfl) (by decide) rfl (fun ls hl => ?_)
        refine lv_goto (tgt := 2) hx hb dX2_acceptsKind_34 (by decide) ?_
        have hq := Option.some.inj hE
        subst hq
        exact hKt3 ls H locs (lv_sub hl [1, 2, 0] rfl) hP hS
      · have hE := st_t hE hc7
        refine lv_aload_n hx hb dX2_acceptsKind_16 rfl (lv_at hl 0 rfl) ?_
        refine c_get (v := .ref (ad 3)) hx hb hts (fun w h => wz_m (inX2 w h)) hown hK hP (q_Page_1 (ad := ad) (cI := cI) (cW := cW)).1 rfl 1 (by decide) (hts _ (wz_m tw_1_94)) (fun _ h9 => h9) rfl dX2_acceptsKind_17 ?_
        refine lv_iload_n hx hb dX2_acceptsKind_20 rfl (lv_at hl 2 rfl) ?_
        obtain ⟨r9, hCr9, hE⟩ := st_bo hE
        refine g_callv (va_runV (As := [.int c4]) (rest := []) ⟨hx, hb, hml, hown, hts⟩ (k_X1_add hij (q_Hall_3 (ad := ad) (cI := cI) (cW := cW)) hCr9) (cwV 1 hts (wz_V tw_2_30 tw_2_31 tw_2_32 tw_1_3 tw_2_33) rfl rfl rfl hdV_X1_add ⟨Nat.le_of_ble_eq_true rfl, Nat.le_of_ble_eq_true rfl⟩) (g_preV KC_st ZC_st hK hZ hP hS hK.1 ((q_Hall_3 (ad := ad) (cI := cI) (cW := cW)).1).1 (ec_o (q_Hall_3 (ad := ad) (cI := cI) (cW := cW)).1) rfl) rfl rfl hl.1 rfl (lv_room (Nat.le_of_ble_eq_true rfl)) dX2_acceptsKind_21 ⟨Nat.zero_le _, Nat.zero_le _⟩) hS (fun H locs hP hS => ?_)
        refine lv_aload_n hx hb dX2_acceptsKind_24 rfl (lv_at hl 0 rfl) ?_
        refine lv_iconst (v := 1) hx hb dX2_acceptsKind_25 (by decide) ?_
        refine c_put hij hx hb hts (fun w h => wz_m (inX2 w h)) tyX2 tyX2_ok nmX2 hown hK hP hS (q_Page_1 (ad := ad) (cI := cI) (cW := cW)).1 rfl 4 (by decide) (hts _ (wz_m tw_1_100)) (fun _ h9 => h9) rfl rfl rfl (fun _ => Nat.le_of_ble_eq_true rfl) (fun _ => rfl) dX2_acceptsKind_26 (fun H locs hP hS => ?_)
        obtain ⟨S10, eS10, hE⟩ := st_bv hE
        rw [← eS10] at hP
        refine lv_iconst (v := 1) hx hb dX2_acceptsKind_29 (by decide) ?_
        have hq := Option.some.inj hE
        subst hq
        replace hE : (1, S10) = (r, Sr) := hKt3
        have hq := Prod.mk.inj hE
        subst hQQ
        exact g_zret hx hb hr hlocks hP hS ((by decide : (1 : Int32) &&& 1 = 1).trans hq.1) hq.2 dX2_acceptsKind_30
  · rcases x2 with x2 | x2
    · replace hE := st_el hE
      intro ls H locs hl hP hS
      refine lv_iconst (v := 0) hx hb dX2_acceptsKind_37 (by decide) ?_
      replace hE := Option.some.inj hE
      have hq := Prod.mk.inj hE
      subst hQQ
      exact g_zret hx hb hr hlocks hP hS ((by decide : (0 : Int32) &&& 1 = 0).trans hq.1) hq.2 dX2_acceptsKind_38
    · replace hE := st_er hE
      exact Option.some.inj hE
def f_X2_latest (S0 : (Nat → Nat → Int32)) : Option (Nat) :=
  gd (inb (if ((S0 3 2) - 1) < 0 then 0 else ((S0 3 2) - 1)) 5) (some (6 + 2 * (if ((S0 3 2) - 1) < 0 then 0 else ((S0 3 2) - 1)).toNatClampNeg))
abbrev rmX2_latest : Room := { frames := 1, cells := 0, slots := 0, locals := 21 }
theorem hdV_X2_latest : yX2_latest.cls = "WitnessWall$Page" ∧ yX2_latest.cls ≠ "java/lang/invoke/MethodHandle" ∧ yX2_latest.cls ≠ "java/lang/invoke/VarHandle" ∧ (parseMethodDescriptor yX2_latest.desc).map (fun d => d.parameters.length) = some 0 := by decide +kernel
set_option maxHeartbeats 4000000 in
set_option maxRecDepth 100000 in
theorem k_X2_latest {l : Launch} {D : va_G} {ad : Nat → Nat} {cI cW : ClassId} {tK tC : Nat} (hij : inj 83 ad)  {S0 : (Nat → Nat → Int32)} {r : Nat} (hE : f_X2_latest S0 = some r) {sz : Nat} : Met l yX2_latest (wz yX2_latest cX2_latest 1 (Option.some (FieldType.object "WitnessWall$Witness"))) rmX2_latest (PG 83 ad (ec ad cI cW) D (KC D cI cW) (ZC tK tC) [.ref (ad 1)] S0 sz) (QGr 83 ad (ec ad cI cW) D r S0 sz) 0 0 (AD 83 ad sz) := by
  unfold f_X2_latest at hE
  refine g_start (cc := cX2_latest) (maxL := 1) (ret := (Option.some (FieldType.object "WitnessWall$Witness"))) (Qc := fun sz => QGr 83 ad (ec ad cI cW) D r S0 sz) (by decide) rfl (Nat.le_of_ble_eq_true rfl) ?_
  intro p e s m args below meth c H locs ls hx hb hr hts hown hlocks hml hK hZ hP hS hl
  replace hl : lv_has ls 1 [(0, .ref (ad 1))] := hl
  obtain ⟨QQ, hQQ⟩ : ∃ q, q = MQ below (QGr 83 ad (ec ad cI cW) D r S0 s.heap.size) args s 0 0 (AD 83 ad s.heap.size) := ⟨_, rfl⟩
  rw [← hQQ]
  refine lv_aload_n hx hb dX2_latest_0 rfl (lv_at hl 0 rfl) ?_
  refine c_get (v := .ref (ad 3)) hx hb hts (fun w h => wz_m (inX2 w h)) hown hK hP (q_Page_1 (ad := ad) (cI := cI) (cW := cW)).1 rfl 1 (by decide) (hts _ (wz_m tw_1_94)) (fun _ h9 => h9) rfl dX2_latest_1 ?_
  refine c_getN (v := .ref (ad 4)) hx hb hts (fun w h => wz_m (inX1 w h)) hown hK hP (q_Hall_3 (ad := ad) (cI := cI) (cW := cW)).1 rfl 0 (by decide) (List.mem_of_getElem? (i := 7) rfl) (fun _ h9 => h9) rfl dX2_latest_4 ?_
  refine lv_aload_n hx hb dX2_latest_7 rfl (lv_at hl 0 rfl) ?_
  refine c_get (v := .ref (ad 3)) hx hb hts (fun w h => wz_m (inX2 w h)) hown hK hP (q_Page_1 (ad := ad) (cI := cI) (cW := cW)).1 rfl 1 (by decide) (hts _ (wz_m tw_1_94)) (fun _ h9 => h9) rfl dX2_latest_8 ?_
  refine c_getN (v := .int (S0 3 2)) hx hb hts (fun w h => wz_m (inX1 w h)) hown hK hP (q_Hall_3 (ad := ad) (cI := cI) (cW := cW)).1 rfl 2 (by decide) (List.mem_of_getElem? (i := 8) rfl) (fun _ h9 => h9) rfl dX2_latest_11 ?_
  refine lv_iconst (v := 1) hx hb dX2_latest_14 (by decide) ?_
  refine lv_isub hx hb dX2_latest_15 ?_
  refine lv_iconst (v := 0) hx hb dX2_latest_16 (by decide) ?_
  refine va_mmax hx hb (hml.trans hl.1.symm) hown (hts _ (wz_m tw_2_46)) (hts _ (wz_m tw_2_47)) (hts _ (wz_m tw_1_12)) (hts _ (wz_m tw_2_48)) (Nat.le_of_ble_eq_true rfl) (Nat.le_of_ble_eq_true rfl) (Nat.zero_le _) (Nat.zero_le _) dX2_latest_17 ?_
  obtain ⟨hi1, hE⟩ := st_gd hE
  refine c_aald hx hb hK hP (q_Hall_3 (ad := ad) (cI := cI) (cW := cW)).2.1 hi1 dX2_latest_20 ?_
  replace hE := Option.some.inj hE
  subst hQQ
  exact g_aret hx hb hr hlocks hP hS hE rfl dX2_latest_21
theorem i_X2_latest {ad : Nat → Nat} {cI cW : ClassId} {S0 : Nat → Nat → Int32} {r : Nat} (hE : f_X2_latest S0 = some r) : iWit ad cI cW r := by
  unfold f_X2_latest at hE
  obtain ⟨h, hE⟩ := st_gd hE
  replace hE := Option.some.inj hE
  subst hE
  exact (q_Hall_3 (ad := ad) (cI := cI) (cW := cW)).2.2.2 _ (st_lt h)
def f_X2_acceptsThing (S0 : (Nat → Nat → Int32)) (a1 : Int32) (a2 : Int32) : Option (Int32 × (Nat → Nat → Int32)) :=
  bo (f_X9_isThing (a1 - 97)) (fun (r1 : Int32) => if r1 = 0 then (some (0, S0)) else (bv (up2 S0 1 5 (a1 - 97)) (fun S3 => bv (up2 S3 1 4 a2) (fun S4 => some (1, S4)))))
abbrev rmX2_acceptsThing : Room := { frames := 2, cells := 0, slots := 0, locals := 42 }
theorem hdV_X2_acceptsThing : yX2_acceptsThing.cls = "WitnessWall$Page" ∧ yX2_acceptsThing.cls ≠ "java/lang/invoke/MethodHandle" ∧ yX2_acceptsThing.cls ≠ "java/lang/invoke/VarHandle" ∧ (parseMethodDescriptor yX2_acceptsThing.desc).map (fun d => d.parameters.length) = some 2 := by decide +kernel
set_option maxHeartbeats 4000000 in
set_option maxRecDepth 100000 in
theorem k_X2_acceptsThing {l : Launch} {D : va_G} {ad : Nat → Nat} {cI cW : ClassId} {tK tC : Nat} (hij : inj 83 ad)  {S0 : (Nat → Nat → Int32)} {a1 : Int32} {a2 : Int32} {r : Int32} {Sr : (Nat → Nat → Int32)} (hE : f_X2_acceptsThing S0 a1 a2 = some (r, Sr)) {sz : Nat} : Met l yX2_acceptsThing (wz yX2_acceptsThing cX2_acceptsThing 3 (some FieldType.boolean)) rmX2_acceptsThing (PG 83 ad (ec ad cI cW) D (KC D cI cW) (ZC tK tC) [.ref (ad 1), .int a1, .int a2] S0 sz) (QGi 83 ad (ec ad cI cW) D r Sr sz) 0 0 (AD 83 ad sz) := by
  unfold f_X2_acceptsThing at hE
  refine g_start (cc := cX2_acceptsThing) (maxL := 3) (ret := (some FieldType.boolean)) (Qc := fun sz => QGi 83 ad (ec ad cI cW) D r Sr sz) (by decide) rfl (Nat.le_of_ble_eq_true rfl) ?_
  intro p e s m args below meth c H locs ls hx hb hr hts hown hlocks hml hK hZ hP hS hl
  replace hl : lv_has ls 3 [(0, .ref (ad 1)), (1, .int a1), (2, .int a2)] := hl
  obtain ⟨QQ, hQQ⟩ : ∃ q, q = MQ below (QGi 83 ad (ec ad cI cW) D r Sr s.heap.size) args s 0 0 (AD 83 ad s.heap.size) := ⟨_, rfl⟩
  rw [← hQQ]
  refine lv_iload_n hx hb dX2_acceptsThing_0 rfl (lv_at hl 1 rfl) ?_
  refine lv_bipush (v := 97) hx hb dX2_acceptsThing_1 (by decide) ?_
  refine lv_isub hx hb dX2_acceptsThing_3 ?_
  obtain ⟨r1, hCr1, hE⟩ := st_bo hE
  refine g_calli (va_runSN (As := [.int (a1 - 97)]) (rest := []) ⟨hx, hb, hml, hown, hts⟩ (k_X9_isThing hij (S0 := S0) hCr1) ⟨va_cnB 1 hts (wz_good tw_2_55) rfl rfl rfl (hK.2 _ (List.mem_of_getElem? (i := 36) rfl)) (hts _ (wz_m tw_1_1)) hdS_X9_isThing ⟨Nat.le_of_ble_eq_true rfl, Nat.le_of_ble_eq_true rfl⟩, hts _ (wz_m tw_2_54), trivial⟩ (g_preS KC_st ZC_st hK hZ hP hS) rfl rfl hl.1 rfl (lv_room (Nat.le_of_ble_eq_true rfl)) dX2_acceptsThing_4 ⟨Nat.zero_le _, Nat.zero_le _⟩) hS (fun H locs hP hS => ?_)
  refine lv_if_ne (tgt := 12) hx hb dX2_acceptsThing_7 (by decide) (fun hc2 => ?_) (fun hc2 => ?_)
  · have hE := st_f hE hc2
    refine lv_aload_n hx hb dX2_acceptsThing_12 rfl (lv_at hl 0 rfl) ?_
    refine lv_iload_n hx hb dX2_acceptsThing_13 rfl (lv_at hl 1 rfl) ?_
    refine lv_bipush (v := 97) hx hb dX2_acceptsThing_14 (by decide) ?_
    refine lv_isub hx hb dX2_acceptsThing_16 ?_
    refine c_put hij hx hb hts (fun w h => wz_m (inX2 w h)) tyX2 tyX2_ok nmX2 hown hK hP hS (q_Page_1 (ad := ad) (cI := cI) (cW := cW)).1 rfl 5 (by decide) (hts _ (wz_m tw_1_101)) (fun _ h9 => h9) rfl rfl rfl (fun _ => Nat.le_of_ble_eq_true rfl) (fun _ => rfl) dX2_acceptsThing_17 (fun H locs hP hS => ?_)
    obtain ⟨S3, eS3, hE⟩ := st_bv hE
    rw [← eS3] at hP
    refine lv_aload_n hx hb dX2_acceptsThing_20 rfl (lv_at hl 0 rfl) ?_
    refine lv_iload_n hx hb dX2_acceptsThing_21 rfl (lv_at hl 2 rfl) ?_
    refine c_put hij hx hb hts (fun w h => wz_m (inX2 w h)) tyX2 tyX2_ok nmX2 hown hK hP hS (q_Page_1 (ad := ad) (cI := cI) (cW := cW)).1 rfl 4 (by decide) (hts _ (wz_m tw_1_100)) (fun _ h9 => h9) rfl rfl rfl (fun _ => Nat.le_of_ble_eq_true rfl) (fun _ => rfl) dX2_acceptsThing_22 (fun H locs hP hS => ?_)
    obtain ⟨S4, eS4, hE⟩ := st_bv hE
    rw [← eS4] at hP
    refine lv_iconst (v := 1) hx hb dX2_acceptsThing_25 (by decide) ?_
    replace hE := Option.some.inj hE
    have hq := Prod.mk.inj hE
    subst hQQ
    exact g_zret hx hb hr hlocks hP hS ((by decide : (1 : Int32) &&& 1 = 1).trans hq.1) hq.2 dX2_acceptsThing_26
  · have hE := st_t hE hc2
    refine lv_iconst (v := 0) hx hb dX2_acceptsThing_10 (by decide) ?_
    replace hE := Option.some.inj hE
    have hq := Prod.mk.inj hE
    subst hQQ
    exact g_zret hx hb hr hlocks hP hS ((by decide : (0 : Int32) &&& 1 = 0).trans hq.1) hq.2 dX2_acceptsThing_11
def f_X2_acceptsInWitness (S0 : (Nat → Nat → Int32)) (a1 : Int32) : Option (Int32 × (Nat → Nat → Int32)) :=
  if a1 = 59 then (bv (up2 S0 1 4 3) (fun S13 => some (1, S13))) else (if a1 = 44 then (if 5 ≤ (S0 3 2) then (bo (f_X2_latest S0) (fun (r8 : Nat) => if 3 ≤ (S0 r8 1) then (some (0, S0)) else (bo (f_X2_acceptsThing S0 a1 2) (fun (r10 : Int32 × (Nat → Nat → Int32)) => if r10.1 = 0 then (some (0, r10.2)) else (some (1, r10.2)))))) else (bv (up2 S0 1 4 0) (fun S12 => some (1, S12)))) else (bo (f_X2_latest S0) (fun (r3 : Nat) => if 3 ≤ (S0 r3 1) then (some (0, S0)) else (bo (f_X2_acceptsThing S0 a1 2) (fun (r5 : Int32 × (Nat → Nat → Int32)) => if r5.1 = 0 then (some (0, r5.2)) else (some (1, r5.2)))))))
abbrev rmX2_acceptsInWitness : Room := { frames := 3, cells := 0, slots := 0, locals := 64 }
theorem hdV_X2_acceptsInWitness : yX2_acceptsInWitness.cls = "WitnessWall$Page" ∧ yX2_acceptsInWitness.cls ≠ "java/lang/invoke/MethodHandle" ∧ yX2_acceptsInWitness.cls ≠ "java/lang/invoke/VarHandle" ∧ (parseMethodDescriptor yX2_acceptsInWitness.desc).map (fun d => d.parameters.length) = some 1 := by decide +kernel
set_option maxHeartbeats 4000000 in
set_option maxRecDepth 100000 in
theorem k_X2_acceptsInWitness {l : Launch} {D : va_G} {ad : Nat → Nat} {cI cW : ClassId} {tK tC : Nat} (hij : inj 83 ad)  {S0 : (Nat → Nat → Int32)} {a1 : Int32} {r : Int32} {Sr : (Nat → Nat → Int32)} (hE : f_X2_acceptsInWitness S0 a1 = some (r, Sr)) {sz : Nat} : Met l yX2_acceptsInWitness (wz yX2_acceptsInWitness cX2_acceptsInWitness 2 (some FieldType.boolean)) rmX2_acceptsInWitness (PG 83 ad (ec ad cI cW) D (KC D cI cW) (ZC tK tC) [.ref (ad 1), .int a1] S0 sz) (QGi 83 ad (ec ad cI cW) D r Sr sz) 0 0 (AD 83 ad sz) := by
  unfold f_X2_acceptsInWitness at hE
  refine g_start (cc := cX2_acceptsInWitness) (maxL := 2) (ret := (some FieldType.boolean)) (Qc := fun sz => QGi 83 ad (ec ad cI cW) D r Sr sz) (by decide) rfl (Nat.le_of_ble_eq_true rfl) ?_
  intro p e s m args below meth c H locs ls hx hb hr hts hown hlocks hml hK hZ hP hS hl
  replace hl : lv_has ls 2 [(0, .ref (ad 1)), (1, .int a1)] := hl
  obtain ⟨QQ, hQQ⟩ : ∃ q, q = MQ below (QGi 83 ad (ec ad cI cW) D r Sr s.heap.size) args s 0 0 (AD 83 ad s.heap.size) := ⟨_, rfl⟩
  rw [← hQQ]
  refine lv_iload_n hx hb dX2_acceptsInWitness_0 rfl (lv_at hl 1 rfl) ?_
  refine lv_bipush (v := 59) hx hb dX2_acceptsInWitness_1 (by decide) ?_
  refine lv_icmp_ne (tgt := 13) hx hb dX2_acceptsInWitness_3 (by decide) (fun hc1 => ?_) (fun hc1 => ?_)
  · have hE := st_f hE hc1
    refine lv_iload_n hx hb dX2_acceptsInWitness_13 rfl (lv_at hl 1 rfl) ?_
    refine lv_bipush (v := 44) hx hb dX2_acceptsInWitness_14 (by decide) ?_
    refine lv_icmp_ne (tgt := 37) hx hb dX2_acceptsInWitness_16 (by decide) (fun hc2 => ?_) (fun hc2 => ?_)
    · have hE := st_f hE hc2
      refine lv_aload_n hx hb dX2_acceptsInWitness_37 rfl (lv_at hl 0 rfl) ?_
      obtain ⟨r3, hCr3, hE⟩ := st_bo hE
      refine g_callr (va_runV (As := []) (rest := []) ⟨hx, hb, hml, hown, hts⟩ (k_X2_latest hij hCr3) (cwV 0 hts (wz_V tw_2_42 tw_2_43 tw_2_44 tw_1_2 tw_2_45) rfl rfl rfl hdV_X2_latest ⟨Nat.le_of_ble_eq_true rfl, Nat.le_of_ble_eq_true rfl⟩) (g_preV KC_st ZC_st hK hZ hP hS hK.1 ((q_Page_1 (ad := ad) (cI := cI) (cW := cW)).1).1 (ec_o (q_Page_1 (ad := ad) (cI := cI) (cW := cW)).1) rfl) rfl rfl hl.1 rfl (lv_room (Nat.le_of_ble_eq_true rfl)) dX2_acceptsInWitness_38 ⟨Nat.zero_le _, Nat.zero_le _⟩) hS (fun H locs hP hS => ?_)
      refine c_getN (v := .int (S0 r3 1)) hx hb hts (fun w h => wz_m (inX7 w h)) hown hK hP (i_X2_latest (ad := ad) (cI := cI) (cW := cW) hCr3).1 rfl 1 (by decide) (List.mem_of_getElem? (i := 3) rfl) (fun _ h9 => h9) rfl dX2_acceptsInWitness_41 ?_
      refine lv_iconst (v := 3) hx hb dX2_acceptsInWitness_44 (by decide) ?_
      refine lv_icmp_ge (tgt := 61) hx hb dX2_acceptsInWitness_45 (by decide) (fun hc4 => ?_) (fun hc4 => ?_)
      · have hE := st_t hE hc4
        refine lv_iconst (v := 0) hx hb dX2_acceptsInWitness_61 (by decide) ?_
        replace hE := Option.some.inj hE
        have hq := Prod.mk.inj hE
        subst hQQ
        exact g_zret hx hb hr hlocks hP hS ((by decide : (0 : Int32) &&& 1 = 0).trans hq.1) hq.2 dX2_acceptsInWitness_62
      · have hE := st_f hE hc4
        refine lv_aload_n hx hb dX2_acceptsInWitness_48 rfl (lv_at hl 0 rfl) ?_
        refine lv_iload_n hx hb dX2_acceptsInWitness_49 rfl (lv_at hl 1 rfl) ?_
        refine lv_iconst (v := 2) hx hb dX2_acceptsInWitness_50 (by decide) ?_
        obtain ⟨r5, hCr5, hE⟩ := st_bo hE
        refine g_calli (va_runV (As := [.int a1, .int 2]) (rest := []) ⟨hx, hb, hml, hown, hts⟩ (k_X2_acceptsThing hij hCr5) (cwV 2 hts (wz_V tw_2_49 tw_2_50 tw_2_51 tw_1_2 tw_2_52) rfl rfl rfl hdV_X2_acceptsThing ⟨Nat.le_of_ble_eq_true rfl, Nat.le_of_ble_eq_true rfl⟩) (g_preV KC_st ZC_st hK hZ hP hS hK.1 ((q_Page_1 (ad := ad) (cI := cI) (cW := cW)).1).1 (ec_o (q_Page_1 (ad := ad) (cI := cI) (cW := cW)).1) rfl) rfl rfl hl.1 rfl (lv_room (Nat.le_of_ble_eq_true rfl)) dX2_acceptsInWitness_51 ⟨Nat.zero_le _, Nat.zero_le _⟩) hS (fun H locs hP hS => ?_)
        refine lv_if_eq (tgt := 61) hx hb dX2_acceptsInWitness_54 (by decide) (fun hc6 => ?_) (fun hc6 => ?_)
        · have hE := st_t hE hc6
          refine lv_iconst (v := 0) hx hb dX2_acceptsInWitness_61 (by decide) ?_
          replace hE := Option.some.inj hE
          have hq := Prod.mk.inj hE
          subst hQQ
          exact g_zret hx hb hr hlocks hP hS ((by decide : (0 : Int32) &&& 1 = 0).trans hq.1) hq.2 dX2_acceptsInWitness_62
        · have hE := st_f hE hc6
          refine lv_iconst (v := 1) hx hb dX2_acceptsInWitness_57 (by decide) ?_
          refine lv_goto (tgt := 62) hx hb dX2_acceptsInWitness_58 (by decide) ?_
          replace hE := Option.some.inj hE
          have hq := Prod.mk.inj hE
          subst hQQ
          exact g_zret hx hb hr hlocks hP hS ((by decide : (1 : Int32) &&& 1 = 1).trans hq.1) hq.2 dX2_acceptsInWitness_62
    · have hE := st_t hE hc2
      refine lv_aload_n hx hb dX2_acceptsInWitness_19 rfl (lv_at hl 0 rfl) ?_
      refine c_get (v := .ref (ad 3)) hx hb hts (fun w h => wz_m (inX2 w h)) hown hK hP (q_Page_1 (ad := ad) (cI := cI) (cW := cW)).1 rfl 1 (by decide) (hts _ (wz_m tw_1_94)) (fun _ h9 => h9) rfl dX2_acceptsInWitness_20 ?_
      refine c_getN (v := .int (S0 3 2)) hx hb hts (fun w h => wz_m (inX1 w h)) hown hK hP (q_Hall_3 (ad := ad) (cI := cI) (cW := cW)).1 rfl 2 (by decide) (List.mem_of_getElem? (i := 8) rfl) (fun _ h9 => h9) rfl dX2_acceptsInWitness_23 ?_
      refine lv_iconst (v := 5) hx hb dX2_acceptsInWitness_26 (by decide) ?_
      refine lv_icmp_ge (tgt := 37) hx hb dX2_acceptsInWitness_27 (by decide) (fun hc7 => ?_) (fun hc7 => ?_)
      · have hE := st_t hE hc7
        refine lv_aload_n hx hb dX2_acceptsInWitness_37 rfl (lv_at hl 0 rfl) ?_
        obtain ⟨r8, hCr8, hE⟩ := st_bo hE
        refine g_callr (va_runV (As := []) (rest := []) ⟨hx, hb, hml, hown, hts⟩ (k_X2_latest hij hCr8) (cwV 0 hts (wz_V tw_2_42 tw_2_43 tw_2_44 tw_1_2 tw_2_45) rfl rfl rfl hdV_X2_latest ⟨Nat.le_of_ble_eq_true rfl, Nat.le_of_ble_eq_true rfl⟩) (g_preV KC_st ZC_st hK hZ hP hS hK.1 ((q_Page_1 (ad := ad) (cI := cI) (cW := cW)).1).1 (ec_o (q_Page_1 (ad := ad) (cI := cI) (cW := cW)).1) rfl) rfl rfl hl.1 rfl (lv_room (Nat.le_of_ble_eq_true rfl)) dX2_acceptsInWitness_38 ⟨Nat.zero_le _, Nat.zero_le _⟩) hS (fun H locs hP hS => ?_)
        refine c_getN (v := .int (S0 r8 1)) hx hb hts (fun w h => wz_m (inX7 w h)) hown hK hP (i_X2_latest (ad := ad) (cI := cI) (cW := cW) hCr8).1 rfl 1 (by decide) (List.mem_of_getElem? (i := 3) rfl) (fun _ h9 => h9) rfl dX2_acceptsInWitness_41 ?_
        refine lv_iconst (v := 3) hx hb dX2_acceptsInWitness_44 (by decide) ?_
        refine lv_icmp_ge (tgt := 61) hx hb dX2_acceptsInWitness_45 (by decide) (fun hc9 => ?_) (fun hc9 => ?_)
        · have hE := st_t hE hc9
          refine lv_iconst (v := 0) hx hb dX2_acceptsInWitness_61 (by decide) ?_
          replace hE := Option.some.inj hE
          have hq := Prod.mk.inj hE
          subst hQQ
          exact g_zret hx hb hr hlocks hP hS ((by decide : (0 : Int32) &&& 1 = 0).trans hq.1) hq.2 dX2_acceptsInWitness_62
        · have hE := st_f hE hc9
          refine lv_aload_n hx hb dX2_acceptsInWitness_48 rfl (lv_at hl 0 rfl) ?_
          refine lv_iload_n hx hb dX2_acceptsInWitness_49 rfl (lv_at hl 1 rfl) ?_
          refine lv_iconst (v := 2) hx hb dX2_acceptsInWitness_50 (by decide) ?_
          obtain ⟨r10, hCr10, hE⟩ := st_bo hE
          refine g_calli (va_runV (As := [.int a1, .int 2]) (rest := []) ⟨hx, hb, hml, hown, hts⟩ (k_X2_acceptsThing hij hCr10) (cwV 2 hts (wz_V tw_2_49 tw_2_50 tw_2_51 tw_1_2 tw_2_52) rfl rfl rfl hdV_X2_acceptsThing ⟨Nat.le_of_ble_eq_true rfl, Nat.le_of_ble_eq_true rfl⟩) (g_preV KC_st ZC_st hK hZ hP hS hK.1 ((q_Page_1 (ad := ad) (cI := cI) (cW := cW)).1).1 (ec_o (q_Page_1 (ad := ad) (cI := cI) (cW := cW)).1) rfl) rfl rfl hl.1 rfl (lv_room (Nat.le_of_ble_eq_true rfl)) dX2_acceptsInWitness_51 ⟨Nat.zero_le _, Nat.zero_le _⟩) hS (fun H locs hP hS => ?_)
          refine lv_if_eq (tgt := 61) hx hb dX2_acceptsInWitness_54 (by decide) (fun hc11 => ?_) (fun hc11 => ?_)
          · have hE := st_t hE hc11
            refine lv_iconst (v := 0) hx hb dX2_acceptsInWitness_61 (by decide) ?_
            replace hE := Option.some.inj hE
            have hq := Prod.mk.inj hE
            subst hQQ
            exact g_zret hx hb hr hlocks hP hS ((by decide : (0 : Int32) &&& 1 = 0).trans hq.1) hq.2 dX2_acceptsInWitness_62
          · have hE := st_f hE hc11
            refine lv_iconst (v := 1) hx hb dX2_acceptsInWitness_57 (by decide) ?_
            refine lv_goto (tgt := 62) hx hb dX2_acceptsInWitness_58 (by decide) ?_
            replace hE := Option.some.inj hE
            have hq := Prod.mk.inj hE
            subst hQQ
            exact g_zret hx hb hr hlocks hP hS ((by decide : (1 : Int32) &&& 1 = 1).trans hq.1) hq.2 dX2_acceptsInWitness_62
      · have hE := st_f hE hc7
        refine lv_aload_n hx hb dX2_acceptsInWitness_30 rfl (lv_at hl 0 rfl) ?_
        refine lv_iconst (v := 0) hx hb dX2_acceptsInWitness_31 (by decide) ?_
        refine c_put hij hx hb hts (fun w h => wz_m (inX2 w h)) tyX2 tyX2_ok nmX2 hown hK hP hS (q_Page_1 (ad := ad) (cI := cI) (cW := cW)).1 rfl 4 (by decide) (hts _ (wz_m tw_1_100)) (fun _ h9 => h9) rfl rfl rfl (fun _ => Nat.le_of_ble_eq_true rfl) (fun _ => rfl) dX2_acceptsInWitness_32 (fun H locs hP hS => ?_)
        obtain ⟨S12, eS12, hE⟩ := st_bv hE
        rw [← eS12] at hP
        refine lv_iconst (v := 1) hx hb dX2_acceptsInWitness_35 (by decide) ?_
        replace hE := Option.some.inj hE
        have hq := Prod.mk.inj hE
        subst hQQ
        exact g_zret hx hb hr hlocks hP hS ((by decide : (1 : Int32) &&& 1 = 1).trans hq.1) hq.2 dX2_acceptsInWitness_36
  · have hE := st_t hE hc1
    refine lv_aload_n hx hb dX2_acceptsInWitness_6 rfl (lv_at hl 0 rfl) ?_
    refine lv_iconst (v := 3) hx hb dX2_acceptsInWitness_7 (by decide) ?_
    refine c_put hij hx hb hts (fun w h => wz_m (inX2 w h)) tyX2 tyX2_ok nmX2 hown hK hP hS (q_Page_1 (ad := ad) (cI := cI) (cW := cW)).1 rfl 4 (by decide) (hts _ (wz_m tw_1_100)) (fun _ h9 => h9) rfl rfl rfl (fun _ => Nat.le_of_ble_eq_true rfl) (fun _ => rfl) dX2_acceptsInWitness_8 (fun H locs hP hS => ?_)
    obtain ⟨S13, eS13, hE⟩ := st_bv hE
    rw [← eS13] at hP
    refine lv_iconst (v := 1) hx hb dX2_acceptsInWitness_11 (by decide) ?_
    replace hE := Option.some.inj hE
    have hq := Prod.mk.inj hE
    subst hQQ
    exact g_zret hx hb hr hlocks hP hS ((by decide : (1 : Int32) &&& 1 = 1).trans hq.1) hq.2 dX2_acceptsInWitness_12
def f_X9_isColour (a1 : Int32) : Option (Int32) :=
  bo (f_X9_isWithin a1 0 3) (fun (r1 : Int32) => some (r1 &&& 1))
abbrev rmX9_isColour : Room := { frames := 1, cells := 0, slots := 0, locals := 22 }
theorem hdS_X9_isColour : yX9_isColour.cls ≠ "java/lang/invoke/MethodHandle" ∧ yX9_isColour.cls ≠ "java/lang/invoke/VarHandle" ∧ (parseMethodDescriptor yX9_isColour.desc).map (fun d => d.parameters.length) = some 1 := by decide +kernel
set_option maxHeartbeats 4000000 in
set_option maxRecDepth 100000 in
theorem k_X9_isColour {l : Launch} {D : va_G} {ad : Nat → Nat} {cI cW : ClassId} {tK tC : Nat} (hij : inj 83 ad)  {S0 : (Nat → Nat → Int32)} {a1 : Int32} {r : Int32} (hE : f_X9_isColour a1 = some r) {sz : Nat} : Met l yX9_isColour (wz yX9_isColour cX9_isColour 1 (some FieldType.boolean)) rmX9_isColour (PG 83 ad (ec ad cI cW) D (KC D cI cW) (ZC tK tC) [.int a1] S0 sz) (QGi 83 ad (ec ad cI cW) D r S0 sz) 0 0 (AD 83 ad sz) := by
  unfold f_X9_isColour at hE
  refine g_start (cc := cX9_isColour) (maxL := 1) (ret := (some FieldType.boolean)) (Qc := fun sz => QGi 83 ad (ec ad cI cW) D r S0 sz) (by decide) rfl (Nat.le_of_ble_eq_true rfl) ?_
  intro p e s m args below meth c H locs ls hx hb hr hts hown hlocks hml hK hZ hP hS hl
  replace hl : lv_has ls 1 [(0, .int a1)] := hl
  obtain ⟨QQ, hQQ⟩ : ∃ q, q = MQ below (QGi 83 ad (ec ad cI cW) D r S0 s.heap.size) args s 0 0 (AD 83 ad s.heap.size) := ⟨_, rfl⟩
  rw [← hQQ]
  refine lv_iload_n hx hb dX9_isColour_0 rfl (lv_at hl 0 rfl) ?_
  refine lv_iconst (v := 0) hx hb dX9_isColour_1 (by decide) ?_
  refine lv_iconst (v := 3) hx hb dX9_isColour_2 (by decide) ?_
  obtain ⟨r1, hCr1, hE⟩ := st_bo hE
  refine g_calli (va_runS (As := [.int a1, .int 0, .int 3]) (rest := []) ⟨hx, hb, hml, hown, hts⟩ (k_X9_isWithin hij (S0 := S0) hCr1) (va_cwS 3 hts (wz_S tw_2_1 tw_2_2 tw_1_1 tw_2_3) rfl rfl rfl hdS_X9_isWithin ⟨Nat.le_of_ble_eq_true rfl, Nat.le_of_ble_eq_true rfl⟩) (g_preS KC_st ZC_st hK hZ hP hS) rfl rfl hl.1 rfl (lv_room (Nat.le_of_ble_eq_true rfl)) dX9_isColour_3 ⟨Nat.zero_le _, Nat.zero_le _⟩) hS (fun H locs hP hS => ?_)
  replace hE := Option.some.inj hE
  subst hQQ
  exact g_zret hx hb hr hlocks hP hS hE rfl dX9_isColour_6
def f_X2_acceptsColour (S0 : (Nat → Nat → Int32)) (a1 : Int32) : Option (Int32 × (Nat → Nat → Int32)) :=
  bv (a1 - 48) (fun (v1 : Int32) => bv (((S0 1 5) * 4) + v1) (fun (v2 : Int32) => bo (f_X9_isColour v1) (fun (r3 : Int32) => if r3 = 0 then (some (0, S0)) else (bo (f_X2_latest S0) (fun (r5 : Nat) => bo (f_X7_hasSight r5 S0 v2) (fun (r6 : Int32) => if r6 = 0 then (bo (f_X2_latest S0) (fun (r8 : Nat) => bo (f_X7_add r8 S0 v2) (fun (r9 : (Nat → Nat → Int32)) => bv (up2 r9 1 4 1) (fun S10 => some (1, S10))))) else (some (0, S0))))))))
abbrev rmX2_acceptsColour : Room := { frames := 2, cells := 0, slots := 0, locals := 45 }
theorem hdV_X2_acceptsColour : yX2_acceptsColour.cls = "WitnessWall$Page" ∧ yX2_acceptsColour.cls ≠ "java/lang/invoke/MethodHandle" ∧ yX2_acceptsColour.cls ≠ "java/lang/invoke/VarHandle" ∧ (parseMethodDescriptor yX2_acceptsColour.desc).map (fun d => d.parameters.length) = some 1 := by decide +kernel
set_option maxHeartbeats 4000000 in
set_option maxRecDepth 100000 in
theorem k_X2_acceptsColour {l : Launch} {D : va_G} {ad : Nat → Nat} {cI cW : ClassId} {tK tC : Nat} (hij : inj 83 ad)  {S0 : (Nat → Nat → Int32)} {a1 : Int32} {r : Int32} {Sr : (Nat → Nat → Int32)} (hE : f_X2_acceptsColour S0 a1 = some (r, Sr)) {sz : Nat} : Met l yX2_acceptsColour (wz yX2_acceptsColour cX2_acceptsColour 4 (some FieldType.boolean)) rmX2_acceptsColour (PG 83 ad (ec ad cI cW) D (KC D cI cW) (ZC tK tC) [.ref (ad 1), .int a1] S0 sz) (QGi 83 ad (ec ad cI cW) D r Sr sz) 0 0 (AD 83 ad sz) := by
  unfold f_X2_acceptsColour at hE
  refine g_start (cc := cX2_acceptsColour) (maxL := 4) (ret := (some FieldType.boolean)) (Qc := fun sz => QGi 83 ad (ec ad cI cW) D r Sr sz) (by decide) rfl (Nat.le_of_ble_eq_true rfl) ?_
  intro p e s m args below meth c H locs ls hx hb hr hts hown hlocks hml hK hZ hP hS hl
  replace hl : lv_has ls 4 [(0, .ref (ad 1)), (1, .int a1)] := hl
  obtain ⟨QQ, hQQ⟩ : ∃ q, q = MQ below (QGi 83 ad (ec ad cI cW) D r Sr s.heap.size) args s 0 0 (AD 83 ad s.heap.size) := ⟨_, rfl⟩
  rw [← hQQ]
  refine lv_iload_n hx hb dX2_acceptsColour_0 rfl (lv_at hl 1 rfl) ?_
  refine lv_bipush (v := 48) hx hb dX2_acceptsColour_1 (by decide) ?_
  refine lv_isub hx hb dX2_acceptsColour_3 ?_
  obtain ⟨v1, ev1, hE⟩ := st_bv hE
  refine nm_i ev1 ?_
  refine lv_istore_n (lv' := [(2, .int v1), (0, .ref (ad 1)), (1, .int a1)]) hx hb dX2_acceptsColour_4 rfl hl (by decide) rfl (fun ls hl => ?_)
  refine lv_aload_n hx hb dX2_acceptsColour_5 rfl (lv_at hl 1 rfl) ?_
  refine c_get (v := .int (S0 1 5)) hx hb hts (fun w h => wz_m (inX2 w h)) hown hK hP (q_Page_1 (ad := ad) (cI := cI) (cW := cW)).1 rfl 5 (by decide) (hts _ (wz_m tw_1_101)) (fun _ h9 => h9) rfl dX2_acceptsColour_6 ?_
  refine lv_iconst (v := 4) hx hb dX2_acceptsColour_9 (by decide) ?_
  refine lv_imul hx hb dX2_acceptsColour_10 ?_
  refine lv_iload_n hx hb dX2_acceptsColour_11 rfl (lv_at hl 0 rfl) ?_
  refine lv_iadd hx hb dX2_acceptsColour_12 ?_
  obtain ⟨v2, ev2, hE⟩ := st_bv hE
  refine nm_i ev2 ?_
  refine lv_istore_n (lv' := [(3, .int v2), (2, .int v1), (0, .ref (ad 1)), (1, .int a1)]) hx hb dX2_acceptsColour_13 rfl hl (by decide) rfl (fun ls hl => ?_)
  refine lv_iload_n hx hb dX2_acceptsColour_14 rfl (lv_at hl 1 rfl) ?_
  obtain ⟨r3, hCr3, hE⟩ := st_bo hE
  refine g_calli (va_runSN (As := [.int v1]) (rest := []) ⟨hx, hb, hml, hown, hts⟩ (k_X9_isColour hij (S0 := S0) hCr3) ⟨va_cnB 1 hts (wz_good tw_2_62) rfl rfl rfl (hK.2 _ (List.mem_of_getElem? (i := 37) rfl)) (hts _ (wz_m tw_1_1)) hdS_X9_isColour ⟨Nat.le_of_ble_eq_true rfl, Nat.le_of_ble_eq_true rfl⟩, hts _ (wz_m tw_2_61), trivial⟩ (g_preS KC_st ZC_st hK hZ hP hS) rfl rfl hl.1 rfl (lv_room (Nat.le_of_ble_eq_true rfl)) dX2_acceptsColour_15 ⟨Nat.zero_le _, Nat.zero_le _⟩) hS (fun H locs hP hS => ?_)
  refine lv_if_eq (tgt := 32) hx hb dX2_acceptsColour_18 (by decide) (fun hc4 => ?_) (fun hc4 => ?_)
  · have hE := st_t hE hc4
    refine lv_iconst (v := 0) hx hb dX2_acceptsColour_32 (by decide) ?_
    replace hE := Option.some.inj hE
    have hq := Prod.mk.inj hE
    subst hQQ
    exact g_zret hx hb hr hlocks hP hS ((by decide : (0 : Int32) &&& 1 = 0).trans hq.1) hq.2 dX2_acceptsColour_33
  · have hE := st_f hE hc4
    refine lv_aload_n hx hb dX2_acceptsColour_21 rfl (lv_at hl 2 rfl) ?_
    obtain ⟨r5, hCr5, hE⟩ := st_bo hE
    refine g_callr (va_runV (As := []) (rest := []) ⟨hx, hb, hml, hown, hts⟩ (k_X2_latest hij hCr5) (cwV 0 hts (wz_V tw_2_42 tw_2_43 tw_2_44 tw_1_2 tw_2_45) rfl rfl rfl hdV_X2_latest ⟨Nat.le_of_ble_eq_true rfl, Nat.le_of_ble_eq_true rfl⟩) (g_preV KC_st ZC_st hK hZ hP hS hK.1 ((q_Page_1 (ad := ad) (cI := cI) (cW := cW)).1).1 (ec_o (q_Page_1 (ad := ad) (cI := cI) (cW := cW)).1) rfl) rfl rfl hl.1 rfl (lv_room (Nat.le_of_ble_eq_true rfl)) dX2_acceptsColour_22 ⟨Nat.zero_le _, Nat.zero_le _⟩) hS (fun H locs hP hS => ?_)
    refine lv_iload_n hx hb dX2_acceptsColour_25 rfl (lv_at hl 0 rfl) ?_
    obtain ⟨r6, hCr6, hE⟩ := st_bo hE
    refine g_calli (va_runV (As := [.int v2]) (rest := []) ⟨hx, hb, hml, hown, hts⟩ (k_X7_hasSight hij (i_X2_latest (ad := ad) (cI := cI) (cW := cW) hCr5) hCr6) (cwV 1 hts (wz_V tw_2_63 tw_2_64 tw_2_65 tw_1_4 tw_2_66) rfl rfl rfl hdV_X7_hasSight ⟨Nat.le_of_ble_eq_true rfl, Nat.le_of_ble_eq_true rfl⟩) (g_preV KC_st ZC_st hK hZ hP hS hK.1 ((i_X2_latest (ad := ad) (cI := cI) (cW := cW) hCr5).1).1 (ec_o (i_X2_latest (ad := ad) (cI := cI) (cW := cW) hCr5).1) rfl) rfl rfl hl.1 rfl (lv_room (Nat.le_of_ble_eq_true rfl)) dX2_acceptsColour_26 ⟨Nat.zero_le _, Nat.zero_le _⟩) hS (fun H locs hP hS => ?_)
    refine lv_if_eq (tgt := 34) hx hb dX2_acceptsColour_29 (by decide) (fun hc7 => ?_) (fun hc7 => ?_)
    · have hE := st_t hE hc7
      refine lv_aload_n hx hb dX2_acceptsColour_34 rfl (lv_at hl 2 rfl) ?_
      obtain ⟨r8, hCr8, hE⟩ := st_bo hE
      refine g_callr (va_runV (As := []) (rest := []) ⟨hx, hb, hml, hown, hts⟩ (k_X2_latest hij hCr8) (cwV 0 hts (wz_V tw_2_42 tw_2_43 tw_2_44 tw_1_2 tw_2_45) rfl rfl rfl hdV_X2_latest ⟨Nat.le_of_ble_eq_true rfl, Nat.le_of_ble_eq_true rfl⟩) (g_preV KC_st ZC_st hK hZ hP hS hK.1 ((q_Page_1 (ad := ad) (cI := cI) (cW := cW)).1).1 (ec_o (q_Page_1 (ad := ad) (cI := cI) (cW := cW)).1) rfl) rfl rfl hl.1 rfl (lv_room (Nat.le_of_ble_eq_true rfl)) dX2_acceptsColour_35 ⟨Nat.zero_le _, Nat.zero_le _⟩) hS (fun H locs hP hS => ?_)
      refine lv_iload_n hx hb dX2_acceptsColour_38 rfl (lv_at hl 0 rfl) ?_
      obtain ⟨r9, hCr9, hE⟩ := st_bo hE
      refine g_callv (va_runV (As := [.int v2]) (rest := []) ⟨hx, hb, hml, hown, hts⟩ (k_X7_add hij (i_X2_latest (ad := ad) (cI := cI) (cW := cW) hCr8) hCr9) (cwV 1 hts (wz_V tw_2_67 tw_2_68 tw_2_69 tw_1_4 tw_2_70) rfl rfl rfl hdV_X7_add ⟨Nat.le_of_ble_eq_true rfl, Nat.le_of_ble_eq_true rfl⟩) (g_preV KC_st ZC_st hK hZ hP hS hK.1 ((i_X2_latest (ad := ad) (cI := cI) (cW := cW) hCr8).1).1 (ec_o (i_X2_latest (ad := ad) (cI := cI) (cW := cW) hCr8).1) rfl) rfl rfl hl.1 rfl (lv_room (Nat.le_of_ble_eq_true rfl)) dX2_acceptsColour_39 ⟨Nat.zero_le _, Nat.zero_le _⟩) hS (fun H locs hP hS => ?_)
      refine lv_aload_n hx hb dX2_acceptsColour_42 rfl (lv_at hl 2 rfl) ?_
      refine lv_iconst (v := 1) hx hb dX2_acceptsColour_43 (by decide) ?_
      refine c_put hij hx hb hts (fun w h => wz_m (inX2 w h)) tyX2 tyX2_ok nmX2 hown hK hP hS (q_Page_1 (ad := ad) (cI := cI) (cW := cW)).1 rfl 4 (by decide) (hts _ (wz_m tw_1_100)) (fun _ h9 => h9) rfl rfl rfl (fun _ => Nat.le_of_ble_eq_true rfl) (fun _ => rfl) dX2_acceptsColour_44 (fun H locs hP hS => ?_)
      obtain ⟨S10, eS10, hE⟩ := st_bv hE
      rw [← eS10] at hP
      refine lv_iconst (v := 1) hx hb dX2_acceptsColour_47 (by decide) ?_
      replace hE := Option.some.inj hE
      have hq := Prod.mk.inj hE
      subst hQQ
      exact g_zret hx hb hr hlocks hP hS ((by decide : (1 : Int32) &&& 1 = 1).trans hq.1) hq.2 dX2_acceptsColour_48
    · have hE := st_f hE hc7
      refine lv_iconst (v := 0) hx hb dX2_acceptsColour_32 (by decide) ?_
      replace hE := Option.some.inj hE
      have hq := Prod.mk.inj hE
      subst hQQ
      exact g_zret hx hb hr hlocks hP hS ((by decide : (0 : Int32) &&& 1 = 0).trans hq.1) hq.2 dX2_acceptsColour_33
def f_X0_add (k : Nat) (S0 : (Nat → Nat → Int32)) (a1 : Int32) (a2 : Int32) : Option ((Nat → Nat → Int32)) :=
  if 4 ≤ (S0 k 2) then (some S0) else (gd (inb (S0 k 2) 4) (bv (up2 S0 (k + 1) ((S0 k 2).toNatClampNeg) a1) (fun S3 => gd (inb (S3 k 2) 4) (bv (up2 S3 (k + 2) ((S3 k 2).toNatClampNeg) a2) (fun S5 => bv (up2 S5 k 2 ((S5 k 2) + 1)) (fun S6 => some S6))))))
abbrev rmX0_add : Room := { frames := 0, cells := 0, slots := 0, locals := 0 }
theorem hdV_X0_add : yX0_add.cls = "WitnessWall$Cases" ∧ yX0_add.cls ≠ "java/lang/invoke/MethodHandle" ∧ yX0_add.cls ≠ "java/lang/invoke/VarHandle" ∧ (parseMethodDescriptor yX0_add.desc).map (fun d => d.parameters.length) = some 2 := by decide +kernel
set_option maxHeartbeats 4000000 in
set_option maxRecDepth 100000 in
theorem k_X0_add {l : Launch} {D : va_G} {ad : Nat → Nat} {cI cW : ClassId} {tK tC : Nat} (hij : inj 83 ad) {k : Nat} (h0 : iCases ad cI cW k) {S0 : (Nat → Nat → Int32)} {a1 : Int32} {a2 : Int32} {Sr : (Nat → Nat → Int32)} (hE : f_X0_add k S0 a1 a2 = some Sr) {sz : Nat} : Met l yX0_add (wz yX0_add cX0_add 3 none) rmX0_add (PG 83 ad (ec ad cI cW) D (KC D cI cW) (ZC tK tC) [.ref (ad k), .int a1, .int a2] S0 sz) (QGv 83 ad (ec ad cI cW) D Sr sz) 0 0 (AD 83 ad sz) := by
  unfold f_X0_add at hE
  refine g_start (cc := cX0_add) (maxL := 3) (ret := none) (Qc := fun sz => QGv 83 ad (ec ad cI cW) D Sr sz) (by decide) rfl (Nat.le_of_ble_eq_true rfl) ?_
  intro p e s m args below meth c H locs ls hx hb hr hts hown hlocks hml hK hZ hP hS hl
  replace hl : lv_has ls 3 [(0, .ref (ad k)), (1, .int a1), (2, .int a2)] := hl
  obtain ⟨QQ, hQQ⟩ : ∃ q, q = MQ below (QGv 83 ad (ec ad cI cW) D Sr s.heap.size) args s 0 0 (AD 83 ad s.heap.size) := ⟨_, rfl⟩
  rw [← hQQ]
  refine lv_aload_n hx hb dX0_add_0 rfl (lv_at hl 0 rfl) ?_
  refine c_get (v := .int (S0 k 2)) hx hb hts (fun w h => wz_m (inX0 w h)) hown hK hP h0.1 rfl 2 (by decide) (hts _ (wz_m tw_1_81)) (fun _ h9 => h9) rfl dX0_add_1 ?_
  refine lv_iconst (v := 4) hx hb dX0_add_4 (by decide) ?_
  refine lv_icmp_ge (tgt := 38) hx hb dX0_add_5 (by decide) (fun hc1 => ?_) (fun hc1 => ?_)
  · have hE := st_t hE hc1
    replace hE := Option.some.inj hE
    subst hQQ
    exact g_vret hx hb hr hlocks hP hS hE dX0_add_38
  · have hE := st_f hE hc1
    refine lv_aload_n hx hb dX0_add_8 rfl (lv_at hl 0 rfl) ?_
    refine c_get (v := .ref (ad (k + 1))) hx hb hts (fun w h => wz_m (inX0 w h)) hown hK hP h0.1 rfl 0 (by decide) (hts _ (wz_m tw_1_77)) (fun _ h9 => h9) rfl dX0_add_9 ?_
    refine lv_aload_n hx hb dX0_add_12 rfl (lv_at hl 0 rfl) ?_
    refine c_get (v := .int (S0 k 2)) hx hb hts (fun w h => wz_m (inX0 w h)) hown hK hP h0.1 rfl 2 (by decide) (hts _ (wz_m tw_1_81)) (fun _ h9 => h9) rfl dX0_add_13 ?_
    refine lv_iload_n hx hb dX0_add_16 rfl (lv_at hl 1 rfl) ?_
    obtain ⟨hi2, hE⟩ := st_gd hE
    refine c_iast hij hx hb hK hP hS h0.2.1 hi2 dX0_add_17 (fun H locs hP hS => ?_)
    obtain ⟨S3, eS3, hE⟩ := st_bv hE
    rw [← eS3] at hP
    refine lv_aload_n hx hb dX0_add_18 rfl (lv_at hl 0 rfl) ?_
    refine c_get (v := .ref (ad (k + 2))) hx hb hts (fun w h => wz_m (inX0 w h)) hown hK hP h0.1 rfl 1 (by decide) (hts _ (wz_m tw_1_79)) (fun _ h9 => h9) rfl dX0_add_19 ?_
    refine lv_aload_n hx hb dX0_add_22 rfl (lv_at hl 0 rfl) ?_
    refine c_get (v := .int (S3 k 2)) hx hb hts (fun w h => wz_m (inX0 w h)) hown hK hP h0.1 rfl 2 (by decide) (hts _ (wz_m tw_1_81)) (fun _ h9 => h9) rfl dX0_add_23 ?_
    refine lv_iload_n hx hb dX0_add_26 rfl (lv_at hl 2 rfl) ?_
    obtain ⟨hi4, hE⟩ := st_gd hE
    refine c_iast hij hx hb hK hP hS h0.2.2 hi4 dX0_add_27 (fun H locs hP hS => ?_)
    obtain ⟨S5, eS5, hE⟩ := st_bv hE
    rw [← eS5] at hP
    refine lv_aload_n hx hb dX0_add_28 rfl (lv_at hl 0 rfl) ?_
    refine lv_dup hx hb dX0_add_29 rfl ?_
    refine c_get (v := .int (S5 k 2)) hx hb hts (fun w h => wz_m (inX0 w h)) hown hK hP h0.1 rfl 2 (by decide) (hts _ (wz_m tw_1_81)) (fun _ h9 => h9) rfl dX0_add_30 ?_
    refine lv_iconst (v := 1) hx hb dX0_add_33 (by decide) ?_
    refine lv_iadd hx hb dX0_add_34 ?_
    refine c_put hij hx hb hts (fun w h => wz_m (inX0 w h)) tyX0 tyX0_ok nmX0 hown hK hP hS h0.1 rfl 2 (by decide) (hts _ (wz_m tw_1_81)) (fun _ h9 => h9) rfl rfl rfl (fun _ => Nat.le_of_ble_eq_true rfl) (fun _ => rfl) dX0_add_35 (fun H locs hP hS => ?_)
    obtain ⟨S6, eS6, hE⟩ := st_bv hE
    rw [← eS6] at hP
    replace hE := Option.some.inj hE
    subst hQQ
    exact g_vret hx hb hr hlocks hP hS hE dX0_add_38
def f_X2_acceptsDue (S0 : (Nat → Nat → Int32)) (a1 : Int32) : Option (Int32 × (Nat → Nat → Int32)) :=
  bv (a1 - 48) (fun (v1 : Int32) => bo (f_X9_isWithin v1 1 6) (fun (r2 : Int32) => if r2 = 0 then (some (0, S0)) else (bo (f_X0_add 16 S0 (S0 1 5) v1) (fun (r4 : (Nat → Nat → Int32)) => bv (up2 r4 1 4 6) (fun S5 => some (1, S5))))))
abbrev rmX2_acceptsDue : Room := { frames := 1, cells := 0, slots := 0, locals := 22 }
theorem hdV_X2_acceptsDue : yX2_acceptsDue.cls = "WitnessWall$Page" ∧ yX2_acceptsDue.cls ≠ "java/lang/invoke/MethodHandle" ∧ yX2_acceptsDue.cls ≠ "java/lang/invoke/VarHandle" ∧ (parseMethodDescriptor yX2_acceptsDue.desc).map (fun d => d.parameters.length) = some 1 := by decide +kernel
set_option maxHeartbeats 4000000 in
set_option maxRecDepth 100000 in
theorem k_X2_acceptsDue {l : Launch} {D : va_G} {ad : Nat → Nat} {cI cW : ClassId} {tK tC : Nat} (hij : inj 83 ad)  {S0 : (Nat → Nat → Int32)} {a1 : Int32} {r : Int32} {Sr : (Nat → Nat → Int32)} (hE : f_X2_acceptsDue S0 a1 = some (r, Sr)) {sz : Nat} : Met l yX2_acceptsDue (wz yX2_acceptsDue cX2_acceptsDue 3 (some FieldType.boolean)) rmX2_acceptsDue (PG 83 ad (ec ad cI cW) D (KC D cI cW) (ZC tK tC) [.ref (ad 1), .int a1] S0 sz) (QGi 83 ad (ec ad cI cW) D r Sr sz) 0 0 (AD 83 ad sz) := by
  unfold f_X2_acceptsDue at hE
  refine g_start (cc := cX2_acceptsDue) (maxL := 3) (ret := (some FieldType.boolean)) (Qc := fun sz => QGi 83 ad (ec ad cI cW) D r Sr sz) (by decide) rfl (Nat.le_of_ble_eq_true rfl) ?_
  intro p e s m args below meth c H locs ls hx hb hr hts hown hlocks hml hK hZ hP hS hl
  replace hl : lv_has ls 3 [(0, .ref (ad 1)), (1, .int a1)] := hl
  obtain ⟨QQ, hQQ⟩ : ∃ q, q = MQ below (QGi 83 ad (ec ad cI cW) D r Sr s.heap.size) args s 0 0 (AD 83 ad s.heap.size) := ⟨_, rfl⟩
  rw [← hQQ]
  refine lv_iload_n hx hb dX2_acceptsDue_0 rfl (lv_at hl 1 rfl) ?_
  refine lv_bipush (v := 48) hx hb dX2_acceptsDue_1 (by decide) ?_
  refine lv_isub hx hb dX2_acceptsDue_3 ?_
  obtain ⟨v1, ev1, hE⟩ := st_bv hE
  refine nm_i ev1 ?_
  refine lv_istore_n (lv' := [(2, .int v1), (0, .ref (ad 1)), (1, .int a1)]) hx hb dX2_acceptsDue_4 rfl hl (by decide) rfl (fun ls hl => ?_)
  refine lv_iload_n hx hb dX2_acceptsDue_5 rfl (lv_at hl 0 rfl) ?_
  refine lv_iconst (v := 1) hx hb dX2_acceptsDue_6 (by decide) ?_
  refine lv_bipush (v := 6) hx hb dX2_acceptsDue_7 (by decide) ?_
  obtain ⟨r2, hCr2, hE⟩ := st_bo hE
  refine g_calli (va_runSN (As := [.int v1, .int 1, .int 6]) (rest := []) ⟨hx, hb, hml, hown, hts⟩ (k_X9_isWithin hij (S0 := S0) hCr2) ⟨va_cnB 3 hts (wz_good tw_2_3) rfl rfl rfl (hK.2 _ (List.mem_of_getElem? (i := 38) rfl)) (hts _ (wz_m tw_1_1)) hdS_X9_isWithin ⟨Nat.le_of_ble_eq_true rfl, Nat.le_of_ble_eq_true rfl⟩, hts _ (wz_m tw_2_2), trivial⟩ (g_preS KC_st ZC_st hK hZ hP hS) rfl rfl hl.1 rfl (lv_room (Nat.le_of_ble_eq_true rfl)) dX2_acceptsDue_9 ⟨Nat.zero_le _, Nat.zero_le _⟩) hS (fun H locs hP hS => ?_)
  refine lv_if_ne (tgt := 17) hx hb dX2_acceptsDue_12 (by decide) (fun hc3 => ?_) (fun hc3 => ?_)
  · have hE := st_f hE hc3
    refine lv_aload_n hx hb dX2_acceptsDue_17 rfl (lv_at hl 1 rfl) ?_
    refine c_get (v := .ref (ad 16)) hx hb hts (fun w h => wz_m (inX2 w h)) hown hK hP (q_Page_1 (ad := ad) (cI := cI) (cW := cW)).1 rfl 2 (by decide) (hts _ (wz_m tw_1_96)) (fun _ h9 => h9) rfl dX2_acceptsDue_18 ?_
    refine lv_aload_n hx hb dX2_acceptsDue_21 rfl (lv_at hl 1 rfl) ?_
    refine c_get (v := .int (S0 1 5)) hx hb hts (fun w h => wz_m (inX2 w h)) hown hK hP (q_Page_1 (ad := ad) (cI := cI) (cW := cW)).1 rfl 5 (by decide) (hts _ (wz_m tw_1_101)) (fun _ h9 => h9) rfl dX2_acceptsDue_22 ?_
    refine lv_iload_n hx hb dX2_acceptsDue_25 rfl (lv_at hl 0 rfl) ?_
    obtain ⟨r4, hCr4, hE⟩ := st_bo hE
    refine g_callv (va_runV (As := [.int (S0 1 5), .int v1]) (rest := []) ⟨hx, hb, hml, hown, hts⟩ (k_X0_add hij (q_Cases_16 (ad := ad) (cI := cI) (cW := cW)) hCr4) (cwV 2 hts (wz_V tw_2_80 tw_2_81 tw_2_82 tw_1_5 tw_2_83) rfl rfl rfl hdV_X0_add ⟨Nat.le_of_ble_eq_true rfl, Nat.le_of_ble_eq_true rfl⟩) (g_preV KC_st ZC_st hK hZ hP hS hK.1 ((q_Cases_16 (ad := ad) (cI := cI) (cW := cW)).1).1 (ec_o (q_Cases_16 (ad := ad) (cI := cI) (cW := cW)).1) rfl) rfl rfl hl.1 rfl (lv_room (Nat.le_of_ble_eq_true rfl)) dX2_acceptsDue_26 ⟨Nat.zero_le _, Nat.zero_le _⟩) hS (fun H locs hP hS => ?_)
    refine lv_aload_n hx hb dX2_acceptsDue_29 rfl (lv_at hl 1 rfl) ?_
    refine lv_bipush (v := 6) hx hb dX2_acceptsDue_30 (by decide) ?_
    refine c_put hij hx hb hts (fun w h => wz_m (inX2 w h)) tyX2 tyX2_ok nmX2 hown hK hP hS (q_Page_1 (ad := ad) (cI := cI) (cW := cW)).1 rfl 4 (by decide) (hts _ (wz_m tw_1_100)) (fun _ h9 => h9) rfl rfl rfl (fun _ => Nat.le_of_ble_eq_true rfl) (fun _ => rfl) dX2_acceptsDue_32 (fun H locs hP hS => ?_)
    obtain ⟨S5, eS5, hE⟩ := st_bv hE
    rw [← eS5] at hP
    refine lv_iconst (v := 1) hx hb dX2_acceptsDue_35 (by decide) ?_
    replace hE := Option.some.inj hE
    have hq := Prod.mk.inj hE
    subst hQQ
    exact g_zret hx hb hr hlocks hP hS ((by decide : (1 : Int32) &&& 1 = 1).trans hq.1) hq.2 dX2_acceptsDue_36
  · have hE := st_t hE hc3
    refine lv_iconst (v := 0) hx hb dX2_acceptsDue_15 (by decide) ?_
    replace hE := Option.some.inj hE
    have hq := Prod.mk.inj hE
    subst hQQ
    exact g_zret hx hb hr hlocks hP hS ((by decide : (0 : Int32) &&& 1 = 0).trans hq.1) hq.2 dX2_acceptsDue_16
def f_X2_acceptsBehindCase (S0 : (Nat → Nat → Int32)) (a1 : Int32) : Option (Int32 × (Nat → Nat → Int32)) :=
  if a1 = 44 then (if (S0 16 2) < 4 then (bv (up2 S0 1 4 4) (fun S3 => some (1, S3))) else (some (0, S0))) else (some (0, S0))
abbrev rmX2_acceptsBehindCase : Room := { frames := 0, cells := 0, slots := 0, locals := 0 }
theorem hdV_X2_acceptsBehindCase : yX2_acceptsBehindCase.cls = "WitnessWall$Page" ∧ yX2_acceptsBehindCase.cls ≠ "java/lang/invoke/MethodHandle" ∧ yX2_acceptsBehindCase.cls ≠ "java/lang/invoke/VarHandle" ∧ (parseMethodDescriptor yX2_acceptsBehindCase.desc).map (fun d => d.parameters.length) = some 1 := by decide +kernel
set_option maxHeartbeats 4000000 in
set_option maxRecDepth 100000 in
theorem k_X2_acceptsBehindCase {l : Launch} {D : va_G} {ad : Nat → Nat} {cI cW : ClassId} {tK tC : Nat} (hij : inj 83 ad)  {S0 : (Nat → Nat → Int32)} {a1 : Int32} {r : Int32} {Sr : (Nat → Nat → Int32)} (hE : f_X2_acceptsBehindCase S0 a1 = some (r, Sr)) {sz : Nat} : Met l yX2_acceptsBehindCase (wz yX2_acceptsBehindCase cX2_acceptsBehindCase 2 (some FieldType.boolean)) rmX2_acceptsBehindCase (PG 83 ad (ec ad cI cW) D (KC D cI cW) (ZC tK tC) [.ref (ad 1), .int a1] S0 sz) (QGi 83 ad (ec ad cI cW) D r Sr sz) 0 0 (AD 83 ad sz) := by
  unfold f_X2_acceptsBehindCase at hE
  refine g_start (cc := cX2_acceptsBehindCase) (maxL := 2) (ret := (some FieldType.boolean)) (Qc := fun sz => QGi 83 ad (ec ad cI cW) D r Sr sz) (by decide) rfl (Nat.le_of_ble_eq_true rfl) ?_
  intro p e s m args below meth c H locs ls hx hb hr hts hown hlocks hml hK hZ hP hS hl
  replace hl : lv_has ls 2 [(0, .ref (ad 1)), (1, .int a1)] := hl
  obtain ⟨QQ, hQQ⟩ : ∃ q, q = MQ below (QGi 83 ad (ec ad cI cW) D r Sr s.heap.size) args s 0 0 (AD 83 ad s.heap.size) := ⟨_, rfl⟩
  rw [← hQQ]
  refine lv_iload_n hx hb dX2_acceptsBehindCase_0 rfl (lv_at hl 1 rfl) ?_
  refine lv_bipush (v := 44) hx hb dX2_acceptsBehindCase_1 (by decide) ?_
  refine lv_icmp_ne (tgt := 17) hx hb dX2_acceptsBehindCase_3 (by decide) (fun hc1 => ?_) (fun hc1 => ?_)
  · have hE := st_f hE hc1
    refine lv_iconst (v := 0) hx hb dX2_acceptsBehindCase_17 (by decide) ?_
    replace hE := Option.some.inj hE
    have hq := Prod.mk.inj hE
    subst hQQ
    exact g_zret hx hb hr hlocks hP hS ((by decide : (0 : Int32) &&& 1 = 0).trans hq.1) hq.2 dX2_acceptsBehindCase_18
  · have hE := st_t hE hc1
    refine lv_aload_n hx hb dX2_acceptsBehindCase_6 rfl (lv_at hl 0 rfl) ?_
    refine c_get (v := .ref (ad 16)) hx hb hts (fun w h => wz_m (inX2 w h)) hown hK hP (q_Page_1 (ad := ad) (cI := cI) (cW := cW)).1 rfl 2 (by decide) (hts _ (wz_m tw_1_96)) (fun _ h9 => h9) rfl dX2_acceptsBehindCase_7 ?_
    refine c_getN (v := .int (S0 16 2)) hx hb hts (fun w h => wz_m (inX0 w h)) hown hK hP (q_Cases_16 (ad := ad) (cI := cI) (cW := cW)).1 rfl 2 (by decide) (List.mem_of_getElem? (i := 15) rfl) (fun _ h9 => h9) rfl dX2_acceptsBehindCase_10 ?_
    refine lv_iconst (v := 4) hx hb dX2_acceptsBehindCase_13 (by decide) ?_
    refine lv_icmp_lt (tgt := 19) hx hb dX2_acceptsBehindCase_14 (by decide) (fun hc2 => ?_) (fun hc2 => ?_)
    · have hE := st_t hE hc2
      refine lv_aload_n hx hb dX2_acceptsBehindCase_19 rfl (lv_at hl 0 rfl) ?_
      refine lv_iconst (v := 4) hx hb dX2_acceptsBehindCase_20 (by decide) ?_
      refine c_put hij hx hb hts (fun w h => wz_m (inX2 w h)) tyX2 tyX2_ok nmX2 hown hK hP hS (q_Page_1 (ad := ad) (cI := cI) (cW := cW)).1 rfl 4 (by decide) (hts _ (wz_m tw_1_100)) (fun _ h9 => h9) rfl rfl rfl (fun _ => Nat.le_of_ble_eq_true rfl) (fun _ => rfl) dX2_acceptsBehindCase_21 (fun H locs hP hS => ?_)
      obtain ⟨S3, eS3, hE⟩ := st_bv hE
      rw [← eS3] at hP
      refine lv_iconst (v := 1) hx hb dX2_acceptsBehindCase_24 (by decide) ?_
      replace hE := Option.some.inj hE
      have hq := Prod.mk.inj hE
      subst hQQ
      exact g_zret hx hb hr hlocks hP hS ((by decide : (1 : Int32) &&& 1 = 1).trans hq.1) hq.2 dX2_acceptsBehindCase_25
    · have hE := st_f hE hc2
      refine lv_iconst (v := 0) hx hb dX2_acceptsBehindCase_17 (by decide) ?_
      replace hE := Option.some.inj hE
      have hq := Prod.mk.inj hE
      subst hQQ
      exact g_zret hx hb hr hlocks hP hS ((by decide : (0 : Int32) &&& 1 = 0).trans hq.1) hq.2 dX2_acceptsBehindCase_18

def b_X10_layBack_2 (c4 : Int32) (c5 : SR) : Option ((Int32 × SR) ⊕ (SR)) :=
  if 20 ≤ c4 then (some (.inr c5)) else (gd (inb c4 20) (gd (inb c4 20) (bv (ui c5 2 (c4.toNatClampNeg) (ri c5 18 (c4.toNatClampNeg))) (fun S9 => bv (c4 + 1) (fun (v10 : Int32) => some (.inl (v10, S9)))))))
def b_X10_layBack_28 (c14 : Int32) (c15 : SR) : Option ((Int32 × SR) ⊕ (SR)) :=
  if 5 ≤ c14 then (some (.inr c15)) else (gd (inb c14 5) (gd (inb c14 5) (bv (ui c15 3 (c14.toNatClampNeg) (ri c15 19 (c14.toNatClampNeg))) (fun S19 => bv (c14 + 1) (fun (v20 : Int32) => some (.inl (v20, S19)))))))
def f_X10_layBack (S0 : SR) : Option (SR) :=
  bo (lp (fun (s1 : Int32 × SR) => b_X10_layBack_2 s1.1 s1.2) 5000 (0, S0)) (fun (x2 : SR) => bo (lp (fun (s11 : Int32 × SR) => b_X10_layBack_28 s11.1 s11.2) 5000 (0, x2)) (fun (x12 : SR) => some x12))
abbrev rmX10_layBack : Room := { frames := 0, cells := 0, slots := 0, locals := 0 }
theorem hdV_X10_layBack : yX10_layBack.cls = "WitnessWallModel" ∧ yX10_layBack.cls ≠ "java/lang/invoke/MethodHandle" ∧ yX10_layBack.cls ≠ "java/lang/invoke/VarHandle" ∧ (parseMethodDescriptor yX10_layBack.desc).map (fun d => d.parameters.length) = some 0 := by decide +kernel
set_option maxHeartbeats 4000000 in
set_option maxRecDepth 100000 in
theorem k_X10_layBack {l : Launch} {D : va_G} {ad : Nat → Nat} {cI cB : ClassId} (hij : inj 31 ad)  {S0 : SR} {Sr : SR} (hE : f_X10_layBack S0 = some Sr) {sz : Nat} : Met l yX10_layBack (wz yX10_layBack cX10_layBack 2 none) rmX10_layBack (PG 31 ad (er ad cI cB) D (KR D cI cB) ZR [.ref (ad 0)] S0 sz) (QGv 31 ad (er ad cI cB) D Sr sz) 0 0 (AD 31 ad sz) := by
  unfold f_X10_layBack at hE
  refine g_start (cc := cX10_layBack) (maxL := 2) (ret := none) (Qc := fun sz => QGv 31 ad (er ad cI cB) D Sr sz) (by decide) rfl (Nat.le_of_ble_eq_true rfl) ?_
  intro p e s m args below meth c H locs ls hx hb hr hts hown hlocks hml hK hZ hP hS hl
  replace hl : lv_has ls 2 [(0, .ref (ad 0))] := hl
  obtain ⟨QQ, hQQ⟩ : ∃ q, q = MQ below (QGv 31 ad (er ad cI cB) D Sr s.heap.size) args s 0 0 (AD 31 ad s.heap.size) := ⟨_, rfl⟩
  rw [← hQQ]
  refine lv_iconst (v := 0) hx hb dX10_layBack_0 (by decide) ?_
  refine lv_istore_n (lv' := [(1, .int 0), (0, .ref (ad 0))]) hx hb dX10_layBack_1 rfl hl (by decide) rfl (fun ls hl => ?_)
  obtain ⟨x2, hx2, hE⟩ := st_bo hE
  refine lp_walk (body := fun (s1 : Int32 × SR) => b_X10_layBack_2 s1.1 s1.2) (fun s1 => ∀ (ls : Array Slot) (H : Heap) (locs : List Loc), lv_has ls 2 [(0, .ref (ad 0)), (1, .int s1.1)] → rP D ad cI cB s1.2 H → rS ad s H locs → W p l e rmX10_layBack s m args below meth c H locs 0 0 QQ (F0 m 2 ls [])) (fun x2 => ∀ (ls : Array Slot) (H : Heap) (locs : List Loc), lv_has ls 2 [(0, .ref (ad 0))] → rP D ad cI cB x2 H → rS ad s H locs → W p l e rmX10_layBack s m args below meth c H locs 0 0 QQ (F0 m 26 ls [])) ?_ _ _ _ hx2 ?_ ls H locs (lv_sub hl [1, 0] rfl) hP hS
  · intro s1 t3 hE hKt3 ls H locs hl hP hS
    obtain ⟨c4, c5⟩ := s1
    replace hE : b_X10_layBack_2 c4 c5 = some t3 := hE
    replace hl : lv_has ls 2 [(0, .ref (ad 0)), (1, .int c4)] := hl
    replace hP : rP D ad cI cB c5 H := hP
    unfold b_X10_layBack_2 at hE
    refine lv_iload_n hx hb dX10_layBack_2 rfl (lv_at hl 1 rfl) ?_
    refine lv_bipush (v := 20) hx hb dX10_layBack_3 (by decide) ?_
    refine lv_icmp_ge (tgt := 26) hx hb dX10_layBack_5 (by decide) (fun hc6 => ?_) (fun hc6 => ?_)
    · have hE := st_t hE hc6
      have hq := Option.some.inj hE
      subst hq
      exact hKt3 ls H locs (lv_sub hl [0] rfl) hP hS
    · have hE := st_f hE hc6
      refine lv_aload_n hx hb dX10_layBack_8 rfl (lv_at hl 0 rfl) ?_
      refine r_get (v := .ref (ad 2)) hx hb hts (fun w h => wz_m (inX10 w h)) hown hK hP (q_Ref (ad := ad) (cI := cI) (cB := cB)) rfl 3 (by decide) (hts _ (wz_m tw_3_159)) (fun _ h9 => h9) rfl dX10_layBack_9 ?_
      refine lv_iload_n hx hb dX10_layBack_12 rfl (lv_at hl 1 rfl) ?_
      refine lv_aload_n hx hb dX10_layBack_13 rfl (lv_at hl 0 rfl) ?_
      refine r_get (v := .ref (ad 18)) hx hb hts (fun w h => wz_m (inX10 w h)) hown hK hP (q_Ref (ad := ad) (cI := cI) (cB := cB)) rfl 28 (by decide) (hts _ (wz_m tw_3_184)) (fun _ h9 => h9) rfl dX10_layBack_14 ?_
      refine lv_iload_n hx hb dX10_layBack_17 rfl (lv_at hl 1 rfl) ?_
      obtain ⟨hi7, hE⟩ := st_gd hE
      refine r_iald hx hb hK hP qr_18 hi7 dX10_layBack_18 ?_
      obtain ⟨hi8, hE⟩ := st_gd hE
      refine r_iast hij hx hb hK hP hS qr_2 hi8 dX10_layBack_19 (fun H locs hP hS => ?_)
      obtain ⟨S9, eS9, hE⟩ := st_bv hE
      rw [← eS9] at hP
      obtain ⟨v10, ev10, hE⟩ := st_bv hE
      refine lv_iinc (v := v10) (lv' := [(1, .int v10), (0, .ref (ad 0))]) hx hb dX10_layBack_20 hl (k := 1) rfl (by rw [ev10]; rfl) (by decide) rfl (fun ls hl => ?_)
      refine lv_goto (tgt := 2) hx hb dX10_layBack_23 (by decide) ?_
      have hq := Option.some.inj hE
      subst hq
      exact hKt3 ls H locs (lv_sub hl [1, 0] rfl) hP hS
  · intro ls H locs hl hP hS
    refine lv_iconst (v := 0) hx hb dX10_layBack_26 (by decide) ?_
    refine lv_istore_n (lv' := [(1, .int 0), (0, .ref (ad 0))]) hx hb dX10_layBack_27 rfl hl (by decide) rfl (fun ls hl => ?_)
    obtain ⟨x12, hx12, hE⟩ := st_bo hE
    refine lp_walk (body := fun (s11 : Int32 × SR) => b_X10_layBack_28 s11.1 s11.2) (fun s11 => ∀ (ls : Array Slot) (H : Heap) (locs : List Loc), lv_has ls 2 [(0, .ref (ad 0)), (1, .int s11.1)] → rP D ad cI cB s11.2 H → rS ad s H locs → W p l e rmX10_layBack s m args below meth c H locs 0 0 QQ (F0 m 28 ls [])) (fun x12 => ∀ (ls : Array Slot) (H : Heap) (locs : List Loc), lv_has ls 2 [] → rP D ad cI cB x12 H → rS ad s H locs → W p l e rmX10_layBack s m args below meth c H locs 0 0 QQ (F0 m 51 ls [])) ?_ _ _ _ hx12 ?_ ls H locs (lv_sub hl [1, 0] rfl) hP hS
    · intro s11 t13 hE hKt13 ls H locs hl hP hS
      obtain ⟨c14, c15⟩ := s11
      replace hE : b_X10_layBack_28 c14 c15 = some t13 := hE
      replace hl : lv_has ls 2 [(0, .ref (ad 0)), (1, .int c14)] := hl
      replace hP : rP D ad cI cB c15 H := hP
      unfold b_X10_layBack_28 at hE
      refine lv_iload_n hx hb dX10_layBack_28 rfl (lv_at hl 1 rfl) ?_
      refine lv_iconst (v := 5) hx hb dX10_layBack_29 (by decide) ?_
      refine lv_icmp_ge (tgt := 51) hx hb dX10_layBack_30 (by decide) (fun hc16 => ?_) (fun hc16 => ?_)
      · have hE := st_t hE hc16
        have hq := Option.some.inj hE
        subst hq
        exact hKt13 ls H locs (lv_sub hl [] rfl) hP hS
      · have hE := st_f hE hc16
        refine lv_aload_n hx hb dX10_layBack_33 rfl (lv_at hl 0 rfl) ?_
        refine r_get (v := .ref (ad 3)) hx hb hts (fun w h => wz_m (inX10 w h)) hown hK hP (q_Ref (ad := ad) (cI := cI) (cB := cB)) rfl 4 (by decide) (hts _ (wz_m tw_3_160)) (fun _ h9 => h9) rfl dX10_layBack_34 ?_
        refine lv_iload_n hx hb dX10_layBack_37 rfl (lv_at hl 1 rfl) ?_
        refine lv_aload_n hx hb dX10_layBack_38 rfl (lv_at hl 0 rfl) ?_
        refine r_get (v := .ref (ad 19)) hx hb hts (fun w h => wz_m (inX10 w h)) hown hK hP (q_Ref (ad := ad) (cI := cI) (cB := cB)) rfl 29 (by decide) (hts _ (wz_m tw_3_185)) (fun _ h9 => h9) rfl dX10_layBack_39 ?_
        refine lv_iload_n hx hb dX10_layBack_42 rfl (lv_at hl 1 rfl) ?_
        obtain ⟨hi17, hE⟩ := st_gd hE
        refine r_iald hx hb hK hP qr_19 hi17 dX10_layBack_43 ?_
        obtain ⟨hi18, hE⟩ := st_gd hE
        refine r_iast hij hx hb hK hP hS qr_3 hi18 dX10_layBack_44 (fun H locs hP hS => ?_)
        obtain ⟨S19, eS19, hE⟩ := st_bv hE
        rw [← eS19] at hP
        obtain ⟨v20, ev20, hE⟩ := st_bv hE
        refine lv_iinc (v := v20) (lv' := [(1, .int v20), (0, .ref (ad 0))]) hx hb dX10_layBack_45 hl (k := 1) rfl (by rw [ev20]; rfl) (by decide) rfl (fun ls hl => ?_)
        refine lv_goto (tgt := 28) hx hb dX10_layBack_48 (by decide) ?_
        have hq := Option.some.inj hE
        subst hq
        exact hKt13 ls H locs (lv_sub hl [1, 0] rfl) hP hS
    · intro ls H locs hl hP hS
      replace hE := Option.some.inj hE
      subst hQQ
      exact g_vret hx hb hr hlocks hP hS hE dX10_layBack_51
def b_X10_layTerm_21 (c5 : Int32) (c13 : Int32) (c14 : SR) : Option ((Int32 × SR) ⊕ (SR)) :=
  if (ri c14 0 5) ≤ c13 then (some (.inr c14)) else (gd (inb c13 4) (bo (if (ri c14 5 (c13.toNatClampNeg)) < c5 then (some 0) else (bo (f_X10_everybody c14) (fun (r20 : Int32) => gd (inb c13 4) (bo (f_X10_saidBy c14 r20 (ri c14 4 (c13.toNatClampNeg))) (fun (r22 : Int32) => if r22 = (-1) then (some 0) else (some 1)))))) (fun (q17 : Int32) => gd (inb c5 7) (if q17 = 0 then (gd (inb c5 7) (bv (ui c14 20 (c5.toNatClampNeg) ((ri c14 20 (c5.toNatClampNeg)) ||| 0)) (fun S27 => bv (c13 + 1) (fun (v28 : Int32) => some (.inl (v28, S27)))))) else (gd (inb c5 7) (bv (ui c14 20 (c5.toNatClampNeg) ((ri c14 20 (c5.toNatClampNeg)) ||| ((1 : Int32) <<< (c13 &&& 31)))) (fun S30 => bv (c13 + 1) (fun (v31 : Int32) => some (.inl (v31, S30))))))))))
def b_X10_layTerm_91 (c5 : Int32) (c35 : Int32) (c36 : SR) : Option ((Int32 × SR) ⊕ (SR)) :=
  if (ri c36 0 8) ≤ c35 then (some (.inr c36)) else (gd (inb c35 6) (if (ri c36 6 (c35.toNatClampNeg)) = c5 then (gd (inb c35 6) (gd (inb c35 6) (bo (f_X10_showNow c36 (ri c36 7 (c35.toNatClampNeg)) (ri c36 8 (c35.toNatClampNeg))) (fun (r43 : Int32 × SR) => bv (c35 + 1) (fun (v44 : Int32) => some (.inl (v44, r43.2))))))) else (bv (c35 + 1) (fun (v40 : Int32) => some (.inl (v40, c36))))))
def b_X10_layTerm_6 (c5 : Int32) (c6 : SR) : Option ((Int32 × SR) ⊕ (SR)) :=
  if 6 < c5 then (some (.inr c6)) else (gd (inb c5 7) (bv (ui c6 20 (c5.toNatClampNeg) 0) (fun S9 => bo (lp (fun (s10 : Int32 × SR) => b_X10_layTerm_21 c5 s10.1 s10.2) 5000 (0, S9)) (fun (x11 : SR) => bo (lp (fun (s32 : Int32 × SR) => b_X10_layTerm_91 c5 s32.1 s32.2) 5000 (0, x11)) (fun (x33 : SR) => bv (c5 + 1) (fun (v45 : Int32) => some (.inl (v45, x33))))))))
def f_X10_layTerm (S0 : SR) : Option (SR) :=
  bo (f_X10_lay S0) (fun (r1 : SR) => bo (lp (fun (s2 : Int32 × SR) => b_X10_layTerm_6 s2.1 s2.2) 5000 (1, r1)) (fun (x3 : SR) => bo (f_X10_layBack x3) (fun (r46 : SR) => some r46)))
abbrev rmX10_layTerm : Room := { frames := 3, cells := 0, slots := 0, locals := 70 }
theorem hdV_X10_layTerm : yX10_layTerm.cls = "WitnessWallModel" ∧ yX10_layTerm.cls ≠ "java/lang/invoke/MethodHandle" ∧ yX10_layTerm.cls ≠ "java/lang/invoke/VarHandle" ∧ (parseMethodDescriptor yX10_layTerm.desc).map (fun d => d.parameters.length) = some 0 := by decide +kernel
set_option maxHeartbeats 4000000 in
set_option maxRecDepth 100000 in
theorem k_X10_layTerm {l : Launch} {D : va_G} {ad : Nat → Nat} {cI cB : ClassId} (hij : inj 31 ad)  {S0 : SR} {Sr : SR} (hE : f_X10_layTerm S0 = some Sr) {sz : Nat} : Met l yX10_layTerm (wz yX10_layTerm cX10_layTerm 4 none) rmX10_layTerm (PG 31 ad (er ad cI cB) D (KR D cI cB) ZR [.ref (ad 0)] S0 sz) (QGv 31 ad (er ad cI cB) D Sr sz) 0 0 (AD 31 ad sz) := by
  unfold f_X10_layTerm at hE
  refine g_start (cc := cX10_layTerm) (maxL := 4) (ret := none) (Qc := fun sz => QGv 31 ad (er ad cI cB) D Sr sz) (by decide) rfl (Nat.le_of_ble_eq_true rfl) ?_
  intro p e s m args below meth c H locs ls hx hb hr hts hown hlocks hml hK hZ hP hS hl
  replace hl : lv_has ls 4 [(0, .ref (ad 0))] := hl
  obtain ⟨QQ, hQQ⟩ : ∃ q, q = MQ below (QGv 31 ad (er ad cI cB) D Sr s.heap.size) args s 0 0 (AD 31 ad s.heap.size) := ⟨_, rfl⟩
  rw [← hQQ]
  refine lv_aload_n hx hb dX10_layTerm_0 rfl (lv_at hl 0 rfl) ?_
  obtain ⟨r1, hCr1, hE⟩ := st_bo hE
  refine g_callv (va_runV (As := []) (rest := []) ⟨hx, hb, hml, hown, hts⟩ (k_X10_lay hij hCr1) (cwV 0 hts (wz_V tw_4_235 tw_4_237 tp_25 tw_1_11 tw_4_238) rfl rfl rfl hdV_X10_lay ⟨Nat.le_of_ble_eq_true rfl, Nat.le_of_ble_eq_true rfl⟩) (g_preV KR_st ZR_st hK hZ hP hS hK.1 ((q_Ref (ad := ad) (cI := cI) (cB := cB))).1 (er_o (q_Ref (ad := ad) (cI := cI) (cB := cB))) rfl) rfl rfl hl.1 rfl (lv_room (Nat.le_of_ble_eq_true rfl)) dX10_layTerm_1 ⟨Nat.zero_le _, Nat.zero_le _⟩) hS (fun H locs hP hS => ?_)
  refine lv_iconst (v := 1) hx hb dX10_layTerm_4 (by decide) ?_
  refine lv_istore_n (lv' := [(1, .int 1), (0, .ref (ad 0))]) hx hb dX10_layTerm_5 rfl hl (by decide) rfl (fun ls hl => ?_)
  obtain ⟨x3, hx3, hE⟩ := st_bo hE
  refine lp_walk (body := fun (s2 : Int32 × SR) => b_X10_layTerm_6 s2.1 s2.2) (fun s2 => ∀ (ls : Array Slot) (H : Heap) (locs : List Loc), lv_has ls 4 [(0, .ref (ad 0)), (1, .int s2.1)] → rP D ad cI cB s2.2 H → rS ad s H locs → W p l e rmX10_layTerm s m args below meth c H locs 0 0 QQ (F0 m 6 ls [])) (fun x3 => ∀ (ls : Array Slot) (H : Heap) (locs : List Loc), lv_has ls 4 [(0, .ref (ad 0))] → rP D ad cI cB x3 H → rS ad s H locs → W p l e rmX10_layTerm s m args below meth c H locs 0 0 QQ (F0 m 138 ls [])) ?_ _ _ _ hx3 ?_ ls H locs (lv_sub hl [1, 0] rfl) hP hS
  · intro s2 t4 hE hKt4 ls H locs hl hP hS
    obtain ⟨c5, c6⟩ := s2
    replace hE : b_X10_layTerm_6 c5 c6 = some t4 := hE
    replace hl : lv_has ls 4 [(0, .ref (ad 0)), (1, .int c5)] := hl
    replace hP : rP D ad cI cB c6 H := hP
    unfold b_X10_layTerm_6 at hE
    refine lv_iload_n hx hb dX10_layTerm_6 rfl (lv_at hl 1 rfl) ?_
    refine lv_bipush (v := 6) hx hb dX10_layTerm_7 (by decide) ?_
    refine lv_icmp_gt (tgt := 138) hx hb dX10_layTerm_9 (by decide) (fun hc7 => ?_) (fun hc7 => ?_)
    · have hE := st_t hE hc7
      have hq := Option.some.inj hE
      subst hq
      exact hKt4 ls H locs (lv_sub hl [0] rfl) hP hS
    · have hE := st_f hE hc7
      refine lv_aload_n hx hb dX10_layTerm_12 rfl (lv_at hl 0 rfl) ?_
      refine r_get (v := .ref (ad 20)) hx hb hts (fun w h => wz_m (inX10 w h)) hown hK hP (q_Ref (ad := ad) (cI := cI) (cB := cB)) rfl 30 (by decide) (hts _ (wz_m tw_3_186)) (fun _ h9 => h9) rfl dX10_layTerm_13 ?_
      refine lv_iload_n hx hb dX10_layTerm_16 rfl (lv_at hl 1 rfl) ?_
      refine lv_iconst (v := 0) hx hb dX10_layTerm_17 (by decide) ?_
      obtain ⟨hi8, hE⟩ := st_gd hE
      refine r_iast hij hx hb hK hP hS qr_20 hi8 dX10_layTerm_18 (fun H locs hP hS => ?_)
      obtain ⟨S9, eS9, hE⟩ := st_bv hE
      rw [← eS9] at hP
      refine lv_iconst (v := 0) hx hb dX10_layTerm_19 (by decide) ?_
      refine lv_istore_n (lv' := [(2, .int 0), (0, .ref (ad 0)), (1, .int c5)]) hx hb dX10_layTerm_20 rfl hl (by decide) rfl (fun ls hl => ?_)
      obtain ⟨x11, hx11, hE⟩ := st_bo hE
      refine lp_walk (body := fun (s10 : Int32 × SR) => b_X10_layTerm_21 c5 s10.1 s10.2) (fun s10 => ∀ (ls : Array Slot) (H : Heap) (locs : List Loc), lv_has ls 4 [(0, .ref (ad 0)), (1, .int c5), (2, .int s10.1)] → rP D ad cI cB s10.2 H → rS ad s H locs → W p l e rmX10_layTerm s m args below meth c H locs 0 0 QQ (F0 m 21 ls [])) (fun x11 => ∀ (ls : Array Slot) (H : Heap) (locs : List Loc), lv_has ls 4 [(0, .ref (ad 0)), (1, .int c5)] → rP D ad cI cB x11 H → rS ad s H locs → W p l e rmX10_layTerm s m args below meth c H locs 0 0 QQ (F0 m 89 ls [])) ?_ _ _ _ hx11 ?_ ls H locs (lv_sub hl [1, 2, 0] rfl) hP hS
      · intro s10 t12 hE hKt12 ls H locs hl hP hS
        obtain ⟨c13, c14⟩ := s10
        replace hE : b_X10_layTerm_21 c5 c13 c14 = some t12 := hE
        replace hl : lv_has ls 4 [(0, .ref (ad 0)), (1, .int c5), (2, .int c13)] := hl
        replace hP : rP D ad cI cB c14 H := hP
        unfold b_X10_layTerm_21 at hE
        refine lv_iload_n hx hb dX10_layTerm_21 rfl (lv_at hl 2 rfl) ?_
        refine lv_aload_n hx hb dX10_layTerm_22 rfl (lv_at hl 0 rfl) ?_
        refine r_get (v := .int (ri c14 0 5)) hx hb hts (fun w h => wz_m (inX10 w h)) hown hK hP (q_Ref (ad := ad) (cI := cI) (cB := cB)) rfl 5 (by decide) (hts _ (wz_m tw_3_161)) (fun _ h9 => h9) rfl dX10_layTerm_23 ?_
        refine lv_icmp_ge (tgt := 89) hx hb dX10_layTerm_26 (by decide) (fun hc15 => ?_) (fun hc15 => ?_)
        · have hE := st_t hE hc15
          have hq := Option.some.inj hE
          subst hq
          exact hKt12 ls H locs (lv_sub hl [0, 1] rfl) hP hS
        · have hE := st_f hE hc15
          refine lv_aload_n hx hb dX10_layTerm_29 rfl (lv_at hl 0 rfl) ?_
          refine r_get (v := .ref (ad 5)) hx hb hts (fun w h => wz_m (inX10 w h)) hown hK hP (q_Ref (ad := ad) (cI := cI) (cB := cB)) rfl 7 (by decide) (hts _ (wz_m tw_3_163)) (fun _ h9 => h9) rfl dX10_layTerm_30 ?_
          refine lv_iload_n hx hb dX10_layTerm_33 rfl (lv_at hl 2 rfl) ?_
          obtain ⟨hi16, hE⟩ := st_gd hE
          refine r_iald hx hb hK hP qr_5 hi16 dX10_layTerm_34 ?_
          refine lv_iload_n hx hb dX10_layTerm_35 rfl (lv_at hl 1 rfl) ?_
          obtain ⟨q17, hq17, hE⟩ := st_bo hE
          have J18 : ∀ (ls : Array Slot) (H : Heap) (locs : List Loc), lv_has ls 4 [(0, .ref (ad 0)), (1, .int c5), (2, .int c13)] → rP D ad cI cB c14 H → rS ad s H locs → W p l e rmX10_layTerm s m args below meth c H locs 0 0 QQ (F0 m 62 ls [.int q17]) := by
            intro ls H locs hl hP hS
            refine lv_istore_n (lv' := [(3, .int q17), (0, .ref (ad 0)), (1, .int c5), (2, .int c13)]) hx hb dX10_layTerm_62 rfl hl (by decide) rfl (fun ls hl => ?_)
            refine lv_aload_n hx hb dX10_layTerm_63 rfl (lv_at hl 1 rfl) ?_
            refine r_get (v := .ref (ad 20)) hx hb hts (fun w h => wz_m (inX10 w h)) hown hK hP (q_Ref (ad := ad) (cI := cI) (cB := cB)) rfl 30 (by decide) (hts _ (wz_m tw_3_186)) (fun _ h9 => h9) rfl dX10_layTerm_64 ?_
            refine lv_iload_n hx hb dX10_layTerm_67 rfl (lv_at hl 2 rfl) ?_
            refine lv_dup2_11 hx hb dX10_layTerm_68 rfl rfl ?_
            obtain ⟨hi24, hE⟩ := st_gd hE
            refine r_iald hx hb hK hP qr_20 hi24 dX10_layTerm_69 ?_
            refine lv_iload_n hx hb dX10_layTerm_70 rfl (lv_at hl 0 rfl) ?_
            refine lv_if_eq (tgt := 80) hx hb dX10_layTerm_71 (by decide) (fun hc25 => ?_) (fun hc25 => ?_)
            · have hE := st_t hE hc25
              refine lv_iconst (v := 0) hx hb dX10_layTerm_80 (by decide) ?_
              refine lv_ior hx hb dX10_layTerm_81 ?_
              obtain ⟨hi26, hE⟩ := st_gd hE
              refine r_iast hij hx hb hK hP hS qr_20 hi26 dX10_layTerm_82 (fun H locs hP hS => ?_)
              obtain ⟨S27, eS27, hE⟩ := st_bv hE
              rw [← eS27] at hP
              obtain ⟨v28, ev28, hE⟩ := st_bv hE
              refine lv_iinc (v := v28) (lv' := [(2, .int v28), (3, .int q17), (0, .ref (ad 0)), (1, .int c5)]) hx hb dX10_layTerm_83 hl (k := 3) rfl (by rw [ev28]; rfl) (by decide) rfl (fun ls hl => ?_)
              refine lv_goto (tgt := 21) hx hb dX10_layTerm_86 (by decide) ?_
              have hq := Option.some.inj hE
              subst hq
              exact hKt12 ls H locs (lv_sub hl [2, 3, 0] rfl) hP hS
            · have hE := st_f hE hc25
              refine lv_iconst (v := 1) hx hb dX10_layTerm_74 (by decide) ?_
              refine lv_iload_n hx hb dX10_layTerm_75 rfl (lv_at hl 3 rfl) ?_
              refine lv_ishl hx hb dX10_layTerm_76 ?_
              refine lv_goto (tgt := 81) hx hb dX10_layTerm_77 (by decide) ?_
              refine lv_ior hx hb dX10_layTerm_81 ?_
              obtain ⟨hi29, hE⟩ := st_gd hE
              refine r_iast hij hx hb hK hP hS qr_20 hi29 dX10_layTerm_82 (fun H locs hP hS => ?_)
              obtain ⟨S30, eS30, hE⟩ := st_bv hE
              rw [← eS30] at hP
              obtain ⟨v31, ev31, hE⟩ := st_bv hE
              refine lv_iinc (v := v31) (lv' := [(2, .int v31), (3, .int q17), (0, .ref (ad 0)), (1, .int c5)]) hx hb dX10_layTerm_83 hl (k := 3) rfl (by rw [ev31]; rfl) (by decide) rfl (fun ls hl => ?_)
              refine lv_goto (tgt := 21) hx hb dX10_layTerm_86 (by decide) ?_
              have hq := Option.some.inj hE
              subst hq
              exact hKt12 ls H locs (lv_sub hl [2, 3, 0] rfl) hP hS
          replace hE := hq17
          refine lv_icmp_lt (tgt := 61) hx hb dX10_layTerm_36 (by decide) (fun hc19 => ?_) (fun hc19 => ?_)
          · have hE := st_t hE hc19
            refine lv_iconst (v := 0) hx hb dX10_layTerm_61 (by decide) ?_
            have hq := Option.some.inj hE
            subst hq
            exact J18 ls H locs (lv_sub hl [0, 1, 2] rfl) hP hS
          · have hE := st_f hE hc19
            refine lv_aload_n hx hb dX10_layTerm_39 rfl (lv_at hl 0 rfl) ?_
            refine lv_aload_n hx hb dX10_layTerm_40 rfl (lv_at hl 0 rfl) ?_
            obtain ⟨r20, hCr20, hE⟩ := st_bo hE
            refine g_calli (va_runV (As := []) (rest := [.ref (ad 0)]) ⟨hx, hb, hml, hown, hts⟩ (k_X10_everybody hij hCr20) (cwV 0 hts (wz_V tw_4_178 tw_4_180 tp_19 tw_1_11 tw_4_181) rfl rfl rfl hdV_X10_everybody ⟨Nat.le_of_ble_eq_true rfl, Nat.le_of_ble_eq_true rfl⟩) (g_preV KR_st ZR_st hK hZ hP hS hK.1 ((q_Ref (ad := ad) (cI := cI) (cB := cB))).1 (er_o (q_Ref (ad := ad) (cI := cI) (cB := cB))) rfl) rfl rfl hl.1 rfl (lv_room (Nat.le_of_ble_eq_true rfl)) dX10_layTerm_41 ⟨Nat.zero_le _, Nat.zero_le _⟩) hS (fun H locs hP hS => ?_)
            refine lv_aload_n hx hb dX10_layTerm_44 rfl (lv_at hl 0 rfl) ?_
            refine r_get (v := .ref (ad 4)) hx hb hts (fun w h => wz_m (inX10 w h)) hown hK hP (q_Ref (ad := ad) (cI := cI) (cB := cB)) rfl 6 (by decide) (hts _ (wz_m tw_3_162)) (fun _ h9 => h9) rfl dX10_layTerm_45 ?_
            refine lv_iload_n hx hb dX10_layTerm_48 rfl (lv_at hl 2 rfl) ?_
            obtain ⟨hi21, hE⟩ := st_gd hE
            refine r_iald hx hb hK hP qr_4 hi21 dX10_layTerm_49 ?_
            obtain ⟨r22, hCr22, hE⟩ := st_bo hE
            refine g_calli (va_runV (As := [.int r20, .int (ri c14 4 (c13.toNatClampNeg))]) (rest := []) ⟨hx, hb, hml, hown, hts⟩ (k_X10_saidBy hij hCr22) (cwV 2 hts (wz_V tw_4_182 tw_4_184 tp_20 tw_1_11 tw_4_185) rfl rfl rfl hdV_X10_saidBy ⟨Nat.le_of_ble_eq_true rfl, Nat.le_of_ble_eq_true rfl⟩) (g_preV KR_st ZR_st hK hZ hP hS hK.1 ((q_Ref (ad := ad) (cI := cI) (cB := cB))).1 (er_o (q_Ref (ad := ad) (cI := cI) (cB := cB))) rfl) rfl rfl hl.1 rfl (lv_room (Nat.le_of_ble_eq_true rfl)) dX10_layTerm_50 ⟨Nat.zero_le _, Nat.zero_le _⟩) hS (fun H locs hP hS => ?_)
            refine lv_iconst (v := (-1)) hx hb dX10_layTerm_53 (by decide) ?_
            refine lv_icmp_eq (tgt := 61) hx hb dX10_layTerm_54 (by decide) (fun hc23 => ?_) (fun hc23 => ?_)
            · have hE := st_t hE hc23
              refine lv_iconst (v := 0) hx hb dX10_layTerm_61 (by decide) ?_
              have hq := Option.some.inj hE
              subst hq
              exact J18 ls H locs (lv_sub hl [0, 1, 2] rfl) hP hS
            · have hE := st_f hE hc23
              refine lv_iconst (v := 1) hx hb dX10_layTerm_57 (by decide) ?_
              refine lv_goto (tgt := 62) hx hb dX10_layTerm_58 (by decide) ?_
              have hq := Option.some.inj hE
              subst hq
              exact J18 ls H locs (lv_sub hl [0, 1, 2] rfl) hP hS
      · intro ls H locs hl hP hS
        refine lv_iconst (v := 0) hx hb dX10_layTerm_89 (by decide) ?_
        refine lv_istore_n (lv' := [(2, .int 0), (0, .ref (ad 0)), (1, .int c5)]) hx hb dX10_layTerm_90 rfl hl (by decide) rfl (fun ls hl => ?_)
        obtain ⟨x33, hx33, hE⟩ := st_bo hE
        refine lp_walk (body := fun (s32 : Int32 × SR) => b_X10_layTerm_91 c5 s32.1 s32.2) (fun s32 => ∀ (ls : Array Slot) (H : Heap) (locs : List Loc), lv_has ls 4 [(0, .ref (ad 0)), (1, .int c5), (2, .int s32.1)] → rP D ad cI cB s32.2 H → rS ad s H locs → W p l e rmX10_layTerm s m args below meth c H locs 0 0 QQ (F0 m 91 ls [])) (fun x33 => ∀ (ls : Array Slot) (H : Heap) (locs : List Loc), lv_has ls 4 [(0, .ref (ad 0)), (1, .int c5)] → rP D ad cI cB x33 H → rS ad s H locs → W p l e rmX10_layTerm s m args below meth c H locs 0 0 QQ (F0 m 132 ls [])) ?_ _ _ _ hx33 ?_ ls H locs (lv_sub hl [1, 2, 0] rfl) hP hS
        · intro s32 t34 hE hKt34 ls H locs hl hP hS
          obtain ⟨c35, c36⟩ := s32
          replace hE : b_X10_layTerm_91 c5 c35 c36 = some t34 := hE
          replace hl : lv_has ls 4 [(0, .ref (ad 0)), (1, .int c5), (2, .int c35)] := hl
          replace hP : rP D ad cI cB c36 H := hP
          unfold b_X10_layTerm_91 at hE
          refine lv_iload_n hx hb dX10_layTerm_91 rfl (lv_at hl 2 rfl) ?_
          refine lv_aload_n hx hb dX10_layTerm_92 rfl (lv_at hl 0 rfl) ?_
          refine r_get (v := .int (ri c36 0 8)) hx hb hts (fun w h => wz_m (inX10 w h)) hown hK hP (q_Ref (ad := ad) (cI := cI) (cB := cB)) rfl 8 (by decide) (hts _ (wz_m tw_3_164)) (fun _ h9 => h9) rfl dX10_layTerm_93 ?_
          refine lv_icmp_ge (tgt := 132) hx hb dX10_layTerm_96 (by decide) (fun hc37 => ?_) (fun hc37 => ?_)
          · have hE := st_t hE hc37
            have hq := Option.some.inj hE
            subst hq
            exact hKt34 ls H locs (lv_sub hl [0, 1] rfl) hP hS
          · have hE := st_f hE hc37
            refine lv_aload_n hx hb dX10_layTerm_99 rfl (lv_at hl 0 rfl) ?_
            refine r_get (v := .ref (ad 6)) hx hb hts (fun w h => wz_m (inX10 w h)) hown hK hP (q_Ref (ad := ad) (cI := cI) (cB := cB)) rfl 9 (by decide) (hts _ (wz_m tw_3_165)) (fun _ h9 => h9) rfl dX10_layTerm_100 ?_
            refine lv_iload_n hx hb dX10_layTerm_103 rfl (lv_at hl 2 rfl) ?_
            obtain ⟨hi38, hE⟩ := st_gd hE
            refine r_iald hx hb hK hP qr_6 hi38 dX10_layTerm_104 ?_
            refine lv_iload_n hx hb dX10_layTerm_105 rfl (lv_at hl 1 rfl) ?_
            refine lv_icmp_ne (tgt := 126) hx hb dX10_layTerm_106 (by decide) (fun hc39 => ?_) (fun hc39 => ?_)
            · have hE := st_f hE hc39
              obtain ⟨v40, ev40, hE⟩ := st_bv hE
              refine lv_iinc (v := v40) (lv' := [(2, .int v40), (0, .ref (ad 0)), (1, .int c5)]) hx hb dX10_layTerm_126 hl (k := 2) rfl (by rw [ev40]; rfl) (by decide) rfl (fun ls hl => ?_)
              refine lv_goto (tgt := 91) hx hb dX10_layTerm_129 (by decide) ?_
              have hq := Option.some.inj hE
              subst hq
              exact hKt34 ls H locs (lv_sub hl [1, 2, 0] rfl) hP hS
            · have hE := st_t hE hc39
              refine lv_aload_n hx hb dX10_layTerm_109 rfl (lv_at hl 0 rfl) ?_
              refine lv_aload_n hx hb dX10_layTerm_110 rfl (lv_at hl 0 rfl) ?_
              refine r_get (v := .ref (ad 7)) hx hb hts (fun w h => wz_m (inX10 w h)) hown hK hP (q_Ref (ad := ad) (cI := cI) (cB := cB)) rfl 10 (by decide) (hts _ (wz_m tw_3_166)) (fun _ h9 => h9) rfl dX10_layTerm_111 ?_
              refine lv_iload_n hx hb dX10_layTerm_114 rfl (lv_at hl 2 rfl) ?_
              obtain ⟨hi41, hE⟩ := st_gd hE
              refine r_iald hx hb hK hP qr_7 hi41 dX10_layTerm_115 ?_
              refine lv_aload_n hx hb dX10_layTerm_116 rfl (lv_at hl 0 rfl) ?_
              refine r_get (v := .ref (ad 8)) hx hb hts (fun w h => wz_m (inX10 w h)) hown hK hP (q_Ref (ad := ad) (cI := cI) (cB := cB)) rfl 11 (by decide) (hts _ (wz_m tw_3_167)) (fun _ h9 => h9) rfl dX10_layTerm_117 ?_
              refine lv_iload_n hx hb dX10_layTerm_120 rfl (lv_at hl 2 rfl) ?_
              obtain ⟨hi42, hE⟩ := st_gd hE
              refine r_iald hx hb hK hP qr_8 hi42 dX10_layTerm_121 ?_
              obtain ⟨r43, hCr43, hE⟩ := st_bo hE
              refine g_calli (va_runV (As := [.int (ri c36 7 (c35.toNatClampNeg)), .int (ri c36 8 (c35.toNatClampNeg))]) (rest := []) ⟨hx, hb, hml, hown, hts⟩ (k_X10_showNow hij hCr43) (cwV 2 hts (wz_V tw_4_201 tw_4_203 tp_22 tw_1_11 tw_4_204) rfl rfl rfl hdV_X10_showNow ⟨Nat.le_of_ble_eq_true rfl, Nat.le_of_ble_eq_true rfl⟩) (g_preV KR_st ZR_st hK hZ hP hS hK.1 ((q_Ref (ad := ad) (cI := cI) (cB := cB))).1 (er_o (q_Ref (ad := ad) (cI := cI) (cB := cB))) rfl) rfl rfl hl.1 rfl (lv_room (Nat.le_of_ble_eq_true rfl)) dX10_layTerm_122 ⟨Nat.zero_le _, Nat.zero_le _⟩) hS (fun H locs hP hS => ?_)
              refine lv_pop hx hb dX10_layTerm_125 rfl ?_
              obtain ⟨v44, ev44, hE⟩ := st_bv hE
              refine lv_iinc (v := v44) (lv' := [(2, .int v44), (0, .ref (ad 0)), (1, .int c5)]) hx hb dX10_layTerm_126 hl (k := 2) rfl (by rw [ev44]; rfl) (by decide) rfl (fun ls hl => ?_)
              refine lv_goto (tgt := 91) hx hb dX10_layTerm_129 (by decide) ?_
              have hq := Option.some.inj hE
              subst hq
              exact hKt34 ls H locs (lv_sub hl [1, 2, 0] rfl) hP hS
        · intro ls H locs hl hP hS
          obtain ⟨v45, ev45, hE⟩ := st_bv hE
          refine lv_iinc (v := v45) (lv' := [(1, .int v45), (0, .ref (ad 0))]) hx hb dX10_layTerm_132 hl (k := 1) rfl (by rw [ev45]; rfl) (by decide) rfl (fun ls hl => ?_)
          refine lv_goto (tgt := 6) hx hb dX10_layTerm_135 (by decide) ?_
          have hq := Option.some.inj hE
          subst hq
          exact hKt4 ls H locs (lv_sub hl [1, 0] rfl) hP hS
  · intro ls H locs hl hP hS
    refine lv_aload_n hx hb dX10_layTerm_138 rfl (lv_at hl 0 rfl) ?_
    obtain ⟨r46, hCr46, hE⟩ := st_bo hE
    refine g_callv (va_runV (As := []) (rest := []) ⟨hx, hb, hml, hown, hts⟩ (k_X10_layBack hij hCr46) (cwV 0 hts (wz_V tw_4_239 tw_5_1 tp_26 tw_1_11 tw_5_2) rfl rfl rfl hdV_X10_layBack ⟨Nat.le_of_ble_eq_true rfl, Nat.le_of_ble_eq_true rfl⟩) (g_preV KR_st ZR_st hK hZ hP hS hK.1 ((q_Ref (ad := ad) (cI := cI) (cB := cB))).1 (er_o (q_Ref (ad := ad) (cI := cI) (cB := cB))) rfl) rfl rfl hl.1 rfl (lv_room (Nat.le_of_ble_eq_true rfl)) dX10_layTerm_139 ⟨Nat.zero_le _, Nat.zero_le _⟩) hS (fun H locs hP hS => ?_)
    replace hE := Option.some.inj hE
    subst hQQ
    exact g_vret hx hb hr hlocks hP hS hE dX10_layTerm_142
def b_X10_layMost_2 (c4 : Int32) (c5 : SR) : Option ((Int32 × SR) ⊕ (SR)) :=
  if 16 ≤ c4 then (some (.inr c5)) else (gd (inb (112 + c4) 128) (bv (ui c5 21 ((112 + c4).toNatClampNeg) 0) (fun S8 => bv (c4 + 1) (fun (v9 : Int32) => some (.inl (v9, S8))))))
def b_X10_layMost_56 (c13 : Int32) (c19 : Int32) (c20 : SR) (c27 : Int32) (c28 : Int32) : Option ((Int32 × Int32) ⊕ (Int32)) :=
  if (ri c20 0 5) ≤ c28 then (some (.inr c27)) else (gd (inb c13 7) (bo (f_X10_isIn ((ri c20 20 (c13.toNatClampNeg)) &&& (c19 ^^^ (-1))) c28) (fun (r31 : Int32) => bo (if r31 = 0 then (some 0) else (gd (inb ((16 * (c13 + 1)) + (c19 ||| ((1 : Int32) <<< (c28 &&& 31)))) 128) (some (1 + (ri c20 21 (((16 * (c13 + 1)) + (c19 ||| ((1 : Int32) <<< (c28 &&& 31)))).toNatClampNeg)))))) (fun (q32 : Int32) => if q32 ≤ c27 then (bv (c28 + 1) (fun (v37 : Int32) => some (.inl (c27, v37)))) else (bv (c28 + 1) (fun (v38 : Int32) => some (.inl (q32, v38))))))))
def b_X10_layMost_33 (c13 : Int32) (c19 : Int32) (c20 : SR) : Option ((Int32 × SR) ⊕ (SR)) :=
  if 16 ≤ c19 then (some (.inr c20)) else (gd (inb ((16 * (c13 + 1)) + c19) 128) (bv (ri c20 21 (((16 * (c13 + 1)) + c19).toNatClampNeg)) (fun (v23 : Int32) => bo (lp (fun (s24 : Int32 × Int32) => b_X10_layMost_56 c13 c19 c20 s24.1 s24.2) 5000 (v23, 0)) (fun (x25 : Int32) => gd (inb ((16 * c13) + c19) 128) (bv (ui c20 21 (((16 * c13) + c19).toNatClampNeg) x25) (fun S40 => bv (c19 + 1) (fun (v41 : Int32) => some (.inl (v41, S40)))))))))
def b_X10_layMost_27 (c13 : Int32) (c14 : SR) : Option ((Int32 × SR) ⊕ (SR)) :=
  if c13 ≤ 0 then (some (.inr c14)) else (bo (lp (fun (s16 : Int32 × SR) => b_X10_layMost_33 c13 s16.1 s16.2) 5000 (0, c14)) (fun (x17 : SR) => bv (c13 + (-1)) (fun (v42 : Int32) => some (.inl (v42, x17)))))
def f_X10_layMost (S0 : SR) : Option (SR) :=
  bo (lp (fun (s1 : Int32 × SR) => b_X10_layMost_2 s1.1 s1.2) 5000 (0, S0)) (fun (x2 : SR) => bo (lp (fun (s10 : Int32 × SR) => b_X10_layMost_27 s10.1 s10.2) 5000 (6, x2)) (fun (x11 : SR) => some x11))
abbrev rmX10_layMost : Room := { frames := 1, cells := 0, slots := 0, locals := 21 }
theorem hdV_X10_layMost : yX10_layMost.cls = "WitnessWallModel" ∧ yX10_layMost.cls ≠ "java/lang/invoke/MethodHandle" ∧ yX10_layMost.cls ≠ "java/lang/invoke/VarHandle" ∧ (parseMethodDescriptor yX10_layMost.desc).map (fun d => d.parameters.length) = some 0 := by decide +kernel
set_option maxHeartbeats 4000000 in
set_option maxRecDepth 100000 in
theorem k_X10_layMost {l : Launch} {D : va_G} {ad : Nat → Nat} {cI cB : ClassId} (hij : inj 31 ad)  {S0 : SR} {Sr : SR} (hE : f_X10_layMost S0 = some Sr) {sz : Nat} : Met l yX10_layMost (wz yX10_layMost cX10_layMost 7 none) rmX10_layMost (PG 31 ad (er ad cI cB) D (KR D cI cB) ZR [.ref (ad 0)] S0 sz) (QGv 31 ad (er ad cI cB) D Sr sz) 0 0 (AD 31 ad sz) := by
  unfold f_X10_layMost at hE
  refine g_start (cc := cX10_layMost) (maxL := 7) (ret := none) (Qc := fun sz => QGv 31 ad (er ad cI cB) D Sr sz) (by decide) rfl (Nat.le_of_ble_eq_true rfl) ?_
  intro p e s m args below meth c H locs ls hx hb hr hts hown hlocks hml hK hZ hP hS hl
  replace hl : lv_has ls 7 [(0, .ref (ad 0))] := hl
  obtain ⟨QQ, hQQ⟩ : ∃ q, q = MQ below (QGv 31 ad (er ad cI cB) D Sr s.heap.size) args s 0 0 (AD 31 ad s.heap.size) := ⟨_, rfl⟩
  rw [← hQQ]
  refine lv_iconst (v := 0) hx hb dX10_layMost_0 (by decide) ?_
  refine lv_istore_n (lv' := [(1, .int 0), (0, .ref (ad 0))]) hx hb dX10_layMost_1 rfl hl (by decide) rfl (fun ls hl => ?_)
  obtain ⟨x2, hx2, hE⟩ := st_bo hE
  refine lp_walk (body := fun (s1 : Int32 × SR) => b_X10_layMost_2 s1.1 s1.2) (fun s1 => ∀ (ls : Array Slot) (H : Heap) (locs : List Loc), lv_has ls 7 [(0, .ref (ad 0)), (1, .int s1.1)] → rP D ad cI cB s1.2 H → rS ad s H locs → W p l e rmX10_layMost s m args below meth c H locs 0 0 QQ (F0 m 2 ls [])) (fun x2 => ∀ (ls : Array Slot) (H : Heap) (locs : List Loc), lv_has ls 7 [(0, .ref (ad 0))] → rP D ad cI cB x2 H → rS ad s H locs → W p l e rmX10_layMost s m args below meth c H locs 0 0 QQ (F0 m 24 ls [])) ?_ _ _ _ hx2 ?_ ls H locs (lv_sub hl [1, 0] rfl) hP hS
  · intro s1 t3 hE hKt3 ls H locs hl hP hS
    obtain ⟨c4, c5⟩ := s1
    replace hE : b_X10_layMost_2 c4 c5 = some t3 := hE
    replace hl : lv_has ls 7 [(0, .ref (ad 0)), (1, .int c4)] := hl
    replace hP : rP D ad cI cB c5 H := hP
    unfold b_X10_layMost_2 at hE
    refine lv_iload_n hx hb dX10_layMost_2 rfl (lv_at hl 1 rfl) ?_
    refine lv_bipush (v := 16) hx hb dX10_layMost_3 (by decide) ?_
    refine lv_icmp_ge (tgt := 24) hx hb dX10_layMost_5 (by decide) (fun hc6 => ?_) (fun hc6 => ?_)
    · have hE := st_t hE hc6
      have hq := Option.some.inj hE
      subst hq
      exact hKt3 ls H locs (lv_sub hl [0] rfl) hP hS
    · have hE := st_f hE hc6
      refine lv_aload_n hx hb dX10_layMost_8 rfl (lv_at hl 0 rfl) ?_
      refine r_get (v := .ref (ad 21)) hx hb hts (fun w h => wz_m (inX10 w h)) hown hK hP (q_Ref (ad := ad) (cI := cI) (cB := cB)) rfl 31 (by decide) (hts _ (wz_m tw_3_187)) (fun _ h9 => h9) rfl dX10_layMost_9 ?_
      refine lv_bipush (v := 112) hx hb dX10_layMost_12 (by decide) ?_
      refine lv_iload_n hx hb dX10_layMost_14 rfl (lv_at hl 1 rfl) ?_
      refine lv_iadd hx hb dX10_layMost_15 ?_
      refine lv_iconst (v := 0) hx hb dX10_layMost_16 (by decide) ?_
      obtain ⟨hi7, hE⟩ := st_gd hE
      refine r_iast hij hx hb hK hP hS qr_21 hi7 dX10_layMost_17 (fun H locs hP hS => ?_)
      obtain ⟨S8, eS8, hE⟩ := st_bv hE
      rw [← eS8] at hP
      obtain ⟨v9, ev9, hE⟩ := st_bv hE
      refine lv_iinc (v := v9) (lv' := [(1, .int v9), (0, .ref (ad 0))]) hx hb dX10_layMost_18 hl (k := 1) rfl (by rw [ev9]; rfl) (by decide) rfl (fun ls hl => ?_)
      refine lv_goto (tgt := 2) hx hb dX10_layMost_21 (by decide) ?_
      have hq := Option.some.inj hE
      subst hq
      exact hKt3 ls H locs (lv_sub hl [1, 0] rfl) hP hS
  · intro ls H locs hl hP hS
    refine lv_bipush (v := 6) hx hb dX10_layMost_24 (by decide) ?_
    refine lv_istore_n (lv' := [(1, .int 6), (0, .ref (ad 0))]) hx hb dX10_layMost_26 rfl hl (by decide) rfl (fun ls hl => ?_)
    obtain ⟨x11, hx11, hE⟩ := st_bo hE
    refine lp_walk (body := fun (s10 : Int32 × SR) => b_X10_layMost_27 s10.1 s10.2) (fun s10 => ∀ (ls : Array Slot) (H : Heap) (locs : List Loc), lv_has ls 7 [(0, .ref (ad 0)), (1, .int s10.1)] → rP D ad cI cB s10.2 H → rS ad s H locs → W p l e rmX10_layMost s m args below meth c H locs 0 0 QQ (F0 m 27 ls [])) (fun x11 => ∀ (ls : Array Slot) (H : Heap) (locs : List Loc), lv_has ls 7 [] → rP D ad cI cB x11 H → rS ad s H locs → W p l e rmX10_layMost s m args below meth c H locs 0 0 QQ (F0 m 156 ls [])) ?_ _ _ _ hx11 ?_ ls H locs (lv_sub hl [1, 0] rfl) hP hS
    · intro s10 t12 hE hKt12 ls H locs hl hP hS
      obtain ⟨c13, c14⟩ := s10
      replace hE : b_X10_layMost_27 c13 c14 = some t12 := hE
      replace hl : lv_has ls 7 [(0, .ref (ad 0)), (1, .int c13)] := hl
      replace hP : rP D ad cI cB c14 H := hP
      unfold b_X10_layMost_27 at hE
      refine lv_iload_n hx hb dX10_layMost_27 rfl (lv_at hl 1 rfl) ?_
      refine lv_if_le (tgt := 156) hx hb dX10_layMost_28 (by decide) (fun hc15 => ?_) (fun hc15 => ?_)
      · have hE := st_t hE hc15
        have hq := Option.some.inj hE
        subst hq
        exact hKt12 ls H locs (lv_sub hl [] rfl) hP hS
      · have hE := st_f hE hc15
        refine lv_iconst (v := 0) hx hb dX10_layMost_31 (by decide) ?_
        refine lv_istore_n (lv' := [(2, .int 0), (0, .ref (ad 0)), (1, .int c13)]) hx hb dX10_layMost_32 rfl hl (by decide) rfl (fun ls hl => ?_)
        obtain ⟨x17, hx17, hE⟩ := st_bo hE
        refine lp_walk (body := fun (s16 : Int32 × SR) => b_X10_layMost_33 c13 s16.1 s16.2) (fun s16 => ∀ (ls : Array Slot) (H : Heap) (locs : List Loc), lv_has ls 7 [(0, .ref (ad 0)), (1, .int c13), (2, .int s16.1)] → rP D ad cI cB s16.2 H → rS ad s H locs → W p l e rmX10_layMost s m args below meth c H locs 0 0 QQ (F0 m 33 ls [])) (fun x17 => ∀ (ls : Array Slot) (H : Heap) (locs : List Loc), lv_has ls 7 [(0, .ref (ad 0)), (1, .int c13)] → rP D ad cI cB x17 H → rS ad s H locs → W p l e rmX10_layMost s m args below meth c H locs 0 0 QQ (F0 m 150 ls [])) ?_ _ _ _ hx17 ?_ ls H locs (lv_sub hl [1, 2, 0] rfl) hP hS
        · intro s16 t18 hE hKt18 ls H locs hl hP hS
          obtain ⟨c19, c20⟩ := s16
          replace hE : b_X10_layMost_33 c13 c19 c20 = some t18 := hE
          replace hl : lv_has ls 7 [(0, .ref (ad 0)), (1, .int c13), (2, .int c19)] := hl
          replace hP : rP D ad cI cB c20 H := hP
          unfold b_X10_layMost_33 at hE
          refine lv_iload_n hx hb dX10_layMost_33 rfl (lv_at hl 2 rfl) ?_
          refine lv_bipush (v := 16) hx hb dX10_layMost_34 (by decide) ?_
          refine lv_icmp_ge (tgt := 150) hx hb dX10_layMost_36 (by decide) (fun hc21 => ?_) (fun hc21 => ?_)
          · have hE := st_t hE hc21
            have hq := Option.some.inj hE
            subst hq
            exact hKt18 ls H locs (lv_sub hl [0, 1] rfl) hP hS
          · have hE := st_f hE hc21
            refine lv_aload_n hx hb dX10_layMost_39 rfl (lv_at hl 0 rfl) ?_
            refine r_get (v := .ref (ad 21)) hx hb hts (fun w h => wz_m (inX10 w h)) hown hK hP (q_Ref (ad := ad) (cI := cI) (cB := cB)) rfl 31 (by decide) (hts _ (wz_m tw_3_187)) (fun _ h9 => h9) rfl dX10_layMost_40 ?_
            refine lv_bipush (v := 16) hx hb dX10_layMost_43 (by decide) ?_
            refine lv_iload_n hx hb dX10_layMost_45 rfl (lv_at hl 1 rfl) ?_
            refine lv_iconst (v := 1) hx hb dX10_layMost_46 (by decide) ?_
            refine lv_iadd hx hb dX10_layMost_47 ?_
            refine lv_imul hx hb dX10_layMost_48 ?_
            refine lv_iload_n hx hb dX10_layMost_49 rfl (lv_at hl 2 rfl) ?_
            refine lv_iadd hx hb dX10_layMost_50 ?_
            obtain ⟨hi22, hE⟩ := st_gd hE
            refine r_iald hx hb hK hP qr_21 hi22 dX10_layMost_51 ?_
            obtain ⟨v23, ev23, hE⟩ := st_bv hE
            refine nm_i ev23 ?_
            refine lv_istore_n (lv' := [(3, .int v23), (0, .ref (ad 0)), (1, .int c13), (2, .int c19)]) hx hb dX10_layMost_52 rfl hl (by decide) rfl (fun ls hl => ?_)
            refine lv_iconst (v := 0) hx hb dX10_layMost_53 (by decide) ?_
            refine lv_istore (lv' := [(4, .int 0), (3, .int v23), (0, .ref (ad 0)), (1, .int c13), (2, .int c19)]) hx hb dX10_layMost_54 hl (by decide) rfl (fun ls hl => ?_)
            obtain ⟨x25, hx25, hE⟩ := st_bo hE
            refine lp_walk (body := fun (s24 : Int32 × Int32) => b_X10_layMost_56 c13 c19 c20 s24.1 s24.2) (fun s24 => ∀ (ls : Array Slot) (H : Heap) (locs : List Loc), lv_has ls 7 [(0, .ref (ad 0)), (1, .int c13), (2, .int c19), (3, .int s24.1), (4, .int s24.2)] → rP D ad cI cB c20 H → rS ad s H locs → W p l e rmX10_layMost s m args below meth c H locs 0 0 QQ (F0 m 56 ls [])) (fun x25 => ∀ (ls : Array Slot) (H : Heap) (locs : List Loc), lv_has ls 7 [(0, .ref (ad 0)), (1, .int c13), (2, .int c19), (3, .int x25)] → rP D ad cI cB c20 H → rS ad s H locs → W p l e rmX10_layMost s m args below meth c H locs 0 0 QQ (F0 m 132 ls [])) ?_ _ _ _ hx25 ?_ ls H locs (lv_sub hl [2, 3, 4, 1, 0] rfl) hP hS
            · intro s24 t26 hE hKt26 ls H locs hl hP hS
              obtain ⟨c27, c28⟩ := s24
              replace hE : b_X10_layMost_56 c13 c19 c20 c27 c28 = some t26 := hE
              replace hl : lv_has ls 7 [(0, .ref (ad 0)), (1, .int c13), (2, .int c19), (3, .int c27), (4, .int c28)] := hl
              replace hP : rP D ad cI cB c20 H := hP
              unfold b_X10_layMost_56 at hE
              refine lv_iload hx hb dX10_layMost_56 (lv_at hl 4 rfl) ?_
              refine lv_aload_n hx hb dX10_layMost_58 rfl (lv_at hl 0 rfl) ?_
              refine r_get (v := .int (ri c20 0 5)) hx hb hts (fun w h => wz_m (inX10 w h)) hown hK hP (q_Ref (ad := ad) (cI := cI) (cB := cB)) rfl 5 (by decide) (hts _ (wz_m tw_3_161)) (fun _ h9 => h9) rfl dX10_layMost_59 ?_
              refine lv_icmp_ge (tgt := 132) hx hb dX10_layMost_62 (by decide) (fun hc29 => ?_) (fun hc29 => ?_)
              · have hE := st_t hE hc29
                have hq := Option.some.inj hE
                subst hq
                exact hKt26 ls H locs (lv_sub hl [0, 1, 2, 3] rfl) hP hS
              · have hE := st_f hE hc29
                refine lv_aload_n hx hb dX10_layMost_65 rfl (lv_at hl 0 rfl) ?_
                refine r_get (v := .ref (ad 20)) hx hb hts (fun w h => wz_m (inX10 w h)) hown hK hP (q_Ref (ad := ad) (cI := cI) (cB := cB)) rfl 30 (by decide) (hts _ (wz_m tw_3_186)) (fun _ h9 => h9) rfl dX10_layMost_66 ?_
                refine lv_iload_n hx hb dX10_layMost_69 rfl (lv_at hl 1 rfl) ?_
                obtain ⟨hi30, hE⟩ := st_gd hE
                refine r_iald hx hb hK hP qr_20 hi30 dX10_layMost_70 ?_
                refine lv_iload_n hx hb dX10_layMost_71 rfl (lv_at hl 2 rfl) ?_
                refine lv_iconst (v := (-1)) hx hb dX10_layMost_72 (by decide) ?_
                refine lv_ixor hx hb dX10_layMost_73 ?_
                refine lv_iand hx hb dX10_layMost_74 ?_
                refine lv_iload hx hb dX10_layMost_75 (lv_at hl 4 rfl) ?_
                obtain ⟨r31, hCr31, hE⟩ := st_bo hE
                refine g_calli (va_runS (As := [.int ((ri c20 20 (c13.toNatClampNeg)) &&& (c19 ^^^ (-1))), .int c28]) (rest := []) ⟨hx, hb, hml, hown, hts⟩ (k_X10_isIn hij (S0 := c20) hCr31) (va_cwS 2 hts (wz_S tw_4_144 tw_4_145 tw_1_11 tw_4_146) rfl rfl rfl hdS_X10_isIn ⟨Nat.le_of_ble_eq_true rfl, Nat.le_of_ble_eq_true rfl⟩) (g_preS KR_st ZR_st hK hZ hP hS) rfl rfl hl.1 rfl (lv_room (Nat.le_of_ble_eq_true rfl)) dX10_layMost_77 ⟨Nat.zero_le _, Nat.zero_le _⟩) hS (fun H locs hP hS => ?_)
                refine lv_istore (lv' := [(5, .int r31), (0, .ref (ad 0)), (1, .int c13), (2, .int c19), (3, .int c27), (4, .int c28)]) hx hb dX10_layMost_80 hl (by decide) rfl (fun ls hl => ?_)
                refine lv_iload hx hb dX10_layMost_82 (lv_at hl 0 rfl) ?_
                obtain ⟨q32, hq32, hE⟩ := st_bo hE
                have J33 : ∀ (ls : Array Slot) (H : Heap) (locs : List Loc), lv_has ls 7 [(0, .ref (ad 0)), (1, .int c13), (2, .int c19), (3, .int c27), (4, .int c28)] → rP D ad cI cB c20 H → rS ad s H locs → W p l e rmX10_layMost s m args below meth c H locs 0 0 QQ (F0 m 111 ls [.int q32]) := by
                  intro ls H locs hl hP hS
                  refine lv_istore (lv' := [(6, .int q32), (0, .ref (ad 0)), (1, .int c13), (2, .int c19), (3, .int c27), (4, .int c28)]) hx hb dX10_layMost_111 hl (by decide) rfl (fun ls hl => ?_)
                  refine lv_iload hx hb dX10_layMost_113 (lv_at hl 0 rfl) ?_
                  refine lv_iload_n hx hb dX10_layMost_115 rfl (lv_at hl 4 rfl) ?_
                  refine lv_icmp_le (tgt := 124) hx hb dX10_layMost_116 (by decide) (fun hc36 => ?_) (fun hc36 => ?_)
                  · have hE := st_t hE hc36
                    refine lv_iload_n hx hb dX10_layMost_124 rfl (lv_at hl 4 rfl) ?_
                    refine lv_istore_n (lv' := [(3, .int c27), (6, .int q32), (0, .ref (ad 0)), (1, .int c13), (2, .int c19), (4, .int c28)]) hx hb dX10_layMost_125 rfl hl (by decide) rfl (fun ls hl => ?_)
                    obtain ⟨v37, ev37, hE⟩ := st_bv hE
                    refine lv_iinc (v := v37) (lv' := [(4, .int v37), (3, .int c27), (6, .int q32), (0, .ref (ad 0)), (1, .int c13), (2, .int c19)]) hx hb dX10_layMost_126 hl (k := 5) rfl (by rw [ev37]; rfl) (by decide) rfl (fun ls hl => ?_)
                    refine lv_goto (tgt := 56) hx hb dX10_layMost_129 (by decide) ?_
                    have hq := Option.some.inj hE
                    subst hq
                    exact hKt26 ls H locs (lv_sub hl [3, 4, 5, 1, 0] rfl) hP hS
                  · have hE := st_f hE hc36
                    refine lv_iload hx hb dX10_layMost_119 (lv_at hl 0 rfl) ?_
                    refine lv_goto (tgt := 125) hx hb dX10_layMost_121 (by decide) ?_
                    refine lv_istore_n (lv' := [(3, .int q32), (6, .int q32), (0, .ref (ad 0)), (1, .int c13), (2, .int c19), (4, .int c28)]) hx hb dX10_layMost_125 rfl hl (by decide) rfl (fun ls hl => ?_)
                    obtain ⟨v38, ev38, hE⟩ := st_bv hE
                    refine lv_iinc (v := v38) (lv' := [(4, .int v38), (3, .int q32), (6, .int q32), (0, .ref (ad 0)), (1, .int c13), (2, .int c19)]) hx hb dX10_layMost_126 hl (k := 5) rfl (by rw [ev38]; rfl) (by decide) rfl (fun ls hl => ?_)
                    refine lv_goto (tgt := 56) hx hb dX10_layMost_129 (by decide) ?_
                    have hq := Option.some.inj hE
                    subst hq
                    exact hKt26 ls H locs (lv_sub hl [3, 4, 5, 1, 0] rfl) hP hS
                replace hE := hq32
                refine lv_if_eq (tgt := 110) hx hb dX10_layMost_84 (by decide) (fun hc34 => ?_) (fun hc34 => ?_)
                · have hE := st_t hE hc34
                  refine lv_iconst (v := 0) hx hb dX10_layMost_110 (by decide) ?_
                  have hq := Option.some.inj hE
                  subst hq
                  exact J33 ls H locs (lv_sub hl [1, 2, 3, 4, 5] rfl) hP hS
                · have hE := st_f hE hc34
                  refine lv_iconst (v := 1) hx hb dX10_layMost_87 (by decide) ?_
                  refine lv_aload_n hx hb dX10_layMost_88 rfl (lv_at hl 1 rfl) ?_
                  refine r_get (v := .ref (ad 21)) hx hb hts (fun w h => wz_m (inX10 w h)) hown hK hP (q_Ref (ad := ad) (cI := cI) (cB := cB)) rfl 31 (by decide) (hts _ (wz_m tw_3_187)) (fun _ h9 => h9) rfl dX10_layMost_89 ?_
                  refine lv_bipush (v := 16) hx hb dX10_layMost_92 (by decide) ?_
                  refine lv_iload_n hx hb dX10_layMost_94 rfl (lv_at hl 2 rfl) ?_
                  refine lv_iconst (v := 1) hx hb dX10_layMost_95 (by decide) ?_
                  refine lv_iadd hx hb dX10_layMost_96 ?_
                  refine lv_imul hx hb dX10_layMost_97 ?_
                  refine lv_iload_n hx hb dX10_layMost_98 rfl (lv_at hl 3 rfl) ?_
                  refine lv_iconst (v := 1) hx hb dX10_layMost_99 (by decide) ?_
                  refine lv_iload hx hb dX10_layMost_100 (lv_at hl 5 rfl) ?_
                  refine lv_ishl hx hb dX10_layMost_102 ?_
                  refine lv_ior hx hb dX10_layMost_103 ?_
                  refine lv_iadd hx hb dX10_layMost_104 ?_
                  obtain ⟨hi35, hE⟩ := st_gd hE
                  refine r_iald hx hb hK hP qr_21 hi35 dX10_layMost_105 ?_
                  refine lv_iadd hx hb dX10_layMost_106 ?_
                  refine lv_goto (tgt := 111) hx hb dX10_layMost_107 (by decide) ?_
                  have hq := Option.some.inj hE
                  subst hq
                  exact J33 ls H locs (lv_sub hl [1, 2, 3, 4, 5] rfl) hP hS
            · intro ls H locs hl hP hS
              refine lv_aload_n hx hb dX10_layMost_132 rfl (lv_at hl 0 rfl) ?_
              refine r_get (v := .ref (ad 21)) hx hb hts (fun w h => wz_m (inX10 w h)) hown hK hP (q_Ref (ad := ad) (cI := cI) (cB := cB)) rfl 31 (by decide) (hts _ (wz_m tw_3_187)) (fun _ h9 => h9) rfl dX10_layMost_133 ?_
              refine lv_bipush (v := 16) hx hb dX10_layMost_136 (by decide) ?_
              refine lv_iload_n hx hb dX10_layMost_138 rfl (lv_at hl 1 rfl) ?_
              refine lv_imul hx hb dX10_layMost_139 ?_
              refine lv_iload_n hx hb dX10_layMost_140 rfl (lv_at hl 2 rfl) ?_
              refine lv_iadd hx hb dX10_layMost_141 ?_
              refine lv_iload_n hx hb dX10_layMost_142 rfl (lv_at hl 3 rfl) ?_
              obtain ⟨hi39, hE⟩ := st_gd hE
              refine r_iast hij hx hb hK hP hS qr_21 hi39 dX10_layMost_143 (fun H locs hP hS => ?_)
              obtain ⟨S40, eS40, hE⟩ := st_bv hE
              rw [← eS40] at hP
              obtain ⟨v41, ev41, hE⟩ := st_bv hE
              refine lv_iinc (v := v41) (lv' := [(2, .int v41), (0, .ref (ad 0)), (1, .int c13), (3, .int x25)]) hx hb dX10_layMost_144 hl (k := 2) rfl (by rw [ev41]; rfl) (by decide) rfl (fun ls hl => ?_)
              refine lv_goto (tgt := 33) hx hb dX10_layMost_147 (by decide) ?_
              have hq := Option.some.inj hE
              subst hq
              exact hKt18 ls H locs (lv_sub hl [1, 2, 0] rfl) hP hS
        · intro ls H locs hl hP hS
          obtain ⟨v42, ev42, hE⟩ := st_bv hE
          refine lv_iinc (v := v42) (lv' := [(1, .int v42), (0, .ref (ad 0))]) hx hb dX10_layMost_150 hl (k := 1) rfl (by rw [ev42]; rfl) (by decide) rfl (fun ls hl => ?_)
          refine lv_goto (tgt := 27) hx hb dX10_layMost_153 (by decide) ?_
          have hq := Option.some.inj hE
          subst hq
          exact hKt12 ls H locs (lv_sub hl [1, 0] rfl) hP hS
    · intro ls H locs hl hP hS
      replace hE := Option.some.inj hE
      subst hQQ
      exact g_vret hx hb hr hlocks hP hS hE dX10_layMost_156

theorem hdI_X10 : yX10_init.cls ≠ "java/lang/invoke/MethodHandle" ∧ yX10_init.cls ≠ "java/lang/invoke/VarHandle" ∧ (parseMethodDescriptor yX10_init.desc).map (fun d => d.parameters.length) = some 0 := by decide +kernel
abbrev rmX10_init : Room := { frames := 1, cells := 30, slots := 387, locals := 12 }
set_option maxHeartbeats 1000000 in
set_option maxRecDepth 100000 in
theorem k_X10_init {l : Launch} {D : va_G} {cI cB : ClassId} {h0 sz : Nat} : Met l yX10_init (wz yX10_init cX10_init 1 none) rmX10_init (PI D (KR D cI cB) h0 (.inr (10, [.int 0, .int 0, .null, .null, .null, .int 0, .null, .null, .int 0, .null, .null, .null, .int 0, .int 0, .null, .null, .null, .int 0, .null, .int 0, .int 0, .int 0, .null, .null, .null, .null, .null, .int 0, .null, .null, .null, .null, .long 0, .int 0, .int 0, .int 0, .int 0, .int 0, .null, .null, .null, .null, .null, .null, .null, .null, .null, .long 0])) sz) (QI 31 (fun u k => SHR u cI cB k (fun _ => 0) (fun _ => 0)) D h0 sz) 30 387 (AI h0 sz) := by
  refine i_start (cc := cX10_init) (maxL := 1) (Qc := fun sz => QI 31 (fun u k => SHR u cI cB k (fun _ => 0) (fun _ => 0)) D h0 sz) (by decide) rfl rfl (by decide) ?_
  intro p e s m args below meth c H locs ls hx hb hr hts hown hlocks hml hin hK hP hD hS hA hl
  obtain ⟨QQ, hQQ⟩ : ∃ q, q = MQ below (QI 31 (fun u k => SHR u cI cB k (fun _ => 0) (fun _ => 0)) D h0 s.heap.size) args s 30 387 (AI h0 s.heap.size) := ⟨_, rfl⟩
  rw [← hQQ]
  obtain ⟨F0, hF0⟩ : ∃ z : List Value, z = [.int 0, .int 0, .null, .null, .null, .int 0, .null, .null, .int 0, .null, .null, .null, .int 0, .int 0, .null, .null, .null, .int 0, .null, .int 0, .int 0, .int 0, .null, .null, .null, .null, .null, .int 0, .null, .null, .null, .null, .long 0, .int 0, .int 0, .int 0, .int 0, .int 0, .null, .null, .null, .null, .null, .null, .null, .null, .null, .long 0] := ⟨_, rfl⟩
  have hlen : F0.length = 48 := by rw [hF0]; rfl
  have hX := hF0
  obtain ⟨T0, hT0⟩ : ∃ z : va_W, z = [] := ⟨_, rfl⟩
  have hY := hT0
  replace hP : va_P D vwCl ([(h0, .inr (10, F0))] ++ T0) H := by rw [hF0, hT0]; exact hP
  replace hD : va_D (AI h0 s.heap.size) ([(h0, .inr (10, F0))] ++ T0) := by rw [hF0, hT0]; exact hD
  refine lv_aload_n hx hb dX10_init_0 rfl (lv_at hl 0 rfl) ?_
  refine W.objInit hx hb hown (hts _ (wz_m tw_3_155)) (hts _ (wz_m tw_1_20)) (hts _ (wz_m tw_1_21)) rfl (by rw [hml]; exact hl.1) rfl dX10_init_1 (Nat.le_of_ble_eq_true rfl) (Nat.le_of_ble_eq_true rfl) ?_
  refine W.eq (g2 := { method := m, pc := 4, locals := ls, stack := [], locked := none }) rfl ?_
  refine lv_aload_n hx hb dX10_init_4 rfl (lv_at hl 0 rfl) ?_
  refine lv_iconst (v := 5) hx hb dX10_init_5 (by decide) ?_
  refine va_newa (atype := .int) (ty := .int) (N' := 5) (a0 := (5, .inl (fun _ => 0))) hx hb (hts _ (wz_m tw_1_54)) rfl hK.1 hP hD hS hA (fun _ => rfl) (by decide) (by decide) (Nat.le_of_ble_eq_true rfl) (Nat.le_of_ble_eq_true rfl) (Nat.le_of_ble_eq_true rfl) dX10_init_6 (fun q1 cA H hK2 hP hD hS => ?_)
  obtain rfl : cI = cA := (same_cA hK2 (i := 0) (j := 2) rfl rfl).symm
  clear hK2
  rw [List.append_assoc] at hP hD
  obtain ⟨T1, hT1⟩ : ∃ z : va_W, z = T0 ++ [(q1, .inl (cI, 5, .inl (fun _ => 0)))] := ⟨_, rfl⟩
  rw [← hT1] at hP hD
  replace hY : T1 = [(q1, .inl (cI, 5, .inl (fun _ => 0)))] := by rw [hT1, hY]; rfl
  refine W.widen (k := 1) (n := 5) (Nat.le_of_ble_eq_true rfl) (Nat.le_of_ble_eq_true rfl) ?_
  refine va_putF (D := D) (ci := 10) (v := .ref q1) (C := RX10) (T := TX10) (N := 48) hx hb hts (fun w h => wz_m (inX10 w h)) tyX10 tyX10_ok nmX10 hown hK.1 hP hD hS 0 rfl rfl 2 (by decide) (hts _ (wz_m tw_3_158)) (fun _ h9 => h9) rfl hin rfl (tyX10_ok 2 (by decide)) rfl rfl (by rw [hlen]; decide) dX10_init_8 (fun H locs hP hD hS => ?_)
  obtain ⟨F1, hF1⟩ : ∃ z : List Value, z = F0.set 2 (.ref q1) := ⟨_, rfl⟩
  replace hlen : F1.length = 48 := by rw [hF1, List.length_set]; exact hlen
  replace hP : va_P D vwCl ([(h0, .inr (10, F1))] ++ T1) H := by rw [hF1]; exact hP
  replace hD : va_D (AI h0 s.heap.size) ([(h0, .inr (10, F1))] ++ T1) := by rw [hF1]; exact hD
  replace hX : F1 = [.int 0, .int 0, .ref q1, .null, .null, .int 0, .null, .null, .int 0, .null, .null, .null, .int 0, .int 0, .null, .null, .null, .int 0, .null, .int 0, .int 0, .int 0, .null, .null, .null, .null, .null, .int 0, .null, .null, .null, .null, .long 0, .int 0, .int 0, .int 0, .int 0, .int 0, .null, .null, .null, .null, .null, .null, .null, .null, .null, .long 0] := by rw [hF1, hX]; rfl
  refine lv_aload_n hx hb dX10_init_11 rfl (lv_at hl 0 rfl) ?_
  refine lv_bipush (v := 20) hx hb dX10_init_12 (by decide) ?_
  refine va_newa (atype := .int) (ty := .int) (N' := 20) (a0 := (20, .inl (fun _ => 0))) hx hb (hts _ (wz_m tw_1_54)) rfl hK.1 hP hD hS hA (fun _ => rfl) (by decide) (by decide) (Nat.le_of_ble_eq_true rfl) (Nat.le_of_ble_eq_true rfl) (Nat.le_of_ble_eq_true rfl) dX10_init_14 (fun q2 cA H hK2 hP hD hS => ?_)
  obtain rfl : cI = cA := (same_cA hK2 (i := 0) (j := 2) rfl rfl).symm
  clear hK2
  rw [List.append_assoc] at hP hD
  obtain ⟨T2, hT2⟩ : ∃ z : va_W, z = T1 ++ [(q2, .inl (cI, 20, .inl (fun _ => 0)))] := ⟨_, rfl⟩
  rw [← hT2] at hP hD
  replace hY : T2 = [(q1, .inl (cI, 5, .inl (fun _ => 0))), (q2, .inl (cI, 20, .inl (fun _ => 0)))] := by rw [hT2, hY]; rfl
  refine W.widen (k := 2) (n := 25) (Nat.le_of_ble_eq_true rfl) (Nat.le_of_ble_eq_true rfl) ?_
  refine va_putF (D := D) (ci := 10) (v := .ref q2) (C := RX10) (T := TX10) (N := 48) hx hb hts (fun w h => wz_m (inX10 w h)) tyX10 tyX10_ok nmX10 hown hK.1 hP hD hS 0 rfl rfl 3 (by decide) (hts _ (wz_m tw_3_159)) (fun _ h9 => h9) rfl hin rfl (tyX10_ok 3 (by decide)) rfl rfl (by rw [hlen]; decide) dX10_init_16 (fun H locs hP hD hS => ?_)
  obtain ⟨F2, hF2⟩ : ∃ z : List Value, z = F1.set 3 (.ref q2) := ⟨_, rfl⟩
  replace hlen : F2.length = 48 := by rw [hF2, List.length_set]; exact hlen
  replace hP : va_P D vwCl ([(h0, .inr (10, F2))] ++ T2) H := by rw [hF2]; exact hP
  replace hD : va_D (AI h0 s.heap.size) ([(h0, .inr (10, F2))] ++ T2) := by rw [hF2]; exact hD
  replace hX : F2 = [.int 0, .int 0, .ref q1, .ref q2, .null, .int 0, .null, .null, .int 0, .null, .null, .null, .int 0, .int 0, .null, .null, .null, .int 0, .null, .int 0, .int 0, .int 0, .null, .null, .null, .null, .null, .int 0, .null, .null, .null, .null, .long 0, .int 0, .int 0, .int 0, .int 0, .int 0, .null, .null, .null, .null, .null, .null, .null, .null, .null, .long 0] := by rw [hF2, hX]; rfl
  refine lv_aload_n hx hb dX10_init_19 rfl (lv_at hl 0 rfl) ?_
  refine lv_iconst (v := 5) hx hb dX10_init_20 (by decide) ?_
  refine va_newa (atype := .int) (ty := .int) (N' := 5) (a0 := (5, .inl (fun _ => 0))) hx hb (hts _ (wz_m tw_1_54)) rfl hK.1 hP hD hS hA (fun _ => rfl) (by decide) (by decide) (Nat.le_of_ble_eq_true rfl) (Nat.le_of_ble_eq_true rfl) (Nat.le_of_ble_eq_true rfl) dX10_init_21 (fun q3 cA H hK2 hP hD hS => ?_)
  obtain rfl : cI = cA := (same_cA hK2 (i := 0) (j := 2) rfl rfl).symm
  clear hK2
  rw [List.append_assoc] at hP hD
  obtain ⟨T3, hT3⟩ : ∃ z : va_W, z = T2 ++ [(q3, .inl (cI, 5, .inl (fun _ => 0)))] := ⟨_, rfl⟩
  rw [← hT3] at hP hD
  replace hY : T3 = [(q1, .inl (cI, 5, .inl (fun _ => 0))), (q2, .inl (cI, 20, .inl (fun _ => 0))), (q3, .inl (cI, 5, .inl (fun _ => 0)))] := by rw [hT3, hY]; rfl
  refine W.widen (k := 3) (n := 30) (Nat.le_of_ble_eq_true rfl) (Nat.le_of_ble_eq_true rfl) ?_
  refine va_putF (D := D) (ci := 10) (v := .ref q3) (C := RX10) (T := TX10) (N := 48) hx hb hts (fun w h => wz_m (inX10 w h)) tyX10 tyX10_ok nmX10 hown hK.1 hP hD hS 0 rfl rfl 4 (by decide) (hts _ (wz_m tw_3_160)) (fun _ h9 => h9) rfl hin rfl (tyX10_ok 4 (by decide)) rfl rfl (by rw [hlen]; decide) dX10_init_23 (fun H locs hP hD hS => ?_)
  obtain ⟨F3, hF3⟩ : ∃ z : List Value, z = F2.set 4 (.ref q3) := ⟨_, rfl⟩
  replace hlen : F3.length = 48 := by rw [hF3, List.length_set]; exact hlen
  replace hP : va_P D vwCl ([(h0, .inr (10, F3))] ++ T3) H := by rw [hF3]; exact hP
  replace hD : va_D (AI h0 s.heap.size) ([(h0, .inr (10, F3))] ++ T3) := by rw [hF3]; exact hD
  replace hX : F3 = [.int 0, .int 0, .ref q1, .ref q2, .ref q3, .int 0, .null, .null, .int 0, .null, .null, .null, .int 0, .int 0, .null, .null, .null, .int 0, .null, .int 0, .int 0, .int 0, .null, .null, .null, .null, .null, .int 0, .null, .null, .null, .null, .long 0, .int 0, .int 0, .int 0, .int 0, .int 0, .null, .null, .null, .null, .null, .null, .null, .null, .null, .long 0] := by rw [hF3, hX]; rfl
  refine lv_aload_n hx hb dX10_init_26 rfl (lv_at hl 0 rfl) ?_
  refine lv_iconst (v := 4) hx hb dX10_init_27 (by decide) ?_
  refine va_newa (atype := .int) (ty := .int) (N' := 4) (a0 := (4, .inl (fun _ => 0))) hx hb (hts _ (wz_m tw_1_54)) rfl hK.1 hP hD hS hA (fun _ => rfl) (by decide) (by decide) (Nat.le_of_ble_eq_true rfl) (Nat.le_of_ble_eq_true rfl) (Nat.le_of_ble_eq_true rfl) dX10_init_28 (fun q4 cA H hK2 hP hD hS => ?_)
  obtain rfl : cI = cA := (same_cA hK2 (i := 0) (j := 2) rfl rfl).symm
  clear hK2
  rw [List.append_assoc] at hP hD
  obtain ⟨T4, hT4⟩ : ∃ z : va_W, z = T3 ++ [(q4, .inl (cI, 4, .inl (fun _ => 0)))] := ⟨_, rfl⟩
  rw [← hT4] at hP hD
  replace hY : T4 = [(q1, .inl (cI, 5, .inl (fun _ => 0))), (q2, .inl (cI, 20, .inl (fun _ => 0))), (q3, .inl (cI, 5, .inl (fun _ => 0))), (q4, .inl (cI, 4, .inl (fun _ => 0)))] := by rw [hT4, hY]; rfl
  refine W.widen (k := 4) (n := 34) (Nat.le_of_ble_eq_true rfl) (Nat.le_of_ble_eq_true rfl) ?_
  refine va_putF (D := D) (ci := 10) (v := .ref q4) (C := RX10) (T := TX10) (N := 48) hx hb hts (fun w h => wz_m (inX10 w h)) tyX10 tyX10_ok nmX10 hown hK.1 hP hD hS 0 rfl rfl 6 (by decide) (hts _ (wz_m tw_3_162)) (fun _ h9 => h9) rfl hin rfl (tyX10_ok 6 (by decide)) rfl rfl (by rw [hlen]; decide) dX10_init_30 (fun H locs hP hD hS => ?_)
  obtain ⟨F4, hF4⟩ : ∃ z : List Value, z = F3.set 6 (.ref q4) := ⟨_, rfl⟩
  replace hlen : F4.length = 48 := by rw [hF4, List.length_set]; exact hlen
  replace hP : va_P D vwCl ([(h0, .inr (10, F4))] ++ T4) H := by rw [hF4]; exact hP
  replace hD : va_D (AI h0 s.heap.size) ([(h0, .inr (10, F4))] ++ T4) := by rw [hF4]; exact hD
  replace hX : F4 = [.int 0, .int 0, .ref q1, .ref q2, .ref q3, .int 0, .ref q4, .null, .int 0, .null, .null, .null, .int 0, .int 0, .null, .null, .null, .int 0, .null, .int 0, .int 0, .int 0, .null, .null, .null, .null, .null, .int 0, .null, .null, .null, .null, .long 0, .int 0, .int 0, .int 0, .int 0, .int 0, .null, .null, .null, .null, .null, .null, .null, .null, .null, .long 0] := by rw [hF4, hX]; rfl
  refine lv_aload_n hx hb dX10_init_33 rfl (lv_at hl 0 rfl) ?_
  refine lv_iconst (v := 4) hx hb dX10_init_34 (by decide) ?_
  refine va_newa (atype := .int) (ty := .int) (N' := 4) (a0 := (4, .inl (fun _ => 0))) hx hb (hts _ (wz_m tw_1_54)) rfl hK.1 hP hD hS hA (fun _ => rfl) (by decide) (by decide) (Nat.le_of_ble_eq_true rfl) (Nat.le_of_ble_eq_true rfl) (Nat.le_of_ble_eq_true rfl) dX10_init_35 (fun q5 cA H hK2 hP hD hS => ?_)
  obtain rfl : cI = cA := (same_cA hK2 (i := 0) (j := 2) rfl rfl).symm
  clear hK2
  rw [List.append_assoc] at hP hD
  obtain ⟨T5, hT5⟩ : ∃ z : va_W, z = T4 ++ [(q5, .inl (cI, 4, .inl (fun _ => 0)))] := ⟨_, rfl⟩
  rw [← hT5] at hP hD
  replace hY : T5 = [(q1, .inl (cI, 5, .inl (fun _ => 0))), (q2, .inl (cI, 20, .inl (fun _ => 0))), (q3, .inl (cI, 5, .inl (fun _ => 0))), (q4, .inl (cI, 4, .inl (fun _ => 0))), (q5, .inl (cI, 4, .inl (fun _ => 0)))] := by rw [hT5, hY]; rfl
  refine W.widen (k := 5) (n := 38) (Nat.le_of_ble_eq_true rfl) (Nat.le_of_ble_eq_true rfl) ?_
  refine va_putF (D := D) (ci := 10) (v := .ref q5) (C := RX10) (T := TX10) (N := 48) hx hb hts (fun w h => wz_m (inX10 w h)) tyX10 tyX10_ok nmX10 hown hK.1 hP hD hS 0 rfl rfl 7 (by decide) (hts _ (wz_m tw_3_163)) (fun _ h9 => h9) rfl hin rfl (tyX10_ok 7 (by decide)) rfl rfl (by rw [hlen]; decide) dX10_init_37 (fun H locs hP hD hS => ?_)
  obtain ⟨F5, hF5⟩ : ∃ z : List Value, z = F4.set 7 (.ref q5) := ⟨_, rfl⟩
  replace hlen : F5.length = 48 := by rw [hF5, List.length_set]; exact hlen
  replace hP : va_P D vwCl ([(h0, .inr (10, F5))] ++ T5) H := by rw [hF5]; exact hP
  replace hD : va_D (AI h0 s.heap.size) ([(h0, .inr (10, F5))] ++ T5) := by rw [hF5]; exact hD
  replace hX : F5 = [.int 0, .int 0, .ref q1, .ref q2, .ref q3, .int 0, .ref q4, .ref q5, .int 0, .null, .null, .null, .int 0, .int 0, .null, .null, .null, .int 0, .null, .int 0, .int 0, .int 0, .null, .null, .null, .null, .null, .int 0, .null, .null, .null, .null, .long 0, .int 0, .int 0, .int 0, .int 0, .int 0, .null, .null, .null, .null, .null, .null, .null, .null, .null, .long 0] := by rw [hF5, hX]; rfl
  refine lv_aload_n hx hb dX10_init_40 rfl (lv_at hl 0 rfl) ?_
  refine lv_bipush (v := 6) hx hb dX10_init_41 (by decide) ?_
  refine va_newa (atype := .int) (ty := .int) (N' := 6) (a0 := (6, .inl (fun _ => 0))) hx hb (hts _ (wz_m tw_1_54)) rfl hK.1 hP hD hS hA (fun _ => rfl) (by decide) (by decide) (Nat.le_of_ble_eq_true rfl) (Nat.le_of_ble_eq_true rfl) (Nat.le_of_ble_eq_true rfl) dX10_init_43 (fun q6 cA H hK2 hP hD hS => ?_)
  obtain rfl : cI = cA := (same_cA hK2 (i := 0) (j := 2) rfl rfl).symm
  clear hK2
  rw [List.append_assoc] at hP hD
  obtain ⟨T6, hT6⟩ : ∃ z : va_W, z = T5 ++ [(q6, .inl (cI, 6, .inl (fun _ => 0)))] := ⟨_, rfl⟩
  rw [← hT6] at hP hD
  replace hY : T6 = [(q1, .inl (cI, 5, .inl (fun _ => 0))), (q2, .inl (cI, 20, .inl (fun _ => 0))), (q3, .inl (cI, 5, .inl (fun _ => 0))), (q4, .inl (cI, 4, .inl (fun _ => 0))), (q5, .inl (cI, 4, .inl (fun _ => 0))), (q6, .inl (cI, 6, .inl (fun _ => 0)))] := by rw [hT6, hY]; rfl
  refine W.widen (k := 6) (n := 44) (Nat.le_of_ble_eq_true rfl) (Nat.le_of_ble_eq_true rfl) ?_
  refine va_putF (D := D) (ci := 10) (v := .ref q6) (C := RX10) (T := TX10) (N := 48) hx hb hts (fun w h => wz_m (inX10 w h)) tyX10 tyX10_ok nmX10 hown hK.1 hP hD hS 0 rfl rfl 9 (by decide) (hts _ (wz_m tw_3_165)) (fun _ h9 => h9) rfl hin rfl (tyX10_ok 9 (by decide)) rfl rfl (by rw [hlen]; decide) dX10_init_45 (fun H locs hP hD hS => ?_)
  obtain ⟨F6, hF6⟩ : ∃ z : List Value, z = F5.set 9 (.ref q6) := ⟨_, rfl⟩
  replace hlen : F6.length = 48 := by rw [hF6, List.length_set]; exact hlen
  replace hP : va_P D vwCl ([(h0, .inr (10, F6))] ++ T6) H := by rw [hF6]; exact hP
  replace hD : va_D (AI h0 s.heap.size) ([(h0, .inr (10, F6))] ++ T6) := by rw [hF6]; exact hD
  replace hX : F6 = [.int 0, .int 0, .ref q1, .ref q2, .ref q3, .int 0, .ref q4, .ref q5, .int 0, .ref q6, .null, .null, .int 0, .int 0, .null, .null, .null, .int 0, .null, .int 0, .int 0, .int 0, .null, .null, .null, .null, .null, .int 0, .null, .null, .null, .null, .long 0, .int 0, .int 0, .int 0, .int 0, .int 0, .null, .null, .null, .null, .null, .null, .null, .null, .null, .long 0] := by rw [hF6, hX]; rfl
  refine lv_aload_n hx hb dX10_init_48 rfl (lv_at hl 0 rfl) ?_
  refine lv_bipush (v := 6) hx hb dX10_init_49 (by decide) ?_
  refine va_newa (atype := .int) (ty := .int) (N' := 6) (a0 := (6, .inl (fun _ => 0))) hx hb (hts _ (wz_m tw_1_54)) rfl hK.1 hP hD hS hA (fun _ => rfl) (by decide) (by decide) (Nat.le_of_ble_eq_true rfl) (Nat.le_of_ble_eq_true rfl) (Nat.le_of_ble_eq_true rfl) dX10_init_51 (fun q7 cA H hK2 hP hD hS => ?_)
  obtain rfl : cI = cA := (same_cA hK2 (i := 0) (j := 2) rfl rfl).symm
  clear hK2
  rw [List.append_assoc] at hP hD
  obtain ⟨T7, hT7⟩ : ∃ z : va_W, z = T6 ++ [(q7, .inl (cI, 6, .inl (fun _ => 0)))] := ⟨_, rfl⟩
  rw [← hT7] at hP hD
  replace hY : T7 = [(q1, .inl (cI, 5, .inl (fun _ => 0))), (q2, .inl (cI, 20, .inl (fun _ => 0))), (q3, .inl (cI, 5, .inl (fun _ => 0))), (q4, .inl (cI, 4, .inl (fun _ => 0))), (q5, .inl (cI, 4, .inl (fun _ => 0))), (q6, .inl (cI, 6, .inl (fun _ => 0))), (q7, .inl (cI, 6, .inl (fun _ => 0)))] := by rw [hT7, hY]; rfl
  refine W.widen (k := 7) (n := 50) (Nat.le_of_ble_eq_true rfl) (Nat.le_of_ble_eq_true rfl) ?_
  refine va_putF (D := D) (ci := 10) (v := .ref q7) (C := RX10) (T := TX10) (N := 48) hx hb hts (fun w h => wz_m (inX10 w h)) tyX10 tyX10_ok nmX10 hown hK.1 hP hD hS 0 rfl rfl 10 (by decide) (hts _ (wz_m tw_3_166)) (fun _ h9 => h9) rfl hin rfl (tyX10_ok 10 (by decide)) rfl rfl (by rw [hlen]; decide) dX10_init_53 (fun H locs hP hD hS => ?_)
  obtain ⟨F7, hF7⟩ : ∃ z : List Value, z = F6.set 10 (.ref q7) := ⟨_, rfl⟩
  replace hlen : F7.length = 48 := by rw [hF7, List.length_set]; exact hlen
  replace hP : va_P D vwCl ([(h0, .inr (10, F7))] ++ T7) H := by rw [hF7]; exact hP
  replace hD : va_D (AI h0 s.heap.size) ([(h0, .inr (10, F7))] ++ T7) := by rw [hF7]; exact hD
  replace hX : F7 = [.int 0, .int 0, .ref q1, .ref q2, .ref q3, .int 0, .ref q4, .ref q5, .int 0, .ref q6, .ref q7, .null, .int 0, .int 0, .null, .null, .null, .int 0, .null, .int 0, .int 0, .int 0, .null, .null, .null, .null, .null, .int 0, .null, .null, .null, .null, .long 0, .int 0, .int 0, .int 0, .int 0, .int 0, .null, .null, .null, .null, .null, .null, .null, .null, .null, .long 0] := by rw [hF7, hX]; rfl
  refine lv_aload_n hx hb dX10_init_56 rfl (lv_at hl 0 rfl) ?_
  refine lv_bipush (v := 6) hx hb dX10_init_57 (by decide) ?_
  refine va_newa (atype := .int) (ty := .int) (N' := 6) (a0 := (6, .inl (fun _ => 0))) hx hb (hts _ (wz_m tw_1_54)) rfl hK.1 hP hD hS hA (fun _ => rfl) (by decide) (by decide) (Nat.le_of_ble_eq_true rfl) (Nat.le_of_ble_eq_true rfl) (Nat.le_of_ble_eq_true rfl) dX10_init_59 (fun q8 cA H hK2 hP hD hS => ?_)
  obtain rfl : cI = cA := (same_cA hK2 (i := 0) (j := 2) rfl rfl).symm
  clear hK2
  rw [List.append_assoc] at hP hD
  obtain ⟨T8, hT8⟩ : ∃ z : va_W, z = T7 ++ [(q8, .inl (cI, 6, .inl (fun _ => 0)))] := ⟨_, rfl⟩
  rw [← hT8] at hP hD
  replace hY : T8 = [(q1, .inl (cI, 5, .inl (fun _ => 0))), (q2, .inl (cI, 20, .inl (fun _ => 0))), (q3, .inl (cI, 5, .inl (fun _ => 0))), (q4, .inl (cI, 4, .inl (fun _ => 0))), (q5, .inl (cI, 4, .inl (fun _ => 0))), (q6, .inl (cI, 6, .inl (fun _ => 0))), (q7, .inl (cI, 6, .inl (fun _ => 0))), (q8, .inl (cI, 6, .inl (fun _ => 0)))] := by rw [hT8, hY]; rfl
  refine W.widen (k := 8) (n := 56) (Nat.le_of_ble_eq_true rfl) (Nat.le_of_ble_eq_true rfl) ?_
  refine va_putF (D := D) (ci := 10) (v := .ref q8) (C := RX10) (T := TX10) (N := 48) hx hb hts (fun w h => wz_m (inX10 w h)) tyX10 tyX10_ok nmX10 hown hK.1 hP hD hS 0 rfl rfl 11 (by decide) (hts _ (wz_m tw_3_167)) (fun _ h9 => h9) rfl hin rfl (tyX10_ok 11 (by decide)) rfl rfl (by rw [hlen]; decide) dX10_init_61 (fun H locs hP hD hS => ?_)
  obtain ⟨F8, hF8⟩ : ∃ z : List Value, z = F7.set 11 (.ref q8) := ⟨_, rfl⟩
  replace hlen : F8.length = 48 := by rw [hF8, List.length_set]; exact hlen
  replace hP : va_P D vwCl ([(h0, .inr (10, F8))] ++ T8) H := by rw [hF8]; exact hP
  replace hD : va_D (AI h0 s.heap.size) ([(h0, .inr (10, F8))] ++ T8) := by rw [hF8]; exact hD
  replace hX : F8 = [.int 0, .int 0, .ref q1, .ref q2, .ref q3, .int 0, .ref q4, .ref q5, .int 0, .ref q6, .ref q7, .ref q8, .int 0, .int 0, .null, .null, .null, .int 0, .null, .int 0, .int 0, .int 0, .null, .null, .null, .null, .null, .int 0, .null, .null, .null, .null, .long 0, .int 0, .int 0, .int 0, .int 0, .int 0, .null, .null, .null, .null, .null, .null, .null, .null, .null, .long 0] := by rw [hF8, hX]; rfl
  refine lv_aload_n hx hb dX10_init_64 rfl (lv_at hl 0 rfl) ?_
  refine lv_bipush (v := 6) hx hb dX10_init_65 (by decide) ?_
  refine va_newa (atype := .int) (ty := .int) (N' := 6) (a0 := (6, .inl (fun _ => 0))) hx hb (hts _ (wz_m tw_1_54)) rfl hK.1 hP hD hS hA (fun _ => rfl) (by decide) (by decide) (Nat.le_of_ble_eq_true rfl) (Nat.le_of_ble_eq_true rfl) (Nat.le_of_ble_eq_true rfl) dX10_init_67 (fun q9 cA H hK2 hP hD hS => ?_)
  obtain rfl : cI = cA := (same_cA hK2 (i := 0) (j := 2) rfl rfl).symm
  clear hK2
  rw [List.append_assoc] at hP hD
  obtain ⟨T9, hT9⟩ : ∃ z : va_W, z = T8 ++ [(q9, .inl (cI, 6, .inl (fun _ => 0)))] := ⟨_, rfl⟩
  rw [← hT9] at hP hD
  replace hY : T9 = [(q1, .inl (cI, 5, .inl (fun _ => 0))), (q2, .inl (cI, 20, .inl (fun _ => 0))), (q3, .inl (cI, 5, .inl (fun _ => 0))), (q4, .inl (cI, 4, .inl (fun _ => 0))), (q5, .inl (cI, 4, .inl (fun _ => 0))), (q6, .inl (cI, 6, .inl (fun _ => 0))), (q7, .inl (cI, 6, .inl (fun _ => 0))), (q8, .inl (cI, 6, .inl (fun _ => 0))), (q9, .inl (cI, 6, .inl (fun _ => 0)))] := by rw [hT9, hY]; rfl
  refine W.widen (k := 9) (n := 62) (Nat.le_of_ble_eq_true rfl) (Nat.le_of_ble_eq_true rfl) ?_
  refine va_putF (D := D) (ci := 10) (v := .ref q9) (C := RX10) (T := TX10) (N := 48) hx hb hts (fun w h => wz_m (inX10 w h)) tyX10 tyX10_ok nmX10 hown hK.1 hP hD hS 0 rfl rfl 14 (by decide) (hts _ (wz_m tw_3_170)) (fun _ h9 => h9) rfl hin rfl (tyX10_ok 14 (by decide)) rfl rfl (by rw [hlen]; decide) dX10_init_69 (fun H locs hP hD hS => ?_)
  obtain ⟨F9, hF9⟩ : ∃ z : List Value, z = F8.set 14 (.ref q9) := ⟨_, rfl⟩
  replace hlen : F9.length = 48 := by rw [hF9, List.length_set]; exact hlen
  replace hP : va_P D vwCl ([(h0, .inr (10, F9))] ++ T9) H := by rw [hF9]; exact hP
  replace hD : va_D (AI h0 s.heap.size) ([(h0, .inr (10, F9))] ++ T9) := by rw [hF9]; exact hD
  replace hX : F9 = [.int 0, .int 0, .ref q1, .ref q2, .ref q3, .int 0, .ref q4, .ref q5, .int 0, .ref q6, .ref q7, .ref q8, .int 0, .int 0, .ref q9, .null, .null, .int 0, .null, .int 0, .int 0, .int 0, .null, .null, .null, .null, .null, .int 0, .null, .null, .null, .null, .long 0, .int 0, .int 0, .int 0, .int 0, .int 0, .null, .null, .null, .null, .null, .null, .null, .null, .null, .long 0] := by rw [hF9, hX]; rfl
  refine lv_aload_n hx hb dX10_init_72 rfl (lv_at hl 0 rfl) ?_
  refine lv_bipush (v := 6) hx hb dX10_init_73 (by decide) ?_
  refine va_newa (atype := .int) (ty := .int) (N' := 6) (a0 := (6, .inl (fun _ => 0))) hx hb (hts _ (wz_m tw_1_54)) rfl hK.1 hP hD hS hA (fun _ => rfl) (by decide) (by decide) (Nat.le_of_ble_eq_true rfl) (Nat.le_of_ble_eq_true rfl) (Nat.le_of_ble_eq_true rfl) dX10_init_75 (fun q10 cA H hK2 hP hD hS => ?_)
  obtain rfl : cI = cA := (same_cA hK2 (i := 0) (j := 2) rfl rfl).symm
  clear hK2
  rw [List.append_assoc] at hP hD
  obtain ⟨T10, hT10⟩ : ∃ z : va_W, z = T9 ++ [(q10, .inl (cI, 6, .inl (fun _ => 0)))] := ⟨_, rfl⟩
  rw [← hT10] at hP hD
  replace hY : T10 = [(q1, .inl (cI, 5, .inl (fun _ => 0))), (q2, .inl (cI, 20, .inl (fun _ => 0))), (q3, .inl (cI, 5, .inl (fun _ => 0))), (q4, .inl (cI, 4, .inl (fun _ => 0))), (q5, .inl (cI, 4, .inl (fun _ => 0))), (q6, .inl (cI, 6, .inl (fun _ => 0))), (q7, .inl (cI, 6, .inl (fun _ => 0))), (q8, .inl (cI, 6, .inl (fun _ => 0))), (q9, .inl (cI, 6, .inl (fun _ => 0))), (q10, .inl (cI, 6, .inl (fun _ => 0)))] := by rw [hT10, hY]; rfl
  refine W.widen (k := 10) (n := 68) (Nat.le_of_ble_eq_true rfl) (Nat.le_of_ble_eq_true rfl) ?_
  refine va_putF (D := D) (ci := 10) (v := .ref q10) (C := RX10) (T := TX10) (N := 48) hx hb hts (fun w h => wz_m (inX10 w h)) tyX10 tyX10_ok nmX10 hown hK.1 hP hD hS 0 rfl rfl 15 (by decide) (hts _ (wz_m tw_3_171)) (fun _ h9 => h9) rfl hin rfl (tyX10_ok 15 (by decide)) rfl rfl (by rw [hlen]; decide) dX10_init_77 (fun H locs hP hD hS => ?_)
  obtain ⟨F10, hF10⟩ : ∃ z : List Value, z = F9.set 15 (.ref q10) := ⟨_, rfl⟩
  replace hlen : F10.length = 48 := by rw [hF10, List.length_set]; exact hlen
  replace hP : va_P D vwCl ([(h0, .inr (10, F10))] ++ T10) H := by rw [hF10]; exact hP
  replace hD : va_D (AI h0 s.heap.size) ([(h0, .inr (10, F10))] ++ T10) := by rw [hF10]; exact hD
  replace hX : F10 = [.int 0, .int 0, .ref q1, .ref q2, .ref q3, .int 0, .ref q4, .ref q5, .int 0, .ref q6, .ref q7, .ref q8, .int 0, .int 0, .ref q9, .ref q10, .null, .int 0, .null, .int 0, .int 0, .int 0, .null, .null, .null, .null, .null, .int 0, .null, .null, .null, .null, .long 0, .int 0, .int 0, .int 0, .int 0, .int 0, .null, .null, .null, .null, .null, .null, .null, .null, .null, .long 0] := by rw [hF10, hX]; rfl
  refine lv_aload_n hx hb dX10_init_80 rfl (lv_at hl 0 rfl) ?_
  refine lv_bipush (v := 6) hx hb dX10_init_81 (by decide) ?_
  refine va_newa (atype := .int) (ty := .int) (N' := 6) (a0 := (6, .inl (fun _ => 0))) hx hb (hts _ (wz_m tw_1_54)) rfl hK.1 hP hD hS hA (fun _ => rfl) (by decide) (by decide) (Nat.le_of_ble_eq_true rfl) (Nat.le_of_ble_eq_true rfl) (Nat.le_of_ble_eq_true rfl) dX10_init_83 (fun q11 cA H hK2 hP hD hS => ?_)
  obtain rfl : cI = cA := (same_cA hK2 (i := 0) (j := 2) rfl rfl).symm
  clear hK2
  rw [List.append_assoc] at hP hD
  obtain ⟨T11, hT11⟩ : ∃ z : va_W, z = T10 ++ [(q11, .inl (cI, 6, .inl (fun _ => 0)))] := ⟨_, rfl⟩
  rw [← hT11] at hP hD
  replace hY : T11 = [(q1, .inl (cI, 5, .inl (fun _ => 0))), (q2, .inl (cI, 20, .inl (fun _ => 0))), (q3, .inl (cI, 5, .inl (fun _ => 0))), (q4, .inl (cI, 4, .inl (fun _ => 0))), (q5, .inl (cI, 4, .inl (fun _ => 0))), (q6, .inl (cI, 6, .inl (fun _ => 0))), (q7, .inl (cI, 6, .inl (fun _ => 0))), (q8, .inl (cI, 6, .inl (fun _ => 0))), (q9, .inl (cI, 6, .inl (fun _ => 0))), (q10, .inl (cI, 6, .inl (fun _ => 0))), (q11, .inl (cI, 6, .inl (fun _ => 0)))] := by rw [hT11, hY]; rfl
  refine W.widen (k := 11) (n := 74) (Nat.le_of_ble_eq_true rfl) (Nat.le_of_ble_eq_true rfl) ?_
  refine va_putF (D := D) (ci := 10) (v := .ref q11) (C := RX10) (T := TX10) (N := 48) hx hb hts (fun w h => wz_m (inX10 w h)) tyX10 tyX10_ok nmX10 hown hK.1 hP hD hS 0 rfl rfl 16 (by decide) (hts _ (wz_m tw_3_172)) (fun _ h9 => h9) rfl hin rfl (tyX10_ok 16 (by decide)) rfl rfl (by rw [hlen]; decide) dX10_init_85 (fun H locs hP hD hS => ?_)
  obtain ⟨F11, hF11⟩ : ∃ z : List Value, z = F10.set 16 (.ref q11) := ⟨_, rfl⟩
  replace hlen : F11.length = 48 := by rw [hF11, List.length_set]; exact hlen
  replace hP : va_P D vwCl ([(h0, .inr (10, F11))] ++ T11) H := by rw [hF11]; exact hP
  replace hD : va_D (AI h0 s.heap.size) ([(h0, .inr (10, F11))] ++ T11) := by rw [hF11]; exact hD
  replace hX : F11 = [.int 0, .int 0, .ref q1, .ref q2, .ref q3, .int 0, .ref q4, .ref q5, .int 0, .ref q6, .ref q7, .ref q8, .int 0, .int 0, .ref q9, .ref q10, .ref q11, .int 0, .null, .int 0, .int 0, .int 0, .null, .null, .null, .null, .null, .int 0, .null, .null, .null, .null, .long 0, .int 0, .int 0, .int 0, .int 0, .int 0, .null, .null, .null, .null, .null, .null, .null, .null, .null, .long 0] := by rw [hF11, hX]; rfl
  refine lv_aload_n hx hb dX10_init_88 rfl (lv_at hl 0 rfl) ?_
  refine lv_bipush (v := 54) hx hb dX10_init_89 (by decide) ?_
  refine va_newa (atype := .byte) (ty := .byte) (N' := 54) (a0 := (54, .inl (fun _ => 0))) hx hb (hts _ (wz_m tw_4_61)) rfl hK.1 hP hD hS hA (fun _ => rfl) (by decide) (by decide) (Nat.le_of_ble_eq_true rfl) (Nat.le_of_ble_eq_true rfl) (Nat.le_of_ble_eq_true rfl) dX10_init_91 (fun q12 cA H hK2 hP hD hS => ?_)
  obtain rfl : cB = cA := (same_cA hK2 (i := 1) (j := 2) rfl rfl).symm
  clear hK2
  rw [List.append_assoc] at hP hD
  obtain ⟨T12, hT12⟩ : ∃ z : va_W, z = T11 ++ [(q12, .inl (cB, 54, .inl (fun _ => 0)))] := ⟨_, rfl⟩
  rw [← hT12] at hP hD
  replace hY : T12 = [(q1, .inl (cI, 5, .inl (fun _ => 0))), (q2, .inl (cI, 20, .inl (fun _ => 0))), (q3, .inl (cI, 5, .inl (fun _ => 0))), (q4, .inl (cI, 4, .inl (fun _ => 0))), (q5, .inl (cI, 4, .inl (fun _ => 0))), (q6, .inl (cI, 6, .inl (fun _ => 0))), (q7, .inl (cI, 6, .inl (fun _ => 0))), (q8, .inl (cI, 6, .inl (fun _ => 0))), (q9, .inl (cI, 6, .inl (fun _ => 0))), (q10, .inl (cI, 6, .inl (fun _ => 0))), (q11, .inl (cI, 6, .inl (fun _ => 0))), (q12, .inl (cB, 54, .inl (fun _ => 0)))] := by rw [hT12, hY]; rfl
  refine W.widen (k := 12) (n := 128) (Nat.le_of_ble_eq_true rfl) (Nat.le_of_ble_eq_true rfl) ?_
  refine va_putF (D := D) (ci := 10) (v := .ref q12) (C := RX10) (T := TX10) (N := 48) hx hb hts (fun w h => wz_m (inX10 w h)) tyX10 tyX10_ok nmX10 hown hK.1 hP hD hS 0 rfl rfl 18 (by decide) (hts _ (wz_m tw_3_174)) (fun _ h9 => h9) rfl hin rfl (tyX10_ok 18 (by decide)) rfl rfl (by rw [hlen]; decide) dX10_init_93 (fun H locs hP hD hS => ?_)
  obtain ⟨F12, hF12⟩ : ∃ z : List Value, z = F11.set 18 (.ref q12) := ⟨_, rfl⟩
  replace hlen : F12.length = 48 := by rw [hF12, List.length_set]; exact hlen
  replace hP : va_P D vwCl ([(h0, .inr (10, F12))] ++ T12) H := by rw [hF12]; exact hP
  replace hD : va_D (AI h0 s.heap.size) ([(h0, .inr (10, F12))] ++ T12) := by rw [hF12]; exact hD
  replace hX : F12 = [.int 0, .int 0, .ref q1, .ref q2, .ref q3, .int 0, .ref q4, .ref q5, .int 0, .ref q6, .ref q7, .ref q8, .int 0, .int 0, .ref q9, .ref q10, .ref q11, .int 0, .ref q12, .int 0, .int 0, .int 0, .null, .null, .null, .null, .null, .int 0, .null, .null, .null, .null, .long 0, .int 0, .int 0, .int 0, .int 0, .int 0, .null, .null, .null, .null, .null, .null, .null, .null, .null, .long 0] := by rw [hF12, hX]; rfl
  refine lv_aload_n hx hb dX10_init_96 rfl (lv_at hl 0 rfl) ?_
  refine lv_iconst (v := 5) hx hb dX10_init_97 (by decide) ?_
  refine va_newa (atype := .int) (ty := .int) (N' := 5) (a0 := (5, .inl (fun _ => 0))) hx hb (hts _ (wz_m tw_1_54)) rfl hK.1 hP hD hS hA (fun _ => rfl) (by decide) (by decide) (Nat.le_of_ble_eq_true rfl) (Nat.le_of_ble_eq_true rfl) (Nat.le_of_ble_eq_true rfl) dX10_init_98 (fun q13 cA H hK2 hP hD hS => ?_)
  obtain rfl : cI = cA := (same_cA hK2 (i := 0) (j := 2) rfl rfl).symm
  clear hK2
  rw [List.append_assoc] at hP hD
  obtain ⟨T13, hT13⟩ : ∃ z : va_W, z = T12 ++ [(q13, .inl (cI, 5, .inl (fun _ => 0)))] := ⟨_, rfl⟩
  rw [← hT13] at hP hD
  replace hY : T13 = [(q1, .inl (cI, 5, .inl (fun _ => 0))), (q2, .inl (cI, 20, .inl (fun _ => 0))), (q3, .inl (cI, 5, .inl (fun _ => 0))), (q4, .inl (cI, 4, .inl (fun _ => 0))), (q5, .inl (cI, 4, .inl (fun _ => 0))), (q6, .inl (cI, 6, .inl (fun _ => 0))), (q7, .inl (cI, 6, .inl (fun _ => 0))), (q8, .inl (cI, 6, .inl (fun _ => 0))), (q9, .inl (cI, 6, .inl (fun _ => 0))), (q10, .inl (cI, 6, .inl (fun _ => 0))), (q11, .inl (cI, 6, .inl (fun _ => 0))), (q12, .inl (cB, 54, .inl (fun _ => 0))), (q13, .inl (cI, 5, .inl (fun _ => 0)))] := by rw [hT13, hY]; rfl
  refine W.widen (k := 13) (n := 133) (Nat.le_of_ble_eq_true rfl) (Nat.le_of_ble_eq_true rfl) ?_
  refine va_putF (D := D) (ci := 10) (v := .ref q13) (C := RX10) (T := TX10) (N := 48) hx hb hts (fun w h => wz_m (inX10 w h)) tyX10 tyX10_ok nmX10 hown hK.1 hP hD hS 0 rfl rfl 22 (by decide) (hts _ (wz_m tw_3_178)) (fun _ h9 => h9) rfl hin rfl (tyX10_ok 22 (by decide)) rfl rfl (by rw [hlen]; decide) dX10_init_100 (fun H locs hP hD hS => ?_)
  obtain ⟨F13, hF13⟩ : ∃ z : List Value, z = F12.set 22 (.ref q13) := ⟨_, rfl⟩
  replace hlen : F13.length = 48 := by rw [hF13, List.length_set]; exact hlen
  replace hP : va_P D vwCl ([(h0, .inr (10, F13))] ++ T13) H := by rw [hF13]; exact hP
  replace hD : va_D (AI h0 s.heap.size) ([(h0, .inr (10, F13))] ++ T13) := by rw [hF13]; exact hD
  replace hX : F13 = [.int 0, .int 0, .ref q1, .ref q2, .ref q3, .int 0, .ref q4, .ref q5, .int 0, .ref q6, .ref q7, .ref q8, .int 0, .int 0, .ref q9, .ref q10, .ref q11, .int 0, .ref q12, .int 0, .int 0, .int 0, .ref q13, .null, .null, .null, .null, .int 0, .null, .null, .null, .null, .long 0, .int 0, .int 0, .int 0, .int 0, .int 0, .null, .null, .null, .null, .null, .null, .null, .null, .null, .long 0] := by rw [hF13, hX]; rfl
  refine lv_aload_n hx hb dX10_init_103 rfl (lv_at hl 0 rfl) ?_
  refine lv_bipush (v := 15) hx hb dX10_init_104 (by decide) ?_
  refine va_newa (atype := .int) (ty := .int) (N' := 15) (a0 := (15, .inl (fun _ => 0))) hx hb (hts _ (wz_m tw_1_54)) rfl hK.1 hP hD hS hA (fun _ => rfl) (by decide) (by decide) (Nat.le_of_ble_eq_true rfl) (Nat.le_of_ble_eq_true rfl) (Nat.le_of_ble_eq_true rfl) dX10_init_106 (fun q14 cA H hK2 hP hD hS => ?_)
  obtain rfl : cI = cA := (same_cA hK2 (i := 0) (j := 2) rfl rfl).symm
  clear hK2
  rw [List.append_assoc] at hP hD
  obtain ⟨T14, hT14⟩ : ∃ z : va_W, z = T13 ++ [(q14, .inl (cI, 15, .inl (fun _ => 0)))] := ⟨_, rfl⟩
  rw [← hT14] at hP hD
  replace hY : T14 = [(q1, .inl (cI, 5, .inl (fun _ => 0))), (q2, .inl (cI, 20, .inl (fun _ => 0))), (q3, .inl (cI, 5, .inl (fun _ => 0))), (q4, .inl (cI, 4, .inl (fun _ => 0))), (q5, .inl (cI, 4, .inl (fun _ => 0))), (q6, .inl (cI, 6, .inl (fun _ => 0))), (q7, .inl (cI, 6, .inl (fun _ => 0))), (q8, .inl (cI, 6, .inl (fun _ => 0))), (q9, .inl (cI, 6, .inl (fun _ => 0))), (q10, .inl (cI, 6, .inl (fun _ => 0))), (q11, .inl (cI, 6, .inl (fun _ => 0))), (q12, .inl (cB, 54, .inl (fun _ => 0))), (q13, .inl (cI, 5, .inl (fun _ => 0))), (q14, .inl (cI, 15, .inl (fun _ => 0)))] := by rw [hT14, hY]; rfl
  refine W.widen (k := 14) (n := 148) (Nat.le_of_ble_eq_true rfl) (Nat.le_of_ble_eq_true rfl) ?_
  refine va_putF (D := D) (ci := 10) (v := .ref q14) (C := RX10) (T := TX10) (N := 48) hx hb hts (fun w h => wz_m (inX10 w h)) tyX10 tyX10_ok nmX10 hown hK.1 hP hD hS 0 rfl rfl 23 (by decide) (hts _ (wz_m tw_3_179)) (fun _ h9 => h9) rfl hin rfl (tyX10_ok 23 (by decide)) rfl rfl (by rw [hlen]; decide) dX10_init_108 (fun H locs hP hD hS => ?_)
  obtain ⟨F14, hF14⟩ : ∃ z : List Value, z = F13.set 23 (.ref q14) := ⟨_, rfl⟩
  replace hlen : F14.length = 48 := by rw [hF14, List.length_set]; exact hlen
  replace hP : va_P D vwCl ([(h0, .inr (10, F14))] ++ T14) H := by rw [hF14]; exact hP
  replace hD : va_D (AI h0 s.heap.size) ([(h0, .inr (10, F14))] ++ T14) := by rw [hF14]; exact hD
  replace hX : F14 = [.int 0, .int 0, .ref q1, .ref q2, .ref q3, .int 0, .ref q4, .ref q5, .int 0, .ref q6, .ref q7, .ref q8, .int 0, .int 0, .ref q9, .ref q10, .ref q11, .int 0, .ref q12, .int 0, .int 0, .int 0, .ref q13, .ref q14, .null, .null, .null, .int 0, .null, .null, .null, .null, .long 0, .int 0, .int 0, .int 0, .int 0, .int 0, .null, .null, .null, .null, .null, .null, .null, .null, .null, .long 0] := by rw [hF14, hX]; rfl
  refine lv_aload_n hx hb dX10_init_111 rfl (lv_at hl 0 rfl) ?_
  refine lv_iconst (v := 5) hx hb dX10_init_112 (by decide) ?_
  refine va_newa (atype := .int) (ty := .int) (N' := 5) (a0 := (5, .inl (fun _ => 0))) hx hb (hts _ (wz_m tw_1_54)) rfl hK.1 hP hD hS hA (fun _ => rfl) (by decide) (by decide) (Nat.le_of_ble_eq_true rfl) (Nat.le_of_ble_eq_true rfl) (Nat.le_of_ble_eq_true rfl) dX10_init_113 (fun q15 cA H hK2 hP hD hS => ?_)
  obtain rfl : cI = cA := (same_cA hK2 (i := 0) (j := 2) rfl rfl).symm
  clear hK2
  rw [List.append_assoc] at hP hD
  obtain ⟨T15, hT15⟩ : ∃ z : va_W, z = T14 ++ [(q15, .inl (cI, 5, .inl (fun _ => 0)))] := ⟨_, rfl⟩
  rw [← hT15] at hP hD
  replace hY : T15 = [(q1, .inl (cI, 5, .inl (fun _ => 0))), (q2, .inl (cI, 20, .inl (fun _ => 0))), (q3, .inl (cI, 5, .inl (fun _ => 0))), (q4, .inl (cI, 4, .inl (fun _ => 0))), (q5, .inl (cI, 4, .inl (fun _ => 0))), (q6, .inl (cI, 6, .inl (fun _ => 0))), (q7, .inl (cI, 6, .inl (fun _ => 0))), (q8, .inl (cI, 6, .inl (fun _ => 0))), (q9, .inl (cI, 6, .inl (fun _ => 0))), (q10, .inl (cI, 6, .inl (fun _ => 0))), (q11, .inl (cI, 6, .inl (fun _ => 0))), (q12, .inl (cB, 54, .inl (fun _ => 0))), (q13, .inl (cI, 5, .inl (fun _ => 0))), (q14, .inl (cI, 15, .inl (fun _ => 0))), (q15, .inl (cI, 5, .inl (fun _ => 0)))] := by rw [hT15, hY]; rfl
  refine W.widen (k := 15) (n := 153) (Nat.le_of_ble_eq_true rfl) (Nat.le_of_ble_eq_true rfl) ?_
  refine va_putF (D := D) (ci := 10) (v := .ref q15) (C := RX10) (T := TX10) (N := 48) hx hb hts (fun w h => wz_m (inX10 w h)) tyX10 tyX10_ok nmX10 hown hK.1 hP hD hS 0 rfl rfl 24 (by decide) (hts _ (wz_m tw_3_180)) (fun _ h9 => h9) rfl hin rfl (tyX10_ok 24 (by decide)) rfl rfl (by rw [hlen]; decide) dX10_init_115 (fun H locs hP hD hS => ?_)
  obtain ⟨F15, hF15⟩ : ∃ z : List Value, z = F14.set 24 (.ref q15) := ⟨_, rfl⟩
  replace hlen : F15.length = 48 := by rw [hF15, List.length_set]; exact hlen
  replace hP : va_P D vwCl ([(h0, .inr (10, F15))] ++ T15) H := by rw [hF15]; exact hP
  replace hD : va_D (AI h0 s.heap.size) ([(h0, .inr (10, F15))] ++ T15) := by rw [hF15]; exact hD
  replace hX : F15 = [.int 0, .int 0, .ref q1, .ref q2, .ref q3, .int 0, .ref q4, .ref q5, .int 0, .ref q6, .ref q7, .ref q8, .int 0, .int 0, .ref q9, .ref q10, .ref q11, .int 0, .ref q12, .int 0, .int 0, .int 0, .ref q13, .ref q14, .ref q15, .null, .null, .int 0, .null, .null, .null, .null, .long 0, .int 0, .int 0, .int 0, .int 0, .int 0, .null, .null, .null, .null, .null, .null, .null, .null, .null, .long 0] := by rw [hF15, hX]; rfl
  refine lv_aload_n hx hb dX10_init_118 rfl (lv_at hl 0 rfl) ?_
  refine lv_iconst (v := 4) hx hb dX10_init_119 (by decide) ?_
  refine va_newa (atype := .int) (ty := .int) (N' := 4) (a0 := (4, .inl (fun _ => 0))) hx hb (hts _ (wz_m tw_1_54)) rfl hK.1 hP hD hS hA (fun _ => rfl) (by decide) (by decide) (Nat.le_of_ble_eq_true rfl) (Nat.le_of_ble_eq_true rfl) (Nat.le_of_ble_eq_true rfl) dX10_init_120 (fun q16 cA H hK2 hP hD hS => ?_)
  obtain rfl : cI = cA := (same_cA hK2 (i := 0) (j := 2) rfl rfl).symm
  clear hK2
  rw [List.append_assoc] at hP hD
  obtain ⟨T16, hT16⟩ : ∃ z : va_W, z = T15 ++ [(q16, .inl (cI, 4, .inl (fun _ => 0)))] := ⟨_, rfl⟩
  rw [← hT16] at hP hD
  replace hY : T16 = [(q1, .inl (cI, 5, .inl (fun _ => 0))), (q2, .inl (cI, 20, .inl (fun _ => 0))), (q3, .inl (cI, 5, .inl (fun _ => 0))), (q4, .inl (cI, 4, .inl (fun _ => 0))), (q5, .inl (cI, 4, .inl (fun _ => 0))), (q6, .inl (cI, 6, .inl (fun _ => 0))), (q7, .inl (cI, 6, .inl (fun _ => 0))), (q8, .inl (cI, 6, .inl (fun _ => 0))), (q9, .inl (cI, 6, .inl (fun _ => 0))), (q10, .inl (cI, 6, .inl (fun _ => 0))), (q11, .inl (cI, 6, .inl (fun _ => 0))), (q12, .inl (cB, 54, .inl (fun _ => 0))), (q13, .inl (cI, 5, .inl (fun _ => 0))), (q14, .inl (cI, 15, .inl (fun _ => 0))), (q15, .inl (cI, 5, .inl (fun _ => 0))), (q16, .inl (cI, 4, .inl (fun _ => 0)))] := by rw [hT16, hY]; rfl
  refine W.widen (k := 16) (n := 157) (Nat.le_of_ble_eq_true rfl) (Nat.le_of_ble_eq_true rfl) ?_
  refine va_putF (D := D) (ci := 10) (v := .ref q16) (C := RX10) (T := TX10) (N := 48) hx hb hts (fun w h => wz_m (inX10 w h)) tyX10 tyX10_ok nmX10 hown hK.1 hP hD hS 0 rfl rfl 25 (by decide) (hts _ (wz_m tw_3_181)) (fun _ h9 => h9) rfl hin rfl (tyX10_ok 25 (by decide)) rfl rfl (by rw [hlen]; decide) dX10_init_122 (fun H locs hP hD hS => ?_)
  obtain ⟨F16, hF16⟩ : ∃ z : List Value, z = F15.set 25 (.ref q16) := ⟨_, rfl⟩
  replace hlen : F16.length = 48 := by rw [hF16, List.length_set]; exact hlen
  replace hP : va_P D vwCl ([(h0, .inr (10, F16))] ++ T16) H := by rw [hF16]; exact hP
  replace hD : va_D (AI h0 s.heap.size) ([(h0, .inr (10, F16))] ++ T16) := by rw [hF16]; exact hD
  replace hX : F16 = [.int 0, .int 0, .ref q1, .ref q2, .ref q3, .int 0, .ref q4, .ref q5, .int 0, .ref q6, .ref q7, .ref q8, .int 0, .int 0, .ref q9, .ref q10, .ref q11, .int 0, .ref q12, .int 0, .int 0, .int 0, .ref q13, .ref q14, .ref q15, .ref q16, .null, .int 0, .null, .null, .null, .null, .long 0, .int 0, .int 0, .int 0, .int 0, .int 0, .null, .null, .null, .null, .null, .null, .null, .null, .null, .long 0] := by rw [hF16, hX]; rfl
  refine lv_aload_n hx hb dX10_init_125 rfl (lv_at hl 0 rfl) ?_
  refine lv_iconst (v := 4) hx hb dX10_init_126 (by decide) ?_
  refine va_newa (atype := .int) (ty := .int) (N' := 4) (a0 := (4, .inl (fun _ => 0))) hx hb (hts _ (wz_m tw_1_54)) rfl hK.1 hP hD hS hA (fun _ => rfl) (by decide) (by decide) (Nat.le_of_ble_eq_true rfl) (Nat.le_of_ble_eq_true rfl) (Nat.le_of_ble_eq_true rfl) dX10_init_127 (fun q17 cA H hK2 hP hD hS => ?_)
  obtain rfl : cI = cA := (same_cA hK2 (i := 0) (j := 2) rfl rfl).symm
  clear hK2
  rw [List.append_assoc] at hP hD
  obtain ⟨T17, hT17⟩ : ∃ z : va_W, z = T16 ++ [(q17, .inl (cI, 4, .inl (fun _ => 0)))] := ⟨_, rfl⟩
  rw [← hT17] at hP hD
  replace hY : T17 = [(q1, .inl (cI, 5, .inl (fun _ => 0))), (q2, .inl (cI, 20, .inl (fun _ => 0))), (q3, .inl (cI, 5, .inl (fun _ => 0))), (q4, .inl (cI, 4, .inl (fun _ => 0))), (q5, .inl (cI, 4, .inl (fun _ => 0))), (q6, .inl (cI, 6, .inl (fun _ => 0))), (q7, .inl (cI, 6, .inl (fun _ => 0))), (q8, .inl (cI, 6, .inl (fun _ => 0))), (q9, .inl (cI, 6, .inl (fun _ => 0))), (q10, .inl (cI, 6, .inl (fun _ => 0))), (q11, .inl (cI, 6, .inl (fun _ => 0))), (q12, .inl (cB, 54, .inl (fun _ => 0))), (q13, .inl (cI, 5, .inl (fun _ => 0))), (q14, .inl (cI, 15, .inl (fun _ => 0))), (q15, .inl (cI, 5, .inl (fun _ => 0))), (q16, .inl (cI, 4, .inl (fun _ => 0))), (q17, .inl (cI, 4, .inl (fun _ => 0)))] := by rw [hT17, hY]; rfl
  refine W.widen (k := 17) (n := 161) (Nat.le_of_ble_eq_true rfl) (Nat.le_of_ble_eq_true rfl) ?_
  refine va_putF (D := D) (ci := 10) (v := .ref q17) (C := RX10) (T := TX10) (N := 48) hx hb hts (fun w h => wz_m (inX10 w h)) tyX10 tyX10_ok nmX10 hown hK.1 hP hD hS 0 rfl rfl 26 (by decide) (hts _ (wz_m tw_3_182)) (fun _ h9 => h9) rfl hin rfl (tyX10_ok 26 (by decide)) rfl rfl (by rw [hlen]; decide) dX10_init_129 (fun H locs hP hD hS => ?_)
  obtain ⟨F17, hF17⟩ : ∃ z : List Value, z = F16.set 26 (.ref q17) := ⟨_, rfl⟩
  replace hlen : F17.length = 48 := by rw [hF17, List.length_set]; exact hlen
  replace hP : va_P D vwCl ([(h0, .inr (10, F17))] ++ T17) H := by rw [hF17]; exact hP
  replace hD : va_D (AI h0 s.heap.size) ([(h0, .inr (10, F17))] ++ T17) := by rw [hF17]; exact hD
  replace hX : F17 = [.int 0, .int 0, .ref q1, .ref q2, .ref q3, .int 0, .ref q4, .ref q5, .int 0, .ref q6, .ref q7, .ref q8, .int 0, .int 0, .ref q9, .ref q10, .ref q11, .int 0, .ref q12, .int 0, .int 0, .int 0, .ref q13, .ref q14, .ref q15, .ref q16, .ref q17, .int 0, .null, .null, .null, .null, .long 0, .int 0, .int 0, .int 0, .int 0, .int 0, .null, .null, .null, .null, .null, .null, .null, .null, .null, .long 0] := by rw [hF17, hX]; rfl
  refine lv_aload_n hx hb dX10_init_132 rfl (lv_at hl 0 rfl) ?_
  refine lv_bipush (v := 20) hx hb dX10_init_133 (by decide) ?_
  refine va_newa (atype := .int) (ty := .int) (N' := 20) (a0 := (20, .inl (fun _ => 0))) hx hb (hts _ (wz_m tw_1_54)) rfl hK.1 hP hD hS hA (fun _ => rfl) (by decide) (by decide) (Nat.le_of_ble_eq_true rfl) (Nat.le_of_ble_eq_true rfl) (Nat.le_of_ble_eq_true rfl) dX10_init_135 (fun q18 cA H hK2 hP hD hS => ?_)
  obtain rfl : cI = cA := (same_cA hK2 (i := 0) (j := 2) rfl rfl).symm
  clear hK2
  rw [List.append_assoc] at hP hD
  obtain ⟨T18, hT18⟩ : ∃ z : va_W, z = T17 ++ [(q18, .inl (cI, 20, .inl (fun _ => 0)))] := ⟨_, rfl⟩
  rw [← hT18] at hP hD
  replace hY : T18 = [(q1, .inl (cI, 5, .inl (fun _ => 0))), (q2, .inl (cI, 20, .inl (fun _ => 0))), (q3, .inl (cI, 5, .inl (fun _ => 0))), (q4, .inl (cI, 4, .inl (fun _ => 0))), (q5, .inl (cI, 4, .inl (fun _ => 0))), (q6, .inl (cI, 6, .inl (fun _ => 0))), (q7, .inl (cI, 6, .inl (fun _ => 0))), (q8, .inl (cI, 6, .inl (fun _ => 0))), (q9, .inl (cI, 6, .inl (fun _ => 0))), (q10, .inl (cI, 6, .inl (fun _ => 0))), (q11, .inl (cI, 6, .inl (fun _ => 0))), (q12, .inl (cB, 54, .inl (fun _ => 0))), (q13, .inl (cI, 5, .inl (fun _ => 0))), (q14, .inl (cI, 15, .inl (fun _ => 0))), (q15, .inl (cI, 5, .inl (fun _ => 0))), (q16, .inl (cI, 4, .inl (fun _ => 0))), (q17, .inl (cI, 4, .inl (fun _ => 0))), (q18, .inl (cI, 20, .inl (fun _ => 0)))] := by rw [hT18, hY]; rfl
  refine W.widen (k := 18) (n := 181) (Nat.le_of_ble_eq_true rfl) (Nat.le_of_ble_eq_true rfl) ?_
  refine va_putF (D := D) (ci := 10) (v := .ref q18) (C := RX10) (T := TX10) (N := 48) hx hb hts (fun w h => wz_m (inX10 w h)) tyX10 tyX10_ok nmX10 hown hK.1 hP hD hS 0 rfl rfl 28 (by decide) (hts _ (wz_m tw_3_184)) (fun _ h9 => h9) rfl hin rfl (tyX10_ok 28 (by decide)) rfl rfl (by rw [hlen]; decide) dX10_init_137 (fun H locs hP hD hS => ?_)
  obtain ⟨F18, hF18⟩ : ∃ z : List Value, z = F17.set 28 (.ref q18) := ⟨_, rfl⟩
  replace hlen : F18.length = 48 := by rw [hF18, List.length_set]; exact hlen
  replace hP : va_P D vwCl ([(h0, .inr (10, F18))] ++ T18) H := by rw [hF18]; exact hP
  replace hD : va_D (AI h0 s.heap.size) ([(h0, .inr (10, F18))] ++ T18) := by rw [hF18]; exact hD
  replace hX : F18 = [.int 0, .int 0, .ref q1, .ref q2, .ref q3, .int 0, .ref q4, .ref q5, .int 0, .ref q6, .ref q7, .ref q8, .int 0, .int 0, .ref q9, .ref q10, .ref q11, .int 0, .ref q12, .int 0, .int 0, .int 0, .ref q13, .ref q14, .ref q15, .ref q16, .ref q17, .int 0, .ref q18, .null, .null, .null, .long 0, .int 0, .int 0, .int 0, .int 0, .int 0, .null, .null, .null, .null, .null, .null, .null, .null, .null, .long 0] := by rw [hF18, hX]; rfl
  refine lv_aload_n hx hb dX10_init_140 rfl (lv_at hl 0 rfl) ?_
  refine lv_iconst (v := 5) hx hb dX10_init_141 (by decide) ?_
  refine va_newa (atype := .int) (ty := .int) (N' := 5) (a0 := (5, .inl (fun _ => 0))) hx hb (hts _ (wz_m tw_1_54)) rfl hK.1 hP hD hS hA (fun _ => rfl) (by decide) (by decide) (Nat.le_of_ble_eq_true rfl) (Nat.le_of_ble_eq_true rfl) (Nat.le_of_ble_eq_true rfl) dX10_init_142 (fun q19 cA H hK2 hP hD hS => ?_)
  obtain rfl : cI = cA := (same_cA hK2 (i := 0) (j := 2) rfl rfl).symm
  clear hK2
  rw [List.append_assoc] at hP hD
  obtain ⟨T19, hT19⟩ : ∃ z : va_W, z = T18 ++ [(q19, .inl (cI, 5, .inl (fun _ => 0)))] := ⟨_, rfl⟩
  rw [← hT19] at hP hD
  replace hY : T19 = [(q1, .inl (cI, 5, .inl (fun _ => 0))), (q2, .inl (cI, 20, .inl (fun _ => 0))), (q3, .inl (cI, 5, .inl (fun _ => 0))), (q4, .inl (cI, 4, .inl (fun _ => 0))), (q5, .inl (cI, 4, .inl (fun _ => 0))), (q6, .inl (cI, 6, .inl (fun _ => 0))), (q7, .inl (cI, 6, .inl (fun _ => 0))), (q8, .inl (cI, 6, .inl (fun _ => 0))), (q9, .inl (cI, 6, .inl (fun _ => 0))), (q10, .inl (cI, 6, .inl (fun _ => 0))), (q11, .inl (cI, 6, .inl (fun _ => 0))), (q12, .inl (cB, 54, .inl (fun _ => 0))), (q13, .inl (cI, 5, .inl (fun _ => 0))), (q14, .inl (cI, 15, .inl (fun _ => 0))), (q15, .inl (cI, 5, .inl (fun _ => 0))), (q16, .inl (cI, 4, .inl (fun _ => 0))), (q17, .inl (cI, 4, .inl (fun _ => 0))), (q18, .inl (cI, 20, .inl (fun _ => 0))), (q19, .inl (cI, 5, .inl (fun _ => 0)))] := by rw [hT19, hY]; rfl
  refine W.widen (k := 19) (n := 186) (Nat.le_of_ble_eq_true rfl) (Nat.le_of_ble_eq_true rfl) ?_
  refine va_putF (D := D) (ci := 10) (v := .ref q19) (C := RX10) (T := TX10) (N := 48) hx hb hts (fun w h => wz_m (inX10 w h)) tyX10 tyX10_ok nmX10 hown hK.1 hP hD hS 0 rfl rfl 29 (by decide) (hts _ (wz_m tw_3_185)) (fun _ h9 => h9) rfl hin rfl (tyX10_ok 29 (by decide)) rfl rfl (by rw [hlen]; decide) dX10_init_144 (fun H locs hP hD hS => ?_)
  obtain ⟨F19, hF19⟩ : ∃ z : List Value, z = F18.set 29 (.ref q19) := ⟨_, rfl⟩
  replace hlen : F19.length = 48 := by rw [hF19, List.length_set]; exact hlen
  replace hP : va_P D vwCl ([(h0, .inr (10, F19))] ++ T19) H := by rw [hF19]; exact hP
  replace hD : va_D (AI h0 s.heap.size) ([(h0, .inr (10, F19))] ++ T19) := by rw [hF19]; exact hD
  replace hX : F19 = [.int 0, .int 0, .ref q1, .ref q2, .ref q3, .int 0, .ref q4, .ref q5, .int 0, .ref q6, .ref q7, .ref q8, .int 0, .int 0, .ref q9, .ref q10, .ref q11, .int 0, .ref q12, .int 0, .int 0, .int 0, .ref q13, .ref q14, .ref q15, .ref q16, .ref q17, .int 0, .ref q18, .ref q19, .null, .null, .long 0, .int 0, .int 0, .int 0, .int 0, .int 0, .null, .null, .null, .null, .null, .null, .null, .null, .null, .long 0] := by rw [hF19, hX]; rfl
  refine lv_aload_n hx hb dX10_init_147 rfl (lv_at hl 0 rfl) ?_
  refine lv_bipush (v := 7) hx hb dX10_init_148 (by decide) ?_
  refine va_newa (atype := .int) (ty := .int) (N' := 7) (a0 := (7, .inl (fun _ => 0))) hx hb (hts _ (wz_m tw_1_54)) rfl hK.1 hP hD hS hA (fun _ => rfl) (by decide) (by decide) (Nat.le_of_ble_eq_true rfl) (Nat.le_of_ble_eq_true rfl) (Nat.le_of_ble_eq_true rfl) dX10_init_150 (fun q20 cA H hK2 hP hD hS => ?_)
  obtain rfl : cI = cA := (same_cA hK2 (i := 0) (j := 2) rfl rfl).symm
  clear hK2
  rw [List.append_assoc] at hP hD
  obtain ⟨T20, hT20⟩ : ∃ z : va_W, z = T19 ++ [(q20, .inl (cI, 7, .inl (fun _ => 0)))] := ⟨_, rfl⟩
  rw [← hT20] at hP hD
  replace hY : T20 = [(q1, .inl (cI, 5, .inl (fun _ => 0))), (q2, .inl (cI, 20, .inl (fun _ => 0))), (q3, .inl (cI, 5, .inl (fun _ => 0))), (q4, .inl (cI, 4, .inl (fun _ => 0))), (q5, .inl (cI, 4, .inl (fun _ => 0))), (q6, .inl (cI, 6, .inl (fun _ => 0))), (q7, .inl (cI, 6, .inl (fun _ => 0))), (q8, .inl (cI, 6, .inl (fun _ => 0))), (q9, .inl (cI, 6, .inl (fun _ => 0))), (q10, .inl (cI, 6, .inl (fun _ => 0))), (q11, .inl (cI, 6, .inl (fun _ => 0))), (q12, .inl (cB, 54, .inl (fun _ => 0))), (q13, .inl (cI, 5, .inl (fun _ => 0))), (q14, .inl (cI, 15, .inl (fun _ => 0))), (q15, .inl (cI, 5, .inl (fun _ => 0))), (q16, .inl (cI, 4, .inl (fun _ => 0))), (q17, .inl (cI, 4, .inl (fun _ => 0))), (q18, .inl (cI, 20, .inl (fun _ => 0))), (q19, .inl (cI, 5, .inl (fun _ => 0))), (q20, .inl (cI, 7, .inl (fun _ => 0)))] := by rw [hT20, hY]; rfl
  refine W.widen (k := 20) (n := 193) (Nat.le_of_ble_eq_true rfl) (Nat.le_of_ble_eq_true rfl) ?_
  refine va_putF (D := D) (ci := 10) (v := .ref q20) (C := RX10) (T := TX10) (N := 48) hx hb hts (fun w h => wz_m (inX10 w h)) tyX10 tyX10_ok nmX10 hown hK.1 hP hD hS 0 rfl rfl 30 (by decide) (hts _ (wz_m tw_3_186)) (fun _ h9 => h9) rfl hin rfl (tyX10_ok 30 (by decide)) rfl rfl (by rw [hlen]; decide) dX10_init_152 (fun H locs hP hD hS => ?_)
  obtain ⟨F20, hF20⟩ : ∃ z : List Value, z = F19.set 30 (.ref q20) := ⟨_, rfl⟩
  replace hlen : F20.length = 48 := by rw [hF20, List.length_set]; exact hlen
  replace hP : va_P D vwCl ([(h0, .inr (10, F20))] ++ T20) H := by rw [hF20]; exact hP
  replace hD : va_D (AI h0 s.heap.size) ([(h0, .inr (10, F20))] ++ T20) := by rw [hF20]; exact hD
  replace hX : F20 = [.int 0, .int 0, .ref q1, .ref q2, .ref q3, .int 0, .ref q4, .ref q5, .int 0, .ref q6, .ref q7, .ref q8, .int 0, .int 0, .ref q9, .ref q10, .ref q11, .int 0, .ref q12, .int 0, .int 0, .int 0, .ref q13, .ref q14, .ref q15, .ref q16, .ref q17, .int 0, .ref q18, .ref q19, .ref q20, .null, .long 0, .int 0, .int 0, .int 0, .int 0, .int 0, .null, .null, .null, .null, .null, .null, .null, .null, .null, .long 0] := by rw [hF20, hX]; rfl
  refine lv_aload_n hx hb dX10_init_155 rfl (lv_at hl 0 rfl) ?_
  refine lv_sipush (v := 128) hx hb dX10_init_156 (by decide) ?_
  refine va_newa (atype := .int) (ty := .int) (N' := 128) (a0 := (128, .inl (fun _ => 0))) hx hb (hts _ (wz_m tw_1_54)) rfl hK.1 hP hD hS hA (fun _ => rfl) (by decide) (by decide) (Nat.le_of_ble_eq_true rfl) (Nat.le_of_ble_eq_true rfl) (Nat.le_of_ble_eq_true rfl) dX10_init_159 (fun q21 cA H hK2 hP hD hS => ?_)
  obtain rfl : cI = cA := (same_cA hK2 (i := 0) (j := 2) rfl rfl).symm
  clear hK2
  rw [List.append_assoc] at hP hD
  obtain ⟨T21, hT21⟩ : ∃ z : va_W, z = T20 ++ [(q21, .inl (cI, 128, .inl (fun _ => 0)))] := ⟨_, rfl⟩
  rw [← hT21] at hP hD
  replace hY : T21 = [(q1, .inl (cI, 5, .inl (fun _ => 0))), (q2, .inl (cI, 20, .inl (fun _ => 0))), (q3, .inl (cI, 5, .inl (fun _ => 0))), (q4, .inl (cI, 4, .inl (fun _ => 0))), (q5, .inl (cI, 4, .inl (fun _ => 0))), (q6, .inl (cI, 6, .inl (fun _ => 0))), (q7, .inl (cI, 6, .inl (fun _ => 0))), (q8, .inl (cI, 6, .inl (fun _ => 0))), (q9, .inl (cI, 6, .inl (fun _ => 0))), (q10, .inl (cI, 6, .inl (fun _ => 0))), (q11, .inl (cI, 6, .inl (fun _ => 0))), (q12, .inl (cB, 54, .inl (fun _ => 0))), (q13, .inl (cI, 5, .inl (fun _ => 0))), (q14, .inl (cI, 15, .inl (fun _ => 0))), (q15, .inl (cI, 5, .inl (fun _ => 0))), (q16, .inl (cI, 4, .inl (fun _ => 0))), (q17, .inl (cI, 4, .inl (fun _ => 0))), (q18, .inl (cI, 20, .inl (fun _ => 0))), (q19, .inl (cI, 5, .inl (fun _ => 0))), (q20, .inl (cI, 7, .inl (fun _ => 0))), (q21, .inl (cI, 128, .inl (fun _ => 0)))] := by rw [hT21, hY]; rfl
  refine W.widen (k := 21) (n := 321) (Nat.le_of_ble_eq_true rfl) (Nat.le_of_ble_eq_true rfl) ?_
  refine va_putF (D := D) (ci := 10) (v := .ref q21) (C := RX10) (T := TX10) (N := 48) hx hb hts (fun w h => wz_m (inX10 w h)) tyX10 tyX10_ok nmX10 hown hK.1 hP hD hS 0 rfl rfl 31 (by decide) (hts _ (wz_m tw_3_187)) (fun _ h9 => h9) rfl hin rfl (tyX10_ok 31 (by decide)) rfl rfl (by rw [hlen]; decide) dX10_init_161 (fun H locs hP hD hS => ?_)
  obtain ⟨F21, hF21⟩ : ∃ z : List Value, z = F20.set 31 (.ref q21) := ⟨_, rfl⟩
  replace hlen : F21.length = 48 := by rw [hF21, List.length_set]; exact hlen
  replace hP : va_P D vwCl ([(h0, .inr (10, F21))] ++ T21) H := by rw [hF21]; exact hP
  replace hD : va_D (AI h0 s.heap.size) ([(h0, .inr (10, F21))] ++ T21) := by rw [hF21]; exact hD
  replace hX : F21 = [.int 0, .int 0, .ref q1, .ref q2, .ref q3, .int 0, .ref q4, .ref q5, .int 0, .ref q6, .ref q7, .ref q8, .int 0, .int 0, .ref q9, .ref q10, .ref q11, .int 0, .ref q12, .int 0, .int 0, .int 0, .ref q13, .ref q14, .ref q15, .ref q16, .ref q17, .int 0, .ref q18, .ref q19, .ref q20, .ref q21, .long 0, .int 0, .int 0, .int 0, .int 0, .int 0, .null, .null, .null, .null, .null, .null, .null, .null, .null, .long 0] := by rw [hF21, hX]; rfl
  refine lv_aload_n hx hb dX10_init_164 rfl (lv_at hl 0 rfl) ?_
  refine lv_iconst (v := 5) hx hb dX10_init_165 (by decide) ?_
  refine va_newa (atype := .int) (ty := .int) (N' := 5) (a0 := (5, .inl (fun _ => 0))) hx hb (hts _ (wz_m tw_1_54)) rfl hK.1 hP hD hS hA (fun _ => rfl) (by decide) (by decide) (Nat.le_of_ble_eq_true rfl) (Nat.le_of_ble_eq_true rfl) (Nat.le_of_ble_eq_true rfl) dX10_init_166 (fun q22 cA H hK2 hP hD hS => ?_)
  obtain rfl : cI = cA := (same_cA hK2 (i := 0) (j := 2) rfl rfl).symm
  clear hK2
  rw [List.append_assoc] at hP hD
  obtain ⟨T22, hT22⟩ : ∃ z : va_W, z = T21 ++ [(q22, .inl (cI, 5, .inl (fun _ => 0)))] := ⟨_, rfl⟩
  rw [← hT22] at hP hD
  replace hY : T22 = [(q1, .inl (cI, 5, .inl (fun _ => 0))), (q2, .inl (cI, 20, .inl (fun _ => 0))), (q3, .inl (cI, 5, .inl (fun _ => 0))), (q4, .inl (cI, 4, .inl (fun _ => 0))), (q5, .inl (cI, 4, .inl (fun _ => 0))), (q6, .inl (cI, 6, .inl (fun _ => 0))), (q7, .inl (cI, 6, .inl (fun _ => 0))), (q8, .inl (cI, 6, .inl (fun _ => 0))), (q9, .inl (cI, 6, .inl (fun _ => 0))), (q10, .inl (cI, 6, .inl (fun _ => 0))), (q11, .inl (cI, 6, .inl (fun _ => 0))), (q12, .inl (cB, 54, .inl (fun _ => 0))), (q13, .inl (cI, 5, .inl (fun _ => 0))), (q14, .inl (cI, 15, .inl (fun _ => 0))), (q15, .inl (cI, 5, .inl (fun _ => 0))), (q16, .inl (cI, 4, .inl (fun _ => 0))), (q17, .inl (cI, 4, .inl (fun _ => 0))), (q18, .inl (cI, 20, .inl (fun _ => 0))), (q19, .inl (cI, 5, .inl (fun _ => 0))), (q20, .inl (cI, 7, .inl (fun _ => 0))), (q21, .inl (cI, 128, .inl (fun _ => 0))), (q22, .inl (cI, 5, .inl (fun _ => 0)))] := by rw [hT22, hY]; rfl
  refine W.widen (k := 22) (n := 326) (Nat.le_of_ble_eq_true rfl) (Nat.le_of_ble_eq_true rfl) ?_
  refine va_putF (D := D) (ci := 10) (v := .ref q22) (C := RX10) (T := TX10) (N := 48) hx hb hts (fun w h => wz_m (inX10 w h)) tyX10 tyX10_ok nmX10 hown hK.1 hP hD hS 0 rfl rfl 38 (by decide) (hts _ (wz_m tw_3_194)) (fun _ h9 => h9) rfl hin rfl (tyX10_ok 38 (by decide)) rfl rfl (by rw [hlen]; decide) dX10_init_168 (fun H locs hP hD hS => ?_)
  obtain ⟨F22, hF22⟩ : ∃ z : List Value, z = F21.set 38 (.ref q22) := ⟨_, rfl⟩
  replace hlen : F22.length = 48 := by rw [hF22, List.length_set]; exact hlen
  replace hP : va_P D vwCl ([(h0, .inr (10, F22))] ++ T22) H := by rw [hF22]; exact hP
  replace hD : va_D (AI h0 s.heap.size) ([(h0, .inr (10, F22))] ++ T22) := by rw [hF22]; exact hD
  replace hX : F22 = [.int 0, .int 0, .ref q1, .ref q2, .ref q3, .int 0, .ref q4, .ref q5, .int 0, .ref q6, .ref q7, .ref q8, .int 0, .int 0, .ref q9, .ref q10, .ref q11, .int 0, .ref q12, .int 0, .int 0, .int 0, .ref q13, .ref q14, .ref q15, .ref q16, .ref q17, .int 0, .ref q18, .ref q19, .ref q20, .ref q21, .long 0, .int 0, .int 0, .int 0, .int 0, .int 0, .ref q22, .null, .null, .null, .null, .null, .null, .null, .null, .long 0] := by rw [hF22, hX]; rfl
  refine lv_aload_n hx hb dX10_init_171 rfl (lv_at hl 0 rfl) ?_
  refine lv_bipush (v := 20) hx hb dX10_init_172 (by decide) ?_
  refine va_newa (atype := .int) (ty := .int) (N' := 20) (a0 := (20, .inl (fun _ => 0))) hx hb (hts _ (wz_m tw_1_54)) rfl hK.1 hP hD hS hA (fun _ => rfl) (by decide) (by decide) (Nat.le_of_ble_eq_true rfl) (Nat.le_of_ble_eq_true rfl) (Nat.le_of_ble_eq_true rfl) dX10_init_174 (fun q23 cA H hK2 hP hD hS => ?_)
  obtain rfl : cI = cA := (same_cA hK2 (i := 0) (j := 2) rfl rfl).symm
  clear hK2
  rw [List.append_assoc] at hP hD
  obtain ⟨T23, hT23⟩ : ∃ z : va_W, z = T22 ++ [(q23, .inl (cI, 20, .inl (fun _ => 0)))] := ⟨_, rfl⟩
  rw [← hT23] at hP hD
  replace hY : T23 = [(q1, .inl (cI, 5, .inl (fun _ => 0))), (q2, .inl (cI, 20, .inl (fun _ => 0))), (q3, .inl (cI, 5, .inl (fun _ => 0))), (q4, .inl (cI, 4, .inl (fun _ => 0))), (q5, .inl (cI, 4, .inl (fun _ => 0))), (q6, .inl (cI, 6, .inl (fun _ => 0))), (q7, .inl (cI, 6, .inl (fun _ => 0))), (q8, .inl (cI, 6, .inl (fun _ => 0))), (q9, .inl (cI, 6, .inl (fun _ => 0))), (q10, .inl (cI, 6, .inl (fun _ => 0))), (q11, .inl (cI, 6, .inl (fun _ => 0))), (q12, .inl (cB, 54, .inl (fun _ => 0))), (q13, .inl (cI, 5, .inl (fun _ => 0))), (q14, .inl (cI, 15, .inl (fun _ => 0))), (q15, .inl (cI, 5, .inl (fun _ => 0))), (q16, .inl (cI, 4, .inl (fun _ => 0))), (q17, .inl (cI, 4, .inl (fun _ => 0))), (q18, .inl (cI, 20, .inl (fun _ => 0))), (q19, .inl (cI, 5, .inl (fun _ => 0))), (q20, .inl (cI, 7, .inl (fun _ => 0))), (q21, .inl (cI, 128, .inl (fun _ => 0))), (q22, .inl (cI, 5, .inl (fun _ => 0))), (q23, .inl (cI, 20, .inl (fun _ => 0)))] := by rw [hT23, hY]; rfl
  refine W.widen (k := 23) (n := 346) (Nat.le_of_ble_eq_true rfl) (Nat.le_of_ble_eq_true rfl) ?_
  refine va_putF (D := D) (ci := 10) (v := .ref q23) (C := RX10) (T := TX10) (N := 48) hx hb hts (fun w h => wz_m (inX10 w h)) tyX10 tyX10_ok nmX10 hown hK.1 hP hD hS 0 rfl rfl 39 (by decide) (hts _ (wz_m tw_3_195)) (fun _ h9 => h9) rfl hin rfl (tyX10_ok 39 (by decide)) rfl rfl (by rw [hlen]; decide) dX10_init_176 (fun H locs hP hD hS => ?_)
  obtain ⟨F23, hF23⟩ : ∃ z : List Value, z = F22.set 39 (.ref q23) := ⟨_, rfl⟩
  replace hlen : F23.length = 48 := by rw [hF23, List.length_set]; exact hlen
  replace hP : va_P D vwCl ([(h0, .inr (10, F23))] ++ T23) H := by rw [hF23]; exact hP
  replace hD : va_D (AI h0 s.heap.size) ([(h0, .inr (10, F23))] ++ T23) := by rw [hF23]; exact hD
  replace hX : F23 = [.int 0, .int 0, .ref q1, .ref q2, .ref q3, .int 0, .ref q4, .ref q5, .int 0, .ref q6, .ref q7, .ref q8, .int 0, .int 0, .ref q9, .ref q10, .ref q11, .int 0, .ref q12, .int 0, .int 0, .int 0, .ref q13, .ref q14, .ref q15, .ref q16, .ref q17, .int 0, .ref q18, .ref q19, .ref q20, .ref q21, .long 0, .int 0, .int 0, .int 0, .int 0, .int 0, .ref q22, .ref q23, .null, .null, .null, .null, .null, .null, .null, .long 0] := by rw [hF23, hX]; rfl
  refine lv_aload_n hx hb dX10_init_179 rfl (lv_at hl 0 rfl) ?_
  refine lv_iconst (v := 5) hx hb dX10_init_180 (by decide) ?_
  refine va_newa (atype := .int) (ty := .int) (N' := 5) (a0 := (5, .inl (fun _ => 0))) hx hb (hts _ (wz_m tw_1_54)) rfl hK.1 hP hD hS hA (fun _ => rfl) (by decide) (by decide) (Nat.le_of_ble_eq_true rfl) (Nat.le_of_ble_eq_true rfl) (Nat.le_of_ble_eq_true rfl) dX10_init_181 (fun q24 cA H hK2 hP hD hS => ?_)
  obtain rfl : cI = cA := (same_cA hK2 (i := 0) (j := 2) rfl rfl).symm
  clear hK2
  rw [List.append_assoc] at hP hD
  obtain ⟨T24, hT24⟩ : ∃ z : va_W, z = T23 ++ [(q24, .inl (cI, 5, .inl (fun _ => 0)))] := ⟨_, rfl⟩
  rw [← hT24] at hP hD
  replace hY : T24 = [(q1, .inl (cI, 5, .inl (fun _ => 0))), (q2, .inl (cI, 20, .inl (fun _ => 0))), (q3, .inl (cI, 5, .inl (fun _ => 0))), (q4, .inl (cI, 4, .inl (fun _ => 0))), (q5, .inl (cI, 4, .inl (fun _ => 0))), (q6, .inl (cI, 6, .inl (fun _ => 0))), (q7, .inl (cI, 6, .inl (fun _ => 0))), (q8, .inl (cI, 6, .inl (fun _ => 0))), (q9, .inl (cI, 6, .inl (fun _ => 0))), (q10, .inl (cI, 6, .inl (fun _ => 0))), (q11, .inl (cI, 6, .inl (fun _ => 0))), (q12, .inl (cB, 54, .inl (fun _ => 0))), (q13, .inl (cI, 5, .inl (fun _ => 0))), (q14, .inl (cI, 15, .inl (fun _ => 0))), (q15, .inl (cI, 5, .inl (fun _ => 0))), (q16, .inl (cI, 4, .inl (fun _ => 0))), (q17, .inl (cI, 4, .inl (fun _ => 0))), (q18, .inl (cI, 20, .inl (fun _ => 0))), (q19, .inl (cI, 5, .inl (fun _ => 0))), (q20, .inl (cI, 7, .inl (fun _ => 0))), (q21, .inl (cI, 128, .inl (fun _ => 0))), (q22, .inl (cI, 5, .inl (fun _ => 0))), (q23, .inl (cI, 20, .inl (fun _ => 0))), (q24, .inl (cI, 5, .inl (fun _ => 0)))] := by rw [hT24, hY]; rfl
  refine W.widen (k := 24) (n := 351) (Nat.le_of_ble_eq_true rfl) (Nat.le_of_ble_eq_true rfl) ?_
  refine va_putF (D := D) (ci := 10) (v := .ref q24) (C := RX10) (T := TX10) (N := 48) hx hb hts (fun w h => wz_m (inX10 w h)) tyX10 tyX10_ok nmX10 hown hK.1 hP hD hS 0 rfl rfl 40 (by decide) (hts _ (wz_m tw_3_196)) (fun _ h9 => h9) rfl hin rfl (tyX10_ok 40 (by decide)) rfl rfl (by rw [hlen]; decide) dX10_init_183 (fun H locs hP hD hS => ?_)
  obtain ⟨F24, hF24⟩ : ∃ z : List Value, z = F23.set 40 (.ref q24) := ⟨_, rfl⟩
  replace hlen : F24.length = 48 := by rw [hF24, List.length_set]; exact hlen
  replace hP : va_P D vwCl ([(h0, .inr (10, F24))] ++ T24) H := by rw [hF24]; exact hP
  replace hD : va_D (AI h0 s.heap.size) ([(h0, .inr (10, F24))] ++ T24) := by rw [hF24]; exact hD
  replace hX : F24 = [.int 0, .int 0, .ref q1, .ref q2, .ref q3, .int 0, .ref q4, .ref q5, .int 0, .ref q6, .ref q7, .ref q8, .int 0, .int 0, .ref q9, .ref q10, .ref q11, .int 0, .ref q12, .int 0, .int 0, .int 0, .ref q13, .ref q14, .ref q15, .ref q16, .ref q17, .int 0, .ref q18, .ref q19, .ref q20, .ref q21, .long 0, .int 0, .int 0, .int 0, .int 0, .int 0, .ref q22, .ref q23, .ref q24, .null, .null, .null, .null, .null, .null, .long 0] := by rw [hF24, hX]; rfl
  refine lv_aload_n hx hb dX10_init_186 rfl (lv_at hl 0 rfl) ?_
  refine lv_bipush (v := 6) hx hb dX10_init_187 (by decide) ?_
  refine va_newa (atype := .int) (ty := .int) (N' := 6) (a0 := (6, .inl (fun _ => 0))) hx hb (hts _ (wz_m tw_1_54)) rfl hK.1 hP hD hS hA (fun _ => rfl) (by decide) (by decide) (Nat.le_of_ble_eq_true rfl) (Nat.le_of_ble_eq_true rfl) (Nat.le_of_ble_eq_true rfl) dX10_init_189 (fun q25 cA H hK2 hP hD hS => ?_)
  obtain rfl : cI = cA := (same_cA hK2 (i := 0) (j := 2) rfl rfl).symm
  clear hK2
  rw [List.append_assoc] at hP hD
  obtain ⟨T25, hT25⟩ : ∃ z : va_W, z = T24 ++ [(q25, .inl (cI, 6, .inl (fun _ => 0)))] := ⟨_, rfl⟩
  rw [← hT25] at hP hD
  replace hY : T25 = [(q1, .inl (cI, 5, .inl (fun _ => 0))), (q2, .inl (cI, 20, .inl (fun _ => 0))), (q3, .inl (cI, 5, .inl (fun _ => 0))), (q4, .inl (cI, 4, .inl (fun _ => 0))), (q5, .inl (cI, 4, .inl (fun _ => 0))), (q6, .inl (cI, 6, .inl (fun _ => 0))), (q7, .inl (cI, 6, .inl (fun _ => 0))), (q8, .inl (cI, 6, .inl (fun _ => 0))), (q9, .inl (cI, 6, .inl (fun _ => 0))), (q10, .inl (cI, 6, .inl (fun _ => 0))), (q11, .inl (cI, 6, .inl (fun _ => 0))), (q12, .inl (cB, 54, .inl (fun _ => 0))), (q13, .inl (cI, 5, .inl (fun _ => 0))), (q14, .inl (cI, 15, .inl (fun _ => 0))), (q15, .inl (cI, 5, .inl (fun _ => 0))), (q16, .inl (cI, 4, .inl (fun _ => 0))), (q17, .inl (cI, 4, .inl (fun _ => 0))), (q18, .inl (cI, 20, .inl (fun _ => 0))), (q19, .inl (cI, 5, .inl (fun _ => 0))), (q20, .inl (cI, 7, .inl (fun _ => 0))), (q21, .inl (cI, 128, .inl (fun _ => 0))), (q22, .inl (cI, 5, .inl (fun _ => 0))), (q23, .inl (cI, 20, .inl (fun _ => 0))), (q24, .inl (cI, 5, .inl (fun _ => 0))), (q25, .inl (cI, 6, .inl (fun _ => 0)))] := by rw [hT25, hY]; rfl
  refine W.widen (k := 25) (n := 357) (Nat.le_of_ble_eq_true rfl) (Nat.le_of_ble_eq_true rfl) ?_
  refine va_putF (D := D) (ci := 10) (v := .ref q25) (C := RX10) (T := TX10) (N := 48) hx hb hts (fun w h => wz_m (inX10 w h)) tyX10 tyX10_ok nmX10 hown hK.1 hP hD hS 0 rfl rfl 41 (by decide) (hts _ (wz_m tw_3_197)) (fun _ h9 => h9) rfl hin rfl (tyX10_ok 41 (by decide)) rfl rfl (by rw [hlen]; decide) dX10_init_191 (fun H locs hP hD hS => ?_)
  obtain ⟨F25, hF25⟩ : ∃ z : List Value, z = F24.set 41 (.ref q25) := ⟨_, rfl⟩
  replace hlen : F25.length = 48 := by rw [hF25, List.length_set]; exact hlen
  replace hP : va_P D vwCl ([(h0, .inr (10, F25))] ++ T25) H := by rw [hF25]; exact hP
  replace hD : va_D (AI h0 s.heap.size) ([(h0, .inr (10, F25))] ++ T25) := by rw [hF25]; exact hD
  replace hX : F25 = [.int 0, .int 0, .ref q1, .ref q2, .ref q3, .int 0, .ref q4, .ref q5, .int 0, .ref q6, .ref q7, .ref q8, .int 0, .int 0, .ref q9, .ref q10, .ref q11, .int 0, .ref q12, .int 0, .int 0, .int 0, .ref q13, .ref q14, .ref q15, .ref q16, .ref q17, .int 0, .ref q18, .ref q19, .ref q20, .ref q21, .long 0, .int 0, .int 0, .int 0, .int 0, .int 0, .ref q22, .ref q23, .ref q24, .ref q25, .null, .null, .null, .null, .null, .long 0] := by rw [hF25, hX]; rfl
  refine lv_aload_n hx hb dX10_init_194 rfl (lv_at hl 0 rfl) ?_
  refine lv_bipush (v := 6) hx hb dX10_init_195 (by decide) ?_
  refine va_newa (atype := .int) (ty := .int) (N' := 6) (a0 := (6, .inl (fun _ => 0))) hx hb (hts _ (wz_m tw_1_54)) rfl hK.1 hP hD hS hA (fun _ => rfl) (by decide) (by decide) (Nat.le_of_ble_eq_true rfl) (Nat.le_of_ble_eq_true rfl) (Nat.le_of_ble_eq_true rfl) dX10_init_197 (fun q26 cA H hK2 hP hD hS => ?_)
  obtain rfl : cI = cA := (same_cA hK2 (i := 0) (j := 2) rfl rfl).symm
  clear hK2
  rw [List.append_assoc] at hP hD
  obtain ⟨T26, hT26⟩ : ∃ z : va_W, z = T25 ++ [(q26, .inl (cI, 6, .inl (fun _ => 0)))] := ⟨_, rfl⟩
  rw [← hT26] at hP hD
  replace hY : T26 = [(q1, .inl (cI, 5, .inl (fun _ => 0))), (q2, .inl (cI, 20, .inl (fun _ => 0))), (q3, .inl (cI, 5, .inl (fun _ => 0))), (q4, .inl (cI, 4, .inl (fun _ => 0))), (q5, .inl (cI, 4, .inl (fun _ => 0))), (q6, .inl (cI, 6, .inl (fun _ => 0))), (q7, .inl (cI, 6, .inl (fun _ => 0))), (q8, .inl (cI, 6, .inl (fun _ => 0))), (q9, .inl (cI, 6, .inl (fun _ => 0))), (q10, .inl (cI, 6, .inl (fun _ => 0))), (q11, .inl (cI, 6, .inl (fun _ => 0))), (q12, .inl (cB, 54, .inl (fun _ => 0))), (q13, .inl (cI, 5, .inl (fun _ => 0))), (q14, .inl (cI, 15, .inl (fun _ => 0))), (q15, .inl (cI, 5, .inl (fun _ => 0))), (q16, .inl (cI, 4, .inl (fun _ => 0))), (q17, .inl (cI, 4, .inl (fun _ => 0))), (q18, .inl (cI, 20, .inl (fun _ => 0))), (q19, .inl (cI, 5, .inl (fun _ => 0))), (q20, .inl (cI, 7, .inl (fun _ => 0))), (q21, .inl (cI, 128, .inl (fun _ => 0))), (q22, .inl (cI, 5, .inl (fun _ => 0))), (q23, .inl (cI, 20, .inl (fun _ => 0))), (q24, .inl (cI, 5, .inl (fun _ => 0))), (q25, .inl (cI, 6, .inl (fun _ => 0))), (q26, .inl (cI, 6, .inl (fun _ => 0)))] := by rw [hT26, hY]; rfl
  refine W.widen (k := 26) (n := 363) (Nat.le_of_ble_eq_true rfl) (Nat.le_of_ble_eq_true rfl) ?_
  refine va_putF (D := D) (ci := 10) (v := .ref q26) (C := RX10) (T := TX10) (N := 48) hx hb hts (fun w h => wz_m (inX10 w h)) tyX10 tyX10_ok nmX10 hown hK.1 hP hD hS 0 rfl rfl 42 (by decide) (hts _ (wz_m tw_3_198)) (fun _ h9 => h9) rfl hin rfl (tyX10_ok 42 (by decide)) rfl rfl (by rw [hlen]; decide) dX10_init_199 (fun H locs hP hD hS => ?_)
  obtain ⟨F26, hF26⟩ : ∃ z : List Value, z = F25.set 42 (.ref q26) := ⟨_, rfl⟩
  replace hlen : F26.length = 48 := by rw [hF26, List.length_set]; exact hlen
  replace hP : va_P D vwCl ([(h0, .inr (10, F26))] ++ T26) H := by rw [hF26]; exact hP
  replace hD : va_D (AI h0 s.heap.size) ([(h0, .inr (10, F26))] ++ T26) := by rw [hF26]; exact hD
  replace hX : F26 = [.int 0, .int 0, .ref q1, .ref q2, .ref q3, .int 0, .ref q4, .ref q5, .int 0, .ref q6, .ref q7, .ref q8, .int 0, .int 0, .ref q9, .ref q10, .ref q11, .int 0, .ref q12, .int 0, .int 0, .int 0, .ref q13, .ref q14, .ref q15, .ref q16, .ref q17, .int 0, .ref q18, .ref q19, .ref q20, .ref q21, .long 0, .int 0, .int 0, .int 0, .int 0, .int 0, .ref q22, .ref q23, .ref q24, .ref q25, .ref q26, .null, .null, .null, .null, .long 0] := by rw [hF26, hX]; rfl
  refine lv_aload_n hx hb dX10_init_202 rfl (lv_at hl 0 rfl) ?_
  refine lv_bipush (v := 6) hx hb dX10_init_203 (by decide) ?_
  refine va_newa (atype := .int) (ty := .int) (N' := 6) (a0 := (6, .inl (fun _ => 0))) hx hb (hts _ (wz_m tw_1_54)) rfl hK.1 hP hD hS hA (fun _ => rfl) (by decide) (by decide) (Nat.le_of_ble_eq_true rfl) (Nat.le_of_ble_eq_true rfl) (Nat.le_of_ble_eq_true rfl) dX10_init_205 (fun q27 cA H hK2 hP hD hS => ?_)
  obtain rfl : cI = cA := (same_cA hK2 (i := 0) (j := 2) rfl rfl).symm
  clear hK2
  rw [List.append_assoc] at hP hD
  obtain ⟨T27, hT27⟩ : ∃ z : va_W, z = T26 ++ [(q27, .inl (cI, 6, .inl (fun _ => 0)))] := ⟨_, rfl⟩
  rw [← hT27] at hP hD
  replace hY : T27 = [(q1, .inl (cI, 5, .inl (fun _ => 0))), (q2, .inl (cI, 20, .inl (fun _ => 0))), (q3, .inl (cI, 5, .inl (fun _ => 0))), (q4, .inl (cI, 4, .inl (fun _ => 0))), (q5, .inl (cI, 4, .inl (fun _ => 0))), (q6, .inl (cI, 6, .inl (fun _ => 0))), (q7, .inl (cI, 6, .inl (fun _ => 0))), (q8, .inl (cI, 6, .inl (fun _ => 0))), (q9, .inl (cI, 6, .inl (fun _ => 0))), (q10, .inl (cI, 6, .inl (fun _ => 0))), (q11, .inl (cI, 6, .inl (fun _ => 0))), (q12, .inl (cB, 54, .inl (fun _ => 0))), (q13, .inl (cI, 5, .inl (fun _ => 0))), (q14, .inl (cI, 15, .inl (fun _ => 0))), (q15, .inl (cI, 5, .inl (fun _ => 0))), (q16, .inl (cI, 4, .inl (fun _ => 0))), (q17, .inl (cI, 4, .inl (fun _ => 0))), (q18, .inl (cI, 20, .inl (fun _ => 0))), (q19, .inl (cI, 5, .inl (fun _ => 0))), (q20, .inl (cI, 7, .inl (fun _ => 0))), (q21, .inl (cI, 128, .inl (fun _ => 0))), (q22, .inl (cI, 5, .inl (fun _ => 0))), (q23, .inl (cI, 20, .inl (fun _ => 0))), (q24, .inl (cI, 5, .inl (fun _ => 0))), (q25, .inl (cI, 6, .inl (fun _ => 0))), (q26, .inl (cI, 6, .inl (fun _ => 0))), (q27, .inl (cI, 6, .inl (fun _ => 0)))] := by rw [hT27, hY]; rfl
  refine W.widen (k := 27) (n := 369) (Nat.le_of_ble_eq_true rfl) (Nat.le_of_ble_eq_true rfl) ?_
  refine va_putF (D := D) (ci := 10) (v := .ref q27) (C := RX10) (T := TX10) (N := 48) hx hb hts (fun w h => wz_m (inX10 w h)) tyX10 tyX10_ok nmX10 hown hK.1 hP hD hS 0 rfl rfl 43 (by decide) (hts _ (wz_m tw_3_199)) (fun _ h9 => h9) rfl hin rfl (tyX10_ok 43 (by decide)) rfl rfl (by rw [hlen]; decide) dX10_init_207 (fun H locs hP hD hS => ?_)
  obtain ⟨F27, hF27⟩ : ∃ z : List Value, z = F26.set 43 (.ref q27) := ⟨_, rfl⟩
  replace hlen : F27.length = 48 := by rw [hF27, List.length_set]; exact hlen
  replace hP : va_P D vwCl ([(h0, .inr (10, F27))] ++ T27) H := by rw [hF27]; exact hP
  replace hD : va_D (AI h0 s.heap.size) ([(h0, .inr (10, F27))] ++ T27) := by rw [hF27]; exact hD
  replace hX : F27 = [.int 0, .int 0, .ref q1, .ref q2, .ref q3, .int 0, .ref q4, .ref q5, .int 0, .ref q6, .ref q7, .ref q8, .int 0, .int 0, .ref q9, .ref q10, .ref q11, .int 0, .ref q12, .int 0, .int 0, .int 0, .ref q13, .ref q14, .ref q15, .ref q16, .ref q17, .int 0, .ref q18, .ref q19, .ref q20, .ref q21, .long 0, .int 0, .int 0, .int 0, .int 0, .int 0, .ref q22, .ref q23, .ref q24, .ref q25, .ref q26, .ref q27, .null, .null, .null, .long 0] := by rw [hF27, hX]; rfl
  refine lv_aload_n hx hb dX10_init_210 rfl (lv_at hl 0 rfl) ?_
  refine lv_bipush (v := 6) hx hb dX10_init_211 (by decide) ?_
  refine va_newa (atype := .int) (ty := .int) (N' := 6) (a0 := (6, .inl (fun _ => 0))) hx hb (hts _ (wz_m tw_1_54)) rfl hK.1 hP hD hS hA (fun _ => rfl) (by decide) (by decide) (Nat.le_of_ble_eq_true rfl) (Nat.le_of_ble_eq_true rfl) (Nat.le_of_ble_eq_true rfl) dX10_init_213 (fun q28 cA H hK2 hP hD hS => ?_)
  obtain rfl : cI = cA := (same_cA hK2 (i := 0) (j := 2) rfl rfl).symm
  clear hK2
  rw [List.append_assoc] at hP hD
  obtain ⟨T28, hT28⟩ : ∃ z : va_W, z = T27 ++ [(q28, .inl (cI, 6, .inl (fun _ => 0)))] := ⟨_, rfl⟩
  rw [← hT28] at hP hD
  replace hY : T28 = [(q1, .inl (cI, 5, .inl (fun _ => 0))), (q2, .inl (cI, 20, .inl (fun _ => 0))), (q3, .inl (cI, 5, .inl (fun _ => 0))), (q4, .inl (cI, 4, .inl (fun _ => 0))), (q5, .inl (cI, 4, .inl (fun _ => 0))), (q6, .inl (cI, 6, .inl (fun _ => 0))), (q7, .inl (cI, 6, .inl (fun _ => 0))), (q8, .inl (cI, 6, .inl (fun _ => 0))), (q9, .inl (cI, 6, .inl (fun _ => 0))), (q10, .inl (cI, 6, .inl (fun _ => 0))), (q11, .inl (cI, 6, .inl (fun _ => 0))), (q12, .inl (cB, 54, .inl (fun _ => 0))), (q13, .inl (cI, 5, .inl (fun _ => 0))), (q14, .inl (cI, 15, .inl (fun _ => 0))), (q15, .inl (cI, 5, .inl (fun _ => 0))), (q16, .inl (cI, 4, .inl (fun _ => 0))), (q17, .inl (cI, 4, .inl (fun _ => 0))), (q18, .inl (cI, 20, .inl (fun _ => 0))), (q19, .inl (cI, 5, .inl (fun _ => 0))), (q20, .inl (cI, 7, .inl (fun _ => 0))), (q21, .inl (cI, 128, .inl (fun _ => 0))), (q22, .inl (cI, 5, .inl (fun _ => 0))), (q23, .inl (cI, 20, .inl (fun _ => 0))), (q24, .inl (cI, 5, .inl (fun _ => 0))), (q25, .inl (cI, 6, .inl (fun _ => 0))), (q26, .inl (cI, 6, .inl (fun _ => 0))), (q27, .inl (cI, 6, .inl (fun _ => 0))), (q28, .inl (cI, 6, .inl (fun _ => 0)))] := by rw [hT28, hY]; rfl
  refine W.widen (k := 28) (n := 375) (Nat.le_of_ble_eq_true rfl) (Nat.le_of_ble_eq_true rfl) ?_
  refine va_putF (D := D) (ci := 10) (v := .ref q28) (C := RX10) (T := TX10) (N := 48) hx hb hts (fun w h => wz_m (inX10 w h)) tyX10 tyX10_ok nmX10 hown hK.1 hP hD hS 0 rfl rfl 44 (by decide) (hts _ (wz_m tw_3_200)) (fun _ h9 => h9) rfl hin rfl (tyX10_ok 44 (by decide)) rfl rfl (by rw [hlen]; decide) dX10_init_215 (fun H locs hP hD hS => ?_)
  obtain ⟨F28, hF28⟩ : ∃ z : List Value, z = F27.set 44 (.ref q28) := ⟨_, rfl⟩
  replace hlen : F28.length = 48 := by rw [hF28, List.length_set]; exact hlen
  replace hP : va_P D vwCl ([(h0, .inr (10, F28))] ++ T28) H := by rw [hF28]; exact hP
  replace hD : va_D (AI h0 s.heap.size) ([(h0, .inr (10, F28))] ++ T28) := by rw [hF28]; exact hD
  replace hX : F28 = [.int 0, .int 0, .ref q1, .ref q2, .ref q3, .int 0, .ref q4, .ref q5, .int 0, .ref q6, .ref q7, .ref q8, .int 0, .int 0, .ref q9, .ref q10, .ref q11, .int 0, .ref q12, .int 0, .int 0, .int 0, .ref q13, .ref q14, .ref q15, .ref q16, .ref q17, .int 0, .ref q18, .ref q19, .ref q20, .ref q21, .long 0, .int 0, .int 0, .int 0, .int 0, .int 0, .ref q22, .ref q23, .ref q24, .ref q25, .ref q26, .ref q27, .ref q28, .null, .null, .long 0] := by rw [hF28, hX]; rfl
  refine lv_aload_n hx hb dX10_init_218 rfl (lv_at hl 0 rfl) ?_
  refine lv_bipush (v := 6) hx hb dX10_init_219 (by decide) ?_
  refine va_newa (atype := .int) (ty := .int) (N' := 6) (a0 := (6, .inl (fun _ => 0))) hx hb (hts _ (wz_m tw_1_54)) rfl hK.1 hP hD hS hA (fun _ => rfl) (by decide) (by decide) (Nat.le_of_ble_eq_true rfl) (Nat.le_of_ble_eq_true rfl) (Nat.le_of_ble_eq_true rfl) dX10_init_221 (fun q29 cA H hK2 hP hD hS => ?_)
  obtain rfl : cI = cA := (same_cA hK2 (i := 0) (j := 2) rfl rfl).symm
  clear hK2
  rw [List.append_assoc] at hP hD
  obtain ⟨T29, hT29⟩ : ∃ z : va_W, z = T28 ++ [(q29, .inl (cI, 6, .inl (fun _ => 0)))] := ⟨_, rfl⟩
  rw [← hT29] at hP hD
  replace hY : T29 = [(q1, .inl (cI, 5, .inl (fun _ => 0))), (q2, .inl (cI, 20, .inl (fun _ => 0))), (q3, .inl (cI, 5, .inl (fun _ => 0))), (q4, .inl (cI, 4, .inl (fun _ => 0))), (q5, .inl (cI, 4, .inl (fun _ => 0))), (q6, .inl (cI, 6, .inl (fun _ => 0))), (q7, .inl (cI, 6, .inl (fun _ => 0))), (q8, .inl (cI, 6, .inl (fun _ => 0))), (q9, .inl (cI, 6, .inl (fun _ => 0))), (q10, .inl (cI, 6, .inl (fun _ => 0))), (q11, .inl (cI, 6, .inl (fun _ => 0))), (q12, .inl (cB, 54, .inl (fun _ => 0))), (q13, .inl (cI, 5, .inl (fun _ => 0))), (q14, .inl (cI, 15, .inl (fun _ => 0))), (q15, .inl (cI, 5, .inl (fun _ => 0))), (q16, .inl (cI, 4, .inl (fun _ => 0))), (q17, .inl (cI, 4, .inl (fun _ => 0))), (q18, .inl (cI, 20, .inl (fun _ => 0))), (q19, .inl (cI, 5, .inl (fun _ => 0))), (q20, .inl (cI, 7, .inl (fun _ => 0))), (q21, .inl (cI, 128, .inl (fun _ => 0))), (q22, .inl (cI, 5, .inl (fun _ => 0))), (q23, .inl (cI, 20, .inl (fun _ => 0))), (q24, .inl (cI, 5, .inl (fun _ => 0))), (q25, .inl (cI, 6, .inl (fun _ => 0))), (q26, .inl (cI, 6, .inl (fun _ => 0))), (q27, .inl (cI, 6, .inl (fun _ => 0))), (q28, .inl (cI, 6, .inl (fun _ => 0))), (q29, .inl (cI, 6, .inl (fun _ => 0)))] := by rw [hT29, hY]; rfl
  refine W.widen (k := 29) (n := 381) (Nat.le_of_ble_eq_true rfl) (Nat.le_of_ble_eq_true rfl) ?_
  refine va_putF (D := D) (ci := 10) (v := .ref q29) (C := RX10) (T := TX10) (N := 48) hx hb hts (fun w h => wz_m (inX10 w h)) tyX10 tyX10_ok nmX10 hown hK.1 hP hD hS 0 rfl rfl 45 (by decide) (hts _ (wz_m tw_3_201)) (fun _ h9 => h9) rfl hin rfl (tyX10_ok 45 (by decide)) rfl rfl (by rw [hlen]; decide) dX10_init_223 (fun H locs hP hD hS => ?_)
  obtain ⟨F29, hF29⟩ : ∃ z : List Value, z = F28.set 45 (.ref q29) := ⟨_, rfl⟩
  replace hlen : F29.length = 48 := by rw [hF29, List.length_set]; exact hlen
  replace hP : va_P D vwCl ([(h0, .inr (10, F29))] ++ T29) H := by rw [hF29]; exact hP
  replace hD : va_D (AI h0 s.heap.size) ([(h0, .inr (10, F29))] ++ T29) := by rw [hF29]; exact hD
  replace hX : F29 = [.int 0, .int 0, .ref q1, .ref q2, .ref q3, .int 0, .ref q4, .ref q5, .int 0, .ref q6, .ref q7, .ref q8, .int 0, .int 0, .ref q9, .ref q10, .ref q11, .int 0, .ref q12, .int 0, .int 0, .int 0, .ref q13, .ref q14, .ref q15, .ref q16, .ref q17, .int 0, .ref q18, .ref q19, .ref q20, .ref q21, .long 0, .int 0, .int 0, .int 0, .int 0, .int 0, .ref q22, .ref q23, .ref q24, .ref q25, .ref q26, .ref q27, .ref q28, .ref q29, .null, .long 0] := by rw [hF29, hX]; rfl
  refine lv_aload_n hx hb dX10_init_226 rfl (lv_at hl 0 rfl) ?_
  refine lv_bipush (v := 6) hx hb dX10_init_227 (by decide) ?_
  refine va_newa (atype := .int) (ty := .int) (N' := 6) (a0 := (6, .inl (fun _ => 0))) hx hb (hts _ (wz_m tw_1_54)) rfl hK.1 hP hD hS hA (fun _ => rfl) (by decide) (by decide) (Nat.le_of_ble_eq_true rfl) (Nat.le_of_ble_eq_true rfl) (Nat.le_of_ble_eq_true rfl) dX10_init_229 (fun q30 cA H hK2 hP hD hS => ?_)
  obtain rfl : cI = cA := (same_cA hK2 (i := 0) (j := 2) rfl rfl).symm
  clear hK2
  rw [List.append_assoc] at hP hD
  obtain ⟨T30, hT30⟩ : ∃ z : va_W, z = T29 ++ [(q30, .inl (cI, 6, .inl (fun _ => 0)))] := ⟨_, rfl⟩
  rw [← hT30] at hP hD
  replace hY : T30 = [(q1, .inl (cI, 5, .inl (fun _ => 0))), (q2, .inl (cI, 20, .inl (fun _ => 0))), (q3, .inl (cI, 5, .inl (fun _ => 0))), (q4, .inl (cI, 4, .inl (fun _ => 0))), (q5, .inl (cI, 4, .inl (fun _ => 0))), (q6, .inl (cI, 6, .inl (fun _ => 0))), (q7, .inl (cI, 6, .inl (fun _ => 0))), (q8, .inl (cI, 6, .inl (fun _ => 0))), (q9, .inl (cI, 6, .inl (fun _ => 0))), (q10, .inl (cI, 6, .inl (fun _ => 0))), (q11, .inl (cI, 6, .inl (fun _ => 0))), (q12, .inl (cB, 54, .inl (fun _ => 0))), (q13, .inl (cI, 5, .inl (fun _ => 0))), (q14, .inl (cI, 15, .inl (fun _ => 0))), (q15, .inl (cI, 5, .inl (fun _ => 0))), (q16, .inl (cI, 4, .inl (fun _ => 0))), (q17, .inl (cI, 4, .inl (fun _ => 0))), (q18, .inl (cI, 20, .inl (fun _ => 0))), (q19, .inl (cI, 5, .inl (fun _ => 0))), (q20, .inl (cI, 7, .inl (fun _ => 0))), (q21, .inl (cI, 128, .inl (fun _ => 0))), (q22, .inl (cI, 5, .inl (fun _ => 0))), (q23, .inl (cI, 20, .inl (fun _ => 0))), (q24, .inl (cI, 5, .inl (fun _ => 0))), (q25, .inl (cI, 6, .inl (fun _ => 0))), (q26, .inl (cI, 6, .inl (fun _ => 0))), (q27, .inl (cI, 6, .inl (fun _ => 0))), (q28, .inl (cI, 6, .inl (fun _ => 0))), (q29, .inl (cI, 6, .inl (fun _ => 0))), (q30, .inl (cI, 6, .inl (fun _ => 0)))] := by rw [hT30, hY]; rfl
  refine W.widen (k := 30) (n := 387) (Nat.le_of_ble_eq_true rfl) (Nat.le_of_ble_eq_true rfl) ?_
  refine va_putF (D := D) (ci := 10) (v := .ref q30) (C := RX10) (T := TX10) (N := 48) hx hb hts (fun w h => wz_m (inX10 w h)) tyX10 tyX10_ok nmX10 hown hK.1 hP hD hS 0 rfl rfl 46 (by decide) (hts _ (wz_m tw_3_202)) (fun _ h9 => h9) rfl hin rfl (tyX10_ok 46 (by decide)) rfl rfl (by rw [hlen]; decide) dX10_init_231 (fun H locs hP hD hS => ?_)
  obtain ⟨F30, hF30⟩ : ∃ z : List Value, z = F29.set 46 (.ref q30) := ⟨_, rfl⟩
  replace hlen : F30.length = 48 := by rw [hF30, List.length_set]; exact hlen
  replace hP : va_P D vwCl ([(h0, .inr (10, F30))] ++ T30) H := by rw [hF30]; exact hP
  replace hD : va_D (AI h0 s.heap.size) ([(h0, .inr (10, F30))] ++ T30) := by rw [hF30]; exact hD
  replace hX : F30 = [.int 0, .int 0, .ref q1, .ref q2, .ref q3, .int 0, .ref q4, .ref q5, .int 0, .ref q6, .ref q7, .ref q8, .int 0, .int 0, .ref q9, .ref q10, .ref q11, .int 0, .ref q12, .int 0, .int 0, .int 0, .ref q13, .ref q14, .ref q15, .ref q16, .ref q17, .int 0, .ref q18, .ref q19, .ref q20, .ref q21, .long 0, .int 0, .int 0, .int 0, .int 0, .int 0, .ref q22, .ref q23, .ref q24, .ref q25, .ref q26, .ref q27, .ref q28, .ref q29, .ref q30, .long 0] := by rw [hF30, hX]; rfl
  rw [hX, hY] at hP hD
  subst hQQ
  exact i_ret (n := 31) (E := (fun u k => SHR u cI cB k (fun _ => 0) (fun _ => 0))) (fun k => ([h0, q1, q2, q3, q4, q5, q6, q7, q8, q9, q10, q11, q12, q13, q14, q15, q16, q17, q18, q19, q20, q21, q22, q23, q24, q25, q26, q27, q28, q29, q30] : List Nat).getD k 0) rfl hx hb hr hlocks hP hD hS (by
    intro k hk
    match k, hk with
    | 0, _ => exact ⟨_, rfl, fun h => h⟩
    | 1, _ => exact ⟨_, rfl, fun h => h⟩
    | 2, _ => exact ⟨_, rfl, fun h => h⟩
    | 3, _ => exact ⟨_, rfl, fun h => h⟩
    | 4, _ => exact ⟨_, rfl, fun h => h⟩
    | 5, _ => exact ⟨_, rfl, fun h => h⟩
    | 6, _ => exact ⟨_, rfl, fun h => h⟩
    | 7, _ => exact ⟨_, rfl, fun h => h⟩
    | 8, _ => exact ⟨_, rfl, fun h => h⟩
    | 9, _ => exact ⟨_, rfl, fun h => h⟩
    | 10, _ => exact ⟨_, rfl, fun h => h⟩
    | 11, _ => exact ⟨_, rfl, fun h => h⟩
    | 12, _ => exact ⟨_, rfl, fun h => h⟩
    | 13, _ => exact ⟨_, rfl, fun h => h⟩
    | 14, _ => exact ⟨_, rfl, fun h => h⟩
    | 15, _ => exact ⟨_, rfl, fun h => h⟩
    | 16, _ => exact ⟨_, rfl, fun h => h⟩
    | 17, _ => exact ⟨_, rfl, fun h => h⟩
    | 18, _ => exact ⟨_, rfl, fun h => h⟩
    | 19, _ => exact ⟨_, rfl, fun h => h⟩
    | 20, _ => exact ⟨_, rfl, fun h => h⟩
    | 21, _ => exact ⟨_, rfl, fun h => h⟩
    | 22, _ => exact ⟨_, rfl, fun h => h⟩
    | 23, _ => exact ⟨_, rfl, fun h => h⟩
    | 24, _ => exact ⟨_, rfl, fun h => h⟩
    | 25, _ => exact ⟨_, rfl, fun h => h⟩
    | 26, _ => exact ⟨_, rfl, fun h => h⟩
    | 27, _ => exact ⟨_, rfl, fun h => h⟩
    | 28, _ => exact ⟨_, rfl, fun h => h⟩
    | 29, _ => exact ⟨_, rfl, fun h => h⟩
    | 30, _ => exact ⟨_, rfl, fun h => h⟩
    | k + 31, hk => exact absurd hk (by omega)) dX10_init_234

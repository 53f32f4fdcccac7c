
def shPg (ad : Nat → Nat) (cI cW : ClassId) : List SF := [fun v => .inr (2, [.ref (ad 1), .ref (ad 2), .ref (ad 15), .int (v 3), .int (v 4), .int (v 5)]), shA cI 54] ++ shH ad cI cW 2 ++ shCs ad cI 15
def shTm (ad : Nat → Nat) (cI : ClassId) : List SF := [fun _ => .inr (6, [.ref (ad 1), .ref (ad 2)]), shA cI 7, shA cI 128]
def shWo (ad : Nat → Nat) (cI : ClassId) : List SF := [fun _ => .inr (8, [.ref (ad 1), .ref (ad 2)]), shA cI 32, shA cI 32]

theorem hdI_X7 : yX7_init.cls ≠ "java/lang/invoke/MethodHandle" ∧ yX7_init.cls ≠ "java/lang/invoke/VarHandle" ∧ (parseMethodDescriptor yX7_init.desc).map (fun d => d.parameters.length) = some 0 := by decide +kernel
abbrev rmX7_init : Room := { frames := 1, cells := 1, slots := 3, locals := 12 }
set_option maxHeartbeats 4000000 in
set_option maxRecDepth 100000 in
theorem k_X7_init {l : Launch} {D : va_G} {cI cW : ClassId} {h0 sz : Nat} : Met l yX7_init (wz yX7_init cX7_init 1 none) rmX7_init (PI D (KI D cI cW) h0 (.inr (7, [.null, .int 0, .int 0])) sz) (QI 2 (fun u k => zE (shW u cI 0) k) D h0 sz) 1 3 (AI h0 sz) := by
  refine i_start (cc := cX7_init) (maxL := 1) (Qc := fun sz => QI 2 (fun u k => zE (shW u cI 0) k) D h0 sz) (by decide) rfl rfl (by decide) ?_
  intro p e s m args below meth c H locs ls hx hb hr hts hown hlocks hml hin hK hP hD hS hA hl
  obtain ⟨QQ, hQQ⟩ : ∃ q, q = MQ below (QI 2 (fun u k => zE (shW u cI 0) k) D h0 s.heap.size) args s 1 3 (AI h0 s.heap.size) := ⟨_, rfl⟩
  rw [← hQQ]
  refine lv_aload_n hx hb dX7_init_0 rfl (lv_at hl 0 rfl) ?_
  refine W.objInit hx hb hown (hts _ (wz_m tw_1_40)) (hts _ (wz_m tw_1_20)) (hts _ (wz_m tw_1_21)) rfl (by rw [hml]; exact hl.1) rfl dX7_init_1 (Nat.le_of_ble_eq_true rfl) (Nat.le_of_ble_eq_true rfl) ?_
  refine W.eq (g2 := F0 m 4 ls []) rfl ?_
  refine lv_aload_n hx hb dX7_init_4 rfl (lv_at hl 0 rfl) ?_
  refine lv_iconst (v := 3) hx hb dX7_init_5 (by decide) ?_
  refine va_newa (atype := .int) (ty := .int) (N' := 3) (a0 := (3, .inl (fun _ => 0))) hx hb (hts _ (wz_m tw_1_54)) rfl hK.1 hP hD hS hA (fun _ => rfl) (by decide) (by decide) (Nat.le_of_ble_eq_true rfl) (Nat.le_of_ble_eq_true rfl) (Nat.le_of_ble_eq_true rfl) dX7_init_6 (fun q1 cA2 H hK2 hP hD hS => ?_)
  obtain rfl : cI = cA2 := (same_cA hK2 (i := 0) (j := 2) rfl rfl).symm
  clear hK2
  replace hP : va_P D vwCl ([(h0, .inr (7, [.null, .int 0, .int 0]))] ++ [(q1, .inl (cI, 3, .inl (fun _ => 0)))]) H := hP
  replace hD : va_D (AI h0 s.heap.size) ([(h0, .inr (7, [.null, .int 0, .int 0]))] ++ [(q1, .inl (cI, 3, .inl (fun _ => 0)))]) := hD
  refine W.widen (k := 1) (n := 3) (Nat.le_of_ble_eq_true rfl) (Nat.le_of_ble_eq_true rfl) ?_
  refine va_putF (D := D) (ci := 7) (v := .ref q1) (C := RX7) (T := TX7) (N := 3) hx hb hts (fun w h => wz_m (inX7 w h)) tyX7 tyX7_ok nmX7 hown hK.1 hP hD hS 0 rfl rfl 0 (by decide) (hts _ (wz_m tw_1_41)) (fun _ h9 => h9) rfl hin rfl (tyX7_ok 0 (by decide)) rfl rfl (Nat.le_of_ble_eq_true rfl) dX7_init_8 (fun H locs hP hD hS => ?_)
  replace hP : va_P D vwCl ([(h0, .inr (7, [.ref q1, .int 0, .int 0]))] ++ [(q1, .inl (cI, 3, .inl (fun _ => 0)))]) H := hP
  replace hD : va_D (AI h0 s.heap.size) ([(h0, .inr (7, [.ref q1, .int 0, .int 0]))] ++ [(q1, .inl (cI, 3, .inl (fun _ => 0)))]) := hD
  subst hQQ
  exact i_ret (fun k => if k < 1 then h0 else if k < 2 then q1 else 0) rfl hx hb hr hlocks hP hD hS (by
    intro k hk
    match k, hk with
    | 0, _ => exact ⟨_, rfl, fun h => h⟩
    | 1, _ => exact ⟨_, rfl, fun h => h⟩
    | k + 2, hk => exact absurd hk (by omega)) dX7_init_11
theorem hdI_X1 : yX1_init.cls ≠ "java/lang/invoke/MethodHandle" ∧ yX1_init.cls ≠ "java/lang/invoke/VarHandle" ∧ (parseMethodDescriptor yX1_init.desc).map (fun d => d.parameters.length) = some 0 := by decide +kernel
abbrev rmX1_init : Room := { frames := 2, cells := 12, slots := 39, locals := 32 }
set_option maxHeartbeats 4000000 in
set_option maxRecDepth 100000 in
theorem k_X1_init {l : Launch} {D : va_G} {cI cW : ClassId} {h0 sz : Nat} : Met l yX1_init (wz yX1_init cX1_init 2 none) rmX1_init (PI D (KI D cI cW) h0 (.inr (1, [.null, .null, .int 0])) sz) (QI 13 (fun u k => zE (shH u cI cW 0) k) D h0 sz) 12 39 (AI h0 sz) := by
  refine i_start (cc := cX1_init) (maxL := 2) (Qc := fun sz => QI 13 (fun u k => zE (shH u cI cW 0) k) D h0 sz) (by decide) rfl rfl (by decide) ?_
  intro p e s m args below meth c H locs ls hx hb hr hts hown hlocks hml hin hK hP hD hS hA hl
  obtain ⟨QQ, hQQ⟩ : ∃ q, q = MQ below (QI 13 (fun u k => zE (shH u cI cW 0) k) D h0 s.heap.size) args s 12 39 (AI h0 s.heap.size) := ⟨_, rfl⟩
  rw [← hQQ]
  refine lv_aload_n hx hb dX1_init_0 rfl (lv_at hl 0 rfl) ?_
  refine W.objInit hx hb hown (hts _ (wz_m tw_1_33)) (hts _ (wz_m tw_1_20)) (hts _ (wz_m tw_1_21)) rfl (by rw [hml]; exact hl.1) rfl dX1_init_1 (Nat.le_of_ble_eq_true rfl) (Nat.le_of_ble_eq_true rfl) ?_
  refine W.eq (g2 := F0 m 4 ls []) rfl ?_
  refine lv_aload_n hx hb dX1_init_4 rfl (lv_at hl 0 rfl) ?_
  refine lv_iconst (v := 5) hx hb dX1_init_5 (by decide) ?_
  refine va_newq (C := "WitnessWall$Witness") (N' := 5) hx hb hown (hts _ (wz_m tw_1_34)) hK.2.2 hK.1 hP hD hS hA (by decide) (by decide) (Nat.le_of_ble_eq_true rfl) (Nat.le_of_ble_eq_true rfl) (Nat.le_of_ble_eq_true rfl) dX1_init_6 (fun q1 cA2 H hK2 hP hD hS => ?_)
  obtain rfl : cW = cA2 := (same_cA hK2 (i := 1) (j := 2) rfl rfl).symm
  clear hK2
  replace hP : va_P D vwCl ([(h0, .inr (1, [.null, .null, .int 0]))] ++ [(q1, .inl (cW, 5, .inr (.inr (.inr (.inr (fun _ => none))))))]) H := hP
  replace hD : va_D (AI h0 s.heap.size) ([(h0, .inr (1, [.null, .null, .int 0]))] ++ [(q1, .inl (cW, 5, .inr (.inr (.inr (.inr (fun _ => none))))))]) := hD
  refine W.widen (k := 1) (n := 5) (Nat.le_of_ble_eq_true rfl) (Nat.le_of_ble_eq_true rfl) ?_
  refine va_putF (D := D) (ci := 1) (v := .ref q1) (C := RX1) (T := TX1) (N := 3) hx hb hts (fun w h => wz_m (inX1 w h)) tyX1 tyX1_ok nmX1 hown hK.1 hP hD hS 0 rfl rfl 0 (by decide) (hts _ (wz_m tw_1_55)) (fun _ h9 => h9) rfl hin rfl (tyX1_ok 0 (by decide)) rfl rfl (Nat.le_of_ble_eq_true rfl) dX1_init_9 (fun H locs hP hD hS => ?_)
  replace hP : va_P D vwCl ([(h0, .inr (1, [.ref q1, .null, .int 0]))] ++ [(q1, .inl (cW, 5, .inr (.inr (.inr (.inr (fun _ => none))))))]) H := hP
  replace hD : va_D (AI h0 s.heap.size) ([(h0, .inr (1, [.ref q1, .null, .int 0]))] ++ [(q1, .inl (cW, 5, .inr (.inr (.inr (.inr (fun _ => none))))))]) := hD
  refine lv_aload_n hx hb dX1_init_12 rfl (lv_at hl 0 rfl) ?_
  refine lv_iconst (v := 4) hx hb dX1_init_13 (by decide) ?_
  refine va_newa (atype := .int) (ty := .int) (N' := 4) (a0 := (4, .inl (fun _ => 0))) hx hb (hts _ (wz_m tw_1_54)) rfl hK.1 hP hD hS hA (fun _ => rfl) (by decide) (by decide) (Nat.le_of_ble_eq_true rfl) (Nat.le_of_ble_eq_true rfl) (Nat.le_of_ble_eq_true rfl) dX1_init_14 (fun q3 cA4 H hK2 hP hD hS => ?_)
  obtain rfl : cI = cA4 := (same_cA hK2 (i := 0) (j := 2) rfl rfl).symm
  clear hK2
  replace hP : va_P D vwCl (([(h0, .inr (1, [.ref q1, .null, .int 0]))] ++ [(q1, .inl (cW, 5, .inr (.inr (.inr (.inr (fun _ => none))))))]) ++ [(q3, .inl (cI, 4, .inl (fun _ => 0)))]) H := hP
  replace hD : va_D (AI h0 s.heap.size) (([(h0, .inr (1, [.ref q1, .null, .int 0]))] ++ [(q1, .inl (cW, 5, .inr (.inr (.inr (.inr (fun _ => none))))))]) ++ [(q3, .inl (cI, 4, .inl (fun _ => 0)))]) := hD
  refine W.widen (k := 2) (n := 9) (Nat.le_of_ble_eq_true rfl) (Nat.le_of_ble_eq_true rfl) ?_
  refine va_putF (D := D) (ci := 1) (v := .ref q3) (C := RX1) (T := TX1) (N := 3) hx hb hts (fun w h => wz_m (inX1 w h)) tyX1 tyX1_ok nmX1 hown hK.1 hP hD hS 0 rfl rfl 1 (by decide) (hts _ (wz_m tw_1_59)) (fun _ h9 => h9) rfl hin rfl (tyX1_ok 1 (by decide)) rfl rfl (Nat.le_of_ble_eq_true rfl) dX1_init_16 (fun H locs hP hD hS => ?_)
  replace hP : va_P D vwCl (([(h0, .inr (1, [.ref q1, .ref q3, .int 0]))] ++ [(q1, .inl (cW, 5, .inr (.inr (.inr (.inr (fun _ => none))))))]) ++ [(q3, .inl (cI, 4, .inl (fun _ => 0)))]) H := hP
  replace hD : va_D (AI h0 s.heap.size) (([(h0, .inr (1, [.ref q1, .ref q3, .int 0]))] ++ [(q1, .inl (cW, 5, .inr (.inr (.inr (.inr (fun _ => none))))))]) ++ [(q3, .inl (cI, 4, .inl (fun _ => 0)))]) := hD
  refine lv_iconst (v := 0) hx hb dX1_init_19 (by decide) ?_
  refine lv_istore_n (lv' := [(1, .int 0), (0, .ref h0)]) hx hb dX1_init_20 rfl hl (by decide) rfl (fun ls hl => ?_)
  refine lv_iload_n hx hb dX1_init_21 rfl (lv_at hl 0 rfl) ?_
  refine lv_iconst (v := 5) hx hb dX1_init_22 (by decide) ?_
  refine lv_icmp_ge (tgt := 45) hx hb dX1_init_23 (by decide) (fun hc5 => absurd hc5 (by decide)) (fun hc5 => ?_)
  refine lv_aload_n hx hb dX1_init_26 rfl (lv_at hl 1 rfl) ?_
  refine va_get (D := D) (ci := 1) (v := .ref q1) (C := RX1) (T := TX1) (N := 3) hx hb hts (fun w h => wz_m (inX1 w h)) hown hK.1 hP 0 rfl rfl 0 (by decide) (hts _ (wz_m tw_1_55)) (fun _ h9 => h9) rfl dX1_init_27 ?_
  refine lv_iload_n hx hb dX1_init_30 rfl (lv_at hl 0 rfl) ?_
  refine va_new (ci := 7) (fs := [.null, .int 0, .int 0]) (C := RX7) (T := TX7) (N := 3) hx hb hts (fun w h => wz_m (inX7 w h)) tyX7 tyX7_ok hown (hts _ (wz_m tw_1_34)) (hts _ (wz_m tw_1_36)) (hts _ (wz_m tw_1_4)) hK.1 hP hD hS hA rfl (fun j hj => by match j, hj with | 0, _ => rfl | 1, _ => rfl | 2, _ => rfl | j + 3, hj => exact absurd hj (by omega)) (Nat.le_of_ble_eq_true rfl) (Nat.le_of_ble_eq_true rfl) dX1_init_31 (fun q6 H hP hD hS => ?_)
  replace hP : va_P D vwCl ((([(h0, .inr (1, [.ref q1, .ref q3, .int 0]))] ++ [(q1, .inl (cW, 5, .inr (.inr (.inr (.inr (fun _ => none))))))]) ++ [(q3, .inl (cI, 4, .inl (fun _ => 0)))]) ++ [(q6, .inr (7, [.null, .int 0, .int 0]))]) H := hP
  replace hD : va_D (AI h0 s.heap.size) ((([(h0, .inr (1, [.ref q1, .ref q3, .int 0]))] ++ [(q1, .inl (cW, 5, .inr (.inr (.inr (.inr (fun _ => none))))))]) ++ [(q3, .inl (cI, 4, .inl (fun _ => 0)))]) ++ [(q6, .inr (7, [.null, .int 0, .int 0]))]) := hD
  refine W.widen (k := 3) (n := 12) (Nat.le_of_ble_eq_true rfl) (Nat.le_of_ble_eq_true rfl) ?_
  refine lv_dup hx hb dX1_init_34 rfl ?_
  refine i_call (va_runIN (As := []) (rest := [.ref q6, .int 0, .ref q1]) ⟨hx, hb, hml, hown, hts⟩ (k_X7_init (D := D) (cI := cI) (cW := cW) (h0 := q6) (sz := H.size)) ⟨va_cnB 0 hts (wz_good tw_1_39) rfl rfl rfl (hK.2.1 _ (List.mem_of_getElem? (i := 1) rfl)) (hts _ (wz_m tw_1_4)) hdI_X7 ⟨Nat.le_of_ble_eq_true rfl, Nat.le_of_ble_eq_true rfl⟩, rfl, hts _ (wz_m tw_1_38)⟩ (i_pre KI_st hK hP) rfl rfl hl.1 rfl (lv_room (Nat.le_of_ble_eq_true rfl)) dX1_init_35 ⟨Nat.le_of_ble_eq_true rfl, Nat.le_of_ble_eq_true rfl⟩) hP hD hS hA (fun u7 H locs eu7 hP hD hS => ?_)
  rw [← eu7]
  replace hP : va_P D vwCl ((([(h0, .inr (1, [.ref q1, .ref q3, .int 0]))] ++ [(q1, .inl (cW, 5, .inr (.inr (.inr (.inr (fun _ => none))))))]) ++ [(q3, .inl (cI, 4, .inl (fun _ => 0)))]) ++ wl 2 u7 ((fun u k => zE (shW u cI 0) k) u7)) H := hP
  replace hD : va_D (AI h0 s.heap.size) ((([(h0, .inr (1, [.ref q1, .ref q3, .int 0]))] ++ [(q1, .inl (cW, 5, .inr (.inr (.inr (.inr (fun _ => none))))))]) ++ [(q3, .inl (cI, 4, .inl (fun _ => 0)))]) ++ wl 2 u7 ((fun u k => zE (shW u cI 0) k) u7)) := hD
  refine W.widen (k := 4) (n := 15) (Nat.le_of_ble_eq_true rfl) (Nat.le_of_ble_eq_true rfl) ?_
  refine va_astq (r := (RX7, TX7, 3)) hx hb hK.1 hP hD hS 1 1 3 7 rfl rfl rfl rfl (vp_in_nI (n := 0) (by decide) (by decide)) dX1_init_38 (fun H locs hP hD hS => ?_)
  replace hP : va_P D vwCl ((([(h0, .inr (1, [.ref q1, .ref q3, .int 0]))] ++ [(q1, .inl (cW, 5, .inr (.inr (.inr (.inr (va_up (fun _ => none) 0 (some (u7 0))))))))]) ++ [(q3, .inl (cI, 4, .inl (fun _ => 0)))]) ++ wl 2 u7 ((fun u k => zE (shW u cI 0) k) u7)) H := hP
  replace hD : va_D (AI h0 s.heap.size) ((([(h0, .inr (1, [.ref q1, .ref q3, .int 0]))] ++ [(q1, .inl (cW, 5, .inr (.inr (.inr (.inr (va_up (fun _ => none) 0 (some (u7 0))))))))]) ++ [(q3, .inl (cI, 4, .inl (fun _ => 0)))]) ++ wl 2 u7 ((fun u k => zE (shW u cI 0) k) u7)) := hD
  refine lv_iinc (v := 1) (lv' := [(1, .int 1), (0, .ref h0)]) hx hb dX1_init_39 hl (k := 0) rfl (by decide) (by decide) rfl (fun ls hl => ?_)
  refine lv_goto (tgt := 21) hx hb dX1_init_42 (by decide) ?_
  refine lv_iload_n hx hb dX1_init_21 rfl (lv_at hl 0 rfl) ?_
  refine lv_iconst (v := 5) hx hb dX1_init_22 (by decide) ?_
  refine lv_icmp_ge (tgt := 45) hx hb dX1_init_23 (by decide) (fun hc8 => absurd hc8 (by decide)) (fun hc8 => ?_)
  refine lv_aload_n hx hb dX1_init_26 rfl (lv_at hl 1 rfl) ?_
  refine va_get (D := D) (ci := 1) (v := .ref q1) (C := RX1) (T := TX1) (N := 3) hx hb hts (fun w h => wz_m (inX1 w h)) hown hK.1 hP 0 rfl rfl 0 (by decide) (hts _ (wz_m tw_1_55)) (fun _ h9 => h9) rfl dX1_init_27 ?_
  refine lv_iload_n hx hb dX1_init_30 rfl (lv_at hl 0 rfl) ?_
  refine va_new (ci := 7) (fs := [.null, .int 0, .int 0]) (C := RX7) (T := TX7) (N := 3) hx hb hts (fun w h => wz_m (inX7 w h)) tyX7 tyX7_ok hown (hts _ (wz_m tw_1_34)) (hts _ (wz_m tw_1_36)) (hts _ (wz_m tw_1_4)) hK.1 hP hD hS hA rfl (fun j hj => by match j, hj with | 0, _ => rfl | 1, _ => rfl | 2, _ => rfl | j + 3, hj => exact absurd hj (by omega)) (Nat.le_of_ble_eq_true rfl) (Nat.le_of_ble_eq_true rfl) dX1_init_31 (fun q9 H hP hD hS => ?_)
  replace hP : va_P D vwCl (((([(h0, .inr (1, [.ref q1, .ref q3, .int 0]))] ++ [(q1, .inl (cW, 5, .inr (.inr (.inr (.inr (va_up (fun _ => none) 0 (some (u7 0))))))))]) ++ [(q3, .inl (cI, 4, .inl (fun _ => 0)))]) ++ wl 2 u7 ((fun u k => zE (shW u cI 0) k) u7)) ++ [(q9, .inr (7, [.null, .int 0, .int 0]))]) H := hP
  replace hD : va_D (AI h0 s.heap.size) (((([(h0, .inr (1, [.ref q1, .ref q3, .int 0]))] ++ [(q1, .inl (cW, 5, .inr (.inr (.inr (.inr (va_up (fun _ => none) 0 (some (u7 0))))))))]) ++ [(q3, .inl (cI, 4, .inl (fun _ => 0)))]) ++ wl 2 u7 ((fun u k => zE (shW u cI 0) k) u7)) ++ [(q9, .inr (7, [.null, .int 0, .int 0]))]) := hD
  refine W.widen (k := 5) (n := 18) (Nat.le_of_ble_eq_true rfl) (Nat.le_of_ble_eq_true rfl) ?_
  refine lv_dup hx hb dX1_init_34 rfl ?_
  refine i_call (va_runIN (As := []) (rest := [.ref q9, .int 1, .ref q1]) ⟨hx, hb, hml, hown, hts⟩ (k_X7_init (D := D) (cI := cI) (cW := cW) (h0 := q9) (sz := H.size)) ⟨va_cnB 0 hts (wz_good tw_1_39) rfl rfl rfl (hK.2.1 _ (List.mem_of_getElem? (i := 1) rfl)) (hts _ (wz_m tw_1_4)) hdI_X7 ⟨Nat.le_of_ble_eq_true rfl, Nat.le_of_ble_eq_true rfl⟩, rfl, hts _ (wz_m tw_1_38)⟩ (i_pre KI_st hK hP) rfl rfl hl.1 rfl (lv_room (Nat.le_of_ble_eq_true rfl)) dX1_init_35 ⟨Nat.le_of_ble_eq_true rfl, Nat.le_of_ble_eq_true rfl⟩) hP hD hS hA (fun u10 H locs eu10 hP hD hS => ?_)
  rw [← eu10]
  replace hP : va_P D vwCl (((([(h0, .inr (1, [.ref q1, .ref q3, .int 0]))] ++ [(q1, .inl (cW, 5, .inr (.inr (.inr (.inr (va_up (fun _ => none) 0 (some (u7 0))))))))]) ++ [(q3, .inl (cI, 4, .inl (fun _ => 0)))]) ++ wl 2 u7 ((fun u k => zE (shW u cI 0) k) u7)) ++ wl 2 u10 ((fun u k => zE (shW u cI 0) k) u10)) H := hP
  replace hD : va_D (AI h0 s.heap.size) (((([(h0, .inr (1, [.ref q1, .ref q3, .int 0]))] ++ [(q1, .inl (cW, 5, .inr (.inr (.inr (.inr (va_up (fun _ => none) 0 (some (u7 0))))))))]) ++ [(q3, .inl (cI, 4, .inl (fun _ => 0)))]) ++ wl 2 u7 ((fun u k => zE (shW u cI 0) k) u7)) ++ wl 2 u10 ((fun u k => zE (shW u cI 0) k) u10)) := hD
  refine W.widen (k := 6) (n := 21) (Nat.le_of_ble_eq_true rfl) (Nat.le_of_ble_eq_true rfl) ?_
  refine va_astq (r := (RX7, TX7, 3)) hx hb hK.1 hP hD hS 1 1 5 7 rfl rfl rfl rfl (vp_in_nI (n := 1) (by decide) (by decide)) dX1_init_38 (fun H locs hP hD hS => ?_)
  replace hP : va_P D vwCl (((([(h0, .inr (1, [.ref q1, .ref q3, .int 0]))] ++ [(q1, .inl (cW, 5, .inr (.inr (.inr (.inr (va_up (va_up (fun _ => none) 0 (some (u7 0))) 1 (some (u10 0))))))))]) ++ [(q3, .inl (cI, 4, .inl (fun _ => 0)))]) ++ wl 2 u7 ((fun u k => zE (shW u cI 0) k) u7)) ++ wl 2 u10 ((fun u k => zE (shW u cI 0) k) u10)) H := hP
  replace hD : va_D (AI h0 s.heap.size) (((([(h0, .inr (1, [.ref q1, .ref q3, .int 0]))] ++ [(q1, .inl (cW, 5, .inr (.inr (.inr (.inr (va_up (va_up (fun _ => none) 0 (some (u7 0))) 1 (some (u10 0))))))))]) ++ [(q3, .inl (cI, 4, .inl (fun _ => 0)))]) ++ wl 2 u7 ((fun u k => zE (shW u cI 0) k) u7)) ++ wl 2 u10 ((fun u k => zE (shW u cI 0) k) u10)) := hD
  refine lv_iinc (v := 2) (lv' := [(1, .int 2), (0, .ref h0)]) hx hb dX1_init_39 hl (k := 0) rfl (by decide) (by decide) rfl (fun ls hl => ?_)
  refine lv_goto (tgt := 21) hx hb dX1_init_42 (by decide) ?_
  refine lv_iload_n hx hb dX1_init_21 rfl (lv_at hl 0 rfl) ?_
  refine lv_iconst (v := 5) hx hb dX1_init_22 (by decide) ?_
  refine lv_icmp_ge (tgt := 45) hx hb dX1_init_23 (by decide) (fun hc11 => absurd hc11 (by decide)) (fun hc11 => ?_)
  refine lv_aload_n hx hb dX1_init_26 rfl (lv_at hl 1 rfl) ?_
  refine va_get (D := D) (ci := 1) (v := .ref q1) (C := RX1) (T := TX1) (N := 3) hx hb hts (fun w h => wz_m (inX1 w h)) hown hK.1 hP 0 rfl rfl 0 (by decide) (hts _ (wz_m tw_1_55)) (fun _ h9 => h9) rfl dX1_init_27 ?_
  refine lv_iload_n hx hb dX1_init_30 rfl (lv_at hl 0 rfl) ?_
  refine va_new (ci := 7) (fs := [.null, .int 0, .int 0]) (C := RX7) (T := TX7) (N := 3) hx hb hts (fun w h => wz_m (inX7 w h)) tyX7 tyX7_ok hown (hts _ (wz_m tw_1_34)) (hts _ (wz_m tw_1_36)) (hts _ (wz_m tw_1_4)) hK.1 hP hD hS hA rfl (fun j hj => by match j, hj with | 0, _ => rfl | 1, _ => rfl | 2, _ => rfl | j + 3, hj => exact absurd hj (by omega)) (Nat.le_of_ble_eq_true rfl) (Nat.le_of_ble_eq_true rfl) dX1_init_31 (fun q12 H hP hD hS => ?_)
  replace hP : va_P D vwCl ((((([(h0, .inr (1, [.ref q1, .ref q3, .int 0]))] ++ [(q1, .inl (cW, 5, .inr (.inr (.inr (.inr (va_up (va_up (fun _ => none) 0 (some (u7 0))) 1 (some (u10 0))))))))]) ++ [(q3, .inl (cI, 4, .inl (fun _ => 0)))]) ++ wl 2 u7 ((fun u k => zE (shW u cI 0) k) u7)) ++ wl 2 u10 ((fun u k => zE (shW u cI 0) k) u10)) ++ [(q12, .inr (7, [.null, .int 0, .int 0]))]) H := hP
  replace hD : va_D (AI h0 s.heap.size) ((((([(h0, .inr (1, [.ref q1, .ref q3, .int 0]))] ++ [(q1, .inl (cW, 5, .inr (.inr (.inr (.inr (va_up (va_up (fun _ => none) 0 (some (u7 0))) 1 (some (u10 0))))))))]) ++ [(q3, .inl (cI, 4, .inl (fun _ => 0)))]) ++ wl 2 u7 ((fun u k => zE (shW u cI 0) k) u7)) ++ wl 2 u10 ((fun u k => zE (shW u cI 0) k) u10)) ++ [(q12, .inr (7, [.null, .int 0, .int 0]))]) := hD
  refine W.widen (k := 7) (n := 24) (Nat.le_of_ble_eq_true rfl) (Nat.le_of_ble_eq_true rfl) ?_
  refine lv_dup hx hb dX1_init_34 rfl ?_
  refine i_call (va_runIN (As := []) (rest := [.ref q12, .int 2, .ref q1]) ⟨hx, hb, hml, hown, hts⟩ (k_X7_init (D := D) (cI := cI) (cW := cW) (h0 := q12) (sz := H.size)) ⟨va_cnB 0 hts (wz_good tw_1_39) rfl rfl rfl (hK.2.1 _ (List.mem_of_getElem? (i := 1) rfl)) (hts _ (wz_m tw_1_4)) hdI_X7 ⟨Nat.le_of_ble_eq_true rfl, Nat.le_of_ble_eq_true rfl⟩, rfl, hts _ (wz_m tw_1_38)⟩ (i_pre KI_st hK hP) rfl rfl hl.1 rfl (lv_room (Nat.le_of_ble_eq_true rfl)) dX1_init_35 ⟨Nat.le_of_ble_eq_true rfl, Nat.le_of_ble_eq_true rfl⟩) hP hD hS hA (fun u13 H locs eu13 hP hD hS => ?_)
  rw [← eu13]
  replace hP : va_P D vwCl ((((([(h0, .inr (1, [.ref q1, .ref q3, .int 0]))] ++ [(q1, .inl (cW, 5, .inr (.inr (.inr (.inr (va_up (va_up (fun _ => none) 0 (some (u7 0))) 1 (some (u10 0))))))))]) ++ [(q3, .inl (cI, 4, .inl (fun _ => 0)))]) ++ wl 2 u7 ((fun u k => zE (shW u cI 0) k) u7)) ++ wl 2 u10 ((fun u k => zE (shW u cI 0) k) u10)) ++ wl 2 u13 ((fun u k => zE (shW u cI 0) k) u13)) H := hP
  replace hD : va_D (AI h0 s.heap.size) ((((([(h0, .inr (1, [.ref q1, .ref q3, .int 0]))] ++ [(q1, .inl (cW, 5, .inr (.inr (.inr (.inr (va_up (va_up (fun _ => none) 0 (some (u7 0))) 1 (some (u10 0))))))))]) ++ [(q3, .inl (cI, 4, .inl (fun _ => 0)))]) ++ wl 2 u7 ((fun u k => zE (shW u cI 0) k) u7)) ++ wl 2 u10 ((fun u k => zE (shW u cI 0) k) u10)) ++ wl 2 u13 ((fun u k => zE (shW u cI 0) k) u13)) := hD
  refine W.widen (k := 8) (n := 27) (Nat.le_of_ble_eq_true rfl) (Nat.le_of_ble_eq_true rfl) ?_
  refine va_astq (r := (RX7, TX7, 3)) hx hb hK.1 hP hD hS 1 1 7 7 rfl rfl rfl rfl (vp_in_nI (n := 2) (by decide) (by decide)) dX1_init_38 (fun H locs hP hD hS => ?_)
  replace hP : va_P D vwCl ((((([(h0, .inr (1, [.ref q1, .ref q3, .int 0]))] ++ [(q1, .inl (cW, 5, .inr (.inr (.inr (.inr (va_up (va_up (va_up (fun _ => none) 0 (some (u7 0))) 1 (some (u10 0))) 2 (some (u13 0))))))))]) ++ [(q3, .inl (cI, 4, .inl (fun _ => 0)))]) ++ wl 2 u7 ((fun u k => zE (shW u cI 0) k) u7)) ++ wl 2 u10 ((fun u k => zE (shW u cI 0) k) u10)) ++ wl 2 u13 ((fun u k => zE (shW u cI 0) k) u13)) H := hP
  replace hD : va_D (AI h0 s.heap.size) ((((([(h0, .inr (1, [.ref q1, .ref q3, .int 0]))] ++ [(q1, .inl (cW, 5, .inr (.inr (.inr (.inr (va_up (va_up (va_up (fun _ => none) 0 (some (u7 0))) 1 (some (u10 0))) 2 (some (u13 0))))))))]) ++ [(q3, .inl (cI, 4, .inl (fun _ => 0)))]) ++ wl 2 u7 ((fun u k => zE (shW u cI 0) k) u7)) ++ wl 2 u10 ((fun u k => zE (shW u cI 0) k) u10)) ++ wl 2 u13 ((fun u k => zE (shW u cI 0) k) u13)) := hD
  refine lv_iinc (v := 3) (lv' := [(1, .int 3), (0, .ref h0)]) hx hb dX1_init_39 hl (k := 0) rfl (by decide) (by decide) rfl (fun ls hl => ?_)
  refine lv_goto (tgt := 21) hx hb dX1_init_42 (by decide) ?_
  refine lv_iload_n hx hb dX1_init_21 rfl (lv_at hl 0 rfl) ?_
  refine lv_iconst (v := 5) hx hb dX1_init_22 (by decide) ?_
  refine lv_icmp_ge (tgt := 45) hx hb dX1_init_23 (by decide) (fun hc14 => absurd hc14 (by decide)) (fun hc14 => ?_)
  refine lv_aload_n hx hb dX1_init_26 rfl (lv_at hl 1 rfl) ?_
  refine va_get (D := D) (ci := 1) (v := .ref q1) (C := RX1) (T := TX1) (N := 3) hx hb hts (fun w h => wz_m (inX1 w h)) hown hK.1 hP 0 rfl rfl 0 (by decide) (hts _ (wz_m tw_1_55)) (fun _ h9 => h9) rfl dX1_init_27 ?_
  refine lv_iload_n hx hb dX1_init_30 rfl (lv_at hl 0 rfl) ?_
  refine va_new (ci := 7) (fs := [.null, .int 0, .int 0]) (C := RX7) (T := TX7) (N := 3) hx hb hts (fun w h => wz_m (inX7 w h)) tyX7 tyX7_ok hown (hts _ (wz_m tw_1_34)) (hts _ (wz_m tw_1_36)) (hts _ (wz_m tw_1_4)) hK.1 hP hD hS hA rfl (fun j hj => by match j, hj with | 0, _ => rfl | 1, _ => rfl | 2, _ => rfl | j + 3, hj => exact absurd hj (by omega)) (Nat.le_of_ble_eq_true rfl) (Nat.le_of_ble_eq_true rfl) dX1_init_31 (fun q15 H hP hD hS => ?_)
  replace hP : va_P D vwCl (((((([(h0, .inr (1, [.ref q1, .ref q3, .int 0]))] ++ [(q1, .inl (cW, 5, .inr (.inr (.inr (.inr (va_up (va_up (va_up (fun _ => none) 0 (some (u7 0))) 1 (some (u10 0))) 2 (some (u13 0))))))))]) ++ [(q3, .inl (cI, 4, .inl (fun _ => 0)))]) ++ wl 2 u7 ((fun u k => zE (shW u cI 0) k) u7)) ++ wl 2 u10 ((fun u k => zE (shW u cI 0) k) u10)) ++ wl 2 u13 ((fun u k => zE (shW u cI 0) k) u13)) ++ [(q15, .inr (7, [.null, .int 0, .int 0]))]) H := hP
  replace hD : va_D (AI h0 s.heap.size) (((((([(h0, .inr (1, [.ref q1, .ref q3, .int 0]))] ++ [(q1, .inl (cW, 5, .inr (.inr (.inr (.inr (va_up (va_up (va_up (fun _ => none) 0 (some (u7 0))) 1 (some (u10 0))) 2 (some (u13 0))))))))]) ++ [(q3, .inl (cI, 4, .inl (fun _ => 0)))]) ++ wl 2 u7 ((fun u k => zE (shW u cI 0) k) u7)) ++ wl 2 u10 ((fun u k => zE (shW u cI 0) k) u10)) ++ wl 2 u13 ((fun u k => zE (shW u cI 0) k) u13)) ++ [(q15, .inr (7, [.null, .int 0, .int 0]))]) := hD
  refine W.widen (k := 9) (n := 30) (Nat.le_of_ble_eq_true rfl) (Nat.le_of_ble_eq_true rfl) ?_
  refine lv_dup hx hb dX1_init_34 rfl ?_
  refine i_call (va_runIN (As := []) (rest := [.ref q15, .int 3, .ref q1]) ⟨hx, hb, hml, hown, hts⟩ (k_X7_init (D := D) (cI := cI) (cW := cW) (h0 := q15) (sz := H.size)) ⟨va_cnB 0 hts (wz_good tw_1_39) rfl rfl rfl (hK.2.1 _ (List.mem_of_getElem? (i := 1) rfl)) (hts _ (wz_m tw_1_4)) hdI_X7 ⟨Nat.le_of_ble_eq_true rfl, Nat.le_of_ble_eq_true rfl⟩, rfl, hts _ (wz_m tw_1_38)⟩ (i_pre KI_st hK hP) rfl rfl hl.1 rfl (lv_room (Nat.le_of_ble_eq_true rfl)) dX1_init_35 ⟨Nat.le_of_ble_eq_true rfl, Nat.le_of_ble_eq_true rfl⟩) hP hD hS hA (fun u16 H locs eu16 hP hD hS => ?_)
  rw [← eu16]
  replace hP : va_P D vwCl (((((([(h0, .inr (1, [.ref q1, .ref q3, .int 0]))] ++ [(q1, .inl (cW, 5, .inr (.inr (.inr (.inr (va_up (va_up (va_up (fun _ => none) 0 (some (u7 0))) 1 (some (u10 0))) 2 (some (u13 0))))))))]) ++ [(q3, .inl (cI, 4, .inl (fun _ => 0)))]) ++ wl 2 u7 ((fun u k => zE (shW u cI 0) k) u7)) ++ wl 2 u10 ((fun u k => zE (shW u cI 0) k) u10)) ++ wl 2 u13 ((fun u k => zE (shW u cI 0) k) u13)) ++ wl 2 u16 ((fun u k => zE (shW u cI 0) k) u16)) H := hP
  replace hD : va_D (AI h0 s.heap.size) (((((([(h0, .inr (1, [.ref q1, .ref q3, .int 0]))] ++ [(q1, .inl (cW, 5, .inr (.inr (.inr (.inr (va_up (va_up (va_up (fun _ => none) 0 (some (u7 0))) 1 (some (u10 0))) 2 (some (u13 0))))))))]) ++ [(q3, .inl (cI, 4, .inl (fun _ => 0)))]) ++ wl 2 u7 ((fun u k => zE (shW u cI 0) k) u7)) ++ wl 2 u10 ((fun u k => zE (shW u cI 0) k) u10)) ++ wl 2 u13 ((fun u k => zE (shW u cI 0) k) u13)) ++ wl 2 u16 ((fun u k => zE (shW u cI 0) k) u16)) := hD
  refine W.widen (k := 10) (n := 33) (Nat.le_of_ble_eq_true rfl) (Nat.le_of_ble_eq_true rfl) ?_
  refine va_astq (r := (RX7, TX7, 3)) hx hb hK.1 hP hD hS 1 1 9 7 rfl rfl rfl rfl (vp_in_nI (n := 3) (by decide) (by decide)) dX1_init_38 (fun H locs hP hD hS => ?_)
  replace hP : va_P D vwCl (((((([(h0, .inr (1, [.ref q1, .ref q3, .int 0]))] ++ [(q1, .inl (cW, 5, .inr (.inr (.inr (.inr (va_up (va_up (va_up (va_up (fun _ => none) 0 (some (u7 0))) 1 (some (u10 0))) 2 (some (u13 0))) 3 (some (u16 0))))))))]) ++ [(q3, .inl (cI, 4, .inl (fun _ => 0)))]) ++ wl 2 u7 ((fun u k => zE (shW u cI 0) k) u7)) ++ wl 2 u10 ((fun u k => zE (shW u cI 0) k) u10)) ++ wl 2 u13 ((fun u k => zE (shW u cI 0) k) u13)) ++ wl 2 u16 ((fun u k => zE (shW u cI 0) k) u16)) H := hP
  replace hD : va_D (AI h0 s.heap.size) (((((([(h0, .inr (1, [.ref q1, .ref q3, .int 0]))] ++ [(q1, .inl (cW, 5, .inr (.inr (.inr (.inr (va_up (va_up (va_up (va_up (fun _ => none) 0 (some (u7 0))) 1 (some (u10 0))) 2 (some (u13 0))) 3 (some (u16 0))))))))]) ++ [(q3, .inl (cI, 4, .inl (fun _ => 0)))]) ++ wl 2 u7 ((fun u k => zE (shW u cI 0) k) u7)) ++ wl 2 u10 ((fun u k => zE (shW u cI 0) k) u10)) ++ wl 2 u13 ((fun u k => zE (shW u cI 0) k) u13)) ++ wl 2 u16 ((fun u k => zE (shW u cI 0) k) u16)) := hD
  refine lv_iinc (v := 4) (lv' := [(1, .int 4), (0, .ref h0)]) hx hb dX1_init_39 hl (k := 0) rfl (by decide) (by decide) rfl (fun ls hl => ?_)
  refine lv_goto (tgt := 21) hx hb dX1_init_42 (by decide) ?_
  refine lv_iload_n hx hb dX1_init_21 rfl (lv_at hl 0 rfl) ?_
  refine lv_iconst (v := 5) hx hb dX1_init_22 (by decide) ?_
  refine lv_icmp_ge (tgt := 45) hx hb dX1_init_23 (by decide) (fun hc17 => absurd hc17 (by decide)) (fun hc17 => ?_)
  refine lv_aload_n hx hb dX1_init_26 rfl (lv_at hl 1 rfl) ?_
  refine va_get (D := D) (ci := 1) (v := .ref q1) (C := RX1) (T := TX1) (N := 3) hx hb hts (fun w h => wz_m (inX1 w h)) hown hK.1 hP 0 rfl rfl 0 (by decide) (hts _ (wz_m tw_1_55)) (fun _ h9 => h9) rfl dX1_init_27 ?_
  refine lv_iload_n hx hb dX1_init_30 rfl (lv_at hl 0 rfl) ?_
  refine va_new (ci := 7) (fs := [.null, .int 0, .int 0]) (C := RX7) (T := TX7) (N := 3) hx hb hts (fun w h => wz_m (inX7 w h)) tyX7 tyX7_ok hown (hts _ (wz_m tw_1_34)) (hts _ (wz_m tw_1_36)) (hts _ (wz_m tw_1_4)) hK.1 hP hD hS hA rfl (fun j hj => by match j, hj with | 0, _ => rfl | 1, _ => rfl | 2, _ => rfl | j + 3, hj => exact absurd hj (by omega)) (Nat.le_of_ble_eq_true rfl) (Nat.le_of_ble_eq_true rfl) dX1_init_31 (fun q18 H hP hD hS => ?_)
  replace hP : va_P D vwCl ((((((([(h0, .inr (1, [.ref q1, .ref q3, .int 0]))] ++ [(q1, .inl (cW, 5, .inr (.inr (.inr (.inr (va_up (va_up (va_up (va_up (fun _ => none) 0 (some (u7 0))) 1 (some (u10 0))) 2 (some (u13 0))) 3 (some (u16 0))))))))]) ++ [(q3, .inl (cI, 4, .inl (fun _ => 0)))]) ++ wl 2 u7 ((fun u k => zE (shW u cI 0) k) u7)) ++ wl 2 u10 ((fun u k => zE (shW u cI 0) k) u10)) ++ wl 2 u13 ((fun u k => zE (shW u cI 0) k) u13)) ++ wl 2 u16 ((fun u k => zE (shW u cI 0) k) u16)) ++ [(q18, .inr (7, [.null, .int 0, .int 0]))]) H := hP
  replace hD : va_D (AI h0 s.heap.size) ((((((([(h0, .inr (1, [.ref q1, .ref q3, .int 0]))] ++ [(q1, .inl (cW, 5, .inr (.inr (.inr (.inr (va_up (va_up (va_up (va_up (fun _ => none) 0 (some (u7 0))) 1 (some (u10 0))) 2 (some (u13 0))) 3 (some (u16 0))))))))]) ++ [(q3, .inl (cI, 4, .inl (fun _ => 0)))]) ++ wl 2 u7 ((fun u k => zE (shW u cI 0) k) u7)) ++ wl 2 u10 ((fun u k => zE (shW u cI 0) k) u10)) ++ wl 2 u13 ((fun u k => zE (shW u cI 0) k) u13)) ++ wl 2 u16 ((fun u k => zE (shW u cI 0) k) u16)) ++ [(q18, .inr (7, [.null, .int 0, .int 0]))]) := hD
  refine W.widen (k := 11) (n := 36) (Nat.le_of_ble_eq_true rfl) (Nat.le_of_ble_eq_true rfl) ?_
  refine lv_dup hx hb dX1_init_34 rfl ?_
  refine i_call (va_runIN (As := []) (rest := [.ref q18, .int 4, .ref q1]) ⟨hx, hb, hml, hown, hts⟩ (k_X7_init (D := D) (cI := cI) (cW := cW) (h0 := q18) (sz := H.size)) ⟨va_cnB 0 hts (wz_good tw_1_39) rfl rfl rfl (hK.2.1 _ (List.mem_of_getElem? (i := 1) rfl)) (hts _ (wz_m tw_1_4)) hdI_X7 ⟨Nat.le_of_ble_eq_true rfl, Nat.le_of_ble_eq_true rfl⟩, rfl, hts _ (wz_m tw_1_38)⟩ (i_pre KI_st hK hP) rfl rfl hl.1 rfl (lv_room (Nat.le_of_ble_eq_true rfl)) dX1_init_35 ⟨Nat.le_of_ble_eq_true rfl, Nat.le_of_ble_eq_true rfl⟩) hP hD hS hA (fun u19 H locs eu19 hP hD hS => ?_)
  rw [← eu19]
  replace hP : va_P D vwCl ((((((([(h0, .inr (1, [.ref q1, .ref q3, .int 0]))] ++ [(q1, .inl (cW, 5, .inr (.inr (.inr (.inr (va_up (va_up (va_up (va_up (fun _ => none) 0 (some (u7 0))) 1 (some (u10 0))) 2 (some (u13 0))) 3 (some (u16 0))))))))]) ++ [(q3, .inl (cI, 4, .inl (fun _ => 0)))]) ++ wl 2 u7 ((fun u k => zE (shW u cI 0) k) u7)) ++ wl 2 u10 ((fun u k => zE (shW u cI 0) k) u10)) ++ wl 2 u13 ((fun u k => zE (shW u cI 0) k) u13)) ++ wl 2 u16 ((fun u k => zE (shW u cI 0) k) u16)) ++ wl 2 u19 ((fun u k => zE (shW u cI 0) k) u19)) H := hP
  replace hD : va_D (AI h0 s.heap.size) ((((((([(h0, .inr (1, [.ref q1, .ref q3, .int 0]))] ++ [(q1, .inl (cW, 5, .inr (.inr (.inr (.inr (va_up (va_up (va_up (va_up (fun _ => none) 0 (some (u7 0))) 1 (some (u10 0))) 2 (some (u13 0))) 3 (some (u16 0))))))))]) ++ [(q3, .inl (cI, 4, .inl (fun _ => 0)))]) ++ wl 2 u7 ((fun u k => zE (shW u cI 0) k) u7)) ++ wl 2 u10 ((fun u k => zE (shW u cI 0) k) u10)) ++ wl 2 u13 ((fun u k => zE (shW u cI 0) k) u13)) ++ wl 2 u16 ((fun u k => zE (shW u cI 0) k) u16)) ++ wl 2 u19 ((fun u k => zE (shW u cI 0) k) u19)) := hD
  refine W.widen (k := 12) (n := 39) (Nat.le_of_ble_eq_true rfl) (Nat.le_of_ble_eq_true rfl) ?_
  refine va_astq (r := (RX7, TX7, 3)) hx hb hK.1 hP hD hS 1 1 11 7 rfl rfl rfl rfl (vp_in_nI (n := 4) (by decide) (by decide)) dX1_init_38 (fun H locs hP hD hS => ?_)
  replace hP : va_P D vwCl ((((((([(h0, .inr (1, [.ref q1, .ref q3, .int 0]))] ++ [(q1, .inl (cW, 5, .inr (.inr (.inr (.inr (va_up (va_up (va_up (va_up (va_up (fun _ => none) 0 (some (u7 0))) 1 (some (u10 0))) 2 (some (u13 0))) 3 (some (u16 0))) 4 (some (u19 0))))))))]) ++ [(q3, .inl (cI, 4, .inl (fun _ => 0)))]) ++ wl 2 u7 ((fun u k => zE (shW u cI 0) k) u7)) ++ wl 2 u10 ((fun u k => zE (shW u cI 0) k) u10)) ++ wl 2 u13 ((fun u k => zE (shW u cI 0) k) u13)) ++ wl 2 u16 ((fun u k => zE (shW u cI 0) k) u16)) ++ wl 2 u19 ((fun u k => zE (shW u cI 0) k) u19)) H := hP
  replace hD : va_D (AI h0 s.heap.size) ((((((([(h0, .inr (1, [.ref q1, .ref q3, .int 0]))] ++ [(q1, .inl (cW, 5, .inr (.inr (.inr (.inr (va_up (va_up (va_up (va_up (va_up (fun _ => none) 0 (some (u7 0))) 1 (some (u10 0))) 2 (some (u13 0))) 3 (some (u16 0))) 4 (some (u19 0))))))))]) ++ [(q3, .inl (cI, 4, .inl (fun _ => 0)))]) ++ wl 2 u7 ((fun u k => zE (shW u cI 0) k) u7)) ++ wl 2 u10 ((fun u k => zE (shW u cI 0) k) u10)) ++ wl 2 u13 ((fun u k => zE (shW u cI 0) k) u13)) ++ wl 2 u16 ((fun u k => zE (shW u cI 0) k) u16)) ++ wl 2 u19 ((fun u k => zE (shW u cI 0) k) u19)) := hD
  refine lv_iinc (v := 5) (lv' := [(1, .int 5), (0, .ref h0)]) hx hb dX1_init_39 hl (k := 0) rfl (by decide) (by decide) rfl (fun ls hl => ?_)
  refine lv_goto (tgt := 21) hx hb dX1_init_42 (by decide) ?_
  refine lv_iload_n hx hb dX1_init_21 rfl (lv_at hl 0 rfl) ?_
  refine lv_iconst (v := 5) hx hb dX1_init_22 (by decide) ?_
  refine lv_icmp_ge (tgt := 45) hx hb dX1_init_23 (by decide) (fun hc20 => ?_) (fun hc20 => absurd (by decide) hc20)
  refine lv_aload_n hx hb dX1_init_45 rfl (lv_at hl 1 rfl) ?_
  refine lv_iconst (v := 0) hx hb dX1_init_46 (by decide) ?_
  refine va_put (D := D) (ci := 1) (v := .int 0) (C := RX1) (T := TX1) (N := 3) hx hb hts (fun w h => wz_m (inX1 w h)) tyX1 tyX1_ok nmX1 hown hK.1 hP hD hS 0 rfl rfl 2 (by decide) (hts _ (wz_m tw_1_60)) (fun _ h9 => h9) rfl (tyX1_ok 2 (by decide)) rfl rfl (Nat.le_of_ble_eq_true rfl) dX1_init_47 (fun H locs hP hD hS => ?_)
  replace hP : va_P D vwCl ((((((([(h0, .inr (1, [.ref q1, .ref q3, .int 0]))] ++ [(q1, .inl (cW, 5, .inr (.inr (.inr (.inr (va_up (va_up (va_up (va_up (va_up (fun _ => none) 0 (some (u7 0))) 1 (some (u10 0))) 2 (some (u13 0))) 3 (some (u16 0))) 4 (some (u19 0))))))))]) ++ [(q3, .inl (cI, 4, .inl (fun _ => 0)))]) ++ wl 2 u7 ((fun u k => zE (shW u cI 0) k) u7)) ++ wl 2 u10 ((fun u k => zE (shW u cI 0) k) u10)) ++ wl 2 u13 ((fun u k => zE (shW u cI 0) k) u13)) ++ wl 2 u16 ((fun u k => zE (shW u cI 0) k) u16)) ++ wl 2 u19 ((fun u k => zE (shW u cI 0) k) u19)) H := hP
  replace hD : va_D (AI h0 s.heap.size) ((((((([(h0, .inr (1, [.ref q1, .ref q3, .int 0]))] ++ [(q1, .inl (cW, 5, .inr (.inr (.inr (.inr (va_up (va_up (va_up (va_up (va_up (fun _ => none) 0 (some (u7 0))) 1 (some (u10 0))) 2 (some (u13 0))) 3 (some (u16 0))) 4 (some (u19 0))))))))]) ++ [(q3, .inl (cI, 4, .inl (fun _ => 0)))]) ++ wl 2 u7 ((fun u k => zE (shW u cI 0) k) u7)) ++ wl 2 u10 ((fun u k => zE (shW u cI 0) k) u10)) ++ wl 2 u13 ((fun u k => zE (shW u cI 0) k) u13)) ++ wl 2 u16 ((fun u k => zE (shW u cI 0) k) u16)) ++ wl 2 u19 ((fun u k => zE (shW u cI 0) k) u19)) := hD
  subst hQQ
  exact i_ret (fun k => if k < 1 then h0 else if k < 2 then q1 else if k < 3 then q3 else if k < 5 then u7 (k - 3) else if k < 7 then u10 (k - 5) else if k < 9 then u13 (k - 7) else if k < 11 then u16 (k - 9) else if k < 13 then u19 (k - 11) else 0) rfl hx hb hr hlocks hP hD hS (by
    intro k hk
    match k, hk with
    | 0, _ => exact ⟨_, rfl, fun h => h⟩
    | 1, _ => exact ⟨_, rfl, fun h => at_ref h (fun i hi => by match i, hi with | 0, _ => rfl | 1, _ => rfl | 2, _ => rfl | 3, _ => rfl | 4, _ => rfl | i + 5, hi => exact absurd hi (by omega))⟩
    | 2, _ => exact ⟨_, rfl, fun h => h⟩
    | 3, _ => exact ⟨_, rfl, fun h => h⟩
    | 4, _ => exact ⟨_, rfl, fun h => h⟩
    | 5, _ => exact ⟨_, rfl, fun h => h⟩
    | 6, _ => exact ⟨_, rfl, fun h => h⟩
    | 7, _ => exact ⟨_, rfl, fun h => h⟩
    | 8, _ => exact ⟨_, rfl, fun h => h⟩
    | 9, _ => exact ⟨_, rfl, fun h => h⟩
    | 10, _ => exact ⟨_, rfl, fun h => h⟩
    | 11, _ => exact ⟨_, rfl, fun h => h⟩
    | 12, _ => exact ⟨_, rfl, fun h => h⟩
    | k + 13, hk => exact absurd hk (by omega)) dX1_init_50
theorem hdI_X0 : yX0_init.cls ≠ "java/lang/invoke/MethodHandle" ∧ yX0_init.cls ≠ "java/lang/invoke/VarHandle" ∧ (parseMethodDescriptor yX0_init.desc).map (fun d => d.parameters.length) = some 0 := by decide +kernel
abbrev rmX0_init : Room := { frames := 1, cells := 2, slots := 8, locals := 12 }
set_option maxHeartbeats 4000000 in
set_option maxRecDepth 100000 in
theorem k_X0_init {l : Launch} {D : va_G} {cI cW : ClassId} {h0 sz : Nat} : Met l yX0_init (wz yX0_init cX0_init 1 none) rmX0_init (PI D (KI D cI cW) h0 (.inr (0, [.null, .null, .int 0])) sz) (QI 3 (fun u k => zE (shCs u cI 0) k) D h0 sz) 2 8 (AI h0 sz) := by
  refine i_start (cc := cX0_init) (maxL := 1) (Qc := fun sz => QI 3 (fun u k => zE (shCs u cI 0) k) D h0 sz) (by decide) rfl rfl (by decide) ?_
  intro p e s m args below meth c H locs ls hx hb hr hts hown hlocks hml hin hK hP hD hS hA hl
  obtain ⟨QQ, hQQ⟩ : ∃ q, q = MQ below (QI 3 (fun u k => zE (shCs u cI 0) k) D h0 s.heap.size) args s 2 8 (AI h0 s.heap.size) := ⟨_, rfl⟩
  rw [← hQQ]
  refine lv_aload_n hx hb dX0_init_0 rfl (lv_at hl 0 rfl) ?_
  refine W.objInit hx hb hown (hts _ (wz_m tw_1_76)) (hts _ (wz_m tw_1_20)) (hts _ (wz_m tw_1_21)) rfl (by rw [hml]; exact hl.1) rfl dX0_init_1 (Nat.le_of_ble_eq_true rfl) (Nat.le_of_ble_eq_true rfl) ?_
  refine W.eq (g2 := F0 m 4 ls []) rfl ?_
  refine lv_aload_n hx hb dX0_init_4 rfl (lv_at hl 0 rfl) ?_
  refine lv_iconst (v := 4) hx hb dX0_init_5 (by decide) ?_
  refine va_newa (atype := .int) (ty := .int) (N' := 4) (a0 := (4, .inl (fun _ => 0))) hx hb (hts _ (wz_m tw_1_54)) rfl hK.1 hP hD hS hA (fun _ => rfl) (by decide) (by decide) (Nat.le_of_ble_eq_true rfl) (Nat.le_of_ble_eq_true rfl) (Nat.le_of_ble_eq_true rfl) dX0_init_6 (fun q1 cA2 H hK2 hP hD hS => ?_)
  obtain rfl : cI = cA2 := (same_cA hK2 (i := 0) (j := 2) rfl rfl).symm
  clear hK2
  replace hP : va_P D vwCl ([(h0, .inr (0, [.null, .null, .int 0]))] ++ [(q1, .inl (cI, 4, .inl (fun _ => 0)))]) H := hP
  replace hD : va_D (AI h0 s.heap.size) ([(h0, .inr (0, [.null, .null, .int 0]))] ++ [(q1, .inl (cI, 4, .inl (fun _ => 0)))]) := hD
  refine W.widen (k := 1) (n := 4) (Nat.le_of_ble_eq_true rfl) (Nat.le_of_ble_eq_true rfl) ?_
  refine va_putF (D := D) (ci := 0) (v := .ref q1) (C := RX0) (T := TX0) (N := 3) hx hb hts (fun w h => wz_m (inX0 w h)) tyX0 tyX0_ok nmX0 hown hK.1 hP hD hS 0 rfl rfl 0 (by decide) (hts _ (wz_m tw_1_77)) (fun _ h9 => h9) rfl hin rfl (tyX0_ok 0 (by decide)) rfl rfl (Nat.le_of_ble_eq_true rfl) dX0_init_8 (fun H locs hP hD hS => ?_)
  replace hP : va_P D vwCl ([(h0, .inr (0, [.ref q1, .null, .int 0]))] ++ [(q1, .inl (cI, 4, .inl (fun _ => 0)))]) H := hP
  replace hD : va_D (AI h0 s.heap.size) ([(h0, .inr (0, [.ref q1, .null, .int 0]))] ++ [(q1, .inl (cI, 4, .inl (fun _ => 0)))]) := hD
  refine lv_aload_n hx hb dX0_init_11 rfl (lv_at hl 0 rfl) ?_
  refine lv_iconst (v := 4) hx hb dX0_init_12 (by decide) ?_
  refine va_newa (atype := .int) (ty := .int) (N' := 4) (a0 := (4, .inl (fun _ => 0))) hx hb (hts _ (wz_m tw_1_54)) rfl hK.1 hP hD hS hA (fun _ => rfl) (by decide) (by decide) (Nat.le_of_ble_eq_true rfl) (Nat.le_of_ble_eq_true rfl) (Nat.le_of_ble_eq_true rfl) dX0_init_13 (fun q3 cA4 H hK2 hP hD hS => ?_)
  obtain rfl : cI = cA4 := (same_cA hK2 (i := 0) (j := 2) rfl rfl).symm
  clear hK2
  replace hP : va_P D vwCl (([(h0, .inr (0, [.ref q1, .null, .int 0]))] ++ [(q1, .inl (cI, 4, .inl (fun _ => 0)))]) ++ [(q3, .inl (cI, 4, .inl (fun _ => 0)))]) H := hP
  replace hD : va_D (AI h0 s.heap.size) (([(h0, .inr (0, [.ref q1, .null, .int 0]))] ++ [(q1, .inl (cI, 4, .inl (fun _ => 0)))]) ++ [(q3, .inl (cI, 4, .inl (fun _ => 0)))]) := hD
  refine W.widen (k := 2) (n := 8) (Nat.le_of_ble_eq_true rfl) (Nat.le_of_ble_eq_true rfl) ?_
  refine va_putF (D := D) (ci := 0) (v := .ref q3) (C := RX0) (T := TX0) (N := 3) hx hb hts (fun w h => wz_m (inX0 w h)) tyX0 tyX0_ok nmX0 hown hK.1 hP hD hS 0 rfl rfl 1 (by decide) (hts _ (wz_m tw_1_79)) (fun _ h9 => h9) rfl hin rfl (tyX0_ok 1 (by decide)) rfl rfl (Nat.le_of_ble_eq_true rfl) dX0_init_15 (fun H locs hP hD hS => ?_)
  replace hP : va_P D vwCl (([(h0, .inr (0, [.ref q1, .ref q3, .int 0]))] ++ [(q1, .inl (cI, 4, .inl (fun _ => 0)))]) ++ [(q3, .inl (cI, 4, .inl (fun _ => 0)))]) H := hP
  replace hD : va_D (AI h0 s.heap.size) (([(h0, .inr (0, [.ref q1, .ref q3, .int 0]))] ++ [(q1, .inl (cI, 4, .inl (fun _ => 0)))]) ++ [(q3, .inl (cI, 4, .inl (fun _ => 0)))]) := hD
  subst hQQ
  exact i_ret (fun k => if k < 1 then h0 else if k < 2 then q1 else if k < 3 then q3 else 0) rfl hx hb hr hlocks hP hD hS (by
    intro k hk
    match k, hk with
    | 0, _ => exact ⟨_, rfl, fun h => h⟩
    | 1, _ => exact ⟨_, rfl, fun h => h⟩
    | 2, _ => exact ⟨_, rfl, fun h => h⟩
    | k + 3, hk => exact absurd hk (by omega)) dX0_init_18
theorem hdI_X5 : yX5_init.cls ≠ "java/lang/invoke/MethodHandle" ∧ yX5_init.cls ≠ "java/lang/invoke/VarHandle" ∧ (parseMethodDescriptor yX5_init.desc).map (fun d => d.parameters.length) = some 0 := by decide +kernel
abbrev rmX5_init : Room := { frames := 1, cells := 3, slots := 18, locals := 12 }
set_option maxHeartbeats 4000000 in
set_option maxRecDepth 100000 in
theorem k_X5_init {l : Launch} {D : va_G} {cI cW : ClassId} {h0 sz : Nat} : Met l yX5_init (wz yX5_init cX5_init 1 none) rmX5_init (PI D (KI D cI cW) h0 (.inr (5, [.null, .null, .null, .int 0])) sz) (QI 4 (fun u k => zE (shSl u cI 0) k) D h0 sz) 3 18 (AI h0 sz) := by
  refine i_start (cc := cX5_init) (maxL := 1) (Qc := fun sz => QI 4 (fun u k => zE (shSl u cI 0) k) D h0 sz) (by decide) rfl rfl (by decide) ?_
  intro p e s m args below meth c H locs ls hx hb hr hts hown hlocks hml hin hK hP hD hS hA hl
  obtain ⟨QQ, hQQ⟩ : ∃ q, q = MQ below (QI 4 (fun u k => zE (shSl u cI 0) k) D h0 s.heap.size) args s 3 18 (AI h0 s.heap.size) := ⟨_, rfl⟩
  rw [← hQQ]
  refine lv_aload_n hx hb dX5_init_0 rfl (lv_at hl 0 rfl) ?_
  refine W.objInit hx hb hown (hts _ (wz_m tw_1_130)) (hts _ (wz_m tw_1_20)) (hts _ (wz_m tw_1_21)) rfl (by rw [hml]; exact hl.1) rfl dX5_init_1 (Nat.le_of_ble_eq_true rfl) (Nat.le_of_ble_eq_true rfl) ?_
  refine W.eq (g2 := F0 m 4 ls []) rfl ?_
  refine lv_aload_n hx hb dX5_init_4 rfl (lv_at hl 0 rfl) ?_
  refine lv_bipush (v := 6) hx hb dX5_init_5 (by decide) ?_
  refine va_newa (atype := .int) (ty := .int) (N' := 6) (a0 := (6, .inl (fun _ => 0))) hx hb (hts _ (wz_m tw_1_54)) rfl hK.1 hP hD hS hA (fun _ => rfl) (by decide) (by decide) (Nat.le_of_ble_eq_true rfl) (Nat.le_of_ble_eq_true rfl) (Nat.le_of_ble_eq_true rfl) dX5_init_7 (fun q1 cA2 H hK2 hP hD hS => ?_)
  obtain rfl : cI = cA2 := (same_cA hK2 (i := 0) (j := 2) rfl rfl).symm
  clear hK2
  replace hP : va_P D vwCl ([(h0, .inr (5, [.null, .null, .null, .int 0]))] ++ [(q1, .inl (cI, 6, .inl (fun _ => 0)))]) H := hP
  replace hD : va_D (AI h0 s.heap.size) ([(h0, .inr (5, [.null, .null, .null, .int 0]))] ++ [(q1, .inl (cI, 6, .inl (fun _ => 0)))]) := hD
  refine W.widen (k := 1) (n := 6) (Nat.le_of_ble_eq_true rfl) (Nat.le_of_ble_eq_true rfl) ?_
  refine va_putF (D := D) (ci := 5) (v := .ref q1) (C := RX5) (T := TX5) (N := 4) hx hb hts (fun w h => wz_m (inX5 w h)) tyX5 tyX5_ok nmX5 hown hK.1 hP hD hS 0 rfl rfl 0 (by decide) (hts _ (wz_m tw_1_131)) (fun _ h9 => h9) rfl hin rfl (tyX5_ok 0 (by decide)) rfl rfl (Nat.le_of_ble_eq_true rfl) dX5_init_9 (fun H locs hP hD hS => ?_)
  replace hP : va_P D vwCl ([(h0, .inr (5, [.ref q1, .null, .null, .int 0]))] ++ [(q1, .inl (cI, 6, .inl (fun _ => 0)))]) H := hP
  replace hD : va_D (AI h0 s.heap.size) ([(h0, .inr (5, [.ref q1, .null, .null, .int 0]))] ++ [(q1, .inl (cI, 6, .inl (fun _ => 0)))]) := hD
  refine lv_aload_n hx hb dX5_init_12 rfl (lv_at hl 0 rfl) ?_
  refine lv_bipush (v := 6) hx hb dX5_init_13 (by decide) ?_
  refine va_newa (atype := .int) (ty := .int) (N' := 6) (a0 := (6, .inl (fun _ => 0))) hx hb (hts _ (wz_m tw_1_54)) rfl hK.1 hP hD hS hA (fun _ => rfl) (by decide) (by decide) (Nat.le_of_ble_eq_true rfl) (Nat.le_of_ble_eq_true rfl) (Nat.le_of_ble_eq_true rfl) dX5_init_15 (fun q3 cA4 H hK2 hP hD hS => ?_)
  obtain rfl : cI = cA4 := (same_cA hK2 (i := 0) (j := 2) rfl rfl).symm
  clear hK2
  replace hP : va_P D vwCl (([(h0, .inr (5, [.ref q1, .null, .null, .int 0]))] ++ [(q1, .inl (cI, 6, .inl (fun _ => 0)))]) ++ [(q3, .inl (cI, 6, .inl (fun _ => 0)))]) H := hP
  replace hD : va_D (AI h0 s.heap.size) (([(h0, .inr (5, [.ref q1, .null, .null, .int 0]))] ++ [(q1, .inl (cI, 6, .inl (fun _ => 0)))]) ++ [(q3, .inl (cI, 6, .inl (fun _ => 0)))]) := hD
  refine W.widen (k := 2) (n := 12) (Nat.le_of_ble_eq_true rfl) (Nat.le_of_ble_eq_true rfl) ?_
  refine va_putF (D := D) (ci := 5) (v := .ref q3) (C := RX5) (T := TX5) (N := 4) hx hb hts (fun w h => wz_m (inX5 w h)) tyX5 tyX5_ok nmX5 hown hK.1 hP hD hS 0 rfl rfl 1 (by decide) (hts _ (wz_m tw_1_132)) (fun _ h9 => h9) rfl hin rfl (tyX5_ok 1 (by decide)) rfl rfl (Nat.le_of_ble_eq_true rfl) dX5_init_17 (fun H locs hP hD hS => ?_)
  replace hP : va_P D vwCl (([(h0, .inr (5, [.ref q1, .ref q3, .null, .int 0]))] ++ [(q1, .inl (cI, 6, .inl (fun _ => 0)))]) ++ [(q3, .inl (cI, 6, .inl (fun _ => 0)))]) H := hP
  replace hD : va_D (AI h0 s.heap.size) (([(h0, .inr (5, [.ref q1, .ref q3, .null, .int 0]))] ++ [(q1, .inl (cI, 6, .inl (fun _ => 0)))]) ++ [(q3, .inl (cI, 6, .inl (fun _ => 0)))]) := hD
  refine lv_aload_n hx hb dX5_init_20 rfl (lv_at hl 0 rfl) ?_
  refine lv_bipush (v := 6) hx hb dX5_init_21 (by decide) ?_
  refine va_newa (atype := .int) (ty := .int) (N' := 6) (a0 := (6, .inl (fun _ => 0))) hx hb (hts _ (wz_m tw_1_54)) rfl hK.1 hP hD hS hA (fun _ => rfl) (by decide) (by decide) (Nat.le_of_ble_eq_true rfl) (Nat.le_of_ble_eq_true rfl) (Nat.le_of_ble_eq_true rfl) dX5_init_23 (fun q5 cA6 H hK2 hP hD hS => ?_)
  obtain rfl : cI = cA6 := (same_cA hK2 (i := 0) (j := 2) rfl rfl).symm
  clear hK2
  replace hP : va_P D vwCl ((([(h0, .inr (5, [.ref q1, .ref q3, .null, .int 0]))] ++ [(q1, .inl (cI, 6, .inl (fun _ => 0)))]) ++ [(q3, .inl (cI, 6, .inl (fun _ => 0)))]) ++ [(q5, .inl (cI, 6, .inl (fun _ => 0)))]) H := hP
  replace hD : va_D (AI h0 s.heap.size) ((([(h0, .inr (5, [.ref q1, .ref q3, .null, .int 0]))] ++ [(q1, .inl (cI, 6, .inl (fun _ => 0)))]) ++ [(q3, .inl (cI, 6, .inl (fun _ => 0)))]) ++ [(q5, .inl (cI, 6, .inl (fun _ => 0)))]) := hD
  refine W.widen (k := 3) (n := 18) (Nat.le_of_ble_eq_true rfl) (Nat.le_of_ble_eq_true rfl) ?_
  refine va_putF (D := D) (ci := 5) (v := .ref q5) (C := RX5) (T := TX5) (N := 4) hx hb hts (fun w h => wz_m (inX5 w h)) tyX5 tyX5_ok nmX5 hown hK.1 hP hD hS 0 rfl rfl 2 (by decide) (hts _ (wz_m tw_1_133)) (fun _ h9 => h9) rfl hin rfl (tyX5_ok 2 (by decide)) rfl rfl (Nat.le_of_ble_eq_true rfl) dX5_init_25 (fun H locs hP hD hS => ?_)
  replace hP : va_P D vwCl ((([(h0, .inr (5, [.ref q1, .ref q3, .ref q5, .int 0]))] ++ [(q1, .inl (cI, 6, .inl (fun _ => 0)))]) ++ [(q3, .inl (cI, 6, .inl (fun _ => 0)))]) ++ [(q5, .inl (cI, 6, .inl (fun _ => 0)))]) H := hP
  replace hD : va_D (AI h0 s.heap.size) ((([(h0, .inr (5, [.ref q1, .ref q3, .ref q5, .int 0]))] ++ [(q1, .inl (cI, 6, .inl (fun _ => 0)))]) ++ [(q3, .inl (cI, 6, .inl (fun _ => 0)))]) ++ [(q5, .inl (cI, 6, .inl (fun _ => 0)))]) := hD
  subst hQQ
  exact i_ret (fun k => if k < 1 then h0 else if k < 2 then q1 else if k < 3 then q3 else if k < 4 then q5 else 0) rfl hx hb hr hlocks hP hD hS (by
    intro k hk
    match k, hk with
    | 0, _ => exact ⟨_, rfl, fun h => h⟩
    | 1, _ => exact ⟨_, rfl, fun h => h⟩
    | 2, _ => exact ⟨_, rfl, fun h => h⟩
    | 3, _ => exact ⟨_, rfl, fun h => h⟩
    | k + 4, hk => exact absurd hk (by omega)) dX5_init_28
theorem hdI_X4 : yX4_init.cls ≠ "java/lang/invoke/MethodHandle" ∧ yX4_init.cls ≠ "java/lang/invoke/VarHandle" ∧ (parseMethodDescriptor yX4_init.desc).map (fun d => d.parameters.length) = some 0 := by decide +kernel
abbrev rmX4_init : Room := { frames := 1, cells := 2, slots := 12, locals := 12 }
set_option maxHeartbeats 4000000 in
set_option maxRecDepth 100000 in
theorem k_X4_init {l : Launch} {D : va_G} {cI cW : ClassId} {h0 sz : Nat} : Met l yX4_init (wz yX4_init cX4_init 1 none) rmX4_init (PI D (KI D cI cW) h0 (.inr (4, [.null, .null, .int 0])) sz) (QI 3 (fun u k => zE (shSe u cI 0) k) D h0 sz) 2 12 (AI h0 sz) := by
  refine i_start (cc := cX4_init) (maxL := 1) (Qc := fun sz => QI 3 (fun u k => zE (shSe u cI 0) k) D h0 sz) (by decide) rfl rfl (by decide) ?_
  intro p e s m args below meth c H locs ls hx hb hr hts hown hlocks hml hin hK hP hD hS hA hl
  obtain ⟨QQ, hQQ⟩ : ∃ q, q = MQ below (QI 3 (fun u k => zE (shSe u cI 0) k) D h0 s.heap.size) args s 2 12 (AI h0 s.heap.size) := ⟨_, rfl⟩
  rw [← hQQ]
  refine lv_aload_n hx hb dX4_init_0 rfl (lv_at hl 0 rfl) ?_
  refine W.objInit hx hb hown (hts _ (wz_m tw_1_151)) (hts _ (wz_m tw_1_20)) (hts _ (wz_m tw_1_21)) rfl (by rw [hml]; exact hl.1) rfl dX4_init_1 (Nat.le_of_ble_eq_true rfl) (Nat.le_of_ble_eq_true rfl) ?_
  refine W.eq (g2 := F0 m 4 ls []) rfl ?_
  refine lv_aload_n hx hb dX4_init_4 rfl (lv_at hl 0 rfl) ?_
  refine lv_bipush (v := 6) hx hb dX4_init_5 (by decide) ?_
  refine va_newa (atype := .int) (ty := .int) (N' := 6) (a0 := (6, .inl (fun _ => 0))) hx hb (hts _ (wz_m tw_1_54)) rfl hK.1 hP hD hS hA (fun _ => rfl) (by decide) (by decide) (Nat.le_of_ble_eq_true rfl) (Nat.le_of_ble_eq_true rfl) (Nat.le_of_ble_eq_true rfl) dX4_init_7 (fun q1 cA2 H hK2 hP hD hS => ?_)
  obtain rfl : cI = cA2 := (same_cA hK2 (i := 0) (j := 2) rfl rfl).symm
  clear hK2
  replace hP : va_P D vwCl ([(h0, .inr (4, [.null, .null, .int 0]))] ++ [(q1, .inl (cI, 6, .inl (fun _ => 0)))]) H := hP
  replace hD : va_D (AI h0 s.heap.size) ([(h0, .inr (4, [.null, .null, .int 0]))] ++ [(q1, .inl (cI, 6, .inl (fun _ => 0)))]) := hD
  refine W.widen (k := 1) (n := 6) (Nat.le_of_ble_eq_true rfl) (Nat.le_of_ble_eq_true rfl) ?_
  refine va_putF (D := D) (ci := 4) (v := .ref q1) (C := RX4) (T := TX4) (N := 3) hx hb hts (fun w h => wz_m (inX4 w h)) tyX4 tyX4_ok nmX4 hown hK.1 hP hD hS 0 rfl rfl 0 (by decide) (hts _ (wz_m tw_1_152)) (fun _ h9 => h9) rfl hin rfl (tyX4_ok 0 (by decide)) rfl rfl (Nat.le_of_ble_eq_true rfl) dX4_init_9 (fun H locs hP hD hS => ?_)
  replace hP : va_P D vwCl ([(h0, .inr (4, [.ref q1, .null, .int 0]))] ++ [(q1, .inl (cI, 6, .inl (fun _ => 0)))]) H := hP
  replace hD : va_D (AI h0 s.heap.size) ([(h0, .inr (4, [.ref q1, .null, .int 0]))] ++ [(q1, .inl (cI, 6, .inl (fun _ => 0)))]) := hD
  refine lv_aload_n hx hb dX4_init_12 rfl (lv_at hl 0 rfl) ?_
  refine lv_bipush (v := 6) hx hb dX4_init_13 (by decide) ?_
  refine va_newa (atype := .int) (ty := .int) (N' := 6) (a0 := (6, .inl (fun _ => 0))) hx hb (hts _ (wz_m tw_1_54)) rfl hK.1 hP hD hS hA (fun _ => rfl) (by decide) (by decide) (Nat.le_of_ble_eq_true rfl) (Nat.le_of_ble_eq_true rfl) (Nat.le_of_ble_eq_true rfl) dX4_init_15 (fun q3 cA4 H hK2 hP hD hS => ?_)
  obtain rfl : cI = cA4 := (same_cA hK2 (i := 0) (j := 2) rfl rfl).symm
  clear hK2
  replace hP : va_P D vwCl (([(h0, .inr (4, [.ref q1, .null, .int 0]))] ++ [(q1, .inl (cI, 6, .inl (fun _ => 0)))]) ++ [(q3, .inl (cI, 6, .inl (fun _ => 0)))]) H := hP
  replace hD : va_D (AI h0 s.heap.size) (([(h0, .inr (4, [.ref q1, .null, .int 0]))] ++ [(q1, .inl (cI, 6, .inl (fun _ => 0)))]) ++ [(q3, .inl (cI, 6, .inl (fun _ => 0)))]) := hD
  refine W.widen (k := 2) (n := 12) (Nat.le_of_ble_eq_true rfl) (Nat.le_of_ble_eq_true rfl) ?_
  refine va_putF (D := D) (ci := 4) (v := .ref q3) (C := RX4) (T := TX4) (N := 3) hx hb hts (fun w h => wz_m (inX4 w h)) tyX4 tyX4_ok nmX4 hown hK.1 hP hD hS 0 rfl rfl 1 (by decide) (hts _ (wz_m tw_1_153)) (fun _ h9 => h9) rfl hin rfl (tyX4_ok 1 (by decide)) rfl rfl (Nat.le_of_ble_eq_true rfl) dX4_init_17 (fun H locs hP hD hS => ?_)
  replace hP : va_P D vwCl (([(h0, .inr (4, [.ref q1, .ref q3, .int 0]))] ++ [(q1, .inl (cI, 6, .inl (fun _ => 0)))]) ++ [(q3, .inl (cI, 6, .inl (fun _ => 0)))]) H := hP
  replace hD : va_D (AI h0 s.heap.size) (([(h0, .inr (4, [.ref q1, .ref q3, .int 0]))] ++ [(q1, .inl (cI, 6, .inl (fun _ => 0)))]) ++ [(q3, .inl (cI, 6, .inl (fun _ => 0)))]) := hD
  subst hQQ
  exact i_ret (fun k => if k < 1 then h0 else if k < 2 then q1 else if k < 3 then q3 else 0) rfl hx hb hr hlocks hP hD hS (by
    intro k hk
    match k, hk with
    | 0, _ => exact ⟨_, rfl, fun h => h⟩
    | 1, _ => exact ⟨_, rfl, fun h => h⟩
    | 2, _ => exact ⟨_, rfl, fun h => h⟩
    | k + 3, hk => exact absurd hk (by omega)) dX4_init_20
theorem hdI_X3 : yX3_init.cls ≠ "java/lang/invoke/MethodHandle" ∧ yX3_init.cls ≠ "java/lang/invoke/VarHandle" ∧ (parseMethodDescriptor yX3_init.desc).map (fun d => d.parameters.length) = some 0 := by decide +kernel
abbrev rmX3_init : Room := { frames := 3, cells := 20, slots := 79, locals := 53 }
set_option maxHeartbeats 4000000 in
set_option maxRecDepth 100000 in
theorem k_X3_init {l : Launch} {D : va_G} {cI cW : ClassId} {h0 sz : Nat} : Met l yX3_init (wz yX3_init cX3_init 1 none) rmX3_init (PI D (KI D cI cW) h0 (.inr (3, [.null, .null, .null, .int 0])) sz) (QI 21 (fun u k => zE (shSc u cI cW 0) k) D h0 sz) 20 79 (AI h0 sz) := by
  refine i_start (cc := cX3_init) (maxL := 1) (Qc := fun sz => QI 21 (fun u k => zE (shSc u cI cW 0) k) D h0 sz) (by decide) rfl rfl (by decide) ?_
  intro p e s m args below meth c H locs ls hx hb hr hts hown hlocks hml hin hK hP hD hS hA hl
  obtain ⟨QQ, hQQ⟩ : ∃ q, q = MQ below (QI 21 (fun u k => zE (shSc u cI cW 0) k) D h0 s.heap.size) args s 20 79 (AI h0 s.heap.size) := ⟨_, rfl⟩
  rw [← hQQ]
  refine lv_aload_n hx hb dX3_init_0 rfl (lv_at hl 0 rfl) ?_
  refine W.objInit hx hb hown (hts _ (wz_m tw_1_122)) (hts _ (wz_m tw_1_20)) (hts _ (wz_m tw_1_21)) rfl (by rw [hml]; exact hl.1) rfl dX3_init_1 (Nat.le_of_ble_eq_true rfl) (Nat.le_of_ble_eq_true rfl) ?_
  refine W.eq (g2 := F0 m 4 ls []) rfl ?_
  refine lv_aload_n hx hb dX3_init_4 rfl (lv_at hl 0 rfl) ?_
  refine va_new (ci := 1) (fs := [.null, .null, .int 0]) (C := RX1) (T := TX1) (N := 3) hx hb hts (fun w h => wz_m (inX1 w h)) tyX1 tyX1_ok hown (hts _ (wz_m tw_1_123)) (hts _ (wz_m tw_1_29)) (hts _ (wz_m tw_1_3)) hK.1 hP hD hS hA rfl (fun j hj => by match j, hj with | 0, _ => rfl | 1, _ => rfl | 2, _ => rfl | j + 3, hj => exact absurd hj (by omega)) (Nat.le_of_ble_eq_true rfl) (Nat.le_of_ble_eq_true rfl) dX3_init_5 (fun q1 H hP hD hS => ?_)
  replace hP : va_P D vwCl ([(h0, .inr (3, [.null, .null, .null, .int 0]))] ++ [(q1, .inr (1, [.null, .null, .int 0]))]) H := hP
  replace hD : va_D (AI h0 s.heap.size) ([(h0, .inr (3, [.null, .null, .null, .int 0]))] ++ [(q1, .inr (1, [.null, .null, .int 0]))]) := hD
  refine W.widen (k := 1) (n := 3) (Nat.le_of_ble_eq_true rfl) (Nat.le_of_ble_eq_true rfl) ?_
  refine lv_dup hx hb dX3_init_8 rfl ?_
  refine i_call (va_runI (As := []) (rest := [.ref q1, .ref h0]) ⟨hx, hb, hml, hown, hts⟩ (k_X1_init (D := D) (cI := cI) (cW := cW) (h0 := q1) (sz := H.size)) (cwI 0 hts (wz_good tw_1_32) rfl rfl rfl (hts _ (wz_m tw_1_3)) (hts _ (wz_m tw_1_124)) (hts _ (wz_m tw_1_31)) rfl hdI_X1 ⟨Nat.le_of_ble_eq_true rfl, Nat.le_of_ble_eq_true rfl⟩) (i_pre KI_st hK hP) rfl rfl hl.1 rfl (lv_room (Nat.le_of_ble_eq_true rfl)) dX3_init_9 ⟨Nat.le_of_ble_eq_true rfl, Nat.le_of_ble_eq_true rfl⟩) hP hD hS hA (fun u2 H locs eu2 hP hD hS => ?_)
  rw [← eu2]
  replace hP : va_P D vwCl ([(h0, .inr (3, [.null, .null, .null, .int 0]))] ++ wl 13 u2 ((fun u k => zE (shH u cI cW 0) k) u2)) H := hP
  replace hD : va_D (AI h0 s.heap.size) ([(h0, .inr (3, [.null, .null, .null, .int 0]))] ++ wl 13 u2 ((fun u k => zE (shH u cI cW 0) k) u2)) := hD
  refine W.widen (k := 13) (n := 42) (Nat.le_of_ble_eq_true rfl) (Nat.le_of_ble_eq_true rfl) ?_
  refine va_putF (D := D) (ci := 3) (v := .ref (u2 0)) (C := RX3) (T := TX3) (N := 4) hx hb hts (fun w h => wz_m (inX3 w h)) tyX3 tyX3_ok nmX3 hown hK.1 hP hD hS 0 rfl rfl 0 (by decide) (hts _ (wz_m tw_1_164)) (fun _ h9 => h9) rfl hin rfl (tyX3_ok 0 (by decide)) rfl rfl (Nat.le_of_ble_eq_true rfl) dX3_init_12 (fun H locs hP hD hS => ?_)
  replace hP : va_P D vwCl ([(h0, .inr (3, [.ref (u2 0), .null, .null, .int 0]))] ++ wl 13 u2 ((fun u k => zE (shH u cI cW 0) k) u2)) H := hP
  replace hD : va_D (AI h0 s.heap.size) ([(h0, .inr (3, [.ref (u2 0), .null, .null, .int 0]))] ++ wl 13 u2 ((fun u k => zE (shH u cI cW 0) k) u2)) := hD
  refine lv_aload_n hx hb dX3_init_15 rfl (lv_at hl 0 rfl) ?_
  refine va_new (ci := 5) (fs := [.null, .null, .null, .int 0]) (C := RX5) (T := TX5) (N := 4) hx hb hts (fun w h => wz_m (inX5 w h)) tyX5 tyX5_ok hown (hts _ (wz_m tw_1_125)) (hts _ (wz_m tw_1_126)) (hts _ (wz_m tw_1_7)) hK.1 hP hD hS hA rfl (fun j hj => by match j, hj with | 0, _ => rfl | 1, _ => rfl | 2, _ => rfl | 3, _ => rfl | j + 4, hj => exact absurd hj (by omega)) (Nat.le_of_ble_eq_true rfl) (Nat.le_of_ble_eq_true rfl) dX3_init_16 (fun q3 H hP hD hS => ?_)
  replace hP : va_P D vwCl (([(h0, .inr (3, [.ref (u2 0), .null, .null, .int 0]))] ++ wl 13 u2 ((fun u k => zE (shH u cI cW 0) k) u2)) ++ [(q3, .inr (5, [.null, .null, .null, .int 0]))]) H := hP
  replace hD : va_D (AI h0 s.heap.size) (([(h0, .inr (3, [.ref (u2 0), .null, .null, .int 0]))] ++ wl 13 u2 ((fun u k => zE (shH u cI cW 0) k) u2)) ++ [(q3, .inr (5, [.null, .null, .null, .int 0]))]) := hD
  refine W.widen (k := 14) (n := 46) (Nat.le_of_ble_eq_true rfl) (Nat.le_of_ble_eq_true rfl) ?_
  refine lv_dup hx hb dX3_init_19 rfl ?_
  refine i_call (va_runIN (As := []) (rest := [.ref q3, .ref h0]) ⟨hx, hb, hml, hown, hts⟩ (k_X5_init (D := D) (cI := cI) (cW := cW) (h0 := q3) (sz := H.size)) ⟨va_cnB 0 hts (wz_good tw_1_129) rfl rfl rfl (hK.2.1 _ (List.mem_of_getElem? (i := 23) rfl)) (hts _ (wz_m tw_1_7)) hdI_X5 ⟨Nat.le_of_ble_eq_true rfl, Nat.le_of_ble_eq_true rfl⟩, rfl, hts _ (wz_m tw_1_128)⟩ (i_pre KI_st hK hP) rfl rfl hl.1 rfl (lv_room (Nat.le_of_ble_eq_true rfl)) dX3_init_20 ⟨Nat.le_of_ble_eq_true rfl, Nat.le_of_ble_eq_true rfl⟩) hP hD hS hA (fun u4 H locs eu4 hP hD hS => ?_)
  rw [← eu4]
  replace hP : va_P D vwCl (([(h0, .inr (3, [.ref (u2 0), .null, .null, .int 0]))] ++ wl 13 u2 ((fun u k => zE (shH u cI cW 0) k) u2)) ++ wl 4 u4 ((fun u k => zE (shSl u cI 0) k) u4)) H := hP
  replace hD : va_D (AI h0 s.heap.size) (([(h0, .inr (3, [.ref (u2 0), .null, .null, .int 0]))] ++ wl 13 u2 ((fun u k => zE (shH u cI cW 0) k) u2)) ++ wl 4 u4 ((fun u k => zE (shSl u cI 0) k) u4)) := hD
  refine W.widen (k := 17) (n := 64) (Nat.le_of_ble_eq_true rfl) (Nat.le_of_ble_eq_true rfl) ?_
  refine va_putF (D := D) (ci := 3) (v := .ref (u4 0)) (C := RX3) (T := TX3) (N := 4) hx hb hts (fun w h => wz_m (inX3 w h)) tyX3 tyX3_ok nmX3 hown hK.1 hP hD hS 0 rfl rfl 1 (by decide) (hts _ (wz_m tw_1_166)) (fun _ h9 => h9) rfl hin rfl (tyX3_ok 1 (by decide)) rfl rfl (Nat.le_of_ble_eq_true rfl) dX3_init_23 (fun H locs hP hD hS => ?_)
  replace hP : va_P D vwCl (([(h0, .inr (3, [.ref (u2 0), .ref (u4 0), .null, .int 0]))] ++ wl 13 u2 ((fun u k => zE (shH u cI cW 0) k) u2)) ++ wl 4 u4 ((fun u k => zE (shSl u cI 0) k) u4)) H := hP
  replace hD : va_D (AI h0 s.heap.size) (([(h0, .inr (3, [.ref (u2 0), .ref (u4 0), .null, .int 0]))] ++ wl 13 u2 ((fun u k => zE (shH u cI cW 0) k) u2)) ++ wl 4 u4 ((fun u k => zE (shSl u cI 0) k) u4)) := hD
  refine lv_aload_n hx hb dX3_init_26 rfl (lv_at hl 0 rfl) ?_
  refine va_new (ci := 4) (fs := [.null, .null, .int 0]) (C := RX4) (T := TX4) (N := 3) hx hb hts (fun w h => wz_m (inX4 w h)) tyX4 tyX4_ok hown (hts _ (wz_m tw_1_146)) (hts _ (wz_m tw_1_147)) (hts _ (wz_m tw_1_8)) hK.1 hP hD hS hA rfl (fun j hj => by match j, hj with | 0, _ => rfl | 1, _ => rfl | 2, _ => rfl | j + 3, hj => exact absurd hj (by omega)) (Nat.le_of_ble_eq_true rfl) (Nat.le_of_ble_eq_true rfl) dX3_init_27 (fun q5 H hP hD hS => ?_)
  replace hP : va_P D vwCl ((([(h0, .inr (3, [.ref (u2 0), .ref (u4 0), .null, .int 0]))] ++ wl 13 u2 ((fun u k => zE (shH u cI cW 0) k) u2)) ++ wl 4 u4 ((fun u k => zE (shSl u cI 0) k) u4)) ++ [(q5, .inr (4, [.null, .null, .int 0]))]) H := hP
  replace hD : va_D (AI h0 s.heap.size) ((([(h0, .inr (3, [.ref (u2 0), .ref (u4 0), .null, .int 0]))] ++ wl 13 u2 ((fun u k => zE (shH u cI cW 0) k) u2)) ++ wl 4 u4 ((fun u k => zE (shSl u cI 0) k) u4)) ++ [(q5, .inr (4, [.null, .null, .int 0]))]) := hD
  refine W.widen (k := 18) (n := 67) (Nat.le_of_ble_eq_true rfl) (Nat.le_of_ble_eq_true rfl) ?_
  refine lv_dup hx hb dX3_init_30 rfl ?_
  refine i_call (va_runIN (As := []) (rest := [.ref q5, .ref h0]) ⟨hx, hb, hml, hown, hts⟩ (k_X4_init (D := D) (cI := cI) (cW := cW) (h0 := q5) (sz := H.size)) ⟨va_cnB 0 hts (wz_good tw_1_150) rfl rfl rfl (hK.2.1 _ (List.mem_of_getElem? (i := 26) rfl)) (hts _ (wz_m tw_1_8)) hdI_X4 ⟨Nat.le_of_ble_eq_true rfl, Nat.le_of_ble_eq_true rfl⟩, rfl, hts _ (wz_m tw_1_149)⟩ (i_pre KI_st hK hP) rfl rfl hl.1 rfl (lv_room (Nat.le_of_ble_eq_true rfl)) dX3_init_31 ⟨Nat.le_of_ble_eq_true rfl, Nat.le_of_ble_eq_true rfl⟩) hP hD hS hA (fun u6 H locs eu6 hP hD hS => ?_)
  rw [← eu6]
  replace hP : va_P D vwCl ((([(h0, .inr (3, [.ref (u2 0), .ref (u4 0), .null, .int 0]))] ++ wl 13 u2 ((fun u k => zE (shH u cI cW 0) k) u2)) ++ wl 4 u4 ((fun u k => zE (shSl u cI 0) k) u4)) ++ wl 3 u6 ((fun u k => zE (shSe u cI 0) k) u6)) H := hP
  replace hD : va_D (AI h0 s.heap.size) ((([(h0, .inr (3, [.ref (u2 0), .ref (u4 0), .null, .int 0]))] ++ wl 13 u2 ((fun u k => zE (shH u cI cW 0) k) u2)) ++ wl 4 u4 ((fun u k => zE (shSl u cI 0) k) u4)) ++ wl 3 u6 ((fun u k => zE (shSe u cI 0) k) u6)) := hD
  refine W.widen (k := 20) (n := 79) (Nat.le_of_ble_eq_true rfl) (Nat.le_of_ble_eq_true rfl) ?_
  refine va_putF (D := D) (ci := 3) (v := .ref (u6 0)) (C := RX3) (T := TX3) (N := 4) hx hb hts (fun w h => wz_m (inX3 w h)) tyX3 tyX3_ok nmX3 hown hK.1 hP hD hS 0 rfl rfl 2 (by decide) (hts _ (wz_m tw_1_168)) (fun _ h9 => h9) rfl hin rfl (tyX3_ok 2 (by decide)) rfl rfl (Nat.le_of_ble_eq_true rfl) dX3_init_34 (fun H locs hP hD hS => ?_)
  replace hP : va_P D vwCl ((([(h0, .inr (3, [.ref (u2 0), .ref (u4 0), .ref (u6 0), .int 0]))] ++ wl 13 u2 ((fun u k => zE (shH u cI cW 0) k) u2)) ++ wl 4 u4 ((fun u k => zE (shSl u cI 0) k) u4)) ++ wl 3 u6 ((fun u k => zE (shSe u cI 0) k) u6)) H := hP
  replace hD : va_D (AI h0 s.heap.size) ((([(h0, .inr (3, [.ref (u2 0), .ref (u4 0), .ref (u6 0), .int 0]))] ++ wl 13 u2 ((fun u k => zE (shH u cI cW 0) k) u2)) ++ wl 4 u4 ((fun u k => zE (shSl u cI 0) k) u4)) ++ wl 3 u6 ((fun u k => zE (shSe u cI 0) k) u6)) := hD
  subst hQQ
  exact i_ret (fun k => if k < 1 then h0 else if k < 14 then u2 (k - 1) else if k < 18 then u4 (k - 14) else if k < 21 then u6 (k - 18) else 0) rfl hx hb hr hlocks hP hD hS (by
    intro k hk
    match k, hk with
    | 0, _ => exact ⟨_, rfl, fun h => h⟩
    | 1, _ => exact ⟨_, rfl, fun h => h⟩
    | 2, _ => exact ⟨_, rfl, fun h => at_ref h (fun i hi => by match i, hi with | 0, _ => rfl | 1, _ => rfl | 2, _ => rfl | 3, _ => rfl | 4, _ => rfl | i + 5, hi => exact absurd hi (by omega))⟩
    | 3, _ => exact ⟨_, rfl, fun h => h⟩
    | 4, _ => exact ⟨_, rfl, fun h => h⟩
    | 5, _ => exact ⟨_, rfl, fun h => h⟩
    | 6, _ => exact ⟨_, rfl, fun h => h⟩
    | 7, _ => exact ⟨_, rfl, fun h => h⟩
    | 8, _ => exact ⟨_, rfl, fun h => h⟩
    | 9, _ => exact ⟨_, rfl, fun h => h⟩
    | 10, _ => exact ⟨_, rfl, fun h => h⟩
    | 11, _ => exact ⟨_, rfl, fun h => h⟩
    | 12, _ => exact ⟨_, rfl, fun h => h⟩
    | 13, _ => exact ⟨_, rfl, fun h => h⟩
    | 14, _ => exact ⟨_, rfl, fun h => h⟩
    | 15, _ => exact ⟨_, rfl, fun h => h⟩
    | 16, _ => exact ⟨_, rfl, fun h => h⟩
    | 17, _ => exact ⟨_, rfl, fun h => h⟩
    | 18, _ => exact ⟨_, rfl, fun h => h⟩
    | 19, _ => exact ⟨_, rfl, fun h => h⟩
    | 20, _ => exact ⟨_, rfl, fun h => h⟩
    | k + 21, hk => exact absurd hk (by omega)) dX3_init_37
theorem hdI_X2 : yX2_init.cls ≠ "java/lang/invoke/MethodHandle" ∧ yX2_init.cls ≠ "java/lang/invoke/VarHandle" ∧ (parseMethodDescriptor yX2_init.desc).map (fun d => d.parameters.length) = some 0 := by decide +kernel
abbrev rmX2_init : Room := { frames := 3, cells := 17, slots := 107, locals := 53 }
set_option maxHeartbeats 4000000 in
set_option maxRecDepth 100000 in
theorem k_X2_init {l : Launch} {D : va_G} {cI cW : ClassId} {h0 sz : Nat} : Met l yX2_init (wz yX2_init cX2_init 1 none) rmX2_init (PI D (KI D cI cW) h0 (.inr (2, [.null, .null, .null, .int 0, .int 0, .int 0])) sz) (QI 18 (fun u k => zE (shPg u cI cW) k) D h0 sz) 17 107 (AI h0 sz) := by
  refine i_start (cc := cX2_init) (maxL := 1) (Qc := fun sz => QI 18 (fun u k => zE (shPg u cI cW) k) D h0 sz) (by decide) rfl rfl (by decide) ?_
  intro p e s m args below meth c H locs ls hx hb hr hts hown hlocks hml hin hK hP hD hS hA hl
  obtain ⟨QQ, hQQ⟩ : ∃ q, q = MQ below (QI 18 (fun u k => zE (shPg u cI cW) k) D h0 s.heap.size) args s 17 107 (AI h0 s.heap.size) := ⟨_, rfl⟩
  rw [← hQQ]
  refine lv_aload_n hx hb dX2_init_0 rfl (lv_at hl 0 rfl) ?_
  refine W.objInit hx hb hown (hts _ (wz_m tw_1_27)) (hts _ (wz_m tw_1_20)) (hts _ (wz_m tw_1_21)) rfl (by rw [hml]; exact hl.1) rfl dX2_init_1 (Nat.le_of_ble_eq_true rfl) (Nat.le_of_ble_eq_true rfl) ?_
  refine W.eq (g2 := F0 m 4 ls []) rfl ?_
  refine lv_aload_n hx hb dX2_init_4 rfl (lv_at hl 0 rfl) ?_
  refine lv_bipush (v := 54) hx hb dX2_init_5 (by decide) ?_
  refine va_newa (atype := .int) (ty := .int) (N' := 54) (a0 := (54, .inl (fun _ => 0))) hx hb (hts _ (wz_m tw_1_54)) rfl hK.1 hP hD hS hA (fun _ => rfl) (by decide) (by decide) (Nat.le_of_ble_eq_true rfl) (Nat.le_of_ble_eq_true rfl) (Nat.le_of_ble_eq_true rfl) dX2_init_7 (fun q1 cA2 H hK2 hP hD hS => ?_)
  obtain rfl : cI = cA2 := (same_cA hK2 (i := 0) (j := 2) rfl rfl).symm
  clear hK2
  replace hP : va_P D vwCl ([(h0, .inr (2, [.null, .null, .null, .int 0, .int 0, .int 0]))] ++ [(q1, .inl (cI, 54, .inl (fun _ => 0)))]) H := hP
  replace hD : va_D (AI h0 s.heap.size) ([(h0, .inr (2, [.null, .null, .null, .int 0, .int 0, .int 0]))] ++ [(q1, .inl (cI, 54, .inl (fun _ => 0)))]) := hD
  refine W.widen (k := 1) (n := 54) (Nat.le_of_ble_eq_true rfl) (Nat.le_of_ble_eq_true rfl) ?_
  refine va_putF (D := D) (ci := 2) (v := .ref q1) (C := RX2) (T := TX2) (N := 6) hx hb hts (fun w h => wz_m (inX2 w h)) tyX2 tyX2_ok nmX2 hown hK.1 hP hD hS 0 rfl rfl 0 (by decide) (hts _ (wz_m tw_1_92)) (fun _ h9 => h9) rfl hin rfl (tyX2_ok 0 (by decide)) rfl rfl (Nat.le_of_ble_eq_true rfl) dX2_init_9 (fun H locs hP hD hS => ?_)
  replace hP : va_P D vwCl ([(h0, .inr (2, [.ref q1, .null, .null, .int 0, .int 0, .int 0]))] ++ [(q1, .inl (cI, 54, .inl (fun _ => 0)))]) H := hP
  replace hD : va_D (AI h0 s.heap.size) ([(h0, .inr (2, [.ref q1, .null, .null, .int 0, .int 0, .int 0]))] ++ [(q1, .inl (cI, 54, .inl (fun _ => 0)))]) := hD
  refine lv_aload_n hx hb dX2_init_12 rfl (lv_at hl 0 rfl) ?_
  refine va_new (ci := 1) (fs := [.null, .null, .int 0]) (C := RX1) (T := TX1) (N := 3) hx hb hts (fun w h => wz_m (inX1 w h)) tyX1 tyX1_ok hown (hts _ (wz_m tw_1_28)) (hts _ (wz_m tw_1_29)) (hts _ (wz_m tw_1_3)) hK.1 hP hD hS hA rfl (fun j hj => by match j, hj with | 0, _ => rfl | 1, _ => rfl | 2, _ => rfl | j + 3, hj => exact absurd hj (by omega)) (Nat.le_of_ble_eq_true rfl) (Nat.le_of_ble_eq_true rfl) dX2_init_13 (fun q3 H hP hD hS => ?_)
  replace hP : va_P D vwCl (([(h0, .inr (2, [.ref q1, .null, .null, .int 0, .int 0, .int 0]))] ++ [(q1, .inl (cI, 54, .inl (fun _ => 0)))]) ++ [(q3, .inr (1, [.null, .null, .int 0]))]) H := hP
  replace hD : va_D (AI h0 s.heap.size) (([(h0, .inr (2, [.ref q1, .null, .null, .int 0, .int 0, .int 0]))] ++ [(q1, .inl (cI, 54, .inl (fun _ => 0)))]) ++ [(q3, .inr (1, [.null, .null, .int 0]))]) := hD
  refine W.widen (k := 2) (n := 57) (Nat.le_of_ble_eq_true rfl) (Nat.le_of_ble_eq_true rfl) ?_
  refine lv_dup hx hb dX2_init_16 rfl ?_
  refine i_call (va_runI (As := []) (rest := [.ref q3, .ref h0]) ⟨hx, hb, hml, hown, hts⟩ (k_X1_init (D := D) (cI := cI) (cW := cW) (h0 := q3) (sz := H.size)) (cwI 0 hts (wz_good tw_1_32) rfl rfl rfl (hts _ (wz_m tw_1_3)) (hts _ (wz_m tw_1_30)) (hts _ (wz_m tw_1_31)) rfl hdI_X1 ⟨Nat.le_of_ble_eq_true rfl, Nat.le_of_ble_eq_true rfl⟩) (i_pre KI_st hK hP) rfl rfl hl.1 rfl (lv_room (Nat.le_of_ble_eq_true rfl)) dX2_init_17 ⟨Nat.le_of_ble_eq_true rfl, Nat.le_of_ble_eq_true rfl⟩) hP hD hS hA (fun u4 H locs eu4 hP hD hS => ?_)
  rw [← eu4]
  replace hP : va_P D vwCl (([(h0, .inr (2, [.ref q1, .null, .null, .int 0, .int 0, .int 0]))] ++ [(q1, .inl (cI, 54, .inl (fun _ => 0)))]) ++ wl 13 u4 ((fun u k => zE (shH u cI cW 0) k) u4)) H := hP
  replace hD : va_D (AI h0 s.heap.size) (([(h0, .inr (2, [.ref q1, .null, .null, .int 0, .int 0, .int 0]))] ++ [(q1, .inl (cI, 54, .inl (fun _ => 0)))]) ++ wl 13 u4 ((fun u k => zE (shH u cI cW 0) k) u4)) := hD
  refine W.widen (k := 14) (n := 96) (Nat.le_of_ble_eq_true rfl) (Nat.le_of_ble_eq_true rfl) ?_
  refine va_putF (D := D) (ci := 2) (v := .ref (u4 0)) (C := RX2) (T := TX2) (N := 6) hx hb hts (fun w h => wz_m (inX2 w h)) tyX2 tyX2_ok nmX2 hown hK.1 hP hD hS 0 rfl rfl 1 (by decide) (hts _ (wz_m tw_1_94)) (fun _ h9 => h9) rfl hin rfl (tyX2_ok 1 (by decide)) rfl rfl (Nat.le_of_ble_eq_true rfl) dX2_init_20 (fun H locs hP hD hS => ?_)
  replace hP : va_P D vwCl (([(h0, .inr (2, [.ref q1, .ref (u4 0), .null, .int 0, .int 0, .int 0]))] ++ [(q1, .inl (cI, 54, .inl (fun _ => 0)))]) ++ wl 13 u4 ((fun u k => zE (shH u cI cW 0) k) u4)) H := hP
  replace hD : va_D (AI h0 s.heap.size) (([(h0, .inr (2, [.ref q1, .ref (u4 0), .null, .int 0, .int 0, .int 0]))] ++ [(q1, .inl (cI, 54, .inl (fun _ => 0)))]) ++ wl 13 u4 ((fun u k => zE (shH u cI cW 0) k) u4)) := hD
  refine lv_aload_n hx hb dX2_init_23 rfl (lv_at hl 0 rfl) ?_
  refine va_new (ci := 0) (fs := [.null, .null, .int 0]) (C := RX0) (T := TX0) (N := 3) hx hb hts (fun w h => wz_m (inX0 w h)) tyX0 tyX0_ok hown (hts _ (wz_m tw_1_71)) (hts _ (wz_m tw_1_72)) (hts _ (wz_m tw_1_5)) hK.1 hP hD hS hA rfl (fun j hj => by match j, hj with | 0, _ => rfl | 1, _ => rfl | 2, _ => rfl | j + 3, hj => exact absurd hj (by omega)) (Nat.le_of_ble_eq_true rfl) (Nat.le_of_ble_eq_true rfl) dX2_init_24 (fun q5 H hP hD hS => ?_)
  replace hP : va_P D vwCl ((([(h0, .inr (2, [.ref q1, .ref (u4 0), .null, .int 0, .int 0, .int 0]))] ++ [(q1, .inl (cI, 54, .inl (fun _ => 0)))]) ++ wl 13 u4 ((fun u k => zE (shH u cI cW 0) k) u4)) ++ [(q5, .inr (0, [.null, .null, .int 0]))]) H := hP
  replace hD : va_D (AI h0 s.heap.size) ((([(h0, .inr (2, [.ref q1, .ref (u4 0), .null, .int 0, .int 0, .int 0]))] ++ [(q1, .inl (cI, 54, .inl (fun _ => 0)))]) ++ wl 13 u4 ((fun u k => zE (shH u cI cW 0) k) u4)) ++ [(q5, .inr (0, [.null, .null, .int 0]))]) := hD
  refine W.widen (k := 15) (n := 99) (Nat.le_of_ble_eq_true rfl) (Nat.le_of_ble_eq_true rfl) ?_
  refine lv_dup hx hb dX2_init_27 rfl ?_
  refine i_call (va_runIN (As := []) (rest := [.ref q5, .ref h0]) ⟨hx, hb, hml, hown, hts⟩ (k_X0_init (D := D) (cI := cI) (cW := cW) (h0 := q5) (sz := H.size)) ⟨va_cnB 0 hts (wz_good tw_1_75) rfl rfl rfl (hK.2.1 _ (List.mem_of_getElem? (i := 11) rfl)) (hts _ (wz_m tw_1_5)) hdI_X0 ⟨Nat.le_of_ble_eq_true rfl, Nat.le_of_ble_eq_true rfl⟩, rfl, hts _ (wz_m tw_1_74)⟩ (i_pre KI_st hK hP) rfl rfl hl.1 rfl (lv_room (Nat.le_of_ble_eq_true rfl)) dX2_init_28 ⟨Nat.le_of_ble_eq_true rfl, Nat.le_of_ble_eq_true rfl⟩) hP hD hS hA (fun u6 H locs eu6 hP hD hS => ?_)
  rw [← eu6]
  replace hP : va_P D vwCl ((([(h0, .inr (2, [.ref q1, .ref (u4 0), .null, .int 0, .int 0, .int 0]))] ++ [(q1, .inl (cI, 54, .inl (fun _ => 0)))]) ++ wl 13 u4 ((fun u k => zE (shH u cI cW 0) k) u4)) ++ wl 3 u6 ((fun u k => zE (shCs u cI 0) k) u6)) H := hP
  replace hD : va_D (AI h0 s.heap.size) ((([(h0, .inr (2, [.ref q1, .ref (u4 0), .null, .int 0, .int 0, .int 0]))] ++ [(q1, .inl (cI, 54, .inl (fun _ => 0)))]) ++ wl 13 u4 ((fun u k => zE (shH u cI cW 0) k) u4)) ++ wl 3 u6 ((fun u k => zE (shCs u cI 0) k) u6)) := hD
  refine W.widen (k := 17) (n := 107) (Nat.le_of_ble_eq_true rfl) (Nat.le_of_ble_eq_true rfl) ?_
  refine va_putF (D := D) (ci := 2) (v := .ref (u6 0)) (C := RX2) (T := TX2) (N := 6) hx hb hts (fun w h => wz_m (inX2 w h)) tyX2 tyX2_ok nmX2 hown hK.1 hP hD hS 0 rfl rfl 2 (by decide) (hts _ (wz_m tw_1_96)) (fun _ h9 => h9) rfl hin rfl (tyX2_ok 2 (by decide)) rfl rfl (Nat.le_of_ble_eq_true rfl) dX2_init_31 (fun H locs hP hD hS => ?_)
  replace hP : va_P D vwCl ((([(h0, .inr (2, [.ref q1, .ref (u4 0), .ref (u6 0), .int 0, .int 0, .int 0]))] ++ [(q1, .inl (cI, 54, .inl (fun _ => 0)))]) ++ wl 13 u4 ((fun u k => zE (shH u cI cW 0) k) u4)) ++ wl 3 u6 ((fun u k => zE (shCs u cI 0) k) u6)) H := hP
  replace hD : va_D (AI h0 s.heap.size) ((([(h0, .inr (2, [.ref q1, .ref (u4 0), .ref (u6 0), .int 0, .int 0, .int 0]))] ++ [(q1, .inl (cI, 54, .inl (fun _ => 0)))]) ++ wl 13 u4 ((fun u k => zE (shH u cI cW 0) k) u4)) ++ wl 3 u6 ((fun u k => zE (shCs u cI 0) k) u6)) := hD
  subst hQQ
  exact i_ret (fun k => if k < 1 then h0 else if k < 2 then q1 else if k < 15 then u4 (k - 2) else if k < 18 then u6 (k - 15) else 0) rfl hx hb hr hlocks hP hD hS (by
    intro k hk
    match k, hk with
    | 0, _ => exact ⟨_, rfl, fun h => h⟩
    | 1, _ => exact ⟨_, rfl, fun h => h⟩
    | 2, _ => exact ⟨_, rfl, fun h => h⟩
    | 3, _ => exact ⟨_, rfl, fun h => at_ref h (fun i hi => by match i, hi with | 0, _ => rfl | 1, _ => rfl | 2, _ => rfl | 3, _ => rfl | 4, _ => rfl | i + 5, hi => exact absurd hi (by omega))⟩
    | 4, _ => exact ⟨_, rfl, fun h => h⟩
    | 5, _ => exact ⟨_, rfl, fun h => h⟩
    | 6, _ => exact ⟨_, rfl, fun h => h⟩
    | 7, _ => exact ⟨_, rfl, fun h => h⟩
    | 8, _ => exact ⟨_, rfl, fun h => h⟩
    | 9, _ => exact ⟨_, rfl, fun h => h⟩
    | 10, _ => exact ⟨_, rfl, fun h => h⟩
    | 11, _ => exact ⟨_, rfl, fun h => h⟩
    | 12, _ => exact ⟨_, rfl, fun h => h⟩
    | 13, _ => exact ⟨_, rfl, fun h => h⟩
    | 14, _ => exact ⟨_, rfl, fun h => h⟩
    | 15, _ => exact ⟨_, rfl, fun h => h⟩
    | 16, _ => exact ⟨_, rfl, fun h => h⟩
    | 17, _ => exact ⟨_, rfl, fun h => h⟩
    | k + 18, hk => exact absurd hk (by omega)) dX2_init_34
theorem hdI_X6 : yX6_init.cls ≠ "java/lang/invoke/MethodHandle" ∧ yX6_init.cls ≠ "java/lang/invoke/VarHandle" ∧ (parseMethodDescriptor yX6_init.desc).map (fun d => d.parameters.length) = some 0 := by decide +kernel
abbrev rmX6_init : Room := { frames := 1, cells := 2, slots := 135, locals := 12 }
set_option maxHeartbeats 4000000 in
set_option maxRecDepth 100000 in
theorem k_X6_init {l : Launch} {D : va_G} {cI cW : ClassId} {h0 sz : Nat} : Met l yX6_init (wz yX6_init cX6_init 1 none) rmX6_init (PI D (KI D cI cW) h0 (.inr (6, [.null, .null])) sz) (QI 3 (fun u k => zE (shTm u cI) k) D h0 sz) 2 135 (AI h0 sz) := by
  refine i_start (cc := cX6_init) (maxL := 1) (Qc := fun sz => QI 3 (fun u k => zE (shTm u cI) k) D h0 sz) (by decide) rfl rfl (by decide) ?_
  intro p e s m args below meth c H locs ls hx hb hr hts hown hlocks hml hin hK hP hD hS hA hl
  obtain ⟨QQ, hQQ⟩ : ∃ q, q = MQ below (QI 3 (fun u k => zE (shTm u cI) k) D h0 s.heap.size) args s 2 135 (AI h0 s.heap.size) := ⟨_, rfl⟩
  rw [← hQQ]
  refine lv_aload_n hx hb dX6_init_0 rfl (lv_at hl 0 rfl) ?_
  refine W.objInit hx hb hown (hts _ (wz_m tw_1_188)) (hts _ (wz_m tw_1_20)) (hts _ (wz_m tw_1_21)) rfl (by rw [hml]; exact hl.1) rfl dX6_init_1 (Nat.le_of_ble_eq_true rfl) (Nat.le_of_ble_eq_true rfl) ?_
  refine W.eq (g2 := F0 m 4 ls []) rfl ?_
  refine lv_aload_n hx hb dX6_init_4 rfl (lv_at hl 0 rfl) ?_
  refine lv_bipush (v := 7) hx hb dX6_init_5 (by decide) ?_
  refine va_newa (atype := .int) (ty := .int) (N' := 7) (a0 := (7, .inl (fun _ => 0))) hx hb (hts _ (wz_m tw_1_54)) rfl hK.1 hP hD hS hA (fun _ => rfl) (by decide) (by decide) (Nat.le_of_ble_eq_true rfl) (Nat.le_of_ble_eq_true rfl) (Nat.le_of_ble_eq_true rfl) dX6_init_7 (fun q1 cA2 H hK2 hP hD hS => ?_)
  obtain rfl : cI = cA2 := (same_cA hK2 (i := 0) (j := 2) rfl rfl).symm
  clear hK2
  replace hP : va_P D vwCl ([(h0, .inr (6, [.null, .null]))] ++ [(q1, .inl (cI, 7, .inl (fun _ => 0)))]) H := hP
  replace hD : va_D (AI h0 s.heap.size) ([(h0, .inr (6, [.null, .null]))] ++ [(q1, .inl (cI, 7, .inl (fun _ => 0)))]) := hD
  refine W.widen (k := 1) (n := 7) (Nat.le_of_ble_eq_true rfl) (Nat.le_of_ble_eq_true rfl) ?_
  refine va_putF (D := D) (ci := 6) (v := .ref q1) (C := RX6) (T := TX6) (N := 2) hx hb hts (fun w h => wz_m (inX6 w h)) tyX6 tyX6_ok nmX6 hown hK.1 hP hD hS 0 rfl rfl 0 (by decide) (hts _ (wz_m tw_1_189)) (fun _ h9 => h9) rfl hin rfl (tyX6_ok 0 (by decide)) rfl rfl (Nat.le_of_ble_eq_true rfl) dX6_init_9 (fun H locs hP hD hS => ?_)
  replace hP : va_P D vwCl ([(h0, .inr (6, [.ref q1, .null]))] ++ [(q1, .inl (cI, 7, .inl (fun _ => 0)))]) H := hP
  replace hD : va_D (AI h0 s.heap.size) ([(h0, .inr (6, [.ref q1, .null]))] ++ [(q1, .inl (cI, 7, .inl (fun _ => 0)))]) := hD
  refine lv_aload_n hx hb dX6_init_12 rfl (lv_at hl 0 rfl) ?_
  refine lv_sipush (v := 128) hx hb dX6_init_13 (by decide) ?_
  refine va_newa (atype := .int) (ty := .int) (N' := 128) (a0 := (128, .inl (fun _ => 0))) hx hb (hts _ (wz_m tw_1_54)) rfl hK.1 hP hD hS hA (fun _ => rfl) (by decide) (by decide) (Nat.le_of_ble_eq_true rfl) (Nat.le_of_ble_eq_true rfl) (Nat.le_of_ble_eq_true rfl) dX6_init_16 (fun q3 cA4 H hK2 hP hD hS => ?_)
  obtain rfl : cI = cA4 := (same_cA hK2 (i := 0) (j := 2) rfl rfl).symm
  clear hK2
  replace hP : va_P D vwCl (([(h0, .inr (6, [.ref q1, .null]))] ++ [(q1, .inl (cI, 7, .inl (fun _ => 0)))]) ++ [(q3, .inl (cI, 128, .inl (fun _ => 0)))]) H := hP
  replace hD : va_D (AI h0 s.heap.size) (([(h0, .inr (6, [.ref q1, .null]))] ++ [(q1, .inl (cI, 7, .inl (fun _ => 0)))]) ++ [(q3, .inl (cI, 128, .inl (fun _ => 0)))]) := hD
  refine W.widen (k := 2) (n := 135) (Nat.le_of_ble_eq_true rfl) (Nat.le_of_ble_eq_true rfl) ?_
  refine va_putF (D := D) (ci := 6) (v := .ref q3) (C := RX6) (T := TX6) (N := 2) hx hb hts (fun w h => wz_m (inX6 w h)) tyX6 tyX6_ok nmX6 hown hK.1 hP hD hS 0 rfl rfl 1 (by decide) (hts _ (wz_m tw_1_190)) (fun _ h9 => h9) rfl hin rfl (tyX6_ok 1 (by decide)) rfl rfl (Nat.le_of_ble_eq_true rfl) dX6_init_18 (fun H locs hP hD hS => ?_)
  replace hP : va_P D vwCl (([(h0, .inr (6, [.ref q1, .ref q3]))] ++ [(q1, .inl (cI, 7, .inl (fun _ => 0)))]) ++ [(q3, .inl (cI, 128, .inl (fun _ => 0)))]) H := hP
  replace hD : va_D (AI h0 s.heap.size) (([(h0, .inr (6, [.ref q1, .ref q3]))] ++ [(q1, .inl (cI, 7, .inl (fun _ => 0)))]) ++ [(q3, .inl (cI, 128, .inl (fun _ => 0)))]) := hD
  subst hQQ
  exact i_ret (fun k => if k < 1 then h0 else if k < 2 then q1 else if k < 3 then q3 else 0) rfl hx hb hr hlocks hP hD hS (by
    intro k hk
    match k, hk with
    | 0, _ => exact ⟨_, rfl, fun h => h⟩
    | 1, _ => exact ⟨_, rfl, fun h => h⟩
    | 2, _ => exact ⟨_, rfl, fun h => h⟩
    | k + 3, hk => exact absurd hk (by omega)) dX6_init_21
theorem hdI_X8 : yX8_init.cls ≠ "java/lang/invoke/MethodHandle" ∧ yX8_init.cls ≠ "java/lang/invoke/VarHandle" ∧ (parseMethodDescriptor yX8_init.desc).map (fun d => d.parameters.length) = some 0 := by decide +kernel
abbrev rmX8_init : Room := { frames := 1, cells := 2, slots := 64, locals := 12 }
set_option maxHeartbeats 4000000 in
set_option maxRecDepth 100000 in
theorem k_X8_init {l : Launch} {D : va_G} {cI cW : ClassId} {h0 sz : Nat} : Met l yX8_init (wz yX8_init cX8_init 1 none) rmX8_init (PI D (KI D cI cW) h0 (.inr (8, [.null, .null])) sz) (QI 3 (fun u k => zE (shWo u cI) k) D h0 sz) 2 64 (AI h0 sz) := by
  refine i_start (cc := cX8_init) (maxL := 1) (Qc := fun sz => QI 3 (fun u k => zE (shWo u cI) k) D h0 sz) (by decide) rfl rfl (by decide) ?_
  intro p e s m args below meth c H locs ls hx hb hr hts hown hlocks hml hin hK hP hD hS hA hl
  obtain ⟨QQ, hQQ⟩ : ∃ q, q = MQ below (QI 3 (fun u k => zE (shWo u cI) k) D h0 s.heap.size) args s 2 64 (AI h0 s.heap.size) := ⟨_, rfl⟩
  rw [← hQQ]
  refine lv_aload_n hx hb dX8_init_0 rfl (lv_at hl 0 rfl) ?_
  refine W.objInit hx hb hown (hts _ (wz_m tw_1_201)) (hts _ (wz_m tw_1_20)) (hts _ (wz_m tw_1_21)) rfl (by rw [hml]; exact hl.1) rfl dX8_init_1 (Nat.le_of_ble_eq_true rfl) (Nat.le_of_ble_eq_true rfl) ?_
  refine W.eq (g2 := F0 m 4 ls []) rfl ?_
  refine lv_aload_n hx hb dX8_init_4 rfl (lv_at hl 0 rfl) ?_
  refine lv_bipush (v := 32) hx hb dX8_init_5 (by decide) ?_
  refine va_newa (atype := .int) (ty := .int) (N' := 32) (a0 := (32, .inl (fun _ => 0))) hx hb (hts _ (wz_m tw_1_54)) rfl hK.1 hP hD hS hA (fun _ => rfl) (by decide) (by decide) (Nat.le_of_ble_eq_true rfl) (Nat.le_of_ble_eq_true rfl) (Nat.le_of_ble_eq_true rfl) dX8_init_7 (fun q1 cA2 H hK2 hP hD hS => ?_)
  obtain rfl : cI = cA2 := (same_cA hK2 (i := 0) (j := 2) rfl rfl).symm
  clear hK2
  replace hP : va_P D vwCl ([(h0, .inr (8, [.null, .null]))] ++ [(q1, .inl (cI, 32, .inl (fun _ => 0)))]) H := hP
  replace hD : va_D (AI h0 s.heap.size) ([(h0, .inr (8, [.null, .null]))] ++ [(q1, .inl (cI, 32, .inl (fun _ => 0)))]) := hD
  refine W.widen (k := 1) (n := 32) (Nat.le_of_ble_eq_true rfl) (Nat.le_of_ble_eq_true rfl) ?_
  refine va_putF (D := D) (ci := 8) (v := .ref q1) (C := RX8) (T := TX8) (N := 2) hx hb hts (fun w h => wz_m (inX8 w h)) tyX8 tyX8_ok nmX8 hown hK.1 hP hD hS 0 rfl rfl 0 (by decide) (hts _ (wz_m tw_1_202)) (fun _ h9 => h9) rfl hin rfl (tyX8_ok 0 (by decide)) rfl rfl (Nat.le_of_ble_eq_true rfl) dX8_init_9 (fun H locs hP hD hS => ?_)
  replace hP : va_P D vwCl ([(h0, .inr (8, [.ref q1, .null]))] ++ [(q1, .inl (cI, 32, .inl (fun _ => 0)))]) H := hP
  replace hD : va_D (AI h0 s.heap.size) ([(h0, .inr (8, [.ref q1, .null]))] ++ [(q1, .inl (cI, 32, .inl (fun _ => 0)))]) := hD
  refine lv_aload_n hx hb dX8_init_12 rfl (lv_at hl 0 rfl) ?_
  refine lv_bipush (v := 32) hx hb dX8_init_13 (by decide) ?_
  refine va_newa (atype := .int) (ty := .int) (N' := 32) (a0 := (32, .inl (fun _ => 0))) hx hb (hts _ (wz_m tw_1_54)) rfl hK.1 hP hD hS hA (fun _ => rfl) (by decide) (by decide) (Nat.le_of_ble_eq_true rfl) (Nat.le_of_ble_eq_true rfl) (Nat.le_of_ble_eq_true rfl) dX8_init_15 (fun q3 cA4 H hK2 hP hD hS => ?_)
  obtain rfl : cI = cA4 := (same_cA hK2 (i := 0) (j := 2) rfl rfl).symm
  clear hK2
  replace hP : va_P D vwCl (([(h0, .inr (8, [.ref q1, .null]))] ++ [(q1, .inl (cI, 32, .inl (fun _ => 0)))]) ++ [(q3, .inl (cI, 32, .inl (fun _ => 0)))]) H := hP
  replace hD : va_D (AI h0 s.heap.size) (([(h0, .inr (8, [.ref q1, .null]))] ++ [(q1, .inl (cI, 32, .inl (fun _ => 0)))]) ++ [(q3, .inl (cI, 32, .inl (fun _ => 0)))]) := hD
  refine W.widen (k := 2) (n := 64) (Nat.le_of_ble_eq_true rfl) (Nat.le_of_ble_eq_true rfl) ?_
  refine va_putF (D := D) (ci := 8) (v := .ref q3) (C := RX8) (T := TX8) (N := 2) hx hb hts (fun w h => wz_m (inX8 w h)) tyX8 tyX8_ok nmX8 hown hK.1 hP hD hS 0 rfl rfl 1 (by decide) (hts _ (wz_m tw_1_203)) (fun _ h9 => h9) rfl hin rfl (tyX8_ok 1 (by decide)) rfl rfl (Nat.le_of_ble_eq_true rfl) dX8_init_17 (fun H locs hP hD hS => ?_)
  replace hP : va_P D vwCl (([(h0, .inr (8, [.ref q1, .ref q3]))] ++ [(q1, .inl (cI, 32, .inl (fun _ => 0)))]) ++ [(q3, .inl (cI, 32, .inl (fun _ => 0)))]) H := hP
  replace hD : va_D (AI h0 s.heap.size) (([(h0, .inr (8, [.ref q1, .ref q3]))] ++ [(q1, .inl (cI, 32, .inl (fun _ => 0)))]) ++ [(q3, .inl (cI, 32, .inl (fun _ => 0)))]) := hD
  subst hQQ
  exact i_ret (fun k => if k < 1 then h0 else if k < 2 then q1 else if k < 3 then q3 else 0) rfl hx hb hr hlocks hP hD hS (by
    intro k hk
    match k, hk with
    | 0, _ => exact ⟨_, rfl, fun h => h⟩
    | 1, _ => exact ⟨_, rfl, fun h => h⟩
    | 2, _ => exact ⟨_, rfl, fun h => h⟩
    | k + 3, hk => exact absurd hk (by omega)) dX8_init_20

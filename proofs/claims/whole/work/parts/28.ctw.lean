theorem hdI_X9 : yX9_init.cls ≠ "java/lang/invoke/MethodHandle" ∧ yX9_init.cls ≠ "java/lang/invoke/VarHandle" ∧ (parseMethodDescriptor yX9_init.desc).map (fun d => d.parameters.length) = some 0 := by decide +kernel
abbrev rmX9_init : Room := { frames := 4, cells := 82, slots := 535, locals := 73 }
set_option maxHeartbeats 4000000 in
set_option maxRecDepth 100000 in
theorem k_X9_init {l : Launch} {D : va_G} {cI cW : ClassId} {h0 sz : Nat} : Met l yX9_init (wz yX9_init cX9_init 1 none) rmX9_init (PI D (KI D cI cW) h0 (.inr (9, [.null, .null, .null, .null, .null, .null, .null, .int 0, .int 0])) sz) (QI 83 (fun u k => SHC u cI cW k (fun _ => 0)) D h0 sz) 82 535 (AI h0 sz) := by
  refine i_start (cc := cX9_init) (maxL := 1) (Qc := fun sz => QI 83 (fun u k => SHC u cI cW k (fun _ => 0)) D h0 sz) (by decide) rfl rfl (by decide) ?_
  intro p e s m args below meth c H locs ls hx hb hr hts hown hlocks hml hin hK hP hD hS hA hl
  obtain ⟨QQ, hQQ⟩ : ∃ q, q = MQ below (QI 83 (fun u k => SHC u cI cW k (fun _ => 0)) D h0 s.heap.size) args s 82 535 (AI h0 s.heap.size) := ⟨_, rfl⟩
  rw [← hQQ]
  refine lv_aload_n hx hb dX9_init_0 rfl (lv_at hl 0 rfl) ?_
  refine W.objInit hx hb hown (hts _ (wz_m tw_1_19)) (hts _ (wz_m tw_1_20)) (hts _ (wz_m tw_1_21)) rfl (by rw [hml]; exact hl.1) rfl dX9_init_1 (Nat.le_of_ble_eq_true rfl) (Nat.le_of_ble_eq_true rfl) ?_
  refine W.eq (g2 := F0 m 4 ls []) rfl ?_
  refine lv_aload_n hx hb dX9_init_4 rfl (lv_at hl 0 rfl) ?_
  refine va_new (ci := 2) (fs := [.null, .null, .null, .int 0, .int 0, .int 0]) (C := RX2) (T := TX2) (N := 6) hx hb hts (fun w h => wz_m (inX2 w h)) tyX2 tyX2_ok hown (hts _ (wz_m tw_1_22)) (hts _ (wz_m tw_1_23)) (hts _ (wz_m tw_1_2)) hK.1 hP hD hS hA rfl (fun j hj => by match j, hj with | 0, _ => rfl | 1, _ => rfl | 2, _ => rfl | 3, _ => rfl | 4, _ => rfl | 5, _ => rfl | j + 6, hj => exact absurd hj (by omega)) (Nat.le_of_ble_eq_true rfl) (Nat.le_of_ble_eq_true rfl) dX9_init_5 (fun q1 H hP hD hS => ?_)
  replace hP : va_P D vwCl ([(h0, .inr (9, [.null, .null, .null, .null, .null, .null, .null, .int 0, .int 0]))] ++ [(q1, .inr (2, [.null, .null, .null, .int 0, .int 0, .int 0]))]) H := hP
  replace hD : va_D (AI h0 s.heap.size) ([(h0, .inr (9, [.null, .null, .null, .null, .null, .null, .null, .int 0, .int 0]))] ++ [(q1, .inr (2, [.null, .null, .null, .int 0, .int 0, .int 0]))]) := hD
  refine W.widen (k := 1) (n := 6) (Nat.le_of_ble_eq_true rfl) (Nat.le_of_ble_eq_true rfl) ?_
  refine lv_dup hx hb dX9_init_8 rfl ?_
  refine i_call (va_runIN (As := []) (rest := [.ref q1, .ref h0]) ⟨hx, hb, hml, hown, hts⟩ (k_X2_init (D := D) (cI := cI) (cW := cW) (h0 := q1) (sz := H.size)) ⟨va_cnB 0 hts (wz_good tw_1_26) rfl rfl rfl (hK.2.1 _ (List.mem_of_getElem? (i := 0) rfl)) (hts _ (wz_m tw_1_2)) hdI_X2 ⟨Nat.le_of_ble_eq_true rfl, Nat.le_of_ble_eq_true rfl⟩, rfl, hts _ (wz_m tw_1_25)⟩ (i_pre KI_st hK hP) rfl rfl hl.1 rfl (lv_room (Nat.le_of_ble_eq_true rfl)) dX9_init_9 ⟨Nat.le_of_ble_eq_true rfl, Nat.le_of_ble_eq_true rfl⟩) hP hD hS hA (fun u2 H locs eu2 hP hD hS => ?_)
  rw [← eu2]
  replace hP : va_P D vwCl ([(h0, .inr (9, [.null, .null, .null, .null, .null, .null, .null, .int 0, .int 0]))] ++ wl 18 u2 ((fun u k => zE (shPg u cI cW) k) u2)) H := hP
  replace hD : va_D (AI h0 s.heap.size) ([(h0, .inr (9, [.null, .null, .null, .null, .null, .null, .null, .int 0, .int 0]))] ++ wl 18 u2 ((fun u k => zE (shPg u cI cW) k) u2)) := hD
  refine W.widen (k := 18) (n := 113) (Nat.le_of_ble_eq_true rfl) (Nat.le_of_ble_eq_true rfl) ?_
  refine va_putF (D := D) (ci := 9) (v := .ref (u2 0)) (C := RX9) (T := TX9) (N := 9) hx hb hts (fun w h => wz_m (inX9 w h)) tyX9 tyX9_ok nmX9 hown hK.1 hP hD hS 0 rfl rfl 0 (by decide) (hts _ (wz_m tw_1_209)) (fun _ h9 => h9) rfl hin rfl (tyX9_ok 0 (by decide)) rfl rfl (Nat.le_of_ble_eq_true rfl) dX9_init_12 (fun H locs hP hD hS => ?_)
  replace hP : va_P D vwCl ([(h0, .inr (9, [.ref (u2 0), .null, .null, .null, .null, .null, .null, .int 0, .int 0]))] ++ wl 18 u2 ((fun u k => zE (shPg u cI cW) k) u2)) H := hP
  replace hD : va_D (AI h0 s.heap.size) ([(h0, .inr (9, [.ref (u2 0), .null, .null, .null, .null, .null, .null, .int 0, .int 0]))] ++ wl 18 u2 ((fun u k => zE (shPg u cI cW) k) u2)) := hD
  refine lv_aload_n hx hb dX9_init_15 rfl (lv_at hl 0 rfl) ?_
  refine va_new (ci := 0) (fs := [.null, .null, .int 0]) (C := RX0) (T := TX0) (N := 3) hx hb hts (fun w h => wz_m (inX0 w h)) tyX0 tyX0_ok hown (hts _ (wz_m tw_1_115)) (hts _ (wz_m tw_1_72)) (hts _ (wz_m tw_1_5)) hK.1 hP hD hS hA rfl (fun j hj => by match j, hj with | 0, _ => rfl | 1, _ => rfl | 2, _ => rfl | j + 3, hj => exact absurd hj (by omega)) (Nat.le_of_ble_eq_true rfl) (Nat.le_of_ble_eq_true rfl) dX9_init_16 (fun q3 H hP hD hS => ?_)
  replace hP : va_P D vwCl (([(h0, .inr (9, [.ref (u2 0), .null, .null, .null, .null, .null, .null, .int 0, .int 0]))] ++ wl 18 u2 ((fun u k => zE (shPg u cI cW) k) u2)) ++ [(q3, .inr (0, [.null, .null, .int 0]))]) H := hP
  replace hD : va_D (AI h0 s.heap.size) (([(h0, .inr (9, [.ref (u2 0), .null, .null, .null, .null, .null, .null, .int 0, .int 0]))] ++ wl 18 u2 ((fun u k => zE (shPg u cI cW) k) u2)) ++ [(q3, .inr (0, [.null, .null, .int 0]))]) := hD
  refine W.widen (k := 19) (n := 116) (Nat.le_of_ble_eq_true rfl) (Nat.le_of_ble_eq_true rfl) ?_
  refine lv_dup hx hb dX9_init_19 rfl ?_
  refine i_call (va_runIN (As := []) (rest := [.ref q3, .ref h0]) ⟨hx, hb, hml, hown, hts⟩ (k_X0_init (D := D) (cI := cI) (cW := cW) (h0 := q3) (sz := H.size)) ⟨va_cnB 0 hts (wz_good tw_1_75) rfl rfl rfl (hK.2.1 _ (List.mem_of_getElem? (i := 21) rfl)) (hts _ (wz_m tw_1_5)) hdI_X0 ⟨Nat.le_of_ble_eq_true rfl, Nat.le_of_ble_eq_true rfl⟩, rfl, hts _ (wz_m tw_1_74)⟩ (i_pre KI_st hK hP) rfl rfl hl.1 rfl (lv_room (Nat.le_of_ble_eq_true rfl)) dX9_init_20 ⟨Nat.le_of_ble_eq_true rfl, Nat.le_of_ble_eq_true rfl⟩) hP hD hS hA (fun u4 H locs eu4 hP hD hS => ?_)
  rw [← eu4]
  replace hP : va_P D vwCl (([(h0, .inr (9, [.ref (u2 0), .null, .null, .null, .null, .null, .null, .int 0, .int 0]))] ++ wl 18 u2 ((fun u k => zE (shPg u cI cW) k) u2)) ++ wl 3 u4 ((fun u k => zE (shCs u cI 0) k) u4)) H := hP
  replace hD : va_D (AI h0 s.heap.size) (([(h0, .inr (9, [.ref (u2 0), .null, .null, .null, .null, .null, .null, .int 0, .int 0]))] ++ wl 18 u2 ((fun u k => zE (shPg u cI cW) k) u2)) ++ wl 3 u4 ((fun u k => zE (shCs u cI 0) k) u4)) := hD
  refine W.widen (k := 21) (n := 124) (Nat.le_of_ble_eq_true rfl) (Nat.le_of_ble_eq_true rfl) ?_
  refine va_putF (D := D) (ci := 9) (v := .ref (u4 0)) (C := RX9) (T := TX9) (N := 9) hx hb hts (fun w h => wz_m (inX9 w h)) tyX9 tyX9_ok nmX9 hown hK.1 hP hD hS 0 rfl rfl 1 (by decide) (hts _ (wz_m tw_1_210)) (fun _ h9 => h9) rfl hin rfl (tyX9_ok 1 (by decide)) rfl rfl (Nat.le_of_ble_eq_true rfl) dX9_init_23 (fun H locs hP hD hS => ?_)
  replace hP : va_P D vwCl (([(h0, .inr (9, [.ref (u2 0), .ref (u4 0), .null, .null, .null, .null, .null, .int 0, .int 0]))] ++ wl 18 u2 ((fun u k => zE (shPg u cI cW) k) u2)) ++ wl 3 u4 ((fun u k => zE (shCs u cI 0) k) u4)) H := hP
  replace hD : va_D (AI h0 s.heap.size) (([(h0, .inr (9, [.ref (u2 0), .ref (u4 0), .null, .null, .null, .null, .null, .int 0, .int 0]))] ++ wl 18 u2 ((fun u k => zE (shPg u cI cW) k) u2)) ++ wl 3 u4 ((fun u k => zE (shCs u cI 0) k) u4)) := hD
  refine lv_aload_n hx hb dX9_init_26 rfl (lv_at hl 0 rfl) ?_
  refine va_new (ci := 3) (fs := [.null, .null, .null, .int 0]) (C := RX3) (T := TX3) (N := 4) hx hb hts (fun w h => wz_m (inX3 w h)) tyX3 tyX3_ok hown (hts _ (wz_m tw_1_117)) (hts _ (wz_m tw_1_118)) (hts _ (wz_m tw_1_6)) hK.1 hP hD hS hA rfl (fun j hj => by match j, hj with | 0, _ => rfl | 1, _ => rfl | 2, _ => rfl | 3, _ => rfl | j + 4, hj => exact absurd hj (by omega)) (Nat.le_of_ble_eq_true rfl) (Nat.le_of_ble_eq_true rfl) dX9_init_27 (fun q5 H hP hD hS => ?_)
  replace hP : va_P D vwCl ((([(h0, .inr (9, [.ref (u2 0), .ref (u4 0), .null, .null, .null, .null, .null, .int 0, .int 0]))] ++ wl 18 u2 ((fun u k => zE (shPg u cI cW) k) u2)) ++ wl 3 u4 ((fun u k => zE (shCs u cI 0) k) u4)) ++ [(q5, .inr (3, [.null, .null, .null, .int 0]))]) H := hP
  replace hD : va_D (AI h0 s.heap.size) ((([(h0, .inr (9, [.ref (u2 0), .ref (u4 0), .null, .null, .null, .null, .null, .int 0, .int 0]))] ++ wl 18 u2 ((fun u k => zE (shPg u cI cW) k) u2)) ++ wl 3 u4 ((fun u k => zE (shCs u cI 0) k) u4)) ++ [(q5, .inr (3, [.null, .null, .null, .int 0]))]) := hD
  refine W.widen (k := 22) (n := 128) (Nat.le_of_ble_eq_true rfl) (Nat.le_of_ble_eq_true rfl) ?_
  refine lv_dup hx hb dX9_init_30 rfl ?_
  refine i_call (va_runIN (As := []) (rest := [.ref q5, .ref h0]) ⟨hx, hb, hml, hown, hts⟩ (k_X3_init (D := D) (cI := cI) (cW := cW) (h0 := q5) (sz := H.size)) ⟨va_cnB 0 hts (wz_good tw_1_121) rfl rfl rfl (hK.2.1 _ (List.mem_of_getElem? (i := 22) rfl)) (hts _ (wz_m tw_1_6)) hdI_X3 ⟨Nat.le_of_ble_eq_true rfl, Nat.le_of_ble_eq_true rfl⟩, rfl, hts _ (wz_m tw_1_120)⟩ (i_pre KI_st hK hP) rfl rfl hl.1 rfl (lv_room (Nat.le_of_ble_eq_true rfl)) dX9_init_31 ⟨Nat.le_of_ble_eq_true rfl, Nat.le_of_ble_eq_true rfl⟩) hP hD hS hA (fun u6 H locs eu6 hP hD hS => ?_)
  rw [← eu6]
  replace hP : va_P D vwCl ((([(h0, .inr (9, [.ref (u2 0), .ref (u4 0), .null, .null, .null, .null, .null, .int 0, .int 0]))] ++ wl 18 u2 ((fun u k => zE (shPg u cI cW) k) u2)) ++ wl 3 u4 ((fun u k => zE (shCs u cI 0) k) u4)) ++ wl 21 u6 ((fun u k => zE (shSc u cI cW 0) k) u6)) H := hP
  replace hD : va_D (AI h0 s.heap.size) ((([(h0, .inr (9, [.ref (u2 0), .ref (u4 0), .null, .null, .null, .null, .null, .int 0, .int 0]))] ++ wl 18 u2 ((fun u k => zE (shPg u cI cW) k) u2)) ++ wl 3 u4 ((fun u k => zE (shCs u cI 0) k) u4)) ++ wl 21 u6 ((fun u k => zE (shSc u cI cW 0) k) u6)) := hD
  refine W.widen (k := 42) (n := 207) (Nat.le_of_ble_eq_true rfl) (Nat.le_of_ble_eq_true rfl) ?_
  refine va_putF (D := D) (ci := 9) (v := .ref (u6 0)) (C := RX9) (T := TX9) (N := 9) hx hb hts (fun w h => wz_m (inX9 w h)) tyX9 tyX9_ok nmX9 hown hK.1 hP hD hS 0 rfl rfl 2 (by decide) (hts _ (wz_m tw_1_211)) (fun _ h9 => h9) rfl hin rfl (tyX9_ok 2 (by decide)) rfl rfl (Nat.le_of_ble_eq_true rfl) dX9_init_34 (fun H locs hP hD hS => ?_)
  replace hP : va_P D vwCl ((([(h0, .inr (9, [.ref (u2 0), .ref (u4 0), .ref (u6 0), .null, .null, .null, .null, .int 0, .int 0]))] ++ wl 18 u2 ((fun u k => zE (shPg u cI cW) k) u2)) ++ wl 3 u4 ((fun u k => zE (shCs u cI 0) k) u4)) ++ wl 21 u6 ((fun u k => zE (shSc u cI cW 0) k) u6)) H := hP
  replace hD : va_D (AI h0 s.heap.size) ((([(h0, .inr (9, [.ref (u2 0), .ref (u4 0), .ref (u6 0), .null, .null, .null, .null, .int 0, .int 0]))] ++ wl 18 u2 ((fun u k => zE (shPg u cI cW) k) u2)) ++ wl 3 u4 ((fun u k => zE (shCs u cI 0) k) u4)) ++ wl 21 u6 ((fun u k => zE (shSc u cI cW 0) k) u6)) := hD
  refine lv_aload_n hx hb dX9_init_37 rfl (lv_at hl 0 rfl) ?_
  refine va_new (ci := 3) (fs := [.null, .null, .null, .int 0]) (C := RX3) (T := TX3) (N := 4) hx hb hts (fun w h => wz_m (inX3 w h)) tyX3 tyX3_ok hown (hts _ (wz_m tw_1_117)) (hts _ (wz_m tw_1_118)) (hts _ (wz_m tw_1_6)) hK.1 hP hD hS hA rfl (fun j hj => by match j, hj with | 0, _ => rfl | 1, _ => rfl | 2, _ => rfl | 3, _ => rfl | j + 4, hj => exact absurd hj (by omega)) (Nat.le_of_ble_eq_true rfl) (Nat.le_of_ble_eq_true rfl) dX9_init_38 (fun q7 H hP hD hS => ?_)
  replace hP : va_P D vwCl (((([(h0, .inr (9, [.ref (u2 0), .ref (u4 0), .ref (u6 0), .null, .null, .null, .null, .int 0, .int 0]))] ++ wl 18 u2 ((fun u k => zE (shPg u cI cW) k) u2)) ++ wl 3 u4 ((fun u k => zE (shCs u cI 0) k) u4)) ++ wl 21 u6 ((fun u k => zE (shSc u cI cW 0) k) u6)) ++ [(q7, .inr (3, [.null, .null, .null, .int 0]))]) H := hP
  replace hD : va_D (AI h0 s.heap.size) (((([(h0, .inr (9, [.ref (u2 0), .ref (u4 0), .ref (u6 0), .null, .null, .null, .null, .int 0, .int 0]))] ++ wl 18 u2 ((fun u k => zE (shPg u cI cW) k) u2)) ++ wl 3 u4 ((fun u k => zE (shCs u cI 0) k) u4)) ++ wl 21 u6 ((fun u k => zE (shSc u cI cW 0) k) u6)) ++ [(q7, .inr (3, [.null, .null, .null, .int 0]))]) := hD
  refine W.widen (k := 43) (n := 211) (Nat.le_of_ble_eq_true rfl) (Nat.le_of_ble_eq_true rfl) ?_
  refine lv_dup hx hb dX9_init_41 rfl ?_
  refine i_call (va_runIN (As := []) (rest := [.ref q7, .ref h0]) ⟨hx, hb, hml, hown, hts⟩ (k_X3_init (D := D) (cI := cI) (cW := cW) (h0 := q7) (sz := H.size)) ⟨va_cnB 0 hts (wz_good tw_1_121) rfl rfl rfl (hK.2.1 _ (List.mem_of_getElem? (i := 22) rfl)) (hts _ (wz_m tw_1_6)) hdI_X3 ⟨Nat.le_of_ble_eq_true rfl, Nat.le_of_ble_eq_true rfl⟩, rfl, hts _ (wz_m tw_1_120)⟩ (i_pre KI_st hK hP) rfl rfl hl.1 rfl (lv_room (Nat.le_of_ble_eq_true rfl)) dX9_init_42 ⟨Nat.le_of_ble_eq_true rfl, Nat.le_of_ble_eq_true rfl⟩) hP hD hS hA (fun u8 H locs eu8 hP hD hS => ?_)
  rw [← eu8]
  replace hP : va_P D vwCl (((([(h0, .inr (9, [.ref (u2 0), .ref (u4 0), .ref (u6 0), .null, .null, .null, .null, .int 0, .int 0]))] ++ wl 18 u2 ((fun u k => zE (shPg u cI cW) k) u2)) ++ wl 3 u4 ((fun u k => zE (shCs u cI 0) k) u4)) ++ wl 21 u6 ((fun u k => zE (shSc u cI cW 0) k) u6)) ++ wl 21 u8 ((fun u k => zE (shSc u cI cW 0) k) u8)) H := hP
  replace hD : va_D (AI h0 s.heap.size) (((([(h0, .inr (9, [.ref (u2 0), .ref (u4 0), .ref (u6 0), .null, .null, .null, .null, .int 0, .int 0]))] ++ wl 18 u2 ((fun u k => zE (shPg u cI cW) k) u2)) ++ wl 3 u4 ((fun u k => zE (shCs u cI 0) k) u4)) ++ wl 21 u6 ((fun u k => zE (shSc u cI cW 0) k) u6)) ++ wl 21 u8 ((fun u k => zE (shSc u cI cW 0) k) u8)) := hD
  refine W.widen (k := 63) (n := 290) (Nat.le_of_ble_eq_true rfl) (Nat.le_of_ble_eq_true rfl) ?_
  refine va_putF (D := D) (ci := 9) (v := .ref (u8 0)) (C := RX9) (T := TX9) (N := 9) hx hb hts (fun w h => wz_m (inX9 w h)) tyX9 tyX9_ok nmX9 hown hK.1 hP hD hS 0 rfl rfl 3 (by decide) (hts _ (wz_m tw_1_212)) (fun _ h9 => h9) rfl hin rfl (tyX9_ok 3 (by decide)) rfl rfl (Nat.le_of_ble_eq_true rfl) dX9_init_45 (fun H locs hP hD hS => ?_)
  replace hP : va_P D vwCl (((([(h0, .inr (9, [.ref (u2 0), .ref (u4 0), .ref (u6 0), .ref (u8 0), .null, .null, .null, .int 0, .int 0]))] ++ wl 18 u2 ((fun u k => zE (shPg u cI cW) k) u2)) ++ wl 3 u4 ((fun u k => zE (shCs u cI 0) k) u4)) ++ wl 21 u6 ((fun u k => zE (shSc u cI cW 0) k) u6)) ++ wl 21 u8 ((fun u k => zE (shSc u cI cW 0) k) u8)) H := hP
  replace hD : va_D (AI h0 s.heap.size) (((([(h0, .inr (9, [.ref (u2 0), .ref (u4 0), .ref (u6 0), .ref (u8 0), .null, .null, .null, .int 0, .int 0]))] ++ wl 18 u2 ((fun u k => zE (shPg u cI cW) k) u2)) ++ wl 3 u4 ((fun u k => zE (shCs u cI 0) k) u4)) ++ wl 21 u6 ((fun u k => zE (shSc u cI cW 0) k) u6)) ++ wl 21 u8 ((fun u k => zE (shSc u cI cW 0) k) u8)) := hD
  refine lv_aload_n hx hb dX9_init_48 rfl (lv_at hl 0 rfl) ?_
  refine va_new (ci := 1) (fs := [.null, .null, .int 0]) (C := RX1) (T := TX1) (N := 3) hx hb hts (fun w h => wz_m (inX1 w h)) tyX1 tyX1_ok hown (hts _ (wz_m tw_1_181)) (hts _ (wz_m tw_1_29)) (hts _ (wz_m tw_1_3)) hK.1 hP hD hS hA rfl (fun j hj => by match j, hj with | 0, _ => rfl | 1, _ => rfl | 2, _ => rfl | j + 3, hj => exact absurd hj (by omega)) (Nat.le_of_ble_eq_true rfl) (Nat.le_of_ble_eq_true rfl) dX9_init_49 (fun q9 H hP hD hS => ?_)
  replace hP : va_P D vwCl ((((([(h0, .inr (9, [.ref (u2 0), .ref (u4 0), .ref (u6 0), .ref (u8 0), .null, .null, .null, .int 0, .int 0]))] ++ wl 18 u2 ((fun u k => zE (shPg u cI cW) k) u2)) ++ wl 3 u4 ((fun u k => zE (shCs u cI 0) k) u4)) ++ wl 21 u6 ((fun u k => zE (shSc u cI cW 0) k) u6)) ++ wl 21 u8 ((fun u k => zE (shSc u cI cW 0) k) u8)) ++ [(q9, .inr (1, [.null, .null, .int 0]))]) H := hP
  replace hD : va_D (AI h0 s.heap.size) ((((([(h0, .inr (9, [.ref (u2 0), .ref (u4 0), .ref (u6 0), .ref (u8 0), .null, .null, .null, .int 0, .int 0]))] ++ wl 18 u2 ((fun u k => zE (shPg u cI cW) k) u2)) ++ wl 3 u4 ((fun u k => zE (shCs u cI 0) k) u4)) ++ wl 21 u6 ((fun u k => zE (shSc u cI cW 0) k) u6)) ++ wl 21 u8 ((fun u k => zE (shSc u cI cW 0) k) u8)) ++ [(q9, .inr (1, [.null, .null, .int 0]))]) := hD
  refine W.widen (k := 64) (n := 293) (Nat.le_of_ble_eq_true rfl) (Nat.le_of_ble_eq_true rfl) ?_
  refine lv_dup hx hb dX9_init_52 rfl ?_
  refine i_call (va_runI (As := []) (rest := [.ref q9, .ref h0]) ⟨hx, hb, hml, hown, hts⟩ (k_X1_init (D := D) (cI := cI) (cW := cW) (h0 := q9) (sz := H.size)) (cwI 0 hts (wz_good tw_1_32) rfl rfl rfl (hts _ (wz_m tw_1_3)) (hts _ (wz_m tw_1_182)) (hts _ (wz_m tw_1_31)) rfl hdI_X1 ⟨Nat.le_of_ble_eq_true rfl, Nat.le_of_ble_eq_true rfl⟩) (i_pre KI_st hK hP) rfl rfl hl.1 rfl (lv_room (Nat.le_of_ble_eq_true rfl)) dX9_init_53 ⟨Nat.le_of_ble_eq_true rfl, Nat.le_of_ble_eq_true rfl⟩) hP hD hS hA (fun u10 H locs eu10 hP hD hS => ?_)
  rw [← eu10]
  replace hP : va_P D vwCl ((((([(h0, .inr (9, [.ref (u2 0), .ref (u4 0), .ref (u6 0), .ref (u8 0), .null, .null, .null, .int 0, .int 0]))] ++ wl 18 u2 ((fun u k => zE (shPg u cI cW) k) u2)) ++ wl 3 u4 ((fun u k => zE (shCs u cI 0) k) u4)) ++ wl 21 u6 ((fun u k => zE (shSc u cI cW 0) k) u6)) ++ wl 21 u8 ((fun u k => zE (shSc u cI cW 0) k) u8)) ++ wl 13 u10 ((fun u k => zE (shH u cI cW 0) k) u10)) H := hP
  replace hD : va_D (AI h0 s.heap.size) ((((([(h0, .inr (9, [.ref (u2 0), .ref (u4 0), .ref (u6 0), .ref (u8 0), .null, .null, .null, .int 0, .int 0]))] ++ wl 18 u2 ((fun u k => zE (shPg u cI cW) k) u2)) ++ wl 3 u4 ((fun u k => zE (shCs u cI 0) k) u4)) ++ wl 21 u6 ((fun u k => zE (shSc u cI cW 0) k) u6)) ++ wl 21 u8 ((fun u k => zE (shSc u cI cW 0) k) u8)) ++ wl 13 u10 ((fun u k => zE (shH u cI cW 0) k) u10)) := hD
  refine W.widen (k := 76) (n := 332) (Nat.le_of_ble_eq_true rfl) (Nat.le_of_ble_eq_true rfl) ?_
  refine va_putF (D := D) (ci := 9) (v := .ref (u10 0)) (C := RX9) (T := TX9) (N := 9) hx hb hts (fun w h => wz_m (inX9 w h)) tyX9 tyX9_ok nmX9 hown hK.1 hP hD hS 0 rfl rfl 4 (by decide) (hts _ (wz_m tw_1_213)) (fun _ h9 => h9) rfl hin rfl (tyX9_ok 4 (by decide)) rfl rfl (Nat.le_of_ble_eq_true rfl) dX9_init_56 (fun H locs hP hD hS => ?_)
  replace hP : va_P D vwCl ((((([(h0, .inr (9, [.ref (u2 0), .ref (u4 0), .ref (u6 0), .ref (u8 0), .ref (u10 0), .null, .null, .int 0, .int 0]))] ++ wl 18 u2 ((fun u k => zE (shPg u cI cW) k) u2)) ++ wl 3 u4 ((fun u k => zE (shCs u cI 0) k) u4)) ++ wl 21 u6 ((fun u k => zE (shSc u cI cW 0) k) u6)) ++ wl 21 u8 ((fun u k => zE (shSc u cI cW 0) k) u8)) ++ wl 13 u10 ((fun u k => zE (shH u cI cW 0) k) u10)) H := hP
  replace hD : va_D (AI h0 s.heap.size) ((((([(h0, .inr (9, [.ref (u2 0), .ref (u4 0), .ref (u6 0), .ref (u8 0), .ref (u10 0), .null, .null, .int 0, .int 0]))] ++ wl 18 u2 ((fun u k => zE (shPg u cI cW) k) u2)) ++ wl 3 u4 ((fun u k => zE (shCs u cI 0) k) u4)) ++ wl 21 u6 ((fun u k => zE (shSc u cI cW 0) k) u6)) ++ wl 21 u8 ((fun u k => zE (shSc u cI cW 0) k) u8)) ++ wl 13 u10 ((fun u k => zE (shH u cI cW 0) k) u10)) := hD
  refine lv_aload_n hx hb dX9_init_59 rfl (lv_at hl 0 rfl) ?_
  refine va_new (ci := 6) (fs := [.null, .null]) (C := RX6) (T := TX6) (N := 2) hx hb hts (fun w h => wz_m (inX6 w h)) tyX6 tyX6_ok hown (hts _ (wz_m tw_1_183)) (hts _ (wz_m tw_1_184)) (hts _ (wz_m tw_1_9)) hK.1 hP hD hS hA rfl (fun j hj => by match j, hj with | 0, _ => rfl | 1, _ => rfl | j + 2, hj => exact absurd hj (by omega)) (Nat.le_of_ble_eq_true rfl) (Nat.le_of_ble_eq_true rfl) dX9_init_60 (fun q11 H hP hD hS => ?_)
  replace hP : va_P D vwCl (((((([(h0, .inr (9, [.ref (u2 0), .ref (u4 0), .ref (u6 0), .ref (u8 0), .ref (u10 0), .null, .null, .int 0, .int 0]))] ++ wl 18 u2 ((fun u k => zE (shPg u cI cW) k) u2)) ++ wl 3 u4 ((fun u k => zE (shCs u cI 0) k) u4)) ++ wl 21 u6 ((fun u k => zE (shSc u cI cW 0) k) u6)) ++ wl 21 u8 ((fun u k => zE (shSc u cI cW 0) k) u8)) ++ wl 13 u10 ((fun u k => zE (shH u cI cW 0) k) u10)) ++ [(q11, .inr (6, [.null, .null]))]) H := hP
  replace hD : va_D (AI h0 s.heap.size) (((((([(h0, .inr (9, [.ref (u2 0), .ref (u4 0), .ref (u6 0), .ref (u8 0), .ref (u10 0), .null, .null, .int 0, .int 0]))] ++ wl 18 u2 ((fun u k => zE (shPg u cI cW) k) u2)) ++ wl 3 u4 ((fun u k => zE (shCs u cI 0) k) u4)) ++ wl 21 u6 ((fun u k => zE (shSc u cI cW 0) k) u6)) ++ wl 21 u8 ((fun u k => zE (shSc u cI cW 0) k) u8)) ++ wl 13 u10 ((fun u k => zE (shH u cI cW 0) k) u10)) ++ [(q11, .inr (6, [.null, .null]))]) := hD
  refine W.widen (k := 77) (n := 334) (Nat.le_of_ble_eq_true rfl) (Nat.le_of_ble_eq_true rfl) ?_
  refine lv_dup hx hb dX9_init_63 rfl ?_
  refine i_call (va_runIN (As := []) (rest := [.ref q11, .ref h0]) ⟨hx, hb, hml, hown, hts⟩ (k_X6_init (D := D) (cI := cI) (cW := cW) (h0 := q11) (sz := H.size)) ⟨va_cnB 0 hts (wz_good tw_1_187) rfl rfl rfl (hK.2.1 _ (List.mem_of_getElem? (i := 33) rfl)) (hts _ (wz_m tw_1_9)) hdI_X6 ⟨Nat.le_of_ble_eq_true rfl, Nat.le_of_ble_eq_true rfl⟩, rfl, hts _ (wz_m tw_1_186)⟩ (i_pre KI_st hK hP) rfl rfl hl.1 rfl (lv_room (Nat.le_of_ble_eq_true rfl)) dX9_init_64 ⟨Nat.le_of_ble_eq_true rfl, Nat.le_of_ble_eq_true rfl⟩) hP hD hS hA (fun u12 H locs eu12 hP hD hS => ?_)
  rw [← eu12]
  replace hP : va_P D vwCl (((((([(h0, .inr (9, [.ref (u2 0), .ref (u4 0), .ref (u6 0), .ref (u8 0), .ref (u10 0), .null, .null, .int 0, .int 0]))] ++ wl 18 u2 ((fun u k => zE (shPg u cI cW) k) u2)) ++ wl 3 u4 ((fun u k => zE (shCs u cI 0) k) u4)) ++ wl 21 u6 ((fun u k => zE (shSc u cI cW 0) k) u6)) ++ wl 21 u8 ((fun u k => zE (shSc u cI cW 0) k) u8)) ++ wl 13 u10 ((fun u k => zE (shH u cI cW 0) k) u10)) ++ wl 3 u12 ((fun u k => zE (shTm u cI) k) u12)) H := hP
  replace hD : va_D (AI h0 s.heap.size) (((((([(h0, .inr (9, [.ref (u2 0), .ref (u4 0), .ref (u6 0), .ref (u8 0), .ref (u10 0), .null, .null, .int 0, .int 0]))] ++ wl 18 u2 ((fun u k => zE (shPg u cI cW) k) u2)) ++ wl 3 u4 ((fun u k => zE (shCs u cI 0) k) u4)) ++ wl 21 u6 ((fun u k => zE (shSc u cI cW 0) k) u6)) ++ wl 21 u8 ((fun u k => zE (shSc u cI cW 0) k) u8)) ++ wl 13 u10 ((fun u k => zE (shH u cI cW 0) k) u10)) ++ wl 3 u12 ((fun u k => zE (shTm u cI) k) u12)) := hD
  refine W.widen (k := 79) (n := 469) (Nat.le_of_ble_eq_true rfl) (Nat.le_of_ble_eq_true rfl) ?_
  refine va_putF (D := D) (ci := 9) (v := .ref (u12 0)) (C := RX9) (T := TX9) (N := 9) hx hb hts (fun w h => wz_m (inX9 w h)) tyX9 tyX9_ok nmX9 hown hK.1 hP hD hS 0 rfl rfl 5 (by decide) (hts _ (wz_m tw_1_214)) (fun _ h9 => h9) rfl hin rfl (tyX9_ok 5 (by decide)) rfl rfl (Nat.le_of_ble_eq_true rfl) dX9_init_67 (fun H locs hP hD hS => ?_)
  replace hP : va_P D vwCl (((((([(h0, .inr (9, [.ref (u2 0), .ref (u4 0), .ref (u6 0), .ref (u8 0), .ref (u10 0), .ref (u12 0), .null, .int 0, .int 0]))] ++ wl 18 u2 ((fun u k => zE (shPg u cI cW) k) u2)) ++ wl 3 u4 ((fun u k => zE (shCs u cI 0) k) u4)) ++ wl 21 u6 ((fun u k => zE (shSc u cI cW 0) k) u6)) ++ wl 21 u8 ((fun u k => zE (shSc u cI cW 0) k) u8)) ++ wl 13 u10 ((fun u k => zE (shH u cI cW 0) k) u10)) ++ wl 3 u12 ((fun u k => zE (shTm u cI) k) u12)) H := hP
  replace hD : va_D (AI h0 s.heap.size) (((((([(h0, .inr (9, [.ref (u2 0), .ref (u4 0), .ref (u6 0), .ref (u8 0), .ref (u10 0), .ref (u12 0), .null, .int 0, .int 0]))] ++ wl 18 u2 ((fun u k => zE (shPg u cI cW) k) u2)) ++ wl 3 u4 ((fun u k => zE (shCs u cI 0) k) u4)) ++ wl 21 u6 ((fun u k => zE (shSc u cI cW 0) k) u6)) ++ wl 21 u8 ((fun u k => zE (shSc u cI cW 0) k) u8)) ++ wl 13 u10 ((fun u k => zE (shH u cI cW 0) k) u10)) ++ wl 3 u12 ((fun u k => zE (shTm u cI) k) u12)) := hD
  refine lv_aload_n hx hb dX9_init_70 rfl (lv_at hl 0 rfl) ?_
  refine va_new (ci := 8) (fs := [.null, .null]) (C := RX8) (T := TX8) (N := 2) hx hb hts (fun w h => wz_m (inX8 w h)) tyX8 tyX8_ok hown (hts _ (wz_m tw_1_196)) (hts _ (wz_m tw_1_197)) (hts _ (wz_m tw_1_10)) hK.1 hP hD hS hA rfl (fun j hj => by match j, hj with | 0, _ => rfl | 1, _ => rfl | j + 2, hj => exact absurd hj (by omega)) (Nat.le_of_ble_eq_true rfl) (Nat.le_of_ble_eq_true rfl) dX9_init_71 (fun q13 H hP hD hS => ?_)
  replace hP : va_P D vwCl ((((((([(h0, .inr (9, [.ref (u2 0), .ref (u4 0), .ref (u6 0), .ref (u8 0), .ref (u10 0), .ref (u12 0), .null, .int 0, .int 0]))] ++ wl 18 u2 ((fun u k => zE (shPg u cI cW) k) u2)) ++ wl 3 u4 ((fun u k => zE (shCs u cI 0) k) u4)) ++ wl 21 u6 ((fun u k => zE (shSc u cI cW 0) k) u6)) ++ wl 21 u8 ((fun u k => zE (shSc u cI cW 0) k) u8)) ++ wl 13 u10 ((fun u k => zE (shH u cI cW 0) k) u10)) ++ wl 3 u12 ((fun u k => zE (shTm u cI) k) u12)) ++ [(q13, .inr (8, [.null, .null]))]) H := hP
  replace hD : va_D (AI h0 s.heap.size) ((((((([(h0, .inr (9, [.ref (u2 0), .ref (u4 0), .ref (u6 0), .ref (u8 0), .ref (u10 0), .ref (u12 0), .null, .int 0, .int 0]))] ++ wl 18 u2 ((fun u k => zE (shPg u cI cW) k) u2)) ++ wl 3 u4 ((fun u k => zE (shCs u cI 0) k) u4)) ++ wl 21 u6 ((fun u k => zE (shSc u cI cW 0) k) u6)) ++ wl 21 u8 ((fun u k => zE (shSc u cI cW 0) k) u8)) ++ wl 13 u10 ((fun u k => zE (shH u cI cW 0) k) u10)) ++ wl 3 u12 ((fun u k => zE (shTm u cI) k) u12)) ++ [(q13, .inr (8, [.null, .null]))]) := hD
  refine W.widen (k := 80) (n := 471) (Nat.le_of_ble_eq_true rfl) (Nat.le_of_ble_eq_true rfl) ?_
  refine lv_dup hx hb dX9_init_74 rfl ?_
  refine i_call (va_runIN (As := []) (rest := [.ref q13, .ref h0]) ⟨hx, hb, hml, hown, hts⟩ (k_X8_init (D := D) (cI := cI) (cW := cW) (h0 := q13) (sz := H.size)) ⟨va_cnB 0 hts (wz_good tw_1_200) rfl rfl rfl (hK.2.1 _ (List.mem_of_getElem? (i := 34) rfl)) (hts _ (wz_m tw_1_10)) hdI_X8 ⟨Nat.le_of_ble_eq_true rfl, Nat.le_of_ble_eq_true rfl⟩, rfl, hts _ (wz_m tw_1_199)⟩ (i_pre KI_st hK hP) rfl rfl hl.1 rfl (lv_room (Nat.le_of_ble_eq_true rfl)) dX9_init_75 ⟨Nat.le_of_ble_eq_true rfl, Nat.le_of_ble_eq_true rfl⟩) hP hD hS hA (fun u14 H locs eu14 hP hD hS => ?_)
  rw [← eu14]
  replace hP : va_P D vwCl ((((((([(h0, .inr (9, [.ref (u2 0), .ref (u4 0), .ref (u6 0), .ref (u8 0), .ref (u10 0), .ref (u12 0), .null, .int 0, .int 0]))] ++ wl 18 u2 ((fun u k => zE (shPg u cI cW) k) u2)) ++ wl 3 u4 ((fun u k => zE (shCs u cI 0) k) u4)) ++ wl 21 u6 ((fun u k => zE (shSc u cI cW 0) k) u6)) ++ wl 21 u8 ((fun u k => zE (shSc u cI cW 0) k) u8)) ++ wl 13 u10 ((fun u k => zE (shH u cI cW 0) k) u10)) ++ wl 3 u12 ((fun u k => zE (shTm u cI) k) u12)) ++ wl 3 u14 ((fun u k => zE (shWo u cI) k) u14)) H := hP
  replace hD : va_D (AI h0 s.heap.size) ((((((([(h0, .inr (9, [.ref (u2 0), .ref (u4 0), .ref (u6 0), .ref (u8 0), .ref (u10 0), .ref (u12 0), .null, .int 0, .int 0]))] ++ wl 18 u2 ((fun u k => zE (shPg u cI cW) k) u2)) ++ wl 3 u4 ((fun u k => zE (shCs u cI 0) k) u4)) ++ wl 21 u6 ((fun u k => zE (shSc u cI cW 0) k) u6)) ++ wl 21 u8 ((fun u k => zE (shSc u cI cW 0) k) u8)) ++ wl 13 u10 ((fun u k => zE (shH u cI cW 0) k) u10)) ++ wl 3 u12 ((fun u k => zE (shTm u cI) k) u12)) ++ wl 3 u14 ((fun u k => zE (shWo u cI) k) u14)) := hD
  refine W.widen (k := 82) (n := 535) (Nat.le_of_ble_eq_true rfl) (Nat.le_of_ble_eq_true rfl) ?_
  refine va_putF (D := D) (ci := 9) (v := .ref (u14 0)) (C := RX9) (T := TX9) (N := 9) hx hb hts (fun w h => wz_m (inX9 w h)) tyX9 tyX9_ok nmX9 hown hK.1 hP hD hS 0 rfl rfl 6 (by decide) (hts _ (wz_m tw_1_215)) (fun _ h9 => h9) rfl hin rfl (tyX9_ok 6 (by decide)) rfl rfl (Nat.le_of_ble_eq_true rfl) dX9_init_78 (fun H locs hP hD hS => ?_)
  replace hP : va_P D vwCl ((((((([(h0, .inr (9, [.ref (u2 0), .ref (u4 0), .ref (u6 0), .ref (u8 0), .ref (u10 0), .ref (u12 0), .ref (u14 0), .int 0, .int 0]))] ++ wl 18 u2 ((fun u k => zE (shPg u cI cW) k) u2)) ++ wl 3 u4 ((fun u k => zE (shCs u cI 0) k) u4)) ++ wl 21 u6 ((fun u k => zE (shSc u cI cW 0) k) u6)) ++ wl 21 u8 ((fun u k => zE (shSc u cI cW 0) k) u8)) ++ wl 13 u10 ((fun u k => zE (shH u cI cW 0) k) u10)) ++ wl 3 u12 ((fun u k => zE (shTm u cI) k) u12)) ++ wl 3 u14 ((fun u k => zE (shWo u cI) k) u14)) H := hP
  replace hD : va_D (AI h0 s.heap.size) ((((((([(h0, .inr (9, [.ref (u2 0), .ref (u4 0), .ref (u6 0), .ref (u8 0), .ref (u10 0), .ref (u12 0), .ref (u14 0), .int 0, .int 0]))] ++ wl 18 u2 ((fun u k => zE (shPg u cI cW) k) u2)) ++ wl 3 u4 ((fun u k => zE (shCs u cI 0) k) u4)) ++ wl 21 u6 ((fun u k => zE (shSc u cI cW 0) k) u6)) ++ wl 21 u8 ((fun u k => zE (shSc u cI cW 0) k) u8)) ++ wl 13 u10 ((fun u k => zE (shH u cI cW 0) k) u10)) ++ wl 3 u12 ((fun u k => zE (shTm u cI) k) u12)) ++ wl 3 u14 ((fun u k => zE (shWo u cI) k) u14)) := hD
  refine lv_aload_n hx hb dX9_init_81 rfl (lv_at hl 0 rfl) ?_
  refine lv_iconst (v := 0) hx hb dX9_init_82 (by decide) ?_
  refine va_put (D := D) (ci := 9) (v := .int 0) (C := RX9) (T := TX9) (N := 9) hx hb hts (fun w h => wz_m (inX9 w h)) tyX9 tyX9_ok nmX9 hown hK.1 hP hD hS 0 rfl rfl 7 (by decide) (hts _ (wz_m tw_1_216)) (fun _ h9 => h9) rfl (tyX9_ok 7 (by decide)) rfl rfl (Nat.le_of_ble_eq_true rfl) dX9_init_83 (fun H locs hP hD hS => ?_)
  replace hP : va_P D vwCl ((((((([(h0, .inr (9, [.ref (u2 0), .ref (u4 0), .ref (u6 0), .ref (u8 0), .ref (u10 0), .ref (u12 0), .ref (u14 0), .int 0, .int 0]))] ++ wl 18 u2 ((fun u k => zE (shPg u cI cW) k) u2)) ++ wl 3 u4 ((fun u k => zE (shCs u cI 0) k) u4)) ++ wl 21 u6 ((fun u k => zE (shSc u cI cW 0) k) u6)) ++ wl 21 u8 ((fun u k => zE (shSc u cI cW 0) k) u8)) ++ wl 13 u10 ((fun u k => zE (shH u cI cW 0) k) u10)) ++ wl 3 u12 ((fun u k => zE (shTm u cI) k) u12)) ++ wl 3 u14 ((fun u k => zE (shWo u cI) k) u14)) H := hP
  replace hD : va_D (AI h0 s.heap.size) ((((((([(h0, .inr (9, [.ref (u2 0), .ref (u4 0), .ref (u6 0), .ref (u8 0), .ref (u10 0), .ref (u12 0), .ref (u14 0), .int 0, .int 0]))] ++ wl 18 u2 ((fun u k => zE (shPg u cI cW) k) u2)) ++ wl 3 u4 ((fun u k => zE (shCs u cI 0) k) u4)) ++ wl 21 u6 ((fun u k => zE (shSc u cI cW 0) k) u6)) ++ wl 21 u8 ((fun u k => zE (shSc u cI cW 0) k) u8)) ++ wl 13 u10 ((fun u k => zE (shH u cI cW 0) k) u10)) ++ wl 3 u12 ((fun u k => zE (shTm u cI) k) u12)) ++ wl 3 u14 ((fun u k => zE (shWo u cI) k) u14)) := hD
  refine lv_aload_n hx hb dX9_init_86 rfl (lv_at hl 0 rfl) ?_
  refine lv_iconst (v := 0) hx hb dX9_init_87 (by decide) ?_
  refine va_put (D := D) (ci := 9) (v := .int 0) (C := RX9) (T := TX9) (N := 9) hx hb hts (fun w h => wz_m (inX9 w h)) tyX9 tyX9_ok nmX9 hown hK.1 hP hD hS 0 rfl rfl 8 (by decide) (hts _ (wz_m tw_1_217)) (fun _ h9 => h9) rfl (tyX9_ok 8 (by decide)) rfl rfl (Nat.le_of_ble_eq_true rfl) dX9_init_88 (fun H locs hP hD hS => ?_)
  replace hP : va_P D vwCl ((((((([(h0, .inr (9, [.ref (u2 0), .ref (u4 0), .ref (u6 0), .ref (u8 0), .ref (u10 0), .ref (u12 0), .ref (u14 0), .int 0, .int 0]))] ++ wl 18 u2 ((fun u k => zE (shPg u cI cW) k) u2)) ++ wl 3 u4 ((fun u k => zE (shCs u cI 0) k) u4)) ++ wl 21 u6 ((fun u k => zE (shSc u cI cW 0) k) u6)) ++ wl 21 u8 ((fun u k => zE (shSc u cI cW 0) k) u8)) ++ wl 13 u10 ((fun u k => zE (shH u cI cW 0) k) u10)) ++ wl 3 u12 ((fun u k => zE (shTm u cI) k) u12)) ++ wl 3 u14 ((fun u k => zE (shWo u cI) k) u14)) H := hP
  replace hD : va_D (AI h0 s.heap.size) ((((((([(h0, .inr (9, [.ref (u2 0), .ref (u4 0), .ref (u6 0), .ref (u8 0), .ref (u10 0), .ref (u12 0), .ref (u14 0), .int 0, .int 0]))] ++ wl 18 u2 ((fun u k => zE (shPg u cI cW) k) u2)) ++ wl 3 u4 ((fun u k => zE (shCs u cI 0) k) u4)) ++ wl 21 u6 ((fun u k => zE (shSc u cI cW 0) k) u6)) ++ wl 21 u8 ((fun u k => zE (shSc u cI cW 0) k) u8)) ++ wl 13 u10 ((fun u k => zE (shH u cI cW 0) k) u10)) ++ wl 3 u12 ((fun u k => zE (shTm u cI) k) u12)) ++ wl 3 u14 ((fun u k => zE (shWo u cI) k) u14)) := hD
  obtain ⟨U, hU⟩ : ∃ U : Nat → Nat, U = (fun k => if k < 1 then h0 else if k < 19 then u2 (k - 1) else if k < 22 then u4 (k - 19) else if k < 43 then u6 (k - 22) else if k < 64 then u8 (k - 43) else if k < 77 then u10 (k - 64) else if k < 80 then u12 (k - 77) else if k < 83 then u14 (k - 80) else 0) := ⟨_, rfl⟩
  have hu1 : ∀ j, j < 18 → U (1 + j) = u2 j := by
    intro j hj
    rw [hU]
    show (if (1 + j) < 1 then h0 else if (1 + j) < 19 then u2 ((1 + j) - 1) else if (1 + j) < 22 then u4 ((1 + j) - 19) else if (1 + j) < 43 then u6 ((1 + j) - 22) else if (1 + j) < 64 then u8 ((1 + j) - 43) else if (1 + j) < 77 then u10 ((1 + j) - 64) else if (1 + j) < 80 then u12 ((1 + j) - 77) else if (1 + j) < 83 then u14 ((1 + j) - 80) else 0) = _
    rw [if_neg (by omega), if_pos (by omega)]
    congr 1
    omega
  have hg1 : ∀ j, j < 18 → va_at D vwCl (U (1 + j), (fun u k => zE (shPg u cI cW) k) u2 j) H → va_at D vwCl (U (1 + j), SHC U cI cW (1 + j) (fun _ => 0)) H := by
    subst hU
    intro j hj
    match j, hj with
    | 0, _ => exact fun h => h
    | 1, _ => exact fun h => h
    | 2, _ => exact fun h => h
    | 3, _ => exact fun h => at_ref h (fun i hi => by match i, hi with | 0, _ => rfl | 1, _ => rfl | 2, _ => rfl | 3, _ => rfl | 4, _ => rfl | i + 5, hi => exact absurd hi (by omega))
    | 4, _ => exact fun h => h
    | 5, _ => exact fun h => h
    | 6, _ => exact fun h => h
    | 7, _ => exact fun h => h
    | 8, _ => exact fun h => h
    | 9, _ => exact fun h => h
    | 10, _ => exact fun h => h
    | 11, _ => exact fun h => h
    | 12, _ => exact fun h => h
    | 13, _ => exact fun h => h
    | 14, _ => exact fun h => h
    | 15, _ => exact fun h => h
    | 16, _ => exact fun h => h
    | 17, _ => exact fun h => h
    | j + 18, hj => exact absurd hj (by omega)
  have hu2 : ∀ j, j < 3 → U (19 + j) = u4 j := by
    intro j hj
    rw [hU]
    show (if (19 + j) < 1 then h0 else if (19 + j) < 19 then u2 ((19 + j) - 1) else if (19 + j) < 22 then u4 ((19 + j) - 19) else if (19 + j) < 43 then u6 ((19 + j) - 22) else if (19 + j) < 64 then u8 ((19 + j) - 43) else if (19 + j) < 77 then u10 ((19 + j) - 64) else if (19 + j) < 80 then u12 ((19 + j) - 77) else if (19 + j) < 83 then u14 ((19 + j) - 80) else 0) = _
    rw [if_neg (by omega), if_neg (by omega), if_pos (by omega)]
    congr 1
    omega
  have hg2 : ∀ j, j < 3 → va_at D vwCl (U (19 + j), (fun u k => zE (shCs u cI 0) k) u4 j) H → va_at D vwCl (U (19 + j), SHC U cI cW (19 + j) (fun _ => 0)) H := by
    subst hU
    intro j hj
    match j, hj with
    | 0, _ => exact fun h => h
    | 1, _ => exact fun h => h
    | 2, _ => exact fun h => h
    | j + 3, hj => exact absurd hj (by omega)
  have hu3 : ∀ j, j < 21 → U (22 + j) = u6 j := by
    intro j hj
    rw [hU]
    show (if (22 + j) < 1 then h0 else if (22 + j) < 19 then u2 ((22 + j) - 1) else if (22 + j) < 22 then u4 ((22 + j) - 19) else if (22 + j) < 43 then u6 ((22 + j) - 22) else if (22 + j) < 64 then u8 ((22 + j) - 43) else if (22 + j) < 77 then u10 ((22 + j) - 64) else if (22 + j) < 80 then u12 ((22 + j) - 77) else if (22 + j) < 83 then u14 ((22 + j) - 80) else 0) = _
    rw [if_neg (by omega), if_neg (by omega), if_neg (by omega), if_pos (by omega)]
    congr 1
    omega
  have hg3 : ∀ j, j < 21 → va_at D vwCl (U (22 + j), (fun u k => zE (shSc u cI cW 0) k) u6 j) H → va_at D vwCl (U (22 + j), SHC U cI cW (22 + j) (fun _ => 0)) H := by
    subst hU
    intro j hj
    match j, hj with
    | 0, _ => exact fun h => h
    | 1, _ => exact fun h => h
    | 2, _ => exact fun h => at_ref h (fun i hi => by match i, hi with | 0, _ => rfl | 1, _ => rfl | 2, _ => rfl | 3, _ => rfl | 4, _ => rfl | i + 5, hi => exact absurd hi (by omega))
    | 3, _ => exact fun h => h
    | 4, _ => exact fun h => h
    | 5, _ => exact fun h => h
    | 6, _ => exact fun h => h
    | 7, _ => exact fun h => h
    | 8, _ => exact fun h => h
    | 9, _ => exact fun h => h
    | 10, _ => exact fun h => h
    | 11, _ => exact fun h => h
    | 12, _ => exact fun h => h
    | 13, _ => exact fun h => h
    | 14, _ => exact fun h => h
    | 15, _ => exact fun h => h
    | 16, _ => exact fun h => h
    | 17, _ => exact fun h => h
    | 18, _ => exact fun h => h
    | 19, _ => exact fun h => h
    | 20, _ => exact fun h => h
    | j + 21, hj => exact absurd hj (by omega)
  have hu4 : ∀ j, j < 21 → U (43 + j) = u8 j := by
    intro j hj
    rw [hU]
    show (if (43 + j) < 1 then h0 else if (43 + j) < 19 then u2 ((43 + j) - 1) else if (43 + j) < 22 then u4 ((43 + j) - 19) else if (43 + j) < 43 then u6 ((43 + j) - 22) else if (43 + j) < 64 then u8 ((43 + j) - 43) else if (43 + j) < 77 then u10 ((43 + j) - 64) else if (43 + j) < 80 then u12 ((43 + j) - 77) else if (43 + j) < 83 then u14 ((43 + j) - 80) else 0) = _
    rw [if_neg (by omega), if_neg (by omega), if_neg (by omega), if_neg (by omega), if_pos (by omega)]
    congr 1
    omega
  have hg4 : ∀ j, j < 21 → va_at D vwCl (U (43 + j), (fun u k => zE (shSc u cI cW 0) k) u8 j) H → va_at D vwCl (U (43 + j), SHC U cI cW (43 + j) (fun _ => 0)) H := by
    subst hU
    intro j hj
    match j, hj with
    | 0, _ => exact fun h => h
    | 1, _ => exact fun h => h
    | 2, _ => exact fun h => at_ref h (fun i hi => by match i, hi with | 0, _ => rfl | 1, _ => rfl | 2, _ => rfl | 3, _ => rfl | 4, _ => rfl | i + 5, hi => exact absurd hi (by omega))
    | 3, _ => exact fun h => h
    | 4, _ => exact fun h => h
    | 5, _ => exact fun h => h
    | 6, _ => exact fun h => h
    | 7, _ => exact fun h => h
    | 8, _ => exact fun h => h
    | 9, _ => exact fun h => h
    | 10, _ => exact fun h => h
    | 11, _ => exact fun h => h
    | 12, _ => exact fun h => h
    | 13, _ => exact fun h => h
    | 14, _ => exact fun h => h
    | 15, _ => exact fun h => h
    | 16, _ => exact fun h => h
    | 17, _ => exact fun h => h
    | 18, _ => exact fun h => h
    | 19, _ => exact fun h => h
    | 20, _ => exact fun h => h
    | j + 21, hj => exact absurd hj (by omega)
  have hu5 : ∀ j, j < 13 → U (64 + j) = u10 j := by
    intro j hj
    rw [hU]
    show (if (64 + j) < 1 then h0 else if (64 + j) < 19 then u2 ((64 + j) - 1) else if (64 + j) < 22 then u4 ((64 + j) - 19) else if (64 + j) < 43 then u6 ((64 + j) - 22) else if (64 + j) < 64 then u8 ((64 + j) - 43) else if (64 + j) < 77 then u10 ((64 + j) - 64) else if (64 + j) < 80 then u12 ((64 + j) - 77) else if (64 + j) < 83 then u14 ((64 + j) - 80) else 0) = _
    rw [if_neg (by omega), if_neg (by omega), if_neg (by omega), if_neg (by omega), if_neg (by omega), if_pos (by omega)]
    congr 1
    omega
  have hg5 : ∀ j, j < 13 → va_at D vwCl (U (64 + j), (fun u k => zE (shH u cI cW 0) k) u10 j) H → va_at D vwCl (U (64 + j), SHC U cI cW (64 + j) (fun _ => 0)) H := by
    subst hU
    intro j hj
    match j, hj with
    | 0, _ => exact fun h => h
    | 1, _ => exact fun h => at_ref h (fun i hi => by match i, hi with | 0, _ => rfl | 1, _ => rfl | 2, _ => rfl | 3, _ => rfl | 4, _ => rfl | i + 5, hi => exact absurd hi (by omega))
    | 2, _ => exact fun h => h
    | 3, _ => exact fun h => h
    | 4, _ => exact fun h => h
    | 5, _ => exact fun h => h
    | 6, _ => exact fun h => h
    | 7, _ => exact fun h => h
    | 8, _ => exact fun h => h
    | 9, _ => exact fun h => h
    | 10, _ => exact fun h => h
    | 11, _ => exact fun h => h
    | 12, _ => exact fun h => h
    | j + 13, hj => exact absurd hj (by omega)
  have hu6 : ∀ j, j < 3 → U (77 + j) = u12 j := by
    intro j hj
    rw [hU]
    show (if (77 + j) < 1 then h0 else if (77 + j) < 19 then u2 ((77 + j) - 1) else if (77 + j) < 22 then u4 ((77 + j) - 19) else if (77 + j) < 43 then u6 ((77 + j) - 22) else if (77 + j) < 64 then u8 ((77 + j) - 43) else if (77 + j) < 77 then u10 ((77 + j) - 64) else if (77 + j) < 80 then u12 ((77 + j) - 77) else if (77 + j) < 83 then u14 ((77 + j) - 80) else 0) = _
    rw [if_neg (by omega), if_neg (by omega), if_neg (by omega), if_neg (by omega), if_neg (by omega), if_neg (by omega), if_pos (by omega)]
    congr 1
    omega
  have hg6 : ∀ j, j < 3 → va_at D vwCl (U (77 + j), (fun u k => zE (shTm u cI) k) u12 j) H → va_at D vwCl (U (77 + j), SHC U cI cW (77 + j) (fun _ => 0)) H := by
    subst hU
    intro j hj
    match j, hj with
    | 0, _ => exact fun h => h
    | 1, _ => exact fun h => h
    | 2, _ => exact fun h => h
    | j + 3, hj => exact absurd hj (by omega)
  have hu7 : ∀ j, j < 3 → U (80 + j) = u14 j := by
    intro j hj
    rw [hU]
    show (if (80 + j) < 1 then h0 else if (80 + j) < 19 then u2 ((80 + j) - 1) else if (80 + j) < 22 then u4 ((80 + j) - 19) else if (80 + j) < 43 then u6 ((80 + j) - 22) else if (80 + j) < 64 then u8 ((80 + j) - 43) else if (80 + j) < 77 then u10 ((80 + j) - 64) else if (80 + j) < 80 then u12 ((80 + j) - 77) else if (80 + j) < 83 then u14 ((80 + j) - 80) else 0) = _
    rw [if_neg (by omega), if_neg (by omega), if_neg (by omega), if_neg (by omega), if_neg (by omega), if_neg (by omega), if_neg (by omega), if_pos (by omega)]
    congr 1
    omega
  have hg7 : ∀ j, j < 3 → va_at D vwCl (U (80 + j), (fun u k => zE (shWo u cI) k) u14 j) H → va_at D vwCl (U (80 + j), SHC U cI cW (80 + j) (fun _ => 0)) H := by
    subst hU
    intro j hj
    match j, hj with
    | 0, _ => exact fun h => h
    | 1, _ => exact fun h => h
    | 2, _ => exact fun h => h
    | j + 3, hj => exact absurd hj (by omega)
  have hg0 : va_at D vwCl (U 0, .inr (9, [.ref (u2 0), .ref (u4 0), .ref (u6 0), .ref (u8 0), .ref (u10 0), .ref (u12 0), .ref (u14 0), .int 0, .int 0])) H → va_at D vwCl (U 0, SHC U cI cW 0 (fun _ => 0)) H := by
    subst hU
    exact fun h => h
  subst hQQ
  exact i_ret (n := 83) (E := (fun u k => SHC u cI cW k (fun _ => 0))) U (by rw [hU]; rfl) hx hb hr hlocks hP hD hS (by
    intro k hk
    rcases Nat.lt_or_ge k 1 with hk0 | hk0
    · obtain rfl : k = 0 := by omega
      exact ⟨_, by rw [hU]; rfl, hg0⟩
    rcases Nat.lt_or_ge k 19 with hk1 | hk1
    · skip
      obtain ⟨j, rfl⟩ : ∃ j, k = 1 + j := ⟨k - 1, by omega⟩
      refine ⟨(fun u k => zE (shPg u cI cW) k) u2 j, ?_, hg1 j (by omega)⟩
      rw [hu1 j (by omega)]
      refine (gw_init (gw_init (gw_init (gw_init (gw_init (gw_init (gw_last 1 (by simp [wl_len]) (by omega) (by omega)))))))).trans ?_
      rw [Nat.add_sub_cancel_left]
    rcases Nat.lt_or_ge k 22 with hk2 | hk2
    · skip
      obtain ⟨j, rfl⟩ : ∃ j, k = 19 + j := ⟨k - 19, by omega⟩
      refine ⟨(fun u k => zE (shCs u cI 0) k) u4 j, ?_, hg2 j (by omega)⟩
      rw [hu2 j (by omega)]
      refine (gw_init (gw_init (gw_init (gw_init (gw_init (gw_last 19 (by simp [wl_len]) (by omega) (by omega))))))).trans ?_
      rw [Nat.add_sub_cancel_left]
    rcases Nat.lt_or_ge k 43 with hk3 | hk3
    · skip
      obtain ⟨j, rfl⟩ : ∃ j, k = 22 + j := ⟨k - 22, by omega⟩
      refine ⟨(fun u k => zE (shSc u cI cW 0) k) u6 j, ?_, hg3 j (by omega)⟩
      rw [hu3 j (by omega)]
      refine (gw_init (gw_init (gw_init (gw_init (gw_last 22 (by simp [wl_len]) (by omega) (by omega)))))).trans ?_
      rw [Nat.add_sub_cancel_left]
    rcases Nat.lt_or_ge k 64 with hk4 | hk4
    · skip
      obtain ⟨j, rfl⟩ : ∃ j, k = 43 + j := ⟨k - 43, by omega⟩
      refine ⟨(fun u k => zE (shSc u cI cW 0) k) u8 j, ?_, hg4 j (by omega)⟩
      rw [hu4 j (by omega)]
      refine (gw_init (gw_init (gw_init (gw_last 43 (by simp [wl_len]) (by omega) (by omega))))).trans ?_
      rw [Nat.add_sub_cancel_left]
    rcases Nat.lt_or_ge k 77 with hk5 | hk5
    · skip
      obtain ⟨j, rfl⟩ : ∃ j, k = 64 + j := ⟨k - 64, by omega⟩
      refine ⟨(fun u k => zE (shH u cI cW 0) k) u10 j, ?_, hg5 j (by omega)⟩
      rw [hu5 j (by omega)]
      refine (gw_init (gw_init (gw_last 64 (by simp [wl_len]) (by omega) (by omega)))).trans ?_
      rw [Nat.add_sub_cancel_left]
    rcases Nat.lt_or_ge k 80 with hk6 | hk6
    · skip
      obtain ⟨j, rfl⟩ : ∃ j, k = 77 + j := ⟨k - 77, by omega⟩
      refine ⟨(fun u k => zE (shTm u cI) k) u12 j, ?_, hg6 j (by omega)⟩
      rw [hu6 j (by omega)]
      refine (gw_init (gw_last 77 (by simp [wl_len]) (by omega) (by omega))).trans ?_
      rw [Nat.add_sub_cancel_left]
    obtain ⟨j, rfl⟩ : ∃ j, k = 80 + j := ⟨k - 80, by omega⟩
    refine ⟨(fun u k => zE (shWo u cI) k) u14 j, ?_, hg7 j (by omega)⟩
    rw [hu7 j (by omega)]
    refine (gw_last 80 (by simp [wl_len]) (by omega) (by omega)).trans ?_
    rw [Nat.add_sub_cancel_left]) dX9_init_91

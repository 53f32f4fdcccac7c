def zb (x : Int32) : Int32 := if x = 0 then 0 else 1
theorem zb_0 {x : Int32} (h : x = 0) : zb x = 0 := if_pos h
theorem zb_1 {x : Int32} (h : ¬ x = 0) : zb x = 1 := if_neg h
theorem lg_cmp_self (x : Int64) : lg_cmp x x = 0 := by simp [lg_cmp]
set_option maxHeartbeats 4000000 in
set_option maxRecDepth 100000 in
theorem lw_case0 {p : Program} {l : Launch} {e : Env} {s : State} {m : MethodId} {below : List Frame} {meth : Method} {c : Code} {b L : Nat} {xs : Nat → Int32} (C0 : lw_At p s m meth c b L xs) {D : va_G} {ad1 ad2 : Nat → Nat} {cI cW cB : ClassId} {tK tC : Nat} (G : LG s D ad1 ad2 cI cW cB tK tC) {σ : Nat → Nat → Int32} {τ : SR} {H : Heap} {locs : List Loc} (hP1 : cP D ad1 cI cW σ H) (hP2 : rP D ad2 cI cB τ H) (hS : va_S (AL s) s.heap H locs) {x3 : Int32} (hi1 : vp_in (x3 + 1) L) (hi2 : vp_in (x3 + 2) L) (hi3 : vp_in (x3 + 3) L) (hi4 : vp_in (x3 + 4) L) {ls : Array Slot} (hl : lv_has ls 4 [(0, .ref b), (1, .ref (ad1 0)), (2, .ref (ad2 0)), (3, .int x3)]) {r : Int32} {σ' : Nat → Nat → Int32} {τ' : SR} (h1 : f_X9_letter σ ((xs (x3 + 1).toNatClampNeg)) = some (r, σ')) (h2 : f_X10_letter τ ((xs (x3 + 1).toNatClampNeg)) = some (r, τ')) (kk : ∀ (H : Heap) (locs : List Loc) (ls : Array Slot), cP D ad1 cI cW σ' H → rP D ad2 cI cB τ' H → va_S (AL s) s.heap H locs → lv_has ls 4 [(0, .ref b), (1, .ref (ad1 0)), (2, .ref (ad2 0)), (3, .int x3)] → W p l e room_1 s m #[Value.ref b] below meth c H locs 114 979 (lw_Z below #[Value.ref b] s) (F0 m 830 ls [])) : W p l e room_1 s m #[Value.ref b] below meth c H locs 114 979 (lw_Z below #[Value.ref b] s) (F0 m 148 ls []) := by
  obtain ⟨hx, hb, hr, hml, hown, hts, hX, hbl, hlocks, hgv⟩ := C0
  have hbA : ¬ AL s b := Nat.not_le.mpr hbl
  refine lv_aload_n hx hb dL_law_148 rfl (lv_at hl 1 rfl) ?_
  refine lv_aload_n hx hb dL_law_149 rfl (lv_at hl 0 rfl) ?_
  refine lv_iload_n hx hb dL_law_150 rfl (lv_at hl 3 rfl) ?_
  refine lv_iconst (v := 1) hx hb dL_law_151 (by decide) ?_
  refine lv_iadd hx hb dL_law_152 ?_
  refine va_sld hx hb hX hbl hbA hS hi1 dL_law_153 ?_
  refine lw_c1i G (va_runV (As := [.int (xs (x3 + 1).toNatClampNeg)]) (rest := []) ⟨hx, hb, hml, hown, hts⟩ (k_X9_letter G.1 h1) (cwV 1 hts (lt_V tw_1_237 tw_1_238 tw_1_239 tw_1_1 tw_2_0) rfl rfl rfl hdV_X9_letter ⟨Nat.le_of_ble_eq_true rfl, Nat.le_of_ble_eq_true rfl⟩) (lw_pre1 G hP1 hS) rfl rfl hl.1 rfl (lv_room (Nat.le_of_ble_eq_true rfl)) dL_law_154 ⟨Nat.le_of_ble_eq_true rfl, Nat.le_of_ble_eq_true rfl⟩) hP2 hS (fun H locs hP1 hP2 hS => ?_)
  refine lv_aload_n hx hb dL_law_157 rfl (lv_at hl 2 rfl) ?_
  refine lv_aload_n hx hb dL_law_158 rfl (lv_at hl 0 rfl) ?_
  refine lv_iload_n hx hb dL_law_159 rfl (lv_at hl 3 rfl) ?_
  refine lv_iconst (v := 1) hx hb dL_law_160 (by decide) ?_
  refine lv_iadd hx hb dL_law_161 ?_
  refine va_sld hx hb hX hbl hbA hS hi1 dL_law_162 ?_
  refine lw_c2i G (va_runV (As := [.int (xs (x3 + 1).toNatClampNeg)]) (rest := [.int r]) ⟨hx, hb, hml, hown, hts⟩ (k_X10_letter G.2.1 h2) (cwV 1 hts (lt_V tw_4_62 tw_4_63 tw_4_64 tw_1_11 tw_4_65) rfl rfl rfl hdV_X10_letter ⟨Nat.le_of_ble_eq_true rfl, Nat.le_of_ble_eq_true rfl⟩) (lw_pre2 G hP2 hS) rfl rfl hl.1 rfl (lv_room (Nat.le_of_ble_eq_true rfl)) dL_law_163 ⟨Nat.le_of_ble_eq_true rfl, Nat.le_of_ble_eq_true rfl⟩) hP1 hS (fun H locs hP1 hP2 hS => ?_)
  refine lv_icmp_eq (tgt := 830) hx hb dL_law_166 (by decide) (fun _ => kk _ _ _ hP1 hP2 hS hl) (fun hc => absurd rfl hc)
set_option maxHeartbeats 4000000 in
set_option maxRecDepth 100000 in
theorem lw_case1 {p : Program} {l : Launch} {e : Env} {s : State} {m : MethodId} {below : List Frame} {meth : Method} {c : Code} {b L : Nat} {xs : Nat → Int32} (C0 : lw_At p s m meth c b L xs) {D : va_G} {ad1 ad2 : Nat → Nat} {cI cW cB : ClassId} {tK tC : Nat} (G : LG s D ad1 ad2 cI cW cB tK tC) {σ : Nat → Nat → Int32} {τ : SR} {H : Heap} {locs : List Loc} (hP1 : cP D ad1 cI cW σ H) (hP2 : rP D ad2 cI cB τ H) (hS : va_S (AL s) s.heap H locs) {x3 : Int32} (hi1 : vp_in (x3 + 1) L) (hi2 : vp_in (x3 + 2) L) (hi3 : vp_in (x3 + 3) L) (hi4 : vp_in (x3 + 4) L) {ls : Array Slot} (hl : lv_has ls 4 [(0, .ref b), (1, .ref (ad1 0)), (2, .ref (ad2 0)), (3, .int x3)]) {r : Int32} {σ' : Nat → Nat → Int32} {τ' : SR} (h1 : f_X9_blank σ = some (r, σ')) (h2 : f_X10_blank τ = some (r, τ')) (kk : ∀ (H : Heap) (locs : List Loc) (ls : Array Slot), cP D ad1 cI cW σ' H → rP D ad2 cI cB τ' H → va_S (AL s) s.heap H locs → lv_has ls 4 [(0, .ref b), (1, .ref (ad1 0)), (2, .ref (ad2 0)), (3, .int x3)] → W p l e room_1 s m #[Value.ref b] below meth c H locs 114 979 (lw_Z below #[Value.ref b] s) (F0 m 830 ls [])) : W p l e room_1 s m #[Value.ref b] below meth c H locs 114 979 (lw_Z below #[Value.ref b] s) (F0 m 171 ls []) := by
  obtain ⟨hx, hb, hr, hml, hown, hts, hX, hbl, hlocks, hgv⟩ := C0
  have hbA : ¬ AL s b := Nat.not_le.mpr hbl
  refine lv_aload_n hx hb dL_law_171 rfl (lv_at hl 1 rfl) ?_
  refine lw_c1i G (va_runV (As := []) (rest := []) ⟨hx, hb, hml, hown, hts⟩ (k_X9_blank G.1 h1) (cwV 0 hts (lt_V tw_2_8 tw_2_9 tw_2_10 tw_1_1 tw_2_11) rfl rfl rfl hdV_X9_blank ⟨Nat.le_of_ble_eq_true rfl, Nat.le_of_ble_eq_true rfl⟩) (lw_pre1 G hP1 hS) rfl rfl hl.1 rfl (lv_room (Nat.le_of_ble_eq_true rfl)) dL_law_172 ⟨Nat.le_of_ble_eq_true rfl, Nat.le_of_ble_eq_true rfl⟩) hP2 hS (fun H locs hP1 hP2 hS => ?_)
  refine lv_aload_n hx hb dL_law_175 rfl (lv_at hl 2 rfl) ?_
  refine lw_c2i G (va_runV (As := []) (rest := [.int r]) ⟨hx, hb, hml, hown, hts⟩ (k_X10_blank G.2.1 h2) (cwV 0 hts (lt_V tw_4_69 tw_4_70 tw_4_71 tw_1_11 tw_4_72) rfl rfl rfl hdV_X10_blank ⟨Nat.le_of_ble_eq_true rfl, Nat.le_of_ble_eq_true rfl⟩) (lw_pre2 G hP2 hS) rfl rfl hl.1 rfl (lv_room (Nat.le_of_ble_eq_true rfl)) dL_law_176 ⟨Nat.le_of_ble_eq_true rfl, Nat.le_of_ble_eq_true rfl⟩) hP1 hS (fun H locs hP1 hP2 hS => ?_)
  refine lv_icmp_eq (tgt := 830) hx hb dL_law_179 (by decide) (fun _ => kk _ _ _ hP1 hP2 hS hl) (fun hc => absurd rfl hc)
set_option maxHeartbeats 4000000 in
set_option maxRecDepth 100000 in
theorem lw_case2 {p : Program} {l : Launch} {e : Env} {s : State} {m : MethodId} {below : List Frame} {meth : Method} {c : Code} {b L : Nat} {xs : Nat → Int32} (C0 : lw_At p s m meth c b L xs) {D : va_G} {ad1 ad2 : Nat → Nat} {cI cW cB : ClassId} {tK tC : Nat} (G : LG s D ad1 ad2 cI cW cB tK tC) {σ : Nat → Nat → Int32} {τ : SR} {H : Heap} {locs : List Loc} (hP1 : cP D ad1 cI cW σ H) (hP2 : rP D ad2 cI cB τ H) (hS : va_S (AL s) s.heap H locs) {x3 : Int32} (hi1 : vp_in (x3 + 1) L) (hi2 : vp_in (x3 + 2) L) (hi3 : vp_in (x3 + 3) L) (hi4 : vp_in (x3 + 4) L) {ls : Array Slot} (hl : lv_has ls 4 [(0, .ref b), (1, .ref (ad1 0)), (2, .ref (ad2 0)), (3, .int x3)]) {r : Int32} {σ' : Nat → Nat → Int32} {τ' : SR} (h1 : f_X9_fault σ = some (r, σ')) (h2 : f_X10_fault τ = some (r, τ')) (kk : ∀ (H : Heap) (locs : List Loc) (ls : Array Slot), cP D ad1 cI cW σ' H → rP D ad2 cI cB τ' H → va_S (AL s) s.heap H locs → lv_has ls 4 [(0, .ref b), (1, .ref (ad1 0)), (2, .ref (ad2 0)), (3, .int x3)] → W p l e room_1 s m #[Value.ref b] below meth c H locs 114 979 (lw_Z below #[Value.ref b] s) (F0 m 830 ls [])) : W p l e room_1 s m #[Value.ref b] below meth c H locs 114 979 (lw_Z below #[Value.ref b] s) (F0 m 184 ls []) := by
  obtain ⟨hx, hb, hr, hml, hown, hts, hX, hbl, hlocks, hgv⟩ := C0
  have hbA : ¬ AL s b := Nat.not_le.mpr hbl
  refine lv_aload_n hx hb dL_law_184 rfl (lv_at hl 1 rfl) ?_
  refine lw_c1i G (va_runV (As := []) (rest := []) ⟨hx, hb, hml, hown, hts⟩ (k_X9_fault G.1 h1) (cwV 0 hts (lt_V tw_2_12 tw_2_13 tw_2_14 tw_1_1 tw_2_15) rfl rfl rfl hdV_X9_fault ⟨Nat.le_of_ble_eq_true rfl, Nat.le_of_ble_eq_true rfl⟩) (lw_pre1 G hP1 hS) rfl rfl hl.1 rfl (lv_room (Nat.le_of_ble_eq_true rfl)) dL_law_185 ⟨Nat.le_of_ble_eq_true rfl, Nat.le_of_ble_eq_true rfl⟩) hP2 hS (fun H locs hP1 hP2 hS => ?_)
  refine lv_aload_n hx hb dL_law_188 rfl (lv_at hl 2 rfl) ?_
  refine lw_c2i G (va_runV (As := []) (rest := [.int r]) ⟨hx, hb, hml, hown, hts⟩ (k_X10_fault G.2.1 h2) (cwV 0 hts (lt_V tw_4_73 tw_4_74 tw_4_75 tw_1_11 tw_4_76) rfl rfl rfl hdV_X10_fault ⟨Nat.le_of_ble_eq_true rfl, Nat.le_of_ble_eq_true rfl⟩) (lw_pre2 G hP2 hS) rfl rfl hl.1 rfl (lv_room (Nat.le_of_ble_eq_true rfl)) dL_law_189 ⟨Nat.le_of_ble_eq_true rfl, Nat.le_of_ble_eq_true rfl⟩) hP1 hS (fun H locs hP1 hP2 hS => ?_)
  refine lv_icmp_eq (tgt := 830) hx hb dL_law_192 (by decide) (fun _ => kk _ _ _ hP1 hP2 hS hl) (fun hc => absurd rfl hc)
set_option maxHeartbeats 4000000 in
set_option maxRecDepth 100000 in
theorem lw_case3 {p : Program} {l : Launch} {e : Env} {s : State} {m : MethodId} {below : List Frame} {meth : Method} {c : Code} {b L : Nat} {xs : Nat → Int32} (C0 : lw_At p s m meth c b L xs) {D : va_G} {ad1 ad2 : Nat → Nat} {cI cW cB : ClassId} {tK tC : Nat} (G : LG s D ad1 ad2 cI cW cB tK tC) {σ : Nat → Nat → Int32} {τ : SR} {H : Heap} {locs : List Loc} (hP1 : cP D ad1 cI cW σ H) (hP2 : rP D ad2 cI cB τ H) (hS : va_S (AL s) s.heap H locs) {x3 : Int32} (hi1 : vp_in (x3 + 1) L) (hi2 : vp_in (x3 + 2) L) (hi3 : vp_in (x3 + 3) L) (hi4 : vp_in (x3 + 4) L) {ls : Array Slot} (hl : lv_has ls 4 [(0, .ref b), (1, .ref (ad1 0)), (2, .ref (ad2 0)), (3, .int x3)]) {r : Int32} {σ' : Nat → Nat → Int32} {τ' : SR} (h1 : f_X9_wall σ = some (r, σ')) (h2 : f_X10_wall τ = some (r, τ')) (kk : ∀ (H : Heap) (locs : List Loc) (ls : Array Slot), cP D ad1 cI cW σ' H → rP D ad2 cI cB τ' H → va_S (AL s) s.heap H locs → lv_has ls 4 [(0, .ref b), (1, .ref (ad1 0)), (2, .ref (ad2 0)), (3, .int x3)] → W p l e room_1 s m #[Value.ref b] below meth c H locs 114 979 (lw_Z below #[Value.ref b] s) (F0 m 830 ls [])) : W p l e room_1 s m #[Value.ref b] below meth c H locs 114 979 (lw_Z below #[Value.ref b] s) (F0 m 197 ls []) := by
  obtain ⟨hx, hb, hr, hml, hown, hts, hX, hbl, hlocks, hgv⟩ := C0
  have hbA : ¬ AL s b := Nat.not_le.mpr hbl
  refine lv_aload_n hx hb dL_law_197 rfl (lv_at hl 1 rfl) ?_
  refine lw_c1i G (va_runV (As := []) (rest := []) ⟨hx, hb, hml, hown, hts⟩ (k_X9_wall G.1 h1) (cwV 0 hts (lt_V tw_2_88 tw_2_89 tw_2_90 tw_1_1 tw_2_91) rfl rfl rfl hdV_X9_wall ⟨Nat.le_of_ble_eq_true rfl, Nat.le_of_ble_eq_true rfl⟩) (lw_pre1 G hP1 hS) rfl rfl hl.1 rfl (lv_room (Nat.le_of_ble_eq_true rfl)) dL_law_198 ⟨Nat.le_of_ble_eq_true rfl, Nat.le_of_ble_eq_true rfl⟩) hP2 hS (fun H locs hP1 hP2 hS => ?_)
  refine lv_aload_n hx hb dL_law_201 rfl (lv_at hl 2 rfl) ?_
  refine lw_c2i G (va_runV (As := []) (rest := [.int r]) ⟨hx, hb, hml, hown, hts⟩ (k_X10_wall G.2.1 h2) (cwV 0 hts (lt_V tw_4_116 tw_4_117 tw_4_118 tw_1_11 tw_4_119) rfl rfl rfl hdV_X10_wall ⟨Nat.le_of_ble_eq_true rfl, Nat.le_of_ble_eq_true rfl⟩) (lw_pre2 G hP2 hS) rfl rfl hl.1 rfl (lv_room (Nat.le_of_ble_eq_true rfl)) dL_law_202 ⟨Nat.le_of_ble_eq_true rfl, Nat.le_of_ble_eq_true rfl⟩) hP1 hS (fun H locs hP1 hP2 hS => ?_)
  refine lv_icmp_eq (tgt := 830) hx hb dL_law_205 (by decide) (fun _ => kk _ _ _ hP1 hP2 hS hl) (fun hc => absurd rfl hc)
set_option maxHeartbeats 4000000 in
set_option maxRecDepth 100000 in
theorem lw_case4 {p : Program} {l : Launch} {e : Env} {s : State} {m : MethodId} {below : List Frame} {meth : Method} {c : Code} {b L : Nat} {xs : Nat → Int32} (C0 : lw_At p s m meth c b L xs) {D : va_G} {ad1 ad2 : Nat → Nat} {cI cW cB : ClassId} {tK tC : Nat} (G : LG s D ad1 ad2 cI cW cB tK tC) {σ : Nat → Nat → Int32} {τ : SR} {H : Heap} {locs : List Loc} (hP1 : cP D ad1 cI cW σ H) (hP2 : rP D ad2 cI cB τ H) (hS : va_S (AL s) s.heap H locs) {x3 : Int32} (hi1 : vp_in (x3 + 1) L) (hi2 : vp_in (x3 + 2) L) (hi3 : vp_in (x3 + 3) L) (hi4 : vp_in (x3 + 4) L) {ls : Array Slot} (hl : lv_has ls 4 [(0, .ref b), (1, .ref (ad1 0)), (2, .ref (ad2 0)), (3, .int x3)]) {r : Int32} (h1 : f_X9_witness σ ((xs (x3 + 1).toNatClampNeg)) ((xs (x3 + 2).toNatClampNeg)) = some r) (h2 : f_X10_witness τ ((xs (x3 + 1).toNatClampNeg)) ((xs (x3 + 2).toNatClampNeg)) = some r) (kk : ∀ (H : Heap) (locs : List Loc) (ls : Array Slot), cP D ad1 cI cW σ H → rP D ad2 cI cB τ H → va_S (AL s) s.heap H locs → lv_has ls 4 [(0, .ref b), (1, .ref (ad1 0)), (2, .ref (ad2 0)), (3, .int x3)] → W p l e room_1 s m #[Value.ref b] below meth c H locs 114 979 (lw_Z below #[Value.ref b] s) (F0 m 830 ls [])) : W p l e room_1 s m #[Value.ref b] below meth c H locs 114 979 (lw_Z below #[Value.ref b] s) (F0 m 210 ls []) := by
  obtain ⟨hx, hb, hr, hml, hown, hts, hX, hbl, hlocks, hgv⟩ := C0
  have hbA : ¬ AL s b := Nat.not_le.mpr hbl
  refine lv_aload_n hx hb dL_law_210 rfl (lv_at hl 1 rfl) ?_
  refine lv_aload_n hx hb dL_law_211 rfl (lv_at hl 0 rfl) ?_
  refine lv_iload_n hx hb dL_law_212 rfl (lv_at hl 3 rfl) ?_
  refine lv_iconst (v := 1) hx hb dL_law_213 (by decide) ?_
  refine lv_iadd hx hb dL_law_214 ?_
  refine va_sld hx hb hX hbl hbA hS hi1 dL_law_215 ?_
  refine lv_aload_n hx hb dL_law_216 rfl (lv_at hl 0 rfl) ?_
  refine lv_iload_n hx hb dL_law_217 rfl (lv_at hl 3 rfl) ?_
  refine lv_iconst (v := 2) hx hb dL_law_218 (by decide) ?_
  refine lv_iadd hx hb dL_law_219 ?_
  refine va_sld hx hb hX hbl hbA hS hi2 dL_law_220 ?_
  refine lw_c1i G (va_runV (As := [.int (xs (x3 + 1).toNatClampNeg), .int (xs (x3 + 2).toNatClampNeg)]) (rest := []) ⟨hx, hb, hml, hown, hts⟩ (k_X9_witness G.1 h1) (cwV 2 hts (lt_V tw_2_112 tw_2_113 tw_2_114 tw_1_1 tw_2_115) rfl rfl rfl hdV_X9_witness ⟨Nat.le_of_ble_eq_true rfl, Nat.le_of_ble_eq_true rfl⟩) (lw_pre1 G hP1 hS) rfl rfl hl.1 rfl (lv_room (Nat.le_of_ble_eq_true rfl)) dL_law_221 ⟨Nat.le_of_ble_eq_true rfl, Nat.le_of_ble_eq_true rfl⟩) hP2 hS (fun H locs hP1 hP2 hS => ?_)
  refine lv_aload_n hx hb dL_law_224 rfl (lv_at hl 2 rfl) ?_
  refine lv_aload_n hx hb dL_law_225 rfl (lv_at hl 0 rfl) ?_
  refine lv_iload_n hx hb dL_law_226 rfl (lv_at hl 3 rfl) ?_
  refine lv_iconst (v := 1) hx hb dL_law_227 (by decide) ?_
  refine lv_iadd hx hb dL_law_228 ?_
  refine va_sld hx hb hX hbl hbA hS hi1 dL_law_229 ?_
  refine lv_aload_n hx hb dL_law_230 rfl (lv_at hl 0 rfl) ?_
  refine lv_iload_n hx hb dL_law_231 rfl (lv_at hl 3 rfl) ?_
  refine lv_iconst (v := 2) hx hb dL_law_232 (by decide) ?_
  refine lv_iadd hx hb dL_law_233 ?_
  refine va_sld hx hb hX hbl hbA hS hi2 dL_law_234 ?_
  refine lw_c2i G (va_runV (As := [.int (xs (x3 + 1).toNatClampNeg), .int (xs (x3 + 2).toNatClampNeg)]) (rest := [.int r]) ⟨hx, hb, hml, hown, hts⟩ (k_X10_witness G.2.1 h2) (cwV 2 hts (lt_V tw_4_120 tw_4_121 tw_4_122 tw_1_11 tw_4_123) rfl rfl rfl hdV_X10_witness ⟨Nat.le_of_ble_eq_true rfl, Nat.le_of_ble_eq_true rfl⟩) (lw_pre2 G hP2 hS) rfl rfl hl.1 rfl (lv_room (Nat.le_of_ble_eq_true rfl)) dL_law_235 ⟨Nat.le_of_ble_eq_true rfl, Nat.le_of_ble_eq_true rfl⟩) hP1 hS (fun H locs hP1 hP2 hS => ?_)
  refine lv_icmp_eq (tgt := 830) hx hb dL_law_238 (by decide) (fun _ => kk _ _ _ hP1 hP2 hS hl) (fun hc => absurd rfl hc)
set_option maxHeartbeats 4000000 in
set_option maxRecDepth 100000 in
theorem lw_case5 {p : Program} {l : Launch} {e : Env} {s : State} {m : MethodId} {below : List Frame} {meth : Method} {c : Code} {b L : Nat} {xs : Nat → Int32} (C0 : lw_At p s m meth c b L xs) {D : va_G} {ad1 ad2 : Nat → Nat} {cI cW cB : ClassId} {tK tC : Nat} (G : LG s D ad1 ad2 cI cW cB tK tC) {σ : Nat → Nat → Int32} {τ : SR} {H : Heap} {locs : List Loc} (hP1 : cP D ad1 cI cW σ H) (hP2 : rP D ad2 cI cB τ H) (hS : va_S (AL s) s.heap H locs) {x3 : Int32} (hi1 : vp_in (x3 + 1) L) (hi2 : vp_in (x3 + 2) L) (hi3 : vp_in (x3 + 3) L) (hi4 : vp_in (x3 + 4) L) {ls : Array Slot} (hl : lv_has ls 4 [(0, .ref b), (1, .ref (ad1 0)), (2, .ref (ad2 0)), (3, .int x3)]) {r : Int32} (h1 : f_X9_as σ ((xs (x3 + 1).toNatClampNeg)) ((xs (x3 + 2).toNatClampNeg)) = some r) (h2 : f_X10_as τ ((xs (x3 + 1).toNatClampNeg)) ((xs (x3 + 2).toNatClampNeg)) = some r) (kk : ∀ (H : Heap) (locs : List Loc) (ls : Array Slot), cP D ad1 cI cW σ H → rP D ad2 cI cB τ H → va_S (AL s) s.heap H locs → lv_has ls 4 [(0, .ref b), (1, .ref (ad1 0)), (2, .ref (ad2 0)), (3, .int x3)] → W p l e room_1 s m #[Value.ref b] below meth c H locs 114 979 (lw_Z below #[Value.ref b] s) (F0 m 830 ls [])) : W p l e room_1 s m #[Value.ref b] below meth c H locs 114 979 (lw_Z below #[Value.ref b] s) (F0 m 243 ls []) := by
  obtain ⟨hx, hb, hr, hml, hown, hts, hX, hbl, hlocks, hgv⟩ := C0
  have hbA : ¬ AL s b := Nat.not_le.mpr hbl
  refine lv_aload_n hx hb dL_law_243 rfl (lv_at hl 1 rfl) ?_
  refine lv_aload_n hx hb dL_law_244 rfl (lv_at hl 0 rfl) ?_
  refine lv_iload_n hx hb dL_law_245 rfl (lv_at hl 3 rfl) ?_
  refine lv_iconst (v := 1) hx hb dL_law_246 (by decide) ?_
  refine lv_iadd hx hb dL_law_247 ?_
  refine va_sld hx hb hX hbl hbA hS hi1 dL_law_248 ?_
  refine lv_aload_n hx hb dL_law_249 rfl (lv_at hl 0 rfl) ?_
  refine lv_iload_n hx hb dL_law_250 rfl (lv_at hl 3 rfl) ?_
  refine lv_iconst (v := 2) hx hb dL_law_251 (by decide) ?_
  refine lv_iadd hx hb dL_law_252 ?_
  refine va_sld hx hb hX hbl hbA hS hi2 dL_law_253 ?_
  refine lw_c1i G (va_runV (As := [.int (xs (x3 + 1).toNatClampNeg), .int (xs (x3 + 2).toNatClampNeg)]) (rest := []) ⟨hx, hb, hml, hown, hts⟩ (k_X9_as G.1 h1) (cwV 2 hts (lt_V tw_2_154 tw_2_155 tw_2_156 tw_1_1 tw_2_157) rfl rfl rfl hdV_X9_as ⟨Nat.le_of_ble_eq_true rfl, Nat.le_of_ble_eq_true rfl⟩) (lw_pre1 G hP1 hS) rfl rfl hl.1 rfl (lv_room (Nat.le_of_ble_eq_true rfl)) dL_law_254 ⟨Nat.le_of_ble_eq_true rfl, Nat.le_of_ble_eq_true rfl⟩) hP2 hS (fun H locs hP1 hP2 hS => ?_)
  refine lv_aload_n hx hb dL_law_257 rfl (lv_at hl 2 rfl) ?_
  refine lv_aload_n hx hb dL_law_258 rfl (lv_at hl 0 rfl) ?_
  refine lv_iload_n hx hb dL_law_259 rfl (lv_at hl 3 rfl) ?_
  refine lv_iconst (v := 1) hx hb dL_law_260 (by decide) ?_
  refine lv_iadd hx hb dL_law_261 ?_
  refine va_sld hx hb hX hbl hbA hS hi1 dL_law_262 ?_
  refine lv_aload_n hx hb dL_law_263 rfl (lv_at hl 0 rfl) ?_
  refine lv_iload_n hx hb dL_law_264 rfl (lv_at hl 3 rfl) ?_
  refine lv_iconst (v := 2) hx hb dL_law_265 (by decide) ?_
  refine lv_iadd hx hb dL_law_266 ?_
  refine va_sld hx hb hX hbl hbA hS hi2 dL_law_267 ?_
  refine lw_c2i G (va_runV (As := [.int (xs (x3 + 1).toNatClampNeg), .int (xs (x3 + 2).toNatClampNeg)]) (rest := [.int r]) ⟨hx, hb, hml, hown, hts⟩ (k_X10_as G.2.1 h2) (cwV 2 hts (lt_V tw_4_166 tw_4_167 tw_4_168 tw_1_11 tw_4_169) rfl rfl rfl hdV_X10_as ⟨Nat.le_of_ble_eq_true rfl, Nat.le_of_ble_eq_true rfl⟩) (lw_pre2 G hP2 hS) rfl rfl hl.1 rfl (lv_room (Nat.le_of_ble_eq_true rfl)) dL_law_268 ⟨Nat.le_of_ble_eq_true rfl, Nat.le_of_ble_eq_true rfl⟩) hP1 hS (fun H locs hP1 hP2 hS => ?_)
  refine lv_icmp_eq (tgt := 830) hx hb dL_law_271 (by decide) (fun _ => kk _ _ _ hP1 hP2 hS hl) (fun hc => absurd rfl hc)
set_option maxHeartbeats 4000000 in
set_option maxRecDepth 100000 in
theorem lw_case6 {p : Program} {l : Launch} {e : Env} {s : State} {m : MethodId} {below : List Frame} {meth : Method} {c : Code} {b L : Nat} {xs : Nat → Int32} (C0 : lw_At p s m meth c b L xs) {D : va_G} {ad1 ad2 : Nat → Nat} {cI cW cB : ClassId} {tK tC : Nat} (G : LG s D ad1 ad2 cI cW cB tK tC) {σ : Nat → Nat → Int32} {τ : SR} {H : Heap} {locs : List Loc} (hP1 : cP D ad1 cI cW σ H) (hP2 : rP D ad2 cI cB τ H) (hS : va_S (AL s) s.heap H locs) {x3 : Int32} (hi1 : vp_in (x3 + 1) L) (hi2 : vp_in (x3 + 2) L) (hi3 : vp_in (x3 + 3) L) (hi4 : vp_in (x3 + 4) L) {ls : Array Slot} (hl : lv_has ls 4 [(0, .ref b), (1, .ref (ad1 0)), (2, .ref (ad2 0)), (3, .int x3)]) {r : Int32} (h1 : f_X9_tells σ ((xs (x3 + 1).toNatClampNeg)) ((xs (x3 + 2).toNatClampNeg)) = some r) (h2 : f_X10_tells τ ((xs (x3 + 1).toNatClampNeg)) ((xs (x3 + 2).toNatClampNeg)) = some r) (kk : ∀ (H : Heap) (locs : List Loc) (ls : Array Slot), cP D ad1 cI cW σ H → rP D ad2 cI cB τ H → va_S (AL s) s.heap H locs → lv_has ls 4 [(0, .ref b), (1, .ref (ad1 0)), (2, .ref (ad2 0)), (3, .int x3)] → W p l e room_1 s m #[Value.ref b] below meth c H locs 114 979 (lw_Z below #[Value.ref b] s) (F0 m 830 ls [])) : W p l e room_1 s m #[Value.ref b] below meth c H locs 114 979 (lw_Z below #[Value.ref b] s) (F0 m 276 ls []) := by
  obtain ⟨hx, hb, hr, hml, hown, hts, hX, hbl, hlocks, hgv⟩ := C0
  have hbA : ¬ AL s b := Nat.not_le.mpr hbl
  refine lv_aload_n hx hb dL_law_276 rfl (lv_at hl 1 rfl) ?_
  refine lv_aload_n hx hb dL_law_277 rfl (lv_at hl 0 rfl) ?_
  refine lv_iload_n hx hb dL_law_278 rfl (lv_at hl 3 rfl) ?_
  refine lv_iconst (v := 1) hx hb dL_law_279 (by decide) ?_
  refine lv_iadd hx hb dL_law_280 ?_
  refine va_sld hx hb hX hbl hbA hS hi1 dL_law_281 ?_
  refine lv_aload_n hx hb dL_law_282 rfl (lv_at hl 0 rfl) ?_
  refine lv_iload_n hx hb dL_law_283 rfl (lv_at hl 3 rfl) ?_
  refine lv_iconst (v := 2) hx hb dL_law_284 (by decide) ?_
  refine lv_iadd hx hb dL_law_285 ?_
  refine va_sld hx hb hX hbl hbA hS hi2 dL_law_286 ?_
  refine lw_c1i G (va_runV (As := [.int (xs (x3 + 1).toNatClampNeg), .int (xs (x3 + 2).toNatClampNeg)]) (rest := []) ⟨hx, hb, hml, hown, hts⟩ (k_X9_tells G.1 h1) (cwV 2 hts (lt_V tw_2_162 tw_2_163 tw_2_164 tw_1_1 tw_2_165) rfl rfl rfl hdV_X9_tells ⟨Nat.le_of_ble_eq_true rfl, Nat.le_of_ble_eq_true rfl⟩) (lw_pre1 G hP1 hS) rfl rfl hl.1 rfl (lv_room (Nat.le_of_ble_eq_true rfl)) dL_law_287 ⟨Nat.le_of_ble_eq_true rfl, Nat.le_of_ble_eq_true rfl⟩) hP2 hS (fun H locs hP1 hP2 hS => ?_)
  refine lv_aload_n hx hb dL_law_290 rfl (lv_at hl 2 rfl) ?_
  refine lv_aload_n hx hb dL_law_291 rfl (lv_at hl 0 rfl) ?_
  refine lv_iload_n hx hb dL_law_292 rfl (lv_at hl 3 rfl) ?_
  refine lv_iconst (v := 1) hx hb dL_law_293 (by decide) ?_
  refine lv_iadd hx hb dL_law_294 ?_
  refine va_sld hx hb hX hbl hbA hS hi1 dL_law_295 ?_
  refine lv_aload_n hx hb dL_law_296 rfl (lv_at hl 0 rfl) ?_
  refine lv_iload_n hx hb dL_law_297 rfl (lv_at hl 3 rfl) ?_
  refine lv_iconst (v := 2) hx hb dL_law_298 (by decide) ?_
  refine lv_iadd hx hb dL_law_299 ?_
  refine va_sld hx hb hX hbl hbA hS hi2 dL_law_300 ?_
  refine lw_c2i G (va_runV (As := [.int (xs (x3 + 1).toNatClampNeg), .int (xs (x3 + 2).toNatClampNeg)]) (rest := [.int r]) ⟨hx, hb, hml, hown, hts⟩ (k_X10_tells G.2.1 h2) (cwV 2 hts (lt_V tw_4_170 tw_4_171 tw_4_172 tw_1_11 tw_4_173) rfl rfl rfl hdV_X10_tells ⟨Nat.le_of_ble_eq_true rfl, Nat.le_of_ble_eq_true rfl⟩) (lw_pre2 G hP2 hS) rfl rfl hl.1 rfl (lv_room (Nat.le_of_ble_eq_true rfl)) dL_law_301 ⟨Nat.le_of_ble_eq_true rfl, Nat.le_of_ble_eq_true rfl⟩) hP1 hS (fun H locs hP1 hP2 hS => ?_)
  refine lv_icmp_eq (tgt := 830) hx hb dL_law_304 (by decide) (fun _ => kk _ _ _ hP1 hP2 hS hl) (fun hc => absurd rfl hc)
set_option maxHeartbeats 4000000 in
set_option maxRecDepth 100000 in
theorem lw_case7 {p : Program} {l : Launch} {e : Env} {s : State} {m : MethodId} {below : List Frame} {meth : Method} {c : Code} {b L : Nat} {xs : Nat → Int32} (C0 : lw_At p s m meth c b L xs) {D : va_G} {ad1 ad2 : Nat → Nat} {cI cW cB : ClassId} {tK tC : Nat} (G : LG s D ad1 ad2 cI cW cB tK tC) {σ : Nat → Nat → Int32} {τ : SR} {H : Heap} {locs : List Loc} (hP1 : cP D ad1 cI cW σ H) (hP2 : rP D ad2 cI cB τ H) (hS : va_S (AL s) s.heap H locs) {x3 : Int32} (hi1 : vp_in (x3 + 1) L) (hi2 : vp_in (x3 + 2) L) (hi3 : vp_in (x3 + 3) L) (hi4 : vp_in (x3 + 4) L) {ls : Array Slot} (hl : lv_has ls 4 [(0, .ref b), (1, .ref (ad1 0)), (2, .ref (ad2 0)), (3, .int x3)]) {r : Int32} {σ' : Nat → Nat → Int32} (h1 : f_X9_said σ ((xs (x3 + 1).toNatClampNeg)) = some (r, σ')) (h2 : f_X10_said τ ((xs (x3 + 1).toNatClampNeg)) = some r) (kk : ∀ (H : Heap) (locs : List Loc) (ls : Array Slot), cP D ad1 cI cW σ' H → rP D ad2 cI cB τ H → va_S (AL s) s.heap H locs → lv_has ls 4 [(0, .ref b), (1, .ref (ad1 0)), (2, .ref (ad2 0)), (3, .int x3)] → W p l e room_1 s m #[Value.ref b] below meth c H locs 114 979 (lw_Z below #[Value.ref b] s) (F0 m 830 ls [])) : W p l e room_1 s m #[Value.ref b] below meth c H locs 114 979 (lw_Z below #[Value.ref b] s) (F0 m 309 ls []) := by
  obtain ⟨hx, hb, hr, hml, hown, hts, hX, hbl, hlocks, hgv⟩ := C0
  have hbA : ¬ AL s b := Nat.not_le.mpr hbl
  refine lv_aload_n hx hb dL_law_309 rfl (lv_at hl 1 rfl) ?_
  refine lv_aload_n hx hb dL_law_310 rfl (lv_at hl 0 rfl) ?_
  refine lv_iload_n hx hb dL_law_311 rfl (lv_at hl 3 rfl) ?_
  refine lv_iconst (v := 1) hx hb dL_law_312 (by decide) ?_
  refine lv_iadd hx hb dL_law_313 ?_
  refine va_sld hx hb hX hbl hbA hS hi1 dL_law_314 ?_
  refine lw_c1i G (va_runV (As := [.int (xs (x3 + 1).toNatClampNeg)]) (rest := []) ⟨hx, hb, hml, hown, hts⟩ (k_X9_said G.1 h1) (cwV 1 hts (lt_V tw_2_168 tw_2_169 tw_2_170 tw_1_1 tw_2_171) rfl rfl rfl hdV_X9_said ⟨Nat.le_of_ble_eq_true rfl, Nat.le_of_ble_eq_true rfl⟩) (lw_pre1 G hP1 hS) rfl rfl hl.1 rfl (lv_room (Nat.le_of_ble_eq_true rfl)) dL_law_315 ⟨Nat.le_of_ble_eq_true rfl, Nat.le_of_ble_eq_true rfl⟩) hP2 hS (fun H locs hP1 hP2 hS => ?_)
  refine lv_aload_n hx hb dL_law_318 rfl (lv_at hl 2 rfl) ?_
  refine lv_aload_n hx hb dL_law_319 rfl (lv_at hl 0 rfl) ?_
  refine lv_iload_n hx hb dL_law_320 rfl (lv_at hl 3 rfl) ?_
  refine lv_iconst (v := 1) hx hb dL_law_321 (by decide) ?_
  refine lv_iadd hx hb dL_law_322 ?_
  refine va_sld hx hb hX hbl hbA hS hi1 dL_law_323 ?_
  refine lw_c2i G (va_runV (As := [.int (xs (x3 + 1).toNatClampNeg)]) (rest := [.int r]) ⟨hx, hb, hml, hown, hts⟩ (k_X10_said G.2.1 h2) (cwV 1 hts (lt_V tw_4_174 tw_4_175 tw_4_176 tw_1_11 tw_4_177) rfl rfl rfl hdV_X10_said ⟨Nat.le_of_ble_eq_true rfl, Nat.le_of_ble_eq_true rfl⟩) (lw_pre2 G hP2 hS) rfl rfl hl.1 rfl (lv_room (Nat.le_of_ble_eq_true rfl)) dL_law_324 ⟨Nat.le_of_ble_eq_true rfl, Nat.le_of_ble_eq_true rfl⟩) hP1 hS (fun H locs hP1 hP2 hS => ?_)
  refine lv_icmp_eq (tgt := 830) hx hb dL_law_327 (by decide) (fun _ => kk _ _ _ hP1 hP2 hS hl) (fun hc => absurd rfl hc)
set_option maxHeartbeats 4000000 in
set_option maxRecDepth 100000 in
theorem lw_case8 {p : Program} {l : Launch} {e : Env} {s : State} {m : MethodId} {below : List Frame} {meth : Method} {c : Code} {b L : Nat} {xs : Nat → Int32} (C0 : lw_At p s m meth c b L xs) {D : va_G} {ad1 ad2 : Nat → Nat} {cI cW cB : ClassId} {tK tC : Nat} (G : LG s D ad1 ad2 cI cW cB tK tC) {σ : Nat → Nat → Int32} {τ : SR} {H : Heap} {locs : List Loc} (hP1 : cP D ad1 cI cW σ H) (hP2 : rP D ad2 cI cB τ H) (hS : va_S (AL s) s.heap H locs) {x3 : Int32} (hi1 : vp_in (x3 + 1) L) (hi2 : vp_in (x3 + 2) L) (hi3 : vp_in (x3 + 3) L) (hi4 : vp_in (x3 + 4) L) {ls : Array Slot} (hl : lv_has ls 4 [(0, .ref b), (1, .ref (ad1 0)), (2, .ref (ad2 0)), (3, .int x3)]) {r : Int32} (h1 : f_X9_having σ ((xs (x3 + 1).toNatClampNeg)) ((xs (x3 + 2).toNatClampNeg)) = some r) (h2 : f_X10_having τ ((xs (x3 + 1).toNatClampNeg)) ((xs (x3 + 2).toNatClampNeg)) = some r) (kk : ∀ (H : Heap) (locs : List Loc) (ls : Array Slot), cP D ad1 cI cW σ H → rP D ad2 cI cB τ H → va_S (AL s) s.heap H locs → lv_has ls 4 [(0, .ref b), (1, .ref (ad1 0)), (2, .ref (ad2 0)), (3, .int x3)] → W p l e room_1 s m #[Value.ref b] below meth c H locs 114 979 (lw_Z below #[Value.ref b] s) (F0 m 830 ls [])) : W p l e room_1 s m #[Value.ref b] below meth c H locs 114 979 (lw_Z below #[Value.ref b] s) (F0 m 332 ls []) := by
  obtain ⟨hx, hb, hr, hml, hown, hts, hX, hbl, hlocks, hgv⟩ := C0
  have hbA : ¬ AL s b := Nat.not_le.mpr hbl
  refine lv_aload_n hx hb dL_law_332 rfl (lv_at hl 1 rfl) ?_
  refine lv_aload_n hx hb dL_law_333 rfl (lv_at hl 0 rfl) ?_
  refine lv_iload_n hx hb dL_law_334 rfl (lv_at hl 3 rfl) ?_
  refine lv_iconst (v := 1) hx hb dL_law_335 (by decide) ?_
  refine lv_iadd hx hb dL_law_336 ?_
  refine va_sld hx hb hX hbl hbA hS hi1 dL_law_337 ?_
  refine lv_aload_n hx hb dL_law_338 rfl (lv_at hl 0 rfl) ?_
  refine lv_iload_n hx hb dL_law_339 rfl (lv_at hl 3 rfl) ?_
  refine lv_iconst (v := 2) hx hb dL_law_340 (by decide) ?_
  refine lv_iadd hx hb dL_law_341 ?_
  refine va_sld hx hb hX hbl hbA hS hi2 dL_law_342 ?_
  refine lw_c1i G (va_runV (As := [.int (xs (x3 + 1).toNatClampNeg), .int (xs (x3 + 2).toNatClampNeg)]) (rest := []) ⟨hx, hb, hml, hown, hts⟩ (k_X9_having G.1 h1) (cwV 2 hts (lt_V tw_2_188 tw_2_189 tw_2_190 tw_1_1 tw_2_191) rfl rfl rfl hdV_X9_having ⟨Nat.le_of_ble_eq_true rfl, Nat.le_of_ble_eq_true rfl⟩) (lw_pre1 G hP1 hS) rfl rfl hl.1 rfl (lv_room (Nat.le_of_ble_eq_true rfl)) dL_law_343 ⟨Nat.le_of_ble_eq_true rfl, Nat.le_of_ble_eq_true rfl⟩) hP2 hS (fun H locs hP1 hP2 hS => ?_)
  refine lv_aload_n hx hb dL_law_346 rfl (lv_at hl 2 rfl) ?_
  refine lv_aload_n hx hb dL_law_347 rfl (lv_at hl 0 rfl) ?_
  refine lv_iload_n hx hb dL_law_348 rfl (lv_at hl 3 rfl) ?_
  refine lv_iconst (v := 1) hx hb dL_law_349 (by decide) ?_
  refine lv_iadd hx hb dL_law_350 ?_
  refine va_sld hx hb hX hbl hbA hS hi1 dL_law_351 ?_
  refine lv_aload_n hx hb dL_law_352 rfl (lv_at hl 0 rfl) ?_
  refine lv_iload_n hx hb dL_law_353 rfl (lv_at hl 3 rfl) ?_
  refine lv_iconst (v := 2) hx hb dL_law_354 (by decide) ?_
  refine lv_iadd hx hb dL_law_355 ?_
  refine va_sld hx hb hX hbl hbA hS hi2 dL_law_356 ?_
  refine lw_c2i G (va_runV (As := [.int (xs (x3 + 1).toNatClampNeg), .int (xs (x3 + 2).toNatClampNeg)]) (rest := [.int r]) ⟨hx, hb, hml, hown, hts⟩ (k_X10_having G.2.1 h2) (cwV 2 hts (lt_V tw_4_186 tw_4_187 tw_4_188 tw_1_11 tw_4_189) rfl rfl rfl hdV_X10_having ⟨Nat.le_of_ble_eq_true rfl, Nat.le_of_ble_eq_true rfl⟩) (lw_pre2 G hP2 hS) rfl rfl hl.1 rfl (lv_room (Nat.le_of_ble_eq_true rfl)) dL_law_357 ⟨Nat.le_of_ble_eq_true rfl, Nat.le_of_ble_eq_true rfl⟩) hP1 hS (fun H locs hP1 hP2 hS => ?_)
  refine lv_icmp_eq (tgt := 830) hx hb dL_law_360 (by decide) (fun _ => kk _ _ _ hP1 hP2 hS hl) (fun hc => absurd rfl hc)
set_option maxHeartbeats 4000000 in
set_option maxRecDepth 100000 in
theorem lw_case9 {p : Program} {l : Launch} {e : Env} {s : State} {m : MethodId} {below : List Frame} {meth : Method} {c : Code} {b L : Nat} {xs : Nat → Int32} (C0 : lw_At p s m meth c b L xs) {D : va_G} {ad1 ad2 : Nat → Nat} {cI cW cB : ClassId} {tK tC : Nat} (G : LG s D ad1 ad2 cI cW cB tK tC) {σ : Nat → Nat → Int32} {τ : SR} {H : Heap} {locs : List Loc} (hP1 : cP D ad1 cI cW σ H) (hP2 : rP D ad2 cI cB τ H) (hS : va_S (AL s) s.heap H locs) {x3 : Int32} (hi1 : vp_in (x3 + 1) L) (hi2 : vp_in (x3 + 2) L) (hi3 : vp_in (x3 + 3) L) (hi4 : vp_in (x3 + 4) L) {ls : Array Slot} (hl : lv_has ls 4 [(0, .ref b), (1, .ref (ad1 0)), (2, .ref (ad2 0)), (3, .int x3)]) {r : Int32} {σ' : Nat → Nat → Int32} {τ' : SR} (h1 : f_X9_show σ ((xs (x3 + 1).toNatClampNeg)) ((xs (x3 + 2).toNatClampNeg)) ((xs (x3 + 3).toNatClampNeg)) = some (r, σ')) (h2 : f_X10_show τ ((xs (x3 + 1).toNatClampNeg)) ((xs (x3 + 2).toNatClampNeg)) ((xs (x3 + 3).toNatClampNeg)) = some (r, τ')) (kk : ∀ (H : Heap) (locs : List Loc) (ls : Array Slot), cP D ad1 cI cW σ' H → rP D ad2 cI cB τ' H → va_S (AL s) s.heap H locs → lv_has ls 4 [(0, .ref b), (1, .ref (ad1 0)), (2, .ref (ad2 0)), (3, .int x3)] → W p l e room_1 s m #[Value.ref b] below meth c H locs 114 979 (lw_Z below #[Value.ref b] s) (F0 m 830 ls [])) : W p l e room_1 s m #[Value.ref b] below meth c H locs 114 979 (lw_Z below #[Value.ref b] s) (F0 m 365 ls []) := by
  obtain ⟨hx, hb, hr, hml, hown, hts, hX, hbl, hlocks, hgv⟩ := C0
  have hbA : ¬ AL s b := Nat.not_le.mpr hbl
  refine lv_aload_n hx hb dL_law_365 rfl (lv_at hl 1 rfl) ?_
  refine lv_aload_n hx hb dL_law_366 rfl (lv_at hl 0 rfl) ?_
  refine lv_iload_n hx hb dL_law_367 rfl (lv_at hl 3 rfl) ?_
  refine lv_iconst (v := 1) hx hb dL_law_368 (by decide) ?_
  refine lv_iadd hx hb dL_law_369 ?_
  refine va_sld hx hb hX hbl hbA hS hi1 dL_law_370 ?_
  refine lv_aload_n hx hb dL_law_371 rfl (lv_at hl 0 rfl) ?_
  refine lv_iload_n hx hb dL_law_372 rfl (lv_at hl 3 rfl) ?_
  refine lv_iconst (v := 2) hx hb dL_law_373 (by decide) ?_
  refine lv_iadd hx hb dL_law_374 ?_
  refine va_sld hx hb hX hbl hbA hS hi2 dL_law_375 ?_
  refine lv_aload_n hx hb dL_law_376 rfl (lv_at hl 0 rfl) ?_
  refine lv_iload_n hx hb dL_law_377 rfl (lv_at hl 3 rfl) ?_
  refine lv_iconst (v := 3) hx hb dL_law_378 (by decide) ?_
  refine lv_iadd hx hb dL_law_379 ?_
  refine va_sld hx hb hX hbl hbA hS hi3 dL_law_380 ?_
  refine lw_c1i G (va_runV (As := [.int (xs (x3 + 1).toNatClampNeg), .int (xs (x3 + 2).toNatClampNeg), .int (xs (x3 + 3).toNatClampNeg)]) (rest := []) ⟨hx, hb, hml, hown, hts⟩ (k_X9_show G.1 h1) (cwV 3 hts (lt_V tw_2_198 tw_2_199 tw_2_200 tw_1_1 tw_2_201) rfl rfl rfl hdV_X9_show ⟨Nat.le_of_ble_eq_true rfl, Nat.le_of_ble_eq_true rfl⟩) (lw_pre1 G hP1 hS) rfl rfl hl.1 rfl (lv_room (Nat.le_of_ble_eq_true rfl)) dL_law_381 ⟨Nat.le_of_ble_eq_true rfl, Nat.le_of_ble_eq_true rfl⟩) hP2 hS (fun H locs hP1 hP2 hS => ?_)
  refine lv_aload_n hx hb dL_law_384 rfl (lv_at hl 2 rfl) ?_
  refine lv_aload_n hx hb dL_law_385 rfl (lv_at hl 0 rfl) ?_
  refine lv_iload_n hx hb dL_law_386 rfl (lv_at hl 3 rfl) ?_
  refine lv_iconst (v := 1) hx hb dL_law_387 (by decide) ?_
  refine lv_iadd hx hb dL_law_388 ?_
  refine va_sld hx hb hX hbl hbA hS hi1 dL_law_389 ?_
  refine lv_aload_n hx hb dL_law_390 rfl (lv_at hl 0 rfl) ?_
  refine lv_iload_n hx hb dL_law_391 rfl (lv_at hl 3 rfl) ?_
  refine lv_iconst (v := 2) hx hb dL_law_392 (by decide) ?_
  refine lv_iadd hx hb dL_law_393 ?_
  refine va_sld hx hb hX hbl hbA hS hi2 dL_law_394 ?_
  refine lv_aload_n hx hb dL_law_395 rfl (lv_at hl 0 rfl) ?_
  refine lv_iload_n hx hb dL_law_396 rfl (lv_at hl 3 rfl) ?_
  refine lv_iconst (v := 3) hx hb dL_law_397 (by decide) ?_
  refine lv_iadd hx hb dL_law_398 ?_
  refine va_sld hx hb hX hbl hbA hS hi3 dL_law_399 ?_
  refine lw_c2i G (va_runV (As := [.int (xs (x3 + 1).toNatClampNeg), .int (xs (x3 + 2).toNatClampNeg), .int (xs (x3 + 3).toNatClampNeg)]) (rest := [.int r]) ⟨hx, hb, hml, hown, hts⟩ (k_X10_show G.2.1 h2) (cwV 3 hts (lt_V tw_4_197 tw_4_198 tw_4_199 tw_1_11 tw_4_200) rfl rfl rfl hdV_X10_show ⟨Nat.le_of_ble_eq_true rfl, Nat.le_of_ble_eq_true rfl⟩) (lw_pre2 G hP2 hS) rfl rfl hl.1 rfl (lv_room (Nat.le_of_ble_eq_true rfl)) dL_law_400 ⟨Nat.le_of_ble_eq_true rfl, Nat.le_of_ble_eq_true rfl⟩) hP1 hS (fun H locs hP1 hP2 hS => ?_)
  refine lv_icmp_eq (tgt := 830) hx hb dL_law_403 (by decide) (fun _ => kk _ _ _ hP1 hP2 hS hl) (fun hc => absurd rfl hc)
set_option maxHeartbeats 4000000 in
set_option maxRecDepth 100000 in
theorem lw_case10 {p : Program} {l : Launch} {e : Env} {s : State} {m : MethodId} {below : List Frame} {meth : Method} {c : Code} {b L : Nat} {xs : Nat → Int32} (C0 : lw_At p s m meth c b L xs) {D : va_G} {ad1 ad2 : Nat → Nat} {cI cW cB : ClassId} {tK tC : Nat} (G : LG s D ad1 ad2 cI cW cB tK tC) {σ : Nat → Nat → Int32} {τ : SR} {H : Heap} {locs : List Loc} (hP1 : cP D ad1 cI cW σ H) (hP2 : rP D ad2 cI cB τ H) (hS : va_S (AL s) s.heap H locs) {x3 : Int32} (hi1 : vp_in (x3 + 1) L) (hi2 : vp_in (x3 + 2) L) (hi3 : vp_in (x3 + 3) L) (hi4 : vp_in (x3 + 4) L) {ls : Array Slot} (hl : lv_has ls 4 [(0, .ref b), (1, .ref (ad1 0)), (2, .ref (ad2 0)), (3, .int x3)]) {r : Int32} {σ' : Nat → Nat → Int32} {τ' : SR} (h1 : f_X9_be σ ((xs (x3 + 1).toNatClampNeg)) ((xs (x3 + 2).toNatClampNeg)) = some (r, σ')) (h2 : f_X10_be τ ((xs (x3 + 1).toNatClampNeg)) ((xs (x3 + 2).toNatClampNeg)) = some (r, τ')) (kk : ∀ (H : Heap) (locs : List Loc) (ls : Array Slot), cP D ad1 cI cW σ' H → rP D ad2 cI cB τ' H → va_S (AL s) s.heap H locs → lv_has ls 4 [(0, .ref b), (1, .ref (ad1 0)), (2, .ref (ad2 0)), (3, .int x3)] → W p l e room_1 s m #[Value.ref b] below meth c H locs 114 979 (lw_Z below #[Value.ref b] s) (F0 m 830 ls [])) : W p l e room_1 s m #[Value.ref b] below meth c H locs 114 979 (lw_Z below #[Value.ref b] s) (F0 m 408 ls []) := by
  obtain ⟨hx, hb, hr, hml, hown, hts, hX, hbl, hlocks, hgv⟩ := C0
  have hbA : ¬ AL s b := Nat.not_le.mpr hbl
  refine lv_aload_n hx hb dL_law_408 rfl (lv_at hl 1 rfl) ?_
  refine lv_aload_n hx hb dL_law_409 rfl (lv_at hl 0 rfl) ?_
  refine lv_iload_n hx hb dL_law_410 rfl (lv_at hl 3 rfl) ?_
  refine lv_iconst (v := 1) hx hb dL_law_411 (by decide) ?_
  refine lv_iadd hx hb dL_law_412 ?_
  refine va_sld hx hb hX hbl hbA hS hi1 dL_law_413 ?_
  refine lv_aload_n hx hb dL_law_414 rfl (lv_at hl 0 rfl) ?_
  refine lv_iload_n hx hb dL_law_415 rfl (lv_at hl 3 rfl) ?_
  refine lv_iconst (v := 2) hx hb dL_law_416 (by decide) ?_
  refine lv_iadd hx hb dL_law_417 ?_
  refine va_sld hx hb hX hbl hbA hS hi2 dL_law_418 ?_
  refine lw_c1i G (va_runV (As := [.int (xs (x3 + 1).toNatClampNeg), .int (xs (x3 + 2).toNatClampNeg)]) (rest := []) ⟨hx, hb, hml, hown, hts⟩ (k_X9_be G.1 h1) (cwV 2 hts (lt_V tw_2_208 tw_2_209 tw_2_210 tw_1_1 tw_2_211) rfl rfl rfl hdV_X9_be ⟨Nat.le_of_ble_eq_true rfl, Nat.le_of_ble_eq_true rfl⟩) (lw_pre1 G hP1 hS) rfl rfl hl.1 rfl (lv_room (Nat.le_of_ble_eq_true rfl)) dL_law_419 ⟨Nat.le_of_ble_eq_true rfl, Nat.le_of_ble_eq_true rfl⟩) hP2 hS (fun H locs hP1 hP2 hS => ?_)
  refine lv_aload_n hx hb dL_law_422 rfl (lv_at hl 2 rfl) ?_
  refine lv_aload_n hx hb dL_law_423 rfl (lv_at hl 0 rfl) ?_
  refine lv_iload_n hx hb dL_law_424 rfl (lv_at hl 3 rfl) ?_
  refine lv_iconst (v := 1) hx hb dL_law_425 (by decide) ?_
  refine lv_iadd hx hb dL_law_426 ?_
  refine va_sld hx hb hX hbl hbA hS hi1 dL_law_427 ?_
  refine lv_aload_n hx hb dL_law_428 rfl (lv_at hl 0 rfl) ?_
  refine lv_iload_n hx hb dL_law_429 rfl (lv_at hl 3 rfl) ?_
  refine lv_iconst (v := 2) hx hb dL_law_430 (by decide) ?_
  refine lv_iadd hx hb dL_law_431 ?_
  refine va_sld hx hb hX hbl hbA hS hi2 dL_law_432 ?_
  refine lw_c2i G (va_runV (As := [.int (xs (x3 + 1).toNatClampNeg), .int (xs (x3 + 2).toNatClampNeg)]) (rest := [.int r]) ⟨hx, hb, hml, hown, hts⟩ (k_X10_be G.2.1 h2) (cwV 2 hts (lt_V tw_4_211 tw_4_212 tw_4_213 tw_1_11 tw_4_214) rfl rfl rfl hdV_X10_be ⟨Nat.le_of_ble_eq_true rfl, Nat.le_of_ble_eq_true rfl⟩) (lw_pre2 G hP2 hS) rfl rfl hl.1 rfl (lv_room (Nat.le_of_ble_eq_true rfl)) dL_law_433 ⟨Nat.le_of_ble_eq_true rfl, Nat.le_of_ble_eq_true rfl⟩) hP1 hS (fun H locs hP1 hP2 hS => ?_)
  refine lv_icmp_eq (tgt := 830) hx hb dL_law_436 (by decide) (fun _ => kk _ _ _ hP1 hP2 hS hl) (fun hc => absurd rfl hc)
set_option maxHeartbeats 4000000 in
set_option maxRecDepth 100000 in
theorem lw_case11 {p : Program} {l : Launch} {e : Env} {s : State} {m : MethodId} {below : List Frame} {meth : Method} {c : Code} {b L : Nat} {xs : Nat → Int32} (C0 : lw_At p s m meth c b L xs) {D : va_G} {ad1 ad2 : Nat → Nat} {cI cW cB : ClassId} {tK tC : Nat} (G : LG s D ad1 ad2 cI cW cB tK tC) {σ : Nat → Nat → Int32} {τ : SR} {H : Heap} {locs : List Loc} (hP1 : cP D ad1 cI cW σ H) (hP2 : rP D ad2 cI cB τ H) (hS : va_S (AL s) s.heap H locs) {x3 : Int32} (hi1 : vp_in (x3 + 1) L) (hi2 : vp_in (x3 + 2) L) (hi3 : vp_in (x3 + 3) L) (hi4 : vp_in (x3 + 4) L) {ls : Array Slot} (hl : lv_has ls 4 [(0, .ref b), (1, .ref (ad1 0)), (2, .ref (ad2 0)), (3, .int x3)]) {r : Int32} {σ' : Nat → Nat → Int32} {τ' : SR} (h1 : f_X9_slip σ ((xs (x3 + 1).toNatClampNeg)) ((xs (x3 + 2).toNatClampNeg)) ((xs (x3 + 3).toNatClampNeg)) ((xs (x3 + 4).toNatClampNeg)) = some (r, σ')) (h2 : f_X10_slip τ ((xs (x3 + 1).toNatClampNeg)) ((xs (x3 + 2).toNatClampNeg)) ((xs (x3 + 3).toNatClampNeg)) ((xs (x3 + 4).toNatClampNeg)) = some (r, τ')) (kk : ∀ (H : Heap) (locs : List Loc) (ls : Array Slot), cP D ad1 cI cW σ' H → rP D ad2 cI cB τ' H → va_S (AL s) s.heap H locs → lv_has ls 4 [(0, .ref b), (1, .ref (ad1 0)), (2, .ref (ad2 0)), (3, .int x3)] → W p l e room_1 s m #[Value.ref b] below meth c H locs 114 979 (lw_Z below #[Value.ref b] s) (F0 m 830 ls [])) : W p l e room_1 s m #[Value.ref b] below meth c H locs 114 979 (lw_Z below #[Value.ref b] s) (F0 m 441 ls []) := by
  obtain ⟨hx, hb, hr, hml, hown, hts, hX, hbl, hlocks, hgv⟩ := C0
  have hbA : ¬ AL s b := Nat.not_le.mpr hbl
  refine lv_aload_n hx hb dL_law_441 rfl (lv_at hl 1 rfl) ?_
  refine lv_aload_n hx hb dL_law_442 rfl (lv_at hl 0 rfl) ?_
  refine lv_iload_n hx hb dL_law_443 rfl (lv_at hl 3 rfl) ?_
  refine lv_iconst (v := 1) hx hb dL_law_444 (by decide) ?_
  refine lv_iadd hx hb dL_law_445 ?_
  refine va_sld hx hb hX hbl hbA hS hi1 dL_law_446 ?_
  refine lv_aload_n hx hb dL_law_447 rfl (lv_at hl 0 rfl) ?_
  refine lv_iload_n hx hb dL_law_448 rfl (lv_at hl 3 rfl) ?_
  refine lv_iconst (v := 2) hx hb dL_law_449 (by decide) ?_
  refine lv_iadd hx hb dL_law_450 ?_
  refine va_sld hx hb hX hbl hbA hS hi2 dL_law_451 ?_
  refine lv_aload_n hx hb dL_law_452 rfl (lv_at hl 0 rfl) ?_
  refine lv_iload_n hx hb dL_law_453 rfl (lv_at hl 3 rfl) ?_
  refine lv_iconst (v := 3) hx hb dL_law_454 (by decide) ?_
  refine lv_iadd hx hb dL_law_455 ?_
  refine va_sld hx hb hX hbl hbA hS hi3 dL_law_456 ?_
  refine lv_aload_n hx hb dL_law_457 rfl (lv_at hl 0 rfl) ?_
  refine lv_iload_n hx hb dL_law_458 rfl (lv_at hl 3 rfl) ?_
  refine lv_iconst (v := 4) hx hb dL_law_459 (by decide) ?_
  refine lv_iadd hx hb dL_law_460 ?_
  refine va_sld hx hb hX hbl hbA hS hi4 dL_law_461 ?_
  refine lw_c1i G (va_runV (As := [.int (xs (x3 + 1).toNatClampNeg), .int (xs (x3 + 2).toNatClampNeg), .int (xs (x3 + 3).toNatClampNeg), .int (xs (x3 + 4).toNatClampNeg)]) (rest := []) ⟨hx, hb, hml, hown, hts⟩ (k_X9_slip G.1 h1) (cwV 4 hts (lt_V tw_2_212 tw_2_213 tw_2_214 tw_1_1 tw_2_215) rfl rfl rfl hdV_X9_slip ⟨Nat.le_of_ble_eq_true rfl, Nat.le_of_ble_eq_true rfl⟩) (lw_pre1 G hP1 hS) rfl rfl hl.1 rfl (lv_room (Nat.le_of_ble_eq_true rfl)) dL_law_462 ⟨Nat.le_of_ble_eq_true rfl, Nat.le_of_ble_eq_true rfl⟩) hP2 hS (fun H locs hP1 hP2 hS => ?_)
  refine lv_aload_n hx hb dL_law_465 rfl (lv_at hl 2 rfl) ?_
  refine lv_aload_n hx hb dL_law_466 rfl (lv_at hl 0 rfl) ?_
  refine lv_iload_n hx hb dL_law_467 rfl (lv_at hl 3 rfl) ?_
  refine lv_iconst (v := 1) hx hb dL_law_468 (by decide) ?_
  refine lv_iadd hx hb dL_law_469 ?_
  refine va_sld hx hb hX hbl hbA hS hi1 dL_law_470 ?_
  refine lv_aload_n hx hb dL_law_471 rfl (lv_at hl 0 rfl) ?_
  refine lv_iload_n hx hb dL_law_472 rfl (lv_at hl 3 rfl) ?_
  refine lv_iconst (v := 2) hx hb dL_law_473 (by decide) ?_
  refine lv_iadd hx hb dL_law_474 ?_
  refine va_sld hx hb hX hbl hbA hS hi2 dL_law_475 ?_
  refine lv_aload_n hx hb dL_law_476 rfl (lv_at hl 0 rfl) ?_
  refine lv_iload_n hx hb dL_law_477 rfl (lv_at hl 3 rfl) ?_
  refine lv_iconst (v := 3) hx hb dL_law_478 (by decide) ?_
  refine lv_iadd hx hb dL_law_479 ?_
  refine va_sld hx hb hX hbl hbA hS hi3 dL_law_480 ?_
  refine lv_aload_n hx hb dL_law_481 rfl (lv_at hl 0 rfl) ?_
  refine lv_iload_n hx hb dL_law_482 rfl (lv_at hl 3 rfl) ?_
  refine lv_iconst (v := 4) hx hb dL_law_483 (by decide) ?_
  refine lv_iadd hx hb dL_law_484 ?_
  refine va_sld hx hb hX hbl hbA hS hi4 dL_law_485 ?_
  refine lw_c2i G (va_runV (As := [.int (xs (x3 + 1).toNatClampNeg), .int (xs (x3 + 2).toNatClampNeg), .int (xs (x3 + 3).toNatClampNeg), .int (xs (x3 + 4).toNatClampNeg)]) (rest := [.int r]) ⟨hx, hb, hml, hown, hts⟩ (k_X10_slip G.2.1 h2) (cwV 4 hts (lt_V tw_4_215 tw_4_216 tw_4_217 tw_1_11 tw_4_218) rfl rfl rfl hdV_X10_slip ⟨Nat.le_of_ble_eq_true rfl, Nat.le_of_ble_eq_true rfl⟩) (lw_pre2 G hP2 hS) rfl rfl hl.1 rfl (lv_room (Nat.le_of_ble_eq_true rfl)) dL_law_486 ⟨Nat.le_of_ble_eq_true rfl, Nat.le_of_ble_eq_true rfl⟩) hP1 hS (fun H locs hP1 hP2 hS => ?_)
  refine lv_icmp_eq (tgt := 830) hx hb dL_law_489 (by decide) (fun _ => kk _ _ _ hP1 hP2 hS hl) (fun hc => absurd rfl hc)
set_option maxHeartbeats 4000000 in
set_option maxRecDepth 100000 in
theorem lw_case12 {p : Program} {l : Launch} {e : Env} {s : State} {m : MethodId} {below : List Frame} {meth : Method} {c : Code} {b L : Nat} {xs : Nat → Int32} (C0 : lw_At p s m meth c b L xs) {D : va_G} {ad1 ad2 : Nat → Nat} {cI cW cB : ClassId} {tK tC : Nat} (G : LG s D ad1 ad2 cI cW cB tK tC) {σ : Nat → Nat → Int32} {τ : SR} {H : Heap} {locs : List Loc} (hP1 : cP D ad1 cI cW σ H) (hP2 : rP D ad2 cI cB τ H) (hS : va_S (AL s) s.heap H locs) {x3 : Int32} (hi1 : vp_in (x3 + 1) L) (hi2 : vp_in (x3 + 2) L) (hi3 : vp_in (x3 + 3) L) (hi4 : vp_in (x3 + 4) L) {ls : Array Slot} (hl : lv_has ls 4 [(0, .ref b), (1, .ref (ad1 0)), (2, .ref (ad2 0)), (3, .int x3)]) {r : Int32} {σ' : Nat → Nat → Int32} {τ' : SR} (h1 : f_X9_tear σ = some (r, σ')) (h2 : f_X10_tear τ = some (r, τ')) (kk : ∀ (H : Heap) (locs : List Loc) (ls : Array Slot), cP D ad1 cI cW σ' H → rP D ad2 cI cB τ' H → va_S (AL s) s.heap H locs → lv_has ls 4 [(0, .ref b), (1, .ref (ad1 0)), (2, .ref (ad2 0)), (3, .int x3)] → W p l e room_1 s m #[Value.ref b] below meth c H locs 114 979 (lw_Z below #[Value.ref b] s) (F0 m 830 ls [])) : W p l e room_1 s m #[Value.ref b] below meth c H locs 114 979 (lw_Z below #[Value.ref b] s) (F0 m 494 ls []) := by
  obtain ⟨hx, hb, hr, hml, hown, hts, hX, hbl, hlocks, hgv⟩ := C0
  have hbA : ¬ AL s b := Nat.not_le.mpr hbl
  refine lv_aload_n hx hb dL_law_494 rfl (lv_at hl 1 rfl) ?_
  refine lw_c1i G (va_runV (As := []) (rest := []) ⟨hx, hb, hml, hown, hts⟩ (k_X9_tear G.1 h1) (cwV 0 hts (lt_V tw_2_220 tw_2_221 tw_2_222 tw_1_1 tw_2_223) rfl rfl rfl hdV_X9_tear ⟨Nat.le_of_ble_eq_true rfl, Nat.le_of_ble_eq_true rfl⟩) (lw_pre1 G hP1 hS) rfl rfl hl.1 rfl (lv_room (Nat.le_of_ble_eq_true rfl)) dL_law_495 ⟨Nat.le_of_ble_eq_true rfl, Nat.le_of_ble_eq_true rfl⟩) hP2 hS (fun H locs hP1 hP2 hS => ?_)
  refine lv_aload_n hx hb dL_law_498 rfl (lv_at hl 2 rfl) ?_
  refine lw_c2i G (va_runV (As := []) (rest := [.int r]) ⟨hx, hb, hml, hown, hts⟩ (k_X10_tear G.2.1 h2) (cwV 0 hts (lt_V tw_4_219 tw_4_220 tw_4_221 tw_1_11 tw_4_222) rfl rfl rfl hdV_X10_tear ⟨Nat.le_of_ble_eq_true rfl, Nat.le_of_ble_eq_true rfl⟩) (lw_pre2 G hP2 hS) rfl rfl hl.1 rfl (lv_room (Nat.le_of_ble_eq_true rfl)) dL_law_499 ⟨Nat.le_of_ble_eq_true rfl, Nat.le_of_ble_eq_true rfl⟩) hP1 hS (fun H locs hP1 hP2 hS => ?_)
  refine lv_icmp_eq (tgt := 830) hx hb dL_law_502 (by decide) (fun _ => kk _ _ _ hP1 hP2 hS hl) (fun hc => absurd rfl hc)
set_option maxHeartbeats 4000000 in
set_option maxRecDepth 100000 in
theorem lw_case13 {p : Program} {l : Launch} {e : Env} {s : State} {m : MethodId} {below : List Frame} {meth : Method} {c : Code} {b L : Nat} {xs : Nat → Int32} (C0 : lw_At p s m meth c b L xs) {D : va_G} {ad1 ad2 : Nat → Nat} {cI cW cB : ClassId} {tK tC : Nat} (G : LG s D ad1 ad2 cI cW cB tK tC) {σ : Nat → Nat → Int32} {τ : SR} {H : Heap} {locs : List Loc} (hP1 : cP D ad1 cI cW σ H) (hP2 : rP D ad2 cI cB τ H) (hS : va_S (AL s) s.heap H locs) {x3 : Int32} (hi1 : vp_in (x3 + 1) L) (hi2 : vp_in (x3 + 2) L) (hi3 : vp_in (x3 + 3) L) (hi4 : vp_in (x3 + 4) L) {ls : Array Slot} (hl : lv_has ls 4 [(0, .ref b), (1, .ref (ad1 0)), (2, .ref (ad2 0)), (3, .int x3)]) {r : Int32} {σ' : Nat → Nat → Int32} {τ' : SR} (h1 : f_X9_term σ ((xs (x3 + 1).toNatClampNeg)) = some (r, σ')) (h2 : f_X10_term τ ((xs (x3 + 1).toNatClampNeg)) = some (r, τ')) (kk : ∀ (H : Heap) (locs : List Loc) (ls : Array Slot), cP D ad1 cI cW σ' H → rP D ad2 cI cB τ' H → va_S (AL s) s.heap H locs → lv_has ls 4 [(0, .ref b), (1, .ref (ad1 0)), (2, .ref (ad2 0)), (3, .int x3)] → W p l e room_1 s m #[Value.ref b] below meth c H locs 114 979 (lw_Z below #[Value.ref b] s) (F0 m 830 ls [])) : W p l e room_1 s m #[Value.ref b] below meth c H locs 114 979 (lw_Z below #[Value.ref b] s) (F0 m 507 ls []) := by
  obtain ⟨hx, hb, hr, hml, hown, hts, hX, hbl, hlocks, hgv⟩ := C0
  have hbA : ¬ AL s b := Nat.not_le.mpr hbl
  refine lv_aload_n hx hb dL_law_507 rfl (lv_at hl 1 rfl) ?_
  refine lv_aload_n hx hb dL_law_508 rfl (lv_at hl 0 rfl) ?_
  refine lv_iload_n hx hb dL_law_509 rfl (lv_at hl 3 rfl) ?_
  refine lv_iconst (v := 1) hx hb dL_law_510 (by decide) ?_
  refine lv_iadd hx hb dL_law_511 ?_
  refine va_sld hx hb hX hbl hbA hS hi1 dL_law_512 ?_
  refine lw_c1i G (va_runV (As := [.int (xs (x3 + 1).toNatClampNeg)]) (rest := []) ⟨hx, hb, hml, hown, hts⟩ (k_X9_term G.1 h1) (cwV 1 hts (lt_V tw_2_224 tw_2_225 tw_2_226 tw_1_1 tw_2_227) rfl rfl rfl hdV_X9_term ⟨Nat.le_of_ble_eq_true rfl, Nat.le_of_ble_eq_true rfl⟩) (lw_pre1 G hP1 hS) rfl rfl hl.1 rfl (lv_room (Nat.le_of_ble_eq_true rfl)) dL_law_513 ⟨Nat.le_of_ble_eq_true rfl, Nat.le_of_ble_eq_true rfl⟩) hP2 hS (fun H locs hP1 hP2 hS => ?_)
  refine lv_aload_n hx hb dL_law_516 rfl (lv_at hl 2 rfl) ?_
  refine lv_aload_n hx hb dL_law_517 rfl (lv_at hl 0 rfl) ?_
  refine lv_iload_n hx hb dL_law_518 rfl (lv_at hl 3 rfl) ?_
  refine lv_iconst (v := 1) hx hb dL_law_519 (by decide) ?_
  refine lv_iadd hx hb dL_law_520 ?_
  refine va_sld hx hb hX hbl hbA hS hi1 dL_law_521 ?_
  refine lw_c2i G (va_runV (As := [.int (xs (x3 + 1).toNatClampNeg)]) (rest := [.int r]) ⟨hx, hb, hml, hown, hts⟩ (k_X10_term G.2.1 h2) (cwV 1 hts (lt_V tw_4_223 tw_4_224 tw_4_225 tw_1_11 tw_4_226) rfl rfl rfl hdV_X10_term ⟨Nat.le_of_ble_eq_true rfl, Nat.le_of_ble_eq_true rfl⟩) (lw_pre2 G hP2 hS) rfl rfl hl.1 rfl (lv_room (Nat.le_of_ble_eq_true rfl)) dL_law_522 ⟨Nat.le_of_ble_eq_true rfl, Nat.le_of_ble_eq_true rfl⟩) hP1 hS (fun H locs hP1 hP2 hS => ?_)
  refine lv_icmp_eq (tgt := 830) hx hb dL_law_525 (by decide) (fun _ => kk _ _ _ hP1 hP2 hS hl) (fun hc => absurd rfl hc)
set_option maxHeartbeats 4000000 in
set_option maxRecDepth 100000 in
theorem lw_case14 {p : Program} {l : Launch} {e : Env} {s : State} {m : MethodId} {below : List Frame} {meth : Method} {c : Code} {b L : Nat} {xs : Nat → Int32} (C0 : lw_At p s m meth c b L xs) {D : va_G} {ad1 ad2 : Nat → Nat} {cI cW cB : ClassId} {tK tC : Nat} (G : LG s D ad1 ad2 cI cW cB tK tC) {σ : Nat → Nat → Int32} {τ : SR} {H : Heap} {locs : List Loc} (hP1 : cP D ad1 cI cW σ H) (hP2 : rP D ad2 cI cB τ H) (hS : va_S (AL s) s.heap H locs) {x3 : Int32} (hi1 : vp_in (x3 + 1) L) (hi2 : vp_in (x3 + 2) L) (hi3 : vp_in (x3 + 3) L) (hi4 : vp_in (x3 + 4) L) {ls : Array Slot} (hl : lv_has ls 4 [(0, .ref b), (1, .ref (ad1 0)), (2, .ref (ad2 0)), (3, .int x3)]) {r : Int32} {σ' : Nat → Nat → Int32} (h1 : f_X9_keep σ ((xs (x3 + 1).toNatClampNeg)) = some (r, σ')) (h2 : f_X10_keep τ ((xs (x3 + 1).toNatClampNeg)) = some r) (kk : ∀ (H : Heap) (locs : List Loc) (ls : Array Slot), cP D ad1 cI cW σ' H → rP D ad2 cI cB τ H → va_S (AL s) s.heap H locs → lv_has ls 4 [(0, .ref b), (1, .ref (ad1 0)), (2, .ref (ad2 0)), (3, .int x3)] → W p l e room_1 s m #[Value.ref b] below meth c H locs 114 979 (lw_Z below #[Value.ref b] s) (F0 m 830 ls [])) : W p l e room_1 s m #[Value.ref b] below meth c H locs 114 979 (lw_Z below #[Value.ref b] s) (F0 m 530 ls []) := by
  obtain ⟨hx, hb, hr, hml, hown, hts, hX, hbl, hlocks, hgv⟩ := C0
  have hbA : ¬ AL s b := Nat.not_le.mpr hbl
  refine lv_aload_n hx hb dL_law_530 rfl (lv_at hl 1 rfl) ?_
  refine lv_aload_n hx hb dL_law_531 rfl (lv_at hl 0 rfl) ?_
  refine lv_iload_n hx hb dL_law_532 rfl (lv_at hl 3 rfl) ?_
  refine lv_iconst (v := 1) hx hb dL_law_533 (by decide) ?_
  refine lv_iadd hx hb dL_law_534 ?_
  refine va_sld hx hb hX hbl hbA hS hi1 dL_law_535 ?_
  refine lw_c1i G (va_runV (As := [.int (xs (x3 + 1).toNatClampNeg)]) (rest := []) ⟨hx, hb, hml, hown, hts⟩ (k_X9_keep G.1 h1) (cwV 1 hts (lt_V tw_3_26 tw_3_27 tw_3_28 tw_1_1 tw_3_29) rfl rfl rfl hdV_X9_keep ⟨Nat.le_of_ble_eq_true rfl, Nat.le_of_ble_eq_true rfl⟩) (lw_pre1 G hP1 hS) rfl rfl hl.1 rfl (lv_room (Nat.le_of_ble_eq_true rfl)) dL_law_536 ⟨Nat.le_of_ble_eq_true rfl, Nat.le_of_ble_eq_true rfl⟩) hP2 hS (fun H locs hP1 hP2 hS => ?_)
  refine lv_aload_n hx hb dL_law_539 rfl (lv_at hl 2 rfl) ?_
  refine lv_aload_n hx hb dL_law_540 rfl (lv_at hl 0 rfl) ?_
  refine lv_iload_n hx hb dL_law_541 rfl (lv_at hl 3 rfl) ?_
  refine lv_iconst (v := 1) hx hb dL_law_542 (by decide) ?_
  refine lv_iadd hx hb dL_law_543 ?_
  refine va_sld hx hb hX hbl hbA hS hi1 dL_law_544 ?_
  refine lw_c2i G (va_runV (As := [.int (xs (x3 + 1).toNatClampNeg)]) (rest := [.int r]) ⟨hx, hb, hml, hown, hts⟩ (k_X10_keep G.2.1 h2) (cwV 1 hts (lt_V tw_5_11 tw_5_12 tw_5_13 tw_1_11 tw_5_14) rfl rfl rfl hdV_X10_keep ⟨Nat.le_of_ble_eq_true rfl, Nat.le_of_ble_eq_true rfl⟩) (lw_pre2 G hP2 hS) rfl rfl hl.1 rfl (lv_room (Nat.le_of_ble_eq_true rfl)) dL_law_545 ⟨Nat.le_of_ble_eq_true rfl, Nat.le_of_ble_eq_true rfl⟩) hP1 hS (fun H locs hP1 hP2 hS => ?_)
  refine lv_icmp_eq (tgt := 830) hx hb dL_law_548 (by decide) (fun _ => kk _ _ _ hP1 hP2 hS hl) (fun hc => absurd rfl hc)
set_option maxHeartbeats 4000000 in
set_option maxRecDepth 100000 in
theorem lw_case15 {p : Program} {l : Launch} {e : Env} {s : State} {m : MethodId} {below : List Frame} {meth : Method} {c : Code} {b L : Nat} {xs : Nat → Int32} (C0 : lw_At p s m meth c b L xs) {D : va_G} {ad1 ad2 : Nat → Nat} {cI cW cB : ClassId} {tK tC : Nat} (G : LG s D ad1 ad2 cI cW cB tK tC) {σ : Nat → Nat → Int32} {τ : SR} {H : Heap} {locs : List Loc} (hP1 : cP D ad1 cI cW σ H) (hP2 : rP D ad2 cI cB τ H) (hS : va_S (AL s) s.heap H locs) {x3 : Int32} (hi1 : vp_in (x3 + 1) L) (hi2 : vp_in (x3 + 2) L) (hi3 : vp_in (x3 + 3) L) (hi4 : vp_in (x3 + 4) L) {ls : Array Slot} (hl : lv_has ls 4 [(0, .ref b), (1, .ref (ad1 0)), (2, .ref (ad2 0)), (3, .int x3)]) {r : Int32} (h1 : f_X9_peace σ ((xs (x3 + 1).toNatClampNeg)) = some r) (h2 : f_X10_peace τ ((xs (x3 + 1).toNatClampNeg)) = some r) (kk : ∀ (H : Heap) (locs : List Loc) (ls : Array Slot), cP D ad1 cI cW σ H → rP D ad2 cI cB τ H → va_S (AL s) s.heap H locs → lv_has ls 4 [(0, .ref b), (1, .ref (ad1 0)), (2, .ref (ad2 0)), (3, .int x3)] → W p l e room_1 s m #[Value.ref b] below meth c H locs 114 979 (lw_Z below #[Value.ref b] s) (F0 m 830 ls [])) : W p l e room_1 s m #[Value.ref b] below meth c H locs 114 979 (lw_Z below #[Value.ref b] s) (F0 m 553 ls []) := by
  obtain ⟨hx, hb, hr, hml, hown, hts, hX, hbl, hlocks, hgv⟩ := C0
  have hbA : ¬ AL s b := Nat.not_le.mpr hbl
  refine lv_aload_n hx hb dL_law_553 rfl (lv_at hl 1 rfl) ?_
  refine lv_aload_n hx hb dL_law_554 rfl (lv_at hl 0 rfl) ?_
  refine lv_iload_n hx hb dL_law_555 rfl (lv_at hl 3 rfl) ?_
  refine lv_iconst (v := 1) hx hb dL_law_556 (by decide) ?_
  refine lv_iadd hx hb dL_law_557 ?_
  refine va_sld hx hb hX hbl hbA hS hi1 dL_law_558 ?_
  refine lw_c1i G (va_runV (As := [.int (xs (x3 + 1).toNatClampNeg)]) (rest := []) ⟨hx, hb, hml, hown, hts⟩ (k_X9_peace G.1 h1) (cwV 1 hts (lt_V tw_3_42 tw_3_43 tw_3_44 tw_1_1 tw_3_45) rfl rfl rfl hdV_X9_peace ⟨Nat.le_of_ble_eq_true rfl, Nat.le_of_ble_eq_true rfl⟩) (lw_pre1 G hP1 hS) rfl rfl hl.1 rfl (lv_room (Nat.le_of_ble_eq_true rfl)) dL_law_559 ⟨Nat.le_of_ble_eq_true rfl, Nat.le_of_ble_eq_true rfl⟩) hP2 hS (fun H locs hP1 hP2 hS => ?_)
  refine lv_aload_n hx hb dL_law_562 rfl (lv_at hl 2 rfl) ?_
  refine lv_aload_n hx hb dL_law_563 rfl (lv_at hl 0 rfl) ?_
  refine lv_iload_n hx hb dL_law_564 rfl (lv_at hl 3 rfl) ?_
  refine lv_iconst (v := 1) hx hb dL_law_565 (by decide) ?_
  refine lv_iadd hx hb dL_law_566 ?_
  refine va_sld hx hb hX hbl hbA hS hi1 dL_law_567 ?_
  refine lw_c2i G (va_runV (As := [.int (xs (x3 + 1).toNatClampNeg)]) (rest := [.int r]) ⟨hx, hb, hml, hown, hts⟩ (k_X10_peace G.2.1 h2) (cwV 1 hts (lt_V tw_5_23 tw_5_24 tw_5_25 tw_1_11 tw_5_26) rfl rfl rfl hdV_X10_peace ⟨Nat.le_of_ble_eq_true rfl, Nat.le_of_ble_eq_true rfl⟩) (lw_pre2 G hP2 hS) rfl rfl hl.1 rfl (lv_room (Nat.le_of_ble_eq_true rfl)) dL_law_568 ⟨Nat.le_of_ble_eq_true rfl, Nat.le_of_ble_eq_true rfl⟩) hP1 hS (fun H locs hP1 hP2 hS => ?_)
  refine lv_icmp_eq (tgt := 830) hx hb dL_law_571 (by decide) (fun _ => kk _ _ _ hP1 hP2 hS hl) (fun hc => absurd rfl hc)
set_option maxHeartbeats 4000000 in
set_option maxRecDepth 100000 in
theorem lw_case16 {p : Program} {l : Launch} {e : Env} {s : State} {m : MethodId} {below : List Frame} {meth : Method} {c : Code} {b L : Nat} {xs : Nat → Int32} (C0 : lw_At p s m meth c b L xs) {D : va_G} {ad1 ad2 : Nat → Nat} {cI cW cB : ClassId} {tK tC : Nat} (G : LG s D ad1 ad2 cI cW cB tK tC) {σ : Nat → Nat → Int32} {τ : SR} {H : Heap} {locs : List Loc} (hP1 : cP D ad1 cI cW σ H) (hP2 : rP D ad2 cI cB τ H) (hS : va_S (AL s) s.heap H locs) {x3 : Int32} (hi1 : vp_in (x3 + 1) L) (hi2 : vp_in (x3 + 2) L) (hi3 : vp_in (x3 + 3) L) (hi4 : vp_in (x3 + 4) L) {ls : Array Slot} (hl : lv_has ls 4 [(0, .ref b), (1, .ref (ad1 0)), (2, .ref (ad2 0)), (3, .int x3)]) {r : Int32} {σ' : Nat → Nat → Int32} (h1 : f_X9_worlds σ ((xs (x3 + 1).toNatClampNeg)) = some (r, σ')) (h2 : f_X10_worlds τ ((xs (x3 + 1).toNatClampNeg)) = some r) (kk : ∀ (H : Heap) (locs : List Loc) (ls : Array Slot), cP D ad1 cI cW σ' H → rP D ad2 cI cB τ H → va_S (AL s) s.heap H locs → lv_has ls 4 [(0, .ref b), (1, .ref (ad1 0)), (2, .ref (ad2 0)), (3, .int x3)] → W p l e room_1 s m #[Value.ref b] below meth c H locs 114 979 (lw_Z below #[Value.ref b] s) (F0 m 830 ls [])) : W p l e room_1 s m #[Value.ref b] below meth c H locs 114 979 (lw_Z below #[Value.ref b] s) (F0 m 576 ls []) := by
  obtain ⟨hx, hb, hr, hml, hown, hts, hX, hbl, hlocks, hgv⟩ := C0
  have hbA : ¬ AL s b := Nat.not_le.mpr hbl
  refine lv_aload_n hx hb dL_law_576 rfl (lv_at hl 1 rfl) ?_
  refine lv_aload_n hx hb dL_law_577 rfl (lv_at hl 0 rfl) ?_
  refine lv_iload_n hx hb dL_law_578 rfl (lv_at hl 3 rfl) ?_
  refine lv_iconst (v := 1) hx hb dL_law_579 (by decide) ?_
  refine lv_iadd hx hb dL_law_580 ?_
  refine va_sld hx hb hX hbl hbA hS hi1 dL_law_581 ?_
  refine lw_c1i G (va_runV (As := [.int (xs (x3 + 1).toNatClampNeg)]) (rest := []) ⟨hx, hb, hml, hown, hts⟩ (k_X9_worlds G.1 h1) (cwV 1 hts (lt_V tw_3_54 tw_3_55 tw_3_56 tw_1_1 tw_3_57) rfl rfl rfl hdV_X9_worlds ⟨Nat.le_of_ble_eq_true rfl, Nat.le_of_ble_eq_true rfl⟩) (lw_pre1 G hP1 hS) rfl rfl hl.1 rfl (lv_room (Nat.le_of_ble_eq_true rfl)) dL_law_582 ⟨Nat.le_of_ble_eq_true rfl, Nat.le_of_ble_eq_true rfl⟩) hP2 hS (fun H locs hP1 hP2 hS => ?_)
  refine lv_aload_n hx hb dL_law_585 rfl (lv_at hl 2 rfl) ?_
  refine lv_aload_n hx hb dL_law_586 rfl (lv_at hl 0 rfl) ?_
  refine lv_iload_n hx hb dL_law_587 rfl (lv_at hl 3 rfl) ?_
  refine lv_iconst (v := 1) hx hb dL_law_588 (by decide) ?_
  refine lv_iadd hx hb dL_law_589 ?_
  refine va_sld hx hb hX hbl hbA hS hi1 dL_law_590 ?_
  refine lw_c2i G (va_runV (As := [.int (xs (x3 + 1).toNatClampNeg)]) (rest := [.int r]) ⟨hx, hb, hml, hown, hts⟩ (k_X10_worlds G.2.1 h2) (cwV 1 hts (lt_V tw_5_35 tw_5_36 tw_5_37 tw_1_11 tw_5_38) rfl rfl rfl hdV_X10_worlds ⟨Nat.le_of_ble_eq_true rfl, Nat.le_of_ble_eq_true rfl⟩) (lw_pre2 G hP2 hS) rfl rfl hl.1 rfl (lv_room (Nat.le_of_ble_eq_true rfl)) dL_law_591 ⟨Nat.le_of_ble_eq_true rfl, Nat.le_of_ble_eq_true rfl⟩) hP1 hS (fun H locs hP1 hP2 hS => ?_)
  refine lv_icmp_eq (tgt := 830) hx hb dL_law_594 (by decide) (fun _ => kk _ _ _ hP1 hP2 hS hl) (fun hc => absurd rfl hc)
set_option maxHeartbeats 4000000 in
set_option maxRecDepth 100000 in
theorem lw_case17 {p : Program} {l : Launch} {e : Env} {s : State} {m : MethodId} {below : List Frame} {meth : Method} {c : Code} {b L : Nat} {xs : Nat → Int32} (C0 : lw_At p s m meth c b L xs) {D : va_G} {ad1 ad2 : Nat → Nat} {cI cW cB : ClassId} {tK tC : Nat} (G : LG s D ad1 ad2 cI cW cB tK tC) {σ : Nat → Nat → Int32} {τ : SR} {H : Heap} {locs : List Loc} (hP1 : cP D ad1 cI cW σ H) (hP2 : rP D ad2 cI cB τ H) (hS : va_S (AL s) s.heap H locs) {x3 : Int32} (hi1 : vp_in (x3 + 1) L) (hi2 : vp_in (x3 + 2) L) (hi3 : vp_in (x3 + 3) L) (hi4 : vp_in (x3 + 4) L) {ls : Array Slot} (hl : lv_has ls 4 [(0, .ref b), (1, .ref (ad1 0)), (2, .ref (ad2 0)), (3, .int x3)]) {r : Int32} {σ' : Nat → Nat → Int32} (h1 : f_X9_odds σ ((xs (x3 + 1).toNatClampNeg)) ((xs (x3 + 2).toNatClampNeg)) ((xs (x3 + 3).toNatClampNeg)) ((xs (x3 + 4).toNatClampNeg)) = some (r, σ')) (h2 : f_X10_odds τ ((xs (x3 + 1).toNatClampNeg)) ((xs (x3 + 2).toNatClampNeg)) ((xs (x3 + 3).toNatClampNeg)) ((xs (x3 + 4).toNatClampNeg)) = some r) (kk : ∀ (H : Heap) (locs : List Loc) (ls : Array Slot), cP D ad1 cI cW σ' H → rP D ad2 cI cB τ H → va_S (AL s) s.heap H locs → lv_has ls 4 [(0, .ref b), (1, .ref (ad1 0)), (2, .ref (ad2 0)), (3, .int x3)] → W p l e room_1 s m #[Value.ref b] below meth c H locs 114 979 (lw_Z below #[Value.ref b] s) (F0 m 830 ls [])) : W p l e room_1 s m #[Value.ref b] below meth c H locs 114 979 (lw_Z below #[Value.ref b] s) (F0 m 599 ls []) := by
  obtain ⟨hx, hb, hr, hml, hown, hts, hX, hbl, hlocks, hgv⟩ := C0
  have hbA : ¬ AL s b := Nat.not_le.mpr hbl
  refine lv_aload_n hx hb dL_law_599 rfl (lv_at hl 1 rfl) ?_
  refine lv_aload_n hx hb dL_law_600 rfl (lv_at hl 0 rfl) ?_
  refine lv_iload_n hx hb dL_law_601 rfl (lv_at hl 3 rfl) ?_
  refine lv_iconst (v := 1) hx hb dL_law_602 (by decide) ?_
  refine lv_iadd hx hb dL_law_603 ?_
  refine va_sld hx hb hX hbl hbA hS hi1 dL_law_604 ?_
  refine lv_aload_n hx hb dL_law_605 rfl (lv_at hl 0 rfl) ?_
  refine lv_iload_n hx hb dL_law_606 rfl (lv_at hl 3 rfl) ?_
  refine lv_iconst (v := 2) hx hb dL_law_607 (by decide) ?_
  refine lv_iadd hx hb dL_law_608 ?_
  refine va_sld hx hb hX hbl hbA hS hi2 dL_law_609 ?_
  refine lv_aload_n hx hb dL_law_610 rfl (lv_at hl 0 rfl) ?_
  refine lv_iload_n hx hb dL_law_611 rfl (lv_at hl 3 rfl) ?_
  refine lv_iconst (v := 3) hx hb dL_law_612 (by decide) ?_
  refine lv_iadd hx hb dL_law_613 ?_
  refine va_sld hx hb hX hbl hbA hS hi3 dL_law_614 ?_
  refine lv_aload_n hx hb dL_law_615 rfl (lv_at hl 0 rfl) ?_
  refine lv_iload_n hx hb dL_law_616 rfl (lv_at hl 3 rfl) ?_
  refine lv_iconst (v := 4) hx hb dL_law_617 (by decide) ?_
  refine lv_iadd hx hb dL_law_618 ?_
  refine va_sld hx hb hX hbl hbA hS hi4 dL_law_619 ?_
  refine lw_c1i G (va_runV (As := [.int (xs (x3 + 1).toNatClampNeg), .int (xs (x3 + 2).toNatClampNeg), .int (xs (x3 + 3).toNatClampNeg), .int (xs (x3 + 4).toNatClampNeg)]) (rest := []) ⟨hx, hb, hml, hown, hts⟩ (k_X9_odds G.1 h1) (cwV 4 hts (lt_V tw_3_75 tw_3_76 tw_3_77 tw_1_1 tw_3_78) rfl rfl rfl hdV_X9_odds ⟨Nat.le_of_ble_eq_true rfl, Nat.le_of_ble_eq_true rfl⟩) (lw_pre1 G hP1 hS) rfl rfl hl.1 rfl (lv_room (Nat.le_of_ble_eq_true rfl)) dL_law_620 ⟨Nat.le_of_ble_eq_true rfl, Nat.le_of_ble_eq_true rfl⟩) hP2 hS (fun H locs hP1 hP2 hS => ?_)
  refine lv_aload_n hx hb dL_law_623 rfl (lv_at hl 2 rfl) ?_
  refine lv_aload_n hx hb dL_law_624 rfl (lv_at hl 0 rfl) ?_
  refine lv_iload_n hx hb dL_law_625 rfl (lv_at hl 3 rfl) ?_
  refine lv_iconst (v := 1) hx hb dL_law_626 (by decide) ?_
  refine lv_iadd hx hb dL_law_627 ?_
  refine va_sld hx hb hX hbl hbA hS hi1 dL_law_628 ?_
  refine lv_aload_n hx hb dL_law_629 rfl (lv_at hl 0 rfl) ?_
  refine lv_iload_n hx hb dL_law_630 rfl (lv_at hl 3 rfl) ?_
  refine lv_iconst (v := 2) hx hb dL_law_631 (by decide) ?_
  refine lv_iadd hx hb dL_law_632 ?_
  refine va_sld hx hb hX hbl hbA hS hi2 dL_law_633 ?_
  refine lv_aload_n hx hb dL_law_634 rfl (lv_at hl 0 rfl) ?_
  refine lv_iload_n hx hb dL_law_635 rfl (lv_at hl 3 rfl) ?_
  refine lv_iconst (v := 3) hx hb dL_law_636 (by decide) ?_
  refine lv_iadd hx hb dL_law_637 ?_
  refine va_sld hx hb hX hbl hbA hS hi3 dL_law_638 ?_
  refine lv_aload_n hx hb dL_law_639 rfl (lv_at hl 0 rfl) ?_
  refine lv_iload_n hx hb dL_law_640 rfl (lv_at hl 3 rfl) ?_
  refine lv_iconst (v := 4) hx hb dL_law_641 (by decide) ?_
  refine lv_iadd hx hb dL_law_642 ?_
  refine va_sld hx hb hX hbl hbA hS hi4 dL_law_643 ?_
  refine lw_c2i G (va_runV (As := [.int (xs (x3 + 1).toNatClampNeg), .int (xs (x3 + 2).toNatClampNeg), .int (xs (x3 + 3).toNatClampNeg), .int (xs (x3 + 4).toNatClampNeg)]) (rest := [.int r]) ⟨hx, hb, hml, hown, hts⟩ (k_X10_odds G.2.1 h2) (cwV 4 hts (lt_V tw_5_51 tw_5_52 tw_5_53 tw_1_11 tw_5_54) rfl rfl rfl hdV_X10_odds ⟨Nat.le_of_ble_eq_true rfl, Nat.le_of_ble_eq_true rfl⟩) (lw_pre2 G hP2 hS) rfl rfl hl.1 rfl (lv_room (Nat.le_of_ble_eq_true rfl)) dL_law_644 ⟨Nat.le_of_ble_eq_true rfl, Nat.le_of_ble_eq_true rfl⟩) hP1 hS (fun H locs hP1 hP2 hS => ?_)
  refine lv_icmp_eq (tgt := 830) hx hb dL_law_647 (by decide) (fun _ => kk _ _ _ hP1 hP2 hS hl) (fun hc => absurd rfl hc)
set_option maxHeartbeats 4000000 in
set_option maxRecDepth 100000 in
theorem lw_case18 {p : Program} {l : Launch} {e : Env} {s : State} {m : MethodId} {below : List Frame} {meth : Method} {c : Code} {b L : Nat} {xs : Nat → Int32} (C0 : lw_At p s m meth c b L xs) {D : va_G} {ad1 ad2 : Nat → Nat} {cI cW cB : ClassId} {tK tC : Nat} (G : LG s D ad1 ad2 cI cW cB tK tC) {σ : Nat → Nat → Int32} {τ : SR} {H : Heap} {locs : List Loc} (hP1 : cP D ad1 cI cW σ H) (hP2 : rP D ad2 cI cB τ H) (hS : va_S (AL s) s.heap H locs) {x3 : Int32} (hi1 : vp_in (x3 + 1) L) (hi2 : vp_in (x3 + 2) L) (hi3 : vp_in (x3 + 3) L) (hi4 : vp_in (x3 + 4) L) {ls : Array Slot} (hl : lv_has ls 4 [(0, .ref b), (1, .ref (ad1 0)), (2, .ref (ad2 0)), (3, .int x3)]) {r : Int32} {σ' : Nat → Nat → Int32} {τ' : SR} (h1 : f_X9_see σ ((xs (x3 + 1).toNatClampNeg)) ((xs (x3 + 2).toNatClampNeg)) ((zb (xs (x3 + 3).toNatClampNeg))) = some (r, σ')) (h2 : f_X10_see τ ((xs (x3 + 1).toNatClampNeg)) ((xs (x3 + 2).toNatClampNeg)) ((zb (xs (x3 + 3).toNatClampNeg))) = some (r, τ')) (kk : ∀ (H : Heap) (locs : List Loc) (ls : Array Slot), cP D ad1 cI cW σ' H → rP D ad2 cI cB τ' H → va_S (AL s) s.heap H locs → lv_has ls 4 [(0, .ref b), (1, .ref (ad1 0)), (2, .ref (ad2 0)), (3, .int x3)] → W p l e room_1 s m #[Value.ref b] below meth c H locs 114 979 (lw_Z below #[Value.ref b] s) (F0 m 830 ls [])) : W p l e room_1 s m #[Value.ref b] below meth c H locs 114 979 (lw_Z below #[Value.ref b] s) (F0 m 652 ls []) := by
  obtain ⟨hx, hb, hr, hml, hown, hts, hX, hbl, hlocks, hgv⟩ := C0
  have hbA : ¬ AL s b := Nat.not_le.mpr hbl
  refine lv_aload_n hx hb dL_law_652 rfl (lv_at hl 1 rfl) ?_
  refine lv_aload_n hx hb dL_law_653 rfl (lv_at hl 0 rfl) ?_
  refine lv_iload_n hx hb dL_law_654 rfl (lv_at hl 3 rfl) ?_
  refine lv_iconst (v := 1) hx hb dL_law_655 (by decide) ?_
  refine lv_iadd hx hb dL_law_656 ?_
  refine va_sld hx hb hX hbl hbA hS hi1 dL_law_657 ?_
  refine lv_aload_n hx hb dL_law_658 rfl (lv_at hl 0 rfl) ?_
  refine lv_iload_n hx hb dL_law_659 rfl (lv_at hl 3 rfl) ?_
  refine lv_iconst (v := 2) hx hb dL_law_660 (by decide) ?_
  refine lv_iadd hx hb dL_law_661 ?_
  refine va_sld hx hb hX hbl hbA hS hi2 dL_law_662 ?_
  refine lv_aload_n hx hb dL_law_663 rfl (lv_at hl 0 rfl) ?_
  refine lv_iload_n hx hb dL_law_664 rfl (lv_at hl 3 rfl) ?_
  refine lv_iconst (v := 3) hx hb dL_law_665 (by decide) ?_
  refine lv_iadd hx hb dL_law_666 ?_
  refine va_sld hx hb hX hbl hbA hS hi3 dL_law_667 ?_
  have Jb668 : ∀ z : Int32, z = zb (xs (x3 + 3).toNatClampNeg) → W p l e room_1 s m #[Value.ref b] below meth c H locs 114 979 (lw_Z below #[Value.ref b] s) (F0 m 676 ls (.int z :: [.int (xs (x3 + 2).toNatClampNeg), .int (xs (x3 + 1).toNatClampNeg), .ref (ad1 0)])) := by
    intro z hz
    rw [hz]
    refine lw_c1i G (va_runV (As := [.int (xs (x3 + 1).toNatClampNeg), .int (xs (x3 + 2).toNatClampNeg), .int (zb (xs (x3 + 3).toNatClampNeg))]) (rest := []) ⟨hx, hb, hml, hown, hts⟩ (k_X9_see G.1 h1) (cwV 3 hts (lt_V tw_3_82 tw_3_83 tw_3_84 tw_1_1 tw_3_85) rfl rfl rfl hdV_X9_see ⟨Nat.le_of_ble_eq_true rfl, Nat.le_of_ble_eq_true rfl⟩) (lw_pre1 G hP1 hS) rfl rfl hl.1 rfl (lv_room (Nat.le_of_ble_eq_true rfl)) dL_law_676 ⟨Nat.le_of_ble_eq_true rfl, Nat.le_of_ble_eq_true rfl⟩) hP2 hS (fun H locs hP1 hP2 hS => ?_)
    refine lv_aload_n hx hb dL_law_679 rfl (lv_at hl 2 rfl) ?_
    refine lv_aload_n hx hb dL_law_680 rfl (lv_at hl 0 rfl) ?_
    refine lv_iload_n hx hb dL_law_681 rfl (lv_at hl 3 rfl) ?_
    refine lv_iconst (v := 1) hx hb dL_law_682 (by decide) ?_
    refine lv_iadd hx hb dL_law_683 ?_
    refine va_sld hx hb hX hbl hbA hS hi1 dL_law_684 ?_
    refine lv_aload_n hx hb dL_law_685 rfl (lv_at hl 0 rfl) ?_
    refine lv_iload_n hx hb dL_law_686 rfl (lv_at hl 3 rfl) ?_
    refine lv_iconst (v := 2) hx hb dL_law_687 (by decide) ?_
    refine lv_iadd hx hb dL_law_688 ?_
    refine va_sld hx hb hX hbl hbA hS hi2 dL_law_689 ?_
    refine lv_aload_n hx hb dL_law_690 rfl (lv_at hl 0 rfl) ?_
    refine lv_iload_n hx hb dL_law_691 rfl (lv_at hl 3 rfl) ?_
    refine lv_iconst (v := 3) hx hb dL_law_692 (by decide) ?_
    refine lv_iadd hx hb dL_law_693 ?_
    refine va_sld hx hb hX hbl hbA hS hi3 dL_law_694 ?_
    have Jb695 : ∀ z : Int32, z = zb (xs (x3 + 3).toNatClampNeg) → W p l e room_1 s m #[Value.ref b] below meth c H locs 114 979 (lw_Z below #[Value.ref b] s) (F0 m 703 ls (.int z :: [.int (xs (x3 + 2).toNatClampNeg), .int (xs (x3 + 1).toNatClampNeg), .ref (ad2 0), .int r])) := by
      intro z hz
      rw [hz]
      refine lw_c2i G (va_runV (As := [.int (xs (x3 + 1).toNatClampNeg), .int (xs (x3 + 2).toNatClampNeg), .int (zb (xs (x3 + 3).toNatClampNeg))]) (rest := [.int r]) ⟨hx, hb, hml, hown, hts⟩ (k_X10_see G.2.1 h2) (cwV 3 hts (lt_V tw_5_62 tw_5_63 tw_5_64 tw_1_11 tw_5_65) rfl rfl rfl hdV_X10_see ⟨Nat.le_of_ble_eq_true rfl, Nat.le_of_ble_eq_true rfl⟩) (lw_pre2 G hP2 hS) rfl rfl hl.1 rfl (lv_room (Nat.le_of_ble_eq_true rfl)) dL_law_703 ⟨Nat.le_of_ble_eq_true rfl, Nat.le_of_ble_eq_true rfl⟩) hP1 hS (fun H locs hP1 hP2 hS => ?_)
      refine lv_icmp_eq (tgt := 830) hx hb dL_law_706 (by decide) (fun _ => kk _ _ _ hP1 hP2 hS hl) (fun hc => absurd rfl hc)
    refine lv_if_eq (tgt := 702) hx hb dL_law_695 (by decide) (fun hc => ?_) (fun hc => ?_)
    · refine lv_iconst (v := 0) hx hb dL_law_702 (by decide) ?_
      exact Jb695 0 (zb_0 hc).symm
    · refine lv_iconst (v := 1) hx hb dL_law_698 (by decide) ?_
      refine lv_goto (tgt := 703) hx hb dL_law_699 (by decide) ?_
      exact Jb695 1 (zb_1 hc).symm
  refine lv_if_eq (tgt := 675) hx hb dL_law_668 (by decide) (fun hc => ?_) (fun hc => ?_)
  · refine lv_iconst (v := 0) hx hb dL_law_675 (by decide) ?_
    exact Jb668 0 (zb_0 hc).symm
  · refine lv_iconst (v := 1) hx hb dL_law_671 (by decide) ?_
    refine lv_goto (tgt := 676) hx hb dL_law_672 (by decide) ?_
    exact Jb668 1 (zb_1 hc).symm
set_option maxHeartbeats 4000000 in
set_option maxRecDepth 100000 in
theorem lw_case19 {p : Program} {l : Launch} {e : Env} {s : State} {m : MethodId} {below : List Frame} {meth : Method} {c : Code} {b L : Nat} {xs : Nat → Int32} (C0 : lw_At p s m meth c b L xs) {D : va_G} {ad1 ad2 : Nat → Nat} {cI cW cB : ClassId} {tK tC : Nat} (G : LG s D ad1 ad2 cI cW cB tK tC) {σ : Nat → Nat → Int32} {τ : SR} {H : Heap} {locs : List Loc} (hP1 : cP D ad1 cI cW σ H) (hP2 : rP D ad2 cI cB τ H) (hS : va_S (AL s) s.heap H locs) {x3 : Int32} (hi1 : vp_in (x3 + 1) L) (hi2 : vp_in (x3 + 2) L) (hi3 : vp_in (x3 + 3) L) (hi4 : vp_in (x3 + 4) L) {ls : Array Slot} (hl : lv_has ls 4 [(0, .ref b), (1, .ref (ad1 0)), (2, .ref (ad2 0)), (3, .int x3)]) {r : Int32} {σ' : Nat → Nat → Int32} {τ' : SR} (h1 : f_X9_forget σ = some (r, σ')) (h2 : f_X10_forget τ = some (r, τ')) (kk : ∀ (H : Heap) (locs : List Loc) (ls : Array Slot), cP D ad1 cI cW σ' H → rP D ad2 cI cB τ' H → va_S (AL s) s.heap H locs → lv_has ls 4 [(0, .ref b), (1, .ref (ad1 0)), (2, .ref (ad2 0)), (3, .int x3)] → W p l e room_1 s m #[Value.ref b] below meth c H locs 114 979 (lw_Z below #[Value.ref b] s) (F0 m 830 ls [])) : W p l e room_1 s m #[Value.ref b] below meth c H locs 114 979 (lw_Z below #[Value.ref b] s) (F0 m 711 ls []) := by
  obtain ⟨hx, hb, hr, hml, hown, hts, hX, hbl, hlocks, hgv⟩ := C0
  have hbA : ¬ AL s b := Nat.not_le.mpr hbl
  refine lv_aload_n hx hb dL_law_711 rfl (lv_at hl 1 rfl) ?_
  refine lw_c1i G (va_runV (As := []) (rest := []) ⟨hx, hb, hml, hown, hts⟩ (k_X9_forget G.1 h1) (cwV 0 hts (lt_V tw_3_90 tw_3_91 tw_3_92 tw_1_1 tw_3_93) rfl rfl rfl hdV_X9_forget ⟨Nat.le_of_ble_eq_true rfl, Nat.le_of_ble_eq_true rfl⟩) (lw_pre1 G hP1 hS) rfl rfl hl.1 rfl (lv_room (Nat.le_of_ble_eq_true rfl)) dL_law_712 ⟨Nat.le_of_ble_eq_true rfl, Nat.le_of_ble_eq_true rfl⟩) hP2 hS (fun H locs hP1 hP2 hS => ?_)
  refine lv_aload_n hx hb dL_law_715 rfl (lv_at hl 2 rfl) ?_
  refine lw_c2i G (va_runV (As := []) (rest := [.int r]) ⟨hx, hb, hml, hown, hts⟩ (k_X10_forget G.2.1 h2) (cwV 0 hts (lt_V tw_5_66 tw_5_67 tw_5_68 tw_1_11 tw_5_69) rfl rfl rfl hdV_X10_forget ⟨Nat.le_of_ble_eq_true rfl, Nat.le_of_ble_eq_true rfl⟩) (lw_pre2 G hP2 hS) rfl rfl hl.1 rfl (lv_room (Nat.le_of_ble_eq_true rfl)) dL_law_716 ⟨Nat.le_of_ble_eq_true rfl, Nat.le_of_ble_eq_true rfl⟩) hP1 hS (fun H locs hP1 hP2 hS => ?_)
  refine lv_icmp_eq (tgt := 830) hx hb dL_law_719 (by decide) (fun _ => kk _ _ _ hP1 hP2 hS hl) (fun hc => absurd rfl hc)
set_option maxHeartbeats 4000000 in
set_option maxRecDepth 100000 in
theorem lw_case20 {p : Program} {l : Launch} {e : Env} {s : State} {m : MethodId} {below : List Frame} {meth : Method} {c : Code} {b L : Nat} {xs : Nat → Int32} (C0 : lw_At p s m meth c b L xs) {D : va_G} {ad1 ad2 : Nat → Nat} {cI cW cB : ClassId} {tK tC : Nat} (G : LG s D ad1 ad2 cI cW cB tK tC) {σ : Nat → Nat → Int32} {τ : SR} {H : Heap} {locs : List Loc} (hP1 : cP D ad1 cI cW σ H) (hP2 : rP D ad2 cI cB τ H) (hS : va_S (AL s) s.heap H locs) {x3 : Int32} (hi1 : vp_in (x3 + 1) L) (hi2 : vp_in (x3 + 2) L) (hi3 : vp_in (x3 + 3) L) (hi4 : vp_in (x3 + 4) L) {ls : Array Slot} (hl : lv_has ls 4 [(0, .ref b), (1, .ref (ad1 0)), (2, .ref (ad2 0)), (3, .int x3)]) {r : Int32} {σ' : Nat → Nat → Int32} {τ' : SR} (h1 : f_X9_drawn σ ((xs (x3 + 1).toNatClampNeg)) ((xs (x3 + 2).toNatClampNeg)) ((xs (x3 + 3).toNatClampNeg)) = some (r, σ')) (h2 : f_X10_drawn τ ((xs (x3 + 1).toNatClampNeg)) ((xs (x3 + 2).toNatClampNeg)) ((xs (x3 + 3).toNatClampNeg)) = some (r, τ')) (kk : ∀ (H : Heap) (locs : List Loc) (ls : Array Slot), cP D ad1 cI cW σ' H → rP D ad2 cI cB τ' H → va_S (AL s) s.heap H locs → lv_has ls 4 [(0, .ref b), (1, .ref (ad1 0)), (2, .ref (ad2 0)), (3, .int x3)] → W p l e room_1 s m #[Value.ref b] below meth c H locs 114 979 (lw_Z below #[Value.ref b] s) (F0 m 830 ls [])) : W p l e room_1 s m #[Value.ref b] below meth c H locs 114 979 (lw_Z below #[Value.ref b] s) (F0 m 724 ls []) := by
  obtain ⟨hx, hb, hr, hml, hown, hts, hX, hbl, hlocks, hgv⟩ := C0
  have hbA : ¬ AL s b := Nat.not_le.mpr hbl
  refine lv_aload_n hx hb dL_law_724 rfl (lv_at hl 1 rfl) ?_
  refine lv_aload_n hx hb dL_law_725 rfl (lv_at hl 0 rfl) ?_
  refine lv_iload_n hx hb dL_law_726 rfl (lv_at hl 3 rfl) ?_
  refine lv_iconst (v := 1) hx hb dL_law_727 (by decide) ?_
  refine lv_iadd hx hb dL_law_728 ?_
  refine va_sld hx hb hX hbl hbA hS hi1 dL_law_729 ?_
  refine lv_aload_n hx hb dL_law_730 rfl (lv_at hl 0 rfl) ?_
  refine lv_iload_n hx hb dL_law_731 rfl (lv_at hl 3 rfl) ?_
  refine lv_iconst (v := 2) hx hb dL_law_732 (by decide) ?_
  refine lv_iadd hx hb dL_law_733 ?_
  refine va_sld hx hb hX hbl hbA hS hi2 dL_law_734 ?_
  refine lv_aload_n hx hb dL_law_735 rfl (lv_at hl 0 rfl) ?_
  refine lv_iload_n hx hb dL_law_736 rfl (lv_at hl 3 rfl) ?_
  refine lv_iconst (v := 3) hx hb dL_law_737 (by decide) ?_
  refine lv_iadd hx hb dL_law_738 ?_
  refine va_sld hx hb hX hbl hbA hS hi3 dL_law_739 ?_
  refine lw_c1i G (va_runV (As := [.int (xs (x3 + 1).toNatClampNeg), .int (xs (x3 + 2).toNatClampNeg), .int (xs (x3 + 3).toNatClampNeg)]) (rest := []) ⟨hx, hb, hml, hown, hts⟩ (k_X9_drawn G.1 h1) (cwV 3 hts (lt_V tw_3_94 tw_3_95 tw_3_96 tw_1_1 tw_3_97) rfl rfl rfl hdV_X9_drawn ⟨Nat.le_of_ble_eq_true rfl, Nat.le_of_ble_eq_true rfl⟩) (lw_pre1 G hP1 hS) rfl rfl hl.1 rfl (lv_room (Nat.le_of_ble_eq_true rfl)) dL_law_740 ⟨Nat.le_of_ble_eq_true rfl, Nat.le_of_ble_eq_true rfl⟩) hP2 hS (fun H locs hP1 hP2 hS => ?_)
  refine lv_aload_n hx hb dL_law_743 rfl (lv_at hl 2 rfl) ?_
  refine lv_aload_n hx hb dL_law_744 rfl (lv_at hl 0 rfl) ?_
  refine lv_iload_n hx hb dL_law_745 rfl (lv_at hl 3 rfl) ?_
  refine lv_iconst (v := 1) hx hb dL_law_746 (by decide) ?_
  refine lv_iadd hx hb dL_law_747 ?_
  refine va_sld hx hb hX hbl hbA hS hi1 dL_law_748 ?_
  refine lv_aload_n hx hb dL_law_749 rfl (lv_at hl 0 rfl) ?_
  refine lv_iload_n hx hb dL_law_750 rfl (lv_at hl 3 rfl) ?_
  refine lv_iconst (v := 2) hx hb dL_law_751 (by decide) ?_
  refine lv_iadd hx hb dL_law_752 ?_
  refine va_sld hx hb hX hbl hbA hS hi2 dL_law_753 ?_
  refine lv_aload_n hx hb dL_law_754 rfl (lv_at hl 0 rfl) ?_
  refine lv_iload_n hx hb dL_law_755 rfl (lv_at hl 3 rfl) ?_
  refine lv_iconst (v := 3) hx hb dL_law_756 (by decide) ?_
  refine lv_iadd hx hb dL_law_757 ?_
  refine va_sld hx hb hX hbl hbA hS hi3 dL_law_758 ?_
  refine lw_c2i G (va_runV (As := [.int (xs (x3 + 1).toNatClampNeg), .int (xs (x3 + 2).toNatClampNeg), .int (xs (x3 + 3).toNatClampNeg)]) (rest := [.int r]) ⟨hx, hb, hml, hown, hts⟩ (k_X10_drawn G.2.1 h2) (cwV 3 hts (lt_V tw_5_70 tw_5_71 tw_5_72 tw_1_11 tw_5_73) rfl rfl rfl hdV_X10_drawn ⟨Nat.le_of_ble_eq_true rfl, Nat.le_of_ble_eq_true rfl⟩) (lw_pre2 G hP2 hS) rfl rfl hl.1 rfl (lv_room (Nat.le_of_ble_eq_true rfl)) dL_law_759 ⟨Nat.le_of_ble_eq_true rfl, Nat.le_of_ble_eq_true rfl⟩) hP1 hS (fun H locs hP1 hP2 hS => ?_)
  refine lv_icmp_eq (tgt := 830) hx hb dL_law_762 (by decide) (fun _ => kk _ _ _ hP1 hP2 hS hl) (fun hc => absurd rfl hc)
set_option maxHeartbeats 4000000 in
set_option maxRecDepth 100000 in
theorem lw_case21 {p : Program} {l : Launch} {e : Env} {s : State} {m : MethodId} {below : List Frame} {meth : Method} {c : Code} {b L : Nat} {xs : Nat → Int32} (C0 : lw_At p s m meth c b L xs) {D : va_G} {ad1 ad2 : Nat → Nat} {cI cW cB : ClassId} {tK tC : Nat} (G : LG s D ad1 ad2 cI cW cB tK tC) {σ : Nat → Nat → Int32} {τ : SR} {H : Heap} {locs : List Loc} (hP1 : cP D ad1 cI cW σ H) (hP2 : rP D ad2 cI cB τ H) (hS : va_S (AL s) s.heap H locs) {x3 : Int32} (hi1 : vp_in (x3 + 1) L) (hi2 : vp_in (x3 + 2) L) (hi3 : vp_in (x3 + 3) L) (hi4 : vp_in (x3 + 4) L) {ls : Array Slot} (hl : lv_has ls 4 [(0, .ref b), (1, .ref (ad1 0)), (2, .ref (ad2 0)), (3, .int x3)]) {r : Int32} {σ' : Nat → Nat → Int32} {τ' : SR} (h1 : f_X9_image σ = some (r, σ')) (h2 : f_X10_image τ = some (r, τ')) (kk : ∀ (H : Heap) (locs : List Loc) (ls : Array Slot), cP D ad1 cI cW σ' H → rP D ad2 cI cB τ' H → va_S (AL s) s.heap H locs → lv_has ls 4 [(0, .ref b), (1, .ref (ad1 0)), (2, .ref (ad2 0)), (3, .int x3)] → W p l e room_1 s m #[Value.ref b] below meth c H locs 114 979 (lw_Z below #[Value.ref b] s) (F0 m 830 ls [])) : W p l e room_1 s m #[Value.ref b] below meth c H locs 114 979 (lw_Z below #[Value.ref b] s) (F0 m 767 ls []) := by
  obtain ⟨hx, hb, hr, hml, hown, hts, hX, hbl, hlocks, hgv⟩ := C0
  have hbA : ¬ AL s b := Nat.not_le.mpr hbl
  refine lv_aload_n hx hb dL_law_767 rfl (lv_at hl 1 rfl) ?_
  refine lw_c1i G (va_runV (As := []) (rest := []) ⟨hx, hb, hml, hown, hts⟩ (k_X9_image G.1 h1) (cwV 0 hts (lt_V tw_3_108 tw_3_109 tw_3_110 tw_1_1 tw_3_111) rfl rfl rfl hdV_X9_image ⟨Nat.le_of_ble_eq_true rfl, Nat.le_of_ble_eq_true rfl⟩) (lw_pre1 G hP1 hS) rfl rfl hl.1 rfl (lv_room (Nat.le_of_ble_eq_true rfl)) dL_law_768 ⟨Nat.le_of_ble_eq_true rfl, Nat.le_of_ble_eq_true rfl⟩) hP2 hS (fun H locs hP1 hP2 hS => ?_)
  refine lv_aload_n hx hb dL_law_771 rfl (lv_at hl 2 rfl) ?_
  refine lw_c2i G (va_runV (As := []) (rest := [.int r]) ⟨hx, hb, hml, hown, hts⟩ (k_X10_image G.2.1 h2) (cwV 0 hts (lt_V tw_5_86 tw_5_87 tw_5_88 tw_1_11 tw_5_89) rfl rfl rfl hdV_X10_image ⟨Nat.le_of_ble_eq_true rfl, Nat.le_of_ble_eq_true rfl⟩) (lw_pre2 G hP2 hS) rfl rfl hl.1 rfl (lv_room (Nat.le_of_ble_eq_true rfl)) dL_law_772 ⟨Nat.le_of_ble_eq_true rfl, Nat.le_of_ble_eq_true rfl⟩) hP1 hS (fun H locs hP1 hP2 hS => ?_)
  refine lv_icmp_eq (tgt := 830) hx hb dL_law_775 (by decide) (fun _ => kk _ _ _ hP1 hP2 hS hl) (fun hc => absurd rfl hc)
set_option maxHeartbeats 4000000 in
set_option maxRecDepth 100000 in
theorem lw_case22 {p : Program} {l : Launch} {e : Env} {s : State} {m : MethodId} {below : List Frame} {meth : Method} {c : Code} {b L : Nat} {xs : Nat → Int32} (C0 : lw_At p s m meth c b L xs) {D : va_G} {ad1 ad2 : Nat → Nat} {cI cW cB : ClassId} {tK tC : Nat} (G : LG s D ad1 ad2 cI cW cB tK tC) {σ : Nat → Nat → Int32} {τ : SR} {H : Heap} {locs : List Loc} (hP1 : cP D ad1 cI cW σ H) (hP2 : rP D ad2 cI cB τ H) (hS : va_S (AL s) s.heap H locs) {x3 : Int32} (hi1 : vp_in (x3 + 1) L) (hi2 : vp_in (x3 + 2) L) (hi3 : vp_in (x3 + 3) L) (hi4 : vp_in (x3 + 4) L) {ls : Array Slot} (hl : lv_has ls 4 [(0, .ref b), (1, .ref (ad1 0)), (2, .ref (ad2 0)), (3, .int x3)]) {r : Int32} {σ' : Nat → Nat → Int32} {τ' : SR} (h1 : f_X9_restore σ = some (r, σ')) (h2 : f_X10_restore τ = some (r, τ')) (kk : ∀ (H : Heap) (locs : List Loc) (ls : Array Slot), cP D ad1 cI cW σ' H → rP D ad2 cI cB τ' H → va_S (AL s) s.heap H locs → lv_has ls 4 [(0, .ref b), (1, .ref (ad1 0)), (2, .ref (ad2 0)), (3, .int x3)] → W p l e room_1 s m #[Value.ref b] below meth c H locs 114 979 (lw_Z below #[Value.ref b] s) (F0 m 830 ls [])) : W p l e room_1 s m #[Value.ref b] below meth c H locs 114 979 (lw_Z below #[Value.ref b] s) (F0 m 780 ls []) := by
  obtain ⟨hx, hb, hr, hml, hown, hts, hX, hbl, hlocks, hgv⟩ := C0
  have hbA : ¬ AL s b := Nat.not_le.mpr hbl
  refine lv_aload_n hx hb dL_law_780 rfl (lv_at hl 1 rfl) ?_
  refine lw_c1i G (va_runV (As := []) (rest := []) ⟨hx, hb, hml, hown, hts⟩ (k_X9_restore G.1 h1) (cwV 0 hts (lt_V tw_3_124 tw_3_125 tw_3_126 tw_1_1 tw_3_127) rfl rfl rfl hdV_X9_restore ⟨Nat.le_of_ble_eq_true rfl, Nat.le_of_ble_eq_true rfl⟩) (lw_pre1 G hP1 hS) rfl rfl hl.1 rfl (lv_room (Nat.le_of_ble_eq_true rfl)) dL_law_781 ⟨Nat.le_of_ble_eq_true rfl, Nat.le_of_ble_eq_true rfl⟩) hP2 hS (fun H locs hP1 hP2 hS => ?_)
  refine lv_aload_n hx hb dL_law_784 rfl (lv_at hl 2 rfl) ?_
  refine lw_c2i G (va_runV (As := []) (rest := [.int r]) ⟨hx, hb, hml, hown, hts⟩ (k_X10_restore G.2.1 h2) (cwV 0 hts (lt_V tw_5_90 tw_5_91 tw_5_92 tw_1_11 tw_5_93) rfl rfl rfl hdV_X10_restore ⟨Nat.le_of_ble_eq_true rfl, Nat.le_of_ble_eq_true rfl⟩) (lw_pre2 G hP2 hS) rfl rfl hl.1 rfl (lv_room (Nat.le_of_ble_eq_true rfl)) dL_law_785 ⟨Nat.le_of_ble_eq_true rfl, Nat.le_of_ble_eq_true rfl⟩) hP1 hS (fun H locs hP1 hP2 hS => ?_)
  refine lv_icmp_eq (tgt := 830) hx hb dL_law_788 (by decide) (fun _ => kk _ _ _ hP1 hP2 hS hl) (fun hc => absurd rfl hc)
set_option maxHeartbeats 4000000 in
set_option maxRecDepth 100000 in
theorem lw_case23 {p : Program} {l : Launch} {e : Env} {s : State} {m : MethodId} {below : List Frame} {meth : Method} {c : Code} {b L : Nat} {xs : Nat → Int32} (C0 : lw_At p s m meth c b L xs) {D : va_G} {ad1 ad2 : Nat → Nat} {cI cW cB : ClassId} {tK tC : Nat} (G : LG s D ad1 ad2 cI cW cB tK tC) {σ : Nat → Nat → Int32} {τ : SR} {H : Heap} {locs : List Loc} (hP1 : cP D ad1 cI cW σ H) (hP2 : rP D ad2 cI cB τ H) (hS : va_S (AL s) s.heap H locs) {x3 : Int32} (hi1 : vp_in (x3 + 1) L) (hi2 : vp_in (x3 + 2) L) (hi3 : vp_in (x3 + 3) L) (hi4 : vp_in (x3 + 4) L) {ls : Array Slot} (hl : lv_has ls 4 [(0, .ref b), (1, .ref (ad1 0)), (2, .ref (ad2 0)), (3, .int x3)]) {r : Int32} (h1 : f_X9_count σ ((xs (x3 + 1).toNatClampNeg)) = some r) (h2 : f_X10_count τ ((xs (x3 + 1).toNatClampNeg)) = some r) (kk : ∀ (H : Heap) (locs : List Loc) (ls : Array Slot), cP D ad1 cI cW σ H → rP D ad2 cI cB τ H → va_S (AL s) s.heap H locs → lv_has ls 4 [(0, .ref b), (1, .ref (ad1 0)), (2, .ref (ad2 0)), (3, .int x3)] → W p l e room_1 s m #[Value.ref b] below meth c H locs 114 979 (lw_Z below #[Value.ref b] s) (F0 m 830 ls [])) : W p l e room_1 s m #[Value.ref b] below meth c H locs 114 979 (lw_Z below #[Value.ref b] s) (F0 m 793 ls []) := by
  obtain ⟨hx, hb, hr, hml, hown, hts, hX, hbl, hlocks, hgv⟩ := C0
  have hbA : ¬ AL s b := Nat.not_le.mpr hbl
  refine lv_aload_n hx hb dL_law_793 rfl (lv_at hl 1 rfl) ?_
  refine lv_aload_n hx hb dL_law_794 rfl (lv_at hl 0 rfl) ?_
  refine lv_iload_n hx hb dL_law_795 rfl (lv_at hl 3 rfl) ?_
  refine lv_iconst (v := 1) hx hb dL_law_796 (by decide) ?_
  refine lv_iadd hx hb dL_law_797 ?_
  refine va_sld hx hb hX hbl hbA hS hi1 dL_law_798 ?_
  refine lw_c1i G (va_runV (As := [.int (xs (x3 + 1).toNatClampNeg)]) (rest := []) ⟨hx, hb, hml, hown, hts⟩ (k_X9_count G.1 h1) (cwV 1 hts (lt_V tw_3_128 tw_3_129 tw_3_130 tw_1_1 tw_3_131) rfl rfl rfl hdV_X9_count ⟨Nat.le_of_ble_eq_true rfl, Nat.le_of_ble_eq_true rfl⟩) (lw_pre1 G hP1 hS) rfl rfl hl.1 rfl (lv_room (Nat.le_of_ble_eq_true rfl)) dL_law_799 ⟨Nat.le_of_ble_eq_true rfl, Nat.le_of_ble_eq_true rfl⟩) hP2 hS (fun H locs hP1 hP2 hS => ?_)
  refine lv_aload_n hx hb dL_law_802 rfl (lv_at hl 2 rfl) ?_
  refine lv_aload_n hx hb dL_law_803 rfl (lv_at hl 0 rfl) ?_
  refine lv_iload_n hx hb dL_law_804 rfl (lv_at hl 3 rfl) ?_
  refine lv_iconst (v := 1) hx hb dL_law_805 (by decide) ?_
  refine lv_iadd hx hb dL_law_806 ?_
  refine va_sld hx hb hX hbl hbA hS hi1 dL_law_807 ?_
  refine lw_c2i G (va_runV (As := [.int (xs (x3 + 1).toNatClampNeg)]) (rest := [.int r]) ⟨hx, hb, hml, hown, hts⟩ (k_X10_count G.2.1 h2) (cwV 1 hts (lt_V tw_5_94 tw_5_95 tw_5_96 tw_1_11 tw_5_97) rfl rfl rfl hdV_X10_count ⟨Nat.le_of_ble_eq_true rfl, Nat.le_of_ble_eq_true rfl⟩) (lw_pre2 G hP2 hS) rfl rfl hl.1 rfl (lv_room (Nat.le_of_ble_eq_true rfl)) dL_law_808 ⟨Nat.le_of_ble_eq_true rfl, Nat.le_of_ble_eq_true rfl⟩) hP1 hS (fun H locs hP1 hP2 hS => ?_)
  refine lv_icmp_eq (tgt := 830) hx hb dL_law_811 (by decide) (fun _ => kk _ _ _ hP1 hP2 hS hl) (fun hc => absurd rfl hc)
set_option maxHeartbeats 4000000 in
set_option maxRecDepth 100000 in
theorem lw_case24 {p : Program} {l : Launch} {e : Env} {s : State} {m : MethodId} {below : List Frame} {meth : Method} {c : Code} {b L : Nat} {xs : Nat → Int32} (C0 : lw_At p s m meth c b L xs) {D : va_G} {ad1 ad2 : Nat → Nat} {cI cW cB : ClassId} {tK tC : Nat} (G : LG s D ad1 ad2 cI cW cB tK tC) {σ : Nat → Nat → Int32} {τ : SR} {H : Heap} {locs : List Loc} (hP1 : cP D ad1 cI cW σ H) (hP2 : rP D ad2 cI cB τ H) (hS : va_S (AL s) s.heap H locs) {x3 : Int32} (hi1 : vp_in (x3 + 1) L) (hi2 : vp_in (x3 + 2) L) (hi3 : vp_in (x3 + 3) L) (hi4 : vp_in (x3 + 4) L) {ls : Array Slot} (hl : lv_has ls 4 [(0, .ref b), (1, .ref (ad1 0)), (2, .ref (ad2 0)), (3, .int x3)]) {r : Int64} {σ' : Nat → Nat → Int32} {τ' : SR} (h1 : f_X9_digest σ = some (r, σ')) (h2 : f_X10_digest τ = some (r, τ')) (kk : ∀ (H : Heap) (locs : List Loc) (ls : Array Slot), cP D ad1 cI cW σ' H → rP D ad2 cI cB τ' H → va_S (AL s) s.heap H locs → lv_has ls 4 [(0, .ref b), (1, .ref (ad1 0)), (2, .ref (ad2 0)), (3, .int x3)] → W p l e room_1 s m #[Value.ref b] below meth c H locs 114 979 (lw_Z below #[Value.ref b] s) (F0 m 830 ls [])) : W p l e room_1 s m #[Value.ref b] below meth c H locs 114 979 (lw_Z below #[Value.ref b] s) (F0 m 816 ls []) := by
  obtain ⟨hx, hb, hr, hml, hown, hts, hX, hbl, hlocks, hgv⟩ := C0
  have hbA : ¬ AL s b := Nat.not_le.mpr hbl
  refine lv_aload_n hx hb dL_law_816 rfl (lv_at hl 1 rfl) ?_
  refine lw_c1l G (va_runV (As := []) (rest := []) ⟨hx, hb, hml, hown, hts⟩ (k_X9_digest G.1 h1) (cwV 0 hts (lt_V tw_3_137 tw_3_138 tw_3_139 tw_1_1 tw_3_140) rfl rfl rfl hdV_X9_digest ⟨Nat.le_of_ble_eq_true rfl, Nat.le_of_ble_eq_true rfl⟩) (lw_pre1 G hP1 hS) rfl rfl hl.1 rfl (lv_room (Nat.le_of_ble_eq_true rfl)) dL_law_817 ⟨Nat.le_of_ble_eq_true rfl, Nat.le_of_ble_eq_true rfl⟩) hP2 hS (fun H locs hP1 hP2 hS => ?_)
  refine lv_aload_n hx hb dL_law_820 rfl (lv_at hl 2 rfl) ?_
  refine lw_c2l G (va_runV (As := []) (rest := [.long r]) ⟨hx, hb, hml, hown, hts⟩ (k_X10_digest G.2.1 h2) (cwV 0 hts (lt_V tw_5_106 tw_5_107 tw_5_108 tw_1_11 tw_5_109) rfl rfl rfl hdV_X10_digest ⟨Nat.le_of_ble_eq_true rfl, Nat.le_of_ble_eq_true rfl⟩) (lw_pre2 G hP2 hS) rfl rfl hl.1 rfl (lv_room (Nat.le_of_ble_eq_true rfl)) dL_law_821 ⟨Nat.le_of_ble_eq_true rfl, Nat.le_of_ble_eq_true rfl⟩) hP1 hS (fun H locs hP1 hP2 hS => ?_)
  refine W.lcmp hx hb dL_law_824 ?_
  refine lv_if_eq (tgt := 830) hx hb dL_law_825 (by decide) (fun _ => kk _ _ _ hP1 hP2 hS hl) (fun hc => absurd (lg_cmp_self r) hc)

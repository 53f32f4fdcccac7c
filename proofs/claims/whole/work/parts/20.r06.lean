def b_X10_orderNow_59 (S0 : SR) (c5 : Int32) (c6 : Int32) (v9 : Int32) (c18 : Int32) (c19 : Int32) : Option ((Int32 × Int32) ⊕ (Int32)) :=
  if c19 < 0 then (some (.inr c18)) else (if c18 = 0 then (some (.inr c18)) else (gd (inb c6 7) (bo (f_X10_isIn ((ri S0 20 (c6.toNatClampNeg)) &&& (c5 ^^^ (-1))) c19) (fun (r23 : Int32) => bo (if r23 = 0 then (some 0) else (gd (inb ((16 * (c6 + 1)) + (c5 ||| ((1 : Int32) <<< (c19 &&& 31)))) 128) (if (1 + (ri S0 21 (((16 * (c6 + 1)) + (c5 ||| ((1 : Int32) <<< (c19 &&& 31)))).toNatClampNeg))) = v9 then (some 1) else (some 0)))) (fun (q24 : Int32) => if q24 = 0 then (bv (c19 + (-1)) (fun (v30 : Int32) => some (.inl (c18, v30)))) else (bv (c19 + 1) (fun (v31 : Int32) => bv (c19 + (-1)) (fun (v32 : Int32) => some (.inl (v31, v32))))))))))
def b_X10_orderNow_6 (S0 : SR) (c4 : Int32) (c5 : Int32) (c6 : Int32) : Option ((Int32 × Int32 × Int32) ⊕ (Int32)) :=
  if 6 < c6 then (some (.inr c4)) else (gd (inb ((16 * c6) + c5) 128) (bv (ri S0 21 (((16 * c6) + c5).toNatClampNeg)) (fun (v9 : Int32) => gd (inb ((16 * (c6 + 1)) + c5) 128) (bo (if (ri S0 21 (((16 * (c6 + 1)) + c5).toNatClampNeg)) = v9 then (some 0) else (some 268435456)) (fun (q11 : Int32) => bv ((ri S0 0 5) - 1) (fun (v14 : Int32) => bo (lp (fun (s15 : Int32 × Int32) => b_X10_orderNow_59 S0 c5 c6 v9 s15.1 s15.2) 5000 (q11, v14)) (fun (x16 : Int32) => bv ((10 * c4) + x16) (fun (v33 : Int32) => if x16 = 0 then (bv (c5 ||| 0) (fun (v37 : Int32) => bv (c6 + 1) (fun (v38 : Int32) => some (.inl (v33, v37, v38))))) else (bv (c5 ||| ((1 : Int32) <<< ((x16 - 1) &&& 31))) (fun (v35 : Int32) => bv (c6 + 1) (fun (v36 : Int32) => some (.inl (v33, v35, v36)))))))))))))
def f_X10_orderNow (S0 : SR) : Option (Int32) :=
  bo (lp (fun (s1 : Int32 × Int32 × Int32) => b_X10_orderNow_6 S0 s1.1 s1.2.1 s1.2.2) 5000 (0, 0, 1)) (fun (x2 : Int32) => some x2)
abbrev rmX10_orderNow : Room := { frames := 1, cells := 0, slots := 0, locals := 21 }
theorem hdV_X10_orderNow : yX10_orderNow.cls = "WitnessWallModel" ∧ yX10_orderNow.cls ≠ "java/lang/invoke/MethodHandle" ∧ yX10_orderNow.cls ≠ "java/lang/invoke/VarHandle" ∧ (parseMethodDescriptor yX10_orderNow.desc).map (fun d => d.parameters.length) = some 0 := by decide +kernel
set_option maxHeartbeats 4000000 in
set_option maxRecDepth 100000 in
theorem k_X10_orderNow {l : Launch} {D : va_G} {ad : Nat → Nat} {cI cB : ClassId} (hij : inj 31 ad)  {S0 : SR} {r : Int32} (hE : f_X10_orderNow S0 = some r) {sz : Nat} : Met l yX10_orderNow (wz yX10_orderNow cX10_orderNow 8 (some FieldType.int)) rmX10_orderNow (PG 31 ad (er ad cI cB) D (KR D cI cB) ZR [.ref (ad 0)] S0 sz) (QGi 31 ad (er ad cI cB) D r S0 sz) 0 0 (AD 31 ad sz) := by
  unfold f_X10_orderNow at hE
  refine g_start (cc := cX10_orderNow) (maxL := 8) (ret := (some FieldType.int)) (Qc := fun sz => QGi 31 ad (er ad cI cB) D r S0 sz) (by decide) rfl (Nat.le_of_ble_eq_true rfl) ?_
  intro p e s m args below meth c H locs ls hx hb hr hts hown hlocks hml hK hZ hP hS hl
  replace hl : lv_has ls 8 [(0, .ref (ad 0))] := hl
  obtain ⟨QQ, hQQ⟩ : ∃ q, q = MQ below (QGi 31 ad (er ad cI cB) D r S0 s.heap.size) args s 0 0 (AD 31 ad s.heap.size) := ⟨_, rfl⟩
  rw [← hQQ]
  refine lv_iconst (v := 0) hx hb dX10_orderNow_0 (by decide) ?_
  refine lv_istore_n (lv' := [(1, .int 0), (0, .ref (ad 0))]) hx hb dX10_orderNow_1 rfl hl (by decide) rfl (fun ls hl => ?_)
  refine lv_iconst (v := 0) hx hb dX10_orderNow_2 (by decide) ?_
  refine lv_istore_n (lv' := [(2, .int 0), (1, .int 0), (0, .ref (ad 0))]) hx hb dX10_orderNow_3 rfl hl (by decide) rfl (fun ls hl => ?_)
  refine lv_iconst (v := 1) hx hb dX10_orderNow_4 (by decide) ?_
  refine lv_istore_n (lv' := [(3, .int 1), (2, .int 0), (1, .int 0), (0, .ref (ad 0))]) hx hb dX10_orderNow_5 rfl hl (by decide) rfl (fun ls hl => ?_)
  obtain ⟨x2, hx2, hE⟩ := st_bo hE
  refine lp_walk (body := fun (s1 : Int32 × Int32 × Int32) => b_X10_orderNow_6 S0 s1.1 s1.2.1 s1.2.2) (fun s1 => ∀ (ls : Array Slot) (H : Heap) (locs : List Loc), lv_has ls 8 [(0, .ref (ad 0)), (1, .int s1.1), (2, .int s1.2.1), (3, .int s1.2.2)] → rP D ad cI cB S0 H → rS ad s H locs → W p l e rmX10_orderNow s m args below meth c H locs 0 0 QQ (F0 m 6 ls [])) (fun x2 => ∀ (ls : Array Slot) (H : Heap) (locs : List Loc), lv_has ls 8 [(1, .int x2)] → rP D ad cI cB S0 H → rS ad s H locs → W p l e rmX10_orderNow s m args below meth c H locs 0 0 QQ (F0 m 173 ls [])) ?_ _ _ _ hx2 ?_ ls H locs (lv_sub hl [3, 2, 1, 0] rfl) hP hS
  · intro s1 t3 hE hKt3 ls H locs hl hP hS
    obtain ⟨c4, c5, c6⟩ := s1
    replace hE : b_X10_orderNow_6 S0 c4 c5 c6 = some t3 := hE
    replace hl : lv_has ls 8 [(0, .ref (ad 0)), (1, .int c4), (2, .int c5), (3, .int c6)] := hl
    replace hP : rP D ad cI cB S0 H := hP
    unfold b_X10_orderNow_6 at hE
    refine lv_iload_n hx hb dX10_orderNow_6 rfl (lv_at hl 3 rfl) ?_
    refine lv_bipush (v := 6) hx hb dX10_orderNow_7 (by decide) ?_
    refine lv_icmp_gt (tgt := 173) hx hb dX10_orderNow_9 (by decide) (fun hc7 => ?_) (fun hc7 => ?_)
    · have hE := st_t hE hc7
      have hq := Option.some.inj hE
      subst hq
      exact hKt3 ls H locs (lv_sub hl [1] rfl) hP hS
    · have hE := st_f hE hc7
      refine lv_aload_n hx hb dX10_orderNow_12 rfl (lv_at hl 0 rfl) ?_
      refine r_get (v := .ref (ad 21)) hx hb hts (fun w h => wz_m (inX10 w h)) hown hK hP (q_Ref (ad := ad) (cI := cI) (cB := cB)) rfl 31 (by decide) (hts _ (wz_m tw_3_187)) (fun _ h9 => h9) rfl dX10_orderNow_13 ?_
      refine lv_bipush (v := 16) hx hb dX10_orderNow_16 (by decide) ?_
      refine lv_iload_n hx hb dX10_orderNow_18 rfl (lv_at hl 3 rfl) ?_
      refine lv_imul hx hb dX10_orderNow_19 ?_
      refine lv_iload_n hx hb dX10_orderNow_20 rfl (lv_at hl 2 rfl) ?_
      refine lv_iadd hx hb dX10_orderNow_21 ?_
      obtain ⟨hi8, hE⟩ := st_gd hE
      refine r_iald hx hb hK hP qr_21 hi8 dX10_orderNow_22 ?_
      obtain ⟨v9, ev9, hE⟩ := st_bv hE
      refine nm_i ev9 ?_
      refine lv_istore (lv' := [(4, .int v9), (0, .ref (ad 0)), (1, .int c4), (2, .int c5), (3, .int c6)]) hx hb dX10_orderNow_23 hl (by decide) rfl (fun ls hl => ?_)
      refine lv_aload_n hx hb dX10_orderNow_25 rfl (lv_at hl 1 rfl) ?_
      refine r_get (v := .ref (ad 21)) hx hb hts (fun w h => wz_m (inX10 w h)) hown hK hP (q_Ref (ad := ad) (cI := cI) (cB := cB)) rfl 31 (by decide) (hts _ (wz_m tw_3_187)) (fun _ h9 => h9) rfl dX10_orderNow_26 ?_
      refine lv_bipush (v := 16) hx hb dX10_orderNow_29 (by decide) ?_
      refine lv_iload_n hx hb dX10_orderNow_31 rfl (lv_at hl 4 rfl) ?_
      refine lv_iconst (v := 1) hx hb dX10_orderNow_32 (by decide) ?_
      refine lv_iadd hx hb dX10_orderNow_33 ?_
      refine lv_imul hx hb dX10_orderNow_34 ?_
      refine lv_iload_n hx hb dX10_orderNow_35 rfl (lv_at hl 3 rfl) ?_
      refine lv_iadd hx hb dX10_orderNow_36 ?_
      obtain ⟨hi10, hE⟩ := st_gd hE
      refine r_iald hx hb hK hP qr_21 hi10 dX10_orderNow_37 ?_
      refine lv_iload hx hb dX10_orderNow_38 (lv_at hl 0 rfl) ?_
      obtain ⟨q11, hq11, hE⟩ := st_bo hE
      have J12 : ∀ (ls : Array Slot) (H : Heap) (locs : List Loc), lv_has ls 8 [(0, .ref (ad 0)), (1, .int c4), (2, .int c5), (3, .int c6), (4, .int v9)] → rP D ad cI cB S0 H → rS ad s H locs → W p l e rmX10_orderNow s m args below meth c H locs 0 0 QQ (F0 m 49 ls [.int q11]) := by
        intro ls H locs hl hP hS
        refine lv_istore (lv' := [(5, .int q11), (0, .ref (ad 0)), (1, .int c4), (2, .int c5), (3, .int c6), (4, .int v9)]) hx hb dX10_orderNow_49 hl (by decide) rfl (fun ls hl => ?_)
        refine lv_aload_n hx hb dX10_orderNow_51 rfl (lv_at hl 1 rfl) ?_
        refine r_get (v := .int (ri S0 0 5)) hx hb hts (fun w h => wz_m (inX10 w h)) hown hK hP (q_Ref (ad := ad) (cI := cI) (cB := cB)) rfl 5 (by decide) (hts _ (wz_m tw_3_161)) (fun _ h9 => h9) rfl dX10_orderNow_52 ?_
        refine lv_iconst (v := 1) hx hb dX10_orderNow_55 (by decide) ?_
        refine lv_isub hx hb dX10_orderNow_56 ?_
        obtain ⟨v14, ev14, hE⟩ := st_bv hE
        refine nm_i ev14 ?_
        refine lv_istore (lv' := [(6, .int v14), (5, .int q11), (0, .ref (ad 0)), (1, .int c4), (2, .int c5), (3, .int c6), (4, .int v9)]) hx hb dX10_orderNow_57 hl (by decide) rfl (fun ls hl => ?_)
        obtain ⟨x16, hx16, hE⟩ := st_bo hE
        refine lp_walk (body := fun (s15 : Int32 × Int32) => b_X10_orderNow_59 S0 c5 c6 v9 s15.1 s15.2) (fun s15 => ∀ (ls : Array Slot) (H : Heap) (locs : List Loc), lv_has ls 8 [(0, .ref (ad 0)), (1, .int c4), (2, .int c5), (3, .int c6), (4, .int v9), (5, .int s15.1), (6, .int s15.2)] → rP D ad cI cB S0 H → rS ad s H locs → W p l e rmX10_orderNow s m args below meth c H locs 0 0 QQ (F0 m 59 ls [])) (fun x16 => ∀ (ls : Array Slot) (H : Heap) (locs : List Loc), lv_has ls 8 [(0, .ref (ad 0)), (1, .int c4), (2, .int c5), (3, .int c6), (5, .int x16)] → rP D ad cI cB S0 H → rS ad s H locs → W p l e rmX10_orderNow s m args below meth c H locs 0 0 QQ (F0 m 141 ls [])) ?_ _ _ _ hx16 ?_ ls H locs (lv_sub hl [2, 3, 4, 5, 6, 1, 0] rfl) hP hS
        · intro s15 t17 hE hKt17 ls H locs hl hP hS
          obtain ⟨c18, c19⟩ := s15
          replace hE : b_X10_orderNow_59 S0 c5 c6 v9 c18 c19 = some t17 := hE
          replace hl : lv_has ls 8 [(0, .ref (ad 0)), (1, .int c4), (2, .int c5), (3, .int c6), (4, .int v9), (5, .int c18), (6, .int c19)] := hl
          replace hP : rP D ad cI cB S0 H := hP
          unfold b_X10_orderNow_59 at hE
          refine lv_iload hx hb dX10_orderNow_59 (lv_at hl 6 rfl) ?_
          refine lv_if_lt (tgt := 141) hx hb dX10_orderNow_61 (by decide) (fun hc20 => ?_) (fun hc20 => ?_)
          · have hE := st_t hE hc20
            have hq := Option.some.inj hE
            subst hq
            exact hKt17 ls H locs (lv_sub hl [0, 1, 2, 3, 5] rfl) hP hS
          · have hE := st_f hE hc20
            refine lv_iload hx hb dX10_orderNow_64 (lv_at hl 5 rfl) ?_
            refine lv_if_eq (tgt := 141) hx hb dX10_orderNow_66 (by decide) (fun hc21 => ?_) (fun hc21 => ?_)
            · have hE := st_t hE hc21
              have hq := Option.some.inj hE
              subst hq
              exact hKt17 ls H locs (lv_sub hl [0, 1, 2, 3, 5] rfl) hP hS
            · have hE := st_f hE hc21
              refine lv_aload_n hx hb dX10_orderNow_69 rfl (lv_at hl 0 rfl) ?_
              refine r_get (v := .ref (ad 20)) hx hb hts (fun w h => wz_m (inX10 w h)) hown hK hP (q_Ref (ad := ad) (cI := cI) (cB := cB)) rfl 30 (by decide) (hts _ (wz_m tw_3_186)) (fun _ h9 => h9) rfl dX10_orderNow_70 ?_
              refine lv_iload_n hx hb dX10_orderNow_73 rfl (lv_at hl 3 rfl) ?_
              obtain ⟨hi22, hE⟩ := st_gd hE
              refine r_iald hx hb hK hP qr_20 hi22 dX10_orderNow_74 ?_
              refine lv_iload_n hx hb dX10_orderNow_75 rfl (lv_at hl 2 rfl) ?_
              refine lv_iconst (v := (-1)) hx hb dX10_orderNow_76 (by decide) ?_
              refine lv_ixor hx hb dX10_orderNow_77 ?_
              refine lv_iand hx hb dX10_orderNow_78 ?_
              refine lv_iload hx hb dX10_orderNow_79 (lv_at hl 6 rfl) ?_
              obtain ⟨r23, hCr23, hE⟩ := st_bo hE
              refine g_calli (va_runS (As := [.int ((ri S0 20 (c6.toNatClampNeg)) &&& (c5 ^^^ (-1))), .int c19]) (rest := []) ⟨hx, hb, hml, hown, hts⟩ (k_X10_isIn hij (S0 := S0) hCr23) (va_cwS 2 hts (wz_S tw_4_144 tw_4_145 tw_1_11 tw_4_146) rfl rfl rfl hdS_X10_isIn ⟨Nat.le_of_ble_eq_true rfl, Nat.le_of_ble_eq_true rfl⟩) (g_preS KR_st ZR_st hK hZ hP hS) rfl rfl hl.1 rfl (lv_room (Nat.le_of_ble_eq_true rfl)) dX10_orderNow_81 ⟨Nat.zero_le _, Nat.zero_le _⟩) hS (fun H locs hP hS => ?_)
              obtain ⟨q24, hq24, hE⟩ := st_bo hE
              have J25 : ∀ (ls : Array Slot) (H : Heap) (locs : List Loc), lv_has ls 8 [(0, .ref (ad 0)), (1, .int c4), (2, .int c5), (3, .int c6), (4, .int v9), (5, .int c18), (6, .int c19)] → rP D ad cI cB S0 H → rS ad s H locs → W p l e rmX10_orderNow s m args below meth c H locs 0 0 QQ (F0 m 117 ls [.int q24]) := by
                intro ls H locs hl hP hS
                refine lv_istore (lv' := [(7, .int q24), (0, .ref (ad 0)), (1, .int c4), (2, .int c5), (3, .int c6), (4, .int v9), (5, .int c18), (6, .int c19)]) hx hb dX10_orderNow_117 hl (by decide) rfl (fun ls hl => ?_)
                refine lv_iload hx hb dX10_orderNow_119 (lv_at hl 0 rfl) ?_
                refine lv_if_eq (tgt := 131) hx hb dX10_orderNow_121 (by decide) (fun hc29 => ?_) (fun hc29 => ?_)
                · have hE := st_t hE hc29
                  refine lv_iload hx hb dX10_orderNow_131 (lv_at hl 6 rfl) ?_
                  refine lv_istore (lv' := [(5, .int c18), (7, .int q24), (0, .ref (ad 0)), (1, .int c4), (2, .int c5), (3, .int c6), (4, .int v9), (6, .int c19)]) hx hb dX10_orderNow_133 hl (by decide) rfl (fun ls hl => ?_)
                  obtain ⟨v30, ev30, hE⟩ := st_bv hE
                  refine lv_iinc (v := v30) (lv' := [(6, .int v30), (5, .int c18), (7, .int q24), (0, .ref (ad 0)), (1, .int c4), (2, .int c5), (3, .int c6), (4, .int v9)]) hx hb dX10_orderNow_135 hl (k := 7) rfl (by rw [ev30]; rfl) (by decide) rfl (fun ls hl => ?_)
                  refine lv_goto (tgt := 59) hx hb dX10_orderNow_138 (by decide) ?_
                  have hq := Option.some.inj hE
                  subst hq
                  exact hKt17 ls H locs (lv_sub hl [3, 4, 5, 6, 7, 1, 0] rfl) hP hS
                · have hE := st_f hE hc29
                  refine lv_iload hx hb dX10_orderNow_124 (lv_at hl 7 rfl) ?_
                  refine lv_iconst (v := 1) hx hb dX10_orderNow_126 (by decide) ?_
                  refine lv_iadd hx hb dX10_orderNow_127 ?_
                  refine lv_goto (tgt := 133) hx hb dX10_orderNow_128 (by decide) ?_
                  obtain ⟨v31, ev31, hE⟩ := st_bv hE
                  refine nm_i ev31 ?_
                  refine lv_istore (lv' := [(5, .int v31), (7, .int q24), (0, .ref (ad 0)), (1, .int c4), (2, .int c5), (3, .int c6), (4, .int v9), (6, .int c19)]) hx hb dX10_orderNow_133 hl (by decide) rfl (fun ls hl => ?_)
                  obtain ⟨v32, ev32, hE⟩ := st_bv hE
                  refine lv_iinc (v := v32) (lv' := [(6, .int v32), (5, .int v31), (7, .int q24), (0, .ref (ad 0)), (1, .int c4), (2, .int c5), (3, .int c6), (4, .int v9)]) hx hb dX10_orderNow_135 hl (k := 7) rfl (by rw [ev32]; rfl) (by decide) rfl (fun ls hl => ?_)
                  refine lv_goto (tgt := 59) hx hb dX10_orderNow_138 (by decide) ?_
                  have hq := Option.some.inj hE
                  subst hq
                  exact hKt17 ls H locs (lv_sub hl [3, 4, 5, 6, 7, 1, 0] rfl) hP hS
              replace hE := hq24
              refine lv_if_eq (tgt := 116) hx hb dX10_orderNow_84 (by decide) (fun hc26 => ?_) (fun hc26 => ?_)
              · have hE := st_t hE hc26
                refine lv_iconst (v := 0) hx hb dX10_orderNow_116 (by decide) ?_
                have hq := Option.some.inj hE
                subst hq
                exact J25 ls H locs (lv_sub hl [0, 1, 2, 3, 4, 5, 6] rfl) hP hS
              · have hE := st_f hE hc26
                refine lv_iconst (v := 1) hx hb dX10_orderNow_87 (by decide) ?_
                refine lv_aload_n hx hb dX10_orderNow_88 rfl (lv_at hl 0 rfl) ?_
                refine r_get (v := .ref (ad 21)) hx hb hts (fun w h => wz_m (inX10 w h)) hown hK hP (q_Ref (ad := ad) (cI := cI) (cB := cB)) rfl 31 (by decide) (hts _ (wz_m tw_3_187)) (fun _ h9 => h9) rfl dX10_orderNow_89 ?_
                refine lv_bipush (v := 16) hx hb dX10_orderNow_92 (by decide) ?_
                refine lv_iload_n hx hb dX10_orderNow_94 rfl (lv_at hl 3 rfl) ?_
                refine lv_iconst (v := 1) hx hb dX10_orderNow_95 (by decide) ?_
                refine lv_iadd hx hb dX10_orderNow_96 ?_
                refine lv_imul hx hb dX10_orderNow_97 ?_
                refine lv_iload_n hx hb dX10_orderNow_98 rfl (lv_at hl 2 rfl) ?_
                refine lv_iconst (v := 1) hx hb dX10_orderNow_99 (by decide) ?_
                refine lv_iload hx hb dX10_orderNow_100 (lv_at hl 6 rfl) ?_
                refine lv_ishl hx hb dX10_orderNow_102 ?_
                refine lv_ior hx hb dX10_orderNow_103 ?_
                refine lv_iadd hx hb dX10_orderNow_104 ?_
                obtain ⟨hi27, hE⟩ := st_gd hE
                refine r_iald hx hb hK hP qr_21 hi27 dX10_orderNow_105 ?_
                refine lv_iadd hx hb dX10_orderNow_106 ?_
                refine lv_iload hx hb dX10_orderNow_107 (lv_at hl 4 rfl) ?_
                refine lv_icmp_ne (tgt := 116) hx hb dX10_orderNow_109 (by decide) (fun hc28 => ?_) (fun hc28 => ?_)
                · have hE := st_f hE hc28
                  refine lv_iconst (v := 0) hx hb dX10_orderNow_116 (by decide) ?_
                  have hq := Option.some.inj hE
                  subst hq
                  exact J25 ls H locs (lv_sub hl [0, 1, 2, 3, 4, 5, 6] rfl) hP hS
                · have hE := st_t hE hc28
                  refine lv_iconst (v := 1) hx hb dX10_orderNow_112 (by decide) ?_
                  refine lv_goto (tgt := 117) hx hb dX10_orderNow_113 (by decide) ?_
                  have hq := Option.some.inj hE
                  subst hq
                  exact J25 ls H locs (lv_sub hl [0, 1, 2, 3, 4, 5, 6] rfl) hP hS
        · intro ls H locs hl hP hS
          refine lv_bipush (v := 10) hx hb dX10_orderNow_141 (by decide) ?_
          refine lv_iload_n hx hb dX10_orderNow_143 rfl (lv_at hl 1 rfl) ?_
          refine lv_imul hx hb dX10_orderNow_144 ?_
          refine lv_iload hx hb dX10_orderNow_145 (lv_at hl 4 rfl) ?_
          refine lv_iadd hx hb dX10_orderNow_147 ?_
          obtain ⟨v33, ev33, hE⟩ := st_bv hE
          refine nm_i ev33 ?_
          refine lv_istore_n (lv' := [(1, .int v33), (0, .ref (ad 0)), (2, .int c5), (3, .int c6), (5, .int x16)]) hx hb dX10_orderNow_148 rfl hl (by decide) rfl (fun ls hl => ?_)
          refine lv_iload_n hx hb dX10_orderNow_149 rfl (lv_at hl 2 rfl) ?_
          refine lv_iload hx hb dX10_orderNow_150 (lv_at hl 4 rfl) ?_
          refine lv_if_ne (tgt := 159) hx hb dX10_orderNow_152 (by decide) (fun hc34 => ?_) (fun hc34 => ?_)
          · have hE := st_f hE hc34
            refine lv_iconst (v := 1) hx hb dX10_orderNow_159 (by decide) ?_
            refine lv_iload hx hb dX10_orderNow_160 (lv_at hl 4 rfl) ?_
            refine lv_iconst (v := 1) hx hb dX10_orderNow_162 (by decide) ?_
            refine lv_isub hx hb dX10_orderNow_163 ?_
            refine lv_ishl hx hb dX10_orderNow_164 ?_
            refine lv_ior hx hb dX10_orderNow_165 ?_
            obtain ⟨v35, ev35, hE⟩ := st_bv hE
            refine nm_i ev35 ?_
            refine lv_istore_n (lv' := [(2, .int v35), (1, .int v33), (0, .ref (ad 0)), (3, .int c6), (5, .int x16)]) hx hb dX10_orderNow_166 rfl hl (by decide) rfl (fun ls hl => ?_)
            obtain ⟨v36, ev36, hE⟩ := st_bv hE
            refine lv_iinc (v := v36) (lv' := [(3, .int v36), (2, .int v35), (1, .int v33), (0, .ref (ad 0)), (5, .int x16)]) hx hb dX10_orderNow_167 hl (k := 3) rfl (by rw [ev36]; rfl) (by decide) rfl (fun ls hl => ?_)
            refine lv_goto (tgt := 6) hx hb dX10_orderNow_170 (by decide) ?_
            have hq := Option.some.inj hE
            subst hq
            exact hKt3 ls H locs (lv_sub hl [3, 2, 1, 0] rfl) hP hS
          · have hE := st_t hE hc34
            refine lv_iconst (v := 0) hx hb dX10_orderNow_155 (by decide) ?_
            refine lv_goto (tgt := 165) hx hb dX10_orderNow_156 (by decide) ?_
            refine lv_ior hx hb dX10_orderNow_165 ?_
            obtain ⟨v37, ev37, hE⟩ := st_bv hE
            refine nm_i ev37 ?_
            refine lv_istore_n (lv' := [(2, .int v37), (1, .int v33), (0, .ref (ad 0)), (3, .int c6), (5, .int x16)]) hx hb dX10_orderNow_166 rfl hl (by decide) rfl (fun ls hl => ?_)
            obtain ⟨v38, ev38, hE⟩ := st_bv hE
            refine lv_iinc (v := v38) (lv' := [(3, .int v38), (2, .int v37), (1, .int v33), (0, .ref (ad 0)), (5, .int x16)]) hx hb dX10_orderNow_167 hl (k := 3) rfl (by rw [ev38]; rfl) (by decide) rfl (fun ls hl => ?_)
            refine lv_goto (tgt := 6) hx hb dX10_orderNow_170 (by decide) ?_
            have hq := Option.some.inj hE
            subst hq
            exact hKt3 ls H locs (lv_sub hl [3, 2, 1, 0] rfl) hP hS
      replace hE := hq11
      refine lv_icmp_ne (tgt := 47) hx hb dX10_orderNow_40 (by decide) (fun hc13 => ?_) (fun hc13 => ?_)
      · have hE := st_f hE hc13
        refine lv_ldc (v := 268435456) hx hb hown (hts _ (wz_m tw_4_143)) dX10_orderNow_47 ?_
        have hq := Option.some.inj hE
        subst hq
        exact J12 ls H locs (lv_sub hl [1, 2, 3, 4, 0] rfl) hP hS
      · have hE := st_t hE hc13
        refine lv_iconst (v := 0) hx hb dX10_orderNow_43 (by decide) ?_
        refine lv_goto (tgt := 49) hx hb dX10_orderNow_44 (by decide) ?_
        have hq := Option.some.inj hE
        subst hq
        exact J12 ls H locs (lv_sub hl [1, 2, 3, 4, 0] rfl) hP hS
  · intro ls H locs hl hP hS
    refine lv_iload_n hx hb dX10_orderNow_173 rfl (lv_at hl 0 rfl) ?_
    replace hE := Option.some.inj hE
    subst hQQ
    exact g_iret hx hb hr hlocks hP hS hE rfl dX10_orderNow_174
def f_X10_termNow (S0 : SR) (a1 : Int32) : Option (Int32 × SR) :=
  bo (f_X10_layTerm S0) (fun (r1 : SR) => bo (f_X10_layMost r1) (fun (r2 : SR) => if a1 = 0 then (gd (inb 16 128) (some (ri r2 21 ((16 : Int32).toNatClampNeg), r2))) else (bo (f_X10_orderNow r2) (fun (r4 : Int32) => some (r4, r2)))))
abbrev rmX10_termNow : Room := { frames := 4, cells := 0, slots := 0, locals := 93 }
theorem hdV_X10_termNow : yX10_termNow.cls = "WitnessWallModel" ∧ yX10_termNow.cls ≠ "java/lang/invoke/MethodHandle" ∧ yX10_termNow.cls ≠ "java/lang/invoke/VarHandle" ∧ (parseMethodDescriptor yX10_termNow.desc).map (fun d => d.parameters.length) = some 1 := by decide +kernel
set_option maxHeartbeats 4000000 in
set_option maxRecDepth 100000 in
theorem k_X10_termNow {l : Launch} {D : va_G} {ad : Nat → Nat} {cI cB : ClassId} (hij : inj 31 ad)  {S0 : SR} {a1 : Int32} {r : Int32} {Sr : SR} (hE : f_X10_termNow S0 a1 = some (r, Sr)) {sz : Nat} : Met l yX10_termNow (wz yX10_termNow cX10_termNow 2 (some FieldType.int)) rmX10_termNow (PG 31 ad (er ad cI cB) D (KR D cI cB) ZR [.ref (ad 0), .int a1] S0 sz) (QGi 31 ad (er ad cI cB) D r Sr sz) 0 0 (AD 31 ad sz) := by
  unfold f_X10_termNow at hE
  refine g_start (cc := cX10_termNow) (maxL := 2) (ret := (some FieldType.int)) (Qc := fun sz => QGi 31 ad (er ad cI cB) D r Sr sz) (by decide) rfl (Nat.le_of_ble_eq_true rfl) ?_
  intro p e s m args below meth c H locs ls hx hb hr hts hown hlocks hml hK hZ hP hS hl
  replace hl : lv_has ls 2 [(0, .ref (ad 0)), (1, .int a1)] := hl
  obtain ⟨QQ, hQQ⟩ : ∃ q, q = MQ below (QGi 31 ad (er ad cI cB) D r Sr s.heap.size) args s 0 0 (AD 31 ad s.heap.size) := ⟨_, rfl⟩
  rw [← hQQ]
  refine lv_aload_n hx hb dX10_termNow_0 rfl (lv_at hl 0 rfl) ?_
  obtain ⟨r1, hCr1, hE⟩ := st_bo hE
  refine g_callv (va_runV (As := []) (rest := []) ⟨hx, hb, hml, hown, hts⟩ (k_X10_layTerm hij hCr1) (cwV 0 hts (wz_V tw_4_231 tw_4_233 tp_24 tw_1_11 tw_4_234) rfl rfl rfl hdV_X10_layTerm ⟨Nat.le_of_ble_eq_true rfl, Nat.le_of_ble_eq_true rfl⟩) (g_preV KR_st ZR_st hK hZ hP hS hK.1 ((q_Ref (ad := ad) (cI := cI) (cB := cB))).1 (er_o (q_Ref (ad := ad) (cI := cI) (cB := cB))) rfl) rfl rfl hl.1 rfl (lv_room (Nat.le_of_ble_eq_true rfl)) dX10_termNow_1 ⟨Nat.zero_le _, Nat.zero_le _⟩) hS (fun H locs hP hS => ?_)
  refine lv_aload_n hx hb dX10_termNow_4 rfl (lv_at hl 0 rfl) ?_
  obtain ⟨r2, hCr2, hE⟩ := st_bo hE
  refine g_callv (va_runV (As := []) (rest := []) ⟨hx, hb, hml, hown, hts⟩ (k_X10_layMost hij hCr2) (cwV 0 hts (wz_V tw_5_3 tw_5_5 tp_27 tw_1_11 tw_5_6) rfl rfl rfl hdV_X10_layMost ⟨Nat.le_of_ble_eq_true rfl, Nat.le_of_ble_eq_true rfl⟩) (g_preV KR_st ZR_st hK hZ hP hS hK.1 ((q_Ref (ad := ad) (cI := cI) (cB := cB))).1 (er_o (q_Ref (ad := ad) (cI := cI) (cB := cB))) rfl) rfl rfl hl.1 rfl (lv_room (Nat.le_of_ble_eq_true rfl)) dX10_termNow_5 ⟨Nat.zero_le _, Nat.zero_le _⟩) hS (fun H locs hP hS => ?_)
  refine lv_iload_n hx hb dX10_termNow_8 rfl (lv_at hl 1 rfl) ?_
  refine lv_if_ne (tgt := 22) hx hb dX10_termNow_9 (by decide) (fun hc3 => ?_) (fun hc3 => ?_)
  · have hE := st_f hE hc3
    refine lv_aload_n hx hb dX10_termNow_22 rfl (lv_at hl 0 rfl) ?_
    obtain ⟨r4, hCr4, hE⟩ := st_bo hE
    refine g_calli (va_runV (As := []) (rest := []) ⟨hx, hb, hml, hown, hts⟩ (k_X10_orderNow hij hCr4) (cwV 0 hts (wz_V tw_5_7 tw_5_9 tp_28 tw_1_11 tw_5_10) rfl rfl rfl hdV_X10_orderNow ⟨Nat.le_of_ble_eq_true rfl, Nat.le_of_ble_eq_true rfl⟩) (g_preV KR_st ZR_st hK hZ hP hS hK.1 ((q_Ref (ad := ad) (cI := cI) (cB := cB))).1 (er_o (q_Ref (ad := ad) (cI := cI) (cB := cB))) rfl) rfl rfl hl.1 rfl (lv_room (Nat.le_of_ble_eq_true rfl)) dX10_termNow_23 ⟨Nat.zero_le _, Nat.zero_le _⟩) hS (fun H locs hP hS => ?_)
    replace hE := Option.some.inj hE
    have hq := Prod.mk.inj hE
    subst hQQ
    exact g_iret hx hb hr hlocks hP hS hq.1 hq.2 dX10_termNow_26
  · have hE := st_t hE hc3
    refine lv_aload_n hx hb dX10_termNow_12 rfl (lv_at hl 0 rfl) ?_
    refine r_get (v := .ref (ad 21)) hx hb hts (fun w h => wz_m (inX10 w h)) hown hK hP (q_Ref (ad := ad) (cI := cI) (cB := cB)) rfl 31 (by decide) (hts _ (wz_m tw_3_187)) (fun _ h9 => h9) rfl dX10_termNow_13 ?_
    refine lv_bipush (v := 16) hx hb dX10_termNow_16 (by decide) ?_
    obtain ⟨hi5, hE⟩ := st_gd hE
    refine r_iald hx hb hK hP qr_21 hi5 dX10_termNow_18 ?_
    refine lv_goto (tgt := 26) hx hb dX10_termNow_19 (by decide) ?_
    replace hE := Option.some.inj hE
    have hq := Prod.mk.inj hE
    subst hQQ
    exact g_iret hx hb hr hlocks hP hS hq.1 hq.2 dX10_termNow_26
def b_X10_isSaidSo_4 (S0 : SR) (a1 : Int32) (c4 : Int32) (c5 : Int32) : Option ((Int32 × Int32) ⊕ (Int32)) :=
  if 6 ≤ c5 then (some (.inr c4)) else (if c4 = 0 then (bv (c5 + 1) (fun (v8 : Int32) => some (.inl (0, v8)))) else (bo (f_X10_saidBy S0 a1 c5) (fun (r9 : Int32) => bo (f_X10_everybody S0) (fun (r10 : Int32) => bo (f_X10_saidBy S0 r10 c5) (fun (r11 : Int32) => if r9 = r11 then (bv (c5 + 1) (fun (v14 : Int32) => some (.inl (1, v14)))) else (bv (c5 + 1) (fun (v13 : Int32) => some (.inl (0, v13)))))))))
def f_X10_isSaidSo (S0 : SR) (a1 : Int32) : Option (Int32) :=
  bo (lp (fun (s1 : Int32 × Int32) => b_X10_isSaidSo_4 S0 a1 s1.1 s1.2) 5000 (1, 0)) (fun (x2 : Int32) => some (x2 &&& 1))
abbrev rmX10_isSaidSo : Room := { frames := 2, cells := 0, slots := 0, locals := 52 }
theorem hdV_X10_isSaidSo : yX10_isSaidSo.cls = "WitnessWallModel" ∧ yX10_isSaidSo.cls ≠ "java/lang/invoke/MethodHandle" ∧ yX10_isSaidSo.cls ≠ "java/lang/invoke/VarHandle" ∧ (parseMethodDescriptor yX10_isSaidSo.desc).map (fun d => d.parameters.length) = some 1 := by decide +kernel
set_option maxHeartbeats 4000000 in
set_option maxRecDepth 100000 in
theorem k_X10_isSaidSo {l : Launch} {D : va_G} {ad : Nat → Nat} {cI cB : ClassId} (hij : inj 31 ad)  {S0 : SR} {a1 : Int32} {r : Int32} (hE : f_X10_isSaidSo S0 a1 = some r) {sz : Nat} : Met l yX10_isSaidSo (wz yX10_isSaidSo cX10_isSaidSo 4 (some FieldType.boolean)) rmX10_isSaidSo (PG 31 ad (er ad cI cB) D (KR D cI cB) ZR [.ref (ad 0), .int a1] S0 sz) (QGi 31 ad (er ad cI cB) D r S0 sz) 0 0 (AD 31 ad sz) := by
  unfold f_X10_isSaidSo at hE
  refine g_start (cc := cX10_isSaidSo) (maxL := 4) (ret := (some FieldType.boolean)) (Qc := fun sz => QGi 31 ad (er ad cI cB) D r S0 sz) (by decide) rfl (Nat.le_of_ble_eq_true rfl) ?_
  intro p e s m args below meth c H locs ls hx hb hr hts hown hlocks hml hK hZ hP hS hl
  replace hl : lv_has ls 4 [(0, .ref (ad 0)), (1, .int a1)] := hl
  obtain ⟨QQ, hQQ⟩ : ∃ q, q = MQ below (QGi 31 ad (er ad cI cB) D r S0 s.heap.size) args s 0 0 (AD 31 ad s.heap.size) := ⟨_, rfl⟩
  rw [← hQQ]
  refine lv_iconst (v := 1) hx hb dX10_isSaidSo_0 (by decide) ?_
  refine lv_istore_n (lv' := [(2, .int 1), (0, .ref (ad 0)), (1, .int a1)]) hx hb dX10_isSaidSo_1 rfl hl (by decide) rfl (fun ls hl => ?_)
  refine lv_iconst (v := 0) hx hb dX10_isSaidSo_2 (by decide) ?_
  refine lv_istore_n (lv' := [(3, .int 0), (2, .int 1), (0, .ref (ad 0)), (1, .int a1)]) hx hb dX10_isSaidSo_3 rfl hl (by decide) rfl (fun ls hl => ?_)
  obtain ⟨x2, hx2, hE⟩ := st_bo hE
  refine lp_walk (body := fun (s1 : Int32 × Int32) => b_X10_isSaidSo_4 S0 a1 s1.1 s1.2) (fun s1 => ∀ (ls : Array Slot) (H : Heap) (locs : List Loc), lv_has ls 4 [(0, .ref (ad 0)), (1, .int a1), (2, .int s1.1), (3, .int s1.2)] → rP D ad cI cB S0 H → rS ad s H locs → W p l e rmX10_isSaidSo s m args below meth c H locs 0 0 QQ (F0 m 4 ls [])) (fun x2 => ∀ (ls : Array Slot) (H : Heap) (locs : List Loc), lv_has ls 4 [(2, .int x2)] → rP D ad cI cB S0 H → rS ad s H locs → W p l e rmX10_isSaidSo s m args below meth c H locs 0 0 QQ (F0 m 44 ls [])) ?_ _ _ _ hx2 ?_ ls H locs (lv_sub hl [2, 3, 1, 0] rfl) hP hS
  · intro s1 t3 hE hKt3 ls H locs hl hP hS
    obtain ⟨c4, c5⟩ := s1
    replace hE : b_X10_isSaidSo_4 S0 a1 c4 c5 = some t3 := hE
    replace hl : lv_has ls 4 [(0, .ref (ad 0)), (1, .int a1), (2, .int c4), (3, .int c5)] := hl
    replace hP : rP D ad cI cB S0 H := hP
    unfold b_X10_isSaidSo_4 at hE
    refine lv_iload_n hx hb dX10_isSaidSo_4 rfl (lv_at hl 3 rfl) ?_
    refine lv_bipush (v := 6) hx hb dX10_isSaidSo_5 (by decide) ?_
    refine lv_icmp_ge (tgt := 44) hx hb dX10_isSaidSo_7 (by decide) (fun hc6 => ?_) (fun hc6 => ?_)
    · have hE := st_t hE hc6
      have hq := Option.some.inj hE
      subst hq
      exact hKt3 ls H locs (lv_sub hl [2] rfl) hP hS
    · have hE := st_f hE hc6
      refine lv_iload_n hx hb dX10_isSaidSo_10 rfl (lv_at hl 2 rfl) ?_
      refine lv_if_eq (tgt := 36) hx hb dX10_isSaidSo_11 (by decide) (fun hc7 => ?_) (fun hc7 => ?_)
      · have hE := st_t hE hc7
        refine lv_iconst (v := 0) hx hb dX10_isSaidSo_36 (by decide) ?_
        refine lv_istore_n (lv' := [(2, .int 0), (0, .ref (ad 0)), (1, .int a1), (3, .int c5)]) hx hb dX10_isSaidSo_37 rfl hl (by decide) rfl (fun ls hl => ?_)
        obtain ⟨v8, ev8, hE⟩ := st_bv hE
        refine lv_iinc (v := v8) (lv' := [(3, .int v8), (2, .int 0), (0, .ref (ad 0)), (1, .int a1)]) hx hb dX10_isSaidSo_38 hl (k := 3) rfl (by rw [ev8]; rfl) (by decide) rfl (fun ls hl => ?_)
        refine lv_goto (tgt := 4) hx hb dX10_isSaidSo_41 (by decide) ?_
        have hq := Option.some.inj hE
        subst hq
        exact hKt3 ls H locs (lv_sub hl [2, 3, 1, 0] rfl) hP hS
      · have hE := st_f hE hc7
        refine lv_aload_n hx hb dX10_isSaidSo_14 rfl (lv_at hl 0 rfl) ?_
        refine lv_iload_n hx hb dX10_isSaidSo_15 rfl (lv_at hl 1 rfl) ?_
        refine lv_iload_n hx hb dX10_isSaidSo_16 rfl (lv_at hl 3 rfl) ?_
        obtain ⟨r9, hCr9, hE⟩ := st_bo hE
        refine g_calli (va_runV (As := [.int a1, .int c5]) (rest := []) ⟨hx, hb, hml, hown, hts⟩ (k_X10_saidBy hij hCr9) (cwV 2 hts (wz_V tw_4_182 tw_4_184 tp_20 tw_1_11 tw_4_185) rfl rfl rfl hdV_X10_saidBy ⟨Nat.le_of_ble_eq_true rfl, Nat.le_of_ble_eq_true rfl⟩) (g_preV KR_st ZR_st hK hZ hP hS hK.1 ((q_Ref (ad := ad) (cI := cI) (cB := cB))).1 (er_o (q_Ref (ad := ad) (cI := cI) (cB := cB))) rfl) rfl rfl hl.1 rfl (lv_room (Nat.le_of_ble_eq_true rfl)) dX10_isSaidSo_17 ⟨Nat.zero_le _, Nat.zero_le _⟩) hS (fun H locs hP hS => ?_)
        refine lv_aload_n hx hb dX10_isSaidSo_20 rfl (lv_at hl 0 rfl) ?_
        refine lv_aload_n hx hb dX10_isSaidSo_21 rfl (lv_at hl 0 rfl) ?_
        obtain ⟨r10, hCr10, hE⟩ := st_bo hE
        refine g_calli (va_runV (As := []) (rest := [.ref (ad 0), .int r9]) ⟨hx, hb, hml, hown, hts⟩ (k_X10_everybody hij hCr10) (cwV 0 hts (wz_V tw_4_178 tw_4_180 tp_19 tw_1_11 tw_4_181) rfl rfl rfl hdV_X10_everybody ⟨Nat.le_of_ble_eq_true rfl, Nat.le_of_ble_eq_true rfl⟩) (g_preV KR_st ZR_st hK hZ hP hS hK.1 ((q_Ref (ad := ad) (cI := cI) (cB := cB))).1 (er_o (q_Ref (ad := ad) (cI := cI) (cB := cB))) rfl) rfl rfl hl.1 rfl (lv_room (Nat.le_of_ble_eq_true rfl)) dX10_isSaidSo_22 ⟨Nat.zero_le _, Nat.zero_le _⟩) hS (fun H locs hP hS => ?_)
        refine lv_iload_n hx hb dX10_isSaidSo_25 rfl (lv_at hl 3 rfl) ?_
        obtain ⟨r11, hCr11, hE⟩ := st_bo hE
        refine g_calli (va_runV (As := [.int r10, .int c5]) (rest := [.int r9]) ⟨hx, hb, hml, hown, hts⟩ (k_X10_saidBy hij hCr11) (cwV 2 hts (wz_V tw_4_182 tw_4_184 tp_20 tw_1_11 tw_4_185) rfl rfl rfl hdV_X10_saidBy ⟨Nat.le_of_ble_eq_true rfl, Nat.le_of_ble_eq_true rfl⟩) (g_preV KR_st ZR_st hK hZ hP hS hK.1 ((q_Ref (ad := ad) (cI := cI) (cB := cB))).1 (er_o (q_Ref (ad := ad) (cI := cI) (cB := cB))) rfl) rfl rfl hl.1 rfl (lv_room (Nat.le_of_ble_eq_true rfl)) dX10_isSaidSo_26 ⟨Nat.zero_le _, Nat.zero_le _⟩) hS (fun H locs hP hS => ?_)
        refine lv_icmp_ne (tgt := 36) hx hb dX10_isSaidSo_29 (by decide) (fun hc12 => ?_) (fun hc12 => ?_)
        · have hE := st_f hE hc12
          refine lv_iconst (v := 0) hx hb dX10_isSaidSo_36 (by decide) ?_
          refine lv_istore_n (lv' := [(2, .int 0), (0, .ref (ad 0)), (1, .int a1), (3, .int c5)]) hx hb dX10_isSaidSo_37 rfl hl (by decide) rfl (fun ls hl => ?_)
          obtain ⟨v13, ev13, hE⟩ := st_bv hE
          refine lv_iinc (v := v13) (lv' := [(3, .int v13), (2, .int 0), (0, .ref (ad 0)), (1, .int a1)]) hx hb dX10_isSaidSo_38 hl (k := 3) rfl (by rw [ev13]; rfl) (by decide) rfl (fun ls hl => ?_)
          refine lv_goto (tgt := 4) hx hb dX10_isSaidSo_41 (by decide) ?_
          have hq := Option.some.inj hE
          subst hq
          exact hKt3 ls H locs (lv_sub hl [2, 3, 1, 0] rfl) hP hS
        · have hE := st_t hE hc12
          refine lv_iconst (v := 1) hx hb dX10_isSaidSo_32 (by decide) ?_
          refine lv_goto (tgt := 37) hx hb dX10_isSaidSo_33 (by decide) ?_
          refine lv_istore_n (lv' := [(2, .int 1), (0, .ref (ad 0)), (1, .int a1), (3, .int c5)]) hx hb dX10_isSaidSo_37 rfl hl (by decide) rfl (fun ls hl => ?_)
          obtain ⟨v14, ev14, hE⟩ := st_bv hE
          refine lv_iinc (v := v14) (lv' := [(3, .int v14), (2, .int 1), (0, .ref (ad 0)), (1, .int a1)]) hx hb dX10_isSaidSo_38 hl (k := 3) rfl (by rw [ev14]; rfl) (by decide) rfl (fun ls hl => ?_)
          refine lv_goto (tgt := 4) hx hb dX10_isSaidSo_41 (by decide) ?_
          have hq := Option.some.inj hE
          subst hq
          exact hKt3 ls H locs (lv_sub hl [2, 3, 1, 0] rfl) hP hS
  · intro ls H locs hl hP hS
    refine lv_iload_n hx hb dX10_isSaidSo_44 rfl (lv_at hl 0 rfl) ?_
    replace hE := Option.some.inj hE
    subst hQQ
    exact g_zret hx hb hr hlocks hP hS hE rfl dX10_isSaidSo_45
def b_X10_keepSet_10 (S0 : SR) (c6 : Int32) (c7 : Int32) : Option ((Int32 × Int32) ⊕ (Int32)) :=
  if c7 < 0 then (some (.inr c6)) else (bo (f_X10_size c7) (fun (r9 : Int32) => bo (f_X10_size c6) (fun (r10 : Int32) => if r10 < r9 then (bv (c7 + (-1)) (fun (v12 : Int32) => some (.inl (c6, v12)))) else (bo (f_X10_isSaidSo S0 c7) (fun (r13 : Int32) => if r13 = 0 then (bv (c7 + (-1)) (fun (v15 : Int32) => some (.inl (c6, v15)))) else (bv (c7 + (-1)) (fun (v16 : Int32) => some (.inl (c7, v16)))))))))
def f_X10_keepSet (S0 : SR) : Option (Int32) :=
  bo (f_X10_everybody S0) (fun (r1 : Int32) => bo (f_X10_everybody S0) (fun (r2 : Int32) => bo (lp (fun (s3 : Int32 × Int32) => b_X10_keepSet_10 S0 s3.1 s3.2) 5000 (r1, r2)) (fun (x4 : Int32) => some x4)))
abbrev rmX10_keepSet : Room := { frames := 3, cells := 0, slots := 0, locals := 75 }
theorem hdV_X10_keepSet : yX10_keepSet.cls = "WitnessWallModel" ∧ yX10_keepSet.cls ≠ "java/lang/invoke/MethodHandle" ∧ yX10_keepSet.cls ≠ "java/lang/invoke/VarHandle" ∧ (parseMethodDescriptor yX10_keepSet.desc).map (fun d => d.parameters.length) = some 0 := by decide +kernel
set_option maxHeartbeats 4000000 in
set_option maxRecDepth 100000 in
theorem k_X10_keepSet {l : Launch} {D : va_G} {ad : Nat → Nat} {cI cB : ClassId} (hij : inj 31 ad)  {S0 : SR} {r : Int32} (hE : f_X10_keepSet S0 = some r) {sz : Nat} : Met l yX10_keepSet (wz yX10_keepSet cX10_keepSet 3 (some FieldType.int)) rmX10_keepSet (PG 31 ad (er ad cI cB) D (KR D cI cB) ZR [.ref (ad 0)] S0 sz) (QGi 31 ad (er ad cI cB) D r S0 sz) 0 0 (AD 31 ad sz) := by
  unfold f_X10_keepSet at hE
  refine g_start (cc := cX10_keepSet) (maxL := 3) (ret := (some FieldType.int)) (Qc := fun sz => QGi 31 ad (er ad cI cB) D r S0 sz) (by decide) rfl (Nat.le_of_ble_eq_true rfl) ?_
  intro p e s m args below meth c H locs ls hx hb hr hts hown hlocks hml hK hZ hP hS hl
  replace hl : lv_has ls 3 [(0, .ref (ad 0))] := hl
  obtain ⟨QQ, hQQ⟩ : ∃ q, q = MQ below (QGi 31 ad (er ad cI cB) D r S0 s.heap.size) args s 0 0 (AD 31 ad s.heap.size) := ⟨_, rfl⟩
  rw [← hQQ]
  refine lv_aload_n hx hb dX10_keepSet_0 rfl (lv_at hl 0 rfl) ?_
  obtain ⟨r1, hCr1, hE⟩ := st_bo hE
  refine g_calli (va_runV (As := []) (rest := []) ⟨hx, hb, hml, hown, hts⟩ (k_X10_everybody hij hCr1) (cwV 0 hts (wz_V tw_4_178 tw_4_180 tp_19 tw_1_11 tw_4_181) rfl rfl rfl hdV_X10_everybody ⟨Nat.le_of_ble_eq_true rfl, Nat.le_of_ble_eq_true rfl⟩) (g_preV KR_st ZR_st hK hZ hP hS hK.1 ((q_Ref (ad := ad) (cI := cI) (cB := cB))).1 (er_o (q_Ref (ad := ad) (cI := cI) (cB := cB))) rfl) rfl rfl hl.1 rfl (lv_room (Nat.le_of_ble_eq_true rfl)) dX10_keepSet_1 ⟨Nat.zero_le _, Nat.zero_le _⟩) hS (fun H locs hP hS => ?_)
  refine lv_istore_n (lv' := [(1, .int r1), (0, .ref (ad 0))]) hx hb dX10_keepSet_4 rfl hl (by decide) rfl (fun ls hl => ?_)
  refine lv_aload_n hx hb dX10_keepSet_5 rfl (lv_at hl 1 rfl) ?_
  obtain ⟨r2, hCr2, hE⟩ := st_bo hE
  refine g_calli (va_runV (As := []) (rest := []) ⟨hx, hb, hml, hown, hts⟩ (k_X10_everybody hij hCr2) (cwV 0 hts (wz_V tw_4_178 tw_4_180 tp_19 tw_1_11 tw_4_181) rfl rfl rfl hdV_X10_everybody ⟨Nat.le_of_ble_eq_true rfl, Nat.le_of_ble_eq_true rfl⟩) (g_preV KR_st ZR_st hK hZ hP hS hK.1 ((q_Ref (ad := ad) (cI := cI) (cB := cB))).1 (er_o (q_Ref (ad := ad) (cI := cI) (cB := cB))) rfl) rfl rfl hl.1 rfl (lv_room (Nat.le_of_ble_eq_true rfl)) dX10_keepSet_6 ⟨Nat.zero_le _, Nat.zero_le _⟩) hS (fun H locs hP hS => ?_)
  refine lv_istore_n (lv' := [(2, .int r2), (1, .int r1), (0, .ref (ad 0))]) hx hb dX10_keepSet_9 rfl hl (by decide) rfl (fun ls hl => ?_)
  obtain ⟨x4, hx4, hE⟩ := st_bo hE
  refine lp_walk (body := fun (s3 : Int32 × Int32) => b_X10_keepSet_10 S0 s3.1 s3.2) (fun s3 => ∀ (ls : Array Slot) (H : Heap) (locs : List Loc), lv_has ls 3 [(0, .ref (ad 0)), (1, .int s3.1), (2, .int s3.2)] → rP D ad cI cB S0 H → rS ad s H locs → W p l e rmX10_keepSet s m args below meth c H locs 0 0 QQ (F0 m 10 ls [])) (fun x4 => ∀ (ls : Array Slot) (H : Heap) (locs : List Loc), lv_has ls 3 [(1, .int x4)] → rP D ad cI cB S0 H → rS ad s H locs → W p l e rmX10_keepSet s m args below meth c H locs 0 0 QQ (F0 m 45 ls [])) ?_ _ _ _ hx4 ?_ ls H locs (lv_sub hl [2, 1, 0] rfl) hP hS
  · intro s3 t5 hE hKt5 ls H locs hl hP hS
    obtain ⟨c6, c7⟩ := s3
    replace hE : b_X10_keepSet_10 S0 c6 c7 = some t5 := hE
    replace hl : lv_has ls 3 [(0, .ref (ad 0)), (1, .int c6), (2, .int c7)] := hl
    replace hP : rP D ad cI cB S0 H := hP
    unfold b_X10_keepSet_10 at hE
    refine lv_iload_n hx hb dX10_keepSet_10 rfl (lv_at hl 2 rfl) ?_
    refine lv_if_lt (tgt := 45) hx hb dX10_keepSet_11 (by decide) (fun hc8 => ?_) (fun hc8 => ?_)
    · have hE := st_t hE hc8
      have hq := Option.some.inj hE
      subst hq
      exact hKt5 ls H locs (lv_sub hl [1] rfl) hP hS
    · have hE := st_f hE hc8
      refine lv_iload_n hx hb dX10_keepSet_14 rfl (lv_at hl 2 rfl) ?_
      obtain ⟨r9, hCr9, hE⟩ := st_bo hE
      refine g_calli (va_runS (As := [.int c7]) (rest := []) ⟨hx, hb, hml, hown, hts⟩ (k_X10_size hij (S0 := S0) hCr9) (va_cwS 1 hts (wz_S tw_4_147 tw_4_148 tw_1_11 tw_4_149) rfl rfl rfl hdS_X10_size ⟨Nat.le_of_ble_eq_true rfl, Nat.le_of_ble_eq_true rfl⟩) (g_preS KR_st ZR_st hK hZ hP hS) rfl rfl hl.1 rfl (lv_room (Nat.le_of_ble_eq_true rfl)) dX10_keepSet_15 ⟨Nat.zero_le _, Nat.zero_le _⟩) hS (fun H locs hP hS => ?_)
      refine lv_iload_n hx hb dX10_keepSet_18 rfl (lv_at hl 1 rfl) ?_
      obtain ⟨r10, hCr10, hE⟩ := st_bo hE
      refine g_calli (va_runS (As := [.int c6]) (rest := [.int r9]) ⟨hx, hb, hml, hown, hts⟩ (k_X10_size hij (S0 := S0) hCr10) (va_cwS 1 hts (wz_S tw_4_147 tw_4_148 tw_1_11 tw_4_149) rfl rfl rfl hdS_X10_size ⟨Nat.le_of_ble_eq_true rfl, Nat.le_of_ble_eq_true rfl⟩) (g_preS KR_st ZR_st hK hZ hP hS) rfl rfl hl.1 rfl (lv_room (Nat.le_of_ble_eq_true rfl)) dX10_keepSet_19 ⟨Nat.zero_le _, Nat.zero_le _⟩) hS (fun H locs hP hS => ?_)
      refine lv_icmp_gt (tgt := 37) hx hb dX10_keepSet_22 (by decide) (fun hc11 => ?_) (fun hc11 => ?_)
      · have hE := st_t hE hc11
        refine lv_iload_n hx hb dX10_keepSet_37 rfl (lv_at hl 1 rfl) ?_
        refine lv_istore_n (lv' := [(1, .int c6), (0, .ref (ad 0)), (2, .int c7)]) hx hb dX10_keepSet_38 rfl hl (by decide) rfl (fun ls hl => ?_)
        obtain ⟨v12, ev12, hE⟩ := st_bv hE
        refine lv_iinc (v := v12) (lv' := [(2, .int v12), (1, .int c6), (0, .ref (ad 0))]) hx hb dX10_keepSet_39 hl (k := 2) rfl (by rw [ev12]; rfl) (by decide) rfl (fun ls hl => ?_)
        refine lv_goto (tgt := 10) hx hb dX10_keepSet_42 (by decide) ?_
        have hq := Option.some.inj hE
        subst hq
        exact hKt5 ls H locs (lv_sub hl [2, 1, 0] rfl) hP hS
      · have hE := st_f hE hc11
        refine lv_aload_n hx hb dX10_keepSet_25 rfl (lv_at hl 0 rfl) ?_
        refine lv_iload_n hx hb dX10_keepSet_26 rfl (lv_at hl 2 rfl) ?_
        obtain ⟨r13, hCr13, hE⟩ := st_bo hE
        refine g_calli (va_runV (As := [.int c7]) (rest := []) ⟨hx, hb, hml, hown, hts⟩ (k_X10_isSaidSo hij hCr13) (cwV 1 hts (wz_V tw_5_19 tw_5_21 tp_30 tw_1_11 tw_5_22) rfl rfl rfl hdV_X10_isSaidSo ⟨Nat.le_of_ble_eq_true rfl, Nat.le_of_ble_eq_true rfl⟩) (g_preV KR_st ZR_st hK hZ hP hS hK.1 ((q_Ref (ad := ad) (cI := cI) (cB := cB))).1 (er_o (q_Ref (ad := ad) (cI := cI) (cB := cB))) rfl) rfl rfl hl.1 rfl (lv_room (Nat.le_of_ble_eq_true rfl)) dX10_keepSet_27 ⟨Nat.zero_le _, Nat.zero_le _⟩) hS (fun H locs hP hS => ?_)
        refine lv_if_eq (tgt := 37) hx hb dX10_keepSet_30 (by decide) (fun hc14 => ?_) (fun hc14 => ?_)
        · have hE := st_t hE hc14
          refine lv_iload_n hx hb dX10_keepSet_37 rfl (lv_at hl 1 rfl) ?_
          refine lv_istore_n (lv' := [(1, .int c6), (0, .ref (ad 0)), (2, .int c7)]) hx hb dX10_keepSet_38 rfl hl (by decide) rfl (fun ls hl => ?_)
          obtain ⟨v15, ev15, hE⟩ := st_bv hE
          refine lv_iinc (v := v15) (lv' := [(2, .int v15), (1, .int c6), (0, .ref (ad 0))]) hx hb dX10_keepSet_39 hl (k := 2) rfl (by rw [ev15]; rfl) (by decide) rfl (fun ls hl => ?_)
          refine lv_goto (tgt := 10) hx hb dX10_keepSet_42 (by decide) ?_
          have hq := Option.some.inj hE
          subst hq
          exact hKt5 ls H locs (lv_sub hl [2, 1, 0] rfl) hP hS
        · have hE := st_f hE hc14
          refine lv_iload_n hx hb dX10_keepSet_33 rfl (lv_at hl 2 rfl) ?_
          refine lv_goto (tgt := 38) hx hb dX10_keepSet_34 (by decide) ?_
          refine lv_istore_n (lv' := [(1, .int c7), (0, .ref (ad 0)), (2, .int c7)]) hx hb dX10_keepSet_38 rfl hl (by decide) rfl (fun ls hl => ?_)
          obtain ⟨v16, ev16, hE⟩ := st_bv hE
          refine lv_iinc (v := v16) (lv' := [(2, .int v16), (1, .int c7), (0, .ref (ad 0))]) hx hb dX10_keepSet_39 hl (k := 2) rfl (by rw [ev16]; rfl) (by decide) rfl (fun ls hl => ?_)
          refine lv_goto (tgt := 10) hx hb dX10_keepSet_42 (by decide) ?_
          have hq := Option.some.inj hE
          subst hq
          exact hKt5 ls H locs (lv_sub hl [2, 1, 0] rfl) hP hS
  · intro ls H locs hl hP hS
    refine lv_iload_n hx hb dX10_keepSet_45 rfl (lv_at hl 0 rfl) ?_
    replace hE := Option.some.inj hE
    subst hQQ
    exact g_iret hx hb hr hlocks hP hS hE rfl dX10_keepSet_46
def b_X10_peaceSet_10 (S0 : SR) (c6 : Int32) (c7 : Int32) : Option ((Int32 × Int32) ⊕ (Int32)) :=
  if c7 < 0 then (some (.inr c6)) else (bo (f_X10_size c7) (fun (r9 : Int32) => bo (f_X10_size c6) (fun (r10 : Int32) => if r10 < r9 then (bv (c7 + (-1)) (fun (v12 : Int32) => some (.inl (c6, v12)))) else (bo (f_X10_everybody S0) (fun (r13 : Int32) => bo (f_X10_clashesAmong S0 (r13 &&& (c7 ^^^ (-1)))) (fun (r14 : Int32) => if r14 = 0 then (bv (c7 + (-1)) (fun (v17 : Int32) => some (.inl (c7, v17)))) else (bv (c7 + (-1)) (fun (v16 : Int32) => some (.inl (c6, v16))))))))))
def f_X10_peaceSet (S0 : SR) : Option (Int32) :=
  bo (f_X10_everybody S0) (fun (r1 : Int32) => bo (f_X10_everybody S0) (fun (r2 : Int32) => bo (lp (fun (s3 : Int32 × Int32) => b_X10_peaceSet_10 S0 s3.1 s3.2) 5000 (r1, r2)) (fun (x4 : Int32) => some x4)))
abbrev rmX10_peaceSet : Room := { frames := 4, cells := 0, slots := 0, locals := 95 }
theorem hdV_X10_peaceSet : yX10_peaceSet.cls = "WitnessWallModel" ∧ yX10_peaceSet.cls ≠ "java/lang/invoke/MethodHandle" ∧ yX10_peaceSet.cls ≠ "java/lang/invoke/VarHandle" ∧ (parseMethodDescriptor yX10_peaceSet.desc).map (fun d => d.parameters.length) = some 0 := by decide +kernel
set_option maxHeartbeats 4000000 in
set_option maxRecDepth 100000 in
theorem k_X10_peaceSet {l : Launch} {D : va_G} {ad : Nat → Nat} {cI cB : ClassId} (hij : inj 31 ad)  {S0 : SR} {r : Int32} (hE : f_X10_peaceSet S0 = some r) {sz : Nat} : Met l yX10_peaceSet (wz yX10_peaceSet cX10_peaceSet 3 (some FieldType.int)) rmX10_peaceSet (PG 31 ad (er ad cI cB) D (KR D cI cB) ZR [.ref (ad 0)] S0 sz) (QGi 31 ad (er ad cI cB) D r S0 sz) 0 0 (AD 31 ad sz) := by
  unfold f_X10_peaceSet at hE
  refine g_start (cc := cX10_peaceSet) (maxL := 3) (ret := (some FieldType.int)) (Qc := fun sz => QGi 31 ad (er ad cI cB) D r S0 sz) (by decide) rfl (Nat.le_of_ble_eq_true rfl) ?_
  intro p e s m args below meth c H locs ls hx hb hr hts hown hlocks hml hK hZ hP hS hl
  replace hl : lv_has ls 3 [(0, .ref (ad 0))] := hl
  obtain ⟨QQ, hQQ⟩ : ∃ q, q = MQ below (QGi 31 ad (er ad cI cB) D r S0 s.heap.size) args s 0 0 (AD 31 ad s.heap.size) := ⟨_, rfl⟩
  rw [← hQQ]
  refine lv_aload_n hx hb dX10_peaceSet_0 rfl (lv_at hl 0 rfl) ?_
  obtain ⟨r1, hCr1, hE⟩ := st_bo hE
  refine g_calli (va_runV (As := []) (rest := []) ⟨hx, hb, hml, hown, hts⟩ (k_X10_everybody hij hCr1) (cwV 0 hts (wz_V tw_4_178 tw_4_180 tp_19 tw_1_11 tw_4_181) rfl rfl rfl hdV_X10_everybody ⟨Nat.le_of_ble_eq_true rfl, Nat.le_of_ble_eq_true rfl⟩) (g_preV KR_st ZR_st hK hZ hP hS hK.1 ((q_Ref (ad := ad) (cI := cI) (cB := cB))).1 (er_o (q_Ref (ad := ad) (cI := cI) (cB := cB))) rfl) rfl rfl hl.1 rfl (lv_room (Nat.le_of_ble_eq_true rfl)) dX10_peaceSet_1 ⟨Nat.zero_le _, Nat.zero_le _⟩) hS (fun H locs hP hS => ?_)
  refine lv_istore_n (lv' := [(1, .int r1), (0, .ref (ad 0))]) hx hb dX10_peaceSet_4 rfl hl (by decide) rfl (fun ls hl => ?_)
  refine lv_aload_n hx hb dX10_peaceSet_5 rfl (lv_at hl 1 rfl) ?_
  obtain ⟨r2, hCr2, hE⟩ := st_bo hE
  refine g_calli (va_runV (As := []) (rest := []) ⟨hx, hb, hml, hown, hts⟩ (k_X10_everybody hij hCr2) (cwV 0 hts (wz_V tw_4_178 tw_4_180 tp_19 tw_1_11 tw_4_181) rfl rfl rfl hdV_X10_everybody ⟨Nat.le_of_ble_eq_true rfl, Nat.le_of_ble_eq_true rfl⟩) (g_preV KR_st ZR_st hK hZ hP hS hK.1 ((q_Ref (ad := ad) (cI := cI) (cB := cB))).1 (er_o (q_Ref (ad := ad) (cI := cI) (cB := cB))) rfl) rfl rfl hl.1 rfl (lv_room (Nat.le_of_ble_eq_true rfl)) dX10_peaceSet_6 ⟨Nat.zero_le _, Nat.zero_le _⟩) hS (fun H locs hP hS => ?_)
  refine lv_istore_n (lv' := [(2, .int r2), (1, .int r1), (0, .ref (ad 0))]) hx hb dX10_peaceSet_9 rfl hl (by decide) rfl (fun ls hl => ?_)
  obtain ⟨x4, hx4, hE⟩ := st_bo hE
  refine lp_walk (body := fun (s3 : Int32 × Int32) => b_X10_peaceSet_10 S0 s3.1 s3.2) (fun s3 => ∀ (ls : Array Slot) (H : Heap) (locs : List Loc), lv_has ls 3 [(0, .ref (ad 0)), (1, .int s3.1), (2, .int s3.2)] → rP D ad cI cB S0 H → rS ad s H locs → W p l e rmX10_peaceSet s m args below meth c H locs 0 0 QQ (F0 m 10 ls [])) (fun x4 => ∀ (ls : Array Slot) (H : Heap) (locs : List Loc), lv_has ls 3 [(1, .int x4)] → rP D ad cI cB S0 H → rS ad s H locs → W p l e rmX10_peaceSet s m args below meth c H locs 0 0 QQ (F0 m 52 ls [])) ?_ _ _ _ hx4 ?_ ls H locs (lv_sub hl [2, 1, 0] rfl) hP hS
  · intro s3 t5 hE hKt5 ls H locs hl hP hS
    obtain ⟨c6, c7⟩ := s3
    replace hE : b_X10_peaceSet_10 S0 c6 c7 = some t5 := hE
    replace hl : lv_has ls 3 [(0, .ref (ad 0)), (1, .int c6), (2, .int c7)] := hl
    replace hP : rP D ad cI cB S0 H := hP
    unfold b_X10_peaceSet_10 at hE
    refine lv_iload_n hx hb dX10_peaceSet_10 rfl (lv_at hl 2 rfl) ?_
    refine lv_if_lt (tgt := 52) hx hb dX10_peaceSet_11 (by decide) (fun hc8 => ?_) (fun hc8 => ?_)
    · have hE := st_t hE hc8
      have hq := Option.some.inj hE
      subst hq
      exact hKt5 ls H locs (lv_sub hl [1] rfl) hP hS
    · have hE := st_f hE hc8
      refine lv_iload_n hx hb dX10_peaceSet_14 rfl (lv_at hl 2 rfl) ?_
      obtain ⟨r9, hCr9, hE⟩ := st_bo hE
      refine g_calli (va_runS (As := [.int c7]) (rest := []) ⟨hx, hb, hml, hown, hts⟩ (k_X10_size hij (S0 := S0) hCr9) (va_cwS 1 hts (wz_S tw_4_147 tw_4_148 tw_1_11 tw_4_149) rfl rfl rfl hdS_X10_size ⟨Nat.le_of_ble_eq_true rfl, Nat.le_of_ble_eq_true rfl⟩) (g_preS KR_st ZR_st hK hZ hP hS) rfl rfl hl.1 rfl (lv_room (Nat.le_of_ble_eq_true rfl)) dX10_peaceSet_15 ⟨Nat.zero_le _, Nat.zero_le _⟩) hS (fun H locs hP hS => ?_)
      refine lv_iload_n hx hb dX10_peaceSet_18 rfl (lv_at hl 1 rfl) ?_
      obtain ⟨r10, hCr10, hE⟩ := st_bo hE
      refine g_calli (va_runS (As := [.int c6]) (rest := [.int r9]) ⟨hx, hb, hml, hown, hts⟩ (k_X10_size hij (S0 := S0) hCr10) (va_cwS 1 hts (wz_S tw_4_147 tw_4_148 tw_1_11 tw_4_149) rfl rfl rfl hdS_X10_size ⟨Nat.le_of_ble_eq_true rfl, Nat.le_of_ble_eq_true rfl⟩) (g_preS KR_st ZR_st hK hZ hP hS) rfl rfl hl.1 rfl (lv_room (Nat.le_of_ble_eq_true rfl)) dX10_peaceSet_19 ⟨Nat.zero_le _, Nat.zero_le _⟩) hS (fun H locs hP hS => ?_)
      refine lv_icmp_gt (tgt := 44) hx hb dX10_peaceSet_22 (by decide) (fun hc11 => ?_) (fun hc11 => ?_)
      · have hE := st_t hE hc11
        refine lv_iload_n hx hb dX10_peaceSet_44 rfl (lv_at hl 1 rfl) ?_
        refine lv_istore_n (lv' := [(1, .int c6), (0, .ref (ad 0)), (2, .int c7)]) hx hb dX10_peaceSet_45 rfl hl (by decide) rfl (fun ls hl => ?_)
        obtain ⟨v12, ev12, hE⟩ := st_bv hE
        refine lv_iinc (v := v12) (lv' := [(2, .int v12), (1, .int c6), (0, .ref (ad 0))]) hx hb dX10_peaceSet_46 hl (k := 2) rfl (by rw [ev12]; rfl) (by decide) rfl (fun ls hl => ?_)
        refine lv_goto (tgt := 10) hx hb dX10_peaceSet_49 (by decide) ?_
        have hq := Option.some.inj hE
        subst hq
        exact hKt5 ls H locs (lv_sub hl [2, 1, 0] rfl) hP hS
      · have hE := st_f hE hc11
        refine lv_aload_n hx hb dX10_peaceSet_25 rfl (lv_at hl 0 rfl) ?_
        refine lv_aload_n hx hb dX10_peaceSet_26 rfl (lv_at hl 0 rfl) ?_
        obtain ⟨r13, hCr13, hE⟩ := st_bo hE
        refine g_calli (va_runV (As := []) (rest := [.ref (ad 0)]) ⟨hx, hb, hml, hown, hts⟩ (k_X10_everybody hij hCr13) (cwV 0 hts (wz_V tw_4_178 tw_4_180 tp_19 tw_1_11 tw_4_181) rfl rfl rfl hdV_X10_everybody ⟨Nat.le_of_ble_eq_true rfl, Nat.le_of_ble_eq_true rfl⟩) (g_preV KR_st ZR_st hK hZ hP hS hK.1 ((q_Ref (ad := ad) (cI := cI) (cB := cB))).1 (er_o (q_Ref (ad := ad) (cI := cI) (cB := cB))) rfl) rfl rfl hl.1 rfl (lv_room (Nat.le_of_ble_eq_true rfl)) dX10_peaceSet_27 ⟨Nat.zero_le _, Nat.zero_le _⟩) hS (fun H locs hP hS => ?_)
        refine lv_iload_n hx hb dX10_peaceSet_30 rfl (lv_at hl 2 rfl) ?_
        refine lv_iconst (v := (-1)) hx hb dX10_peaceSet_31 (by decide) ?_
        refine lv_ixor hx hb dX10_peaceSet_32 ?_
        refine lv_iand hx hb dX10_peaceSet_33 ?_
        obtain ⟨r14, hCr14, hE⟩ := st_bo hE
        refine g_calli (va_runV (As := [.int (r13 &&& (c7 ^^^ (-1)))]) (rest := []) ⟨hx, hb, hml, hown, hts⟩ (k_X10_clashesAmong hij hCr14) (cwV 1 hts (wz_V tw_5_31 tw_5_33 tp_32 tw_1_11 tw_5_34) rfl rfl rfl hdV_X10_clashesAmong ⟨Nat.le_of_ble_eq_true rfl, Nat.le_of_ble_eq_true rfl⟩) (g_preV KR_st ZR_st hK hZ hP hS hK.1 ((q_Ref (ad := ad) (cI := cI) (cB := cB))).1 (er_o (q_Ref (ad := ad) (cI := cI) (cB := cB))) rfl) rfl rfl hl.1 rfl (lv_room (Nat.le_of_ble_eq_true rfl)) dX10_peaceSet_34 ⟨Nat.zero_le _, Nat.zero_le _⟩) hS (fun H locs hP hS => ?_)
        refine lv_if_ne (tgt := 44) hx hb dX10_peaceSet_37 (by decide) (fun hc15 => ?_) (fun hc15 => ?_)
        · have hE := st_f hE hc15
          refine lv_iload_n hx hb dX10_peaceSet_44 rfl (lv_at hl 1 rfl) ?_
          refine lv_istore_n (lv' := [(1, .int c6), (0, .ref (ad 0)), (2, .int c7)]) hx hb dX10_peaceSet_45 rfl hl (by decide) rfl (fun ls hl => ?_)
          obtain ⟨v16, ev16, hE⟩ := st_bv hE
          refine lv_iinc (v := v16) (lv' := [(2, .int v16), (1, .int c6), (0, .ref (ad 0))]) hx hb dX10_peaceSet_46 hl (k := 2) rfl (by rw [ev16]; rfl) (by decide) rfl (fun ls hl => ?_)
          refine lv_goto (tgt := 10) hx hb dX10_peaceSet_49 (by decide) ?_
          have hq := Option.some.inj hE
          subst hq
          exact hKt5 ls H locs (lv_sub hl [2, 1, 0] rfl) hP hS
        · have hE := st_t hE hc15
          refine lv_iload_n hx hb dX10_peaceSet_40 rfl (lv_at hl 2 rfl) ?_
          refine lv_goto (tgt := 45) hx hb dX10_peaceSet_41 (by decide) ?_
          refine lv_istore_n (lv' := [(1, .int c7), (0, .ref (ad 0)), (2, .int c7)]) hx hb dX10_peaceSet_45 rfl hl (by decide) rfl (fun ls hl => ?_)
          obtain ⟨v17, ev17, hE⟩ := st_bv hE
          refine lv_iinc (v := v17) (lv' := [(2, .int v17), (1, .int c7), (0, .ref (ad 0))]) hx hb dX10_peaceSet_46 hl (k := 2) rfl (by rw [ev17]; rfl) (by decide) rfl (fun ls hl => ?_)
          refine lv_goto (tgt := 10) hx hb dX10_peaceSet_49 (by decide) ?_
          have hq := Option.some.inj hE
          subst hq
          exact hKt5 ls H locs (lv_sub hl [2, 1, 0] rfl) hP hS
  · intro ls H locs hl hP hS
    refine lv_iload_n hx hb dX10_peaceSet_52 rfl (lv_at hl 0 rfl) ?_
    replace hE := Option.some.inj hE
    subst hQQ
    exact g_iret hx hb hr hlocks hP hS hE rfl dX10_peaceSet_53

theorem nwC_in : ∀ w ∈ nwC, w ∈ lw_tbl := by
  unfold nwC
  exact List.forall_mem_cons.mpr ⟨tl_1 (i := 24) rfl, List.forall_mem_cons.mpr ⟨tl_1 (i := 37) rfl, List.forall_mem_cons.mpr ⟨tl_1 (i := 43) rfl, List.forall_mem_cons.mpr ⟨tl_1 (i := 44) rfl, List.forall_mem_cons.mpr ⟨tl_1 (i := 46) rfl, List.forall_mem_cons.mpr ⟨tl_1 (i := 56) rfl, List.forall_mem_cons.mpr ⟨tl_1 (i := 57) rfl, List.forall_mem_cons.mpr ⟨tl_1 (i := 58) rfl, List.forall_mem_cons.mpr ⟨tl_1 (i := 61) rfl, List.forall_mem_cons.mpr ⟨tl_1 (i := 62) rfl, List.forall_mem_cons.mpr ⟨tl_1 (i := 63) rfl, List.forall_mem_cons.mpr ⟨tl_1 (i := 73) rfl, List.forall_mem_cons.mpr ⟨tl_1 (i := 78) rfl, List.forall_mem_cons.mpr ⟨tl_1 (i := 80) rfl, List.forall_mem_cons.mpr ⟨tl_1 (i := 82) rfl, List.forall_mem_cons.mpr ⟨tl_1 (i := 83) rfl, List.forall_mem_cons.mpr ⟨tl_1 (i := 84) rfl, List.forall_mem_cons.mpr ⟨tl_1 (i := 93) rfl, List.forall_mem_cons.mpr ⟨tl_1 (i := 95) rfl, List.forall_mem_cons.mpr ⟨tl_1 (i := 97) rfl, List.forall_mem_cons.mpr ⟨tl_1 (i := 99) rfl, List.forall_mem_cons.mpr ⟨tl_1 (i := 116) rfl, List.forall_mem_cons.mpr ⟨tl_1 (i := 119) rfl, List.forall_mem_cons.mpr ⟨tl_1 (i := 127) rfl, List.forall_mem_cons.mpr ⟨tl_1 (i := 135) rfl, List.forall_mem_cons.mpr ⟨tl_1 (i := 136) rfl, List.forall_mem_cons.mpr ⟨tl_1 (i := 148) rfl, List.forall_mem_cons.mpr ⟨tl_1 (i := 155) rfl, List.forall_mem_cons.mpr ⟨tl_1 (i := 156) rfl, List.forall_mem_cons.mpr ⟨tl_1 (i := 165) rfl, List.forall_mem_cons.mpr ⟨tl_1 (i := 167) rfl, List.forall_mem_cons.mpr ⟨tl_1 (i := 169) rfl, List.forall_mem_cons.mpr ⟨tl_1 (i := 171) rfl, List.forall_mem_cons.mpr ⟨tl_1 (i := 185) rfl, List.forall_mem_cons.mpr ⟨tl_1 (i := 198) rfl, List.forall_mem_cons.mpr ⟨tl_2 (i := 28) rfl, List.forall_mem_cons.mpr ⟨tl_2 (i := 53) rfl, List.forall_mem_cons.mpr ⟨tl_2 (i := 60) rfl, List.forall_mem_cons.mpr ⟨tl_2 (i := 79) rfl, List.forall_mem_cons.mpr ⟨tl_2 (i := 133) rfl, List.forall_mem_cons.mpr ⟨tl_3 (i := 3) rfl, fun _ h => absurd h List.not_mem_nil⟩⟩⟩⟩⟩⟩⟩⟩⟩⟩⟩⟩⟩⟩⟩⟩⟩⟩⟩⟩⟩⟩⟩⟩⟩⟩⟩⟩⟩⟩⟩⟩⟩⟩⟩⟩⟩⟩⟩⟩⟩
theorem gw_init2 {w2 : va_W} {k : Nat} {x : Nat × va_E} (h : w2[k]? = some x) : ([] ++ w2)[k]? = some x := h
set_option maxHeartbeats 8000000 in
set_option maxRecDepth 100000 in
theorem whole_open {Rel : Nat → (Nat → Nat → Int32) → SR → Prop} (O : Ops Rel) (hR0 : Rel 0 (fun _ _ => 0) ((fun _ _ => 0), fun _ => 0)) {p : Program} {e : Env} {s : State} {m : MethodId} {below : List Frame} {meth : Method} {c : Code} (l : Launch) {b L : Nat} {xs : Nat → Int32} (hL : L ≤ 2560) (C0 : lw_At p s m meth c b L xs) : W p l e room_1 s m #[Value.ref b] below meth c s.heap [] 0 0 (lw_Z below #[Value.ref b] s) (entryFrame m ([Value.ref b] : List Value).toArray 4) := by
  obtain ⟨hx, hb, hr, hml, hown, hts, hX, hbl, hlocks, hgv⟩ := id C0
  have hA : ∀ q : Nat, s.heap.size ≤ q → AL s q := fun _ h => h
  obtain ⟨c0, iS0, hKn0⟩ := u_known (C := RX0) (T := TX0) (N := 3) (n := 3) hts (fun w h => TG_sub (inX0 w h)) (hts _ (TG_sub tw_1_72))
  obtain ⟨c1, iS1, hKn1⟩ := u_known (C := RX1) (T := TX1) (N := 3) (n := 3) hts (fun w h => TG_sub (inX1 w h)) (hts _ (TG_sub tw_1_29))
  obtain ⟨c2, iS2, hKn2⟩ := u_known (C := RX2) (T := TX2) (N := 6) (n := 6) hts (fun w h => TG_sub (inX2 w h)) (hts _ (TG_sub tw_1_23))
  obtain ⟨c3, iS3, hKn3⟩ := u_known (C := RX3) (T := TX3) (N := 4) (n := 4) hts (fun w h => TG_sub (inX3 w h)) (hts _ (TG_sub tw_1_118))
  obtain ⟨c4, iS4, hKn4⟩ := u_known (C := RX4) (T := TX4) (N := 3) (n := 3) hts (fun w h => TG_sub (inX4 w h)) (hts _ (TG_sub tw_1_147))
  obtain ⟨c5, iS5, hKn5⟩ := u_known (C := RX5) (T := TX5) (N := 4) (n := 4) hts (fun w h => TG_sub (inX5 w h)) (hts _ (TG_sub tw_1_126))
  obtain ⟨c6, iS6, hKn6⟩ := u_known (C := RX6) (T := TX6) (N := 2) (n := 2) hts (fun w h => TG_sub (inX6 w h)) (hts _ (TG_sub tw_1_184))
  obtain ⟨c7, iS7, hKn7⟩ := u_known (C := RX7) (T := TX7) (N := 3) (n := 3) hts (fun w h => TG_sub (inX7 w h)) (hts _ (TG_sub tw_1_36))
  obtain ⟨c8, iS8, hKn8⟩ := u_known (C := RX8) (T := TX8) (N := 2) (n := 2) hts (fun w h => TG_sub (inX8 w h)) (hts _ (TG_sub tw_1_197))
  obtain ⟨c9, iS9, hKn9⟩ := u_known (C := RX9) (T := TX9) (N := 9) (n := 9) hts (fun w h => TG_sub (inX9 w h)) (hts _ (TG_sub tw_1_15))
  obtain ⟨c10, iS10, hKn10⟩ := u_known (C := RX10) (T := TX10) (N := 48) (n := 48) hts (fun w h => TG_sub (inX10 w h)) (hts _ (TG_sub tw_3_151))
  obtain ⟨D, hKc⟩ : ∃ D : va_G, ∀ (k : Nat) (q : vw_C), vwCl[k]? = some q → u_Kn s q.1 q.2.1 q.2.2 (D.1 k) (D.2 k) := by
    refine ⟨(fun k => if k = 0 then c0 else if k = 1 then c1 else if k = 2 then c2 else if k = 3 then c3 else if k = 4 then c4 else if k = 5 then c5 else if k = 6 then c6 else if k = 7 then c7 else if k = 8 then c8 else if k = 9 then c9 else c10, fun k => if k = 0 then iS0 else if k = 1 then iS1 else if k = 2 then iS2 else if k = 3 then iS3 else if k = 4 then iS4 else if k = 5 then iS5 else if k = 6 then iS6 else if k = 7 then iS7 else if k = 8 then iS8 else if k = 9 then iS9 else iS10), ?_⟩
    intro k q hq
    match k, hq with
    | 0, hq => cases hq; exact hKn0
    | 1, hq => cases hq; exact hKn1
    | 2, hq => cases hq; exact hKn2
    | 3, hq => cases hq; exact hKn3
    | 4, hq => cases hq; exact hKn4
    | 5, hq => cases hq; exact hKn5
    | 6, hq => cases hq; exact hKn6
    | 7, hq => cases hq; exact hKn7
    | 8, hq => cases hq; exact hKn8
    | 9, hq => cases hq; exact hKn9
    | 10, hq => cases hq; exact hKn10
    | k + 11, hq => simp [vwCl] at hq
  obtain ⟨cI, kI, pI, i1, i2, i3⟩ := Cond.arrayClass_spec (hts (.arrayClass .int) (TG_sub tw_1_54))
  obtain ⟨cB, kB, pB, b1, b2, b3⟩ := Cond.arrayClass_spec (hts (.arrayClass .byte) (TG_sub tw_4_61))
  have hAO : va_AO "WitnessWall$Witness" s := va_AO.of (hts (.arrayOver (.object "WitnessWall$Witness")) (tl_1 (i := 35) rfl))
  obtain ⟨pW, cW, kW, w1, w2, w3, w4, w5⟩ := Cond.arrayOver_spec (hts (.arrayOver (.object "WitnessWall$Witness")) (tl_1 (i := 35) rfl))
  have hKC : va_K D vwCl [(cI, .int), (cW, .object "WitnessWall$Witness")] s := by
    refine ⟨hKc, fun k q h => ?_⟩
    match k, h with
    | 0, h => cases h; exact ⟨fun N z => ⟨(fun k h => by cases h), kI, i2, pI, i3⟩, i1⟩
    | 1, h => cases h; exact ⟨fun N z => ⟨(fun k h => by cases h), kW, w3, pW, w4⟩, kW, pW, w3, w4, w1, w5⟩
    | k + 2, h => simp at h
  have hKR : KR D cI cB s := by
    refine ⟨⟨hKc, fun k q h => ?_⟩, trivial⟩
    match k, h with
    | 0, h => cases h; exact ⟨fun N z => ⟨(fun k h => by cases h), kI, i2, pI, i3⟩, i1⟩
    | 1, h => cases h; exact ⟨fun N z => ⟨(fun k h => by cases h), kB, b2, pB, b3⟩, b1⟩
    | k + 2, h => simp at h
  have hNW : ∀ w ∈ nwC, va_Nw w s := fun w hw => va_Nw.of (nw_on (List.all_eq_true.mp nwC_all w hw)) (hts w (nwC_in w hw))
  have hKI : KI D cI cW s := ⟨hKC, hNW, hAO⟩
  have hflat := flat_of_before _ hgv
  have hnA : ∀ a : Nat, a < s.heap.size → ¬ AL s a := fun a h => Nat.not_le.mpr h
  obtain ⟨tK, eK, hTK⟩ := va_Tof (tm := (.static "WitnessWall" "KIND_LETTERS" "[C")) (ty := .char) (N := 5) (f := fKl) (A := AL s) (by decide) (hflat (.arrayOf (.static "WitnessWall" "KIND_LETTERS" "[C") .char) (by decide +kernel)) (va_eqt (hflat (.eq (.length (.static "WitnessWall" "KIND_LETTERS" "[C")) (.int 5)) (by decide +kernel))) (fun j hj => by
    match j, hj with
    | 0, _ => exact va_eqt (hflat (.eq (.elem (.static "WitnessWall" "KIND_LETTERS" "[C") (.int 0)) (.int 119)) (by decide +kernel))
    | 1, _ => exact va_eqt (hflat (.eq (.elem (.static "WitnessWall" "KIND_LETTERS" "[C") (.int 1)) (.int 102)) (by decide +kernel))
    | 2, _ => exact va_eqt (hflat (.eq (.elem (.static "WitnessWall" "KIND_LETTERS" "[C") (.int 2)) (.int 98)) (by decide +kernel))
    | 3, _ => exact va_eqt (hflat (.eq (.elem (.static "WitnessWall" "KIND_LETTERS" "[C") (.int 3)) (.int 109)) (by decide +kernel))
    | 4, _ => exact va_eqt (hflat (.eq (.elem (.static "WitnessWall" "KIND_LETTERS" "[C") (.int 4)) (.int 115)) (by decide +kernel))
    | j + 5, hj => exact absurd hj (by omega)) hnA
  have hZK := va_Zref (n := "KIND_LETTERS") (d := "[C") (hts (.laysStatic "WitnessWall" "KIND_LETTERS" "[C") (tl_2 (i := 29) rfl)) (hts _ (TG_sub tw_1_1)) eK hnA
  obtain ⟨tC, eC, hTC⟩ := va_Tof (tm := (.static "WitnessWall" "COULD" "[I")) (ty := .int) (N := 4) (f := fCo) (A := AL s) (by decide) (hflat (.arrayOf (.static "WitnessWall" "COULD" "[I") .int) (by decide +kernel)) (va_eqt (hflat (.eq (.length (.static "WitnessWall" "COULD" "[I")) (.int 4)) (by decide +kernel))) (fun j hj => by
    match j, hj with
    | 0, _ => exact va_eqt (hflat (.eq (.elem (.static "WitnessWall" "COULD" "[I") (.int 0)) (.int 25)) (by decide +kernel))
    | 1, _ => exact va_eqt (hflat (.eq (.elem (.static "WitnessWall" "COULD" "[I") (.int 1)) (.int 11)) (by decide +kernel))
    | 2, _ => exact va_eqt (hflat (.eq (.elem (.static "WitnessWall" "COULD" "[I") (.int 2)) (.int 27)) (by decide +kernel))
    | 3, _ => exact va_eqt (hflat (.eq (.elem (.static "WitnessWall" "COULD" "[I") (.int 3)) (.int 1)) (by decide +kernel))
    | j + 4, hj => exact absurd hj (by omega)) hnA
  have hZC := va_Zref (n := "COULD") (d := "[I") (hts (.laysStatic "WitnessWall" "COULD" "[I") (tl_2 (i := 134) rfl)) (hts _ (TG_sub tw_1_1)) eC hnA
  have hZ : ZC tK tC (AL s) s s.heap := ⟨hZK, hTK, hZC, hTC⟩
  have hS : va_S (AL s) s.heap s.heap [] := va_S.rf
  have hP : va_P D vwCl [] s.heap := fun k q h => by simp at h
  have hD : va_D (AL s) [] := ⟨fun i j p q h => by simp at h, fun k q h => by simp at h⟩
  have hl := lv_entry ([.ref b]) (n := 4) (Nat.le_of_ble_eq_true rfl)
  rw [lg_entry_eq]
  generalize (lg_sl ([.ref b]) ++ List.replicate (4 - (lg_sl ([.ref b])).length) Slot.unset).toArray = ls at hl ⊢
  have hl : lv_has ls 4 [(0, .ref b)] := hl
  refine va_new (ci := 9) (fs := [.null, .null, .null, .null, .null, .null, .null, .int 0, .int 0]) (C := RX9) (T := TX9) (N := 9) hx hb hts (fun w h => TG_sub (inX9 w h)) tyX9 tyX9_ok hown (hts _ (TG_sub tw_1_14)) (hts _ (TG_sub tw_1_15)) (hts _ (TG_sub tw_1_1)) hKC hP hD hS hA rfl (fun j hj => by match j, hj with | 0, _ => rfl | 1, _ => rfl | 2, _ => rfl | 3, _ => rfl | 4, _ => rfl | 5, _ => rfl | 6, _ => rfl | 7, _ => rfl | 8, _ => rfl | j + 9, hj => exact absurd hj (by omega)) (Nat.le_of_ble_eq_true rfl) (Nat.le_of_ble_eq_true rfl) dL_law_0 (fun qa H hP hD hS => ?_)
  refine W.widen (k := 1) (n := 9) (Nat.le_of_ble_eq_true rfl) (Nat.le_of_ble_eq_true rfl) ?_
  refine lv_dup hx hb dL_law_3 rfl ?_
  refine i_call (va_runI (As := []) (rest := [.ref qa]) ⟨hx, hb, hml, hown, hts⟩ (k_X9_init (D := D) (cI := cI) (cW := cW) (h0 := qa) (sz := H.size)) (cwI 0 hts (lt_good tw_1_18) rfl rfl rfl (hts _ (TG_sub tw_1_1)) (hts _ (TG_sub tw_1_16)) (hts _ (TG_sub tw_1_17)) rfl hdI_X9 ⟨Nat.le_of_ble_eq_true rfl, Nat.le_of_ble_eq_true rfl⟩) (i_pre KI_st hKI hP) rfl rfl hl.1 rfl (lv_room (Nat.le_of_ble_eq_true rfl)) dL_law_4 ⟨Nat.le_of_ble_eq_true rfl, Nat.le_of_ble_eq_true rfl⟩) hP hD hS hA (fun ad1 H locs ead1 hP hD hS => ?_)
  rw [← ead1]
  refine W.widen (k := 83) (n := 544) (Nat.le_of_ble_eq_true rfl) (Nat.le_of_ble_eq_true rfl) ?_
  refine lv_astore_n (lv' := [(1, .ref (ad1 0)), (0, .ref b)]) hx hb dL_law_7 rfl hl (by decide) rfl (fun ls hl => ?_)
  refine va_new (ci := 10) (fs := [.int 0, .int 0, .null, .null, .null, .int 0, .null, .null, .int 0, .null, .null, .null, .int 0, .int 0, .null, .null, .null, .int 0, .null, .int 0, .int 0, .int 0, .null, .null, .null, .null, .null, .int 0, .null, .null, .null, .null, .long 0, .int 0, .int 0, .int 0, .int 0, .int 0, .null, .null, .null, .null, .null, .null, .null, .null, .null, .long 0]) (C := RX10) (T := TX10) (N := 48) hx hb hts (fun w h => TG_sub (inX10 w h)) tyX10 tyX10_ok hown (hts _ (TG_sub tw_3_150)) (hts _ (TG_sub tw_3_151)) (hts _ (TG_sub tw_1_11)) hKC hP hD hS hA rfl (fun j hj => by match j, hj with | 0, _ => rfl | 1, _ => rfl | 2, _ => rfl | 3, _ => rfl | 4, _ => rfl | 5, _ => rfl | 6, _ => rfl | 7, _ => rfl | 8, _ => rfl | 9, _ => rfl | 10, _ => rfl | 11, _ => rfl | 12, _ => rfl | 13, _ => rfl | 14, _ => rfl | 15, _ => rfl | 16, _ => rfl | 17, _ => rfl | 18, _ => rfl | 19, _ => rfl | 20, _ => rfl | 21, _ => rfl | 22, _ => rfl | 23, _ => rfl | 24, _ => rfl | 25, _ => rfl | 26, _ => rfl | 27, _ => rfl | 28, _ => rfl | 29, _ => rfl | 30, _ => rfl | 31, _ => rfl | 32, _ => rfl | 33, _ => rfl | 34, _ => rfl | 35, _ => rfl | 36, _ => rfl | 37, _ => rfl | 38, _ => rfl | 39, _ => rfl | 40, _ => rfl | 41, _ => rfl | 42, _ => rfl | 43, _ => rfl | 44, _ => rfl | 45, _ => rfl | 46, _ => rfl | 47, _ => rfl | j + 48, hj => exact absurd hj (by omega)) (Nat.le_of_ble_eq_true rfl) (Nat.le_of_ble_eq_true rfl) dL_law_8 (fun qb H hP hD hS => ?_)
  refine W.widen (k := 84) (n := 592) (Nat.le_of_ble_eq_true rfl) (Nat.le_of_ble_eq_true rfl) ?_
  refine lv_dup hx hb dL_law_11 rfl ?_
  refine i_call (va_runI (As := []) (rest := [.ref qb]) ⟨hx, hb, hml, hown, hts⟩ (k_X10_init (D := D) (cI := cI) (cB := cB) (h0 := qb) (sz := H.size)) (cwI 0 hts (lt_good tw_3_154) rfl rfl rfl (hts _ (TG_sub tw_1_11)) (hts _ (TG_sub tw_3_152)) (hts _ (TG_sub tw_3_153)) rfl hdI_X10 ⟨Nat.le_of_ble_eq_true rfl, Nat.le_of_ble_eq_true rfl⟩) (i_pre KR_st hKR hP) rfl rfl hl.1 rfl (lv_room (Nat.le_of_ble_eq_true rfl)) dL_law_12 ⟨Nat.le_of_ble_eq_true rfl, Nat.le_of_ble_eq_true rfl⟩) hP hD hS hA (fun ad2 H locs ead2 hP hD hS => ?_)
  rw [← ead2]
  refine W.widen (k := 114) (n := 979) (Nat.le_of_ble_eq_true rfl) (Nat.le_of_ble_eq_true rfl) ?_
  refine lv_astore_n (lv' := [(2, .ref (ad2 0)), (1, .ref (ad1 0)), (0, .ref b)]) hx hb dL_law_15 rfl hl (by decide) rfl (fun ls hl => ?_)
  refine lv_iconst (v := 0) hx hb dL_law_16 (by decide) ?_
  refine lv_istore_n (lv' := [(3, .int 0), (2, .ref (ad2 0)), (1, .ref (ad1 0)), (0, .ref b)]) hx hb dL_law_17 rfl hl (by decide) rfl (fun ls hl => ?_)
  have hP1 := va_P_left hP
  have hP2 := va_P_right hP
  have g1 : ∀ k, k < 83 → ([] ++ wl 83 ad1 ((fun u k => SHC u cI cW k (fun _ => 0)) ad1) ++ wl 31 ad2 ((fun u k => SHR u cI cB k (fun _ => 0) (fun _ => 0)) ad2))[k]? = some (ad1 k, (fun u k => SHC u cI cW k (fun _ => 0)) ad1 k) := fun k hk => gw_init (gw_init2 (wl_at hk))
  have g2 : ∀ k, k < 31 → ([] ++ wl 83 ad1 ((fun u k => SHC u cI cW k (fun _ => 0)) ad1) ++ wl 31 ad2 ((fun u k => SHR u cI cB k (fun _ => 0) (fun _ => 0)) ad2))[83 + k]? = some (ad2 k, (fun u k => SHR u cI cB k (fun _ => 0) (fun _ => 0)) ad2 k) := fun k hk => by
    have h9 := gw_last (w1 := [] ++ wl 83 ad1 ((fun u k => SHC u cI cW k (fun _ => 0)) ad1)) (n := 31) (u := ad2) (E := (fun u k => SHR u cI cB k (fun _ => 0) (fun _ => 0)) ad2) (k := 83 + k) 83 (by simp [wl_len]) (by omega) (by omega)
    rw [Nat.add_sub_cancel_left] at h9
    exact h9
  have G : LG s D ad1 ad2 cI cW cB tK tC := ⟨fun i j hi hj hij => hD.1 i j _ _ (g1 i hi) (g1 j hj) hij, fun i j hi hj hij => by have := hD.1 (83 + i) (83 + j) _ _ (g2 i hi) (g2 j hj) hij; omega, fun k hk => hD.2 k _ (g1 k hk), fun k hk => hD.2 _ _ (g2 k hk), fun i hi j hj hij => by have := hD.1 i (83 + j) _ _ (g1 i hi) (g2 j hj) hij; omega, ⟨hKC, hNW⟩, hKR, hZ⟩
  exact law_loop O hL C0 G 513 0 (fun _ _ => 0) ((fun _ _ => 0), fun _ => 0) _ _ ls (Nat.zero_le _) (Nat.le_refl _) hR0 hP1 hP2 hS (lv_sub hl [3, 2, 1, 0] rfl)

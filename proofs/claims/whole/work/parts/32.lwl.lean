/-- what is owed of the pure side: a relation between the two states that every call keeps, with the same answer -/
def Ops (Rel : Nat → (Nat → Nat → Int32) → SR → Prop) : Prop :=
  (∀ n σ τ, Rel n σ τ → Rel (n + 1) σ τ) ∧
  (∀ (n : Nat) (σ : Nat → Nat → Int32) (τ : SR) (a1 : Int32), n < 512 → Rel n σ τ → ∃ (r : Int32) (σ' : Nat → Nat → Int32) (τ' : SR), f_X9_letter σ a1 = some (r, σ') ∧ f_X10_letter τ a1 = some (r, τ') ∧ Rel (n + 1) σ' τ') ∧
  (∀ (n : Nat) (σ : Nat → Nat → Int32) (τ : SR), n < 512 → Rel n σ τ → ∃ (r : Int32) (σ' : Nat → Nat → Int32) (τ' : SR), f_X9_blank σ = some (r, σ') ∧ f_X10_blank τ = some (r, τ') ∧ Rel (n + 1) σ' τ') ∧
  (∀ (n : Nat) (σ : Nat → Nat → Int32) (τ : SR), n < 512 → Rel n σ τ → ∃ (r : Int32) (σ' : Nat → Nat → Int32) (τ' : SR), f_X9_fault σ = some (r, σ') ∧ f_X10_fault τ = some (r, τ') ∧ Rel (n + 1) σ' τ') ∧
  (∀ (n : Nat) (σ : Nat → Nat → Int32) (τ : SR), n < 512 → Rel n σ τ → ∃ (r : Int32) (σ' : Nat → Nat → Int32) (τ' : SR), f_X9_wall σ = some (r, σ') ∧ f_X10_wall τ = some (r, τ') ∧ Rel (n + 1) σ' τ') ∧
  (∀ (n : Nat) (σ : Nat → Nat → Int32) (τ : SR) (a1 : Int32) (a2 : Int32), n < 512 → Rel n σ τ → ∃ (r : Int32), f_X9_witness σ a1 a2 = some r ∧ f_X10_witness τ a1 a2 = some r ∧ Rel (n + 1) σ τ) ∧
  (∀ (n : Nat) (σ : Nat → Nat → Int32) (τ : SR) (a1 : Int32) (a2 : Int32), n < 512 → Rel n σ τ → ∃ (r : Int32), f_X9_as σ a1 a2 = some r ∧ f_X10_as τ a1 a2 = some r ∧ Rel (n + 1) σ τ) ∧
  (∀ (n : Nat) (σ : Nat → Nat → Int32) (τ : SR) (a1 : Int32) (a2 : Int32), n < 512 → Rel n σ τ → ∃ (r : Int32), f_X9_tells σ a1 a2 = some r ∧ f_X10_tells τ a1 a2 = some r ∧ Rel (n + 1) σ τ) ∧
  (∀ (n : Nat) (σ : Nat → Nat → Int32) (τ : SR) (a1 : Int32), n < 512 → Rel n σ τ → ∃ (r : Int32) (σ' : Nat → Nat → Int32), f_X9_said σ a1 = some (r, σ') ∧ f_X10_said τ a1 = some r ∧ Rel (n + 1) σ' τ) ∧
  (∀ (n : Nat) (σ : Nat → Nat → Int32) (τ : SR) (a1 : Int32) (a2 : Int32), n < 512 → Rel n σ τ → ∃ (r : Int32), f_X9_having σ a1 a2 = some r ∧ f_X10_having τ a1 a2 = some r ∧ Rel (n + 1) σ τ) ∧
  (∀ (n : Nat) (σ : Nat → Nat → Int32) (τ : SR) (a1 : Int32) (a2 : Int32) (a3 : Int32), n < 512 → Rel n σ τ → ∃ (r : Int32) (σ' : Nat → Nat → Int32) (τ' : SR), f_X9_show σ a1 a2 a3 = some (r, σ') ∧ f_X10_show τ a1 a2 a3 = some (r, τ') ∧ Rel (n + 1) σ' τ') ∧
  (∀ (n : Nat) (σ : Nat → Nat → Int32) (τ : SR) (a1 : Int32) (a2 : Int32), n < 512 → Rel n σ τ → ∃ (r : Int32) (σ' : Nat → Nat → Int32) (τ' : SR), f_X9_be σ a1 a2 = some (r, σ') ∧ f_X10_be τ a1 a2 = some (r, τ') ∧ Rel (n + 1) σ' τ') ∧
  (∀ (n : Nat) (σ : Nat → Nat → Int32) (τ : SR) (a1 : Int32) (a2 : Int32) (a3 : Int32) (a4 : Int32), n < 512 → Rel n σ τ → ∃ (r : Int32) (σ' : Nat → Nat → Int32) (τ' : SR), f_X9_slip σ a1 a2 a3 a4 = some (r, σ') ∧ f_X10_slip τ a1 a2 a3 a4 = some (r, τ') ∧ Rel (n + 1) σ' τ') ∧
  (∀ (n : Nat) (σ : Nat → Nat → Int32) (τ : SR), n < 512 → Rel n σ τ → ∃ (r : Int32) (σ' : Nat → Nat → Int32) (τ' : SR), f_X9_tear σ = some (r, σ') ∧ f_X10_tear τ = some (r, τ') ∧ Rel (n + 1) σ' τ') ∧
  (∀ (n : Nat) (σ : Nat → Nat → Int32) (τ : SR) (a1 : Int32), n < 512 → Rel n σ τ → ∃ (r : Int32) (σ' : Nat → Nat → Int32) (τ' : SR), f_X9_term σ a1 = some (r, σ') ∧ f_X10_term τ a1 = some (r, τ') ∧ Rel (n + 1) σ' τ') ∧
  (∀ (n : Nat) (σ : Nat → Nat → Int32) (τ : SR) (a1 : Int32), n < 512 → Rel n σ τ → ∃ (r : Int32) (σ' : Nat → Nat → Int32), f_X9_keep σ a1 = some (r, σ') ∧ f_X10_keep τ a1 = some r ∧ Rel (n + 1) σ' τ) ∧
  (∀ (n : Nat) (σ : Nat → Nat → Int32) (τ : SR) (a1 : Int32), n < 512 → Rel n σ τ → ∃ (r : Int32), f_X9_peace σ a1 = some r ∧ f_X10_peace τ a1 = some r ∧ Rel (n + 1) σ τ) ∧
  (∀ (n : Nat) (σ : Nat → Nat → Int32) (τ : SR) (a1 : Int32), n < 512 → Rel n σ τ → ∃ (r : Int32) (σ' : Nat → Nat → Int32), f_X9_worlds σ a1 = some (r, σ') ∧ f_X10_worlds τ a1 = some r ∧ Rel (n + 1) σ' τ) ∧
  (∀ (n : Nat) (σ : Nat → Nat → Int32) (τ : SR) (a1 : Int32) (a2 : Int32) (a3 : Int32) (a4 : Int32), n < 512 → Rel n σ τ → ∃ (r : Int32) (σ' : Nat → Nat → Int32), f_X9_odds σ a1 a2 a3 a4 = some (r, σ') ∧ f_X10_odds τ a1 a2 a3 a4 = some r ∧ Rel (n + 1) σ' τ) ∧
  (∀ (n : Nat) (σ : Nat → Nat → Int32) (τ : SR) (a1 : Int32) (a2 : Int32) (a3 : Int32), n < 512 → Rel n σ τ → (a3 = 0 ∨ a3 = 1) → ∃ (r : Int32) (σ' : Nat → Nat → Int32) (τ' : SR), f_X9_see σ a1 a2 a3 = some (r, σ') ∧ f_X10_see τ a1 a2 a3 = some (r, τ') ∧ Rel (n + 1) σ' τ') ∧
  (∀ (n : Nat) (σ : Nat → Nat → Int32) (τ : SR), n < 512 → Rel n σ τ → ∃ (r : Int32) (σ' : Nat → Nat → Int32) (τ' : SR), f_X9_forget σ = some (r, σ') ∧ f_X10_forget τ = some (r, τ') ∧ Rel (n + 1) σ' τ') ∧
  (∀ (n : Nat) (σ : Nat → Nat → Int32) (τ : SR) (a1 : Int32) (a2 : Int32) (a3 : Int32), n < 512 → Rel n σ τ → ∃ (r : Int32) (σ' : Nat → Nat → Int32) (τ' : SR), f_X9_drawn σ a1 a2 a3 = some (r, σ') ∧ f_X10_drawn τ a1 a2 a3 = some (r, τ') ∧ Rel (n + 1) σ' τ') ∧
  (∀ (n : Nat) (σ : Nat → Nat → Int32) (τ : SR), n < 512 → Rel n σ τ → ∃ (r : Int32) (σ' : Nat → Nat → Int32) (τ' : SR), f_X9_image σ = some (r, σ') ∧ f_X10_image τ = some (r, τ') ∧ Rel (n + 1) σ' τ') ∧
  (∀ (n : Nat) (σ : Nat → Nat → Int32) (τ : SR), n < 512 → Rel n σ τ → ∃ (r : Int32) (σ' : Nat → Nat → Int32) (τ' : SR), f_X9_restore σ = some (r, σ') ∧ f_X10_restore τ = some (r, τ') ∧ Rel (n + 1) σ' τ') ∧
  (∀ (n : Nat) (σ : Nat → Nat → Int32) (τ : SR) (a1 : Int32), n < 512 → Rel n σ τ → ∃ (r : Int32), f_X9_count σ a1 = some r ∧ f_X10_count τ a1 = some r ∧ Rel (n + 1) σ τ) ∧
  (∀ (n : Nat) (σ : Nat → Nat → Int32) (τ : SR), n < 512 → Rel n σ τ → ∃ (r : Int64) (σ' : Nat → Nat → Int32) (τ' : SR), f_X9_digest σ = some (r, σ') ∧ f_X10_digest τ = some (r, τ') ∧ Rel (n + 1) σ' τ')
theorem zb_or (x : Int32) : zb x = 0 ∨ zb x = 1 := by
  unfold zb
  split
  · exact Or.inl rfl
  · exact Or.inr rfl
theorem lw_lt {i L : Nat} (hL : L ≤ 2560) (hi : i ≤ 512) (h : ¬ nI L - 5 < nI (5 * i)) : 5 * i + 5 ≤ L := by
  have h1 : (nI L - nI 5).toInt = (L : Int) - 5 := pk_sub_toInt (by omega) (by omega)
  have h2 : (nI (5 * i)).toInt = ((5 * i : Nat) : Int) := nI_toInt (by omega)
  have h3 : ¬ (nI L - nI 5).toInt < (nI (5 * i)).toInt := fun q => h (Int32.lt_iff_toInt_lt.mpr q)
  rw [h1, h2] at h3
  omega
set_option maxHeartbeats 4000000 in
set_option maxRecDepth 100000 in
theorem law_loop {Rel : Nat → (Nat → Nat → Int32) → SR → Prop} (O : Ops Rel) {p : Program} {l : Launch} {e : Env} {s : State} {m : MethodId} {below : List Frame} {meth : Method} {c : Code} {b L : Nat} {xs : Nat → Int32} (hL : L ≤ 2560) (C0 : lw_At p s m meth c b L xs) {D : va_G} {ad1 ad2 : Nat → Nat} {cI cW cB : ClassId} {tK tC : Nat} (G : LG s D ad1 ad2 cI cW cB tK tC) : ∀ (f i : Nat) (σ : Nat → Nat → Int32) (τ : SR) (H : Heap) (locs : List Loc) (ls : Array Slot), i ≤ 512 → 513 ≤ i + f → Rel i σ τ → cP D ad1 cI cW σ H → rP D ad2 cI cB τ H → va_S (AL s) s.heap H locs → lv_has ls 4 [(0, .ref b), (1, .ref (ad1 0)), (2, .ref (ad2 0)), (3, .int (nI (5 * i)))] → W p l e room_1 s m #[Value.ref b] below meth c H locs 114 979 (lw_Z below #[Value.ref b] s) (F0 m 18 ls []) := by
  intro f
  induction f with
  | zero => intro i σ τ H locs ls h1 h2; exact absurd h2 (by omega)
  | succ f ih =>
    intro i σ τ H locs ls hi hf hR hP1 hP2 hS hl
    obtain ⟨hx, hb, hr, hml, hown, hts, hX, hbl, hlocks, hgv⟩ := id C0
    have hbA : ¬ AL s b := Nat.not_le.mpr hbl
    refine lv_iload_n hx hb dL_law_18 rfl (lv_at hl 3 rfl) ?_
    refine lv_aload_n hx hb dL_law_19 rfl (lv_at hl 0 rfl) ?_
    refine va_slen hx hb hX hbl hbA hS dL_law_20 ?_
    refine lv_iconst (v := 5) hx hb dL_law_21 (by decide) ?_
    refine lv_isub hx hb dL_law_22 ?_
    refine lv_icmp_gt (tgt := 836) hx hb dL_law_23 (by decide) (fun hc => ?_) (fun hc => ?_)
    · refine lv_iconst (v := 1) hx hb dL_law_836 (by decide) ?_
      refine va_forget (fun q hq => hS.2.2 q hq) ?_
      refine W.widen (k := 600000) (n := 7302250) (Nat.le_of_ble_eq_true rfl) (Nat.le_of_ble_eq_true rfl) ?_
      exact lw_ret hx hb hr hlocks dL_law_837
    · have hle : 5 * i + 5 ≤ L := lw_lt hL hi hc
      have hi0 : vp_in (nI (5 * i)) L := vp_in_nI (by omega) (by omega)
      have hi1 : vp_in (nI (5 * i) + 1) L := by rw [show nI (5 * i) + 1 = nI (5 * i + 1) from nI_add (5 * i) 1]; exact vp_in_nI (by omega) (by omega)
      have hi2 : vp_in (nI (5 * i) + 2) L := by rw [show nI (5 * i) + 2 = nI (5 * i + 2) from nI_add (5 * i) 2]; exact vp_in_nI (by omega) (by omega)
      have hi3 : vp_in (nI (5 * i) + 3) L := by rw [show nI (5 * i) + 3 = nI (5 * i + 3) from nI_add (5 * i) 3]; exact vp_in_nI (by omega) (by omega)
      have hi4 : vp_in (nI (5 * i) + 4) L := by rw [show nI (5 * i) + 4 = nI (5 * i + 4) from nI_add (5 * i) 4]; exact vp_in_nI (by omega) (by omega)
      have hin : i < 512 := by omega
      have kk : ∀ (σ : Nat → Nat → Int32) (τ : SR) (H : Heap) (locs : List Loc) (ls : Array Slot), Rel (i + 1) σ τ → cP D ad1 cI cW σ H → rP D ad2 cI cB τ H → va_S (AL s) s.heap H locs → lv_has ls 4 [(0, .ref b), (1, .ref (ad1 0)), (2, .ref (ad2 0)), (3, .int (nI (5 * i)))] → W p l e room_1 s m #[Value.ref b] below meth c H locs 114 979 (lw_Z below #[Value.ref b] s) (F0 m 830 ls []) := by
        intro σ τ H locs ls hR hP1 hP2 hS hl
        refine lv_iinc (v := nI (5 * (i + 1))) (lv' := [(3, .int (nI (5 * (i + 1)))), (0, .ref b), (1, .ref (ad1 0)), (2, .ref (ad2 0))]) hx hb dL_law_830 hl (k := 3) rfl (nI_add (5 * i) 5) (by decide) rfl (fun ls hl => ?_)
        refine lv_goto (tgt := 18) hx hb dL_law_833 (by decide) ?_
        exact ih (i + 1) σ τ H locs ls (by omega) (by omega) hR hP1 hP2 hS (lv_sub hl [1, 2, 3, 0] rfl)
      refine lv_aload_n hx hb dL_law_26 rfl (lv_at hl 0 rfl) ?_
      refine lv_iload_n hx hb dL_law_27 rfl (lv_at hl 3 rfl) ?_
      refine va_sld hx hb hX hbl hbA hS hi0 dL_law_28 ?_
      refine lv_bipush (v := 31) hx hb dL_law_29 (by decide) ?_
      refine lv_iand hx hb dL_law_31 ?_
      refine lv_topi (fun y ey => ?_)
      clear ey
      obtain ⟨O0, O1, O2, O3, O4, O5, O6, O7, O8, O9, O10, O11, O12, O13, O14, O15, O16, O17, O18, O19, O20, O21, O22, O23, O24, O25⟩ := O
      by_cases hc0 : y = 0
      · obtain ⟨r, σ', τ', g1, g2, hR2⟩ := O1 i σ τ (xs (nI (5 * i) + 1).toNatClampNeg) hin hR
        refine lv_tableIn (tgt := 148) hx hb dL_law_32 (by rw [hc0]; decide) (by rw [hc0]; decide) (by rw [hc0]; rfl) (by decide) ?_
        exact lw_case0 C0 G hP1 hP2 hS hi1 hi2 hi3 hi4 hl g1 g2 (fun H locs ls a1 a2 a3 a4 => kk σ' τ' H locs ls hR2 a1 a2 a3 a4)
      by_cases hc1 : y = 1
      · obtain ⟨r, σ', τ', g1, g2, hR2⟩ := O2 i σ τ  hin hR
        refine lv_tableIn (tgt := 171) hx hb dL_law_32 (by rw [hc1]; decide) (by rw [hc1]; decide) (by rw [hc1]; rfl) (by decide) ?_
        exact lw_case1 C0 G hP1 hP2 hS hi1 hi2 hi3 hi4 hl g1 g2 (fun H locs ls a1 a2 a3 a4 => kk σ' τ' H locs ls hR2 a1 a2 a3 a4)
      by_cases hc2 : y = 2
      · obtain ⟨r, σ', τ', g1, g2, hR2⟩ := O3 i σ τ  hin hR
        refine lv_tableIn (tgt := 184) hx hb dL_law_32 (by rw [hc2]; decide) (by rw [hc2]; decide) (by rw [hc2]; rfl) (by decide) ?_
        exact lw_case2 C0 G hP1 hP2 hS hi1 hi2 hi3 hi4 hl g1 g2 (fun H locs ls a1 a2 a3 a4 => kk σ' τ' H locs ls hR2 a1 a2 a3 a4)
      by_cases hc3 : y = 3
      · obtain ⟨r, σ', τ', g1, g2, hR2⟩ := O4 i σ τ  hin hR
        refine lv_tableIn (tgt := 197) hx hb dL_law_32 (by rw [hc3]; decide) (by rw [hc3]; decide) (by rw [hc3]; rfl) (by decide) ?_
        exact lw_case3 C0 G hP1 hP2 hS hi1 hi2 hi3 hi4 hl g1 g2 (fun H locs ls a1 a2 a3 a4 => kk σ' τ' H locs ls hR2 a1 a2 a3 a4)
      by_cases hc4 : y = 4
      · obtain ⟨r, g1, g2, hR2⟩ := O5 i σ τ (xs (nI (5 * i) + 1).toNatClampNeg) (xs (nI (5 * i) + 2).toNatClampNeg) hin hR
        refine lv_tableIn (tgt := 210) hx hb dL_law_32 (by rw [hc4]; decide) (by rw [hc4]; decide) (by rw [hc4]; rfl) (by decide) ?_
        exact lw_case4 C0 G hP1 hP2 hS hi1 hi2 hi3 hi4 hl g1 g2 (fun H locs ls a1 a2 a3 a4 => kk σ τ H locs ls hR2 a1 a2 a3 a4)
      by_cases hc5 : y = 5
      · obtain ⟨r, g1, g2, hR2⟩ := O6 i σ τ (xs (nI (5 * i) + 1).toNatClampNeg) (xs (nI (5 * i) + 2).toNatClampNeg) hin hR
        refine lv_tableIn (tgt := 243) hx hb dL_law_32 (by rw [hc5]; decide) (by rw [hc5]; decide) (by rw [hc5]; rfl) (by decide) ?_
        exact lw_case5 C0 G hP1 hP2 hS hi1 hi2 hi3 hi4 hl g1 g2 (fun H locs ls a1 a2 a3 a4 => kk σ τ H locs ls hR2 a1 a2 a3 a4)
      by_cases hc6 : y = 6
      · obtain ⟨r, g1, g2, hR2⟩ := O7 i σ τ (xs (nI (5 * i) + 1).toNatClampNeg) (xs (nI (5 * i) + 2).toNatClampNeg) hin hR
        refine lv_tableIn (tgt := 276) hx hb dL_law_32 (by rw [hc6]; decide) (by rw [hc6]; decide) (by rw [hc6]; rfl) (by decide) ?_
        exact lw_case6 C0 G hP1 hP2 hS hi1 hi2 hi3 hi4 hl g1 g2 (fun H locs ls a1 a2 a3 a4 => kk σ τ H locs ls hR2 a1 a2 a3 a4)
      by_cases hc7 : y = 7
      · obtain ⟨r, σ', g1, g2, hR2⟩ := O8 i σ τ (xs (nI (5 * i) + 1).toNatClampNeg) hin hR
        refine lv_tableIn (tgt := 309) hx hb dL_law_32 (by rw [hc7]; decide) (by rw [hc7]; decide) (by rw [hc7]; rfl) (by decide) ?_
        exact lw_case7 C0 G hP1 hP2 hS hi1 hi2 hi3 hi4 hl g1 g2 (fun H locs ls a1 a2 a3 a4 => kk σ' τ H locs ls hR2 a1 a2 a3 a4)
      by_cases hc8 : y = 8
      · obtain ⟨r, g1, g2, hR2⟩ := O9 i σ τ (xs (nI (5 * i) + 1).toNatClampNeg) (xs (nI (5 * i) + 2).toNatClampNeg) hin hR
        refine lv_tableIn (tgt := 332) hx hb dL_law_32 (by rw [hc8]; decide) (by rw [hc8]; decide) (by rw [hc8]; rfl) (by decide) ?_
        exact lw_case8 C0 G hP1 hP2 hS hi1 hi2 hi3 hi4 hl g1 g2 (fun H locs ls a1 a2 a3 a4 => kk σ τ H locs ls hR2 a1 a2 a3 a4)
      by_cases hc9 : y = 9
      · obtain ⟨r, σ', τ', g1, g2, hR2⟩ := O10 i σ τ (xs (nI (5 * i) + 1).toNatClampNeg) (xs (nI (5 * i) + 2).toNatClampNeg) (xs (nI (5 * i) + 3).toNatClampNeg) hin hR
        refine lv_tableIn (tgt := 365) hx hb dL_law_32 (by rw [hc9]; decide) (by rw [hc9]; decide) (by rw [hc9]; rfl) (by decide) ?_
        exact lw_case9 C0 G hP1 hP2 hS hi1 hi2 hi3 hi4 hl g1 g2 (fun H locs ls a1 a2 a3 a4 => kk σ' τ' H locs ls hR2 a1 a2 a3 a4)
      by_cases hc10 : y = 10
      · obtain ⟨r, σ', τ', g1, g2, hR2⟩ := O11 i σ τ (xs (nI (5 * i) + 1).toNatClampNeg) (xs (nI (5 * i) + 2).toNatClampNeg) hin hR
        refine lv_tableIn (tgt := 408) hx hb dL_law_32 (by rw [hc10]; decide) (by rw [hc10]; decide) (by rw [hc10]; rfl) (by decide) ?_
        exact lw_case10 C0 G hP1 hP2 hS hi1 hi2 hi3 hi4 hl g1 g2 (fun H locs ls a1 a2 a3 a4 => kk σ' τ' H locs ls hR2 a1 a2 a3 a4)
      by_cases hc11 : y = 11
      · obtain ⟨r, σ', τ', g1, g2, hR2⟩ := O12 i σ τ (xs (nI (5 * i) + 1).toNatClampNeg) (xs (nI (5 * i) + 2).toNatClampNeg) (xs (nI (5 * i) + 3).toNatClampNeg) (xs (nI (5 * i) + 4).toNatClampNeg) hin hR
        refine lv_tableIn (tgt := 441) hx hb dL_law_32 (by rw [hc11]; decide) (by rw [hc11]; decide) (by rw [hc11]; rfl) (by decide) ?_
        exact lw_case11 C0 G hP1 hP2 hS hi1 hi2 hi3 hi4 hl g1 g2 (fun H locs ls a1 a2 a3 a4 => kk σ' τ' H locs ls hR2 a1 a2 a3 a4)
      by_cases hc12 : y = 12
      · obtain ⟨r, σ', τ', g1, g2, hR2⟩ := O13 i σ τ  hin hR
        refine lv_tableIn (tgt := 494) hx hb dL_law_32 (by rw [hc12]; decide) (by rw [hc12]; decide) (by rw [hc12]; rfl) (by decide) ?_
        exact lw_case12 C0 G hP1 hP2 hS hi1 hi2 hi3 hi4 hl g1 g2 (fun H locs ls a1 a2 a3 a4 => kk σ' τ' H locs ls hR2 a1 a2 a3 a4)
      by_cases hc13 : y = 13
      · obtain ⟨r, σ', τ', g1, g2, hR2⟩ := O14 i σ τ (xs (nI (5 * i) + 1).toNatClampNeg) hin hR
        refine lv_tableIn (tgt := 507) hx hb dL_law_32 (by rw [hc13]; decide) (by rw [hc13]; decide) (by rw [hc13]; rfl) (by decide) ?_
        exact lw_case13 C0 G hP1 hP2 hS hi1 hi2 hi3 hi4 hl g1 g2 (fun H locs ls a1 a2 a3 a4 => kk σ' τ' H locs ls hR2 a1 a2 a3 a4)
      by_cases hc14 : y = 14
      · obtain ⟨r, σ', g1, g2, hR2⟩ := O15 i σ τ (xs (nI (5 * i) + 1).toNatClampNeg) hin hR
        refine lv_tableIn (tgt := 530) hx hb dL_law_32 (by rw [hc14]; decide) (by rw [hc14]; decide) (by rw [hc14]; rfl) (by decide) ?_
        exact lw_case14 C0 G hP1 hP2 hS hi1 hi2 hi3 hi4 hl g1 g2 (fun H locs ls a1 a2 a3 a4 => kk σ' τ H locs ls hR2 a1 a2 a3 a4)
      by_cases hc15 : y = 15
      · obtain ⟨r, g1, g2, hR2⟩ := O16 i σ τ (xs (nI (5 * i) + 1).toNatClampNeg) hin hR
        refine lv_tableIn (tgt := 553) hx hb dL_law_32 (by rw [hc15]; decide) (by rw [hc15]; decide) (by rw [hc15]; rfl) (by decide) ?_
        exact lw_case15 C0 G hP1 hP2 hS hi1 hi2 hi3 hi4 hl g1 g2 (fun H locs ls a1 a2 a3 a4 => kk σ τ H locs ls hR2 a1 a2 a3 a4)
      by_cases hc16 : y = 16
      · obtain ⟨r, σ', g1, g2, hR2⟩ := O17 i σ τ (xs (nI (5 * i) + 1).toNatClampNeg) hin hR
        refine lv_tableIn (tgt := 576) hx hb dL_law_32 (by rw [hc16]; decide) (by rw [hc16]; decide) (by rw [hc16]; rfl) (by decide) ?_
        exact lw_case16 C0 G hP1 hP2 hS hi1 hi2 hi3 hi4 hl g1 g2 (fun H locs ls a1 a2 a3 a4 => kk σ' τ H locs ls hR2 a1 a2 a3 a4)
      by_cases hc17 : y = 17
      · obtain ⟨r, σ', g1, g2, hR2⟩ := O18 i σ τ (xs (nI (5 * i) + 1).toNatClampNeg) (xs (nI (5 * i) + 2).toNatClampNeg) (xs (nI (5 * i) + 3).toNatClampNeg) (xs (nI (5 * i) + 4).toNatClampNeg) hin hR
        refine lv_tableIn (tgt := 599) hx hb dL_law_32 (by rw [hc17]; decide) (by rw [hc17]; decide) (by rw [hc17]; rfl) (by decide) ?_
        exact lw_case17 C0 G hP1 hP2 hS hi1 hi2 hi3 hi4 hl g1 g2 (fun H locs ls a1 a2 a3 a4 => kk σ' τ H locs ls hR2 a1 a2 a3 a4)
      by_cases hc18 : y = 18
      · obtain ⟨r, σ', τ', g1, g2, hR2⟩ := O19 i σ τ (xs (nI (5 * i) + 1).toNatClampNeg) (xs (nI (5 * i) + 2).toNatClampNeg) (zb (xs (nI (5 * i) + 3).toNatClampNeg)) hin hR (zb_or _)
        refine lv_tableIn (tgt := 652) hx hb dL_law_32 (by rw [hc18]; decide) (by rw [hc18]; decide) (by rw [hc18]; rfl) (by decide) ?_
        exact lw_case18 C0 G hP1 hP2 hS hi1 hi2 hi3 hi4 hl g1 g2 (fun H locs ls a1 a2 a3 a4 => kk σ' τ' H locs ls hR2 a1 a2 a3 a4)
      by_cases hc19 : y = 19
      · obtain ⟨r, σ', τ', g1, g2, hR2⟩ := O20 i σ τ  hin hR
        refine lv_tableIn (tgt := 711) hx hb dL_law_32 (by rw [hc19]; decide) (by rw [hc19]; decide) (by rw [hc19]; rfl) (by decide) ?_
        exact lw_case19 C0 G hP1 hP2 hS hi1 hi2 hi3 hi4 hl g1 g2 (fun H locs ls a1 a2 a3 a4 => kk σ' τ' H locs ls hR2 a1 a2 a3 a4)
      by_cases hc20 : y = 20
      · obtain ⟨r, σ', τ', g1, g2, hR2⟩ := O21 i σ τ (xs (nI (5 * i) + 1).toNatClampNeg) (xs (nI (5 * i) + 2).toNatClampNeg) (xs (nI (5 * i) + 3).toNatClampNeg) hin hR
        refine lv_tableIn (tgt := 724) hx hb dL_law_32 (by rw [hc20]; decide) (by rw [hc20]; decide) (by rw [hc20]; rfl) (by decide) ?_
        exact lw_case20 C0 G hP1 hP2 hS hi1 hi2 hi3 hi4 hl g1 g2 (fun H locs ls a1 a2 a3 a4 => kk σ' τ' H locs ls hR2 a1 a2 a3 a4)
      by_cases hc21 : y = 21
      · obtain ⟨r, σ', τ', g1, g2, hR2⟩ := O22 i σ τ  hin hR
        refine lv_tableIn (tgt := 767) hx hb dL_law_32 (by rw [hc21]; decide) (by rw [hc21]; decide) (by rw [hc21]; rfl) (by decide) ?_
        exact lw_case21 C0 G hP1 hP2 hS hi1 hi2 hi3 hi4 hl g1 g2 (fun H locs ls a1 a2 a3 a4 => kk σ' τ' H locs ls hR2 a1 a2 a3 a4)
      by_cases hc22 : y = 22
      · obtain ⟨r, σ', τ', g1, g2, hR2⟩ := O23 i σ τ  hin hR
        refine lv_tableIn (tgt := 780) hx hb dL_law_32 (by rw [hc22]; decide) (by rw [hc22]; decide) (by rw [hc22]; rfl) (by decide) ?_
        exact lw_case22 C0 G hP1 hP2 hS hi1 hi2 hi3 hi4 hl g1 g2 (fun H locs ls a1 a2 a3 a4 => kk σ' τ' H locs ls hR2 a1 a2 a3 a4)
      by_cases hc23 : y = 23
      · obtain ⟨r, g1, g2, hR2⟩ := O24 i σ τ (xs (nI (5 * i) + 1).toNatClampNeg) hin hR
        refine lv_tableIn (tgt := 793) hx hb dL_law_32 (by rw [hc23]; decide) (by rw [hc23]; decide) (by rw [hc23]; rfl) (by decide) ?_
        exact lw_case23 C0 G hP1 hP2 hS hi1 hi2 hi3 hi4 hl g1 g2 (fun H locs ls a1 a2 a3 a4 => kk σ τ H locs ls hR2 a1 a2 a3 a4)
      by_cases hc24 : y = 24
      · obtain ⟨r, σ', τ', g1, g2, hR2⟩ := O25 i σ τ  hin hR
        refine lv_tableIn (tgt := 816) hx hb dL_law_32 (by rw [hc24]; decide) (by rw [hc24]; decide) (by rw [hc24]; rfl) (by decide) ?_
        exact lw_case24 C0 G hP1 hP2 hS hi1 hi2 hi3 hi4 hl g1 g2 (fun H locs ls a1 a2 a3 a4 => kk σ' τ' H locs ls hR2 a1 a2 a3 a4)
      have n0 := lv_neT hc0 (show (0 : Int32).toInt = 0 from by decide)
      have n1 := lv_neT hc1 (show (1 : Int32).toInt = 1 from by decide)
      have n2 := lv_neT hc2 (show (2 : Int32).toInt = 2 from by decide)
      have n3 := lv_neT hc3 (show (3 : Int32).toInt = 3 from by decide)
      have n4 := lv_neT hc4 (show (4 : Int32).toInt = 4 from by decide)
      have n5 := lv_neT hc5 (show (5 : Int32).toInt = 5 from by decide)
      have n6 := lv_neT hc6 (show (6 : Int32).toInt = 6 from by decide)
      have n7 := lv_neT hc7 (show (7 : Int32).toInt = 7 from by decide)
      have n8 := lv_neT hc8 (show (8 : Int32).toInt = 8 from by decide)
      have n9 := lv_neT hc9 (show (9 : Int32).toInt = 9 from by decide)
      have n10 := lv_neT hc10 (show (10 : Int32).toInt = 10 from by decide)
      have n11 := lv_neT hc11 (show (11 : Int32).toInt = 11 from by decide)
      have n12 := lv_neT hc12 (show (12 : Int32).toInt = 12 from by decide)
      have n13 := lv_neT hc13 (show (13 : Int32).toInt = 13 from by decide)
      have n14 := lv_neT hc14 (show (14 : Int32).toInt = 14 from by decide)
      have n15 := lv_neT hc15 (show (15 : Int32).toInt = 15 from by decide)
      have n16 := lv_neT hc16 (show (16 : Int32).toInt = 16 from by decide)
      have n17 := lv_neT hc17 (show (17 : Int32).toInt = 17 from by decide)
      have n18 := lv_neT hc18 (show (18 : Int32).toInt = 18 from by decide)
      have n19 := lv_neT hc19 (show (19 : Int32).toInt = 19 from by decide)
      have n20 := lv_neT hc20 (show (20 : Int32).toInt = 20 from by decide)
      have n21 := lv_neT hc21 (show (21 : Int32).toInt = 21 from by decide)
      have n22 := lv_neT hc22 (show (22 : Int32).toInt = 22 from by decide)
      have n23 := lv_neT hc23 (show (23 : Int32).toInt = 23 from by decide)
      have n24 := lv_neT hc24 (show (24 : Int32).toInt = 24 from by decide)
      refine lv_tableOut (tgt := 830) hx hb dL_law_32 (by omega) (by decide) ?_
      exact kk σ τ H locs ls (O0 i σ τ hR) hP1 hP2 hS hl

/-! the pure side, 5: be, slip, see -/
theorem HallC_set {σ σ' : St} {b : Nat} {ws : List Wt} {i : Nat} {w' : Wt} (h : HallC σ b ws) (h0 : σ' b 2 = σ b 2) (hw : WitC σ' (b + 3 + 2 * i) w') (ho : ∀ j, j ≠ i → j < ws.length → σ' (b + 3 + 2 * j) = σ (b + 3 + 2 * j) ∧ σ' (b + 3 + 2 * j + 1) = σ (b + 3 + 2 * j + 1)) : HallC σ' b (ws.set i w') := by
  refine ⟨by rw [h0, h.1, List.length_set], fun j w hj => ?_⟩
  rw [List.getElem?_set] at hj
  by_cases e : i = j
  · subst e
    rw [if_pos rfl] at hj
    split at hj
    · cases hj; exact hw
    · cases hj
  · rw [if_neg e] at hj
    have hl := (List.getElem?_eq_some_iff.mp hj).1
    obtain ⟨e1, e2⟩ := ho j (fun z => e z.symm) hl
    have a := h.2 j w hj
    unfold WitC at a ⊢
    rw [e1, e2]
    exact a
theorem HallR_set {kd hd hs kd' hd' hs' : Nat → Int32} {ws : List Wt} {i : Nat} {w' : Wt} (h : HallR kd hd hs ws) (hw : kd' i = w'.1 ∧ Row (fun j => hd' (4 * i + j)) (hs' i) w'.2) (ho : ∀ j, j ≠ i → j < ws.length → kd' j = kd j ∧ hs' j = hs j ∧ ∀ k, k < 4 → hd' (4 * j + k) = hd (4 * j + k)) (hlen : ∀ (j : Nat) (w : Wt), ws[j]? = some w → w.2.length ≤ 4) : HallR kd' hd' hs' (ws.set i w') := by
  intro j w hj
  rw [List.getElem?_set] at hj
  by_cases e : i = j
  · subst e
    rw [if_pos rfl] at hj
    split at hj
    · cases hj; exact hw
    · cases hj
  · rw [if_neg e] at hj
    have hl := (List.getElem?_eq_some_iff.mp hj).1
    obtain ⟨e1, e2, e3⟩ := ho j (fun z => e z.symm) hl
    obtain ⟨a1, a2, a3⟩ := h j w hj
    refine ⟨by rw [e1]; exact a1, by rw [e2]; exact a2, fun k x hx => ?_⟩
    have hk := (List.getElem?_eq_some_iff.mp hx).1
    have := hlen j w hj
    show hd' (4 * j + k) = x
    rw [e3 k (by omega)]
    exact a3 k x hx
theorem WFs_set {ws : List Wt} {i : Nat} {w' : Wt} (h : WFs ws) (hw : WFw w') : WFs (ws.set i w') := by
  refine ⟨by rw [List.length_set]; exact h.1, fun w hm => ?_⟩
  rcases List.mem_or_eq_of_mem_set hm with hm | rfl
  · exact h.2 w hm
  · exact hw
/-- only the hall's witness i has changed, and shown -/
theorem Rel_set {n : Nat} {σ σ' : St} {τ τ' : SR} {q : AK} {cs : List (Int32 × Int32)} {wa : Nat} {pg : List Int32} {kp : Option AK} (hg : GD n q cs wa pg kp) (hc : CR σ q cs wa pg kp) (hr : RR τ q cs wa pg kp) {i sh : Nat} {w' : Wt} (hi : i < q.1.length) (hw : WFw w') (hsh : sh ≤ 9999)
    (c1 : ∀ k, k ≠ 22 → k ≠ 26 + 2 * i → k ≠ 27 + 2 * i → σ' k = σ k) (c2 : WitC σ' (26 + 2 * i) w') (c3 : σ' 22 3 = nI sh)
    (r1 : ∀ k, k ≠ 0 → k ≠ 1 → k ≠ 2 → k ≠ 3 → ri τ' k = ri τ k) (r2 : ∀ j, j ≠ 12 → ri τ' 0 j = ri τ 0 j) (r3 : ri τ' 0 12 = nI sh) (r4 : ri τ' 1 i = w'.1 ∧ Row (fun j => ri τ' 2 (4 * i + j)) (ri τ' 3 i) w'.2) (r5 : ∀ j, j ≠ i → j < 5 → ri τ' 1 j = ri τ 1 j ∧ ri τ' 3 j = ri τ 3 j ∧ ∀ k, k < 4 → ri τ' 2 (4 * j + k) = ri τ 2 (4 * j + k)) : Rel (n + 1) σ' τ' := by
  have hg2 := GD_up hg
  have hl := GD_n hg
  refine ⟨(q.1.set i w', q.2.1, q.2.2.1, sh), cs, wa, pg, kp, ⟨⟨WFs_set hg.1.1 hw, rfl, ?_, ?_, hsh⟩, hg2.2.1, hg2.2.2.1, hg2.2.2.2.1, ?_, ?_⟩, ?_, ?_⟩
  · show WFl (q.1.set i w').length q.2.1
    rw [List.length_set]; exact hg.1.2.2.1
  · show WFe (q.1.set i w').length q.2.2.1
    rw [List.length_set]; exact hg.1.2.2.2.1
  · show _ ↔ (q.1.set i w').length = 0
    rw [List.length_set]; exact hg.2.2.2.2.1
  · intro z hz
    show WFq (q.1.set i w').length z
    rw [List.length_set]; exact hg.2.2.2.2.2 z hz
  · refine CR_q (GD_k hg) (fun k hk => c1 k (by omega) (by omega) (by omega)) (by rw [c1 1 (by omega) (by omega) (by omega)]) ⟨HallC_set hc.1.1 (by rw [c1 23 (by omega) (by omega) (by omega)]) c2 (fun j hj hj2 => ⟨c1 _ (by omega) (by omega) (by omega), c1 _ (by omega) (by omega) (by omega)⟩), ?_, ?_, c3⟩ hc
    · have := hc.1.2.1
      unfold SliC at this ⊢
      rw [c1 (22 + 14) (by omega) (by omega) (by omega), c1 (22 + 14 + 1) (by omega) (by omega) (by omega), c1 (22 + 14 + 2) (by omega) (by omega) (by omega), c1 (22 + 14 + 3) (by omega) (by omega) (by omega)]
      exact this
    · have := hc.1.2.2.1
      unfold SeeC at this ⊢
      rw [c1 (22 + 18) (by omega) (by omega) (by omega), c1 (22 + 18 + 1) (by omega) (by omega) (by omega), c1 (22 + 18 + 2) (by omega) (by omega) (by omega)]
      exact this
  · refine RR_q (fun k hk => r1 k (by omega) (by omega) (by omega) (by omega)) (fun j hj => r2 j (by omega)) ?_ (HallR_set hr.2.1 r4 (fun j hj hj2 => r5 j hj (by omega)) (fun j w hj => by have := (hg.1.1.2 w (List.mem_of_getElem? hj)).1; omega)) ?_ ?_ r3 hr
    · show _ = nI (q.1.set i w').length
      rw [r2 1 (by omega), List.length_set]; exact hr.1
    · rw [r1 6 (by omega) (by omega) (by omega) (by omega), r1 7 (by omega) (by omega) (by omega) (by omega), r1 8 (by omega) (by omega) (by omega) (by omega), r2 8 (by omega)]; exact hr.2.2.1
    · rw [r1 9 (by omega) (by omega) (by omega) (by omega), r1 10 (by omega) (by omega) (by omega) (by omega), r1 11 (by omega) (by omega) (by omega) (by omega), r2 13 (by omega)]; exact hr.2.2.2.1
theorem op_be (n : Nat) (σ : St) (τ : SR) (a1 a2 : Int32) (hn : n < 512) (h : Rel n σ τ) : ∃ (r : Int32) (σ' : St) (τ' : SR), f_X9_be σ a1 a2 = some (r, σ') ∧ f_X10_be τ a1 a2 = some (r, τ') ∧ Rel (n + 1) σ' τ' := by
  have hR := Rel_up n σ τ h
  obtain ⟨q, cs, wa, pg, kp, hg, hc, hr⟩ := h
  unfold f_X9_be f_X10_be
  rw [isWit9 (CR_n hc), isWit10 hr.1, bo_s, bo_s]
  rcases iw_or (GD_n hg) a1 with h1 | ⟨h1, i, hi, rfl⟩
  · rw [h1, if_pos rfl, if_pos rfl]; exact ⟨_, _, _, rfl, rfl, hR⟩
  · have hl := GD_n hg
    rw [h1, if_neg one0, if_neg one0, within9, within10, bo_s, bo_s]
    rcases wi_or a2 0 4 with h2 | ⟨h2, h3, h4⟩
    · rw [h2, if_pos rfl, if_pos rfl]; exact ⟨_, _, _, rfl, rfl, hR⟩
    · rw [h2, if_neg one0, if_neg one0]
      unfold bv
      dsimp only
      have hb := inb_nI (i := i) (n := 5) (by omega) (by decide)
      simp only [gd_t _ hb]
      rw [nI_clamp (by omega)]
      have w1 := CR_wit hc hi
      have w2 := RR_wit hr hi
      have w3 := GD_w hg hi
      rw [w1.1, w2.1]
      refine ⟨_, up2 σ (26 + 2 * i) 2 a2, ui τ 1 i a2, rfl, rfl, Rel_set hg hc hr (i := i) (sh := q.2.2.2) (w' := (a2, (q.1[i]).2)) hi ⟨w3.1, w3.2.1, w3.2.2.1, ?_⟩ hg.1.2.2.2.2 (fun k h22 h26 _ => up2_ne h26) ⟨up2_self, ?_⟩ (by rw [up2_ne (by omega)]; exact hc.1.2.2.2) (fun k h0 h1 _ _ => ri_ui_cell h1) (fun j _ => ri_ui_ne (by omega)) (by rw [ri_ui_ne (by omega)]; exact hr.2.2.2.2.1) ⟨ri_ui_self, ?_⟩ (fun j hj _ => ⟨ri_ui_ne (by omega), ri_ui_ne (by omega), fun k _ => ri_ui_ne (by omega)⟩)⟩
      · rw [Int32.le_iff_toInt_le] at h3 h4
        have e0 : (0 : Int32).toInt = 0 := rfl
        have e4 : (4 : Int32).toInt = 4 := rfl
        exact ⟨show 0 ≤ a2.toInt by omega, show a2.toInt < 5 by omega⟩
      · rw [up2_ne (by omega), up2_slot (by omega)]; exact w1.2
      · rw [ri_ui_cell (by omega), ri_ui_cell (by omega)]; exact w2.2
theorem okS_of {a b : Int32} (h1 : (0 : Int32) ≤ a) (h2 : a ≤ 5) (h3 : (0 : Int32) ≤ b) (h4 : b ≤ 3) : okS (4 * a + b) := by
  obtain ⟨t, ht, rfl⟩ := wi_nat (m := 5) (by decide) h1 h2
  obtain ⟨c, hc, rfl⟩ := wi_nat (m := 3) (by decide) h3 h4
  rw [m4]
  unfold okS
  rw [nI_toInt (by omega)]
  omega
theorem op_slip (n : Nat) (σ : St) (τ : SR) (a1 a2 a3 a4 : Int32) (hn : n < 512) (h : Rel n σ τ) : ∃ (r : Int32) (σ' : St) (τ' : SR), f_X9_slip σ a1 a2 a3 a4 = some (r, σ') ∧ f_X10_slip τ a1 a2 a3 a4 = some (r, τ') ∧ Rel (n + 1) σ' τ' := by
  have hR := Rel_up n σ τ h
  obtain ⟨q, cs, wa, pg, kp, hg, hc, hr⟩ := h
  have hg2 := GD_up hg
  have hl := GD_n hg
  unfold f_X9_slip f_X10_slip
  rw [within9, within10, bo_s, bo_s]
  rcases wi_or a1 1 6 with h0 | ⟨h0, d1, d2⟩
  · rw [h0, if_pos rfl, if_pos rfl]; exact ⟨_, _, _, rfl, rfl, hR⟩
  rw [h0, if_neg one0, if_neg one0, isWit9 (CR_n hc), isWit10 hr.1, bo_s, bo_s]
  rcases iw_or (GD_n hg) a2 with h1 | ⟨h1, i, hi, rfl⟩
  · rw [h1, if_pos rfl, if_pos rfl]; exact ⟨_, _, _, rfl, rfl, hR⟩
  rw [h1, if_neg one0, if_neg one0, isThing9, isSight10, bo_s, bo_s]
  rcases wi_or a3 0 5 with h2 | ⟨h2, t1, t2⟩
  · rw [h2, if_pos rfl, if_pos rfl, if_pos rfl]; exact ⟨_, _, _, rfl, rfl, hR⟩
  rw [h2, if_neg one0, if_neg one0, isColour9, bo_s]
  rcases wi_or a4 0 3 with h3 | ⟨h3, k1, k2⟩
  · rw [h3, if_pos rfl, if_pos rfl]; exact ⟨_, _, _, rfl, rfl, hR⟩
  have s1 := hc.1.2.1
  have s2 := hr.2.2.1
  have hs : σ 36 3 = nI q.2.1.length := s1.1
  have hw := hg.1.2.2.1
  rw [h3, if_neg one0, if_neg one0, hs, s2.1]
  by_cases hf : q.2.1.length = 6
  · rw [hf, if_neg (by decide), if_pos (by decide)]; exact ⟨_, _, _, rfl, rfl, hR⟩
  have hlt : q.2.1.length < 6 := by have := hw.1; omega
  rw [if_pos (show nI q.2.1.length < 6 from nI_lt hlt (by decide)), if_neg (show ¬ nI q.2.1.length = 6 from fun e => hf ((nI_eq (b := 6) (by omega) (by decide)).mp e)), gd_t _ (inb_nI hlt (by decide))]
  unfold f_X5_add bv
  rw [hs, if_neg (show ¬ 6 ≤ nI q.2.1.length from nI_ge hlt (by decide)), gd_t _ (inb_nI hlt (by decide)), nI_clamp (by omega)]
  dsimp only
  generalize hN : q.2.1.length = N at *
  have e1 : up2 σ (36 + 1) N a1 36 3 = nI N := by rw [up2_ne (by omega)]; exact hs
  rw [e1, gd_t _ (inb_nI hlt (by decide)), nI_clamp (by omega)]
  have e2 : up2 (up2 σ (36 + 1) N a1) (36 + 2) N (nI i) 36 3 = nI N := by rw [up2_ne (by omega)]; exact e1
  rw [e2, gd_t _ (inb_nI hlt (by decide)), nI_clamp (by omega)]
  have e3 : up2 (up2 (up2 σ (36 + 1) N a1) (36 + 2) N (nI i)) (36 + 3) N (a3 * 4 + a4) 36 3 = nI N := by rw [up2_ne (by omega)]; exact e2
  rw [e3, bo_s, up2_self, nI_1]
  have f1 : ri (ui τ 6 N a1) 0 8 = nI N := by rw [ri_ui_ne (by omega)]; exact s2.1.trans (by rw [hN])
  rw [f1, gd_t _ (inb_nI hlt (by decide)), nI_clamp (by omega)]
  have f2 : ri (ui (ui τ 6 N a1) 7 N (nI i)) 0 8 = nI N := by rw [ri_ui_ne (by omega)]; exact f1
  rw [f2, gd_t _ (inb_nI hlt (by decide)), nI_clamp (by omega)]
  have f3 : ri (ui (ui (ui τ 6 N a1) 7 N (nI i)) 8 N (4 * a3 + a4)) 0 8 = nI N := by rw [ri_ui_ne (by omega)]; exact f2
  rw [f3, nI_1, ri_ui_self]
  refine ⟨_, _, _, rfl, rfl, (q.1, q.2.1 ++ [(a1, nI i, 4 * a3 + a4)], q.2.2), cs, wa, pg, kp, ⟨⟨hg2.1.1, rfl, ⟨?_, ?_⟩, hg2.1.2.2.2⟩, hg2.2⟩, ?_, ?_⟩
  · simp; omega
  · intro x hx
    rcases List.mem_append.mp hx with hx | hx
    · exact hw.2 x hx
    · rw [List.mem_singleton.mp hx]
      obtain ⟨d, hd, rfl⟩ := wi_nat (m := 6) (by decide) (by rw [Int32.le_iff_toInt_le] at d1 ⊢; have e : (1 : Int32).toInt = 1 := rfl; have e0 : (0 : Int32).toInt = 0 := rfl; omega) d2
      refine ⟨⟨d, ?_, hd, rfl⟩, ⟨i, hi, rfl⟩, okS_of t1 t2 k1 k2⟩
      rw [Int32.le_iff_toInt_le, nI_toInt (by omega)] at d1
      have e : (1 : Int32).toInt = 1 := rfl
      omega
  · refine CR_q (GD_k hg) (fun k hk => by rw [up2_ne (by omega), up2_ne (by omega), up2_ne (by omega), up2_ne (by omega)]) (by rw [up2_ne (by omega), up2_ne (by omega), up2_ne (by omega), up2_ne (by omega)]) ⟨HallC_c (show q.1.length ≤ 5 from hl) (by rw [up2_ne (by omega), up2_ne (by omega), up2_ne (by omega), up2_ne (by omega)]) (fun i hi => by rw [up2_ne (by omega), up2_ne (by omega), up2_ne (by omega), up2_ne (by omega)]) hc.1.1, ?_, ?_, ?_⟩ hc
    · show Row3 (up2 _ 36 3 _ (36 + 1)) (up2 _ 36 3 _ (36 + 2)) (up2 _ 36 3 _ (36 + 3)) (up2 _ 36 3 _ 36 3) _
      simp (disch := omega) only [up2_ne, up2_at, up2_self]
      rw [← nI_1, ← hN]
      have := Row3_push a1 (nI i) (a3 * 4 + a4) s1
      rw [show σ (22 + 14) 3 = nI q.2.1.length from by rw [hN]; exact hs] at this
      rw [Int32.mul_comm 4 a3]
      exact this
    · have := hc.1.2.2.1
      unfold SeeC at this ⊢
      simp (disch := omega) only [up2_ne]
      exact this
    · rw [up2_ne (by omega), up2_ne (by omega), up2_ne (by omega), up2_ne (by omega)]; exact hc.1.2.2.2
  · refine RR_q (fun k hk => by rw [ri_ui_cell (by omega), ri_ui_cell (by omega), ri_ui_cell (by omega), ri_ui_cell (by omega)]) (fun j hj => by rw [ri_ui_ne (by omega), ri_ui_ne (by omega), ri_ui_ne (by omega), ri_ui_ne (by omega)]) (by rw [ri_ui_ne (by omega), ri_ui_ne (by omega), ri_ui_ne (by omega), ri_ui_ne (by omega)]; exact hr.1) ?_ ?_ ?_ (by rw [ri_ui_ne (by omega), ri_ui_ne (by omega), ri_ui_ne (by omega), ri_ui_ne (by omega)]; exact hr.2.2.2.2.1) hr
    · have := hr.2.1
      intro i w hw
      obtain ⟨z1, z2, z3⟩ := this i w hw
      refine ⟨?_, ?_, fun j x hx => ?_⟩
      · rw [ri_ui_cell (by omega), ri_ui_cell (by omega), ri_ui_cell (by omega), ri_ui_cell (by omega)]; exact z1
      · rw [ri_ui_cell (by omega), ri_ui_cell (by omega), ri_ui_cell (by omega), ri_ui_cell (by omega)]; exact z2
      · show ri _ 2 _ = x
        rw [ri_ui_cell (by omega), ri_ui_cell (by omega), ri_ui_cell (by omega), ri_ui_cell (by omega)]; exact z3 j x hx
    · have h8 := Row3_push a1 (nI i) (4 * a3 + a4) s2
      rw [s2.1, hN] at h8
      refine ⟨by rw [ri_ui_self]; show nI (N + 1) = nI (q.2.1 ++ [_]).length; simp [hN], fun j x hx => ?_⟩
      have h9 := h8.2 j x hx
      simp (disch := omega) only [ri_ui_cell, ri_ui_at]
      exact h9
    · have := hr.2.2.2.1
      refine ⟨?_, fun j x hx => ?_⟩
      · rw [ri_ui_ne (by omega), ri_ui_ne (by omega), ri_ui_ne (by omega), ri_ui_ne (by omega)]; exact this.1
      · simp (disch := omega) only [ri_ui_cell]
        exact this.2 j x hx

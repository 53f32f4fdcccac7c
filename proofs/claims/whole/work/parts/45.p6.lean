/-! the pure side, 6: see, image, restore -/
theorem op_see (n : Nat) (σ : St) (τ : SR) (a1 a2 a3 : Int32) (hn : n < 512) (h : Rel n σ τ) (h01 : a3 = 0 ∨ a3 = 1) : ∃ (r : Int32) (σ' : St) (τ' : SR), f_X9_see σ a1 a2 a3 = some (r, σ') ∧ f_X10_see τ a1 a2 a3 = some (r, τ') ∧ Rel (n + 1) σ' τ' := by
  have hR := Rel_up n σ τ h
  obtain ⟨q, cs, wa, pg, kp, hg, hc, hr⟩ := h
  have hg2 := GD_up hg
  have hl := GD_n hg
  unfold f_X9_see f_X10_see
  rw [isWit9 (CR_n hc), isWit10 hr.1, bo_s, bo_s]
  rcases iw_or (GD_n hg) a1 with h1 | ⟨h1, i, hi, rfl⟩
  · rw [h1, if_pos rfl, if_pos rfl]; exact ⟨_, _, _, rfl, rfl, hR⟩
  rw [h1, if_neg one0, if_neg one0, within9, within10, bo_s, bo_s]
  rcases wi_or a2 0 3 with h2 | ⟨h2, t1, t2⟩
  · rw [h2, if_pos rfl, if_pos rfl]; exact ⟨_, _, _, rfl, rfl, hR⟩
  obtain ⟨w, hw4, rfl⟩ := wi_nat (m := 3) (by decide) t1 t2
  have s1 := hc.1.2.2.1
  have s2 := hr.2.2.2.1
  have hs : σ 40 2 = nI q.2.2.1.length := s1.1
  have hw := hg.1.2.2.2.1
  rw [h2, if_neg one0, if_neg one0, hs, s2.1]
  by_cases hf : q.2.2.1.length = 6
  · rw [hf, if_neg (by decide), if_pos (by decide)]; exact ⟨_, _, _, rfl, rfl, hR⟩
  have hlt : q.2.2.1.length < 6 := by have := hw.1; omega
  rw [if_pos (show nI q.2.2.1.length < 6 from nI_lt hlt (by decide)), if_neg (show ¬ nI q.2.2.1.length = 6 from fun e => hf ((nI_eq (b := 6) (by omega) (by decide)).mp e)), gd_t _ (inb_nI hlt (by decide))]
  unfold f_X4_add bv
  rw [hs, if_neg (show ¬ 6 ≤ nI q.2.2.1.length from nI_ge hlt (by decide)), gd_t _ (inb_nI hlt (by decide)), nI_clamp (by omega)]
  dsimp only
  have hq4 : (if a3 = 0 then gd (inb (nI w) 4) (some (31 &&& ((co (nI w)) ^^^ (-1)))) else gd (inb (nI w) 4) (some (co (nI w)))) = some (lvs (nI i, nI w, a3)) := by
    unfold lvs
    rw [gd_t _ (inb_nI (by omega) (by decide)), gd_t _ (inb_nI (by omega) (by decide))]
    split <;> rfl
  have hq5 : (if a3 = 0 then some (0 : Int32) else some 1) = some a3 := by
    rcases h01 with rfl | rfl <;> rfl
  rw [hq4, hq5, bo_s]
  generalize hN : q.2.2.1.length = N at *
  have e1 : up2 σ (40 + 1) N (nI i) 40 2 = nI N := by rw [up2_ne (by omega)]; exact hs
  rw [e1, gd_t _ (inb_nI hlt (by decide)), nI_clamp (by omega)]
  have e2 : up2 (up2 σ (40 + 1) N (nI i)) (40 + 2) N (lvs (nI i, nI w, a3)) 40 2 = nI N := by rw [up2_ne (by omega)]; exact e1
  rw [e2, bo_s, up2_self, nI_1]
  have f1 : ri (ui τ 9 N (nI i)) 0 13 = nI N := by rw [ri_ui_ne (by omega)]; exact s2.1.trans (by rw [hN])
  rw [f1, gd_t _ (inb_nI hlt (by decide)), nI_clamp (by omega), bo_s]
  have f2 : ri (ui (ui τ 9 N (nI i)) 10 N (nI w)) 0 13 = nI N := by rw [ri_ui_ne (by omega)]; exact f1
  rw [f2, gd_t _ (inb_nI hlt (by decide)), nI_clamp (by omega)]
  have f3 : ri (ui (ui (ui τ 9 N (nI i)) 10 N (nI w)) 11 N a3) 0 13 = nI N := by rw [ri_ui_ne (by omega)]; exact f2
  rw [f3, nI_1, ri_ui_self]
  refine ⟨_, _, _, rfl, rfl, (q.1, q.2.1, q.2.2.1 ++ [(nI i, nI w, a3)], q.2.2.2), cs, wa, pg, kp, ⟨⟨hg2.1.1, rfl, hg2.1.2.2.1, ⟨?_, ?_⟩, hg2.1.2.2.2.2⟩, hg2.2⟩, ?_, ?_⟩
  · simp; omega
  · intro x hx
    rcases List.mem_append.mp hx with hx | hx
    · exact hw.2 x hx
    · rw [List.mem_singleton.mp hx]
      exact ⟨⟨i, hi, rfl⟩, ⟨w, by omega, rfl⟩, h01⟩
  · refine CR_q (GD_k hg) (fun k hk => by rw [up2_ne (by omega), up2_ne (by omega), up2_ne (by omega)]) (by rw [up2_ne (by omega), up2_ne (by omega), up2_ne (by omega)]) ⟨HallC_c (show q.1.length ≤ 5 from hl) (by rw [up2_ne (by omega), up2_ne (by omega), up2_ne (by omega)]) (fun i hi => by rw [up2_ne (by omega), up2_ne (by omega), up2_ne (by omega)]) hc.1.1, ?_, ?_, ?_⟩ hc
    · have := hc.1.2.1
      unfold SliC at this ⊢
      simp (disch := omega) only [up2_ne]
      exact this
    · refine ⟨by rw [up2_self]; show nI (N + 1) = nI (q.2.2.1 ++ [_]).length; simp [hN], fun j x hx => ?_⟩
      simp (disch := omega) only [up2_ne, up2_at]
      rcases get_app hx with ⟨hj, hx⟩ | ⟨rfl, rfl⟩
      · rw [hN] at hj
        rw [pk_un (by omega), pk_un (by omega)]
        exact s1.2 j x hx
      · rw [hN]
        exact ⟨pk_us, pk_us⟩
    · rw [up2_ne (by omega), up2_ne (by omega), up2_ne (by omega)]; exact hc.1.2.2.2
  · refine RR_q (fun k hk => by rw [ri_ui_cell (by omega), ri_ui_cell (by omega), ri_ui_cell (by omega), ri_ui_cell (by omega)]) (fun j hj => by rw [ri_ui_ne (by omega), ri_ui_ne (by omega), ri_ui_ne (by omega), ri_ui_ne (by omega)]) (by rw [ri_ui_ne (by omega), ri_ui_ne (by omega), ri_ui_ne (by omega), ri_ui_ne (by omega)]; exact hr.1) ?_ ?_ ?_ (by rw [ri_ui_ne (by omega), ri_ui_ne (by omega), ri_ui_ne (by omega), ri_ui_ne (by omega)]; exact hr.2.2.2.2.1) hr
    · intro i w hw
      obtain ⟨z1, z2, z3⟩ := hr.2.1 i w hw
      refine ⟨?_, ?_, fun j x hx => ?_⟩
      · simp (disch := omega) only [ri_ui_cell]; exact z1
      · simp (disch := omega) only [ri_ui_cell]; exact z2
      · simp (disch := omega) only [ri_ui_cell]; exact z3 j x hx
    · have := hr.2.2.1
      refine ⟨?_, fun j x hx => ?_⟩
      · rw [ri_ui_ne (by omega), ri_ui_ne (by omega), ri_ui_ne (by omega), ri_ui_ne (by omega)]; exact this.1
      · simp (disch := omega) only [ri_ui_cell]
        exact this.2 j x hx
    · have h8 := Row3_push (nI i) (nI w) a3 s2
      rw [s2.1, hN] at h8
      refine ⟨by rw [ri_ui_self]; show nI (N + 1) = nI (q.2.2.1 ++ [_]).length; simp [hN], fun j x hx => ?_⟩
      have h9 := h8.2 j x hx
      simp (disch := omega) only [ri_ui_cell, ri_ui_at]
      exact h9
-- ===== copies: a loop that copies row by row =====
/-- class: Witness.copyFrom -/
theorem copyW_s {σ : St} {k a : Nat} (hka : k ≠ a) (hka1 : k + 1 ≠ a) (hka2 : k ≠ a + 1) (hka3 : k + 1 ≠ a + 1) : ∃ σ', f_X7_copyFrom k σ a = some σ' ∧ (∀ c, c ≠ k → c ≠ k + 1 → σ' c = σ c) ∧ σ' k 2 = σ a 2 ∧ σ' k 1 = σ a 1 ∧ ∀ j, j < 3 → σ' (k + 1) j = σ (a + 1) j := by
  unfold f_X7_copyFrom bv
  dsimp only
  generalize hS2 : up2 (up2 σ k 2 (σ a 2)) k 1 (up2 σ k 2 (σ a 2) a 1) = S2
  have g1 : ∀ c, c ≠ k → S2 c = σ c := fun c hc => by rw [← hS2, up2_ne hc, up2_ne hc]
  have g2 : S2 k 2 = σ a 2 := by rw [← hS2, up2_slot (by omega), up2_self]
  have g3 : S2 k 1 = σ a 1 := by rw [← hS2, up2_self, up2_ne (fun e => hka e.symm)]
  obtain ⟨x, hx, hv⟩ := lp_up0 (body := fun (s3 : Int32 × (Nat → Nat → Int32)) => b_X7_copyFrom_18 k a s3.1 s3.2) (s := (0, S2)) (fun x => (∀ c, c ≠ k + 1 → x c = S2 c) ∧ ∀ j, j < 3 → x (k + 1) j = σ (a + 1) j) (fun i s => s.1 = nI i ∧ (∀ c, c ≠ k + 1 → s.2 c = S2 c) ∧ ∀ j, j < i → s.2 (k + 1) j = σ (a + 1) j) 3 (by decide) ⟨rfl, fun _ _ => rfl, fun j hj => absurd hj (by omega)⟩
    (fun i s hi hI => by
      obtain ⟨c0, T⟩ := s
      obtain ⟨rfl, h1, h2⟩ := hI
      dsimp only at h1 h2
      refine Or.inl ⟨(nI (i + 1), up2 T (k + 1) i (T (a + 1) i)), ?_, rfl, fun c hc => by show up2 _ _ _ _ c = _; rw [up2_ne hc]; exact h1 c hc, fun j hj => ?_⟩
      · dsimp only
        unfold b_X7_copyFrom_18 bv
        rw [if_neg (show ¬ 3 ≤ nI i from nI_ge hi (by decide)), gd_t _ (inb_nI hi (by decide)), gd_t _ (inb_nI hi (by decide)), nI_clamp (by omega)]
        dsimp only
        rw [nI_1]
      · show up2 _ _ _ _ (k + 1) j = _
        by_cases e : j = i
        · subst e
          rw [up2_self, h1 _ (fun e => hka3 e.symm), g1 _ (fun e => hka2 e.symm)]
        · rw [up2_slot e]; exact h2 j (by omega))
    (fun s hI => by
      obtain ⟨c0, T⟩ := s
      obtain ⟨rfl, h1, h2⟩ := hI
      dsimp only at h1 h2
      exact ⟨T, by dsimp only; unfold b_X7_copyFrom_18; rw [if_pos (by decide)], h1, h2⟩)
  rw [hx, bo_s]
  refine ⟨x, rfl, fun c h1 h2 => by rw [hv.1 c h2, g1 c h1], by rw [hv.1 k (by omega)]; exact g2, by rw [hv.1 k (by omega)]; exact g3, hv.2⟩
/-- class: Hall.copyFrom, halls apart -/
theorem copyH_s {σ : St} {k a : Nat} {ws : List Wt} (hw : WFs ws) (hap : k + 13 ≤ a ∨ a + 13 ≤ k) (h : HallC σ a ws) : ∃ σ', f_X1_copyFrom k σ a = some σ' ∧ (∀ c, (c < k ∨ k + 13 ≤ c) → σ' c = σ c) ∧ HallC σ' k ws := by
  unfold f_X1_copyFrom bv
  dsimp only
  have hl := hw.1
  generalize hS1 : up2 σ k 2 (σ a 2) = S1
  have g1 : ∀ c, c ≠ k → S1 c = σ c := fun c hc => by rw [← hS1, up2_ne hc]
  have g2 : S1 k 2 = nI ws.length := by rw [← hS1, up2_self]; exact h.1
  obtain ⟨x, hx, hv1, hv2⟩ := lp_up0 (body := fun (s2 : Int32 × (Nat → Nat → Int32)) => b_X1_copyFrom_10 k a s2.1 s2.2) (s := (0, S1)) (fun x => (∀ c, (c < k + 3 ∨ k + 13 ≤ c) → x c = S1 c) ∧ ∀ i w, ws[i]? = some w → WitC x (k + 3 + 2 * i) w) (fun i s => s.1 = nI i ∧ (∀ c, (c < k + 3 ∨ k + 13 ≤ c) → s.2 c = S1 c) ∧ ∀ j w, j < i → ws[j]? = some w → WitC s.2 (k + 3 + 2 * j) w) ws.length (by omega) ⟨rfl, fun _ _ => rfl, fun j w hj => absurd hj (by omega)⟩
    (fun i s hi hI => by
      obtain ⟨c0, T⟩ := s
      obtain ⟨rfl, h1, h2⟩ := hI
      dsimp only at h1 h2
      obtain ⟨T2, ht, t1, t2, t3, t4⟩ := copyW_s (σ := T) (k := k + 3 + 2 * i) (a := a + 3 + 2 * i) (by omega) (by omega) (by omega) (by omega)
      refine Or.inl ⟨(nI (i + 1), T2), ?_, rfl, fun c hc => by show T2 c = _; rw [t1 c (by omega) (by omega)]; exact h1 c hc, fun j w hj hw2 => ?_⟩
      · dsimp only
        unfold b_X1_copyFrom_10 bv
        rw [h1 k (by omega), g2, if_neg (nI_ge hi (by omega)), gd_t _ (inb_nI (by omega) (by decide)), gd_t _ (inb_nI (by omega) (by decide)), nI_clamp (by omega), ht, bo_s]
        dsimp only
        rw [nI_1]
      · by_cases e : j = i
        · subst e
          have ha := h.2 j w hw2
          have hT : ∀ c, a ≤ c → c < a + 13 → T c = σ c := by
            intro c c1 c2
            rw [h1 c (by omega), g1 c (by omega)]
          refine ⟨?_, ?_, fun z y hy => ?_⟩
          · show T2 _ 2 = _
            rw [t2, hT _ (by omega) (by omega)]; exact ha.1
          · show T2 _ 1 = _
            rw [t3, hT _ (by omega) (by omega)]; exact ha.2.1
          · have hz := (List.getElem?_eq_some_iff.mp hy).1
            have h3 := (hw.2 w (List.mem_of_getElem? hw2)).1
            show T2 _ z = _
            rw [t4 z (by omega), hT _ (by omega) (by omega)]; exact ha.2.2 z y hy
        · have hb := h2 j w (by omega) hw2
          unfold WitC at hb ⊢
          show T2 _ 2 = _ ∧ Row (T2 _) (T2 _ 1) _
          rw [t1 (k + 3 + 2 * j) (by omega) (by omega), t1 (k + 3 + 2 * j + 1) (by omega) (by omega)]
          exact hb)
    (fun s hI => by
      obtain ⟨c0, T⟩ := s
      obtain ⟨rfl, h1, h2⟩ := hI
      dsimp only at h1 h2
      refine ⟨T, ?_, h1, fun i w hw2 => h2 i w (List.getElem?_eq_some_iff.mp hw2).1 hw2⟩
      dsimp only
      unfold b_X1_copyFrom_10
      rw [h1 k (by omega), g2, if_pos (nI_le (Nat.le_refl _) (by omega))])
  rw [hx, bo_s]
  refine ⟨x, rfl, fun c hc => ?_, ?_, hv2⟩
  · rw [hv1 c (by omega), g1 c (by omega)]
  · rw [hv1 k (by omega)]; exact g2

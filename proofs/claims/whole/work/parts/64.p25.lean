/-! the pure side, 25: the reference reads: all -/
def caseStep (c8 : Int32) (c9 : SR) : Option ((Int32 × SR) ⊕ ((Int32 × SR) ⊕ (Int32 × SR))) :=
  (bo (f_X10_isThing c9 c8) (fun (r12 : Int32) => if r12 = 0 then (some (.inr (.inr (c8, c9)))) else (bo (f_X10_isDigit c9 (c8 + 1) 1 6) (fun (r14 : Int32) => if r14 = 0 then (some (.inr (.inr (c8 + 1, c9)))) else (bo (f_X10_at c9 c8) (fun (r16 : Int32) => gd (inb (ri c9 0 21) 4) (bv (ui c9 16 ((ri c9 0 21).toNatClampNeg) (r16 - 97)) (fun S18 => bo (f_X10_at S18 (c8 + 1)) (fun (r19 : Int32) => gd (inb (ri S18 0 21) 4) (bv (ui S18 17 ((ri S18 0 21).toNatClampNeg) (r19 - 48)) (fun S21 => bv (ui S21 0 21 ((ri S21 0 21) + 1)) (fun S22 => bv (c8 + 2) (fun (v23 : Int32) => bo (if v23 = (ri S22 0 17) then (some 1) else (some 0)) (fun (q24 : Int32) => bv (ui S22 0 19 q24) (fun S27 => if (ri S27 0 21) = 4 then (some (.inr (.inr (v23, S27)))) else (bo (f_X10_at S27 v23) (fun (r29 : Int32) => if r29 = 44 then (bv (v23 + 1) (fun (v31 : Int32) => some (.inl (v31, S27)))) else (some (.inr (.inr (v23, S27)))))))))))))))))))))
theorem cases_eq (c8 : Int32) (c9 : SR) : b_X10_readCases_19 c8 c9 = if 4 ≤ (ri c9 0 21) then (some (.inr (.inl (c8, c9)))) else (if 0 < (ri c9 0 21) then caseStep c8 c9 else (if (ri c9 0 19) = 0 then caseStep c8 c9 else (some (.inr (.inl (c8, c9)))))) := rfl
def Fr2 (T' T : SR) : Prop := T'.2 = T.2 ∧ ∀ c i, c ≠ 13 → c ≠ 14 → c ≠ 15 → ¬ (c = 0 ∧ i = 27) → ¬ (c = 0 ∧ i = 20) → ri T' c i = ri T c i
theorem Fr2_trans {A B C : SR} (h1 : Fr2 A B) (h2 : Fr2 B C) : Fr2 A C := ⟨h1.1.trans h2.1, fun c i a b d e f => (h1.2 c i a b d e f).trans (h2.2 c i a b d e f)⟩
theorem Fr2_pg {T T' : SR} {pg : List Int32} (hF : Fr2 T' T) (h : PgR T pg) : PgR T' pg := PgR_c (by funext i; exact hF.2 12 i (by omega) (by omega) (by omega) (by omega) (by omega)) (hF.2 0 17 (by omega) (by omega) (by omega) (by omega) (by omega)) h
theorem cur_app (ws : List Wt) (w : Wt) : cur (ws ++ [w]) = w := by
  unfold cur atW
  rw [List.length_append, show ws.length + [w].length - 1 = ws.length from by simp, List.getElem?_append_right (Nat.le_refl _), Nat.sub_self]
  rfl
theorem QN_push {T : SR} {ws : List Wt} {x : Int32} (h : QN T ws) : QN (ui (ui T 13 ws.length x) 15 ws.length 0) (ws ++ [(x, [])]) := by
  intro i w hi
  rcases get_app hi with ⟨e1, e2⟩ | ⟨e1, e2⟩
  · obtain ⟨a1, a2⟩ := h i w e2
    refine ⟨?_, ?_⟩
    · rw [ri_ui_cell (by omega), ri_ui_ne (by omega)]; exact a1
    · rw [ri_ui_ne (by omega), ri_ui_cell (by omega), ri_ui_cell (by omega), ri_ui_cell (by omega)]; exact a2
  · subst e1 e2
    refine ⟨?_, ?_⟩
    · rw [ri_ui_cell (by omega), ri_ui_self]
    · rw [ri_ui_self]; exact Row_nil
theorem QN_c {T T' : SR} {ws : List Wt} (h13 : ri T' 13 = ri T 13) (h14 : ri T' 14 = ri T 14) (h15 : ri T' 15 = ri T 15) (h : QN T ws) : QN T' ws := by
  unfold QN at h ⊢
  rw [h13, h14, h15]
  exact h
theorem readWit_s {pg : List Int32} : ∀ (d k f : Nat) (T : SR) (ws : List Wt) (t : Int32), ws.length + d = 5 → 0 < d → d ≤ f → k ≤ pg.length → PgR T pg → QN T ws → ri T 0 20 = nI ws.length → ri T 0 27 = 0 → PV (0, ws, [], t) →
    ∃ (k' : Nat) (T' : SR), lp (fun (s1 : Int32 × SR) => b_X10_readWitnesses_2 s1.1 s1.2) f (nI k, T) = some (nI k', T') ∧ Fr2 T' T ∧ k' ≤ 54 ∧
      ((ri T' 0 27 = 1 ∧ ∃ s' : PS, fin pg k (0, ws, [], t) = (k', s') ∧ (s'.1 = 0 ∨ s'.1 = 2)) ∨
       (ri T' 0 27 = 0 ∧ ∃ (ws' : List Wt) (t' : Int32), fin pg k (0, ws, [], t) = fin pg k' (1, ws', [], t') ∧ k' ≤ pg.length ∧ QN T' ws' ∧ ri T' 0 20 = nI ws'.length ∧ PV (1, ws', [], t') ∧ ¬ ((cur ws').2.length < 3 ∧ wi (atP pg k' - 97) 0 5 = 1) ∧ ¬ (atP pg k' = 44 ∧ ws'.length < 5))) := by
  intro d
  induction d with
  | zero => intro k f T ws t _ h; exact absurd h (by omega)
  | succ d ih =>
    intro k f T ws t hd _ hf hk hp hq h20 h27 hv
    have h54 := hp.2
    have hl := hv.2.1.1
    dsimp only at hl
    have h5 : ws.length < 5 := by omega
    have hib := inb_nI (i := ws.length) (n := 5) h5 (by decide)
    obtain ⟨f, rfl⟩ : ∃ g, f = g + 1 := ⟨f - 1, by omega⟩
    by_cases hk1 : kb (atP pg k) = -1
    · -- no kind
      have hst : pstep (0, ws, [], t) (atP pg k) = none := by
        unfold pstep
        dsimp only
        rw [if_pos rfl, if_pos hk1]
      refine ⟨k, ui (ui T 13 ws.length (-1)) 0 27 1, ?_, ⟨rfl, fun c i h1 h2 h3 h4 h5 => by rw [ri_ui_ne h4, ri_ui_ne (by omega)]⟩, by omega, Or.inl ⟨ri_ui_self, _, fin_stop hst, Or.inl rfl⟩⟩
      apply lp_inr
      dsimp only
      unfold b_X10_readWitnesses_2
      rw [at_s hp (by omega), bo_s, kindBy_s, bo_s, hk1, h20, gd_t _ hib, nI_clamp (by omega)]
      simp only [bv]
      rw [ri_ui_ne (show ¬ (0 = 13 ∧ 20 = ws.length) by omega), h20, gd_t _ hib, nI_clamp (by omega), ri_ui_self, if_pos rfl]
    · -- a kind
      have hst : pstep (0, ws, [], t) (atP pg k) = some (1, ws ++ [(kb (atP pg k), [])], [], t) := by
        unfold pstep
        dsimp only
        rw [if_pos rfl, if_neg hk1]
      obtain ⟨hk2, hf2⟩ := fin_go hst
      have hv2 := PV_step hv hst
      generalize hT2 : ui (ui T 13 ws.length (kb (atP pg k))) 15 ws.length 0 = T2
      have hq2 : QN T2 (ws ++ [(kb (atP pg k), [])]) := by rw [← hT2]; exact QN_push hq
      have hF2 : Fr2 T2 T := by
        rw [← hT2]
        exact ⟨rfl, fun c i h1 h2 h3 h4 h5 => by rw [ri_ui_ne (by omega), ri_ui_ne (by omega)]⟩
      have g20 : ri T2 0 20 = nI ws.length := by rw [← hT2, ri_ui_ne (by omega), ri_ui_ne (by omega)]; exact h20
      have g27 : ri T2 0 27 = 0 := by rw [← hT2, ri_ui_ne (by omega), ri_ui_ne (by omega)]; exact h27
      have hrs := readSights_s 3 (k + 1) 5000 T2 (ws ++ [(kb (atP pg k), [])]) t (by rw [cur_app]; rfl) (by omega) (by omega) (Fr2_pg hF2 hp) hq2 hv2
      rw [show (ws ++ [(kb (atP pg k), ([] : List Int32))]).length - 1 = ws.length from by simp] at hrs
      -- how the body begins
      have hbeg : ∀ y, lp (fun (s3 : Int32 × SR) => b_X10_readSights_9 (nI ws.length) s3.1 s3.2) 5000 (nI (k + 1), T2) = some y → b_X10_readWitnesses_2 (nI k) T = bo (Sum.elim (fun (x4 : Int32 × SR) => some (x4.1, x4.2)) (fun (x4 : Int32 × SR) => some x4) y) (fun (r12 : Int32 × SR) => if (ri r12.2 0 27) = 0 then (bv (ui r12.2 0 20 ((ri r12.2 0 20) + 1)) (fun S14 => if (ri S14 0 20) = 5 then (some (.inr (r12.1, S14))) else (bo (f_X10_at S14 r12.1) (fun (r16 : Int32) => if r16 = 44 then (bv (r12.1 + 1) (fun (v18 : Int32) => some (.inl (v18, S14)))) else (some (.inr (r12.1, S14))))))) else (some (.inr (r12.1, r12.2)))) := by
        intro y hy
        unfold b_X10_readWitnesses_2 f_X10_readSights
        rw [at_s hp (by omega), bo_s, kindBy_s, bo_s, h20, gd_t _ hib, nI_clamp (by omega)]
        simp only [bv]
        rw [ri_ui_ne (show ¬ (0 = 13 ∧ 20 = ws.length) by omega), h20, gd_t _ hib, nI_clamp (by omega), ri_ui_self, if_neg hk1, gd_t _ hib, nI_1, hT2, hy, bo_s]
      rcases hrs with ⟨k', T', ws', t', e1, e2, e3, e4, e5, e6, e7, e8, e9⟩ | ⟨k', T', s', e1, e2, e3, e4, e5⟩
      · have hb := hbeg _ e1
        simp only [Sum.elim_inl, bo_s] at hb
        have q27 : ri T' 0 27 = 0 := by rw [e8]; exact g27
        have q20 : ri T' 0 20 = nI ws.length := by rw [e7.2 0 20 (by omega) (by omega) (by omega)]; exact g20
        have hl' : ws'.length = ws.length + 1 := by rw [e6]; simp
        rw [if_pos q27, q20, nI_1] at hb
        simp only [bv] at hb
        generalize hT3 : ui T' 0 20 (nI (ws.length + 1)) = T3 at hb
        have q3 : ri T3 0 20 = nI (ws.length + 1) := by rw [← hT3]; exact ri_ui_self
        have hF3 : Fr2 T3 T := by
          refine Fr2_trans ⟨?_, fun c i h1 h2 h3 h4 h5 => ?_⟩ hF2
          · rw [← hT3]; exact e7.1
          · rw [← hT3, ri_ui_ne h5]; exact e7.2 c i h2 h3 h4
        have hq3 : QN T3 ws' := QN_c (by rw [← hT3, ri_ui_cell (by omega)]) (by rw [← hT3, ri_ui_cell (by omega)]) (by rw [← hT3, ri_ui_cell (by omega)]) e4
        have q27' : ri T3 0 27 = 0 := by rw [← hT3, ri_ui_ne (by omega)]; exact q27
        have hp3 := Fr2_pg hF3 hp
        rw [q3] at hb
        by_cases c5 : ws.length + 1 = 5
        · rw [c5, if_pos (show nI 5 = 5 from rfl)] at hb
          exact ⟨k', T3, lp_inr (by exact hb), hF3, by omega, Or.inr ⟨q27', ws', t', by rw [hf2]; exact e2, e3, hq3, by rw [q3, hl'], e5, e9, fun z => by omega⟩⟩
        · rw [if_neg (show ¬ nI (ws.length + 1) = 5 from fun z => c5 ((nI_eq (b := 5) (by omega) (by decide)).mp z)), at_s hp3 (by omega), bo_s] at hb
          by_cases c44 : atP pg k' = 44
          · rw [if_pos c44, nI_1] at hb
            -- the next witness
            have hst4 : pstep (1, ws', [], t') (atP pg k') = some (0, ws', [], t') := by
              unfold pstep
              dsimp only
              rw [if_neg (by decide), if_pos rfl, if_neg (by rw [c44]; decide), if_pos ⟨c44, by omega⟩]
            obtain ⟨hk4, hf4⟩ := fin_go hst4
            obtain ⟨k2, T4, i1, i2, i3, i4⟩ := ih (k' + 1) f T3 ws' t' (by omega) (by omega) (by omega) (by omega) hp3 hq3 (by rw [q3, hl']) q27' (PV_step e5 hst4)
            refine ⟨k2, T4, ?_, Fr2_trans i2 hF3, i3, ?_⟩
            · rw [lp_inl (s' := (nI (k' + 1), T3)) (by exact hb)]; exact i1
            · rw [hf2, e2, hf4]; exact i4
          · rw [if_neg c44] at hb
            exact ⟨k', T3, lp_inr (by exact hb), hF3, by omega, Or.inr ⟨q27', ws', t', by rw [hf2]; exact e2, e3, hq3, by rw [q3, hl'], e5, e9, fun z => c44 z.1⟩⟩
      · have hb := hbeg _ e1
        simp only [Sum.elim_inr, bo_s] at hb
        rw [if_neg (by rw [e5]; exact one0)] at hb
        have hkl : k' ≤ 54 := by
          have : (k', s') = fin pg (k + 1) (1, ws ++ [(kb (atP pg k), [])], [], t) := e2.symm
          have h1 : k' = k + 1 + (prun (1, ws ++ [(kb (atP pg k), [])], [], t) (pg.drop (k + 1))).1 := congrArg Prod.fst this
          have h2 : ∀ (l : List Int32) (s : PS), (prun s l).1 ≤ l.length := by
            intro l
            induction l with
            | nil => intro s; exact Nat.le_refl _
            | cons x l ih =>
              intro s
              rw [prun]
              cases pstep s x with
              | none => exact Nat.zero_le _
              | some s' => have := ih s'; simp; omega
          have := h2 (pg.drop (k + 1)) (1, ws ++ [(kb (atP pg k), [])], [], t)
          rw [List.length_drop] at this
          omega
        refine ⟨k', T', lp_inr (by exact hb), Fr2_trans ⟨e4.1, fun c i h1 h2 h3 h4 h5 => e4.2 c i h2 h3 h4⟩ hF2, hkl, Or.inl ⟨e5, s', by rw [hf2]; exact e2, Or.inr e3⟩⟩

/-! the pure side, 26: the reference reads: cases, the whole page -/
def CN (T : SR) (cs : List (Int32 × Int32)) : Prop := ∀ j x, cs[j]? = some x → ri T 16 j = x.1 ∧ ri T 17 j = x.2
def Fr3 (T' T : SR) : Prop := T'.2 = T.2 ∧ ∀ c i, c ≠ 16 → c ≠ 17 → ¬ (c = 0 ∧ i = 19) → ¬ (c = 0 ∧ i = 21) → ri T' c i = ri T c i
theorem Fr3_rfl (T : SR) : Fr3 T T := ⟨rfl, fun _ _ _ _ _ _ => rfl⟩
theorem Fr3_trans {A B C : SR} (h1 : Fr3 A B) (h2 : Fr3 B C) : Fr3 A C := ⟨h1.1.trans h2.1, fun c i a b d e => (h1.2 c i a b d e).trans (h2.2 c i a b d e)⟩
theorem Fr3_pg {T T' : SR} {pg : List Int32} (hF : Fr3 T' T) (h : PgR T pg) : PgR T' pg := PgR_c (by funext i; exact hF.2 12 i (by omega) (by omega) (by omega) (by omega)) (hF.2 0 17 (by omega) (by omega) (by omega) (by omega)) h
theorem CN_push {T : SR} {cs : List (Int32 × Int32)} {a b : Int32} (h : CN T cs) : CN (ui (ui T 16 cs.length a) 17 cs.length b) (cs ++ [(a, b)]) := by
  intro j x hx
  rcases get_app hx with ⟨e1, e2⟩ | ⟨e1, e2⟩
  · obtain ⟨a1, a2⟩ := h j x e2
    refine ⟨?_, ?_⟩
    · rw [ri_ui_ne (by omega), ri_ui_ne (by omega)]; exact a1
    · rw [ri_ui_ne (by omega), ri_ui_ne (by omega)]; exact a2
  · subst e1 e2
    refine ⟨?_, ?_⟩
    · rw [ri_ui_ne (by omega), ri_ui_self]
    · rw [ri_ui_self]
theorem CN_c {T T' : SR} {cs : List (Int32 × Int32)} (h16 : ri T' 16 = ri T 16) (h17 : ri T' 17 = ri T 17) (h : CN T cs) : CN T' cs := by
  unfold CN at h ⊢
  rw [h16, h17]
  exact h
theorem caseLoop_s {pg : List Int32} : ∀ (d k f m : Nat) (T : SR) (ws : List Wt) (cs : List (Int32 × Int32)) (t : Int32), cs.length + d = 4 → 0 < d → d ≤ f → k ≤ pg.length → (m = 3 ∨ m = 4) → (m = 3 → k < pg.length) → PgR T pg → CN T cs → ri T 0 21 = nI cs.length → ri T 0 19 = 0 →
    ∃ (k' : Nat) (T' : SR) (s' : PS), lp (fun (s5 : Int32 × SR) => b_X10_readCases_19 s5.1 s5.2) f (nI k, T) = some (.inr (nI k', T')) ∧ fin pg k (m, ws, cs, t) = (k', s') ∧ ri T' 0 19 = (if k' = pg.length ∧ (s'.1 = 3 ∨ s'.1 = 6) then 1 else 0) ∧ CN T' s'.2.2.1 ∧ ri T' 0 21 = nI s'.2.2.1.length ∧ s'.2.1 = ws ∧ Fr3 T' T := by
  intro d
  induction d with
  | zero => intro k f m T ws cs t _ h; exact absurd h (by omega)
  | succ d ih =>
    intro k f m T ws cs t hd _ hf hk hm hm3 hp hcn h21 h19
    have h54 := hp.2
    have h4 : cs.length < 4 := by omega
    have hib := inb_nI (i := cs.length) (n := 4) h4 (by decide)
    obtain ⟨f, rfl⟩ : ∃ g, f = g + 1 := ⟨f - 1, by omega⟩
    have hce : b_X10_readCases_19 (nI k) T = caseStep (nI k) T := by
      rw [cases_eq, h21, if_neg (show ¬ 4 ≤ nI cs.length from nI_ge (b := 4) h4 (by decide)), if_pos h19]
      split <;> rfl
    by_cases q1 : wi (atP pg k - 97) 0 5 = 1
    · have hst : pstep (m, ws, cs, t) (atP pg k) = some (5, ws, cs, atP pg k - 97) := by
        unfold pstep
        dsimp only
        rw [if_neg (by omega), if_neg (by omega), if_neg (by omega), if_pos hm, if_pos q1]
      obtain ⟨hk1, hf1⟩ := fin_go hst
      by_cases q2 : wi (atP pg (k + 1) - 48) 1 6 = 1
      · have hst2 : pstep (5, ws, cs, atP pg k - 97) (atP pg (k + 1)) = some (6, ws, cs ++ [(atP pg k - 97, atP pg (k + 1) - 48)], atP pg k - 97) := by
          unfold pstep
          dsimp only
          rw [if_neg (by decide), if_neg (by decide), if_neg (by decide), if_neg (by decide), if_pos rfl, if_pos q2]
        obtain ⟨hk2, hf2⟩ := fin_go hst2
        generalize ha : atP pg k - 97 = a at *
        generalize hb : atP pg (k + 1) - 48 = b at *
        have hlen : (cs ++ [(a, b)]).length = cs.length + 1 := by simp
        generalize hT1 : ui (ui T 16 cs.length a) 17 cs.length b = T1
        have hF1 : Fr3 T1 T := by
          rw [← hT1]
          exact ⟨rfl, fun c i h1 h2 _ _ => by rw [ri_ui_ne (by omega), ri_ui_ne (by omega)]⟩
        have hc1 : CN T1 (cs ++ [(a, b)]) := by rw [← hT1]; exact CN_push hcn
        have g21 : ri T1 0 21 = nI cs.length := by rw [← hT1, ri_ui_ne (by omega), ri_ui_ne (by omega)]; exact h21
        generalize hT2 : ui (ui T1 0 21 (nI (cs.length + 1))) 0 19 (if k + 2 = pg.length then 1 else 0) = T2
        have hF2 : Fr3 T2 T := Fr3_trans (by rw [← hT2]; exact ⟨rfl, fun c i _ _ h3 h4 => by rw [ri_ui_ne h3, ri_ui_ne h4]⟩) hF1
        have hc2 : CN T2 (cs ++ [(a, b)]) := CN_c (by rw [← hT2, ri_ui_cell (by omega), ri_ui_cell (by omega)]) (by rw [← hT2, ri_ui_cell (by omega), ri_ui_cell (by omega)]) hc1
        have z21 : ri T2 0 21 = nI (cs.length + 1) := by rw [← hT2, ri_ui_ne (by omega), ri_ui_self]
        have z19 : ri T2 0 19 = if k + 2 = pg.length then 1 else 0 := by rw [← hT2]; exact ri_ui_self
        have hp2 := Fr3_pg hF2 hp
        have hb0 : b_X10_readCases_19 (nI k) T = (if nI (cs.length + 1) = 4 then (some (.inr (.inr (nI (k + 2), T2)))) else (if atP pg (k + 2) = 44 then some (.inl (nI (k + 3), T2)) else (some (.inr (.inr (nI (k + 2), T2)))))) := by
          rw [hce]
          unfold caseStep
          have hpS : PgR (ui T 16 cs.length a) pg := PgR_c (by rw [ri_ui_cell (by omega)]) (by rw [ri_ui_ne (by omega)]) hp
          have s21 : ri (ui T 16 cs.length a) 0 21 = nI cs.length := by rw [ri_ui_ne (by omega)]; exact h21
          have s17 : ri (ui T1 0 21 (nI (cs.length + 1))) 0 17 = nI pg.length := by rw [ri_ui_ne (by omega)]; exact (Fr3_pg hF1 hp).1.1
          have hq24 : (if nI (k + 2) = nI pg.length then (some (1 : Int32)) else (some 0)) = some (if k + 2 = pg.length then 1 else 0) := by
            by_cases e : k + 2 = pg.length
            · rw [if_pos (by rw [e]), if_pos e]
            · rw [if_neg (fun z => e ((nI_eq (by omega) (by omega)).mp z)), if_neg e]
          rw [isThingR hp (by omega), bo_s, ha, q1, if_neg one0, nI_1, isDigitR hp (by omega), bo_s, hb, q2, if_neg one0, at_s hp (by omega), bo_s, ha, h21, gd_t _ hib, nI_clamp (by omega)]
          simp only [bv]
          rw [at_s hpS (by omega), bo_s, hb, s21, gd_t _ hib, nI_clamp (by omega), hT1, g21, nI_1, s17, show nI k + 2 = nI (k + 2) from nI_add k 2, hq24, bo_s, hT2, z21]
          congr 1
          rw [at_s hp2 (by omega), bo_s, nI_1]
        have h6 : pstep (6, ws, cs ++ [(a, b)], a) (atP pg (k + 2)) = if atP pg (k + 2) = 44 ∧ cs.length + 1 < 4 then some (4, ws, cs ++ [(a, b)], a) else none := by
          unfold pstep
          dsimp only
          rw [if_neg (by decide), if_neg (by decide), if_neg (by decide), if_neg (by decide), if_neg (by decide), hlen]
        have h0 : (if k + 2 = pg.length ∧ ((6 : Nat) = 3 ∨ (6 : Nat) = 6) then (1 : Int32) else 0) = if k + 2 = pg.length then 1 else 0 := by
          by_cases e : k + 2 = pg.length
          · rw [if_pos ⟨e, Or.inr rfl⟩, if_pos e]
          · rw [if_neg (fun z => e z.1), if_neg e]
        by_cases c4 : cs.length + 1 = 4
        · rw [if_pos (by rw [c4]; rfl)] at hb0
          rw [if_neg (fun z => by omega)] at h6
          exact ⟨k + 2, T2, _, lp_inr (by exact hb0), by rw [hf1, hf2, fin_stop h6], by rw [z19]; exact h0.symm, hc2, by rw [z21]; dsimp only; rw [hlen], rfl, hF2⟩
        · rw [if_neg (show ¬ nI (cs.length + 1) = 4 from fun z => c4 ((nI_eq (b := 4) (by omega) (by decide)).mp z))] at hb0
          by_cases c44 : atP pg (k + 2) = 44
          · rw [if_pos c44] at hb0
            rw [if_pos ⟨c44, by omega⟩] at h6
            obtain ⟨hk3, hf3⟩ := fin_go h6
            rw [if_neg (by omega)] at z19
            obtain ⟨k', T', s', i1, i2, i3, i4, i5, i6, i7⟩ := ih (k + 3) f 4 T2 ws (cs ++ [(a, b)]) a (by omega) (by omega) (by omega) (by omega) (Or.inr rfl) (fun z => by omega) hp2 hc2 (by rw [z21, hlen]) z19
            exact ⟨k', T', s', by rw [lp_inl (s' := (nI (k + 3), T2)) (by exact hb0)]; exact i1, by rw [hf1, hf2, hf3]; exact i2, i3, i4, i5, i6, Fr3_trans i7 hF2⟩
          · rw [if_neg c44] at hb0
            rw [if_neg (fun z => c44 z.1)] at h6
            exact ⟨k + 2, T2, _, lp_inr (by exact hb0), by rw [hf1, hf2, fin_stop h6], by rw [z19]; exact h0.symm, hc2, by rw [z21]; dsimp only; rw [hlen], rfl, hF2⟩
      · have hst2 : pstep (5, ws, cs, atP pg k - 97) (atP pg (k + 1)) = none := by
          unfold pstep
          dsimp only
          rw [if_neg (by decide), if_neg (by decide), if_neg (by decide), if_neg (by decide), if_pos rfl, if_neg q2]
        refine ⟨k + 1, T, _, ?_, by rw [hf1, fin_stop hst2], ?_, hcn, h21, rfl, Fr3_rfl T⟩
        · apply lp_inr
          dsimp only
          rw [hce]
          unfold caseStep
          rw [isThingR hp (by omega), bo_s, q1, if_neg one0, nI_1, isDigitR hp (by omega), bo_s, wi01 q2, if_pos rfl]
        · rw [h19, if_neg (fun z => by have := z.2; dsimp only at this; omega)]
    · have hst : pstep (m, ws, cs, t) (atP pg k) = none := by
        unfold pstep
        dsimp only
        rw [if_neg (by omega), if_neg (by omega), if_neg (by omega), if_pos hm, if_neg q1]
      refine ⟨k, T, _, ?_, fin_stop hst, ?_, hcn, h21, rfl, Fr3_rfl T⟩
      · apply lp_inr
        dsimp only
        rw [hce]
        unfold caseStep
        rw [isThingR hp (by omega), bo_s, wi01 q1, if_pos rfl]
      · rw [h19, if_neg (fun z => by have h1 := z.1; have := z.2; dsimp only at this; omega)]
theorem readCases_s {pg : List Int32} {k : Nat} {T : SR} {ws : List Wt} {t : Int32} (hk : k ≤ pg.length) (hp : PgR T pg) (h21 : ri T 0 21 = 0) : ∃ (k' : Nat) (T' : SR) (s' : PS), f_X10_readCases T (nI k) = some (nI k', T') ∧ fin pg k (3, ws, [], t) = (k', s') ∧ ri T' 0 19 = (if k' = pg.length ∧ (s'.1 = 3 ∨ s'.1 = 6) then 1 else 0) ∧ CN T' s'.2.2.1 ∧ ri T' 0 21 = nI s'.2.2.1.length ∧ s'.2.1 = ws ∧ Fr3 T' T := by
  have h54 := hp.2
  unfold f_X10_readCases
  rw [hp.1.1]
  have hq : (if nI k = nI pg.length then (some (1 : Int32)) else (some 0)) = some (if k = pg.length then 1 else 0) := by
    by_cases e : k = pg.length
    · rw [if_pos (by rw [e]), if_pos e]
    · rw [if_neg (fun z => e ((nI_eq (by omega) (by omega)).mp z)), if_neg e]
  rw [hq, bo_s]
  simp only [bv]
  generalize hT1 : ui T 0 19 (if k = pg.length then 1 else 0) = T1
  have hF1 : Fr3 T1 T := by rw [← hT1]; exact ⟨rfl, fun c i _ _ h3 _ => by rw [ri_ui_ne h3]⟩
  have g21 : ri T1 0 21 = nI ([] : List (Int32 × Int32)).length := by rw [← hT1, ri_ui_ne (by omega)]; exact h21
  have g19 : ri T1 0 19 = if k = pg.length then 1 else 0 := by rw [← hT1]; exact ri_ui_self
  by_cases e : k = pg.length
  · rw [if_pos e] at g19
    refine ⟨k, T1, (3, ws, [], t), ?_, fin_end (by omega), ?_, fun j x hx => by simp at hx, g21, rfl, hF1⟩
    · rw [show (5000 : Nat) = 4999 + 1 from rfl, lp_inr (x := .inl (nI k, T1)) (by
        dsimp only
        rw [cases_eq, g21, if_neg (by decide), if_neg (by decide), g19, if_neg one0]), bo_s]
      rfl
    · rw [g19, if_pos ⟨e, Or.inl rfl⟩]
  · rw [if_neg e] at g19
    obtain ⟨k', T', s', i1, i2, i3, i4, i5, i6, i7⟩ := caseLoop_s 4 k 5000 3 T1 ws [] t rfl (by omega) (by omega) hk (Or.inl rfl) (fun _ => by omega) (Fr3_pg hF1 hp) (fun j x hx => by simp at hx) g21 g19
    refine ⟨k', T', s', ?_, i2, i3, i4, i5, i6, Fr3_trans i7 hF1⟩
    rw [i1, bo_s]
    rfl
def Fr4 (T' T : SR) : Prop := T'.2 = T.2 ∧ ∀ c i, c ≠ 13 → c ≠ 14 → c ≠ 15 → c ≠ 16 → c ≠ 17 → ¬ (c = 0 ∧ (i = 19 ∨ i = 20 ∨ i = 21 ∨ i = 27)) → ri T' c i = ri T c i
theorem readR_s {pg : List Int32} {T : SR} (hp : PgR T pg) (t : Int32) : ∃ (p : Nat) (s : PS) (T' : SR), fin pg 0 (0, [], [], t) = (p, s) ∧ f_X10_read T = some (nI p, T') ∧ Fr4 T' T ∧ ri T' 0 19 = (if p = pg.length ∧ (s.1 = 3 ∨ s.1 = 6) then 1 else 0) ∧ (ri T' 0 19 = 1 → QN T' s.2.1 ∧ ri T' 0 20 = nI s.2.1.length ∧ CN T' s.2.2.1 ∧ ri T' 0 21 = nI s.2.2.1.length) := by
  have h54 := hp.2
  have hPV0 : PV (0, [], [], t) := ⟨by simp, ⟨by simp, by simp⟩, ⟨by simp, by simp⟩, by simp, by simp, by simp, by simp, by simp, by simp, by simp⟩
  unfold f_X10_read
  simp only [bv]
  generalize hT0 : ui (ui (ui (ui T 0 19 0) 0 27 0) 0 20 0) 0 21 0 = T0
  have z19 : ri T0 0 19 = 0 := by rw [← hT0, ri_ui_ne (by omega), ri_ui_ne (by omega), ri_ui_ne (by omega), ri_ui_self]
  have z27 : ri T0 0 27 = 0 := by rw [← hT0, ri_ui_ne (by omega), ri_ui_ne (by omega), ri_ui_self]
  have z20 : ri T0 0 20 = 0 := by rw [← hT0, ri_ui_ne (by omega), ri_ui_self]
  have z21 : ri T0 0 21 = 0 := by rw [← hT0, ri_ui_self]
  have hF0 : Fr4 T0 T := by
    rw [← hT0]
    exact ⟨rfl, fun c i _ _ _ _ _ h => by rw [ri_ui_ne (by omega), ri_ui_ne (by omega), ri_ui_ne (by omega), ri_ui_ne (by omega)]⟩
  have hp0 : PgR T0 pg := PgR_c (by rw [← hT0, ri_ui_cell (by omega), ri_ui_cell (by omega), ri_ui_cell (by omega), ri_ui_cell (by omega)]) (by rw [← hT0, ri_ui_ne (by omega), ri_ui_ne (by omega), ri_ui_ne (by omega), ri_ui_ne (by omega)]) hp
  clear hT0
  obtain ⟨k', T', e1, e2, e3, e4⟩ := readWit_s 5 0 5000 T0 [] t rfl (by omega) (by omega) (by omega) hp0 (fun i w h => by simp at h) z20 z27 hPV0
  unfold f_X10_readWitnesses
  have e1' : lp (fun (s1 : Int32 × SR) => b_X10_readWitnesses_2 s1.1 s1.2) 5000 (0, T0) = some (nI k', T') := e1
  rw [e1', bo_s, bo_s]
  have hF2 : Fr4 T' T := ⟨e2.1.trans hF0.1, fun c i h1 h2 h3 h4 h5 h6 => (e2.2 c i h1 h2 h3 (fun z => h6 ⟨z.1, by omega⟩) (fun z => h6 ⟨z.1, by omega⟩)).trans (hF0.2 c i h1 h2 h3 h4 h5 h6)⟩
  have y19 : ri T' 0 19 = 0 := by rw [e2.2 0 19 (by omega) (by omega) (by omega) (by omega) (by omega)]; exact z19
  have y21 : ri T' 0 21 = 0 := by rw [e2.2 0 21 (by omega) (by omega) (by omega) (by omega) (by omega)]; exact z21
  dsimp only
  rcases e4 with ⟨g1, s', g2, g3⟩ | ⟨g1, ws', t', g2, g3, g4, g5, g6, g7, g8⟩
  · rw [g1, if_neg one0]
    refine ⟨k', s', T', g2, rfl, hF2, ?_, fun z => by rw [y19] at z; exact absurd z (by decide)⟩
    rw [y19, if_neg (fun z => by have := z.2; omega)]
  · rw [g1, if_pos rfl, at_s (Fr2_pg e2 hp0) (by omega), bo_s, g2]
    by_cases c59 : atP pg k' = 59
    · rw [if_pos c59, nI_1]
      have hst : pstep (1, ws', [], t') (atP pg k') = some (3, ws', [], t') := by
        unfold pstep
        dsimp only
        rw [if_neg (by decide), if_pos rfl, if_pos c59]
      obtain ⟨hk1, hf1⟩ := fin_go hst
      obtain ⟨k2, T2, s2, i1, i2, i3, i4, i5, i6, i7⟩ := readCases_s (k := k' + 1) (ws := ws') (t := t') (by omega) (Fr2_pg e2 hp0) y21
      rw [i1, bo_s, hf1]
      refine ⟨k2, s2, T2, i2, rfl, ⟨i7.1.trans hF2.1, fun c i h1 h2 h3 h4 h5 h6 => (i7.2 c i h4 h5 (fun z => h6 ⟨z.1, by omega⟩) (fun z => h6 ⟨z.1, by omega⟩)).trans (hF2.2 c i h1 h2 h3 h4 h5 h6)⟩, i3, fun _ => ?_⟩
      rw [i6]
      refine ⟨QN_c ?_ ?_ ?_ g4, ?_, i4, i5⟩
      · funext i; exact i7.2 13 i (by omega) (by omega) (by omega) (by omega)
      · funext i; exact i7.2 14 i (by omega) (by omega) (by omega) (by omega)
      · funext i; exact i7.2 15 i (by omega) (by omega) (by omega) (by omega)
      · rw [i7.2 0 20 (by omega) (by omega) (by omega) (by omega)]; exact g5
    · rw [if_neg c59]
      have hst : pstep (1, ws', [], t') (atP pg k') = none := by
        unfold pstep
        dsimp only
        rw [if_neg (by decide), if_pos rfl, if_neg c59, if_neg g8, if_neg g7]
      refine ⟨k', (1, ws', [], t'), T', fin_stop hst, rfl, hF2, ?_, fun z => by rw [y19] at z; exact absurd z (by decide)⟩
      rw [y19, if_neg (fun z => by have := z.2; dsimp only at this; omega)]

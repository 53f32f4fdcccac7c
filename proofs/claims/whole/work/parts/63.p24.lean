/-! the pure side, 24: the reference reads: witnesses -/
def atP (pg : List Int32) (k : Nat) : Int32 := (pg[k]?).getD 0
theorem atP_lt {pg : List Int32} {k : Nat} (h : k < pg.length) : atP pg k = pg[k] := by
  unfold atP
  rw [List.getElem?_eq_getElem h]
  rfl
theorem atP_ge {pg : List Int32} {k : Nat} (h : pg.length ≤ k) : atP pg k = 0 := by
  unfold atP
  rw [List.getElem?_eq_none h]
  rfl
theorem z_dec : kb 0 = -1 ∧ ¬ (0 : Int32) = 59 ∧ ¬ (0 : Int32) = 44 ∧ ¬ wi (0 - 97) 0 5 = 1 ∧ ¬ wi (0 - 48) 0 3 = 1 ∧ ¬ wi (0 - 48) 1 6 = 1 := by decide +kernel
theorem pstep_0 (s : PS) : pstep s 0 = none := by
  obtain ⟨z1, z2, z3, z4, z5, z6⟩ := z_dec
  unfold pstep
  by_cases m0 : s.1 = 0
  · rw [if_pos m0, if_pos z1]
  rw [if_neg m0]
  by_cases m1 : s.1 = 1
  · rw [if_pos m1, if_neg z2, if_neg (fun z => z3 z.1), if_neg (fun z => z4 z.2)]
  rw [if_neg m1]
  by_cases m2 : s.1 = 2
  · rw [if_pos m2, if_neg (fun z => z5 z.1)]
  rw [if_neg m2]
  by_cases m3 : s.1 = 3 ∨ s.1 = 4
  · rw [if_pos m3, if_neg z4]
  rw [if_neg m3]
  by_cases m5 : s.1 = 5
  · rw [if_pos m5, if_neg z6]
  rw [if_neg m5, if_neg (fun z => z3 z.1)]
theorem fin_stop {pg : List Int32} {k : Nat} {s : PS} (h : pstep s (atP pg k) = none) : fin pg k s = (k, s) := by
  by_cases hk : k < pg.length
  · rw [atP_lt hk] at h; exact fin_no hk h
  · exact fin_end (by omega)
theorem fin_go {pg : List Int32} {k : Nat} {s s' : PS} (h : pstep s (atP pg k) = some s') : k < pg.length ∧ fin pg k s = fin pg (k + 1) s' := by
  by_cases hk : k < pg.length
  · rw [atP_lt hk] at h; exact ⟨hk, fin_yes hk h⟩
  · rw [atP_ge (by omega), pstep_0] at h; cases h
def PgR (T : SR) (pg : List Int32) : Prop := Row (ri T 12) (ri T 0 17) pg ∧ pg.length ≤ 54
theorem at_s {T : SR} {pg : List Int32} {k : Nat} (h : PgR T pg) (hk : k ≤ 60) : f_X10_at T (nI k) = some (atP pg k) := by
  obtain ⟨h1, h2⟩ := h
  unfold f_X10_at
  rw [h1.1]
  by_cases e : k < pg.length
  · rw [if_neg (nI_ge e (by omega)), gd_t _ (inb_nI (by omega) (by decide)), nI_clamp (by omega), h1.at e, atP_lt e]
  · rw [if_pos (nI_le (by omega) (by omega)), atP_ge (by omega)]
theorem kindBy_s (x : Int32) : f_X10_kindBy x = some (kb x) := by
  unfold f_X10_kindBy kb
  (repeat' split) <;> first | rfl | contradiction
theorem isThingR {T : SR} {pg : List Int32} {k : Nat} (h : PgR T pg) (hk : k ≤ 60) : f_X10_isThing T (nI k) = some (wi (atP pg k - 97) 0 5) := by
  unfold f_X10_isThing
  rw [at_s h hk, bo_s, within10, bo_s, wi_and]
theorem isDigitR {T : SR} {pg : List Int32} {k : Nat} (h : PgR T pg) (hk : k ≤ 60) (lo hi : Int32) : f_X10_isDigit T (nI k) lo hi = some (wi (atP pg k - 48) lo hi) := by
  unfold f_X10_isDigit
  rw [at_s h hk, bo_s, within10, bo_s, wi_and]
theorem sight_r (a b : Int32) : (4 : Int32) * (a - 97) + b - 48 = (a - 97) * 4 + (b - 48) := by
  rw [Int32.mul_comm, Int32.sub_eq_add_neg, Int32.sub_eq_add_neg b, Int32.add_assoc]
theorem sightAtR {T : SR} {pg : List Int32} {k : Nat} (h : PgR T pg) (hk : k + 1 ≤ 60) : f_X10_sightAt T (nI k) = some ((atP pg k - 97) * 4 + (atP pg (k + 1) - 48)) := by
  unfold f_X10_sightAt
  rw [at_s h (by omega), bo_s, nI_1, at_s h hk, bo_s, sight_r]
def QN (T : SR) (ws : List Wt) : Prop := ∀ i w, ws[i]? = some w → ri T 13 i = w.1 ∧ Row (fun j => ri T 14 (3 * i + j)) (ri T 15 i) w.2
theorem m3 (i j : Nat) : (3 : Int32) * nI i + nI j = nI (3 * i + j) := by rw [show (3 : Int32) = nI 3 from rfl, pk_mul, nI_add]
theorem isTold_s {T : SR} {i : Nat} {l : List Int32} {a : Int32} (hi : i < 5) (h : Row (fun j => ri T 14 (3 * i + j)) (ri T 15 i) l) (hl : l.length ≤ 3) : f_X10_isTold T (nI i) a = some (if a ∈ l then 1 else 0) := by
  have hat : ∀ j, (hj : j < l.length) → ri T 14 (3 * i + j) = l[j] := fun j hj => h.2 j _ (List.getElem?_eq_getElem hj)
  obtain ⟨x, hx, hv⟩ := lp_up0 (body := fun (s1 : Int32 × Int32) => b_X10_isTold_5 T (nI i) a s1.1 s1.2) (s := (0, 0)) (fun x => x = if a ∈ l then 1 else 0) (fun j s => s = ((if a ∈ l.take j then 1 else 0), nI j)) l.length (by omega) (by simp [i32_0])
    (fun j s hj hI => by
      subst hI
      refine Or.inl ⟨((if a ∈ l.take (j + 1) then 1 else 0), nI (j + 1)), ?_, rfl⟩
      dsimp only
      unfold b_X10_isTold_5
      rw [gd_t _ (inb_nI hi (by omega)), nI_clamp (by omega), h.1, if_neg (nI_ge hj (by omega)), m3, gd_t _ (inb_nI (by omega) (by omega)), nI_clamp (by omega), hat j hj, take_succ' _ _ hj]
      simp only [bv, nI_1, List.mem_append, List.mem_singleton]
      by_cases hc : a ∈ l.take j
      · rw [if_pos hc, if_neg one0, if_pos (Or.inl hc)]
      · rw [if_neg hc, if_pos rfl]
        by_cases he : l[j] = a
        · rw [if_pos he, if_pos (Or.inr he.symm)]
        · rw [if_neg he, if_neg (fun z => z.elim hc (fun e => he e.symm))])
    (fun s hI => by
      subst hI
      refine ⟨_, ?_, rfl⟩
      dsimp only
      unfold b_X10_isTold_5
      rw [gd_t _ (inb_nI hi (by omega)), nI_clamp (by omega), h.1, if_pos (nI_le (Nat.le_refl _) (by omega)), List.take_length])
  unfold f_X10_isTold
  rw [hx, bo_s, hv]
  split <;> rfl
def Fr1 (T' T : SR) : Prop := T'.2 = T.2 ∧ ∀ c i, c ≠ 14 → c ≠ 15 → ¬ (c = 0 ∧ i = 27) → ri T' c i = ri T c i
theorem Fr1_trans {A B C : SR} (h1 : Fr1 A B) (h2 : Fr1 B C) : Fr1 A C := ⟨h1.1.trans h2.1, fun c i a b d => (h1.2 c i a b d).trans (h2.2 c i a b d)⟩
theorem PgR_c {T T' : SR} {pg : List Int32} (h1 : ri T' 12 = ri T 12) (h2 : ri T' 0 17 = ri T 0 17) (h : PgR T pg) : PgR T' pg := by
  unfold PgR at h ⊢
  rw [h1, h2]
  exact h
theorem Fr1_pg {T T' : SR} {pg : List Int32} (hF : Fr1 T' T) (h : PgR T pg) : PgR T' pg := PgR_c (by funext i; exact hF.2 12 i (by omega) (by omega) (by omega)) (hF.2 0 17 (by omega) (by omega) (by omega)) h
theorem cur_add {ws : List Wt} {x : Int32} (h0 : 0 < ws.length) : cur (addS ws x) = ((cur ws).1, (cur ws).2 ++ [x]) := by
  unfold cur atW
  rw [addS_len]
  unfold addS
  rw [List.getElem?_set_self (by omega)]
  rfl
theorem QN_add {T : SR} {ws : List Wt} {x : Int32} (h : QN T ws) (hw : WFs ws) (h0 : 0 < ws.length) (h3 : (cur ws).2.length < 3) : QN (ui (ui T 14 (3 * (ws.length - 1) + (cur ws).2.length) x) 15 (ws.length - 1) (nI ((cur ws).2.length + 1))) (addS ws x) := by
  intro i w hi
  unfold addS at hi
  rw [List.getElem?_set] at hi
  by_cases e : ws.length - 1 = i
  · subst e
    rw [if_pos rfl, if_pos (by omega)] at hi
    cases hi
    have hc := h (ws.length - 1) (cur ws) (by rw [cur_eq h0]; exact List.getElem?_eq_getElem (by omega))
    refine ⟨?_, ?_, fun j y hy => ?_⟩
    · rw [ri_ui_cell (by omega), ri_ui_cell (by omega)]; exact hc.1
    · rw [ri_ui_self, List.length_append]; rfl
    · show ri _ 14 (3 * (ws.length - 1) + j) = y
      rw [ri_ui_cell (by omega)]
      rcases get_app hy with ⟨g1, g2⟩ | ⟨g1, g2⟩
      · rw [ri_ui_ne (by omega)]; exact hc.2.2 j y g2
      · rw [g1, ri_ui_self, g2]
  · rw [if_neg e] at hi
    obtain ⟨a1, a2, a3⟩ := h i w hi
    have hwl : w.2.length ≤ 3 := (hw.2 w (List.mem_of_getElem? hi)).1
    have hil := (List.getElem?_eq_some_iff.mp hi).1
    refine ⟨?_, ?_, fun j y hy => ?_⟩
    · rw [ri_ui_cell (by omega), ri_ui_cell (by omega)]; exact a1
    · rw [ri_ui_ne (by omega), ri_ui_cell (by omega)]; exact a2
    · show ri _ 14 (3 * i + j) = y
      have hj := (List.getElem?_eq_some_iff.mp hy).1
      rw [ri_ui_cell (by omega), ri_ui_ne (by omega)]
      exact a3 j y hy
theorem readSights_s {pg : List Int32} : ∀ (d k f : Nat) (T : SR) (ws : List Wt) (t : Int32), (cur ws).2.length + d = 3 → d < f → k ≤ pg.length → PgR T pg → QN T ws → PV (1, ws, [], t) →
    (∃ (k' : Nat) (T' : SR) (ws' : List Wt) (t' : Int32), lp (fun (s3 : Int32 × SR) => b_X10_readSights_9 (nI (ws.length - 1)) s3.1 s3.2) f (nI k, T) = some (.inl (nI k', T')) ∧ fin pg k (1, ws, [], t) = fin pg k' (1, ws', [], t') ∧ k' ≤ pg.length ∧ QN T' ws' ∧ PV (1, ws', [], t') ∧ ws'.length = ws.length ∧ Fr1 T' T ∧ ri T' 0 27 = ri T 0 27 ∧ ¬ ((cur ws').2.length < 3 ∧ wi (atP pg k' - 97) 0 5 = 1)) ∨
    (∃ (k' : Nat) (T' : SR) (s' : PS), lp (fun (s3 : Int32 × SR) => b_X10_readSights_9 (nI (ws.length - 1)) s3.1 s3.2) f (nI k, T) = some (.inr (nI k', T')) ∧ fin pg k (1, ws, [], t) = (k', s') ∧ s'.1 = 2 ∧ Fr1 T' T ∧ ri T' 0 27 = 1) := by
  intro d
  induction d with
  | zero =>
    intro k f T ws t hd hf hk hp hq hv
    have h0 := hv.2.2.2.2.1 (by dsimp only; omega)
    have hl := hv.2.1.1
    dsimp only at h0 hl
    have hc := hq (ws.length - 1) (cur ws) (by rw [cur_eq h0]; exact List.getElem?_eq_getElem (by omega))
    obtain ⟨f, rfl⟩ : ∃ g, f = g + 1 := ⟨f - 1, by omega⟩
    refine Or.inl ⟨k, T, ws, t, ?_, rfl, hk, hq, hv, rfl, ⟨rfl, fun _ _ _ _ _ => rfl⟩, rfl, fun z => by omega⟩
    apply lp_inr
    dsimp only
    unfold b_X10_readSights_9
    rw [gd_t _ (inb_nI (by omega) (by decide)), nI_clamp (by omega), hc.2.1, if_pos (show 3 ≤ nI (cur ws).2.length from nI_le (a := 3) (by omega) (by omega))]
  | succ d ih =>
    intro k f T ws t hd hf hk hp hq hv
    have h0 := hv.2.2.2.2.1 (by dsimp only; omega)
    have hl := hv.2.1.1
    have hwf := hv.2.1
    dsimp only at h0 hl hwf
    have h54 := hp.2
    have hc := hq (ws.length - 1) (cur ws) (by rw [cur_eq h0]; exact List.getElem?_eq_getElem (by omega))
    have hib := inb_nI (i := ws.length - 1) (n := 5) (by omega) (by decide)
    obtain ⟨f, rfl⟩ : ∃ g, f = g + 1 := ⟨f - 1, by omega⟩
    have h3 : (cur ws).2.length < 3 := by omega
    by_cases q1 : wi (atP pg k - 97) 0 5 = 1
    · -- a thing
      have hst : pstep (1, ws, [], t) (atP pg k) = some (2, ws, [], atP pg k - 97) := by
        unfold pstep
        dsimp only
        rw [if_neg (by decide), if_pos rfl, if_neg (fun z => by rw [z] at q1; revert q1; decide +kernel), if_neg (fun z => by rw [z.1] at q1; revert q1; decide +kernel), if_pos ⟨h3, q1⟩]
      obtain ⟨hk1, hf1⟩ := fin_go hst
      have hv2 := PV_step hv hst
      by_cases q2 : wi (atP pg (k + 1) - 48) 0 3 = 1 ∧ ¬ (atP pg k - 97) * 4 + (atP pg (k + 1) - 48) ∈ (cur ws).2
      · -- and its colour
        have hst2 : pstep (2, ws, [], atP pg k - 97) (atP pg (k + 1)) = some (1, addS ws ((atP pg k - 97) * 4 + (atP pg (k + 1) - 48)), [], atP pg k - 97) := by
          unfold pstep
          dsimp only
          rw [if_neg (by decide), if_neg (by decide), if_pos rfl, if_pos q2]
        obtain ⟨hk2, hf2⟩ := fin_go hst2
        have hv3 := PV_step hv2 hst2
        generalize hx : (atP pg k - 97) * 4 + (atP pg (k + 1) - 48) = x at *
        generalize hT2 : ui (ui T 14 (3 * (ws.length - 1) + (cur ws).2.length) x) 15 (ws.length - 1) (nI ((cur ws).2.length + 1)) = T2
        have hq2 : QN T2 (addS ws x) := by rw [← hT2]; exact QN_add hq hwf h0 h3
        have hF2 : Fr1 T2 T := by
          rw [← hT2]
          exact ⟨rfl, fun c i h1 h2 _ => by rw [ri_ui_ne (by omega), ri_ui_ne (by omega)]⟩
        have h27 : ri T2 0 27 = ri T 0 27 := by rw [← hT2, ri_ui_ne (by omega), ri_ui_ne (by omega)]
        have hgo : b_X10_readSights_9 (nI (ws.length - 1)) (nI k) T = some (.inl (nI (k + 2), T2)) := by
          unfold b_X10_readSights_9
          rw [gd_t _ hib, nI_clamp (by omega), hc.2.1, if_neg (show ¬ 3 ≤ nI (cur ws).2.length from nI_ge (b := 3) h3 (by decide)), isThingR hp (by omega), bo_s, q1, if_neg one0, nI_1, isDigitR hp (by omega), bo_s, q2.1, if_neg one0, sightAtR hp (by omega), bo_s, hx, isTold_s (by omega) hc.2 (by omega), bo_s, if_neg q2.2, if_pos rfl, gd_t _ hib, bo_s, m3, gd_t _ (inb_nI (by omega) (by decide)), nI_clamp (by omega)]
          simp only [bv, gd_t _ hib]
          rw [ri_ui_ne (by omega), hc.2.1, nI_1, hT2, show nI k + 2 = nI (k + 2) from nI_add k 2]
        have ih2 := ih (k + 2) f T2 (addS ws x) (atP pg k - 97) (by rw [cur_add h0]; simp; omega) (by omega) (by omega) (Fr1_pg hF2 hp) hq2 hv3
        rw [addS_len] at ih2
        rcases ih2 with ⟨k', T', ws', t', e1, e2, e3, e4, e5, e6, e7, e8, e9⟩ | ⟨k', T', s', e1, e2, e3, e4, e5⟩
        · exact Or.inl ⟨k', T', ws', t', by rw [lp_inl (s' := (nI (k + 2), T2)) (by exact hgo)]; exact e1, by rw [hf1, hf2]; exact e2, e3, e4, e5, e6, Fr1_trans e7 hF2, by rw [e8, h27], e9⟩
        · exact Or.inr ⟨k', T', s', by rw [lp_inl (s' := (nI (k + 2), T2)) (by exact hgo)]; exact e1, by rw [hf1, hf2]; exact e2, e3, Fr1_trans e4 hF2, e5⟩
      · -- broken
        have hst2 : pstep (2, ws, [], atP pg k - 97) (atP pg (k + 1)) = none := by
          unfold pstep
          dsimp only
          rw [if_neg (by decide), if_neg (by decide), if_pos rfl, if_neg q2]
        refine Or.inr ⟨k + 1, ui T 0 27 1, (2, ws, [], atP pg k - 97), ?_, by rw [hf1, fin_stop hst2], rfl, ⟨rfl, fun c i _ _ h => ri_ui_ne h⟩, ri_ui_self⟩
        apply lp_inr
        dsimp only
        unfold b_X10_readSights_9
        rw [gd_t _ hib, nI_clamp (by omega), hc.2.1, if_neg (show ¬ 3 ≤ nI (cur ws).2.length from nI_ge (b := 3) h3 (by decide)), isThingR hp (by omega), bo_s, q1, if_neg one0, nI_1, isDigitR hp (by omega), bo_s]
        by_cases q3 : wi (atP pg (k + 1) - 48) 0 3 = 1
        · have q4 : (atP pg k - 97) * 4 + (atP pg (k + 1) - 48) ∈ (cur ws).2 := by
            by_cases z : (atP pg k - 97) * 4 + (atP pg (k + 1) - 48) ∈ (cur ws).2
            · exact z
            · exact absurd ⟨q3, z⟩ q2
          rw [q3, if_neg one0, sightAtR hp (by omega), bo_s, isTold_s (by omega) hc.2 (by omega), bo_s, if_pos q4, if_neg one0]
          rfl
        · rw [wi01 q3, if_pos rfl]
          rfl
    · refine Or.inl ⟨k, T, ws, t, ?_, rfl, hk, hq, hv, rfl, ⟨rfl, fun _ _ _ _ _ => rfl⟩, rfl, fun z => q1 z.2⟩
      apply lp_inr
      dsimp only
      unfold b_X10_readSights_9
      rw [gd_t _ hib, nI_clamp (by omega), hc.2.1, if_neg (show ¬ 3 ≤ nI (cur ws).2.length from nI_ge (b := 3) h3 (by decide)), isThingR hp (by omega), bo_s, wi01 q1, if_pos rfl]

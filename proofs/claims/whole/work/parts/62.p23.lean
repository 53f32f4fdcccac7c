/-! the pure side, 23: the class reads -/
theorem HallC_cells {σ σ' : St} {b : Nat} {ws : List Wt} (h1 : ∀ c, b ≤ c → c < b + 13 → c ≠ b + 1 → c ≠ b + 2 → σ' c = σ c) (hl : ws.length ≤ 5) (h : HallC σ b ws) : HallC σ' b ws := HallC_c hl (by rw [h1 b (by omega) (by omega) (by omega) (by omega)]) (fun i hi => h1 _ (by omega) (by omega) (by omega) (by omega)) h
theorem inWitness_s {σ : St} {ws : List Wt} {cs : List (Int32 × Int32)} {t x : Int32} (h : PC σ (1, ws, cs, t)) (hi : PV (1, ws, cs, t)) : (pstep (1, ws, cs, t) x = none → f_X2_acceptsInWitness σ x = some (0, σ)) ∧ ∀ s', pstep (1, ws, cs, t) x = some s' → ∃ σ', f_X2_acceptsInWitness σ x = some (1, σ') ∧ PC σ' s' ∧ pF σ' σ := by
  have hl := hi.2.1.1
  have h0 := hi.2.2.2.2.1 (by dsimp only; omega)
  dsimp only at hl h0
  have hcl : σ (3 + 3 + 2 * (ws.length - 1)) 1 = nI (cur ws).2.length := by rw [cur_eq h0]; exact (HallC_wit h.2.1 (i := ws.length - 1) (by dsimp only; omega)).2.1
  have h3 : (cur ws).2.length ≤ 3 := by rw [cur_eq h0]; exact (WFs_w hi.2.1 (i := ws.length - 1) (by dsimp only; omega)).1
  -- the road by a thing
  have road : (¬ ((cur ws).2.length < 3 ∧ wi (x - 97) 0 5 = 1) → bo (f_X2_latest σ) (fun (r3 : Nat) => if 3 ≤ (σ r3 1) then (some ((0 : Int32), σ)) else (bo (f_X2_acceptsThing σ x 2) (fun (r5 : Int32 × St) => if r5.1 = 0 then (some (0, r5.2)) else (some (1, r5.2))))) = some (0, σ)) ∧ ((cur ws).2.length < 3 ∧ wi (x - 97) 0 5 = 1 → ∃ σ', bo (f_X2_latest σ) (fun (r3 : Nat) => if 3 ≤ (σ r3 1) then (some ((0 : Int32), σ)) else (bo (f_X2_acceptsThing σ x 2) (fun (r5 : Int32 × St) => if r5.1 = 0 then (some (0, r5.2)) else (some (1, r5.2))))) = some (1, σ') ∧ PC σ' (2, ws, cs, x - 97) ∧ pF σ' σ) := by
    obtain ⟨t1, t2⟩ := thing_s (x := x) (m := 2) h hl
    rw [latest_s h.2.1 hl h0, bo_s, hcl]
    by_cases q1 : (cur ws).2.length < 3
    · rw [if_neg (show ¬ 3 ≤ nI (cur ws).2.length from nI_ge (b := 3) q1 (by decide))]
      constructor
      · intro z
        rw [show f_X2_acceptsThing σ x 2 = _ from t1 (wi01 (fun y => z ⟨q1, y⟩)), bo_s, if_pos rfl]
      · intro z
        obtain ⟨σ', e1, e2, e3⟩ := t2 z.2
        rw [show f_X2_acceptsThing σ x 2 = _ from e1, bo_s, if_neg one0]
        exact ⟨σ', rfl, e2, e3⟩
    · rw [if_pos (show 3 ≤ nI (cur ws).2.length from nI_le (a := 3) (by omega) (by omega))]
      exact ⟨fun _ => rfl, fun z => absurd z.1 q1⟩
  have hup : ∀ m : Nat, PC (up2 σ 1 4 (nI m)) (m, ws, cs, t) ∧ pF (up2 σ 1 4 (nI m)) σ := fun m => ⟨⟨up2_self, HallC_up1 h.2.1 hl, CasC_up1 h.2.2.1, by rw [up2_slot (by omega)]; exact h.2.2.2⟩, fun c hc => up2_ne (by omega), up2_slot (by omega)⟩
  unfold f_X2_acceptsInWitness pstep
  dsimp only
  rw [if_neg (by decide), if_pos rfl]
  by_cases h59 : x = 59
  · rw [if_pos h59, if_pos h59]
    refine ⟨fun z => (by cases z), fun s' z => ?_⟩
    cases z
    exact ⟨_, rfl, hup 3⟩
  rw [if_neg h59, if_neg h59]
  by_cases h44 : x = 44
  · rw [if_pos h44, h.2.1.1]
    by_cases h5 : ws.length < 5
    · rw [if_neg (show ¬ 5 ≤ nI ws.length from nI_ge (b := 5) h5 (by decide)), if_pos ⟨h44, h5⟩]
      refine ⟨fun z => (by cases z), fun s' z => ?_⟩
      cases z
      exact ⟨_, rfl, hup 0⟩
    · rw [if_pos (show 5 ≤ nI ws.length from nI_le (a := 5) (by omega) (by omega)), if_neg (fun z => h5 z.2)]
      by_cases q : (cur ws).2.length < 3 ∧ wi (x - 97) 0 5 = 1
      · rw [if_pos q]
        refine ⟨fun z => (by cases z), fun s' z => ?_⟩
        cases z
        exact road.2 q
      · rw [if_neg q]
        exact ⟨fun _ => road.1 q, fun s' z => by cases z⟩
  · rw [if_neg h44, if_neg (fun z => h44 z.1)]
    by_cases q : (cur ws).2.length < 3 ∧ wi (x - 97) 0 5 = 1
    · rw [if_pos q]
      refine ⟨fun z => (by cases z), fun s' z => ?_⟩
      cases z
      exact road.2 q
    · rw [if_neg q]
      exact ⟨fun _ => road.1 q, fun s' z => by cases z⟩
theorem colour_s {σ : St} {ws : List Wt} {cs : List (Int32 × Int32)} {t x : Int32} (h : PC σ (2, ws, cs, t)) (hi : PV (2, ws, cs, t)) : (pstep (2, ws, cs, t) x = none → f_X2_acceptsColour σ x = some (0, σ)) ∧ ∀ s', pstep (2, ws, cs, t) x = some s' → ∃ σ', f_X2_acceptsColour σ x = some (1, σ') ∧ PC σ' s' ∧ pF σ' σ := by
  have hl := hi.2.1.1
  have h0 := hi.2.2.2.2.1 (by dsimp only; omega)
  obtain ⟨c3, ct⟩ := hi.2.2.2.2.2.1 rfl
  dsimp only at hl h0 c3 ct
  have hw := HallC_wit h.2.1 (i := ws.length - 1) (by dsimp only; omega)
  have wf := WFs_w hi.2.1 (i := ws.length - 1) (by dsimp only; omega)
  dsimp only at hw wf
  rw [← cur_eq h0] at hw wf
  unfold f_X2_acceptsColour pstep
  dsimp only
  rw [if_neg (by decide), if_neg (by decide), if_pos rfl]
  simp only [bv]
  rw [show σ 1 5 = t from h.2.2.2, isColour9, bo_s]
  by_cases q1 : wi (x - 48) 0 3 = 1
  · rw [q1, if_neg one0, latest_s h.2.1 hl h0, bo_s, hasSight_s hw wf.1, bo_s, bo_s]
    by_cases q2 : t * 4 + (x - 48) ∈ (cur ws).2
    · rw [if_pos q2, if_neg one0, if_neg (fun z => z.2 q2)]
      exact ⟨fun _ => rfl, fun s' z => by cases z⟩
    · rw [if_neg q2, if_pos rfl, if_pos ⟨rfl, q2⟩]
      refine ⟨fun z => (by cases z), fun s' z => ?_⟩
      cases z
      obtain ⟨T, e1, e2, e3, e4⟩ := add_s (x := t * 4 + (x - 48)) hw.2 wf.1 wf.2.1
      rw [e1, bo_s]
      refine ⟨up2 T 1 4 1, rfl, ⟨up2_self, ?_, ?_, ?_⟩, fun c hc => ?_, ?_⟩
      · show HallC (up2 T 1 4 1) 3 (addS ws (t * 4 + (x - 48)))
        unfold addS
        have hs : HallC T 3 (ws.set (ws.length - 1) ((cur ws).1, (cur ws).2 ++ [t * 4 + (x - 48)])) := by
          refine HallC_set h.2.1 (by rw [e2 3 (by omega) (by omega)]) ⟨?_, ?_⟩ (fun j hj hjl => ⟨e2 _ (by omega) (by omega), e2 _ (by omega) (by omega)⟩)
          · show T (3 + 3 + 2 * (ws.length - 1)) 2 = (cur ws).1
            rw [e3 2 (by omega)]; exact hw.1
          · have ea : addL (cur ws).2 (t * 4 + (x - 48)) = (cur ws).2 ++ [t * 4 + (x - 48)] := by
              unfold addL
              rw [if_neg (by omega)]
            rw [ea] at e4
            exact e4
        exact HallC_up1 hs (by rw [List.length_set]; exact hl)
      · have := h.2.2.1
        unfold CasC at this ⊢
        rw [up2_ne (by omega), up2_ne (by omega), up2_ne (by omega), e2 _ (by omega) (by omega), e2 _ (by omega) (by omega), e2 _ (by omega) (by omega)]
        exact this
      · rw [up2_slot (by omega), e2 1 (by omega) (by omega)]; exact h.2.2.2
      · rw [up2_ne (by omega), e2 c (by omega) (by omega)]
      · rw [up2_slot (by omega), e2 1 (by omega) (by omega)]
  · rw [wi01 q1, if_pos rfl, if_neg (fun z => absurd z.1 (by decide))]
    exact ⟨fun _ => rfl, fun s' z => by cases z⟩
theorem due_s {σ : St} {ws : List Wt} {cs : List (Int32 × Int32)} {t x : Int32} (h : PC σ (5, ws, cs, t)) (hi : PV (5, ws, cs, t)) : (pstep (5, ws, cs, t) x = none → f_X2_acceptsDue σ x = some (0, σ)) ∧ ∀ s', pstep (5, ws, cs, t) x = some s' → ∃ σ', f_X2_acceptsDue σ x = some (1, σ') ∧ PC σ' s' ∧ pF σ' σ := by
  have hl := hi.2.1.1
  have h4 := hi.2.2.2.2.2.2.2.1 (Or.inr rfl)
  dsimp only at hl h4
  unfold f_X2_acceptsDue pstep
  dsimp only
  rw [if_neg (by decide), if_neg (by decide), if_neg (by decide), if_neg (by decide), if_pos rfl]
  simp only [bv]
  rw [show σ 1 5 = t from h.2.2.2, within9, bo_s]
  by_cases q1 : wi (x - 48) 1 6 = 1
  · rw [q1, if_neg one0, if_pos rfl]
    refine ⟨fun z => (by cases z), fun s' z => ?_⟩
    cases z
    unfold f_X0_add
    have hc := h.2.2.1
    dsimp only at hc
    have z1 : up2 σ (16 + 1) cs.length t 16 2 = nI cs.length := by rw [up2_ne (by omega)]; exact hc.1
    have z2 : up2 (up2 σ (16 + 1) cs.length t) (16 + 2) cs.length (x - 48) 16 2 = nI cs.length := by rw [up2_ne (by omega), up2_ne (by omega)]; exact hc.1
    rw [hc.1, if_neg (show ¬ 4 ≤ nI cs.length from nI_ge (b := 4) h4 (by decide)), gd_t _ (inb_nI h4 (by decide)), nI_clamp (by omega)]
    simp only [bv]
    rw [z1, gd_t _ (inb_nI h4 (by decide)), nI_clamp (by omega), z2, bo_s, nI_1]
    refine ⟨_, rfl, ⟨up2_self, ?_, ⟨?_, fun j y hy => ?_⟩, ?_⟩, fun c hc => ?_, ?_⟩
    · exact HallC_cells (fun c h1 h2 _ _ => by rw [up2_ne (by omega), up2_ne (by omega), up2_ne (by omega), up2_ne (by omega)]) hl h.2.1
    · rw [up2_ne (by omega), up2_self, List.length_append]; rfl
    · rcases get_app hy with ⟨g1, g2⟩ | ⟨g1, g2⟩
      · rw [up2_ne (by omega), up2_ne (by omega), up2_ne (by omega), up2_slot (by omega), up2_ne (by omega), up2_ne (by omega), up2_slot (by omega), up2_ne (by omega)]
        exact hc.2 j y g2
      · subst g1 g2
        refine ⟨?_, ?_⟩
        · rw [up2_ne (by omega), up2_ne (by omega), up2_ne (by omega), up2_self]
        · rw [up2_ne (by omega), up2_ne (by omega), up2_self]
    · rw [up2_slot (by omega), up2_ne (by omega), up2_ne (by omega), up2_ne (by omega)]; exact h.2.2.2
    · rw [up2_ne (by omega), up2_ne (by omega), up2_ne (by omega), up2_ne (by omega)]
    · rw [up2_slot (by omega), up2_ne (by omega), up2_ne (by omega), up2_ne (by omega)]
  · rw [wi01 q1, if_pos rfl, if_neg (by decide)]
    exact ⟨fun _ => rfl, fun s' z => by cases z⟩
theorem accepts_s {σ : St} {s : PS} {x : Int32} (h : PC σ s) (hi : PV s) : (pstep s x = none → f_X2_accepts σ x = some (0, σ)) ∧ ∀ s', pstep s x = some s' → ∃ σ', f_X2_accepts σ x = some (1, σ') ∧ PC σ' s' ∧ pF σ' σ := by
  obtain ⟨m, ws, cs, t⟩ := s
  have hm := hi.1
  have hl := hi.2.1.1
  dsimp only at hm hl
  have h1 : σ 1 4 = nI m := h.1
  unfold f_X2_accepts
  rw [h1]
  have wrap : ∀ (X : Option (Int32 × St)), ((pstep (m, ws, cs, t) x = none → X = some (0, σ)) ∧ ∀ s', pstep (m, ws, cs, t) x = some s' → ∃ σ', X = some (1, σ') ∧ PC σ' s' ∧ pF σ' σ) → ((pstep (m, ws, cs, t) x = none → bo X (fun (r2 : Int32 × St) => some (r2.1 &&& 1, r2.2)) = some (0, σ)) ∧ ∀ s', pstep (m, ws, cs, t) x = some s' → ∃ σ', bo X (fun (r2 : Int32 × St) => some (r2.1 &&& 1, r2.2)) = some (1, σ') ∧ PC σ' s' ∧ pF σ' σ) := by
    intro X hX
    refine ⟨fun z => by rw [hX.1 z, bo_s]; dsimp only; rw [and1_dec.1], fun s' z => ?_⟩
    obtain ⟨σ', e1, e2⟩ := hX.2 s' z
    exact ⟨σ', by rw [e1, bo_s]; dsimp only; rw [and1_dec.2], e2⟩
  have thing : ∀ (Y : Prop), (m = 3 ∨ m = 4) → ((pstep (m, ws, cs, t) x = none → f_X2_acceptsThing σ x 5 = some (0, σ)) ∧ ∀ s', pstep (m, ws, cs, t) x = some s' → ∃ σ', f_X2_acceptsThing σ x 5 = some (1, σ') ∧ PC σ' s' ∧ pF σ' σ) := by
    intro _ m34
    obtain ⟨t1, t2⟩ := thing_s (x := x) (m := 5) h hl
    unfold pstep
    dsimp only
    rw [if_neg (by omega), if_neg (by omega), if_neg (by omega), if_pos m34]
    by_cases q : wi (x - 97) 0 5 = 1
    · rw [if_pos q]
      refine ⟨fun z => (by cases z), fun s' z => ?_⟩
      cases z
      exact t2 q
    · rw [if_neg q]
      exact ⟨fun _ => t1 (wi01 q), fun s' z => by cases z⟩
  rcases (by omega : m = 0 ∨ m = 1 ∨ m = 2 ∨ m = 3 ∨ m = 4 ∨ m = 5 ∨ m = 6) with rfl | rfl | rfl | rfl | rfl | rfl | rfl
  · rw [if_pos (by decide)]
    apply wrap
    obtain ⟨k1, k2⟩ := kind_s (x := x) h (hi.2.2.2.1 rfl)
    unfold pstep
    dsimp only
    rw [if_pos rfl]
    by_cases q : kb x = -1
    · rw [if_pos q]
      exact ⟨fun _ => k1 q, fun s' z => by cases z⟩
    · rw [if_neg q]
      refine ⟨fun z => (by cases z), fun s' z => ?_⟩
      cases z
      exact k2 q
  · rw [if_neg (by decide), if_pos (by decide)]
    exact wrap _ (inWitness_s h hi)
  · rw [if_neg (by decide), if_neg (by decide), if_pos (by decide)]
    exact wrap _ (colour_s h hi)
  · rw [if_neg (by decide), if_neg (by decide), if_neg (by decide), if_pos (by decide)]
    exact wrap _ (thing True (Or.inl rfl))
  · rw [if_neg (by decide), if_neg (by decide), if_neg (by decide), if_neg (by decide), if_pos (by decide)]
    exact wrap _ (thing True (Or.inr rfl))
  · rw [if_neg (by decide), if_neg (by decide), if_neg (by decide), if_neg (by decide), if_neg (by decide), if_pos (by decide)]
    exact wrap _ (due_s h hi)
  · rw [if_neg (by decide), if_neg (by decide), if_neg (by decide), if_neg (by decide), if_neg (by decide), if_neg (by decide)]
    apply wrap
    unfold f_X2_acceptsBehindCase pstep
    dsimp only
    rw [if_neg (by decide), if_neg (by decide), if_neg (by decide), if_neg (by decide), if_neg (by decide), show σ 16 2 = nI cs.length from h.2.2.1.1]
    have h4 := hi.2.2.1.1
    dsimp only at h4
    by_cases q1 : x = 44
    · rw [if_pos q1]
      by_cases q2 : cs.length < 4
      · rw [if_pos (show nI cs.length < 4 from nI_lt (b := 4) q2 (by decide)), if_pos ⟨q1, q2⟩]
        refine ⟨fun z => (by cases z), fun s' z => ?_⟩
        cases z
        exact ⟨_, rfl, ⟨up2_self, HallC_up1 h.2.1 hl, CasC_up1 h.2.2.1, by rw [up2_slot (by omega)]; exact h.2.2.2⟩, fun c hc => up2_ne (by omega), up2_slot (by omega)⟩
      · rw [if_neg (show ¬ nI cs.length < 4 from nI_nlt (b := 4) (by omega) (by omega)), if_neg (fun z => q2 z.2)]
        exact ⟨fun _ => rfl, fun s' z => by cases z⟩
    · rw [if_neg q1, if_neg (fun z => q1 z.1)]
      exact ⟨fun _ => rfl, fun s' z => by cases z⟩
-- the whole page
def prun (s : PS) : List Int32 → Nat × PS
  | [] => (0, s)
  | x :: l => match pstep s x with
    | none => (0, s)
    | some s' => ((prun s' l).1 + 1, (prun s' l).2)
def fin (pg : List Int32) (k : Nat) (s : PS) : Nat × PS := (k + (prun s (pg.drop k)).1, (prun s (pg.drop k)).2)
theorem fin_end {pg : List Int32} {k : Nat} {s : PS} (h : pg.length ≤ k) : fin pg k s = (k, s) := by
  unfold fin
  rw [List.drop_eq_nil_of_le h]
  rfl
theorem fin_no {pg : List Int32} {k : Nat} {s : PS} (h : k < pg.length) (hs : pstep s pg[k] = none) : fin pg k s = (k, s) := by
  unfold fin
  rw [List.drop_eq_getElem_cons h, prun, hs]
  rfl
theorem fin_yes {pg : List Int32} {k : Nat} {s s' : PS} (h : k < pg.length) (hs : pstep s pg[k] = some s') : fin pg k s = fin pg (k + 1) s' := by
  unfold fin
  rw [List.drop_eq_getElem_cons h, prun, hs]
  dsimp only
  rw [show k + ((prun s' (pg.drop (k + 1))).1 + 1) = k + 1 + (prun s' (pg.drop (k + 1))).1 by omega]
theorem read_s {σ : St} {pg : List Int32} (hp : Row (σ 2) (σ 1 3) pg) (hp54 : pg.length ≤ 54) : ∃ (p : Nat) (s : PS) (σ' : St), fin pg 0 (0, [], [], σ 1 5) = (p, s) ∧ f_X2_read σ = some (nI p, σ') ∧ PC σ' s ∧ PV s ∧ p ≤ pg.length ∧ pF σ' σ := by
  have hPV0 : PV (0, [], [], σ 1 5) := ⟨by simp, ⟨by simp, by simp⟩, ⟨by simp, by simp⟩, by simp, by simp, by simp, by simp, by simp, by simp, by simp⟩
  unfold f_X2_read
  simp only [bv]
  generalize hU : up2 (up2 (up2 σ 3 2 0) 16 2 0) 1 4 0 = U
  have u0 : PC U (0, [], [], σ 1 5) := by
    rw [← hU]
    refine ⟨up2_self, ⟨?_, fun i w hi => by simp at hi⟩, ⟨?_, fun j x hx => by simp at hx⟩, ?_⟩
    · rw [up2_ne (by omega), up2_ne (by omega), up2_self]; rfl
    · rw [up2_ne (by omega), up2_self]; rfl
    · rw [up2_slot (by omega), up2_ne (by omega), up2_ne (by omega)]
  have uF : pF U σ := by
    rw [← hU]
    refine ⟨fun c hc => ?_, ?_⟩
    · rw [up2_ne (by omega), up2_ne (by omega), up2_ne (by omega)]
    · rw [up2_slot (by omega), up2_ne (by omega), up2_ne (by omega)]
  clear hU
  obtain ⟨y, hy, p, s, σ', v1, v2, v3, v4, v5, v6⟩ := lp_up0 (body := fun (s4 : Int32 × St) => b_X2_read_23 s4.1 s4.2) (s := (0, U)) (fun y => ∃ (p : Nat) (s : PS) (σ' : St), fin pg 0 (0, [], [], σ 1 5) = (p, s) ∧ Sum.elim (fun (x5 : St) => some (x5 1 3, x5)) (fun (x5 : Int32 × St) => some x5) y = some (nI p, σ') ∧ PC σ' s ∧ PV s ∧ p ≤ pg.length ∧ pF σ' σ)
    (fun j z => z.1 = nI j ∧ ∃ s, fin pg 0 (0, [], [], σ 1 5) = fin pg j s ∧ PC z.2 s ∧ PV s ∧ pF z.2 σ) pg.length (by omega) ⟨rfl, _, rfl, u0, hPV0, uF⟩
    (fun j z hj hI => by
      obtain ⟨c0, T⟩ := z
      obtain ⟨rfl, s, g1, g2, g3, g4⟩ := hI
      dsimp only at g1 g2 g3 g4
      obtain ⟨a1, a2⟩ := accepts_s (x := pg[j]) g2 g3
      have hr : T 2 j = pg[j] := by rw [g4.1 2 (by omega)]; exact hp.at hj
      have hn : T 1 3 = nI pg.length := by rw [g4.2]; exact hp.1
      cases hs : pstep s pg[j] with
      | none =>
        refine Or.inr ⟨.inr (nI j, T), ?_, j, s, T, by rw [g1, fin_no hj hs], rfl, g2, g3, by omega, g4⟩
        dsimp only
        unfold b_X2_read_23
        rw [hn, if_neg (nI_ge hj (by omega)), gd_t _ (inb_nI (by omega) (by decide)), nI_clamp (by omega), hr, a1 hs, bo_s, if_pos rfl]
      | some s' =>
        obtain ⟨T2, e1, e2, e3⟩ := a2 s' hs
        refine Or.inl ⟨(nI (j + 1), T2), ?_, rfl, s', by rw [g1, fin_yes hj hs], e2, PV_step g3 hs, fun c hc => by show T2 c = _; rw [e3.1 c hc, g4.1 c hc], by show T2 1 3 = _; rw [e3.2, g4.2]⟩
        dsimp only
        unfold b_X2_read_23
        rw [hn, if_neg (nI_ge hj (by omega)), gd_t _ (inb_nI (by omega) (by decide)), nI_clamp (by omega), hr, e1, bo_s, if_neg one0]
        simp only [bv, nI_1])
    (fun z hI => by
      obtain ⟨c0, T⟩ := z
      obtain ⟨rfl, s, g1, g2, g3, g4⟩ := hI
      dsimp only at g1 g2 g3 g4
      have hn : T 1 3 = nI pg.length := by rw [g4.2]; exact hp.1
      refine ⟨.inl T, ?_, pg.length, s, T, by rw [g1, fin_end (Nat.le_refl _)], by show some (T 1 3, T) = _; rw [hn], g2, g3, Nat.le_refl _, g4⟩
      dsimp only
      unfold b_X2_read_23
      rw [hn, if_pos (nI_le (Nat.le_refl _) (by omega))])
  rw [hy, bo_s]
  exact ⟨p, s, σ', v1, v2, v3, v4, v5, v6⟩

/-! the pure side, 22: reading a page, letter by letter -/
abbrev PS : Type := Nat × List Wt × List (Int32 × Int32) × Int32
def kb (x : Int32) : Int32 := if x = 98 then 2 else if x = 102 then 1 else if x = 109 then 3 else if x = 115 then 4 else if x = 119 then 0 else -1
def cur (ws : List Wt) : Wt := atW ws (ws.length - 1)
def addS (ws : List Wt) (x : Int32) : List Wt := ws.set (ws.length - 1) ((cur ws).1, (cur ws).2 ++ [x])
def pstep (s : PS) (x : Int32) : Option PS :=
  if s.1 = 0 then (if kb x = -1 then none else some (1, s.2.1 ++ [(kb x, [])], s.2.2.1, s.2.2.2))
  else if s.1 = 1 then (if x = 59 then some (3, s.2.1, s.2.2.1, s.2.2.2) else if x = 44 ∧ s.2.1.length < 5 then some (0, s.2.1, s.2.2.1, s.2.2.2) else if (cur s.2.1).2.length < 3 ∧ wi (x - 97) 0 5 = 1 then some (2, s.2.1, s.2.2.1, x - 97) else none)
  else if s.1 = 2 then (if wi (x - 48) 0 3 = 1 ∧ ¬ s.2.2.2 * 4 + (x - 48) ∈ (cur s.2.1).2 then some (1, addS s.2.1 (s.2.2.2 * 4 + (x - 48)), s.2.2.1, s.2.2.2) else none)
  else if s.1 = 3 ∨ s.1 = 4 then (if wi (x - 97) 0 5 = 1 then some (5, s.2.1, s.2.2.1, x - 97) else none)
  else if s.1 = 5 then (if wi (x - 48) 1 6 = 1 then some (6, s.2.1, s.2.2.1 ++ [(s.2.2.2, x - 48)], s.2.2.2) else none)
  else (if x = 44 ∧ s.2.2.1.length < 4 then some (4, s.2.1, s.2.2.1, s.2.2.2) else none)
def okT (t : Int32) : Prop := ∃ a : Nat, a < 6 ∧ t = nI a
def PV (s : PS) : Prop := s.1 ≤ 6 ∧ WFs s.2.1 ∧ WFc s.2.2.1 ∧ (s.1 = 0 → s.2.1.length < 5) ∧ (s.1 ≠ 0 → 0 < s.2.1.length) ∧ (s.1 = 2 → (cur s.2.1).2.length < 3 ∧ okT s.2.2.2) ∧ (s.1 ≤ 3 → s.2.2.1 = []) ∧ (s.1 = 4 ∨ s.1 = 5 → s.2.2.1.length < 4) ∧ (s.1 = 5 → okT s.2.2.2) ∧ (s.1 = 4 ∨ s.1 = 6 → 0 < s.2.2.1.length)
theorem kb_ok {x : Int32} (h : ¬ kb x = -1) : ∃ a : Nat, a < 5 ∧ kb x = nI a := by
  unfold kb at h ⊢
  by_cases h1 : x = 98
  · rw [if_pos h1]; exact ⟨2, by omega, rfl⟩
  rw [if_neg h1] at h ⊢
  by_cases h2 : x = 102
  · rw [if_pos h2]; exact ⟨1, by omega, rfl⟩
  rw [if_neg h2] at h ⊢
  by_cases h3 : x = 109
  · rw [if_pos h3]; exact ⟨3, by omega, rfl⟩
  rw [if_neg h3] at h ⊢
  by_cases h4 : x = 115
  · rw [if_pos h4]; exact ⟨4, by omega, rfl⟩
  rw [if_neg h4] at h ⊢
  by_cases h5 : x = 119
  · rw [if_pos h5]; exact ⟨0, by omega, rfl⟩
  rw [if_neg h5] at h
  exact absurd rfl h
theorem wi1 {a b c : Int32} (h : wi a b c = 1) : b ≤ a ∧ a ≤ c := by
  rcases wi_or a b c with e | ⟨_, e⟩
  · rw [e] at h; exact absurd h (by decide)
  · exact e
theorem wi01 {a b c : Int32} (h : ¬ wi a b c = 1) : wi a b c = 0 := by
  rcases wi_or a b c with e | ⟨e, _⟩
  · exact e
  · exact absurd e h
theorem okT_of {x : Int32} (h : wi x 0 5 = 1) : okT x := by
  obtain ⟨h1, h2⟩ := wi1 h
  obtain ⟨a, ha, rfl⟩ := wi_nat (m := 5) (by decide) h1 h2
  exact ⟨a, by omega, rfl⟩
theorem WFs_app {ws : List Wt} {w : Wt} (h : WFs ws) (hw : WFw w) (hl : ws.length < 5) : WFs (ws ++ [w]) := by
  refine ⟨by simp; omega, fun v hv => ?_⟩
  rcases List.mem_append.mp hv with hv | hv
  · exact h.2 v hv
  · rw [List.mem_singleton.mp hv]; exact hw
theorem cur_eq {ws : List Wt} (h : 0 < ws.length) : cur ws = ws[ws.length - 1]'(by omega) := atW_eq (by omega)
theorem sight_ok {t c : Int32} (ht : okT t) (hc : wi c 0 3 = 1) : okS (t * 4 + c) := by
  obtain ⟨a, ha, rfl⟩ := ht
  obtain ⟨h1, h2⟩ := wi1 hc
  obtain ⟨b, hb, rfl⟩ := wi_nat (m := 3) (by decide) h1 h2
  rw [sight_e]
  unfold okS
  rw [nI_toInt (by omega)]
  omega
theorem addS_wf {ws : List Wt} {x : Int32} (h : WFs ws) (h0 : 0 < ws.length) (hl : (cur ws).2.length < 3) (hx : okS x) (hn : ¬ x ∈ (cur ws).2) : WFs (addS ws x) := by
  unfold addS
  apply WFs_set h
  have hw := WFs_w h (i := ws.length - 1) (by omega)
  rw [← cur_eq h0] at hw
  obtain ⟨w1, w2, w3, w4⟩ := hw
  refine ⟨by simp; omega, ?_, fun y hy => ?_, w4⟩
  · show List.Nodup ((cur ws).2 ++ [x])
    rw [List.nodup_append]
    refine ⟨w2, by simp, fun a ha b hb => ?_⟩
    rw [List.mem_singleton.mp hb]
    rintro rfl
    exact hn ha
  · rcases List.mem_append.mp hy with hy | hy
    · exact w3 y hy
    · rw [List.mem_singleton.mp hy]; exact hx
theorem addS_len (ws : List Wt) (x : Int32) : (addS ws x).length = ws.length := List.length_set
theorem PV_step {s s' : PS} {x : Int32} (h : PV s) (hs : pstep s x = some s') : PV s' := by
  obtain ⟨m, ws, cs, t⟩ := s
  obtain ⟨p1, p2, p3, p4, p5, p6, p7, p8, p9, p10⟩ := h
  dsimp only at p1 p2 p3 p4 p5 p6 p7 p8 p9 p10
  unfold pstep at hs
  dsimp only at hs
  by_cases m0 : m = 0
  · rw [if_pos m0] at hs
    by_cases hk : kb x = -1
    · rw [if_pos hk] at hs; cases hs
    · rw [if_neg hk] at hs; cases hs
      obtain ⟨a, ha, ea⟩ := kb_ok hk
      have hc := p7 (by omega)
      refine ⟨by simp, WFs_app p2 ⟨by simp, by simp, by simp, by rw [ea, nI_toInt (by omega)]; omega⟩ (p4 m0), p3, by simp, by simp, by simp, fun _ => hc, by simp, by simp, by simp⟩
  rw [if_neg m0] at hs
  by_cases m1 : m = 1
  · rw [if_pos m1] at hs
    have hc := p7 (by omega)
    have hl := p5 m0
    by_cases h59 : x = 59
    · rw [if_pos h59] at hs; cases hs
      exact ⟨by simp, p2, p3, by simp, fun _ => hl, by simp, fun _ => hc, by simp, by simp, by simp⟩
    rw [if_neg h59] at hs
    by_cases h44 : x = 44 ∧ ws.length < 5
    · rw [if_pos h44] at hs; cases hs
      exact ⟨by simp, p2, p3, fun _ => h44.2, by simp, by simp, fun _ => hc, by simp, by simp, by simp⟩
    rw [if_neg h44] at hs
    by_cases hth : (cur ws).2.length < 3 ∧ wi (x - 97) 0 5 = 1
    · rw [if_pos hth] at hs; cases hs
      exact ⟨by simp, p2, p3, by simp, fun _ => hl, fun _ => ⟨hth.1, okT_of hth.2⟩, fun _ => hc, by simp, by simp, by simp⟩
    · rw [if_neg hth] at hs; cases hs
  rw [if_neg m1] at hs
  by_cases m2 : m = 2
  · rw [if_pos m2] at hs
    have hc := p7 (by omega)
    have hl := p5 m0
    by_cases hq : wi (x - 48) 0 3 = 1 ∧ ¬ t * 4 + (x - 48) ∈ (cur ws).2
    · rw [if_pos hq] at hs; cases hs
      obtain ⟨q1, q2⟩ := p6 m2
      exact ⟨by simp, addS_wf p2 hl q1 (sight_ok q2 hq.1) hq.2, p3, by simp, fun _ => by rw [addS_len]; exact hl, by simp, fun _ => hc, by simp, by simp, by simp⟩
    · rw [if_neg hq] at hs; cases hs
  rw [if_neg m2] at hs
  have hl := p5 m0
  by_cases m34 : m = 3 ∨ m = 4
  · rw [if_pos m34] at hs
    by_cases hth : wi (x - 97) 0 5 = 1
    · rw [if_pos hth] at hs; cases hs
      refine ⟨by simp, p2, p3, by simp, fun _ => hl, by simp, by simp, fun _ => ?_, fun _ => okT_of hth, by simp⟩
      rcases m34 with e | e
      · rw [p7 (by omega)]; simp
      · exact p8 (Or.inl e)
    · rw [if_neg hth] at hs; cases hs
  rw [if_neg m34] at hs
  by_cases m5 : m = 5
  · rw [if_pos m5] at hs
    by_cases hd : wi (x - 48) 1 6 = 1
    · rw [if_pos hd] at hs; cases hs
      have h4 := p8 (Or.inr m5)
      refine ⟨by simp, p2, ⟨by simp; omega, fun y hy => ?_⟩, by simp, fun _ => hl, by simp, by simp, by simp, by simp, by simp⟩
      rcases List.mem_append.mp hy with hy | hy
      · exact p3.2 y hy
      · rw [List.mem_singleton.mp hy]
        obtain ⟨d1, d2⟩ := wi1 hd
        obtain ⟨b, hb, eb⟩ := wi_nat (m := 6) (by decide) (by rw [Int32.le_iff_toInt_le] at d1 ⊢; have e : (1 : Int32).toInt = 1 := rfl; have e0 : (0 : Int32).toInt = 0 := rfl; omega) d2
        refine ⟨p9 m5, b, ?_, hb, eb⟩
        rw [eb, Int32.le_iff_toInt_le, nI_toInt (by omega)] at d1
        have e : (1 : Int32).toInt = 1 := rfl
        omega
    · rw [if_neg hd] at hs; cases hs
  rw [if_neg m5] at hs
  by_cases hq : x = 44 ∧ cs.length < 4
  · rw [if_pos hq] at hs; cases hs
    exact ⟨by simp, p2, p3, by simp, fun _ => hl, by simp, by simp, fun _ => hq.2, by simp, fun _ => p10 (Or.inr (by omega))⟩
  · rw [if_neg hq] at hs; cases hs
-- the class
def PC (σ : St) (s : PS) : Prop := σ 1 4 = nI s.1 ∧ HallC σ 3 s.2.1 ∧ CasC σ 16 s.2.2.1 ∧ σ 1 5 = s.2.2.2
def pF (σ' σ : St) : Prop := (∀ c, (c = 0 ∨ c = 2 ∨ 19 ≤ c) → σ' c = σ c) ∧ σ' 1 3 = σ 1 3
theorem latest_s {σ : St} {ws : List Wt} (h : HallC σ 3 ws) (hl : ws.length ≤ 5) (h0 : 0 < ws.length) : f_X2_latest σ = some (3 + 3 + 2 * (ws.length - 1)) := by
  unfold f_X2_latest
  obtain ⟨m, hm⟩ : ∃ m, ws.length = m + 1 := ⟨ws.length - 1, by omega⟩
  rw [h.1, hm, nI_m1, if_neg (nI_pos (by omega)), gd_t _ (inb_nI (by omega) (by decide)), nI_clamp (by omega), Nat.add_sub_cancel]
theorem HallC_up1 {σ : St} {ws : List Wt} {j : Nat} {x : Int32} (h : HallC σ 3 ws) (hl : ws.length ≤ 5) : HallC (up2 σ 1 j x) 3 ws := HallC_c hl (by rw [up2_ne (by omega)]) (fun i _ => up2_ne (by omega)) h
theorem CasC_up1 {σ : St} {cs : List (Int32 × Int32)} {j : Nat} {x : Int32} (h : CasC σ 16 cs) : CasC (up2 σ 1 j x) 16 cs := by
  unfold CasC at h ⊢
  rw [up2_ne (by omega), up2_ne (by omega), up2_ne (by omega)]; exact h
theorem thing_s {σ : St} {x : Int32} {m : Nat} {s : PS} (h : PC σ s) (hl : s.2.1.length ≤ 5) : (wi (x - 97) 0 5 = 0 → f_X2_acceptsThing σ x (nI m) = some (0, σ)) ∧ (wi (x - 97) 0 5 = 1 → ∃ σ', f_X2_acceptsThing σ x (nI m) = some (1, σ') ∧ PC σ' (m, s.2.1, s.2.2.1, x - 97) ∧ pF σ' σ) := by
  unfold f_X2_acceptsThing
  rw [isThing9, bo_s]
  constructor
  · intro e; rw [e, if_pos rfl]
  · intro e
    rw [e, if_neg one0]
    refine ⟨up2 (up2 σ 1 5 (x - 97)) 1 4 (nI m), rfl, ⟨up2_self, HallC_up1 (HallC_up1 h.2.1 hl) hl, CasC_up1 (CasC_up1 h.2.2.1), ?_⟩, fun c hc => ?_, ?_⟩
    · rw [up2_slot (by omega), up2_self]
    · rw [up2_ne (by omega), up2_ne (by omega)]
    · rw [up2_slot (by omega), up2_slot (by omega)]
theorem and1_dec : (0 : Int32) &&& 1 = 0 ∧ (1 : Int32) &&& 1 = 1 := by decide
theorem kl_dec : kl (nI 0) = 119 ∧ kl (nI 1) = 102 ∧ kl (nI 2) = 98 ∧ kl (nI 3) = 109 ∧ kl (nI 4) = 115 := by decide
theorem addKind_s {σ : St} {s : PS} {c : Nat} (h : PC σ s) (hl : s.2.1.length < 5) (hc : c < 5) : ∃ σ', bo (f_X1_add 3 σ (nI c)) (fun (r9 : St) => bv (up2 r9 1 4 1) (fun S10 => some (Sum.inr (Sum.inr ((1 : Int32), S10))))) = (some (Sum.inr (Sum.inr ((1 : Int32), σ'))) : Option (Int32 ⊕ (St ⊕ (Int32 × St)))) ∧ PC σ' (1, s.2.1 ++ [(nI c, [])], s.2.2.1, s.2.2.2) ∧ pF σ' σ := by
  obtain ⟨m, ws, cs, t⟩ := s
  obtain ⟨h1, h2, h3, h4⟩ := h
  dsimp only at h1 h2 h3 h4 hl ⊢
  unfold f_X1_add f_X7_beginAs
  rw [h2.1, if_neg (show ¬ 5 ≤ nI ws.length from nI_ge (b := 5) hl (by decide)), gd_t _ (inb_nI hl (by decide)), nI_clamp (by omega)]
  simp only [bv, bo_s]
  have e0 : up2 (up2 σ (3 + 3 + 2 * ws.length) 2 (nI c)) (3 + 3 + 2 * ws.length) 1 0 3 2 = nI ws.length := by rw [up2_ne (by omega), up2_ne (by omega)]; exact h2.1
  rw [e0, nI_1]
  refine ⟨_, rfl, ⟨up2_self, ⟨?_, fun i w hi => ?_⟩, ?_, ?_⟩, fun c hc => ?_, ?_⟩
  · rw [up2_ne (by omega), up2_self, List.length_append]; rfl
  · rcases get_app hi with ⟨e1, e2⟩ | ⟨e1, e2⟩
    · have a := h2.2 i w e2
      unfold WitC at a ⊢
      rw [up2_ne (by omega), up2_ne (by omega), up2_ne (by omega), up2_ne (by omega), up2_ne (by omega), up2_ne (by omega), up2_ne (by omega), up2_ne (by omega)]
      exact a
    · subst e1 e2
      refine ⟨?_, ?_⟩
      · rw [up2_ne (by omega), up2_ne (by omega), up2_slot (by omega), up2_self]
      · have : up2 (up2 (up2 (up2 σ (3 + 3 + 2 * ws.length) 2 (nI c)) (3 + 3 + 2 * ws.length) 1 0) 3 2 (nI (ws.length + 1))) 1 4 1 (3 + 3 + 2 * ws.length) 1 = 0 := by rw [up2_ne (by omega), up2_ne (by omega), up2_self]
        rw [this]; exact Row_nil
  · unfold CasC at h3 ⊢
    rw [up2_ne (by omega), up2_ne (by omega), up2_ne (by omega), up2_ne (by omega), up2_ne (by omega), up2_ne (by omega), up2_ne (by omega), up2_ne (by omega), up2_ne (by omega), up2_ne (by omega), up2_ne (by omega), up2_ne (by omega)]; exact h3
  · rw [up2_slot (by omega), up2_ne (by omega), up2_ne (by omega), up2_ne (by omega)]; exact h4
  · rw [up2_ne (by omega), up2_ne (by omega), up2_ne (by omega), up2_ne (by omega)]
  · rw [up2_slot (by omega), up2_ne (by omega), up2_ne (by omega), up2_ne (by omega)]
theorem kind_s {σ : St} {s : PS} {x : Int32} (h : PC σ s) (hl : s.2.1.length < 5) : (kb x = -1 → f_X2_acceptsKind σ x = some (0, σ)) ∧ (¬ kb x = -1 → ∃ σ', f_X2_acceptsKind σ x = some (1, σ') ∧ PC σ' (1, s.2.1 ++ [(kb x, [])], s.2.2.1, s.2.2.2) ∧ pF σ' σ) := by
  have step : ∀ c, c < 5 → (¬ kl (nI c) = x → b_X2_acceptsKind_2 σ x (nI c) = some (.inl (nI (c + 1)))) ∧ (kl (nI c) = x → ∃ σ', b_X2_acceptsKind_2 σ x (nI c) = some (.inr (.inr (1, σ'))) ∧ PC σ' (1, s.2.1 ++ [(nI c, [])], s.2.2.1, s.2.2.2) ∧ pF σ' σ) := by
    intro c hc
    unfold b_X2_acceptsKind_2
    rw [if_neg (show ¬ 5 ≤ nI c from nI_ge (b := 5) hc (by decide)), gd_t _ (inb_nI hc (by decide))]
    constructor
    · intro e; rw [if_neg e]; simp only [bv, nI_1]
    · intro e; rw [if_pos e]; exact addKind_s h hl hc
  have hit : ∀ c, c < 5 → kl (nI c) = x → (∀ d, d < c → ¬ kl (nI d) = x) → ∃ σ', f_X2_acceptsKind σ x = some (1, σ') ∧ PC σ' (1, s.2.1 ++ [(nI c, [])], s.2.2.1, s.2.2.2) ∧ pF σ' σ := by
    intro c hc e hd
    obtain ⟨σ', e1, e2, e3⟩ := (step c hc).2 e
    refine ⟨σ', ?_, e2, e3⟩
    unfold f_X2_acceptsKind
    obtain ⟨y, hy, rfl⟩ := lp_up0 (body := fun (s1 : Int32) => b_X2_acceptsKind_2 σ x s1) (s := 0) (fun y => y = .inr (1, σ')) (fun i z => z = nI i) c (by omega) rfl (fun i z hi hz => by
      subst hz
      exact Or.inl ⟨_, (step i (by omega)).1 (hd i hi), rfl⟩) (fun z hz => by
      subst hz
      exact ⟨_, e1, rfl⟩)
    rw [hy]
    rfl
  obtain ⟨k0, k1, k2, k3, k4⟩ := kl_dec
  unfold kb
  by_cases h1 : x = 98
  · subst h1
    rw [if_pos rfl]
    exact ⟨fun z => absurd z (by decide), fun _ => hit 2 (by omega) k2 (fun d hd => by rcases (by omega : d = 0 ∨ d = 1) with rfl | rfl; rw [k0]; decide; rw [k1]; decide)⟩
  rw [if_neg h1]
  by_cases h2 : x = 102
  · subst h2
    rw [if_pos rfl]
    exact ⟨fun z => absurd z (by decide), fun _ => hit 1 (by omega) k1 (fun d hd => by rw [show d = 0 by omega, k0]; decide)⟩
  rw [if_neg h2]
  by_cases h3 : x = 109
  · subst h3
    rw [if_pos rfl]
    exact ⟨fun z => absurd z (by decide), fun _ => hit 3 (by omega) k3 (fun d hd => by rcases (by omega : d = 0 ∨ d = 1 ∨ d = 2) with rfl | rfl | rfl; rw [k0]; decide; rw [k1]; decide; rw [k2]; decide)⟩
  rw [if_neg h3]
  by_cases h4 : x = 115
  · subst h4
    rw [if_pos rfl]
    exact ⟨fun z => absurd z (by decide), fun _ => hit 4 (by omega) k4 (fun d hd => by rcases (by omega : d = 0 ∨ d = 1 ∨ d = 2 ∨ d = 3) with rfl | rfl | rfl | rfl; rw [k0]; decide; rw [k1]; decide; rw [k2]; decide; rw [k3]; decide)⟩
  rw [if_neg h4]
  by_cases h5 : x = 119
  · subst h5
    rw [if_pos rfl]
    exact ⟨fun z => absurd z (by decide), fun _ => hit 0 (by omega) k0 (fun d hd => absurd hd (by omega))⟩
  rw [if_neg h5]
  refine ⟨fun _ => ?_, fun z => absurd rfl z⟩
  unfold f_X2_acceptsKind
  obtain ⟨y, hy, rfl⟩ := lp_up0 (body := fun (s1 : Int32) => b_X2_acceptsKind_2 σ x s1) (s := 0) (fun y => y = .inl σ) (fun i z => z = nI i) 5 (by omega) rfl (fun i z hi hz => by
    subst hz
    refine Or.inl ⟨_, (step i hi).1 ?_, rfl⟩
    rcases (by omega : i = 0 ∨ i = 1 ∨ i = 2 ∨ i = 3 ∨ i = 4) with rfl | rfl | rfl | rfl | rfl
    · rw [k0]; exact fun z => h5 z.symm
    · rw [k1]; exact fun z => h2 z.symm
    · rw [k2]; exact fun z => h1 z.symm
    · rw [k3]; exact fun z => h3 z.symm
    · rw [k4]; exact fun z => h4 z.symm) (fun z hz => by
    subst hz
    exact ⟨_, by unfold b_X2_acceptsKind_2; rw [if_pos (by decide)], rfl⟩)
  rw [hy]
  rfl

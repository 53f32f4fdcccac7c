/-! the pure side, 27: fault, wall -/
theorem CR_read {σ σ' : St} {q : AK} {cs : List (Int32 × Int32)} {wa n : Nat} {pg : List Int32} {kp : Option AK} (hg : GD n q cs wa pg kp) (hF : pF σ' σ) (h : CR σ q cs wa pg kp) : CR σ' q cs wa pg kp := by
  obtain ⟨g1, g2, g3, g4, g5, g6⟩ := hg
  exact CR_c g1.1.1 (fun z hz => (g6 z hz).1.1) (fun k hk => hF.1 k (by unfold tl at hk; omega)) hF.2 h
theorem RR_read {τ τ' : SR} {q : AK} {cs : List (Int32 × Int32)} {wa n : Nat} {pg : List Int32} {kp : Option AK} (hg : GD n q cs wa pg kp) (hF : Fr4 τ' τ) (h : RR τ q cs wa pg kp) : RR τ' q cs wa pg kp := by
  refine RR_s hg.1.1 (fun j h1 h2 h3 h4 => hF.2 0 j (by omega) (by omega) (by omega) (by omega) (by omega) (by omega)) (fun c hc => ?_) (fun p hp => hF.2 2 p (by omega) (by omega) (by omega) (by omega) (by omega) (by omega)) (fun p hp => hF.2 3 p (by omega) (by omega) (by omega) (by omega) (by omega) (by omega)) h
  funext i
  exact hF.2 c i (by omega) (by omega) (by omega) (by omega) (by omega) (by omega)
theorem both_read {σ : St} {τ : SR} {q : AK} {cs : List (Int32 × Int32)} {wa n : Nat} {pg : List Int32} {kp : Option AK} (hg : GD n q cs wa pg kp) (hc : CR σ q cs wa pg kp) (hr : RR τ q cs wa pg kp) : ∃ (p : Nat) (s : PS) (σ' : St) (τ' : SR), f_X2_read σ = some (nI p, σ') ∧ f_X10_read τ = some (nI p, τ') ∧ PC σ' s ∧ PV s ∧ p ≤ pg.length ∧ pF σ' σ ∧ Fr4 τ' τ ∧ ri τ' 0 19 = (if p = pg.length ∧ (s.1 = 3 ∨ s.1 = 6) then 1 else 0) ∧ (ri τ' 0 19 = 1 → QN τ' s.2.1 ∧ ri τ' 0 20 = nI s.2.1.length ∧ CN τ' s.2.2.1 ∧ ri τ' 0 21 = nI s.2.2.1.length) := by
  obtain ⟨p, s, σ', a1, a2, a3, a4, a5, a6⟩ := read_s hc.2.2.2.1 hg.2.2.1.1
  obtain ⟨p2, s2, τ', b1, b2, b3, b4, b5⟩ := readR_s (T := τ) (pg := pg) ⟨hr.2.2.2.2.2.2.2.1, hg.2.2.1.1⟩ (σ 1 5)
  have he : (p, s) = (p2, s2) := a1.symm.trans b1
  cases he
  exact ⟨p, s, σ', τ', a2, b2, a3, a4, a5, a6, b3, b4, b5⟩
theorem op_fault (n : Nat) (σ : St) (τ : SR) (_ : n < 512) (h : Rel n σ τ) : ∃ (r : Int32) (σ' : St) (τ' : SR), f_X9_fault σ = some (r, σ') ∧ f_X10_fault τ = some (r, τ') ∧ Rel (n + 1) σ' τ' := by
  obtain ⟨q, cs, wa, pg, kp, hg, hc, hr⟩ := h
  obtain ⟨p, s, σ', τ', a1, a2, a3, a4, a5, a6, a7, a8, a9⟩ := both_read hg hc hr
  refine ⟨nI p, σ', τ', ?_, ?_, q, cs, wa, pg, kp, GD_up hg, CR_read hg a6 hc, RR_read hg a7 hr⟩
  · unfold f_X9_fault; rw [a1, bo_s]
  · unfold f_X10_fault; rw [a2, bo_s]
theorem copyCs_s {σ : St} {k a : Nat} (hap : k + 3 ≤ a ∨ a + 3 ≤ k) : ∃ σ', f_X0_copyFrom k σ a = some σ' ∧ (∀ c, (c < k ∨ k + 3 ≤ c) → σ' c = σ c) ∧ σ' k 2 = σ a 2 ∧ ∀ j, j < 4 → σ' (k + 1) j = σ (a + 1) j ∧ σ' (k + 2) j = σ (a + 2) j := by
  unfold f_X0_copyFrom
  obtain ⟨T, e1, -, e2⟩ := lp_copy (body := fun (s2 : Int32 × St) => b_X0_copyFrom_10 k a s2.1 s2.2) (fun σ c i => σ c i) (fun _ => True) (fun c => if c = k + 1 then a + 1 else if c = k + 2 then a + 2 else c) (fun c => by (repeat' split) <;> omega)
    (fun j T => up2 (up2 T (k + 1) j (T (a + 1) j)) (k + 2) j (T (a + 2) j)) 4 (by decide) (fun j T hj => by
      dsimp only
      unfold b_X0_copyFrom_10
      rw [if_neg (show ¬ 4 ≤ nI j from nI_ge (b := 4) hj (by decide))]
      simp only [gd_t _ (inb_nI hj (show 4 < 2 ^ 31 by decide)), nI_clamp (show j < 2 ^ 31 by omega), bv, nI_1]
      simp (disch := omega) only [up2_ne])
    (fun T => by dsimp only; unfold b_X0_copyFrom_10; rw [if_pos (by decide)])
    (fun j T c i hj => by
      simp only [up2_all]
      by_cases ei : i = j
      · subst ei
        simp only [and_true, if_true]
        (repeat' split) <;> first | rfl | (exfalso; omega) | (subst_vars; rfl)
      · simp only [ei, and_false, if_false])
    (fun _ _ h => h) (up2 σ k 2 (σ a 2)) trivial
  simp only [bv]
  rw [e1, bo_s]
  refine ⟨T, rfl, fun c hc => ?_, ?_, fun j hj => ?_⟩
  · funext i
    rw [e2 c i, if_neg (show ¬ c = k + 1 by omega), if_neg (show ¬ c = k + 2 by omega), up2_ne (by omega)]
    split <;> rfl
  · rw [e2 k 2, if_neg (show ¬ k = k + 1 by omega), if_neg (show ¬ k = k + 2 by omega), up2_self]
    split <;> rfl
  · refine ⟨?_, ?_⟩
    · rw [e2 (k + 1) j, if_pos hj, if_pos rfl, up2_ne (by omega)]
    · rw [e2 (k + 2) j, if_pos hj, if_neg (by omega), if_pos rfl, up2_ne (by omega)]
theorem wallIn_s {T : SR} {i : Nat} (hi : i < 5) : ∃ T', lp (fun (s16 : Int32 × SR) => b_X10_wall_59 (nI i) s16.1 s16.2) 5000 (0, T) = some T' ∧ T'.2 = T.2 ∧ (∀ c p, ¬ (c = 2 ∧ 4 * i ≤ p ∧ p < 4 * i + 3) → ri T' c p = ri T c p) ∧ ∀ x, x < 3 → ri T' 2 (4 * i + x) = ri T 14 (3 * i + x) := by
  refine lp_up0 (body := fun (s16 : Int32 × SR) => b_X10_wall_59 (nI i) s16.1 s16.2) (s := (0, T)) (fun T' => T'.2 = T.2 ∧ (∀ c p, ¬ (c = 2 ∧ 4 * i ≤ p ∧ p < 4 * i + 3) → ri T' c p = ri T c p) ∧ ∀ x, x < 3 → ri T' 2 (4 * i + x) = ri T 14 (3 * i + x))
    (fun j s => s.1 = nI j ∧ s.2.2 = T.2 ∧ (∀ c p, ¬ (c = 2 ∧ 4 * i ≤ p ∧ p < 4 * i + 3) → ri s.2 c p = ri T c p) ∧ ∀ x, x < j → ri s.2 2 (4 * i + x) = ri T 14 (3 * i + x)) 3 (by decide) ⟨rfl, rfl, fun _ _ _ => rfl, fun x hx => absurd hx (by omega)⟩ (fun j s hj hI => ?_) (fun s hI => ?_)
  · obtain ⟨c0, U⟩ := s
    obtain ⟨rfl, g1, g2, g3⟩ := hI
    dsimp only at g1 g2 g3
    refine Or.inl ⟨(nI (j + 1), ui U 2 (4 * i + j) (ri U 14 (3 * i + j))), ?_, rfl, g1, fun c p hcp => ?_, fun x hx => ?_⟩
    · dsimp only
      unfold b_X10_wall_59
      rw [if_neg (show ¬ 3 ≤ nI j from nI_ge (b := 3) hj (by decide)), m3, show (4 : Int32) * nI i + nI j = nI (4 * i + j) from by rw [show (4 : Int32) = nI 4 from rfl, pk_mul, nI_add], gd_t _ (inb_nI (by omega) (by decide)), gd_t _ (inb_nI (by omega) (by decide)), nI_clamp (by omega), nI_clamp (by omega)]
      simp only [bv, nI_1]
    · show ri (ui U 2 (4 * i + j) _) c p = _
      rw [ri_ui_ne (by omega)]; exact g2 c p hcp
    · show ri (ui U 2 (4 * i + j) _) 2 (4 * i + x) = _
      by_cases e : x = j
      · subst e
        rw [ri_ui_self]; exact g2 _ _ (by omega)
      · rw [ri_ui_ne (by omega)]; exact g3 x (by omega)
  · obtain ⟨c0, U⟩ := s
    obtain ⟨rfl, g1, g2, g3⟩ := hI
    refine ⟨U, ?_, g1, g2, g3⟩
    dsimp only
    unfold b_X10_wall_59
    rw [if_pos (by decide)]
theorem wallW_s {T : SR} {m : Nat} (hm : m ≤ 5) (h1 : ri T 0 1 = nI m) : ∃ T', lp (fun (s4 : Int32 × SR) => b_X10_wall_25 s4.1 s4.2) 5000 (0, T) = some T' ∧ T'.2 = T.2 ∧ (∀ c p, c ≠ 1 → c ≠ 2 → c ≠ 3 → ri T' c p = ri T c p) ∧ ∀ i, i < m → ri T' 1 i = ri T 13 i ∧ ri T' 3 i = ri T 15 i ∧ ∀ x, x < 3 → ri T' 2 (4 * i + x) = ri T 14 (3 * i + x) := by
  refine lp_up0 (body := fun (s4 : Int32 × SR) => b_X10_wall_25 s4.1 s4.2) (s := (0, T)) (fun T' => T'.2 = T.2 ∧ (∀ c p, c ≠ 1 → c ≠ 2 → c ≠ 3 → ri T' c p = ri T c p) ∧ ∀ i, i < m → ri T' 1 i = ri T 13 i ∧ ri T' 3 i = ri T 15 i ∧ ∀ x, x < 3 → ri T' 2 (4 * i + x) = ri T 14 (3 * i + x))
    (fun j s => s.1 = nI j ∧ s.2.2 = T.2 ∧ (∀ c p, c ≠ 1 → c ≠ 2 → c ≠ 3 → ri s.2 c p = ri T c p) ∧ ∀ i, i < j → ri s.2 1 i = ri T 13 i ∧ ri s.2 3 i = ri T 15 i ∧ ∀ x, x < 3 → ri s.2 2 (4 * i + x) = ri T 14 (3 * i + x)) m (by omega) ⟨rfl, rfl, fun _ _ _ _ _ => rfl, fun x hx => absurd hx (by omega)⟩ (fun j s hj hI => ?_) (fun s hI => ?_)
  · obtain ⟨c0, U⟩ := s
    obtain ⟨rfl, g1, g2, g3⟩ := hI
    dsimp only at g1 g2 g3
    obtain ⟨V, e1, e2, e3, e4⟩ := wallIn_s (T := ui (ui U 1 j (ri U 13 j)) 3 j (ri U 15 j)) (i := j) (by omega)
    refine Or.inl ⟨(nI (j + 1), V), ?_, rfl, e2.trans g1, fun c p h1 h2 h3 => ?_, fun i hi => ?_⟩
    · dsimp only
      unfold b_X10_wall_25
      have hib := inb_nI (i := j) (n := 5) (by omega) (by decide)
      rw [g2 0 1 (by omega) (by omega) (by omega), h1, if_neg (nI_ge hj (by omega))]
      simp only [gd_t _ hib, bv, nI_clamp (show j < 2 ^ 31 by omega)]
      rw [ri_ui_ne (show ¬ (15 = 1 ∧ j = j) by omega), e1, bo_s, nI_1]
    · show ri V c p = _
      rw [e3 c p (by omega), ri_ui_ne (by omega), ri_ui_ne (by omega)]; exact g2 c p h1 h2 h3
    · show ri V 1 i = _ ∧ ri V 3 i = _ ∧ ∀ x, x < 3 → ri V 2 (4 * i + x) = _
      by_cases e : i = j
      · subst e
        refine ⟨?_, ?_, fun x hx => ?_⟩
        · rw [e3 1 i (by omega), ri_ui_ne (by omega), ri_ui_self]; exact g2 13 i (by omega) (by omega) (by omega)
        · rw [e3 3 i (by omega), ri_ui_self]; exact g2 15 i (by omega) (by omega) (by omega)
        · rw [e4 x hx, ri_ui_ne (by omega), ri_ui_ne (by omega)]; exact g2 14 _ (by omega) (by omega) (by omega)
      · obtain ⟨f1, f2, f3⟩ := g3 i (by omega)
        refine ⟨?_, ?_, fun x hx => ?_⟩
        · rw [e3 1 i (by omega), ri_ui_ne (by omega), ri_ui_ne (by omega)]; exact f1
        · rw [e3 3 i (by omega), ri_ui_ne (by omega), ri_ui_ne (by omega)]; exact f2
        · rw [e3 2 _ (by omega), ri_ui_ne (by omega), ri_ui_ne (by omega)]; exact f3 x hx
  · obtain ⟨c0, U⟩ := s
    obtain ⟨rfl, g1, g2, g3⟩ := hI
    dsimp only at g1 g2 g3
    refine ⟨U, ?_, g1, g2, g3⟩
    dsimp only
    unfold b_X10_wall_25
    rw [g2 0 1 (by omega) (by omega) (by omega), h1, if_pos (nI_le (Nat.le_refl _) (by omega))]
theorem wallC_s {T : SR} {m : Nat} (hm : m ≤ 4) (h1 : ri T 0 5 = nI m) : ∃ T', lp (fun (s28 : Int32 × SR) => b_X10_wall_106 s28.1 s28.2) 5000 (0, T) = some T' ∧ T'.2 = T.2 ∧ (∀ c p, c ≠ 4 → c ≠ 5 → ri T' c p = ri T c p) ∧ ∀ i, i < m → ri T' 4 i = ri T 16 i ∧ ri T' 5 i = ri T 17 i := by
  refine lp_up0 (body := fun (s28 : Int32 × SR) => b_X10_wall_106 s28.1 s28.2) (s := (0, T)) (fun T' => T'.2 = T.2 ∧ (∀ c p, c ≠ 4 → c ≠ 5 → ri T' c p = ri T c p) ∧ ∀ i, i < m → ri T' 4 i = ri T 16 i ∧ ri T' 5 i = ri T 17 i)
    (fun j s => s.1 = nI j ∧ s.2.2 = T.2 ∧ (∀ c p, c ≠ 4 → c ≠ 5 → ri s.2 c p = ri T c p) ∧ ∀ i, i < j → ri s.2 4 i = ri T 16 i ∧ ri s.2 5 i = ri T 17 i) m (by omega) ⟨rfl, rfl, fun _ _ _ _ => rfl, fun x hx => absurd hx (by omega)⟩ (fun j s hj hI => ?_) (fun s hI => ?_)
  · obtain ⟨c0, U⟩ := s
    obtain ⟨rfl, g1, g2, g3⟩ := hI
    dsimp only at g1 g2 g3
    refine Or.inl ⟨(nI (j + 1), ui (ui U 4 j (ri U 16 j)) 5 j (ri U 17 j)), ?_, rfl, g1, fun c p h1 h2 => ?_, fun i hi => ?_⟩
    · dsimp only
      unfold b_X10_wall_106
      have hib := inb_nI (i := j) (n := 4) (by omega) (by decide)
      rw [g2 0 5 (by omega) (by omega), h1, if_neg (nI_ge hj (by omega))]
      simp only [gd_t _ hib, bv, nI_clamp (show j < 2 ^ 31 by omega)]
      rw [ri_ui_ne (show ¬ (17 = 4 ∧ j = j) by omega), nI_1]
    · show ri (ui (ui U 4 j _) 5 j _) c p = _
      rw [ri_ui_ne (by omega), ri_ui_ne (by omega)]; exact g2 c p h1 h2
    · show ri (ui (ui U 4 j _) 5 j _) 4 i = _ ∧ ri (ui (ui U 4 j _) 5 j _) 5 i = _
      by_cases e : i = j
      · subst e
        refine ⟨?_, ?_⟩
        · rw [ri_ui_ne (by omega), ri_ui_self]; exact g2 16 i (by omega) (by omega)
        · rw [ri_ui_self]; exact g2 17 i (by omega) (by omega)
      · obtain ⟨f1, f2⟩ := g3 i (by omega)
        refine ⟨?_, ?_⟩
        · rw [ri_ui_ne (by omega), ri_ui_ne (by omega)]; exact f1
        · rw [ri_ui_ne (by omega), ri_ui_ne (by omega)]; exact f2
  · obtain ⟨c0, U⟩ := s
    obtain ⟨rfl, g1, g2, g3⟩ := hI
    dsimp only at g1 g2 g3
    refine ⟨U, ?_, g1, g2, g3⟩
    dsimp only
    unfold b_X10_wall_106
    rw [g2 0 5 (by omega) (by omega), h1, if_pos (nI_le (Nat.le_refl _) (by omega))]
theorem op_wall (n : Nat) (σ : St) (τ : SR) (hn : n < 512) (h : Rel n σ τ) : ∃ (r : Int32) (σ' : St) (τ' : SR), f_X9_wall σ = some (r, σ') ∧ f_X10_wall τ = some (r, τ') ∧ Rel (n + 1) σ' τ' := by
  obtain ⟨q, cs, wa, pg, kp, hg, hc, hr⟩ := h
  obtain ⟨p, s, σ1, τ1, a1, a2, a3, a4, a5, a6, a7, a8, a9⟩ := both_read hg hc hr
  have hg' := hg
  obtain ⟨g1, g2, g3, g4, g5, g6⟩ := hg'
  have h54 := g3.1
  have hlen : σ1 1 3 = nI pg.length := by rw [a6.2]; exact hc.2.2.2.1.1
  have hs6 := a4.1
  unfold f_X9_wall f_X10_wall
  rw [a1, a2, bo_s, bo_s]
  dsimp only
  simp only [hlen]
  have hwhole : f_X2_isWhole σ1 = some (if s.1 = 3 ∨ s.1 = 6 then 1 else 0) := by
    unfold f_X2_isWhole
    rw [a3.1]
    by_cases e3 : s.1 = 3
    · rw [if_pos (by rw [e3]; rfl), if_pos (Or.inl e3)]
    · rw [if_neg (show ¬ nI s.1 = 3 from fun z => e3 ((nI_eq (b := 3) (by omega) (by decide)).mp z))]
      by_cases e6 : s.1 = 6
      · rw [if_pos (by rw [e6]; rfl), if_pos (Or.inr e6)]
      · rw [if_neg (show ¬ nI s.1 = 6 from fun z => e6 ((nI_eq (b := 6) (by omega) (by decide)).mp z)), if_neg (fun z => z.elim e3 e6)]
  have hno : Rel (n + 1) σ1 τ1 := ⟨q, cs, wa, pg, kp, GD_up hg, CR_read hg a6 hc, RR_read hg a7 hr⟩
  by_cases c1 : p = pg.length
  · rw [if_neg (show ¬ nI p < nI pg.length from nI_nlt (by omega) (by omega)), hwhole, bo_s]
    by_cases c2 : s.1 = 3 ∨ s.1 = 6
    · rw [if_pos ⟨c1, c2⟩] at a8
      obtain ⟨b1, b2, b3, b4⟩ := a9 a8
      rw [show (if s.1 = 3 ∨ s.1 = 6 then (1 : Int32) else 0) = 1 from if_pos c2, a8, if_neg one0, if_neg one0]
      obtain ⟨m, ws, cs', t⟩ := s
      dsimp only at b1 b2 b3 b4 c2 a3 a4
      have hwf : WFs ws := a4.2.1
      have hwc : WFc cs' := a4.2.2.1
      have hl5 := hwf.1
      have hl4 := hwc.1
      have hpos : 0 < ws.length := a4.2.2.2.2.1 (by dsimp only; omega)
      -- the class
      obtain ⟨σ2, e1, e2, e3⟩ := copyH_s (k := 23) (a := 3) hwf (by omega) a3.2.1
      obtain ⟨σ3, d1, d2, d3, d4⟩ := copyCs_s (σ := up2 (up2 (up2 σ2 36 3 0) 40 2 0) 22 3 0) (k := 19) (a := 16) (by omega)
      unfold f_X3_beginWith
      rw [show 22 + 1 = 23 from rfl, show 22 + 14 = 36 from rfl, show 22 + 18 = 40 from rfl, e1, bo_s]
      simp only [bv]
      rw [bo_s, d1, bo_s]
      generalize hS : up2 (up2 (up2 σ3 0 7 0) 0 8 (up2 σ3 0 7 0 0 8 + 1)) 1 3 0 = S
      have hS8 : S 0 8 = nI (wa + 1) := by
        rw [← hS, up2_ne (by omega), up2_self, up2_slot (by omega), d2 0 (by omega), up2_ne (by omega), up2_ne (by omega), up2_ne (by omega), e2 0 (by omega), a6.1 0 (by omega), hc.2.2.1, nI_1]
      have hS7 : S 0 7 = 0 := by rw [← hS, up2_ne (by omega), up2_slot (by omega), up2_self]
      have hS13 : S 1 3 = 0 := by rw [← hS, up2_self]
      have hSo : ∀ c, c ≠ 0 → c ≠ 1 → S c = σ3 c := fun c h1 h2 => by rw [← hS, up2_ne h2, up2_ne h1, up2_ne h1]
      have hSH : HallC S 23 ws := HallC_cells (fun c h1 h2 _ _ => by rw [hSo c (by omega) (by omega), d2 c (by omega), up2_ne (by omega), up2_ne (by omega), up2_ne (by omega)]) hl5 e3
      have hret : S 23 2 = nI ws.length := hSH.1
      -- the reference
      generalize hT0 : ui τ1 0 1 (ri τ1 0 20) = T0
      have t01 : ri T0 0 1 = nI ws.length := by rw [← hT0, ri_ui_self]; exact b2
      have t0o : ∀ c j, ¬ (c = 0 ∧ j = 1) → ri T0 c j = ri τ1 c j := fun c j h => by rw [← hT0, ri_ui_ne h]
      obtain ⟨T1, i1, i2, i3, i4⟩ := wallW_s (T := T0) hl5 t01
      rw [i1, bo_s]
      generalize hT2 : ui T1 0 5 (ri T1 0 21) = T2
      have t25 : ri T2 0 5 = nI cs'.length := by rw [← hT2, ri_ui_self, i3 0 21 (by omega) (by omega) (by omega), t0o 0 21 (by omega)]; exact b4
      have t2o : ∀ c j, ¬ (c = 0 ∧ j = 5) → ri T2 c j = ri T1 c j := fun c j h => by rw [← hT2, ri_ui_ne h]
      obtain ⟨T3, k1, k2, k3, k4⟩ := wallC_s (T := T2) hl4 t25
      rw [k1, bo_s]
      have hq0 : ∀ j, j ≠ 1 → j ≠ 5 → ri T3 0 j = ri τ1 0 j := fun j h1 h2 => by
        rw [k3 0 j (by omega) (by omega), t2o 0 j (by omega), i3 0 j (by omega) (by omega) (by omega), t0o 0 j (by omega)]
      have hwa : ri τ1 0 0 = nI wa := by rw [a7.2 0 0 (by omega) (by omega) (by omega) (by omega) (by omega) (by omega)]; exact hr.2.2.2.2.2.2.1
      have e00 : ri (ui (ui T3 0 8 0) 0 12 0) 0 0 + 1 = nI (wa + 1) := by rw [ri_ui_ne (by omega), ri_ui_ne (by omega), hq0 0 (by omega) (by omega), hwa, nI_1]
      rw [e00]
      generalize hT : ui (ui (ui (ui (ui T3 0 8 0) 0 12 0) 0 0 (nI (wa + 1))) 0 13 0) 0 17 0 = T
      have hTo : ∀ c j, ¬ (c = 0 ∧ (j = 8 ∨ j = 12 ∨ j = 0 ∨ j = 13 ∨ j = 17)) → ri T c j = ri T3 c j := fun c j h => by rw [← hT, ri_ui_ne (by omega), ri_ui_ne (by omega), ri_ui_ne (by omega), ri_ui_ne (by omega), ri_ui_ne (by omega)]
      have t8 : ri T 0 8 = 0 := by rw [← hT, ri_ui_ne (by omega), ri_ui_ne (by omega), ri_ui_ne (by omega), ri_ui_ne (by omega), ri_ui_self]
      have t12 : ri T 0 12 = 0 := by rw [← hT, ri_ui_ne (by omega), ri_ui_ne (by omega), ri_ui_ne (by omega), ri_ui_self]
      have t0 : ri T 0 0 = nI (wa + 1) := by rw [← hT, ri_ui_ne (by omega), ri_ui_ne (by omega), ri_ui_self]
      have t13 : ri T 0 13 = 0 := by rw [← hT, ri_ui_ne (by omega), ri_ui_self]
      have t17 : ri T 0 17 = 0 := by rw [← hT, ri_ui_self]
      have t1 : ri T 0 1 = nI ws.length := by rw [hTo 0 1 (by omega), k3 0 1 (by omega) (by omega), t2o 0 1 (by omega), i3 0 1 (by omega) (by omega) (by omega)]; exact t01
      have t5 : ri T 0 5 = nI cs'.length := by rw [hTo 0 5 (by omega), k3 0 5 (by omega) (by omega)]; exact t25
      have t34 : ri T 0 34 = ri τ 0 34 := by rw [hTo 0 34 (by omega), hq0 34 (by omega) (by omega), a7.2 0 34 (by omega) (by omega) (by omega) (by omega) (by omega) (by omega)]
      obtain ⟨-, -, -, -, -, -, -, -, kw, kw1, kw2, -, -⟩ := hr
      refine ⟨nI ws.length, S, T, by rw [hret], by rw [t1], (ws, [], [], 0), cs', wa + 1, [], none, ⟨⟨hwf, rfl, ⟨by simp, by simp⟩, ⟨by simp, by simp⟩, by simp⟩, hwc, ⟨by simp, by simp⟩, by omega, ⟨fun z => by omega, fun z => ?_⟩, fun z hz => (by cases hz)⟩, ⟨⟨hSH, ⟨?_, fun j x hx => by simp at hx⟩, ⟨?_, fun j x hx => by simp at hx⟩, ?_⟩, ⟨?_, fun j x hx => ?_⟩, hS8, ⟨hS13, fun j x hx => by simp at hx⟩, fun _ => hS7, fun z hz => (by cases hz), fun h hh => ?_⟩, ⟨t1, fun i w hi => ?_, ⟨t8, fun j x hx => by simp at hx⟩, ⟨t13, fun j x hx => by simp at hx⟩, t12, ⟨t5, fun j x hx => ?_⟩, t0, ⟨t17, fun j x hx => by simp at hx⟩, kw, by omega, by rw [t34]; exact kw2, fun _ => Or.inr (by omega), fun z hz => (by cases hz)⟩⟩
      · dsimp only at z; omega
      · show S 36 3 = nI 0
        rw [hSo 36 (by omega) (by omega), d2 36 (by omega), up2_ne (by omega), up2_ne (by omega), up2_self]; rfl
      · show S 40 2 = nI 0
        rw [hSo 40 (by omega) (by omega), d2 40 (by omega), up2_ne (by omega), up2_self]; rfl
      · show S 22 3 = nI 0
        rw [hSo 22 (by omega) (by omega), d2 22 (by omega), up2_self]; rfl
      · rw [hSo 19 (by omega) (by omega), d3, up2_ne (by omega), up2_ne (by omega), up2_ne (by omega), e2 16 (by omega)]; exact a3.2.2.1.1
      · have hj := (List.getElem?_eq_some_iff.mp hx).1
        obtain ⟨f1, f2⟩ := d4 j (by omega)
        rw [hSo (19 + 1) (by omega) (by omega), hSo (19 + 2) (by omega) (by omega), f1, f2, up2_ne (by omega), up2_ne (by omega), up2_ne (by omega), up2_ne (by omega), up2_ne (by omega), up2_ne (by omega), e2 (16 + 1) (by omega), e2 (16 + 2) (by omega)]
        exact a3.2.2.1.2 j x hx
      · rw [hSo 79 (by omega) (by omega), d2 79 (by omega), up2_ne (by omega), up2_ne (by omega), up2_ne (by omega), e2 79 (by omega), a6.1 79 (by omega)]
        exact hc.2.2.2.2.2.2 h hh
      · have hil := (List.getElem?_eq_some_iff.mp hi).1
        obtain ⟨f1, f2, f3⟩ := i4 i (by dsimp only at hil; omega)
        obtain ⟨m1, m2, m4⟩ := b1 i w hi
        have hw3 : w.2.length ≤ 3 := (hwf.2 w (List.mem_of_getElem? hi)).1
        refine ⟨?_, ?_, fun j y hy => ?_⟩
        · rw [hTo 1 i (by omega), k3 1 i (by omega) (by omega), t2o 1 i (by omega), f1, t0o 13 i (by omega)]; exact m1
        · rw [hTo 3 i (by omega), k3 3 i (by omega) (by omega), t2o 3 i (by omega), f2, t0o 15 i (by omega)]; exact m2
        · have hj := (List.getElem?_eq_some_iff.mp hy).1
          show ri T 2 (4 * i + j) = y
          rw [hTo 2 _ (by omega), k3 2 _ (by omega) (by omega), t2o 2 _ (by omega), f3 j (by omega), t0o 14 _ (by omega)]
          exact m4 j y hy
      · have hj := (List.getElem?_eq_some_iff.mp hx).1
        obtain ⟨f1, f2⟩ := k4 j hj
        obtain ⟨m1, m2⟩ := b3 j x hx
        rw [hTo 4 j (by omega), hTo 5 j (by omega), f1, f2, t2o 16 j (by omega), t2o 17 j (by omega), i3 16 j (by omega) (by omega) (by omega), i3 17 j (by omega) (by omega) (by omega), t0o 16 j (by omega), t0o 17 j (by omega)]
        exact ⟨m1, m2⟩
    · rw [if_neg (fun z => c2 z.2)] at a8
      rw [show (if s.1 = 3 ∨ s.1 = 6 then (1 : Int32) else 0) = 0 from if_neg c2, a8, if_pos rfl, if_pos rfl]
      exact ⟨_, _, _, rfl, rfl, hno⟩
  · rw [if_neg (fun z => c1 z.1)] at a8
    rw [if_pos (show nI p < nI pg.length from nI_lt (by omega) (by omega)), a8, if_pos rfl]
    exact ⟨_, _, _, rfl, rfl, hno⟩

/-! the pure side, 16: a term, day by day -/
def comeH (sl : List T3) (day : Nat) (ws : List Wt) : List Wt := sl.foldl (fun ws x => if x.1 = nI day then showH ws x.2.1.toNatClampNeg x.2.2 else ws) ws
theorem comeH_app (sl : List T3) (x : T3) (day : Nat) (ws : List Wt) : comeH (sl ++ [x]) day ws = if x.1 = nI day then showH (comeH sl day ws) x.2.1.toNatClampNeg x.2.2 else comeH sl day ws := by
  simp [comeH, List.foldl_append]
theorem WFl_at {n : Nat} {l : List T3} (h : WFl n l) {j : Nat} (hj : j < l.length) : ∃ d i : Nat, d ≤ 6 ∧ i < n ∧ (l[j]).1 = nI d ∧ (l[j]).2.1 = nI i ∧ okS (l[j]).2.2 := by
  obtain ⟨⟨d, h1, h2, e1⟩, ⟨i, hi, e2⟩, e3⟩ := h.2 _ (List.getElem_mem hj)
  exact ⟨d, i, h2, hi, e1, e2, e3⟩
theorem comeH_wf {sl : List T3} {day n : Nat} {ws : List Wt} (hn5 : n ≤ 5) (hsl : WFl n sl) (hw : WFs ws) (hn : ws.length = n) : ∀ j, j ≤ sl.length → WFs (comeH (sl.take j) day ws) ∧ (comeH (sl.take j) day ws).length = n := by
  intro j
  induction j with
  | zero => intro _; exact ⟨hw, hn⟩
  | succ j ih =>
    intro hj
    obtain ⟨i1, i2⟩ := ih (by omega)
    obtain ⟨d, i, h1, h2, h3, h4, h5⟩ := WFl_at hsl (show j < sl.length by omega)
    rw [take_succ' _ _ (by omega), comeH_app]
    split
    · rw [h4, nI_clamp (by omega)]
      exact ⟨showH_wf (by omega) i1 h5, (showH_len _ _ _).trans i2⟩
    · exact ⟨i1, i2⟩
theorem wi_in {i n : Nat} (h : i < n) (hn : n ≤ 5) : wi (nI i) 0 (nI n - 1) = 1 := by
  unfold wi
  rw [if_neg (nI_pos (by omega)), if_neg]
  obtain ⟨m, rfl⟩ : ∃ m, n = m + 1 := ⟨n - 1, by omega⟩
  rw [nI_m1]
  exact nI_nlt (by omega) (by omega)
theorem comeIn_s {σ : St} {sl : List T3} {day n : Nat} {ws : List Wt} (hd : day ≤ 6) (hn5 : n ≤ 5) (hs : SliC σ 36 sl) (hsl : WFl n sl) (h : HallC σ 64 ws) (hw : WFs ws) (hn : ws.length = n) : ∃ σ', f_X5_comeIn 36 σ (nI day) 64 = some σ' ∧ (∀ c, (c < 64 ∨ 77 ≤ c) → σ' c = σ c) ∧ HallC σ' 64 (comeH sl day ws) := by
  have h6 := hsl.1
  obtain ⟨y, hy, y1, y2⟩ := lp_up0 (body := fun (s1 : Int32 × St) => b_X5_comeIn_2 36 (nI day) 64 s1.1 s1.2) (s := (0, σ)) (fun y => (∀ c, (c < 64 ∨ 77 ≤ c) → y c = σ c) ∧ HallC y 64 (comeH sl day ws))
    (fun j s => s.1 = nI j ∧ (∀ c, (c < 64 ∨ 77 ≤ c) → s.2 c = σ c) ∧ HallC s.2 64 (comeH (sl.take j) day ws)) sl.length (by omega) ⟨rfl, fun _ _ => rfl, h⟩
    (fun j s hj hI => by
      obtain ⟨c0, T⟩ := s
      obtain ⟨rfl, g1, g2⟩ := hI
      dsimp only at g1 g2
      obtain ⟨i1, i2⟩ := comeH_wf (day := day) hn5 hsl hw hn j (by omega)
      obtain ⟨d, i, h1, h2, h3, h4, h5⟩ := WFl_at hsl hj
      obtain ⟨p1, p2, p3⟩ := hs.2 j _ (List.getElem?_eq_getElem hj)
      have hT : T 36 3 = nI sl.length := by rw [g1 36 (by omega)]; exact hs.1
      by_cases ed : (sl[j]).1 = nI day
      · obtain ⟨T2, e1, e2, e3⟩ := meetsH_s g2 i1 (i := i) (by omega) h5
        refine Or.inl ⟨(nI (j + 1), T2), ?_, rfl, fun c hc => by show T2 c = _; rw [e2 c (by omega) (by omega), g1 c hc], ?_⟩
        · dsimp only
          unfold b_X5_comeIn_2
          rw [hT, if_neg (nI_ge hj (by omega)), gd_t _ (inb_nI (by omega) (by decide)), nI_clamp (by omega), show T (36 + 1) j = (sl[j]).1 from by rw [g1 _ (by omega)]; exact p1, if_pos ed, gd_t _ (inb_nI (by omega) (by decide)), show T (36 + 2) j = nI i from by rw [g1 _ (by omega)]; exact p2.trans h4, within9, g2.1, i2, wi_in h2 hn5, bo_s, if_neg one0, gd_t _ (inb_nI (by omega) (by decide)), gd_t _ (inb_nI (by omega) (by decide)), gd_t _ (inb_nI (by omega) (by decide)), nI_clamp (by omega), show T (36 + 3) j = (sl[j]).2.2 from by rw [g1 _ (by omega)]; exact p3, e1, bo_s]
          simp only [bv, nI_1]
        · show HallC T2 64 _
          rw [take_succ' _ _ hj, comeH_app, if_pos ed, h4, nI_clamp (by omega)]
          exact e3
      · refine Or.inl ⟨(nI (j + 1), T), ?_, rfl, g1, ?_⟩
        · dsimp only
          unfold b_X5_comeIn_2
          rw [hT, if_neg (nI_ge hj (by omega)), gd_t _ (inb_nI (by omega) (by decide)), nI_clamp (by omega), show T (36 + 1) j = (sl[j]).1 from by rw [g1 _ (by omega)]; exact p1, if_neg ed]
          simp only [bv, nI_1]
        · show HallC T 64 _
          rw [take_succ' _ _ hj, comeH_app, if_neg ed]
          exact g2)
    (fun s hI => by
      obtain ⟨c0, T⟩ := s
      obtain ⟨rfl, g1, g2⟩ := hI
      dsimp only at g1 g2
      rw [List.take_length] at g2
      refine ⟨T, ?_, g1, g2⟩
      dsimp only
      unfold b_X5_comeIn_2
      rw [show T 36 3 = nI sl.length from by rw [g1 36 (by omega)]; exact hs.1, if_pos (nI_le (Nat.le_refl _) (by omega))])
  unfold f_X5_comeIn
  rw [hy, bo_s]
  exact ⟨y, rfl, y1, y2⟩
theorem comeR_s {τ : SR} {sl : List T3} {day n : Nat} {ws : List Wt} (hd : day ≤ 6) (hn5 : n ≤ 5) (hs : Row3 (ri τ 6) (ri τ 7) (ri τ 8) (ri τ 0 8) sl) (hsl : WFl n sl) (h : HR τ ws) (hw : WFs ws) (hn : ws.length = n) : ∃ τ', lp (fun (s32 : Int32 × SR) => b_X10_layTerm_91 (nI day) s32.1 s32.2) 5000 (0, τ) = some τ' ∧ τ'.2 = τ.2 ∧ (∀ c, c ≠ 2 → c ≠ 3 → ri τ' c = ri τ c) ∧ HR τ' (comeH sl day ws) := by
  have h6 := hsl.1
  refine lp_up0 (body := fun (s32 : Int32 × SR) => b_X10_layTerm_91 (nI day) s32.1 s32.2) (s := (0, τ)) (fun y => y.2 = τ.2 ∧ (∀ c, c ≠ 2 → c ≠ 3 → ri y c = ri τ c) ∧ HR y (comeH sl day ws))
    (fun j s => s.1 = nI j ∧ s.2.2 = τ.2 ∧ (∀ c, c ≠ 2 → c ≠ 3 → ri s.2 c = ri τ c) ∧ HR s.2 (comeH (sl.take j) day ws)) sl.length (by omega) ⟨rfl, rfl, fun _ _ _ => rfl, h⟩
    (fun j s hj hI => ?_)
    (fun s hI => ?_)
  · obtain ⟨c0, T⟩ := s
    obtain ⟨rfl, g0, g1, g2⟩ := hI
    dsimp only at g0 g1 g2
    obtain ⟨i1, i2⟩ := comeH_wf (day := day) hn5 hsl hw hn j (by omega)
    obtain ⟨d, i, h1, h2, h3, h4, h5⟩ := WFl_at hsl hj
    obtain ⟨p1, p2, p3⟩ := hs.2 j _ (List.getElem?_eq_getElem hj)
    have hT : ri T 0 8 = nI sl.length := by rw [g1 0 (by omega) (by omega)]; exact hs.1
    by_cases ed : (sl[j]).1 = nI day
    · obtain ⟨T2, e1, e0, e2, e3⟩ := showR_s g2 i1 (i := i) (by omega) h5
      refine Or.inl ⟨(nI (j + 1), T2), ?_, rfl, by show T2.2 = _; rw [e0, g0], fun c c2 c3 => by show ri T2 c = _; rw [e2 c c2 c3, g1 c c2 c3], ?_⟩
      · dsimp only
        unfold b_X10_layTerm_91
        rw [hT, if_neg (nI_ge hj (by omega)), gd_t _ (inb_nI (by omega) (by decide)), nI_clamp (by omega), show ri T 6 j = (sl[j]).1 from by rw [g1 _ (by omega) (by omega)]; exact p1, if_pos ed, gd_t _ (inb_nI (by omega) (by decide)), gd_t _ (inb_nI (by omega) (by decide)), show ri T 7 j = nI i from by rw [g1 _ (by omega) (by omega)]; exact p2.trans h4, show ri T 8 j = (sl[j]).2.2 from by rw [g1 _ (by omega) (by omega)]; exact p3, e1, bo_s]
        simp only [bv, nI_1]
      · show HR T2 _
        rw [take_succ' _ _ hj, comeH_app, if_pos ed, h4, nI_clamp (by omega)]
        exact e3
    · refine Or.inl ⟨(nI (j + 1), T), ?_, rfl, g0, g1, ?_⟩
      · dsimp only
        unfold b_X10_layTerm_91
        rw [hT, if_neg (nI_ge hj (by omega)), gd_t _ (inb_nI (by omega) (by decide)), nI_clamp (by omega), show ri T 6 j = (sl[j]).1 from by rw [g1 _ (by omega) (by omega)]; exact p1, if_neg ed]
        simp only [bv, nI_1]
      · show HR T _
        rw [take_succ' _ _ hj, comeH_app, if_neg ed]
        exact g2
  · obtain ⟨c0, T⟩ := s
    obtain ⟨rfl, g0, g1, g2⟩ := hI
    dsimp only at g0 g1 g2
    rw [List.take_length] at g2
    refine ⟨T, ?_, g0, g1, g2⟩
    dsimp only
    unfold b_X10_layTerm_91
    rw [show ri T 0 8 = nI sl.length from by rw [g1 0 (by omega) (by omega)]; exact hs.1, if_pos (nI_le (Nat.le_refl _) (by omega))]
-- which cases could be won on a day
noncomputable def wcond (ws : List Wt) (day : Nat) (x : Int32 × Int32) : Bool := decide (¬ x.2 < nI day) && decide (¬ sd ws (nI (2 ^ ws.length - 1)) x.1 = -1)
noncomputable def wb (ws : List Wt) (cs : List (Int32 × Int32)) (day : Nat) : Nat → Int32
  | 0 => 0
  | c + 1 => if wcond ws day ((cs[c]?).getD (0, 0)) = true then wb ws cs day c ||| ((1 : Int32) <<< (nI c &&& 31)) else wb ws cs day c
theorem winnable_s {σ : St} {cs : List (Int32 × Int32)} {day : Nat} {ws : List Wt} (hcs : WFc cs) (hcc : CasC σ 19 cs) (h : HallC σ 64 ws) (hw : WFs ws) : ∃ σ', f_X6_winnableOn σ (nI day) 19 64 = some (wb ws cs day cs.length, σ') ∧ (∀ c, c ≠ 66 → σ' c = σ c) := by
  have hl := hw.1
  have h4 := hcs.1
  obtain ⟨y, hy, y1, y2⟩ := lp_up0 (body := fun (s1 : Int32 × Int32 × St) => b_X6_winnableOn_6 (nI day) 19 64 s1.1 s1.2.1 s1.2.2) (s := (0, 0, σ)) (fun y => y.1 = wb ws cs day cs.length ∧ (∀ c, c ≠ 66 → y.2 c = σ c))
    (fun j s => s.1 = wb ws cs day j ∧ s.2.1 = nI j ∧ (∀ c, c ≠ 66 → s.2.2 c = σ c)) cs.length (by omega) ⟨rfl, rfl, fun _ _ => rfl⟩
    (fun j s hj hI => by
      obtain ⟨c0, c1, T⟩ := s
      obtain ⟨rfl, rfl, g1⟩ := hI
      dsimp only at g1
      obtain ⟨p1, p2⟩ := hcc.2 j _ (List.getElem?_eq_getElem hj)
      have hT : HallC T 64 ws := HallC_c hl (by rw [g1 64 (by omega)]) (fun i hi => g1 _ (by omega)) h
      obtain ⟨T2, e1, e2⟩ := saidAmong_s (g := nI (2 ^ ws.length - 1)) (t := (cs[j]).1) hT hw
      have hst : b_X6_winnableOn_6 (nI day) 19 64 (wb ws cs day j) (nI j) T = if (cs[j]).2 < nI day then some (.inl (wb ws cs day j, nI (j + 1), T)) else if sd ws (nI (2 ^ ws.length - 1)) (cs[j]).1 = -1 then some (.inl (wb ws cs day j, nI (j + 1), T2)) else some (.inl (wb ws cs day j ||| ((1 : Int32) <<< (nI j &&& 31)), nI (j + 1), T2)) := by
        unfold b_X6_winnableOn_6
        rw [show T 19 2 = nI cs.length from by rw [g1 19 (by omega)]; exact hcc.1, if_neg (nI_ge hj (by omega)), gd_t _ (inb_nI (by omega) (by decide)), nI_clamp (by omega), show T (19 + 2) j = (cs[j]).2 from by rw [g1 _ (by omega)]; exact p2, everyone_s hT.1 hl, bo_s, gd_t _ (inb_nI (show j < 4 by omega) (by decide)), show T (19 + 1) j = (cs[j]).1 from by rw [g1 _ (by omega)]; exact p1, e1, bo_s]
        simp only [bv, nI_1]
      have ew : wb ws cs day (j + 1) = if (cs[j]).2 < nI day then wb ws cs day j else if sd ws (nI (2 ^ ws.length - 1)) (cs[j]).1 = -1 then wb ws cs day j else wb ws cs day j ||| ((1 : Int32) <<< (nI j &&& 31)) := by
        rw [wb, List.getElem?_eq_getElem hj]
        show (if wcond ws day (cs[j]) = true then _ else _) = _
        unfold wcond
        by_cases q1 : (cs[j]).2 < nI day
        · rw [if_pos q1, if_neg (by simp [q1])]
        · rw [if_neg q1]
          by_cases q2 : sd ws (nI (2 ^ ws.length - 1)) (cs[j]).1 = -1
          · rw [if_pos q2, if_neg (by simp [q2])]
          · rw [if_neg q2, if_pos (by simp [q1, q2])]
      by_cases q1 : (cs[j]).2 < nI day
      · rw [if_pos q1] at hst ew
        exact Or.inl ⟨_, hst, ew.symm, rfl, g1⟩
      · rw [if_neg q1] at hst ew
        by_cases q2 : sd ws (nI (2 ^ ws.length - 1)) (cs[j]).1 = -1
        · rw [if_pos q2] at hst ew
          exact Or.inl ⟨_, hst, ew.symm, rfl, fun c hc => by show T2 c = _; rw [e2 c hc, g1 c hc]⟩
        · rw [if_neg q2] at hst ew
          exact Or.inl ⟨_, hst, ew.symm, rfl, fun c hc => by show T2 c = _; rw [e2 c hc, g1 c hc]⟩)
    (fun s hI => by
      obtain ⟨c0, c1, T⟩ := s
      obtain ⟨rfl, rfl, g1⟩ := hI
      dsimp only at g1
      refine ⟨(wb ws cs day cs.length, T), ?_, rfl, g1⟩
      dsimp only
      unfold b_X6_winnableOn_6
      rw [show T 19 2 = nI cs.length from by rw [g1 19 (by omega)]; exact hcc.1, if_pos (nI_le (Nat.le_refl _) (by omega))])
  unfold f_X6_winnableOn
  rw [hy, bo_s]
  exact ⟨y.2, by rw [y1], y2⟩
theorem winR_s {τ : SR} {cs : List (Int32 × Int32)} {day : Nat} {ws : List Wt} (hd : day ≤ 6) (hcs : WFc cs) (hcc : ri τ 0 5 = nI cs.length ∧ ∀ j x, cs[j]? = some x → ri τ 4 j = x.1 ∧ ri τ 5 j = x.2) (h : HR τ ws) (hw : WFs ws) (h0 : ri τ 20 day = 0) : ∃ τ', lp (fun (s10 : Int32 × SR) => b_X10_layTerm_21 (nI day) s10.1 s10.2) 5000 (0, τ) = some τ' ∧ τ'.2 = τ.2 ∧ (∀ c i, ¬ (c = 20 ∧ i = day) → ri τ' c i = ri τ c i) ∧ ri τ' 20 day = wb ws cs day cs.length := by
  have hl := hw.1
  have h4 := hcs.1
  refine lp_up0 (body := fun (s10 : Int32 × SR) => b_X10_layTerm_21 (nI day) s10.1 s10.2) (s := (0, τ)) (fun y => y.2 = τ.2 ∧ (∀ c i, ¬ (c = 20 ∧ i = day) → ri y c i = ri τ c i) ∧ ri y 20 day = wb ws cs day cs.length)
    (fun j s => s.1 = nI j ∧ s.2.2 = τ.2 ∧ (∀ c i, ¬ (c = 20 ∧ i = day) → ri s.2 c i = ri τ c i) ∧ ri s.2 20 day = wb ws cs day j) cs.length (by omega) ⟨rfl, rfl, fun _ _ _ => rfl, h0⟩
    (fun j s hj hI => ?_)
    (fun s hI => ?_)
  · obtain ⟨c0, T⟩ := s
    obtain ⟨rfl, g0, g1, g2⟩ := hI
    dsimp only at g0 g1 g2
    obtain ⟨p1, p2⟩ := hcc.2 j _ (List.getElem?_eq_getElem hj)
    have gc : ∀ c, c ≠ 20 → ri T c = ri τ c := fun c hc => by funext i; exact g1 c i (fun z => hc z.1)
    have hT : HR T ws := by
      unfold HR
      rw [gc 0 (by omega), gc 1 (by omega), gc 2 (by omega), gc 3 (by omega)]; exact h
    have hst : b_X10_layTerm_21 (nI day) (nI j) T = some (.inl (nI (j + 1), ui T 20 day (wb ws cs day (j + 1)))) := by
      unfold b_X10_layTerm_21
      rw [show ri T 0 5 = nI cs.length from by rw [gc 0 (by omega)]; exact hcc.1, if_neg (nI_ge hj (by omega)), gd_t _ (inb_nI (by omega) (by decide)), nI_clamp (show j < 2 ^ 31 by omega), show ri T 5 j = (cs[j]).2 from by rw [gc 5 (by omega)]; exact p2, gd_t _ (inb_nI (by omega) (by decide)), everybody_s hT.1 hl, bo_s, show ri T 4 j = (cs[j]).1 from by rw [gc 4 (by omega)]; exact p1, saidBy_s hT hw, bo_s, nI_clamp (show day < 2 ^ 31 by omega), g2, wb, List.getElem?_eq_getElem hj]
      simp only [gd_t _ (inb_nI (show day < 7 by omega) (show 7 < 2 ^ 31 by decide)), bv, nI_1]
      rw [show (some (cs[j])).getD ((0 : Int32), (0 : Int32)) = cs[j] from rfl]
      unfold wcond
      by_cases q1 : (cs[j]).2 < nI day
      · rw [if_pos q1, bo_s, if_pos rfl, if_neg (by simp [q1]), Int32.or_zero]
      · rw [if_neg q1]
        by_cases q2 : sd ws (nI (2 ^ ws.length - 1)) (cs[j]).1 = -1
        · rw [if_pos q2, gd_t _ (inb_nI (show j < 4 by omega) (by decide)), bo_s, if_pos rfl, if_neg (by simp [q2]), Int32.or_zero]
        · rw [if_neg q2, gd_t _ (inb_nI (show j < 4 by omega) (by decide)), bo_s, if_neg one0, if_pos (by simp [q1, q2])]
    exact Or.inl ⟨_, hst, rfl, g0, fun c i hci => by show ri (ui _ _ _ _) c i = _; rw [ri_ui_ne hci]; exact g1 c i hci, ri_ui_self⟩
  · obtain ⟨c0, T⟩ := s
    obtain ⟨rfl, g0, g1, g2⟩ := hI
    dsimp only at g0 g1 g2
    refine ⟨T, ?_, g0, g1, g2⟩
    dsimp only
    unfold b_X10_layTerm_21
    rw [show ri T 0 5 = nI cs.length from by rw [g1 0 5 (by omega)]; exact hcc.1, if_pos (nI_le (Nat.le_refl _) (by omega))]
-- the days
def hday (sl : List T3) (ws : List Wt) : Nat → List Wt
  | 0 => ws
  | d + 1 => comeH sl (d + 1) (hday sl ws d)
theorem hday_wf {sl : List T3} {n : Nat} {ws : List Wt} (hn5 : n ≤ 5) (hsl : WFl n sl) (hw : WFs ws) (hn : ws.length = n) (d : Nat) : WFs (hday sl ws d) ∧ (hday sl ws d).length = n := by
  induction d with
  | zero => exact ⟨hw, hn⟩
  | succ d ih =>
    have := comeH_wf (day := d + 1) hn5 hsl ih.1 ih.2 sl.length (Nat.le_refl _)
    rw [List.take_length] at this
    exact this
noncomputable def wday (sl : List T3) (cs : List (Int32 × Int32)) (ws : List Wt) (d : Nat) : Int32 := wb (hday sl ws (d - 1)) cs d cs.length
theorem goDays_s {σ : St} {sl : List T3} {cs : List (Int32 × Int32)} {n : Nat} {ws : List Wt} (hn5 : n ≤ 5) (hcs : WFc cs) (hcc : CasC σ 19 cs) (hs : SliC σ 36 sl) (hsl : WFl n sl) (h : HallC σ 64 ws) (hw : WFs ws) (hn : ws.length = n) : ∃ σ', lp (fun (s1 : Int32 × St) => b_X6_goBy_3 19 64 36 s1.1 s1.2) 5000 (1, σ) = some σ' ∧ (∀ c, (c < 64 ∨ 77 ≤ c) → c ≠ 78 → σ' c = σ c) ∧ ∀ d, 1 ≤ d → d ≤ 6 → σ' 78 d = wday sl cs ws d := by
  refine lp_up0 (body := fun (s1 : Int32 × St) => b_X6_goBy_3 19 64 36 s1.1 s1.2) (s := (1, σ)) (fun σ' => (∀ c, (c < 64 ∨ 77 ≤ c) → c ≠ 78 → σ' c = σ c) ∧ ∀ d, 1 ≤ d → d ≤ 6 → σ' 78 d = wday sl cs ws d)
    (fun i s => s.1 = nI (i + 1) ∧ (∀ c, (c < 64 ∨ 77 ≤ c) → c ≠ 78 → s.2 c = σ c) ∧ HallC s.2 64 (hday sl ws i) ∧ ∀ d, 1 ≤ d → d ≤ i → s.2 78 d = wday sl cs ws d) 6 (by decide) ⟨rfl, fun _ _ _ => rfl, h, fun d h1 h2 => absurd h1 (by omega)⟩
    (fun i s hi hI => ?_)
    (fun s hI => ?_)
  · obtain ⟨c0, T⟩ := s
    obtain ⟨rfl, g1, g2, g3⟩ := hI
    dsimp only at g1 g2 g3
    obtain ⟨w1, w2⟩ := hday_wf hn5 hsl hw hn i
    have hcT : CasC T 19 cs := by
      unfold CasC at hcc ⊢
      rw [g1 19 (by omega) (by omega), g1 (19 + 1) (by omega) (by omega), g1 (19 + 2) (by omega) (by omega)]; exact hcc
    obtain ⟨T2, e1, e2⟩ := winnable_s (day := i + 1) hcs hcT g2 w1
    have hT3 : HallC (up2 T2 78 (i + 1) (wb (hday sl ws i) cs (i + 1) cs.length)) 64 (hday sl ws i) := HallC_c (by omega) (by rw [up2_ne (by omega), e2 64 (by omega)]) (fun j hj => by rw [up2_ne (by omega), e2 _ (by omega)]) g2
    have hS3 : SliC (up2 T2 78 (i + 1) (wb (hday sl ws i) cs (i + 1) cs.length)) 36 sl := by
      unfold SliC at hs ⊢
      rw [up2_ne (by omega), up2_ne (by omega), up2_ne (by omega), up2_ne (by omega), e2 _ (by omega), e2 _ (by omega), e2 _ (by omega), e2 _ (by omega), g1 _ (by omega) (by omega), g1 _ (by omega) (by omega), g1 _ (by omega) (by omega), g1 _ (by omega) (by omega)]; exact hs
    obtain ⟨T4, e3, e4, e5⟩ := comeIn_s (day := i + 1) (by omega) hn5 hS3 hsl hT3 w1 w2
    refine Or.inl ⟨(nI (i + 1 + 1), T4), ?_, rfl, fun c hc h78 => ?_, e5, fun d h1 h2 => ?_⟩
    · dsimp only
      unfold b_X6_goBy_3
      rw [if_neg (show ¬ 6 < nI (i + 1) from nI_nlt (a := 6) (by omega) (by decide)), e1, bo_s, gd_t _ (inb_nI (by omega) (by decide)), nI_clamp (by omega)]
      simp only [bv]
      rw [e3, bo_s, nI_1]
    · show T4 c = _
      rw [e4 c hc, up2_ne h78, e2 c (by omega), g1 c hc h78]
    · show T4 78 d = _
      rw [e4 78 (by omega)]
      by_cases ed : d = i + 1
      · subst ed
        rw [up2_self]; rfl
      · rw [up2_slot ed, e2 78 (by omega)]
        exact g3 d h1 (by omega)
  · obtain ⟨c0, T⟩ := s
    obtain ⟨rfl, g1, g2, g3⟩ := hI
    dsimp only at g1 g2 g3
    refine ⟨T, ?_, g1, g3⟩
    dsimp only
    unfold b_X6_goBy_3
    rw [if_pos (by decide)]
theorem layDays_s {τ : SR} {sl : List T3} {cs : List (Int32 × Int32)} {n : Nat} {ws : List Wt} (hn5 : n ≤ 5) (hcs : WFc cs) (hcc : ri τ 0 5 = nI cs.length ∧ ∀ j x, cs[j]? = some x → ri τ 4 j = x.1 ∧ ri τ 5 j = x.2) (hs : Row3 (ri τ 6) (ri τ 7) (ri τ 8) (ri τ 0 8) sl) (hsl : WFl n sl) (h : HR τ ws) (hw : WFs ws) (hn : ws.length = n) : ∃ τ', lp (fun (s2 : Int32 × SR) => b_X10_layTerm_6 s2.1 s2.2) 5000 (1, τ) = some τ' ∧ τ'.2 = τ.2 ∧ (∀ c, c ≠ 2 → c ≠ 3 → c ≠ 20 → ri τ' c = ri τ c) ∧ ∀ d, 1 ≤ d → d ≤ 6 → ri τ' 20 d = wday sl cs ws d := by
  refine lp_up0 (body := fun (s2 : Int32 × SR) => b_X10_layTerm_6 s2.1 s2.2) (s := (1, τ)) (fun τ' => τ'.2 = τ.2 ∧ (∀ c, c ≠ 2 → c ≠ 3 → c ≠ 20 → ri τ' c = ri τ c) ∧ ∀ d, 1 ≤ d → d ≤ 6 → ri τ' 20 d = wday sl cs ws d)
    (fun i s => s.1 = nI (i + 1) ∧ s.2.2 = τ.2 ∧ (∀ c, c ≠ 2 → c ≠ 3 → c ≠ 20 → ri s.2 c = ri τ c) ∧ HR s.2 (hday sl ws i) ∧ ∀ d, 1 ≤ d → d ≤ i → ri s.2 20 d = wday sl cs ws d) 6 (by decide) ⟨rfl, rfl, fun _ _ _ _ => rfl, h, fun d h1 h2 => absurd h1 (by omega)⟩
    (fun i s hi hI => ?_)
    (fun s hI => ?_)
  · obtain ⟨c0, T⟩ := s
    obtain ⟨rfl, g0, g1, g2, g3⟩ := hI
    dsimp only at g0 g1 g2 g3
    obtain ⟨w1, w2⟩ := hday_wf hn5 hsl hw hn i
    have k1 : ∀ c, c ≠ 20 → ri (ui T 20 (i + 1) 0) c = ri T c := fun c hc => ri_ui_cell hc
    have hT1 : HR (ui T 20 (i + 1) 0) (hday sl ws i) := by
      unfold HR at g2 ⊢
      rw [k1 0 (by omega), k1 1 (by omega), k1 2 (by omega), k1 3 (by omega)]; exact g2
    obtain ⟨T2, e1, e0, e2, e2'⟩ := winR_s (day := i + 1) (by omega) hcs (by rw [k1 0 (by omega), k1 4 (by omega), k1 5 (by omega), g1 0 (by omega) (by omega) (by omega), g1 4 (by omega) (by omega) (by omega), g1 5 (by omega) (by omega) (by omega)]; exact hcc) hT1 w1 ri_ui_self
    have k2 : ∀ c, c ≠ 20 → ri T2 c = ri T c := fun c hc => by rw [← k1 c hc]; funext j; exact e2 c j (fun z => hc z.1)
    obtain ⟨T4, e3, f0, e4, e5⟩ := comeR_s (τ := T2) (day := i + 1) (sl := sl) (ws := hday sl ws i) (by omega) hn5 (by rw [k2 0 (by omega), k2 6 (by omega), k2 7 (by omega), k2 8 (by omega), g1 0 (by omega) (by omega) (by omega), g1 6 (by omega) (by omega) (by omega), g1 7 (by omega) (by omega) (by omega), g1 8 (by omega) (by omega) (by omega)]; exact hs) hsl (by unfold HR at g2 ⊢; rw [k2 0 (by omega), k2 1 (by omega), k2 2 (by omega), k2 3 (by omega)]; exact g2) w1 w2
    refine Or.inl ⟨(nI (i + 1 + 1), T4), ?_, rfl, by show T4.2 = _; rw [f0, e0]; exact g0, fun c c2 c3 c20 => ?_, e5, fun d h1 h2 => ?_⟩
    · dsimp only
      unfold b_X10_layTerm_6
      rw [if_neg (show ¬ 6 < nI (i + 1) from nI_nlt (a := 6) (by omega) (by decide)), gd_t _ (inb_nI (by omega) (by decide)), nI_clamp (by omega)]
      simp only [bv]
      rw [e1, bo_s, e3, bo_s, nI_1]
    · show ri T4 c = _
      rw [e4 c c2 c3, k2 c c20, g1 c c2 c3 c20]
    · show ri T4 20 d = _
      rw [e4 20 (by omega) (by omega)]
      by_cases ed : d = i + 1
      · subst ed
        rw [e2']; rfl
      · rw [e2 20 d (by omega), ri_ui_ne (by omega)]
        exact g3 d h1 (by omega)
  · obtain ⟨c0, T⟩ := s
    obtain ⟨rfl, g0, g1, g2, g3⟩ := hI
    dsimp only at g0 g1 g2 g3
    refine ⟨T, ?_, g0, g1, g3⟩
    dsimp only
    unfold b_X10_layTerm_6
    rw [if_pos (by decide)]

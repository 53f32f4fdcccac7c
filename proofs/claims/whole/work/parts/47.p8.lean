/-! the pure side, 8: show, by the reference -/
theorem goes_s (kd y x : Int32) : f_X10_goes kd y x = some (if gz kd x y then 1 else 0) := by
  unfold f_X10_goes gz
  by_cases h1 : y = x
  · rw [if_pos h1]; simp [h1]
  · rw [if_neg h1]
    by_cases h2 : kd = 1
    · rw [if_pos h2]; simp [h2]
    · rw [if_neg h2]
      by_cases h3 : kd = 3
      · rw [if_pos h3]
        by_cases h4 : y / 4 = x / 4
        · rw [if_pos h4]; simp [h3, h4]
        · rw [if_neg h4]; simp [h1, h2, h4]
      · rw [if_neg h3]; simp [h1, h2, h3]
theorem takes_s {w : Wt} {x : Int32} : f_X10_takes w.1 (if tellL w.2 (x / 4) = -1 then 0 else 1) = some (if takesB w x then 1 else 0) := by
  unfold f_X10_takes takesB
  by_cases h1 : w.1 = 2
  · rw [if_pos h1]; simp [h1]
  · rw [if_neg h1]
    by_cases h2 : w.1 = 4
    · rw [if_pos h2]
      by_cases h3 : tellL w.2 (x / 4) = -1
      · rw [if_pos h3, if_pos rfl]; simp [h2, h3]
      · rw [if_neg h3, if_neg one0]; simp [h2, h3]
    · rw [if_neg h2]; simp [h1, h2]
theorem hasThing_s {τ : SR} {i : Nat} {w : Wt} {t : Int32} (hi : i < 5) (h : Row (fun j => ri τ 2 (4 * i + j)) (ri τ 3 i) w.2) (hl : w.2.length ≤ 3) : f_X10_hasThing τ (nI i) t = some (if tellL w.2 t = -1 then 0 else 1) := by
  unfold f_X10_hasThing
  rw [tellsNow_s hi h hl, bo_s]
  split <;> rfl
theorem m4c (i j : Nat) : (4 : Int32) * nI i + nI j + 1 = nI (4 * i + j + 1) := by rw [m4, nI_1]
theorem ui_2 {τ : SR} {k j : Nat} {x : Int32} : (ui τ k j x).2 = τ.2 := rfl
theorem showNow_s {τ : SR} {i : Nat} {w : Wt} {x : Int32} (hi : i < 5) (hk : ri τ 1 i = w.1) (h : Row (fun j => ri τ 2 (4 * i + j)) (ri τ 3 i) w.2) (hw : WFw w) (hx : okS x) : ∃ τ' : SR, f_X10_showNow τ (nI i) x = some ((if takesB w x then 1 else 0), τ') ∧ τ'.2 = τ.2 ∧ (∀ c, c ≠ 2 → c ≠ 3 → ri τ' c = ri τ c) ∧ (∀ j, j ≠ i → ri τ' 3 j = ri τ 3 j) ∧ (∀ p, (p < 4 * i ∨ 4 * i + 4 ≤ p) → ri τ' 2 p = ri τ 2 p) ∧ Row (fun j => ri τ' 2 (4 * i + j)) (ri τ' 3 i) (if takesB w x then showL w.1 x w.2 else w.2) := by
  have hl := hw.1
  have hib := inb_nI (i := i) (n := 5) hi (by decide)
  unfold f_X10_showNow
  rw [gd_t _ hib, hasThing_s hi h hl, bo_s, nI_clamp (by omega), hk, takes_s, bo_s]
  by_cases ht0 : takesB w x = false
  · have ht : ¬ takesB w x = true := by rw [ht0]; decide
    rw [if_neg ht]
    rw [if_pos rfl]
    exact ⟨τ, by simp [ht], rfl, fun _ _ _ => rfl, fun _ _ => rfl, fun _ _ => rfl, by simp [ht]; exact h⟩
  have ht : takesB w x = true := by revert ht0; cases takesB w x <;> simp
  rw [if_pos ht, if_neg one0]
  obtain ⟨y, hy, hv⟩ := lp_up0 (body := fun (s5 : Int32 × Int32 × SR) => b_X10_showNow_27 (nI i) x s5.1 s5.2.1 s5.2.2) (s := (0, 0, τ)) (fun y => y.1 = nI (keepL w.1 x w.2).length ∧ y.2.2 = τ.2 ∧ (∀ c, c ≠ 2 → ri y.2 c = ri τ c) ∧ (∀ p, (p < 4 * i ∨ 4 * i + 4 ≤ p) → ri y.2 2 p = ri τ 2 p) ∧ ∀ j z, (keepL w.1 x w.2)[j]? = some z → ri y.2 2 (4 * i + j) = z)
    (fun j s => s.1 = nI (keepL w.1 x (w.2.take j)).length ∧ s.2.1 = nI j ∧ s.2.2.2 = τ.2 ∧ (∀ c, c ≠ 2 → ri s.2.2 c = ri τ c) ∧ (∀ p, (p < 4 * i ∨ 4 * i + 4 ≤ p) → ri s.2.2 2 p = ri τ 2 p) ∧ (∀ m z, (keepL w.1 x (w.2.take j))[m]? = some z → ri s.2.2 2 (4 * i + m) = z) ∧ ∀ m, j ≤ m → ri s.2.2 2 (4 * i + m) = ri τ 2 (4 * i + m)) w.2.length (by omega) ⟨rfl, rfl, rfl, fun _ _ => rfl, fun _ _ => rfl, fun m z hz => by simp [keepL] at hz, fun _ _ => rfl⟩
    (fun j s hj hI => by
      obtain ⟨c0, c1, T⟩ := s
      obtain ⟨rfl, rfl, g1, g2, g3, g4, g5⟩ := hI
      dsimp only at g1 g2 g3 g4 g5
      have hF : (keepL w.1 x (w.2.take j)).length ≤ j := fl_take _ _ _
      generalize hM : (keepL w.1 x (w.2.take j)).length = M at *
      have hyj : ri T 2 (4 * i + j) = w.2[j] := by rw [g5 j (Nat.le_refl _)]; exact RowR.at h hj
      have hst : b_X10_showNow_27 (nI i) x (nI M) (nI j) T = if gz w.1 x w.2[j] = true then some (.inl (nI M, nI (j + 1), T)) else some (.inl (nI (M + 1), nI (j + 1), ui T 2 (4 * i + M) w.2[j])) := by
        unfold b_X10_showNow_27
        simp only [gd_t _ hib, nI_clamp (show i < 2 ^ 31 by omega), g2 3 (by omega), g2 1 (by omega), h.1, m4, gd_t _ (inb_nI (show 4 * i + j < 20 by omega) (by decide)), gd_t _ (inb_nI (show 4 * i + M < 20 by omega) (by decide)), nI_clamp (show 4 * i + j < 2 ^ 31 by omega), nI_clamp (show 4 * i + M < 2 ^ 31 by omega), hyj, hk, goes_s, bo_s, bv, nI_1]
        rw [if_neg (nI_ge hj (by omega))]
        by_cases hg : gz w.1 x w.2[j] = true
        · rw [if_pos hg, if_neg one0, if_pos hg]
        · rw [if_neg hg, if_pos rfl, if_neg hg]
      have ek : keepL w.1 x (w.2.take (j + 1)) = if gz w.1 x w.2[j] = true then keepL w.1 x (w.2.take j) else keepL w.1 x (w.2.take j) ++ [w.2[j]] := by
        rw [take_succ' _ _ hj]
        unfold keepL
        rw [fl_app]
        by_cases hg : gz w.1 x w.2[j] = true
        · rw [if_pos hg, if_neg (by simp [hg])]
        · rw [if_neg hg, if_pos (by simp [hg])]
      by_cases hg : gz w.1 x w.2[j] = true
      · rw [if_pos hg] at hst ek
        refine Or.inl ⟨(nI M, nI (j + 1), T), hst, by rw [ek, hM], rfl, g1, g2, g3, fun m z hz => ?_, fun m hm => g5 m (by omega)⟩
        rw [ek] at hz
        exact g4 m z hz
      · rw [if_neg hg] at hst ek
        refine Or.inl ⟨(nI (M + 1), nI (j + 1), ui T 2 (4 * i + M) w.2[j]), hst, by rw [ek, List.length_append, hM]; rfl, rfl, g1, fun c hc => ?_, fun p hp => ?_, fun m z hz => ?_, fun m hm => ?_⟩
        · show ri (ui _ _ _ _) c = _
          rw [ri_ui_cell hc]; exact g2 c hc
        · show ri (ui _ _ _ _) 2 p = _
          rw [ri_ui_ne (by omega)]; exact g3 p hp
        · show ri (ui _ _ _ _) 2 _ = z
          rw [ek] at hz
          rcases get_app hz with ⟨e1, e2⟩ | ⟨e1, e2⟩
          · rw [ri_ui_ne (by omega)]; exact g4 m z e2
          · rw [e1, hM, ri_ui_self, e2]
        · show ri (ui _ _ _ _) 2 _ = _
          rw [ri_ui_ne (by omega)]; exact g5 m (by omega))
    (fun s hI => by
      obtain ⟨c0, c1, T⟩ := s
      obtain ⟨rfl, rfl, g1, g2, g3, g4, g5⟩ := hI
      dsimp only at g1 g2 g3 g4 g5
      rw [List.take_length] at g4
      refine ⟨(nI (keepL w.1 x w.2).length, T), ?_, rfl, g1, g2, g3, g4⟩
      dsimp only
      unfold b_X10_showNow_27
      rw [gd_t _ hib, nI_clamp (by omega), g2 3 (by omega), h.1, if_pos (nI_le (Nat.le_refl _) (by omega)), List.take_length])
  obtain ⟨c0, T⟩ := y
  obtain ⟨rfl, v1, v2, v3, v4⟩ := hv
  dsimp only at v1 v2 v3 v4
  have hK := keep_len w.1 x w.2
  rw [hy, bo_s]
  dsimp only
  generalize hM : (keepL w.1 x w.2).length = M at *
  rw [m4, gd_t _ (inb_nI (by omega) (by decide)), nI_clamp (by omega)]
  simp only [bv, gd_t _ hib, nI_1]
  -- the row with the new sight at its end
  generalize hT2 : ui (ui T 2 (4 * i + M) x) 3 i (nI (M + 1)) = T2
  have t1 : T2.2 = τ.2 := by rw [← hT2]; exact v1
  have t2 : ∀ c, c ≠ 2 → c ≠ 3 → ri T2 c = ri τ c := fun c h2 h3 => by rw [← hT2, ri_ui_cell h3, ri_ui_cell h2]; exact v2 c h2
  have t3 : ∀ j, j ≠ i → ri T2 3 j = ri τ 3 j := fun j hj => by rw [← hT2, ri_ui_ne (by omega), ri_ui_cell (by omega), v2 3 (by omega)]
  have t4 : ∀ p, (p < 4 * i ∨ 4 * i + 4 ≤ p) → ri T2 2 p = ri τ 2 p := fun p hp => by rw [← hT2, ri_ui_cell (by omega), ri_ui_ne (by omega)]; exact v3 p hp
  have t5 : ri T2 3 i = nI (M + 1) := by rw [← hT2]; exact ri_ui_self
  have t6 : ∀ j z, (keepL w.1 x w.2 ++ [x])[j]? = some z → ri T2 2 (4 * i + j) = z := by
    intro j z hz
    rw [← hT2, ri_ui_cell (by omega)]
    rcases get_app hz with ⟨e1, e2⟩ | ⟨e1, e2⟩
    · rw [ri_ui_ne (by omega)]; exact v4 j z e2
    · rw [e1, hM, ri_ui_self, e2]
  rw [t5]
  by_cases h3 : M = 3
  · subst h3
    rw [if_neg (by decide)]
    obtain ⟨z, hz, z1, z2, z3, z4⟩ := lp_up0 (body := fun (s29 : Int32 × SR) => b_X10_showNow_125 (nI i) s29.1 s29.2) (s := (0, T2)) (fun z => z.2 = τ.2 ∧ (∀ c, c ≠ 2 → ri z c = ri T2 c) ∧ (∀ p, (p < 4 * i ∨ 4 * i + 4 ≤ p) → ri z 2 p = ri τ 2 p) ∧ ∀ m, m < 3 → ri z 2 (4 * i + m) = ri T2 2 (4 * i + m + 1))
      (fun j s => s.1 = nI j ∧ s.2.2 = τ.2 ∧ (∀ c, c ≠ 2 → ri s.2 c = ri T2 c) ∧ (∀ p, (p < 4 * i ∨ 4 * i + 4 ≤ p) → ri s.2 2 p = ri τ 2 p) ∧ (∀ m, m < j → ri s.2 2 (4 * i + m) = ri T2 2 (4 * i + m + 1)) ∧ ∀ m, j ≤ m → ri s.2 2 (4 * i + m) = ri T2 2 (4 * i + m)) 3 (by decide) ⟨rfl, t1, fun _ _ => rfl, t4, fun m hm => absurd hm (by omega), fun _ _ => rfl⟩
      (fun j s hj hI => by
        obtain ⟨c0, U⟩ := s
        obtain ⟨rfl, g1, g2, g3, g4, g5⟩ := hI
        dsimp only at g1 g2 g3 g4 g5
        refine Or.inl ⟨(nI (j + 1), ui U 2 (4 * i + j) (ri U 2 (4 * i + j + 1))), ?_, rfl, g1, fun c hc => ?_, fun p hp => ?_, fun m hm => ?_, fun m hm => ?_⟩
        · dsimp only
          unfold b_X10_showNow_125
          rw [if_neg (show ¬ 3 ≤ nI j from nI_ge hj (by decide))]
          simp only [m4, nI_1, gd_t _ (inb_nI (show 4 * i + j < 20 by omega) (by decide)), gd_t _ (inb_nI (show 4 * i + j + 1 < 20 by omega) (by decide)), nI_clamp (show 4 * i + j < 2 ^ 31 by omega), nI_clamp (show 4 * i + j + 1 < 2 ^ 31 by omega), bv]
        · show ri (ui _ _ _ _) c = _
          rw [ri_ui_cell hc]; exact g2 c hc
        · show ri (ui _ _ _ _) 2 p = _
          rw [ri_ui_ne (by omega)]; exact g3 p hp
        · show ri (ui _ _ _ _) 2 _ = _
          by_cases e : m = j
          · subst e
            rw [ri_ui_self]; exact g5 (m + 1) (by omega)
          · rw [ri_ui_ne (by omega)]; exact g4 m (by omega)
        · show ri (ui _ _ _ _) 2 _ = _
          rw [ri_ui_ne (by omega)]; exact g5 m (by omega))
      (fun s hI => by
        obtain ⟨c0, U⟩ := s
        obtain ⟨rfl, g1, g2, g3, g4, g5⟩ := hI
        dsimp only at g1 g2 g3 g4 g5
        exact ⟨U, by dsimp only; unfold b_X10_showNow_125; rw [if_pos (by decide)], g1, g2, g3, g4⟩)
    rw [hz, bo_s]
    refine ⟨ui z 3 i 3, by simp [ht], z1, fun c h2 h3 => by rw [ri_ui_cell h3, z2 c h2]; exact t2 c h2 h3, fun j hj => by rw [ri_ui_ne (by omega), z2 3 (by omega)]; exact t3 j hj, fun p hp => by rw [ri_ui_cell (by omega)]; exact z3 p hp, ?_⟩
    rw [if_pos ht]
    unfold showL addL
    rw [if_pos hM]
    refine ⟨by rw [ri_ui_self, List.length_append, List.length_tail, hM]; rfl, fun j y hy => ?_⟩
    show ri (ui z 3 i 3) 2 (4 * i + j) = y
    have hjl := (List.getElem?_eq_some_iff.mp hy).1
    rw [List.length_append, List.length_tail, hM] at hjl
    simp at hjl
    rw [ri_ui_cell (by omega), z4 j (by omega)]
    apply t6 (j + 1) y
    rw [← hy]
    cases hk2 : keepL w.1 x w.2 with
    | nil => rw [hk2] at hM; simp at hM
    | cons a t => simp
  · rw [if_pos (show nI (M + 1) ≤ 3 from nI_le (b := 3) (by omega) (by decide))]
    refine ⟨T2, by simp [ht], t1, t2, t3, t4, ?_⟩
    rw [if_pos ht]
    unfold showL addL
    rw [if_neg (by rw [hM]; exact h3)]
    exact ⟨by rw [t5, List.length_append, hM]; rfl, t6⟩
theorem op_show (n : Nat) (σ : St) (τ : SR) (a1 a2 a3 : Int32) (hn : n < 512) (h : Rel n σ τ) : ∃ (r : Int32) (σ' : St) (τ' : SR), f_X9_show σ a1 a2 a3 = some (r, σ') ∧ f_X10_show τ a1 a2 a3 = some (r, τ') ∧ Rel (n + 1) σ' τ' := by
  have hR := Rel_up n σ τ h
  obtain ⟨q, cs, wa, pg, kp, hg, hc, hr⟩ := h
  have hl := GD_n hg
  unfold f_X9_show f_X10_show
  rw [isWit9 (CR_n hc), isWit10 hr.1, bo_s, bo_s]
  rcases iw_or (GD_n hg) a1 with h1 | ⟨h1, i, hi, rfl⟩
  · rw [h1, if_pos rfl, if_pos rfl]; exact ⟨_, _, _, rfl, rfl, hR⟩
  rw [h1, if_neg one0, if_neg one0, isThing9, isSight10, bo_s, bo_s]
  rcases wi_or a2 0 5 with h2 | ⟨h2, t1, t2⟩
  · rw [h2, if_pos rfl, if_pos rfl, if_pos rfl]; exact ⟨_, _, _, rfl, rfl, hR⟩
  rw [h2, if_neg one0, if_neg one0, isColour9, bo_s]
  rcases wi_or a3 0 3 with h3 | ⟨h3, k1, k2⟩
  · rw [h3, if_pos rfl, if_pos rfl]; exact ⟨_, _, _, rfl, rfl, hR⟩
  have s1 : σ 22 3 = nI q.2.2.2 := hc.1.2.2.2
  have s2 := hr.2.2.2.2.1
  have hsh := hg.1.2.2.2.2
  rw [h3, if_neg one0, if_neg one0, s1, s2]
  by_cases hf : q.2.2.2 = 9999
  · rw [hf, if_neg (by decide), if_pos (by decide)]; exact ⟨_, _, _, rfl, rfl, hR⟩
  rw [if_pos (show nI q.2.2.2 < 9999 from nI_lt (b := 9999) (by omega) (by decide)), if_neg (show ¬ nI q.2.2.2 = 9999 from fun e => hf ((nI_eq (b := 9999) (by omega) (by decide)).mp e))]
  simp only [bv, nI_1]
  rw [gd_t _ (inb_nI (by omega) (by decide)), nI_clamp (by omega), Int32.mul_comm a2 4]
  have w1 := CR_wit hc hi
  have w2 := RR_wit hr hi
  have w3 := GD_w hg hi
  have hx := okS_of t1 t2 k1 k2
  obtain ⟨σ2, e1, e2, e3⟩ := meets_s (σ := up2 σ 22 3 (nI (q.2.2.2 + 1))) (k := 26 + 2 * i) (w := q.1[i]) (x := 4 * a2 + a3) (by unfold WitC; rw [up2_ne (by omega), up2_ne (by omega)]; exact w1) w3 hx
  obtain ⟨τ2, g1, g2, g3, g4, g5, g6⟩ := showNow_s (τ := ui τ 0 12 (nI (q.2.2.2 + 1))) (i := i) (w := q.1[i]) (x := 4 * a2 + a3) (by omega) (by rw [ri_ui_ne (by omega)]; exact w2.1) (by rw [ri_ui_cell (by omega), ri_ui_cell (by omega)]; exact w2.2) w3 hx
  rw [e1, g1, bo_s, bo_s]
  dsimp only
  refine ⟨(if takesB q.1[i] (4 * a2 + a3) then 1 else 0), σ2, τ2, ?_, ?_, Rel_set hg hc hr (i := i) (sh := q.2.2.2 + 1) (w' := if takesB q.1[i] (4 * a2 + a3) then ((q.1[i]).1, showL (q.1[i]).1 (4 * a2 + a3) (q.1[i]).2) else q.1[i]) hi ?_ (by omega) (fun k c1 c2 c3 => by rw [e2 k c2 (by omega), up2_ne c1]) e3 (by rw [e2 22 (by omega) (by omega), up2_self]) (fun k c0 c1 c2 c3 => by rw [g3 k c2 c3, ri_ui_cell c0]) (fun j hj => by rw [g3 0 (by omega) (by omega), ri_ui_ne (by omega)]) (by rw [g3 0 (by omega) (by omega), ri_ui_self]) ⟨?_, ?_⟩ (fun j hj hj5 => ⟨by rw [g3 1 (by omega) (by omega), ri_ui_cell (by omega)], by rw [g4 j hj, ri_ui_cell (by omega)], fun k hk => by rw [g5 _ (by omega), ri_ui_cell (by omega)]⟩)⟩
  · split <;> rfl
  · split <;> rfl
  · split
    · exact WFw_show w3 hx
    · exact w3
  · rw [g3 1 (by omega) (by omega), ri_ui_cell (by omega), w2.1]
    split <;> rfl
  · have e : (if takesB q.1[i] (4 * a2 + a3) then ((q.1[i]).1, showL (q.1[i]).1 (4 * a2 + a3) (q.1[i]).2) else q.1[i] : Wt).2 = if takesB q.1[i] (4 * a2 + a3) then showL (q.1[i]).1 (4 * a2 + a3) (q.1[i]).2 else (q.1[i]).2 := by split <;> rfl
    rw [e]
    exact g6

/-! the pure side, 3: small calls -/
theorem m4 (i j : Nat) : (4 : Int32) * nI i + nI j = nI (4 * i + j) := by
  rw [show (4 : Int32) = nI 4 from rfl, pk_mul, nI_add]
theorem i_add0 (x : Int32) : x + 0 = x := Int32.add_zero x
theorem RowR.at {f : Nat → Int32} {n : Int32} {l : List Int32} {i : Nat} (h : Row (fun j => f (4 * i + j)) n l) {j : Nat} (hj : j < l.length) : f (4 * i + j) = l[j] := h.2 j _ (List.getElem?_eq_getElem hj)
theorem tellsNow_s {τ : SR} {i : Nat} {w : Wt} {t : Int32} (hi : i < 5) (h : Row (fun j => ri τ 2 (4 * i + j)) (ri τ 3 i) w.2) (hl : w.2.length ≤ 3) : f_X10_tellsNow τ (nI i) t = some (tellL w.2 t) := by
  obtain ⟨x, hx, hv⟩ := lp_up0 (body := fun (s1 : Int32 × Int32) => b_X10_tellsNow_5 τ (nI i) t s1.1 s1.2) (s := ((-1), 0)) (fun x => x = tellL w.2 t) (fun j s => s = (tellL (w.2.take j) t, nI j)) w.2.length (by omega) rfl
    (fun j s hj hI => by
      subst hI
      refine Or.inl ⟨(tellL (w.2.take (j + 1)) t, nI (j + 1)), ?_, rfl⟩
      dsimp only
      unfold b_X10_tellsNow_5
      rw [gd_t _ (inb_nI hi (by omega)), nI_clamp (by omega), h.1, if_neg (nI_ge hj (by omega)), m4, gd_t _ (inb_nI (by omega) (by omega)), gd_t _ (inb_nI (by omega) (by omega)), nI_clamp (by omega), RowR.at h hj, take_succ' _ _ hj, tellL_app]
      simp only [bv, nI_1]
      by_cases hc : w.2[j] / 4 = t
      · rw [if_pos hc, if_pos hc]
      · rw [if_neg hc, if_neg hc])
    (fun s hI => by
      subst hI
      refine ⟨tellL w.2 t, ?_, rfl⟩
      dsimp only
      unfold b_X10_tellsNow_5
      rw [gd_t _ (inb_nI hi (by omega)), nI_clamp (by omega), h.1, if_pos (nI_le (Nat.le_refl _) (by omega)), List.take_length])
  unfold f_X10_tellsNow
  rw [hx, bo_s, hv]
theorem has10_s {τ : SR} {i : Nat} {w : Wt} {a : Int32} (hi : i < 5) (h : Row (fun j => ri τ 2 (4 * i + j)) (ri τ 3 i) w.2) (hl : w.2.length ≤ 3) : f_X10_has τ (nI i) a = some (if a ∈ w.2 then 1 else 0) := by
  obtain ⟨x, hx, hv⟩ := lp_up0 (body := fun (s1 : Int32 × Int32) => b_X10_has_5 τ (nI i) a s1.1 s1.2) (s := (0, 0)) (fun x => x = if a ∈ w.2 then 1 else 0) (fun j s => s = ((if a ∈ w.2.take j then 1 else 0), nI j)) w.2.length (by omega) (by simp [i32_0])
    (fun j s hj hI => by
      subst hI
      refine Or.inl ⟨((if a ∈ w.2.take (j + 1) then 1 else 0), nI (j + 1)), ?_, rfl⟩
      dsimp only
      unfold b_X10_has_5
      rw [gd_t _ (inb_nI hi (by omega)), nI_clamp (by omega), h.1, if_neg (nI_ge hj (by omega)), m4, gd_t _ (inb_nI (by omega) (by omega)), nI_clamp (by omega), RowR.at h hj, take_succ' _ _ hj]
      simp only [bv, nI_1, List.mem_append, List.mem_singleton]
      by_cases hc : a ∈ w.2.take j
      · rw [if_pos hc, if_neg one0, if_pos (Or.inl hc)]
      · rw [if_neg hc, if_pos rfl]
        by_cases he : w.2[j] = a
        · rw [if_pos he, if_pos (Or.inr he.symm)]
        · rw [if_neg he, if_neg (fun z => z.elim hc (fun e => he e.symm))])
    (fun s hI => by
      subst hI
      refine ⟨_, ?_, rfl⟩
      dsimp only
      unfold b_X10_has_5
      rw [gd_t _ (inb_nI hi (by omega)), nI_clamp (by omega), h.1, if_pos (nI_le (Nat.le_refl _) (by omega)), List.take_length])
  unfold f_X10_has
  rw [hx, bo_s, hv]
  split <;> rfl
theorem RR_wit {τ : SR} {q : AK} {cs : List (Int32 × Int32)} {wa : Nat} {pg : List Int32} {kp : Option AK} (h : RR τ q cs wa pg kp) {i : Nat} (hi : i < q.1.length) : ri τ 1 i = (q.1[i]).1 ∧ Row (fun j => ri τ 2 (4 * i + j)) (ri τ 3 i) (q.1[i]).2 := h.2.1 i _ (List.getElem?_eq_getElem hi)
theorem CR_wit {σ : St} {q : AK} {cs : List (Int32 × Int32)} {wa : Nat} {pg : List Int32} {kp : Option AK} (h : CR σ q cs wa pg kp) {i : Nat} (hi : i < q.1.length) : WitC σ (26 + 2 * i) (q.1[i]) := h.1.1.2 i _ (List.getElem?_eq_getElem hi)
theorem CR_n {σ : St} {q : AK} {cs : List (Int32 × Int32)} {wa : Nat} {pg : List Int32} {kp : Option AK} (h : CR σ q cs wa pg kp) : σ 23 2 = nI q.1.length := h.1.1.1
theorem GD_n {n : Nat} {q : AK} {cs : List (Int32 × Int32)} {wa : Nat} {pg : List Int32} {kp : Option AK} (h : GD n q cs wa pg kp) : q.1.length ≤ 5 := h.1.1.1
theorem GD_w {n : Nat} {q : AK} {cs : List (Int32 × Int32)} {wa : Nat} {pg : List Int32} {kp : Option AK} (h : GD n q cs wa pg kp) {i : Nat} (hi : i < q.1.length) : WFw (q.1[i]) := h.1.1.2 _ (List.getElem_mem hi)
theorem GD_k {n : Nat} {q : AK} {cs : List (Int32 × Int32)} {wa : Nat} {pg : List Int32} {kp : Option AK} (h : GD n q cs wa pg kp) : ∀ z, kp = some z → z.1.length ≤ 5 := fun z hz => (h.2.2.2.2.2 z hz).1.1
theorem GD_up {n : Nat} {q : AK} {cs : List (Int32 × Int32)} {wa : Nat} {pg : List Int32} {kp : Option AK} (h : GD n q cs wa pg kp) : GD (n + 1) q cs wa pg kp := ⟨h.1, h.2.1, h.2.2.1, Nat.le_succ_of_le h.2.2.2.1, h.2.2.2.2⟩
theorem op_tells (n : Nat) (σ : St) (τ : SR) (a1 a2 : Int32) (hn : n < 512) (h : Rel n σ τ) : ∃ r : Int32, f_X9_tells σ a1 a2 = some r ∧ f_X10_tells τ a1 a2 = some r ∧ Rel (n + 1) σ τ := by
  have hR := Rel_up n σ τ h
  obtain ⟨q, cs, wa, pg, kp, hg, hc, hr⟩ := h
  unfold f_X9_tells f_X10_tells
  rw [isWit9 (CR_n hc), isWit10 hr.1, bo_s, bo_s]
  rcases iw_or (GD_n hg) a1 with h1 | ⟨h1, i, hi, rfl⟩
  · rw [h1, if_pos rfl, if_pos rfl]; exact ⟨_, rfl, rfl, hR⟩
  · have hl := GD_n hg
    rw [h1, if_neg one0, if_neg one0, isThing9, within10, bo_s, bo_s]
    by_cases h2 : wi a2 0 5 = 0
    · rw [if_pos h2, if_pos h2]; exact ⟨_, rfl, rfl, hR⟩
    · rw [if_neg h2, if_neg h2, gd_t _ (inb_nI (by omega) (by omega)), nI_clamp (by omega), colourOf_s (CR_wit hc hi) (GD_w hg hi).1, tellsNow_s (by omega) (RR_wit hr hi).2 (GD_w hg hi).1, bo_s]
      exact ⟨_, rfl, rfl, hR⟩
theorem op_as (n : Nat) (σ : St) (τ : SR) (a1 a2 : Int32) (hn : n < 512) (h : Rel n σ τ) : ∃ r : Int32, f_X9_as σ a1 a2 = some r ∧ f_X10_as τ a1 a2 = some r ∧ Rel (n + 1) σ τ := by
  have hR := Rel_up n σ τ h
  obtain ⟨q, cs, wa, pg, kp, hg, hc, hr⟩ := h
  unfold f_X9_as f_X10_as
  rw [isWit9 (CR_n hc), isWit10 hr.1, bo_s, bo_s]
  rcases iw_or (GD_n hg) a1 with h1 | ⟨h1, i, hi, rfl⟩
  · rw [h1, if_pos rfl, if_pos rfl]; exact ⟨_, rfl, rfl, hR⟩
  · have hl := GD_n hg
    rw [h1, if_neg one0, if_neg one0, within9, within10, bo_s, bo_s]
    by_cases h2 : wi a2 0 4 = 0
    · rw [if_pos h2, if_pos h2]; exact ⟨_, rfl, rfl, hR⟩
    · rw [if_neg h2, if_neg h2, gd_t _ (inb_nI (by omega) (by omega)), gd_t _ (inb_nI (by omega) (by omega)), nI_clamp (by omega)]
      unfold f_X7_isSuch bv
      dsimp only
      rw [(CR_wit hc hi).1, (RR_wit hr hi).1]
      by_cases e1 : a2 = 0
      · rw [if_pos e1, if_pos e1, bo_s, if_neg one0]; exact ⟨_, rfl, rfl, hR⟩
      · rw [if_neg e1, if_neg e1]
        by_cases e2 : a2 = (q.1[i]).1
        · rw [if_pos e2, if_pos e2.symm, bo_s, if_neg one0]; exact ⟨_, rfl, rfl, hR⟩
        · rw [if_neg e2, if_neg (c := (q.1[i]).1 = a2) (fun e => e2 e.symm)]
          by_cases e3 : a2 = 3
          · rw [if_pos e3, if_pos e3]
            by_cases e4 : (q.1[i]).1 = 4
            · rw [if_pos e4, if_pos e4, bo_s, if_neg one0]; exact ⟨_, rfl, rfl, hR⟩
            · rw [if_neg e4, if_neg e4, bo_s, if_pos rfl]; exact ⟨_, rfl, rfl, hR⟩
          · rw [if_neg e3, if_neg e3, bo_s, if_pos rfl]; exact ⟨_, rfl, rfl, hR⟩
-- ===== having =====
def cntH (ws : List Wt) (x : Int32) : Int32 := ws.foldl (fun a w => if x ∈ w.2 then a + 1 else a) 0
theorem cntH_app (l : List Wt) (w : Wt) (x : Int32) : cntH (l ++ [w]) x = if x ∈ w.2 then cntH l x + 1 else cntH l x := by
  simp [cntH, List.foldl_append]
theorem havingSight_s {σ : St} {b : Nat} {ws : List Wt} {x : Int32} (h : HallC σ b ws) (hw : WFs ws) : f_X1_havingSight b σ x = some (cntH ws x) := by
  have hl := hw.1
  obtain ⟨y, hx, hv⟩ := lp_up0 (body := fun (s1 : Int32 × Int32) => b_X1_havingSight_4 b σ x s1.1 s1.2) (s := (0, 0)) (fun y => y = cntH ws x) (fun j s => s = (cntH (ws.take j) x, nI j)) ws.length (by omega) rfl
    (fun j s hj hI => by
      subst hI
      refine Or.inl ⟨(cntH (ws.take (j + 1)) x, nI (j + 1)), ?_, rfl⟩
      dsimp only
      unfold b_X1_havingSight_4
      rw [h.1, if_neg (nI_ge hj (by omega)), gd_t _ (inb_nI (by omega) (by omega)), nI_clamp (by omega), hasSight_s (h.2 j _ (List.getElem?_eq_getElem hj)) (hw.2 _ (List.getElem_mem hj)).1, bo_s, take_succ' _ _ hj, cntH_app]
      simp only [bv, nI_1]
      by_cases hc : x ∈ (ws[j]).2
      · rw [if_pos hc, if_neg one0, if_pos hc]
      · rw [if_neg hc, if_pos rfl, if_neg hc])
    (fun s hI => by
      subst hI
      refine ⟨_, ?_, rfl⟩
      dsimp only
      unfold b_X1_havingSight_4
      rw [h.1, if_pos (nI_le (Nat.le_refl _) (by omega)), List.take_length])
  unfold f_X1_havingSight
  rw [hx, bo_s, hv]
theorem having10_s {τ : SR} {q : AK} {cs : List (Int32 × Int32)} {wa : Nat} {pg : List Int32} {kp : Option AK} (hr : RR τ q cs wa pg kp) (hw : WFs q.1) (a1 a2 : Int32) : ∃ y, lp (fun (s4 : Int32 × Int32) => b_X10_having_26 τ a1 a2 s4.1 s4.2) 5000 (0, 0) = some y ∧ y = cntH q.1 (4 * a1 + a2) := by
  have hl := hw.1
  exact lp_up0 (body := fun (s4 : Int32 × Int32) => b_X10_having_26 τ a1 a2 s4.1 s4.2) (s := (0, 0)) (fun y => y = cntH q.1 (4 * a1 + a2)) (fun j s => s = (cntH (q.1.take j) (4 * a1 + a2), nI j)) q.1.length (by omega) rfl
    (fun j s hj hI => by
      subst hI
      refine Or.inl ⟨(cntH (q.1.take (j + 1)) (4 * a1 + a2), nI (j + 1)), ?_, rfl⟩
      dsimp only
      unfold b_X10_having_26
      rw [hr.1, if_neg (nI_ge hj (by omega)), has10_s (by omega) (RR_wit hr hj).2 (hw.2 _ (List.getElem_mem hj)).1, bo_s, take_succ' _ _ hj, cntH_app]
      simp only [bv, nI_1, i_add0]
      by_cases hc : (4 * a1 + a2) ∈ (q.1[j]).2
      · rw [if_pos hc, if_neg one0, if_pos hc]
      · rw [if_neg hc, if_pos rfl, if_neg hc])
    (fun s hI => by
      subst hI
      refine ⟨_, ?_, rfl⟩
      dsimp only
      unfold b_X10_having_26
      rw [hr.1, if_pos (nI_le (Nat.le_refl _) (by omega)), List.take_length])
theorem op_having (n : Nat) (σ : St) (τ : SR) (a1 a2 : Int32) (hn : n < 512) (h : Rel n σ τ) : ∃ r : Int32, f_X9_having σ a1 a2 = some r ∧ f_X10_having τ a1 a2 = some r ∧ Rel (n + 1) σ τ := by
  have hR := Rel_up n σ τ h
  obtain ⟨q, cs, wa, pg, kp, hg, hc, hr⟩ := h
  unfold f_X9_having f_X10_having
  rw [isThing9, isSight10, bo_s, bo_s]
  by_cases h1 : wi a1 0 5 = 0
  · rw [if_pos h1, if_pos h1, if_pos rfl]; exact ⟨_, rfl, rfl, hR⟩
  · rw [if_neg h1, if_neg h1, isColour9, bo_s]
    by_cases h2 : wi a2 0 3 = 0
    · rw [if_pos h2, if_pos h2]; exact ⟨_, rfl, rfl, hR⟩
    · rw [if_neg h2, if_neg h2, hasWall9 (GD_n hg) (CR_n hc), bo_s]
      by_cases h3 : q.1.length = 0
      · rw [if_pos h3, if_pos rfl, if_pos ((wa0 (by have := hg.2.2.2.1; omega) hr.2.2.2.2.2.2.1).mpr (hg.2.2.2.2.1.mpr h3))]
        exact ⟨_, rfl, rfl, hR⟩
      · rw [if_neg h3, if_neg one0, if_neg (fun e => h3 (hg.2.2.2.2.1.mp ((wa0 (by have := hg.2.2.2.1; omega) hr.2.2.2.2.2.2.1).mp e))), havingSight_s hc.1.1 hg.1.1, bo_s]
        obtain ⟨y, hy, hv⟩ := having10_s hr hg.1.1 a1 a2
        rw [hy, bo_s, hv, Int32.mul_comm]
        exact ⟨_, rfl, rfl, hR⟩

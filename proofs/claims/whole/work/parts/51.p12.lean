/-! the pure side, 12: witness -/
def mkN (x : T3) : Nat := (lvs x).toBitVec.toNat
theorem lvs_dec : ∀ w, w < 4 → ∀ c, c < 2 → (lvs (0, nI w, nI c)).toBitVec.toNat < 32 := by decide +kernel
theorem mk_dec : ∀ w, w < 4 → ∀ c, c < 2 → ∀ m, m < 32 → nI m &&& lvs (0, nI w, nI c) = nI (m &&& (lvs (0, nI w, nI c)).toBitVec.toNat) := by decide +kernel
theorem could_dec : ∀ k, k < 5 → ∀ w, w < 4 → ∀ c, c < 2 → ((f_X10_could (nI k) (nI w) = some (if ((lvs (0, nI w, nI c)).toBitVec.toNat).testBit k = true then nI c else 1 - nI c))) := by decide +kernel
theorem lvs_0 (x : T3) : lvs x = lvs (0, x.2.1, x.2.2) := rfl
def sN (l : List T3) (i : Int32) : Nat := l.foldl (fun a x => if x.1 = i then a &&& mkN x else a) 31
theorem sN_app (l : List T3) (x : T3) (i : Int32) : sN (l ++ [x]) i = if x.1 = i then sN l i &&& mkN x else sN l i := by simp [sN, List.foldl_append]
theorem sN_lt (l : List T3) (i : Int32) : sN l i < 32 := by
  unfold sN
  have : ∀ (l : List T3) (a : Nat), a < 32 → l.foldl (fun a x => if x.1 = i then a &&& mkN x else a) a < 32 := by
    intro l
    induction l with
    | nil => exact fun a h => h
    | cons x l ih =>
      intro a ha
      rw [List.foldl_cons]
      apply ih
      split
      · exact Nat.lt_of_le_of_lt Nat.and_le_left ha
      · exact ha
  exact this l 31 (by decide)
theorem WFe_at {n : Nat} {l : List T3} (h : WFe n l) {j : Nat} (hj : j < l.length) : ∃ i w c : Nat, i < n ∧ w < 4 ∧ c < 2 ∧ l[j] = (nI i, nI w, nI c) := by
  obtain ⟨⟨i, hi, e1⟩, ⟨w, hw, e2⟩, e3⟩ := h.2 _ (List.getElem_mem hj)
  rcases e3 with e3 | e3
  · exact ⟨i, w, 0, hi, hw, by omega, Prod.ext e1 (Prod.ext e2 e3)⟩
  · exact ⟨i, w, 1, hi, hw, by omega, Prod.ext e1 (Prod.ext e2 e3)⟩
theorem sortsOf_s {σ : St} {k n : Nat} {l : List T3} {i : Int32} (h : SeeC σ k l) (hw : WFe n l) : f_X4_sortsOf k σ i = some (nI (sN l i)) := by
  have hl := hw.1
  unfold f_X4_sortsOf
  rw [lp_runs (body := fun (s1 : Int32 × Int32) => b_X4_sortsOf_5 k σ i s1.1 s1.2) (31, 0) (fun j => (nI (sN (l.take j) i), nI j)) (nI (sN l i)) l.length rfl (by omega) (fun j hj => ?_) ?_, bo_s]
  rotate_left
  · dsimp only
    obtain ⟨a, w, c, h1, h2, h3, e⟩ := WFe_at hw hj
    have hr := h.2 j _ (List.getElem?_eq_getElem hj)
    unfold b_X4_sortsOf_5
    rw [h.1, if_neg (nI_ge hj (by omega)), gd_t _ (inb_nI (by omega) (by decide)), gd_t _ (inb_nI (by omega) (by decide)), nI_clamp (by omega), hr.1, hr.2, take_succ' _ _ hj, sN_app]
    simp only [bv, nI_1]
    rw [e]
    by_cases ei : nI a = i
    · rw [if_pos ei, if_pos ei]
      have := mk_dec w h2 c h3 (sN (l.take j) i) (sN_lt _ _)
      rw [lvs_0, this]
      rfl
    · rw [if_neg ei, if_neg ei]
  · dsimp only
    unfold b_X4_sortsOf_5
    rw [h.1, if_pos (nI_le (Nat.le_refl _) (by omega)), List.take_length]
theorem b2_dec : ∀ m, m < 32 → ∀ k, k < 5 → (if m.testBit k = true then (nI (m % 2 ^ k)) ||| ((1 : Int32) <<< (nI k &&& 31)) else nI (m % 2 ^ k) ||| 0) = nI (m % 2 ^ (k + 1)) := by decide +kernel
theorem b3_dec : ∀ m, m < 32 → m % 2 ^ 5 = m := by decide +kernel
theorem t_dec : ∀ k, k < 5 → (31).testBit k = true := by decide +kernel
theorem cq_dec : ∀ c, c < 2 → (if nI c = 1 then some (1 : Int32) else some 0) = some (nI c) ∧ ¬ (1 - nI c = nI c) := by decide +kernel
theorem sortsOfR {τ : SR} {n : Nat} {l : List T3} {i : Int32} (h : Row3 (ri τ 9) (ri τ 10) (ri τ 11) (ri τ 0 13) l) (hw : WFe n l) : f_X10_sortsOf τ i = some (nI (sN l i)) := by
  have hl := hw.1
  have inner : ∀ k, k < 5 → lp (fun (s7 : Int32 × Int32) => b_X10_sortsOf_15 τ i (nI k) s7.1 s7.2) 5000 (1, 0) = some (if (sN l i).testBit k = true then 1 else 0) := by
    intro k hk
    rw [lp_runs (body := fun (s7 : Int32 × Int32) => b_X10_sortsOf_15 τ i (nI k) s7.1 s7.2) (1, 0) (fun j => ((if (sN (l.take j) i).testBit k = true then 1 else 0), nI j)) (if (sN l i).testBit k = true then 1 else 0) l.length (by rw [if_pos (show (sN (l.take 0) i).testBit k = true from t_dec k hk)]; rfl) (by omega) (fun j hj => ?_) ?_]
    rotate_left
    · dsimp only
      obtain ⟨a, w, c, h1, h2, h3, e⟩ := WFe_at hw hj
      have hr := h.2 j _ (List.getElem?_eq_getElem hj)
      unfold b_X10_sortsOf_15
      rw [h.1, if_neg (nI_ge hj (by omega)), gd_t _ (inb_nI (by omega) (by decide)), gd_t _ (inb_nI (by omega) (by decide)), nI_clamp (by omega), hr.1, hr.2.1, hr.2.2, e]
      dsimp only
      rw [could_dec k hk w h2 c h3, (cq_dec c h3).1, bo_s, gd_t _ (inb_nI (by omega) (by decide)), bo_s, take_succ' _ _ hj, sN_app, e]
      simp only [bv, nI_1]
      by_cases et : (sN (l.take j) i).testBit k = true
      · rw [if_pos et, if_neg one0]
        by_cases ei : nI a = i
        · rw [if_pos ei, if_pos ei, Nat.testBit_and, et, Bool.true_and]
          have e9 : mkN (nI a, nI w, nI c) = (lvs (0, nI w, nI c)).toBitVec.toNat := rfl
          rw [e9]
          by_cases em : (lvs (0, nI w, nI c)).toBitVec.toNat.testBit k = true
          · rw [if_pos em, if_pos em, if_pos rfl]
          · rw [if_neg em, if_neg em, if_neg (cq_dec c h3).2]
        · rw [if_neg ei, if_neg ei, if_pos et]
      · rw [if_neg et, if_pos rfl]
        by_cases ei : nI a = i
        · rw [if_pos ei, Nat.testBit_and, if_neg (fun z => et (by rw [Bool.and_eq_true] at z; exact z.1))]
        · rw [if_neg ei, if_neg et]
    · dsimp only
      unfold b_X10_sortsOf_15
      rw [h.1, if_pos (nI_le (Nat.le_refl _) (by omega)), List.take_length]
  unfold f_X10_sortsOf
  rw [lp_runs (body := fun (s1 : Int32 × Int32) => b_X10_sortsOf_4 τ i s1.1 s1.2) (0, 0) (fun k => (nI (sN l i % 2 ^ k), nI k)) (nI (sN l i)) 5 (by rw [Nat.pow_zero, Nat.mod_one]; rfl) (by decide) (fun k hk => ?_) ?_, bo_s]
  rotate_left
  · dsimp only
    unfold b_X10_sortsOf_4
    rw [if_neg (show ¬ 4 < nI k from nI_nlt (b := k) (a := 4) (by omega) (by decide)), inner k hk, bo_s, ← b2_dec _ (sN_lt l i) k hk]
    simp only [bv, nI_1]
    by_cases et : (sN l i).testBit k = true
    · rw [if_pos et, if_neg one0, if_pos et]
    · rw [if_neg et, if_pos rfl, if_neg et]
  · dsimp only
    unfold b_X10_sortsOf_4
    rw [if_pos (by decide), b3_dec _ (sN_lt l i)]
def cAsk (r1 : Int32) : Option Int32 := bo (lp (fun (s2 : Int32 × Int32 × Int32) => b_X4_askFor_15 r1 s2.1 s2.2.1 s2.2.2) 5000 ((-1), 6, 0)) (fun (x3 : Int32) => if r1 = 0 then (some (-1)) else (some x3))
def rAsk (r1 : Int32) : Option Int32 := bo (lp (fun (s2 : Int32 × Int32 × Int32) => b_X10_askOf_15 r1 s2.1 s2.2.1 s2.2.2) 5000 ((-1), 268435456, 0)) (fun (x3 : Int32) => some x3)
theorem ask_dec : ∀ m, m < 32 → cAsk (nI m) = rAsk (nI m) ∧ (rAsk (nI m)).isSome = true := by decide +kernel
theorem witNow_s {σ : St} {τ : SR} {q : AK} {cs : List (Int32 × Int32)} {wa n : Nat} {pg : List Int32} {kp : Option AK} (hg : GD n q cs wa pg kp) (hc : CR σ q cs wa pg kp) (hr : RR τ q cs wa pg kp) {i : Nat} (hi : i < q.1.length) (b : Nat) (hb : b < 8) : ∃ r : Int32, f_X9_witness σ (nI i) (nI b) = some r ∧ f_X10_witnessNow τ (nI i) (nI b) = some r := by
  have hl := GD_n hg
  have w1 := CR_wit hc hi
  have w2 := RR_wit hr hi
  have w3 := GD_w hg hi
  have hwi : f_X9_isWitness σ (nI i) = some 1 := by
    rw [isWit9 (CR_n hc)]
    unfold iw wi
    rw [if_neg (nI_pos (by omega)), if_neg]
    obtain ⟨m, hm⟩ : ∃ m, q.1.length = m + 1 := ⟨q.1.length - 1, by omega⟩
    rw [hm, nI_m1]
    exact nI_nlt (by omega) (by omega)
  have sight : ∀ p, p < 3 → (f_X7_sightAt (26 + 2 * i) σ (nI p) = some (if p < (q.1[i]).2.length then ((q.1[i]).2[p]?).getD 0 else -1)) ∧ (if (ri τ 3 i) ≤ (nI p) then (some (-1)) else (gd (inb (nI (4 * i + p)) 20) (some (ri τ 2 (4 * i + p))))) = some (if p < (q.1[i]).2.length then ((q.1[i]).2[p]?).getD 0 else -1) := by
    intro p hp
    have h3 := w3.1
    unfold f_X7_sightAt
    rw [if_neg (nI_pos (by omega)), w1.2.1, w2.2.1]
    by_cases hpl : p < (q.1[i]).2.length
    · rw [if_neg (nI_ge hpl (by omega)), if_neg (nI_ge hpl (by omega)), gd_t _ (inb_nI hp (by decide)), gd_t _ (inb_nI (by omega) (by decide)), nI_clamp (by omega), if_pos hpl, w1.2.at hpl, RowR.at w2.2 hpl, List.getElem?_eq_getElem hpl]
      exact ⟨rfl, rfl⟩
    · rw [if_pos (nI_le (by omega) (by omega)), if_pos (nI_le (by omega) (by omega)), if_neg hpl]
      exact ⟨rfl, rfl⟩
  unfold f_X9_witness
  rw [hwi, bo_s, if_neg one0, gd_t _ (inb_nI (by omega) (by decide)), nI_clamp (by omega)]
  unfold f_X10_witnessNow
  rw [nI_clamp (show i < 2 ^ 31 by omega)]
  simp only [gd_t _ (inb_nI (show i < 5 by omega) (show 5 < 2 ^ 31 by decide))]
  rcases (by omega : b = 0 ∨ b = 1 ∨ b = 2 ∨ b = 3 ∨ b = 4 ∨ b = 5 ∨ b = 6 ∨ b = 7) with rfl | rfl | rfl | rfl | rfl | rfl | rfl | rfl
  · rw [if_pos (by decide), if_pos (by decide), w1.1, w2.1]; exact ⟨_, rfl, rfl⟩
  · rw [if_neg (by decide), if_pos (by decide), if_neg (by decide), if_pos (by decide), w1.2.1, w2.2.1]; exact ⟨_, rfl, rfl⟩
  · iterate 2 rw [if_neg (show ¬ nI 2 = 0 by decide), if_neg (show ¬ nI 2 = 1 by decide), if_pos (show nI 2 = 2 from rfl)]
    obtain ⟨s1, s2⟩ := sight 0 (by decide)
    have e1 : nI 2 - 2 = nI 0 := by decide
    have e2 : (4 * nI i + nI 2 - 2 : Int32) = nI (4 * i + 0) := by rw [m4]; exact pk_sub (a := 4 * i + 2) (b := 2) (by omega)
    rw [e1, e2, nI_clamp (by omega), s1, s2]
    exact ⟨_, rfl, rfl⟩
  · iterate 2 rw [if_neg (show ¬ nI 3 = 0 by decide), if_neg (show ¬ nI 3 = 1 by decide), if_neg (show ¬ nI 3 = 2 by decide), if_pos (show nI 3 = 3 from rfl)]
    obtain ⟨s1, s2⟩ := sight 1 (by decide)
    have e1 : nI 3 - 2 = nI 1 := by decide
    have e2 : (4 * nI i + nI 3 - 2 : Int32) = nI (4 * i + 1) := by rw [m4]; exact pk_sub (a := 4 * i + 3) (b := 2) (by omega)
    rw [e1, e2, nI_clamp (by omega), s1, s2]
    exact ⟨_, rfl, rfl⟩
  · iterate 2 rw [if_neg (show ¬ nI 4 = 0 by decide), if_neg (show ¬ nI 4 = 1 by decide), if_neg (show ¬ nI 4 = 2 by decide), if_neg (show ¬ nI 4 = 3 by decide), if_pos (show nI 4 = 4 from rfl)]
    obtain ⟨s1, s2⟩ := sight 2 (by decide)
    have e1 : nI 4 - 2 = nI 2 := by decide
    have e2 : (4 * nI i + nI 4 - 2 : Int32) = nI (4 * i + 2) := by rw [m4]; exact pk_sub (a := 4 * i + 4) (b := 2) (by omega)
    rw [e1, e2, nI_clamp (by omega), s1, s2]
    exact ⟨_, rfl, rfl⟩
  · iterate 2 rw [if_neg (show ¬ nI 5 = 0 by decide), if_neg (show ¬ nI 5 = 1 by decide), if_neg (show ¬ nI 5 = 2 by decide), if_neg (show ¬ nI 5 = 3 by decide), if_neg (show ¬ nI 5 = 4 by decide), if_pos (show nI 5 = 5 from rfl)]
    rw [sortsOf_s hc.1.2.2.1 hg.1.2.2.2.1, sortsOfR hr.2.2.2.1 hg.1.2.2.2.1]
    exact ⟨_, rfl, rfl⟩
  · iterate 2 rw [if_neg (show ¬ nI 6 = 0 by decide), if_neg (show ¬ nI 6 = 1 by decide), if_neg (show ¬ nI 6 = 2 by decide), if_neg (show ¬ nI 6 = 3 by decide), if_neg (show ¬ nI 6 = 4 by decide), if_neg (show ¬ nI 6 = 5 by decide), if_pos (show nI 6 = 6 from rfl)]
    have e1 : f_X4_askFor 40 σ (nI i) = cAsk (nI (sN q.2.2.1 (nI i))) := by
      unfold f_X4_askFor
      rw [sortsOf_s hc.1.2.2.1 hg.1.2.2.2.1, bo_s]
      rfl
    have e2 : f_X10_askOf τ (nI i) = rAsk (nI (sN q.2.2.1 (nI i))) := by
      unfold f_X10_askOf
      rw [sortsOfR hr.2.2.2.1 hg.1.2.2.2.1, bo_s]
      rfl
    obtain ⟨d1, d2⟩ := ask_dec _ (sN_lt q.2.2.1 (nI i))
    rw [e1, e2, d1]
    cases hv : rAsk (nI (sN q.2.2.1 (nI i))) with
    | none => rw [hv] at d2; cases d2
    | some v => exact ⟨v, rfl, rfl⟩
  · iterate 2 rw [if_neg (show ¬ nI 7 = 0 by decide), if_neg (show ¬ nI 7 = 1 by decide), if_neg (show ¬ nI 7 = 2 by decide), if_neg (show ¬ nI 7 = 3 by decide), if_neg (show ¬ nI 7 = 4 by decide), if_neg (show ¬ nI 7 = 5 by decide), if_neg (show ¬ nI 7 = 6 by decide), if_pos (show nI 7 = 7 from rfl)]
    rw [clashesOf_s hc.1.1 hg.1.1 hi, clashesOfR (RR_h hr) hg.1.1 hi]
    generalize sm (cl q.1 i) q.1.length = r
    exact ⟨r, rfl, rfl⟩
theorem wi8 : ∀ b, b < 8 → ¬ wi (nI b) 0 7 = 0 := by decide +kernel
theorem op_witness (n : Nat) (σ : St) (τ : SR) (a1 a2 : Int32) (hn : n < 512) (h : Rel n σ τ) : ∃ r : Int32, f_X9_witness σ a1 a2 = some r ∧ f_X10_witness τ a1 a2 = some r ∧ Rel (n + 1) σ τ := by
  have hR := Rel_up n σ τ h
  obtain ⟨q, cs, wa, pg, kp, hg, hc, hr⟩ := h
  have hl := GD_n hg
  rcases iw_or (GD_n hg) a1 with h1 | ⟨h1, i, hi, rfl⟩
  · unfold f_X9_witness f_X10_witness
    rw [isWit9 (CR_n hc), isWit10 hr.1, bo_s, bo_s, h1, if_pos rfl, if_pos rfl]; exact ⟨_, rfl, rfl, hR⟩
  rcases wi_or a2 0 7 with h2 | ⟨h2, b1, b2⟩
  · unfold f_X9_witness f_X10_witness
    rw [isWit9 (CR_n hc), isWit10 hr.1, bo_s, bo_s, h1, if_neg one0, if_neg one0, within10, bo_s, h2, if_pos rfl, gd_t _ (inb_nI (by omega) (by decide))]
    have ne : ∀ b, b < 8 → ¬ a2 = nI b := by
      intro b hb e
      rw [e] at h2
      exact wi8 b hb h2
    rw [if_neg (show ¬ a2 = 0 from ne 0 (by decide)), if_neg (show ¬ a2 = 1 from ne 1 (by decide)), if_neg (show ¬ a2 = 2 from ne 2 (by decide)), if_neg (show ¬ a2 = 3 from ne 3 (by decide)), if_neg (show ¬ a2 = 4 from ne 4 (by decide)), if_neg (show ¬ a2 = 5 from ne 5 (by decide)), if_neg (show ¬ a2 = 6 from ne 6 (by decide)), if_neg (show ¬ a2 = 7 from ne 7 (by decide))]
    exact ⟨_, rfl, rfl, hR⟩
  · obtain ⟨b, hb, rfl⟩ := wi_nat (m := 7) (by decide) b1 b2
    obtain ⟨r, e1, e2⟩ := witNow_s hg hc hr hi b (by omega)
    refine ⟨r, e1, ?_, hR⟩
    unfold f_X10_witness
    rw [isWit10 hr.1, bo_s, h1, if_neg one0, within10, bo_s, h2, if_neg one0, e2]
    rfl

/-! the pure side, 11: bits; count -/
theorem sh_dec : ∀ x, x < 32 → ((nI x &&& 31).toBitVec.smod 32).toNat = x := by decide +kernel
theorem bit_get (B : Int32) {x : Nat} (hx : x < 31) : (B >>> (nI x &&& 31)) &&& 1 = if B.toBitVec.getLsbD x then 1 else 0 := by
  apply Int32.toBitVec_inj.mp
  rw [Int32.toBitVec_and, Int32.toBitVec_shiftRight, BitVec.sshiftRight', sh_dec x (by omega)]
  have e : (1 : Int32).toBitVec = 1#32 := rfl
  rw [e, BitVec.and_one_eq_setWidth_ofBool_getLsbD, BitVec.getLsbD_sshiftRight]
  simp only [Nat.add_zero]
  have h32 : x < 32 := by omega
  have h31 : ¬ 32 ≤ x := by omega
  cases B.toBitVec.getLsbD x
  · simp [h32, h31]
  · simp [h32, h31]
theorem bt_iff (B : Int32) {x : Nat} (hx : x < 31) : bt B x ↔ B.toBitVec.getLsbD x = true := by
  unfold bt
  rw [bit_get B hx]
  cases B.toBitVec.getLsbD x
  · exact ⟨fun h => absurd h (by decide), fun h => absurd h (by decide)⟩
  · exact ⟨fun _ => rfl, fun _ => rfl⟩
theorem one_get : ∀ a, a < 31 → ∀ x, x < 31 → ((1 : Int32) <<< (nI a &&& 31)).toBitVec.getLsbD x = decide (x = a) := by decide +kernel
theorem or_get (B C : Int32) (x : Nat) : (B ||| C).toBitVec.getLsbD x = (B.toBitVec.getLsbD x || C.toBitVec.getLsbD x) := by
  rw [Int32.toBitVec_or, BitVec.getLsbD_or]
theorem size_s (B : Int32) : f_X10_size B = some (sm (fun x => if B.toBitVec.getLsbD x then 1 else 0) 24) := by
  unfold f_X10_size
  rw [lp_runs (body := fun (s1 : Int32 × Int32) => b_X10_size_4 B s1.1 s1.2) (0, 0) (fun x => (sm (fun x => if B.toBitVec.getLsbD x then 1 else 0) x, nI x)) (sm (fun x => if B.toBitVec.getLsbD x then 1 else 0) 24) 24 rfl (by decide) (fun x hx => ?_) ?_, bo_s]
  rotate_left
  · dsimp only
    unfold b_X10_size_4
    rw [if_neg (show ¬ 24 ≤ nI x from nI_ge (b := 24) hx (by decide)), bit_get B (by omega)]
    simp only [bv, nI_1]
    rfl
  · dsimp only
    unfold b_X10_size_4
    rw [if_pos (by decide)]
-- how many unlike sights
def BO (B : Int32) (L : List Int32) : Prop := ∀ x, x < 24 → B.toBitVec.getLsbD x = decide (nI x ∈ L)
theorem BO_push {B : Int32} {L : List Int32} {a : Nat} (ha : a < 24) (h : BO B L) : BO (B ||| ((1 : Int32) <<< (nI a &&& 31))) (L ++ [nI a]) := by
  intro x hx
  rw [or_get, h x hx, one_get a (by omega) x (by omega)]
  rw [Bool.eq_iff_iff]
  simp only [Bool.or_eq_true, decide_eq_true_eq, List.mem_append, List.mem_singleton, nI_eq (show x < 2 ^ 31 by omega) (show a < 2 ^ 31 by omega)]
def fl (ws : List Wt) : List Int32 := ws.flatMap (fun w => w.2)
theorem fl_app' (ws : List Wt) (w : Wt) : fl (ws ++ [w]) = fl ws ++ w.2 := by simp [fl]
theorem sights_s {τ : SR} {ws : List Wt} (h : HR τ ws) (hw : WFs ws) : ∃ B, lp (fun (s1 : Int32 × Int32) => b_X10_sightsOfAll_4 τ s1.1 s1.2) 5000 (0, 0) = some B ∧ BO B (fl ws) := by
  have hl := hw.1
  have inner : ∀ (i : Nat) (hi : i < ws.length) (B : Int32) (L : List Int32), BO B L → ∃ B', lp (fun (s7 : Int32 × Int32) => b_X10_sightsOfAll_14 τ (nI i) s7.1 s7.2) 5000 (B, 0) = some B' ∧ BO B' (L ++ (ws[i]).2) := by
    intro i hi B L hB
    have hr := (HR_wit h hi).2
    have h3 := (WFs_w hw hi).1
    refine lp_up0 (body := fun (s7 : Int32 × Int32) => b_X10_sightsOfAll_14 τ (nI i) s7.1 s7.2) (s := (B, 0)) (fun B' => BO B' (L ++ (ws[i]).2)) (fun j s => s.2 = nI j ∧ BO s.1 (L ++ (ws[i]).2.take j)) (ws[i]).2.length (by omega) ⟨rfl, by simpa using hB⟩ (fun j s hj hI => ?_) (fun s hI => ?_)
    · obtain ⟨c, d⟩ := s
      obtain ⟨rfl, g1⟩ := hI
      dsimp only at g1
      obtain ⟨a, ha, ea⟩ := okS_nat ((WFs_w hw hi).2.2.1 _ (List.getElem_mem hj))
      refine Or.inl ⟨(c ||| ((1 : Int32) <<< (nI a &&& 31)), nI (j + 1)), ?_, rfl, ?_⟩
      · dsimp only
        unfold b_X10_sightsOfAll_14
        rw [gd_t _ (inb_nI (by omega) (by decide)), nI_clamp (by omega), hr.1, if_neg (nI_ge hj (by omega)), m4, gd_t _ (inb_nI (by omega) (by decide)), nI_clamp (by omega), RowR.at hr hj, ea]
        simp only [bv, nI_1]
      · show BO _ _
        rw [take_succ' _ _ hj, ← List.append_assoc, ea]
        exact BO_push ha g1
    · obtain ⟨c, d⟩ := s
      obtain ⟨rfl, g1⟩ := hI
      dsimp only at g1
      rw [List.take_length] at g1
      refine ⟨c, ?_, g1⟩
      dsimp only
      unfold b_X10_sightsOfAll_14
      rw [gd_t _ (inb_nI (by omega) (by decide)), nI_clamp (by omega), hr.1, if_pos (nI_le (Nat.le_refl _) (by omega))]
  refine lp_up0 (body := fun (s1 : Int32 × Int32) => b_X10_sightsOfAll_4 τ s1.1 s1.2) (s := (0, 0)) (fun B => BO B (fl ws)) (fun i s => s.2 = nI i ∧ BO s.1 (fl (ws.take i))) ws.length (by omega) ⟨rfl, fun x hx => by simp [fl]⟩ (fun i s hi hI => ?_) (fun s hI => ?_)
  · obtain ⟨c, d⟩ := s
    obtain ⟨rfl, g1⟩ := hI
    dsimp only at g1
    obtain ⟨B', e1, e2⟩ := inner i hi c _ g1
    refine Or.inl ⟨(B', nI (i + 1)), ?_, rfl, ?_⟩
    · dsimp only
      unfold b_X10_sightsOfAll_4
      rw [h.1, if_neg (nI_ge hi (by omega)), e1, bo_s]
      simp only [bv, nI_1]
    · show BO B' _
      rw [take_succ' _ _ hi, fl_app']
      exact e2
  · obtain ⟨c, d⟩ := s
    obtain ⟨rfl, g1⟩ := hI
    dsimp only at g1
    rw [List.take_length] at g1
    refine ⟨c, ?_, g1⟩
    dsimp only
    unfold b_X10_sightsOfAll_4
    rw [h.1, if_pos (nI_le (Nat.le_refl _) (by omega))]
theorem cntH_n (ws : List Wt) (x : Int32) : ∀ a : Nat, ws.foldl (fun a w => if x ∈ w.2 then a + 1 else a) (nI a) = nI (a + (ws.filter (fun w => decide (x ∈ w.2))).length) := by
  induction ws with
  | nil => intro a; rfl
  | cons w ws ih =>
    intro a
    rw [List.foldl_cons, List.filter_cons]
    by_cases hx : x ∈ w.2
    · rw [if_pos hx, nI_1, ih, if_pos (by simp [hx]), List.length_cons, show a + 1 + (ws.filter (fun w => decide (x ∈ w.2))).length = a + ((ws.filter (fun w => decide (x ∈ w.2))).length + 1) by omega]
    · rw [if_neg hx, ih, if_neg (by simp [hx])]
theorem cntH_0 {ws : List Wt} (hl : ws.length ≤ 5) (x : Int32) : cntH ws x ≤ 0 ↔ ¬ x ∈ fl ws := by
  have e := cntH_n ws x 0
  have e2 : cntH ws x = nI ((ws.filter (fun w => decide (x ∈ w.2))).length) := by
    unfold cntH
    rw [show (0 : Int32) = nI 0 from rfl, e, Nat.zero_add]
  have h5 : (ws.filter (fun w => decide (x ∈ w.2))).length ≤ ws.length := List.length_filter_le _ _
  rw [e2, show (0 : Int32) = nI 0 from rfl, nI_leI (by omega) (by omega)]
  unfold fl
  rw [List.mem_flatMap]
  constructor
  · intro h0 ⟨w, hw1, hw2⟩
    have : w ∈ ws.filter (fun w => decide (x ∈ w.2)) := List.mem_filter.mpr ⟨hw1, by simp [hw2]⟩
    have := List.length_pos_of_mem this
    omega
  · intro h0
    have : ws.filter (fun w => decide (x ∈ w.2)) = [] := by
      rw [List.filter_eq_nil_iff]
      intro w hw1 hw2
      exact h0 ⟨w, hw1, by simpa using hw2⟩
    rw [this]
    simp
theorem unlike_s {σ : St} {k : Nat} {ws : List Wt} (h : HallC σ k ws) (hw : WFs ws) : f_X1_unlikeSights k σ = some (sm (fun x => if nI x ∈ fl ws then 1 else 0) 24) := by
  have hl := hw.1
  unfold f_X1_unlikeSights
  rw [lp_runs (body := fun (s1 : Int32 × Int32) => b_X1_unlikeSights_4 k σ s1.1 s1.2) (0, 0) (fun x => (sm (fun x => if nI x ∈ fl ws then 1 else 0) x, nI x)) (sm (fun x => if nI x ∈ fl ws then 1 else 0) 24) 24 rfl (by decide) (fun x hx => ?_) ?_, bo_s]
  rotate_left
  · dsimp only
    unfold b_X1_unlikeSights_4
    rw [if_neg (show ¬ 24 ≤ nI x from nI_ge (b := 24) hx (by decide)), havingSight_s h hw, bo_s, sm]
    simp only [bv, nI_1]
    by_cases hx : nI x ∈ fl ws
    · rw [if_neg (fun z => (cntH_0 hl _).mp z hx), if_pos hx]
    · rw [if_pos ((cntH_0 hl _).mpr hx), if_neg hx, i_add0]
  · dsimp only
    unfold b_X1_unlikeSights_4
    rw [if_pos (by decide)]
theorem sightsOfAll_s {τ : SR} {ws : List Wt} (h : HR τ ws) (hw : WFs ws) : f_X10_sightsOfAll τ = some (sm (fun x => if nI x ∈ fl ws then 1 else 0) 24) := by
  obtain ⟨B, e1, e2⟩ := sights_s h hw
  have e3 : sm (fun x => if B.toBitVec.getLsbD x then 1 else 0) 24 = sm (fun x => if nI x ∈ fl ws then 1 else 0) 24 := by
    apply sm_congr
    intro x hx
    rw [e2 x hx]
    by_cases hm : nI x ∈ fl ws
    · simp [hm]
    · simp [hm]
  unfold f_X10_sightsOfAll
  rw [e1, bo_s, size_s, e3]
  generalize sm (fun x => if nI x ∈ fl ws then 1 else 0) 24 = r
  rfl
theorem howMany_s {σ : St} {τ : SR} {q : AK} {cs : List (Int32 × Int32)} {wa n : Nat} {pg : List Int32} {kp : Option AK} (hg : GD n q cs wa pg kp) (hc : CR σ q cs wa pg kp) (hr : RR τ q cs wa pg kp) (a1 : Int32) : ∃ r : Int32, f_X9_count σ a1 = some r ∧ f_X10_howMany τ a1 = some r := by
  unfold f_X9_count f_X10_howMany
  by_cases e : a1 = 0
  · rw [if_pos e, if_pos e, CR_n hc, hr.1]; exact ⟨_, rfl, rfl⟩
  rw [if_neg e, if_neg e]; clear e
  by_cases e : a1 = 1
  · rw [if_pos e, if_pos e, hc.2.1.1, hr.2.2.2.2.2.1.1]; exact ⟨_, rfl, rfl⟩
  rw [if_neg e, if_neg e]; clear e
  by_cases e : a1 = 2
  · rw [if_pos e, if_pos e, show σ 36 3 = _ from hc.1.2.1.1, hr.2.2.1.1]; exact ⟨_, rfl, rfl⟩
  rw [if_neg e, if_neg e]; clear e
  by_cases e : a1 = 3
  · rw [if_pos e, if_pos e, unlike_s hc.1.1 hg.1.1, sightsOfAll_s (RR_h hr) hg.1.1]
    generalize sm (fun x => if nI x ∈ fl q.1 then 1 else 0) 24 = r
    exact ⟨r, rfl, rfl⟩
  rw [if_neg e, if_neg e]; clear e
  by_cases e : a1 = 4
  · rw [if_pos e, if_pos e, everyone_s (CR_n hc) (GD_n hg), everybody_s hr.1 (GD_n hg), bo_s, bo_s, clashesAmong_s hc.1.1 hg.1.1, clashesAmongR (RR_h hr) hg.1.1]
    generalize ca q.1 (nI (2 ^ q.1.length - 1)) = r
    exact ⟨r, rfl, rfl⟩
  rw [if_neg e, if_neg e]; clear e
  by_cases e : a1 = 5
  · rw [if_pos e, if_pos e, show σ 22 3 = _ from hc.1.2.2.2, hr.2.2.2.2.1]; exact ⟨_, rfl, rfl⟩
  rw [if_neg e, if_neg e]; clear e
  by_cases e : a1 = 6
  · rw [if_pos e, if_pos e, show σ 40 2 = _ from hc.1.2.2.1.1, hr.2.2.2.1.1]; exact ⟨_, rfl, rfl⟩
  rw [if_neg e, if_neg e]; clear e
  by_cases e : a1 = 7
  · rw [if_pos e, if_pos e, hc.2.2.2.1.1, hr.2.2.2.2.2.2.2.1.1]; exact ⟨_, rfl, rfl⟩
  rw [if_neg e, if_neg e]; clear e
  by_cases e : a1 = 8
  · rw [if_pos e, if_pos e, hc.2.2.1, hr.2.2.2.2.2.2.1]; exact ⟨_, rfl, rfl⟩
  rw [if_neg e, if_neg e]
  exact ⟨_, rfl, rfl⟩
theorem op_count (n : Nat) (σ : St) (τ : SR) (a1 : Int32) (hn : n < 512) (h : Rel n σ τ) : ∃ r : Int32, f_X9_count σ a1 = some r ∧ f_X10_count τ a1 = some r ∧ Rel (n + 1) σ τ := by
  have hR := Rel_up n σ τ h
  obtain ⟨q, cs, wa, pg, kp, hg, hc, hr⟩ := h
  obtain ⟨r, e1, e2⟩ := howMany_s hg hc hr a1
  exact ⟨r, e1, by unfold f_X10_count; rw [e2]; rfl, hR⟩

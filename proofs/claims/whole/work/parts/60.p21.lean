/-! the pure side, 21: worlds, by the reference; odds -/
def dgc (W : Nat) (s : Int32) : Int32 := (nI W >>> ((2 * (s / 4)) &&& 31)) &&& 3
theorem dsh_dec : ∀ t, t < 6 → ((((2 : Int32) * nI t) &&& 31).toBitVec.smod 32).toNat = 2 * t := by decide +kernel
theorem dg_s {W t : Nat} (hW : W < 4096) (ht : t < 6) : (nI W >>> ((2 * nI t) &&& 31)) &&& 3 = nI (W / 4 ^ t % 4) := by
  rw [pk_shrN (by omega) _ (2 * t) (dsh_dec t ht), pk_andN (Nat.lt_of_le_of_lt (Nat.div_le_self _ _) (by omega)) 2 rfl, Nat.pow_mul]
theorem dgc_s {W a : Nat} (hW : W < 4096) (ha : a < 24) : dgc W (nI a) = nI (W / 4 ^ (a / 4) % 4) := by
  unfold dgc
  rw [div4 (by omega), dg_s hW (by omega)]
def isW (w : Wt) (W : Nat) : Bool := w.2.any (fun s => decide (¬ dgc W s = s - s / 4 * 4))
theorem isW_iff {w : Wt} {W : Nat} (hw : WFw w) (hW : W < 4096) : isW w W = true ↔ ∃ t, t < 6 ∧ oc w t (W / 4 ^ t % 4) = true := by
  unfold isW oc
  rw [List.any_eq_true]
  constructor
  · rintro ⟨s, hs, hp⟩
    obtain ⟨a, ha, rfl⟩ := okS_nat (hw.2.2.1 s hs)
    refine ⟨a / 4, by omega, ?_⟩
    rw [List.any_eq_true]
    refine ⟨nI a, hs, ?_⟩
    rw [dgc_s hW ha] at hp
    simp only [decide_eq_true_eq] at hp
    simp only [Bool.and_eq_true, decide_eq_true_eq]
    exact ⟨div4 (by omega), fun z => hp z.symm⟩
  · rintro ⟨t, ht, hp⟩
    rw [List.any_eq_true] at hp
    obtain ⟨s, hs, hp⟩ := hp
    obtain ⟨a, ha, rfl⟩ := okS_nat (hw.2.2.1 s hs)
    refine ⟨nI a, hs, ?_⟩
    simp only [Bool.and_eq_true, decide_eq_true_eq] at hp
    rw [div4 (by omega)] at hp
    have e : a / 4 = t := (nI_eq (by omega) (by omega)).mp hp.1
    rw [dgc_s hW ha]
    simp only [decide_eq_true_eq]
    rw [e]
    intro z
    apply hp.2
    rw [z, div4 (by omega)]
theorem isWrong_s {τ : SR} {ws : List Wt} (h : HR τ ws) (hw : WFs ws) {i W : Nat} (hi : i < ws.length) : f_X10_isWrong τ (nI i) (nI W) = some (if isW (ws[i]) W = true then 1 else 0) := by
  have hl := hw.1
  have h2 := (HR_wit h hi).2
  have h3 := (WFs_w hw hi).1
  have hm : isW (ws[i]) W = true ↔ ∃ j, ∃ hj : j < (ws[i]).2.length, ¬ dgc W (ws[i]).2[j] = (ws[i]).2[j] - (ws[i]).2[j] / 4 * 4 := by
    unfold isW
    rw [List.any_eq_true]
    constructor
    · rintro ⟨s, hs, hp⟩
      obtain ⟨j, hj, rfl⟩ := List.mem_iff_getElem.mp hs
      exact ⟨j, hj, by simpa using hp⟩
    · rintro ⟨j, hj, hp⟩
      exact ⟨(ws[i]).2[j], List.getElem_mem hj, by simpa using hp⟩
  obtain ⟨y, hy, rfl⟩ := lp_up0 (body := fun (s1 : Int32 × Int32) => b_X10_isWrong_5 τ (nI i) (nI W) s1.1 s1.2) (s := (0, 0)) (fun y => y = if isW (ws[i]) W = true then 1 else 0)
    (fun j s => s.2 = nI j ∧ (s.1 = 0 ∧ (∀ k, (hk : k < (ws[i]).2.length) → k < j → dgc W (ws[i]).2[k] = (ws[i]).2[k] - (ws[i]).2[k] / 4 * 4) ∨ s.1 = 1 ∧ isW (ws[i]) W = true)) (ws[i]).2.length (by omega) ⟨rfl, Or.inl ⟨rfl, fun k _ hk => absurd hk (by omega)⟩⟩
    (fun j s hj hI => by
      obtain ⟨c0, c1⟩ := s
      obtain ⟨rfl, hI⟩ := hI
      dsimp only at hI
      rcases hI with ⟨rfl, g2⟩ | ⟨rfl, g2⟩
      · have hst : b_X10_isWrong_5 τ (nI i) (nI W) 0 (nI j) = if dgc W (ws[i]).2[j] = (ws[i]).2[j] - (ws[i]).2[j] / 4 * 4 then some (.inl (0, nI (j + 1))) else some (.inl (1, nI (j + 1))) := by
          unfold b_X10_isWrong_5
          rw [gd_t _ (inb_nI (by omega) (by decide)), nI_clamp (by omega), h2.1, if_neg (nI_ge hj (by omega)), if_pos rfl, m4, gd_t _ (inb_nI (by omega) (by decide)), gd_t _ (inb_nI (by omega) (by decide)), nI_clamp (by omega), RowR.at h2 hj]
          simp only [bv, nI_1]
          rfl
        by_cases ee : dgc W (ws[i]).2[j] = (ws[i]).2[j] - (ws[i]).2[j] / 4 * 4
        · rw [if_pos ee] at hst
          refine Or.inl ⟨_, hst, rfl, Or.inl ⟨rfl, fun k hk hkj => ?_⟩⟩
          by_cases et : k = j
          · subst et; exact ee
          · exact g2 k hk (by omega)
        · rw [if_neg ee] at hst
          exact Or.inl ⟨_, hst, rfl, Or.inr ⟨rfl, hm.mpr ⟨j, hj, ee⟩⟩⟩
      · refine Or.inl ⟨(1, nI (j + 1)), ?_, rfl, Or.inr ⟨rfl, g2⟩⟩
        dsimp only
        unfold b_X10_isWrong_5
        rw [gd_t _ (inb_nI (by omega) (by decide)), nI_clamp (by omega), h2.1, if_neg (nI_ge hj (by omega)), if_neg one0]
        simp only [bv, nI_1])
    (fun s hI => by
      obtain ⟨c0, c1⟩ := s
      obtain ⟨rfl, hI⟩ := hI
      dsimp only at hI
      refine ⟨c0, by dsimp only; unfold b_X10_isWrong_5; rw [gd_t _ (inb_nI (by omega) (by decide)), nI_clamp (by omega), h2.1, if_pos (nI_le (Nat.le_refl _) (by omega))], ?_⟩
      rcases hI with ⟨rfl, g2⟩ | ⟨rfl, g2⟩
      · rw [if_neg (fun z => by obtain ⟨k, hk, hp⟩ := hm.mp z; exact hp (g2 k hk hk))]
      · rw [if_pos g2])
  unfold f_X10_isWrong
  rw [hy, bo_s]
  split <;> rfl
def cntW (ws : List Wt) (W : Nat) : Nat := sn (fun i => if isW (atW ws i) W = true then 1 else 0) ws.length
theorem sn_le {f : Nat → Nat} (h : ∀ i, f i ≤ 1) (n : Nat) : sn f n ≤ n := by
  induction n with
  | zero => exact Nat.le_refl _
  | succ n ih => rw [sn]; have := h n; omega
theorem cntW_le (ws : List Wt) (W : Nat) : cntW ws W ≤ ws.length := sn_le (fun i => by split <;> omega) _
theorem isWorld_s {τ : SR} {ws : List Wt} (h : HR τ ws) (hw : WFs ws) {W wrong : Nat} (hwr : wrong ≤ 5) : f_X10_isWorld τ (nI W) (nI wrong) = some (if cntW ws W ≤ wrong then 1 else 0) := by
  have hl := hw.1
  have hc := cntW_le ws W
  unfold f_X10_isWorld
  rw [lp_runs (body := fun (s1 : Int32 × Int32) => b_X10_isWorld_5 τ (nI W) s1.1 s1.2) (0, 0) (fun i => (nI (sn (fun i => if isW (atW ws i) W = true then 1 else 0) i), nI i)) (nI (cntW ws W)) ws.length rfl (by omega) (fun i hi => ?_) ?_, bo_s]
  · by_cases e : cntW ws W ≤ wrong
    · rw [if_neg (nI_nlt e (by omega)), if_pos e]
    · rw [if_pos (nI_lt (by omega) (by omega)), if_neg e]
  rotate_left
  · dsimp only
    unfold b_X10_isWorld_5
    rw [h.1, if_neg (nI_ge hi (by omega)), isWrong_s h hw hi, bo_s, show sn (fun i => if isW (atW ws i) W = true then 1 else 0) (i + 1) = sn (fun i => if isW (atW ws i) W = true then 1 else 0) i + (if isW (atW ws i) W = true then 1 else 0) from rfl, atW_eq hi]
    simp only [bv, nI_1, i_add0]
    by_cases e : isW (ws[i]) W = true
    · rw [if_pos e, if_neg one0, if_pos e]
    · rw [if_neg e, if_pos rfl, if_neg e]; rfl
  · dsimp only
    unfold b_X10_isWorld_5
    rw [h.1, if_pos (nI_le (Nat.le_refl _) (by omega))]
    rfl
theorem worldsNow_s {τ : SR} {ws : List Wt} (h : HR τ ws) (hw : WFs ws) {wrong : Nat} (hwr : wrong ≤ 5) : f_X10_worldsNow τ (nI wrong) = some (nI (sn (fun W => if cntW ws W ≤ wrong then 1 else 0) 4096)) := by
  unfold f_X10_worldsNow
  rw [lp_runs (body := fun (s1 : Int32 × Int32) => b_X10_worldsNow_4 τ (nI wrong) s1.1 s1.2) (0, 0) (fun W => (nI (sn (fun W => if cntW ws W ≤ wrong then 1 else 0) W), nI W)) (nI (sn (fun W => if cntW ws W ≤ wrong then 1 else 0) 4096)) 4096 rfl (by decide) (fun W hW => ?_) ?_, bo_s]
  rotate_left
  · dsimp only
    unfold b_X10_worldsNow_4
    rw [if_neg (show ¬ 4096 ≤ nI W from nI_ge (b := 4096) hW (by decide)), isWorld_s h hw hwr, bo_s, show sn (fun W => if cntW ws W ≤ wrong then 1 else 0) (W + 1) = sn (fun W => if cntW ws W ≤ wrong then 1 else 0) W + (if cntW ws W ≤ wrong then 1 else 0) from rfl]
    simp only [bv, nI_1, i_add0]
    by_cases e : cntW ws W ≤ wrong
    · rw [if_pos e, if_neg one0, if_pos e]
    · rw [if_neg e, if_pos rfl, if_neg e]; rfl
  · dsimp only
    unfold b_X10_worldsNow_4
    rw [if_pos (by decide)]
-- as many are wrong as the set has
theorem pc_sn : ∀ g, g < 32 → pc g = sn (fun i => if g.testBit i = true then 1 else 0) 5 := by decide +kernel
theorem cnt_pc {ws : List Wt} (hw : WFs ws) {W : Nat} (hW : W < 4096) : pc (orr (fun k c => wrN ws k c ws.length) W 6) = cntW ws W := by
  have hl := hw.1
  rw [pc_sn _ (orr_lt (fun k c => wrN_lt ws k c _ hl) W 6), show (5 : Nat) = ws.length + (5 - ws.length) by omega, sn_split]
  have e2 : sn (fun i => if (orr (fun k c => wrN ws k c ws.length) W 6).testBit (ws.length + i) = true then 1 else 0) (5 - ws.length) = 0 := by
    apply sn_zero
    intro i hi
    rw [if_neg]
    intro z
    obtain ⟨t, h1, h2⟩ := (orr_bit 6).mp z
    have := ((wrN_bit ws t _ _ _).mp h2).1
    omega
  rw [e2, Nat.add_zero]
  unfold cntW
  apply sn_congr
  intro i hi
  have : (orr (fun k c => wrN ws k c ws.length) W 6).testBit i = true ↔ isW (atW ws i) W = true := by
    rw [orr_bit, atW_eq hi, isW_iff (WFs_w hw hi) hW]
    constructor
    · rintro ⟨t, h1, h2⟩
      have := ((wrN_bit ws t _ _ _).mp h2).2
      rw [atW_eq hi] at this
      exact ⟨t, h1, this⟩
    · rintro ⟨t, h1, h2⟩
      exact ⟨t, h1, (wrN_bit ws t _ _ _).mpr ⟨hi, by rw [atW_eq hi]; exact h2⟩⟩
  by_cases e : isW (atW ws i) W = true
  · rw [if_pos (this.mpr e), if_pos e]
  · rw [if_neg (fun z => e (this.mp z)), if_neg e]
theorem dot_worlds {ws : List Wt} (hw : WFs ws) (wrong : Nat) (al : Nat → Nat → Bool) (A : Nat → Bool) (hA : ∀ W, W < 4096 → (alw al W 6 = A W)) : dot (wys (fun k c => wrN ws k c ws.length) al 6) (fun g => if pc g ≤ wrong then 1 else 0) = sn (fun W => if A W = true then (if cntW ws W ≤ wrong then 1 else 0) else 0) 4096 := by
  rw [wys_gw (fun k c => wrN_lt ws k c _ hw.1), show (4 ^ 6 : Nat) = 4096 from rfl]
  apply sn_congr
  intro W hW
  rw [gw_eq, hA W hW, cnt_pc hw hW]
theorem al_none (W : Nat) : ∀ k, k ≤ 6 → alw (fun k => alo (if nI k = -1 then -1 else -1)) W k = true := by
  intro k
  induction k with
  | zero => intro _; rfl
  | succ k ih =>
    intro hk
    rw [alw, ih (by omega)]
    simp [alo]
theorem al_some {T C : Nat} (hC : C < 4) (hT6 : T < 6) (W : Nat) : ∀ k, k ≤ 6 → alw (fun k => alo (if nI k = nI T then nI C else -1)) W k = (decide (k ≤ T) || decide (W / 4 ^ T % 4 = C)) := by
  intro k
  induction k with
  | zero => intro _; simp [alw]
  | succ k ih =>
    intro hk
    rw [alw, ih (by omega)]
    have h4 : W / 4 ^ k % 4 < 4 := Nat.mod_lt _ (by decide)
    by_cases e : k = T
    · subst e
      have e2 : alo (if nI k = nI k then nI C else -1) (W / 4 ^ k % 4) = decide (W / 4 ^ k % 4 = C) := by
        rw [if_pos rfl]
        unfold alo
        rw [decide_eq_false (m1_ne C (by omega)), Bool.false_or]
        by_cases q : W / 4 ^ k % 4 = C
        · rw [q]; simp
        · rw [decide_eq_false (fun z => q ((nI_eq (by omega) (by omega)).mp z).symm), decide_eq_false q]
      rw [e2, decide_eq_true (Nat.le_refl k), Bool.true_or, Bool.true_and, decide_eq_false (show ¬ k + 1 ≤ k by omega), Bool.false_or]
    · have e2 : alo (if nI k = nI T then nI C else -1) (W / 4 ^ k % 4) = true := by
        rw [if_neg (fun z => e ((nI_eq (by omega) (by omega)).mp z))]
        simp [alo]
      rw [e2, Bool.and_true]
      have : decide (k ≤ T) = decide (k + 1 ≤ T) := decide_eq_decide.mpr (by omega)
      rw [this]
theorem worlds_s {n : Nat} {σ : St} {τ : SR} {q : AK} {cs : List (Int32 × Int32)} {wa : Nat} {pg : List Int32} {kp : Option AK} (hg : GD n q cs wa pg kp) (hc : CR σ q cs wa pg kp) (hr : RR τ q cs wa pg kp) {wrong : Nat} (hw : wrong ≤ 5) : ∃ σ', f_X8_howMany σ 23 (nI wrong) (-1) (-1) = some (nI (sn (fun W => if cntW q.1 W ≤ wrong then 1 else 0) 4096), σ') ∧ f_X10_worldsNow τ (nI wrong) = some (nI (sn (fun W => if cntW q.1 W ≤ wrong then 1 else 0) 4096)) ∧ ∀ c, c ≠ 81 → c ≠ 82 → σ' c = σ c := by
  have hws := hg.1.1
  obtain ⟨σ', e1, e2⟩ := howManyC_s (a3 := -1) (a4 := -1) hw hc.1.1 hws
  rw [dot_worlds hws wrong _ (fun _ => true) (fun W _ => al_none W 6 (Nat.le_refl _))] at e1
  have e3 : sn (fun W => if (fun _ => true) W = true then (if cntW q.1 W ≤ wrong then 1 else 0) else 0) 4096 = sn (fun W => if cntW q.1 W ≤ wrong then 1 else 0) 4096 := sn_congr (fun W _ => if_pos rfl)
  rw [e3] at e1
  exact ⟨σ', e1, worldsNow_s (RR_h hr) hws hw, e2⟩
theorem op_worlds (n : Nat) (σ : St) (τ : SR) (a1 : Int32) (hn : n < 512) (h : Rel n σ τ) : ∃ (r : Int32) (σ' : St), f_X9_worlds σ a1 = some (r, σ') ∧ f_X10_worlds τ a1 = some r ∧ Rel (n + 1) σ' τ := by
  have hR := Rel_up n σ τ h
  obtain ⟨q, cs, wa, pg, kp, hg, hc, hr⟩ := h
  unfold f_X9_worlds f_X10_worlds
  rw [within9, within10, bo_s, bo_s]
  rcases wi_or a1 0 5 with h1 | ⟨h1, t1, t2⟩
  · rw [h1, if_pos rfl, if_pos rfl]; exact ⟨_, _, rfl, rfl, hR⟩
  rw [h1, if_neg one0, if_neg one0]
  rcases wall_or hn hg hc hr with ⟨-, w1, w2⟩ | ⟨-, w1, w2⟩
  · rw [w1, bo_s, if_pos rfl, if_pos w2]; exact ⟨_, _, rfl, rfl, hR⟩
  obtain ⟨m, hm, rfl⟩ := wi_nat (m := 5) (by decide) t1 t2
  obtain ⟨σ', e1, e2, e3⟩ := worlds_s hg hc hr hm
  rw [w1, bo_s, if_neg one0, if_neg w2, e1, e2]
  generalize nI (sn (fun W => if cntW q.1 W ≤ m then 1 else 0) 4096) = r
  exact ⟨r, σ', rfl, rfl, q, cs, wa, pg, kp, GD_up hg, CR_c (GD_n hg) (GD_k hg) (fun k hk => e3 k (by unfold tl at hk; omega) (by unfold tl at hk; omega)) (by rw [e3 1 (by omega) (by omega)]) hc, hr⟩
-- the greatest common measure
theorem gcd_st (a b : Nat) : Nat.gcd b (a % b) = Nat.gcd a b := by rw [Nat.gcd_comm, ← Nat.gcd_rec, Nat.gcd_comm]
theorem half_lt {b r : Nat} (h0 : 0 < r) (hr : r < b) : 2 * (b % r) < b := by
  have h1 := Nat.mod_lt b h0
  have h2 := Nat.div_add_mod b r
  have h3 : 1 ≤ b / r := Nat.div_pos (by omega) h0
  have h4 : r ≤ r * (b / r) := Nat.le_mul_of_pos_right r h3
  omega
theorem cm_step {a b c : Nat} (ha : a < 2 ^ 31) (hb0 : 0 < b) (hb : b < 2 ^ 31) (hc : c < 64) : b_X9_commonMeasure_7 (nI a) (nI b) (nI c) = some (.inl (nI b, nI (a % b), nI (c + 1))) := by
  unfold b_X9_commonMeasure_7
  rw [if_neg (show ¬ 64 ≤ nI c from nI_ge (b := 64) hc (by decide)), if_neg (nI_ne0 hb0 hb), gd_t _ (by unfold nz; rw [decide_eq_true_eq]; exact nI_ne0 hb0 hb), pk_rem ha hb0 hb]
  simp only [bv, nI_1]
theorem cm_end {a : Nat} (c : Int32) : b_X9_commonMeasure_7 (nI a) (nI 0) c = some (.inr (nI a)) := by
  unfold b_X9_commonMeasure_7
  split
  · rfl
  · rw [if_pos (show nI 0 = 0 from rfl)]
theorem cm_lp : ∀ (k a b c f : Nat), b < 2 ^ k → a < 2 ^ 31 → b < 2 ^ 31 → c + 2 * k + 1 ≤ 64 → 2 * k + 1 ≤ f → lp (fun (s1 : Int32 × Int32 × Int32) => b_X9_commonMeasure_7 s1.1 s1.2.1 s1.2.2) f (nI a, nI b, nI c) = some (nI (Nat.gcd a b)) := by
  intro k
  induction k with
  | zero =>
    intro a b c f hb ha _ hc hf
    have : b = 0 := by omega
    subst this
    obtain ⟨f, rfl⟩ : ∃ g, f = g + 1 := ⟨f - 1, by omega⟩
    rw [lp_inr (x := nI a) (by exact cm_end _), Nat.gcd_zero_right]
  | succ k ih =>
    intro a b c f hb ha hb2 hc hf
    obtain ⟨f, rfl⟩ : ∃ g, f = g + 1 + 1 := ⟨f - 2, by omega⟩
    by_cases b0 : b = 0
    · subst b0
      rw [lp_inr (x := nI a) (by exact cm_end _), Nat.gcd_zero_right]
    · rw [lp_inl (s' := (nI b, nI (a % b), nI (c + 1))) (by exact cm_step ha (by omega) hb2 (by omega))]
      have hr : a % b < b := Nat.mod_lt _ (by omega)
      by_cases r0 : a % b = 0
      · rw [← gcd_st a b, r0, lp_inr (x := nI b) (by exact cm_end _), Nat.gcd_zero_right]
      · rw [lp_inl (s' := (nI (a % b), nI (b % (a % b)), nI (c + 1 + 1))) (by exact cm_step hb2 (by omega) (by omega) (by omega))]
        have hh := half_lt (Nat.pos_of_ne_zero r0) hr
        have hp : 2 ^ (k + 1) = 2 * 2 ^ k := by rw [Nat.pow_succ]; omega
        rw [ih (a % b) (b % (a % b)) (c + 1 + 1) f (by omega) (by omega) (by omega) (by omega) (by omega), gcd_st, gcd_st]
theorem dv_step {a b : Nat} (ha : a < 2 ^ 31) (hb0 : 0 < b) (hb : b < 2 ^ 31) : b_X10_divisor_4 (nI a) (nI b) = some (.inl (nI b, nI (a % b))) := by
  unfold b_X10_divisor_4
  rw [if_neg (nI_ne0 hb0 hb), gd_t _ (by unfold nz; rw [decide_eq_true_eq]; exact nI_ne0 hb0 hb), pk_rem ha hb0 hb]
  rfl
theorem dv_end {a : Nat} : b_X10_divisor_4 (nI a) (nI 0) = some (.inr (nI a)) := by
  unfold b_X10_divisor_4
  rw [if_pos (show nI 0 = 0 from rfl)]
theorem dv_lp : ∀ (k a b f : Nat), b < 2 ^ k → a < 2 ^ 31 → b < 2 ^ 31 → 2 * k + 1 ≤ f → lp (fun (s1 : Int32 × Int32) => b_X10_divisor_4 s1.1 s1.2) f (nI a, nI b) = some (nI (Nat.gcd a b)) := by
  intro k
  induction k with
  | zero =>
    intro a b f hb ha _ hf
    have : b = 0 := by omega
    subst this
    obtain ⟨f, rfl⟩ : ∃ g, f = g + 1 := ⟨f - 1, by omega⟩
    rw [lp_inr (x := nI a) (by exact dv_end), Nat.gcd_zero_right]
  | succ k ih =>
    intro a b f hb ha hb2 hf
    obtain ⟨f, rfl⟩ : ∃ g, f = g + 1 + 1 := ⟨f - 2, by omega⟩
    by_cases b0 : b = 0
    · subst b0
      rw [lp_inr (x := nI a) (by exact dv_end), Nat.gcd_zero_right]
    · rw [lp_inl (s' := (nI b, nI (a % b))) (by exact dv_step ha (by omega) hb2)]
      have hr : a % b < b := Nat.mod_lt _ (by omega)
      by_cases r0 : a % b = 0
      · rw [← gcd_st a b, r0, lp_inr (x := nI b) (by exact dv_end), Nat.gcd_zero_right]
      · rw [lp_inl (s' := (nI (a % b), nI (b % (a % b)))) (by exact dv_step hb2 (by omega) (by omega))]
        have hh := half_lt (Nat.pos_of_ne_zero r0) hr
        have hp : 2 ^ (k + 1) = 2 * 2 ^ k := by rw [Nat.pow_succ]; omega
        rw [ih (a % b) (b % (a % b)) f (by omega) (by omega) (by omega) (by omega), gcd_st, gcd_st]
theorem op_odds (n : Nat) (σ : St) (τ : SR) (a1 a2 a3 a4 : Int32) (hn : n < 512) (h : Rel n σ τ) : ∃ (r : Int32) (σ' : St), f_X9_odds σ a1 a2 a3 a4 = some (r, σ') ∧ f_X10_odds τ a1 a2 a3 a4 = some r ∧ Rel (n + 1) σ' τ := by
  have hR := Rel_up n σ τ h
  obtain ⟨q, cs, wa, pg, kp, hg, hc, hr⟩ := h
  unfold f_X9_odds f_X10_odds
  rw [isThing9, isSight10, bo_s, bo_s]
  rcases wi_or a1 0 5 with h1 | ⟨h1, p1, p2⟩
  · rw [h1, if_pos rfl, if_pos rfl, if_pos rfl]; exact ⟨_, _, rfl, rfl, hR⟩
  rw [h1, if_neg one0, if_neg one0, isColour9, bo_s]
  rcases wi_or a2 0 3 with h2 | ⟨h2, p3, p4⟩
  · rw [h2, if_pos rfl, if_pos rfl]; exact ⟨_, _, rfl, rfl, hR⟩
  rw [h2, if_neg one0, if_neg one0, within9, within10, bo_s, bo_s]
  rcases wi_or a3 0 5 with h3 | ⟨h3, p5, p6⟩
  · rw [h3, if_pos rfl, if_pos rfl]; exact ⟨_, _, rfl, rfl, hR⟩
  rw [h3, if_neg one0, if_neg one0, within9, within10, bo_s, bo_s]
  rcases wi_or a4 0 1 with h4 | ⟨h4, p7, p8⟩
  · rw [h4, if_pos rfl, if_pos rfl]; exact ⟨_, _, rfl, rfl, hR⟩
  rw [h4, if_neg one0, if_neg one0]
  rcases wall_or hn hg hc hr with ⟨-, w1, w2⟩ | ⟨-, w1, w2⟩
  · rw [w1, bo_s, if_pos rfl, if_pos w2]; exact ⟨_, _, rfl, rfl, hR⟩
  rw [w1, bo_s, if_neg one0, if_neg w2]
  obtain ⟨T, hT, rfl⟩ := wi_nat (m := 5) (by decide) p1 p2
  obtain ⟨C, hC, rfl⟩ := wi_nat (m := 3) (by decide) p3 p4
  obtain ⟨m, hm, rfl⟩ := wi_nat (m := 5) (by decide) p5 p6
  obtain ⟨b, hb, rfl⟩ := wi_nat (m := 1) (by decide) p7 p8
  have hws := hg.1.1
  obtain ⟨σ1, e1, e2⟩ := howManyC_s (a3 := nI T) (a4 := nI C) hm hc.1.1 hws
  rw [dot_worlds hws m _ (fun W => decide (W / 4 ^ T % 4 = C)) (fun W _ => by rw [al_some (by omega) (by omega) W 6 (Nat.le_refl _), decide_eq_false (show ¬ 6 ≤ T by omega), Bool.false_or])] at e1
  have hc1 : CR σ1 q cs wa pg kp := CR_c (GD_n hg) (GD_k hg) (fun k hk => e2 k (by unfold tl at hk; omega) (by unfold tl at hk; omega)) (by rw [e2 1 (by omega) (by omega)]) hc
  obtain ⟨σ2, g1, g2, g3⟩ := worlds_s hg hc1 hr hm
  have hrel : Rel (n + 1) σ2 τ := ⟨q, cs, wa, pg, kp, GD_up hg, CR_c (GD_n hg) (GD_k hg) (fun k hk => g3 k (by unfold tl at hk; omega) (by unfold tl at hk; omega)) (by rw [g3 1 (by omega) (by omega)]) hc1, hr⟩
  have hA : lp (fun (s1 : Int32 × Int32) => b_X10_oddsNow_6 τ (nI T) (nI C) (nI m) s1.1 s1.2) 5000 (0, 0) = some (nI (sn (fun W => if decide (W / 4 ^ T % 4 = C) = true then (if cntW q.1 W ≤ m then 1 else 0) else 0) 4096)) := by
    refine lp_runs (body := fun (s1 : Int32 × Int32) => b_X10_oddsNow_6 τ (nI T) (nI C) (nI m) s1.1 s1.2) (0, 0) (fun W => (nI (sn (fun W => if decide (W / 4 ^ T % 4 = C) = true then (if cntW q.1 W ≤ m then 1 else 0) else 0) W), nI W)) _ 4096 rfl (by decide) (fun W hW => ?_) ?_
    · dsimp only
      have h4 : W / 4 ^ T % 4 < 4 := Nat.mod_lt _ (by decide)
      unfold b_X10_oddsNow_6
      rw [if_neg (show ¬ 4096 ≤ nI W from nI_ge (b := 4096) hW (by decide)), dg_s hW (by omega), isWorld_s (RR_h hr) hws hm, bo_s, show sn (fun W => if decide (W / 4 ^ T % 4 = C) = true then (if cntW q.1 W ≤ m then 1 else 0) else 0) (W + 1) = sn (fun W => if decide (W / 4 ^ T % 4 = C) = true then (if cntW q.1 W ≤ m then 1 else 0) else 0) W + (if decide (W / 4 ^ T % 4 = C) = true then (if cntW q.1 W ≤ m then 1 else 0) else 0) from rfl]
      simp only [bv, nI_1, i_add0]
      by_cases e : W / 4 ^ T % 4 = C
      · rw [if_pos (by rw [e]), if_pos (decide_eq_true e)]
        by_cases e2 : cntW q.1 W ≤ m
        · rw [if_pos e2, if_neg one0, if_pos e2]
        · rw [if_neg e2, if_pos rfl, if_neg e2]; rfl
      · rw [if_neg (fun z => e ((nI_eq (by omega) (by omega)).mp z)), if_neg (by simp [e])]; rfl
    · dsimp only
      unfold b_X10_oddsNow_6
      rw [if_pos (by decide)]
  have lA : sn (fun W => if decide (W / 4 ^ T % 4 = C) = true then (if cntW q.1 W ≤ m then 1 else 0) else 0) 4096 ≤ 4096 := sn_le (fun W => by (repeat' split) <;> omega) _
  have lB : sn (fun W => if cntW q.1 W ≤ m then 1 else 0) 4096 ≤ 4096 := sn_le (fun W => by split <;> omega) _
  unfold f_X10_oddsNow
  rw [e1, bo_s]
  dsimp only
  rw [g1, bo_s, hA, bo_s, g2]
  clear e1 g1 g2 hA
  generalize sn (fun W => if decide (W / 4 ^ T % 4 = C) = true then (if cntW q.1 W ≤ m then 1 else 0) else 0) 4096 = A at *
  generalize sn (fun W => if cntW q.1 W ≤ m then 1 else 0) 4096 = B at *
  have hcm : f_X9_commonMeasure (nI A) (nI B) = some (nI (Nat.gcd A B)) := by
    unfold f_X9_commonMeasure
    rw [show ((nI A, nI B, 0) : Int32 × Int32 × Int32) = (nI A, nI B, nI 0) from rfl, cm_lp 13 A B 0 5000 (by omega) (by omega) (by omega) (by omega) (by omega), bo_s]
  have hdv : f_X10_divisor (nI A) (nI B) = some (nI (Nat.gcd A B)) := by
    unfold f_X10_divisor
    rw [dv_lp 13 A B 5000 (by omega) (by omega) (by omega) (by omega), bo_s]
  dsimp only
  rw [hcm, bo_s]
  by_cases a0 : A = 0
  · subst a0
    rw [if_pos (show nI 0 = 0 from rfl), Nat.gcd_zero_left]
    by_cases b0 : B = 0
    · subst b0
      rw [if_neg (by decide)]
      rcases (by omega : b = 0 ∨ b = 1) with rfl | rfl
      · rw [if_pos (show nI 0 = 0 from rfl)]; exact ⟨_, σ2, rfl, rfl, hrel⟩
      · rw [if_neg (show ¬ nI 1 = 0 from one0)]; exact ⟨_, σ2, rfl, rfl, hrel⟩
    · rw [if_pos (show 1 ≤ nI B from nI_le (a := 1) (by omega) (by omega)), gd_t _ (by unfold nz; rw [decide_eq_true_eq]; exact nI_ne0 (by omega) (by omega)), gd_t _ (by unfold nz; rw [decide_eq_true_eq]; exact nI_ne0 (by omega) (by omega)), pk_div (by omega) (by omega) (by omega), pk_div (by omega) (by omega) (by omega), Nat.zero_div, Nat.div_self (by omega)]
      rcases (by omega : b = 0 ∨ b = 1) with rfl | rfl
      · rw [if_pos (show nI 0 = 0 from rfl)]; exact ⟨_, σ2, rfl, rfl, hrel⟩
      · rw [if_neg (show ¬ nI 1 = 0 from one0)]; exact ⟨_, σ2, rfl, rfl, hrel⟩
  · have hgp : 0 < Nat.gcd A B := Nat.gcd_pos_of_pos_left B (by omega)
    have hgl : Nat.gcd A B ≤ A := Nat.gcd_le_left B (by omega)
    rw [if_neg (show ¬ nI A = 0 from nI_ne0 (by omega) (by omega)), bo_s, hdv, bo_s, if_pos (show 1 ≤ nI (Nat.gcd A B) from nI_le (a := 1) (by omega) (by omega)), gd_t _ (by unfold nz; rw [decide_eq_true_eq]; exact nI_ne0 (by omega) (by omega)), gd_t _ (by unfold nz; rw [decide_eq_true_eq]; exact nI_ne0 (by omega) (by omega))]
    have hnz : nz (nI (Nat.gcd A B)) = true := by unfold nz; rw [decide_eq_true_eq]; exact nI_ne0 (by omega) (by omega)
    generalize nI A / nI (Nat.gcd A B) = X
    generalize nI B / nI (Nat.gcd A B) = Y
    by_cases eb : nI b = 0
    · rw [if_pos eb, if_pos eb, gd_t _ hnz]; exact ⟨X, σ2, rfl, rfl, hrel⟩
    · rw [if_neg eb, if_neg eb, gd_t _ hnz]; exact ⟨Y, σ2, rfl, rfl, hrel⟩

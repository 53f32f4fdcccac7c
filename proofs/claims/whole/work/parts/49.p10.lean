/-! the pure side, 10: who clashes; everyone -/
def cf (ws : List Wt) (i j t : Nat) : Int32 := if tw ws i (nI t) = -1 then 0 else if tw ws j (nI t) = -1 then 0 else if tw ws i (nI t) = tw ws j (nI t) then 0 else 1
def cl (ws : List Wt) (i j : Nat) : Int32 := sm (cf ws i j) 6
theorem cf_comm (ws : List Wt) (i j t : Nat) : cf ws i j t = cf ws j i t := by
  unfold cf
  by_cases h1 : tw ws i (nI t) = -1
  · rw [if_pos h1]
    by_cases h2 : tw ws j (nI t) = -1
    · rw [if_pos h2]
    · rw [if_neg h2, if_pos h1]
  · rw [if_neg h1]
    by_cases h2 : tw ws j (nI t) = -1
    · rw [if_pos h2, if_pos h2]
    · rw [if_neg h2, if_neg h2, if_neg h1]
      by_cases h3 : tw ws i (nI t) = tw ws j (nI t)
      · rw [if_pos h3, if_pos h3.symm]
      · rw [if_neg h3, if_neg (fun e => h3 e.symm)]
theorem cl_comm (ws : List Wt) (i j : Nat) : cl ws i j = cl ws j i := sm_congr (fun t _ => cf_comm ws i j t)
theorem sm_zero {f : Nat → Int32} {n : Nat} (h : ∀ i, i < n → f i = 0) : sm f n = 0 := by
  induction n with
  | zero => rfl
  | succ n ih => rw [sm, ih (fun i hi => h i (by omega)), h n (by omega)]; rfl
theorem cl_self (ws : List Wt) (i : Nat) : cl ws i i = 0 := sm_zero (fun t _ => by
  unfold cf
  by_cases e : tw ws i (nI t) = -1
  · rw [if_pos e]
  · rw [if_neg e, if_neg e, if_pos rfl])
theorem clashesBetween_s {σ : St} {k : Nat} {ws : List Wt} (h : HallC σ k ws) (hw : WFs ws) {i j : Nat} (hi : i < ws.length) (hj : j < ws.length) : f_X1_clashesBetween k σ (nI i) (nI j) = some (cl ws i j) := by
  have hl := hw.1
  unfold f_X1_clashesBetween
  rw [lp_runs (body := fun (s1 : Int32 × Int32) => b_X1_clashesBetween_5 k σ (nI i) (nI j) s1.1 s1.2) (0, 0) (fun t => (sm (cf ws i j) t, nI t)) (cl ws i j) 6 rfl (by decide) (fun t ht => ?_) ?_, bo_s]
  rotate_left
  · dsimp only
    unfold b_X1_clashesBetween_5
    rw [if_neg (show ¬ 6 ≤ nI t from nI_ge (b := 6) ht (by decide)), gd_t _ (inb_nI (by omega) (by decide)), nI_clamp (by omega), colC h hw hi, bo_s, gd_t _ (inb_nI (by omega) (by decide)), nI_clamp (by omega), colC h hw hj, bo_s, sm, cf]
    simp only [bv, nI_1]
    by_cases h1 : tw ws i (nI t) = -1
    · rw [if_pos h1, if_pos h1, i_add0]
    · rw [if_neg h1, if_neg h1]
      by_cases h2 : tw ws j (nI t) = -1
      · rw [if_pos h2, if_pos h2, i_add0]
      · rw [if_neg h2, if_neg h2]
        by_cases h3 : tw ws i (nI t) = tw ws j (nI t)
        · rw [if_pos h3, if_pos h3, i_add0]
        · rw [if_neg h3, if_neg h3]
  · dsimp only
    unfold b_X1_clashesBetween_5
    rw [if_pos (by decide)]
    rfl
theorem hasThingR {τ : SR} {ws : List Wt} (h : HR τ ws) (hw : WFs ws) {i : Nat} (hi : i < ws.length) (t : Int32) : f_X10_hasThing τ (nI i) t = some (if tw ws i t = -1 then 0 else 1) := by
  unfold f_X10_hasThing
  rw [colR h hw hi, bo_s]
  split <;> rfl
theorem clashesOfTwo_s {τ : SR} {ws : List Wt} (h : HR τ ws) (hw : WFs ws) {i j : Nat} (hi : i < ws.length) (hj : j < ws.length) : f_X10_clashesOfTwo τ (nI i) (nI j) = some (cl ws i j) := by
  unfold f_X10_clashesOfTwo
  rw [lp_runs (body := fun (s1 : Int32 × Int32) => b_X10_clashesOfTwo_5 τ (nI i) (nI j) s1.1 s1.2) (0, 0) (fun t => (sm (cf ws i j) t, nI t)) (cl ws i j) 6 rfl (by decide) (fun t ht => ?_) ?_, bo_s]
  rotate_left
  · dsimp only
    unfold b_X10_clashesOfTwo_5
    rw [if_neg (show ¬ 6 ≤ nI t from nI_ge (b := 6) ht (by decide)), hasThingR h hw hi, bo_s, hasThingR h hw hj, colR h hw hi, colR h hw hj, sm, cf]
    simp only [bv, nI_1, bo_s, i_add0]
    by_cases h1 : tw ws i (nI t) = -1
    · rw [if_pos h1, if_pos rfl, bo_s, if_pos rfl, if_pos h1, i_add0]
    · rw [if_neg h1, if_neg one0, if_neg h1]
      by_cases h2 : tw ws j (nI t) = -1
      · rw [if_pos h2, if_pos rfl, bo_s, if_pos rfl, if_pos h2, i_add0]
      · rw [if_neg h2, if_neg one0, bo_s, if_neg one0, if_neg h2]
        by_cases h3 : tw ws i (nI t) = tw ws j (nI t)
        · rw [if_pos h3, if_pos h3, i_add0]
        · rw [if_neg h3, if_neg h3]
  · dsimp only
    unfold b_X10_clashesOfTwo_5
    rw [if_pos (by decide)]
    rfl
def cw (ws : List Wt) (g : Int32) (w e : Nat) : Int32 := if bt g w then (if bt g e then cl ws w e else 0) else 0
def ca0 (ws : List Wt) (g : Int32) : Int32 := sm (fun w => sm (cw ws g w) w) ws.length
theorem clashesAmong_s0 {σ : St} {k : Nat} {ws : List Wt} (h : HallC σ k ws) (hw : WFs ws) (g : Int32) : f_X1_clashesAmong k σ g = some (ca0 ws g) := by
  have hl := hw.1
  have inner : ∀ (w : Nat) (a : Int32), w < ws.length → lp (fun (s7 : Int32 × Int32) => b_X1_clashesAmong_15 k σ g (nI w) s7.1 s7.2) 5000 (a, 0) = some (a + sm (cw ws g w) w) := by
    intro w a hwl
    rw [lp_runs (body := fun (s7 : Int32 × Int32) => b_X1_clashesAmong_15 k σ g (nI w) s7.1 s7.2) (a, 0) (fun e => (a + sm (cw ws g w) e, nI e)) (a + sm (cw ws g w) w) w (by rw [show sm (cw ws g w) 0 = 0 from rfl, i_add0]; rfl) (by omega) (fun e he => ?_) ?_]
    rotate_left
    · dsimp only
      unfold b_X1_clashesAmong_15
      rw [if_neg (nI_ge he (by omega)), clashesBetween_s h hw (by omega) hwl, sm, cw, ← Int32.add_assoc, cl_comm]
      simp only [bv, nI_1, bo_s]
      by_cases h1 : bt g e
      · by_cases h2 : bt g w
        · rw [if_pos h1, if_pos h2, if_pos h2, if_pos h1]
        · rw [if_pos h1, if_neg h2, if_neg h2, i_add0]
      · by_cases h2 : bt g w
        · rw [if_neg h1, if_pos h2, if_neg h1, i_add0]
        · rw [if_neg h1, if_neg h2, i_add0]
    · dsimp only
      unfold b_X1_clashesAmong_15
      rw [if_pos (nI_le (Nat.le_refl _) (by omega))]
  unfold f_X1_clashesAmong
  by_cases h0 : ws.length = 0
  · rw [lp_inr (n := 4999) (x := (0 : Int32)) (by dsimp only; unfold b_X1_clashesAmong_4; rw [h.1, h0, if_pos (by decide)]), bo_s]
    unfold ca0
    rw [h0]
    rfl
  · rw [lp_runs (body := fun (s1 : Int32 × Int32) => b_X1_clashesAmong_4 k σ g s1.1 s1.2) (0, 1) (fun w => (sm (fun w => sm (cw ws g w) w) (w + 1), nI (w + 1))) (ca0 ws g) (ws.length - 1) rfl (by omega) (fun w hwl => ?_) ?_, bo_s]
    rotate_left
    · dsimp only
      unfold b_X1_clashesAmong_4
      rw [h.1, if_neg (nI_ge (by omega) (by omega)), inner (w + 1) _ (by omega), bo_s]
      simp only [bv, nI_1]
      rfl
    · dsimp only
      unfold b_X1_clashesAmong_4
      rw [h.1, if_pos (nI_le (by omega) (by omega)), show ws.length - 1 + 1 = ws.length by omega]
      rfl
theorem clashesAmongR0 {τ : SR} {ws : List Wt} (h : HR τ ws) (hw : WFs ws) (g : Int32) : f_X10_clashesAmong τ g = some (ca0 ws g) := by
  have hl := hw.1
  have inner : ∀ (w : Nat) (a : Int32), w < ws.length → lp (fun (s7 : Int32 × Int32) => b_X10_clashesAmong_15 τ g (nI w) s7.1 s7.2) 5000 (a, 0) = some (a + sm (cw ws g w) w) := by
    intro w a hwl
    rw [lp_runs (body := fun (s7 : Int32 × Int32) => b_X10_clashesAmong_15 τ g (nI w) s7.1 s7.2) (a, 0) (fun e => (a + sm (cw ws g w) e, nI e)) (a + sm (cw ws g w) w) w (by rw [show sm (cw ws g w) 0 = 0 from rfl, i_add0]; rfl) (by omega) (fun e he => ?_) ?_]
    rotate_left
    · dsimp only
      unfold b_X10_clashesAmong_15
      rw [if_neg (nI_ge he (by omega)), isIn_s, isIn_s, clashesOfTwo_s h hw hwl (by omega), sm, cw, ← Int32.add_assoc]
      simp only [bv, nI_1, bo_s, i_add0]
      by_cases h2 : bt g w
      · rw [if_pos h2, if_neg one0, if_pos h2]
        by_cases h1 : bt g e
        · rw [if_pos h1, if_neg one0, if_pos h1]
        · rw [if_neg h1, if_pos rfl, if_neg h1, i_add0]
      · rw [if_neg h2, if_pos rfl, if_neg h2, i_add0]
    · dsimp only
      unfold b_X10_clashesAmong_15
      rw [if_pos (nI_le (Nat.le_refl _) (by omega))]
  unfold f_X10_clashesAmong
  rw [lp_runs (body := fun (s1 : Int32 × Int32) => b_X10_clashesAmong_4 τ g s1.1 s1.2) (0, 0) (fun w => (sm (fun w => sm (cw ws g w) w) w, nI w)) (ca0 ws g) ws.length rfl (by omega) (fun w hwl => ?_) ?_, bo_s]
  rotate_left
  · dsimp only
    unfold b_X10_clashesAmong_4
    rw [h.1, if_neg (nI_ge (by omega) (by omega)), inner w _ (by omega), bo_s, sm]
    simp only [bv, nI_1]
  · dsimp only
    unfold b_X10_clashesAmong_4
    rw [h.1, if_pos (nI_le (Nat.le_refl _) (by omega))]
    rfl
theorem hide2 (f : List Wt → Int32 → Int32) : ∃ g : List Wt → Int32 → Int32, ∀ a b, g a b = f a b := ⟨f, fun _ _ => rfl⟩
noncomputable def ca : List Wt → Int32 → Int32 := Classical.choose (hide2 ca0)
theorem ca_eq (ws : List Wt) (g : Int32) : ca ws g = ca0 ws g := Classical.choose_spec (hide2 ca0) ws g
theorem clashesAmong_s {σ : St} {k : Nat} {ws : List Wt} (h : HallC σ k ws) (hw : WFs ws) (g : Int32) : f_X1_clashesAmong k σ g = some (ca ws g) := by rw [ca_eq]; exact clashesAmong_s0 h hw g
theorem clashesAmongR {τ : SR} {ws : List Wt} (h : HR τ ws) (hw : WFs ws) (g : Int32) : f_X10_clashesAmong τ g = some (ca ws g) := by rw [ca_eq]; exact clashesAmongR0 h hw g
theorem clashesOf_s {σ : St} {k : Nat} {ws : List Wt} (h : HallC σ k ws) (hw : WFs ws) {i : Nat} (hi : i < ws.length) : f_X1_clashesOf k σ (nI i) = some (sm (cl ws i) ws.length) := by
  have hl := hw.1
  unfold f_X1_clashesOf
  rw [lp_runs (body := fun (s1 : Int32 × Int32) => b_X1_clashesOf_4 k σ (nI i) s1.1 s1.2) (0, 0) (fun w => (sm (cl ws i) w, nI w)) (sm (cl ws i) ws.length) ws.length rfl (by omega) (fun w hwl => ?_) ?_, bo_s]
  rotate_left
  · dsimp only
    unfold b_X1_clashesOf_4
    rw [h.1, if_neg (nI_ge (by omega) (by omega)), clashesBetween_s h hw hi hwl, bo_s, sm]
    simp only [bv, nI_1]
  · dsimp only
    unfold b_X1_clashesOf_4
    rw [h.1, if_pos (nI_le (Nat.le_refl _) (by omega))]
theorem clashesOfR {τ : SR} {ws : List Wt} (h : HR τ ws) (hw : WFs ws) {i : Nat} (hi : i < ws.length) : f_X10_clashesOf τ (nI i) = some (sm (cl ws i) ws.length) := by
  have hl := hw.1
  unfold f_X10_clashesOf
  rw [lp_runs (body := fun (s1 : Int32 × Int32) => b_X10_clashesOf_4 τ (nI i) s1.1 s1.2) (0, 0) (fun w => (sm (cl ws i) w, nI w)) (sm (cl ws i) ws.length) ws.length rfl (by omega) (fun w hwl => ?_) ?_, bo_s]
  rotate_left
  · dsimp only
    unfold b_X10_clashesOf_4
    rw [h.1, if_neg (nI_ge (by omega) (by omega)), clashesOfTwo_s h hw hi hwl, bo_s, sm]
    simp only [bv, nI_1]
    by_cases e : w = i
    · subst e
      rw [if_pos rfl, cl_self]
    · rw [if_neg (fun z => e ((nI_eq (by omega) (by omega)).mp z))]
  · dsimp only
    unfold b_X10_clashesOf_4
    rw [h.1, if_pos (nI_le (Nat.le_refl _) (by omega))]
-- ===== everyone; sizes of small sets =====
theorem all_dec : ∀ n, n < 6 → ((1 : Int32) <<< (nI n &&& 31)) - 1 = nI (2 ^ n - 1) := by decide +kernel
theorem everyone_s {σ : St} {k n : Nat} (h : σ k 2 = nI n) (hn : n ≤ 5) : f_X1_everyone k σ = some (nI (2 ^ n - 1)) := by
  unfold f_X1_everyone
  rw [h, all_dec n (by omega)]
theorem everybody_s {τ : SR} {n : Nat} (h : ri τ 0 1 = nI n) (hn : n ≤ 5) : f_X10_everybody τ = some (nI (2 ^ n - 1)) := by
  unfold f_X10_everybody
  rw [h, all_dec n (by omega)]
def pc (g : Nat) : Nat := g % 2 + g / 2 % 2 + g / 4 % 2 + g / 8 % 2 + g / 16 % 2
theorem pc_class : ∀ g, g < 32 → f_J6_bitCount_0f7a4 (nI g) = some (nI (pc g)) := by decide +kernel
theorem pc_ref : ∀ g, g < 32 → f_X10_size (nI g) = some (nI (pc g)) := by decide +kernel
theorem op_said (n : Nat) (σ : St) (τ : SR) (a1 : Int32) (hn : n < 512) (h : Rel n σ τ) : ∃ (r : Int32) (σ' : St), f_X9_said σ a1 = some (r, σ') ∧ f_X10_said τ a1 = some r ∧ Rel (n + 1) σ' τ := by
  have hR := Rel_up n σ τ h
  obtain ⟨q, cs, wa, pg, kp, hg, hc, hr⟩ := h
  unfold f_X9_said f_X10_said
  rw [isThing9, within10, bo_s, bo_s]
  by_cases h1 : wi a1 0 5 = 0
  · rw [if_pos h1, if_pos h1]; exact ⟨_, _, rfl, rfl, hR⟩
  rw [if_neg h1, if_neg h1, hasWall9 (GD_n hg) (CR_n hc), bo_s]
  by_cases h3 : q.1.length = 0
  · rw [if_pos h3, if_pos rfl, if_pos ((wa0 (by have := hg.2.2.2.1; omega) hr.2.2.2.2.2.2.1).mpr (hg.2.2.2.2.1.mpr h3))]
    exact ⟨_, _, rfl, rfl, hR⟩
  · rw [if_neg h3, if_neg one0, if_neg (fun e => h3 (hg.2.2.2.2.1.mp ((wa0 (by have := hg.2.2.2.1; omega) hr.2.2.2.2.2.2.1).mp e))), everyone_s (CR_n hc) (GD_n hg), everybody_s hr.1 (GD_n hg), bo_s, bo_s]
    obtain ⟨σ', e1, e2⟩ := saidAmong_s (g := nI (2 ^ q.1.length - 1)) (t := a1) hc.1.1 hg.1.1
    rw [e1, saidBy_s (RR_h hr) hg.1.1]
    generalize sd q.1 (nI (2 ^ q.1.length - 1)) a1 = r
    exact ⟨r, σ', rfl, rfl, q, cs, wa, pg, kp, GD_up hg, CR_c (GD_n hg) (GD_k hg) (fun k hk => e2 k (by unfold tl at hk; omega)) (by rw [e2 1 (by omega)]) hc, hr⟩

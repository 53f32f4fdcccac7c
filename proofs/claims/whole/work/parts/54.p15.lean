/-! the pure side, 15: a hall that is shown a sight; what is laid by; drawn slips -/
def showW (w : Wt) (x : Int32) : Wt := if takesB w x then (w.1, showL w.1 x w.2) else w
def atW (ws : List Wt) (i : Nat) : Wt := (ws[i]?).getD (0, [])
theorem atW_eq {ws : List Wt} {i : Nat} (h : i < ws.length) : atW ws i = ws[i] := by
  unfold atW
  rw [List.getElem?_eq_getElem h]
  rfl
def showH (ws : List Wt) (i : Nat) (x : Int32) : List Wt := ws.set i (showW (atW ws i) x)
theorem showH_len (ws : List Wt) (i : Nat) (x : Int32) : (showH ws i x).length = ws.length := List.length_set
theorem showH_wf {ws : List Wt} {i : Nat} {x : Int32} (hi : i < ws.length) (hw : WFs ws) (hx : okS x) : WFs (showH ws i x) := by
  unfold showH
  rw [atW_eq hi]
  apply WFs_set hw
  unfold showW
  split
  · exact WFw_show (WFs_w hw hi) hx
  · exact WFs_w hw hi
theorem meetsH_s {σ : St} {b : Nat} {ws : List Wt} {i : Nat} {x : Int32} (h : HallC σ b ws) (hw : WFs ws) (hi : i < ws.length) (hx : okS x) : ∃ σ', f_X7_meets (b + 3 + 2 * i) σ x = some ((if takesB (atW ws i) x then 1 else 0), σ') ∧ (∀ c, c ≠ b + 3 + 2 * i → c ≠ b + 4 + 2 * i → σ' c = σ c) ∧ HallC σ' b (showH ws i x) := by
  obtain ⟨σ', e1, e2, e3⟩ := meets_s (HallC_wit h hi) (WFs_w hw hi) hx
  refine ⟨σ', by rw [atW_eq hi]; exact e1, fun c c1 c2 => e2 c c1 (by omega), ?_⟩
  unfold showH
  refine HallC_set h (by rw [e2 b (by omega) (by omega)]) (by rw [atW_eq hi]; exact e3) (fun j hj hjl => ⟨e2 _ (by omega) (by omega), e2 _ (by omega) (by omega)⟩)
theorem showR_s {τ : SR} {ws : List Wt} {i : Nat} {x : Int32} (h : HR τ ws) (hw : WFs ws) (hi : i < ws.length) (hx : okS x) : ∃ τ' : SR, f_X10_showNow τ (nI i) x = some ((if takesB (atW ws i) x then 1 else 0), τ') ∧ τ'.2 = τ.2 ∧ (∀ c, c ≠ 2 → c ≠ 3 → ri τ' c = ri τ c) ∧ HR τ' (showH ws i x) := by
  have hl := hw.1
  have w2 := HR_wit h hi
  obtain ⟨τ2, g1, g2, g3, g4, g5, g6⟩ := showNow_s (x := x) (by omega) w2.1 w2.2 (WFs_w hw hi) hx
  refine ⟨τ2, by rw [atW_eq hi]; exact g1, g2, g3, ?_, ?_⟩
  · rw [g3 0 (by omega) (by omega), showH_len]; exact h.1
  · unfold showH
    rw [atW_eq hi]
    refine HallR_set h.2 ⟨?_, ?_⟩ (fun j hj hjl => ⟨by rw [g3 1 (by omega) (by omega)], g4 j hj, fun k hk => g5 _ (by omega)⟩) (fun j w hj => by
      have := (hw.2 w (List.mem_of_getElem? hj)).1
      omega)
    · rw [g3 1 (by omega) (by omega), w2.1]
      unfold showW
      split <;> rfl
    · have e : (showW (ws[i]) x).2 = if takesB (ws[i]) x then showL (ws[i]).1 x (ws[i]).2 else (ws[i]).2 := by
        unfold showW
        split <;> rfl
      rw [e]
      exact g6
theorem RR_s {τ τ' : SR} {q : AK} {cs : List (Int32 × Int32)} {wa : Nat} {pg : List Int32} {kp : Option AK} (hw : WFs q.1) (h0 : ∀ j, j ≠ 19 → j ≠ 20 → j ≠ 21 → j ≠ 27 → ri τ' 0 j = ri τ 0 j) (h1 : ∀ c, (c = 1 ∨ (4 ≤ c ∧ c ≤ 12) ∨ 22 ≤ c) → ri τ' c = ri τ c) (h2 : ∀ p, p < 20 → ri τ' 2 p = ri τ 2 p) (h3 : ∀ i, i < 5 → ri τ' 3 i = ri τ 3 i) (h : RR τ q cs wa pg kp) : RR τ' q cs wa pg kp := by
  obtain ⟨r1, r2, r3, r4, r5, r6, r7, r8, kw, k1, k2, k3, k4⟩ := h
  refine ⟨?_, HallR_cp hw (fun i hi => ⟨by rw [h1 1 (by omega)], h3 i hi⟩) h2 r2, ?_, ?_, ?_, ?_, ?_, ?_, kw, k1, ?_, ?_, ?_⟩
  · rw [h0 1 (by omega) (by omega) (by omega) (by omega)]; exact r1
  · rw [h0 8 (by omega) (by omega) (by omega) (by omega), h1 6 (by omega), h1 7 (by omega), h1 8 (by omega)]; exact r3
  · rw [h0 13 (by omega) (by omega) (by omega) (by omega), h1 9 (by omega), h1 10 (by omega), h1 11 (by omega)]; exact r4
  · rw [h0 12 (by omega) (by omega) (by omega) (by omega)]; exact r5
  · rw [h0 5 (by omega) (by omega) (by omega) (by omega), h1 4 (by omega), h1 5 (by omega)]; exact r6
  · rw [h0 0 (by omega) (by omega) (by omega) (by omega)]; exact r7
  · rw [h0 17 (by omega) (by omega) (by omega) (by omega), h1 12 (by omega)]; exact r8
  · rw [h0 34 (by omega) (by omega) (by omega) (by omega)]; exact k2
  · rw [h0 33 (by omega) (by omega) (by omega) (by omega)]; exact k3
  · intro z hz
    rw [h0 33 (by omega) (by omega) (by omega) (by omega), h0 35 (by omega) (by omega) (by omega) (by omega), h0 36 (by omega) (by omega) (by omega) (by omega), h0 37 (by omega) (by omega) (by omega) (by omega), h1 22 (by omega), h1 23 (by omega), h1 24 (by omega), h1 25 (by omega), h1 26 (by omega), h1 27 (by omega), h1 28 (by omega), h1 29 (by omega), h1 30 (by omega)]
    exact k4 z hz
theorem lay_s (τ : SR) : ∃ τ1, f_X10_lay τ = some τ1 ∧ τ1.2 = τ.2 ∧ (∀ c, c ≠ 18 → c ≠ 19 → ri τ1 c = ri τ c) ∧ (∀ i, i < 20 → ri τ1 18 i = ri τ 2 i) ∧ ∀ i, i < 5 → ri τ1 19 i = ri τ 3 i := by
  obtain ⟨U1, a1, a0, a2⟩ := lp_copy (body := fun (s7 : Int32 × SR) => b_X10_lay_2 s7.1 s7.2) ri (fun T => T.2 = τ.2) (fun c => if c = 18 then 2 else c) (fun c => by (repeat' split) <;> omega)
    (fun j T => ui T 18 j (ri T 2 j)) 20 (by decide) (fun j T hj => by
      dsimp only
      unfold b_X10_lay_2
      rw [if_neg (show ¬ 20 ≤ nI j from nI_ge (b := 20) hj (by decide))]
      simp only [gd_t _ (inb_nI hj (show 20 < 2 ^ 31 by decide)), nI_clamp (show j < 2 ^ 31 by omega), bv, nI_1])
    (fun T => by dsimp only; unfold b_X10_lay_2; rw [if_pos (by decide)])
    (fun j T c i hj => by
      simp only [ri_ui_all]
      by_cases ei : i = j
      · subst ei
        simp only [and_true, if_true]
        (repeat' split) <;> first | rfl | (exfalso; omega) | (subst_vars; rfl)
      · simp only [ei, and_false, if_false])
    (fun _ _ h => h) τ rfl
  obtain ⟨U2, b1, b0, b2⟩ := lp_copy (body := fun (s7 : Int32 × SR) => b_X10_lay_28 s7.1 s7.2) ri (fun T => T.2 = τ.2) (fun c => if c = 19 then 3 else c) (fun c => by (repeat' split) <;> omega)
    (fun j T => ui T 19 j (ri T 3 j)) 5 (by decide) (fun j T hj => by
      dsimp only
      unfold b_X10_lay_28
      rw [if_neg (show ¬ 5 ≤ nI j from nI_ge (b := 5) hj (by decide))]
      simp only [gd_t _ (inb_nI hj (show 5 < 2 ^ 31 by decide)), nI_clamp (show j < 2 ^ 31 by omega), bv, nI_1])
    (fun T => by dsimp only; unfold b_X10_lay_28; rw [if_pos (by decide)])
    (fun j T c i hj => by
      simp only [ri_ui_all]
      by_cases ei : i = j
      · subst ei
        simp only [and_true, if_true]
        (repeat' split) <;> first | rfl | (exfalso; omega) | (subst_vars; rfl)
      · simp only [ei, and_false, if_false])
    (fun _ _ h => h) U1 a0
  unfold f_X10_lay
  rw [a1, bo_s, b1, bo_s]
  refine ⟨U2, rfl, b0, fun c h1 h2 => ?_, fun i hi => ?_, fun i hi => ?_⟩
  · funext i
    have x1 : ri U2 c i = ri U1 c i := by rw [b2 c i, if_neg h2]; split <;> rfl
    have x2 : ri U1 c i = ri τ c i := by rw [a2 c i, if_neg h1]; split <;> rfl
    rw [x1, x2]
  · have x1 : ri U2 18 i = ri U1 18 i := by rw [b2 18 i, if_neg (show ¬ 18 = 19 by omega)]; split <;> rfl
    rw [x1, a2 18 i, if_pos hi, if_pos rfl]
  · have x2 : ri U1 3 i = ri τ 3 i := by rw [a2 3 i, if_neg (show ¬ 3 = 18 by omega)]; split <;> rfl
    rw [b2 19 i, if_pos hi, if_pos rfl, x2]
theorem layBack_s (τ : SR) : ∃ τ1, f_X10_layBack τ = some τ1 ∧ τ1.2 = τ.2 ∧ (∀ c, c ≠ 2 → c ≠ 3 → ri τ1 c = ri τ c) ∧ (∀ i, i < 20 → ri τ1 2 i = ri τ 18 i) ∧ ∀ i, i < 5 → ri τ1 3 i = ri τ 19 i := by
  obtain ⟨U1, a1, a0, a2⟩ := lp_copy (body := fun (s7 : Int32 × SR) => b_X10_layBack_2 s7.1 s7.2) ri (fun T => T.2 = τ.2) (fun c => if c = 2 then 18 else c) (fun c => by (repeat' split) <;> omega)
    (fun j T => ui T 2 j (ri T 18 j)) 20 (by decide) (fun j T hj => by
      dsimp only
      unfold b_X10_layBack_2
      rw [if_neg (show ¬ 20 ≤ nI j from nI_ge (b := 20) hj (by decide))]
      simp only [gd_t _ (inb_nI hj (show 20 < 2 ^ 31 by decide)), nI_clamp (show j < 2 ^ 31 by omega), bv, nI_1])
    (fun T => by dsimp only; unfold b_X10_layBack_2; rw [if_pos (by decide)])
    (fun j T c i hj => by
      simp only [ri_ui_all]
      by_cases ei : i = j
      · subst ei
        simp only [and_true, if_true]
        (repeat' split) <;> first | rfl | (exfalso; omega) | (subst_vars; rfl)
      · simp only [ei, and_false, if_false])
    (fun _ _ h => h) τ rfl
  obtain ⟨U2, b1, b0, b2⟩ := lp_copy (body := fun (s7 : Int32 × SR) => b_X10_layBack_28 s7.1 s7.2) ri (fun T => T.2 = τ.2) (fun c => if c = 3 then 19 else c) (fun c => by (repeat' split) <;> omega)
    (fun j T => ui T 3 j (ri T 19 j)) 5 (by decide) (fun j T hj => by
      dsimp only
      unfold b_X10_layBack_28
      rw [if_neg (show ¬ 5 ≤ nI j from nI_ge (b := 5) hj (by decide))]
      simp only [gd_t _ (inb_nI hj (show 5 < 2 ^ 31 by decide)), nI_clamp (show j < 2 ^ 31 by omega), bv, nI_1])
    (fun T => by dsimp only; unfold b_X10_layBack_28; rw [if_pos (by decide)])
    (fun j T c i hj => by
      simp only [ri_ui_all]
      by_cases ei : i = j
      · subst ei
        simp only [and_true, if_true]
        (repeat' split) <;> first | rfl | (exfalso; omega) | (subst_vars; rfl)
      · simp only [ei, and_false, if_false])
    (fun _ _ h => h) U1 a0
  unfold f_X10_layBack
  rw [a1, bo_s, b1, bo_s]
  refine ⟨U2, rfl, b0, fun c h1 h2 => ?_, fun i hi => ?_, fun i hi => ?_⟩
  · funext i
    have x1 : ri U2 c i = ri U1 c i := by rw [b2 c i, if_neg h2]; split <;> rfl
    have x2 : ri U1 c i = ri τ c i := by rw [a2 c i, if_neg h1]; split <;> rfl
    rw [x1, x2]
  · have x1 : ri U2 2 i = ri U1 2 i := by rw [b2 2 i, if_neg (show ¬ 2 = 3 by omega)]; split <;> rfl
    rw [x1, a2 2 i, if_pos hi, if_pos rfl]
  · have x2 : ri U1 19 i = ri τ 19 i := by rw [a2 19 i, if_neg (show ¬ 19 = 2 by omega)]; split <;> rfl
    rw [b2 3 i, if_pos hi, if_pos rfl, x2]
-- the seeds
theorem nI_and (a b : Nat) : nI a &&& nI b = nI (a &&& b) := by
  apply Int32.toBitVec_inj.mp
  rw [Int32.toBitVec_and]
  exact BitVec.ofNat_and.symm
theorem lN_and (a b : Nat) : lN a &&& lN b = lN (a &&& b) := by
  apply Int64.toBitVec_inj.mp
  rw [Int64.toBitVec_and]
  exact BitVec.ofNat_and.symm
theorem lN_mul' (a b : Nat) : lN a * lN b = lN (a * b) := (Int64.ofNat_mul a b).symm
def lcg (m : Nat) : Nat := (1103515245 * m + 12345) % 2 ^ 31
theorem lcg_lt (m : Nat) : lcg m < 2 ^ 31 := Nat.mod_lt _ (by decide)
theorem seedAfter_s (m : Nat) : f_X9_seedAfter (nI m) = some (nI (lcg m)) := by
  unfold f_X9_seedAfter lcg
  rw [show (1103515245 : Int32) = nI 1103515245 from rfl, pk_mul, show (12345 : Int32) = nI 12345 from rfl, nI_add, show (2147483647 : Int32) = nI (2 ^ 31 - 1) from rfl, nI_and, Nat.and_two_pow_sub_one_eq_mod]
theorem seedR_s (m : Nat) : ((1103515245 : Int64) * lN m + 12345) &&& 2147483647 = lN (lcg m) := by
  unfold lcg
  rw [show (1103515245 : Int64) = lN 1103515245 from rfl, lN_mul', show (12345 : Int64) = lN 12345 from rfl, lN_add, show (2147483647 : Int64) = lN (2 ^ 31 - 1) from rfl, lN_and, Nat.and_two_pow_sub_one_eq_mod]
theorem drawOf_s {n m : Nat} (h0 : 0 < n) (hn : n < 100) (hm : m < 2 ^ 31) : f_X9_drawOf (nI n) (nI m) = some (nI (m / 65536 % n)) := by
  unfold f_X9_drawOf
  rw [if_pos (show 1 ≤ nI n from nI_le (a := 1) (by omega) (by omega)), gd_t _ (by unfold nz; rw [decide_eq_true_eq]; exact nI_ne0 h0 (by omega)), show (65536 : Int32) = nI 65536 from rfl, pk_div hm (by decide) (by decide), pk_rem (by omega) h0 (by omega)]
theorem ul_l (τ : SR) (j : Nat) (x : Int64) : rl (ul τ j x) j = x := pk_uLs
theorem draw_s {τ : SR} {n m : Nat} (h0 : 0 < n) (hn : n < 100) (h : rl τ 32 = lN m) : f_X10_draw τ (nI n) = some (nI (lcg m / 65536 % n), ul τ 32 (lN (lcg m))) := by
  have hm := lcg_lt m
  unfold f_X10_draw
  simp only [bv]
  rw [h, seedR_s, nI_l (by omega), gd_t _ (by unfold nzL; rw [decide_eq_true_eq]; exact fun z => by have := (pk_lEQ (a := n) (b := 0) (by omega) (by omega)).mp z; omega)]
  rw [ul_l, show (65536 : Int64) = lN 65536 from rfl, pk_lDiv (by omega) (by decide) (by decide), pk_lRem (by omega) h0 (by omega)]
  have e2 : (lN (lcg m / 65536 % n)).toInt32 = nI (lcg m / 65536 % n) := Int64.toInt32_ofNat
  rw [e2]
theorem ul_r (τ : SR) (j : Nat) (x : Int64) (c : Nat) : ri (ul τ j x) c = ri τ c := rfl
theorem rl_eq {τ τ' : SR} (h : τ'.2 = τ.2) (j : Nat) : rl τ' j = rl τ j := by unfold rl; rw [h]
-- one draw
def dI (n m : Nat) : Nat := lcg m / 65536 % n
def dX (m : Nat) : Int32 := nI (4 * (lcg (lcg m) / 65536 % 6) + lcg (lcg (lcg m)) / 65536 % 4)
def dStep (s : Nat × Nat × List Wt) : Nat × Nat × List Wt := (s.1 + (if takesB (atW s.2.2 (dI s.2.2.length s.2.1)) (dX s.2.1) then 1 else 0), lcg (lcg (lcg s.2.1)), showH s.2.2 (dI s.2.2.length s.2.1) (dX s.2.1))
def dIt (s : Nat × Nat × List Wt) : Nat → Nat × Nat × List Wt
  | 0 => s
  | k + 1 => dStep (dIt s k)
theorem dX_ok (m : Nat) : okS (dX m) := by
  unfold okS dX
  rw [nI_toInt (by omega)]
  omega
theorem dIt_ok {m : Nat} {ws : List Wt} (hw : WFs ws) (h0 : 0 < ws.length) (hm : m < 2 ^ 31) (k : Nat) : WFs (dIt (0, m, ws) k).2.2 ∧ (dIt (0, m, ws) k).2.2.length = ws.length ∧ (dIt (0, m, ws) k).2.1 < 2 ^ 31 := by
  induction k with
  | zero => exact ⟨hw, rfl, hm⟩
  | succ k ih =>
    obtain ⟨i1, i2, i3⟩ := ih
    rw [dIt, dStep]
    refine ⟨showH_wf ?_ i1 (dX_ok _), (showH_len _ _ _).trans i2, lcg_lt _⟩
    exact Nat.mod_lt _ (by omega)
theorem sight_e (a b : Nat) : nI a * 4 + nI b = nI (4 * a + b) := by rw [show (4 : Int32) = nI 4 from rfl, pk_mul, nI_add, Nat.mul_comm]
theorem op_drawn (n : Nat) (σ : St) (τ : SR) (a1 a2 a3 : Int32) (hn : n < 512) (h : Rel n σ τ) : ∃ (r : Int32) (σ' : St) (τ' : SR), f_X9_drawn σ a1 a2 a3 = some (r, σ') ∧ f_X10_drawn τ a1 a2 a3 = some (r, τ') ∧ Rel (n + 1) σ' τ' := by
  have hR := Rel_up n σ τ h
  obtain ⟨q, cs, wa, pg, kp, hg, hc, hr⟩ := h
  unfold f_X9_drawn f_X10_drawn
  rw [within9, within10, bo_s, bo_s]
  rcases wi_or a1 1 60 with h1 | ⟨h1, t1, t2⟩
  · rw [h1, if_pos rfl, if_pos rfl]; exact ⟨_, _, _, rfl, rfl, hR⟩
  rw [h1, if_neg one0, if_neg one0]
  by_cases h2 : a2 < 0
  · rw [if_pos h2, if_pos h2]; exact ⟨_, _, _, rfl, rfl, hR⟩
  rw [if_neg h2, if_neg h2, within9, within10, bo_s, bo_s]
  by_cases h3 : wi a3 0 2 = 0
  · rw [if_pos h3, if_pos h3]; exact ⟨_, _, _, rfl, rfl, hR⟩
  rw [if_neg h3, if_neg h3]
  rcases wall_or hn hg hc hr with ⟨-, w1, w2⟩ | ⟨w0, w1, w2⟩
  · rw [w1, bo_s, if_pos rfl, if_pos w2]; exact ⟨_, _, _, rfl, rfl, hR⟩
  rw [w1, bo_s, if_neg one0, if_neg w2]
  have hl := GD_n hg
  have hws := hg.1.1
  obtain ⟨N, hN, rfl⟩ : ∃ N : Nat, N ≤ 60 ∧ a1 = nI N := wi_nat (m := 60) (by decide) (by rw [Int32.le_iff_toInt_le] at t1 ⊢; have e : (1 : Int32).toInt = 1 := rfl; have e0 : (0 : Int32).toInt = 0 := rfl; omega) t2
  obtain ⟨m, hm, rfl⟩ := nI_of h2
  obtain ⟨T, e1, e2, e3⟩ := copyH_s (k := 64) (a := 23) hws (by omega) hc.1.1
  obtain ⟨U, u1, u2, u3, u4, u5⟩ := lay_s τ
  -- the class
  obtain ⟨y, hy, σ', y1, y2, y3⟩ := lp_up0 (body := fun (s9 : Int32 × Int32 × Int32 × St) => b_X9_drawn_59 (nI N) s9.1 s9.2.1 s9.2.2.1 s9.2.2.2) (s := (0, nI m, 0, T)) (fun y => ∃ σ', y = (nI (dIt (0, m, q.1) N).1, nI (dIt (0, m, q.1) N).2.1, σ') ∧ (∀ c, (c < 64 ∨ 77 ≤ c) → σ' c = σ c) ∧ HallC σ' 64 (dIt (0, m, q.1) N).2.2)
    (fun j s => s.1 = nI (dIt (0, m, q.1) j).1 ∧ s.2.1 = nI (dIt (0, m, q.1) j).2.1 ∧ s.2.2.1 = nI j ∧ (∀ c, (c < 64 ∨ 77 ≤ c) → s.2.2.2 c = σ c) ∧ HallC s.2.2.2 64 (dIt (0, m, q.1) j).2.2) N (by omega) ⟨rfl, rfl, rfl, fun c hc => e2 c (by omega), e3⟩
    (fun j s hj hI => by
      obtain ⟨c0, c1, c2, V⟩ := s
      obtain ⟨rfl, rfl, rfl, g1, g2⟩ := hI
      dsimp only at g1 g2
      obtain ⟨d1, d2, d3⟩ := dIt_ok hws w0 hm j
      generalize hD : dIt (0, m, q.1) j = D at *
      obtain ⟨D1, D2, D3⟩ := D
      dsimp only at d1 d2 d3 g2 ⊢
      have hi : dI D3.length D2 < D3.length := Nat.mod_lt _ (by omega)
      obtain ⟨V2, v1, v2, v3⟩ := meetsH_s g2 d1 hi (dX_ok D2)
      have hst : b_X9_drawn_59 (nI N) (nI D1) (nI D2) (nI j) V = some (.inl (nI (dStep (D1, D2, D3)).1, nI (dStep (D1, D2, D3)).2.1, nI (j + 1), V2)) := by
        unfold b_X9_drawn_59
        rw [if_neg (nI_ge hj (by omega)), seedAfter_s, bo_s, g2.1, drawOf_s (by omega) (by omega) (lcg_lt _), bo_s, seedAfter_s, bo_s, show (6 : Int32) = nI 6 from rfl, drawOf_s (by omega) (by omega) (lcg_lt _), bo_s, seedAfter_s, bo_s, show f_X9_drawOf 4 (nI (lcg (lcg (lcg D2)))) = _ from drawOf_s (n := 4) (by omega) (by omega) (lcg_lt _), bo_s, sight_e]
        change gd (inb (nI (dI D3.length D2)) 5) (bo (f_X7_meets (67 + 2 * (nI (dI D3.length D2)).toNatClampNeg) V (dX D2)) _) = _
        rw [gd_t _ (inb_nI (by omega) (by decide)), nI_clamp (by omega), v1, bo_s, dStep]
        simp only [bv, nI_1]
        by_cases ht : takesB (atW D3 (dI D3.length D2)) (dX D2) = true
        · rw [if_pos ht, if_neg one0, if_pos ht]
        · rw [if_neg ht, if_pos rfl, if_neg ht]
          rfl
      refine Or.inl ⟨_, hst, ?_, ?_, rfl, fun c hc => ?_, ?_⟩
      · show _ = nI (dStep (dIt (0, m, q.1) j)).1
        rw [hD]
      · show _ = nI (dStep (dIt (0, m, q.1) j)).2.1
        rw [hD]
      · show V2 c = _
        rw [v2 c (by omega) (by omega), g1 c hc]
      · show HallC V2 64 (dStep (dIt (0, m, q.1) j)).2.2
        rw [hD]
        exact v3)
    (fun s hI => by
      obtain ⟨c0, c1, c2, V⟩ := s
      obtain ⟨rfl, rfl, rfl, g1, g2⟩ := hI
      dsimp only at g1 g2
      refine ⟨_, ?_, V, rfl, g1, g2⟩
      dsimp only
      unfold b_X9_drawn_59
      rw [if_pos (nI_le (Nat.le_refl _) (by omega))])
  -- the reference
  have hU : HR (ul U 32 (nI m).toInt64) q.1 := by
    refine ⟨?_, ?_⟩
    · rw [ul_r, u3 0 (by omega) (by omega)]; exact hr.1
    · rw [ul_r, ul_r, ul_r, u3 1 (by omega) (by omega), u3 2 (by omega) (by omega), u3 3 (by omega) (by omega)]; exact hr.2.1
  obtain ⟨z, hz, τ', z1, z2, z3, z4⟩ := lp_up0 (body := fun (s3 : Int32 × Int32 × SR) => b_X10_drawnNow_16 (nI N) s3.1 s3.2.1 s3.2.2) (s := (0, 0, ul U 32 (nI m).toInt64)) (fun y => ∃ τ', y = (nI (dIt (0, m, q.1) N).1, τ') ∧ (∀ c, c ≠ 2 → c ≠ 3 → ri τ' c = ri U c) ∧ rl τ' 32 = lN (dIt (0, m, q.1) N).2.1 ∧ HR τ' (dIt (0, m, q.1) N).2.2)
    (fun j s => s.1 = nI (dIt (0, m, q.1) j).1 ∧ s.2.1 = nI j ∧ (∀ c, c ≠ 2 → c ≠ 3 → ri s.2.2 c = ri U c) ∧ rl s.2.2 32 = lN (dIt (0, m, q.1) j).2.1 ∧ HR s.2.2 (dIt (0, m, q.1) j).2.2) N (by omega) ⟨rfl, rfl, fun c _ _ => rfl, by show rl (ul U 32 (nI m).toInt64) 32 = lN m; rw [ul_l, nI_l hm], hU⟩
    (fun j s hj hI => by
      obtain ⟨c0, c1, V⟩ := s
      obtain ⟨rfl, rfl, g1, g3, g2⟩ := hI
      dsimp only at g1 g2 g3
      obtain ⟨d1, d2, d3⟩ := dIt_ok hws w0 hm j
      generalize hD : dIt (0, m, q.1) j = D at *
      obtain ⟨D1, D2, D3⟩ := D
      dsimp only at d1 d2 d3 g2 g3 ⊢
      have hi : dI D3.length D2 < D3.length := Nat.mod_lt _ (by omega)
      have g2' : HR (ul (ul (ul V 32 (lN (lcg D2))) 32 (lN (lcg (lcg D2)))) 32 (lN (lcg (lcg (lcg D2))))) D3 := g2
      obtain ⟨V2, v1, v2, v3, v4⟩ := showR_s g2' d1 hi (dX_ok D2)
      have hst : b_X10_drawnNow_16 (nI N) (nI D1) (nI j) V = some (.inl (nI (dStep (D1, D2, D3)).1, nI (j + 1), V2)) := by
        unfold b_X10_drawnNow_16
        rw [if_neg (nI_ge hj (by omega)), g2.1, draw_s (by omega) (by omega) g3, bo_s]
        dsimp only
        rw [show f_X10_draw (ul V 32 (lN (lcg D2))) 6 = _ from draw_s (n := 6) (by omega) (by omega) (ul_l _ _ _), bo_s]
        dsimp only
        rw [show f_X10_draw (ul (ul V 32 (lN (lcg D2))) 32 (lN (lcg (lcg D2)))) 4 = _ from draw_s (n := 4) (by omega) (by omega) (ul_l _ _ _), bo_s]
        dsimp only
        rw [m4]
        change bo (f_X10_showNow _ (nI (dI D3.length D2)) (dX D2)) _ = _
        rw [v1, bo_s, dStep]
        simp only [bv, nI_1, i_add0]
        by_cases ht : takesB (atW D3 (dI D3.length D2)) (dX D2) = true
        · rw [if_pos ht, if_neg one0, if_pos ht]
        · rw [if_neg ht, if_pos rfl, if_neg ht]
          rfl
      refine Or.inl ⟨_, hst, ?_, rfl, fun c h2 h3 => ?_, ?_, ?_⟩
      · show _ = nI (dStep (dIt (0, m, q.1) j)).1
        rw [hD]
      · show ri V2 c = _
        rw [v3 c h2 h3]
        exact g1 c h2 h3
      · show rl V2 32 = lN (dStep (dIt (0, m, q.1) j)).2.1
        rw [hD, rl_eq v2, ul_l]
        rfl
      · show HR V2 (dStep (dIt (0, m, q.1) j)).2.2
        rw [hD]
        exact v4)
    (fun s hI => by
      obtain ⟨c0, c1, V⟩ := s
      obtain ⟨rfl, rfl, g1, g3, g2⟩ := hI
      dsimp only at g1 g2 g3
      refine ⟨_, ?_, V, rfl, g1, g3, g2⟩
      dsimp only
      unfold b_X10_drawnNow_16
      rw [if_pos (nI_le (Nat.le_refl _) (by omega))])
  subst y1 z1
  obtain ⟨L, l1, l2, l3, l4, l5⟩ := layBack_s τ'
  obtain ⟨d1, d2, d3⟩ := dIt_ok hws w0 hm N
  generalize dIt (0, m, q.1) N = D at *
  obtain ⟨D1, D2, D3⟩ := D
  dsimp only at *
  have hrel : Rel (n + 1) σ' L := by
    refine ⟨q, cs, wa, pg, kp, GD_up hg, CR_c hl (GD_k hg) (fun k hk => y2 k (by unfold tl at hk; omega)) (by rw [y2 1 (by omega)]) hc, RR_s hws (fun j _ _ _ _ => ?_) (fun c hc => ?_) (fun p hp => ?_) (fun i hi => ?_) hr⟩
    · rw [l3 0 (by omega) (by omega), z2 0 (by omega) (by omega), u3 0 (by omega) (by omega)]
    · rw [l3 c (by omega) (by omega), z2 c (by omega) (by omega), u3 c (by omega) (by omega)]
    · rw [l4 p hp, z2 18 (by omega) (by omega), u4 p hp]
    · rw [l5 i hi, z2 19 (by omega) (by omega), u5 i hi]
  unfold f_X10_drawnNow
  rw [e1, bo_s, hy, bo_s, u1, bo_s]
  simp only [bv]
  rw [hz, bo_s]
  dsimp only
  by_cases q0 : a3 = 0
  · rw [if_pos q0, if_pos q0, bo_s, l1]
    exact ⟨nI D1, σ', L, rfl, rfl, hrel⟩
  rw [if_neg q0, if_neg q0]
  by_cases q1 : a3 = 1
  · rw [if_pos q1, if_pos q1, everyone_s y3.1 (by omega), everybody_s z4.1 (by omega), bo_s, bo_s, clashesAmong_s y3 d1, clashesAmongR z4 d1, bo_s, bo_s, bo_s, l1]
    generalize ca D3 (nI (2 ^ D3.length - 1)) = r
    exact ⟨r, σ', L, rfl, rfl, hrel⟩
  · have e9 : (lN D2).toInt32 = nI D2 := Int64.toInt32_ofNat
    rw [if_neg q1, if_neg q1, bo_s, l1, z3, e9]
    exact ⟨nI D2, σ', L, rfl, rfl, hrel⟩

/-! the pure side, 18: the least order; term -/
def chs (f : Nat → Nat) (W : Int32) (h : Nat) : Nat → Bool
  | 0 => decide (f h = nx f W h 4)
  | c + 1 => canw W h c && decide (1 + f (h ||| 2 ^ c) = nx f W h 4)
def lch (f : Nat → Nat) (W : Int32) (h : Nat) : Nat := if chs f W h 0 = true then 0 else if chs f W h 1 = true then 1 else if chs f W h 2 = true then 2 else if chs f W h 3 = true then 3 else 4
theorem lch_le (f : Nat → Nat) (W : Int32) (h : Nat) : lch f W h ≤ 4 := by
  unfold lch
  (repeat' split) <;> omega
theorem lch_at {f : Nat → Nat} {W : Int32} {h j : Nat} (hj : j < 4) (h1 : chs f W h j = true) (h2 : ∀ i, i < j → chs f W h i = false) : lch f W h = j := by
  unfold lch
  rcases (by omega : j = 0 ∨ j = 1 ∨ j = 2 ∨ j = 3) with rfl | rfl | rfl | rfl
  · rw [if_pos h1]
  · rw [h2 0 (by omega), if_neg (by decide), if_pos h1]
  · rw [h2 0 (by omega), h2 1 (by omega), if_neg (by decide), if_neg (by decide), if_pos h1]
  · rw [h2 0 (by omega), h2 1 (by omega), h2 2 (by omega), if_neg (by decide), if_neg (by decide), if_neg (by decide), if_pos h1]
theorem nx_att (f : Nat → Nat) (W : Int32) (h : Nat) : ∀ n, nx f W h n = f h ∨ ∃ c, c < n ∧ canw W h c = true ∧ 1 + f (h ||| 2 ^ c) = nx f W h n := by
  intro n
  induction n with
  | zero => exact Or.inl rfl
  | succ n ih =>
    rw [nx]
    by_cases e : canw W h n = true
    · rw [if_pos e]
      by_cases e2 : nx f W h n ≤ 1 + f (h ||| 2 ^ n)
      · rw [Nat.max_eq_right e2]
        exact Or.inr ⟨n, by omega, e, rfl⟩
      · rw [Nat.max_eq_left (by omega)]
        rcases ih with ih | ⟨c, h1, h2, h3⟩
        · exact Or.inl ih
        · exact Or.inr ⟨c, by omega, h2, h3⟩
    · rw [if_neg e, Nat.max_eq_left (by omega)]
      rcases ih with ih | ⟨c, h1, h2, h3⟩
      · exact Or.inl ih
      · exact Or.inr ⟨c, by omega, h2, h3⟩
theorem chs_att (f : Nat → Nat) (W : Int32) (h : Nat) : ∃ j, j ≤ 4 ∧ chs f W h j = true := by
  rcases nx_att f W h 4 with e | ⟨c, h1, h2, h3⟩
  · exact ⟨0, by omega, by simp [chs, e]⟩
  · exact ⟨c + 1, by omega, by simp [chs, h2, h3]⟩
theorem leastChoice_s {σ : St} {f : Nat → Nat} {d h k : Nat} (hf : ∀ h, h < 16 → σ 79 (16 * (d + 1) + h) = nI (f h)) (hm : σ 79 (16 * d + h) = nI (nx f (σ 78 d) h 4)) (hk : ∀ h, f h ≤ k) (hk6 : k ≤ 6) (hd : d ≤ 6) (hh : h < 16) : f_X6_leastChoice σ (nI d) (nI h) = some (nI (lch f (σ 78 d) h)) := by
  have hn := nx_le hk (σ 78 d) h 4
  have hst : ∀ j, j < 4 → b_X6_leastChoice_2 σ (nI d) (nI h) (nI j) = if chs f (σ 78 d) h j = true then some (.inr (.inr (nI j))) else some (.inl (nI (j + 1))) := by
    intro j hj
    unfold b_X6_leastChoice_2
    rw [if_neg (show ¬ 4 ≤ nI j from nI_ge (b := 4) hj (by decide)), i16, nI_clamp (by omega), hm]
    cases j with
    | zero =>
      have := hk h
      rw [show nI 0 = (0 : Int32) from rfl, wonBy0 hf hd hh, bo_s, gd_t _ (inb_nI (by omega) (by decide))]
      by_cases e : f h = nx f (σ 78 d) h 4
      · rw [if_pos (by rw [← e]), if_pos (by simp [chs, ← e])]
      · rw [if_neg (fun z => e ((nI_eq (by omega) (by omega)).mp z)), if_neg (by simp [chs, e])]
        rfl
    | succ c =>
      have := hk (h ||| 2 ^ c)
      rw [wonByS hf hd hh (by omega), bo_s, gd_t _ (inb_nI (by omega) (by decide))]
      by_cases e : canw (σ 78 d) h c = true
      · rw [if_pos e]
        by_cases e2 : 1 + f (h ||| 2 ^ c) = nx f (σ 78 d) h 4
        · rw [if_pos (by rw [← e2]), if_pos (by simp [chs, e, ← e2])]
        · rw [if_neg (fun z => e2 ((nI_eq (by omega) (by omega)).mp z)), if_neg (by simp [chs, e2])]
          simp only [bv, nI_1]
      · rw [if_neg e, if_neg (fun z => m1_ne _ (by omega) z.symm), if_neg (by simp [chs, e])]
        simp only [bv, nI_1]
  obtain ⟨y, hy, hv⟩ := lp_up0 (body := fun (s1 : Int32) => b_X6_leastChoice_2 σ (nI d) (nI h) s1) (s := 0) (fun x => Sum.elim (fun (_ : Unit) => some (4 : Int32)) (fun (x2 : Int32) => some x2) x = some (nI (lch f (σ 78 d) h)))
    (fun j s => s = nI j ∧ ∀ i, i < j → chs f (σ 78 d) h i = false) 4 (by decide) ⟨rfl, fun i hi => absurd hi (by omega)⟩
    (fun j s hj hI => by
      obtain ⟨rfl, g⟩ := hI
      have := hst j hj
      by_cases e : chs f (σ 78 d) h j = true
      · rw [if_pos e] at this
        exact Or.inr ⟨_, this, by rw [lch_at hj e g]; rfl⟩
      · rw [if_neg e] at this
        refine Or.inl ⟨_, this, rfl, fun i hi => ?_⟩
        by_cases ei : i = j
        · rw [ei]; exact Bool.eq_false_iff.mpr e
        · exact g i (by omega))
    (fun s hI => by
      obtain ⟨rfl, g⟩ := hI
      refine ⟨.inl (), by unfold b_X6_leastChoice_2; rw [if_pos (by decide)], ?_⟩
      have e : lch f (σ 78 d) h = 4 := by
        unfold lch
        rw [g 0 (by omega), g 1 (by omega), g 2 (by omega), g 3 (by omega)]
        rfl
      rw [e]
      rfl)
  unfold f_X6_leastChoice
  rw [hy, bo_s]
  exact hv
-- the reference's search, from the last case to the first
theorem lp_congr_on {S X : Type} {b1 b2 : S → Option (S ⊕ X)} (I : S → Prop) (h : ∀ s, I s → b1 s = b2 s) (hs : ∀ s s', I s → b2 s = some (.inl s') → I s') : ∀ (n : Nat) (s : S), I s → lp b1 n s = lp b2 n s
  | 0, _, _ => rfl
  | n + 1, s, hI => by
    rw [lp, lp, h s hI]
    cases hb : b2 s with
    | none => rfl
    | some r =>
      cases r with
      | inl s' => exact lp_congr_on I h hs n s' (hs s s' hI hb)
      | inr x => rfl
def pb (g : Nat → Bool) (c18 c19 : Int32) : Option ((Int32 × Int32) ⊕ Int32) := if c19 < 0 then some (.inr c18) else if c18 = 0 then some (.inr c18) else if g c19.toNatClampNeg = true then some (.inl (c19 + 1, c19 + (-1))) else some (.inl (c18, c19 + (-1)))
def g4 (a b c d : Bool) : Nat → Bool := fun j => if j = 0 then a else if j = 1 then b else if j = 2 then c else d
theorem pb_dec : ∀ n, n < 5 → ∀ a b c d : Bool, lp (fun (s : Int32 × Int32) => pb (g4 a b c d) s.1 s.2) 5000 (268435456, nI n - 1) = some (if 0 < n ∧ a = true then 1 else if 1 < n ∧ b = true then 2 else if 2 < n ∧ c = true then 3 else if 3 < n ∧ d = true then 4 else 268435456) := by decide +kernel
theorem pb_zero : ∀ n, n < 5 → ∀ g : Nat → Bool, lp (fun (s : Int32 × Int32) => pb g s.1 s.2) 5000 (0, nI n - 1) = some 0 := by
  intro n hn g
  rw [show (5000 : Nat) = 4999 + 1 from rfl]
  apply lp_inr
  dsimp only
  unfold pb
  cases n with
  | zero => rw [if_pos (by decide)]
  | succ m => rw [nI_m1, if_neg (nI_pos (by omega)), if_pos rfl]
theorem search_s {τ : SR} {f : Nat → Nat} {d h k n : Nat} (hn : n ≤ 4) (hf : ∀ h, h < 16 → ri τ 21 (16 * (d + 1) + h) = nI (f h)) (hk : ∀ h, f h ≤ k) (hk6 : k ≤ 6) (hd : d ≤ 6) (hh : h < 16) (hz : ∀ c, n ≤ c → c < 4 → (ri τ 20 d).toBitVec.getLsbD c = false) : lp (fun (s15 : Int32 × Int32) => b_X10_orderNow_59 τ (nI h) (nI d) (nI (nx f (ri τ 20 d) h 4)) s15.1 s15.2) 5000 ((if nI (f h) = nI (nx f (ri τ 20 d) h 4) then 0 else 268435456), nI n - 1) = some (nI (lch f (ri τ 20 d) h)) := by
  have hnx := nx_le hk (ri τ 20 d) h 4
  have hfh := hk h
  have hcon : ∀ (w : Int32), lp (fun (s15 : Int32 × Int32) => b_X10_orderNow_59 τ (nI h) (nI d) (nI (nx f (ri τ 20 d) h 4)) s15.1 s15.2) 5000 (w, nI n - 1) = lp (fun (s : Int32 × Int32) => pb (g4 (chs f (ri τ 20 d) h 1) (chs f (ri τ 20 d) h 2) (chs f (ri τ 20 d) h 3) (chs f (ri τ 20 d) h 4)) s.1 s.2) 5000 (w, nI n - 1) := by
    intro w
    refine lp_congr_on (fun s => ∃ m, m ≤ 4 ∧ s.2 = nI m - 1) (fun s hI => ?_) (fun s s' hI hb => ?_) 5000 _ ⟨n, hn, rfl⟩
    · obtain ⟨c18, c19⟩ := s
      obtain ⟨m, hm, rfl⟩ := hI
      dsimp only
      unfold b_X10_orderNow_59 pb
      cases m with
      | zero => rw [if_pos (by decide), if_pos (by decide)]
      | succ c =>
        obtain ⟨o1, o2⟩ := ob_dec h hh c (by omega)
        have hfo := hk (h ||| 2 ^ c)
        rw [nI_m1, if_neg (nI_pos (by omega)), if_neg (nI_pos (by omega))]
        by_cases e0 : c18 = 0
        · rw [if_pos e0, if_pos e0]
        · rw [if_neg e0, if_neg e0, gd_t _ (inb_nI (by omega) (by decide)), nI_clamp (show d < 2 ^ 31 by omega), isIn_s, bo_s, o1, nI_1, i16', nI_clamp (by omega), hf _ o2, gd_t _ (inb_nI (by omega) (by decide)), nI_clamp (show c < 2 ^ 31 by omega)]
          have hg : g4 (chs f (ri τ 20 d) h 1) (chs f (ri τ 20 d) h 2) (chs f (ri τ 20 d) h 3) (chs f (ri τ 20 d) h 4) c = chs f (ri τ 20 d) h (c + 1) := by
            rcases (by omega : c = 0 ∨ c = 1 ∨ c = 2 ∨ c = 3) with rfl | rfl | rfl | rfl <;> rfl
          rw [hg]
          simp only [bv]
          by_cases e : canw (ri τ 20 d) h c = true
          · rw [if_pos (show bt (ri τ 20 d &&& (nI h ^^^ (-1))) c from (bt_iff _ (by omega)).mpr (by rw [canw_get _ hh (by omega)]; exact e)), if_neg one0, show (1 : Int32) + nI (f (h ||| 2 ^ c)) = nI (1 + f (h ||| 2 ^ c)) from nI_add 1 _]
            by_cases e2 : 1 + f (h ||| 2 ^ c) = nx f (ri τ 20 d) h 4
            · rw [if_pos (show nI (1 + f (h ||| 2 ^ c)) = nI (nx f (ri τ 20 d) h 4) from by rw [e2]), bo_s, if_neg one0, if_pos (by simp [chs, e, e2]), nI_1]
            · rw [if_neg (show ¬ nI (1 + f (h ||| 2 ^ c)) = nI (nx f (ri τ 20 d) h 4) from fun z => e2 ((nI_eq (by omega) (by omega)).mp z)), bo_s, if_pos rfl, if_neg (by simp [chs, e2])]
          · rw [if_neg (show ¬ bt (ri τ 20 d &&& (nI h ^^^ (-1))) c from fun z => e (by rw [bt_iff _ (by omega), canw_get _ hh (by omega)] at z; exact z)), if_pos rfl, bo_s, if_pos rfl, if_neg (by simp [chs, e])]
    · obtain ⟨c18, c19⟩ := s
      obtain ⟨m, hm, rfl⟩ := hI
      dsimp only at hb
      unfold pb at hb
      cases m with
      | zero => rw [if_pos (by decide)] at hb; cases hb
      | succ c =>
        rw [nI_m1, if_neg (nI_pos (by omega))] at hb
        by_cases e0 : c18 = 0
        · rw [if_pos e0] at hb; cases hb
        · rw [if_neg e0] at hb
          split at hb <;> (cases hb; exact ⟨c, by omega, nI_sub1 c⟩)
  rw [hcon]
  by_cases e0 : f h = nx f (ri τ 20 d) h 4
  · rw [if_pos (by rw [← e0]), pb_zero n (by omega), lch_at (j := 0) (by omega) (by simp [chs, ← e0]) (fun i hi => absurd hi (by omega))]
    rfl
  · rw [if_neg (fun z => e0 ((nI_eq (by omega) (by omega)).mp z)), pb_dec n (by omega)]
    have c0 : chs f (ri τ 20 d) h 0 = false := by simp [chs, e0]
    have cz : ∀ c, n ≤ c → c < 4 → chs f (ri τ 20 d) h (c + 1) = false := fun c h1 h2 => by simp [chs, canw, hz c h1 h2]
    have cl' : ∀ c, c < 4 → chs f (ri τ 20 d) h (c + 1) = true → c < n := fun c h2 h3 => by
      by_cases q : n ≤ c
      · rw [cz c q h2] at h3; cases h3
      · omega
    by_cases e1 : chs f (ri τ 20 d) h 1 = true
    · rw [if_pos ⟨cl' 0 (by omega) e1, e1⟩, lch_at (j := 1) (by omega) e1 (fun i hi => by rw [show i = 0 by omega]; exact c0)]; rfl
    rw [if_neg (fun z => e1 z.2)]
    have e1' := Bool.eq_false_iff.mpr e1
    by_cases e2 : chs f (ri τ 20 d) h 2 = true
    · rw [if_pos ⟨cl' 1 (by omega) e2, e2⟩, lch_at (j := 2) (by omega) e2 (fun i hi => by rcases (by omega : i = 0 ∨ i = 1) with rfl | rfl; exact c0; exact e1')]; rfl
    rw [if_neg (fun z => e2 z.2)]
    have e2' := Bool.eq_false_iff.mpr e2
    by_cases e3 : chs f (ri τ 20 d) h 3 = true
    · rw [if_pos ⟨cl' 2 (by omega) e3, e3⟩, lch_at (j := 3) (by omega) e3 (fun i hi => by rcases (by omega : i = 0 ∨ i = 1 ∨ i = 2) with rfl | rfl | rfl; exact c0; exact e1'; exact e2')]; rfl
    rw [if_neg (fun z => e3 z.2)]
    have e3' := Bool.eq_false_iff.mpr e3
    have e4 : chs f (ri τ 20 d) h 4 = true := by
      obtain ⟨j, hj, hc⟩ := chs_att f (ri τ 20 d) h
      rcases (by omega : j = 0 ∨ j = 1 ∨ j = 2 ∨ j = 3 ∨ j = 4) with rfl | rfl | rfl | rfl | rfl
      · rw [c0] at hc; cases hc
      · exact absurd hc e1
      · exact absurd hc e2
      · exact absurd hc e3
      · exact hc
    rw [if_pos ⟨cl' 3 (by omega) e4, e4⟩]
    have e5 : lch f (ri τ 20 d) h = 4 := by
      unfold lch
      rw [c0, e1', e2', e3']
      rfl
    rw [e5]
    rfl
-- the order
def os (W : Nat → Int32) : Nat → Int32 × Nat
  | 0 => (0, 0)
  | d + 1 => (10 * (os W d).1 + nI (lch (mst W (5 - d)) (W (d + 1)) (os W d).2), if lch (mst W (5 - d)) (W (d + 1)) (os W d).2 = 0 then (os W d).2 else (os W d).2 ||| 2 ^ (lch (mst W (5 - d)) (W (d + 1)) (os W d).2 - 1))
theorem os_lt (W : Nat → Int32) (d : Nat) : (os W d).2 < 16 := by
  induction d with
  | zero => exact (by decide : 0 < 16)
  | succ d ih =>
    rw [os]
    dsimp only
    have := lch_le (mst W (5 - d)) (W (d + 1)) (os W d).2
    split
    · exact ih
    · exact (ob_dec _ ih _ (by omega)).2
theorem or_step {h c : Nat} (hh : h < 16) (hc : c ≤ 4) (h0 : ¬ c = 0) : nI h ||| ((1 : Int32) <<< ((nI c - 1) &&& 31)) = nI (h ||| 2 ^ (c - 1)) := by
  obtain ⟨m, rfl⟩ : ∃ m, c = m + 1 := ⟨c - 1, by omega⟩
  rw [nI_m1, Nat.add_sub_cancel]
  exact (ob_dec h hh m (by omega)).1
theorem leastOrder_s {σ : St} {W : Nat → Int32} (hW : ∀ d, 1 ≤ d → d ≤ 6 → σ 78 d = W d) (hM : ∀ d, 1 ≤ d → d ≤ 7 → ∀ h, h < 16 → σ 79 (16 * d + h) = nI (mst W (7 - d) h)) : f_X6_leastOrder σ = some (os W 6).1 := by
  unfold f_X6_leastOrder
  rw [lp_runs (body := fun (s1 : Int32 × Int32 × Int32) => b_X6_leastOrder_6 σ s1.1 s1.2.1 s1.2.2) (0, 0, 1) (fun d => ((os W d).1, nI (os W d).2, nI (d + 1))) (os W 6).1 6 rfl (by decide) (fun d hd => ?_) ?_, bo_s]
  rotate_left
  · dsimp only
    have hh := os_lt W d
    have hl := leastChoice_s (σ := σ) (f := mst W (5 - d)) (d := d + 1) (h := (os W d).2) (k := 5 - d) (fun h hh => by rw [hM (d + 1 + 1) (by omega) (by omega) h hh, show 7 - (d + 1 + 1) = 5 - d by omega]) (by rw [hM (d + 1) (by omega) (by omega) _ hh, hW (d + 1) (by omega) (by omega), show 7 - (d + 1) = (5 - d) + 1 by omega, mst, show 6 - (5 - d) = d + 1 by omega]) (mst_le W _) (by omega) (by omega) hh
    rw [hW (d + 1) (by omega) (by omega)] at hl
    have hlc := lch_le (mst W (5 - d)) (W (d + 1)) (os W d).2
    unfold b_X6_leastOrder_6
    rw [if_neg (show ¬ 6 < nI (d + 1) from nI_nlt (a := 6) (by omega) (by decide)), hl, bo_s, os]
    simp only [bv, nI_1]
    rw [Int32.mul_comm]
    by_cases e : lch (mst W (5 - d)) (W (d + 1)) (os W d).2 = 0
    · rw [e, if_pos (show nI 0 = 0 from rfl), if_pos rfl, Int32.or_zero]
    · rw [if_neg (nI_ne0 (by omega) (by omega)), if_neg e, or_step hh hlc e]
  · dsimp only
    unfold b_X6_leastOrder_6
    rw [if_pos (by decide)]
theorem orderNow_s {τ : SR} {W : Nat → Int32} {n : Nat} (hn : n ≤ 4) (hcn : ri τ 0 5 = nI n) (hW : ∀ d, 1 ≤ d → d ≤ 6 → ri τ 20 d = W d) (hz : ∀ d, 1 ≤ d → d ≤ 6 → ∀ c, n ≤ c → c < 4 → (W d).toBitVec.getLsbD c = false) (hM : ∀ d, 1 ≤ d → d ≤ 7 → ∀ h, h < 16 → ri τ 21 (16 * d + h) = nI (mst W (7 - d) h)) : f_X10_orderNow τ = some (os W 6).1 := by
  unfold f_X10_orderNow
  rw [lp_runs (body := fun (s1 : Int32 × Int32 × Int32) => b_X10_orderNow_6 τ s1.1 s1.2.1 s1.2.2) (0, 0, 1) (fun d => ((os W d).1, nI (os W d).2, nI (d + 1))) (os W 6).1 6 rfl (by decide) (fun d hd => ?_) ?_, bo_s]
  rotate_left
  · dsimp only
    have hh := os_lt W d
    have hf : ∀ h, h < 16 → ri τ 21 (16 * (d + 1 + 1) + h) = nI (mst W (5 - d) h) := fun h hh => by rw [hM (d + 1 + 1) (by omega) (by omega) h hh, show 7 - (d + 1 + 1) = 5 - d by omega]
    have hm : ri τ 21 (16 * (d + 1) + (os W d).2) = nI (nx (mst W (5 - d)) (W (d + 1)) (os W d).2 4) := by rw [hM (d + 1) (by omega) (by omega) _ hh, show 7 - (d + 1) = (5 - d) + 1 by omega, mst, show 6 - (5 - d) = d + 1 by omega]
    have hl := search_s (τ := τ) (f := mst W (5 - d)) (d := d + 1) (h := (os W d).2) (k := 5 - d) (n := n) hn hf (mst_le W _) (by omega) (by omega) hh (fun c h1 h2 => by rw [hW (d + 1) (by omega) (by omega)]; exact hz (d + 1) (by omega) (by omega) c h1 h2)
    rw [hW (d + 1) (by omega) (by omega)] at hl
    have hlc := lch_le (mst W (5 - d)) (W (d + 1)) (os W d).2
    unfold b_X10_orderNow_6
    rw [if_neg (show ¬ 6 < nI (d + 1) from nI_nlt (a := 6) (by omega) (by decide)), i16', gd_t _ (inb_nI (by omega) (by decide)), nI_clamp (by omega), hm, nI_1, i16', nI_clamp (by omega), hf _ hh, hcn]
    simp only [bv]
    rw [gd_t _ (inb_nI (by omega) (by decide))]
    have hq : (if nI (mst W (5 - d) (os W d).2) = nI (nx (mst W (5 - d)) (W (d + 1)) (os W d).2 4) then (some (0 : Int32)) else (some 268435456)) = some (if nI (mst W (5 - d) (os W d).2) = nI (nx (mst W (5 - d)) (W (d + 1)) (os W d).2 4) then 0 else 268435456) := by split <;> rfl
    rw [hq, bo_s, hl, bo_s, os]
    by_cases e : lch (mst W (5 - d)) (W (d + 1)) (os W d).2 = 0
    · rw [e, if_pos (show nI 0 = 0 from rfl), if_pos rfl, Int32.or_zero]
    · rw [if_neg (nI_ne0 (by omega) (by omega)), if_neg e, or_step hh hlc e]
  · dsimp only
    unfold b_X10_orderNow_6
    rw [if_pos (by decide)]
theorem CR_t {σ σ' : St} {q : AK} {cs : List (Int32 × Int32)} {wa : Nat} {pg : List Int32} {kp : Option AK} (hw : q.1.length ≤ 5) (hk : ∀ z, kp = some z → z.1.length ≤ 5) (h1 : ∀ k, tl k → k ≠ 79 → σ' k = σ k) (h2 : σ' 1 3 = σ 1 3) (h3 : ∀ h, h < 16 → σ' 79 (112 + h) = 0) (h : CR σ q cs wa pg kp) : CR σ' q cs wa pg kp := by
  obtain ⟨a, b, c, d, e, f, g⟩ := h
  have e0 := h1 0 (Or.inl rfl) (by omega)
  refine ⟨ScC_c hw (fun i hi n2 n3 => h1 _ (by unfold tl; omega) (by omega)) a, ?_, by rw [e0]; exact c, by rw [h1 2 (by unfold tl; omega) (by omega), h2]; exact d, by rw [e0]; exact e, fun z hz => ?_, h3⟩
  · unfold CasC at b ⊢
    rw [h1 19 (by unfold tl; omega) (by omega), h1 (19 + 1) (by unfold tl; omega) (by omega), h1 (19 + 2) (by unfold tl; omega) (by omega)]
    exact b
  · rw [e0]
    obtain ⟨f1, f2⟩ := f z hz
    exact ⟨f1, ScC_c (hk z hz) (fun i hi n2 n3 => h1 _ (by unfold tl; omega) (by omega)) f2⟩
theorem term_s {n : Nat} {σ : St} {τ : SR} {q : AK} {cs : List (Int32 × Int32)} {wa : Nat} {pg : List Int32} {kp : Option AK} (hg : GD n q cs wa pg kp) (hc : CR σ q cs wa pg kp) (hr : RR τ q cs wa pg kp) (w1 : f_X9_hasWall σ = some 1) (a1 : Int32) (h1 : ¬ wi a1 0 1 = 0) : ∃ (r : Int32) (σ' : St) (τ' : SR), f_X9_term σ a1 = some (r, σ') ∧ f_X10_termNow τ a1 = some (r, τ') ∧ CR σ' q cs wa pg kp ∧ RR τ' q cs wa pg kp ∧ τ'.2 = τ.2 := by
  have hl := GD_n hg
  have hws := hg.1.1
  have hsl := hg.1.2.2.1
  have hcs := hg.2.1
  -- the class
  obtain ⟨T, e1, e2, e3⟩ := copyH_s (k := 64) (a := 23) hws (by omega) hc.1.1
  have hcT : CasC T 19 cs := by
    have := hc.2.1
    unfold CasC at this ⊢
    rw [e2 19 (by omega), e2 (19 + 1) (by omega), e2 (19 + 2) (by omega)]; exact this
  have hsT : SliC T 36 q.2.1 := by
    have := hc.1.2.1
    unfold SliC at this ⊢
    rw [e2 _ (by omega), e2 _ (by omega), e2 _ (by omega), e2 _ (by omega)]; exact this
  obtain ⟨T2, f1, f2, f3⟩ := goDays_s hl hcs hcT hsT hsl e3 hws rfl
  obtain ⟨T3, g1, g2, g3⟩ := goMost_s f3 (fun h hh => by rw [f2 79 (by omega) (by omega), e2 79 (by omega)]; exact hc.2.2.2.2.2.2 h hh)
  -- the reference
  obtain ⟨U, u1, u2, u3, u4, u5⟩ := lay_s τ
  have hr' := hr
  obtain ⟨r1, r2, r3, r4, r5, r6, r7, r8, -⟩ := hr'
  obtain ⟨V, v1, v2, v3, v4⟩ := layDays_s (τ := U) (sl := q.2.1) (cs := cs) (ws := q.1) hl hcs (by rw [u3 0 (by omega) (by omega), u3 4 (by omega) (by omega), u3 5 (by omega) (by omega)]; exact r6) (by rw [u3 0 (by omega) (by omega), u3 6 (by omega) (by omega), u3 7 (by omega) (by omega), u3 8 (by omega) (by omega)]; exact r3) hsl (by unfold HR; rw [u3 0 (by omega) (by omega), u3 1 (by omega) (by omega), u3 2 (by omega) (by omega), u3 3 (by omega) (by omega)]; exact ⟨r1, r2⟩) hws rfl
  obtain ⟨X, x1, x2, x3, x4, x5⟩ := layBack_s V
  have hz : ∀ d, 1 ≤ d → d ≤ 6 → ∀ c, cs.length ≤ c → c < 4 → (wday q.2.1 cs q.1 d).toBitVec.getLsbD c = false := fun d _ _ c h1 h2 => wb_get _ _ _ _ (by have := hcs.1; omega) _ (by omega) h1
  have hX5 : ri X 0 5 = nI cs.length := by rw [x3 0 (by omega) (by omega), v3 0 (by omega) (by omega) (by omega), u3 0 (by omega) (by omega)]; exact r6.1
  have hX20 : ∀ d, 1 ≤ d → d ≤ 6 → ri X 20 d = wday q.2.1 cs q.1 d := fun d h1 h2 => by rw [x3 20 (by omega) (by omega)]; exact v4 d h1 h2
  obtain ⟨Y, y1, y2, y3, y4⟩ := layMost_s hcs.1 hX5 hX20 hz
  have hCR : CR T3 q cs wa pg kp := CR_t hl (GD_k hg) (fun k hk h79 => by rw [g2 k h79, f2 k (by unfold tl at hk; omega) (by unfold tl at hk; omega), e2 k (by unfold tl at hk; omega)]) (by rw [g2 1 (by omega), f2 1 (by omega) (by omega), e2 1 (by omega)]) (fun h hh => g3 7 (by omega) (by omega) h hh) hc
  have hRR : RR Y q cs wa pg kp := by
    refine RR_s hws (fun j _ _ _ _ => ?_) (fun c hc => ?_) (fun p hp => ?_) (fun i hi => ?_) hr
    · rw [y3 0 (by omega), x3 0 (by omega) (by omega), v3 0 (by omega) (by omega) (by omega), u3 0 (by omega) (by omega)]
    · rw [y3 c (by omega), x3 c (by omega) (by omega), v3 c (by omega) (by omega) (by omega), u3 c (by omega) (by omega)]
    · rw [y3 2 (by omega), x4 p hp, v3 18 (by omega) (by omega) (by omega), u4 p hp]
    · rw [y3 3 (by omega), x5 i hi, v3 19 (by omega) (by omega) (by omega), u5 i hi]
  have hY2 : Y.2 = τ.2 := by rw [y2, x2, v2, u2]
  have hlt : f_X10_layTerm τ = some X := by
    unfold f_X10_layTerm
    rw [u1, bo_s, v1, bo_s, x1, bo_s]
  have hgo : f_X6_goBy T 19 64 36 = some T3 := by
    unfold f_X6_goBy
    rw [f1, bo_s, g1, bo_s]
  unfold f_X9_term f_X10_termNow
  rw [within9, bo_s, if_neg h1, w1, bo_s, if_neg one0, e1, bo_s, hgo, bo_s, hlt, bo_s, y1, bo_s]
  by_cases e : a1 = 0
  · rw [if_pos e, if_pos e]
    unfold f_X6_mostWon
    rw [gd_t _ (by decide), bo_s, gd_t _ (by decide)]
    have q1 : T3 79 ((16 : Int32).toNatClampNeg) = nI (mst (wday q.2.1 cs q.1) 6 0) := g3 1 (by omega) (by omega) 0 (by omega)
    have q2 : ri Y 21 ((16 : Int32).toNatClampNeg) = nI (mst (wday q.2.1 cs q.1) 6 0) := y4 1 (by omega) (by omega) 0 (by omega)
    rw [q1, q2]
    generalize nI (mst (wday q.2.1 cs q.1) 6 0) = r
    exact ⟨r, T3, Y, rfl, rfl, hCR, hRR, hY2⟩
  · rw [if_neg e, if_neg e, leastOrder_s (W := wday q.2.1 cs q.1) (fun d h1 h2 => by rw [g2 78 (by omega)]; exact f3 d h1 h2) g3, orderNow_s (W := wday q.2.1 cs q.1) (n := cs.length) hcs.1 (by rw [y3 0 (by omega)]; exact hX5) (fun d h1 h2 => by rw [y3 20 (by omega)]; exact hX20 d h1 h2) hz y4]
    generalize (os (wday q.2.1 cs q.1) 6).1 = r
    exact ⟨r, T3, Y, rfl, rfl, hCR, hRR, hY2⟩
theorem op_term (n : Nat) (σ : St) (τ : SR) (a1 : Int32) (hn : n < 512) (h : Rel n σ τ) : ∃ (r : Int32) (σ' : St) (τ' : SR), f_X9_term σ a1 = some (r, σ') ∧ f_X10_term τ a1 = some (r, τ') ∧ Rel (n + 1) σ' τ' := by
  have hR := Rel_up n σ τ h
  obtain ⟨q, cs, wa, pg, kp, hg, hc, hr⟩ := h
  by_cases h1 : wi a1 0 1 = 0
  · unfold f_X9_term f_X10_term
    rw [within9, within10, bo_s, bo_s, if_pos h1, if_pos h1]; exact ⟨_, _, _, rfl, rfl, hR⟩
  rcases wall_or hn hg hc hr with ⟨-, w1, w2⟩ | ⟨-, w1, w2⟩
  · unfold f_X9_term f_X10_term
    rw [within9, within10, bo_s, bo_s, if_neg h1, if_neg h1, w1, bo_s, if_pos rfl, if_pos w2]; exact ⟨_, _, _, rfl, rfl, hR⟩
  obtain ⟨r, σ', τ', t1, t2, t3, t4, -⟩ := term_s hg hc hr w1 a1 h1
  refine ⟨r, σ', τ', t1, ?_, q, cs, wa, pg, kp, GD_up hg, t3, t4⟩
  unfold f_X10_term
  rw [within10, bo_s, if_neg h1, if_neg w2, t2, bo_s]

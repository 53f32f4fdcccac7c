/-! the pure side, 19: worlds -/
def sn (f : Nat → Nat) : Nat → Nat
  | 0 => 0
  | n + 1 => sn f n + f n
theorem sn_congr {f g : Nat → Nat} {n : Nat} (h : ∀ i, i < n → f i = g i) : sn f n = sn g n := by
  induction n with
  | zero => rfl
  | succ n ih => rw [sn, sn, ih (fun i hi => h i (by omega)), h n (by omega)]
theorem sn_zero {f : Nat → Nat} {n : Nat} (h : ∀ i, i < n → f i = 0) : sn f n = 0 := by
  induction n with
  | zero => rfl
  | succ n ih => rw [sn, ih (fun i hi => h i (by omega)), h n (by omega)]
theorem sn_addf (f g : Nat → Nat) (n : Nat) : sn (fun i => f i + g i) n = sn f n + sn g n := by
  induction n with
  | zero => rfl
  | succ n ih => rw [sn, sn, sn, ih]; omega
theorem sn_split (f : Nat → Nat) (a b : Nat) : sn f (a + b) = sn f a + sn (fun i => f (a + i)) b := by
  induction b with
  | zero => rfl
  | succ b ih => rw [← Nat.add_assoc, sn, sn, ih]; omega
theorem sn_mul (f : Nat → Nat) (a b : Nat) : sn f (a * b) = sn (fun c => sn (fun w => f (a * c + w)) a) b := by
  induction b with
  | zero => rfl
  | succ b ih => rw [Nat.mul_succ, sn_split, ih, sn]
theorem sn_single (a y : Nat) (h : Nat → Nat) (n : Nat) : sn (fun x => (if x = y then a else 0) * h x) n = if y < n then a * h y else 0 := by
  induction n with
  | zero => rfl
  | succ n ih =>
    rw [sn, ih]
    by_cases e : n = y
    · subst e
      rw [if_neg (by omega), if_pos rfl, if_pos (by omega)]; omega
    · rw [if_neg e]
      by_cases e2 : y < n
      · rw [if_pos e2, if_pos (by omega)]; omega
      · rw [if_neg e2, if_neg (by omega)]; omega
def dot (f h : Nat → Nat) : Nat := sn (fun x => f x * h x) 32
def adw (f : Nat → Nat) (wt : Nat) (th : Nat → Nat) : Nat → Nat → Nat
  | 0 => th
  | g + 1 => fun x => adw f wt th g x + (if x = g ||| wt then f g else 0)
theorem or_lt32 {a b : Nat} (ha : a < 32) (hb : b < 32) : a ||| b < 32 := Nat.or_lt_two_pow (n := 5) ha hb
theorem dot_adw {f th h : Nat → Nat} {wt : Nat} (hwt : wt < 32) : ∀ m, m ≤ 32 → dot (adw f wt th m) h = dot th h + sn (fun g => f g * h (g ||| wt)) m := by
  intro m
  induction m with
  | zero => intro _; rfl
  | succ m ih =>
    intro hm
    have ih := ih (by omega)
    unfold dot at ih ⊢
    rw [show sn (fun g => f g * h (g ||| wt)) (m + 1) = sn (fun g => f g * h (g ||| wt)) m + f m * h (m ||| wt) from rfl, ← Nat.add_assoc, ← ih]
    have e : sn (fun x => adw f wt th (m + 1) x * h x) 32 = sn (fun x => adw f wt th m x * h x + (if x = m ||| wt then f m else 0) * h x) 32 := sn_congr (fun x _ => by rw [adw, Nat.add_mul])
    rw [e, sn_addf, sn_single, if_pos (or_lt32 (by omega) hwt)]
/-- the counts after one thing more -/
def cwy (f : Nat → Nat) (wr : Nat → Nat) (al : Nat → Bool) : Nat → Nat → Nat
  | 0 => fun _ => 0
  | c + 1 => if al c = true then adw f (wr c) (cwy f wr al c) 32 else cwy f wr al c
theorem dot_cwy {f h : Nat → Nat} {wr : Nat → Nat} {al : Nat → Bool} (hwr : ∀ c, wr c < 32) : ∀ n, dot (cwy f wr al n) h = sn (fun c => if al c = true then dot f (fun g => h (g ||| wr c)) else 0) n := by
  intro n
  induction n with
  | zero => exact sn_zero (fun x _ => by show 0 * h x = 0; omega)
  | succ n ih =>
    rw [cwy, sn, ← ih]
    by_cases e : al n = true
    · rw [if_pos e, if_pos e, dot_adw (hwr n) 32 (Nat.le_refl _)]
      rfl
    · rw [if_neg e, if_neg e]; rfl
def wys (wr : Nat → Nat → Nat) (al : Nat → Nat → Bool) : Nat → Nat → Nat
  | 0 => fun g => if g = 0 then 1 else 0
  | k + 1 => cwy (wys wr al k) (wr k) (al k) 4
/-- by all worlds, gone through by number -/
def gw (wr : Nat → Nat → Nat) (al : Nat → Nat → Bool) : Nat → (Nat → Nat) → Nat → Nat
  | 0, h, _ => h 0
  | k + 1, h, w => if al k (w / 4 ^ k % 4) = true then gw wr al k (fun g => h (g ||| wr k (w / 4 ^ k % 4))) w else 0
theorem dg_low {k t w c : Nat} (ht : t < k) : (4 ^ k * c + w) / 4 ^ t % 4 = w / 4 ^ t % 4 := by
  obtain ⟨d, rfl⟩ : ∃ d, k = t + 1 + d := ⟨k - t - 1, by omega⟩
  have e : 4 ^ (t + 1 + d) * c + w = w + 4 ^ t * (4 * (4 ^ d * c)) := by
    rw [Nat.pow_add, Nat.pow_succ]
    rw [Nat.mul_assoc, Nat.mul_assoc, Nat.add_comm]
  rw [e, Nat.add_mul_div_left _ _ (Nat.pow_pos (by decide)), Nat.add_mul_mod_self_left]
theorem dg_top {k w c : Nat} (hw : w < 4 ^ k) (hc : c < 4) : (4 ^ k * c + w) / 4 ^ k % 4 = c := by
  rw [Nat.add_comm, Nat.add_mul_div_left _ _ (Nat.pow_pos (by decide)), Nat.div_eq_of_lt hw, Nat.zero_add, Nat.mod_eq_of_lt hc]
theorem gw_low {wr : Nat → Nat → Nat} {al : Nat → Nat → Bool} {K c w : Nat} : ∀ k, k ≤ K → ∀ h, gw wr al k h (4 ^ K * c + w) = gw wr al k h w := by
  intro k
  induction k with
  | zero => intro _ h; rfl
  | succ k ih =>
    intro hk h
    rw [gw, gw, dg_low (by omega), ih (by omega)]
theorem wys_gw {wr : Nat → Nat → Nat} {al : Nat → Nat → Bool} (hwr : ∀ k c, wr k c < 32) : ∀ k h, dot (wys wr al k) h = sn (gw wr al k h) (4 ^ k) := by
  intro k
  induction k with
  | zero =>
    intro h
    unfold dot
    have e : sn (fun x => wys wr al 0 x * h x) 32 = sn (fun x => (if x = 0 then 1 else 0) * h x) 32 := rfl
    rw [e, sn_single, if_pos (by decide)]
    show 1 * h 0 = 0 + h 0
    omega
  | succ k ih =>
    intro h
    rw [wys, dot_cwy (hwr k), Nat.pow_succ, sn_mul]
    apply sn_congr
    intro c hc
    rw [ih]
    by_cases e : al k c = true
    · rw [if_pos e]
      apply sn_congr
      intro w hw
      rw [gw, dg_top hw hc, if_pos e, gw_low k (Nat.le_refl _)]
    · rw [if_neg e]
      symm
      apply sn_zero
      intro w hw
      rw [gw, dg_top hw hc, if_neg e]
def orr (wr : Nat → Nat → Nat) (w : Nat) : Nat → Nat
  | 0 => 0
  | k + 1 => orr wr w k ||| wr k (w / 4 ^ k % 4)
def alw (al : Nat → Nat → Bool) (w : Nat) : Nat → Bool
  | 0 => true
  | k + 1 => alw al w k && al k (w / 4 ^ k % 4)
theorem gw_eq {wr : Nat → Nat → Nat} {al : Nat → Nat → Bool} {w : Nat} : ∀ k h, gw wr al k h w = if alw al w k = true then h (orr wr w k) else 0 := by
  intro k
  induction k with
  | zero => intro h; rfl
  | succ k ih =>
    intro h
    rw [gw, ih, alw, orr]
    by_cases e : al k (w / 4 ^ k % 4) = true
    · rw [if_pos e, e, Bool.and_true]
    · rw [if_neg e, Bool.eq_false_iff.mpr e, Bool.and_false]; rfl
theorem orr_bit {wr : Nat → Nat → Nat} {w i : Nat} : ∀ k, (orr wr w k).testBit i = true ↔ ∃ t, t < k ∧ (wr t (w / 4 ^ t % 4)).testBit i = true := by
  intro k
  induction k with
  | zero =>
    constructor
    · intro h; simp [orr] at h
    · rintro ⟨t, ht, -⟩; omega
  | succ k ih =>
    rw [orr, Nat.testBit_or, Bool.or_eq_true, ih]
    constructor
    · rintro (⟨t, h1, h2⟩ | h)
      · exact ⟨t, by omega, h2⟩
      · exact ⟨k, by omega, h⟩
    · rintro ⟨t, h1, h2⟩
      by_cases e : t = k
      · subst e; exact Or.inr h2
      · exact Or.inl ⟨t, by omega, h2⟩
theorem orr_lt {wr : Nat → Nat → Nat} (hwr : ∀ k c, wr k c < 32) (w : Nat) : ∀ k, orr wr w k < 32 := by
  intro k
  induction k with
  | zero => exact (by decide : 0 < 32)
  | succ k ih => rw [orr]; exact or_lt32 ih (hwr _ _)
-- who is wrong by one thing
def oc (w : Wt) (t c : Nat) : Bool := w.2.any (fun s => decide (s / 4 = nI t) && decide (¬ s - s / 4 * 4 = nI c))
theorem other_s {σ : St} {k : Nat} {w : Wt} {t c : Nat} (h : WitC σ k w) (hl : w.2.length ≤ 3) : f_X7_hasOtherColour k σ (nI t) (nI c) = some (if oc w t c = true then 1 else 0) := by
  obtain ⟨h1, h2⟩ := h
  have hm : oc w t c = true ↔ ∃ j, ∃ hj : j < w.2.length, w.2[j] / 4 = nI t ∧ ¬ w.2[j] - w.2[j] / 4 * 4 = nI c := by
    unfold oc
    rw [List.any_eq_true]
    constructor
    · rintro ⟨s, hs, hp⟩
      obtain ⟨j, hj, rfl⟩ := List.mem_iff_getElem.mp hs
      exact ⟨j, hj, by simpa using hp⟩
    · rintro ⟨j, hj, hp⟩
      exact ⟨w.2[j], List.getElem_mem hj, by simpa using hp⟩
  obtain ⟨x, hx, hv⟩ := lp_up0 (body := fun (s1 : Int32) => b_X7_hasOtherColour_2 k σ (nI t) (nI c) s1) (s := 0) (fun x => Sum.elim (fun (_ : Unit) => some (0 : Int32)) (fun (v : Int32) => some v) x = some (if oc w t c = true then 1 else 0)) (fun i s => s = nI i ∧ ∀ j, (hj : j < w.2.length) → j < i → ¬ (w.2[j] / 4 = nI t ∧ ¬ w.2[j] - w.2[j] / 4 * 4 = nI c)) w.2.length (by omega) ⟨rfl, fun j _ hj => absurd hj (by omega)⟩
    (fun i s hi hI => by
      obtain ⟨rfl, hn⟩ := hI
      have hb : b_X7_hasOtherColour_2 k σ (nI t) (nI c) (nI i) = if w.2[i] / 4 = nI t then (if w.2[i] - w.2[i] / 4 * 4 = nI c then some (.inl (nI (i + 1))) else some (.inr (.inr 1))) else some (.inl (nI (i + 1))) := by
        unfold b_X7_hasOtherColour_2
        rw [h2.1, if_neg (nI_ge hi (by omega)), gd_t _ (inb_nI (by omega) (by omega)), gd_t _ (inb_nI (by omega) (by omega)), nI_clamp (by omega), h2.at hi]
        simp only [bv, nI_1]
      by_cases q1 : w.2[i] / 4 = nI t
      · rw [if_pos q1] at hb
        by_cases q2 : w.2[i] - w.2[i] / 4 * 4 = nI c
        · rw [if_pos q2] at hb
          refine Or.inl ⟨_, hb, rfl, fun j hj hji => ?_⟩
          by_cases e : j = i
          · subst e; exact fun z => z.2 q2
          · exact hn j hj (by omega)
        · rw [if_neg q2] at hb
          exact Or.inr ⟨_, hb, by rw [if_pos (hm.mpr ⟨i, hi, q1, q2⟩)]; rfl⟩
      · rw [if_neg q1] at hb
        refine Or.inl ⟨_, hb, rfl, fun j hj hji => ?_⟩
        by_cases e : j = i
        · subst e; exact fun z => q1 z.1
        · exact hn j hj (by omega))
    (fun s hI => by
      obtain ⟨rfl, hn⟩ := hI
      refine ⟨.inl (), ?_, ?_⟩
      · unfold b_X7_hasOtherColour_2
        rw [h2.1, if_pos (nI_le (Nat.le_refl _) (by omega))]
      · rw [if_neg (fun z => by obtain ⟨j, hj, hp⟩ := hm.mp z; exact hn j hj hj hp)]
        rfl)
  unfold f_X7_hasOtherColour
  rw [hx, bo_s]
  exact hv
def wrN (ws : List Wt) (t c : Nat) : Nat → Nat
  | 0 => 0
  | i + 1 => if oc (atW ws i) t c = true then wrN ws t c i ||| 2 ^ i else wrN ws t c i
theorem wrN_lt (ws : List Wt) (t c : Nat) : ∀ n, n ≤ 5 → wrN ws t c n < 32 := by
  intro n
  induction n with
  | zero => intro _; exact (by decide : 0 < 32)
  | succ n ih =>
    intro hn
    rw [wrN]
    split
    · exact or_lt32 (ih (by omega)) (show 2 ^ n < 2 ^ 5 from Nat.pow_lt_pow_right (by decide) (by omega))
    · exact ih (by omega)
theorem wrN_bit (ws : List Wt) (t c i : Nat) : ∀ n, (wrN ws t c n).testBit i = true ↔ i < n ∧ oc (atW ws i) t c = true := by
  intro n
  induction n with
  | zero =>
    constructor
    · intro h; simp [wrN] at h
    · rintro ⟨h, -⟩; omega
  | succ n ih =>
    rw [wrN]
    by_cases e : oc (atW ws n) t c = true
    · rw [if_pos e, Nat.testBit_or, Bool.or_eq_true, ih, Nat.testBit_two_pow]
      constructor
      · rintro (⟨h1, h2⟩ | h)
        · exact ⟨by omega, h2⟩
        · have : n = i := of_decide_eq_true h
          subst this
          exact ⟨by omega, e⟩
      · rintro ⟨h1, h2⟩
        by_cases q : i = n
        · exact Or.inr (decide_eq_true q.symm)
        · exact Or.inl ⟨by omega, h2⟩
    · rw [if_neg e, ih]
      constructor
      · rintro ⟨h1, h2⟩; exact ⟨by omega, h2⟩
      · rintro ⟨h1, h2⟩
        by_cases q : i = n
        · subst q; exact absurd h2 e
        · exact ⟨by omega, h2⟩
theorem ob5_dec : ∀ h, h < 32 → ∀ c, c < 5 → nI h ||| ((1 : Int32) <<< (nI c &&& 31)) = nI (h ||| 2 ^ c) := by decide +kernel
theorem wrongBy_s {σ : St} {k : Nat} {ws : List Wt} (h : HallC σ k ws) (hw : WFs ws) (t c : Nat) : f_X1_wrongBy k σ (nI t) (nI c) = some (nI (wrN ws t c ws.length)) := by
  have hl := hw.1
  unfold f_X1_wrongBy
  rw [lp_runs (body := fun (s1 : Int32 × Int32) => b_X1_wrongBy_5 k σ (nI t) (nI c) s1.1 s1.2) (0, 0) (fun i => (nI (wrN ws t c i), nI i)) (nI (wrN ws t c ws.length)) ws.length rfl (by omega) (fun i hi => ?_) ?_, bo_s]
  rotate_left
  · dsimp only
    unfold b_X1_wrongBy_5
    rw [h.1, if_neg (nI_ge hi (by omega)), gd_t _ (inb_nI (by omega) (by decide)), nI_clamp (by omega), other_s (HallC_wit h hi) (WFs_w hw hi).1, bo_s, ob5_dec _ (wrN_lt ws t c i (by omega)) i (by omega), wrN, atW_eq hi]
    simp only [bv, nI_1]
    by_cases e : oc (ws[i]) t c = true
    · rw [if_pos e, if_neg one0, if_pos e]
    · rw [if_neg e, if_pos rfl, if_neg e]
  · dsimp only
    unfold b_X1_wrongBy_5
    rw [h.1, if_pos (nI_le (Nat.le_refl _) (by omega))]

/-! the pure side, 9: what is said, who clashes -/
theorem lp_run {S X : Type} {body : S → Option (S ⊕ X)} (s : Nat → S) (x : X) (N : Nat) (hN : N < 5000) (hs : ∀ i, i < N → body (s i) = some (.inl (s (i + 1)))) (he : body (s N) = some (.inr x)) : lp body 5000 (s 0) = some x := by
  obtain ⟨y, hy, rfl⟩ := lp_up0 (body := body) (s := s 0) (fun y => y = x) (fun i t => t = s i) N hN rfl (fun i t hi ht => Or.inl ⟨s (i + 1), by rw [ht]; exact hs i hi, rfl⟩) (fun t ht => ⟨x, by rw [ht]; exact he, rfl⟩)
  exact hy
theorem lp_runs {S X : Type} {body : S → Option (S ⊕ X)} (s0 : S) (s : Nat → S) (x : X) (N : Nat) (h0 : s0 = s 0) (hN : N < 5000) (hs : ∀ i, i < N → body (s i) = some (.inl (s (i + 1)))) (he : body (s N) = some (.inr x)) : lp body 5000 s0 = some x := by rw [h0]; exact lp_run s x N hN hs he
theorem lp_congr {S X : Type} {b1 b2 : S → Option (S ⊕ X)} (h : ∀ s, b1 s = b2 s) (n : Nat) (s : S) : lp b1 n s = lp b2 n s := by rw [show b1 = b2 from funext h]
def sm (f : Nat → Int32) : Nat → Int32
  | 0 => 0
  | n + 1 => sm f n + f n
theorem sm_congr {f g : Nat → Int32} {n : Nat} (h : ∀ i, i < n → f i = g i) : sm f n = sm g n := by
  induction n with
  | zero => rfl
  | succ n ih => rw [sm, sm, ih (fun i hi => h i (by omega)), h n (by omega)]
def tw (ws : List Wt) (i : Nat) (t : Int32) : Int32 := tellL ((ws[i]?).getD (0, [])).2 t
theorem tw_at {ws : List Wt} {i : Nat} (h : i < ws.length) (t : Int32) : tw ws i t = tellL (ws[i]).2 t := by
  unfold tw
  rw [List.getElem?_eq_getElem h]
  rfl
def HR (τ : SR) (ws : List Wt) : Prop := ri τ 0 1 = nI ws.length ∧ HallR (ri τ 1) (ri τ 2) (ri τ 3) ws
theorem RR_h {τ : SR} {q : AK} {cs : List (Int32 × Int32)} {wa : Nat} {pg : List Int32} {kp : Option AK} (h : RR τ q cs wa pg kp) : HR τ q.1 := ⟨h.1, h.2.1⟩
theorem HR_wit {τ : SR} {ws : List Wt} (h : HR τ ws) {i : Nat} (hi : i < ws.length) : ri τ 1 i = (ws[i]).1 ∧ Row (fun j => ri τ 2 (4 * i + j)) (ri τ 3 i) (ws[i]).2 := h.2 i _ (List.getElem?_eq_getElem hi)
theorem HallC_wit {σ : St} {b : Nat} {ws : List Wt} (h : HallC σ b ws) {i : Nat} (hi : i < ws.length) : WitC σ (b + 3 + 2 * i) (ws[i]) := h.2 i _ (List.getElem?_eq_getElem hi)
theorem WFs_w {ws : List Wt} (h : WFs ws) {i : Nat} (hi : i < ws.length) : WFw (ws[i]) := h.2 _ (List.getElem_mem hi)
theorem colC {σ : St} {b : Nat} {ws : List Wt} (h : HallC σ b ws) (hw : WFs ws) {i : Nat} (hi : i < ws.length) (t : Int32) : f_X7_colourOf (b + 3 + 2 * i) σ t = some (tw ws i t) := by
  rw [tw_at hi]; exact colourOf_s (HallC_wit h hi) (WFs_w hw hi).1
theorem colR {τ : SR} {ws : List Wt} (h : HR τ ws) (hw : WFs ws) {i : Nat} (hi : i < ws.length) (t : Int32) : f_X10_tellsNow τ (nI i) t = some (tw ws i t) := by
  have := hw.1
  rw [tw_at hi]; exact tellsNow_s (by omega) (HR_wit h hi).2 (WFs_w hw hi).1
theorem tell_c {t : Int32} : ∀ (l : List Int32) (a : Int32), (∀ x, x ∈ l → okS x) → (a = -1 ∨ ∃ c : Nat, c < 4 ∧ a = nI c) → (l.foldl (fun a x => if x / 4 = t then x - x / 4 * 4 else a) a = -1 ∨ ∃ c : Nat, c < 4 ∧ l.foldl (fun a x => if x / 4 = t then x - x / 4 * 4 else a) a = nI c) := by
  intro l
  induction l with
  | nil => exact fun a _ ha => ha
  | cons b m ih =>
    intro a hk ha
    rw [List.foldl_cons]
    apply ih _ (fun x hx => hk x (List.mem_cons_of_mem _ hx))
    by_cases hb : b / 4 = t
    · rw [if_pos hb]
      obtain ⟨c, hc, rfl⟩ := okS_nat (hk b List.mem_cons_self)
      exact Or.inr ⟨c % 4, by omega, pk_rem (by omega) (by decide) (by decide)⟩
    · rw [if_neg hb]; exact ha
theorem tw_c {ws : List Wt} (hw : WFs ws) {i : Nat} (hi : i < ws.length) (t : Int32) : tw ws i t = -1 ∨ ∃ c : Nat, c < 4 ∧ tw ws i t = nI c := by
  rw [tw_at hi]; exact tell_c _ _ (WFs_w hw hi).2.2.1 (Or.inl rfl)
abbrev bt (g : Int32) (i : Nat) : Prop := (g >>> (nI i &&& 31)) &&& 1 = 1
theorem isIn_s (g : Int32) (i : Nat) : f_X10_isIn g (nI i) = some (if bt g i then 1 else 0) := by
  unfold f_X10_isIn
  by_cases h : bt g i
  · rw [if_pos h, if_pos h]
  · rw [if_neg h, if_neg h]
def ct (ws : List Wt) (g t : Int32) (c : Nat) : Nat → Nat
  | 0 => 0
  | i + 1 => ct ws g t c i + if bt g i ∧ tw ws i t = nI c then 1 else 0
theorem ct_le (ws : List Wt) (g t : Int32) (c i : Nat) : ct ws g t c i ≤ i := by
  induction i with
  | zero => exact Nat.le_refl _
  | succ i ih =>
    rw [ct]
    split <;> omega
theorem countTellers_s {σ : St} {k : Nat} {ws : List Wt} {g t : Int32} (h : HallC σ k ws) (hw : WFs ws) : ∃ σ', f_X1_countTellers k σ g t = some σ' ∧ (∀ c, c ≠ k + 2 → σ' c = σ c) ∧ ∀ c, c < 4 → σ' (k + 2) c = nI (ct ws g t c ws.length) := by
  have hl := hw.1
  obtain ⟨y, hy, y1, y2⟩ := lp_up0 (body := fun (s1 : Int32 × St) => b_X1_countTellers_2 k s1.1 s1.2) (s := (0, σ)) (fun y => (∀ c, c ≠ k + 2 → y c = σ c) ∧ ∀ c, c < 4 → y (k + 2) c = 0)
    (fun j s => s.1 = nI j ∧ (∀ c, c ≠ k + 2 → s.2 c = σ c) ∧ ∀ c, c < j → s.2 (k + 2) c = 0) 4 (by decide) ⟨rfl, fun _ _ => rfl, fun c hc => absurd hc (by omega)⟩
    (fun j s hj hI => by
      obtain ⟨c0, T⟩ := s
      obtain ⟨rfl, g1, g2⟩ := hI
      dsimp only at g1 g2
      refine Or.inl ⟨(nI (j + 1), up2 T (k + 2) j 0), ?_, rfl, fun c hc => by show up2 _ _ _ _ c = _; rw [up2_ne hc]; exact g1 c hc, fun c hc => ?_⟩
      · dsimp only
        unfold b_X1_countTellers_2
        rw [if_neg (show ¬ 4 ≤ nI j from nI_ge (b := 4) hj (by decide)), gd_t _ (inb_nI hj (by decide)), nI_clamp (by omega)]
        simp only [bv, nI_1]
      · show up2 _ _ _ _ (k + 2) c = 0
        by_cases e : c = j
        · subst e; exact up2_self
        · rw [up2_slot e]; exact g2 c (by omega))
    (fun s hI => by
      obtain ⟨c0, T⟩ := s
      obtain ⟨rfl, g1, g2⟩ := hI
      exact ⟨T, by dsimp only; unfold b_X1_countTellers_2; rw [if_pos (by decide)], g1, g2⟩)
  have hy0 : HallC y k ws := HallC_c hl (by rw [y1 k (by omega)]) (fun i hi => y1 _ (by omega)) h
  obtain ⟨z, hz, z1, z2⟩ := lp_up0 (body := fun (s1 : Int32 × St) => b_X1_countTellers_22 k g t s1.1 s1.2) (s := (0, y)) (fun z => (∀ c, c ≠ k + 2 → z c = σ c) ∧ ∀ c, c < 4 → z (k + 2) c = nI (ct ws g t c ws.length))
    (fun j s => s.1 = nI j ∧ (∀ c, c ≠ k + 2 → s.2 c = σ c) ∧ ∀ c, c < 4 → s.2 (k + 2) c = nI (ct ws g t c j)) ws.length (by omega) ⟨rfl, y1, y2⟩
    (fun j s hj hI => by
      obtain ⟨c0, T⟩ := s
      obtain ⟨rfl, g1, g2⟩ := hI
      dsimp only at g1 g2
      have hT : HallC T k ws := HallC_c hl (by rw [g1 k (by omega)]) (fun i hi => g1 _ (by omega)) h
      have hb : b_X1_countTellers_22 k g t (nI j) T = if bt g j then (if tw ws j t = -1 then some (.inl (nI (j + 1), T)) else some (.inl (nI (j + 1), up2 T (k + 2) (tw ws j t).toNatClampNeg (T (k + 2) (tw ws j t).toNatClampNeg + 1)))) else some (.inl (nI (j + 1), T)) := by
        unfold b_X1_countTellers_22
        rw [hT.1, if_neg (nI_ge hj (by omega)), gd_t _ (inb_nI (by omega) (by decide)), nI_clamp (by omega), colC hT hw hj, bo_s]
        by_cases hbt : bt g j
        · rw [if_pos hbt, if_pos hbt]
          rcases tw_c hw hj t with e | ⟨c, hc, e⟩
          · rw [e, if_pos (by decide), if_pos rfl]; simp only [bv, nI_1]
          · rw [e, if_neg (nI_pos (by omega)), if_neg (show ¬ 4 ≤ nI c from nI_ge (b := 4) hc (by decide)), gd_t _ (inb_nI hc (by decide)), gd_t _ (inb_nI hc (by decide)), if_neg (fun z => by have := congrArg Int32.toInt z; rw [nI_toInt (by omega)] at this; have e1 : (-1 : Int32).toInt = -1 := rfl; omega)]
            simp only [bv, nI_1]
        · rw [if_neg hbt, if_neg hbt]; simp only [bv, nI_1]
      by_cases hbt : bt g j
      · rw [if_pos hbt] at hb
        rcases tw_c hw hj t with e | ⟨c, hc, e⟩
        · rw [if_pos e] at hb
          refine Or.inl ⟨(nI (j + 1), T), hb, rfl, g1, fun d hd => ?_⟩
          show T (k + 2) d = _
          rw [ct, if_neg (fun z => by rw [e] at z; have := congrArg Int32.toInt z.2; rw [nI_toInt (by omega)] at this; have e1 : (-1 : Int32).toInt = -1 := rfl; omega)]
          exact g2 d hd
        · rw [if_neg (fun z => by rw [e] at z; have := congrArg Int32.toInt z; rw [nI_toInt (by omega)] at this; have e1 : (-1 : Int32).toInt = -1 := rfl; omega), e, nI_clamp (by omega), g2 c hc, nI_1] at hb
          refine Or.inl ⟨(nI (j + 1), up2 T (k + 2) c (nI (ct ws g t c j + 1))), hb, rfl, fun d hd => by show up2 _ _ _ _ d = _; rw [up2_ne hd]; exact g1 d hd, fun d hd => ?_⟩
          show up2 _ _ _ _ (k + 2) d = _
          by_cases ed : d = c
          · subst ed
            rw [up2_self, ct, if_pos ⟨hbt, e⟩]
          · rw [up2_slot ed, ct, if_neg (fun z => ed ((nI_eq (by omega) (by omega)).mp (z.2.symm.trans e))), g2 d hd]; rfl
      · rw [if_neg hbt] at hb
        refine Or.inl ⟨(nI (j + 1), T), hb, rfl, g1, fun d hd => ?_⟩
        show T (k + 2) d = _
        rw [ct, if_neg (fun z => hbt z.1)]
        exact g2 d hd)
    (fun s hI => by
      obtain ⟨c0, T⟩ := s
      obtain ⟨rfl, g1, g2⟩ := hI
      dsimp only at g1 g2
      refine ⟨T, ?_, g1, g2⟩
      dsimp only
      unfold b_X1_countTellers_22
      rw [g1 k (by omega), h.1, if_pos (nI_le (Nat.le_refl _) (by omega))])
  unfold f_X1_countTellers
  rw [hy, bo_s, hz, bo_s]
  exact ⟨z, rfl, z1, z2⟩
-- the best of four
def f4 (a b c d : Nat) : Nat → Nat := fun j => if j = 0 then a else if j = 1 then b else if j = 2 then c else d
def stp (m c : Int32) (s : Int32 × Int32 × Int32) : Int32 × Int32 × Int32 := (if m ≤ s.2.1 then s.1 else c, if m ≤ s.2.1 then s.2.1 else m, if m ≤ s.2.1 then (if m ≤ s.2.2 then s.2.2 else m) else s.2.1)
def sr (k : Nat → Nat) : Nat → Int32 × Int32 × Int32
  | 0 => (-1, 0, 0)
  | i + 1 => stp (nI (k i)) (nI i) (sr k i)
def s4 (k : Nat → Nat) : Int32 := if (sr k 4).2.1 ≤ (sr k 4).2.2 then -1 else (sr k 4).1
theorem s4_eq (k : Nat → Nat) : s4 k = s4 (f4 (k 0) (k 1) (k 2) (k 3)) := rfl
theorem sa_row {k k2 : Nat} {r1 r2 : St} (h : ∀ j, j < 4 → r1 (k + 2) j = r2 (k2 + 2) j) (a b c : Int32) : b_X1_saidAmong_14 k r1 a b c = b_X1_saidAmong_14 k2 r2 a b c := by
  unfold b_X1_saidAmong_14
  by_cases hc : inb c 4 = true
  · rw [h _ (st_lt hc)]
  · simp only [gd, hc, if_false, Bool.false_eq_true]
def r4 (a b c d : Nat) : St := fun _ j => nI (f4 a b c d j)
theorem sa_dec : ∀ a, a < 6 → ∀ b, b < 6 → ∀ c, c < 6 → ∀ d, d < 6 → lp (fun (s2 : Int32 × Int32 × Int32) => b_X1_saidAmong_14 0 (r4 a b c d) s2.1 s2.2.1 s2.2.2) 5000 ((-1), 0, 0) = some (s4 (f4 a b c d)) := by decide +kernel
def sd0 (ws : List Wt) (g t : Int32) : Int32 := s4 (fun c => ct ws g t c ws.length)
theorem hide3 (f : List Wt → Int32 → Int32 → Int32) : ∃ g : List Wt → Int32 → Int32 → Int32, ∀ a b c, g a b c = f a b c := ⟨f, fun _ _ _ => rfl⟩
noncomputable def sd : List Wt → Int32 → Int32 → Int32 := Classical.choose (hide3 sd0)
theorem sd_eq (ws : List Wt) (g t : Int32) : sd ws g t = sd0 ws g t := Classical.choose_spec (hide3 sd0) ws g t
theorem saidAmong_s {σ : St} {k : Nat} {ws : List Wt} {g t : Int32} (h : HallC σ k ws) (hw : WFs ws) : ∃ σ', f_X1_saidAmong k σ g t = some (sd ws g t, σ') ∧ (∀ c, c ≠ k + 2 → σ' c = σ c) := by
  have hl := hw.1
  obtain ⟨y, hy, y1, y2⟩ := countTellers_s (g := g) (t := t) h hw
  have hc : ∀ c, ct ws g t c ws.length < 6 := fun c => by have := ct_le ws g t c ws.length; omega
  refine ⟨y, ?_, y1⟩
  unfold f_X1_saidAmong
  rw [hy, bo_s, lp_congr (b2 := fun (s2 : Int32 × Int32 × Int32) => b_X1_saidAmong_14 0 (r4 (ct ws g t 0 ws.length) (ct ws g t 1 ws.length) (ct ws g t 2 ws.length) (ct ws g t 3 ws.length)) s2.1 s2.2.1 s2.2.2) (fun s => sa_row (fun j hj => by
    rw [y2 j hj]
    unfold r4 f4
    rcases (by omega : j = 0 ∨ j = 1 ∨ j = 2 ∨ j = 3) with rfl | rfl | rfl | rfl <;> rfl) _ _ _), sa_dec _ (hc 0) _ (hc 1) _ (hc 2) _ (hc 3), bo_s, sd_eq]
  rfl
theorem saidBy_s {τ : SR} {ws : List Wt} {g t : Int32} (h : HR τ ws) (hw : WFs ws) : f_X10_saidBy τ g t = some (sd ws g t) := by
  have hl := hw.1
  have inner : ∀ c : Nat, lp (fun (s9 : Int32 × Int32) => b_X10_saidBy_23 τ g t (nI c) s9.1 s9.2) 5000 (0, 0) = some (nI (ct ws g t c ws.length)) := by
    intro c
    refine lp_run (fun i => (nI (ct ws g t c i), nI i)) _ ws.length (by omega) (fun i hi => ?_) ?_
    · dsimp only
      unfold b_X10_saidBy_23
      rw [h.1, if_neg (nI_ge hi (by omega)), isIn_s, bo_s, colR h hw hi]
      rw [ct]
      by_cases hb : bt g i
      · rw [if_pos hb, if_neg one0, bo_s]
        by_cases e : tw ws i t = nI c
        · rw [if_pos e, if_pos ⟨hb, e⟩]; simp only [bv, nI_1]
        · rw [if_neg e, if_neg (fun z => e z.2)]; simp only [bv, nI_1, i_add0, Nat.add_zero]
      · rw [if_neg hb, if_pos rfl, if_neg (fun z => hb z.1)]; simp only [bv, nI_1, i_add0, Nat.add_zero]
    · dsimp only
      unfold b_X10_saidBy_23
      rw [h.1, if_pos (nI_le (Nat.le_refl _) (by omega))]
  unfold f_X10_saidBy
  rw [lp_runs (body := fun (s1 : Int32 × Int32 × Int32 × Int32) => b_X10_saidBy_11 τ g t s1.1 s1.2.1 s1.2.2.1 s1.2.2.2) ((-1), 0, 0, 0) (fun i => ((sr (fun c => ct ws g t c ws.length) i).1, (sr (fun c => ct ws g t c ws.length) i).2.1, (sr (fun c => ct ws g t c ws.length) i).2.2, nI i)) (sr (fun c => ct ws g t c ws.length) 4) 4 rfl (by decide) (fun i hi => ?_) ?_, bo_s]
  · rw [sd_eq]
    unfold sd0 s4
    split <;> rfl
  rotate_left
  · dsimp only
    unfold b_X10_saidBy_11
    rw [if_neg (show ¬ 4 ≤ nI i from nI_ge (b := 4) hi (by decide)), inner, bo_s, sr, stp]
    dsimp only
    by_cases e : nI (ct ws g t i ws.length) ≤ (sr (fun c => ct ws g t c ws.length) i).2.1
    · simp only [if_pos e, bo_s]
      by_cases e2 : nI (ct ws g t i ws.length) ≤ (sr (fun c => ct ws g t c ws.length) i).2.2
      · simp only [if_pos e2, bo_s, bv, nI_1]
      · simp only [if_neg e2, bo_s, bv, nI_1]
    · simp only [if_neg e, bo_s, bv, nI_1]
  · dsimp only
    unfold b_X10_saidBy_11
    rw [if_pos (by decide)]

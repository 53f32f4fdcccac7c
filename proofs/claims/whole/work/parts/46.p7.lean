/-! the pure side, 7: a witness is shown a sight -/
def gz (kd x y : Int32) : Bool := decide (y = x) || (decide (kd = 1) || (decide (kd = 3) && decide (y / 4 = x / 4)))
def keepL (kd x : Int32) (l : List Int32) : List Int32 := l.filter (fun y => !gz kd x y)
def addL (l : List Int32) (x : Int32) : List Int32 := if l.length = 3 then l.tail ++ [x] else l ++ [x]
def showL (kd x : Int32) (l : List Int32) : List Int32 := addL (keepL kd x l) x
def takesB (w : Wt) (x : Int32) : Bool := !(decide (w.1 = 2)) && !(decide (w.1 = 4) && !(decide (tellL w.2 (x / 4) = -1)))
theorem fl_app {α : Type} (p : α → Bool) (l : List α) (x : α) : (l ++ [x]).filter p = if p x = true then l.filter p ++ [x] else l.filter p := by
  rw [List.filter_append]
  by_cases h : p x = true
  · rw [if_pos h]; simp [h]
  · rw [if_neg h]; simp [h]
theorem fl_take (p : Int32 → Bool) (l : List Int32) (i : Nat) : ((l.take i).filter p).length ≤ i := by
  have h1 := List.length_filter_le p (l.take i)
  rw [List.length_take] at h1
  omega
theorem i_lt_or {a b : Int32} (h1 : ¬ a < b) (h2 : ¬ b < a) : a = b := by
  rw [Int32.lt_iff_toInt_lt] at h1 h2
  exact Int32.toInt_inj.mp (by omega)
theorem drop_s {σ : St} {k : Nat} {l : List Int32} {lo hi : Int32} (h : Row (σ (k + 1)) (σ k 1) l) (hl : l.length ≤ 3) : ∃ σ', f_X7_dropBetween k σ lo hi = some σ' ∧ (∀ c, c ≠ k → c ≠ k + 1 → σ' c = σ c) ∧ (∀ j, j ≠ 1 → σ' k j = σ k j) ∧ Row (σ' (k + 1)) (σ' k 1) (l.filter (fun y => decide (y < lo) || decide (hi < y))) := by
  generalize hp : (fun y : Int32 => decide (y < lo) || decide (hi < y)) = p
  obtain ⟨x, hx, hv1, hv2, hv3⟩ := lp_up0 (body := fun (s1 : Int32 × Int32 × (Nat → Nat → Int32)) => b_X7_dropBetween_5 k lo hi s1.1 s1.2.1 s1.2.2) (s := (0, 0, σ)) (fun x => x.1 = nI (l.filter p).length ∧ (∀ c, c ≠ k + 1 → x.2 c = σ c) ∧ ∀ j y, (l.filter p)[j]? = some y → x.2 (k + 1) j = y)
    (fun i s => s.1 = nI ((l.take i).filter p).length ∧ s.2.1 = nI i ∧ (∀ c, c ≠ k + 1 → s.2.2 c = σ c) ∧ (∀ j y, ((l.take i).filter p)[j]? = some y → s.2.2 (k + 1) j = y) ∧ ∀ j, i ≤ j → s.2.2 (k + 1) j = σ (k + 1) j) l.length (by omega) ⟨rfl, rfl, fun _ _ => rfl, fun j y hy => by simp at hy, fun _ _ => rfl⟩
    (fun i s hil hI => by
      obtain ⟨c0, c1, T⟩ := s
      obtain ⟨rfl, rfl, h1, h2, h3⟩ := hI
      dsimp only at h1 h2 h3
      have hF := fl_take p l i
      have hy : T (k + 1) i = l[i] := by rw [h3 i (Nat.le_refl _)]; exact h.at hil
      have hsz : T k 1 = nI l.length := by rw [h1 k (by omega)]; exact h.1
      have hst : ∀ b, p l[i] = b → b_X7_dropBetween_5 k lo hi (nI ((l.take i).filter p).length) (nI i) T = if b = true then some (.inl (nI (((l.take i).filter p).length + 1), nI (i + 1), up2 T (k + 1) ((l.take i).filter p).length l[i])) else some (.inl (nI ((l.take i).filter p).length, nI (i + 1), T)) := by
        intro b hb
        unfold b_X7_dropBetween_5
        rw [hsz, if_neg (nI_ge hil (by omega))]
        simp only [gd_t _ (inb_nI (show i < 3 by omega) (by decide)), gd_t _ (inb_nI (show ((l.take i).filter p).length < 3 by omega) (by decide)), nI_clamp (show i < 2 ^ 31 by omega), nI_clamp (show ((l.take i).filter p).length < 2 ^ 31 by omega), hy, bv, nI_1]
        rw [← hp] at hb
        dsimp only at hb
        by_cases e1 : l[i] < lo
        · rw [if_pos e1]
          have : b = true := by rw [← hb]; simp [e1]
          rw [if_pos this]
        · rw [if_neg e1]
          by_cases e2 : l[i] ≤ hi
          · rw [if_pos e2]
            have e3 : ¬ hi < l[i] := fun z => by rw [Int32.lt_iff_toInt_lt] at z; rw [Int32.le_iff_toInt_le] at e2; omega
            have : ¬ b = true := by rw [← hb]; simp [e1, e3]
            rw [if_neg this]
          · rw [if_neg e2]
            have e3 : hi < l[i] := by rw [Int32.lt_iff_toInt_lt]; rw [Int32.le_iff_toInt_le] at e2; omega
            have : b = true := by rw [← hb]; simp [e3]
            rw [if_pos this]
      rw [take_succ' _ _ hil, fl_app]
      by_cases hpb : p l[i] = true
      · refine Or.inl ⟨(nI (((l.take i).filter p).length + 1), nI (i + 1), up2 T (k + 1) ((l.take i).filter p).length l[i]), (hst true hpb).trans (if_pos rfl), ?_, rfl, fun c hc => ?_, fun j y hj => ?_, fun j hj => ?_⟩
        · rw [if_pos hpb, List.length_append]; rfl
        · show up2 _ _ _ _ c = _
          rw [up2_ne hc]; exact h1 c hc
        · show up2 _ _ _ _ (k + 1) j = y
          rw [if_pos hpb] at hj
          rcases get_app hj with ⟨g1, g2⟩ | ⟨rfl, rfl⟩
          · rw [up2_slot (by omega)]; exact h2 j y g2
          · exact up2_self
        · show up2 _ _ _ _ (k + 1) j = _
          rw [up2_slot (by omega)]; exact h3 j (by omega)
      · refine Or.inl ⟨(nI ((l.take i).filter p).length, nI (i + 1), T), (hst _ rfl).trans (if_neg hpb), ?_, rfl, h1, fun j y hj => ?_, fun j hj => h3 j (by omega)⟩
        · rw [if_neg hpb]
        · rw [if_neg hpb] at hj
          exact h2 j y hj)
    (fun s hI => by
      obtain ⟨c0, c1, T⟩ := s
      obtain ⟨rfl, rfl, h1, h2, h3⟩ := hI
      dsimp only at h1 h2 h3
      rw [List.take_length] at h2 ⊢
      refine ⟨(nI (l.filter p).length, T), ?_, rfl, h1, h2⟩
      dsimp only
      unfold b_X7_dropBetween_5
      rw [h1 k (by omega), h.1, if_pos (nI_le (Nat.le_refl _) (by omega))])
  unfold f_X7_dropBetween
  rw [hx, bo_s]
  unfold bv
  refine ⟨_, rfl, fun c h1 h2 => by rw [up2_ne h1, hv2 c h2], fun j hj => by rw [up2_slot hj, hv2 k (by omega)], ?_, fun j y hy => ?_⟩
  · rw [up2_self]; exact hv1
  · rw [up2_ne (by omega)]; exact hv3 j y hy
theorem nd_tail {l : List Int32} (hn : l.Nodup) (h3 : 0 < l.length) (hh : l[0]'h3 = l[0]'h3) : l.filter (fun y => decide (y < l[0]'h3) || decide (l[0]'h3 < y)) = l.tail := by
  cases l with
  | nil => simp at h3
  | cons a t =>
    rw [List.nodup_cons] at hn
    simp only [List.getElem_cons_zero, List.tail_cons]
    have e : ∀ y : Int32, (decide (y < a) || decide (a < y)) = true ↔ y ≠ a := by
      intro y
      simp only [Bool.or_eq_true, decide_eq_true_eq]
      constructor
      · rintro (z | z) rfl <;> rw [Int32.lt_iff_toInt_lt] at z <;> omega
      · intro z
        by_cases z1 : y < a
        · exact Or.inl z1
        · by_cases z2 : a < y
          · exact Or.inr z2
          · exact absurd (i_lt_or z1 z2) z
    rw [List.filter_cons_of_neg (by rw [e]; simp)]
    rw [List.filter_eq_self]
    intro y hy
    rw [e]
    rintro rfl
    exact hn.1 hy
theorem add_s {σ : St} {k : Nat} {l : List Int32} {x : Int32} (h : Row (σ (k + 1)) (σ k 1) l) (hl : l.length ≤ 3) (hn : l.Nodup) : ∃ σ', f_X7_add k σ x = some σ' ∧ (∀ c, c ≠ k → c ≠ k + 1 → σ' c = σ c) ∧ (∀ j, j ≠ 1 → σ' k j = σ k j) ∧ Row (σ' (k + 1)) (σ' k 1) (addL l x) := by
  have last : ∀ (T : St) (l2 : List Int32), l2.length < 3 → Row (T (k + 1)) (T k 1) l2 → (if 3 ≤ T k 1 then some T else gd (inb (T k 1) 3) (bv (up2 T (k + 1) ((T k 1).toNatClampNeg) x) (fun S9 => bv (up2 S9 k 1 ((S9 k 1) + 1)) (fun S10 => some S10)))) = some (up2 (up2 T (k + 1) l2.length x) k 1 (nI l2.length + 1)) ∧ Row ((up2 (up2 T (k + 1) l2.length x) k 1 (nI l2.length + 1)) (k + 1)) ((up2 (up2 T (k + 1) l2.length x) k 1 (nI l2.length + 1)) k 1) (l2 ++ [x]) := by
    intro T l2 h2 hT
    refine ⟨?_, ?_⟩
    · rw [hT.1, if_neg (show ¬ 3 ≤ nI l2.length from nI_ge h2 (by decide)), gd_t _ (inb_nI h2 (by decide)), nI_clamp (by omega)]
      unfold bv
      dsimp only
      rw [up2_ne (show k ≠ k + 1 by omega), hT.1]
    · rw [up2_self, up2_ne (by omega), up2_at, ← hT.1]
      exact Row_push x hT
  unfold f_X7_add addL
  by_cases h3 : l.length = 3
  · obtain ⟨T, ht, t1, t2, t3⟩ := drop_s (lo := σ (k + 1) ((0 : Int32).toNatClampNeg)) (hi := σ (k + 1) ((0 : Int32).toNatClampNeg)) h hl
    rw [h.1, if_neg (by rw [h3]; decide), gd_t _ (inb_0 (by decide)), gd_t _ (inb_0 (by decide)), ht, bo_s, bo_s, if_pos h3]
    have h0 : σ (k + 1) ((0 : Int32).toNatClampNeg) = l[0]'(by omega) := h.at (j := 0) (by omega)
    rw [h0, nd_tail hn (by omega) rfl] at t3
    obtain ⟨g1, g2⟩ := last T l.tail (by simp; omega) t3
    exact ⟨_, g1, fun c c1 c2 => by rw [up2_ne c1, up2_ne c2]; exact t1 c c1 c2, fun j hj => by rw [up2_slot hj, up2_ne (by omega)]; exact t2 j hj, g2⟩
  · rw [h.1, if_pos (show nI l.length < 3 from nI_lt (b := 3) (by omega) (by decide)), bo_s, if_neg h3]
    obtain ⟨g1, g2⟩ := last σ l (by omega) h
    exact ⟨_, g1, fun c c1 c2 => by rw [up2_ne c1, up2_ne c2], fun j hj => by rw [up2_slot hj, up2_ne (by omega)], g2⟩
theorem keep_nd {kd x : Int32} {l : List Int32} (h : l.Nodup) : (keepL kd x l).Nodup := List.Pairwise.filter _ h
theorem keep_len (kd x : Int32) (l : List Int32) : (keepL kd x l).length ≤ l.length := List.length_filter_le _ _
theorem fl_congr {p q : Int32 → Bool} {l : List Int32} (h : ∀ y, y ∈ l → p y = q y) : l.filter p = l.filter q := List.filter_congr h
theorem okS_nat {x : Int32} (h : okS x) : ∃ a : Nat, a < 24 ∧ x = nI a := by
  obtain ⟨h1, h2⟩ := h
  refine ⟨x.toInt.toNat, by omega, ?_⟩
  apply Int32.toInt_inj.mp
  rw [nI_toInt (by omega)]
  omega
theorem div4 {a : Nat} (h : a < 2 ^ 31) : nI a / 4 = nI (a / 4) := pk_div h (by decide) (by decide)
theorem tell_some {t : Int32} : ∀ (l : List Int32) (a : Int32), (∀ x, x ∈ l → okS x) → (a ≠ -1 ∨ ∃ x, x ∈ l ∧ x / 4 = t) → l.foldl (fun a x => if x / 4 = t then x - x / 4 * 4 else a) a ≠ -1 := by
  intro l
  induction l with
  | nil =>
    intro a _ ha
    rcases ha with ha | ⟨x, hx, -⟩
    · exact ha
    · exact absurd hx List.not_mem_nil
  | cons b m ih =>
    intro a hk ha
    rw [List.foldl_cons]
    apply ih _ (fun x hx => hk x (List.mem_cons_of_mem _ hx))
    by_cases hb : b / 4 = t
    · rw [if_pos hb]
      left
      obtain ⟨c, hc, rfl⟩ := okS_nat (hk b List.mem_cons_self)
      rw [show (nI c - nI c / 4 * 4 : Int32) = nI (c % 4) from pk_rem (by omega) (by decide) (by decide)]
      intro e
      have := congrArg Int32.toInt e
      rw [nI_toInt (by omega)] at this
      have e1 : (-1 : Int32).toInt = -1 := rfl
      omega
    · rw [if_neg hb]
      rcases ha with ha | ⟨x, hx, hxt⟩
      · exact Or.inl ha
      · rcases List.mem_cons.mp hx with rfl | hx
        · exact absurd hxt hb
        · exact Or.inr ⟨x, hx, hxt⟩
theorem tell_none {l : List Int32} {t : Int32} (h : tellL l t = -1) (hok : ∀ x, x ∈ l → okS x) : ∀ x, x ∈ l → x / 4 ≠ t := fun x hx e => tell_some l (-1) hok (Or.inr ⟨x, hx, e⟩) h
theorem WFw_show {w : Wt} {x : Int32} (h : WFw w) (hx : okS x) : WFw (w.1, showL w.1 x w.2) := by
  obtain ⟨h1, h2, h3, h4⟩ := h
  have k1 := keep_len w.1 x w.2
  have k2 : (keepL w.1 x w.2).Nodup := keep_nd h2
  have kx : x ∉ keepL w.1 x w.2 := by
    intro hm
    have := (List.mem_filter.mp hm).2
    simp [gz] at this
  have kd : (keepL w.1 x w.2 ++ [x]).Nodup := by
    rw [List.nodup_append]
    refine ⟨k2, by simp, fun a ha b hb => ?_⟩
    rw [List.mem_singleton.mp hb]
    rintro rfl
    exact kx ha
  have ks : ∀ y, y ∈ keepL w.1 x w.2 ++ [x] → okS y := by
    intro y hy
    rcases List.mem_append.mp hy with hy | hy
    · exact h3 y (List.mem_filter.mp hy).1
    · rw [List.mem_singleton.mp hy]; exact hx
  unfold showL addL
  by_cases h5 : (keepL w.1 x w.2).length = 3
  · rw [if_pos h5]
    have e : (keepL w.1 x w.2).tail ++ [x] = (keepL w.1 x w.2 ++ [x]).tail := by
      cases hk : keepL w.1 x w.2 with
      | nil => rw [hk] at h5; simp at h5
      | cons a t => simp
    refine ⟨by simp; omega, ?_, ?_, h4⟩
    · show List.Nodup (_ ++ [x])
      rw [e]; exact kd.tail
    · intro y hy
      rw [show ((w.1, (keepL w.1 x w.2).tail ++ [x]) : Wt).2 = (keepL w.1 x w.2 ++ [x]).tail from e] at hy
      exact ks y (List.mem_of_mem_tail hy)
  · rw [if_neg h5]
    exact ⟨by simp; omega, kd, ks, h4⟩
theorem drop_keep {w : Wt} {x : Int32} (h : WFw w) (hx : okS x) (hk : w.1 = 3) : w.2.filter (fun y => decide (y < x / 4 * 4) || decide (x / 4 * 4 + 4 - 1 < y)) = keepL w.1 x w.2 := by
  unfold keepL
  apply fl_congr
  intro y hy
  obtain ⟨a, ha, rfl⟩ := okS_nat hx
  obtain ⟨b, hb, rfl⟩ := okS_nat (h.2.2.1 y hy)
  unfold gz
  rw [hk, div4 (by omega), div4 (by omega), show (nI (a / 4) * 4 : Int32) = nI (a / 4 * 4) from pk_mul _ _, show (nI (a / 4 * 4) + 4 - 1 : Int32) = nI (a / 4 * 4 + 3) from by rw [show nI (a / 4 * 4) + 4 = nI (a / 4 * 4 + 3 + 1) from nI_add _ 4, nI_m1]]
  rw [Bool.eq_iff_iff]
  simp only [Bool.or_eq_true, decide_eq_true_eq, Bool.not_eq_true', Bool.or_eq_false_iff, decide_eq_false_iff_not, Bool.and_eq_false_iff, nI_ltI (show b < 2 ^ 31 by omega) (show a / 4 * 4 < 2 ^ 31 by omega), nI_ltI (show a / 4 * 4 + 3 < 2 ^ 31 by omega) (show b < 2 ^ 31 by omega), nI_eq (show b < 2 ^ 31 by omega) (show a < 2 ^ 31 by omega), nI_eq (show b / 4 < 2 ^ 31 by omega) (show a / 4 < 2 ^ 31 by omega)]
  have n31 : ¬ (3 : Int32) = 1 := by decide
  simp only [n31, not_false_eq_true, true_and, not_true_eq_false, false_or]
  omega
theorem drop_eq {w : Wt} {x : Int32} (h1 : w.1 ≠ 1) (h3 : w.1 ≠ 3) : w.2.filter (fun y => decide (y < x) || decide (x < y)) = keepL w.1 x w.2 := by
  unfold keepL
  apply fl_congr
  intro y hy
  unfold gz
  rw [Bool.eq_iff_iff]
  simp only [Bool.or_eq_true, decide_eq_true_eq, Bool.not_eq_true', Bool.or_eq_false_iff, decide_eq_false_iff_not, Bool.and_eq_false_iff, h1, h3, not_false_eq_true, true_and, true_or, and_true]
  constructor
  · rintro (z | z) rfl <;> rw [Int32.lt_iff_toInt_lt] at z <;> omega
  · intro z
    by_cases z1 : y < x
    · exact Or.inl z1
    · by_cases z2 : x < y
      · exact Or.inr z2
      · exact absurd (i_lt_or z1 z2) z
theorem meets_s {σ : St} {k : Nat} {w : Wt} {x : Int32} (h : WitC σ k w) (hw : WFw w) (hx : okS x) : ∃ σ', f_X7_meets k σ x = some ((if takesB w x then 1 else 0), σ') ∧ (∀ c, c ≠ k → c ≠ k + 1 → σ' c = σ c) ∧ WitC σ' k (if takesB w x then (w.1, showL w.1 x w.2) else w) := by
  obtain ⟨h1, h2⟩ := h
  have nd := hw.2.1
  have hl := hw.1
  unfold f_X7_meets bv
  dsimp only
  rw [h1]
  have fin : ∀ (T : St) (l2 : List Int32), (∀ c, c ≠ k → c ≠ k + 1 → T c = σ c) → (∀ j, j ≠ 1 → T k j = σ k j) → Row (T (k + 1)) (T k 1) l2 → l2.length ≤ 3 → l2.Nodup → l2 = keepL w.1 x w.2 → takesB w x = true → ∃ σ', bo (f_X7_add k T x) (fun (r4 : (Nat → Nat → Int32)) => some ((1 : Int32), r4)) = some ((if takesB w x then 1 else 0), σ') ∧ (∀ c, c ≠ k → c ≠ k + 1 → σ' c = σ c) ∧ WitC σ' k (if takesB w x then (w.1, showL w.1 x w.2) else w) := by
    intro T l2 t1 t2 t3 t4 t5 t6 ht
    obtain ⟨T2, g0, g1, g2, g3⟩ := add_s (x := x) t3 t4 t5
    refine ⟨T2, by rw [g0, bo_s, ht]; rfl, fun c c1 c2 => by rw [g1 c c1 c2, t1 c c1 c2], ?_⟩
    rw [ht]
    refine ⟨?_, ?_⟩
    · show T2 k 2 = w.1
      rw [g2 2 (by omega), t2 2 (by omega)]; exact h1
    · show Row (T2 (k + 1)) (T2 k 1) (addL (keepL w.1 x w.2) x)
      rw [← t6]; exact g3
  by_cases e1 : w.1 = 1
  · rw [if_pos e1]
    have hk : keepL w.1 x w.2 = [] := by
      unfold keepL gz
      rw [e1]
      simp
    refine fin (up2 σ k 1 0) [] (fun c c1 _ => up2_ne c1) (fun j hj => up2_slot hj) (by rw [up2_self]; exact Row_nil) (by simp) (by simp) hk.symm (by unfold takesB; rw [e1]; rfl)
  rw [if_neg e1]
  by_cases e2 : w.1 = 2
  · rw [if_pos e2]
    have ht : takesB w x = false := by unfold takesB; rw [e2]; rfl
    rw [ht]
    exact ⟨σ, rfl, fun _ _ _ => rfl, h1, h2⟩
  rw [if_neg e2]
  by_cases e3 : w.1 = 3
  · rw [if_pos e3]
    obtain ⟨T, ht, t1, t2, t3⟩ := drop_s (lo := x / 4 * 4) (hi := x / 4 * 4 + 4 - 1) h2 hl
    rw [ht, bo_s]
    rw [drop_keep hw hx e3] at t3
    exact fin T _ t1 t2 t3 (by have := keep_len w.1 x w.2; omega) (keep_nd nd) rfl (by unfold takesB; rw [e3]; rfl)
  rw [if_neg e3]
  by_cases e4 : w.1 = 4
  · rw [if_pos e4, colourOf_s ⟨h1, h2⟩ hl, bo_s]
    by_cases e5 : tellL w.2 (x / 4) = -1
    · rw [if_pos e5]
      have hk : w.2 = keepL w.1 x w.2 := by
        unfold keepL
        symm
        rw [List.filter_eq_self]
        intro y hy
        have := tell_none e5 hw.2.2.1 y hy
        unfold gz
        rw [e4]
        have ne : y ≠ x := fun z => this (by rw [z])
        simp [ne]
      exact fin σ w.2 (fun _ _ _ => rfl) (fun _ _ => rfl) h2 hl nd hk (by unfold takesB; rw [e4, e5]; rfl)
    · rw [if_neg e5]
      have ht : takesB w x = false := by unfold takesB; rw [e4]; simp [e5]
      rw [ht]
      exact ⟨σ, rfl, fun _ _ _ => rfl, h1, h2⟩
  rw [if_neg e4]
  obtain ⟨T, ht, t1, t2, t3⟩ := drop_s (lo := x) (hi := x) h2 hl
  rw [ht, bo_s]
  rw [drop_eq e1 e3] at t3
  exact fin T _ t1 t2 t3 (by have := keep_len w.1 x w.2; omega) (keep_nd nd) rfl (by unfold takesB; simp [e2, e4])

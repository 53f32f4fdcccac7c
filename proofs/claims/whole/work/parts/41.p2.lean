/-! the pure side, 2: bounds, the relation of the two states -/
def wi (a b c : Int32) : Int32 := if a < b then 0 else if c < a then 0 else 1
theorem within9 (a b c : Int32) : f_X9_isWithin a b c = some (wi a b c) := by
  unfold f_X9_isWithin wi
  split
  · rfl
  · split <;> rfl
theorem within10 (a b c : Int32) : f_X10_within a b c = some (wi a b c) := by
  unfold f_X10_within wi
  split
  · rfl
  · split <;> rfl
theorem i_nlt {a b : Int32} (h : ¬ a < b) : b ≤ a := by
  rw [Int32.le_iff_toInt_le]
  rw [Int32.lt_iff_toInt_lt] at h
  omega
theorem wi_or (a b c : Int32) : wi a b c = 0 ∨ wi a b c = 1 ∧ b ≤ a ∧ a ≤ c := by
  unfold wi
  by_cases h : a < b
  · rw [if_pos h]; exact Or.inl rfl
  · rw [if_neg h]
    by_cases h2 : c < a
    · rw [if_pos h2]; exact Or.inl rfl
    · rw [if_neg h2]; exact Or.inr ⟨rfl, i_nlt h, i_nlt h2⟩
theorem wi_and (a b c : Int32) : wi a b c &&& 1 = wi a b c := by
  rcases wi_or a b c with h | ⟨h, -⟩ <;> rw [h] <;> rfl
theorem isThing9 (a : Int32) : f_X9_isThing a = some (wi a 0 5) := by
  unfold f_X9_isThing
  rw [within9, bo_s, wi_and]
theorem isColour9 (a : Int32) : f_X9_isColour a = some (wi a 0 3) := by
  unfold f_X9_isColour
  rw [within9, bo_s, wi_and]
theorem one0 : ¬ (1 : Int32) = 0 := by decide
theorem isSight10 (a b : Int32) : f_X10_isSight a b = some (if wi a 0 5 = 0 then 0 else wi b 0 3) := by
  unfold f_X10_isSight
  rw [within10, bo_s]
  by_cases h : wi a 0 5 = 0
  · rw [if_pos h, if_pos h]
  · rw [if_neg h, if_neg h, within10, bo_s]
    rcases wi_or b 0 3 with h2 | ⟨h2, -⟩ <;> rw [h2] <;> rfl
theorem wi_nat {a : Int32} {m : Nat} (hm : m < 2 ^ 31) (h0 : (0 : Int32) ≤ a) (h1 : a ≤ nI m) : ∃ i, i ≤ m ∧ a = nI i := by
  have g0 : 0 ≤ a.toInt := by
    rw [Int32.le_iff_toInt_le] at h0
    exact h0
  exact nI_of2 (nI_toInt hm) (fun q => by rw [Int32.lt_iff_toInt_lt] at q; have : (0 : Int32).toInt = 0 := rfl; omega) h1
def iw (n : Nat) (a : Int32) : Int32 := wi a 0 (nI n - 1)
theorem iw_or {n : Nat} (hn : n ≤ 5) (a : Int32) : iw n a = 0 ∨ iw n a = 1 ∧ ∃ i, i < n ∧ a = nI i := by
  unfold iw
  rcases wi_or a 0 (nI n - 1) with h | ⟨h, h0, h1⟩
  · exact Or.inl h
  · refine Or.inr ⟨h, ?_⟩
    cases n with
    | zero =>
      exfalso
      have e : nI 0 - 1 = -1 := rfl
      rw [e] at h1
      rw [Int32.le_iff_toInt_le] at h0 h1
      have e0 : (0 : Int32).toInt = 0 := rfl
      have e1 : (-1 : Int32).toInt = -1 := rfl
      omega
    | succ m =>
      rw [nI_m1] at h1
      obtain ⟨i, hi, rfl⟩ := wi_nat (by omega) h0 h1
      exact ⟨i, by omega, rfl⟩
theorem isWit9 {σ : St} {ws : List Wt} (h : σ 23 2 = nI ws.length) (a : Int32) : f_X9_isWitness σ a = some (iw ws.length a) := by
  unfold f_X9_isWitness iw
  rw [within9, bo_s, h, wi_and]
theorem isWit10 {τ : SR} {ws : List Wt} (h : ri τ 0 1 = nI ws.length) (a : Int32) : f_X10_isWitness τ a = some (iw ws.length a) := by
  unfold f_X10_isWitness iw
  rw [within10, bo_s, h, wi_and]
-- ===== the relation =====
abbrev T3 : Type := Int32 × Int32 × Int32
abbrev AK : Type := List Wt × List T3 × List T3 × Nat
def Row3 (f g h : Nat → Int32) (n : Int32) (l : List T3) : Prop := n = nI l.length ∧ ∀ j x, l[j]? = some x → f j = x.1 ∧ g j = x.2.1 ∧ h j = x.2.2
def lvs (x : T3) : Int32 := if x.2.2 = 0 then 31 &&& ((co x.2.1) ^^^ (-1)) else co x.2.1
def SeeC (σ : St) (k : Nat) (l : List T3) : Prop := σ k 2 = nI l.length ∧ ∀ j x, l[j]? = some x → σ (k + 1) j = x.1 ∧ σ (k + 2) j = lvs x
def SliC (σ : St) (k : Nat) (l : List T3) : Prop := Row3 (σ (k + 1)) (σ (k + 2)) (σ (k + 3)) (σ k 3) l
def CasC (σ : St) (k : Nat) (l : List (Int32 × Int32)) : Prop := σ k 2 = nI l.length ∧ ∀ j x, l[j]? = some x → σ (k + 1) j = x.1 ∧ σ (k + 2) j = x.2
def HallR (kd hd hs : Nat → Int32) (ws : List Wt) : Prop := ∀ i w, ws[i]? = some w → kd i = w.1 ∧ Row (fun j => hd (4 * i + j)) (hs i) w.2
def WFl (n : Nat) (l : List T3) : Prop := l.length ≤ 6 ∧ ∀ x, x ∈ l → (∃ d, 1 ≤ d ∧ d ≤ 6 ∧ x.1 = nI d) ∧ (∃ i, i < n ∧ x.2.1 = nI i) ∧ okS x.2.2
def WFe (n : Nat) (l : List T3) : Prop := l.length ≤ 6 ∧ ∀ x, x ∈ l → (∃ i, i < n ∧ x.1 = nI i) ∧ (∃ w, w < 4 ∧ x.2.1 = nI w) ∧ (x.2.2 = 0 ∨ x.2.2 = 1)
def WFc (l : List (Int32 × Int32)) : Prop := l.length ≤ 4 ∧ ∀ x, x ∈ l → (∃ t, t < 6 ∧ x.1 = nI t) ∧ ∃ d, 1 ≤ d ∧ d ≤ 6 ∧ x.2 = nI d
def WFp (l : List Int32) : Prop := l.length ≤ 54 ∧ ∀ x, x ∈ l → 32 ≤ x.toInt ∧ x.toInt ≤ 126
/-- now, by the class: hall, slips, seen, shown of the Scene at k -/
def ScC (σ : St) (k : Nat) (q : AK) : Prop := HallC σ (k + 1) q.1 ∧ SliC σ (k + 14) q.2.1 ∧ SeeC σ (k + 18) q.2.2.1 ∧ σ k 3 = nI q.2.2.2
def WFq (n : Nat) (q : AK) : Prop := WFs q.1 ∧ q.1.length = n ∧ WFl n q.2.1 ∧ WFe n q.2.2.1 ∧ q.2.2.2 ≤ 9999
def CR (σ : St) (q : AK) (cs : List (Int32 × Int32)) (wa : Nat) (pg : List Int32) (kp : Option AK) : Prop :=
  ScC σ 22 q ∧ CasC σ 19 cs ∧ σ 0 8 = nI wa ∧ Row (σ 2) (σ 1 3) pg ∧ (kp = none → σ 0 7 = 0) ∧ (∀ z, kp = some z → σ 0 7 = 1 ∧ ScC σ 43 z) ∧ ∀ h, h < 16 → σ 79 (112 + h) = 0
def RR (τ : SR) (q : AK) (cs : List (Int32 × Int32)) (wa : Nat) (pg : List Int32) (kp : Option AK) : Prop :=
  ri τ 0 1 = nI q.1.length ∧ HallR (ri τ 1) (ri τ 2) (ri τ 3) q.1 ∧ Row3 (ri τ 6) (ri τ 7) (ri τ 8) (ri τ 0 8) q.2.1 ∧ Row3 (ri τ 9) (ri τ 10) (ri τ 11) (ri τ 0 13) q.2.2.1 ∧ ri τ 0 12 = nI q.2.2.2 ∧
  (ri τ 0 5 = nI cs.length ∧ ∀ j x, cs[j]? = some x → ri τ 4 j = x.1 ∧ ri τ 5 j = x.2) ∧ ri τ 0 0 = nI wa ∧ Row (ri τ 12) (ri τ 0 17) pg ∧
  ∃ kw, kw ≤ wa ∧ ri τ 0 34 = nI kw ∧ (kp = none → ri τ 0 33 = 0 ∨ kw < wa) ∧ ∀ z, kp = some z → ri τ 0 33 = 1 ∧ kw = wa ∧ HallR (ri τ 22) (ri τ 23) (ri τ 24) z.1 ∧ Row3 (ri τ 25) (ri τ 26) (ri τ 27) (ri τ 0 35) z.2.1 ∧ ri τ 0 36 = nI z.2.2.2 ∧ Row3 (ri τ 28) (ri τ 29) (ri τ 30) (ri τ 0 37) z.2.2.1
def GD (n : Nat) (q : AK) (cs : List (Int32 × Int32)) (wa : Nat) (pg : List Int32) (kp : Option AK) : Prop :=
  WFq q.1.length q ∧ WFc cs ∧ WFp pg ∧ wa ≤ n ∧ (wa = 0 ↔ q.1.length = 0) ∧ ∀ z, kp = some z → WFq q.1.length z
def Rel (n : Nat) (σ : St) (τ : SR) : Prop := ∃ (q : AK) (cs : List (Int32 × Int32)) (wa : Nat) (pg : List Int32) (kp : Option AK), GD n q cs wa pg kp ∧ CR σ q cs wa pg kp ∧ RR τ q cs wa pg kp
theorem Rel_up (n : Nat) (σ : St) (τ : SR) (h : Rel n σ τ) : Rel (n + 1) σ τ := by
  obtain ⟨q, cs, wa, pg, kp, ⟨g1, g2, g3, g4, g5, g6⟩, hc, hr⟩ := h
  exact ⟨q, cs, wa, pg, kp, ⟨g1, g2, g3, by omega, g5, g6⟩, hc, hr⟩
theorem Rel_0 : Rel 0 (fun _ _ => 0) ((fun _ _ => 0), fun _ => 0) := by
  refine ⟨([], [], [], 0), [], 0, [], none, ⟨⟨⟨by simp, by simp⟩, rfl, ⟨by simp, by simp⟩, ⟨by simp, by simp⟩, by simp⟩, ⟨by simp, by simp⟩, ⟨by simp, by simp⟩, by simp, by simp, by simp⟩, ⟨⟨⟨rfl, by simp⟩, ⟨rfl, by simp⟩, ⟨rfl, by simp⟩, rfl⟩, ⟨rfl, by simp⟩, rfl, ⟨rfl, by simp⟩, fun _ => rfl, by simp, fun _ _ => rfl⟩, ⟨rfl, fun i w h => by simp at h, ⟨rfl, by simp⟩, ⟨rfl, by simp⟩, rfl, ⟨rfl, by simp⟩, rfl, ⟨rfl, by simp⟩, 0, by simp, rfl, fun _ => Or.inl rfl, by simp⟩⟩
-- ===== cells that a step doesn't touch =====
theorem up2_ne {σ : St} {k j k' : Nat} {x : Int32} (h : k' ≠ k) : up2 σ k j x k' = σ k' := by
  unfold up2 va_up
  rw [if_neg h]
theorem up2_at {σ : St} {k j : Nat} {x : Int32} : up2 σ k j x k = upd (σ k) j x := by
  unfold up2 va_up
  rw [if_pos rfl]
theorem up2_self {σ : St} {k j : Nat} {x : Int32} : up2 σ k j x k j = x := by rw [up2_at]; exact pk_us
theorem up2_slot {σ : St} {k j i : Nat} {x : Int32} (h : i ≠ j) : up2 σ k j x k i = σ k i := by rw [up2_at]; exact pk_un h
theorem HallC_c {σ σ' : St} {b : Nat} {ws : List Wt} (hw : ws.length ≤ 5) (h0 : σ' b 2 = σ b 2) (h1 : ∀ i, i < 10 → σ' (b + 3 + i) = σ (b + 3 + i)) (h : HallC σ b ws) : HallC σ' b ws := by
  refine ⟨h0.trans h.1, fun i w hi => ?_⟩
  have hl := (List.getElem?_eq_some_iff.mp hi).1
  have a := h.2 i w hi
  have e1 : σ' (b + 3 + 2 * i) = σ (b + 3 + 2 * i) := h1 (2 * i) (by omega)
  have e2 : σ' (b + 3 + 2 * i + 1) = σ (b + 3 + 2 * i + 1) := h1 (2 * i + 1) (by omega)
  unfold WitC at a ⊢
  rw [e1, e2]
  exact a
theorem ScC_c {σ σ' : St} {k : Nat} {q : AK} (hw : q.1.length ≤ 5) (h1 : ∀ i, i < 21 → i ≠ 2 → i ≠ 3 → σ' (k + i) = σ (k + i)) (h : ScC σ k q) : ScC σ' k q := by
  obtain ⟨a, b, c, d⟩ := h
  have e0 := h1 0 (by omega) (by omega) (by omega)
  refine ⟨HallC_c hw (congrFun (h1 1 (by omega) (by omega) (by omega)) 2) (fun i hi => ?_) a, ?_, ?_, ?_⟩
  · have := h1 (4 + i) (by omega) (by omega) (by omega)
    rw [show k + 1 + 3 + i = k + (4 + i) by omega]
    exact this
  · unfold SliC at b ⊢
    have e1 := h1 14 (by omega) (by omega) (by omega)
    have e2 := h1 15 (by omega) (by omega) (by omega)
    have e3 := h1 16 (by omega) (by omega) (by omega)
    have e4 := h1 17 (by omega) (by omega) (by omega)
    rw [show k + 14 + 1 = k + 15 by omega, show k + 14 + 2 = k + 16 by omega, show k + 14 + 3 = k + 17 by omega] at b ⊢
    rw [e1, e2, e3, e4]
    exact b
  · unfold SeeC at c ⊢
    have e1 := h1 18 (by omega) (by omega) (by omega)
    have e2 := h1 19 (by omega) (by omega) (by omega)
    have e3 := h1 20 (by omega) (by omega) (by omega)
    rw [show k + 18 + 1 = k + 19 by omega, show k + 18 + 2 = k + 20 by omega] at c ⊢
    rw [e1, e2, e3]
    exact c
  · rw [show σ' k = σ k from e0]
    exact d
/-- the cells that tell something -/
def tl (k : Nat) : Prop := k = 0 ∨ k = 2 ∨ (19 ≤ k ∧ k ≤ 23) ∨ (26 ≤ k ∧ k ≤ 44) ∨ (47 ≤ k ∧ k ≤ 63) ∨ k = 79
theorem CR_c {σ σ' : St} {q : AK} {cs : List (Int32 × Int32)} {wa : Nat} {pg : List Int32} {kp : Option AK} (hw : q.1.length ≤ 5) (hk : ∀ z, kp = some z → z.1.length ≤ 5) (h1 : ∀ k, tl k → σ' k = σ k) (h2 : σ' 1 3 = σ 1 3) (h : CR σ q cs wa pg kp) : CR σ' q cs wa pg kp := by
  obtain ⟨a, b, c, d, e, f, g⟩ := h
  have e0 := h1 0 (Or.inl rfl)
  refine ⟨ScC_c hw (fun i hi n2 n3 => h1 _ (by unfold tl; omega)) a, ?_, by rw [e0]; exact c, by rw [h1 2 (by unfold tl; omega), h2]; exact d, by rw [e0]; exact e, fun z hz => ?_, by rw [h1 79 (by unfold tl; omega)]; exact g⟩
  · unfold CasC at b ⊢
    rw [h1 19 (by unfold tl; omega), h1 (19 + 1) (by unfold tl; omega), h1 (19 + 2) (by unfold tl; omega)]
    exact b
  · rw [e0]
    obtain ⟨f1, f2⟩ := f z hz
    exact ⟨f1, ScC_c (hk z hz) (fun i hi n2 n3 => h1 _ (by unfold tl; omega)) f2⟩
theorem ri_ui_ne {τ : SR} {k j k' j' : Nat} {x : Int32} (h : ¬ (k' = k ∧ j' = j)) : ri (ui τ k j x) k' j' = ri τ k' j' := by
  unfold ri ui
  by_cases hk : k' = k
  · subst hk
    exact up2_slot (fun e => h ⟨rfl, e⟩)
  · show up2 τ.1 k j x k' j' = τ.1 k' j'
    rw [up2_ne hk]
theorem ri_ui_self {τ : SR} {k j : Nat} {x : Int32} : ri (ui τ k j x) k j = x := up2_self
theorem ri_ui_cell {τ : SR} {k j k' : Nat} {x : Int32} (h : k' ≠ k) : ri (ui τ k j x) k' = ri τ k' := by
  funext i
  exact ri_ui_ne (fun e => h e.1)
theorem hasWall9 {σ : St} {n : Nat} (hn : n ≤ 5) (h : σ 23 2 = nI n) : f_X9_hasWall σ = some (if n = 0 then 0 else 1) := by
  unfold f_X9_hasWall
  rw [h]
  by_cases h0 : n = 0
  · subst h0
    rw [if_pos (by decide), if_pos rfl]
  · rw [if_neg (nI_nle (by omega) (by omega)), if_neg h0]
theorem wa0 {τ : SR} {wa : Nat} (hw : wa ≤ 512) (h : ri τ 0 0 = nI wa) : ri τ 0 0 = 0 ↔ wa = 0 := by
  rw [h]
  constructor
  · intro e
    by_cases h0 : wa = 0
    · exact h0
    · exact absurd e (nI_ne0 (by omega) (by omega))
  · intro e
    subst e
    rfl

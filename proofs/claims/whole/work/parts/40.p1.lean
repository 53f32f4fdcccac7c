/-! the pure side, 1: tools; a witness -/
theorem bo_s {α β : Type} (x : α) (f : α → Option β) : bo (some x) f = f x := rfl
theorem gd_t {β : Type} {b : Bool} (k : Option β) (h : b = true) : gd b k = k := by subst h; rfl
theorem lp_inl {S X : Type} {body : S → Option (S ⊕ X)} {n : Nat} {s s' : S} (h : body s = some (.inl s')) : lp body (n + 1) s = lp body n s' := by rw [lp, h]; rfl
theorem lp_inr {S X : Type} {body : S → Option (S ⊕ X)} {n : Nat} {s : S} {x : X} (h : body s = some (.inr x)) : lp body (n + 1) s = some x := by rw [lp, h]; rfl
theorem inb_nI {i n : Nat} (h : i < n) (hn : n < 2 ^ 31) : inb (nI i) n = true := by
  unfold inb
  rw [nI_toInt (by omega)]
  simp
  omega
theorem inb_0 {n : Nat} (h : 0 < n) : inb 0 n = true := by
  unfold inb
  simp
  exact h
theorem nI_m1 (i : Nat) : nI (i + 1) - 1 = nI i := nI_pred i
theorem nI_sub1 (i : Nat) : nI i + (-1) = nI i - 1 := by
  rw [Int32.sub_eq_add_neg]
theorem i32_0 : (0 : Int32) = nI 0 := rfl
/-- a loop that counts up: what holds at its end -/
theorem lp_up {S X : Type} {body : S → Option (S ⊕ X)} (P : X → Prop) (I : Nat → S → Prop) (N : Nat) (hs : ∀ i s, i < N → I i s → (∃ s', body s = some (.inl s') ∧ I (i + 1) s') ∨ ∃ x, body s = some (.inr x) ∧ P x) (he : ∀ s, I N s → ∃ x, body s = some (.inr x) ∧ P x) :
    ∀ (d i : Nat) (s : S) (f : Nat), i + d = N → d < f → I i s → ∃ x, lp body f s = some x ∧ P x := by
  intro d
  induction d with
  | zero =>
    intro i s f h1 h2 hI
    obtain ⟨f, rfl⟩ : ∃ g, f = g + 1 := ⟨f - 1, by omega⟩
    obtain rfl : i = N := by omega
    obtain ⟨x, hx, hp⟩ := he s hI
    exact ⟨x, lp_inr hx, hp⟩
  | succ d ih =>
    intro i s f h1 h2 hI
    obtain ⟨f, rfl⟩ : ∃ g, f = g + 1 := ⟨f - 1, by omega⟩
    rcases hs i s (by omega) hI with ⟨s', hb, hI'⟩ | ⟨x, hb, hp⟩
    · obtain ⟨x, hx, hp⟩ := ih (i + 1) s' f (by omega) (by omega) hI'
      exact ⟨x, by rw [lp_inl hb]; exact hx, hp⟩
    · exact ⟨x, lp_inr hb, hp⟩
theorem lp_up0 {S X : Type} {body : S → Option (S ⊕ X)} (P : X → Prop) (I : Nat → S → Prop) (N : Nat) (hN : N < 5000) {s : S} (h0 : I 0 s) (hs : ∀ i s, i < N → I i s → (∃ s', body s = some (.inl s') ∧ I (i + 1) s') ∨ ∃ x, body s = some (.inr x) ∧ P x) (he : ∀ s, I N s → ∃ x, body s = some (.inr x) ∧ P x) : ∃ x, lp body 5000 s = some x ∧ P x :=
  lp_up P I N hs he N 0 s 5000 (by omega) hN h0
-- ===== rows, witnesses, halls =====
abbrev St : Type := Nat → Nat → Int32
abbrev Wt : Type := Int32 × List Int32
def Row (f : Nat → Int32) (n : Int32) (l : List Int32) : Prop := n = nI l.length ∧ ∀ j x, l[j]? = some x → f j = x
def WitC (σ : St) (k : Nat) (w : Wt) : Prop := σ k 2 = w.1 ∧ Row (σ (k + 1)) (σ k 1) w.2
def HallC (σ : St) (b : Nat) (ws : List Wt) : Prop := σ b 2 = nI ws.length ∧ ∀ i w, ws[i]? = some w → WitC σ (b + 3 + 2 * i) w
def okS (x : Int32) : Prop := 0 ≤ x.toInt ∧ x.toInt < 24
def WFw (w : Wt) : Prop := w.2.length ≤ 3 ∧ w.2.Nodup ∧ (∀ x, x ∈ w.2 → okS x) ∧ 0 ≤ w.1.toInt ∧ w.1.toInt < 5
def WFs (ws : List Wt) : Prop := ws.length ≤ 5 ∧ ∀ w, w ∈ ws → WFw w
def tellL (l : List Int32) (t : Int32) : Int32 := l.foldl (fun a x => if x / 4 = t then x - x / 4 * 4 else a) (-1)
theorem tellL_app (l : List Int32) (x t : Int32) : tellL (l ++ [x]) t = if x / 4 = t then x - x / 4 * 4 else tellL l t := by
  simp [tellL, List.foldl_append]
theorem take_succ' {α : Type} (l : List α) (i : Nat) (h : i < l.length) : l.take (i + 1) = l.take i ++ [l[i]] := by
  rw [List.take_succ, List.getElem?_eq_getElem h]
  rfl
theorem Row.at {f : Nat → Int32} {n : Int32} {l : List Int32} (h : Row f n l) {j : Nat} (hj : j < l.length) : f j = l[j] := h.2 j _ (List.getElem?_eq_getElem hj)
theorem colourOf_s {σ : St} {k : Nat} {w : Wt} {t : Int32} (h : WitC σ k w) (hl : w.2.length ≤ 3) : f_X7_colourOf k σ t = some (tellL w.2 t) := by
  obtain ⟨h1, h2⟩ := h
  have key : ∀ i f, i ≤ w.2.length → i < f → ∃ x, lp (fun (s2 : Int32) => b_X7_colourOf_7 k σ t s2) f (nI i - 1) = some x ∧ Sum.elim (fun (_ : Unit) => some (-1 : Int32)) (fun (v : Int32) => some v) x = some (tellL (w.2.take i) t) := by
    intro i
    induction i with
    | zero =>
      intro f hi hf
      obtain ⟨f, rfl⟩ : ∃ g, f = g + 1 := ⟨f - 1, by omega⟩
      exact ⟨.inl (), lp_inr (by unfold b_X7_colourOf_7; rw [if_pos (by decide)]), rfl⟩
    | succ i ih =>
      intro f hi hf
      obtain ⟨f, rfl⟩ : ∃ g, f = g + 1 := ⟨f - 1, by omega⟩
      have hb : b_X7_colourOf_7 k σ t (nI (i + 1) - 1) = if w.2[i] / 4 = t then some (.inr (.inr (w.2[i] - w.2[i] / 4 * 4))) else some (.inl (nI i - 1)) := by
        rw [nI_m1]
        unfold b_X7_colourOf_7
        rw [if_neg (nI_pos (by omega)), gd_t _ (inb_nI (by omega) (by omega)), gd_t _ (inb_nI (by omega) (by omega)), nI_clamp (by omega), h2.at hi]
        simp only [bv, nI_sub1]
      rw [take_succ' _ _ hi, tellL_app]
      by_cases hc : w.2[i] / 4 = t
      · rw [if_pos hc] at hb ⊢
        exact ⟨_, lp_inr hb, rfl⟩
      · rw [if_neg hc] at hb ⊢
        rw [lp_inl hb]
        exact ih f (by omega) (by omega)
  obtain ⟨x, hx, hv⟩ := key w.2.length 5000 (Nat.le_refl _) (by omega)
  unfold f_X7_colourOf
  rw [List.take_length] at hv
  simp only [bv]
  rw [h2.1, hx, bo_s]
  exact hv
theorem hasSight_s {σ : St} {k : Nat} {w : Wt} {a : Int32} (h : WitC σ k w) (hl : w.2.length ≤ 3) : f_X7_hasSight k σ a = some (if a ∈ w.2 then 1 else 0) := by
  obtain ⟨h1, h2⟩ := h
  obtain ⟨x, hx, hv⟩ := lp_up0 (body := fun (s1 : Int32) => b_X7_hasSight_2 k σ a s1) (s := 0) (fun x => Sum.elim (fun (_ : Unit) => some (0 : Int32)) (fun (v : Int32) => some v) x = some (if a ∈ w.2 then 1 else 0)) (fun i s => s = nI i ∧ a ∉ w.2.take i) w.2.length (by omega) ⟨rfl, by simp⟩
    (fun i s hi hI => by
      obtain ⟨rfl, hn⟩ := hI
      have hb : b_X7_hasSight_2 k σ a (nI i) = if w.2[i] = a then some (.inr (.inr 1)) else some (.inl (nI (i + 1))) := by
        unfold b_X7_hasSight_2
        rw [h2.1, if_neg (nI_ge hi (by omega)), gd_t _ (inb_nI (by omega) (by omega)), nI_clamp (by omega), h2.at hi]
        simp only [bv, nI_1]
      by_cases hc : w.2[i] = a
      · rw [if_pos hc] at hb
        exact Or.inr ⟨_, hb, by rw [if_pos (by rw [← hc]; exact List.getElem_mem hi)]; rfl⟩
      · rw [if_neg hc] at hb
        refine Or.inl ⟨_, hb, rfl, ?_⟩
        rw [take_succ' _ _ hi, List.mem_append]
        simp only [List.mem_singleton]
        exact fun z => z.elim hn (fun e => hc e.symm))
    (fun s hI => by
      obtain ⟨rfl, hn⟩ := hI
      refine ⟨.inl (), ?_, ?_⟩
      · unfold b_X7_hasSight_2
        rw [h2.1, if_pos (nI_le (Nat.le_refl _) (by omega))]
      · rw [List.take_length] at hn
        rw [if_neg hn]
        rfl)
  unfold f_X7_hasSight
  rw [hx, bo_s]
  exact hv

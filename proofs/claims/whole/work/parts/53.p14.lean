/-! the pure side, 14: image, restore -/
theorem ri_ui_all (τ : SR) (k j c i : Nat) (x : Int32) : ri (ui τ k j x) c i = if c = k ∧ i = j then x else ri τ c i := by
  by_cases h : c = k ∧ i = j
  · obtain ⟨rfl, rfl⟩ := h
    rw [if_pos ⟨rfl, rfl⟩]; exact ri_ui_self
  · rw [if_neg h]; exact ri_ui_ne h
theorem up2_all (σ : St) (k j c i : Nat) (x : Int32) : up2 σ k j x c i = if c = k ∧ i = j then x else σ c i := by
  by_cases hc : c = k
  · subst hc
    by_cases hi : i = j
    · subst hi; rw [if_pos ⟨rfl, rfl⟩]; exact up2_self
    · rw [if_neg (fun z => hi z.2)]; exact up2_slot hi
  · rw [if_neg (fun z => hc z.1), up2_ne hc]
theorem lp_copy {S : Type} {body : Int32 × S → Option ((Int32 × S) ⊕ S)} (r : S → Nat → Nat → Int32) (K : S → Prop) (sr : Nat → Nat) (hsr : ∀ c, sr (sr c) = sr c) (F : Nat → S → S) (N : Nat) (hN : N < 5000) (hb : ∀ j T, j < N → body (nI j, T) = some (.inl (nI (j + 1), F j T))) (he : ∀ T, body (nI N, T) = some (.inr T)) (hF : ∀ j T c i, j < N → r (F j T) c i = if i = j then r T (sr c) i else r T c i) (hK : ∀ j T, K T → K (F j T)) (σ : S) (h0 : K σ) : ∃ σ', lp body 5000 (0, σ) = some σ' ∧ K σ' ∧ ∀ c i, r σ' c i = if i < N then r σ (sr c) i else r σ c i := by
  refine lp_up0 (body := body) (s := (0, σ)) (fun σ' => K σ' ∧ ∀ c i, r σ' c i = if i < N then r σ (sr c) i else r σ c i) (fun j s => s.1 = nI j ∧ K s.2 ∧ ∀ c i, r s.2 c i = if i < j then r σ (sr c) i else r σ c i) N hN ⟨rfl, h0, fun c i => rfl⟩ (fun j s hj hI => ?_) (fun s hI => ?_)
  · obtain ⟨c0, T⟩ := s
    obtain ⟨rfl, g1, g2⟩ := hI
    dsimp only at g1 g2
    refine Or.inl ⟨(nI (j + 1), F j T), hb j T hj, rfl, hK j T g1, fun c i => ?_⟩
    show r (F j T) c i = _
    rw [hF j T c i hj]
    by_cases e : i = j
    · subst e
      rw [if_pos rfl, if_pos (by omega), g2, if_neg (by omega)]
    · rw [if_neg e, g2]
      by_cases h1 : i < j
      · rw [if_pos h1, if_pos (by omega)]
      · rw [if_neg h1, if_neg (by omega)]
  · obtain ⟨c0, T⟩ := s
    obtain ⟨rfl, g1, g2⟩ := hI
    exact ⟨T, he T, g1, g2⟩
theorem copySl_s {σ : St} {k a : Nat} (hap : k + 4 ≤ a ∨ a + 4 ≤ k) : ∃ σ', f_X5_copyFrom k σ a = some σ' ∧ (∀ c, (c < k ∨ k + 4 ≤ c) → σ' c = σ c) ∧ σ' k 3 = σ a 3 ∧ ∀ j, j < 6 → σ' (k + 1) j = σ (a + 1) j ∧ σ' (k + 2) j = σ (a + 2) j ∧ σ' (k + 3) j = σ (a + 3) j := by
  unfold f_X5_copyFrom
  obtain ⟨T, e1, -, e2⟩ := lp_copy (body := fun (s2 : Int32 × St) => b_X5_copyFrom_10 k a s2.1 s2.2) (fun σ c i => σ c i) (fun _ => True) (fun c => if c = k + 1 then a + 1 else if c = k + 2 then a + 2 else if c = k + 3 then a + 3 else c) (fun c => by (repeat' split) <;> omega)
    (fun j T => up2 (up2 (up2 T (k + 1) j (T (a + 1) j)) (k + 2) j (T (a + 2) j)) (k + 3) j (T (a + 3) j)) 6 (by decide) (fun j T hj => by
      dsimp only
      unfold b_X5_copyFrom_10
      rw [if_neg (show ¬ 6 ≤ nI j from nI_ge (b := 6) hj (by decide))]
      simp only [gd_t _ (inb_nI hj (show 6 < 2 ^ 31 by decide)), nI_clamp (show j < 2 ^ 31 by omega), bv, nI_1]
      simp (disch := omega) only [up2_ne])
    (fun T => by dsimp only; unfold b_X5_copyFrom_10; rw [if_pos (by decide)])
    (fun j T c i hj => by
      simp only [up2_all]
      by_cases ei : i = j
      · subst ei
        simp only [and_true, if_true]
        (repeat' split) <;> first | rfl | (exfalso; omega) | (subst_vars; rfl)
      · simp only [ei, and_false, if_false])
    (fun _ _ h => h) (up2 σ k 3 (σ a 3)) trivial
  simp only [bv]
  rw [e1, bo_s]
  refine ⟨T, rfl, fun c hc => ?_, ?_, fun j hj => ?_⟩
  · funext i
    rw [e2 c i, if_neg (show ¬ c = k + 1 by omega), if_neg (show ¬ c = k + 2 by omega), if_neg (show ¬ c = k + 3 by omega), up2_ne (by omega)]
    split <;> rfl
  · rw [e2 k 3, if_neg (show ¬ k = k + 1 by omega), if_neg (show ¬ k = k + 2 by omega), if_neg (show ¬ k = k + 3 by omega), up2_self]
    split <;> rfl
  · refine ⟨?_, ?_, ?_⟩
    · rw [e2 (k + 1) j, if_pos hj, if_pos rfl, up2_ne (by omega)]
    · rw [e2 (k + 2) j, if_pos hj, if_neg (by omega), if_pos rfl, up2_ne (by omega)]
    · rw [e2 (k + 3) j, if_pos hj, if_neg (by omega), if_neg (by omega), if_pos rfl, up2_ne (by omega)]
theorem copySe_s {σ : St} {k a : Nat} (hap : k + 3 ≤ a ∨ a + 3 ≤ k) : ∃ σ', f_X4_copyFrom k σ a = some σ' ∧ (∀ c, (c < k ∨ k + 3 ≤ c) → σ' c = σ c) ∧ σ' k 2 = σ a 2 ∧ ∀ j, j < 6 → σ' (k + 1) j = σ (a + 1) j ∧ σ' (k + 2) j = σ (a + 2) j := by
  unfold f_X4_copyFrom
  obtain ⟨T, e1, -, e2⟩ := lp_copy (body := fun (s2 : Int32 × St) => b_X4_copyFrom_10 k a s2.1 s2.2) (fun σ c i => σ c i) (fun _ => True) (fun c => if c = k + 1 then a + 1 else if c = k + 2 then a + 2 else c) (fun c => by (repeat' split) <;> omega)
    (fun j T => up2 (up2 T (k + 1) j (T (a + 1) j)) (k + 2) j (T (a + 2) j)) 6 (by decide) (fun j T hj => by
      dsimp only
      unfold b_X4_copyFrom_10
      rw [if_neg (show ¬ 6 ≤ nI j from nI_ge (b := 6) hj (by decide))]
      simp only [gd_t _ (inb_nI hj (show 6 < 2 ^ 31 by decide)), nI_clamp (show j < 2 ^ 31 by omega), bv, nI_1]
      simp (disch := omega) only [up2_ne])
    (fun T => by dsimp only; unfold b_X4_copyFrom_10; rw [if_pos (by decide)])
    (fun j T c i hj => by
      simp only [up2_all]
      by_cases ei : i = j
      · subst ei
        simp only [and_true, if_true]
        (repeat' split) <;> first | rfl | (exfalso; omega) | (subst_vars; rfl)
      · simp only [ei, and_false, if_false])
    (fun _ _ h => h) (up2 σ k 2 (σ a 2)) trivial
  simp only [bv]
  rw [e1, bo_s]
  refine ⟨T, rfl, fun c hc => ?_, ?_, fun j hj => ?_⟩
  · funext i
    rw [e2 c i, if_neg (show ¬ c = k + 1 by omega), if_neg (show ¬ c = k + 2 by omega), up2_ne (by omega)]
    split <;> rfl
  · rw [e2 k 2, if_neg (show ¬ k = k + 1 by omega), if_neg (show ¬ k = k + 2 by omega), up2_self]
    split <;> rfl
  · refine ⟨?_, ?_⟩
    · rw [e2 (k + 1) j, if_pos hj, if_pos rfl, up2_ne (by omega)]
    · rw [e2 (k + 2) j, if_pos hj, if_neg (by omega), if_pos rfl, up2_ne (by omega)]
theorem SliC_cp {σ σ' : St} {k a : Nat} {l : List T3} (hl : l.length ≤ 6) (h0 : σ' k 3 = σ a 3) (h1 : ∀ j, j < 6 → σ' (k + 1) j = σ (a + 1) j ∧ σ' (k + 2) j = σ (a + 2) j ∧ σ' (k + 3) j = σ (a + 3) j) (h : SliC σ a l) : SliC σ' k l := by
  refine ⟨h0.trans h.1, fun j x hx => ?_⟩
  have hj := (List.getElem?_eq_some_iff.mp hx).1
  obtain ⟨a1, a2, a3⟩ := h1 j (by omega)
  obtain ⟨b1, b2, b3⟩ := h.2 j x hx
  exact ⟨a1.trans b1, a2.trans b2, a3.trans b3⟩
theorem SeeC_cp {σ σ' : St} {k a : Nat} {l : List T3} (hl : l.length ≤ 6) (h0 : σ' k 2 = σ a 2) (h1 : ∀ j, j < 6 → σ' (k + 1) j = σ (a + 1) j ∧ σ' (k + 2) j = σ (a + 2) j) (h : SeeC σ a l) : SeeC σ' k l := by
  refine ⟨h0.trans h.1, fun j x hx => ?_⟩
  have hj := (List.getElem?_eq_some_iff.mp hx).1
  obtain ⟨a1, a2⟩ := h1 j (by omega)
  obtain ⟨b1, b2⟩ := h.2 j x hx
  exact ⟨a1.trans b1, a2.trans b2⟩
theorem copySc_s {σ : St} {k a n : Nat} {q : AK} (hap : k + 21 ≤ a ∨ a + 21 ≤ k) (hw : WFq n q) (h : ScC σ a q) : ∃ σ', f_X3_copyFrom k σ a = some σ' ∧ (∀ c, (c < k ∨ k + 21 ≤ c) → σ' c = σ c) ∧ ScC σ' k q := by
  obtain ⟨h1, h2, h3, h4⟩ := h
  have hl := hw.1.1
  obtain ⟨T1, e1, f1, g1⟩ := copyH_s (k := k + 1) (a := a + 1) hw.1 (by omega) h1
  obtain ⟨T2, e2, f2, g2, g2'⟩ := copySl_s (σ := T1) (k := k + 14) (a := a + 14) (by omega)
  obtain ⟨T3, e3, f3, g3, g3'⟩ := copySe_s (σ := T2) (k := k + 18) (a := a + 18) (by omega)
  have hs : SliC T1 (a + 14) q.2.1 := by
    unfold SliC at h2 ⊢
    rw [f1 _ (by omega), f1 _ (by omega), f1 _ (by omega), f1 _ (by omega)]; exact h2
  have hs2 : SliC T2 (k + 14) q.2.1 := SliC_cp hw.2.2.1.1 g2 g2' hs
  have hs3 : SeeC T2 (a + 18) q.2.2.1 := by
    unfold SeeC at h3 ⊢
    rw [f2 _ (by omega), f2 _ (by omega), f2 _ (by omega), f1 _ (by omega), f1 _ (by omega), f1 _ (by omega)]; exact h3
  have hs4 : SeeC T3 (k + 18) q.2.2.1 := SeeC_cp hw.2.2.2.1.1 g3 g3' hs3
  have e4 : T3 a 3 = σ a 3 := by rw [f3 a (by omega), f2 a (by omega), f1 a (by omega)]
  refine ⟨up2 T3 k 3 (T3 a 3), ?_, fun c hc => ?_, HallC_c hl ?_ (fun i hi => ?_) g1, ?_, ?_, ?_⟩
  · unfold f_X3_copyFrom
    rw [e1, bo_s, e2, bo_s, e3, bo_s]
    rfl
  · rw [up2_ne (by omega), f3 c (by omega), f2 c (by omega), f1 c (by omega)]
  · rw [up2_ne (by omega), f3 _ (by omega), f2 _ (by omega)]
  · rw [up2_ne (by omega), f3 _ (by omega), f2 _ (by omega)]
  · unfold SliC at hs2 ⊢
    rw [up2_ne (by omega), up2_ne (by omega), up2_ne (by omega), up2_ne (by omega), f3 _ (by omega), f3 _ (by omega), f3 _ (by omega), f3 _ (by omega)]; exact hs2
  · unfold SeeC at hs4 ⊢
    rw [up2_ne (by omega), up2_ne (by omega), up2_ne (by omega)]; exact hs4
  · rw [up2_self, e4]; exact h4
theorem HallR_cp {kd hd hs kd' hd' hs' : Nat → Int32} {ws : List Wt} (hw : WFs ws) (h1 : ∀ i, i < 5 → kd' i = kd i ∧ hs' i = hs i) (h2 : ∀ p, p < 20 → hd' p = hd p) (h : HallR kd hd hs ws) : HallR kd' hd' hs' ws := by
  intro i w hi
  have hil := (List.getElem?_eq_some_iff.mp hi).1
  have hl := hw.1
  obtain ⟨a1, a2, a3⟩ := h i w hi
  obtain ⟨b1, b2⟩ := h1 i (by omega)
  have hwl : w.2.length ≤ 3 := (hw.2 w (List.mem_of_getElem? hi)).1
  refine ⟨b1.trans a1, b2.trans a2, fun j x hx => ?_⟩
  have hj := (List.getElem?_eq_some_iff.mp hx).1
  show hd' (4 * i + j) = x
  rw [h2 _ (by omega)]
  exact a3 j x hx
theorem Row3_cp {f g h f' g' h' : Nat → Int32} {n n' : Int32} {l : List T3} (hl : l.length ≤ 6) (h0 : n' = n) (h1 : ∀ j, j < 6 → f' j = f j ∧ g' j = g j ∧ h' j = h j) (H : Row3 f g h n l) : Row3 f' g' h' n' l := by
  refine ⟨h0.trans H.1, fun j x hx => ?_⟩
  have hj := (List.getElem?_eq_some_iff.mp hx).1
  obtain ⟨a1, a2, a3⟩ := h1 j (by omega)
  obtain ⟨b1, b2, b3⟩ := H.2 j x hx
  exact ⟨a1.trans b1, a2.trans b2, a3.trans b3⟩
theorem op_image (n : Nat) (σ : St) (τ : SR) (hn : n < 512) (h : Rel n σ τ) : ∃ (r : Int32) (σ' : St) (τ' : SR), f_X9_image σ = some (r, σ') ∧ f_X10_image τ = some (r, τ') ∧ Rel (n + 1) σ' τ' := by
  have hR := Rel_up n σ τ h
  obtain ⟨q, cs, wa, pg, kp, hg, hc, hr⟩ := h
  unfold f_X9_image f_X10_image
  rcases wall_or hn hg hc hr with ⟨-, w1, w2⟩ | ⟨-, w1, w2⟩
  · rw [w1, bo_s, if_pos rfl, if_pos w2]; exact ⟨_, _, _, rfl, rfl, hR⟩
  rw [w1, bo_s, if_neg one0, if_neg w2]
  have hl := GD_n hg
  obtain ⟨T, e1, e2, e3⟩ := copySc_s (k := 43) (a := 22) (by omega) hg.1 hc.1
  rw [e1, bo_s]
  simp only [bv]
  generalize hU0 : ui (ui (ui (ui (ui τ 0 33 1) 0 34 (ri (ui τ 0 33 1) 0 0)) 0 35 (ri (ui (ui τ 0 33 1) 0 34 (ri (ui τ 0 33 1) 0 0)) 0 8)) 0 36 (ri (ui (ui (ui τ 0 33 1) 0 34 (ri (ui τ 0 33 1) 0 0)) 0 35 (ri (ui (ui τ 0 33 1) 0 34 (ri (ui τ 0 33 1) 0 0)) 0 8)) 0 12)) 0 37 (ri (ui (ui (ui (ui τ 0 33 1) 0 34 (ri (ui τ 0 33 1) 0 0)) 0 35 (ri (ui (ui τ 0 33 1) 0 34 (ri (ui τ 0 33 1) 0 0)) 0 8)) 0 36 (ri (ui (ui (ui τ 0 33 1) 0 34 (ri (ui τ 0 33 1) 0 0)) 0 35 (ri (ui (ui τ 0 33 1) 0 34 (ri (ui τ 0 33 1) 0 0)) 0 8)) 0 12)) 0 13) = U0
  have u1 : ∀ c, c ≠ 0 → ri U0 c = ri τ c := fun c h0 => by
    rw [← hU0, ri_ui_cell h0, ri_ui_cell h0, ri_ui_cell h0, ri_ui_cell h0, ri_ui_cell h0]
  have u2 : ∀ j, j < 33 ∨ 38 ≤ j → ri U0 0 j = ri τ 0 j := fun j hj => by
    rw [← hU0, ri_ui_ne (by omega), ri_ui_ne (by omega), ri_ui_ne (by omega), ri_ui_ne (by omega), ri_ui_ne (by omega)]
  have u3 : ri U0 0 33 = 1 ∧ ri U0 0 34 = ri τ 0 0 ∧ ri U0 0 35 = ri τ 0 8 ∧ ri U0 0 36 = ri τ 0 12 ∧ ri U0 0 37 = ri τ 0 13 := by
    rw [← hU0]
    refine ⟨?_, ?_, ?_, ?_, ?_⟩ <;> simp [ri_ui_all]
  clear hU0
  obtain ⟨U1, a1, -, a2⟩ := lp_copy (body := fun (s7 : Int32 × SR) => b_X10_image_49 s7.1 s7.2) ri (fun _ => True) (fun c => if c = 22 then 1 else if c = 24 then 3 else c) (fun c => by (repeat' split) <;> omega)
    (fun j T => ui (ui T 22 j (ri T 1 j)) 24 j (ri T 3 j)) 5 (by decide) (fun j T hj => by
      dsimp only
      unfold b_X10_image_49
      rw [if_neg (show ¬ 5 ≤ nI j from nI_ge (b := 5) hj (by decide))]
      simp only [gd_t _ (inb_nI hj (show 5 < 2 ^ 31 by decide)), nI_clamp (show j < 2 ^ 31 by omega), bv, nI_1]
      simp (disch := omega) only [ri_ui_cell])
    (fun T => by dsimp only; unfold b_X10_image_49; rw [if_pos (by decide)])
    (fun j T c i hj => by
      simp only [ri_ui_all]
      by_cases ei : i = j
      · subst ei
        simp only [and_true, if_true]
        (repeat' split) <;> first | rfl | (exfalso; omega) | (subst_vars; rfl)
      · simp only [ei, and_false, if_false])
    (fun _ _ h => h) U0 trivial
  obtain ⟨U2, b1, -, b2⟩ := lp_copy (body := fun (s7 : Int32 × SR) => b_X10_image_86 s7.1 s7.2) ri (fun _ => True) (fun c => if c = 23 then 2 else c) (fun c => by (repeat' split) <;> omega)
    (fun j T => ui T 23 j (ri T 2 j)) 20 (by decide) (fun j T hj => by
      dsimp only
      unfold b_X10_image_86
      rw [if_neg (show ¬ 20 ≤ nI j from nI_ge (b := 20) hj (by decide))]
      simp only [gd_t _ (inb_nI hj (show 20 < 2 ^ 31 by decide)), nI_clamp (show j < 2 ^ 31 by omega), bv, nI_1])
    (fun T => by dsimp only; unfold b_X10_image_86; rw [if_pos (by decide)])
    (fun j T c i hj => by
      simp only [ri_ui_all]
      by_cases ei : i = j
      · subst ei
        simp only [and_true, if_true]
        (repeat' split) <;> first | rfl | (exfalso; omega) | (subst_vars; rfl)
      · simp only [ei, and_false, if_false])
    (fun _ _ h => h) U1 trivial
  obtain ⟨U3, d1, -, d2⟩ := lp_copy (body := fun (s7 : Int32 × SR) => b_X10_image_112 s7.1 s7.2) ri (fun _ => True) (fun c => if 25 ≤ c ∧ c ≤ 30 then c - 19 else c) (fun c => by (repeat' split) <;> omega)
    (fun j T => ui (ui (ui (ui (ui (ui T 25 j (ri T 6 j)) 26 j (ri T 7 j)) 27 j (ri T 8 j)) 28 j (ri T 9 j)) 29 j (ri T 10 j)) 30 j (ri T 11 j)) 6 (by decide) (fun j T hj => by
      dsimp only
      unfold b_X10_image_112
      rw [if_neg (show ¬ 6 ≤ nI j from nI_ge (b := 6) hj (by decide))]
      simp only [gd_t _ (inb_nI hj (show 6 < 2 ^ 31 by decide)), nI_clamp (show j < 2 ^ 31 by omega), bv, nI_1]
      simp (disch := omega) only [ri_ui_cell])
    (fun T => by dsimp only; unfold b_X10_image_112; rw [if_pos (by decide)])
    (fun j T c i hj => by
      simp only [ri_ui_all]
      by_cases ei : i = j
      · subst ei
        simp only [and_true, if_true]
        by_cases hc : 25 ≤ c ∧ c ≤ 30
        · rw [if_pos hc]
          rcases (by omega : c = 25 ∨ c = 26 ∨ c = 27 ∨ c = 28 ∨ c = 29 ∨ c = 30) with rfl | rfl | rfl | rfl | rfl | rfl <;> simp
        · rw [if_neg hc, if_neg (by omega), if_neg (by omega), if_neg (by omega), if_neg (by omega), if_neg (by omega), if_neg (by omega)]
      · simp only [ei, and_false, if_false])
    (fun _ _ h => h) U2 trivial
  rw [a1, bo_s, b1, bo_s, d1, bo_s]
  -- what the cells hold now
  have z0 : ∀ c i, (c < 22) → ri U3 c i = ri U0 c i := fun c i hc => by
    have x1 : ri U3 c i = ri U2 c i := by rw [d2 c i, if_neg (show ¬ (25 ≤ c ∧ c ≤ 30) by omega)]; split <;> rfl
    have x2 : ri U2 c i = ri U1 c i := by rw [b2 c i, if_neg (show ¬ c = 23 by omega)]; split <;> rfl
    have x3 : ri U1 c i = ri U0 c i := by rw [a2 c i, if_neg (show ¬ c = 22 by omega), if_neg (show ¬ c = 24 by omega)]; split <;> rfl
    rw [x1, x2, x3]
  have z1 : ∀ i, i < 5 → ri U3 22 i = ri τ 1 i ∧ ri U3 24 i = ri τ 3 i := fun i hi => by
    have x1 : ri U3 22 i = ri U2 22 i := by rw [d2 22 i, if_neg (show ¬ (25 ≤ 22 ∧ 22 ≤ 30) by omega)]; split <;> rfl
    have x2 : ri U2 22 i = ri U1 22 i := by rw [b2 22 i, if_neg (show ¬ 22 = 23 by omega)]; split <;> rfl
    have y1 : ri U3 24 i = ri U2 24 i := by rw [d2 24 i, if_neg (show ¬ (25 ≤ 24 ∧ 24 ≤ 30) by omega)]; split <;> rfl
    have y2 : ri U2 24 i = ri U1 24 i := by rw [b2 24 i, if_neg (show ¬ 24 = 23 by omega)]; split <;> rfl
    refine ⟨?_, ?_⟩
    · rw [x1, x2, a2 22 i, if_pos hi, if_pos rfl, u1 1 (by omega)]
    · rw [y1, y2, a2 24 i, if_pos hi, if_neg (by omega), if_pos rfl, u1 3 (by omega)]
  have z2 : ∀ i, i < 20 → ri U3 23 i = ri τ 2 i := fun i hi => by
    have x1 : ri U3 23 i = ri U2 23 i := by rw [d2 23 i, if_neg (show ¬ (25 ≤ 23 ∧ 23 ≤ 30) by omega)]; split <;> rfl
    have x3 : ri U1 2 i = ri U0 2 i := by rw [a2 2 i, if_neg (show ¬ 2 = 22 by omega), if_neg (show ¬ 2 = 24 by omega)]; split <;> rfl
    rw [x1, b2 23 i, if_pos hi, if_pos rfl, x3, u1 2 (by omega)]
  have z3 : ∀ c i, 25 ≤ c → c ≤ 30 → i < 6 → ri U3 c i = ri τ (c - 19) i := fun c i h1 h2 hi => by
    have x2 : ri U2 (c - 19) i = ri U1 (c - 19) i := by rw [b2 (c - 19) i, if_neg (show ¬ c - 19 = 23 by omega)]; split <;> rfl
    have x3 : ri U1 (c - 19) i = ri U0 (c - 19) i := by rw [a2 (c - 19) i, if_neg (show ¬ c - 19 = 22 by omega), if_neg (show ¬ c - 19 = 24 by omega)]; split <;> rfl
    rw [d2 c i, if_pos hi, if_pos ⟨h1, h2⟩, x2, x3, u1 _ (by omega)]
  have zz : ∀ c, c < 22 → c ≠ 0 → ri U3 c = ri τ c := fun c h1 h2 => by
    funext i
    rw [z0 c i h1, u1 c h2]
  have zf : ∀ j, j < 33 → ri U3 0 j = ri τ 0 j := fun j hj => by rw [z0 0 j (by omega), u2 j (by omega)]
  obtain ⟨r1, r2, r3, r4, r5, r6, r7, r8, -⟩ := hr
  refine ⟨nI q.2.2.2, up2 T 0 7 1, U3, ?_, ?_, q, cs, wa, pg, some q, ?_, ?_, ?_⟩
  · rw [up2_ne (by omega), e2 22 (by omega), show σ 22 3 = _ from hc.1.2.2.2]
  · rw [zf 12 (by omega), r5]
  · have g := GD_up hg
    exact ⟨g.1, g.2.1, g.2.2.1, g.2.2.2.1, g.2.2.2.2.1, fun z hz => by cases hz; exact g.1⟩
  · obtain ⟨c1, c2, c3, c4, c5, c6, c7⟩ := hc
    refine ⟨ScC_c hl (fun i hi _ _ => by rw [up2_ne (by omega), e2 _ (by omega)]) c1, ?_, ?_, ?_, fun z => (by cases z), fun z hz => ?_, ?_⟩
    · unfold CasC at c2 ⊢
      rw [up2_ne (by omega), up2_ne (by omega), up2_ne (by omega), e2 _ (by omega), e2 _ (by omega), e2 _ (by omega)]; exact c2
    · rw [up2_slot (by omega), e2 0 (by omega)]; exact c3
    · rw [up2_ne (by omega), up2_ne (by omega), e2 _ (by omega), e2 _ (by omega)]; exact c4
    · cases hz
      exact ⟨up2_self, ScC_c hl (fun i hi _ _ => by rw [up2_ne (by omega)]) e3⟩
    · rw [up2_ne (by omega), e2 _ (by omega)]; exact c7
  · refine ⟨?_, ?_, ?_, ?_, ?_, ?_, ?_, ?_, wa, Nat.le_refl _, ?_, fun z => (by cases z), fun z hz => ?_⟩
    · rw [zf 1 (by omega)]; exact r1
    · rw [zz 1 (by omega) (by omega), zz 2 (by omega) (by omega), zz 3 (by omega) (by omega)]; exact r2
    · rw [zf 8 (by omega), zz 6 (by omega) (by omega), zz 7 (by omega) (by omega), zz 8 (by omega) (by omega)]; exact r3
    · rw [zf 13 (by omega), zz 9 (by omega) (by omega), zz 10 (by omega) (by omega), zz 11 (by omega) (by omega)]; exact r4
    · rw [zf 12 (by omega)]; exact r5
    · rw [zf 5 (by omega), zz 4 (by omega) (by omega), zz 5 (by omega) (by omega)]; exact r6
    · rw [zf 0 (by omega)]; exact r7
    · rw [zf 17 (by omega), zz 12 (by omega) (by omega)]; exact r8
    · rw [z0 0 34 (by omega), u3.2.1]; exact r7
    · cases hz
      refine ⟨by rw [z0 0 33 (by omega)]; exact u3.1, rfl, HallR_cp hg.1.1 z1 z2 r2, Row3_cp hg.1.2.2.1.1 ?_ (fun j hj => ⟨z3 25 j (by omega) (by omega) hj, z3 26 j (by omega) (by omega) hj, z3 27 j (by omega) (by omega) hj⟩) r3, ?_, Row3_cp hg.1.2.2.2.1.1 ?_ (fun j hj => ⟨z3 28 j (by omega) (by omega) hj, z3 29 j (by omega) (by omega) hj, z3 30 j (by omega) (by omega) hj⟩) r4⟩
      · rw [z0 0 35 (by omega)]; exact u3.2.2.1
      · rw [z0 0 36 (by omega), u3.2.2.2.1]; exact r5
      · rw [z0 0 37 (by omega)]; exact u3.2.2.2.2
theorem op_restore (n : Nat) (σ : St) (τ : SR) (hn : n < 512) (h : Rel n σ τ) : ∃ (r : Int32) (σ' : St) (τ' : SR), f_X9_restore σ = some (r, σ') ∧ f_X10_restore τ = some (r, τ') ∧ Rel (n + 1) σ' τ' := by
  have hR := Rel_up n σ τ h
  obtain ⟨q, cs, wa, pg, kp, hg, hc, hr⟩ := h
  unfold f_X9_restore f_X10_restore
  have hwn := hg.2.2.2.1
  cases kp with
  | none =>
    obtain ⟨kw, k1, k2, k3, -⟩ := hr.2.2.2.2.2.2.2.2
    rw [if_pos (hc.2.2.2.2.1 rfl)]
    rcases k3 rfl with k3 | k3
    · rw [if_pos k3]; exact ⟨_, _, _, rfl, rfl, hR⟩
    · by_cases e : ri τ 0 33 = 0
      · rw [if_pos e]; exact ⟨_, _, _, rfl, rfl, hR⟩
      · rw [if_neg e, k2, hr.2.2.2.2.2.2.1, if_neg (fun z => by have := (nI_eq (by omega) (by omega)).mp z; omega)]
        exact ⟨_, _, _, rfl, rfl, hR⟩
  | some z =>
    obtain ⟨f1, f2⟩ := hc.2.2.2.2.2.1 z rfl
    obtain ⟨kw, k1, k2, k3, k4⟩ := hr.2.2.2.2.2.2.2.2
    obtain ⟨m1, m2, m3, m4', m5, m6⟩ := k4 z rfl
    have hz := hg.2.2.2.2.2 z rfl
    have hzl : z.1.length = q.1.length := hz.2.1
    have hl := GD_n hg
    obtain ⟨T, e1, e2, e3⟩ := copySc_s (k := 22) (a := 43) (by omega) hz f2
    rw [f1, if_neg one0, m1, if_neg one0, k2, hr.2.2.2.2.2.2.1, m2, if_pos rfl, e1, bo_s]
    simp only [bv]
    generalize hU0 : ui (ui (ui τ 0 8 (ri τ 0 35)) 0 12 (ri (ui τ 0 8 (ri τ 0 35)) 0 36)) 0 13 (ri (ui (ui τ 0 8 (ri τ 0 35)) 0 12 (ri (ui τ 0 8 (ri τ 0 35)) 0 36)) 0 37) = U0
    have u1 : ∀ c, c ≠ 0 → ri U0 c = ri τ c := fun c h0 => by
      rw [← hU0, ri_ui_cell h0, ri_ui_cell h0, ri_ui_cell h0]
    have u2 : ∀ j, j ≠ 8 → j ≠ 12 → j ≠ 13 → ri U0 0 j = ri τ 0 j := fun j h1 h2 h3 => by
      rw [← hU0, ri_ui_ne (by omega), ri_ui_ne (by omega), ri_ui_ne (by omega)]
    have u3 : ri U0 0 8 = ri τ 0 35 ∧ ri U0 0 12 = ri τ 0 36 ∧ ri U0 0 13 = ri τ 0 37 := by
      rw [← hU0]
      refine ⟨?_, ?_, ?_⟩ <;> simp [ri_ui_all]
    clear hU0
    obtain ⟨U1, a1, -, a2⟩ := lp_copy (body := fun (s7 : Int32 × SR) => b_X10_restore_47 s7.1 s7.2) ri (fun _ => True) (fun c => if c = 1 then 22 else if c = 3 then 24 else c) (fun c => by (repeat' split) <;> omega)
      (fun j T => ui (ui T 1 j (ri T 22 j)) 3 j (ri T 24 j)) 5 (by decide) (fun j T hj => by
        dsimp only
        unfold b_X10_restore_47
        rw [if_neg (show ¬ 5 ≤ nI j from nI_ge (b := 5) hj (by decide))]
        simp only [gd_t _ (inb_nI hj (show 5 < 2 ^ 31 by decide)), nI_clamp (show j < 2 ^ 31 by omega), bv, nI_1]
        simp (disch := omega) only [ri_ui_cell])
      (fun T => by dsimp only; unfold b_X10_restore_47; rw [if_pos (by decide)])
      (fun j T c i hj => by
        simp only [ri_ui_all]
        by_cases ei : i = j
        · subst ei
          simp only [and_true, if_true]
          (repeat' split) <;> first | rfl | (exfalso; omega) | (subst_vars; rfl)
        · simp only [ei, and_false, if_false])
      (fun _ _ h => h) U0 trivial
    obtain ⟨U2, b1, -, b2⟩ := lp_copy (body := fun (s7 : Int32 × SR) => b_X10_restore_84 s7.1 s7.2) ri (fun _ => True) (fun c => if c = 2 then 23 else c) (fun c => by (repeat' split) <;> omega)
      (fun j T => ui T 2 j (ri T 23 j)) 20 (by decide) (fun j T hj => by
        dsimp only
        unfold b_X10_restore_84
        rw [if_neg (show ¬ 20 ≤ nI j from nI_ge (b := 20) hj (by decide))]
        simp only [gd_t _ (inb_nI hj (show 20 < 2 ^ 31 by decide)), nI_clamp (show j < 2 ^ 31 by omega), bv, nI_1])
      (fun T => by dsimp only; unfold b_X10_restore_84; rw [if_pos (by decide)])
      (fun j T c i hj => by
        simp only [ri_ui_all]
        by_cases ei : i = j
        · subst ei
          simp only [and_true, if_true]
          (repeat' split) <;> first | rfl | (exfalso; omega) | (subst_vars; rfl)
        · simp only [ei, and_false, if_false])
      (fun _ _ h => h) U1 trivial
    obtain ⟨U3, d1, -, d2⟩ := lp_copy (body := fun (s7 : Int32 × SR) => b_X10_restore_110 s7.1 s7.2) ri (fun _ => True) (fun c => if 6 ≤ c ∧ c ≤ 11 then c + 19 else c) (fun c => by (repeat' split) <;> omega)
      (fun j T => ui (ui (ui (ui (ui (ui T 6 j (ri T 25 j)) 7 j (ri T 26 j)) 8 j (ri T 27 j)) 9 j (ri T 28 j)) 10 j (ri T 29 j)) 11 j (ri T 30 j)) 6 (by decide) (fun j T hj => by
        dsimp only
        unfold b_X10_restore_110
        rw [if_neg (show ¬ 6 ≤ nI j from nI_ge (b := 6) hj (by decide))]
        simp only [gd_t _ (inb_nI hj (show 6 < 2 ^ 31 by decide)), nI_clamp (show j < 2 ^ 31 by omega), bv, nI_1]
        simp (disch := omega) only [ri_ui_cell])
      (fun T => by dsimp only; unfold b_X10_restore_110; rw [if_pos (by decide)])
      (fun j T c i hj => by
        simp only [ri_ui_all]
        by_cases ei : i = j
        · subst ei
          simp only [and_true, if_true]
          by_cases hc : 6 ≤ c ∧ c ≤ 11
          · rw [if_pos hc]
            rcases (by omega : c = 6 ∨ c = 7 ∨ c = 8 ∨ c = 9 ∨ c = 10 ∨ c = 11) with rfl | rfl | rfl | rfl | rfl | rfl <;> simp
          · rw [if_neg hc, if_neg (by omega), if_neg (by omega), if_neg (by omega), if_neg (by omega), if_neg (by omega), if_neg (by omega)]
        · simp only [ei, and_false, if_false])
      (fun _ _ h => h) U2 trivial
    rw [a1, bo_s, b1, bo_s, d1, bo_s]
    have z0 : ∀ c i, (c = 0 ∨ c = 4 ∨ c = 5 ∨ 12 ≤ c) → ri U3 c i = ri U0 c i := fun c i hc => by
      have x1 : ri U3 c i = ri U2 c i := by rw [d2 c i, if_neg (show ¬ (6 ≤ c ∧ c ≤ 11) by omega)]; split <;> rfl
      have x2 : ri U2 c i = ri U1 c i := by rw [b2 c i, if_neg (show ¬ c = 2 by omega)]; split <;> rfl
      have x3 : ri U1 c i = ri U0 c i := by rw [a2 c i, if_neg (show ¬ c = 1 by omega), if_neg (show ¬ c = 3 by omega)]; split <;> rfl
      rw [x1, x2, x3]
    have z1 : ∀ i, i < 5 → ri U3 1 i = ri τ 22 i ∧ ri U3 3 i = ri τ 24 i := fun i hi => by
      have x1 : ri U3 1 i = ri U2 1 i := by rw [d2 1 i, if_neg (show ¬ (6 ≤ 1 ∧ 1 ≤ 11) by omega)]; split <;> rfl
      have x2 : ri U2 1 i = ri U1 1 i := by rw [b2 1 i, if_neg (show ¬ 1 = 2 by omega)]; split <;> rfl
      have y1 : ri U3 3 i = ri U2 3 i := by rw [d2 3 i, if_neg (show ¬ (6 ≤ 3 ∧ 3 ≤ 11) by omega)]; split <;> rfl
      have y2 : ri U2 3 i = ri U1 3 i := by rw [b2 3 i, if_neg (show ¬ 3 = 2 by omega)]; split <;> rfl
      refine ⟨?_, ?_⟩
      · rw [x1, x2, a2 1 i, if_pos hi, if_pos rfl, u1 22 (by omega)]
      · rw [y1, y2, a2 3 i, if_pos hi, if_neg (by omega), if_pos rfl, u1 24 (by omega)]
    have z2 : ∀ i, i < 20 → ri U3 2 i = ri τ 23 i := fun i hi => by
      have x1 : ri U3 2 i = ri U2 2 i := by rw [d2 2 i, if_neg (show ¬ (6 ≤ 2 ∧ 2 ≤ 11) by omega)]; split <;> rfl
      have x3 : ri U1 23 i = ri U0 23 i := by rw [a2 23 i, if_neg (show ¬ 23 = 1 by omega), if_neg (show ¬ 23 = 3 by omega)]; split <;> rfl
      rw [x1, b2 2 i, if_pos hi, if_pos rfl, x3, u1 23 (by omega)]
    have z3 : ∀ c i, 6 ≤ c → c ≤ 11 → i < 6 → ri U3 c i = ri τ (c + 19) i := fun c i h1 h2 hi => by
      have x2 : ri U2 (c + 19) i = ri U1 (c + 19) i := by rw [b2 (c + 19) i, if_neg (show ¬ c + 19 = 2 by omega)]; split <;> rfl
      have x3 : ri U1 (c + 19) i = ri U0 (c + 19) i := by rw [a2 (c + 19) i, if_neg (show ¬ c + 19 = 1 by omega), if_neg (show ¬ c + 19 = 3 by omega)]; split <;> rfl
      rw [d2 c i, if_pos hi, if_pos ⟨h1, h2⟩, x2, x3, u1 _ (by omega)]
    have zz : ∀ c, (c = 4 ∨ c = 5 ∨ 12 ≤ c) → ri U3 c = ri τ c := fun c h1 => by
      funext i
      rw [z0 c i (by omega), u1 c (by omega)]
    have zf : ∀ j, j ≠ 8 → j ≠ 12 → j ≠ 13 → ri U3 0 j = ri τ 0 j := fun j h1 h2 h3 => by rw [z0 0 j (by omega), u2 j h1 h2 h3]
    obtain ⟨r1, r2, r3, r4, r5, r6, r7, r8, -⟩ := hr
    refine ⟨nI z.2.2.2, T, U3, ?_, ?_, z, cs, wa, pg, some z, ?_, ?_, ?_⟩
    · rw [show T 22 3 = _ from e3.2.2.2]
    · rw [z0 0 12 (by omega), u3.2.1, m5]
    · have g := GD_up hg
      refine ⟨by rw [hzl]; exact hz, g.2.1, g.2.2.1, g.2.2.2.1, by rw [hzl]; exact g.2.2.2.2.1, fun y hy => by cases hy; rw [hzl]; exact hz⟩
    · exact CR_q (fun y hy => by cases hy; omega) (fun k hk => e2 k (by omega)) (by rw [e2 1 (by omega)]) e3 hc
    · refine ⟨?_, ?_, ?_, ?_, ?_, ?_, ?_, ?_, kw, k1, ?_, fun y => (by cases y), fun y hy => ?_⟩
      · rw [zf 1 (by omega) (by omega) (by omega), hzl]; exact r1
      · exact HallR_cp hz.1 z1 z2 m3
      · exact Row3_cp hz.2.2.1.1 (by rw [z0 0 8 (by omega), u3.1]) (fun j hj => ⟨z3 6 j (by omega) (by omega) hj, z3 7 j (by omega) (by omega) hj, z3 8 j (by omega) (by omega) hj⟩) m4'
      · exact Row3_cp hz.2.2.2.1.1 (by rw [z0 0 13 (by omega), u3.2.2]) (fun j hj => ⟨z3 9 j (by omega) (by omega) hj, z3 10 j (by omega) (by omega) hj, z3 11 j (by omega) (by omega) hj⟩) m6
      · rw [z0 0 12 (by omega), u3.2.1]; exact m5
      · rw [zf 5 (by omega) (by omega) (by omega), zz 4 (by omega), zz 5 (by omega)]; exact r6
      · rw [zf 0 (by omega) (by omega) (by omega)]; exact r7
      · rw [zf 17 (by omega) (by omega) (by omega), zz 12 (by omega)]; exact r8
      · rw [zf 34 (by omega) (by omega) (by omega)]; exact k2
      · cases hy
        rw [zf 33 (by omega) (by omega) (by omega), zf 35 (by omega) (by omega) (by omega), zf 36 (by omega) (by omega) (by omega), zf 37 (by omega) (by omega) (by omega), zz 22 (by omega), zz 23 (by omega), zz 24 (by omega), zz 25 (by omega), zz 26 (by omega), zz 27 (by omega), zz 28 (by omega), zz 29 (by omega), zz 30 (by omega)]
        exact ⟨m1, m2, m3, m4', m5, m6⟩

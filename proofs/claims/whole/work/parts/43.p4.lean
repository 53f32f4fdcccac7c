/-! the pure side, 4: calls that write a little -/
theorem CR_q {σ σ' : St} {q q' : AK} {cs : List (Int32 × Int32)} {wa : Nat} {pg : List Int32} {kp : Option AK} (hk : ∀ z, kp = some z → z.1.length ≤ 5) (h1 : ∀ k, (k = 0 ∨ k = 2 ∨ (19 ≤ k ∧ k ≤ 21) ∨ (43 ≤ k ∧ k ≤ 63 ∧ k ≠ 45 ∧ k ≠ 46) ∨ k = 79) → σ' k = σ k) (h2 : σ' 1 3 = σ 1 3) (hq : ScC σ' 22 q') (h : CR σ q cs wa pg kp) : CR σ' q' cs wa pg kp := by
  obtain ⟨a, b, c, d, e, f, g⟩ := h
  have e0 := h1 0 (Or.inl rfl)
  refine ⟨hq, ?_, by rw [e0]; exact c, by rw [h1 2 (by omega), h2]; exact d, by rw [e0]; exact e, fun z hz => ?_, by rw [h1 79 (by omega)]; exact g⟩
  · unfold CasC at b ⊢
    rw [h1 19 (by omega), h1 (19 + 1) (by omega), h1 (19 + 2) (by omega)]
    exact b
  · rw [e0]
    obtain ⟨f1, f2⟩ := f z hz
    exact ⟨f1, ScC_c (hk z hz) (fun i hi n2 n3 => h1 _ (by omega)) f2⟩
theorem CR_pg {σ σ' : St} {q : AK} {cs : List (Int32 × Int32)} {wa : Nat} {pg pg' : List Int32} {kp : Option AK} (hw : q.1.length ≤ 5) (hk : ∀ z, kp = some z → z.1.length ≤ 5) (h1 : ∀ k, (k = 0 ∨ 19 ≤ k) → σ' k = σ k) (hp : Row (σ' 2) (σ' 1 3) pg') (h : CR σ q cs wa pg kp) : CR σ' q cs wa pg' kp := by
  obtain ⟨a, b, c, d, e, f, g⟩ := h
  have e0 := h1 0 (Or.inl rfl)
  refine ⟨ScC_c hw (fun i hi n2 n3 => h1 _ (by omega)) a, ?_, by rw [e0]; exact c, hp, by rw [e0]; exact e, fun z hz => ?_, by rw [h1 79 (by omega)]; exact g⟩
  · unfold CasC at b ⊢
    rw [h1 19 (by omega), h1 (19 + 1) (by omega), h1 (19 + 2) (by omega)]
    exact b
  · rw [e0]
    obtain ⟨f1, f2⟩ := f z hz
    exact ⟨f1, ScC_c (hk z hz) (fun i hi n2 n3 => h1 _ (by omega)) f2⟩
theorem RR_q {τ τ' : SR} {q q' : AK} {cs : List (Int32 × Int32)} {wa : Nat} {pg : List Int32} {kp : Option AK} (h1 : ∀ k, (k = 4 ∨ k = 5 ∨ k = 12 ∨ 22 ≤ k) → ri τ' k = ri τ k) (h2 : ∀ j, (j = 0 ∨ j = 5 ∨ j = 17 ∨ 33 ≤ j) → ri τ' 0 j = ri τ 0 j)
    (g1 : ri τ' 0 1 = nI q'.1.length) (g2 : HallR (ri τ' 1) (ri τ' 2) (ri τ' 3) q'.1) (g3 : Row3 (ri τ' 6) (ri τ' 7) (ri τ' 8) (ri τ' 0 8) q'.2.1) (g4 : Row3 (ri τ' 9) (ri τ' 10) (ri τ' 11) (ri τ' 0 13) q'.2.2.1) (g5 : ri τ' 0 12 = nI q'.2.2.2) (h : RR τ q cs wa pg kp) : RR τ' q' cs wa pg kp := by
  obtain ⟨-, -, -, -, -, r6, r7, r8, kw, k1, k2, k3, k4⟩ := h
  refine ⟨g1, g2, g3, g4, g5, ?_, ?_, ?_, kw, k1, ?_, ?_, ?_⟩
  · rw [h2 5 (by omega), h1 4 (by omega), h1 5 (by omega)]; exact r6
  · rw [h2 0 (by omega)]; exact r7
  · rw [h2 17 (by omega), h1 12 (by omega)]; exact r8
  · rw [h2 34 (by omega)]; exact k2
  · rw [h2 33 (by omega)]; exact k3
  · intro z hz
    rw [h2 33 (by omega), h2 35 (by omega), h2 36 (by omega), h2 37 (by omega), h1 22 (by omega), h1 23 (by omega), h1 24 (by omega), h1 25 (by omega), h1 26 (by omega), h1 27 (by omega), h1 28 (by omega), h1 29 (by omega), h1 30 (by omega)]
    exact k4 z hz
theorem RR_pg {τ τ' : SR} {q : AK} {cs : List (Int32 × Int32)} {wa : Nat} {pg pg' : List Int32} {kp : Option AK} (h1 : ∀ k, k ≠ 0 → k ≠ 12 → ri τ' k = ri τ k) (h2 : ∀ j, j ≠ 17 → ri τ' 0 j = ri τ 0 j) (hp : Row (ri τ' 12) (ri τ' 0 17) pg') (h : RR τ q cs wa pg kp) : RR τ' q cs wa pg' kp := by
  obtain ⟨r1, r2, r3, r4, r5, r6, r7, -, kw, k1, k2, k3, k4⟩ := h
  refine ⟨?_, ?_, ?_, ?_, ?_, ?_, ?_, hp, kw, k1, ?_, ?_, ?_⟩
  · rw [h2 1 (by omega)]; exact r1
  · rw [h1 1 (by omega) (by omega), h1 2 (by omega) (by omega), h1 3 (by omega) (by omega)]; exact r2
  · rw [h2 8 (by omega), h1 6 (by omega) (by omega), h1 7 (by omega) (by omega), h1 8 (by omega) (by omega)]; exact r3
  · rw [h2 13 (by omega), h1 9 (by omega) (by omega), h1 10 (by omega) (by omega), h1 11 (by omega) (by omega)]; exact r4
  · rw [h2 12 (by omega)]; exact r5
  · rw [h2 5 (by omega), h1 4 (by omega) (by omega), h1 5 (by omega) (by omega)]; exact r6
  · rw [h2 0 (by omega)]; exact r7
  · rw [h2 34 (by omega)]; exact k2
  · rw [h2 33 (by omega)]; exact k3
  · intro z hz
    rw [h2 33 (by omega), h2 35 (by omega), h2 36 (by omega), h2 37 (by omega), h1 22 (by omega) (by omega), h1 23 (by omega) (by omega), h1 24 (by omega) (by omega), h1 25 (by omega) (by omega), h1 26 (by omega) (by omega), h1 27 (by omega) (by omega), h1 28 (by omega) (by omega), h1 29 (by omega) (by omega), h1 30 (by omega) (by omega)]
    exact k4 z hz
theorem get_app {α : Type} {l : List α} {a y : α} {j : Nat} (h : (l ++ [a])[j]? = some y) : (j < l.length ∧ l[j]? = some y) ∨ (j = l.length ∧ y = a) := by
  by_cases hj : j < l.length
  · rw [List.getElem?_append_left hj] at h
    exact Or.inl ⟨hj, h⟩
  · rw [List.getElem?_append_right (by omega)] at h
    have h1 := (List.getElem?_eq_some_iff.mp h).1
    simp at h1
    have e : j - l.length = 0 := by omega
    rw [e] at h
    exact Or.inr ⟨by omega, (Option.some.inj h).symm⟩
theorem Row_push {f : Nat → Int32} {n : Int32} {l : List Int32} (x : Int32) (h : Row f n l) : Row (upd f l.length x) (n + 1) (l ++ [x]) := by
  refine ⟨by rw [h.1, nI_1, List.length_append]; rfl, fun j y hy => ?_⟩
  rcases get_app hy with ⟨hj, hy⟩ | ⟨rfl, rfl⟩
  · rw [pk_un (by omega)]; exact h.2 j y hy
  · exact pk_us
theorem Row3_push {f g h : Nat → Int32} {n : Int32} {l : List T3} (a b c : Int32) (H : Row3 f g h n l) : Row3 (upd f l.length a) (upd g l.length b) (upd h l.length c) (n + 1) (l ++ [(a, b, c)]) := by
  refine ⟨by rw [H.1, nI_1, List.length_append]; rfl, fun j y hy => ?_⟩
  rcases get_app hy with ⟨hj, hy⟩ | ⟨rfl, rfl⟩
  · rw [pk_un (by omega), pk_un (by omega), pk_un (by omega)]; exact H.2 j y hy
  · exact ⟨pk_us, pk_us, pk_us⟩
theorem Row_nil {f : Nat → Int32} : Row f 0 [] := ⟨rfl, fun j x h => by simp at h⟩
theorem Row3_nil {f g h : Nat → Int32} : Row3 f g h 0 [] := ⟨rfl, fun j x h => by simp at h⟩
theorem ri_ui_at {τ : SR} {k j : Nat} {x : Int32} : ri (ui τ k j x) k = upd (ri τ k) j x := up2_at (σ := τ.1)
theorem op_blank (n : Nat) (σ : St) (τ : SR) (hn : n < 512) (h : Rel n σ τ) : ∃ (r : Int32) (σ' : St) (τ' : SR), f_X9_blank σ = some (r, σ') ∧ f_X10_blank τ = some (r, τ') ∧ Rel (n + 1) σ' τ' := by
  obtain ⟨q, cs, wa, pg, kp, hg, hc, hr⟩ := h
  refine ⟨nI pg.length, up2 σ 1 3 0, ui τ 0 17 0, ?_, ?_, q, cs, wa, [], kp, ?_, ?_, ?_⟩
  · unfold f_X9_blank bv; rw [hc.2.2.2.1.1]
  · unfold f_X10_blank bv; rw [hr.2.2.2.2.2.2.2.1.1]
  · have := GD_up hg
    exact ⟨this.1, this.2.1, ⟨by simp, by simp⟩, this.2.2.2⟩
  · refine CR_pg (GD_n hg) (GD_k hg) (fun k hk => up2_ne (by omega)) ?_ hc
    rw [up2_self]; exact Row_nil
  · refine RR_pg (fun k h0 _ => ri_ui_cell h0) (fun j hj => ri_ui_ne (fun e => hj e.2)) ?_ hr
    rw [ri_ui_self]; exact Row_nil
theorem op_tear (n : Nat) (σ : St) (τ : SR) (hn : n < 512) (h : Rel n σ τ) : ∃ (r : Int32) (σ' : St) (τ' : SR), f_X9_tear σ = some (r, σ') ∧ f_X10_tear τ = some (r, τ') ∧ Rel (n + 1) σ' τ' := by
  obtain ⟨q, cs, wa, pg, kp, hg, hc, hr⟩ := h
  have hg2 := GD_up hg
  refine ⟨nI q.2.1.length, up2 σ 36 3 0, ui τ 0 8 0, ?_, ?_, (q.1, [], q.2.2), cs, wa, pg, kp, ?_, ?_, ?_⟩
  · unfold f_X9_tear bv; rw [show σ 36 3 = _ from hc.1.2.1.1]
  · unfold f_X10_tear bv; rw [hr.2.2.1.1]
  · exact ⟨⟨hg2.1.1, rfl, ⟨by simp, by simp⟩, hg2.1.2.2.2⟩, hg2.2⟩
  · refine CR_q (GD_k hg) (fun k hk => up2_ne (by omega)) (by rw [up2_ne (by omega)]) ⟨HallC_c (show q.1.length ≤ 5 from GD_n hg) (by rw [up2_ne (by omega)]) (fun i hi => up2_ne (by omega)) hc.1.1, ?_, ?_, ?_⟩ hc
    · show Row3 _ _ _ (up2 σ 36 3 0 36 3) []
      rw [up2_self]; exact Row3_nil
    · have := hc.1.2.2.1
      unfold SeeC at this ⊢
      rw [up2_ne (by omega), up2_ne (by omega), up2_ne (by omega)]; exact this
    · rw [up2_ne (by omega)]; exact hc.1.2.2.2
  · refine RR_q (fun k hk => ri_ui_cell (by omega)) (fun j hj => ri_ui_ne (by omega)) (by rw [ri_ui_ne (by omega)]; exact hr.1) (by rw [ri_ui_cell (by omega), ri_ui_cell (by omega), ri_ui_cell (by omega)]; exact hr.2.1) (by rw [ri_ui_self]; exact Row3_nil) (by rw [ri_ui_cell (by omega), ri_ui_cell (by omega), ri_ui_cell (by omega), ri_ui_ne (by omega)]; exact hr.2.2.2.1) (by rw [ri_ui_ne (by omega)]; exact hr.2.2.2.2.1) hr
theorem op_forget (n : Nat) (σ : St) (τ : SR) (hn : n < 512) (h : Rel n σ τ) : ∃ (r : Int32) (σ' : St) (τ' : SR), f_X9_forget σ = some (r, σ') ∧ f_X10_forget τ = some (r, τ') ∧ Rel (n + 1) σ' τ' := by
  obtain ⟨q, cs, wa, pg, kp, hg, hc, hr⟩ := h
  have hg2 := GD_up hg
  refine ⟨nI q.2.2.1.length, up2 σ 40 2 0, ui τ 0 13 0, ?_, ?_, (q.1, q.2.1, [], q.2.2.2), cs, wa, pg, kp, ?_, ?_, ?_⟩
  · unfold f_X9_forget bv; rw [show σ 40 2 = _ from hc.1.2.2.1.1]
  · unfold f_X10_forget bv; rw [hr.2.2.2.1.1]
  · exact ⟨⟨hg2.1.1, rfl, hg2.1.2.2.1, ⟨by simp, by simp⟩, hg2.1.2.2.2.2⟩, hg2.2⟩
  · refine CR_q (GD_k hg) (fun k hk => up2_ne (by omega)) (by rw [up2_ne (by omega)]) ⟨HallC_c (show q.1.length ≤ 5 from GD_n hg) (by rw [up2_ne (by omega)]) (fun i hi => up2_ne (by omega)) hc.1.1, ?_, ?_, ?_⟩ hc
    · have := hc.1.2.1
      unfold SliC at this ⊢
      rw [up2_ne (by omega), up2_ne (by omega), up2_ne (by omega), up2_ne (by omega)]; exact this
    · exact ⟨up2_self, fun j x h => by simp at h⟩
    · rw [up2_ne (by omega)]; exact hc.1.2.2.2
  · refine RR_q (fun k hk => ri_ui_cell (by omega)) (fun j hj => ri_ui_ne (by omega)) (by rw [ri_ui_ne (by omega)]; exact hr.1) (by rw [ri_ui_cell (by omega), ri_ui_cell (by omega), ri_ui_cell (by omega)]; exact hr.2.1) (by rw [ri_ui_cell (by omega), ri_ui_cell (by omega), ri_ui_cell (by omega), ri_ui_ne (by omega)]; exact hr.2.2.1) (by rw [ri_ui_self]; exact Row3_nil) (by rw [ri_ui_ne (by omega)]; exact hr.2.2.2.2.1) hr
theorem nar_b : ∀ k, k < 127 → vp_nar .byte (nI k).toInt8.toInt32 = nI k := by decide +kernel
theorem op_letter (n : Nat) (σ : St) (τ : SR) (a1 : Int32) (hn : n < 512) (h : Rel n σ τ) : ∃ (r : Int32) (σ' : St) (τ' : SR), f_X9_letter σ a1 = some (r, σ') ∧ f_X10_letter τ a1 = some (r, τ') ∧ Rel (n + 1) σ' τ' := by
  have hR := Rel_up n σ τ h
  obtain ⟨q, cs, wa, pg, kp, hg, hc, hr⟩ := h
  have hp := hg.2.2.1
  have c1 := hc.2.2.2.1
  have r1 := hr.2.2.2.2.2.2.2.1
  unfold f_X9_letter f_X10_letter
  rw [within9, within10, bo_s, bo_s]
  rcases wi_or a1 32 126 with h1 | ⟨h1, h2, h3⟩
  · rw [h1, if_pos rfl, if_pos rfl]; exact ⟨_, _, _, rfl, rfl, hR⟩
  · rw [h1, if_neg one0, if_neg one0, c1.1, r1.1]
    by_cases hf : pg.length = 54
    · rw [hf, if_neg (by decide), if_pos (by decide)]; exact ⟨_, _, _, rfl, rfl, hR⟩
    · have hlt : pg.length < 54 := by have := hp.1; omega
      rw [if_pos (show nI pg.length < 54 from nI_lt hlt (by decide)), if_neg (show ¬ nI pg.length = 54 from fun e => hf ((nI_eq (b := 54) (by omega) (by decide)).mp e)), gd_t _ (inb_nI hlt (by decide))]
      obtain ⟨a, ha, rfl⟩ : ∃ a : Nat, a ≤ 126 ∧ a1 = nI a := wi_nat (m := 126) (by decide) (by rw [Int32.le_iff_toInt_le] at h2 ⊢; have e : (32 : Int32).toInt = 32 := rfl; have e0 : (0 : Int32).toInt = 0 := rfl; omega) h3
      have hb : vp_nar .byte (nI a).toInt8.toInt32 = nI a := by
        exact nar_b a (by omega)
      have h32 : 32 ≤ a := by
        rw [Int32.le_iff_toInt_le, nI_toInt (by omega)] at h2
        have e : (32 : Int32).toInt = 32 := rfl
        omega
      unfold f_X2_write bv
      rw [c1.1, if_neg (show ¬ 54 ≤ nI pg.length from nI_ge hlt (by decide)), gd_t _ (inb_nI hlt (by decide)), bo_s, nI_clamp (by omega), hb]
      have e1 : up2 σ 2 pg.length (nI a) 1 3 + 1 = nI (pg.length + 1) := by rw [up2_ne (by omega), c1.1, nI_1]
      have e2 : ri (ui τ 12 pg.length (nI a)) 0 17 + 1 = nI (pg.length + 1) := by rw [ri_ui_ne (by omega), r1.1, nI_1]
      dsimp only
      rw [e1, e2, up2_self, ri_ui_self]
      refine ⟨nI (pg.length + 1), up2 (up2 σ 2 pg.length (nI a)) 1 3 (nI (pg.length + 1)), ui (ui τ 12 pg.length (nI a)) 0 17 (nI (pg.length + 1)), rfl, rfl, q, cs, wa, pg ++ [nI a], kp, ?_, ?_, ?_⟩
      · have := GD_up hg
        refine ⟨this.1, this.2.1, ⟨by simp; omega, fun x hx => ?_⟩, this.2.2.2⟩
        rcases List.mem_append.mp hx with hx | hx
        · exact hp.2 x hx
        · rw [List.mem_singleton.mp hx, nI_toInt (by omega)]; omega
      · refine CR_pg (GD_n hg) (GD_k hg) (fun k hk => by rw [up2_ne (by omega), up2_ne (by omega)]) ?_ hc
        rw [up2_self, up2_ne (by omega), up2_at, ← nI_1, ← c1.1]
        exact Row_push _ c1
      · refine RR_pg (fun k h0 h12 => by rw [ri_ui_cell h0, ri_ui_cell h12]) (fun j hj => by rw [ri_ui_ne (fun e => hj e.2), ri_ui_ne (by omega)]) ?_ hr
        rw [ri_ui_self, ri_ui_cell (by omega), ← nI_1, ← r1.1, ri_ui_at]
        exact Row_push _ r1

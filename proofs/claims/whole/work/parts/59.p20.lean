/-! the pure side, 20: worlds, by the class -/
theorem nI_or (a b : Nat) : nI a ||| nI b = nI (a ||| b) := by
  apply Int32.toBitVec_inj.mp
  rw [Int32.toBitVec_or]
  exact BitVec.ofNat_or.symm
theorem tell56 {T : St} {f th : Nat → Nat} {wt : Nat} (hwt : wt < 32) (h81 : ∀ g, g < 32 → T 81 g = nI (f g)) (h82 : ∀ g, g < 32 → T 82 g = nI (th g)) : ∃ T', lp (fun (s18 : Int32 × St) => b_X8_tellOf_56 (nI wt) s18.1 s18.2) 5000 (0, T) = some T' ∧ (∀ c, c ≠ 82 → T' c = T c) ∧ ∀ g, g < 32 → T' 82 g = nI (adw f wt th 32 g) := by
  refine lp_up0 (body := fun (s18 : Int32 × St) => b_X8_tellOf_56 (nI wt) s18.1 s18.2) (s := (0, T)) (fun y => (∀ c, c ≠ 82 → y c = T c) ∧ ∀ g, g < 32 → y 82 g = nI (adw f wt th 32 g)) (fun j s => s.1 = nI j ∧ (∀ c, c ≠ 82 → s.2 c = T c) ∧ ∀ g, g < 32 → s.2 82 g = nI (adw f wt th j g)) 32 (by decide) ⟨rfl, fun _ _ => rfl, h82⟩ (fun j s hj hI => ?_) (fun s hI => ?_)
  · obtain ⟨c0, V⟩ := s
    obtain ⟨rfl, g1, g2⟩ := hI
    dsimp only at g1 g2
    have ho := or_lt32 hj hwt
    refine Or.inl ⟨(nI (j + 1), up2 V 82 (j ||| wt) (nI (adw f wt th j (j ||| wt) + f j))), ?_, rfl, fun c hc => ?_, fun g hg => ?_⟩
    · dsimp only
      unfold b_X8_tellOf_56
      rw [if_neg (show ¬ 32 ≤ nI j from nI_ge (b := 32) hj (by decide)), nI_or, gd_t _ (inb_nI ho (by decide)), gd_t _ (inb_nI hj (by decide)), gd_t _ (inb_nI ho (by decide)), nI_clamp (by omega), nI_clamp (by omega), g2 _ ho, g1 81 (by omega), h81 j hj, nI_add]
      simp only [bv, nI_1]
    · dsimp only
      rw [up2_ne hc, g1 c hc]
    · dsimp only
      rw [adw]
      dsimp only
      by_cases e : g = j ||| wt
      · rw [e, up2_self, if_pos rfl]
      · rw [up2_slot e, if_neg e, g2 g hg]; rfl
  · obtain ⟨c0, V⟩ := s
    obtain ⟨rfl, g1, g2⟩ := hI
    dsimp only at g1 g2
    refine ⟨V, ?_, g1, g2⟩
    dsimp only
    unfold b_X8_tellOf_56
    rw [if_pos (by decide)]
theorem tell56_2 : b_X8_tellOf_56_2 = b_X8_tellOf_56 := rfl
def alo (only : Int32) (c : Nat) : Bool := decide (only = -1) || decide (only = nI c)
theorem tellOf_s {σ : St} {ws : List Wt} {f : Nat → Nat} {t : Nat} {only : Int32} (h : HallC σ 23 ws) (hw : WFs ws) (hf : ∀ g, g < 32 → σ 81 g = nI (f g)) : ∃ σ', f_X8_tellOf σ 23 (nI t) only = some σ' ∧ (∀ c, c ≠ 81 → c ≠ 82 → σ' c = σ c) ∧ ∀ g, g < 32 → σ' 81 g = nI (cwy f (fun c => wrN ws t c ws.length) (alo only) 4 g) := by
  have hl := hw.1
  obtain ⟨A, a1, a2, a3⟩ := lp_up0 (body := fun (s1 : Int32 × St) => b_X8_tellOf_3 s1.1 s1.2) (s := (0, σ)) (fun y => (∀ c, c ≠ 82 → y c = σ c) ∧ ∀ g, g < 32 → y 82 g = 0) (fun j s => s.1 = nI j ∧ (∀ c, c ≠ 82 → s.2 c = σ c) ∧ ∀ g, g < j → s.2 82 g = 0) 32 (by decide) ⟨rfl, fun _ _ => rfl, fun g hg => absurd hg (by omega)⟩
    (fun j s hj hI => by
      obtain ⟨c0, V⟩ := s
      obtain ⟨rfl, g1, g2⟩ := hI
      dsimp only at g1 g2
      refine Or.inl ⟨(nI (j + 1), up2 V 82 j 0), ?_, rfl, fun c hc => ?_, fun g hg => ?_⟩
      · dsimp only
        unfold b_X8_tellOf_3
        rw [if_neg (show ¬ 32 ≤ nI j from nI_ge (b := 32) hj (by decide)), gd_t _ (inb_nI hj (by decide)), nI_clamp (by omega)]
        simp only [bv, nI_1]
      · dsimp only
        rw [up2_ne hc, g1 c hc]
      · dsimp only
        by_cases e : g = j
        · rw [e, up2_self]
        · rw [up2_slot e]; exact g2 g (by omega))
    (fun s hI => by
      obtain ⟨c0, V⟩ := s
      obtain ⟨rfl, g1, g2⟩ := hI
      exact ⟨V, by dsimp only; unfold b_X8_tellOf_3; rw [if_pos (by decide)], g1, g2⟩)
  obtain ⟨B, b1, b2, b3⟩ := lp_up0 (body := fun (s10 : Int32 × St) => b_X8_tellOf_27 23 (nI t) only s10.1 s10.2) (s := (0, A)) (fun y => (∀ c, c ≠ 82 → y c = σ c) ∧ ∀ g, g < 32 → y 82 g = nI (cwy f (fun c => wrN ws t c ws.length) (alo only) 4 g)) (fun j s => s.1 = nI j ∧ (∀ c, c ≠ 82 → s.2 c = σ c) ∧ ∀ g, g < 32 → s.2 82 g = nI (cwy f (fun c => wrN ws t c ws.length) (alo only) j g)) 4 (by decide) ⟨rfl, a2, a3⟩
    (fun j s hj hI => by
      obtain ⟨c0, V⟩ := s
      obtain ⟨rfl, g1, g2⟩ := hI
      dsimp only at g1 g2
      have hV : HallC V 23 ws := HallC_c hl (by rw [g1 23 (by omega)]) (fun i hi => g1 _ (by omega)) h
      obtain ⟨V2, v1, v2, v3⟩ := tell56 (T := V) (f := f) (wrN_lt ws t j ws.length hl) (fun g hg => by rw [g1 81 (by omega)]; exact hf g hg) g2
      have hst : b_X8_tellOf_27 23 (nI t) only (nI j) V = if alo only j = true then some (.inl (nI (j + 1), V2)) else some (.inl (nI (j + 1), V)) := by
        unfold b_X8_tellOf_27
        rw [if_neg (show ¬ 4 ≤ nI j from nI_ge (b := 4) hj (by decide)), wrongBy_s hV hw, bo_s, bo_s, tell56_2, v1, bo_s]
        simp only [bv, nI_1]
        by_cases q1 : only = -1
        · rw [if_pos q1, if_pos (by simp [alo, q1])]
        · rw [if_neg q1]
          by_cases q2 : only = nI j
          · rw [if_pos q2, if_pos (by simp [alo, q2])]
          · rw [if_neg q2, if_neg (by simp [alo, q1, q2])]
      by_cases e : alo only j = true
      · rw [if_pos e] at hst
        refine Or.inl ⟨_, hst, rfl, fun c hc => ?_, fun g hg => ?_⟩
        · dsimp only
          rw [v2 c hc, g1 c hc]
        · dsimp only
          rw [cwy, if_pos e]
          exact v3 g hg
      · rw [if_neg e] at hst
        refine Or.inl ⟨_, hst, rfl, g1, fun g hg => ?_⟩
        dsimp only
        rw [cwy, if_neg e]
        exact g2 g hg)
    (fun s hI => by
      obtain ⟨c0, V⟩ := s
      obtain ⟨rfl, g1, g2⟩ := hI
      exact ⟨V, by dsimp only; unfold b_X8_tellOf_27; rw [if_pos (by decide)], g1, g2⟩)
  obtain ⟨C, c1, -, c2⟩ := lp_copy (body := fun (s2 : Int32 × St) => b_X8_tellOf_98 s2.1 s2.2) (fun σ c i => σ c i) (fun _ => True) (fun c => if c = 81 then 82 else c) (fun c => by (repeat' split) <;> omega)
    (fun j T => up2 T 81 j (T 82 j)) 32 (by decide) (fun j T hj => by
      dsimp only
      unfold b_X8_tellOf_98
      rw [if_neg (show ¬ 32 ≤ nI j from nI_ge (b := 32) hj (by decide))]
      simp only [gd_t _ (inb_nI hj (show 32 < 2 ^ 31 by decide)), nI_clamp (show j < 2 ^ 31 by omega), bv, nI_1])
    (fun T => by dsimp only; unfold b_X8_tellOf_98; rw [if_pos (by decide)])
    (fun j T c i hj => by
      simp only [up2_all]
      by_cases ei : i = j
      · subst ei
        simp only [and_true, if_true]
        (repeat' split) <;> first | rfl | (exfalso; omega) | (subst_vars; rfl)
      · simp only [ei, and_false, if_false])
    (fun _ _ h => h) B trivial
  unfold f_X8_tellOf
  rw [a1, bo_s, b1, bo_s, c1, bo_s]
  refine ⟨C, rfl, fun c h1 h2 => ?_, fun g hg => ?_⟩
  · funext i
    rw [c2 c i, if_neg h1, ← b2 c h2]
    split <;> rfl
  · rw [c2 81 g, if_pos hg, if_pos rfl, b3 g hg]
theorem howManyC_s {σ : St} {ws : List Wt} {wrong : Nat} {a3 a4 : Int32} (hwr : wrong ≤ 5) (h : HallC σ 23 ws) (hw : WFs ws) : ∃ σ', f_X8_howMany σ 23 (nI wrong) a3 a4 = some (nI (dot (wys (fun k c => wrN ws k c ws.length) (fun k => alo (if nI k = a3 then a4 else -1)) 6) (fun g => if pc g ≤ wrong then 1 else 0)), σ') ∧ ∀ c, c ≠ 81 → c ≠ 82 → σ' c = σ c := by
  have hl := hw.1
  obtain ⟨A, a1, a2, a3'⟩ := lp_up0 (body := fun (s1 : Int32 × St) => b_X8_howMany_3 s1.1 s1.2) (s := (0, σ)) (fun y => (∀ c, c ≠ 81 → y c = σ c) ∧ ∀ g, g < 32 → y 81 g = nI (if g = 0 then 1 else 0)) (fun j s => s.1 = nI j ∧ (∀ c, c ≠ 81 → s.2 c = σ c) ∧ ∀ g, g < j → s.2 81 g = nI (if g = 0 then 1 else 0)) 32 (by decide) ⟨rfl, fun _ _ => rfl, fun g hg => absurd hg (by omega)⟩
    (fun j s hj hI => by
      obtain ⟨c0, V⟩ := s
      obtain ⟨rfl, g1, g2⟩ := hI
      dsimp only at g1 g2
      refine Or.inl ⟨(nI (j + 1), up2 V 81 j (nI (if j = 0 then 1 else 0))), ?_, rfl, fun c hc => ?_, fun g hg => ?_⟩
      · dsimp only
        unfold b_X8_howMany_3
        rw [if_neg (show ¬ 32 ≤ nI j from nI_ge (b := 32) hj (by decide)), gd_t _ (inb_nI hj (by decide)), gd_t _ (inb_nI hj (by decide)), nI_clamp (by omega)]
        simp only [bv, nI_1]
        by_cases e : j = 0
        · subst e
          rw [if_pos rfl]
          rfl
        · rw [if_neg (nI_ne0 (by omega) (by omega)), if_neg e]
          rfl
      · dsimp only
        rw [up2_ne hc, g1 c hc]
      · dsimp only
        by_cases e : g = j
        · rw [e, up2_self]
        · rw [up2_slot e]; exact g2 g (by omega))
    (fun s hI => by
      obtain ⟨c0, V⟩ := s
      obtain ⟨rfl, g1, g2⟩ := hI
      exact ⟨V, by dsimp only; unfold b_X8_howMany_3; rw [if_pos (by decide)], g1, g2⟩)
  obtain ⟨B, b1, b2, b3⟩ := lp_up0 (body := fun (s10 : Int32 × St) => b_X8_howMany_36 23 a3 a4 s10.1 s10.2) (s := (0, A)) (fun y => (∀ c, c ≠ 81 → c ≠ 82 → y c = σ c) ∧ ∀ g, g < 32 → y 81 g = nI (wys (fun k c => wrN ws k c ws.length) (fun k => alo (if nI k = a3 then a4 else -1)) 6 g)) (fun j s => s.1 = nI j ∧ (∀ c, c ≠ 81 → c ≠ 82 → s.2 c = σ c) ∧ ∀ g, g < 32 → s.2 81 g = nI (wys (fun k c => wrN ws k c ws.length) (fun k => alo (if nI k = a3 then a4 else -1)) j g)) 6 (by decide) ⟨rfl, fun c h1 _ => a2 c h1, a3'⟩
    (fun j s hj hI => by
      obtain ⟨c0, V⟩ := s
      obtain ⟨rfl, g1, g2⟩ := hI
      dsimp only at g1 g2
      have hV : HallC V 23 ws := HallC_c hl (by rw [g1 23 (by omega) (by omega)]) (fun i hi => g1 _ (by omega) (by omega)) h
      obtain ⟨V2, v1, v2, v3⟩ := tellOf_s (t := j) (only := if nI j = a3 then a4 else -1) hV hw g2
      refine Or.inl ⟨(nI (j + 1), V2), ?_, rfl, fun c h1 h2 => ?_, v3⟩
      · dsimp only
        unfold b_X8_howMany_36
        have hq : (if nI j = a3 then some a4 else some (-1)) = some (if nI j = a3 then a4 else -1) := by split <;> rfl
        rw [if_neg (show ¬ 6 ≤ nI j from nI_ge (b := 6) hj (by decide)), hq, bo_s, v1, bo_s]
        simp only [bv, nI_1]
      · dsimp only
        rw [v2 c h1 h2, g1 c h1 h2])
    (fun s hI => by
      obtain ⟨c0, V⟩ := s
      obtain ⟨rfl, g1, g2⟩ := hI
      exact ⟨V, by dsimp only; unfold b_X8_howMany_36; rw [if_pos (by decide)], g1, g2⟩)
  have pl : ∀ g, g < 32 → pc g < 2 ^ 31 := fun g hg => by unfold pc; omega
  unfold f_X8_howMany
  rw [a1, bo_s, b1, bo_s]
  generalize wys (fun k c => wrN ws k c ws.length) (fun k => alo (if nI k = a3 then a4 else -1)) 6 = f at *
  rw [lp_runs (body := fun (s25 : Int32 × Int32) => b_X8_howMany_74 (nI wrong) B s25.1 s25.2) (0, 0) (fun g => (nI (sn (fun x => f x * (if pc x ≤ wrong then 1 else 0)) g), nI g)) (nI (dot f (fun g => if pc g ≤ wrong then 1 else 0))) 32 rfl (by decide) (fun g hg => ?_) ?_, bo_s]
  · exact ⟨B, rfl, b2⟩
  rotate_left
  · dsimp only
    unfold b_X8_howMany_74
    rw [if_neg (show ¬ 32 ≤ nI g from nI_ge (b := 32) hg (by decide)), pc_class g hg, bo_s, gd_t _ (inb_nI hg (by decide)), nI_clamp (by omega), b3 g hg, nI_add]
    simp only [bv, nI_1, nI_ltI (show wrong < 2 ^ 31 by omega) (pl g hg)]
    rw [show sn (fun x => f x * (if pc x ≤ wrong then 1 else 0)) (g + 1) = sn (fun x => f x * (if pc x ≤ wrong then 1 else 0)) g + f g * (if pc g ≤ wrong then 1 else 0) from rfl]
    by_cases e : wrong < pc g
    · rw [if_pos e, if_neg (show ¬ pc g ≤ wrong by omega)]; rfl
    · rw [if_neg e, if_pos (show pc g ≤ wrong by omega), Nat.mul_one]
  · dsimp only
    unfold b_X8_howMany_74
    rw [if_pos (by decide)]
    rfl

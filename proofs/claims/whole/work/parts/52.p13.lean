/-! the pure side, 13: whom to keep, whom to send away -/
theorem wall_or {n : Nat} {σ : St} {τ : SR} {q : AK} {cs : List (Int32 × Int32)} {wa : Nat} {pg : List Int32} {kp : Option AK} (hn : n < 512) (hg : GD n q cs wa pg kp) (hc : CR σ q cs wa pg kp) (hr : RR τ q cs wa pg kp) : (q.1.length = 0 ∧ f_X9_hasWall σ = some 0 ∧ ri τ 0 0 = 0) ∨ (0 < q.1.length ∧ f_X9_hasWall σ = some 1 ∧ ¬ ri τ 0 0 = 0) := by
  have e := wa0 (by have := hg.2.2.2.1; omega) hr.2.2.2.2.2.2.1
  by_cases h3 : q.1.length = 0
  · exact Or.inl ⟨h3, by rw [hasWall9 (GD_n hg) (CR_n hc), if_pos h3], e.mpr (hg.2.2.2.2.1.mpr h3)⟩
  · exact Or.inr ⟨by omega, by rw [hasWall9 (GD_n hg) (CR_n hc), if_neg h3], fun z => h3 (hg.2.2.2.2.1.mp (e.mp z))⟩
-- the least of the smallest
def asc (P : Nat → Bool) (N : Nat) : Nat → Nat
  | 0 => N
  | j + 1 => if pc j < pc (asc P N j) ∧ P j = true then j else asc P N j
def des (P : Nat → Bool) (N : Nat) : Nat → Nat
  | 0 => N
  | i + 1 => if pc (N - i) ≤ pc (des P N i) ∧ P (N - i) = true then N - i else des P N i
theorem asc_le (P : Nat → Bool) (N : Nat) : ∀ j, j ≤ N → asc P N j ≤ N := by
  intro j
  induction j with
  | zero => intro _; exact Nat.le_refl _
  | succ j ih =>
    intro hj
    rw [asc]
    split
    · omega
    · exact ih (by omega)
theorem des_le (P : Nat → Bool) (N : Nat) : ∀ j, des P N j ≤ N := by
  intro j
  induction j with
  | zero => exact Nat.le_refl _
  | succ j ih =>
    rw [des]
    split
    · omega
    · exact ih
theorem asc_inv {P : Nat → Bool} {N : Nat} (H : ∀ j, j < N → pc j < pc N) : ∀ j, j ≤ N → (asc P N j = N ∨ (asc P N j < j ∧ P (asc P N j) = true)) ∧ pc (asc P N j) ≤ pc N ∧ ∀ g, g < j → P g = true → pc (asc P N j) ≤ pc g ∧ (g < asc P N j → pc (asc P N j) < pc g) := by
  intro j
  induction j with
  | zero => intro _; exact ⟨Or.inl rfl, Nat.le_refl _, fun g hg => absurd hg (by omega)⟩
  | succ j ih =>
    intro hj
    obtain ⟨i1, i2, i3⟩ := ih (by omega)
    rw [asc]
    by_cases hc : pc j < pc (asc P N j) ∧ P j = true
    · rw [if_pos hc]
      refine ⟨Or.inr ⟨by omega, hc.2⟩, by omega, fun g hg hp => ?_⟩
      by_cases e : g = j
      · subst e; exact ⟨Nat.le_refl _, fun z => absurd z (by omega)⟩
      · have := i3 g (by omega) hp
        exact ⟨by omega, fun z => by omega⟩
    · rw [if_neg hc]
      refine ⟨i1.imp id (fun z => ⟨by omega, z.2⟩), i2, fun g hg hp => ?_⟩
      by_cases e : g = j
      · subst e
        have h1 : ¬ pc g < pc (asc P N g) := fun z => hc ⟨z, hp⟩
        refine ⟨by omega, fun z => ?_⟩
        rcases i1 with i1 | i1
        · have := H g (by omega)
          rw [i1] at h1
          omega
        · omega
      · exact i3 g (by omega) hp
theorem des_inv {P : Nat → Bool} {N : Nat} : ∀ i, i ≤ N + 1 → (des P N i = N ∨ P (des P N i) = true) ∧ ∀ g, N + 1 - i ≤ g → g ≤ N → P g = true → pc (des P N i) ≤ pc g ∧ (g < des P N i → pc (des P N i) < pc g) := by
  intro i
  induction i with
  | zero => intro _; exact ⟨Or.inl rfl, fun g h1 h2 => absurd h1 (by omega)⟩
  | succ i ih =>
    intro hi
    obtain ⟨i1, i3⟩ := ih (by omega)
    rw [des]
    by_cases hc : pc (N - i) ≤ pc (des P N i) ∧ P (N - i) = true
    · rw [if_pos hc]
      refine ⟨Or.inr hc.2, fun g h1 h2 hp => ?_⟩
      by_cases e : g = N - i
      · subst e; exact ⟨Nat.le_refl _, fun z => absurd z (by omega)⟩
      · have := i3 g (by omega) h2 hp
        exact ⟨by omega, fun z => absurd z (by omega)⟩
    · rw [if_neg hc]
      refine ⟨i1, fun g h1 h2 hp => ?_⟩
      by_cases e : g = N - i
      · subst e
        have h1 : ¬ pc (N - i) ≤ pc (des P N i) := fun z => hc ⟨z, hp⟩
        exact ⟨by omega, fun z => by omega⟩
      · exact i3 g (by omega) h2 hp
theorem asc_des {P : Nat → Bool} {N : Nat} (H : ∀ j, j < N → pc j < pc N) (hN : P N = true) : asc P N N = des P N (N + 1) := by
  obtain ⟨a1, a2, a3⟩ := asc_inv (P := P) H N (Nat.le_refl _)
  obtain ⟨d1, d3⟩ := des_inv (P := P) (N := N) (N + 1) (Nat.le_refl _)
  have la := asc_le P N N (Nat.le_refl _)
  have ld := des_le P N (N + 1)
  have pa : P (asc P N N) = true := by
    rcases a1 with e | e
    · rw [e]; exact hN
    · exact e.2
  have pd : P (des P N (N + 1)) = true := by
    rcases d1 with e | e
    · rw [e]; exact hN
    · exact e
  have x1 := d3 (asc P N N) (by omega) la pa
  by_cases hlt : des P N (N + 1) < N
  · have x2 := a3 (des P N (N + 1)) hlt pd
    by_cases e1 : asc P N N < des P N (N + 1)
    · have := x1.2 e1; omega
    · by_cases e2 : des P N (N + 1) < asc P N N
      · have := x2.2 e2; omega
      · omega
  · have e : des P N (N + 1) = N := by omega
    rw [e] at x1 ⊢
    by_cases e1 : asc P N N < N
    · have := x1.2 e1; omega
    · omega
theorem pc_H : ∀ n, n < 6 → ∀ j, j < 2 ^ n - 1 → pc j < pc (2 ^ n - 1) := by decide +kernel
theorem pc_N : ∀ n, n < 6 → pc (2 ^ n - 1) = n := by decide +kernel
theorem p2_lt {n : Nat} (h : n ≤ 5) : 2 ^ n - 1 < 32 := by
  have : 2 ^ n ≤ 2 ^ 5 := Nat.pow_le_pow_right (by decide) h
  omega
-- keep
noncomputable def kP (ws : List Wt) (g : Nat) : Bool := (List.range 6).all (fun t => sd ws (nI g) (nI t) == sd ws (nI (2 ^ ws.length - 1)) (nI t))
theorem kP_iff (ws : List Wt) (g : Nat) : kP ws g = true ↔ ∀ t, t < 6 → sd ws (nI g) (nI t) = sd ws (nI (2 ^ ws.length - 1)) (nI t) := by
  unfold kP
  rw [List.all_eq_true]
  constructor
  · intro h t ht
    exact eq_of_beq (h t (List.mem_range.mpr ht))
  · intro h t ht
    exact beq_iff_eq.mpr (h t (List.mem_range.mp ht))
theorem saysTheSame_s {σ : St} {k : Nat} {ws : List Wt} (h : HallC σ k ws) (hw : WFs ws) (g : Nat) : ∃ σ', f_X1_saysTheSame k σ (nI g) = some ((if kP ws g = true then 1 else 0), σ') ∧ ∀ c, c ≠ k + 2 → σ' c = σ c := by
  have hl := hw.1
  obtain ⟨y, hy, hv⟩ := lp_up0 (body := fun (s1 : Int32 × St) => b_X1_saysTheSame_2 k (nI g) s1.1 s1.2) (s := (0, σ)) (fun y => ∃ σ', Sum.elim (fun (x2 : St) => some ((1 : Int32), x2)) (fun (x2 : Int32 × St) => some x2) y = some ((if kP ws g = true then 1 else 0), σ') ∧ ∀ c, c ≠ k + 2 → σ' c = σ c)
    (fun j s => s.1 = nI j ∧ (∀ c, c ≠ k + 2 → s.2 c = σ c) ∧ ∀ t, t < j → sd ws (nI g) (nI t) = sd ws (nI (2 ^ ws.length - 1)) (nI t)) 6 (by decide) ⟨rfl, fun _ _ => rfl, fun t ht => absurd ht (by omega)⟩
    (fun j s hj hI => by
      obtain ⟨c0, T⟩ := s
      obtain ⟨rfl, g1, g2⟩ := hI
      dsimp only at g1 g2
      have hT : HallC T k ws := HallC_c hl (by rw [g1 k (by omega)]) (fun i hi => g1 _ (by omega)) h
      obtain ⟨T2, e1, e2⟩ := saidAmong_s (g := nI g) (t := nI j) hT hw
      have hT2 : HallC T2 k ws := HallC_c hl (by rw [e2 k (by omega)]) (fun i hi => e2 _ (by omega)) hT
      obtain ⟨T3, e3, e4⟩ := saidAmong_s (g := nI (2 ^ ws.length - 1)) (t := nI j) hT2 hw
      have hst : b_X1_saysTheSame_2 k (nI g) (nI j) T = if sd ws (nI g) (nI j) = sd ws (nI (2 ^ ws.length - 1)) (nI j) then some (.inl (nI (j + 1), T3)) else some (.inr (.inr (0, T3))) := by
        unfold b_X1_saysTheSame_2
        rw [if_neg (show ¬ 6 ≤ nI j from nI_ge (b := 6) hj (by decide)), e1, bo_s]
        dsimp only
        rw [everyone_s hT2.1 hl, bo_s, e3, bo_s]
        simp only [bv, nI_1]
      by_cases ee : sd ws (nI g) (nI j) = sd ws (nI (2 ^ ws.length - 1)) (nI j)
      · rw [if_pos ee] at hst
        refine Or.inl ⟨(nI (j + 1), T3), hst, rfl, fun c hc => by show T3 c = _; rw [e4 c hc, e2 c hc, g1 c hc], fun t ht => ?_⟩
        by_cases et : t = j
        · rw [et]; exact ee
        · exact g2 t (by omega)
      · rw [if_neg ee] at hst
        refine Or.inr ⟨.inr (0, T3), hst, T3, ?_, fun c hc => by rw [e4 c hc, e2 c hc, g1 c hc]⟩
        rw [if_neg (fun z => ee ((kP_iff ws g).mp z j hj))]
        rfl)
    (fun s hI => by
      obtain ⟨c0, T⟩ := s
      obtain ⟨rfl, g1, g2⟩ := hI
      dsimp only at g1 g2
      refine ⟨.inl T, by dsimp only; unfold b_X1_saysTheSame_2; rw [if_pos (by decide)], T, ?_, g1⟩
      rw [if_pos ((kP_iff ws g).mpr g2)]
      rfl)
  obtain ⟨σ', v1, v2⟩ := hv
  unfold f_X1_saysTheSame
  rw [hy, bo_s]
  exact ⟨σ', v1, v2⟩
theorem isSaidSo_s {τ : SR} {ws : List Wt} (h : HR τ ws) (hw : WFs ws) (g : Nat) : f_X10_isSaidSo τ (nI g) = some (if kP ws g = true then 1 else 0) := by
  have hl := hw.1
  obtain ⟨y, hy, rfl⟩ := lp_up0 (body := fun (s1 : Int32 × Int32) => b_X10_isSaidSo_4 τ (nI g) s1.1 s1.2) (s := (1, 0)) (fun y => y = if kP ws g = true then 1 else 0)
    (fun j s => s.2 = nI j ∧ (s.1 = 1 ∧ (∀ t, t < j → sd ws (nI g) (nI t) = sd ws (nI (2 ^ ws.length - 1)) (nI t)) ∨ s.1 = 0 ∧ kP ws g = false)) 6 (by decide) ⟨rfl, Or.inl ⟨rfl, fun t ht => absurd ht (by omega)⟩⟩
    (fun j s hj hI => by
      obtain ⟨c0, c1⟩ := s
      obtain ⟨rfl, hI⟩ := hI
      dsimp only at hI
      rcases hI with ⟨rfl, g2⟩ | ⟨rfl, g2⟩
      · have hst : b_X10_isSaidSo_4 τ (nI g) 1 (nI j) = if sd ws (nI g) (nI j) = sd ws (nI (2 ^ ws.length - 1)) (nI j) then some (.inl (1, nI (j + 1))) else some (.inl (0, nI (j + 1))) := by
          unfold b_X10_isSaidSo_4
          rw [if_neg (show ¬ 6 ≤ nI j from nI_ge (b := 6) hj (by decide)), if_neg one0, saidBy_s h hw, bo_s, everybody_s h.1 hl, bo_s, saidBy_s h hw, bo_s]
          simp only [bv, nI_1]
        by_cases ee : sd ws (nI g) (nI j) = sd ws (nI (2 ^ ws.length - 1)) (nI j)
        · rw [if_pos ee] at hst
          refine Or.inl ⟨_, hst, rfl, Or.inl ⟨rfl, fun t ht => ?_⟩⟩
          by_cases et : t = j
          · rw [et]; exact ee
          · exact g2 t (by omega)
        · rw [if_neg ee] at hst
          exact Or.inl ⟨_, hst, rfl, Or.inr ⟨rfl, Bool.eq_false_iff.mpr (fun z => ee ((kP_iff ws g).mp z j hj))⟩⟩
      · refine Or.inl ⟨(0, nI (j + 1)), ?_, rfl, Or.inr ⟨rfl, g2⟩⟩
        dsimp only
        unfold b_X10_isSaidSo_4
        rw [if_neg (show ¬ 6 ≤ nI j from nI_ge (b := 6) hj (by decide)), if_pos rfl]
        simp only [bv, nI_1])
    (fun s hI => by
      obtain ⟨c0, c1⟩ := s
      obtain ⟨rfl, hI⟩ := hI
      dsimp only at hI
      refine ⟨c0, by dsimp only; unfold b_X10_isSaidSo_4; rw [if_pos (by decide)], ?_⟩
      rcases hI with ⟨rfl, g2⟩ | ⟨rfl, g2⟩
      · rw [if_pos ((kP_iff ws g).mpr g2)]
      · rw [if_neg (by rw [g2]; decide)])
  unfold f_X10_isSaidSo
  rw [hy, bo_s]
  split <;> rfl
theorem fewestToKeep_s {σ : St} {k : Nat} {ws : List Wt} (h : HallC σ k ws) (hw : WFs ws) : ∃ σ', f_X1_fewestToKeep k σ = some (nI (asc (kP ws) (2 ^ ws.length - 1) (2 ^ ws.length - 1)), σ') ∧ ∀ c, c ≠ k + 2 → σ' c = σ c := by
  have hl := hw.1
  have hN := p2_lt hl
  have hpN := pc_N ws.length (by omega)
  unfold f_X1_fewestToKeep
  rw [everyone_s h.1 hl, bo_s, h.1]
  generalize hNN : 2 ^ ws.length - 1 = N at *
  obtain ⟨y, hy, σ', y1, y2⟩ := lp_up0 (body := fun (s3 : Int32 × Int32 × Int32 × St) => b_X1_fewestToKeep_12 k s3.1 s3.2.1 s3.2.2.1 s3.2.2.2) (s := (nI N, nI ws.length, 0, σ)) (fun y => ∃ σ', y = (nI (asc (kP ws) N N), σ') ∧ ∀ c, c ≠ k + 2 → σ' c = σ c)
    (fun j s => s.1 = nI (asc (kP ws) N j) ∧ s.2.1 = nI (pc (asc (kP ws) N j)) ∧ s.2.2.1 = nI j ∧ ∀ c, c ≠ k + 2 → s.2.2.2 c = σ c) N (by omega) ⟨rfl, by show nI ws.length = nI (pc N); rw [hpN], rfl, fun _ _ => rfl⟩
    (fun j s hj hI => by
      obtain ⟨c0, c1, c2, T⟩ := s
      obtain ⟨rfl, rfl, rfl, g1⟩ := hI
      dsimp only at g1
      have hT : HallC T k ws := HallC_c hl (by rw [g1 k (by omega)]) (fun i hi => g1 _ (by omega)) h
      obtain ⟨T2, e1, e2⟩ := saysTheSame_s hT hw j
      have ha := asc_le (kP ws) N j (by omega)
      have pl : ∀ g, g < 32 → pc g < 2 ^ 31 := fun g hg => by unfold pc; omega
      have hst : b_X1_fewestToKeep_12 k (nI (asc (kP ws) N j)) (nI (pc (asc (kP ws) N j))) (nI j) T = if pc (asc (kP ws) N j) ≤ pc j then some (.inl (nI (asc (kP ws) N j), nI (pc (asc (kP ws) N j)), nI (j + 1), T)) else if kP ws j = true then some (.inl (nI j, nI (pc j), nI (j + 1), T2)) else some (.inl (nI (asc (kP ws) N j), nI (pc (asc (kP ws) N j)), nI (j + 1), T2)) := by
        unfold b_X1_fewestToKeep_12
        rw [everyone_s hT.1 hl, hNN, bo_s, if_neg (nI_ge hj (by omega)), pc_class j (by omega), bo_s, e1, bo_s]
        simp only [bv, nI_1, nI_leI (pl _ (show asc (kP ws) N j < 32 by omega)) (pl j (by omega)), bo_s]
        by_cases q1 : pc (asc (kP ws) N j) ≤ pc j
        · rw [if_pos q1, if_pos q1]
        · rw [if_neg q1, if_neg q1]
          by_cases q2 : kP ws j = true
          · rw [if_pos q2, if_neg one0, if_pos q2]
          · rw [if_neg q2, if_pos rfl, if_neg q2]
      by_cases q1 : pc (asc (kP ws) N j) ≤ pc j
      · rw [if_pos q1] at hst
        have ea : asc (kP ws) N (j + 1) = asc (kP ws) N j := by rw [asc, if_neg (fun z => by omega)]
        exact Or.inl ⟨_, hst, by rw [ea], by rw [ea], rfl, g1⟩
      · rw [if_neg q1] at hst
        by_cases q2 : kP ws j = true
        · rw [if_pos q2] at hst
          have ea : asc (kP ws) N (j + 1) = j := by rw [asc, if_pos ⟨by omega, q2⟩]
          exact Or.inl ⟨_, hst, by rw [ea], by rw [ea], rfl, fun c hc => by show T2 c = _; rw [e2 c hc, g1 c hc]⟩
        · rw [if_neg q2] at hst
          have ea : asc (kP ws) N (j + 1) = asc (kP ws) N j := by rw [asc, if_neg (fun z => q2 z.2)]
          exact Or.inl ⟨_, hst, by rw [ea], by rw [ea], rfl, fun c hc => by show T2 c = _; rw [e2 c hc, g1 c hc]⟩)
    (fun s hI => by
      obtain ⟨c0, c1, c2, T⟩ := s
      obtain ⟨rfl, rfl, rfl, g1⟩ := hI
      dsimp only at g1
      refine ⟨(nI (asc (kP ws) N N), T), ?_, T, rfl, g1⟩
      dsimp only
      unfold b_X1_fewestToKeep_12
      rw [everyone_s (σ := T) (k := k) (n := ws.length) (by rw [g1 k (by omega)]; exact h.1) hl, hNN, bo_s, if_pos (nI_le (Nat.le_refl _) (by omega))])
  subst y1
  show ∃ σ', bo (lp _ 5000 (nI N, nI ws.length, 0, σ)) _ = _ ∧ _
  rw [hy, bo_s]
  exact ⟨σ', rfl, y2⟩
theorem keepSet_s {τ : SR} {ws : List Wt} (h : HR τ ws) (hw : WFs ws) : f_X10_keepSet τ = some (nI (des (kP ws) (2 ^ ws.length - 1) (2 ^ ws.length - 1 + 1))) := by
  have hl := hw.1
  have hN := p2_lt hl
  unfold f_X10_keepSet
  rw [everybody_s h.1 hl, bo_s, bo_s]
  generalize hNN : 2 ^ ws.length - 1 = N at *
  have pl : ∀ g, g < 32 → pc g < 2 ^ 31 := fun g hg => by unfold pc; omega
  rw [lp_runs (body := fun (s3 : Int32 × Int32) => b_X10_keepSet_10 τ s3.1 s3.2) (nI N, nI N) (fun i => (nI (des (kP ws) N i), nI (N + 1 - i) - 1)) (nI (des (kP ws) N (N + 1))) (N + 1) (by rw [Nat.sub_zero, nI_m1]; rfl) (by omega) (fun i hi => ?_) ?_, bo_s]
  rotate_left
  · dsimp only
    have hd := des_le (kP ws) N i
    rw [show N + 1 - i = (N - i) + 1 by omega, nI_m1]
    unfold b_X10_keepSet_10
    rw [if_neg (nI_pos (by omega)), pc_ref _ (by omega), bo_s, pc_ref _ (by omega), bo_s, isSaidSo_s h hw, bo_s, des, show N + 1 - (i + 1) = N - i by omega]
    simp only [bv, nI_sub1, nI_ltI (pl _ (show des (kP ws) N i < 32 by omega)) (pl (N - i) (by omega))]
    by_cases q1 : pc (des (kP ws) N i) < pc (N - i)
    · rw [if_pos q1, if_neg (fun z => by omega)]
    · rw [if_neg q1]
      by_cases q2 : kP ws (N - i) = true
      · rw [if_pos q2, if_neg one0, if_pos ⟨by omega, q2⟩]
      · rw [if_neg q2, if_pos rfl, if_neg (fun z => q2 z.2)]
  · dsimp only
    unfold b_X10_keepSet_10
    rw [Nat.sub_self, if_pos (by decide)]
theorem kP_N (ws : List Wt) : kP ws (2 ^ ws.length - 1) = true := (kP_iff _ _).mpr (fun _ _ => rfl)
theorem op_keep (n : Nat) (σ : St) (τ : SR) (a1 : Int32) (hn : n < 512) (h : Rel n σ τ) : ∃ (r : Int32) (σ' : St), f_X9_keep σ a1 = some (r, σ') ∧ f_X10_keep τ a1 = some r ∧ Rel (n + 1) σ' τ := by
  have hR := Rel_up n σ τ h
  obtain ⟨q, cs, wa, pg, kp, hg, hc, hr⟩ := h
  unfold f_X9_keep f_X10_keep
  rw [within9, within10, bo_s, bo_s]
  by_cases h1 : wi a1 0 1 = 0
  · rw [if_pos h1, if_pos h1]; exact ⟨_, _, rfl, rfl, hR⟩
  rw [if_neg h1, if_neg h1]
  rcases wall_or hn hg hc hr with ⟨-, w1, w2⟩ | ⟨-, w1, w2⟩
  · rw [w1, bo_s, if_pos rfl, if_pos w2]; exact ⟨_, _, rfl, rfl, hR⟩
  rw [w1, bo_s, if_neg one0, if_neg w2]
  obtain ⟨σ', e1, e2⟩ := fewestToKeep_s hc.1.1 hg.1.1
  have hl := GD_n hg
  have hN := p2_lt hl
  have hb := asc_le (kP q.1) (2 ^ q.1.length - 1) _ (Nat.le_refl _)
  rw [e1, keepSet_s (RR_h hr) hg.1.1, ← asc_des (pc_H _ (by omega)) (kP_N q.1), bo_s, bo_s, pc_ref _ (by omega), pc_class _ (by omega)]
  have hrel : Rel (n + 1) σ' τ := ⟨q, cs, wa, pg, kp, GD_up hg, CR_c (GD_n hg) (GD_k hg) (fun k hk => e2 k (by unfold tl at hk; omega)) (by rw [e2 1 (by omega)]) hc, hr⟩
  generalize asc (kP q.1) (2 ^ q.1.length - 1) (2 ^ q.1.length - 1) = b
  by_cases e : a1 = 0
  · rw [if_pos e, if_pos e]; exact ⟨nI (pc b), σ', rfl, rfl, hrel⟩
  · rw [if_neg e, if_neg e]; exact ⟨nI b, σ', rfl, rfl, hrel⟩
-- peace
noncomputable def pP (ws : List Wt) (g : Nat) : Bool := decide (ca ws (nI (2 ^ ws.length - 1) &&& (nI g ^^^ (-1))) = 0)
theorem an_dec : ∀ N, N < 32 → nI N &&& (nI N ^^^ (-1)) = 0 := by decide +kernel
theorem pP_N {ws : List Wt} (hl : ws.length ≤ 5) : pP ws (2 ^ ws.length - 1) = true := by
  apply decide_eq_true
  rw [an_dec _ (p2_lt hl)]
  rw [ca_eq]
  unfold ca0
  apply sm_zero
  intro i hi
  apply sm_zero
  intro j hj
  unfold cw
  rw [if_neg]
  intro z
  rw [bt_iff _ (by omega)] at z
  simp at z
theorem sendAway_s {σ : St} {k : Nat} {ws : List Wt} (h : HallC σ k ws) (hw : WFs ws) : f_X1_fewestToSendAway k σ = some (nI (asc (pP ws) (2 ^ ws.length - 1) (2 ^ ws.length - 1))) := by
  have hl := hw.1
  have hN := p2_lt hl
  have hpN := pc_N ws.length (by omega)
  unfold f_X1_fewestToSendAway
  rw [everyone_s h.1 hl, bo_s, h.1]
  have hP : ∀ g, pP ws g = decide (ca ws (nI (2 ^ ws.length - 1) &&& (nI g ^^^ (-1))) = 0) := fun g => rfl
  generalize hNN : 2 ^ ws.length - 1 = N at *
  have pl : ∀ g, g < 32 → pc g < 2 ^ 31 := fun g hg => by unfold pc; omega
  have hL : lp (fun (s3 : Int32 × Int32 × Int32) => b_X1_fewestToSendAway_12 k σ s3.1 s3.2.1 s3.2.2) 5000 (nI N, nI ws.length, 0) = some (nI (asc (pP ws) N N)) := by
    refine lp_runs (body := fun (s3 : Int32 × Int32 × Int32) => b_X1_fewestToSendAway_12 k σ s3.1 s3.2.1 s3.2.2) (nI N, nI ws.length, 0) (fun j => (nI (asc (pP ws) N j), nI (pc (asc (pP ws) N j)), nI j)) _ N (by show _ = (nI N, nI (pc N), nI 0); rw [hpN]; rfl) (by omega) (fun j hj => ?_) ?_
    · dsimp only
      have ha := asc_le (pP ws) N j (by omega)
      unfold b_X1_fewestToSendAway_12
      rw [everyone_s h.1 hl, hNN, bo_s, if_neg (nI_ge hj (by omega)), pc_class j (by omega), bo_s, bo_s, clashesAmong_s h hw, bo_s, asc]
      simp only [bv, nI_1, nI_leI (pl _ (show asc (pP ws) N j < 32 by omega)) (pl j (by omega)), bo_s]
      by_cases q1 : pc (asc (pP ws) N j) ≤ pc j
      · rw [if_pos q1, if_neg (fun z => by omega)]
      · rw [if_neg q1]
        by_cases q2 : pP ws j = true
        · rw [if_pos (show ca ws (nI N &&& (nI j ^^^ (-1))) = 0 from of_decide_eq_true ((hP j).symm.trans q2)), if_pos ⟨by omega, q2⟩]
        · rw [if_neg (show ¬ ca ws (nI N &&& (nI j ^^^ (-1))) = 0 from fun z => q2 ((hP j).trans (decide_eq_true z))), if_neg (fun z => q2 z.2)]
    · dsimp only
      unfold b_X1_fewestToSendAway_12
      rw [everyone_s h.1 hl, hNN, bo_s, if_pos (nI_le (Nat.le_refl _) (by omega))]
  show bo (lp _ 5000 (nI N, nI ws.length, 0)) _ = _
  rw [hL, bo_s]
theorem peaceSet_s {τ : SR} {ws : List Wt} (h : HR τ ws) (hw : WFs ws) : f_X10_peaceSet τ = some (nI (des (pP ws) (2 ^ ws.length - 1) (2 ^ ws.length - 1 + 1))) := by
  have hl := hw.1
  have hN := p2_lt hl
  unfold f_X10_peaceSet
  rw [everybody_s h.1 hl, bo_s, bo_s]
  have hP : ∀ g, pP ws g = decide (ca ws (nI (2 ^ ws.length - 1) &&& (nI g ^^^ (-1))) = 0) := fun g => rfl
  generalize hNN : 2 ^ ws.length - 1 = N at *
  have pl : ∀ g, g < 32 → pc g < 2 ^ 31 := fun g hg => by unfold pc; omega
  rw [lp_runs (body := fun (s3 : Int32 × Int32) => b_X10_peaceSet_10 τ s3.1 s3.2) (nI N, nI N) (fun i => (nI (des (pP ws) N i), nI (N + 1 - i) - 1)) (nI (des (pP ws) N (N + 1))) (N + 1) (by rw [Nat.sub_zero, nI_m1]; rfl) (by omega) (fun i hi => ?_) ?_, bo_s]
  rotate_left
  · dsimp only
    have hd := des_le (pP ws) N i
    rw [show N + 1 - i = (N - i) + 1 by omega, nI_m1]
    unfold b_X10_peaceSet_10
    rw [if_neg (nI_pos (by omega)), pc_ref _ (by omega), bo_s, pc_ref _ (by omega), bo_s, everybody_s h.1 hl, hNN, bo_s, clashesAmongR h hw, bo_s, des, show N + 1 - (i + 1) = N - i by omega]
    simp only [bv, nI_sub1, nI_ltI (pl _ (show des (pP ws) N i < 32 by omega)) (pl (N - i) (by omega))]
    by_cases q1 : pc (des (pP ws) N i) < pc (N - i)
    · rw [if_pos q1, if_neg (fun z => by omega)]
    · rw [if_neg q1]
      by_cases q2 : pP ws (N - i) = true
      · rw [if_pos (show ca ws (nI N &&& (nI (N - i) ^^^ (-1))) = 0 from of_decide_eq_true ((hP _).symm.trans q2)), if_pos ⟨by omega, q2⟩]
      · rw [if_neg (show ¬ ca ws (nI N &&& (nI (N - i) ^^^ (-1))) = 0 from fun z => q2 ((hP _).trans (decide_eq_true z))), if_neg (fun z => q2 z.2)]
  · dsimp only
    unfold b_X10_peaceSet_10
    rw [Nat.sub_self, if_pos (by decide)]
theorem op_peace (n : Nat) (σ : St) (τ : SR) (a1 : Int32) (hn : n < 512) (h : Rel n σ τ) : ∃ r : Int32, f_X9_peace σ a1 = some r ∧ f_X10_peace τ a1 = some r ∧ Rel (n + 1) σ τ := by
  have hR := Rel_up n σ τ h
  obtain ⟨q, cs, wa, pg, kp, hg, hc, hr⟩ := h
  unfold f_X9_peace f_X10_peace
  rw [within9, within10, bo_s, bo_s]
  by_cases h1 : wi a1 0 1 = 0
  · rw [if_pos h1, if_pos h1]; exact ⟨_, rfl, rfl, hR⟩
  rw [if_neg h1, if_neg h1]
  rcases wall_or hn hg hc hr with ⟨-, w1, w2⟩ | ⟨-, w1, w2⟩
  · rw [w1, bo_s, if_pos rfl, if_pos w2]; exact ⟨_, rfl, rfl, hR⟩
  rw [w1, bo_s, if_neg one0, if_neg w2]
  have hl := GD_n hg
  have hN := p2_lt hl
  have hb := asc_le (pP q.1) (2 ^ q.1.length - 1) _ (Nat.le_refl _)
  rw [sendAway_s hc.1.1 hg.1.1, peaceSet_s (RR_h hr) hg.1.1, ← asc_des (pc_H _ (by omega)) (pP_N hl), bo_s, bo_s, pc_ref _ (by omega), pc_class _ (by omega)]
  generalize asc (pP q.1) (2 ^ q.1.length - 1) (2 ^ q.1.length - 1) = b
  by_cases e : a1 = 0
  · rw [if_pos e, if_pos e]; exact ⟨nI (pc b), rfl, rfl, hR⟩
  · rw [if_neg e, if_neg e]; exact ⟨nI b, rfl, rfl, hR⟩

/-! the pure side, 28: digest -/
theorem lp2d {A B X Y : Type} {ba : A → Option (A ⊕ X)} {bb : B → Option (B ⊕ Y)} (P : X → Y → Prop) (I : Nat → A → B → Prop) (N : Nat) (hs : ∀ i a b, i < N → I i a b → ∃ a' b', ba a = some (.inl a') ∧ bb b = some (.inl b') ∧ I (i + 1) a' b') (he : ∀ a b, I N a b → ∃ x y, ba a = some (.inr x) ∧ bb b = some (.inr y) ∧ P x y) : ∀ (d i f : Nat) (a : A) (b : B), i + d = N → d < f → I i a b → ∃ x y, lp ba f a = some x ∧ lp bb f b = some y ∧ P x y := by
  intro d
  induction d with
  | zero =>
    intro i f a b hi hf hI
    obtain ⟨f, rfl⟩ : ∃ g, f = g + 1 := ⟨f - 1, by omega⟩
    obtain ⟨x, y, e1, e2, e3⟩ := he a b (by rw [← hi]; exact hI)
    exact ⟨x, y, lp_inr e1, lp_inr e2, e3⟩
  | succ d ih =>
    intro i f a b hi hf hI
    obtain ⟨f, rfl⟩ : ∃ g, f = g + 1 := ⟨f - 1, by omega⟩
    obtain ⟨a', b', e1, e2, e3⟩ := hs i a b (by omega) hI
    rw [lp_inl e1, lp_inl e2]
    exact ih (i + 1) f a' b' (by omega) (by omega) e3
theorem lpp {A B X Y : Type} {ba : A → Option (A ⊕ X)} {bb : B → Option (B ⊕ Y)} {a : A} {b : B} (P : X → Y → Prop) (I : Nat → A → B → Prop) (N : Nat) (hN : N < 5000) (h0 : I 0 a b) (hs : ∀ i a b, i < N → I i a b → ∃ a' b', ba a = some (.inl a') ∧ bb b = some (.inl b') ∧ I (i + 1) a' b') (he : ∀ a b, I N a b → ∃ x y, ba a = some (.inr x) ∧ bb b = some (.inr y) ∧ P x y) : ∃ x y, lp ba 5000 a = some x ∧ lp bb 5000 b = some y ∧ P x y :=
  lp2d P I N hs he N 0 5000 a b (by omega) hN h0
theorem bo_inv {A B : Type} {x : Option A} {f : A → Option B} {y : B} (h : bo x f = some y) : ∃ a, x = some a ∧ f a = some y := by
  cases x with
  | none => cases h
  | some a => exact ⟨a, rfl, h⟩
def up47 (T : SR) (r : Int32) : SR := ul T 47 (31 * rl T 47 + r.toInt64)
theorem mix_s (T : SR) (r : Int32) : f_X10_mix T r.toInt64 = some (up47 T r) := rfl
theorem rl_ul (T : SR) (v : Int64) : rl (ul T 47 v) 47 = v := by
  show vp_updL T.2 47 v 47 = v
  unfold vp_updL
  rw [if_pos rfl]
theorem Rel_ul {n : Nat} {σ : St} {T : SR} (v : Int64) (h : Rel n σ T) : Rel n σ (ul T 47 v) := by
  obtain ⟨q, cs, wa, pg, kp, hg, hc, hr⟩ := h
  exact ⟨q, cs, wa, pg, kp, hg, hc, hr⟩
/-- what the digest keeps: the two states belong together, and so do the two sums -/
def DG (n : Nat) (h : Int64) (σ : St) (T : SR) : Prop := Rel n σ T ∧ rl T 47 = h
theorem DG_mix {n : Nat} {h : Int64} {σ : St} {T : SR} (r : Int32) (hd : DG n h σ T) : DG n (31 * h + r.toInt64) σ (up47 T r) := by
  obtain ⟨h1, rfl⟩ := hd
  exact ⟨Rel_ul _ h1, rl_ul _ _⟩
theorem Rel_down {n : Nat} {σ σ' : St} {T T' : SR} (hn : n < 512) (h : Rel n σ T) (h' : Rel (n + 1) σ' T') (h0 : ri T' 0 0 = ri T 0 0) : Rel n σ' T' := by
  obtain ⟨q, cs, wa, pg, kp, hg, hc, hr⟩ := h
  obtain ⟨q', cs', wa', pg', kp', hg', hc', hr'⟩ := h'
  have e1 : nI wa' = nI wa := by rw [← hr'.2.2.2.2.2.2.1, ← hr.2.2.2.2.2.2.1]; exact h0
  have l1 := hg.2.2.2.1
  have l2 := hg'.2.2.2.1
  have e : wa' = wa := (nI_eq (by omega) (by omega)).mp e1
  exact ⟨q', cs', wa', pg', kp', ⟨hg'.1, hg'.2.1, hg'.2.2.1, by omega, hg'.2.2.2.2⟩, hc', hr'⟩
theorem Rel_len {n : Nat} {σ : St} {T : SR} (h : Rel n σ T) : ∃ m, m ≤ 5 ∧ σ 23 2 = nI m ∧ ri T 0 1 = nI m := by
  obtain ⟨q, cs, wa, pg, kp, hg, hc, hr⟩ := h
  exact ⟨q.1.length, hg.1.1.1, hc.1.1.1, hr.1⟩
theorem Rel_wall {n : Nat} {σ : St} {T : SR} (hn : n < 512) (h : Rel n σ T) (h0 : ¬ ri T 0 0 = 0) : f_X9_hasWall σ = some 1 := by
  obtain ⟨q, cs, wa, pg, kp, hg, hc, hr⟩ := h
  have l1 := hg.2.2.2.1
  have hw : ¬ wa = 0 := fun z => h0 ((wa0 (by omega) hr.2.2.2.2.2.2.1).mpr z)
  rw [hasWall9 hg.1.1.1 hc.1.1.1, if_neg (fun z => hw (hg.2.2.2.2.1.mpr z))]
theorem Rel_nowall {n : Nat} {σ : St} {T : SR} (hn : n < 512) (h : Rel n σ T) (h0 : ri T 0 0 = 0) : f_X9_hasWall σ = some 0 := by
  obtain ⟨q, cs, wa, pg, kp, hg, hc, hr⟩ := h
  have l1 := hg.2.2.2.1
  have hw : wa = 0 := (wa0 (by omega) hr.2.2.2.2.2.2.1).mp h0
  rw [hasWall9 hg.1.1.1 hc.1.1.1, if_pos (hg.2.2.2.2.1.mp hw)]
theorem Rel_pos {n : Nat} {σ : St} {T : SR} (hn : n < 512) (h : Rel n σ T) (h0 : ¬ ri T 0 0 = 0) : ¬ ri T 0 0 ≤ 0 := by
  obtain ⟨q, cs, wa, pg, kp, hg, hc, hr⟩ := h
  have l1 := hg.2.2.2.1
  have hw : ¬ wa = 0 := fun z => h0 ((wa0 (by omega) hr.2.2.2.2.2.2.1).mpr z)
  rw [hr.2.2.2.2.2.2.1]
  exact nI_nle (by omega) (by omega)
theorem w8 : ∀ j : Nat, j < 8 → ¬ wi (nI j) 0 7 = 0 := by decide +kernel
theorem w6 : ∀ j : Nat, j < 6 → ¬ wi (nI j) 0 5 = 0 := by decide +kernel
theorem w01 : ¬ wi 0 0 1 = 0 ∧ ¬ wi 1 0 1 = 0 ∧ ¬ wi 1 0 5 = 0 := by decide +kernel
theorem iw5 : ∀ m : Nat, m < 6 → ∀ i : Nat, i < m → ¬ iw m (nI i) = 0 := by decide +kernel
theorem wit_d {n m i j : Nat} {σ : St} {T : SR} (hn : n < 512) (h : Rel n σ T) (hm : m ≤ 5) (h1 : ri T 0 1 = nI m) (hi : i < m) (hj : j < 8) : ∃ r, f_X9_witness σ (nI i) (nI j) = some r ∧ f_X10_witnessNow T (nI i) (nI j) = some r := by
  obtain ⟨r, e1, e2, -⟩ := op_witness n σ T (nI i) (nI j) hn h
  refine ⟨r, e1, ?_⟩
  unfold f_X10_witness f_X10_isWitness at e2
  rw [within10, bo_s, h1, wi_and, bo_s, if_neg (show ¬ wi (nI i) 0 (nI m - 1) = 0 from iw5 m (by omega) i hi), within10, bo_s, if_neg (w8 j hj)] at e2
  obtain ⟨a, e3, e4⟩ := bo_inv e2
  cases e4
  exact e3
theorem said_d {n j : Nat} {σ : St} {T : SR} (hn : n < 512) (h : Rel n σ T) (h0 : ¬ ri T 0 0 = 0) (hj : j < 6) : ∃ (r g : Int32) (σ' : St), f_X9_said σ (nI j) = some (r, σ') ∧ f_X10_everybody T = some g ∧ f_X10_saidBy T g (nI j) = some r ∧ Rel n σ' T := by
  obtain ⟨r, σ', e1, e2, e3⟩ := op_said n σ T (nI j) hn h
  unfold f_X10_said at e2
  rw [within10, bo_s, if_neg (w6 j hj), if_neg h0] at e2
  obtain ⟨g, e4, e5⟩ := bo_inv e2
  obtain ⟨a, e6, e7⟩ := bo_inv e5
  cases e7
  exact ⟨r, g, σ', e1, e4, e6, Rel_down hn h e3 rfl⟩
theorem term_d {n : Nat} {σ : St} {T : SR} (hn : n < 512) (h : Rel n σ T) (h0 : ¬ ri T 0 0 = 0) (a : Int32) (ha : ¬ wi a 0 1 = 0) : ∃ (r : Int32) (σ' : St) (T' : SR), f_X9_term σ a = some (r, σ') ∧ f_X10_termNow T a = some (r, T') ∧ Rel n σ' T' ∧ T'.2 = T.2 ∧ ¬ ri T' 0 0 = 0 := by
  have hw := Rel_wall hn h h0
  obtain ⟨q, cs, wa, pg, kp, hg, hc, hr⟩ := h
  obtain ⟨r, σ', T', e1, e2, e3, e4, e5⟩ := term_s hg hc hr hw a ha
  exact ⟨r, σ', T', e1, e2, ⟨q, cs, wa, pg, kp, hg, e3, e4⟩, e5, by rw [e4.2.2.2.2.2.2.1, ← hr.2.2.2.2.2.2.1]; exact h0⟩
theorem keep_d {n : Nat} {σ : St} {T : SR} (hn : n < 512) (h : Rel n σ T) (h0 : ¬ ri T 0 0 = 0) : ∃ (r g : Int32) (σ' : St), f_X9_keep σ 0 = some (r, σ') ∧ f_X10_keepSet T = some g ∧ f_X10_size g = some r ∧ Rel n σ' T := by
  obtain ⟨r, σ', e1, e2, e3⟩ := op_keep n σ T 0 hn h
  unfold f_X10_keep at e2
  rw [within10, bo_s, if_neg w01.1, if_neg h0, if_pos rfl] at e2
  obtain ⟨g, e4, e5⟩ := bo_inv e2
  obtain ⟨a, e6, e7⟩ := bo_inv e5
  cases e7
  exact ⟨r, g, σ', e1, e4, e6, Rel_down hn h e3 rfl⟩
theorem keep1_d {n : Nat} {σ : St} {T : SR} (hn : n < 512) (h : Rel n σ T) (h0 : ¬ ri T 0 0 = 0) : ∃ (r : Int32) (σ' : St), f_X9_keep σ 1 = some (r, σ') ∧ f_X10_keepSet T = some r ∧ Rel n σ' T := by
  obtain ⟨r, σ', e1, e2, e3⟩ := op_keep n σ T 1 hn h
  unfold f_X10_keep at e2
  rw [within10, bo_s, if_neg w01.2.1, if_neg h0, if_neg one0] at e2
  obtain ⟨g, e4, e5⟩ := bo_inv e2
  cases e5
  exact ⟨r, σ', e1, e4, Rel_down hn h e3 rfl⟩
theorem peace_d {n : Nat} {σ : St} {T : SR} (hn : n < 512) (h : Rel n σ T) (h0 : ¬ ri T 0 0 = 0) : ∃ (r g : Int32), f_X9_peace σ 0 = some r ∧ f_X10_peaceSet T = some g ∧ f_X10_size g = some r := by
  obtain ⟨r, e1, e2, e3⟩ := op_peace n σ T 0 hn h
  unfold f_X10_peace at e2
  rw [within10, bo_s, if_neg w01.1, if_neg h0, if_pos rfl] at e2
  obtain ⟨g, e4, e5⟩ := bo_inv e2
  obtain ⟨a, e6, e7⟩ := bo_inv e5
  cases e7
  exact ⟨r, g, e1, e4, e6⟩
theorem peace1_d {n : Nat} {σ : St} {T : SR} (hn : n < 512) (h : Rel n σ T) (h0 : ¬ ri T 0 0 = 0) : ∃ (r : Int32), f_X9_peace σ 1 = some r ∧ f_X10_peaceSet T = some r := by
  obtain ⟨r, e1, e2, e3⟩ := op_peace n σ T 1 hn h
  unfold f_X10_peace at e2
  rw [within10, bo_s, if_neg w01.2.1, if_neg h0, if_neg one0] at e2
  obtain ⟨g, e4, e5⟩ := bo_inv e2
  cases e5
  exact ⟨r, e1, e4⟩
theorem worlds_d {n : Nat} {σ : St} {T : SR} (hn : n < 512) (h : Rel n σ T) (h0 : ¬ ri T 0 0 = 0) : ∃ (r : Int32) (σ' : St), f_X9_worlds σ 1 = some (r, σ') ∧ f_X10_worldsNow T 1 = some r ∧ Rel n σ' T := by
  obtain ⟨r, σ', e1, e2, e3⟩ := op_worlds n σ T 1 hn h
  unfold f_X10_worlds at e2
  rw [within10, bo_s, if_neg w01.2.2, if_neg h0] at e2
  obtain ⟨g, e4, e5⟩ := bo_inv e2
  cases e5
  exact ⟨r, σ', e1, e4, Rel_down hn h e3 rfl⟩
theorem dgW1 {n m i : Nat} {h : Int64} {σ : St} {T : SR} (hn : n < 512) (hd : DG n h σ T) (hm : m ≤ 5) (h1 : ri T 0 1 = nI m) (hi : i < m) : ∃ (h' : Int64) (T' : SR), lp (fun (s7 : Int64 × Int32) => b_X9_digest_23 σ (nI i) s7.1 s7.2) 5000 (h, 0) = some h' ∧ lp (fun (s8 : Int32 × SR) => b_X10_digest_19 (nI i) s8.1 s8.2) 5000 (0, T) = some T' ∧ DG n h' σ T' ∧ ri T' = ri T := by
  refine lpp (ba := fun (s7 : Int64 × Int32) => b_X9_digest_23 σ (nI i) s7.1 s7.2) (bb := fun (s8 : Int32 × SR) => b_X10_digest_19 (nI i) s8.1 s8.2) (a := (h, 0)) (b := (0, T)) (fun x y => DG n x σ y ∧ ri y = ri T) (fun j a b => a.2 = nI j ∧ b.1 = nI j ∧ DG n a.1 σ b.2 ∧ ri b.2 = ri T) 8 (by decide) ⟨rfl, rfl, hd, rfl⟩ (fun j a b hj hI => ?_) (fun a b hI => ?_)
  · obtain ⟨x, c⟩ := a
    obtain ⟨c2, U⟩ := b
    obtain ⟨rfl, rfl, g1, g2⟩ := hI
    dsimp only at g1 g2
    obtain ⟨r, e1, e2⟩ := wit_d hn g1.1 hm (by rw [g2]; exact h1) hi hj
    refine ⟨(31 * x + r.toInt64, nI (j + 1)), (nI (j + 1), up47 U r), ?_, ?_, rfl, rfl, DG_mix r g1, g2⟩
    · dsimp only
      unfold b_X9_digest_23
      rw [if_neg (show ¬ 7 < nI j from nI_nlt (a := 7) (by omega) (by omega)), e1, bo_s]
      simp only [bv, nI_1]
    · dsimp only
      unfold b_X10_digest_19
      rw [if_neg (show ¬ 8 ≤ nI j from nI_ge (b := 8) hj (by decide)), e2, bo_s, mix_s, bo_s]
      simp only [bv, nI_1]
  · obtain ⟨x, c⟩ := a
    obtain ⟨c2, U⟩ := b
    obtain ⟨rfl, rfl, g1, g2⟩ := hI
    refine ⟨x, U, ?_, ?_, g1, g2⟩
    · dsimp only
      unfold b_X9_digest_23
      rw [if_pos (by decide)]
    · dsimp only
      unfold b_X10_digest_19
      rw [if_pos (by decide)]
theorem dgW {n : Nat} {h : Int64} {σ : St} {T : SR} (hn : n < 512) (hd : DG n h σ T) : ∃ (h' : Int64) (T' : SR), lp (fun (s1 : Int64 × Int32) => b_X9_digest_6 σ s1.1 s1.2) 5000 (h, 0) = some h' ∧ lp (fun (s2 : Int32 × SR) => b_X10_digest_9 s2.1 s2.2) 5000 (0, T) = some T' ∧ DG n h' σ T' ∧ ri T' = ri T := by
  obtain ⟨m, hm, m1, m2⟩ := Rel_len hd.1
  refine lpp (ba := fun (s1 : Int64 × Int32) => b_X9_digest_6 σ s1.1 s1.2) (bb := fun (s2 : Int32 × SR) => b_X10_digest_9 s2.1 s2.2) (a := (h, 0)) (b := (0, T)) (fun x y => DG n x σ y ∧ ri y = ri T) (fun j a b => a.2 = nI j ∧ b.1 = nI j ∧ DG n a.1 σ b.2 ∧ ri b.2 = ri T) m (by omega) ⟨rfl, rfl, hd, rfl⟩ (fun j a b hj hI => ?_) (fun a b hI => ?_)
  · obtain ⟨x, c⟩ := a
    obtain ⟨c2, U⟩ := b
    obtain ⟨rfl, rfl, g1, g2⟩ := hI
    dsimp only at g1 g2
    obtain ⟨x', U', e1, e2, e3, e4⟩ := dgW1 hn g1 hm (by rw [g2]; exact m2) hj
    refine ⟨(x', nI (j + 1)), (nI (j + 1), U'), ?_, ?_, rfl, rfl, e3, e4.trans g2⟩
    · dsimp only
      unfold b_X9_digest_6
      rw [m1, if_neg (nI_ge hj (by omega)), e1, bo_s]
      simp only [bv, nI_1]
    · dsimp only
      unfold b_X10_digest_9
      rw [g2, m2, if_neg (nI_ge hj (by omega)), e2, bo_s]
      simp only [bv, nI_1]
  · obtain ⟨x, c⟩ := a
    obtain ⟨c2, U⟩ := b
    obtain ⟨rfl, rfl, g1, g2⟩ := hI
    dsimp only at g1 g2
    refine ⟨x, U, ?_, ?_, g1, g2⟩
    · dsimp only
      unfold b_X9_digest_6
      rw [m1, if_pos (nI_le (Nat.le_refl _) (by omega))]
    · dsimp only
      unfold b_X10_digest_9
      rw [g2, m2, if_pos (nI_le (Nat.le_refl _) (by omega))]
theorem dgS {n : Nat} {h : Int64} {σ : St} {T : SR} (hn : n < 512) (hd : DG n h σ T) (h0 : ¬ ri T 0 0 = 0) : ∃ (h' : Int64 × St) (T' : SR), lp (fun (s21 : Int64 × Int32 × St) => b_X9_digest_66 s21.1 s21.2.1 s21.2.2) 5000 (h, 0, σ) = some h' ∧ lp (fun (s1 : Int32 × SR) => b_X10_mixWall_2 s1.1 s1.2) 5000 (0, T) = some T' ∧ DG n h'.1 h'.2 T' ∧ ri T' = ri T := by
  refine lpp (ba := fun (s21 : Int64 × Int32 × St) => b_X9_digest_66 s21.1 s21.2.1 s21.2.2) (bb := fun (s1 : Int32 × SR) => b_X10_mixWall_2 s1.1 s1.2) (a := (h, 0, σ)) (b := (0, T)) (fun x y => DG n x.1 x.2 y ∧ ri y = ri T) (fun j a b => a.2.1 = nI j ∧ b.1 = nI j ∧ DG n a.1 a.2.2 b.2 ∧ ri b.2 = ri T) 6 (by decide) ⟨rfl, rfl, hd, rfl⟩ (fun j a b hj hI => ?_) (fun a b hI => ?_)
  · obtain ⟨x, c, ρ⟩ := a
    obtain ⟨c2, U⟩ := b
    obtain ⟨rfl, rfl, g1, g2⟩ := hI
    dsimp only at g1 g2
    obtain ⟨r, g, ρ', e1, e2, e3, e4⟩ := said_d hn g1.1 (by rw [g2]; exact h0) hj
    refine ⟨(31 * x + r.toInt64, nI (j + 1), ρ'), (nI (j + 1), up47 U r), ?_, ?_, rfl, rfl, DG_mix r ⟨e4, g1.2⟩, g2⟩
    · dsimp only
      unfold b_X9_digest_66
      rw [if_neg (show ¬ 6 ≤ nI j from nI_ge (b := 6) hj (by decide)), e1, bo_s]
      simp only [bv, nI_1]
    · dsimp only
      unfold b_X10_mixWall_2
      rw [if_neg (show ¬ 6 ≤ nI j from nI_ge (b := 6) hj (by decide)), e2, bo_s, e3, bo_s, mix_s, bo_s]
      simp only [bv, nI_1]
  · obtain ⟨x, c, ρ⟩ := a
    obtain ⟨c2, U⟩ := b
    obtain ⟨rfl, rfl, g1, g2⟩ := hI
    refine ⟨(x, ρ), U, ?_, ?_, g1, g2⟩
    · dsimp only
      unfold b_X9_digest_66
      rw [if_pos (by decide)]
    · dsimp only
      unfold b_X10_mixWall_2
      rw [if_pos (by decide)]
theorem dgP {n : Nat} {h : Int64} {σ : St} {T : SR} (y : Int64) (hd : DG n h σ T) : ∃ (h' : Int64) (T' : SR), lp (fun (s45 : Int64 × Int32) => b_X9_digest_184 (y, σ) s45.1 s45.2) 5000 (h, 0) = some h' ∧ lp (fun (s22 : Int32 × SR) => b_X10_digest_61 s22.1 s22.2) 5000 (0, T) = some T' ∧ DG n h' σ T' ∧ ri T' = ri T := by
  have hd' := hd
  obtain ⟨⟨q, cs, wa, pg, kp, hg, hc, hr⟩, -⟩ := hd'
  have h54 := hg.2.2.1.1
  have m1 := hc.2.2.2.1
  have m2 := hr.2.2.2.2.2.2.2.1
  refine lpp (ba := fun (s45 : Int64 × Int32) => b_X9_digest_184 (y, σ) s45.1 s45.2) (bb := fun (s22 : Int32 × SR) => b_X10_digest_61 s22.1 s22.2) (a := (h, 0)) (b := (0, T)) (fun x y => DG n x σ y ∧ ri y = ri T) (fun j a b => a.2 = nI j ∧ b.1 = nI j ∧ DG n a.1 σ b.2 ∧ ri b.2 = ri T) pg.length (by omega) ⟨rfl, rfl, hd, rfl⟩ (fun j a b hj hI => ?_) (fun a b hI => ?_)
  · obtain ⟨x, c⟩ := a
    obtain ⟨c2, U⟩ := b
    obtain ⟨rfl, rfl, g1, g2⟩ := hI
    dsimp only at g1 g2
    refine ⟨(31 * x + pg[j].toInt64, nI (j + 1)), (nI (j + 1), up47 U pg[j]), ?_, ?_, rfl, rfl, DG_mix _ g1, g2⟩
    · dsimp only
      unfold b_X9_digest_184
      dsimp only
      simp only [m1.1]
      rw [if_neg (nI_ge hj (by omega)), gd_t _ (inb_nI (by omega) (by decide)), nI_clamp (by omega), m1.at hj]
      simp only [bv, nI_1]
    · dsimp only
      unfold b_X10_digest_61
      rw [g2, m2.1, if_neg (nI_ge hj (by omega)), gd_t _ (inb_nI (by omega) (by decide)), nI_clamp (by omega), m2.at hj, mix_s, bo_s]
      simp only [bv, nI_1]
  · obtain ⟨x, c⟩ := a
    obtain ⟨c2, U⟩ := b
    obtain ⟨rfl, rfl, g1, g2⟩ := hI
    dsimp only at g1 g2
    refine ⟨x, U, ?_, ?_, g1, g2⟩
    · dsimp only
      unfold b_X9_digest_184
      dsimp only
      simp only [m1.1]
      rw [if_pos (nI_le (Nat.le_refl _) (by omega))]
    · dsimp only
      unfold b_X10_digest_61
      rw [g2, m2.1, if_pos (nI_le (Nat.le_refl _) (by omega))]
theorem dgN {n : Nat} {h : Int64} {σ : St} {T : SR} (y : Int64) (hn : n < 512) (hd : DG n h σ T) : ∃ (h' : Int64) (T' : SR), lp (fun (s54 : Int64 × Int32) => b_X9_digest_220 (y, σ) s54.1 s54.2) 5000 (h, 0) = some h' ∧ lp (fun (s31 : Int32 × SR) => b_X10_digest_88 s31.1 s31.2) 5000 (0, T) = some T' ∧ DG n h' σ T' := by
  refine lpp (ba := fun (s54 : Int64 × Int32) => b_X9_digest_220 (y, σ) s54.1 s54.2) (bb := fun (s31 : Int32 × SR) => b_X10_digest_88 s31.1 s31.2) (a := (h, 0)) (b := (0, T)) (fun x y => DG n x σ y) (fun j a b => a.2 = nI j ∧ b.1 = nI j ∧ DG n a.1 σ b.2) 9 (by decide) ⟨rfl, rfl, hd⟩ (fun j a b hj hI => ?_) (fun a b hI => ?_)
  · obtain ⟨x, c⟩ := a
    obtain ⟨c2, U⟩ := b
    obtain ⟨rfl, rfl, g1⟩ := hI
    dsimp only at g1
    obtain ⟨r, e1, e2, -⟩ := op_count n σ U (nI j) hn g1.1
    unfold f_X10_count at e2
    obtain ⟨r', e3, e4⟩ := bo_inv e2
    cases e4
    refine ⟨(31 * x + r.toInt64, nI (j + 1)), (nI (j + 1), up47 U r), ?_, ?_, rfl, rfl, DG_mix _ g1⟩
    · dsimp only
      unfold b_X9_digest_220
      dsimp only
      rw [if_neg (show ¬ 8 < nI j from nI_nlt (a := 8) (by omega) (by omega)), e1, bo_s]
      simp only [bv, nI_1]
    · dsimp only
      unfold b_X10_digest_88
      rw [if_neg (show ¬ 9 ≤ nI j from nI_ge (b := 9) hj (by decide)), e3, bo_s, mix_s, bo_s]
      simp only [bv, nI_1]
  · obtain ⟨x, c⟩ := a
    obtain ⟨c2, U⟩ := b
    obtain ⟨rfl, rfl, g1⟩ := hI
    refine ⟨x, U, ?_, ?_, g1⟩
    · dsimp only
      unfold b_X9_digest_220
      rw [if_pos (by decide)]
    · dsimp only
      unfold b_X10_digest_88
      rw [if_pos (by decide)]
theorem up47_ri (T : SR) (r : Int32) : ri (up47 T r) = ri T := rfl
def mixC (x2 : Int64) (S0 : St) : Option (Int64 × St) :=
  (bo (lp (fun (s21 : Int64 × Int32 × (Nat → Nat → Int32)) => b_X9_digest_66 s21.1 s21.2.1 s21.2.2) 5000 (x2, 0, S0)) (fun (x22 : Int64 × (Nat → Nat → Int32)) => bo (f_X9_term x22.2 0) (fun (r31 : Int32 × (Nat → Nat → Int32)) => bv ((31 * x22.1) + ((r31.1 : Int32).toInt64)) (fun (v32 : Int64) => bo (f_X9_term r31.2 1) (fun (r33 : Int32 × (Nat → Nat → Int32)) => bv ((31 * v32) + ((r33.1 : Int32).toInt64)) (fun (v34 : Int64) => bo (f_X9_keep r33.2 0) (fun (r35 : Int32 × (Nat → Nat → Int32)) => bv ((31 * v34) + ((r35.1 : Int32).toInt64)) (fun (v36 : Int64) => bo (f_X9_keep r35.2 1) (fun (r37 : Int32 × (Nat → Nat → Int32)) => bv ((31 * v36) + ((r37.1 : Int32).toInt64)) (fun (v38 : Int64) => bo (f_X9_peace r37.2 0) (fun (r39 : Int32) => bv ((31 * v38) + ((r39 : Int32).toInt64)) (fun (v40 : Int64) => bo (f_X9_peace r37.2 1) (fun (r41 : Int32) => bv ((31 * v40) + ((r41 : Int32).toInt64)) (fun (v42 : Int64) => bo (f_X9_worlds r37.2 1) (fun (r43 : Int32 × (Nat → Nat → Int32)) => bv ((31 * v42) + ((r43.1 : Int32).toInt64)) (fun (v44 : Int64) => some (v44, r43.2)))))))))))))))))
theorem digest_eq (S0 : St) : f_X9_digest S0 = bo (lp (fun (s1 : Int64 × Int32) => b_X9_digest_6 S0 s1.1 s1.2) 5000 (1361, 0)) (fun (x2 : Int64) => bo (f_X9_hasWall S0) (fun (r17 : Int32) => bo (if r17 = 0 then (some (x2, S0)) else mixC x2 S0) (fun (q18 : Int64 × (Nat → Nat → Int32)) => bo (lp (fun (s45 : Int64 × Int32) => b_X9_digest_184 q18 s45.1 s45.2) 5000 (q18.1, 0)) (fun (x46 : Int64) => bo (lp (fun (s54 : Int64 × Int32) => b_X9_digest_220 q18 s54.1 s54.2) 5000 (x46, 0)) (fun (x55 : Int64) => some (x55, q18.2)))))) := rfl
theorem dgM {n : Nat} {h : Int64} {σ : St} {T : SR} (hn : n < 512) (hd : DG n h σ T) (h0 : ¬ ri T 0 0 = 0) : ∃ (h' : Int64) (σ' : St) (T' : SR), mixC h σ = some (h', σ') ∧ f_X10_mixWall T = some T' ∧ DG n h' σ' T' := by
  obtain ⟨⟨h2, ρ⟩, T2, b1, b2, b3, b4⟩ := dgS hn hd h0
  dsimp only at b3
  obtain ⟨r1, ρ1, T3, c1, c2, c3, c4, c5⟩ := term_d hn b3.1 (by rw [b4]; exact h0) 0 w01.1
  have d1 : DG n h2 ρ1 T3 := ⟨c3, by rw [← b3.2]; unfold rl; rw [c4]⟩
  have d2 := DG_mix r1 d1
  obtain ⟨U3, hU3⟩ : ∃ U, up47 T3 r1 = U := ⟨_, rfl⟩
  obtain ⟨h3, hh3⟩ : ∃ x, 31 * h2 + r1.toInt64 = x := ⟨_, rfl⟩
  have z3 : ¬ ri U3 0 0 = 0 := by rw [← hU3, up47_ri]; exact c5
  rw [hU3, hh3] at d2
  obtain ⟨r2, ρ2, T4, f1, f2, f3, f4, f5⟩ := term_d hn d2.1 z3 1 w01.2.1
  have d3 : DG n h3 ρ2 T4 := ⟨f3, by rw [← d2.2]; unfold rl; rw [f4]⟩
  have d4 := DG_mix r2 d3
  obtain ⟨U4, hU4⟩ : ∃ U, up47 T4 r2 = U := ⟨_, rfl⟩
  obtain ⟨h4, hh4⟩ : ∃ x, 31 * h3 + r2.toInt64 = x := ⟨_, rfl⟩
  have z4 : ¬ ri U4 0 0 = 0 := by rw [← hU4, up47_ri]; exact f5
  rw [hU4, hh4] at d4
  obtain ⟨r3, g3, ρ3, i1, i2, i3, i4⟩ := keep_d hn d4.1 z4
  have d5 := DG_mix r3 (show DG n h4 ρ3 U4 from ⟨i4, d4.2⟩)
  obtain ⟨U5, hU5⟩ : ∃ U, up47 U4 r3 = U := ⟨_, rfl⟩
  obtain ⟨h5, hh5⟩ : ∃ x, 31 * h4 + r3.toInt64 = x := ⟨_, rfl⟩
  have z5 : ¬ ri U5 0 0 = 0 := by rw [← hU5, up47_ri]; exact z4
  rw [hU5, hh5] at d5
  obtain ⟨r4, ρ4, j1, j2, j3⟩ := keep1_d hn d5.1 z5
  have d6 := DG_mix r4 (show DG n h5 ρ4 U5 from ⟨j3, d5.2⟩)
  obtain ⟨U6, hU6⟩ : ∃ U, up47 U5 r4 = U := ⟨_, rfl⟩
  obtain ⟨h6, hh6⟩ : ∃ x, 31 * h5 + r4.toInt64 = x := ⟨_, rfl⟩
  have z6 : ¬ ri U6 0 0 = 0 := by rw [← hU6, up47_ri]; exact z5
  rw [hU6, hh6] at d6
  obtain ⟨r5, g5, k1, k2, k3⟩ := peace_d hn d6.1 z6
  have d7 := DG_mix r5 d6
  obtain ⟨U7, hU7⟩ : ∃ U, up47 U6 r5 = U := ⟨_, rfl⟩
  obtain ⟨h7, hh7⟩ : ∃ x, 31 * h6 + r5.toInt64 = x := ⟨_, rfl⟩
  have z7 : ¬ ri U7 0 0 = 0 := by rw [← hU7, up47_ri]; exact z6
  rw [hU7, hh7] at d7
  obtain ⟨r6, l1, l2⟩ := peace1_d hn d7.1 z7
  have d8 := DG_mix r6 d7
  obtain ⟨U8, hU8⟩ : ∃ U, up47 U7 r6 = U := ⟨_, rfl⟩
  obtain ⟨h8, hh8⟩ : ∃ x, 31 * h7 + r6.toInt64 = x := ⟨_, rfl⟩
  have z8 : ¬ ri U8 0 0 = 0 := by rw [← hU8, up47_ri]; exact z7
  rw [hU8, hh8] at d8
  obtain ⟨r7, ρ5, m1, m2, m3⟩ := worlds_d hn d8.1 z8
  have d9 := DG_mix r7 (show DG n h8 ρ5 U8 from ⟨m3, d8.2⟩)
  refine ⟨_, ρ5, _, ?_, ?_, d9⟩
  · unfold mixC
    rw [b1, bo_s]
    simp only []
    rw [c1, bo_s]
    simp only [bv]
    rw [hh3, f1, bo_s]
    simp only []
    rw [hh4, i1, bo_s]
    simp only []
    rw [hh5, j1, bo_s]
    simp only []
    rw [hh6, k1, bo_s, hh7, l1, bo_s, hh8, m1, bo_s]
  · unfold f_X10_mixWall
    rw [b2, bo_s, c2, bo_s, mix_s, bo_s, hU3, f2, bo_s, mix_s, bo_s, hU4, i2, bo_s, i3, bo_s, mix_s, bo_s, hU5, j2, bo_s, mix_s, bo_s, hU6, k2, bo_s, k3, bo_s, mix_s, bo_s, hU7, l2, bo_s, mix_s, bo_s, hU8, m2, bo_s, mix_s, bo_s]
theorem dgE {n : Nat} {hh : Int64} {ρ : St} {U : SR} (hn : n < 512) (hd : DG n hh ρ U) : ∃ (x y : Int64) (U1 U2 : SR), lp (fun (s45 : Int64 × Int32) => b_X9_digest_184 (hh, ρ) s45.1 s45.2) 5000 (hh, 0) = some x ∧ lp (fun (s54 : Int64 × Int32) => b_X9_digest_220 (hh, ρ) s54.1 s54.2) 5000 (x, 0) = some y ∧ lp (fun (s22 : Int32 × SR) => b_X10_digest_61 s22.1 s22.2) 5000 (0, U) = some U1 ∧ lp (fun (s31 : Int32 × SR) => b_X10_digest_88 s31.1 s31.2) 5000 (0, U1) = some U2 ∧ rl U2 47 = y ∧ Rel (n + 1) ρ U2 := by
  obtain ⟨x, U1, b1, b2, b3, -⟩ := dgP hh hd
  obtain ⟨y, U2, c1, c2, c3⟩ := dgN hh hn b3
  exact ⟨x, y, U1, U2, b1, c1, b2, c2, c3.2, Rel_up _ _ _ c3.1⟩
theorem op_digest (n : Nat) (σ : St) (τ : SR) (hn : n < 512) (h : Rel n σ τ) : ∃ (r : Int64) (σ' : St) (τ' : SR), f_X9_digest σ = some (r, σ') ∧ f_X10_digest τ = some (r, τ') ∧ Rel (n + 1) σ' τ' := by
  have hd0 : DG n 1361 σ (ul τ 47 1361) := ⟨Rel_ul _ h, rl_ul _ _⟩
  obtain ⟨h1, T1, a1, a2, a3, a4⟩ := dgW hn hd0
  by_cases h0 : ri T1 0 0 = 0
  · obtain ⟨x, y, U1, U2, e1, e2, e3, e4, e5, e6⟩ := dgE hn a3
    refine ⟨y, σ, U2, ?_, ?_, e6⟩
    · rw [digest_eq, a1, bo_s, Rel_nowall hn a3.1 h0, bo_s, if_pos rfl, bo_s, e1, bo_s, e2, bo_s]
    · unfold f_X10_digest
      simp only [bv]
      rw [a2, bo_s, if_pos (show ri T1 0 0 ≤ 0 by rw [h0]; decide), bo_s, e3, bo_s, e4, bo_s, e5]
  · obtain ⟨h9, ρ5, U9, d1, d2, d3⟩ := dgM hn a3 h0
    obtain ⟨x, y, U1, U2, e1, e2, e3, e4, e5, e6⟩ := dgE hn d3
    refine ⟨y, ρ5, U2, ?_, ?_, e6⟩
    · rw [digest_eq, a1, bo_s, Rel_wall hn a3.1 h0, bo_s, if_neg one0, d1, bo_s, e1, bo_s, e2, bo_s]
    · unfold f_X10_digest
      simp only [bv]
      rw [a2, bo_s, if_neg (Rel_pos hn a3.1 h0), d2, bo_s, bo_s, e3, bo_s, e4, bo_s, e5]

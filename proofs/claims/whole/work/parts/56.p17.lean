/-! the pure side, 17: how many can be won; the least order -/
theorem wb_get (ws : List Wt) (cs : List (Int32 × Int32)) (day : Nat) : ∀ n, n < 31 → ∀ x, x < 31 → n ≤ x → (wb ws cs day n).toBitVec.getLsbD x = false := by
  intro n
  induction n with
  | zero => intro _ x _ _; simp [wb]
  | succ n ih =>
    intro hn x hx hnx
    rw [wb]
    split
    · rw [or_get, ih (by omega) x hx (by omega), one_get n (by omega) x hx]
      simp
      omega
    · exact ih (by omega) x hx (by omega)
def canw (W : Int32) (h c : Nat) : Bool := W.toBitVec.getLsbD c && !(h.testBit c)
def nx (f : Nat → Nat) (W : Int32) (h : Nat) : Nat → Nat
  | 0 => f h
  | c + 1 => max (nx f W h c) (if canw W h c = true then 1 + f (h ||| 2 ^ c) else 0)
theorem xor_get : ∀ h, h < 16 → ∀ c, c < 4 → (nI h ^^^ (-1)).toBitVec.getLsbD c = !(h.testBit c) := by decide +kernel
theorem and_get (B C : Int32) (x : Nat) : (B &&& C).toBitVec.getLsbD x = (B.toBitVec.getLsbD x && C.toBitVec.getLsbD x) := by
  rw [Int32.toBitVec_and, BitVec.getLsbD_and]
theorem canw_get (W : Int32) {h c : Nat} (hh : h < 16) (hc : c < 4) : (W &&& (nI h ^^^ (-1))).toBitVec.getLsbD c = canw W h c := by
  rw [and_get, xor_get h hh c hc]
  rfl
theorem one_get4 : ∀ a, a < 4 → ∀ x, x < 32 → ((1 : Int32) <<< (nI a &&& 31)).toBitVec.getLsbD x = decide (x = a) := by decide +kernel
theorem and_one0 (X : Int32) {c : Nat} (hc : c < 4) : X &&& ((1 : Int32) <<< (nI c &&& 31)) = 0 ↔ X.toBitVec.getLsbD c = false := by
  constructor
  · intro h
    have := and_get X ((1 : Int32) <<< (nI c &&& 31)) c
    rw [h, one_get4 c hc c (by omega)] at this
    simp at this
    exact this
  · intro h
    apply Int32.toBitVec_inj.mp
    apply BitVec.eq_of_getLsbD_eq
    intro i hi
    rw [and_get, one_get4 c hc i hi]
    by_cases e : i = c
    · subst e
      rw [h]
      simp
    · simp [e]
theorem ob_dec : ∀ h, h < 16 → ∀ c, c < 4 → nI h ||| ((1 : Int32) <<< (nI c &&& 31)) = nI (h ||| 2 ^ c) ∧ h ||| 2 ^ c < 16 := by decide +kernel
theorem nx_le {f : Nat → Nat} {k : Nat} (hf : ∀ h, f h ≤ k) (W : Int32) (h c : Nat) : nx f W h c ≤ k + 1 := by
  induction c with
  | zero => have := hf h; rw [nx]; omega
  | succ c ih =>
    rw [nx]
    have := hf (h ||| 2 ^ c)
    split <;> omega
theorem nx_mono {f : Nat → Nat} {W : Int32} {h : Nat} {a : Nat} (b : Nat) (hb : a ≤ b) (hz : ∀ c, a ≤ c → c < b → canw W h c = false) : nx f W h b = nx f W h a := by
  induction b with
  | zero => have : a = 0 := by omega
            rw [this]
  | succ b ih =>
    by_cases e : a = b + 1
    · rw [e]
    · rw [nx, ih (by omega) (fun c h1 h2 => hz c h1 (by omega)), hz b (by omega) (by omega)]
      simp
def mst (W : Nat → Int32) : Nat → Nat → Nat
  | 0 => fun _ => 0
  | k + 1 => fun h => nx (mst W k) (W (6 - k)) h 4
theorem mst_le (W : Nat → Int32) (k : Nat) : ∀ h, mst W k h ≤ k := by
  induction k with
  | zero => intro h; exact Nat.le_refl _
  | succ k ih => intro h; rw [mst]; exact nx_le ih _ _ _
theorem i16 (a b : Nat) : nI a * 16 + nI b = nI (16 * a + b) := by rw [show (16 : Int32) = nI 16 from rfl, pk_mul, nI_add, Nat.mul_comm]
theorem i16' (a b : Nat) : (16 : Int32) * nI a + nI b = nI (16 * a + b) := by rw [show (16 : Int32) = nI 16 from rfl, pk_mul, nI_add]
theorem m1_ne (k : Nat) (hk : k < 2 ^ 31) : ¬ nI k = -1 := fun z => by
  have := congrArg Int32.toInt z
  rw [nI_toInt hk] at this
  have e1 : (-1 : Int32).toInt = -1 := rfl
  omega
theorem wonBy0 {σ : St} {f : Nat → Nat} {d h : Nat} (hf : ∀ h, h < 16 → σ 79 (16 * (d + 1) + h) = nI (f h)) (hd : d ≤ 6) (hh : h < 16) : f_X6_wonBy σ 0 (nI d) (nI h) = some (nI (f h)) := by
  unfold f_X6_wonBy
  simp only [bv]
  rw [if_pos trivial, nI_1, i16, gd_t _ (inb_nI (by omega) (by decide)), nI_clamp (by omega), hf h hh]
theorem wonByS {σ : St} {f : Nat → Nat} {d h c : Nat} (hf : ∀ h, h < 16 → σ 79 (16 * (d + 1) + h) = nI (f h)) (hd : d ≤ 6) (hh : h < 16) (hc : c < 4) : f_X6_wonBy σ (nI (c + 1)) (nI d) (nI h) = some (if canw (σ 78 d) h c = true then nI (1 + f (h ||| 2 ^ c)) else -1) := by
  obtain ⟨o1, o2⟩ := ob_dec h hh c hc
  unfold f_X6_wonBy
  simp only [bv]
  rw [if_neg (nI_ne0 (by omega) (by omega)), nI_m1, gd_t _ (inb_nI (by omega) (by decide)), nI_clamp (show d < 2 ^ 31 by omega), o1, nI_1, i16, nI_clamp (by omega), hf _ o2, gd_t _ (inb_nI (by omega) (by decide))]
  by_cases e : canw (σ 78 d) h c = true
  · rw [if_neg (show ¬ ((σ 78 d &&& (nI h ^^^ (-1))) &&& ((1 : Int32) <<< (nI c &&& 31))) = 0 from fun z => by rw [and_one0 _ hc, canw_get _ hh hc, e] at z; cases z), bo_s, if_neg one0, if_pos e, show (1 : Int32) = nI 1 from rfl, nI_add]
  · rw [if_pos (show ((σ 78 d &&& (nI h ^^^ (-1))) &&& ((1 : Int32) <<< (nI c &&& 31))) = 0 from by rw [and_one0 _ hc, canw_get _ hh hc]; exact Bool.eq_false_iff.mpr e), bo_s, if_pos rfl, if_neg e]
theorem mostFrom_s {σ : St} {f : Nat → Nat} {d h k : Nat} (hf : ∀ h, h < 16 → σ 79 (16 * (d + 1) + h) = nI (f h)) (hk : ∀ h, f h ≤ k) (hk6 : k ≤ 6) (hd : d ≤ 6) (hh : h < 16) : f_X6_mostFrom σ (nI d) (nI h) = some (nI (nx f (σ 78 d) h 4)) := by
  have hfh := hk h
  unfold f_X6_mostFrom
  have h0 : b_X6_mostFrom_5 σ (nI d) (nI h) 0 0 = some (.inl (nI (nx f (σ 78 d) h 0), nI 1)) := by
    unfold b_X6_mostFrom_5
    rw [if_neg (by decide), wonBy0 hf hd hh, bo_s]
    simp only [bv]
    by_cases e : f h = 0
    · rw [nx, e]; rfl
    · rw [nx, if_pos (show (0 : Int32) < nI (f h) from nI_lt (a := 0) (by omega) (by omega))]; rfl
  rw [show (5000 : Nat) = 4999 + 1 from rfl, lp_inl (body := fun (s1 : Int32 × Int32) => b_X6_mostFrom_5 σ (nI d) (nI h) s1.1 s1.2) h0]
  obtain ⟨x, hx, rfl⟩ := lp_up (body := fun (s1 : Int32 × Int32) => b_X6_mostFrom_5 σ (nI d) (nI h) s1.1 s1.2) (fun x => x = nI (nx f (σ 78 d) h 4)) (fun c s => s = (nI (nx f (σ 78 d) h c), nI (c + 1))) 4
    (fun c s hc hI => by
      subst hI
      refine Or.inl ⟨(nI (nx f (σ 78 d) h (c + 1)), nI (c + 1 + 1)), ?_, rfl⟩
      dsimp only
      have hn := nx_le hk (σ 78 d) h c
      have hfo := hk (h ||| 2 ^ c)
      unfold b_X6_mostFrom_5
      rw [if_neg (show ¬ 4 < nI (c + 1) from nI_nlt (a := 4) (by omega) (by decide)), wonByS hf hd hh hc, bo_s, nx]
      simp only [bv, nI_1]
      by_cases e : canw (σ 78 d) h c = true
      · rw [if_pos e, if_pos e]
        by_cases e2 : nx f (σ 78 d) h c < 1 + f (h ||| 2 ^ c)
        · rw [if_pos (nI_lt e2 (by omega)), Nat.max_eq_right (by omega)]
        · rw [if_neg (nI_nlt (by omega) (by omega)), Nat.max_eq_left (by omega)]
      · rw [if_neg e, if_neg e, if_neg (show ¬ nI (nx f (σ 78 d) h c) < -1 from fun z => by
          rw [Int32.lt_iff_toInt_lt, nI_toInt (by omega)] at z
          have e1 : (-1 : Int32).toInt = -1 := rfl
          omega), Nat.max_eq_left (by omega)])
    (fun s hI => by
      subst hI
      refine ⟨_, ?_, rfl⟩
      dsimp only
      unfold b_X6_mostFrom_5
      rw [if_pos (by decide)])
    4 0 (nI (nx f (σ 78 d) h 0), nI 1) 4999 (by omega) (by omega) rfl
  rw [hx, bo_s]
theorem goMost_s {σ : St} {W : Nat → Int32} (hW : ∀ d, 1 ≤ d → d ≤ 6 → σ 78 d = W d) (h7 : ∀ h, h < 16 → σ 79 (112 + h) = 0) : ∃ σ', lp (fun (s12 : Int32 × St) => b_X6_goBy_42 s12.1 s12.2) 5000 (6, σ) = some σ' ∧ (∀ c, c ≠ 79 → σ' c = σ c) ∧ ∀ d, 1 ≤ d → d ≤ 7 → ∀ h, h < 16 → σ' 79 (16 * d + h) = nI (mst W (7 - d) h) := by
  refine lp_up0 (body := fun (s12 : Int32 × St) => b_X6_goBy_42 s12.1 s12.2) (s := (6, σ)) (fun σ' => (∀ c, c ≠ 79 → σ' c = σ c) ∧ ∀ d, 1 ≤ d → d ≤ 7 → ∀ h, h < 16 → σ' 79 (16 * d + h) = nI (mst W (7 - d) h))
    (fun i s => s.1 = nI (6 - i) ∧ (∀ c, c ≠ 79 → s.2 c = σ c) ∧ ∀ d, 7 - i ≤ d → d ≤ 7 → ∀ h, h < 16 → s.2 79 (16 * d + h) = nI (mst W (7 - d) h)) 6 (by decide) ⟨rfl, fun _ _ => rfl, fun d h1 h2 h hh => by
      have : d = 7 := by omega
      subst this
      exact h7 h hh⟩
    (fun i s hi hI => ?_)
    (fun s hI => ?_)
  · obtain ⟨c0, T⟩ := s
    obtain ⟨rfl, g1, g2⟩ := hI
    dsimp only at g1 g2
    obtain ⟨T2, e1, e2, e3, e4⟩ := lp_up0 (body := fun (s18 : Int32 × St) => b_X6_goBy_51 (nI (6 - i)) s18.1 s18.2) (s := (0, T)) (fun y => (∀ c, c ≠ 79 → y c = σ c) ∧ (∀ d, 7 - i ≤ d → d ≤ 7 → ∀ h, h < 16 → y 79 (16 * d + h) = nI (mst W (7 - d) h)) ∧ ∀ h, h < 16 → y 79 (16 * (6 - i) + h) = nI (mst W (i + 1) h))
      (fun j s => s.1 = nI j ∧ (∀ c, c ≠ 79 → s.2 c = σ c) ∧ (∀ d, 7 - i ≤ d → d ≤ 7 → ∀ h, h < 16 → s.2 79 (16 * d + h) = nI (mst W (7 - d) h)) ∧ ∀ h, h < j → s.2 79 (16 * (6 - i) + h) = nI (mst W (i + 1) h)) 16 (by decide) ⟨rfl, g1, g2, fun h hh => absurd hh (by omega)⟩
      (fun j s hj hI => by
        obtain ⟨c0, V⟩ := s
        obtain ⟨rfl, k1, k2, k3⟩ := hI
        dsimp only at k1 k2 k3
        have hm := mostFrom_s (σ := V) (f := mst W i) (d := 6 - i) (h := j) (k := i) (fun h hh => by
          have := k2 (6 - i + 1) (by omega) (by omega) h hh
          rw [this, show 7 - (6 - i + 1) = i by omega]) (mst_le W i) (by omega) (by omega) hj
        rw [k1 78 (by omega), hW (6 - i) (by omega) (by omega)] at hm
        refine Or.inl ⟨(nI (j + 1), up2 V 79 (16 * (6 - i) + j) (nI (nx (mst W i) (W (6 - i)) j 4))), ?_, rfl, fun c hc => ?_, fun d h1 h2 h hh => ?_, fun h hh => ?_⟩
        · dsimp only
          unfold b_X6_goBy_51
          rw [if_neg (show ¬ 16 ≤ nI j from nI_ge (b := 16) hj (by decide)), hm, bo_s, i16, gd_t _ (inb_nI (by omega) (by decide)), nI_clamp (by omega)]
          simp only [bv, nI_1]
        · show up2 _ _ _ _ c = _
          rw [up2_ne hc, k1 c hc]
        · dsimp only
          rw [up2_slot (by omega)]
          exact k2 d h1 h2 h hh
        · dsimp only
          by_cases e : h = j
          · subst e
            rw [up2_self]; rfl
          · rw [up2_slot (by omega)]
            exact k3 h (by omega))
      (fun s hI => by
        obtain ⟨c0, V⟩ := s
        obtain ⟨rfl, k1, k2, k3⟩ := hI
        dsimp only at k1 k2 k3
        refine ⟨V, ?_, k1, k2, k3⟩
        dsimp only
        unfold b_X6_goBy_51
        rw [if_pos (by decide)])
    refine Or.inl ⟨(nI (6 - (i + 1)), T2), ?_, rfl, e2, fun d h1 h2 h hh => ?_⟩
    · dsimp only
      unfold b_X6_goBy_42
      rw [if_neg (show ¬ nI (6 - i) < 1 from nI_nlt (b := 1) (by omega) (by omega)), e1, bo_s]
      simp only [bv]
      rw [show 6 - i = 6 - (i + 1) + 1 by omega, pk_m1]
    · show T2 79 _ = _
      by_cases ed : d = 6 - i
      · subst ed
        rw [e4 h hh, show 7 - (6 - i) = i + 1 by omega]
      · exact e3 d (by omega) h2 h hh
  · obtain ⟨c0, T⟩ := s
    obtain ⟨rfl, g1, g2⟩ := hI
    dsimp only at g1 g2
    refine ⟨T, ?_, g1, fun d h1 h2 => g2 d (by omega) h2⟩
    dsimp only
    unfold b_X6_goBy_42
    rw [if_pos (by decide)]
theorem layMost_s {τ : SR} {W : Nat → Int32} {n : Nat} (hn : n ≤ 4) (hcn : ri τ 0 5 = nI n) (hW : ∀ d, 1 ≤ d → d ≤ 6 → ri τ 20 d = W d) (hz : ∀ d, 1 ≤ d → d ≤ 6 → ∀ c, n ≤ c → c < 4 → (W d).toBitVec.getLsbD c = false) : ∃ τ', f_X10_layMost τ = some τ' ∧ τ'.2 = τ.2 ∧ (∀ c, c ≠ 21 → ri τ' c = ri τ c) ∧ ∀ d, 1 ≤ d → d ≤ 7 → ∀ h, h < 16 → ri τ' 21 (16 * d + h) = nI (mst W (7 - d) h) := by
  obtain ⟨U, u1, u0, u2, u3⟩ := lp_up0 (body := fun (s1 : Int32 × SR) => b_X10_layMost_2 s1.1 s1.2) (s := (0, τ)) (fun y => y.2 = τ.2 ∧ (∀ c, c ≠ 21 → ri y c = ri τ c) ∧ ∀ h, h < 16 → ri y 21 (112 + h) = 0)
    (fun j s => s.1 = nI j ∧ s.2.2 = τ.2 ∧ (∀ c, c ≠ 21 → ri s.2 c = ri τ c) ∧ ∀ h, h < j → ri s.2 21 (112 + h) = 0) 16 (by decide) ⟨rfl, rfl, fun _ _ => rfl, fun h hh => absurd hh (by omega)⟩
    (fun j s hj hI => by
      obtain ⟨c0, V⟩ := s
      obtain ⟨rfl, k0, k1, k2⟩ := hI
      dsimp only at k0 k1 k2
      refine Or.inl ⟨(nI (j + 1), ui V 21 (112 + j) 0), ?_, rfl, k0, fun c hc => ?_, fun h hh => ?_⟩
      · dsimp only
        unfold b_X10_layMost_2
        rw [if_neg (show ¬ 16 ≤ nI j from nI_ge (b := 16) hj (by decide)), show (112 : Int32) + nI j = nI (112 + j) from nI_add 112 j, gd_t _ (inb_nI (by omega) (by decide)), nI_clamp (by omega)]
        simp only [bv, nI_1]
      · show ri (ui _ _ _ _) c = _
        rw [ri_ui_cell hc, k1 c hc]
      · show ri (ui _ _ _ _) 21 _ = _
        by_cases e : h = j
        · subst e; exact ri_ui_self
        · rw [ri_ui_ne (by omega)]; exact k2 h (by omega))
    (fun s hI => by
      obtain ⟨c0, V⟩ := s
      obtain ⟨rfl, k0, k1, k2⟩ := hI
      dsimp only at k0 k1 k2
      refine ⟨V, ?_, k0, k1, k2⟩
      dsimp only
      unfold b_X10_layMost_2
      rw [if_pos (by decide)])
  obtain ⟨Y, y1, y0, y2, y3⟩ := lp_up0 (body := fun (s10 : Int32 × SR) => b_X10_layMost_27 s10.1 s10.2) (s := (6, U)) (fun y => y.2 = τ.2 ∧ (∀ c, c ≠ 21 → ri y c = ri τ c) ∧ ∀ d, 1 ≤ d → d ≤ 7 → ∀ h, h < 16 → ri y 21 (16 * d + h) = nI (mst W (7 - d) h))
    (fun i s => s.1 = nI (6 - i) ∧ s.2.2 = τ.2 ∧ (∀ c, c ≠ 21 → ri s.2 c = ri τ c) ∧ ∀ d, 7 - i ≤ d → d ≤ 7 → ∀ h, h < 16 → ri s.2 21 (16 * d + h) = nI (mst W (7 - d) h)) 6 (by decide) ⟨rfl, u0, u2, fun d h1 h2 h hh => by
      have : d = 7 := by omega
      subst this
      exact u3 h hh⟩
    (fun i s hi hI => by
      obtain ⟨c0, T⟩ := s
      obtain ⟨rfl, g0, g1, g2⟩ := hI
      dsimp only at g0 g1 g2
      obtain ⟨T2, e1, e0, e2, e3, e4⟩ := lp_up0 (body := fun (s16 : Int32 × SR) => b_X10_layMost_33 (nI (6 - i)) s16.1 s16.2) (s := (0, T)) (fun y => y.2 = τ.2 ∧ (∀ c, c ≠ 21 → ri y c = ri τ c) ∧ (∀ d, 7 - i ≤ d → d ≤ 7 → ∀ h, h < 16 → ri y 21 (16 * d + h) = nI (mst W (7 - d) h)) ∧ ∀ h, h < 16 → ri y 21 (16 * (6 - i) + h) = nI (mst W (i + 1) h))
        (fun j s => s.1 = nI j ∧ s.2.2 = τ.2 ∧ (∀ c, c ≠ 21 → ri s.2 c = ri τ c) ∧ (∀ d, 7 - i ≤ d → d ≤ 7 → ∀ h, h < 16 → ri s.2 21 (16 * d + h) = nI (mst W (7 - d) h)) ∧ ∀ h, h < j → ri s.2 21 (16 * (6 - i) + h) = nI (mst W (i + 1) h)) 16 (by decide) ⟨rfl, g0, g1, g2, fun h hh => absurd hh (by omega)⟩
        (fun j s hj hI => by
          obtain ⟨c0, V⟩ := s
          obtain ⟨rfl, k0, k1, k2, k3⟩ := hI
          dsimp only at k0 k1 k2 k3
          have hf : ∀ h, h < 16 → ri V 21 (16 * (6 - i + 1) + h) = nI (mst W i h) := fun h hh => by
            have := k2 (6 - i + 1) (by omega) (by omega) h hh
            rw [this, show 7 - (6 - i + 1) = i by omega]
          have hv : ri V 20 (6 - i) = W (6 - i) := by rw [k1 20 (by omega)]; exact hW _ (by omega) (by omega)
          have hin : lp (fun (s24 : Int32 × Int32) => b_X10_layMost_56 (nI (6 - i)) (nI j) V s24.1 s24.2) 5000 (nI (mst W i j), 0) = some (nI (nx (mst W i) (W (6 - i)) j 4)) := by
            rw [nx_mono (a := n) 4 hn (fun c h1 h2 => by unfold canw; rw [hz (6 - i) (by omega) (by omega) c h1 h2]; rfl)]
            refine lp_runs (body := fun (s24 : Int32 × Int32) => b_X10_layMost_56 (nI (6 - i)) (nI j) V s24.1 s24.2) (nI (mst W i j), 0) (fun c => (nI (nx (mst W i) (W (6 - i)) j c), nI c)) _ n rfl (by omega) (fun c hc => ?_) ?_
            · dsimp only
              have hn' := nx_le (mst_le W i) (W (6 - i)) j c
              obtain ⟨o1, o2⟩ := ob_dec j hj c (by omega)
              have hfo := mst_le W i (j ||| 2 ^ c)
              unfold b_X10_layMost_56
              rw [show ri V 0 5 = nI n from by rw [k1 0 (by omega)]; exact hcn, if_neg (nI_ge hc (by omega)), gd_t _ (inb_nI (by omega) (by decide)), nI_clamp (show 6 - i < 2 ^ 31 by omega), hv, isIn_s, bo_s, o1, nI_1, i16', nI_clamp (by omega), hf _ o2, gd_t _ (inb_nI (by omega) (by decide)), nx]
              simp only [bv, nI_1]
              by_cases e : canw (W (6 - i)) j c = true
              · rw [if_pos (show bt (W (6 - i) &&& (nI j ^^^ (-1))) c from (bt_iff _ (by omega)).mpr (by rw [canw_get _ hj (by omega)]; exact e)), if_neg one0, bo_s, if_pos e, show (1 : Int32) = nI 1 from rfl, nI_add]
                by_cases e2 : 1 + mst W i (j ||| 2 ^ c) ≤ nx (mst W i) (W (6 - i)) j c
                · rw [if_pos (nI_le e2 (by omega)), Nat.max_eq_left e2]
                · rw [if_neg (nI_ge (by omega) (by omega)), Nat.max_eq_right (by omega)]
              · rw [if_neg (show ¬ bt (W (6 - i) &&& (nI j ^^^ (-1))) c from fun z => e (by rw [bt_iff _ (by omega), canw_get _ hj (by omega)] at z; exact z)), if_pos rfl, bo_s, if_neg e, if_pos (nI_pos' (by omega)), Nat.max_eq_left (by omega)]
            · dsimp only
              unfold b_X10_layMost_56
              rw [show ri V 0 5 = nI n from by rw [k1 0 (by omega)]; exact hcn, if_pos (nI_le (Nat.le_refl _) (by omega))]
          refine Or.inl ⟨(nI (j + 1), ui V 21 (16 * (6 - i) + j) (nI (nx (mst W i) (W (6 - i)) j 4))), ?_, rfl, k0, fun c hc => ?_, fun d h1 h2 h hh => ?_, fun h hh => ?_⟩
          · dsimp only
            unfold b_X10_layMost_33
            rw [if_neg (show ¬ 16 ≤ nI j from nI_ge (b := 16) hj (by decide)), nI_1, i16', gd_t _ (inb_nI (by omega) (by decide)), nI_clamp (by omega), hf j hj]
            simp only [bv]
            rw [hin, bo_s, i16', gd_t _ (inb_nI (by omega) (by decide)), nI_clamp (by omega), nI_1]
          · show ri (ui _ _ _ _) c = _
            rw [ri_ui_cell hc, k1 c hc]
          · show ri (ui _ _ _ _) 21 _ = _
            rw [ri_ui_ne (by omega)]
            exact k2 d h1 h2 h hh
          · show ri (ui _ _ _ _) 21 _ = _
            by_cases e : h = j
            · subst e
              rw [ri_ui_self]; rfl
            · rw [ri_ui_ne (by omega)]
              exact k3 h (by omega))
        (fun s hI => by
          obtain ⟨c0, V⟩ := s
          obtain ⟨rfl, k0, k1, k2, k3⟩ := hI
          dsimp only at k0 k1 k2 k3
          refine ⟨V, ?_, k0, k1, k2, k3⟩
          dsimp only
          unfold b_X10_layMost_33
          rw [if_pos (by decide)])
      refine Or.inl ⟨(nI (6 - (i + 1)), T2), ?_, rfl, e0, e2, fun d h1 h2 h hh => ?_⟩
      · dsimp only
        unfold b_X10_layMost_27
        rw [if_neg (show ¬ nI (6 - i) ≤ 0 from nI_nle (by omega) (by omega)), e1, bo_s]
        simp only [bv]
        rw [show 6 - i = 6 - (i + 1) + 1 by omega, pk_m1]
      · show ri T2 21 _ = _
        by_cases ed : d = 6 - i
        · subst ed
          rw [e4 h hh, show 7 - (6 - i) = i + 1 by omega]
        · exact e3 d (by omega) h2 h hh)
    (fun s hI => by
      obtain ⟨c0, T⟩ := s
      obtain ⟨rfl, g0, g1, g2⟩ := hI
      dsimp only at g0 g1 g2
      refine ⟨T, ?_, g0, g1, fun d h1 h2 => g2 d (by omega) h2⟩
      dsimp only
      unfold b_X10_layMost_27
      rw [if_pos (by decide)])
  unfold f_X10_layMost
  rw [u1, bo_s, y1, bo_s]
  exact ⟨Y, rfl, y0, y2, y3⟩

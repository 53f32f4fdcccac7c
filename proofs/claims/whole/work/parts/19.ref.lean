theorem nb01 {c : Prop} {i : Decidable c} {q : Int32} (h : (@ite _ c i (some (1 : Int32)) (some 0)) = some q) : narrow .boolean (.int q) = .int q := by
  split at h <;> cases h <;> rfl
theorem nb10 {c : Prop} {i : Decidable c} {q : Int32} (h : (@ite _ c i (some (0 : Int32)) (some 1)) = some q) : narrow .boolean (.int q) = .int q := by
  split at h <;> cases h <;> rfl
theorem nf01 {c : Prop} {i : Decidable c} {q : Int32} (h : (@ite _ c i (some (1 : Int32)) (some 0)) = some q) : fits .boolean (.int q) = true := by
  split at h <;> cases h <;> rfl
theorem nf10 {c : Prop} {i : Decidable c} {q : Int32} (h : (@ite _ c i (some (0 : Int32)) (some 1)) = some q) : fits .boolean (.int q) = true := by
  split at h <;> cases h <;> rfl
abbrev SR : Type := (Nat → Nat → Int32) × (Nat → Int64)
def ri (S : SR) (k j : Nat) : Int32 := S.1 k j
def rl (S : SR) (j : Nat) : Int64 := S.2 j
def ui (S : SR) (k j : Nat) (x : Int32) : SR := (up2 S.1 k j x, S.2)
def ul (S : SR) (j : Nat) (x : Int64) : SR := (S.1, vp_updL S.2 j x)
abbrev frR (ad : Nat → Nat) (v : Nat → Int32) (L : Nat → Int64) : List Value := [.int (v 0), .int (v 1), .ref (ad 1), .ref (ad 2), .ref (ad 3), .int (v 5), .ref (ad 4), .ref (ad 5), .int (v 8), .ref (ad 6), .ref (ad 7), .ref (ad 8), .int (v 12), .int (v 13), .ref (ad 9), .ref (ad 10), .ref (ad 11), .int (v 17), .ref (ad 12), .int (v 19), .int (v 20), .int (v 21), .ref (ad 13), .ref (ad 14), .ref (ad 15), .ref (ad 16), .ref (ad 17), .int (v 27), .ref (ad 18), .ref (ad 19), .ref (ad 20), .ref (ad 21), .long (L 32), .int (v 33), .int (v 34), .int (v 35), .int (v 36), .int (v 37), .ref (ad 22), .ref (ad 23), .ref (ad 24), .ref (ad 25), .ref (ad 26), .ref (ad 27), .ref (ad 28), .ref (ad 29), .ref (ad 30), .long (L 47)]
def lenR : List Nat := [0, 5, 20, 5, 4, 4, 6, 6, 6, 6, 6, 6, 54, 5, 15, 5, 4, 4, 20, 5, 7, 128, 5, 20, 5, 6, 6, 6, 6, 6, 6]
def SHR (ad : Nat → Nat) (cI cB : ClassId) (k : Nat) (v : Nat → Int32) (L : Nat → Int64) : va_E := if k = 0 then .inr (10, frR ad v L) else if k = 12 then .inl (cB, 54, .inl v) else .inl (cI, lenR.getD k 0, .inl v)
def er (ad : Nat → Nat) (cI cB : ClassId) (S : SR) : Nat → va_E := fun k => SHR ad cI cB k (S.1 k) S.2
def oR (ad : Nat → Nat) (cI cB : ClassId) (k ci : Nat) (fs : (Nat → Int32) → (Nat → Int64) → List Value) : Prop := k < 31 ∧ ∀ v L, SHR ad cI cB k v L = .inr (ci, fs v L)
def aR (ad : Nat → Nat) (cI cB : ClassId) (k n : Nat) : Prop := k < 31 ∧ ∀ v L, SHR ad cI cB k v L = .inl (cI, n, .inl v)
def bR (ad : Nat → Nat) (cI cB : ClassId) (k n : Nat) : Prop := k < 31 ∧ ∀ v L, SHR ad cI cB k v L = .inl (cB, n, .inl v)
theorem q_Ref {ad : Nat → Nat} {cI cB : ClassId} : oR ad cI cB 0 10 (frR ad) := ⟨by decide, fun _ _ => rfl⟩
theorem qr_1 {ad : Nat → Nat} {cI cB : ClassId} : aR ad cI cB 1 5 := ⟨by decide, fun _ _ => rfl⟩
theorem qr_2 {ad : Nat → Nat} {cI cB : ClassId} : aR ad cI cB 2 20 := ⟨by decide, fun _ _ => rfl⟩
theorem qr_3 {ad : Nat → Nat} {cI cB : ClassId} : aR ad cI cB 3 5 := ⟨by decide, fun _ _ => rfl⟩
theorem qr_4 {ad : Nat → Nat} {cI cB : ClassId} : aR ad cI cB 4 4 := ⟨by decide, fun _ _ => rfl⟩
theorem qr_5 {ad : Nat → Nat} {cI cB : ClassId} : aR ad cI cB 5 4 := ⟨by decide, fun _ _ => rfl⟩
theorem qr_6 {ad : Nat → Nat} {cI cB : ClassId} : aR ad cI cB 6 6 := ⟨by decide, fun _ _ => rfl⟩
theorem qr_7 {ad : Nat → Nat} {cI cB : ClassId} : aR ad cI cB 7 6 := ⟨by decide, fun _ _ => rfl⟩
theorem qr_8 {ad : Nat → Nat} {cI cB : ClassId} : aR ad cI cB 8 6 := ⟨by decide, fun _ _ => rfl⟩
theorem qr_9 {ad : Nat → Nat} {cI cB : ClassId} : aR ad cI cB 9 6 := ⟨by decide, fun _ _ => rfl⟩
theorem qr_10 {ad : Nat → Nat} {cI cB : ClassId} : aR ad cI cB 10 6 := ⟨by decide, fun _ _ => rfl⟩
theorem qr_11 {ad : Nat → Nat} {cI cB : ClassId} : aR ad cI cB 11 6 := ⟨by decide, fun _ _ => rfl⟩
theorem qr_12 {ad : Nat → Nat} {cI cB : ClassId} : bR ad cI cB 12 54 := ⟨by decide, fun _ _ => rfl⟩
theorem qr_13 {ad : Nat → Nat} {cI cB : ClassId} : aR ad cI cB 13 5 := ⟨by decide, fun _ _ => rfl⟩
theorem qr_14 {ad : Nat → Nat} {cI cB : ClassId} : aR ad cI cB 14 15 := ⟨by decide, fun _ _ => rfl⟩
theorem qr_15 {ad : Nat → Nat} {cI cB : ClassId} : aR ad cI cB 15 5 := ⟨by decide, fun _ _ => rfl⟩
theorem qr_16 {ad : Nat → Nat} {cI cB : ClassId} : aR ad cI cB 16 4 := ⟨by decide, fun _ _ => rfl⟩
theorem qr_17 {ad : Nat → Nat} {cI cB : ClassId} : aR ad cI cB 17 4 := ⟨by decide, fun _ _ => rfl⟩
theorem qr_18 {ad : Nat → Nat} {cI cB : ClassId} : aR ad cI cB 18 20 := ⟨by decide, fun _ _ => rfl⟩
theorem qr_19 {ad : Nat → Nat} {cI cB : ClassId} : aR ad cI cB 19 5 := ⟨by decide, fun _ _ => rfl⟩
theorem qr_20 {ad : Nat → Nat} {cI cB : ClassId} : aR ad cI cB 20 7 := ⟨by decide, fun _ _ => rfl⟩
theorem qr_21 {ad : Nat → Nat} {cI cB : ClassId} : aR ad cI cB 21 128 := ⟨by decide, fun _ _ => rfl⟩
theorem qr_22 {ad : Nat → Nat} {cI cB : ClassId} : aR ad cI cB 22 5 := ⟨by decide, fun _ _ => rfl⟩
theorem qr_23 {ad : Nat → Nat} {cI cB : ClassId} : aR ad cI cB 23 20 := ⟨by decide, fun _ _ => rfl⟩
theorem qr_24 {ad : Nat → Nat} {cI cB : ClassId} : aR ad cI cB 24 5 := ⟨by decide, fun _ _ => rfl⟩
theorem qr_25 {ad : Nat → Nat} {cI cB : ClassId} : aR ad cI cB 25 6 := ⟨by decide, fun _ _ => rfl⟩
theorem qr_26 {ad : Nat → Nat} {cI cB : ClassId} : aR ad cI cB 26 6 := ⟨by decide, fun _ _ => rfl⟩
theorem qr_27 {ad : Nat → Nat} {cI cB : ClassId} : aR ad cI cB 27 6 := ⟨by decide, fun _ _ => rfl⟩
theorem qr_28 {ad : Nat → Nat} {cI cB : ClassId} : aR ad cI cB 28 6 := ⟨by decide, fun _ _ => rfl⟩
theorem qr_29 {ad : Nat → Nat} {cI cB : ClassId} : aR ad cI cB 29 6 := ⟨by decide, fun _ _ => rfl⟩
theorem qr_30 {ad : Nat → Nat} {cI cB : ClassId} : aR ad cI cB 30 6 := ⟨by decide, fun _ _ => rfl⟩

abbrev rP (D : va_G) (ad : Nat → Nat) (cI cB : ClassId) (σ : SR) (H : Heap) : Prop := va_P D vwCl (wl 31 ad (er ad cI cB σ)) H
abbrev rS (ad : Nat → Nat) (s : State) (H : Heap) (locs : List Loc) : Prop := va_S (AD 31 ad s.heap.size) s.heap H locs
def KR (D : va_G) (cI cB : ClassId) (U : State) : Prop := va_K D vwCl [(cI, .int), (cB, .byte)] U ∧ True
def ZR : (Nat → Prop) → State → Heap → Prop := fun _ _ _ => True
theorem KR_st {D : va_G} {cI cB : ClassId} : Kst (KR D cI cB) := ⟨fun s U hW h => ⟨va_K.moved hW.alike h.1, trivial⟩, fun u U he h => ⟨va_K.moved (by rw [he]; exact Vm.Alike.refl _) h.1, trivial⟩⟩
theorem ZR_st : Zst ZR := ⟨fun _ _ _ _ _ _ => trivial, fun _ _ _ _ _ _ => trivial, fun _ _ _ _ _ _ => trivial⟩
section RR
variable {p : Program} {l : Launch} {e : Env} {R : Room} {s : State} {m : MethodId} {args : Array Value} {below : List Frame} {meth : Method} {c : Code} {H : Heap} {locs : List Loc} {Q : State → Prop}
variable {cc : ByteArray} {pc : Nat} {ls : Array Slot} {rest : List Value} {D : va_G} {ad : Nat → Nat} {cI cB : ClassId} {σ : SR}
theorem er_o {k ci : Nat} {fs : (Nat → Int32) → (Nat → Int64) → List Value} (h : oR ad cI cB k ci fs) : er ad cI cB σ k = .inr (ci, fs (σ.1 k) σ.2) := h.2 _ _
theorem er_up {k j : Nat} {x : Int32} : er ad cI cB (ui σ k j x) k = SHR ad cI cB k (upd (σ.1 k) j x) σ.2 := by simp [er, ui, up2, va_up]
theorem er_ne {i k j : Nat} {x : Int32} (h : i ≠ k) : er ad cI cB (ui σ k j x) i = er ad cI cB σ i := by simp [er, ui, up2, va_up, h]
theorem er_neL {i k j : Nat} {x : Int64} {ci : Nat} {fs : (Nat → Int32) → (Nat → Int64) → List Value} (ho : oR ad cI cB k ci fs) (h : i ≠ k) : er ad cI cB (ul σ j x) i = er ad cI cB σ i := by
  have hk : k = 0 := by
    have h1 := ho.2 (fun _ => 0) (fun _ => 0)
    by_cases h0 : k = 0
    · exact h0
    · exfalso
      unfold SHR at h1
      rw [if_neg h0] at h1
      split at h1 <;> cases h1
  subst hk
  simp [er, ul, SHR, h]
theorem r_get (hx : p.tables.exec = Jvm.exec) (hb : c.code = cc) {own ref C : String} {T : u_T} {N ci index : Nat} {Ts : List Cond} (hts : ∀ w ∈ Ts, w.before args s = true) (hin : ∀ w ∈ u_ws C T N, w ∈ Ts) (hown : s.vm.findClass own = some m.cls) (hK : KR D cI cB s) (hP : va_P D vwCl (wl 31 ad (er ad cI cB σ)) H) {k : Nat} {fs : (Nat → Int32) → (Nat → Int64) → List Value} (ho : oR ad cI cB k ci fs) (hc : vwCl[ci]? = some (C, T, N)) (j : Nat) (hj : j < N) (hlink : (Cond.fieldLink own index ref (T j).2.1 (T j).2.2.1).before args s = true) (hsame : ∀ x, s.fieldFound? (T j).1 (T j).2.1 (T j).2.2.1 = some x → s.fieldFound? ref (T j).2.1 (T j).2.2.1 = some x) {v : Value} (hv : (fs (σ.1 k) σ.2)[j]? = some v) (hdg : decode cc pc = .ok (.getfield index, 3))
    (kk : W p l e R s m args below meth c H locs 0 0 Q (F0 m (pc + 3) ls (v :: rest))) : W p l e R s m args below meth c H locs 0 0 Q (F0 m pc ls (.ref (ad k) :: rest)) :=
  va_get hx hb hts hin hown hK.1 hP k ((wl_at ho.1).trans (by rw [er_o ho])) hc j hj hlink hsame hv hdg kk
theorem r_put (hij : inj 31 ad) (hx : p.tables.exec = Jvm.exec) (hb : c.code = cc) {own ref C : String} {T : u_T} {N ci index : Nat} {Ts : List Cond} (hts : ∀ w ∈ Ts, w.before args s = true) (hin : ∀ w ∈ u_ws C T N, w ∈ Ts) (ty0 : Nat → FieldType) (hty : ∀ k, k < N → parseFieldDescriptor (T k).2.2.1 = some (ty0 k)) (hnm : ∀ a, a < N → ∀ b, b < N → a ≠ b → (T a).2.1 ≠ (T b).2.1) (hown : s.vm.findClass own = some m.cls) (hK : KR D cI cB s) (hP : va_P D vwCl (wl 31 ad (er ad cI cB σ)) H) (hS : va_S (AD 31 ad s.heap.size) s.heap H locs) {k : Nat} {fs : (Nat → Int32) → (Nat → Int64) → List Value} (ho : oR ad cI cB k ci fs) (hc : vwCl[ci]? = some (C, T, N)) (j : Nat) (hj : j < N) (hlink : (Cond.fieldLink own index ref (T j).2.1 (T j).2.2.1).before args s = true) (hsame : ∀ x, s.fieldFound? (T j).1 (T j).2.1 (T j).2.2.1 = some x → s.fieldFound? ref (T j).2.1 (T j).2.2.1 = some x) (hfin : (T j).2.2.2 = false) {x : Int32} (hn : narrow (ty0 j) (.int x) = .int x) (hfit : fits (ty0 j) (.int x) = true) (hl : ∀ v L, j < (fs v L).length) (hset : ∀ v L, (fs v L).set j (.int x) = fs (upd v j x) L)
    (hdg : decode cc pc = .ok (.putfield index, 3)) (kk : ∀ (H : Heap) (locs : List Loc), va_P D vwCl (wl 31 ad (er ad cI cB (ui σ k j x))) H → va_S (AD 31 ad s.heap.size) s.heap H locs → W p l e R s m args below meth c H locs 0 0 Q (F0 m (pc + 3) ls rest)) : W p l e R s m args below meth c H locs 0 0 Q (F0 m pc ls (.int x :: .ref (ad k) :: rest)) := by
  refine va_put hx hb hts hin ty0 hty hnm hown hK.1 hP (wl_D hij) hS k ((wl_at ho.1).trans (by rw [er_o ho])) hc j hj hlink hsame hfin (hty j hj) hn hfit (hl _ _) hdg (fun H1 locs1 hP1 _ hS1 => kk H1 locs1 ?_ hS1)
  rw [wl_set (E' := er ad cI cB (ui σ k j x)) (by rw [er_up, ho.2, hset]) (fun i hi => er_ne hi)] at hP1
  exact hP1
theorem r_putL (hij : inj 31 ad) (hx : p.tables.exec = Jvm.exec) (hb : c.code = cc) {own ref C : String} {T : u_T} {N ci index : Nat} {Ts : List Cond} (hts : ∀ w ∈ Ts, w.before args s = true) (hin : ∀ w ∈ u_ws C T N, w ∈ Ts) (ty0 : Nat → FieldType) (hty : ∀ k, k < N → parseFieldDescriptor (T k).2.2.1 = some (ty0 k)) (hnm : ∀ a, a < N → ∀ b, b < N → a ≠ b → (T a).2.1 ≠ (T b).2.1) (hown : s.vm.findClass own = some m.cls) (hK : KR D cI cB s) (hP : va_P D vwCl (wl 31 ad (er ad cI cB σ)) H) (hS : va_S (AD 31 ad s.heap.size) s.heap H locs) {k : Nat} {fs : (Nat → Int32) → (Nat → Int64) → List Value} (ho : oR ad cI cB k ci fs) (hc : vwCl[ci]? = some (C, T, N)) (j : Nat) (hj : j < N) (hlink : (Cond.fieldLink own index ref (T j).2.1 (T j).2.2.1).before args s = true) (hsame : ∀ x, s.fieldFound? (T j).1 (T j).2.1 (T j).2.2.1 = some x → s.fieldFound? ref (T j).2.1 (T j).2.2.1 = some x) (hfin : (T j).2.2.2 = false) {x : Int64} (hn : narrow (ty0 j) (.long x) = .long x) (hfit : fits (ty0 j) (.long x) = true) (hl : ∀ v L, j < (fs v L).length) (hset : ∀ v L, (fs v L).set j (.long x) = fs v (vp_updL L j x))
    (hdg : decode cc pc = .ok (.putfield index, 3)) (kk : ∀ (H : Heap) (locs : List Loc), va_P D vwCl (wl 31 ad (er ad cI cB (ul σ j x))) H → va_S (AD 31 ad s.heap.size) s.heap H locs → W p l e R s m args below meth c H locs 0 0 Q (F0 m (pc + 3) ls rest)) : W p l e R s m args below meth c H locs 0 0 Q (F0 m pc ls (.long x :: .ref (ad k) :: rest)) := by
  refine va_put hx hb hts hin ty0 hty hnm hown hK.1 hP (wl_D hij) hS k ((wl_at ho.1).trans (by rw [er_o ho])) hc j hj hlink hsame hfin (hty j hj) hn hfit (hl _ _) hdg (fun H1 locs1 hP1 _ hS1 => kk H1 locs1 ?_ hS1)
  rw [wl_set (E' := er ad cI cB (ul σ j x)) (by show SHR ad cI cB k (σ.1 k) (vp_updL σ.2 j x) = _; rw [ho.2, hset]) (fun i hi => er_neL ho hi)] at hP1
  exact hP1
theorem r_iald (hx : p.tables.exec = Jvm.exec) (hb : c.code = cc) (hK : KR D cI cB s) (hP : va_P D vwCl (wl 31 ad (er ad cI cB σ)) H) {k n : Nat} (ha : aR ad cI cB k n) {i : Int32} (hin : inb i n = true) (hdg : decode cc pc = .ok (.iaload, 1))
    (kk : W p l e R s m args below meth c H locs 0 0 Q (F0 m (pc + 1) ls (.int (ri σ k i.toNatClampNeg) :: rest))) : W p l e R s m args below meth c H locs 0 0 Q (F0 m pc ls (.int i :: .ref (ad k) :: rest)) :=
  va_iald (f := σ.1 k) hx hb hK.1 hP k 0 ((wl_at ha.1).trans (by rw [show er ad cI cB σ k = _ from ha.2 _ _])) rfl (st_in hin) hdg kk
theorem r_bald (hx : p.tables.exec = Jvm.exec) (hb : c.code = cc) (hK : KR D cI cB s) (hP : va_P D vwCl (wl 31 ad (er ad cI cB σ)) H) {k n : Nat} (ha : bR ad cI cB k n) {i : Int32} (hin : inb i n = true) (hdg : decode cc pc = .ok (.baload, 1))
    (kk : W p l e R s m args below meth c H locs 0 0 Q (F0 m (pc + 1) ls (.int (ri σ k i.toNatClampNeg) :: rest))) : W p l e R s m args below meth c H locs 0 0 Q (F0 m pc ls (.int i :: .ref (ad k) :: rest)) :=
  va_bald (f := σ.1 k) hx hb hK.1 hP k 1 ((wl_at ha.1).trans (by rw [show er ad cI cB σ k = _ from ha.2 _ _])) rfl (st_in hin) hdg kk
theorem r_iast (hij : inj 31 ad) (hx : p.tables.exec = Jvm.exec) (hb : c.code = cc) (hK : KR D cI cB s) (hP : va_P D vwCl (wl 31 ad (er ad cI cB σ)) H) (hS : va_S (AD 31 ad s.heap.size) s.heap H locs) {k n : Nat} (ha : aR ad cI cB k n) {i x : Int32} (hin : inb i n = true) (hdg : decode cc pc = .ok (.iastore, 1))
    (kk : ∀ (H : Heap) (locs : List Loc), va_P D vwCl (wl 31 ad (er ad cI cB (ui σ k i.toNatClampNeg x))) H → va_S (AD 31 ad s.heap.size) s.heap H locs → W p l e R s m args below meth c H locs 0 0 Q (F0 m (pc + 1) ls rest)) : W p l e R s m args below meth c H locs 0 0 Q (F0 m pc ls (.int x :: .int i :: .ref (ad k) :: rest)) := by
  refine va_iast hx hb hK.1 hP (wl_D hij) hS k 0 ((wl_at ha.1).trans (by rw [show er ad cI cB σ k = _ from ha.2 _ _])) rfl (st_in hin) hdg (fun H1 locs1 hP1 _ hS1 => kk H1 locs1 ?_ hS1)
  rw [wl_set (E' := er ad cI cB (ui σ k i.toNatClampNeg x)) (by rw [er_up, ha.2]) (fun i hi => er_ne hi)] at hP1
  exact hP1
theorem r_bast (hij : inj 31 ad) (hx : p.tables.exec = Jvm.exec) (hb : c.code = cc) (hK : KR D cI cB s) (hP : va_P D vwCl (wl 31 ad (er ad cI cB σ)) H) (hS : va_S (AD 31 ad s.heap.size) s.heap H locs) {k n : Nat} (ha : bR ad cI cB k n) {i x : Int32} (hin : inb i n = true) (hdg : decode cc pc = .ok (.bastore, 1))
    (kk : ∀ (H : Heap) (locs : List Loc), va_P D vwCl (wl 31 ad (er ad cI cB (ui σ k i.toNatClampNeg (vp_nar .byte x)))) H → va_S (AD 31 ad s.heap.size) s.heap H locs → W p l e R s m args below meth c H locs 0 0 Q (F0 m (pc + 1) ls rest)) : W p l e R s m args below meth c H locs 0 0 Q (F0 m pc ls (.int x :: .int i :: .ref (ad k) :: rest)) := by
  refine va_bast hx hb hK.1 hP (wl_D hij) hS k 1 ((wl_at ha.1).trans (by rw [show er ad cI cB σ k = _ from ha.2 _ _])) rfl (st_in hin) hdg (fun H1 locs1 hP1 _ hS1 => kk H1 locs1 ?_ hS1)
  rw [wl_set (E' := er ad cI cB (ui σ k i.toNatClampNeg (vp_nar .byte x))) (by rw [er_up, ha.2]) (fun i hi => er_ne hi)] at hP1
  exact hP1
end RR

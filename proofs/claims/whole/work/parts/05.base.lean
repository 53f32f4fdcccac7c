/-! THE BASE: worlds whose cells are numbered; pure values of a run by 'Option'; rows of the walk over them -/
-- ===== pure combinators: what a method computes, as a value of Option =====
def bv {α β : Type} (e : α) (f : α → Option β) : Option β := f e
def bo {α β : Type} (o : Option α) (f : α → Option β) : Option β := o.bind f
def gd {β : Type} (b : Bool) (k : Option β) : Option β := if b = true then k else none
def inb (i : Int32) (n : Nat) : Bool := decide (0 ≤ i.toInt) && decide (i.toInt < n)
def nz (x : Int32) : Bool := decide (¬ x = 0)
def nzL (x : Int64) : Bool := decide (¬ x = 0)
def lp {S X : Type} (body : S → Option (S ⊕ X)) : Nat → S → Option X
  | 0, _ => none
  | n + 1, s => (body s).bind (fun r => Sum.elim (fun s' => lp body n s') (fun x => some x) r)
theorem st_bv {α β : Type} {e : α} {f : α → Option β} {r : β} (h : bv e f = some r) : ∃ x, x = e ∧ f x = some r := ⟨e, rfl, h⟩
theorem st_bo {α β : Type} {o : Option α} {f : α → Option β} {r : β} (h : bo o f = some r) : ∃ x, o = some x ∧ f x = some r := by
  unfold bo at h
  cases o with
  | none => cases h
  | some x => exact ⟨x, rfl, h⟩
theorem st_gd {β : Type} {b : Bool} {k : Option β} {r : β} (h : gd b k = some r) : b = true ∧ k = some r := by
  unfold gd at h
  by_cases hb : b = true
  · rw [if_pos hb] at h; exact ⟨hb, h⟩
  · rw [if_neg hb] at h; cases h
theorem st_t {β : Type} {c : Prop} {i : Decidable c} {a b : Option β} {r : β} (h : (@ite _ c i a b) = some r) (hc : c) : a = some r := by rw [if_pos hc] at h; exact h
theorem st_f {β : Type} {c : Prop} {i : Decidable c} {a b : Option β} {r : β} (h : (@ite _ c i a b) = some r) (hc : ¬ c) : b = some r := by rw [if_neg hc] at h; exact h
theorem st_in {i : Int32} {n : Nat} (h : inb i n = true) : vp_in i n := by
  rw [vp_in_iff]
  simpa [inb] using h
theorem st_nz {x : Int32} (h : nz x = true) : ¬ x = 0 := by simpa [nz] using h
theorem st_nzL {x : Int64} (h : nzL x = true) : ¬ x = 0 := by simpa [nzL] using h
theorem st_lt {i : Int32} {n : Nat} (h : inb i n = true) : i.toNatClampNeg < n := Nat.not_le.mp fun q => st_in h (Or.inr q)
theorem st_el {A B C : Type} {f : A → Option C} {g : B → Option C} {x : A} {r : C} (h : Sum.elim f g (Sum.inl x) = some r) : f x = some r := h
theorem st_er {A B C : Type} {f : A → Option C} {g : B → Option C} {x : B} {r : C} (h : Sum.elim f g (Sum.inr x) = some r) : g x = some r := h
theorem lp_walk {S X : Type} {body : S → Option (S ⊕ X)} (At : S → Prop) (Ex : X → Prop) (hs : ∀ (s : S) (r : S ⊕ X), body s = some r → Sum.elim At Ex r → At s) : ∀ (n : Nat) (s : S) (x : X), lp body n s = some x → Ex x → At s
  | 0, _, _, h, _ => by cases h
  | n + 1, s, x, h, hx => by
    rw [lp] at h
    cases hb : body s with
    | none => rw [hb] at h; cases h
    | some r =>
      rw [hb] at h
      cases r with
      | inl s' => exact hs s (.inl s') hb (lp_walk At Ex hs n s' x h hx)
      | inr y =>
        have e : y = x := Option.some.inj h
        subst e
        exact hs s (.inr y) hb hx
-- ===== worlds of numbered cells =====
def wl (n : Nat) (ad : Nat → Nat) (E : Nat → va_E) : va_W := (List.range n).map (fun k => (ad k, E k))
theorem wl_at {n : Nat} {ad : Nat → Nat} {E : Nat → va_E} {k : Nat} (h : k < n) : (wl n ad E)[k]? = some (ad k, E k) := by simp [wl, h]
theorem wl_len {n : Nat} {ad : Nat → Nat} {E : Nat → va_E} : (wl n ad E).length = n := by simp [wl]
theorem wl_get {n : Nat} {ad : Nat → Nat} {E : Nat → va_E} {k : Nat} {q : Nat × va_E} (h : (wl n ad E)[k]? = some q) : k < n ∧ q = (ad k, E k) := by
  have hk : k < n := by
    have h1 := (List.getElem?_eq_some_iff.mp h).1
    rw [wl_len] at h1
    exact h1
  rw [wl_at hk] at h
  exact ⟨hk, (Option.some.inj h).symm⟩
theorem wl_set {n : Nat} {ad : Nat → Nat} {E E' : Nat → va_E} {k : Nat} {e : va_E} (he : E' k = e) (ho : ∀ j, j ≠ k → E' j = E j) : (wl n ad E).set k (ad k, e) = wl n ad E' := by
  apply List.ext_getElem?
  intro i
  rw [List.getElem?_set]
  by_cases hi : k = i
  · subst hi
    by_cases hn : k < n
    · rw [if_pos rfl, if_pos (by rw [wl_len]; exact hn), wl_at hn, he]
    · rw [if_pos rfl, if_neg (by rw [wl_len]; exact hn)]
      rw [List.getElem?_eq_none (by rw [wl_len]; omega)]
  · rw [if_neg hi]
    by_cases hn : i < n
    · rw [wl_at hn, wl_at hn, ho i (fun h => hi h.symm)]
    · rw [List.getElem?_eq_none (by rw [wl_len]; omega), List.getElem?_eq_none (by rw [wl_len]; omega)]
def inj (n : Nat) (ad : Nat → Nat) : Prop := ∀ i j, i < n → j < n → ad i = ad j → i = j
def AD (n : Nat) (ad : Nat → Nat) (sz : Nat) : Nat → Prop := fun q => (∃ k, k < n ∧ q = ad k) ∨ sz ≤ q
theorem wl_D {n : Nat} {ad : Nat → Nat} {E : Nat → va_E} {sz : Nat} (h : inj n ad) : va_D (AD n ad sz) (wl n ad E) := by
  refine ⟨fun i j x y hi hj hxy => ?_, fun k q hk => ?_⟩
  · obtain ⟨h1, rfl⟩ := wl_get hi
    obtain ⟨h2, rfl⟩ := wl_get hj
    exact h i j h1 h2 hxy
  · obtain ⟨h1, rfl⟩ := wl_get hk
    exact Or.inl ⟨k, h1, rfl⟩
theorem AD_le {n : Nat} {ad : Nat → Nat} {a b : Nat} (h : a ≤ b) : ∀ q, AD n ad b q → AD n ad a q := by
  intro q hq
  rcases hq with hq | hq
  · exact Or.inl hq
  · exact Or.inr (Nat.le_trans h hq)
-- ===== a method's start and end over such a world; K: what the tables say; Z: what the statics hold =====
def PG {St : Type} (n : Nat) (ad : Nat → Nat) (E : St → Nat → va_E) (D : va_G) (K : State → Prop) (Z : (Nat → Prop) → State → Heap → Prop) (av : List Value) (σ : St) (sz : Nat) : Array Value → State → Prop :=
  va_Pc av (fun U => U.heap.size = sz ∧ va_P D vwCl (wl n ad (E σ)) U.heap ∧ K U ∧ Z (AD n ad sz) U U.heap)
def QGi {St : Type} (n : Nat) (ad : Nat → Nat) (E : St → Nat → va_E) (D : va_G) (r : Int32) (σ : St) (sz : Nat) : Array Value → State → Outcome → State → Prop :=
  va_Qi (fun r' (_ : Unit) => r' = r) (fun _ t => va_P D vwCl (wl n ad (E σ)) t.heap) (AD n ad sz)
def QGl {St : Type} (n : Nat) (ad : Nat → Nat) (E : St → Nat → va_E) (D : va_G) (r : Int64) (σ : St) (sz : Nat) : Array Value → State → Outcome → State → Prop :=
  va_Ql (fun r' (_ : Unit) => r' = r) (fun _ t => va_P D vwCl (wl n ad (E σ)) t.heap) (AD n ad sz)
def QGv {St : Type} (n : Nat) (ad : Nat → Nat) (E : St → Nat → va_E) (D : va_G) (σ : St) (sz : Nat) : Array Value → State → Outcome → State → Prop :=
  va_Qv (fun (_ : Unit) => True) (fun _ t => va_P D vwCl (wl n ad (E σ)) t.heap) (AD n ad sz)
def QGr {St : Type} (n : Nat) (ad : Nat → Nat) (E : St → Nat → va_E) (D : va_G) (r : Nat) (σ : St) (sz : Nat) : Array Value → State → Outcome → State → Prop :=
  va_Qr (fun (_ : Unit) => True) (fun _ a t => a = ad r ∧ va_P D vwCl (wl n ad (E σ)) t.heap) (AD n ad sz)
/-- the tables' part is the same in every state of a run; the statics' part too, while only cells of A change -/
def Kst (K : State → Prop) : Prop := (∀ s U : State, s.WarmedH U.vm → K s → K U) ∧ ∀ u U : State, u.vm = U.vm → K u → K U
def Zst (Z : (Nat → Prop) → State → Heap → Prop) : Prop := (∀ (A : Nat → Prop) (u U : State) (H : Heap), u.vm.Alike U.vm → Z A u H → Z A U H) ∧ (∀ (A B : Nat → Prop) (U : State) (H : Heap), (∀ q, B q → A q) → Z A U H → Z B U H) ∧ ∀ (A : Nat → Prop) (U : State) (H H1 : Heap), (∀ q : Nat, q < H.size → ¬ A q → H1[q]? = H[q]?) → Z A U H → Z A U H1
section WB
variable {p : Program} {l : Launch} {e : Env} {R : Room} {s : State} {m : MethodId} {args : Array Value} {below : List Frame} {meth : Method} {c : Code} {H : Heap} {locs : List Loc} {Q : State → Prop}
variable {cc : ByteArray} {pc : Nat} {ls : Array Slot} {rest : List Value} {D : va_G} {n : Nat} {ad : Nat → Nat} {St : Type} {E : St → Nat → va_E} {K : State → Prop} {Z : (Nat → Prop) → State → Heap → Prop} {σ σ' : St}
theorem PG_blind (hK : Kst K) (hZ : Zst Z) {av : List Value} {sz : Nat} : FrameBlind (PG n ad E D K Z av σ sz) := by
  intro a U g mk q
  obtain ⟨q0, q1, q2, q3, q4⟩ := q
  exact ⟨q0, q1, q2, hK.2 U (U.calling g mk a) rfl q3, hZ.1 _ U (U.calling g mk a) _ (Vm.Alike.refl U.vm) q4⟩
theorem PG_pre (hK : Kst K) (hZ : Zst Z) {av : List Value} (hKs : K s) (hZs : Z (AD n ad s.heap.size) s s.heap) (hP : va_P D vwCl (wl n ad (E σ)) H) (hS : va_S (AD n ad s.heap.size) s.heap H locs) : ∀ U : State, U.heap = H → s.WarmedH U.vm → PG n ad E D K Z av σ H.size av.toArray U := by
  intro U hU hW
  refine ⟨rfl, by rw [hU], by rw [hU]; exact hP, hK.1 s U hW hKs, ?_⟩
  rw [hU]
  exact hZ.2.1 _ _ _ _ (AD_le hS.1) (hZ.1 _ s U _ hW.alike (hZ.2.2 _ _ _ _ hS.2.1 hZs))
theorem g_preV (hK : Kst K) (hZ : Zst Z) {As : List Value} {k ci : Nat} {q : vw_C} {fs : List Value} {tys : List (ClassId × FieldType)} (hKs : K s) (hZs : Z (AD n ad s.heap.size) s s.heap) (hP : va_P D vwCl (wl n ad (E σ)) H) (hS : va_S (AD n ad s.heap.size) s.heap H locs) (hvK : va_K D vwCl tys s) (hk : k < n) (he : E σ k = .inr (ci, fs)) (hc : vwCl[ci]? = some q) : PreV s H q.1 (ad k) (PG n ad E D K Z (.ref (ad k) :: As) σ H.size) As :=
  ⟨PG_blind hK hZ, va_recv hvK hP hc ((wl_at hk).trans (by rw [he])), PG_pre hK hZ hKs hZs hP hS⟩
theorem g_preS (hK : Kst K) (hZ : Zst Z) {As : List Value} (hKs : K s) (hZs : Z (AD n ad s.heap.size) s s.heap) (hP : va_P D vwCl (wl n ad (E σ)) H) (hS : va_S (AD n ad s.heap.size) s.heap H locs) : PreS s H (PG n ad E D K Z As σ H.size) As :=
  ⟨PG_blind hK hZ, PG_pre hK hZ hKs hZs hP hS⟩
theorem g_calli {st0 : List Value} {a : Array Value} {r : Int32} (hr : va_Run p l e R s m args below meth c H locs 0 0 0 0 (F0 m pc ls st0) rest (QGi n ad E D r σ' H.size a) (AD n ad H.size)) (hS : va_S (AD n ad s.heap.size) s.heap H locs)
    (kk : ∀ (H : Heap) (locs : List Loc), va_P D vwCl (wl n ad (E σ')) H → va_S (AD n ad s.heap.size) s.heap H locs → W p l e R s m args below meth c H locs 0 0 Q (F0 m (pc + 3) ls (.int r :: rest))) : W p l e R s m args below meth c H locs 0 0 Q (F0 m pc ls st0) := by
  refine va_calli hr hS (fun q _ h => AD_le hS.1 q h) (AD_le hS.1) (fun r1 u t H1 locs1 ht hvm hw hB hz hk hS1 => ?_)
  subst hw
  refine kk H1 locs1 ?_ hS1
  rw [← ht]
  exact hB
theorem g_calll {st0 : List Value} {a : Array Value} {r : Int64} (hr : va_Run p l e R s m args below meth c H locs 0 0 0 0 (F0 m pc ls st0) rest (QGl n ad E D r σ' H.size a) (AD n ad H.size)) (hS : va_S (AD n ad s.heap.size) s.heap H locs)
    (kk : ∀ (H : Heap) (locs : List Loc), va_P D vwCl (wl n ad (E σ')) H → va_S (AD n ad s.heap.size) s.heap H locs → W p l e R s m args below meth c H locs 0 0 Q (F0 m (pc + 3) ls (.long r :: rest))) : W p l e R s m args below meth c H locs 0 0 Q (F0 m pc ls st0) := by
  refine va_calll hr hS (fun q _ h => AD_le hS.1 q h) (AD_le hS.1) (fun r1 u t H1 locs1 ht hvm hw hB hz hk hS1 => ?_)
  subst hw
  refine kk H1 locs1 ?_ hS1
  rw [← ht]
  exact hB
theorem g_callv {st0 : List Value} {a : Array Value} (hr : va_Run p l e R s m args below meth c H locs 0 0 0 0 (F0 m pc ls st0) rest (QGv n ad E D σ' H.size a) (AD n ad H.size)) (hS : va_S (AD n ad s.heap.size) s.heap H locs)
    (kk : ∀ (H : Heap) (locs : List Loc), va_P D vwCl (wl n ad (E σ')) H → va_S (AD n ad s.heap.size) s.heap H locs → W p l e R s m args below meth c H locs 0 0 Q (F0 m (pc + 3) ls rest)) : W p l e R s m args below meth c H locs 0 0 Q (F0 m pc ls st0) := by
  refine va_callv hr hS (fun q _ h => AD_le hS.1 q h) (AD_le hS.1) (fun u t H1 locs1 ht hvm hw hB hz hk hS1 => ?_)
  refine kk H1 locs1 ?_ hS1
  rw [← ht]
  exact hB
theorem g_callr {st0 : List Value} {a : Array Value} {r : Nat} (hr : va_Run p l e R s m args below meth c H locs 0 0 0 0 (F0 m pc ls st0) rest (QGr n ad E D r σ' H.size a) (AD n ad H.size)) (hS : va_S (AD n ad s.heap.size) s.heap H locs)
    (kk : ∀ (H : Heap) (locs : List Loc), va_P D vwCl (wl n ad (E σ')) H → va_S (AD n ad s.heap.size) s.heap H locs → W p l e R s m args below meth c H locs 0 0 Q (F0 m (pc + 3) ls (.ref (ad r) :: rest))) : W p l e R s m args below meth c H locs 0 0 Q (F0 m pc ls st0) := by
  refine va_callr hr hS (fun q _ h => AD_le hS.1 q h) (AD_le hS.1) (fun u ra t H1 locs1 ht hvm hw hB hz hk hS1 => ?_)
  obtain ⟨rfl, hB⟩ := hB
  refine kk H1 locs1 ?_ hS1
  rw [← ht]
  exact hB
theorem g_start {y : MethodName} {ws ws' : List Cond} {rm : Room} {maxL : Nat} {ret : Option FieldType} {av : List Value} {sz : Nat} {Qc : Nat → Array Value → State → Outcome → State → Prop} (hy : plainName y.cls = true) (hw : ws = Cond.code y cc maxL ret :: ws') (hlen : (lg_sl av).length ≤ maxL)
    (body : ∀ (p : Program) (e : Env) (s : State) (m : MethodId) (args : Array Value) (below : List Frame) (meth : Method) (c : Code) (H : Heap) (locs : List Loc) (ls : Array Slot), p.tables.exec = Jvm.exec → c.code = cc → meth.sig.returnType = ret → (∀ w ∈ ws, w.before args s = true) → s.vm.findClass y.cls = some m.cls → meth.locks = false → c.maxLocals = maxL → K s → Z (AD n ad s.heap.size) s s.heap →
      va_P D vwCl (wl n ad (E σ)) H → va_S (AD n ad s.heap.size) s.heap H locs → lv_has ls maxL (lv_args 0 av) → W p l e rm s m args below meth c H locs 0 0 (MQ below (Qc s.heap.size) args s 0 0 (AD n ad s.heap.size)) (F0 m 0 ls [])) : Met l y ws rm (PG n ad E D K Z av σ sz) (Qc sz) 0 0 (AD n ad sz) := by
  refine Met.ofW (cc := cc) (maxL := maxL) (ret := ret) hy hw ?_
  intro p e s m args below meth c s₁ B hml hv
  obtain ⟨rfl, hsz, hP, hK, hZ⟩ := hv
  subst hsz
  rw [lg_entry_eq]
  exact body p e s m _ below meth c s.heap [] _ B.exec B.bytes B.returns (atoms_spec (ws := ws) B.pre) (findClass_of_methodNamed B.named) B.notSynchronized hml hK hZ hP va_S.rf (lv_entry av hlen)
theorem g_iret {r v : Int32} (hx : p.tables.exec = Jvm.exec) (hb : c.code = cc) (hr : meth.sig.returnType = some .int) (hlocks : meth.locks = false) (hP : va_P D vwCl (wl n ad (E σ)) H) (hS : va_S (AD n ad s.heap.size) s.heap H locs) (hv : v = r) (hσ : σ = σ') (hdg : decode cc pc = .ok (.ireturn, 1)) : W p l e R s m args below meth c H locs 0 0 (MQ below (QGi n ad E D r σ' s.heap.size) args s 0 0 (AD n ad s.heap.size)) (F0 m pc ls [.int v]) := by
  subst hσ
  exact W.iret hx hb hr (fun t ht hW => ⟨⟨v, (), rfl, hv, by subst ht; exact hP⟩, hS.F ht⟩) hS.2.2 hdg
theorem W.zret2 {cc : ByteArray} {cells slots : Nat} {Qc : Array Value → State → Outcome → State → Prop} {free : Addr → Prop} {v w : Int32} {ty : FieldType} (hexec : p.tables.exec = Jvm.exec) (hb : c.code = cc) (hr : meth.sig.returnType = some ty) (hn : narrow ty (.int v) = .int w)
    (hq : ∀ t : State, t.heap = H → s.WarmedH t.vm → Qc args s (.returned (some (.int w))) t) (hf : ∀ q ∈ locs, free q.base)
    {pc : Nat} {ls : Array Slot} (hdg : decode cc pc = .ok (.ireturn, 1)) (hlocks : meth.locks = false) : W p l e R s m args below meth c H locs cells slots (MQ below Qc args s cells slots free) (F0 m pc ls [.int v]) := by
  intro T hT X
  obtain ⟨fs, hret, hrun, hended, hW, hframe⟩ := X.leave (v := some (.int w)) (fun h => by rw [hr] at h; cases h)
  have hmeth' : T.vm.method? m = some meth := X.method'
  refine ⟨T.setFrames fs, ?_, .returned (some (.int w)), hrun, hended, hq _ hT hW, locs, ⟨⟨_, rfl⟩, hW, hframe⟩, hf⟩
  jvm_step X.here [X.here.top, hexec, hb, hdg, hmeth', hr, hn]
  (try refine ⟨rfl, ?_⟩); (try refine ⟨rfl, ?_⟩)
  first | (intro acts; rw [hret _ acts rfl rfl rfl]) | rw [hret _ _ rfl rfl rfl]
  exact Steps.refl _
theorem g_zret {r v : Int32} (hx : p.tables.exec = Jvm.exec) (hb : c.code = cc) (hr : meth.sig.returnType = some .boolean) (hlocks : meth.locks = false) (hP : va_P D vwCl (wl n ad (E σ)) H) (hS : va_S (AD n ad s.heap.size) s.heap H locs) (hv : v &&& 1 = r) (hσ : σ = σ') (hdg : decode cc pc = .ok (.ireturn, 1)) : W p l e R s m args below meth c H locs 0 0 (MQ below (QGi n ad E D r σ' s.heap.size) args s 0 0 (AD n ad s.heap.size)) (F0 m pc ls [.int v]) := by
  subst hσ
  exact W.zret2 hx hb hr (w := v &&& 1) (by simp [narrow]) (fun t ht hW => ⟨⟨v &&& 1, (), rfl, hv, by subst ht; exact hP⟩, hS.F ht⟩) hS.2.2 hdg hlocks
theorem g_lret {r v : Int64} (hx : p.tables.exec = Jvm.exec) (hb : c.code = cc) (hr : meth.sig.returnType = some .long) (hlocks : meth.locks = false) (hP : va_P D vwCl (wl n ad (E σ)) H) (hS : va_S (AD n ad s.heap.size) s.heap H locs) (hv : v = r) (hσ : σ = σ') (hdg : decode cc pc = .ok (.lreturn, 1)) : W p l e R s m args below meth c H locs 0 0 (MQ below (QGl n ad E D r σ' s.heap.size) args s 0 0 (AD n ad s.heap.size)) (F0 m pc ls [.long v]) := by
  subst hσ
  exact W.lret hx hb hr (fun t ht hW => ⟨⟨v, (), rfl, hv, by subst ht; exact hP⟩, hS.F ht⟩) hS.2.2 hdg
theorem g_vret (hx : p.tables.exec = Jvm.exec) (hb : c.code = cc) (hr : meth.sig.returnType = none) (hlocks : meth.locks = false) (hP : va_P D vwCl (wl n ad (E σ)) H) (hS : va_S (AD n ad s.heap.size) s.heap H locs) (hσ : σ = σ') (hdg : decode cc pc = .ok (.return_, 1)) : W p l e R s m args below meth c H locs 0 0 (MQ below (QGv n ad E D σ' s.heap.size) args s 0 0 (AD n ad s.heap.size)) (F0 m pc ls []) := by
  subst hσ
  exact W.vret hx hb hr (fun t ht hW => ⟨⟨(), rfl, trivial, by subst ht; exact hP⟩, hS.F ht⟩) hS.2.2 hdg
theorem g_aret {k r : Nat} {C : String} (hx : p.tables.exec = Jvm.exec) (hb : c.code = cc) (hr : meth.sig.returnType = some (.object C)) (hlocks : meth.locks = false) (hP : va_P D vwCl (wl n ad (E σ)) H) (hS : va_S (AD n ad s.heap.size) s.heap H locs) (hv : k = r) (hσ : σ = σ') (hdg : decode cc pc = .ok (.areturn, 1)) : W p l e R s m args below meth c H locs 0 0 (MQ below (QGr n ad E D r σ' s.heap.size) args s 0 0 (AD n ad s.heap.size)) (F0 m pc ls [.ref (ad k)]) := by
  subst hσ
  exact W.aret hx hb hr (Or.inl ⟨C, rfl⟩) (Or.inr ⟨_, rfl⟩) (fun t ht hW => ⟨⟨(), ad k, rfl, trivial, by rw [hv], by subst ht; exact hP⟩, hS.F ht⟩) hS.2.2 hdg
/-- names for what lies on top of the stack -/
theorem nm_i {cells slots : Nat} {x y : Int32} (h : y = x) (k : W p l e R s m args below meth c H locs cells slots Q (F0 m pc ls (.int y :: rest))) : W p l e R s m args below meth c H locs cells slots Q (F0 m pc ls (.int x :: rest)) := by rw [← h]; exact k
theorem nm_l {cells slots : Nat} {x y : Int64} (h : y = x) (k : W p l e R s m args below meth c H locs cells slots Q (F0 m pc ls (.long y :: rest))) : W p l e R s m args below meth c H locs cells slots Q (F0 m pc ls (.long x :: rest)) := by rw [← h]; exact k
end WB

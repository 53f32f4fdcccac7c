def fKl : Nat → Value := fun j => .int (([119, 102, 98, 109, 115] : List Int32).getD j 0)
def fCo : Nat → Value := fun j => .int (([25, 11, 27, 1] : List Int32).getD j 0)
def kl (i : Int32) : Int32 := ([119, 102, 98, 109, 115] : List Int32).getD i.toNatClampNeg 0
def co (i : Int32) : Int32 := ([25, 11, 27, 1] : List Int32).getD i.toNatClampNeg 0
abbrev cP (D : va_G) (ad : Nat → Nat) (cI cW : ClassId) (σ : Nat → Nat → Int32) (H : Heap) : Prop := va_P D vwCl (wl 83 ad (ec ad cI cW σ)) H
abbrev cS (ad : Nat → Nat) (s : State) (H : Heap) (locs : List Loc) : Prop := va_S (AD 83 ad s.heap.size) s.heap H locs
def KC (D : va_G) (cI cW : ClassId) (U : State) : Prop := va_K D vwCl [(cI, .int), (cW, .object "WitnessWall$Witness")] U ∧ ∀ w ∈ nwC, va_Nw w U
def ZC (tK tC : Nat) (A : Nat → Prop) (U : State) (H : Heap) : Prop := va_Z "WitnessWall" "KIND_LETTERS" "[C" (.ref tK) A U H ∧ va_T .char tK 5 fKl A U H ∧ va_Z "WitnessWall" "COULD" "[I" (.ref tC) A U H ∧ va_T .int tC 4 fCo A U H
theorem KC_st {D : va_G} {cI cW : ClassId} : Kst (KC D cI cW) :=
  ⟨fun s U hW h => ⟨va_K.moved hW.alike h.1, fun w hw => nw_warm (List.all_eq_true.mp nwC_all w hw) hW (h.2 w hw)⟩, fun u U he h => ⟨va_K.moved (by rw [he]; exact Vm.Alike.refl _) h.1, fun w hw => va_Nw.same (nw_on (List.all_eq_true.mp nwC_all w hw)) he (h.2 w hw)⟩⟩
theorem ZC_st {tK tC : Nat} : Zst (ZC tK tC) :=
  ⟨fun A u U H hv h => ⟨h.1.moved hv, h.2.1.moved hv, h.2.2.1.moved hv, h.2.2.2.moved hv⟩, fun A B U H hAB h => ⟨h.1.narrow hAB, h.2.1.narrow hAB, h.2.2.1.narrow hAB, h.2.2.2.narrow hAB⟩, fun A U H H1 hq h => ⟨h.1.kept hq, h.2.1.kept hq, h.2.2.1.kept hq, h.2.2.2.kept hq⟩⟩
section CR
variable {p : Program} {l : Launch} {e : Env} {R : Room} {s : State} {m : MethodId} {args : Array Value} {below : List Frame} {meth : Method} {c : Code} {H : Heap} {locs : List Loc} {Q : State → Prop}
variable {cc : ByteArray} {pc : Nat} {ls : Array Slot} {rest : List Value} {D : va_G} {ad : Nat → Nat} {cI cW : ClassId} {tK tC : Nat} {σ : Nat → Nat → Int32}
theorem ec_o {k ci : Nat} {fs : (Nat → Int32) → List Value} (h : oC ad cI cW k ci fs) : ec ad cI cW σ k = .inr (ci, fs (σ k)) := h.2 _
theorem ec_up {k j : Nat} {x : Int32} : ec ad cI cW (up2 σ k j x) k = SHC ad cI cW k (upd (σ k) j x) := by simp [ec, up2, va_up]
theorem ec_ne {i k j : Nat} {x : Int32} (h : i ≠ k) : ec ad cI cW (up2 σ k j x) i = ec ad cI cW σ i := by simp [ec, up2, va_up, h]
theorem c_get (hx : p.tables.exec = Jvm.exec) (hb : c.code = cc) {own ref C : String} {T : u_T} {N ci index : Nat} {Ts : List Cond} (hts : ∀ w ∈ Ts, w.before args s = true) (hin : ∀ w ∈ u_ws C T N, w ∈ Ts) (hown : s.vm.findClass own = some m.cls) (hK : KC D cI cW s) (hP : va_P D vwCl (wl 83 ad (ec ad cI cW σ)) H) {k : Nat} {fs : (Nat → Int32) → List Value} (ho : oC ad cI cW k ci fs) (hc : vwCl[ci]? = some (C, T, N)) (j : Nat) (hj : j < N) (hlink : (Cond.fieldLink own index ref (T j).2.1 (T j).2.2.1).before args s = true) (hsame : ∀ x, s.fieldFound? (T j).1 (T j).2.1 (T j).2.2.1 = some x → s.fieldFound? ref (T j).2.1 (T j).2.2.1 = some x) {v : Value} (hv : (fs (σ k))[j]? = some v) (hdg : decode cc pc = .ok (.getfield index, 3))
    (kk : W p l e R s m args below meth c H locs 0 0 Q (F0 m (pc + 3) ls (v :: rest))) : W p l e R s m args below meth c H locs 0 0 Q (F0 m pc ls (.ref (ad k) :: rest)) :=
  va_get hx hb hts hin hown hK.1 hP k ((wl_at ho.1).trans (by rw [ec_o ho])) hc j hj hlink hsame hv hdg kk
theorem c_getN (hx : p.tables.exec = Jvm.exec) (hb : c.code = cc) {own ref C host : String} {T : u_T} {N ci index : Nat} {Ts : List Cond} (hts : ∀ w ∈ Ts, w.before args s = true) (hin : ∀ w ∈ u_ws C T N, w ∈ Ts) (hown : s.vm.findClass own = some m.cls) (hK : KC D cI cW s) (hP : va_P D vwCl (wl 83 ad (ec ad cI cW σ)) H) {k : Nat} {fs : (Nat → Int32) → List Value} (ho : oC ad cI cW k ci fs) (hc : vwCl[ci]? = some (C, T, N)) (j : Nat) (hj : j < N) (hlink : Cond.fieldLinkNest own index ref (T j).2.1 (T j).2.2.1 host ∈ nwC) (hsame : ∀ x, s.fieldFound? (T j).1 (T j).2.1 (T j).2.2.1 = some x → s.fieldFound? ref (T j).2.1 (T j).2.2.1 = some x) {v : Value} (hv : (fs (σ k))[j]? = some v) (hdg : decode cc pc = .ok (.getfield index, 3))
    (kk : W p l e R s m args below meth c H locs 0 0 Q (F0 m (pc + 3) ls (v :: rest))) : W p l e R s m args below meth c H locs 0 0 Q (F0 m pc ls (.ref (ad k) :: rest)) :=
  va_getN hx hb hts hin hown hK.1 hP k ((wl_at ho.1).trans (by rw [ec_o ho])) hc j hj (va_Nw.use rfl (hK.2 _ hlink)) hsame hv hdg kk
theorem c_put (hij : inj 83 ad) (hx : p.tables.exec = Jvm.exec) (hb : c.code = cc) {own ref C : String} {T : u_T} {N ci index : Nat} {Ts : List Cond} (hts : ∀ w ∈ Ts, w.before args s = true) (hin : ∀ w ∈ u_ws C T N, w ∈ Ts) (ty0 : Nat → FieldType) (hty : ∀ k, k < N → parseFieldDescriptor (T k).2.2.1 = some (ty0 k)) (hnm : ∀ a, a < N → ∀ b, b < N → a ≠ b → (T a).2.1 ≠ (T b).2.1) (hown : s.vm.findClass own = some m.cls) (hK : KC D cI cW s) (hP : va_P D vwCl (wl 83 ad (ec ad cI cW σ)) H) (hS : va_S (AD 83 ad s.heap.size) s.heap H locs) {k : Nat} {fs : (Nat → Int32) → List Value} (ho : oC ad cI cW k ci fs) (hc : vwCl[ci]? = some (C, T, N)) (j : Nat) (hj : j < N) (hlink : (Cond.fieldLink own index ref (T j).2.1 (T j).2.2.1).before args s = true) (hsame : ∀ x, s.fieldFound? (T j).1 (T j).2.1 (T j).2.2.1 = some x → s.fieldFound? ref (T j).2.1 (T j).2.2.1 = some x) (hfin : (T j).2.2.2 = false) {x : Int32} (hn : narrow (ty0 j) (.int x) = .int x) (hfit : fits (ty0 j) (.int x) = true) (hl : ∀ v, j < (fs v).length) (hset : ∀ v, (fs v).set j (.int x) = fs (upd v j x))
    (hdg : decode cc pc = .ok (.putfield index, 3)) (kk : ∀ (H : Heap) (locs : List Loc), va_P D vwCl (wl 83 ad (ec ad cI cW (up2 σ k j x))) H → va_S (AD 83 ad s.heap.size) s.heap H locs → W p l e R s m args below meth c H locs 0 0 Q (F0 m (pc + 3) ls rest)) : W p l e R s m args below meth c H locs 0 0 Q (F0 m pc ls (.int x :: .ref (ad k) :: rest)) := by
  refine va_put hx hb hts hin ty0 hty hnm hown hK.1 hP (wl_D hij) hS k ((wl_at ho.1).trans (by rw [ec_o ho])) hc j hj hlink hsame hfin (hty j hj) hn hfit (hl _) hdg (fun H1 locs1 hP1 _ hS1 => kk H1 locs1 ?_ hS1)
  rw [wl_set (E' := ec ad cI cW (up2 σ k j x)) (by rw [ec_up, ho.2, hset]) (fun i hi => ec_ne hi)] at hP1
  exact hP1
theorem c_putN (hij : inj 83 ad) (hx : p.tables.exec = Jvm.exec) (hb : c.code = cc) {own ref C host : String} {T : u_T} {N ci index : Nat} {Ts : List Cond} (hts : ∀ w ∈ Ts, w.before args s = true) (hin : ∀ w ∈ u_ws C T N, w ∈ Ts) (ty0 : Nat → FieldType) (hty : ∀ k, k < N → parseFieldDescriptor (T k).2.2.1 = some (ty0 k)) (hnm : ∀ a, a < N → ∀ b, b < N → a ≠ b → (T a).2.1 ≠ (T b).2.1) (hown : s.vm.findClass own = some m.cls) (hK : KC D cI cW s) (hP : va_P D vwCl (wl 83 ad (ec ad cI cW σ)) H) (hS : va_S (AD 83 ad s.heap.size) s.heap H locs) {k : Nat} {fs : (Nat → Int32) → List Value} (ho : oC ad cI cW k ci fs) (hc : vwCl[ci]? = some (C, T, N)) (j : Nat) (hj : j < N) (hlink : Cond.fieldLinkNest own index ref (T j).2.1 (T j).2.2.1 host ∈ nwC) (hsame : ∀ x, s.fieldFound? (T j).1 (T j).2.1 (T j).2.2.1 = some x → s.fieldFound? ref (T j).2.1 (T j).2.2.1 = some x) (hfin : (T j).2.2.2 = false) {x : Int32} (hn : narrow (ty0 j) (.int x) = .int x) (hfit : fits (ty0 j) (.int x) = true) (hl : ∀ v, j < (fs v).length) (hset : ∀ v, (fs v).set j (.int x) = fs (upd v j x))
    (hdg : decode cc pc = .ok (.putfield index, 3)) (kk : ∀ (H : Heap) (locs : List Loc), va_P D vwCl (wl 83 ad (ec ad cI cW (up2 σ k j x))) H → va_S (AD 83 ad s.heap.size) s.heap H locs → W p l e R s m args below meth c H locs 0 0 Q (F0 m (pc + 3) ls rest)) : W p l e R s m args below meth c H locs 0 0 Q (F0 m pc ls (.int x :: .ref (ad k) :: rest)) := by
  refine va_putN hx hb hts hin ty0 hty hnm hown hK.1 hP (wl_D hij) hS k ((wl_at ho.1).trans (by rw [ec_o ho])) hc j hj (va_Nw.use rfl (hK.2 _ hlink)) hsame hfin (hty j hj) hn hfit (hl _) hdg (fun H1 locs1 hP1 _ hS1 => kk H1 locs1 ?_ hS1)
  rw [wl_set (E' := ec ad cI cW (up2 σ k j x)) (by rw [ec_up, ho.2, hset]) (fun i hi => ec_ne hi)] at hP1
  exact hP1
theorem c_iald (hx : p.tables.exec = Jvm.exec) (hb : c.code = cc) (hK : KC D cI cW s) (hP : va_P D vwCl (wl 83 ad (ec ad cI cW σ)) H) {k n : Nat} (ha : aC ad cI cW k n) {i : Int32} (hin : inb i n = true) (hdg : decode cc pc = .ok (.iaload, 1))
    (kk : W p l e R s m args below meth c H locs 0 0 Q (F0 m (pc + 1) ls (.int (σ k i.toNatClampNeg) :: rest))) : W p l e R s m args below meth c H locs 0 0 Q (F0 m pc ls (.int i :: .ref (ad k) :: rest)) :=
  va_iald hx hb hK.1 hP k 0 ((wl_at ha.1).trans (by rw [show ec ad cI cW σ k = _ from ha.2 _])) rfl (st_in hin) hdg kk
theorem c_iast (hij : inj 83 ad) (hx : p.tables.exec = Jvm.exec) (hb : c.code = cc) (hK : KC D cI cW s) (hP : va_P D vwCl (wl 83 ad (ec ad cI cW σ)) H) (hS : va_S (AD 83 ad s.heap.size) s.heap H locs) {k n : Nat} (ha : aC ad cI cW k n) {i x : Int32} (hin : inb i n = true) (hdg : decode cc pc = .ok (.iastore, 1))
    (kk : ∀ (H : Heap) (locs : List Loc), va_P D vwCl (wl 83 ad (ec ad cI cW (up2 σ k i.toNatClampNeg x))) H → va_S (AD 83 ad s.heap.size) s.heap H locs → W p l e R s m args below meth c H locs 0 0 Q (F0 m (pc + 1) ls rest)) : W p l e R s m args below meth c H locs 0 0 Q (F0 m pc ls (.int x :: .int i :: .ref (ad k) :: rest)) := by
  refine va_iast hx hb hK.1 hP (wl_D hij) hS k 0 ((wl_at ha.1).trans (by rw [show ec ad cI cW σ k = _ from ha.2 _])) rfl (st_in hin) hdg (fun H1 locs1 hP1 _ hS1 => kk H1 locs1 ?_ hS1)
  rw [wl_set (E' := ec ad cI cW (up2 σ k i.toNatClampNeg x)) (by rw [ec_up, ha.2]) (fun i hi => ec_ne hi)] at hP1
  exact hP1
theorem c_aald (hx : p.tables.exec = Jvm.exec) (hb : c.code = cc) (hK : KC D cI cW s) (hP : va_P D vwCl (wl 83 ad (ec ad cI cW σ)) H) {k b : Nat} (ha : rC ad cI cW k b) {i : Int32} (hin : inb i 5 = true) (hdg : decode cc pc = .ok (.aaload, 1))
    (kk : W p l e R s m args below meth c H locs 0 0 Q (F0 m (pc + 1) ls (.ref (ad (b + 2 * i.toNatClampNeg)) :: rest))) : W p l e R s m args below meth c H locs 0 0 Q (F0 m pc ls (.int i :: .ref (ad k) :: rest)) :=
  va_aldq (f := fun i => some (ad (b + 2 * i))) hx hb hK.1 hP k 1 ((wl_at ha.1).trans (by rw [show ec ad cI cW σ k = _ from ha.2 _])) rfl (st_in hin) hdg kk
theorem c_kl (hx : p.tables.exec = Jvm.exec) (hb : c.code = cc) (hZ : ZC tK tC (AD 83 ad s.heap.size) s s.heap) (hS : va_S (AD 83 ad s.heap.size) s.heap H locs) {i : Int32} (hin : inb i 5 = true) (hdg : decode cc pc = .ok (.caload, 1))
    (kk : W p l e R s m args below meth c H locs 0 0 Q (F0 m (pc + 1) ls (.int (kl i) :: rest))) : W p l e R s m args below meth c H locs 0 0 Q (F0 m pc ls (.int i :: .ref tK :: rest)) :=
  va_tc hx hb hZ.2.1 hS (st_in hin) rfl hdg kk
theorem c_co (hx : p.tables.exec = Jvm.exec) (hb : c.code = cc) (hZ : ZC tK tC (AD 83 ad s.heap.size) s s.heap) (hS : va_S (AD 83 ad s.heap.size) s.heap H locs) {i : Int32} (hin : inb i 4 = true) (hdg : decode cc pc = .ok (.iaload, 1))
    (kk : W p l e R s m args below meth c H locs 0 0 Q (F0 m (pc + 1) ls (.int (co i) :: rest))) : W p l e R s m args below meth c H locs 0 0 Q (F0 m pc ls (.int i :: .ref tC :: rest)) :=
  va_ti hx hb hZ.2.2.2 hS (st_in hin) rfl hdg kk
end CR
-- ===== words of a method: its own code, and all good words of the tables =====
def wz (y : MethodName) (c : ByteArray) (n : Nat) (r : Option FieldType) : List Cond := .code y c n r :: TG
theorem wz_m {y : MethodName} {c : ByteArray} {n : Nat} {r : Option FieldType} {w : Cond} (h : w ∈ TG) : w ∈ wz y c n r := List.mem_cons_of_mem _ h
theorem TG_good {w : Cond} (h : w ∈ TG) : goodWord w = true := (List.mem_filter.mp h).2
theorem wz_good {y : MethodName} {c : ByteArray} {n : Nat} {r : Option FieldType} {y' : MethodName} {c' : ByteArray} {n' : Nat} {r' : Option FieldType} (h : Cond.code y' c' n' r' ∈ TG) : GoodIn (wz y c n r) (wz y' c' n' r') := by
  intro w hw
  rcases List.mem_cons.mp hw with rfl | hw
  · exact ⟨wz_m h, good_of_word (TG_good h)⟩
  · exact ⟨wz_m hw, good_of_word (TG_good hw)⟩
theorem wz_V {y : MethodName} {c : ByteArray} {n : Nat} {r : Option FieldType} {own C : String} {idx : Nat} {y' : MethodName} {c' : ByteArray} {n' : Nat} {r' : Option FieldType} (h1 : Cond.methodLink own idx y' ∈ TG) (h2 : Cond.instanceMethod y' ∈ TG) (h3 : Cond.selects C y' y' ∈ TG) (h4 : Cond.initialized C ∈ TG) (h : Cond.code y' c' n' r' ∈ TG) : GoodIn (wz y c n r) (wsV own idx C y' (wz y' c' n' r')) := by
  intro w hw
  rcases List.mem_append.mp hw with hw | hw
  · have hT : w ∈ TG := by
      simp only [List.mem_cons, List.not_mem_nil, or_false] at hw
      rcases hw with rfl | rfl | rfl | rfl
      · exact h1
      · exact h2
      · exact h3
      · exact h4
    exact ⟨wz_m hT, good_of_word (TG_good hT)⟩
  · exact wz_good h w hw
theorem wz_S {y : MethodName} {c : ByteArray} {n : Nat} {r : Option FieldType} {own : String} {idx : Nat} {y' : MethodName} {c' : ByteArray} {n' : Nat} {r' : Option FieldType} (h1 : Cond.methodLink own idx y' ∈ TG) (h2 : Cond.static y' ∈ TG) (h4 : Cond.initialized y'.cls ∈ TG) (h : Cond.code y' c' n' r' ∈ TG) : GoodIn (wz y c n r) (va_wsS own idx y' (wz y' c' n' r')) := by
  intro w hw
  rcases List.mem_append.mp hw with hw | hw
  · have hT : w ∈ TG := by
      simp only [List.mem_cons, List.not_mem_nil, or_false] at hw
      rcases hw with rfl | rfl | rfl
      · exact h1
      · exact h2
      · exact h4
    exact ⟨wz_m hT, good_of_word (TG_good hT)⟩
  · exact wz_good h w hw

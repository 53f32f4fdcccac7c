/-! constructors: cells that come one by one; a made part of the world is a row of cells with its own addresses -/
def KI (D : va_G) (cI cW : ClassId) (U : State) : Prop := va_K D vwCl [(cI, .int), (cW, .object "WitnessWall$Witness")] U ∧ (∀ w ∈ nwC, va_Nw w U) ∧ va_AO "WitnessWall$Witness" U
theorem KI_st {D : va_G} {cI cW : ClassId} : Kst (KI D cI cW) :=
  ⟨fun s U hW h => ⟨va_K.moved hW.alike h.1, fun w hw => nw_warm (List.all_eq_true.mp nwC_all w hw) hW (h.2.1 w hw), h.2.2.moved hW.alike⟩, fun u U he h => ⟨va_K.moved (by rw [he]; exact Vm.Alike.refl _) h.1, fun w hw => va_Nw.same (nw_on (List.all_eq_true.mp nwC_all w hw)) he (h.2.1 w hw), h.2.2.moved (by rw [he]; exact Vm.Alike.refl _)⟩⟩
def AI (h0 sz : Nat) : Nat → Prop := fun q => q = h0 ∨ sz ≤ q
def PI (D : va_G) (K : State → Prop) (h0 : Nat) (e0 : va_E) (sz : Nat) : Array Value → State → Prop :=
  va_Pc [.ref h0] (fun U => U.heap.size = sz ∧ va_P D vwCl [(h0, e0)] U.heap ∧ K U)
def QI (n : Nat) (E : (Nat → Nat) → Nat → va_E) (D : va_G) (h0 sz : Nat) : Array Value → State → Outcome → State → Prop :=
  va_Qv (fun (u : Nat → Nat) => u 0 = h0) (fun u t => va_P D vwCl (wl n u (E u)) t.heap ∧ va_D (AI h0 sz) (wl n u (E u))) (AI h0 sz)
def zE (sh : List SF) (k : Nat) : va_E := (sh.getD k (fun _ => .inr (0, []))) (fun _ => 0)
theorem va_P_left {D : va_G} {cl : List vw_C} {w1 w2 : va_W} {H : Heap} (h : va_P D cl (w1 ++ w2) H) : va_P D cl w1 H := fun k q hk => h k q (by rw [List.getElem?_append_left (List.getElem?_eq_some_iff.mp hk).1]; exact hk)
theorem va_P_right {D : va_G} {cl : List vw_C} {w1 w2 : va_W} {H : Heap} (h : va_P D cl (w1 ++ w2) H) : va_P D cl w2 H := fun k q hk => h (w1.length + k) q (by rw [List.getElem?_append_right (Nat.le_add_right _ _), Nat.add_sub_cancel_left]; exact hk)
theorem gw_last {w1 : va_W} {n : Nat} {u : Nat → Nat} {E : Nat → va_E} {k : Nat} (a : Nat) (ha : w1.length = a) (h1 : a ≤ k) (h2 : k < a + n) : (w1 ++ wl n u E)[k]? = some (u (k - a), E (k - a)) := by
  rw [List.getElem?_append_right (by omega), ha]
  exact wl_at (by omega)
theorem gw_init {w1 w2 : va_W} {k : Nat} {x : Nat × va_E} (h : w1[k]? = some x) : (w1 ++ w2)[k]? = some x := by
  rw [List.getElem?_append_left (List.getElem?_eq_some_iff.mp h).1]
  exact h
theorem z_fin {D : va_G} {cl : List vw_C} {A : Nat → Prop} {world : va_W} {H : Heap} {n : Nat} {u : Nat → Nat} {E : Nat → va_E} (hw : ∀ k, k < n → ∃ e, world[k]? = some (u k, e) ∧ (va_at D cl (u k, e) H → va_at D cl (u k, E k) H)) (hP : va_P D cl world H) (hD : va_D A world) : va_P D cl (wl n u E) H ∧ va_D A (wl n u E) := by
  refine ⟨fun k q hk => ?_, fun i j x y hi hj hxy => ?_, fun k q hk => ?_⟩
  · obtain ⟨h1, rfl⟩ := wl_get hk
    obtain ⟨e, he, hf⟩ := hw k h1
    exact hf (hP k _ he)
  · obtain ⟨h1, rfl⟩ := wl_get hi
    obtain ⟨h2, rfl⟩ := wl_get hj
    obtain ⟨e1, g1, -⟩ := hw i h1
    obtain ⟨e2, g2, -⟩ := hw j h2
    exact hD.1 i j _ _ g1 g2 hxy
  · obtain ⟨h1, rfl⟩ := wl_get hk
    obtain ⟨e1, g1, -⟩ := hw k h1
    exact hD.2 k (u k, e1) g1
theorem at_ref {D : va_G} {cl : List vw_C} {a n : Nat} {cA : ClassId} {f g : Nat → Option Nat} {H : Heap} (h : va_at D cl (a, .inl (cA, n, .inr (.inr (.inr (.inr f))))) H) (hf : ∀ i, i < n → f i = g i) : va_at D cl (a, .inl (cA, n, .inr (.inr (.inr (.inr g))))) H := by
  have e : (vp_cell cA (n, .inr (.inr (.inr (.inr f)))) : Cell) = vp_cell cA (n, .inr (.inr (.inr (.inr g)))) := by
    have e2 : (fun (j : Fin n) => va_rf (f j.val)) = fun j => va_rf (g j.val) := by
      funext j
      rw [hf j.val j.isLt]
    exact congrArg (fun z => ({ cls := cA, slots := Array.ofFn z, vm := .none } : Cell)) e2
  show H[a]? = some _
  rw [← e]
  exact h
theorem same_cA {D : va_G} {cl : List vw_C} {s : State} {tys : List (ClassId × FieldType)} {cA cB : ClassId} {ty : FieldType} (hK : va_K D cl tys s) {i j : Nat} (h1 : tys[i]? = some (cA, ty)) (h2 : tys[j]? = some (cB, ty)) : cB = cA := by
  have a1 := (hK.2 i _ h1).2
  have a2 := (hK.2 j _ h2).2
  cases ty with
  | object C =>
    obtain ⟨_, _, _, _, _, e1⟩ := a1
    obtain ⟨_, _, _, _, _, e2⟩ := a2
    exact Option.some.inj (e2.symm.trans e1)
  | _ => exact Option.some.inj (Eq.trans (Eq.symm a2) a1)
section CT
variable {p : Program} {l : Launch} {e : Env} {R : Room} {s : State} {m : MethodId} {args : Array Value} {below : List Frame} {meth : Method} {c : Code} {H : Heap} {locs : List Loc} {Q : State → Prop} {cells slots mc ms : Nat}
variable {cc : ByteArray} {pc : Nat} {ls : Array Slot} {rest : List Value} {D : va_G} {K : State → Prop}
theorem i_start {y : MethodName} {ws ws' : List Cond} {rm : Room} {maxL : Nat} {h0 : Nat} {e0 : va_E} {sz : Nat} {Qc : Nat → Array Value → State → Outcome → State → Prop} (hy : plainName y.cls = true) (hn : y.name = "<init>") (hw : ws = Cond.code y cc maxL none :: ws') (hlen : 1 ≤ maxL)
    (body : ∀ (p : Program) (e : Env) (s : State) (m : MethodId) (args : Array Value) (below : List Frame) (meth : Method) (c : Code) (H : Heap) (locs : List Loc) (ls : Array Slot), p.tables.exec = Jvm.exec → c.code = cc → meth.sig.returnType = none → (∀ w ∈ ws, w.before args s = true) → s.vm.findClass y.cls = some m.cls → meth.locks = false → c.maxLocals = maxL → meth.name = "<init>" → K s →
      va_P D vwCl [(h0, e0)] H → va_D (AI h0 s.heap.size) [(h0, e0)] → va_S (AI h0 s.heap.size) s.heap H locs → (∀ q, s.heap.size ≤ q → AI h0 s.heap.size q) → lv_has ls maxL [(0, .ref h0)] → W p l e rm s m args below meth c H locs 0 0 (MQ below (Qc s.heap.size) args s mc ms (AI h0 s.heap.size)) (F0 m 0 ls [])) : Met l y ws rm (PI D K h0 e0 sz) (Qc sz) mc ms (AI h0 sz) := by
  refine Met.ofW (cc := cc) (maxL := maxL) (ret := none) hy hw ?_
  intro p e s m args below meth c s₁ B hml hv
  obtain ⟨rfl, hsz, hP, hK⟩ := hv
  subst hsz
  rw [lg_entry_eq]
  refine body p e s m _ below meth c s.heap [] _ B.exec B.bytes B.returns (atoms_spec (ws := ws) B.pre) (findClass_of_methodNamed B.named) B.notSynchronized hml ((name_of_methodNamed B.named B.method).1.trans hn) hK hP ⟨fun i j x y hi hj _ => ?_, fun k q hk => ?_⟩ va_S.rf (fun q h => Or.inr h) (lv_entry [.ref h0] hlen)
  · have h1 := (List.getElem?_eq_some_iff.mp hi).1
    have h2 := (List.getElem?_eq_some_iff.mp hj).1
    simp at h1 h2
    omega
  · have h1 := (List.getElem?_eq_some_iff.mp hk).1
    simp at h1
    subst h1
    cases hk
    exact Or.inl rfl
theorem i_ret {n h0 : Nat} {E : (Nat → Nat) → Nat → va_E} {world : va_W} (u : Nat → Nat) (hu : u 0 = h0) (hx : p.tables.exec = Jvm.exec) (hb : c.code = cc) (hr : meth.sig.returnType = none) (hlocks : meth.locks = false) (hP : va_P D vwCl world H) (hD : va_D (AI h0 s.heap.size) world) (hS : va_S (AI h0 s.heap.size) s.heap H locs) (hw : ∀ k, k < n → ∃ e, world[k]? = some (u k, e) ∧ (va_at D vwCl (u k, e) H → va_at D vwCl (u k, E u k) H)) (hdg : decode cc pc = .ok (.return_, 1)) : W p l e R s m args below meth c H locs mc ms (MQ below (QI n E D h0 s.heap.size) args s mc ms (AI h0 s.heap.size)) (F0 m pc ls []) := by
  obtain ⟨h1, h2⟩ := z_fin hw hP hD
  exact W.vret hx hb hr (fun t ht hW => ⟨⟨u, rfl, hu, by subst ht; exact h1, h2⟩, hS.F ht⟩) hS.2.2 hdg
theorem i_pre (hK : Kst K) {q : Nat} {e0 : va_E} (hKs : K s) {w1 : va_W} (hP : va_P D vwCl (w1 ++ [(q, e0)]) H) : PreS s H (PI D K q e0 H.size) [.ref q] := by
  refine ⟨fun a U g mk z => ?_, fun U hU hW => ⟨rfl, by rw [hU], by rw [hU]; exact va_P_right hP, hK.1 s U hW hKs⟩⟩
  obtain ⟨z0, z1, z2, z3⟩ := z
  exact ⟨z0, z1, z2, hK.2 U (U.calling g mk a) rfl z3⟩
theorem i_call {A : Nat → Prop} {w1 : va_W} {q n : Nat} {e0 : va_E} {E : (Nat → Nat) → Nat → va_E} {a : Array Value} {st0 : List Value} {mc ms : Nat} (hr : va_Run p l e R s m args below meth c H locs cells slots mc ms (F0 m pc ls st0) rest (QI n E D q H.size a) (AI q H.size)) (hP : va_P D vwCl (w1 ++ [(q, e0)]) H) (hD : va_D A (w1 ++ [(q, e0)])) (hS : va_S A s.heap H locs) (hA : ∀ q, s.heap.size ≤ q → A q)
    (kk : ∀ (u : Nat → Nat) (H : Heap) (locs : List Loc), u 0 = q → va_P D vwCl (w1 ++ wl n u (E u)) H → va_D A (w1 ++ wl n u (E u)) → va_S A s.heap H locs → W p l e R s m args below meth c H locs (cells + mc) (slots + ms) Q (F0 m (pc + 3) ls rest)) : W p l e R s m args below meth c H locs cells slots Q (F0 m pc ls st0) := by
  have hq : (w1 ++ [(q, e0)])[w1.length]? = some (q, e0) := by simp
  have hqA : A q := hD.2 _ _ hq
  have hsub : ∀ z, AI q H.size z → A z := by
    intro z hz
    rcases hz with rfl | hz
    · exact hqA
    · exact hA z (Nat.le_trans hS.1 hz)
  have hin : ∀ (k : Nat) (x : Nat × va_E), w1[k]? = some x → x.1 < H.size ∧ ¬ AI q H.size x.1 := by
    intro k x hk
    have hl := (List.getElem?_eq_some_iff.mp hk).1
    have hk2 : (w1 ++ [(q, e0)])[k]? = some x := by rw [List.getElem?_append_left hl]; exact hk
    have h1 := (hP k x hk2).lt
    refine ⟨h1, fun hz => ?_⟩
    rcases hz with hz | hz
    · have := hD.1 k w1.length x (q, e0) hk2 hq hz
      omega
    · omega
  refine va_callv hr hS (fun z _ h => hsub z h) hsub (fun u t H1 locs1 ht hvm hw hB hz hk hS1 => ?_)
  obtain ⟨hP1, hD1⟩ := hB
  rw [ht] at hP1
  refine kk u H1 locs1 hw (va_P.app (fun k x hx => ?_) hP1) (va_D.app ⟨fun i j x y hi hj hxy => ?_, fun k x hx => ?_⟩ (hD1.weaken (fun k x _ h => hsub x.1 h)) (fun i j x y hx hy hxy => ?_)) hS1
  · have hl := (List.getElem?_eq_some_iff.mp hx).1
    have hx2 : (w1 ++ [(q, e0)])[k]? = some x := by rw [List.getElem?_append_left hl]; exact hx
    obtain ⟨g1, g2⟩ := hin k x hx
    exact (hP k x hx2).kept (hk x.1 g1 g2)
  · have h1 := (List.getElem?_eq_some_iff.mp hi).1
    have h2 := (List.getElem?_eq_some_iff.mp hj).1
    exact hD.1 i j x y (by rw [List.getElem?_append_left h1]; exact hi) (by rw [List.getElem?_append_left h2]; exact hj) hxy
  · have h1 := (List.getElem?_eq_some_iff.mp hx).1
    exact hD.2 k x (by rw [List.getElem?_append_left h1]; exact hx)
  · exact (hin i x hx).2 (by rw [hxy]; exact hD1.2 j y hy)
end CT

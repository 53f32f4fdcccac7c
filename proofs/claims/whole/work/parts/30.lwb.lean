
-- ===== the law's words: the whole table =====
theorem TG_sub {w : Cond} (h : w ∈ TG) : w ∈ lw_tbl := (List.mem_filter.mp h).1
theorem lt_good {y' : MethodName} {c' : ByteArray} {n' : Nat} {r' : Option FieldType} (h : Cond.code y' c' n' r' ∈ TG) : GoodIn lw_tbl (wz y' c' n' r') := by
  intro w hw
  rcases List.mem_cons.mp hw with rfl | hw
  · exact ⟨TG_sub h, good_of_word (TG_good h)⟩
  · exact ⟨TG_sub hw, good_of_word (TG_good hw)⟩
theorem lt_V {own C : String} {idx : Nat} {y' : MethodName} {c' : ByteArray} {n' : Nat} {r' : Option FieldType} (h1 : Cond.methodLink own idx y' ∈ TG) (h2 : Cond.instanceMethod y' ∈ TG) (h3 : Cond.selects C y' y' ∈ TG) (h4 : Cond.initialized C ∈ TG) (h : Cond.code y' c' n' r' ∈ TG) : GoodIn lw_tbl (wsV own idx C y' (wz y' c' n' r')) := by
  intro w hw
  rcases List.mem_append.mp hw with hw | hw
  · have hT : w ∈ TG := by
      simp only [List.mem_cons, List.not_mem_nil, or_false] at hw
      rcases hw with rfl | rfl | rfl | rfl
      · exact h1
      · exact h2
      · exact h3
      · exact h4
    exact ⟨TG_sub hT, good_of_word (TG_good hT)⟩
  · exact lt_good h w hw
def R_law : String := "WitnessWallLaw"
def AL (s : State) : Nat → Prop := fun q => s.heap.size ≤ q
/-- what stays through the law: where the two objects' cells lie, the tables, the statics -/
def LG (s : State) (D : va_G) (ad1 ad2 : Nat → Nat) (cI cW cB : ClassId) (tK tC : Nat) : Prop :=
  inj 83 ad1 ∧ inj 31 ad2 ∧ (∀ k, k < 83 → s.heap.size ≤ ad1 k) ∧ (∀ k, k < 31 → s.heap.size ≤ ad2 k) ∧ (∀ i, i < 83 → ∀ j, j < 31 → ad1 i ≠ ad2 j) ∧ KC D cI cW s ∧ KR D cI cB s ∧ ZC tK tC (AL s) s s.heap
section LW
variable {p : Program} {l : Launch} {e : Env} {R : Room} {s : State} {m : MethodId} {args : Array Value} {below : List Frame} {meth : Method} {c : Code} {H : Heap} {locs : List Loc} {Q : State → Prop} {cells slots : Nat}
variable {cc : ByteArray} {pc : Nat} {ls : Array Slot} {rest : List Value} {D : va_G} {ad1 ad2 : Nat → Nat} {cI cW cB : ClassId} {tK tC : Nat} {σ σ' : Nat → Nat → Int32} {τ τ' : SR}
theorem AL_1 {n : Nat} {ad : Nat → Nat} (h : ∀ k, k < n → s.heap.size ≤ ad k) (hS : va_S (AL s) s.heap H locs) : ∀ q, AD n ad H.size q → AL s q := by
  intro q hq
  rcases hq with ⟨k, hk, rfl⟩ | hq
  · exact h k hk
  · exact Nat.le_trans hS.1 hq
theorem lw_pre1 (G : LG s D ad1 ad2 cI cW cB tK tC) {As : List Value} (hP : cP D ad1 cI cW σ H) (hS : va_S (AL s) s.heap H locs) : PreV s H RX9 (ad1 0) (PG 83 ad1 (ec ad1 cI cW) D (KC D cI cW) (ZC tK tC) (.ref (ad1 0) :: As) σ H.size) As := by
  obtain ⟨h1, h2, h3, h4, h5, h6, h7, h8⟩ := G
  refine ⟨PG_blind KC_st ZC_st, va_recv (q := (RX9, TX9, 9)) (ci := 9) h6.1 hP rfl ((wl_at (q_WW (ad := ad1) (cI := cI) (cW := cW)).1).trans (by rw [ec_o q_WW])), fun U hU hW => ⟨rfl, by rw [hU], by rw [hU]; exact hP, KC_st.1 s U hW h6, ?_⟩⟩
  rw [hU]
  exact ZC_st.2.1 _ _ _ _ (AL_1 h3 hS) (ZC_st.1 _ s U _ hW.alike (ZC_st.2.2 _ _ _ _ hS.2.1 h8))
theorem lw_pre2 (G : LG s D ad1 ad2 cI cW cB tK tC) {As : List Value} (hP : rP D ad2 cI cB τ H) (hS : va_S (AL s) s.heap H locs) : PreV s H RX10 (ad2 0) (PG 31 ad2 (er ad2 cI cB) D (KR D cI cB) ZR (.ref (ad2 0) :: As) τ H.size) As := by
  obtain ⟨h1, h2, h3, h4, h5, h6, h7, h8⟩ := G
  refine ⟨PG_blind KR_st ZR_st, va_recv (q := (RX10, TX10, 48)) (ci := 10) h7.1 hP rfl ((wl_at (q_Ref (ad := ad2) (cI := cI) (cB := cB)).1).trans (by rw [er_o q_Ref])), fun U hU hW => ⟨rfl, by rw [hU], by rw [hU]; exact hP, KR_st.1 s U hW h7, trivial⟩⟩
theorem kept1 (G : LG s D ad1 ad2 cI cW cB tK tC) {H1 : Heap} (hP : rP D ad2 cI cB τ H) (hk : ∀ q : Nat, q < H.size → ¬ AD 83 ad1 H.size q → H1[q]? = H[q]?) : rP D ad2 cI cB τ H1 := by
  refine va_P.kept hP (fun k q hq => ?_)
  have hl := (hP k q hq).lt
  obtain ⟨h1, rfl⟩ := wl_get hq
  refine hk _ hl (fun hz => ?_)
  rcases hz with ⟨i, hi, he⟩ | hz
  · exact G.2.2.2.2.1 i hi k h1 he.symm
  · exact absurd hl (Nat.not_lt.mpr hz)
theorem kept2 (G : LG s D ad1 ad2 cI cW cB tK tC) {H1 : Heap} (hP : cP D ad1 cI cW σ H) (hk : ∀ q : Nat, q < H.size → ¬ AD 31 ad2 H.size q → H1[q]? = H[q]?) : cP D ad1 cI cW σ H1 := by
  refine va_P.kept hP (fun k q hq => ?_)
  have hl := (hP k q hq).lt
  obtain ⟨h1, rfl⟩ := wl_get hq
  refine hk _ hl (fun hz => ?_)
  rcases hz with ⟨i, hi, he⟩ | hz
  · exact G.2.2.2.2.1 k h1 i hi he
  · exact absurd hl (Nat.not_lt.mpr hz)
theorem lw_c1i (G : LG s D ad1 ad2 cI cW cB tK tC) {st0 : List Value} {a : Array Value} {r : Int32} (hr : va_Run p l e R s m args below meth c H locs cells slots 0 0 (F0 m pc ls st0) rest (QGi 83 ad1 (ec ad1 cI cW) D r σ' H.size a) (AD 83 ad1 H.size)) (hP2 : rP D ad2 cI cB τ H) (hS : va_S (AL s) s.heap H locs)
    (kk : ∀ (H : Heap) (locs : List Loc), cP D ad1 cI cW σ' H → rP D ad2 cI cB τ H → va_S (AL s) s.heap H locs → W p l e R s m args below meth c H locs cells slots Q (F0 m (pc + 3) ls (.int r :: rest))) : W p l e R s m args below meth c H locs cells slots Q (F0 m pc ls st0) := by
  refine va_calli hr hS (fun q _ h => AL_1 G.2.2.1 hS q h) (AL_1 G.2.2.1 hS) (fun r1 u t H1 locs1 ht hvm hw hB hz hk hS1 => ?_)
  subst hw
  refine kk H1 locs1 ?_ (kept1 G hP2 hk) hS1
  rw [← ht]
  exact hB
theorem lw_c2i (G : LG s D ad1 ad2 cI cW cB tK tC) {st0 : List Value} {a : Array Value} {r : Int32} (hr : va_Run p l e R s m args below meth c H locs cells slots 0 0 (F0 m pc ls st0) rest (QGi 31 ad2 (er ad2 cI cB) D r τ' H.size a) (AD 31 ad2 H.size)) (hP1 : cP D ad1 cI cW σ H) (hS : va_S (AL s) s.heap H locs)
    (kk : ∀ (H : Heap) (locs : List Loc), cP D ad1 cI cW σ H → rP D ad2 cI cB τ' H → va_S (AL s) s.heap H locs → W p l e R s m args below meth c H locs cells slots Q (F0 m (pc + 3) ls (.int r :: rest))) : W p l e R s m args below meth c H locs cells slots Q (F0 m pc ls st0) := by
  refine va_calli hr hS (fun q _ h => AL_1 G.2.2.2.1 hS q h) (AL_1 G.2.2.2.1 hS) (fun r1 u t H1 locs1 ht hvm hw hB hz hk hS1 => ?_)
  subst hw
  refine kk H1 locs1 (kept2 G hP1 hk) ?_ hS1
  rw [← ht]
  exact hB
theorem lw_c1l (G : LG s D ad1 ad2 cI cW cB tK tC) {st0 : List Value} {a : Array Value} {r : Int64} (hr : va_Run p l e R s m args below meth c H locs cells slots 0 0 (F0 m pc ls st0) rest (QGl 83 ad1 (ec ad1 cI cW) D r σ' H.size a) (AD 83 ad1 H.size)) (hP2 : rP D ad2 cI cB τ H) (hS : va_S (AL s) s.heap H locs)
    (kk : ∀ (H : Heap) (locs : List Loc), cP D ad1 cI cW σ' H → rP D ad2 cI cB τ H → va_S (AL s) s.heap H locs → W p l e R s m args below meth c H locs cells slots Q (F0 m (pc + 3) ls (.long r :: rest))) : W p l e R s m args below meth c H locs cells slots Q (F0 m pc ls st0) := by
  refine va_calll hr hS (fun q _ h => AL_1 G.2.2.1 hS q h) (AL_1 G.2.2.1 hS) (fun r1 u t H1 locs1 ht hvm hw hB hz hk hS1 => ?_)
  subst hw
  refine kk H1 locs1 ?_ (kept1 G hP2 hk) hS1
  rw [← ht]
  exact hB
theorem lw_c2l (G : LG s D ad1 ad2 cI cW cB tK tC) {st0 : List Value} {a : Array Value} {r : Int64} (hr : va_Run p l e R s m args below meth c H locs cells slots 0 0 (F0 m pc ls st0) rest (QGl 31 ad2 (er ad2 cI cB) D r τ' H.size a) (AD 31 ad2 H.size)) (hP1 : cP D ad1 cI cW σ H) (hS : va_S (AL s) s.heap H locs)
    (kk : ∀ (H : Heap) (locs : List Loc), cP D ad1 cI cW σ H → rP D ad2 cI cB τ' H → va_S (AL s) s.heap H locs → W p l e R s m args below meth c H locs cells slots Q (F0 m (pc + 3) ls (.long r :: rest))) : W p l e R s m args below meth c H locs cells slots Q (F0 m pc ls st0) := by
  refine va_calll hr hS (fun q _ h => AL_1 G.2.2.2.1 hS q h) (AL_1 G.2.2.2.1 hS) (fun r1 u t H1 locs1 ht hvm hw hB hz hk hS1 => ?_)
  subst hw
  refine kk H1 locs1 (kept2 G hP1 hk) ?_ hS1
  rw [← ht]
  exact hB
end LW
def lw_P (b : Addr) (xs : List Int32) (args : Array Value) (s : State) : Prop := args = #[.ref b] ∧ s.IntsAt b xs ∧ xs.length ≤ 2560 ∧ (Jvm.Cond.and given_1 narrow_1).before args s = true
def lw_Q (_ : Array Value) (s : State) (o : Outcome) (t : State) : Prop := o = .returned (some (.int 1)) ∧ Framed s o t [] 600000 7302250
def lw_Z (below : List Frame) (a : Array Value) (s : State) : State → Prop := fun t => ∃ o, t.status = .running ∧ Ended t below o ∧ lw_Q a s o t
/-- the law's own end, with 1 on the stack, nothing written that was there before, its room as the claim has it -/
theorem lw_ret {p : Program} {l : Launch} {e : Env} {s : State} {m : MethodId} {below : List Frame} {meth : Method} {c : Code} {b : Nat} (hx : p.tables.exec = Jvm.exec) (hb : c.code = code) (hr : meth.sig.returnType = ret) (hlocks : meth.locks = false) {pc : Nat} {H : Heap} {ls : Array Slot} (hdg : decode code pc = .ok (.ireturn, 1)) : W p l e room_1 s m #[Value.ref b] below meth c H [] 600000 7302250 (lw_Z below #[Value.ref b] s) (F0 m pc ls [.int 1]) := by
  intro T hT X
  obtain ⟨fs, hret, hrun, hended, hW, hframe⟩ := X.leave (v := some (.int 1)) (hlocks := hlocks) (fun h => by rw [hr] at h; cases h)
  have hmeth' : T.vm.method? m = some meth := X.method'
  refine ⟨T.setFrames fs, ?_, .returned (some (.int 1)), hrun, hended, rfl, ⟨_, rfl⟩, hW, hframe⟩
  jvm_step X.here [X.here.top, hx, hb, hdg, hmeth', hr, ret, narrow_b1]
  (try refine ⟨rfl, ?_⟩); (try refine ⟨rfl, ?_⟩)
  first | (intro acts; rw [hret _ acts rfl rfl rfl]) | rw [hret _ _ rfl rfl rfl]
  exact Steps.refl _
/-- what holds at the law's entry: the machine, the code, the tables' words (any of lw_tbl by 'hts w (by decide +kernel)'), the script of L ints xs at the cell b, what the Statement gives of the start (any of its parts by flat_of_before) -/
def lw_At (p : Program) (s : State) (m : MethodId) (meth : Method) (c : Code) (b L : Nat) (xs : Nat → Int32) : Prop :=
  p.tables.exec = Jvm.exec ∧ c.code = code ∧ meth.sig.returnType = ret ∧ c.maxLocals = 4 ∧ s.vm.findClass R_law = some m.cls ∧ (∀ w ∈ lw_tbl, w.before #[Value.ref b] s = true) ∧ va_X b L xs s s.heap ∧ b < s.heap.size ∧ meth.locks = false ∧ (Jvm.Cond.and given_1 narrow_1).before #[Value.ref b] s = true

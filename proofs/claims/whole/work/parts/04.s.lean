def nwC : List Cond := [Cond.methodLinkNest "WitnessWall" 11 yX2_init "WitnessWall",
  Cond.methodLinkNest "WitnessWall$Hall" 21 yX7_init "WitnessWall",
  Cond.fieldLinkNest "WitnessWall" 108 "WitnessWall$Witness" "size" "I" "WitnessWall",
  Cond.fieldLinkNest "WitnessWall$Page" 73 "WitnessWall$Witness" "size" "I" "WitnessWall",
  Cond.fieldLinkNest "WitnessWall" 103 "WitnessWall$Witness" "kind" "I" "WitnessWall",
  Cond.fieldLinkNest "WitnessWall$Slips" 32 "WitnessWall$Hall" "witnesses" "[LWitnessWall$Witness;" "WitnessWall",
  Cond.fieldLinkNest "WitnessWall" 99 "WitnessWall$Hall" "witnesses" "[LWitnessWall$Witness;" "WitnessWall",
  Cond.fieldLinkNest "WitnessWall$Page" 96 "WitnessWall$Hall" "witnesses" "[LWitnessWall$Witness;" "WitnessWall",
  Cond.fieldLinkNest "WitnessWall$Page" 33 "WitnessWall$Hall" "size" "I" "WitnessWall",
  Cond.fieldLinkNest "WitnessWall$Slips" 25 "WitnessWall$Hall" "size" "I" "WitnessWall",
  Cond.fieldLinkNest "WitnessWall" 94 "WitnessWall$Hall" "size" "I" "WitnessWall",
  Cond.methodLinkNest "WitnessWall$Page" 24 yX0_init "WitnessWall",
  Cond.fieldLinkNest "WitnessWall$Term" 47 "WitnessWall$Cases" "things" "[I" "WitnessWall",
  Cond.fieldLinkNest "WitnessWall$Term" 38 "WitnessWall$Cases" "dues" "[I" "WitnessWall",
  Cond.fieldLinkNest "WitnessWall$Term" 32 "WitnessWall$Cases" "size" "I" "WitnessWall",
  Cond.fieldLinkNest "WitnessWall$Page" 34 "WitnessWall$Cases" "size" "I" "WitnessWall",
  Cond.fieldLinkNest "WitnessWall" 216 "WitnessWall$Cases" "size" "I" "WitnessWall",
  Cond.fieldLinkNest "WitnessWall" 242 "WitnessWall$Page" "letters" "[I" "WitnessWall",
  Cond.fieldLinkNest "WitnessWall" 81 "WitnessWall$Page" "hall" "LWitnessWall$Hall;" "WitnessWall",
  Cond.fieldLinkNest "WitnessWall" 88 "WitnessWall$Page" "cases" "LWitnessWall$Cases;" "WitnessWall",
  Cond.fieldLinkNest "WitnessWall" 66 "WitnessWall$Page" "size" "I" "WitnessWall",
  Cond.methodLinkNest "WitnessWall" 18 yX0_init "WitnessWall",
  Cond.methodLinkNest "WitnessWall" 25 yX3_init "WitnessWall",
  Cond.methodLinkNest "WitnessWall$Scene" 18 yX5_init "WitnessWall",
  Cond.fieldLinkNest "WitnessWall$Scene" 34 "WitnessWall$Slips" "size" "I" "WitnessWall",
  Cond.fieldLinkNest "WitnessWall" 163 "WitnessWall$Slips" "size" "I" "WitnessWall",
  Cond.methodLinkNest "WitnessWall$Scene" 25 yX4_init "WitnessWall",
  Cond.fieldLinkNest "WitnessWall$Scene" 38 "WitnessWall$Seen" "size" "I" "WitnessWall",
  Cond.fieldLinkNest "WitnessWall" 200 "WitnessWall$Seen" "size" "I" "WitnessWall",
  Cond.fieldLinkNest "WitnessWall" 93 "WitnessWall$Scene" "hall" "LWitnessWall$Hall;" "WitnessWall",
  Cond.fieldLinkNest "WitnessWall" 159 "WitnessWall$Scene" "slips" "LWitnessWall$Slips;" "WitnessWall",
  Cond.fieldLinkNest "WitnessWall" 113 "WitnessWall$Scene" "seen" "LWitnessWall$Seen;" "WitnessWall",
  Cond.fieldLinkNest "WitnessWall" 153 "WitnessWall$Scene" "shown" "I" "WitnessWall",
  Cond.methodLinkNest "WitnessWall" 42 yX6_init "WitnessWall",
  Cond.methodLinkNest "WitnessWall" 49 yX8_init "WitnessWall",
  Cond.fieldLinkNest "WitnessWall$Page" 61 "WitnessWall" "KIND_LETTERS" "[C" "WitnessWall",
  Cond.methodLinkNest "WitnessWall$Page" 76 yX9_isThing "WitnessWall",
  Cond.methodLinkNest "WitnessWall$Page" 82 yX9_isColour "WitnessWall",
  Cond.methodLinkNest "WitnessWall$Page" 89 yX9_isWithin "WitnessWall",
  Cond.fieldLinkNest "WitnessWall$Seen" 22 "WitnessWall" "COULD" "[I" "WitnessWall",
  Cond.methodLinkNest "WitnessWall$Slips" 28 yX9_isWithin "WitnessWall"]


def isNest : Cond → Bool
  | .fieldLinkNest _ _ _ _ _ _ => true
  | .methodLinkNest _ _ _ _ => true
  | _ => false
theorem nwC_all : nwC.all isNest = true := by decide +kernel
theorem nw_warm {w : Cond} (h : isNest w = true) {s U : State} (hW : s.WarmedH U.vm) (hZ : va_Nw w s) : va_Nw w U := by
  cases w <;> first | exact va_Nw.warmF hW hZ | exact va_Nw.warmM hW hZ | cases h
theorem nw_on {w : Cond} (h : isNest w = true) : w.onTables = true := by
  cases w <;> first | rfl | cases h
def up2 (σ : Nat → Nat → Int32) (k j : Nat) (x : Int32) : Nat → Nat → Int32 := va_up σ k (upd (σ k) j x)
abbrev SF : Type := (Nat → Int32) → va_E
def shW (ad : Nat → Nat) (cI : ClassId) (k : Nat) : List SF := [fun v => .inr (7, [.ref (ad (k + 1)), .int (v 1), .int (v 2)]), fun v => .inl (cI, 3, .inl v)]
def shA (cI : ClassId) (n : Nat) : SF := fun v => .inl (cI, n, .inl v)
def shR (ad : Nat → Nat) (cW : ClassId) (b : Nat) : SF := fun _ => .inl (cW, 5, .inr (.inr (.inr (.inr (fun i => some (ad (b + 2 * i)))))))
def shH (ad : Nat → Nat) (cI cW : ClassId) (k : Nat) : List SF := [fun v => .inr (1, [.ref (ad (k + 1)), .ref (ad (k + 2)), .int (v 2)]), shR ad cW (k + 3), shA cI 4] ++ shW ad cI (k + 3) ++ shW ad cI (k + 5) ++ shW ad cI (k + 7) ++ shW ad cI (k + 9) ++ shW ad cI (k + 11)
def shCs (ad : Nat → Nat) (cI : ClassId) (k : Nat) : List SF := [fun v => .inr (0, [.ref (ad (k + 1)), .ref (ad (k + 2)), .int (v 2)]), shA cI 4, shA cI 4]
def shSl (ad : Nat → Nat) (cI : ClassId) (k : Nat) : List SF := [fun v => .inr (5, [.ref (ad (k + 1)), .ref (ad (k + 2)), .ref (ad (k + 3)), .int (v 3)]), shA cI 6, shA cI 6, shA cI 6]
def shSe (ad : Nat → Nat) (cI : ClassId) (k : Nat) : List SF := [fun v => .inr (4, [.ref (ad (k + 1)), .ref (ad (k + 2)), .int (v 2)]), shA cI 6, shA cI 6]
def shSc (ad : Nat → Nat) (cI cW : ClassId) (k : Nat) : List SF := [fun v => .inr (3, [.ref (ad (k + 1)), .ref (ad (k + 14)), .ref (ad (k + 18)), .int (v 3)])] ++ shH ad cI cW (k + 1) ++ shSl ad cI (k + 14) ++ shSe ad cI (k + 18)
def shC (ad : Nat → Nat) (cI cW : ClassId) : List SF := [
  fun v => .inr (9, [.ref (ad 1), .ref (ad 19), .ref (ad 22), .ref (ad 43), .ref (ad 64), .ref (ad 77), .ref (ad 80), .int (v 7), .int (v 8)]),
  fun v => .inr (2, [.ref (ad 2), .ref (ad 3), .ref (ad 16), .int (v 3), .int (v 4), .int (v 5)]),
  fun v => .inl (cI, 54, .inl v),
  fun v => .inr (1, [.ref (ad 4), .ref (ad 5), .int (v 2)]),
  fun _ => .inl (cW, 5, .inr (.inr (.inr (.inr (fun i => some (ad (6 + 2 * i))))))),
  fun v => .inl (cI, 4, .inl v),
  fun v => .inr (7, [.ref (ad 7), .int (v 1), .int (v 2)]),
  fun v => .inl (cI, 3, .inl v),
  fun v => .inr (7, [.ref (ad 9), .int (v 1), .int (v 2)]),
  fun v => .inl (cI, 3, .inl v),
  fun v => .inr (7, [.ref (ad 11), .int (v 1), .int (v 2)]),
  fun v => .inl (cI, 3, .inl v),
  fun v => .inr (7, [.ref (ad 13), .int (v 1), .int (v 2)]),
  fun v => .inl (cI, 3, .inl v),
  fun v => .inr (7, [.ref (ad 15), .int (v 1), .int (v 2)]),
  fun v => .inl (cI, 3, .inl v),
  fun v => .inr (0, [.ref (ad 17), .ref (ad 18), .int (v 2)]),
  fun v => .inl (cI, 4, .inl v),
  fun v => .inl (cI, 4, .inl v),
  fun v => .inr (0, [.ref (ad 20), .ref (ad 21), .int (v 2)]),
  fun v => .inl (cI, 4, .inl v),
  fun v => .inl (cI, 4, .inl v),
  fun v => .inr (3, [.ref (ad 23), .ref (ad 36), .ref (ad 40), .int (v 3)]),
  fun v => .inr (1, [.ref (ad 24), .ref (ad 25), .int (v 2)]),
  fun _ => .inl (cW, 5, .inr (.inr (.inr (.inr (fun i => some (ad (26 + 2 * i))))))),
  fun v => .inl (cI, 4, .inl v),
  fun v => .inr (7, [.ref (ad 27), .int (v 1), .int (v 2)]),
  fun v => .inl (cI, 3, .inl v),
  fun v => .inr (7, [.ref (ad 29), .int (v 1), .int (v 2)]),
  fun v => .inl (cI, 3, .inl v),
  fun v => .inr (7, [.ref (ad 31), .int (v 1), .int (v 2)]),
  fun v => .inl (cI, 3, .inl v),
  fun v => .inr (7, [.ref (ad 33), .int (v 1), .int (v 2)]),
  fun v => .inl (cI, 3, .inl v),
  fun v => .inr (7, [.ref (ad 35), .int (v 1), .int (v 2)]),
  fun v => .inl (cI, 3, .inl v),
  fun v => .inr (5, [.ref (ad 37), .ref (ad 38), .ref (ad 39), .int (v 3)]),
  fun v => .inl (cI, 6, .inl v),
  fun v => .inl (cI, 6, .inl v),
  fun v => .inl (cI, 6, .inl v),
  fun v => .inr (4, [.ref (ad 41), .ref (ad 42), .int (v 2)]),
  fun v => .inl (cI, 6, .inl v),
  fun v => .inl (cI, 6, .inl v),
  fun v => .inr (3, [.ref (ad 44), .ref (ad 57), .ref (ad 61), .int (v 3)]),
  fun v => .inr (1, [.ref (ad 45), .ref (ad 46), .int (v 2)]),
  fun _ => .inl (cW, 5, .inr (.inr (.inr (.inr (fun i => some (ad (47 + 2 * i))))))),
  fun v => .inl (cI, 4, .inl v),
  fun v => .inr (7, [.ref (ad 48), .int (v 1), .int (v 2)]),
  fun v => .inl (cI, 3, .inl v),
  fun v => .inr (7, [.ref (ad 50), .int (v 1), .int (v 2)]),
  fun v => .inl (cI, 3, .inl v),
  fun v => .inr (7, [.ref (ad 52), .int (v 1), .int (v 2)]),
  fun v => .inl (cI, 3, .inl v),
  fun v => .inr (7, [.ref (ad 54), .int (v 1), .int (v 2)]),
  fun v => .inl (cI, 3, .inl v),
  fun v => .inr (7, [.ref (ad 56), .int (v 1), .int (v 2)]),
  fun v => .inl (cI, 3, .inl v),
  fun v => .inr (5, [.ref (ad 58), .ref (ad 59), .ref (ad 60), .int (v 3)]),
  fun v => .inl (cI, 6, .inl v),
  fun v => .inl (cI, 6, .inl v),
  fun v => .inl (cI, 6, .inl v),
  fun v => .inr (4, [.ref (ad 62), .ref (ad 63), .int (v 2)]),
  fun v => .inl (cI, 6, .inl v),
  fun v => .inl (cI, 6, .inl v),
  fun v => .inr (1, [.ref (ad 65), .ref (ad 66), .int (v 2)]),
  fun _ => .inl (cW, 5, .inr (.inr (.inr (.inr (fun i => some (ad (67 + 2 * i))))))),
  fun v => .inl (cI, 4, .inl v),
  fun v => .inr (7, [.ref (ad 68), .int (v 1), .int (v 2)]),
  fun v => .inl (cI, 3, .inl v),
  fun v => .inr (7, [.ref (ad 70), .int (v 1), .int (v 2)]),
  fun v => .inl (cI, 3, .inl v),
  fun v => .inr (7, [.ref (ad 72), .int (v 1), .int (v 2)]),
  fun v => .inl (cI, 3, .inl v),
  fun v => .inr (7, [.ref (ad 74), .int (v 1), .int (v 2)]),
  fun v => .inl (cI, 3, .inl v),
  fun v => .inr (7, [.ref (ad 76), .int (v 1), .int (v 2)]),
  fun v => .inl (cI, 3, .inl v),
  fun _ => .inr (6, [.ref (ad 78), .ref (ad 79)]),
  fun v => .inl (cI, 7, .inl v),
  fun v => .inl (cI, 128, .inl v),
  fun _ => .inr (8, [.ref (ad 81), .ref (ad 82)]),
  fun v => .inl (cI, 32, .inl v),
  fun v => .inl (cI, 32, .inl v)]
def SHC (ad : Nat → Nat) (cI cW : ClassId) (k : Nat) : SF := (shC ad cI cW).getD k (fun _ => .inr (0, []))
def ec (ad : Nat → Nat) (cI cW : ClassId) (σ : Nat → Nat → Int32) : Nat → va_E := fun k => SHC ad cI cW k (σ k)
def oC (ad : Nat → Nat) (cI cW : ClassId) (k ci : Nat) (fs : (Nat → Int32) → List Value) : Prop := k < 83 ∧ ∀ v, SHC ad cI cW k v = .inr (ci, fs v)
def aC (ad : Nat → Nat) (cI cW : ClassId) (k n : Nat) : Prop := k < 83 ∧ ∀ v, SHC ad cI cW k v = .inl (cI, n, .inl v)
def rC (ad : Nat → Nat) (cI cW : ClassId) (k b : Nat) : Prop := k < 83 ∧ ∀ v, SHC ad cI cW k v = .inl (cW, 5, .inr (.inr (.inr (.inr (fun i => some (ad (b + 2 * i)))))))
abbrev iWit (ad : Nat → Nat) (cI cW : ClassId) (k : Nat) : Prop := oC ad cI cW k 7 (fun v => [.ref (ad (k + 1)), .int (v 1), .int (v 2)]) ∧ aC ad cI cW (k + 1) 3
abbrev iHall (ad : Nat → Nat) (cI cW : ClassId) (k : Nat) : Prop := oC ad cI cW k 1 (fun v => [.ref (ad (k + 1)), .ref (ad (k + 2)), .int (v 2)]) ∧ rC ad cI cW (k + 1) (k + 3) ∧ aC ad cI cW (k + 2) 4 ∧ ∀ i, i < 5 → iWit ad cI cW (k + 3 + 2 * i)
abbrev iCases (ad : Nat → Nat) (cI cW : ClassId) (k : Nat) : Prop := oC ad cI cW k 0 (fun v => [.ref (ad (k + 1)), .ref (ad (k + 2)), .int (v 2)]) ∧ aC ad cI cW (k + 1) 4 ∧ aC ad cI cW (k + 2) 4
abbrev iSeen (ad : Nat → Nat) (cI cW : ClassId) (k : Nat) : Prop := oC ad cI cW k 4 (fun v => [.ref (ad (k + 1)), .ref (ad (k + 2)), .int (v 2)]) ∧ aC ad cI cW (k + 1) 6 ∧ aC ad cI cW (k + 2) 6
abbrev iSlips (ad : Nat → Nat) (cI cW : ClassId) (k : Nat) : Prop := oC ad cI cW k 5 (fun v => [.ref (ad (k + 1)), .ref (ad (k + 2)), .ref (ad (k + 3)), .int (v 3)]) ∧ aC ad cI cW (k + 1) 6 ∧ aC ad cI cW (k + 2) 6 ∧ aC ad cI cW (k + 3) 6
abbrev iScene (ad : Nat → Nat) (cI cW : ClassId) (k : Nat) : Prop := oC ad cI cW k 3 (fun v => [.ref (ad (k + 1)), .ref (ad (k + 14)), .ref (ad (k + 18)), .int (v 3)]) ∧ iHall ad cI cW (k + 1) ∧ iSlips ad cI cW (k + 14) ∧ iSeen ad cI cW (k + 18)
abbrev iPage (ad : Nat → Nat) (cI cW : ClassId) (k : Nat) : Prop := oC ad cI cW k 2 (fun v => [.ref (ad (k + 1)), .ref (ad (k + 2)), .ref (ad (k + 15)), .int (v 3), .int (v 4), .int (v 5)]) ∧ aC ad cI cW (k + 1) 54 ∧ iHall ad cI cW (k + 2) ∧ iCases ad cI cW (k + 15)
abbrev iTerm (ad : Nat → Nat) (cI cW : ClassId) (k : Nat) : Prop := oC ad cI cW k 6 (fun _ => [.ref (ad (k + 1)), .ref (ad (k + 2))]) ∧ aC ad cI cW (k + 1) 7 ∧ aC ad cI cW (k + 2) 128
abbrev iWorlds (ad : Nat → Nat) (cI cW : ClassId) (k : Nat) : Prop := oC ad cI cW k 8 (fun _ => [.ref (ad (k + 1)), .ref (ad (k + 2))]) ∧ aC ad cI cW (k + 1) 32 ∧ aC ad cI cW (k + 2) 32
theorem q_WW {ad : Nat → Nat} {cI cW : ClassId} : oC ad cI cW 0 9 (fun v => [.ref (ad 1), .ref (ad 19), .ref (ad 22), .ref (ad 43), .ref (ad 64), .ref (ad 77), .ref (ad 80), .int (v 7), .int (v 8)]) := ⟨by decide, fun _ => rfl⟩

theorem q_Wit_6 {ad : Nat → Nat} {cI cW : ClassId} : iWit ad cI cW 6 := ⟨⟨by decide, fun _ => rfl⟩, ⟨by decide, fun _ => rfl⟩⟩
theorem q_Wit_8 {ad : Nat → Nat} {cI cW : ClassId} : iWit ad cI cW 8 := ⟨⟨by decide, fun _ => rfl⟩, ⟨by decide, fun _ => rfl⟩⟩
theorem q_Wit_10 {ad : Nat → Nat} {cI cW : ClassId} : iWit ad cI cW 10 := ⟨⟨by decide, fun _ => rfl⟩, ⟨by decide, fun _ => rfl⟩⟩
theorem q_Wit_12 {ad : Nat → Nat} {cI cW : ClassId} : iWit ad cI cW 12 := ⟨⟨by decide, fun _ => rfl⟩, ⟨by decide, fun _ => rfl⟩⟩
theorem q_Wit_14 {ad : Nat → Nat} {cI cW : ClassId} : iWit ad cI cW 14 := ⟨⟨by decide, fun _ => rfl⟩, ⟨by decide, fun _ => rfl⟩⟩
theorem q_Hall_3 {ad : Nat → Nat} {cI cW : ClassId} : iHall ad cI cW 3 := ⟨⟨by decide, fun _ => rfl⟩, ⟨by decide, fun _ => rfl⟩, ⟨by decide, fun _ => rfl⟩, fun i hi => by
  match i, hi with
  | 0, _ => exact q_Wit_6
  | 1, _ => exact q_Wit_8
  | 2, _ => exact q_Wit_10
  | 3, _ => exact q_Wit_12
  | 4, _ => exact q_Wit_14
  | i + 5, hi => exact absurd hi (by omega)⟩
theorem q_Wit_26 {ad : Nat → Nat} {cI cW : ClassId} : iWit ad cI cW 26 := ⟨⟨by decide, fun _ => rfl⟩, ⟨by decide, fun _ => rfl⟩⟩
theorem q_Wit_28 {ad : Nat → Nat} {cI cW : ClassId} : iWit ad cI cW 28 := ⟨⟨by decide, fun _ => rfl⟩, ⟨by decide, fun _ => rfl⟩⟩
theorem q_Wit_30 {ad : Nat → Nat} {cI cW : ClassId} : iWit ad cI cW 30 := ⟨⟨by decide, fun _ => rfl⟩, ⟨by decide, fun _ => rfl⟩⟩
theorem q_Wit_32 {ad : Nat → Nat} {cI cW : ClassId} : iWit ad cI cW 32 := ⟨⟨by decide, fun _ => rfl⟩, ⟨by decide, fun _ => rfl⟩⟩
theorem q_Wit_34 {ad : Nat → Nat} {cI cW : ClassId} : iWit ad cI cW 34 := ⟨⟨by decide, fun _ => rfl⟩, ⟨by decide, fun _ => rfl⟩⟩
theorem q_Hall_23 {ad : Nat → Nat} {cI cW : ClassId} : iHall ad cI cW 23 := ⟨⟨by decide, fun _ => rfl⟩, ⟨by decide, fun _ => rfl⟩, ⟨by decide, fun _ => rfl⟩, fun i hi => by
  match i, hi with
  | 0, _ => exact q_Wit_26
  | 1, _ => exact q_Wit_28
  | 2, _ => exact q_Wit_30
  | 3, _ => exact q_Wit_32
  | 4, _ => exact q_Wit_34
  | i + 5, hi => exact absurd hi (by omega)⟩
theorem q_Wit_47 {ad : Nat → Nat} {cI cW : ClassId} : iWit ad cI cW 47 := ⟨⟨by decide, fun _ => rfl⟩, ⟨by decide, fun _ => rfl⟩⟩
theorem q_Wit_49 {ad : Nat → Nat} {cI cW : ClassId} : iWit ad cI cW 49 := ⟨⟨by decide, fun _ => rfl⟩, ⟨by decide, fun _ => rfl⟩⟩
theorem q_Wit_51 {ad : Nat → Nat} {cI cW : ClassId} : iWit ad cI cW 51 := ⟨⟨by decide, fun _ => rfl⟩, ⟨by decide, fun _ => rfl⟩⟩
theorem q_Wit_53 {ad : Nat → Nat} {cI cW : ClassId} : iWit ad cI cW 53 := ⟨⟨by decide, fun _ => rfl⟩, ⟨by decide, fun _ => rfl⟩⟩
theorem q_Wit_55 {ad : Nat → Nat} {cI cW : ClassId} : iWit ad cI cW 55 := ⟨⟨by decide, fun _ => rfl⟩, ⟨by decide, fun _ => rfl⟩⟩
theorem q_Hall_44 {ad : Nat → Nat} {cI cW : ClassId} : iHall ad cI cW 44 := ⟨⟨by decide, fun _ => rfl⟩, ⟨by decide, fun _ => rfl⟩, ⟨by decide, fun _ => rfl⟩, fun i hi => by
  match i, hi with
  | 0, _ => exact q_Wit_47
  | 1, _ => exact q_Wit_49
  | 2, _ => exact q_Wit_51
  | 3, _ => exact q_Wit_53
  | 4, _ => exact q_Wit_55
  | i + 5, hi => exact absurd hi (by omega)⟩
theorem q_Wit_67 {ad : Nat → Nat} {cI cW : ClassId} : iWit ad cI cW 67 := ⟨⟨by decide, fun _ => rfl⟩, ⟨by decide, fun _ => rfl⟩⟩
theorem q_Wit_69 {ad : Nat → Nat} {cI cW : ClassId} : iWit ad cI cW 69 := ⟨⟨by decide, fun _ => rfl⟩, ⟨by decide, fun _ => rfl⟩⟩
theorem q_Wit_71 {ad : Nat → Nat} {cI cW : ClassId} : iWit ad cI cW 71 := ⟨⟨by decide, fun _ => rfl⟩, ⟨by decide, fun _ => rfl⟩⟩
theorem q_Wit_73 {ad : Nat → Nat} {cI cW : ClassId} : iWit ad cI cW 73 := ⟨⟨by decide, fun _ => rfl⟩, ⟨by decide, fun _ => rfl⟩⟩
theorem q_Wit_75 {ad : Nat → Nat} {cI cW : ClassId} : iWit ad cI cW 75 := ⟨⟨by decide, fun _ => rfl⟩, ⟨by decide, fun _ => rfl⟩⟩
theorem q_Hall_64 {ad : Nat → Nat} {cI cW : ClassId} : iHall ad cI cW 64 := ⟨⟨by decide, fun _ => rfl⟩, ⟨by decide, fun _ => rfl⟩, ⟨by decide, fun _ => rfl⟩, fun i hi => by
  match i, hi with
  | 0, _ => exact q_Wit_67
  | 1, _ => exact q_Wit_69
  | 2, _ => exact q_Wit_71
  | 3, _ => exact q_Wit_73
  | 4, _ => exact q_Wit_75
  | i + 5, hi => exact absurd hi (by omega)⟩
theorem q_Cases_16 {ad : Nat → Nat} {cI cW : ClassId} : iCases ad cI cW 16 := ⟨⟨by decide, fun _ => rfl⟩, ⟨by decide, fun _ => rfl⟩, ⟨by decide, fun _ => rfl⟩⟩
theorem q_Cases_19 {ad : Nat → Nat} {cI cW : ClassId} : iCases ad cI cW 19 := ⟨⟨by decide, fun _ => rfl⟩, ⟨by decide, fun _ => rfl⟩, ⟨by decide, fun _ => rfl⟩⟩
theorem q_Seen_40 {ad : Nat → Nat} {cI cW : ClassId} : iSeen ad cI cW 40 := ⟨⟨by decide, fun _ => rfl⟩, ⟨by decide, fun _ => rfl⟩, ⟨by decide, fun _ => rfl⟩⟩
theorem q_Seen_61 {ad : Nat → Nat} {cI cW : ClassId} : iSeen ad cI cW 61 := ⟨⟨by decide, fun _ => rfl⟩, ⟨by decide, fun _ => rfl⟩, ⟨by decide, fun _ => rfl⟩⟩
theorem q_Slips_36 {ad : Nat → Nat} {cI cW : ClassId} : iSlips ad cI cW 36 := ⟨⟨by decide, fun _ => rfl⟩, ⟨by decide, fun _ => rfl⟩, ⟨by decide, fun _ => rfl⟩, ⟨by decide, fun _ => rfl⟩⟩
theorem q_Slips_57 {ad : Nat → Nat} {cI cW : ClassId} : iSlips ad cI cW 57 := ⟨⟨by decide, fun _ => rfl⟩, ⟨by decide, fun _ => rfl⟩, ⟨by decide, fun _ => rfl⟩, ⟨by decide, fun _ => rfl⟩⟩
theorem q_Scene_22 {ad : Nat → Nat} {cI cW : ClassId} : iScene ad cI cW 22 := ⟨⟨by decide, fun _ => rfl⟩, q_Hall_23, q_Slips_36, q_Seen_40⟩
theorem q_Scene_43 {ad : Nat → Nat} {cI cW : ClassId} : iScene ad cI cW 43 := ⟨⟨by decide, fun _ => rfl⟩, q_Hall_44, q_Slips_57, q_Seen_61⟩
theorem q_Page_1 {ad : Nat → Nat} {cI cW : ClassId} : iPage ad cI cW 1 := ⟨⟨by decide, fun _ => rfl⟩, ⟨by decide, fun _ => rfl⟩, q_Hall_3, q_Cases_16⟩
theorem q_Term_77 {ad : Nat → Nat} {cI cW : ClassId} : iTerm ad cI cW 77 := ⟨⟨by decide, fun _ => rfl⟩, ⟨by decide, fun _ => rfl⟩, ⟨by decide, fun _ => rfl⟩⟩
theorem q_Worlds_80 {ad : Nat → Nat} {cI cW : ClassId} : iWorlds ad cI cW 80 := ⟨⟨by decide, fun _ => rfl⟩, ⟨by decide, fun _ => rfl⟩, ⟨by decide, fun _ => rfl⟩⟩


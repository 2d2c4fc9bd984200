def gnF : List (String × Nat × String × String × String × String) := [("WireBench", 139, "WireBench$Arrival", "due", "I", "WireBench"), ("WireBench", 111, "WireBench$Arrival", "net", "I", "WireBench"), ("WireBench", 114, "WireBench$Arrival", "station", "I", "WireBench"), ("WireBench", 117, "WireBench$Arrival", "goal", "I", "WireBench"), ("WireBench", 120, "WireBench$Arrival", "number", "I", "WireBench"), ("WireBench", 146, "WireBench$Arrival", "from", "I", "WireBench"), ("WireBench", 123, "WireBench$Arrival", "whole", "I", "WireBench"), ("WireBench", 149, "WireBench$Arrival", "size", "I", "WireBench"), ("WireBench", 157, "WireBench$Arrival", "start", "I", "WireBench"), ("WireBench", 165, "WireBench$Net", "largest", "I", "WireBench"), ("WireBench", 187, "WireBench$Net", "delay", "I", "WireBench"), ("WireBench", 76, "WireBench$Net", "up", "Z", "WireBench"), ("WireBench", 160, "WireBench$Net", "frameCount", "I", "WireBench"), ("WireBench", 85, "WireBench$Net", "fateCount", "I", "WireBench")]
def gnM : List (String × Nat × MethodName × String) := [("WireBench", 31, yX0_init, "WireBench"), ("WireBench", 53, yX1_init, "WireBench"), ("WireBench", 68, yX1_open, "WireBench"), ("WireBench", 90, yX1_addFate, "WireBench"), ("WireBench", 184, yX1_takeFate, "WireBench"), ("WireBench", 196, yX0_copyFrom, "WireBench"), ("WireBench", 172, yX1_pieceSize, "WireBench")]
def gstr : List (String × Nat × String) := [("WireBench", 56, "largest is not 100 .. 1500"), ("WireBench", 61, "delay is not 1 .. 50"), ("WireBench", 65, "there are 24 nets"), ("WireBench", 163, "there is no such net"), ("WireBench", 83, "n is not 1 .. 32"), ("WireBench", 88, "the schedule would have more than 64 fates"), ("WireBench", 94, "n is not 1 .. 8"), ("WireBench", 96, "the payload would be more than 1480 bytes"), ("WireBench", 105, "from is not 0 .. 7"), ("WireBench", 107, "goal is not -1 .. 7"), ("WireBench", 109, "goal is from itself"), ("WireBench", 130, "n is not 0 .. 1000"), ("WireBench", 133, "the time would be more than 1000000"), ("WireBench", 142, "what is not 0 .. 6"), ("WireBench", 144, "no arrival was taken"), ("WireBench", 154, "there is no such byte")]
def gcst : List (String × String) := [("java/lang/IllegalArgumentException", "java/lang/IllegalArgumentException"), ("java/lang/IllegalStateException", "java/lang/IllegalStateException"), ("java/lang/IndexOutOfBoundsException", "java/lang/IndexOutOfBoundsException")]
def gnca : List (String × String) := [("java/lang/IllegalStateException", "java/lang/IllegalArgumentException"), ("java/lang/IndexOutOfBoundsException", "java/lang/IllegalStateException")]
def gdcl : List MethodName := [⟨"java/lang/RuntimeException", "<init>", "(Ljava/lang/String;)V"⟩, ⟨"java/lang/Exception", "<init>", "(Ljava/lang/String;)V"⟩, ⟨"java/lang/Throwable", "<init>", "(Ljava/lang/String;)V"⟩]
/-! THE STATE of class, reference and the law's own row, in numbers: all ints by (row, place), the order of the arrivals' objects, the number of the one taken, all longs by (row, place). Cells by number k: 0 the class's object, 1 its nets, 2 its arrivals, 3 its ring; 4 the reference's object, 5 .. 17 its arrays; 18 the law's row; 100 + i the nets, 200 + i their schedules, 1000 + j the arrivals. -/
abbrev gMem : Type := Nat → Nat → Int32
abbrev gS : Type := gMem × (Nat → Nat) × Nat × (Nat → Nat → Int64)
def gu (c : gMem) (r i : Nat) (v : Int32) : gMem := fun r' i' => if r' = r ∧ i' = i then v else c r' i'
def gi (g : gS) (r i : Nat) (v : Int32) : gS := (gu g.1 r i v, g.2)
def gp (g : gS) (i j : Nat) : gS := (g.1, va_up g.2.1 i j, g.2.2)
def gt (g : gS) (j : Nat) : gS := (g.1, g.2.1, j, g.2.2.2)
def gj (g : gS) (r i : Nat) (v : Int64) : gS := (g.1, g.2.1, g.2.2.1, fun r' i' => if r' = r ∧ i' = i then v else g.2.2.2 r' i')
theorem gu_s {c : gMem} {r i : Nat} {v : Int32} : gu c r i v r i = v := by simp [gu]
theorem gu_n {c : gMem} {r i r' i' : Nat} {v : Int32} (h : ¬ (r' = r ∧ i' = i)) : gu c r i v r' i' = c r' i' := by simp [gu, h]
theorem gu_r {c : gMem} {r i r' : Nat} {v : Int32} (h : r' ≠ r) : gu c r i v r' = c r' := by funext x; simp [gu, h]
theorem gu_u {c : gMem} {r i : Nat} {v : Int32} : gu c r i v r = upd (c r) i v := by funext x; simp [gu, upd]
/-- fields in the order of their slots -/
def gfW (ad : Nat → Nat) (g : gS) : List Value := [.ref (ad 1), .int (g.1 0 0), .int (g.1 0 1), .ref (ad 2), .int (g.1 0 2), .ref (ad (1000 + g.2.2.1)), .int (g.1 0 3), .ref (ad 1513), .ref (ad 3), .int (g.1 0 4), .int (g.1 0 5)]
def gfN (ad : Nat → Nat) (g : gS) (i : Nat) : List Value := [.int (g.1 20 i), .int (g.1 21 i), .int (g.1 22 i), .int (g.1 23 i), .ref (ad (200 + i)), .int (g.1 24 i), .int (g.1 25 i)]
def gfA (g : gS) (j : Nat) : List Value := [.int (g.1 30 j), .int (g.1 31 j), .int (g.1 32 j), .int (g.1 33 j), .int (g.1 34 j), .int (g.1 35 j), .int (g.1 36 j), .int (g.1 37 j), .int (g.1 38 j)]
def gfM (ad : Nat → Nat) (g : gS) : List Value := [.int (g.1 4 0), .int (g.1 4 1), .int (g.1 4 2), .ref (ad 5), .ref (ad 6), .ref (ad 7), .ref (ad 8), .ref (ad 9), .ref (ad 10), .int (g.1 4 3), .ref (ad 11), .int (g.1 4 4), .ref (ad 12), .ref (ad 13), .ref (ad 14), .ref (ad 17), .int (g.1 4 5), .ref (ad 15), .ref (ad 16)]
/-- the cells below 100 -/
def gc0 (K : Nat → ClassId) (ad : Nat → Nat) (g : gS) (k : Nat) : va_E := match k with
  | 0 => .inr (2, gfW ad g)
  | 1 => .inl (K 1, 24, .inr (.inr (.inr (.inr (fun i => if i < 24 then some (ad (100 + i)) else none)))))
  | 2 => .inl (K 2, 512, .inr (.inr (.inr (.inr (fun i => if i < 512 then some (ad (1000 + g.2.1 i)) else none)))))
  | 3 => .inl (K 0, 4096, .inl (g.1 3))
  | 4 => .inr (3, gfM ad g)
  | 5 => .inl (K 3, 24, .inl (g.1 5))
  | 6 => .inl (K 3, 24, .inl (g.1 6))
  | 7 => .inl (K 4, 24, .inl (g.1 7))
  | 8 => .inl (K 3, 24, .inl (g.1 8))
  | 9 => .inl (K 3, 1536, .inl (g.1 9))
  | 10 => .inl (K 3, 24, .inl (g.1 10))
  | 11 => .inl (K 3, 1480, .inl (g.1 11))
  | 12 => .inl (K 3, 512, .inl (g.1 12))
  | 13 => .inl (K 4, 512, .inl (g.1 13))
  | 14 => .inl (K 3, 4096, .inl (g.1 14))
  | 15 => .inl (K 3, 7, .inl (g.1 15))
  | 16 => .inl (K 3, 1480, .inl (g.1 16))
  | 17 => .inl (K 5, 94720, .inr (.inl (g.2.2.2 17)))
  | _ => .inl (K 5, 1, .inr (.inl (g.2.2.2 18)))
def gcont (K : Nat → ClassId) (ad : Nat → Nat) (g : gS) (k : Nat) : va_E :=
  if 1000 ≤ k then .inr (0, gfA g (k - 1000)) else if 200 ≤ k then .inl (K 0, 64, .inl (g.1 k)) else if 100 ≤ k then .inr (1, gfN ad g (k - 100)) else gc0 K ad g k
theorem gc_W {K : Nat → ClassId} {ad : Nat → Nat} {g : gS} : gcont K ad g 0 = .inr (2, gfW ad g) := by simp [gcont, gc0]
theorem gc_M {K : Nat → ClassId} {ad : Nat → Nat} {g : gS} : gcont K ad g 4 = .inr (3, gfM ad g) := by simp [gcont, gc0]
theorem gc_N {K : Nat → ClassId} {ad : Nat → Nat} {g : gS} {i : Nat} (h : i < 24) : gcont K ad g (100 + i) = .inr (1, gfN ad g i) := by
  have h1 : ¬ 1000 ≤ 100 + i := by omega
  have h2 : ¬ 200 ≤ 100 + i := by omega
  have h3 : 100 ≤ 100 + i := by omega
  simp only [gcont, if_neg h1, if_neg h2, if_pos h3, Nat.add_sub_cancel_left]
theorem gc_S {K : Nat → ClassId} {ad : Nat → Nat} {g : gS} {i : Nat} (h : i < 24) : gcont K ad g (200 + i) = .inl (K 0, 64, .inl (g.1 (200 + i))) := by
  have h1 : ¬ 1000 ≤ 200 + i := by omega
  have h2 : 200 ≤ 200 + i := by omega
  simp only [gcont, if_neg h1, if_pos h2]
theorem gc_A {K : Nat → ClassId} {ad : Nat → Nat} {g : gS} {j : Nat} : gcont K ad g (1000 + j) = .inr (0, gfA g j) := by
  have h1 : 1000 ≤ 1000 + j := by omega
  simp only [gcont, if_pos h1, Nat.add_sub_cancel_left]
theorem gc_lo {K : Nat → ClassId} {ad : Nat → Nat} {g : gS} {k : Nat} (h : k < 100) : gcont K ad g k = gc0 K ad g k := by
  have h1 : ¬ 1000 ≤ k := by omega
  have h2 : ¬ 200 ≤ k := by omega
  have h3 : ¬ 100 ≤ k := by omega
  simp only [gcont, if_neg h1, if_neg h2, if_neg h3]
/-- the numbers of the cells -/
def gok (k : Nat) : Prop := k < 19 ∨ (100 ≤ k ∧ k < 124) ∨ (200 ≤ k ∧ k < 224) ∨ (1000 ≤ k ∧ k < 1514)
def ixP : Nat → List Nat
  | 0 => []
  | i + 1 => ixP i ++ [100 + i, 200 + i]
def ixQ : Nat → List Nat
  | 0 => []
  | i + 1 => ixQ i ++ [1000 + i]
theorem ixP_mem {k : Nat} : ∀ i : Nat, k ∈ ixP i ↔ ∃ j, j < i ∧ (k = 100 + j ∨ k = 200 + j)
  | 0 => by simp [ixP]
  | i + 1 => by
    unfold ixP
    rw [List.mem_append, ixP_mem i]
    simp only [List.mem_cons, List.not_mem_nil, or_false]
    constructor
    · rintro (⟨j, h1, h2⟩ | h)
      · exact ⟨j, by omega, h2⟩
      · exact ⟨i, by omega, h⟩
    · rintro ⟨j, h1, h2⟩
      by_cases e : j = i
      · subst e
        exact Or.inr h2
      · exact Or.inl ⟨j, by omega, h2⟩
theorem ixQ_mem {k : Nat} : ∀ i : Nat, k ∈ ixQ i ↔ ∃ j, j < i ∧ k = 1000 + j
  | 0 => by simp [ixQ]
  | i + 1 => by
    unfold ixQ
    rw [List.mem_append, ixQ_mem i]
    simp only [List.mem_cons, List.not_mem_nil, or_false]
    constructor
    · rintro (⟨j, h1, h2⟩ | h)
      · exact ⟨j, by omega, h2⟩
      · exact ⟨i, by omega, h⟩
    · rintro ⟨j, h1, h2⟩
      by_cases e : j = i
      · subst e
        exact Or.inr h2
      · exact Or.inl ⟨j, by omega, h2⟩
/-- in the order in which they are made -/
def gix : List Nat := [0, 1, 2, 1512, 1513, 3] ++ ((ixP 24 ++ ixQ 512) ++ ([4] ++ ([5, 6, 7, 8, 9, 10, 11, 12, 13, 14, 17, 15, 16] ++ [18])))
theorem gix_mem {k : Nat} (h : gok k) : k ∈ gix := by
  unfold gix
  simp only [List.mem_append, ixP_mem, ixQ_mem, List.mem_cons, List.not_mem_nil, or_false]
  unfold gok at h
  rcases h with h | h | h | h
  · rcases (show (k = 0 ∨ k = 1 ∨ k = 2 ∨ k = 3) ∨ (4 ≤ k ∧ k < 19) by omega) with h | h
    · exact Or.inl (by omega)
    · exact Or.inr (Or.inr (by omega))
  · exact Or.inr (Or.inl (Or.inl ⟨k - 100, by omega, by omega⟩))
  · exact Or.inr (Or.inl (Or.inl ⟨k - 200, by omega, by omega⟩))
  · rcases (show k < 1512 ∨ 1512 ≤ k by omega) with h9 | h9
    · exact Or.inr (Or.inl (Or.inr ⟨k - 1000, by omega, by omega⟩))
    · exact Or.inl (by omega)
theorem gix_ok {k : Nat} (h : k ∈ gix) : gok k := by
  unfold gix at h
  simp only [List.mem_append, ixP_mem, ixQ_mem, List.mem_cons, List.not_mem_nil, or_false] at h
  unfold gok
  rcases h with h | (⟨j, h1, h2⟩ | ⟨j, h1, h2⟩) | h <;> omega
theorem gok_N {i : Nat} (h : i < 24) : gok (100 + i) := by unfold gok; omega
theorem gok_S {i : Nat} (h : i < 24) : gok (200 + i) := by unfold gok; omega
theorem gok_A {j : Nat} (h : j < 514) : gok (1000 + j) := by unfold gok; omega
theorem gok_lo {k : Nat} (h : k < 19) : gok k := Or.inl h
/-- the world -/
def gw (K : Nat → ClassId) (ad : Nat → Nat) (g : gS) : va_W := gix.map (fun k => (ad k, gcont K ad g k))
theorem gw_at {k : Nat} (h : gok k) : ∃ p : Nat, gix[p]? = some k := List.getElem?_of_mem (gix_mem h)
theorem gw_get {K : Nat → ClassId} {ad : Nat → Nat} {g : gS} {p k : Nat} (h : gix[p]? = some k) : (gw K ad g)[p]? = some (ad k, gcont K ad g k) := by
  simp only [gw, List.getElem?_map, h, Option.map_some]
theorem gw_set {K : Nat → ClassId} {ad : Nat → Nat} {g g' : gS} {A : Nat → Prop} {p k : Nat} (hD : va_D A (gw K ad g)) (h : gix[p]? = some k) (ho : ∀ j, j ≠ k → gok j → gcont K ad g' j = gcont K ad g j) :
    (gw K ad g).set p (ad k, gcont K ad g' k) = gw K ad g' := by
  apply List.ext_getElem?
  intro i
  rw [List.getElem?_set]
  by_cases e : p = i
  · subst e
    have hp : p < (gw K ad g).length := (List.getElem?_eq_some_iff.mp (gw_get (K := K) (ad := ad) (g := g) h)).1
    rw [if_pos rfl, if_pos hp, gw_get h]
  · rw [if_neg e]
    simp only [gw, List.getElem?_map]
    cases hi : gix[i]? with
    | none => rfl
    | some j =>
      have hj : j ≠ k := by
        intro ejk
        subst ejk
        exact e (hD.1 p i _ _ (gw_get h) (gw_get hi) rfl)
      simp only [Option.map_some, ho j hj (gix_ok (List.mem_of_getElem? hi))]
/-! what a write leaves of the other cells -/
theorem gho_gen {K : Nat → ClassId} {ad : Nat → Nat} {g g' : gS} (o : Nat) (hA : ∀ j, 1000 + j ≠ o → gfA g' j = gfA g j) (hS : ∀ k, 200 ≤ k → k < 1000 → k ≠ o → g'.1 k = g.1 k) (hN : ∀ i, 100 + i ≠ o → gfN ad g' i = gfN ad g i)
    (h0 : ∀ k, k < 100 → k ≠ o → gc0 K ad g' k = gc0 K ad g k) : ∀ j, j ≠ o → gok j → gcont K ad g' j = gcont K ad g j := by
  intro j hj _
  by_cases h1 : 1000 ≤ j
  · simp only [gcont, if_pos h1]
    rw [hA (j - 1000) (by omega)]
  · by_cases h2 : 200 ≤ j
    · simp only [gcont, if_neg h1, if_pos h2]
      rw [hS j h2 (by omega) hj]
    · by_cases h3 : 100 ≤ j
      · simp only [gcont, if_neg h1, if_neg h2, if_pos h3]
        rw [hN (j - 100) (by omega)]
      · simp only [gcont, if_neg h1, if_neg h2, if_neg h3]
        exact h0 j (by omega) hj
theorem gc0_gi {K : Nat → ClassId} {ad : Nat → Nat} {g : gS} {r i : Nat} {v : Int32} (k : Nat) (h : k < 19 → k ≠ r) : gc0 K ad (gi g r i v) k = gc0 K ad g k := by
  unfold gc0
  split <;> first | rfl | (simp only [gi, gfW, gfM, gu_r (h (by decide))])
theorem gho_lo {K : Nat → ClassId} {ad : Nat → Nat} {g : gS} {r i : Nat} {v : Int32} (hr : r < 20) : ∀ j, j ≠ r → gok j → gcont K ad (gi g r i v) j = gcont K ad g j :=
  gho_gen r
    (fun j _ => by simp only [gfA, gi, gu_r (show 30 ≠ r by omega), gu_r (show 31 ≠ r by omega), gu_r (show 32 ≠ r by omega), gu_r (show 33 ≠ r by omega), gu_r (show 34 ≠ r by omega), gu_r (show 35 ≠ r by omega), gu_r (show 36 ≠ r by omega), gu_r (show 37 ≠ r by omega), gu_r (show 38 ≠ r by omega)])
    (fun k h1 _ _ => gu_r (show k ≠ r by omega))
    (fun i' _ => by simp only [gfN, gi, gu_r (show 20 ≠ r by omega), gu_r (show 21 ≠ r by omega), gu_r (show 22 ≠ r by omega), gu_r (show 23 ≠ r by omega), gu_r (show 24 ≠ r by omega), gu_r (show 25 ≠ r by omega)])
    (fun k _ h => gc0_gi k (fun _ => h))
theorem gho_N {K : Nat → ClassId} {ad : Nat → Nat} {g : gS} {r i : Nat} {v : Int32} (hr : 20 ≤ r ∧ r < 30) : ∀ j, j ≠ 100 + i → gok j → gcont K ad (gi g r i v) j = gcont K ad g j :=
  gho_gen (100 + i)
    (fun j _ => by simp only [gfA, gi, gu_r (show 30 ≠ r by omega), gu_r (show 31 ≠ r by omega), gu_r (show 32 ≠ r by omega), gu_r (show 33 ≠ r by omega), gu_r (show 34 ≠ r by omega), gu_r (show 35 ≠ r by omega), gu_r (show 36 ≠ r by omega), gu_r (show 37 ≠ r by omega), gu_r (show 38 ≠ r by omega)])
    (fun k h1 _ _ => gu_r (show k ≠ r by omega))
    (fun i' h => by
      have hi : ∀ x : Nat, ¬ (x = r ∧ i' = i) := fun x q => by omega
      simp only [gfN, gi, gu_n (hi _)])
    (fun k _ _ => gc0_gi k (fun _ => by omega))
theorem gho_A {K : Nat → ClassId} {ad : Nat → Nat} {g : gS} {r i : Nat} {v : Int32} (hr : 30 ≤ r ∧ r < 100) : ∀ j, j ≠ 1000 + i → gok j → gcont K ad (gi g r i v) j = gcont K ad g j :=
  gho_gen (1000 + i)
    (fun j h => by
      have hi : ∀ x : Nat, ¬ (x = r ∧ j = i) := fun x q => by omega
      simp only [gfA, gi, gu_n (hi _)])
    (fun k h1 _ _ => gu_r (show k ≠ r by omega))
    (fun i' _ => by simp only [gfN, gi, gu_r (show 20 ≠ r by omega), gu_r (show 21 ≠ r by omega), gu_r (show 22 ≠ r by omega), gu_r (show 23 ≠ r by omega), gu_r (show 24 ≠ r by omega), gu_r (show 25 ≠ r by omega)])
    (fun k _ _ => gc0_gi k (fun _ => by omega))
theorem gho_S {K : Nat → ClassId} {ad : Nat → Nat} {g : gS} {r i : Nat} {v : Int32} (hr : 200 ≤ r ∧ r < 1000) : ∀ j, j ≠ r → gok j → gcont K ad (gi g r i v) j = gcont K ad g j :=
  gho_gen r
    (fun j _ => by simp only [gfA, gi, gu_r (show 30 ≠ r by omega), gu_r (show 31 ≠ r by omega), gu_r (show 32 ≠ r by omega), gu_r (show 33 ≠ r by omega), gu_r (show 34 ≠ r by omega), gu_r (show 35 ≠ r by omega), gu_r (show 36 ≠ r by omega), gu_r (show 37 ≠ r by omega), gu_r (show 38 ≠ r by omega)])
    (fun k _ _ h => gu_r h)
    (fun i' _ => by simp only [gfN, gi, gu_r (show 20 ≠ r by omega), gu_r (show 21 ≠ r by omega), gu_r (show 22 ≠ r by omega), gu_r (show 23 ≠ r by omega), gu_r (show 24 ≠ r by omega), gu_r (show 25 ≠ r by omega)])
    (fun k _ h => gc0_gi k (fun _ => h))
theorem gho_p {K : Nat → ClassId} {ad : Nat → Nat} {g : gS} {i q : Nat} : ∀ j, j ≠ 2 → gok j → gcont K ad (gp g i q) j = gcont K ad g j :=
  gho_gen 2 (fun _ _ => rfl) (fun _ _ _ _ => rfl) (fun _ _ => rfl) (fun k _ h => by
    unfold gc0
    split <;> first | rfl | exact absurd rfl h)
theorem gho_t {K : Nat → ClassId} {ad : Nat → Nat} {g : gS} {q : Nat} : ∀ j, j ≠ 0 → gok j → gcont K ad (gt g q) j = gcont K ad g j :=
  gho_gen 0 (fun _ _ => rfl) (fun _ _ _ _ => rfl) (fun _ _ => rfl) (fun k _ h => by
    unfold gc0
    split <;> first | rfl | exact absurd rfl h)
theorem gj_r {g : gS} {r i r' : Nat} {v : Int64} (h : r' ≠ r) : (gj g r i v).2.2.2 r' = g.2.2.2 r' := by funext x; simp [gj, h]
theorem gj_u {g : gS} {r i : Nat} {v : Int64} : (gj g r i v).2.2.2 r = vp_updL (g.2.2.2 r) i v := by funext x; simp [gj, vp_updL]
theorem gho_17 {K : Nat → ClassId} {ad : Nat → Nat} {g : gS} {i : Nat} {v : Int64} : ∀ j, j ≠ 17 → gok j → gcont K ad (gj g 17 i v) j = gcont K ad g j :=
  gho_gen 17 (fun _ _ => rfl) (fun _ _ _ _ => rfl) (fun _ _ => rfl) (fun k _ h => by
    unfold gc0
    split <;> first | rfl | exact absurd rfl h | (rw [gj_r (by decide)]))
theorem gho_18 {K : Nat → ClassId} {ad : Nat → Nat} {g : gS} {i : Nat} {v : Int64} : ∀ j, j ≠ 18 → gok j → gcont K ad (gj g 18 i v) j = gcont K ad g j := by
  intro j hj hk
  by_cases h1 : j < 19
  · rw [gc_lo (by omega), gc_lo (by omega)]
    rcases (show j = 0 ∨ j = 1 ∨ j = 2 ∨ j = 3 ∨ j = 4 ∨ j = 5 ∨ j = 6 ∨ j = 7 ∨ j = 8 ∨ j = 9 ∨ j = 10 ∨ j = 11 ∨ j = 12 ∨ j = 13 ∨ j = 14 ∨ j = 15 ∨ j = 16 ∨ j = 17 by omega) with rfl | rfl | rfl | rfl | rfl | rfl | rfl | rfl | rfl | rfl | rfl | rfl | rfl | rfl | rfl | rfl | rfl | rfl <;> first | rfl | (simp only [gc0]; rw [gj_r (by decide)])
  · simp only [gcont]
    by_cases h2 : 1000 ≤ j
    · simp only [if_pos h2]; rfl
    · by_cases h3 : 200 ≤ j
      · simp only [if_neg h2, if_pos h3]; rfl
      · have h4 : 100 ≤ j := by unfold gok at hk; omega
        simp only [if_neg h2, if_neg h3, if_pos h4]; rfl
theorem gs_W0 {K : Nat → ClassId} {ad : Nat → Nat} {g : gS} {v : Int32} : gcont K ad (gi g 0 0 v) 0 = .inr (2, (gfW ad g).set 1 (.int v)) := by rw [gc_W]; simp [gfW, gi, gu]
theorem gs_W1 {K : Nat → ClassId} {ad : Nat → Nat} {g : gS} {v : Int32} : gcont K ad (gi g 0 1 v) 0 = .inr (2, (gfW ad g).set 2 (.int v)) := by rw [gc_W]; simp [gfW, gi, gu]
theorem gs_W2 {K : Nat → ClassId} {ad : Nat → Nat} {g : gS} {v : Int32} : gcont K ad (gi g 0 2 v) 0 = .inr (2, (gfW ad g).set 4 (.int v)) := by rw [gc_W]; simp [gfW, gi, gu]
theorem gs_W3 {K : Nat → ClassId} {ad : Nat → Nat} {g : gS} {v : Int32} : gcont K ad (gi g 0 3 v) 0 = .inr (2, (gfW ad g).set 6 (.int v)) := by rw [gc_W]; simp [gfW, gi, gu]
theorem gs_W4 {K : Nat → ClassId} {ad : Nat → Nat} {g : gS} {v : Int32} : gcont K ad (gi g 0 4 v) 0 = .inr (2, (gfW ad g).set 9 (.int v)) := by rw [gc_W]; simp [gfW, gi, gu]
theorem gs_W5 {K : Nat → ClassId} {ad : Nat → Nat} {g : gS} {v : Int32} : gcont K ad (gi g 0 5 v) 0 = .inr (2, (gfW ad g).set 10 (.int v)) := by rw [gc_W]; simp [gfW, gi, gu]
theorem gs_Wt {K : Nat → ClassId} {ad : Nat → Nat} {g : gS} {q : Nat} : gcont K ad (gt g q) 0 = .inr (2, (gfW ad g).set 5 (.ref (ad (1000 + q)))) := by rw [gc_W]; rfl
theorem gs_M0 {K : Nat → ClassId} {ad : Nat → Nat} {g : gS} {v : Int32} : gcont K ad (gi g 4 0 v) 4 = .inr (3, (gfM ad g).set 0 (.int v)) := by rw [gc_M]; simp [gfM, gi, gu]
theorem gs_M1 {K : Nat → ClassId} {ad : Nat → Nat} {g : gS} {v : Int32} : gcont K ad (gi g 4 1 v) 4 = .inr (3, (gfM ad g).set 1 (.int v)) := by rw [gc_M]; simp [gfM, gi, gu]
theorem gs_M2 {K : Nat → ClassId} {ad : Nat → Nat} {g : gS} {v : Int32} : gcont K ad (gi g 4 2 v) 4 = .inr (3, (gfM ad g).set 2 (.int v)) := by rw [gc_M]; simp [gfM, gi, gu]
theorem gs_M3 {K : Nat → ClassId} {ad : Nat → Nat} {g : gS} {v : Int32} : gcont K ad (gi g 4 3 v) 4 = .inr (3, (gfM ad g).set 9 (.int v)) := by rw [gc_M]; simp [gfM, gi, gu]
theorem gs_M4 {K : Nat → ClassId} {ad : Nat → Nat} {g : gS} {v : Int32} : gcont K ad (gi g 4 4 v) 4 = .inr (3, (gfM ad g).set 11 (.int v)) := by rw [gc_M]; simp [gfM, gi, gu]
theorem gs_M5 {K : Nat → ClassId} {ad : Nat → Nat} {g : gS} {v : Int32} : gcont K ad (gi g 4 5 v) 4 = .inr (3, (gfM ad g).set 16 (.int v)) := by rw [gc_M]; simp [gfM, gi, gu]
theorem gs_N20 {K : Nat → ClassId} {ad : Nat → Nat} {g : gS} {i : Nat} {v : Int32} (h : i < 24) : gcont K ad (gi g 20 i v) (100 + i) = .inr (1, (gfN ad g i).set 0 (.int v)) := by rw [gc_N h]; simp [gfN, gi, gu]
theorem gs_N21 {K : Nat → ClassId} {ad : Nat → Nat} {g : gS} {i : Nat} {v : Int32} (h : i < 24) : gcont K ad (gi g 21 i v) (100 + i) = .inr (1, (gfN ad g i).set 1 (.int v)) := by rw [gc_N h]; simp [gfN, gi, gu]
theorem gs_N22 {K : Nat → ClassId} {ad : Nat → Nat} {g : gS} {i : Nat} {v : Int32} (h : i < 24) : gcont K ad (gi g 22 i v) (100 + i) = .inr (1, (gfN ad g i).set 2 (.int v)) := by rw [gc_N h]; simp [gfN, gi, gu]
theorem gs_N23 {K : Nat → ClassId} {ad : Nat → Nat} {g : gS} {i : Nat} {v : Int32} (h : i < 24) : gcont K ad (gi g 23 i v) (100 + i) = .inr (1, (gfN ad g i).set 3 (.int v)) := by rw [gc_N h]; simp [gfN, gi, gu]
theorem gs_N24 {K : Nat → ClassId} {ad : Nat → Nat} {g : gS} {i : Nat} {v : Int32} (h : i < 24) : gcont K ad (gi g 24 i v) (100 + i) = .inr (1, (gfN ad g i).set 5 (.int v)) := by rw [gc_N h]; simp [gfN, gi, gu]
theorem gs_N25 {K : Nat → ClassId} {ad : Nat → Nat} {g : gS} {i : Nat} {v : Int32} (h : i < 24) : gcont K ad (gi g 25 i v) (100 + i) = .inr (1, (gfN ad g i).set 6 (.int v)) := by rw [gc_N h]; simp [gfN, gi, gu]
theorem gs_A30 {K : Nat → ClassId} {ad : Nat → Nat} {g : gS} {i : Nat} {v : Int32} : gcont K ad (gi g 30 i v) (1000 + i) = .inr (0, (gfA g i).set 0 (.int v)) := by rw [gc_A]; simp [gfA, gi, gu]
theorem gs_A31 {K : Nat → ClassId} {ad : Nat → Nat} {g : gS} {i : Nat} {v : Int32} : gcont K ad (gi g 31 i v) (1000 + i) = .inr (0, (gfA g i).set 1 (.int v)) := by rw [gc_A]; simp [gfA, gi, gu]
theorem gs_A32 {K : Nat → ClassId} {ad : Nat → Nat} {g : gS} {i : Nat} {v : Int32} : gcont K ad (gi g 32 i v) (1000 + i) = .inr (0, (gfA g i).set 2 (.int v)) := by rw [gc_A]; simp [gfA, gi, gu]
theorem gs_A33 {K : Nat → ClassId} {ad : Nat → Nat} {g : gS} {i : Nat} {v : Int32} : gcont K ad (gi g 33 i v) (1000 + i) = .inr (0, (gfA g i).set 3 (.int v)) := by rw [gc_A]; simp [gfA, gi, gu]
theorem gs_A34 {K : Nat → ClassId} {ad : Nat → Nat} {g : gS} {i : Nat} {v : Int32} : gcont K ad (gi g 34 i v) (1000 + i) = .inr (0, (gfA g i).set 4 (.int v)) := by rw [gc_A]; simp [gfA, gi, gu]
theorem gs_A35 {K : Nat → ClassId} {ad : Nat → Nat} {g : gS} {i : Nat} {v : Int32} : gcont K ad (gi g 35 i v) (1000 + i) = .inr (0, (gfA g i).set 5 (.int v)) := by rw [gc_A]; simp [gfA, gi, gu]
theorem gs_A36 {K : Nat → ClassId} {ad : Nat → Nat} {g : gS} {i : Nat} {v : Int32} : gcont K ad (gi g 36 i v) (1000 + i) = .inr (0, (gfA g i).set 6 (.int v)) := by rw [gc_A]; simp [gfA, gi, gu]
theorem gs_A37 {K : Nat → ClassId} {ad : Nat → Nat} {g : gS} {i : Nat} {v : Int32} : gcont K ad (gi g 37 i v) (1000 + i) = .inr (0, (gfA g i).set 7 (.int v)) := by rw [gc_A]; simp [gfA, gi, gu]
theorem gs_A38 {K : Nat → ClassId} {ad : Nat → Nat} {g : gS} {i : Nat} {v : Int32} : gcont K ad (gi g 38 i v) (1000 + i) = .inr (0, (gfA g i).set 8 (.int v)) := by rw [gc_A]; simp [gfA, gi, gu]
theorem vin_lt {i : Int32} {n : Nat} (h : vp_in i n) : i.toNatClampNeg < n := Nat.not_le.mp fun q => h (Or.inr q)
theorem gc_3 {K : Nat → ClassId} {ad : Nat → Nat} {g : gS} : gcont K ad g 3 = .inl (K 0, 4096, .inl (g.1 3)) := by simp [gcont, gc0]
theorem gc_5 {K : Nat → ClassId} {ad : Nat → Nat} {g : gS} : gcont K ad g 5 = .inl (K 3, 24, .inl (g.1 5)) := by simp [gcont, gc0]
theorem gc_6 {K : Nat → ClassId} {ad : Nat → Nat} {g : gS} : gcont K ad g 6 = .inl (K 3, 24, .inl (g.1 6)) := by simp [gcont, gc0]
theorem gc_7 {K : Nat → ClassId} {ad : Nat → Nat} {g : gS} : gcont K ad g 7 = .inl (K 4, 24, .inl (g.1 7)) := by simp [gcont, gc0]
theorem gc_8 {K : Nat → ClassId} {ad : Nat → Nat} {g : gS} : gcont K ad g 8 = .inl (K 3, 24, .inl (g.1 8)) := by simp [gcont, gc0]
theorem gc_9 {K : Nat → ClassId} {ad : Nat → Nat} {g : gS} : gcont K ad g 9 = .inl (K 3, 1536, .inl (g.1 9)) := by simp [gcont, gc0]
theorem gc_10 {K : Nat → ClassId} {ad : Nat → Nat} {g : gS} : gcont K ad g 10 = .inl (K 3, 24, .inl (g.1 10)) := by simp [gcont, gc0]
theorem gc_11 {K : Nat → ClassId} {ad : Nat → Nat} {g : gS} : gcont K ad g 11 = .inl (K 3, 1480, .inl (g.1 11)) := by simp [gcont, gc0]
theorem gc_12 {K : Nat → ClassId} {ad : Nat → Nat} {g : gS} : gcont K ad g 12 = .inl (K 3, 512, .inl (g.1 12)) := by simp [gcont, gc0]
theorem gc_13 {K : Nat → ClassId} {ad : Nat → Nat} {g : gS} : gcont K ad g 13 = .inl (K 4, 512, .inl (g.1 13)) := by simp [gcont, gc0]
theorem gc_14 {K : Nat → ClassId} {ad : Nat → Nat} {g : gS} : gcont K ad g 14 = .inl (K 3, 4096, .inl (g.1 14)) := by simp [gcont, gc0]
theorem gc_15 {K : Nat → ClassId} {ad : Nat → Nat} {g : gS} : gcont K ad g 15 = .inl (K 3, 7, .inl (g.1 15)) := by simp [gcont, gc0]
theorem gc_16 {K : Nat → ClassId} {ad : Nat → Nat} {g : gS} : gcont K ad g 16 = .inl (K 3, 1480, .inl (g.1 16)) := by simp [gcont, gc0]
theorem gc_17 {K : Nat → ClassId} {ad : Nat → Nat} {g : gS} : gcont K ad g 17 = .inl (K 5, 94720, .inr (.inl (g.2.2.2 17))) := by simp [gcont, gc0]
theorem gc_18 {K : Nat → ClassId} {ad : Nat → Nat} {g : gS} : gcont K ad g 18 = .inl (K 5, 1, .inr (.inl (g.2.2.2 18))) := by simp [gcont, gc0]

/-! the rows: an instruction over this world -/
def gtys (K : Nat → ClassId) : List (ClassId × FieldType) := [(K 0, .byte), (K 1, .object "WireBench$Net"), (K 2, .object "WireBench$Arrival"), (K 3, .int), (K 4, .boolean), (K 5, .long)]
def gX (D : va_G) (K : Nat → ClassId) (ad : Nat → Nat) (A : Nat → Prop) (H0 : Heap) (g : gS) (H : Heap) (locs : List Loc) : Prop := va_P D vwCl (gw K ad g) H ∧ va_D A (gw K ad g) ∧ va_S A H0 H locs
section GROWS
variable {p : Program} {l : Launch} {e : Env} {R : Room} {s : State} {m : MethodId} {args : Array Value} {below : List Frame} {meth : Method} {c : Code} {H : Heap} {locs : List Loc} {cells slots : Nat} {Q : State → Prop}
variable {cc : ByteArray} {pc : Nat} {ls : Array Slot} {rest : List Value} {D : va_G} {K : Nat → ClassId} {ad : Nat → Nat} {A : Nat → Prop} {H0 : Heap} {g : gS}
theorem g_get (hx : p.tables.exec = Jvm.exec) (hb : c.code = cc) {own ref C : String} {T : u_T} {N ci index : Nat} {Ts : List Cond} (hts : ∀ w ∈ Ts, w.before args s = true) (hin : ∀ w ∈ u_ws C T N, w ∈ Ts) (hown : s.vm.findClass own = some m.cls) (hK : va_K D vwCl (gtys K) s) (hG : gX D K ad A H0 g H locs) {k : Nat} (hk : gok k) {fs : List Value} (hc : gcont K ad g k = .inr (ci, fs)) (hcl : vwCl[ci]? = some (C, T, N)) (j : Nat) (hj : j < N) (hlink : (Cond.fieldLink own index ref (T j).2.1 (T j).2.2.1).before args s = true) (href : (T j).1 = ref) {v : Value} (hv : fs[j]? = some v) (hdg : decode cc pc = .ok (.getfield index, 3))
    (kk : W p l e R s m args below meth c H locs cells slots Q (F0 m (pc + 3) ls (v :: rest))) : W p l e R s m args below meth c H locs cells slots Q (F0 m pc ls (.ref (ad k) :: rest)) := by
  obtain ⟨q, hq⟩ := gw_at hk
  subst href
  exact va_get hx hb hts hin hown hK hG.1 q (by rw [gw_get hq, hc]) hcl j hj hlink (fun _ h => h) hv hdg kk
theorem g_getN (hx : p.tables.exec = Jvm.exec) (hb : c.code = cc) {own ref C host : String} {T : u_T} {N ci index : Nat} {Ts : List Cond} (hts : ∀ w ∈ Ts, w.before args s = true) (hin : ∀ w ∈ u_ws C T N, w ∈ Ts) (hown : s.vm.findClass own = some m.cls) (hK : va_K D vwCl (gtys K) s) (hG : gX D K ad A H0 g H locs) {k : Nat} (hk : gok k) {fs : List Value} (hc : gcont K ad g k = .inr (ci, fs)) (hcl : vwCl[ci]? = some (C, T, N)) (j : Nat) (hj : j < N) (hlink : va_Nw (.fieldLinkNest own index ref (T j).2.1 (T j).2.2.1 host) s) (href : (T j).1 = ref) {v : Value} (hv : fs[j]? = some v) (hdg : decode cc pc = .ok (.getfield index, 3))
    (kk : W p l e R s m args below meth c H locs cells slots Q (F0 m (pc + 3) ls (v :: rest))) : W p l e R s m args below meth c H locs cells slots Q (F0 m pc ls (.ref (ad k) :: rest)) := by
  obtain ⟨q, hq⟩ := gw_at hk
  subst href
  exact va_getN hx hb hts hin hown hK hG.1 q (by rw [gw_get hq, hc]) hcl j hj (va_Nw.use rfl hlink) (fun _ h => h) hv hdg kk
theorem g_put (hx : p.tables.exec = Jvm.exec) (hb : c.code = cc) {own ref C : String} {T : u_T} {N ci index : Nat} {Ts : List Cond} (hts : ∀ w ∈ Ts, w.before args s = true) (hin : ∀ w ∈ u_ws C T N, w ∈ Ts) (ty0 : Nat → FieldType) (hty : ∀ k, k < N → parseFieldDescriptor (T k).2.2.1 = some (ty0 k)) (hnm : ∀ a, a < N → ∀ b, b < N → a ≠ b → (T a).2.1 ≠ (T b).2.1) (hown : s.vm.findClass own = some m.cls) (hK : va_K D vwCl (gtys K) s) (hG : gX D K ad A H0 g H locs) {k : Nat} (hk : gok k) {fs : List Value} (hc : gcont K ad g k = .inr (ci, fs)) (hcl : vwCl[ci]? = some (C, T, N)) (j : Nat) (hj : j < N) (hlink : (Cond.fieldLink own index ref (T j).2.1 (T j).2.2.1).before args s = true) (href : (T j).1 = ref) (hfin : (T j).2.2.2 = false) {ty : FieldType} {v : Value} (hd : parseFieldDescriptor (T j).2.2.1 = some ty) (hn : narrow ty v = v) (hfit : fits ty v = true) (hl : j < fs.length) (g' : gS) (hc' : gcont K ad g' k = .inr (ci, fs.set j v)) (ho : ∀ i, i ≠ k → gok i → gcont K ad g' i = gcont K ad g i) (hdg : decode cc pc = .ok (.putfield index, 3))
    (kk : ∀ (H1 : Heap) (locs1 : List Loc), gX D K ad A H0 g' H1 locs1 → W p l e R s m args below meth c H1 locs1 cells slots Q (F0 m (pc + 3) ls rest)) : W p l e R s m args below meth c H locs cells slots Q (F0 m pc ls (v :: .ref (ad k) :: rest)) := by
  obtain ⟨q, hq⟩ := gw_at hk
  subst href
  refine va_put hx hb hts hin ty0 hty hnm hown hK hG.1 hG.2.1 hG.2.2 q (by rw [gw_get hq, hc]) hcl j hj hlink (fun _ h => h) hfin hd hn hfit hl hdg (fun H1 locs1 hP hD hS => ?_)
  rw [← hc', gw_set hG.2.1 hq ho] at hP hD
  exact kk H1 locs1 ⟨hP, hD, hS⟩
theorem g_putN (hx : p.tables.exec = Jvm.exec) (hb : c.code = cc) {own ref C host : String} {T : u_T} {N ci index : Nat} {Ts : List Cond} (hts : ∀ w ∈ Ts, w.before args s = true) (hin : ∀ w ∈ u_ws C T N, w ∈ Ts) (ty0 : Nat → FieldType) (hty : ∀ k, k < N → parseFieldDescriptor (T k).2.2.1 = some (ty0 k)) (hnm : ∀ a, a < N → ∀ b, b < N → a ≠ b → (T a).2.1 ≠ (T b).2.1) (hown : s.vm.findClass own = some m.cls) (hK : va_K D vwCl (gtys K) s) (hG : gX D K ad A H0 g H locs) {k : Nat} (hk : gok k) {fs : List Value} (hc : gcont K ad g k = .inr (ci, fs)) (hcl : vwCl[ci]? = some (C, T, N)) (j : Nat) (hj : j < N) (hlink : va_Nw (.fieldLinkNest own index ref (T j).2.1 (T j).2.2.1 host) s) (href : (T j).1 = ref) (hfin : (T j).2.2.2 = false) {ty : FieldType} {v : Value} (hd : parseFieldDescriptor (T j).2.2.1 = some ty) (hn : narrow ty v = v) (hfit : fits ty v = true) (hl : j < fs.length) (g' : gS) (hc' : gcont K ad g' k = .inr (ci, fs.set j v)) (ho : ∀ i, i ≠ k → gok i → gcont K ad g' i = gcont K ad g i) (hdg : decode cc pc = .ok (.putfield index, 3))
    (kk : ∀ (H1 : Heap) (locs1 : List Loc), gX D K ad A H0 g' H1 locs1 → W p l e R s m args below meth c H1 locs1 cells slots Q (F0 m (pc + 3) ls rest)) : W p l e R s m args below meth c H locs cells slots Q (F0 m pc ls (v :: .ref (ad k) :: rest)) := by
  obtain ⟨q, hq⟩ := gw_at hk
  subst href
  refine va_putN hx hb hts hin ty0 hty hnm hown hK hG.1 hG.2.1 hG.2.2 q (by rw [gw_get hq, hc]) hcl j hj (va_Nw.use rfl hlink) (fun _ h => h) hfin hd hn hfit hl hdg (fun H1 locs1 hP hD hS => ?_)
  rw [← hc', gw_set hG.2.1 hq ho] at hP hD
  exact kk H1 locs1 ⟨hP, hD, hS⟩
theorem g_iald (hx : p.tables.exec = Jvm.exec) (hb : c.code = cc) (hK : va_K D vwCl (gtys K) s) (hG : gX D K ad A H0 g H locs) {k n : Nat} (hk : gok k) (hc : gcont K ad g k = .inl (K 3, n, .inl (g.1 k))) {i : Int32} (hin : vp_in i n) (hdg : decode cc pc = .ok (.iaload, 1))
    (kk : W p l e R s m args below meth c H locs cells slots Q (F0 m (pc + 1) ls (.int (g.1 k i.toNatClampNeg) :: rest))) : W p l e R s m args below meth c H locs cells slots Q (F0 m pc ls (.int i :: .ref (ad k) :: rest)) := by
  obtain ⟨q, hq⟩ := gw_at hk
  exact va_iald hx hb hK hG.1 q 3 (by rw [gw_get hq, hc]) rfl hin hdg kk
theorem g_bald (hx : p.tables.exec = Jvm.exec) (hb : c.code = cc) (hK : va_K D vwCl (gtys K) s) (hG : gX D K ad A H0 g H locs) {k n : Nat} (hk : gok k) (hc : gcont K ad g k = .inl (K 0, n, .inl (g.1 k))) {i : Int32} (hin : vp_in i n) (hdg : decode cc pc = .ok (.baload, 1))
    (kk : W p l e R s m args below meth c H locs cells slots Q (F0 m (pc + 1) ls (.int (g.1 k i.toNatClampNeg) :: rest))) : W p l e R s m args below meth c H locs cells slots Q (F0 m pc ls (.int i :: .ref (ad k) :: rest)) := by
  obtain ⟨q, hq⟩ := gw_at hk
  exact va_bald hx hb hK hG.1 q 0 (by rw [gw_get hq, hc]) rfl hin hdg kk
theorem g_zald (hx : p.tables.exec = Jvm.exec) (hb : c.code = cc) (hK : va_K D vwCl (gtys K) s) (hG : gX D K ad A H0 g H locs) {k n : Nat} (hk : gok k) (hc : gcont K ad g k = .inl (K 4, n, .inl (g.1 k))) {i : Int32} (hin : vp_in i n) (hdg : decode cc pc = .ok (.baload, 1))
    (kk : W p l e R s m args below meth c H locs cells slots Q (F0 m (pc + 1) ls (.int (g.1 k i.toNatClampNeg) :: rest))) : W p l e R s m args below meth c H locs cells slots Q (F0 m pc ls (.int i :: .ref (ad k) :: rest)) := by
  obtain ⟨q, hq⟩ := gw_at hk
  exact va_zald hx hb hK hG.1 q 4 (by rw [gw_get hq, hc]) rfl hin hdg kk
theorem g_iast (hx : p.tables.exec = Jvm.exec) (hb : c.code = cc) (hK : va_K D vwCl (gtys K) s) (hG : gX D K ad A H0 g H locs) {k n : Nat} (hk : gok k) (hc : ∀ g : gS, gcont K ad g k = .inl (K 3, n, .inl (g.1 k))) {i x : Int32} (hin : vp_in i n) (ho : ∀ j, j ≠ k → gok j → gcont K ad (gi g k i.toNatClampNeg x) j = gcont K ad g j) (hdg : decode cc pc = .ok (.iastore, 1))
    (kk : ∀ (H1 : Heap) (locs1 : List Loc), gX D K ad A H0 (gi g k i.toNatClampNeg x) H1 locs1 → W p l e R s m args below meth c H1 locs1 cells slots Q (F0 m (pc + 1) ls rest)) : W p l e R s m args below meth c H locs cells slots Q (F0 m pc ls (.int x :: .int i :: .ref (ad k) :: rest)) := by
  obtain ⟨q, hq⟩ := gw_at hk
  have e1 : gcont K ad (gi g k i.toNatClampNeg x) k = .inl (K 3, n, .inl (upd (g.1 k) i.toNatClampNeg x)) := by
    rw [hc]
    simp only [gi, gu_u]
  refine va_iast hx hb hK hG.1 hG.2.1 hG.2.2 q 3 (by rw [gw_get hq, hc]) rfl hin hdg (fun H1 locs1 hP hD hS => ?_)
  rw [← e1, gw_set hG.2.1 hq ho] at hP hD
  exact kk H1 locs1 ⟨hP, hD, hS⟩
theorem g_bast (hx : p.tables.exec = Jvm.exec) (hb : c.code = cc) (hK : va_K D vwCl (gtys K) s) (hG : gX D K ad A H0 g H locs) {k n : Nat} (hk : gok k) (hc : ∀ g : gS, gcont K ad g k = .inl (K 0, n, .inl (g.1 k))) {i x : Int32} (hin : vp_in i n) (ho : ∀ j, j ≠ k → gok j → gcont K ad (gi g k i.toNatClampNeg (vp_nar .byte x)) j = gcont K ad g j) (hdg : decode cc pc = .ok (.bastore, 1))
    (kk : ∀ (H1 : Heap) (locs1 : List Loc), gX D K ad A H0 (gi g k i.toNatClampNeg (vp_nar .byte x)) H1 locs1 → W p l e R s m args below meth c H1 locs1 cells slots Q (F0 m (pc + 1) ls rest)) : W p l e R s m args below meth c H locs cells slots Q (F0 m pc ls (.int x :: .int i :: .ref (ad k) :: rest)) := by
  obtain ⟨q, hq⟩ := gw_at hk
  have e1 : gcont K ad (gi g k i.toNatClampNeg (vp_nar .byte x)) k = .inl (K 0, n, .inl (upd (g.1 k) i.toNatClampNeg (vp_nar .byte x))) := by
    rw [hc]
    simp only [gi, gu_u]
  refine va_bast hx hb hK hG.1 hG.2.1 hG.2.2 q 0 (by rw [gw_get hq, hc]) rfl hin hdg (fun H1 locs1 hP hD hS => ?_)
  rw [← e1, gw_set hG.2.1 hq ho] at hP hD
  exact kk H1 locs1 ⟨hP, hD, hS⟩
theorem g_zast (hx : p.tables.exec = Jvm.exec) (hb : c.code = cc) (hK : va_K D vwCl (gtys K) s) (hG : gX D K ad A H0 g H locs) {k n : Nat} (hk : gok k) (hc : ∀ g : gS, gcont K ad g k = .inl (K 4, n, .inl (g.1 k))) {i x : Int32} (hin : vp_in i n) (ho : ∀ j, j ≠ k → gok j → gcont K ad (gi g k i.toNatClampNeg (vp_nar .boolean x)) j = gcont K ad g j) (hdg : decode cc pc = .ok (.bastore, 1))
    (kk : ∀ (H1 : Heap) (locs1 : List Loc), gX D K ad A H0 (gi g k i.toNatClampNeg (vp_nar .boolean x)) H1 locs1 → W p l e R s m args below meth c H1 locs1 cells slots Q (F0 m (pc + 1) ls rest)) : W p l e R s m args below meth c H locs cells slots Q (F0 m pc ls (.int x :: .int i :: .ref (ad k) :: rest)) := by
  obtain ⟨q, hq⟩ := gw_at hk
  have e1 : gcont K ad (gi g k i.toNatClampNeg (vp_nar .boolean x)) k = .inl (K 4, n, .inl (upd (g.1 k) i.toNatClampNeg (vp_nar .boolean x))) := by
    rw [hc]
    simp only [gi, gu_u]
  refine va_zast hx hb hK hG.1 hG.2.1 hG.2.2 q 4 (by rw [gw_get hq, hc]) rfl hin hdg (fun H1 locs1 hP hD hS => ?_)
  rw [← e1, gw_set hG.2.1 hq ho] at hP hD
  exact kk H1 locs1 ⟨hP, hD, hS⟩
theorem g_lald (hx : p.tables.exec = Jvm.exec) (hb : c.code = cc) (hK : va_K D vwCl (gtys K) s) (hG : gX D K ad A H0 g H locs) {k n : Nat} (hk : gok k) (hc : gcont K ad g k = .inl (K 5, n, .inr (.inl (g.2.2.2 k)))) {i : Int32} (hin : vp_in i n) (hdg : decode cc pc = .ok (.laload, 1))
    (kk : W p l e R s m args below meth c H locs cells slots Q (F0 m (pc + 1) ls (.long (g.2.2.2 k i.toNatClampNeg) :: rest))) : W p l e R s m args below meth c H locs cells slots Q (F0 m pc ls (.int i :: .ref (ad k) :: rest)) := by
  obtain ⟨q, hq⟩ := gw_at hk
  exact va_lald hx hb hK hG.1 q 5 (by rw [gw_get hq, hc]) rfl hin hdg kk
theorem g_last (hx : p.tables.exec = Jvm.exec) (hb : c.code = cc) (hK : va_K D vwCl (gtys K) s) (hG : gX D K ad A H0 g H locs) {k n : Nat} (hk : gok k) (hc : ∀ g : gS, gcont K ad g k = .inl (K 5, n, .inr (.inl (g.2.2.2 k)))) {i : Int32} {x : Int64} (hin : vp_in i n) (ho : ∀ j, j ≠ k → gok j → gcont K ad (gj g k i.toNatClampNeg x) j = gcont K ad g j) (hdg : decode cc pc = .ok (.lastore, 1))
    (kk : ∀ (H1 : Heap) (locs1 : List Loc), gX D K ad A H0 (gj g k i.toNatClampNeg x) H1 locs1 → W p l e R s m args below meth c H1 locs1 cells slots Q (F0 m (pc + 1) ls rest)) : W p l e R s m args below meth c H locs cells slots Q (F0 m pc ls (.long x :: .int i :: .ref (ad k) :: rest)) := by
  obtain ⟨q, hq⟩ := gw_at hk
  have e1 : gcont K ad (gj g k i.toNatClampNeg x) k = .inl (K 5, n, .inr (.inl (vp_updL (g.2.2.2 k) i.toNatClampNeg x))) := by
    rw [hc, gj_u]
  refine va_last hx hb hK hG.1 hG.2.1 hG.2.2 q 5 (by rw [gw_get hq, hc]) rfl hin hdg (fun H1 locs1 hP hD hS => ?_)
  rw [← e1, gw_set hG.2.1 hq ho] at hP hD
  exact kk H1 locs1 ⟨hP, hD, hS⟩
/-- the nets' row: net i -/
theorem g_aldN (hx : p.tables.exec = Jvm.exec) (hb : c.code = cc) (hK : va_K D vwCl (gtys K) s) (hG : gX D K ad A H0 g H locs) {i : Int32} (hin : vp_in i 24) (hdg : decode cc pc = .ok (.aaload, 1))
    (kk : W p l e R s m args below meth c H locs cells slots Q (F0 m (pc + 1) ls (.ref (ad (100 + i.toNatClampNeg)) :: rest))) : W p l e R s m args below meth c H locs cells slots Q (F0 m pc ls (.int i :: .ref (ad 1) :: rest)) := by
  obtain ⟨q, hq⟩ := gw_at (k := 1) (gok_lo (by decide))
  refine va_aldq (C := "WireBench$Net") hx hb hK hG.1 q 1 (f := fun i => if i < 24 then some (ad (100 + i)) else none) (n := 24) (by rw [gw_get hq]; rfl) rfl hin hdg ?_
  rw [if_pos (vin_lt hin)]
  exact kk
/-- the arrivals' row -/
theorem g_aldA (hx : p.tables.exec = Jvm.exec) (hb : c.code = cc) (hK : va_K D vwCl (gtys K) s) (hG : gX D K ad A H0 g H locs) {i : Int32} (hin : vp_in i 512) (hdg : decode cc pc = .ok (.aaload, 1))
    (kk : W p l e R s m args below meth c H locs cells slots Q (F0 m (pc + 1) ls (.ref (ad (1000 + g.2.1 i.toNatClampNeg)) :: rest))) : W p l e R s m args below meth c H locs cells slots Q (F0 m pc ls (.int i :: .ref (ad 2) :: rest)) := by
  obtain ⟨q, hq⟩ := gw_at (k := 2) (gok_lo (by decide))
  refine va_aldq (C := "WireBench$Arrival") hx hb hK hG.1 q 2 (f := fun i => if i < 512 then some (ad (1000 + g.2.1 i)) else none) (n := 512) (by rw [gw_get hq]; rfl) rfl hin hdg ?_
  rw [if_pos (vin_lt hin)]
  exact kk
theorem g_astA (hx : p.tables.exec = Jvm.exec) (hb : c.code = cc) (hK : va_K D vwCl (gtys K) s) (hG : gX D K ad A H0 g H locs) {i : Int32} {j : Nat} (hj : j < 514) (hin : vp_in i 512) (hdg : decode cc pc = .ok (.aastore, 1))
    (kk : ∀ (H1 : Heap) (locs1 : List Loc), gX D K ad A H0 (gp g i.toNatClampNeg j) H1 locs1 → W p l e R s m args below meth c H1 locs1 cells slots Q (F0 m (pc + 1) ls rest)) : W p l e R s m args below meth c H locs cells slots Q (F0 m pc ls (.ref (ad (1000 + j)) :: .int i :: .ref (ad 2) :: rest)) := by
  obtain ⟨q, hq⟩ := gw_at (k := 2) (gok_lo (by decide))
  obtain ⟨q2, hq2⟩ := gw_at (k := 1000 + j) (gok_A hj)
  have e1 : gcont K ad (gp g i.toNatClampNeg j) 2 = .inl (K 2, 512, .inr (.inr (.inr (.inr (va_up (fun i => if i < 512 then some (ad (1000 + g.2.1 i)) else none) i.toNatClampNeg (some (ad (1000 + j)))))))) := by
    rw [gc_lo (by decide)]
    simp only [gc0, gp]
    congr 7
    funext x
    by_cases hx2 : x = i.toNatClampNeg
    · subst hx2; simp [va_up, vin_lt hin]
    · simp [va_up, hx2]
  refine va_astq hx hb hK hG.1 hG.2.1 hG.2.2 q 2 q2 0 (r := (RX0, TX0, 9)) (f := fun i => if i < 512 then some (ad (1000 + g.2.1 i)) else none) (n := 512) (by rw [gw_get hq]; rfl) rfl (by rw [gw_get hq2, gc_A]) rfl hin hdg (fun H1 locs1 hP hD hS => ?_)
  rw [← e1, gw_set hG.2.1 hq gho_p] at hP hD
  exact kk H1 locs1 ⟨hP, hD, hS⟩
end GROWS
/-! what the tables and the heap's other cells give, wherever a method begins -/
def gE (D : va_G) (K : Nat → ClassId) (sa : Nat → Nat) (A : Nat → Prop) (U : State) (H : Heap) : Prop :=
  va_K D vwCl (gtys K) U ∧ (∀ q ∈ gnF, va_Nw (.fieldLinkNest q.1 q.2.1 q.2.2.1 q.2.2.2.1 q.2.2.2.2.1 q.2.2.2.2.2) U) ∧ (∀ q ∈ gnM, va_Nw (.methodLinkNest q.1 q.2.1 q.2.2.1 q.2.2.2) U) ∧ (∀ q ∈ gstr, vk_R q.1 q.2.1 q.2.2 (sa q.2.1) U) ∧ (∀ q ∈ gcst, va_Nw (.castable q.1 q.2) U) ∧ (∀ y ∈ gdcl, va_Nw (.declares y) U) ∧ (∀ q ∈ gnca, va_Nc q.1 q.2 U) ∧ vx_Zq Bundle.tN "UNASSIGNED_STACK" Bundle.steD A U H ∧ vx_Zq Bundle.tN "SUPPRESSED_SENTINEL" Bundle.listD A U H
theorem gE.at {D : va_G} {K : Nat → ClassId} {sa : Nat → Nat} {A B : Nat → Prop} {s U : State} {H : Heap} {locs : List Loc} (h : gE D K sa A s s.heap) (hS : va_S A s.heap H locs) (hAB : ∀ q, B q → A q) (hU : U.heap = H) (hW : s.WarmedH U.vm) : gE D K sa B U U.heap := by
  obtain ⟨h1, h2, h3, h4, h7, h8, h9, h5, h6⟩ := h
  subst hU
  exact ⟨va_K.moved hW.alike h1, fun q hq => va_Nw.warmF hW (h2 q hq), fun q hq => va_Nw.warmM hW (h3 q hq), fun q hq => vk_R.warm hW (h4 q hq), fun q hq => va_Nw.warmC hW (h7 q hq), fun y hy => va_Nw.warmD hW (h8 y hy), fun q hq => va_Nc.moved hW.alike (h9 q hq), vx_Zq.moved hW.alike ((h5.kept hS.2.1).narrow hAB), vx_Zq.moved hW.alike ((h6.kept hS.2.1).narrow hAB)⟩
def gPc (D : va_G) (K : Nat → ClassId) (sa : Nat → Nat) (ad : Nat → Nat) (sz : Nat) (g : gS) (av : List Value) : Array Value → State → Prop :=
  va_Pc av (fun U => U.heap.size = sz ∧ va_P D vwCl (gw K ad g) U.heap ∧ gE D K sa (va_A (gw K ad g) sz) U U.heap ∧ va_D (fun _ => True) (gw K ad g))
def gB (D : va_G) (K : Nat → ClassId) (ad : Nat → Nat) (A : Nat → Prop) (g : gS) (t : State) : Prop := va_P D vwCl (gw K ad g) t.heap ∧ va_D A (gw K ad g)
def gBX (D : va_G) (K : Nat → ClassId) (ad : Nat → Nat) (A : Nat → Prop) (E : String) (u : String × gS) (t : State) : Prop := u.1 = E ∧ gB D K ad A u.2 t
def gBr (D : va_G) (K : Nat → ClassId) (ad : Nat → Nat) (A : Nat → Prop) (u : Nat × gS) (a : Nat) (t : State) : Prop := a = ad u.1 ∧ gB D K ad A u.2 t
theorem gPc_blind {D : va_G} {K : Nat → ClassId} {sa : Nat → Nat} {ad : Nat → Nat} {sz : Nat} {g : gS} {av : List Value} : FrameBlind (gPc D K sa ad sz g av) := by
  intro a U g1 mk h
  obtain ⟨h0, h1, hP, hE, hD⟩ := h
  exact ⟨h0, h1, hP, hE.at (U := U.calling g1 mk a) va_S.rf (fun _ h => h) rfl (State.WarmedH.refl U), hD⟩
section GCALLS
variable {p : Program} {l : Launch} {e : Env} {R : Room} {s : State} {m : MethodId} {args : Array Value} {below : List Frame} {meth : Method} {c : Code} {H : Heap} {locs : List Loc} {cells slots : Nat} {Q : State → Prop}
variable {cc : ByteArray} {pc : Nat} {ls : Array Slot} {rest st0 : List Value} {D : va_G} {K : Nat → ClassId} {sa ad : Nat → Nat} {A : Nat → Prop} {g : gS} {mc ms : Nat} {a : Array Value}
theorem gfree {H0 : Heap} (hG : gX D K ad A H0 g H locs) (hA : ∀ q, H0.size ≤ q → A q) : ∀ q, va_A (gw K ad g) H.size q → A q := by
  intro q h
  rcases h with ⟨k, x, hk⟩ | h
  · exact hG.2.1.2 k _ hk
  · exact hA q (Nat.le_trans hG.2.2.1 h)
theorem gPc_at {av : List Value} (hE : gE D K sa A s s.heap) (hG : gX D K ad A s.heap g H locs) (hA : ∀ q, s.heap.size ≤ q → A q) : ∀ U : State, U.heap = H → s.WarmedH U.vm → gPc D K sa ad H.size g av av.toArray U := by
  intro U hU hW
  exact ⟨rfl, by rw [hU], by rw [hU]; exact hG.1, by have h := hE.at hG.2.2 (gfree hG hA) hU hW; exact h, hG.2.1.weaken (fun _ _ _ _ => trivial)⟩
theorem g_recv {H0 : Heap} (hK : va_K D vwCl (gtys K) s) (hG : gX D K ad A H0 g H locs) {k ci : Nat} (hk : gok k) {fs : List Value} (hc : gcont K ad g k = .inr (ci, fs)) {q : vw_C} (hcl : vwCl[ci]? = some q) : ∃ cell : Cell, H[ad k]? = some cell ∧ cell.vm.isStatics = false ∧ s.vm.findClass q.1 = some cell.cls := by
  obtain ⟨z, hz⟩ := gw_at hk
  exact va_recv hK hG.1 hcl (q0 := z) (fs := fs) (by rw [gw_get hz, hc])
theorem g_calli {post : Int32 → gS → Prop} (hr : va_Run p l e R s m args below meth c H locs cells slots mc ms (F0 m pc ls st0) rest (va_Qi post (gB D K ad (va_A (gw K ad g) H.size)) (va_A (gw K ad g) H.size) a) (va_A (gw K ad g) H.size)) (hG : gX D K ad A s.heap g H locs) (hA : ∀ q, s.heap.size ≤ q → A q)
    (kk : ∀ (r : Int32) (g1 : gS) (H1 : Heap) (locs1 : List Loc), post r g1 → gX D K ad A s.heap g1 H1 locs1 → W p l e R s m args below meth c H1 locs1 (cells + mc) (slots + ms) Q (F0 m (pc + 3) ls (.int r :: rest))) : W p l e R s m args below meth c H locs cells slots Q (F0 m pc ls st0) := by
  have hF := gfree hG hA
  refine va_calli hr hG.2.2 (fun q _ h => hF q h) hF (fun r u t H1 locs1 ht hvm hp hB hz hk hS => ?_)
  obtain ⟨b1, b2⟩ := hB
  rw [ht] at b1
  exact kk r u H1 locs1 hp ⟨b1, b2.weaken (fun _ _ _ h => hF _ h), hS⟩
theorem g_callv {post : gS → Prop} (hr : va_Run p l e R s m args below meth c H locs cells slots mc ms (F0 m pc ls st0) rest (va_Qv post (gB D K ad (va_A (gw K ad g) H.size)) (va_A (gw K ad g) H.size) a) (va_A (gw K ad g) H.size)) (hG : gX D K ad A s.heap g H locs) (hA : ∀ q, s.heap.size ≤ q → A q)
    (kk : ∀ (g1 : gS) (H1 : Heap) (locs1 : List Loc), post g1 → gX D K ad A s.heap g1 H1 locs1 → W p l e R s m args below meth c H1 locs1 (cells + mc) (slots + ms) Q (F0 m (pc + 3) ls rest)) : W p l e R s m args below meth c H locs cells slots Q (F0 m pc ls st0) := by
  have hF := gfree hG hA
  refine va_callv hr hG.2.2 (fun q _ h => hF q h) hF (fun u t H1 locs1 ht hvm hp hB hz hk hS => ?_)
  obtain ⟨b1, b2⟩ := hB
  rw [ht] at b1
  exact kk u H1 locs1 hp ⟨b1, b2.weaken (fun _ _ _ h => hF _ h), hS⟩
theorem g_xcalli {post : Int32 → gS → Prop} {px : String × gS → Prop} (hr : vx_Run p l e R s m args below meth c H locs cells slots mc ms (F0 m pc ls st0) rest (va_Qi post (gB D K ad (va_A (gw K ad g) H.size)) (va_A (gw K ad g) H.size) a) (vx_X px (gBX D K ad (va_A (gw K ad g) H.size)) (va_A (gw K ad g) H.size)) (va_A (gw K ad g) H.size)) (hG : gX D K ad A s.heap g H locs) (hA : ∀ q, s.heap.size ≤ q → A q)
    (kx : ∀ (E : String) (ce : Cell) (q9 : Addr) (g1 : gS) (H1 : Heap) (locs1 : List Loc), px (E, g1) → gX D K ad A s.heap g1 H1 locs1 → H1[q9]? = some ce → ce.vm = .none → s.vm.findClass E = some ce.cls → vx_W p l e R s m args below meth c H1 locs1 (cells + mc) (slots + ms) Q (F0 m pc ls rest) q9)
    (kk : ∀ (r : Int32) (g1 : gS) (H1 : Heap) (locs1 : List Loc), post r g1 → gX D K ad A s.heap g1 H1 locs1 → W p l e R s m args below meth c H1 locs1 (cells + mc) (slots + ms) Q (F0 m (pc + 3) ls (.int r :: rest))) : W p l e R s m args below meth c H locs cells slots Q (F0 m pc ls st0) := by
  have hF := gfree hG hA
  refine vx_calli hr hG.2.2 (fun q _ h => hF q h) hF (fun q _ h => hF q h) (fun E ce q9 u t H1 locs1 ht hvm hp hB hz hk hS h1 h2 h3 => ?_) (fun r u t H1 locs1 ht hvm hp hB hz hk hS => ?_)
  · obtain ⟨E1, g1⟩ := u
    obtain ⟨b0, b1, b2⟩ := hB
    cases b0
    rw [ht] at b1
    exact kx _ ce q9 g1 H1 locs1 hp ⟨b1, b2.weaken (fun _ _ _ h => hF _ h), hS⟩ h1 h2 h3
  · obtain ⟨b1, b2⟩ := hB
    rw [ht] at b1
    exact kk r u H1 locs1 hp ⟨b1, b2.weaken (fun _ _ _ h => hF _ h), hS⟩
/-- a call that answers a cell of the world, or throws -/
theorem g_xcallr {post : Nat × gS → Prop} {px : String × gS → Prop} (hr : vx_Run p l e R s m args below meth c H locs cells slots mc ms (F0 m pc ls st0) rest (va_Qr post (gBr D K ad (va_A (gw K ad g) H.size)) (va_A (gw K ad g) H.size) a) (vx_X px (gBX D K ad (va_A (gw K ad g) H.size)) (va_A (gw K ad g) H.size)) (va_A (gw K ad g) H.size)) (hG : gX D K ad A s.heap g H locs) (hA : ∀ q, s.heap.size ≤ q → A q)
    (kx : ∀ (E : String) (ce : Cell) (q9 : Addr) (g1 : gS) (H1 : Heap) (locs1 : List Loc), px (E, g1) → gX D K ad A s.heap g1 H1 locs1 → H1[q9]? = some ce → ce.vm = .none → s.vm.findClass E = some ce.cls → vx_W p l e R s m args below meth c H1 locs1 (cells + mc) (slots + ms) Q (F0 m pc ls rest) q9)
    (kk : ∀ (k : Nat) (g1 : gS) (H1 : Heap) (locs1 : List Loc), post (k, g1) → gX D K ad A s.heap g1 H1 locs1 → W p l e R s m args below meth c H1 locs1 (cells + mc) (slots + ms) Q (F0 m (pc + 3) ls (.ref (ad k) :: rest))) : W p l e R s m args below meth c H locs cells slots Q (F0 m pc ls st0) := by
  have hF := gfree hG hA
  have hAA : ∀ q, q < H.size → va_A (gw K ad g) H.size q → A q := fun q _ h => hF q h
  intro T hT X
  rcases hr T hT X with ⟨v, st₀, t, T', L, h0, X', hL, e1, e2, ⟨⟨u, ra, hv, hp, hb⟩, hf2⟩, st⟩ | ⟨q, st₀, t, T', L, E, ce, h0, X', hL, e1, e2, ⟨u, hp, hb, hf2⟩, hce, hcv, hcl, st⟩
  · cases hv
    obtain ⟨k1, k2, k3⟩ := vx_keep h0 e1 hG.2.2 hAA hF hL hf2
    obtain ⟨ku, gu1⟩ := u
    obtain ⟨b0, b1, b2⟩ := hb
    cases b0
    rw [← e1] at b1
    obtain ⟨t2, a1, c1⟩ := kk ku gu1 T'.heap (locs ++ L) hp ⟨b1, b2.weaken (fun _ _ _ h => hF _ h), k3⟩ T' rfl X'
    exact ⟨t2, st t2 a1, c1⟩
  · obtain ⟨k1, k2, k3⟩ := vx_keep h0 e1 hG.2.2 hAA hF hL hf2
    obtain ⟨E1, g1⟩ := u
    obtain ⟨b0, b1, b2⟩ := hb
    cases b0
    rw [← e1] at b1
    obtain ⟨t2, a1, c1⟩ := kx _ ce q g1 T'.heap (locs ++ L) hp ⟨b1, b2.weaken (fun _ _ _ h => hF _ h), k3⟩ (by rw [e1]; exact hce) hcv hcl T' rfl X'
    exact ⟨t2, st.trans a1, c1⟩
/-! ends -/
theorem g_zret {post : Int32 → gS → Prop} {v : Int32} {ty : FieldType} (hx : p.tables.exec = Jvm.exec) (hb : c.code = cc) (hr : meth.sig.returnType = some ty) (hn : narrow ty (.int v) = .int v) (hlocks : meth.locks = false) (hw : post v g) (hG : gX D K ad A s.heap g H locs) (hc : cells ≤ mc) (hs : slots ≤ ms) (hdg : decode cc pc = .ok (.ireturn, 1)) :
    W p l e R s m args below meth c H locs cells slots (MQ below (va_Qi post (gB D K ad A) A) args s mc ms A) (F0 m pc ls [.int v]) :=
  W.widen hc hs (W.zret hx hb hr hn (fun t ht hW => ⟨⟨v, g, rfl, hw, by rw [ht]; exact hG.1, hG.2.1⟩, hG.2.2.F ht⟩) hG.2.2.2.2 hdg hlocks)
theorem g_iret {post : Int32 → gS → Prop} {v : Int32} (hx : p.tables.exec = Jvm.exec) (hb : c.code = cc) (hr : meth.sig.returnType = some .int) (hlocks : meth.locks = false) (hw : post v g) (hG : gX D K ad A s.heap g H locs) (hc : cells ≤ mc) (hs : slots ≤ ms) (hdg : decode cc pc = .ok (.ireturn, 1)) :
    W p l e R s m args below meth c H locs cells slots (MQ below (va_Qi post (gB D K ad A) A) args s mc ms A) (F0 m pc ls [.int v]) :=
  W.widen hc hs (W.iret hx hb hr (fun t ht hW => ⟨⟨v, g, rfl, hw, by rw [ht]; exact hG.1, hG.2.1⟩, hG.2.2.F ht⟩) hG.2.2.2.2 hdg hlocks)
theorem g_vret {post : gS → Prop} (hx : p.tables.exec = Jvm.exec) (hb : c.code = cc) (hr : meth.sig.returnType = none) (hlocks : meth.locks = false) (hw : post g) (hG : gX D K ad A s.heap g H locs) (hc : cells ≤ mc) (hs : slots ≤ ms) (hdg : decode cc pc = .ok (.return_, 1)) :
    W p l e R s m args below meth c H locs cells slots (MQ below (va_Qv post (gB D K ad A) A) args s mc ms A) (F0 m pc ls []) :=
  W.widen hc hs (W.vret hx hb hr (fun t ht hW => ⟨⟨g, rfl, hw, by rw [ht]; exact hG.1, hG.2.1⟩, hG.2.2.F ht⟩) hG.2.2.2.2 hdg hlocks)
theorem g_aret {post : Nat × gS → Prop} {k : Nat} {n : String} (hx : p.tables.exec = Jvm.exec) (hb : c.code = cc) (hr : meth.sig.returnType = some (.object n)) (hlocks : meth.locks = false) (hw : post (k, g)) (hG : gX D K ad A s.heap g H locs) (hc : cells ≤ mc) (hs : slots ≤ ms) (hdg : decode cc pc = .ok (.areturn, 1)) :
    W p l e R s m args below meth c H locs cells slots (MQ below (va_Qr post (gBr D K ad A) A) args s mc ms A) (F0 m pc ls [.ref (ad k)]) :=
  W.widen hc hs (W.aret hx hb hr (Or.inl ⟨n, rfl⟩) (Or.inr ⟨_, rfl⟩) (fun t ht hW => ⟨⟨(k, g), ad k, rfl, hw, rfl, by rw [ht]; exact hG.1, hG.2.1⟩, hG.2.2.F ht⟩) hG.2.2.2.2 hdg hlocks)
/-- an exception of a callee goes on, out of a method without a table -/
theorem g_out {Qc : Array Value → State → Outcome → State → Prop} {px : String × gS → Prop} {E : String} {ce : Cell} {q : Addr} (hN : ∀ x ∈ c.exceptionTable.toList, False) (hlocks : meth.locks = false) (hcell : H[q]? = some ce) (hv : ce.vm = .none) (hcl : s.vm.findClass E = some ce.cls) (hw : px (E, g)) (hG : gX D K ad A s.heap g H locs) (hc : cells ≤ mc) (hs : slots ≤ ms) :
    vx_W p l e R s m args below meth c H locs cells slots (vx_MQ below Qc (vx_X px (gBX D K ad A) A) args s mc ms A) (F0 m pc ls rest) q :=
  vx_out (fun x hx => (hN x hx).elim) hlocks hcell hv hcl (fun t ht ha => ⟨(E, g), hw, ⟨rfl, by rw [ht]; exact hG.1, hG.2.1⟩, hG.2.2.F ht⟩) hG.2.2.2.2 hc hs
/-- 'throw new E("text")' -/
theorem g_throwS {Qc : Array Value → State → Outcome → State → Prop} {px : String × gS → Prop} {own cls text : String} {names : List String} {ik is ic : Nat} (hx : p.tables.exec = Jvm.exec) (hb : c.code = cc) (hl9 : l.stackTraces = false) (hown : s.vm.findClass own = some m.cls) (hcls : Bundle.fit cls = true) (hnames : ∀ n ∈ names, Bundle.fit n = true)
    (hk : (Cond.classLink own ik cls).before args s = true) (hini : (Cond.initialized cls).before args s = true) (hE : gE D K sa A s s.heap) (hstr : (own, is, text) ∈ gstr) (hat : ∀ w ∈ vx_atS own ic cls names, w.before args s = true) (hgood : ∀ w ∈ Cond.classLink own ik cls :: Cond.initialized cls :: vx_atS own ic cls names, vx_ot w = true)
    (hsize : ls.size = c.maxLocals) (hN : ∀ x ∈ c.exceptionTable.toList, False) (hlocks : meth.locks = false) (hw : px (cls, g)) (hG : gX D K ad A s.heap g H locs)
    (d0 : decode cc pc = .ok (.new ik, 3)) (d3 : decode cc (pc + 3) = .ok (.dup, 1)) (d4 : decode cc (pc + 4) = .ok (.ldc is, 2)) (d6 : decode cc (pc + 6) = .ok (.invokespecial ic, 3)) (d9 : decode cc (pc + 9) = .ok (.athrow, 1))
    (hRframes : names.length + 3 < R.frames) (hRlocals : (rest.map fun v => v.category).sum + (13 * (names.length + 1) + 43) ≤ R.locals) (hRcells : cells + 1 ≤ R.cells) (hRslots : slots + 6 ≤ R.slots) (hc : cells + 1 ≤ mc) (hs : slots + 6 ≤ ms) :
    W p l e R s m args below meth c H locs cells slots (vx_MQ below Qc (vx_X px (gBX D K ad A) A) args s mc ms A) (F0 m pc ls rest) :=
  vx_throwS hx hb hl9 hown hcls hnames hk hini (hE.2.2.2.1 _ hstr) hat hgood hE.2.2.2.2.2.2.2.1 hE.2.2.2.2.2.2.2.2 hG.2.2 hsize d0 d3 d4 d6 d9 (fun x hx => (hN x hx).elim) hRframes hRlocals hRcells hRslots hlocks
    (fun t ha hz hk => ⟨(cls, g), hw, ⟨rfl, hG.1.kept (fun k q hq => hk q.1 ((hG.1 k q hq).lt)), hG.2.1⟩, ⟨Nat.le_trans hG.2.2.1 hz, fun q h1 h2 => (hk q (Nat.lt_of_lt_of_le h1 hG.2.2.1)).trans (hG.2.2.2.1 q h1 h2)⟩⟩) hG.2.2.2.2 hc hs
end GCALLS
set_option maxRecDepth 20000 in
theorem hatg_IAE_58 : ∀ w ∈ (vx_atS RX2 58 "java/lang/IllegalArgumentException" ["java/lang/RuntimeException", "java/lang/Exception"]).filter goodWord, w ∈ lw_tbl := by decide +kernel
set_option maxRecDepth 20000 in
theorem hat_IAE_58 {D : va_G} {K : Nat → ClassId} {sa : Nat → Nat} {A : Nat → Prop} {args : Array Value} {s : State} {H : Heap} (hq : ∀ w ∈ gW, w.before args s = true) (hE : gE D K sa A s H) : ∀ w ∈ vx_atS RX2 58 "java/lang/IllegalArgumentException" ["java/lang/RuntimeException", "java/lang/Exception"], w.before args s = true :=
  vx_hat (L := vx_atS RX2 58 "java/lang/IllegalArgumentException" ["java/lang/RuntimeException", "java/lang/Exception"]) (B := [.castable "java/lang/IllegalArgumentException" "java/lang/IllegalArgumentException", .declares ⟨"java/lang/RuntimeException", "<init>", "(Ljava/lang/String;)V"⟩, .declares ⟨"java/lang/Exception", "<init>", "(Ljava/lang/String;)V"⟩, .declares ⟨"java/lang/Throwable", "<init>", "(Ljava/lang/String;)V"⟩]) (fun w hw => hq w (gW_of (hatg_IAE_58 w hw) (List.mem_filter.mp hw).2)) (by decide +kernel) (vx_c (va_Nw.use rfl (hE.2.2.2.2.1 ("java/lang/IllegalArgumentException", "java/lang/IllegalArgumentException") (by decide +kernel))) (vx_c (va_Nw.use rfl (hE.2.2.2.2.2.1 ⟨"java/lang/RuntimeException", "<init>", "(Ljava/lang/String;)V"⟩ (by decide +kernel))) (vx_c (va_Nw.use rfl (hE.2.2.2.2.2.1 ⟨"java/lang/Exception", "<init>", "(Ljava/lang/String;)V"⟩ (by decide +kernel))) (vx_c (va_Nw.use rfl (hE.2.2.2.2.2.1 ⟨"java/lang/Throwable", "<init>", "(Ljava/lang/String;)V"⟩ (by decide +kernel))) (vx_n)))))
set_option maxRecDepth 20000 in
theorem hgd_IAE_58 : ∀ w ∈ Cond.classLink RX2 54 "java/lang/IllegalArgumentException" :: Cond.initialized "java/lang/IllegalArgumentException" :: vx_atS RX2 58 "java/lang/IllegalArgumentException" ["java/lang/RuntimeException", "java/lang/Exception"], vx_ot w = true := by decide +kernel
set_option maxRecDepth 20000 in
theorem hatg_ISE_67 : ∀ w ∈ (vx_atS RX2 67 "java/lang/IllegalStateException" ["java/lang/RuntimeException", "java/lang/Exception"]).filter goodWord, w ∈ lw_tbl := by decide +kernel
set_option maxRecDepth 20000 in
theorem hat_ISE_67 {D : va_G} {K : Nat → ClassId} {sa : Nat → Nat} {A : Nat → Prop} {args : Array Value} {s : State} {H : Heap} (hq : ∀ w ∈ gW, w.before args s = true) (hE : gE D K sa A s H) : ∀ w ∈ vx_atS RX2 67 "java/lang/IllegalStateException" ["java/lang/RuntimeException", "java/lang/Exception"], w.before args s = true :=
  vx_hat (L := vx_atS RX2 67 "java/lang/IllegalStateException" ["java/lang/RuntimeException", "java/lang/Exception"]) (B := [.castable "java/lang/IllegalStateException" "java/lang/IllegalStateException", .declares ⟨"java/lang/RuntimeException", "<init>", "(Ljava/lang/String;)V"⟩, .declares ⟨"java/lang/Exception", "<init>", "(Ljava/lang/String;)V"⟩, .declares ⟨"java/lang/Throwable", "<init>", "(Ljava/lang/String;)V"⟩]) (fun w hw => hq w (gW_of (hatg_ISE_67 w hw) (List.mem_filter.mp hw).2)) (by decide +kernel) (vx_c (va_Nw.use rfl (hE.2.2.2.2.1 ("java/lang/IllegalStateException", "java/lang/IllegalStateException") (by decide +kernel))) (vx_c (va_Nw.use rfl (hE.2.2.2.2.2.1 ⟨"java/lang/RuntimeException", "<init>", "(Ljava/lang/String;)V"⟩ (by decide +kernel))) (vx_c (va_Nw.use rfl (hE.2.2.2.2.2.1 ⟨"java/lang/Exception", "<init>", "(Ljava/lang/String;)V"⟩ (by decide +kernel))) (vx_c (va_Nw.use rfl (hE.2.2.2.2.2.1 ⟨"java/lang/Throwable", "<init>", "(Ljava/lang/String;)V"⟩ (by decide +kernel))) (vx_n)))))
set_option maxRecDepth 20000 in
theorem hgd_ISE_67 : ∀ w ∈ Cond.classLink RX2 63 "java/lang/IllegalStateException" :: Cond.initialized "java/lang/IllegalStateException" :: vx_atS RX2 67 "java/lang/IllegalStateException" ["java/lang/RuntimeException", "java/lang/Exception"], vx_ot w = true := by decide +kernel
set_option maxRecDepth 20000 in
theorem hatg_IOB_156 : ∀ w ∈ (vx_atS RX2 156 "java/lang/IndexOutOfBoundsException" ["java/lang/RuntimeException", "java/lang/Exception"]).filter goodWord, w ∈ lw_tbl := by decide +kernel
set_option maxRecDepth 20000 in
theorem hat_IOB_156 {D : va_G} {K : Nat → ClassId} {sa : Nat → Nat} {A : Nat → Prop} {args : Array Value} {s : State} {H : Heap} (hq : ∀ w ∈ gW, w.before args s = true) (hE : gE D K sa A s H) : ∀ w ∈ vx_atS RX2 156 "java/lang/IndexOutOfBoundsException" ["java/lang/RuntimeException", "java/lang/Exception"], w.before args s = true :=
  vx_hat (L := vx_atS RX2 156 "java/lang/IndexOutOfBoundsException" ["java/lang/RuntimeException", "java/lang/Exception"]) (B := [.castable "java/lang/IndexOutOfBoundsException" "java/lang/IndexOutOfBoundsException", .declares ⟨"java/lang/RuntimeException", "<init>", "(Ljava/lang/String;)V"⟩, .declares ⟨"java/lang/Exception", "<init>", "(Ljava/lang/String;)V"⟩, .declares ⟨"java/lang/Throwable", "<init>", "(Ljava/lang/String;)V"⟩]) (fun w hw => hq w (gW_of (hatg_IOB_156 w hw) (List.mem_filter.mp hw).2)) (by decide +kernel) (vx_c (va_Nw.use rfl (hE.2.2.2.2.1 ("java/lang/IndexOutOfBoundsException", "java/lang/IndexOutOfBoundsException") (by decide +kernel))) (vx_c (va_Nw.use rfl (hE.2.2.2.2.2.1 ⟨"java/lang/RuntimeException", "<init>", "(Ljava/lang/String;)V"⟩ (by decide +kernel))) (vx_c (va_Nw.use rfl (hE.2.2.2.2.2.1 ⟨"java/lang/Exception", "<init>", "(Ljava/lang/String;)V"⟩ (by decide +kernel))) (vx_c (va_Nw.use rfl (hE.2.2.2.2.2.1 ⟨"java/lang/Throwable", "<init>", "(Ljava/lang/String;)V"⟩ (by decide +kernel))) (vx_n)))))
set_option maxRecDepth 20000 in
theorem hgd_IOB_156 : ∀ w ∈ Cond.classLink RX2 152 "java/lang/IndexOutOfBoundsException" :: Cond.initialized "java/lang/IndexOutOfBoundsException" :: vx_atS RX2 156 "java/lang/IndexOutOfBoundsException" ["java/lang/RuntimeException", "java/lang/Exception"], vx_ot w = true := by decide +kernel

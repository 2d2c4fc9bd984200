/-! rows of arrivals: (figures, bytes, due); the class's order is the reference's, sorted by due, those of the same time as they were put -/
abbrev aQ : Type := (Nat → Int32) × (Nat → Int32) × Nat
def ins (q : aQ) : List aQ → List aQ
  | [] => [q]
  | a :: L => if q.2.2 < a.2.2 then q :: a :: L else a :: ins q L
def srt (AL : List aQ) : List aQ := AL.foldl (fun L q => ins q L) []
def sOk (L : List aQ) : Prop := L.Pairwise (fun a b => a.2.2 ≤ b.2.2)
theorem srt_nil : srt [] = [] := rfl
theorem srt_snoc (AL : List aQ) (q : aQ) : srt (AL ++ [q]) = ins q (srt AL) := by simp [srt, List.foldl_append]
theorem ins_perm (q : aQ) : ∀ L : List aQ, (ins q L).Perm (q :: L)
  | [] => List.Perm.refl _
  | a :: L => by
    unfold ins
    by_cases h : q.2.2 < a.2.2
    · rw [if_pos h]
    · rw [if_neg h]
      exact ((ins_perm q L).cons a).trans (List.Perm.swap q a L)
theorem srt_perm (AL : List aQ) : (srt AL).Perm AL := by
  have h : ∀ (A : List aQ) (L : List aQ), (A.foldl (fun L q => ins q L) L).Perm (L ++ A) := by
    intro A
    induction A with
    | nil => intro L; simp
    | cons q A ih =>
      intro L
      rw [List.foldl_cons]
      refine (ih (ins q L)).trans ?_
      refine ((ins_perm q L).append_right A).trans ?_
      rw [List.cons_append]
      exact List.perm_middle.symm
  have h0 := h AL []
  rw [List.nil_append] at h0
  exact h0
theorem srt_len (AL : List aQ) : (srt AL).length = AL.length := (srt_perm AL).length_eq
theorem srt_mem {AL : List aQ} {q : aQ} : q ∈ srt AL ↔ q ∈ AL := (srt_perm AL).mem_iff
theorem ins_ok (q : aQ) : ∀ L : List aQ, sOk L → sOk (ins q L)
  | [], _ => by simp [ins, sOk]
  | a :: L, h => by
    unfold ins
    unfold sOk at h ⊢
    obtain ⟨h1, h2⟩ := List.pairwise_cons.mp h
    by_cases hq : q.2.2 < a.2.2
    · rw [if_pos hq]
      refine List.pairwise_cons.mpr ⟨fun b hb => ?_, h⟩
      rcases List.mem_cons.mp hb with rfl | hb
      · omega
      · have := h1 b hb
        omega
    · rw [if_neg hq]
      refine List.pairwise_cons.mpr ⟨fun b hb => ?_, ins_ok q L h2⟩
      rcases List.mem_cons.mp ((ins_perm q L).mem_iff.mp hb) with rfl | hb
      · omega
      · exact h1 b hb
theorem srt_ok (AL : List aQ) : sOk (srt AL) := by
  have h : ∀ (A : List aQ) (L : List aQ), sOk L → sOk (A.foldl (fun L q => ins q L) L) := by
    intro A
    induction A with
    | nil => intro L h; exact h
    | cons q A ih =>
      intro L h
      rw [List.foldl_cons]
      exact ih _ (ins_ok q L h)
  exact h AL [] List.Pairwise.nil
theorem ins_lt (q : aQ) (L : List aQ) (h : ∀ b ∈ L, q.2.2 < b.2.2) : ins q L = q :: L := by
  cases L with
  | nil => rfl
  | cons a L =>
    unfold ins
    rw [if_pos (h a List.mem_cons_self)]
theorem ins_filter (p : aQ → Bool) (q : aQ) : ∀ L : List aQ, sOk L → (ins q L).filter p = if p q then ins q (L.filter p) else L.filter p
  | [], _ => by
    by_cases hp : p q = true
    · simp [ins, hp]
    · simp [ins, hp]
  | a :: L, h => by
    obtain ⟨h1, h2⟩ := List.pairwise_cons.mp h
    have ih := ins_filter p q L h2
    by_cases hq : q.2.2 < a.2.2
    · have e1 : ins q (a :: L) = q :: a :: L := by unfold ins; rw [if_pos hq]
      have e2 : ins q ((a :: L).filter p) = q :: (a :: L).filter p := by
        apply ins_lt
        intro b hb
        rcases List.mem_cons.mp (List.mem_filter.mp hb).1 with rfl | hb
        · exact hq
        · have := h1 b hb
          omega
      rw [e1, e2]
      by_cases hp : p q = true
      · rw [if_pos hp, List.filter_cons_of_pos hp]
      · rw [if_neg hp, List.filter_cons_of_neg hp]
    · have e1 : ins q (a :: L) = a :: ins q L := by
        conv => lhs; unfold ins
        rw [if_neg hq]
      rw [e1]
      by_cases ha : p a = true
      · rw [List.filter_cons_of_pos ha, ih, List.filter_cons_of_pos ha]
        by_cases hp : p q = true
        · rw [if_pos hp, if_pos hp]
          conv => rhs; unfold ins
          rw [if_neg hq]
        · rw [if_neg hp, if_neg hp]
      · rw [List.filter_cons_of_neg ha, ih, List.filter_cons_of_neg ha]
theorem srt_filter (p : aQ → Bool) (AL : List aQ) : srt (AL.filter p) = (srt AL).filter p := by
  have h : ∀ (A : List aQ) (L : List aQ), sOk L → (A.filter p).foldl (fun L q => ins q L) (L.filter p) = (A.foldl (fun L q => ins q L) L).filter p := by
    intro A
    induction A with
    | nil => intro L _; rfl
    | cons q A ih =>
      intro L hL
      rw [List.foldl_cons, ← ih _ (ins_ok q L hL), ins_filter p q L hL]
      by_cases hp : p q = true
      · rw [List.filter_cons_of_pos hp, List.foldl_cons, if_pos hp]
      · rw [List.filter_cons_of_neg hp, if_neg hp]
  have := h AL [] List.Pairwise.nil
  simpa [srt] using this
/-- the class's place for a new one: behind the last that isn't later -/
theorem ins_at (q : aQ) : ∀ (L : List aQ) (k : Nat), sOk L → k ≤ L.length → (∀ j a, L[j]? = some a → j < k → a.2.2 ≤ q.2.2) → (∀ j a, L[j]? = some a → k ≤ j → q.2.2 < a.2.2) → ins q L = L.take k ++ q :: L.drop k
  | [], k, _, hk, _, _ => by
    have : k = 0 := by simpa using hk
    subst this
    rfl
  | a :: L, 0, h, _, _, h2 => by
    have := h2 0 a rfl (Nat.le_refl 0)
    unfold ins
    rw [if_pos this]
    rfl
  | a :: L, k + 1, h, hk, h1, h2 => by
    have ha := h1 0 a rfl (by omega)
    unfold ins
    rw [if_neg (by omega)]
    rw [ins_at q L k (List.pairwise_cons.mp h).2 (by simpa using hk) (fun j b hj hjk => h1 (j + 1) b (by simpa using hj) (by omega)) (fun j b hj hjk => h2 (j + 1) b (by simpa using hj) (by omega))]
    rfl

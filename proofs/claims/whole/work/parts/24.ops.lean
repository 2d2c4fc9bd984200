/-! next -/
theorem foldl_q (q : aQ) : ∀ (Y L : List aQ), (∀ b, b ∈ Y → q.2.2 ≤ b.2.2) → Y.foldl (fun L q => ins q L) (q :: L) = q :: Y.foldl (fun L q => ins q L) L
  | [], _, _ => rfl
  | b :: Y, L, h => by
    have hb := h b List.mem_cons_self
    rw [List.foldl_cons, List.foldl_cons]
    have e : ins b (q :: L) = q :: ins b L := by
      conv => lhs; unfold ins
      rw [if_neg (by omega)]
    rw [e]
    exact foldl_q q Y (ins b L) (fun b' hb' => h b' (List.mem_cons_of_mem _ hb'))
theorem srt_min (X Y : List aQ) (q : aQ) (hX : ∀ a, a ∈ X → q.2.2 < a.2.2) (hY : ∀ b, b ∈ Y → q.2.2 ≤ b.2.2) : srt (X ++ q :: Y) = q :: srt (X ++ Y) := by
  unfold srt
  rw [List.foldl_append, List.foldl_cons, List.foldl_append]
  rw [ins_lt q (X.foldl (fun L q => ins q L) []) (fun b hb => hX b (srt_mem.mp hb))]
  exact foldl_q q Y _ hY
theorem mid_get {α : Type} {X Y : List α} {p : α} (j : Nat) : (X ++ Y)[j]? = (X ++ p :: Y)[if j < X.length then j else j + 1]? := by
  by_cases h : j < X.length
  · rw [if_pos h, List.getElem?_append_left h, List.getElem?_append_left h]
  · rw [if_neg h, List.getElem?_append_right (by omega), List.getElem?_append_right (by omega), show j + 1 - X.length = (j - X.length) + 1 by omega, List.getElem?_cons_succ]
theorem mid_at {α : Type} {X Y : List α} {p : α} : (X ++ p :: Y)[X.length]? = some p := by
  rw [List.getElem?_append_right (Nat.le_refl _), Nat.sub_self]
  rfl
theorem rl_remove {f c : Nat} {x1 : Int32} {O : Nat → Int32} {post : gS → Prop} (hc : c < 512) : ∀ (m i : Nat) (g : gS), m + i = c → f ≤ i → g.1 4 4 = nI c → (∀ j, g.1 12 j = if f ≤ j ∧ j < i then O (j + 1) else O j) → (∀ G : gS, (∀ j, G.1 12 j = if f ≤ j ∧ j < c then O (j + 1) else O j) → (∀ r, r ≠ 12 → G.1 r = g.1 r) → G.2 = g.2 → post G) → wpl_X3_remove_24 post (m + 1) x1 (nI i) g
  | 0, i, g, hm, hf, h4, h12, hp => by
    unfold wpl_X3_remove_24
    rw [h4]
    have : i = c := by omega
    subst this
    exact ⟨fun _ => hp g h12 (fun _ _ => rfl) rfl, fun c => absurd (nI_le (Nat.le_refl _) (by omega)) c⟩
  | m + 1, i, g, hm, hf, h4, h12, hp => by
    unfold wpl_X3_remove_24
    rw [h4, nI_1]
    refine ⟨fun c => absurd c (nI_ge (by omega) (by omega)), fun _ i7 e7 => ?_⟩
    subst e7
    refine ⟨vin (by omega) (by decide), fun x9 e9 => ⟨vin (by omega) (by decide), fun g11 e11 x12 e12 => ?_⟩⟩
    rw [nI_clamp (by omega), h12, if_neg (by omega)] at e9
    rw [nI_clamp (by omega)] at e11
    subst e12
    subst e9
    refine rl_remove hc m (i + 1) g11 (by omega) (by omega) (by rw [e11, gi_r (by omega)]; exact h4) (fun j => ?_) (fun G q1 q2 q3 => hp G q1 (fun r hr => by rw [q2 r hr, e11, gi_r hr]) (by rw [q3, e11]; rfl))
    rw [e11]
    by_cases hj : j = i
    · subst hj
      rw [gi_s, if_pos (by omega)]
    · rw [gi_n (by omega), h12]
      by_cases hq : f ≤ j ∧ j < i
      · rw [if_pos hq, if_pos (by omega)]
      · rw [if_neg hq, if_neg (by omega)]
def frM (g G : gS) : Prop := (∀ i, i ≠ 4 → G.1 4 i = g.1 4 i) ∧ (∀ r, r ≠ 4 → r ≠ 12 → r ≠ 13 → G.1 r = g.1 r) ∧ G.2 = g.2
theorem frM_C {g G : gS} (h : frM g G) : sC g G := ⟨fun r hr => h.2.1 r (by omega) (by omega) (by omega), by rw [h.2.2], by rw [h.2.2], by rw [h.2.2]⟩
theorem frM_tr {a b c : gS} (h : frM a b) (h' : frM b c) : frM a c := ⟨fun r hr => (h'.1 r hr).trans (h.1 r hr), fun r h1 h2 h3 => (h'.2.1 r h1 h2 h3).trans (h.2.1 r h1 h2 h3), h'.2.2.trans h.2.2⟩
theorem RR_M {n T : Nat} {lg dl up ct : Nat → Int32} {fl : Nat → List Nat} {pl : List Nat} {AL : List aQ} {sm : Int32} {K : aQ} {g : gS} {AL' : List aQ} {G : gS} (h : RR n T lg dl up ct fl pl AL sm K g) (hf : frM g G) (hA : rA AL' G) : RR n T lg dl up ct fl pl AL' sm K G := by
  obtain ⟨a, b, c, d, e, f⟩ := h
  have z := hf.2.1
  exact ⟨rN_c (hf.1 2 (by omega)) (z 5 (by omega) (by omega) (by omega)) (z 6 (by omega) (by omega) (by omega)) (z 7 (by omega) (by omega) (by omega)) (z 10 (by omega) (by omega) (by omega)) a, rT_c (hf.1 1 (by omega)) b, rF_c (z 8 (by omega) (by omega) (by omega)) (z 9 (by omega) (by omega) (by omega)) c, rP_c (hf.1 3 (by omega)) (z 11 (by omega) (by omega) (by omega)) d, rK_c (hf.1 5 (by omega)) (z 15 (by omega) (by omega) (by omega)) (z 16 (by omega) (by omega) (by omega)) e, hA⟩
theorem w_remove {A B : List aQ} {X Y : List Nat} {p : Nat} {q : aQ} {g : gS} {post : gS → Prop} (h : rS (A ++ q :: B) (X ++ p :: Y) g) (hl : A.length = X.length) (h5 : (A ++ q :: B).length ≤ 512) (hp : ∀ G, rS (A ++ B) (X ++ Y) G → frM g G → post G) : wp_X3_remove post (nI X.length) g := by
  obtain ⟨h1, h2, h3, h4, h6, h7, h8⟩ := h
  have hlen : (A ++ q :: B).length = A.length + B.length + 1 := by simp; omega
  have hlen2 : (X ++ p :: Y).length = X.length + Y.length + 1 := by simp; omega
  have hp5 : p < 512 := h4 p (by simp)
  have hnd : (p :: (X ++ Y)).Nodup := (List.perm_middle.nodup_iff).mp h2
  obtain ⟨n1, n2⟩ := List.nodup_cons.mp hnd
  unfold wp_X3_remove
  rw [nI_clamp (by omega), h6 X.length p mid_at, nI_clamp (by omega)]
  refine ⟨vin (by omega) (by decide), vin hp5 (by decide), fun g3 e3 x4 e4 g5 e5 => ⟨(B.length) + 1, ?_⟩⟩
  have k0 : vp_nar .boolean (0 : Int32) = 0 := by decide +kernel
  rw [k0] at e3
  have hx : x4 = nI (A.length + B.length) := by rw [e4, e3, gi_r (by omega), h3, hlen, nI_pred]
  subst hx
  refine rl_remove (O := g.1 12) (f := X.length) (c := A.length + B.length) (by omega) B.length X.length g5 (by omega) (Nat.le_refl _) (by rw [e5, gi_s]) (fun j => by rw [e5, gi_r (by omega), e3, gi_r (by omega), if_neg (by omega)]) (fun G q1 q2 q3 => hp G ?_ ?_)
  · refine ⟨by rw [List.length_append, List.length_append]; omega, n2, by rw [q2 4 (by omega), e5, gi_s, List.length_append], fun p' hp' => h4 p' ?_, fun k p' hk => ?_, fun p' hp' => ?_, fun k p' q' hk hk' => ?_⟩
    · rcases List.mem_append.mp hp' with h | h
      · exact List.mem_append.mpr (Or.inl h)
      · exact List.mem_append.mpr (Or.inr (List.mem_cons_of_mem _ h))
    · have hkl := get_lt hk
      rw [List.length_append] at hkl
      rw [mid_get (p := p)] at hk
      rw [q1]
      by_cases hkx : k < X.length
      · rw [if_pos hkx] at hk
        rw [if_neg (by omega)]
        exact h6 k p' hk
      · rw [if_neg hkx] at hk
        rw [if_pos (by omega)]
        exact h6 (k + 1) p' hk
    · rw [q2 13 (by omega), e5, gi_r (by omega), e3]
      by_cases hpp : p' = p
      · subst hpp
        rw [gi_s, if_neg n1]
      · rw [gi_n (by omega), h7 p' hp']
        have : p' ∈ X ++ p :: Y ↔ p' ∈ X ++ Y := by simp [hpp]
        by_cases hm : p' ∈ X ++ Y
        · rw [if_pos hm, if_pos (this.mpr hm)]
        · rw [if_neg hm, if_neg (fun z => hm (this.mp z))]
    · rw [mid_get (p := p)] at hk
      rw [mid_get (p := q), hl] at hk'
      exact rO_c (g := g) (by rw [q2 14 (by omega), e5, gi_r (by omega), e3, gi_r (by omega)]) (by rw [q3, e5, e3]; rfl) (h8 _ p' q' hk hk')
  · refine ⟨fun i hi => by rw [q2 4 (by omega), e5, gi_n (by omega), e3, gi_r (by omega)], fun r r1 r2 r3 => by rw [q2 r r2, e5, gi_r r1, e3, gi_r r3], by rw [q3, e5, e3]; rfl⟩
theorem rl_n104 {p z : Nat} {q : aQ} {x1 : Int32} {post : Int32 → gS → Prop} (hp5 : p < 512) (hz : z ≤ 1480) (hqz : q.1 6 = nI z) : ∀ (m k : Nat) (g : gS), m + k = z → rO g p q → g.1 15 6 = nI z → (∀ i, i < k → g.1 16 i = q.2.1 i) → (∀ G : gS, (∀ i, i < z → G.1 16 i = q.2.1 i) → (∀ r, r ≠ 16 → G.1 r = g.1 r) → G.2 = g.2 → wp_X3_remove (fun g_10 => post 1 g_10) x1 (gi G 4 5 1)) → wpl_X3_next_104 post (m + 1) x1 (nI p) (nI k) g
  | 0, k, g, hm, h, h15, h16, hp => by
    unfold wpl_X3_next_104
    have e6 : g.1 15 (6 : Int32).toNatClampNeg = nI z := h15
    rw [e6]
    refine ⟨by unfold vp_in; decide, fun _ g9 e9 => ?_, fun c => absurd (nI_le (by omega) (by omega)) c⟩
    subst e9
    exact hp g (fun i hi => h16 i (by omega)) (fun _ _ => rfl) rfl
  | m + 1, k, g, hm, h, h15, h16, hp => by
    unfold wpl_X3_next_104
    have e6 : g.1 15 (6 : Int32).toNatClampNeg = nI z := h15
    rw [e6]
    refine ⟨by unfold vp_in; decide, fun c => absurd c (nI_ge (by omega) (by omega)), fun _ i11 e11 => ?_⟩
    have ei : i11 = nI (185 * p + k / 8) := by
      rw [e11, show (185 : Int32) * nI p = nI (185 * p) from pk_mul 185 p, show nI k / 8 = nI (k / 8) from pk_div (by omega) (by decide) (by decide), nI_add]
    subst ei
    refine ⟨vin (by omega) (by decide), fun x13 e13 => ⟨vin (by omega) (by decide), fun g15 e15 x16 e16 => ?_⟩⟩
    have er : nI k - nI k / 8 * 8 = nI (k % 8) := pk_rem (by omega) (by decide) (by decide)
    rw [nI_clamp (by omega), er, show (8 : Int32) * nI (k % 8) = nI (8 * (k % 8)) from pk_mul 8 _] at e13
    have ex : x13 = q.2.1 k := by rw [e13]; exact h.2.2 z hqz hz k (by omega)
    subst ex
    rw [nI_clamp (by omega)] at e15
    rw [nI_1] at e16
    subst e16
    refine rl_n104 hp5 hz hqz m (k + 1) g15 (by omega) (rO_c (g := g) (by rw [e15, gi_r (by omega)]) (by rw [e15]; rfl) h) (by rw [e15, gi_r (by omega)]; exact h15) (fun i hi => ?_) (fun G q1 q2 q3 => hp G q1 (fun r hr => by rw [q2 r hr, e15, gi_r hr]) (by rw [q3, e15]; rfl))
    rw [e15]
    by_cases hik : i = k
    · subst hik
      rw [gi_s]
    · rw [gi_n (by omega)]
      exact h16 i (by omega)
theorem rl_n73 {p : Nat} {q : aQ} {x1 : Int32} {post : Int32 → gS → Prop} (hp5 : p < 512) : ∀ (m k : Nat) (g : gS), m + k = 7 → rO g p q → (∀ i, i < k → g.1 15 i = q.1 i) → (∀ G : gS, (∀ i, i < 7 → G.1 15 i = q.1 i) → (∀ r, r ≠ 15 → G.1 r = g.1 r) → G.2 = g.2 → ∃ n, wpl_X3_next_104 post n x1 (nI p) 0 G) → wpl_X3_next_73 post (m + 1) x1 (nI p) (nI k) g
  | 0, k, g, hm, h, h15, hp => by
    unfold wpl_X3_next_73
    obtain rfl : k = 7 := by omega
    exact ⟨fun _ => hp g h15 (fun _ _ => rfl) rfl, fun c => absurd (by decide) c⟩
  | m + 1, k, g, hm, h, h15, hp => by
    unfold wpl_X3_next_73
    refine ⟨fun c => absurd c (nI_ge (b := 7) (by omega) (by decide)), fun _ i18 e18 => ?_⟩
    rw [show (8 : Int32) * nI p = nI (8 * p) from pk_mul 8 p, nI_add] at e18
    subst e18
    refine ⟨vin (by omega) (by decide), fun x20 e20 => ⟨vin (by omega) (by decide), fun g22 e22 x23 e23 => ?_⟩⟩
    rw [nI_clamp (by omega), h.2.1 k (by omega)] at e20
    subst e20
    rw [nI_clamp (by omega)] at e22
    rw [nI_1] at e23
    subst e23
    refine rl_n73 hp5 m (k + 1) g22 (by omega) (rO_c (g := g) (by rw [e22, gi_r (by omega)]) (by rw [e22]; rfl) h) (fun i hi => ?_) (fun G q1 q2 q3 => hp G q1 (fun r hr => by rw [q2 r hr, e22, gi_r hr]) (by rw [q3, e22]; rfl))
    rw [e22]
    by_cases hik : i = k
    · subst hik
      rw [gi_s]
    · rw [gi_n (by omega)]
      exact h15 i (by omega)
def scan (T : Nat) (AL : List aQ) (k : Nat) (x : Int32) : Prop := (x = -1 ∧ ∀ j a, AL[j]? = some a → j < k → T < a.2.2) ∨ (∃ f q, x = nI f ∧ f < k ∧ AL[f]? = some q ∧ q.2.2 ≤ T ∧ (∀ j a, AL[j]? = some a → j < f → q.2.2 < a.2.2) ∧ (∀ j a, AL[j]? = some a → f < j → j < k → q.2.2 ≤ a.2.2))
theorem rl_n9 {T : Nat} {AL : List aQ} {sl : List Nat} {g : gS} {post : Int32 → gS → Prop} (hT : rT T g) (hA : rS AL sl g) (hl : AL.length ≤ 512) (hb : T < 2 ^ 31) (hd : ∀ q, q ∈ AL → q.2.2 < 2 ^ 31) (hN : (∀ (j : Nat) (a : aQ), AL[j]? = some a → T < a.2.2) → post 0 g) (hF : ∀ (f : Nat) (q : aQ) (p : Nat), AL[f]? = some q → sl[f]? = some p → q.2.2 ≤ T → (∀ j a, AL[j]? = some a → j < f → q.2.2 < a.2.2) → (∀ j a, AL[j]? = some a → f < j → q.2.2 ≤ a.2.2) → ∃ n, wpl_X3_next_73 post n (nI f) (nI p) 0 g) : ∀ (m k : Nat) (x : Int32), m + k = AL.length → scan T AL k x → wpl_X3_next_9 post (m + 1) x (nI k) g
  | 0, k, x, hk, hx => by
    unfold wpl_X3_next_9
    rw [hA.2.2.1]
    refine ⟨fun _ => ?_, fun c => absurd (nI_le (by omega) (by omega)) c⟩
    rcases hx with ⟨rfl, h⟩ | ⟨f, q, rfl, h1, h2, h3, h4, h5⟩
    · exact ⟨fun c => absurd c (by decide), fun _ => hN (fun j a hj => h j a hj (by have := get_lt hj; omega))⟩
    · refine ⟨fun _ => ⟨vin (by omega) (by decide), fun x5 e5 => ?_⟩, fun c => absurd (nI_pos' (by omega)) c⟩
      obtain ⟨p, q', s1, s2⟩ := slot hA (k := f) (by omega)
      rw [nI_clamp (by omega), hA.2.2.2.2.1 f p s1] at e5
      subst e5
      exact hF f q p h2 s1 h3 h4 (fun j a hj hfj => h5 j a hj hfj (by have := get_lt hj; omega))
  | m + 1, k, x, hk, hx => by
    unfold wpl_X3_next_9
    rw [hA.2.2.1]
    refine ⟨fun c => absurd c (nI_ge (by omega) (by omega)), fun _ => ?_⟩
    obtain ⟨p, b, h1, h2⟩ := slot hA (k := k) (by omega)
    have hdb := hd b (get_mem h2)
    have ih := rl_n9 hT hA hl hb hd hN hF m (k + 1)
    refine w_due hA hl h1 h2 ⟨fun c x28 e28 => ?_, fun c => ⟨fun cx x30 e30 => ?_, fun cx => ?_⟩⟩
    · rw [hT] at c
      have c' := (nI_ltI hb hdb).mp c
      rw [nI_1] at e28
      subst e28
      refine ih x (by omega) ?_
      rcases hx with ⟨rfl, h⟩ | ⟨f, q, rfl, q1, q2, q3, q4, q5⟩
      · refine Or.inl ⟨rfl, fun j a hj hjk => ?_⟩
        rcases Nat.lt_or_ge j k with hl' | hl'
        · exact h j a hj hl'
        · obtain rfl : j = k := by omega
          rw [h2] at hj
          rw [← Option.some.inj hj]
          exact c'
      · refine Or.inr ⟨f, q, rfl, by omega, q2, q3, q4, fun j a hj hfj hjk => ?_⟩
        rcases Nat.lt_or_ge j k with hl' | hl'
        · exact q5 j a hj hfj hl'
        · obtain rfl : j = k := by omega
          rw [h2] at hj
          rw [← Option.some.inj hj]
          omega
    · rw [hT] at c
      have c' : b.2.2 ≤ T := Nat.not_lt.mp fun z => c (nI_lt z hdb)
      rw [nI_1] at e30
      subst e30
      refine ih (nI k) (by omega) ?_
      rcases hx with ⟨rfl, h⟩ | ⟨f, q, rfl, q1, q2, q3, q4, q5⟩
      · exact Or.inr ⟨k, b, rfl, by omega, h2, c', fun j a hj hjk => by have := h j a hj hjk; omega, fun j a hj h1 h2 => absurd h2 (by omega)⟩
      · exact absurd cx (nI_pos (by omega))
    · rw [hT] at c
      have c' : b.2.2 ≤ T := Nat.not_lt.mp fun z => c (nI_lt z hdb)
      rcases hx with ⟨rfl, h⟩ | ⟨f, q, rfl, q1, q2, q3, q4, q5⟩
      · exact absurd (by decide) cx
      obtain ⟨pf, qf, s1, s2⟩ := slot hA (k := f) (by omega)
      have hdq := hd q (get_mem q2)
      refine w_due hA hl h1 h2 (w_due hA hl s1 q2 ⟨fun c2 x36 e36 => ?_, fun c2 x37 e37 => ?_⟩)
      · have c3 := (nI_leI hdq hdb).mp c2
        rw [nI_1] at e36
        subst e36
        refine ih (nI f) (by omega) (Or.inr ⟨f, q, rfl, by omega, q2, q3, q4, fun j a hj hfj hjk => ?_⟩)
        rcases Nat.lt_or_ge j k with hl' | hl'
        · exact q5 j a hj hfj hl'
        · obtain rfl : j = k := by omega
          rw [h2] at hj
          rw [← Option.some.inj hj]
          exact c3
      · have c3 : b.2.2 < q.2.2 := Nat.not_le.mp fun z => c2 (nI_le z hdb)
        rw [nI_1] at e37
        subst e37
        refine ih (nI k) (by omega) (Or.inr ⟨k, b, rfl, by omega, h2, c', fun j a hj hjk => ?_, fun j a hj z1 z2 => absurd z2 (by omega)⟩)
        rcases Nat.lt_trichotomy j f with hl' | hl' | hl'
        · have := q4 j a hj hl'
          omega
        · subst hl'
          rw [q2] at hj
          rw [← Option.some.inj hj]
          exact c3
        · have := q5 j a hj hl' hjk
          omega
theorem cl_next {c o : Nat} {P : Nat → Nat} {post : Int32 → gS → Prop} (hc : c < 512) (ho : o < 514) (hP : ∀ j, j < 512 → P j < 514) : ∀ (m i : Nat) (g : gS), m + i = c → g.1 0 2 = nI c → g.2.2.1 < 514 → (∀ j, g.2.1 j = if j < i then P (j + 1) else P j) → (∀ G : gS, G.1 = g.1 → G.2.2 = g.2.2 → (∀ j, G.2.1 j = if j < c then P (j + 1) else P j) → post 1 (gi (gt (gp G c g.2.2.1) o) 0 3 1)) → wpl_X2_next_45 post (m + 1) o (nI i) g
  | 0, i, g, hm, h2, ht, hp, hpost => by
    unfold wpl_X2_next_45
    obtain rfl : i = c := by omega
    rw [h2, nI_clamp (by omega)]
    refine ⟨ho, fun _ => ⟨ht, vin hc (by decide), fun g12 e12 g13 e13 g14 e14 => ?_⟩, fun c => absurd (nI_le (Nat.le_refl _) (by omega)) c⟩
    subst e14
    subst e13
    subst e12
    exact hpost g rfl rfl hp
  | m + 1, i, g, hm, h2, ht, hp, hpost => by
    unfold wpl_X2_next_45
    rw [h2, nI_1]
    refine ⟨ho, fun c => absurd c (nI_ge (by omega) (by omega)), fun _ i15 e15 => ?_⟩
    subst e15
    rw [nI_clamp (by omega), nI_clamp (by omega)]
    have e1 : g.2.1 (i + 1) = P (i + 1) := by rw [hp, if_neg (by omega)]
    refine ⟨vin (by omega) (by decide), by rw [e1]; exact hP _ (by omega), vin (by omega) (by decide), fun g19 e19 x20 e20 => ?_⟩
    subst e20
    subst e19
    refine cl_next hc ho hP m (i + 1) _ (by omega) h2 ht (fun j => ?_) (fun G q1 q2 q3 => hpost G q1 q2 q3)
    show va_up g.2.1 i (g.2.1 (i + 1)) j = _
    by_cases hj : j = i
    · subst hj
      rw [va_up_self, e1, if_pos (by omega)]
    · rw [va_up_ne _ _ hj, hp]
      by_cases hq : j < i
      · rw [if_pos hq, if_pos (by omega)]
      · rw [if_neg hq, if_neg (by omega)]

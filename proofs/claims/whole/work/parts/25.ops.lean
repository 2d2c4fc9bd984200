theorem split_at {α : Type} : ∀ (L : List α) (f : Nat) (p : α), L[f]? = some p → ∃ A B, L = A ++ p :: B ∧ A.length = f
  | [], f, p, h => absurd h (by simp)
  | a :: L, 0, p, h => ⟨[], L, by rw [List.nil_append, show a = p from Option.some.inj h], rfl⟩
  | a :: L, f + 1, p, h => by
    obtain ⟨A, B, e1, e2⟩ := split_at L f p (by simpa using h)
    exact ⟨a :: A, B, by rw [e1]; rfl, by rw [List.length_cons, e2]⟩
theorem snoc_ex {α : Type} (L : List α) (m : Nat) (h : L.length = m + 1) : ∃ A q, L = A ++ [q] ∧ A.length = m := by
  obtain ⟨A, B, e1, e2⟩ := split_at L m _ (List.getElem?_eq_getElem (by omega))
  have hb : B.length = 0 := by
    have := congrArg List.length e1
    rw [List.length_append, List.length_cons] at this
    omega
  rw [List.length_eq_zero_iff.mp hb] at e1
  exact ⟨A, _, e1, e2⟩
theorem scan_ex (T : Nat) (AL : List aQ) : ∀ k, k ≤ AL.length → ∃ x, scan T AL k x
  | 0, _ => ⟨-1, Or.inl ⟨rfl, fun j a _ h => absurd h (by omega)⟩⟩
  | k + 1, hk => by
    obtain ⟨x, hx⟩ := scan_ex T AL k (by omega)
    have h2 := List.getElem?_eq_getElem (l := AL) (i := k) (by omega)
    generalize AL[k]'(by omega) = b at h2
    rcases hx with ⟨rfl, h⟩ | ⟨f, q, rfl, q1, q2, q3, q4, q5⟩
    · by_cases c' : b.2.2 ≤ T
      · exact ⟨nI k, Or.inr ⟨k, b, rfl, by omega, h2, c', fun j a hj hjk => by have := h j a hj hjk; omega, fun j a hj h1 h2 => absurd h2 (by omega)⟩⟩
      · refine ⟨-1, Or.inl ⟨rfl, fun j a hj hjk => ?_⟩⟩
        rcases Nat.lt_or_ge j k with hl' | hl'
        · exact h j a hj hl'
        · obtain rfl : j = k := by omega
          rw [h2] at hj
          rw [← Option.some.inj hj]
          omega
    · by_cases c' : b.2.2 < q.2.2
      · refine ⟨nI k, Or.inr ⟨k, b, rfl, by omega, h2, by omega, fun j a hj hjk => ?_, fun j a hj z1 z2 => absurd z2 (by omega)⟩⟩
        rcases Nat.lt_trichotomy j f with hl' | hl' | hl'
        · have := q4 j a hj hl'
          omega
        · subst hl'
          rw [q2] at hj
          rw [← Option.some.inj hj]
          exact c'
        · have := q5 j a hj hl' hjk
          omega
      · refine ⟨nI f, Or.inr ⟨f, q, rfl, by omega, q2, q3, q4, fun j a hj hfj hjk => ?_⟩⟩
        rcases Nat.lt_or_ge j k with hl' | hl'
        · exact q5 j a hj hfj hl'
        · obtain rfl : j = k := by omega
          rw [h2] at hj
          rw [← Option.some.inj hj]
          omega
theorem vin05 : vp_in (0 : Int32) 512 := by unfold vp_in; decide
theorem c_next_no {F n T : Nat} {lg dl up ct : Nat → Int32} {fl : Nat → List Nat} {pl : List Nat} {AL : List aQ} {sm : Int32} {K : aQ} {g : gS} {post : Int32 → gS → Prop} (h : RC F n T lg dl up ct fl pl AL sm K g) (hl : AL.length ≤ 512) (hb : T < 2 ^ 31) (hd : ∀ q, q ∈ AL → q.2.2 < 2 ^ 31) (hN : ∀ q, q ∈ AL → T < q.2.2) (hp : post 0 g) : wp_X2_next post g := by
  obtain ⟨a, b, c, d, e, f⟩ := h
  unfold wp_X2_next
  refine ⟨fun _ => hp, fun hc => ⟨vin05, by rw [cl0]; have := (f.2.2.1 0 (by omega)).1; omega, fun c1 => ?_, fun _ => hp⟩⟩
  rw [f.1] at hc
  have hlen : 0 < (srt AL).length := by rw [srt_len]; exact Nat.pos_of_ne_zero fun z => hc (by rw [z]; decide)
  have hq := List.getElem?_eq_getElem hlen
  rw [cl0, (f.2.1 0 _ hq).1, show g.1 0 1 = nI T from b] at c1
  have hm := srt_mem.mp (get_mem hq)
  have := (nI_leI (hd _ hm) hb).mp c1
  have := hN _ hm
  omega
theorem c_next_yes {F n T : Nat} {lg dl up ct : Nat → Int32} {fl : Nat → List Nat} {pl : List Nat} {X Y : List aQ} {sm : Int32} {K q : aQ} {g : gS} {post : Int32 → gS → Prop} (h : RC F n T lg dl up ct fl pl (X ++ q :: Y) sm K g) (hl : (X ++ q :: Y).length ≤ 512) (hb : T < 2 ^ 31) (hq : q.2.2 ≤ T) (hX : ∀ a, a ∈ X → q.2.2 < a.2.2) (hY : ∀ b, b ∈ Y → q.2.2 ≤ b.2.2) (hp : ∀ G, RC F n T lg dl up ct fl pl (X ++ Y) 1 q G → sR g G → post 1 G) : wp_X2_next post g := by
  obtain ⟨a, b, c, d, e, f⟩ := h
  have hs := srt_min X Y q hX hY
  have hlen : (X ++ q :: Y).length = (X ++ Y).length + 1 := by simp; omega
  have h0 := f.2.1 0 q (by rw [hs]; rfl)
  have hpm : ∀ j, j < 512 → g.2.1 j < 514 := fun j hj => by have := (f.2.2.1 j hj).1; omega
  have htk := e.2.1
  unfold wp_X2_next
  rw [cl0, f.1, hlen, h0.1, show g.1 0 1 = nI T from b, nI_pred]
  refine ⟨fun c => absurd c (nI_nlt (b := 1) (by omega) (by omega)), fun _ => ⟨vin05, hpm 0 (by omega), fun _ => ⟨vin05, hpm 0 (by omega), fun x7 e7 g8 e8 => ⟨(X ++ Y).length + 1, ?_⟩⟩, fun c => absurd (nI_le hq hb) c⟩⟩
  subst e7
  refine cl_next (c := (X ++ Y).length) (P := g.2.1) (by omega) (hpm 0 (by omega)) hpm (X ++ Y).length 0 g8 (by omega) (by rw [e8, gi_s]) (by rw [e8]; show g.2.2.1 < 514; omega) (fun j => by rw [e8, if_neg (by omega)]; rfl) (fun G q1 q2 q3 => ?_)
  have ht8 : g8.2.2.1 = g.2.2.1 := by rw [e8]; rfl
  rw [ht8]
  have hG1 : (gi (gt (gp G (X ++ Y).length g.2.2.1) (g.2.1 0)) 0 3 1).1 = (gi (gi g 0 2 (nI (X ++ Y).length)) 0 3 1).1 := by
    show gu G.1 0 3 1 = _
    rw [q1, e8]
    rfl
  have hG2 : (gi (gt (gp G (X ++ Y).length g.2.2.1) (g.2.1 0)) 0 3 1).2.1 = va_up G.2.1 (X ++ Y).length g.2.2.1 := rfl
  have hG3 : (gi (gt (gp G (X ++ Y).length g.2.2.1) (g.2.1 0)) 0 3 1).2.2.1 = g.2.1 0 := rfl
  have hG4 : (gi (gt (gp G (X ++ Y).length g.2.2.1) (g.2.1 0)) 0 3 1).2.2.2 = g.2.2.2 := by
    show G.2.2.2 = _
    rw [q2, e8]
    rfl
  generalize gi (gt (gp G (X ++ Y).length g.2.2.1) (g.2.1 0)) 0 3 1 = Z at hG1 hG2 hG3 hG4
  have hr : ∀ r, r ≠ 0 → Z.1 r = g.1 r := fun r hr => by rw [hG1, gi_r hr, gi_r hr]
  have h00 : ∀ i, i ≠ 2 → i ≠ 3 → Z.1 0 i = g.1 0 i := fun i h2 h3 => by rw [hG1, gi_n (by omega), gi_n (by omega)]
  have hpmZ : ∀ j, Z.2.1 j = if j = (X ++ Y).length then g.2.2.1 else if j < (X ++ Y).length then g.2.1 (j + 1) else g.2.1 j := fun j => by
    rw [hG2]
    by_cases hj : j = (X ++ Y).length
    · rw [if_pos hj, hj, va_up_self]
    · rw [if_neg hj, va_up_ne _ _ hj, q3]
  have inj := f.2.2.2
  have ntk : ∀ i, i < 512 → g.2.1 i ≠ g.2.2.1 := fun i hi => (f.2.2.1 i hi).2
  refine hp Z ⟨cN_c (g := g) (h00 0 (by omega) (by omega)) (fun r _ _ => hr r (by omega)) a, cT_c (g := g) (h00 1 (by omega) (by omega)) b, kF_c (g := g) (fun r _ => hr r (by omega)) c, kP_c (g := g) (h00 4 (by omega) (by omega)) (h00 5 (by omega) (by omega)) (hr 3 (by omega)) d, ⟨by rw [hG1, gi_s], by rw [hG3]; exact (f.2.2.1 0 (by omega)).1, fun _ => by rw [hG3]; exact cO_c (g := g) (fun r _ _ => by rw [hr r (by omega)]) (hr 3 (by omega)) h0⟩, ⟨by rw [hG1, gi_n (by omega), gi_s], fun k q' hk => ?_, fun i hi => ?_, fun i j hi hj hij => ?_⟩⟩ ⟨fun i _ => by rw [hr 4 (by omega)], fun r _ _ => hr r (by omega), by rw [hG4]⟩
  · have hkl := get_lt hk
    rw [srt_len] at hkl
    rw [hpmZ, if_neg (by omega), if_pos hkl]
    exact cO_c (g := g) (fun r _ _ => by rw [hr r (by omega)]) (hr 3 (by omega)) (f.2.1 (k + 1) q' (by rw [hs, List.getElem?_cons_succ]; exact hk))
  · rw [hpmZ, hG3]
    by_cases h1 : i = (X ++ Y).length
    · rw [if_pos h1]
      exact ⟨htk, fun z => ntk 0 (by omega) z.symm⟩
    · rw [if_neg h1]
      by_cases h2 : i < (X ++ Y).length
      · rw [if_pos h2]
        exact ⟨(f.2.2.1 (i + 1) (by omega)).1, fun z => absurd (inj (i + 1) 0 (by omega) (by omega) z) (by omega)⟩
      · rw [if_neg h2]
        exact ⟨(f.2.2.1 i (by omega)).1, fun z => absurd (inj i 0 (by omega) (by omega) z) (by omega)⟩
  · rw [hpmZ, hpmZ] at hij
    by_cases h1 : i = (X ++ Y).length
    · rw [if_pos h1] at hij
      by_cases h2 : j = (X ++ Y).length
      · omega
      · rw [if_neg h2] at hij
        by_cases h3 : j < (X ++ Y).length
        · rw [if_pos h3] at hij
          exact absurd hij.symm (ntk (j + 1) (by omega))
        · rw [if_neg h3] at hij
          exact absurd hij.symm (ntk j hj)
    · rw [if_neg h1] at hij
      by_cases h2 : j = (X ++ Y).length
      · rw [if_pos h2] at hij
        by_cases h3 : i < (X ++ Y).length
        · rw [if_pos h3] at hij
          exact absurd hij (ntk (i + 1) (by omega))
        · rw [if_neg h3] at hij
          exact absurd hij (ntk i hi)
      · rw [if_neg h2] at hij
        by_cases h3 : i < (X ++ Y).length
        · rw [if_pos h3] at hij
          by_cases h4 : j < (X ++ Y).length
          · rw [if_pos h4] at hij
            have := inj (i + 1) (j + 1) (by omega) (by omega) hij
            omega
          · rw [if_neg h4] at hij
            have := inj (i + 1) j (by omega) (by omega) hij
            omega
        · rw [if_neg h3] at hij
          by_cases h4 : j < (X ++ Y).length
          · rw [if_pos h4] at hij
            have := inj i (j + 1) (by omega) (by omega) hij
            omega
          · rw [if_neg h4] at hij
            exact inj i j hi hj hij
theorem r_next_yes {n T : Nat} {lg dl up ct : Nat → Int32} {fl : Nat → List Nat} {pl : List Nat} {X Y : List aQ} {sm : Int32} {K q : aQ} {g : gS} {post : Int32 → gS → Prop} (h : RR n T lg dl up ct fl pl (X ++ q :: Y) sm K g) (hl : (X ++ q :: Y).length ≤ 512) (hb : T < 2 ^ 31) (hd : ∀ a, a ∈ X ++ q :: Y → a.2.2 < 2 ^ 31) (hz : ∃ z, z ≤ 1480 ∧ q.1 6 = nI z) (hq : q.2.2 ≤ T) (hX : ∀ a, a ∈ X → q.2.2 < a.2.2) (hY : ∀ b, b ∈ Y → q.2.2 ≤ b.2.2) (hp : ∀ G, RR n T lg dl up ct fl pl (X ++ Y) 1 q G → sC g G → post 1 G) : wp_X3_next post g := by
  unfold wp_X3_next
  intro g1 e1
  have h1 : RR n T lg dl up ct fl pl (X ++ q :: Y) sm K g1 := by rw [e1]; exact RR_s sR_code h
  have s1 : sC g g1 := by rw [e1]; exact sC_i (by omega) (by omega)
  obtain ⟨a, b, c, d, e, sl, f⟩ := h1
  have hat : (X ++ q :: Y)[X.length]? = some q := mid_at
  refine ⟨(X ++ q :: Y).length + 1, rl_n9 b f hl hb hd (fun hN => ?_) (fun f' q' p h1 h2 h3 h4 h5 => ?_) (X ++ q :: Y).length 0 (-1) (by omega) (Or.inl ⟨rfl, fun j a _ hj => absurd hj (by omega)⟩)⟩
  · have := hN _ q hat
    omega
  have hf : f' = X.length := by
    rcases Nat.lt_trichotomy f' X.length with hlt | hlt | hlt
    · have k1 := h5 X.length q hat hlt
      have k2 : (X ++ q :: Y)[f']? = X[f']? := List.getElem?_append_left hlt
      rw [k2] at h1
      have := hX q' (get_mem h1)
      omega
    · exact hlt
    · have k1 := h4 X.length q hat hlt
      have k2 : (X ++ q :: Y)[f']? = (q :: Y)[f' - X.length]? := List.getElem?_append_right (by omega)
      rw [k2] at h1
      rcases List.mem_cons.mp (get_mem h1) with rfl | hm
      · omega
      · have := hY q' hm
        omega
  subst hf
  have hqq : q' = q := by
    rw [hat] at h1
    exact (Option.some.inj h1).symm
  subst hqq
  obtain ⟨z, hz1, hz2⟩ := hz
  have hp5 := f.2.2.2.1 p (get_mem h2)
  have hO := f.2.2.2.2.2.2 _ p q' h2 hat
  obtain ⟨SA, SB, es, el⟩ := split_at sl X.length p h2
  refine ⟨8, rl_n73 hp5 7 0 g1 (by omega) hO (fun i hi => absurd hi (by omega)) (fun G1 k1 k2 k3 => ⟨z + 1, rl_n104 hp5 hz1 hz2 z 0 G1 (by omega) (rO_c (g := g1) (k2 14 (by omega)) (by rw [k3]) hO) ((k1 6 (by omega)).trans hz2) (fun i hi => absurd hi (by omega)) (fun G2 m1 m2 m3 => ?_)⟩)⟩
  have hr : ∀ r, r ≠ 15 → r ≠ 16 → G2.1 r = g1.1 r := fun r r1 r2 => (m2 r r2).trans (k2 r r1)
  have hr2 : G2.2 = g1.2 := m3.trans k3
  have e15 : G2.1 15 = G1.1 15 := m2 15 (by omega)
  have hH : RR n T lg dl up ct fl pl (X ++ q' :: Y) 1 q' (gi G2 4 5 1) := by
    have h4 : ∀ i, i ≠ 5 → (gi G2 4 5 1).1 4 i = g1.1 4 i := fun i hi => by rw [gi_n (by omega), hr 4 (by omega) (by omega)]
    have h5 : ∀ r, r ≠ 4 → r ≠ 15 → r ≠ 16 → (gi G2 4 5 1).1 r = g1.1 r := fun r r1 r2 r3 => by rw [gi_r r1, hr r r2 r3]
    have w : ∀ r, r ≠ 4 ∧ r ≠ 15 ∧ r ≠ 16 → (gi G2 4 5 1).1 r = g1.1 r := fun r ⟨r1, r2, r3⟩ => h5 r r1 r2 r3
    exact ⟨rN_c (g := g1) (h4 2 (by omega)) (w 5 (by decide)) (w 6 (by decide)) (w 7 (by decide)) (w 10 (by decide)) a, rT_c (g := g1) (h4 1 (by omega)) b, rF_c (g := g1) (w 8 (by decide)) (w 9 (by decide)) c, rP_c (g := g1) (h4 3 (by omega)) (w 11 (by decide)) d, ⟨gi_s, fun _ => ⟨fun k hk => by rw [gi_r (by omega), e15]; exact k1 k hk, fun z' hz' hz5 i hi => by rw [gi_r (by omega)]; exact m1 i (by rw [hz2] at hz'; have := (nI_eq (by omega) (by omega)).mp hz'; omega)⟩⟩, rA_c (g := g1) (h4 4 (by omega)) (w 12 (by decide)) (w 13 (by decide)) (w 14 (by decide)) (by show G2.2.2.2 17 = _; rw [hr2]) ⟨sl, f⟩⟩
  have hS : rS (X ++ q' :: Y) (SA ++ p :: SB) (gi G2 4 5 1) := by
    rw [← es]
    have w : ∀ r, r ≠ 4 ∧ r ≠ 15 ∧ r ≠ 16 → (gi G2 4 5 1).1 r = g1.1 r := fun r ⟨r1, r2, r3⟩ => by rw [gi_r r1, hr r r2 r3]
    have w4 : (gi G2 4 5 1).1 4 4 = g1.1 4 4 := by rw [gi_n (by omega), hr 4 (by omega) (by omega)]
    have w17 : (gi G2 4 5 1).2.2.2 17 = g1.2.2.2 17 := by show G2.2.2.2 17 = _; rw [hr2]
    unfold rS rO at f ⊢
    simpa only [w4, w 12 (by decide), w 13 (by decide), w 14 (by decide), w17] using f
  have sH : sC g1 (gi G2 4 5 1) := ⟨fun r hr' => by rw [gi_r (by omega), hr r (by omega) (by omega)], by show G2.2.1 = _; rw [hr2], by show G2.2.2.1 = _; rw [hr2], by show G2.2.2.2 18 = _; rw [hr2]⟩
  rw [← el]
  exact w_remove hS el.symm hl (fun G hG hf => hp G (RR_M hH hf ⟨_, hG⟩) (sC_tr s1 (sC_tr sH (frM_C hf))))
theorem op_next {t F n T : Nat} {lg dl up ct : Nat → Int32} {fl : Nat → List Nat} {pl : List Nat} {AL : List aQ} {sm : Int32} {K : aQ} {g : gS} {C : gS → Prop} (ht : t < 512) (hJ : J t F n T lg dl up ct fl pl AL sm K g) (hC : ∀ g', Inv (t + 1) g' → C g') : wp_X2_next (fun r g1 => wp_X3_next (fun r' g2 => (((r = r') → C g2) ∧ ((¬ r = r') → False))) g1) g := by
  obtain ⟨hW, hC0, hR0⟩ := id hJ
  have hT : T ≤ 1000 * t := hW.2.1
  have hd : ∀ q, q ∈ AL → q.2.2 < 2 ^ 31 := fun q hq => by have := (hW.2.2.2.2.2.2.2.2.2 q hq).1; omega
  have hl : AL.length ≤ 512 := hW.2.2.2.2.2.2.2.2.1
  obtain ⟨x, ⟨rfl, h⟩ | ⟨f, q, rfl, q1, q2, q3, q4, q5⟩⟩ := scan_ex T AL AL.length (Nat.le_refl _)
  · refine c_next_no hC0 hl (by omega) hd (fun q hq => ?_) ?_
    · obtain ⟨j, hj⟩ := List.getElem?_of_mem hq
      exact h j q hj (get_lt hj)
    · unfold wp_X3_next
      intro g1 e1
      have h1 : RR n T lg dl up ct fl pl AL sm K g1 := by rw [e1]; exact RR_s sR_code hR0
      have hJ1 : J t F n T lg dl up ct fl pl AL sm K g1 := by rw [e1]; exact J_code hJ
      obtain ⟨a, b, c, d, e, sl, f⟩ := h1
      refine ⟨AL.length + 1, rl_n9 b f hl (by omega) hd (fun hN => ⟨fun _ => hC _ (J_inv (J_up (Nat.le_succ t) hJ1)), fun z => z rfl⟩) (fun f' q' p h1 h2 h3 h4 h5 => ?_) AL.length 0 (-1) (by omega) (Or.inl ⟨rfl, fun j a _ hj => absurd hj (by omega)⟩)⟩
      · have := h f' q' h1 (get_lt h1)
        omega
  · obtain ⟨X, Y, rfl, hX⟩ := split_at AL f q q2
    have b1 : ∀ a, a ∈ X → q.2.2 < a.2.2 := fun a ha => by
      obtain ⟨j, hj⟩ := List.getElem?_of_mem ha
      have hjl := get_lt hj
      exact q4 j a (by rw [List.getElem?_append_left hjl]; exact hj) (by omega)
    have b2 : ∀ a, a ∈ Y → q.2.2 ≤ a.2.2 := fun a ha => by
      obtain ⟨j, hj⟩ := List.getElem?_of_mem ha
      have hjl := get_lt hj
      exact q5 (X.length + 1 + j) a (by rw [List.getElem?_append_right (by omega), show X.length + 1 + j - X.length = j + 1 by omega, List.getElem?_cons_succ]; exact hj) (by omega) (by rw [List.length_append, List.length_cons]; omega)
    refine c_next_yes hC0 hl (by omega) q3 b1 b2 (fun G hG hs => r_next_yes (RR_s hs hR0) hl (by omega) hd (hW.2.2.2.2.2.2.2.2.2 q (get_mem q2)).2.1 q3 b1 b2 (fun G' hR' hs' => ⟨fun _ => hC _ (J_inv (t := t + 1) ⟨?_, RC_s hs' hG, hR'⟩), fun z => z rfl⟩))
    obtain ⟨w1, w2, w3, w4, w5, w6, w7, w8, w9, w10⟩ := aW_up (Nat.le_succ t) hJ.1
    refine ⟨w1, w2, w3, w4, w5, w6, w7, w8, ?_, fun a ha => w10 a ?_⟩
    · have : (X ++ q :: Y).length = (X ++ Y).length + 1 := by simp; omega
      omega
    · rcases List.mem_append.mp ha with h | h
      · exact List.mem_append.mpr (Or.inl h)
      · exact List.mem_append.mpr (Or.inr (List.mem_cons_of_mem _ h))
theorem op_underWay {t F n T : Nat} {lg dl up ct : Nat → Int32} {fl : Nat → List Nat} {pl : List Nat} {AL : List aQ} {sm : Int32} {K : aQ} {g : gS} {C : gS → Prop} (hJ : J t F n T lg dl up ct fl pl AL sm K g) (hC : ∀ g', Inv (t + 1) g' → C g') : wp_X2_underWay (fun r g1 => wp_X3_underWay (fun r' g2 => (((r = r') → C g2) ∧ ((¬ r = r') → False))) g1) g := by
  unfold wp_X2_underWay wp_X3_underWay
  intro g1 e1
  obtain ⟨sl, f⟩ := hJ.2.2.2.2.2.2.2
  have hJ1 : J t F n T lg dl up ct fl pl AL sm K g1 := by rw [e1]; exact J_code hJ
  have e : g.1 0 2 = g1.1 4 4 := by rw [e1, gi_n (by omega), f.2.2.1]; exact hJ.2.1.2.2.2.2.2.1
  refine ⟨fun _ => hC _ (J_inv (J_up (Nat.le_succ t) hJ1)), fun z => z e⟩

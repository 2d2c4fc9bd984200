/-! link -/
def keepP (i : Nat) (q : aQ) : Bool := !decide (q.1 0 = nI i)
def pmOK (g : gS) : Prop := (∀ i, i < 512 → g.2.1 i < 513 ∧ g.2.1 i ≠ g.2.2.1) ∧ (∀ i j, i < 512 → j < 512 → g.2.1 i = g.2.1 j → i = j)
theorem cO_1 {B : Nat} {g g' : gS} {o : Nat} {q : aQ} (h : g'.1 = g.1) (hc : cO B g o q) : cO B g' o q := cO_c (fun r _ _ => by rw [h]) (by rw [h]) hc
theorem cl_lose {B i0 : Nat} {L : List aQ} {post : Int32 → gS → Prop} (hl : L.length ≤ 512) : ∀ (m i c : Nat) (g : gS), m + i = L.length → ((L.take i).filter (keepP i0)).length = c → g.1 0 2 = nI L.length → (∀ (j : Nat) (q : aQ), ((L.take i).filter (keepP i0))[j]? = some q → cO B g (g.2.1 j) q) → (∀ (j : Nat) (q : aQ), L[j]? = some q → i ≤ j → cO B g (g.2.1 j) q) → pmOK g → (∀ G : gS, G.1 = g.1 → G.2.2 = g.2.2 → pmOK G → (∀ (j : Nat) (q : aQ), (L.filter (keepP i0))[j]? = some q → cO B G (G.2.1 j) q) → post (nI (L.length - (L.filter (keepP i0)).length)) (gi G 0 2 (nI (L.filter (keepP i0)).length))) → wpl_X2_loseArrivalsOf_4 post (m + 1) (nI i0) (nI c) (nI i) g
  | 0, i, c, g, hm, hc, h2, hk, hr, hpm, hp => by
    unfold wpl_X2_loseArrivalsOf_4
    rw [List.take_of_length_le (by omega)] at hc hk
    have hcl : c ≤ L.length := by rw [← hc]; exact List.length_filter_le _ _
    rw [h2]
    refine ⟨fun _ x2 e2 g3 e3 => ?_, fun c => absurd (nI_le (by omega) (by omega)) c⟩
    rw [pk_sub hcl] at e2
    subst e2
    subst e3
    subst hc
    exact hp g rfl rfl hpm hk
  | m + 1, i, c, g, hm, hc, h2, hk, hr, hpm, hp => by
    unfold wpl_X2_loseArrivalsOf_4
    have hci : c ≤ i := by
      have h1 : ((L.take i).filter (keepP i0)).length ≤ (L.take i).length := List.length_filter_le _ _
      rw [List.length_take] at h1
      omega
    have hq := List.getElem?_eq_getElem (l := L) (i := i) (by omega)
    generalize L[i]'(by omega) = q at hq
    have hO := hr i q hq (Nat.le_refl _)
    have e31 : g.1 31 (g.2.1 i) = q.1 0 := hO.2.1 0 (by omega)
    rw [h2, nI_clamp (by omega), nI_clamp (by omega), e31, nI_1, nI_1]
    have htake : (L.take (i + 1)).filter (keepP i0) = (L.take i).filter (keepP i0) ++ [q].filter (keepP i0) := by
      rw [List.take_add_one, hq, List.filter_append]
      rfl
    refine ⟨fun c => absurd c (nI_ge (by omega) (by omega)), fun _ => ⟨vin (by omega) (by decide), by have := (hpm.1 i (by omega)).1; omega, fun hx x7 e7 => ?_, fun hx => ⟨vin (by omega) (by decide), by have := (hpm.1 c (by omega)).1; omega, vin (by omega) (by decide), fun g11 e11 => ⟨vin (by omega) (by decide), fun g13 e13 x14 e14 x15 e15 => ?_⟩⟩⟩⟩
    · subst e7
      have ef : [q].filter (keepP i0) = [] := by simp [keepP, hx]
      rw [ef, List.append_nil] at htake
      exact cl_lose hl m (i + 1) c g (by omega) (by rw [htake]; exact hc) h2 (by rw [htake]; exact hk) (fun j q hj hij => hr j q hj (by omega)) hpm hp
    · subst e14
      subst e15
      have ef : [q].filter (keepP i0) = [q] := by simp [keepP, hx]
      rw [ef] at htake
      subst e11
      have z1 : g13.1 = g.1 := by rw [e13]; rfl
      have z2 : g13.2.2 = g.2.2 := by rw [e13]; rfl
      have z3 : ∀ j, g13.2.1 j = g.2.1 (if j = c then i else if j = i then c else j) := fun j => by
        rw [e13]
        show va_up (va_up g.2.1 i (g.2.1 c)) c (g.2.1 i) j = _
        by_cases h1 : j = c
        · rw [if_pos h1, h1, va_up_self]
        · rw [if_neg h1, va_up_ne _ _ h1]
          by_cases h3 : j = i
          · rw [if_pos h3, h3, va_up_self]
          · rw [if_neg h3, va_up_ne _ _ h3]
      refine cl_lose hl m (i + 1) (c + 1) g13 (by omega) (by rw [htake, List.length_append, hc]; rfl) (by rw [z1]; exact h2) (fun j q' hj => ?_) (fun j q' hj hij => ?_) ⟨fun j hj => ?_, fun j j' hj hj' hjj => ?_⟩ (fun G q1 q2 q3 q4 => hp G (q1.trans z1) (q2.trans z2) q3 q4)
      · rw [htake] at hj
        rw [z3]
        rcases snoc_get hj with ⟨k1, k2⟩ | ⟨k1, k2⟩
        · rw [hc] at k1
          rw [if_neg (by omega), if_neg (by omega)]
          exact cO_1 z1 (hk j q' k2)
        · rw [hc] at k1
          rw [if_pos k1, k2]
          exact cO_1 z1 hO
      · rw [z3, if_neg (by omega), if_neg (by omega)]
        exact cO_1 z1 (hr j q' hj (by omega))
      · rw [z3, z2]
        exact hpm.1 _ (by split <;> (try split) <;> omega)
      · rw [z3, z3] at hjj
        have := hpm.2 _ _ (by split <;> (try split) <;> omega) (by split <;> (try split) <;> omega) hjj
        split at this <;> split at this <;> (try split at this) <;> (try split at this) <;> omega
theorem RC_up {F n T : Nat} {lg dl up ct : Nat → Int32} {fl : Nat → List Nat} {pl : List Nat} {AL : List aQ} {sm : Int32} {K : aQ} {g : gS} {i : Nat} {v : Int32} (hi : i < 24) (h : RC F n T lg dl up ct fl pl AL sm K g) : RC F n T lg dl (upd up i v) ct fl pl AL sm K (gi g 22 i v) := by
  obtain ⟨a, b, c, d, e, f⟩ := h
  refine ⟨⟨by rw [gi_r (by omega)]; exact a.1, fun j hj => ?_⟩, cT_c (g := g) (by rw [gi_r (by omega)]) b, kF_c (g := g) (fun r _ => gi_r (by omega)) c, kP_c (g := g) (by rw [gi_r (by omega)]) (by rw [gi_r (by omega)]) (gi_r (by omega)) d, cK_c (g := g) (by rw [gi_r (by omega)]) (gi_r (by omega)) rfl (fun r _ _ => by rw [gi_r (by omega)]) e, cA_c (g := g) (by rw [gi_r (by omega)]) (gi_r (by omega)) rfl rfl (fun r _ _ => gi_r (by omega)) f⟩
  obtain ⟨q1, q2, q3, q4⟩ := a.2 j hj
  by_cases hij : j = i
  · subst hij
    simp [gi, gu, upd, q1, q2, q4]
  · simp [gi, gu, upd, hij, q1, q2, q3, q4]
theorem RR_up {n T : Nat} {lg dl up ct : Nat → Int32} {fl : Nat → List Nat} {pl : List Nat} {AL : List aQ} {sm : Int32} {K : aQ} {g : gS} {i : Nat} {v : Int32} (hi : i < 24) (h : RR n T lg dl up ct fl pl AL sm K g) : RR n T lg dl (upd up i v) ct fl pl AL sm K (gi g 7 i v) := by
  obtain ⟨a, b, c, d, e, f⟩ := h
  refine ⟨⟨by rw [gi_r (by omega)]; exact a.1, fun j hj => ?_⟩, rT_c (g := g) (by rw [gi_r (by omega)]) b, rF_c (g := g) (gi_r (by omega)) (gi_r (by omega)) c, rP_c (g := g) (by rw [gi_r (by omega)]) (gi_r (by omega)) d, rK_c (g := g) (by rw [gi_r (by omega)]) (gi_r (by omega)) (gi_r (by omega)) e, rA_c (g := g) (by rw [gi_r (by omega)]) (gi_r (by omega)) (gi_r (by omega)) (gi_r (by omega)) rfl f⟩
  obtain ⟨q1, q2, q3, q4⟩ := a.2 j hj
  by_cases hij : j = i
  · subst hij
    simp [gi, gu, upd, q1, q2, q4]
  · simp [gi, gu, upd, hij, q1, q2, q3, q4]
theorem c_link {F n T : Nat} {lg dl up ct : Nat → Int32} {fl : Nat → List Nat} {pl : List Nat} {AL : List aQ} {sm : Int32} {K : aQ} {g : gS} {post : Int32 → gS → Prop} {px : String × gS → Prop} {i : Nat} {p2 : Int32} (hn : n ≤ 24) (hi : i < n) (h : RC F n T lg dl up ct fl pl AL sm K g) (hl : AL.length ≤ 512) (h2 : p2 = 0 ∨ p2 = 1) (h0 : p2 = 0 → ∀ G, RC F n T lg dl (upd up i 0) ct fl pl (AL.filter (keepP i)) sm K G → sR g G → post (nI (AL.length - (AL.filter (keepP i)).length)) G) (h1 : p2 = 1 → ∀ G, RC F n T lg dl (upd up i 1) ct fl pl AL sm K G → sR g G → post 0 G) : wp_X2_link post px (nI i) p2 g := by
  have hi24 : i < 24 := by omega
  unfold wp_X2_link
  refine w_nn hn h.1.1 (fun i' hi' ep => ?_) (fun hx => absurd rfl (hx i hi))
  have : i = i' := (nI_eq (by omega) (by omega)).mp ep
  subst this
  have hR := RC_up (v := p2) hi24 h
  refine ⟨i, g, rfl, hi24, ?_, ?_, fun g6 e6 => ?_⟩
  · rcases h2 with rfl | rfl <;> rfl
  · rcases h2 with rfl | rfl <;> decide +kernel
  rw [← e6] at hR
  have hs : sR g g6 := by rw [e6]; exact sR_i (by omega)
  rcases h2 with rfl | rfl
  · refine ⟨fun _ => ?_, fun c => absurd rfl c⟩
    unfold wp_X2_loseArrivalsOf
    obtain ⟨a, b, c, d, e, f⟩ := hR
    refine ⟨(srt AL).length + 1, cl_lose (B := F + pl.length) (i0 := i) (L := srt AL) (by rw [srt_len]; exact hl) (srt AL).length 0 0 g6 (by omega) rfl (by rw [srt_len]; exact f.1) (fun j q hj => absurd hj (by simp)) (fun j q hj _ => f.2.1 j q hj) f.2.2 (fun G q1 q2 q3 q4 => ?_)⟩
    have ef := srt_filter (keepP i) AL
    have el : ((srt AL).filter (keepP i)).length = (AL.filter (keepP i)).length := by rw [← ef, srt_len]
    rw [el, srt_len]
    have hG : (gi G 0 2 (nI (AL.filter (keepP i)).length)).1 = (gi g6 0 2 (nI (AL.filter (keepP i)).length)).1 := by
      show gu G.1 _ _ _ = _
      rw [q1]
      rfl
    have hr : ∀ r, r ≠ 0 → (gi G 0 2 (nI (AL.filter (keepP i)).length)).1 r = g6.1 r := fun r hr => by rw [hG, gi_r hr]
    have h00 : ∀ j, j ≠ 2 → (gi G 0 2 (nI (AL.filter (keepP i)).length)).1 0 j = g6.1 0 j := fun j hj => by rw [hG, gi_n (by omega)]
    refine h0 rfl _ ⟨cN_c (g := g6) (h00 0 (by omega)) (fun r _ _ => hr r (by omega)) a, cT_c (g := g6) (h00 1 (by omega)) b, kF_c (g := g6) (fun r _ => hr r (by omega)) c, kP_c (g := g6) (h00 4 (by omega)) (h00 5 (by omega)) (hr 3 (by omega)) d, cK_c (g := g6) (h00 3 (by omega)) (hr 3 (by omega)) (by show G.2.2.1 = _; rw [q2]) (fun r _ _ => by rw [hr r (by omega)]) e, ⟨gi_s, fun k q hk => ?_, q3⟩⟩ (sR_tr hs ⟨fun j _ => by rw [hr 4 (by omega)], fun r _ _ => hr r (by omega), by show G.2.2.2 17 = _; rw [q2]⟩)
    rw [ef] at hk
    exact cO_c (g := G) (fun r _ _ => by rw [gi_r (by omega)]) (gi_r (by omega)) (q4 k q hk)
  · exact ⟨fun c => absurd c (by decide), fun _ => h1 rfl _ hR hs⟩
theorem rl_link {i : Nat} {post : Int32 → gS → Prop} (hi : i < 24) : ∀ (m : Nat) (A B : List aQ) (X Y : List Nat) (lost : Nat) (g : gS), A.length = m → X.length = m → rS (A ++ B) (X ++ Y) g → ¬ g.1 7 i = 0 → (A ++ B).length ≤ 512 → (∀ (G : gS) (X' : List Nat), rS (A.filter (keepP i) ++ B) X' G → frM g G → post (nI (lost + (A.length - (A.filter (keepP i)).length))) (gi G 7 i 0)) → wpl_X3_link_36 post (m + 1) (nI i) 0 (nI lost) (nI m + (-1)) g
  | 0, A, B, X, Y, lost, g, hA, hX, h, h7, hl, hp => by
    unfold wpl_X3_link_36
    refine ⟨fun _ => ⟨vin hi (by decide), fun g9 e9 => ?_⟩, fun c => absurd (by decide) c⟩
    have hA0 := List.length_eq_zero_iff.mp hA
    subst hA0
    have k0 : vp_nar .boolean (0 : Int32) = 0 := by decide +kernel
    rw [nI_clamp (by omega), k0] at e9
    subst e9
    exact hp g _ h ⟨fun _ _ => rfl, fun _ _ _ _ => rfl, rfl⟩
  | m + 1, A, B, X, Y, lost, g, hA, hX, h, h7, hl, hp => by
    unfold wpl_X3_link_36
    obtain ⟨A0, q, rfl, hA0⟩ := snoc_ex A m hA
    obtain ⟨X0, p, rfl, hX0⟩ := snoc_ex X m hX
    rw [List.append_assoc, List.append_assoc] at h
    rw [List.append_assoc] at hl
    have hlen : (A0 ++ ([q] ++ B)).length = A0.length + B.length + 1 := by simp; omega
    have hat : (X0 ++ ([p] ++ Y))[m]? = some p := by rw [← hX0]; exact mid_at
    have hat2 : (A0 ++ ([q] ++ B))[m]? = some q := by rw [← hA0]; exact mid_at
    have hp5 := h.2.2.2.1 p (get_mem hat)
    have hO := h.2.2.2.2.2.2 m p q hat hat2
    have e14 : g.1 14 (8 * p) = q.1 0 := hO.2.1 0 (by omega)
    rw [pk_m1, nI_clamp (by omega), nI_clamp (by omega), h.2.2.2.2.1 m p hat]
    refine ⟨fun c => absurd c (nI_pos (by omega)), fun _ => ⟨vin hi (by decide), fun c => absurd c h7, fun _ => ⟨fun c => absurd rfl c, fun _ => ⟨vin (by omega) (by decide), fun i18 e18 => ?_⟩⟩⟩⟩
    rw [show (8 : Int32) * nI p = nI (8 * p) from pk_mul 8 p] at e18
    subst e18
    rw [nI_clamp (by omega), e14]
    refine ⟨vin (by omega) (by decide), fun hx x21 e21 => ?_, fun hx => ?_⟩
    · subst e21
      have ef : (A0 ++ [q]).filter (keepP i) = A0.filter (keepP i) ++ [q] := by rw [List.filter_append]; simp [keepP, hx]
      refine rl_link hi m A0 ([q] ++ B) X0 ([p] ++ Y) lost g hA0 hX0 h h7 hl (fun G X' hG hf => ?_)
      rw [ef] at hp
      have := hp G X' (by rw [List.append_assoc]; exact hG) hf
      rw [List.length_append, List.length_append, Nat.add_sub_add_right] at this
      exact this
    · have ef : (A0 ++ [q]).filter (keepP i) = A0.filter (keepP i) := by rw [List.filter_append]; simp [keepP, hx]
      have hw := w_remove (A := A0) (B := B) (X := X0) (Y := Y) (p := p) (q := q) (g := g) (post := fun g_22 => (∀ x_23 : Int32, x_23 = nI lost + 1 → (∀ x_24 : Int32, x_24 = nI m + (-1) → (wpl_X3_link_36 post (m + 1) (nI i) 0 x_23 x_24 g_22)))) h (hA0.trans hX0.symm) hl (fun G hG hf x23 e23 x24 e24 => ?_)
      · rw [hX0] at hw
        exact hw
      rw [nI_1] at e23
      subst e23
      subst e24
      refine rl_link hi m A0 B X0 Y (lost + 1) G hA0 hX0 hG (by rw [hf.2.1 7 (by omega) (by omega) (by omega)]; exact h7) (by rw [List.length_append]; omega) (fun G' X' hG' hf' => ?_)
      rw [ef] at hp
      have := hp G' X' hG' (frM_tr hf hf')
      have hle : (A0.filter (keepP i)).length ≤ A0.length := List.length_filter_le _ _
      rw [List.length_append, show lost + (A0.length + [q].length - (A0.filter (keepP i)).length) = lost + 1 + (A0.length - (A0.filter (keepP i)).length) by show lost + (A0.length + 1 - _) = _; omega] at this
      exact this
theorem op_link {t F n T : Nat} {lg dl up ct : Nat → Int32} {fl : Nat → List Nat} {pl : List Nat} {AL : List aQ} {sm : Int32} {K : aQ} {g : gS} {Q : Int32 → gS → Prop} {p1 p2 : Int32} (h2 : p2 = 0 ∨ p2 = 1) (hJ : J t F n T lg dl up ct fl pl AL sm K g) (hQ : ∀ k g1, (∀ C : gS → Prop, (∀ g', Inv (t + 1) g' → C g') → wp_X3_link (fun b g2 => endK C k b g2) p1 p2 g1) → Q k g1) : wp_L_link Q p1 p2 g := by
  have hn := hJ.1.1
  have hl : AL.length ≤ 512 := hJ.1.2.2.2.2.2.2.2.2.1
  by_cases hx : ∃ i, i < n ∧ p1 = nI i
  rotate_left
  · have hx' : ∀ i, i < n → p1 ≠ nI i := fun i hi e => hx ⟨i, hi, e⟩
    unfold wp_L_link wp_X2_link
    refine w_nn hn hJ.2.1.1.1 (fun i hi ep => absurd ep (hx' i hi)) (fun _ => ⟨rfl, hQ _ _ (fun C hC => ?_)⟩)
    unfold wp_X3_link
    refine w_isNet (n := n) hn hJ.2.2.1.1 (fun i' hi' ep' => absurd ep' (hx' i' hi')) (fun hx => ⟨fun _ g7 e7 => ?_, fun c => absurd rfl c⟩)
    subst e7
    exact bad (by decide) hJ hC
  obtain ⟨i, hi, rfl⟩ := hx
  have hi24 : i < 24 := by omega
  obtain ⟨w1, w2, w3, w4, w5, w6, w7, w8, w9, w10⟩ := aW_up (Nat.le_succ t) hJ.1
  have hup : ∀ v, v = 0 ∨ v = 1 → ∀ j, j < 24 → upd up i v j = 0 ∨ upd up i v j = 1 := fun v hv j hj => by
    by_cases hji : j = i
    · subst hji
      rw [pk_us]
      exact hv
    · rw [pk_un hji]
      exact w4 j hj
  unfold wp_L_link
  refine c_link hn hi hJ.2.1 hl h2 (fun hp2 G hG hs => ⟨vin01, fun g4 e4 => ?_⟩) (fun hp2 G hG hs => ⟨vin01, fun g4 e4 => ?_⟩)
  · subst hp2
    refine hQ _ _ (fun C hC => ?_)
    have hR : RR n T lg dl up ct fl pl AL sm K g4 := by rw [e4]; exact RR_s (sR_tr hs sR_j) hJ.2.2
    unfold wp_X3_link
    refine w_isNet (n := n) hn hR.1.1 (fun i' hi' ep' => ⟨fun c => absurd c (by decide), fun _ g7 e7 => ?_⟩) (fun hx => absurd rfl (hx i hi))
    have hR7 : RR n T lg dl up ct fl pl AL sm K g7 := by rw [e7]; exact RR_s sR_code hR
    have s7 : sC g4 g7 := by rw [e7]; exact sC_i (by omega) (by omega)
    have c7 : g7.1 4 0 = 0 := by rw [e7, gi_s]
    rw [c7]
    refine ⟨fun _ x28 e28 => ?_, fun c => absurd (by decide) c⟩
    obtain ⟨sl, f⟩ := id hR7.2.2.2.2.2
    rw [f.2.2.1, Int32.sub_eq_add_neg] at e28
    subst e28
    have hW' : aW (t + 1) F n T lg dl (upd up i 0) fl pl (AL.filter (keepP i)) := by
      refine ⟨w1, w2, w3, hup 0 (Or.inl rfl), w5, w6, w7, w8, Nat.le_trans (List.length_filter_le _ _) w9, fun q hq => ?_⟩
      obtain ⟨m1, m2⟩ := List.mem_filter.mp hq
      obtain ⟨v1, v2, j, v3, v4, v5⟩ := w10 q m1
      refine ⟨v1, v2, j, v3, v4, ?_⟩
      rw [pk_un (fun z => ?_)]
      · exact v5
      · subst z
        simp [keepP, v4] at m2
    have hup7 : g7.1 7 i = up i := (hR7.1.2 i hi24).2.2.1
    have k0 : vp_nar .boolean (0 : Int32) = 0 := by decide +kernel
    by_cases hu : up i = 0
    · have hall : AL.filter (keepP i) = AL := by
        refine List.filter_eq_self.mpr (fun q hq => ?_)
        obtain ⟨v1, v2, j, v3, v4, v5⟩ := w10 q hq
        have hji : ¬ j = i := fun z => by
          rw [z, hu] at v5
          exact absurd v5 (by decide)
        have : ¬ nI j = nI i := fun z => hji ((nI_eq (by omega) (by omega)).mp z)
        simp [keepP, v4, this]
      rw [hall] at hW' hG e4
      have e0 : nI (AL.length - AL.length) = 0 := by rw [Nat.sub_self]; rfl
      rw [e0] at e4
      have hend : ∀ g9 : gS, g9 = gi g7 7 ((nI i).toNatClampNeg) (vp_nar .boolean 0) → endK C 0 0 g9 := fun g9 e9 => by
        rw [nI_clamp (by omega), k0] at e9
        refine fin hW' hG (by rw [e9]; exact RR_up hi24 hR7) ?_ (by rw [e9, gi_r (by omega)]; exact c7) hC
        rw [← e4]
        exact sC_tr s7 (by rw [e9]; exact sC_i (by omega) (by omega))
      refine ⟨1, ?_⟩
      unfold wpl_X3_link_36
      refine ⟨fun _ => ⟨vin hi24 (by decide), hend⟩, fun _ => ⟨vin hi24 (by decide), fun _ => ⟨vin hi24 (by decide), hend⟩, fun c => absurd ?_ c⟩⟩
      rw [nI_clamp (by omega), hup7, hu]
    · refine ⟨AL.length + 1, ?_⟩
      have hsl : sl.length = AL.length := f.1
      have := rl_link (post := fun b g2 => endK C 0 b g2) hi24 AL.length AL [] sl [] 0 g7 rfl hsl (by rw [List.append_nil, List.append_nil]; exact f) (by rw [hup7]; exact hu) (by rw [List.append_nil]; exact hl) (fun G' X' hG' hf' => ?_)
      · exact this
      rw [List.append_nil] at hG'
      rw [Nat.zero_add]
      refine fin hW' hG (RR_up hi24 (RR_M hR7 hf' ⟨_, hG'⟩)) ?_ (by rw [gi_r (by omega), hf'.1 0 (by omega)]; exact c7) hC
      rw [← e4]
      exact sC_tr s7 (sC_tr (frM_C hf') (sC_i (by omega) (by omega)))
  · subst hp2
    refine hQ _ _ (fun C hC => ?_)
    have hR : RR n T lg dl up ct fl pl AL sm K g4 := by rw [e4]; exact RR_s (sR_tr hs sR_j) hJ.2.2
    unfold wp_X3_link
    refine w_isNet (n := n) hn hR.1.1 (fun i' hi' ep' => ⟨fun c => absurd c (by decide), fun _ g7 e7 => ?_⟩) (fun hx => absurd rfl (hx i hi))
    have hR7 : RR n T lg dl up ct fl pl AL sm K g7 := by rw [e7]; exact RR_s sR_code hR
    have s7 : sC g4 g7 := by rw [e7]; exact sC_i (by omega) (by omega)
    have c7 : g7.1 4 0 = 0 := by rw [e7, gi_s]
    rw [c7]
    refine ⟨fun _ x28 e28 => ⟨1, ?_⟩, fun c => absurd (by decide) c⟩
    have k1 : vp_nar .boolean (1 : Int32) = 1 := by decide +kernel
    have hW' : aW (t + 1) F n T lg dl (upd up i 1) fl pl AL := by
      refine ⟨w1, w2, w3, hup 1 (Or.inr rfl), w5, w6, w7, w8, w9, fun q hq => ?_⟩
      obtain ⟨v1, v2, j, v3, v4, v5⟩ := w10 q hq
      refine ⟨v1, v2, j, v3, v4, ?_⟩
      by_cases hji : j = i
      · subst hji
        rw [pk_us]
      · rw [pk_un hji]
        exact v5
    have hend : ∀ g9 : gS, g9 = gi g7 7 ((nI i).toNatClampNeg) (vp_nar .boolean 1) → endK C 0 0 g9 := fun g9 e9 => by
      rw [nI_clamp (by omega), k1] at e9
      refine fin hW' hG (by rw [e9]; exact RR_up hi24 hR7) ?_ (by rw [e9, gi_r (by omega)]; exact c7) hC
      rw [← e4]
      exact sC_tr s7 (by rw [e9]; exact sC_i (by omega) (by omega))
    unfold wpl_X3_link_36
    exact ⟨fun _ => ⟨vin hi24 (by decide), hend⟩, fun _ => ⟨vin hi24 (by decide), fun _ => ⟨vin hi24 (by decide), hend⟩, fun _ => ⟨fun _ => ⟨vin hi24 (by decide), hend⟩, fun c => absurd c (by decide)⟩⟩⟩

/-! fates -/
def fbs (v : Int64) : Nat → Nat → List Nat
  | 0, _ => []
  | m + 1, k => fb v k :: fbs v m (k + 1)
theorem fbs_len (v : Int64) : ∀ m k, (fbs v m k).length = m
  | 0, _ => rfl
  | m + 1, k => by
    show (fbs v m (k + 1)).length + 1 = m + 1
    rw [fbs_len v m (k + 1)]
theorem fbs_lt (v : Int64) : ∀ m k b, b ∈ fbs v m k → b < 4
  | 0, _, b, h => absurd h (by simp [fbs])
  | m + 1, k, b, h => by
    rcases List.mem_cons.mp h with rfl | h
    · exact fb_lt v k
    · exact fbs_lt v m (k + 1) b h
theorem up_up {α : Type} (f : Nat → α) (i : Nat) (a b : α) : va_up (va_up f i a) i b = va_up f i b := by
  funext x
  by_cases h : x = i
  · subst h
    rw [va_up_self, va_up_self]
  · rw [va_up_ne _ _ h, va_up_ne _ _ h, va_up_ne _ _ h]
theorem up_id {α : Type} (f : Nat → α) (i : Nat) : va_up f i (f i) = f := by
  funext x
  by_cases h : x = i
  · subst h
    rw [va_up_self]
  · rw [va_up_ne _ _ h]
def frF (g G : gS) : Prop := (∀ r, r < 24 ∨ (25 < r ∧ r < 200) → G.1 r = g.1 r) ∧ G.2 = g.2
theorem frF_tr {a b c : gS} (h : frF a b) (h' : frF b c) : frF a c := ⟨fun r hr => (h'.1 r hr).trans (h.1 r hr), h'.2.trans h.2⟩
theorem frF_i {g : gS} {r i : Nat} {v : Int32} (h : r = 24 ∨ r = 25 ∨ 200 ≤ r) : frF g (gi g r i v) := ⟨fun _ _ => gi_r (by omega), rfl⟩
theorem frF_R {g G : gS} (h : frF g G) : sR g G := ⟨fun i _ => by rw [h.1 4 (by omega)], fun r _ _ => h.1 r (by omega), by rw [h.2]⟩
theorem RC_F {F n T : Nat} {lg dl up ct : Nat → Int32} {fl : Nat → List Nat} {pl : List Nat} {AL : List aQ} {sm : Int32} {K : aQ} {g : gS} {fl' : Nat → List Nat} {G : gS} (h : RC F n T lg dl up ct fl pl AL sm K g) (hf : frF g G) (hF : kF fl' G) : RC F n T lg dl up ct fl' pl AL sm K G := by
  obtain ⟨a, b, c, d, e, f⟩ := h
  have z0 : G.1 0 = g.1 0 := hf.1 0 (by omega)
  have z3 : G.1 3 = g.1 3 := hf.1 3 (by omega)
  exact ⟨cN_c (by rw [z0]) (fun r _ _ => hf.1 r (by omega)) a, cT_c (by rw [z0]) b, hF, kP_c (by rw [z0]) (by rw [z0]) z3 d, cK_c (g := g) (by rw [z0]) z3 (by rw [hf.2]) (fun r _ _ => by rw [hf.1 r (by omega)]) e, cA_c (g := g) (by rw [z0]) z3 (by rw [hf.2]) (by rw [hf.2]) (fun r _ _ => hf.1 r (by omega)) f⟩
theorem w_addFate {fl : Nat → List Nat} {g : gS} {post : gS → Prop} {i b : Nat} {x : Int32} (hi : i < 24) (h : kF fl g) (hl : (fl i).length < 64) (hx : vp_nar .byte x.toInt8.toInt32 = nI b) (hp : ∀ G, kF (va_up fl i (fl i ++ [b])) G → frF g G → post G) : wp_X1_addFate post i x g := by
  obtain ⟨f, f1, f2, f3, f4⟩ := h i hi
  unfold wp_X1_addFate
  have e : (g.1 24 i + g.1 25 i) &&& 63 = nI ((f + (fl i).length) % 64) := by rw [f2, f3, nI_add, pk_andN (by omega) 6 (by decide)]
  rw [e]
  have hlt : (f + (fl i).length) % 64 < 64 := Nat.mod_lt _ (by decide)
  refine ⟨hi, vin hlt (by decide), fun g2 e2 x3 e3 g4 e4 => ?_⟩
  rw [nI_clamp (by omega), hx] at e2
  have hx3 : x3 = nI ((fl i).length + 1) := by rw [e3, e2, gi_n (by omega), f3, nI_1]
  subst hx3
  subst e4
  subst e2
  refine hp _ (fun i' hi' => ?_) (frF_tr (frF_i (by omega)) (frF_i (by omega)))
  by_cases ei : i' = i
  · subst ei
    refine ⟨f, f1, by rw [gi_r (by omega), gi_r (by omega)]; exact f2, by rw [gi_s, va_up_self, List.length_append]; rfl, fun j b' hj => ?_⟩
    rw [va_up_self] at hj
    rcases snoc_get hj with ⟨h1, h2⟩ | ⟨h1, h2⟩
    · rw [gi_r (by omega), gi_n (by omega)]
      exact f4 j b' h2
    · rw [gi_r (by omega), h1, gi_s, h2]
  · obtain ⟨f', q1, q2, q3, q4⟩ := h i' hi'
    refine ⟨f', q1, by rw [gi_r (by omega), gi_r (by omega)]; exact q2, by rw [gi_n (by omega), gi_r (by omega), va_up_ne _ _ ei]; exact q3, fun j b' hj => ?_⟩
    rw [va_up_ne _ _ ei] at hj
    rw [gi_r (by omega), gi_r (by omega)]
    exact q4 j b' hj
theorem cl_fates (v : Int64) {i N : Nat} {p1 : Int32} (hi : i < 24) (hN : N ≤ 32) {post : Int32 → gS → Prop} {px : String × gS → Prop} : ∀ (m k : Nat) (fl : Nat → List Nat) (g : gS), m + k = N → kF fl g → (fl i).length + m ≤ 64 → (∀ G, kF (va_up fl i (fl i ++ fbs v m k)) G → frF g G → post (nI ((fl i).length + m)) G) → wpl_X2_fates_56 post px (m + 1) p1 v (nI N) i (nI k) g
  | 0, k, fl, g, hk, h, hl, hp => by
    unfold wpl_X2_fates_56
    refine ⟨hi, fun _ => ?_, fun c => absurd (nI_le (by omega) (by omega)) c⟩
    obtain ⟨f, f1, f2, f3, f4⟩ := h i hi
    rw [f3]
    refine hp g ?_ ⟨fun _ _ => rfl, rfl⟩
    rw [show fbs v 0 k = [] from rfl, List.append_nil, up_id]
    exact h
  | m + 1, k, fl, g, hk, h, hl, hp => by
    unfold wpl_X2_fates_56
    refine ⟨hi, fun c => absurd c (nI_ge (by omega) (by omega)), fun _ => ?_⟩
    refine w_addFate hi h (by omega) (fb_c v (by omega)) (fun G hG hf x9 e9 => ?_)
    rw [nI_1] at e9
    subst e9
    refine cl_fates v hi hN m (k + 1) _ G (by omega) hG (by rw [va_up_self, List.length_append]; show _ + 1 + m ≤ 64; omega) (fun G' hG' hf' => ?_)
    rw [va_up_self, up_up, List.append_assoc] at hG'
    rw [va_up_self, List.length_append]
    have := hp G' hG' (frF_tr hf hf')
    rw [show (fl i).length + (m + 1) = (fl i).length + [fb v k].length + m by show _ = _ + 1 + m; omega] at this
    exact this
def frr (g G : gS) : Prop := (∀ i, 1 ≤ i → G.1 4 i = g.1 4 i) ∧ (∀ r, r ≠ 4 → r ≠ 8 → r ≠ 9 → G.1 r = g.1 r) ∧ G.2 = g.2 ∧ G.1 4 0 = g.1 4 0
theorem frr_tr {a b c : gS} (h : frr a b) (h' : frr b c) : frr a c := ⟨fun r hr => (h'.1 r hr).trans (h.1 r hr), fun r h1 h2 h3 => (h'.2.1 r h1 h2 h3).trans (h.2.1 r h1 h2 h3), h'.2.2.1.trans h.2.2.1, h'.2.2.2.trans h.2.2.2⟩
theorem frr_i {g : gS} {r i : Nat} {v : Int32} (h : r = 8 ∨ r = 9) : frr g (gi g r i v) := ⟨fun _ _ => by rw [gi_r (by omega)], fun _ _ _ _ => gi_r (by omega), rfl, by rw [gi_r (by omega)]⟩
theorem frr_C {g G : gS} (h : frr g G) : sC g G := ⟨fun r hr => h.2.1 r (by omega) (by omega) (by omega), by rw [h.2.2.1], by rw [h.2.2.1], by rw [h.2.2.1]⟩
theorem RR_F {n T : Nat} {lg dl up ct : Nat → Int32} {fl : Nat → List Nat} {pl : List Nat} {AL : List aQ} {sm : Int32} {K : aQ} {g : gS} {fl' : Nat → List Nat} {G : gS} (h : RR n T lg dl up ct fl pl AL sm K g) (hf : frr g G) (hF : rF fl' G) : RR n T lg dl up ct fl' pl AL sm K G := by
  obtain ⟨a, b, c, d, e, f⟩ := h
  have z := hf.2.1
  exact ⟨rN_c (hf.1 2 (by omega)) (z 5 (by omega) (by omega) (by omega)) (z 6 (by omega) (by omega) (by omega)) (z 7 (by omega) (by omega) (by omega)) (z 10 (by omega) (by omega) (by omega)) a, rT_c (hf.1 1 (by omega)) b, hF, rP_c (hf.1 3 (by omega)) (z 11 (by omega) (by omega) (by omega)) d, rK_c (hf.1 5 (by omega)) (z 15 (by omega) (by omega) (by omega)) (z 16 (by omega) (by omega) (by omega)) e, rA_c (hf.1 4 (by omega)) (z 12 (by omega) (by omega) (by omega)) (z 13 (by omega) (by omega) (by omega)) (z 14 (by omega) (by omega) (by omega)) (by rw [hf.2.2.1]) f⟩
theorem rF_add {fl : Nat → List Nat} {g : gS} {i b : Nat} (hi : i < 24) (hl : (fl i).length < 64) (h : rF fl g) (hL : ∀ i, i < 24 → (fl i).length ≤ 64) : rF (va_up fl i (fl i ++ [b])) (gi (gi g 9 (64 * i + (fl i).length) (nI b)) 8 i (nI ((fl i).length + 1))) := by
  intro i' hi'
  obtain ⟨q1, q2⟩ := h i' hi'
  by_cases ei : i' = i
  · subst ei
    refine ⟨by rw [gi_s, va_up_self, List.length_append]; rfl, fun j b' hj => ?_⟩
    rw [va_up_self] at hj
    rcases snoc_get hj with ⟨h1, h2⟩ | ⟨h1, h2⟩
    · rw [gi_r (by omega), gi_n (by omega)]
      exact q2 j b' h2
    · rw [gi_r (by omega), h1, gi_s, h2]
  · refine ⟨by rw [gi_n (by omega), gi_r (by omega), va_up_ne _ _ ei]; exact q1, fun j b' hj => ?_⟩
    rw [va_up_ne _ _ ei] at hj
    have hj64 := get_lt hj
    have := hL i' hi'
    rw [gi_r (by omega), gi_n (by omega)]
    exact q2 j b' hj
theorem rl_fates (v : Int64) {i N : Nat} (hi : i < 24) (hN : N ≤ 32) {post : Int32 → gS → Prop} : ∀ (m k : Nat) (fl : Nat → List Nat) (g : gS), m + k = N → rF fl g → (∀ i, i < 24 → (fl i).length ≤ 64) → (fl i).length + m ≤ 64 → (∀ G, rF (va_up fl i (fl i ++ fbs v m k)) G → frr g G → post (nI ((fl i).length + m)) G) → wpl_X3_fates_74 post (m + 1) (nI i) v (nI N) (nI k) g
  | 0, k, fl, g, hk, h, hL, hl, hp => by
    unfold wpl_X3_fates_74
    refine ⟨fun _ => ⟨vin hi (by decide), ?_⟩, fun c => absurd (nI_le (by omega) (by omega)) c⟩
    rw [nI_clamp (by omega), (h i hi).1]
    refine hp g ?_ ⟨fun _ _ => rfl, fun _ _ _ _ => rfl, rfl, rfl⟩
    rw [show fbs v 0 k = [] from rfl, List.append_nil, up_id]
    exact h
  | m + 1, k, fl, g, hk, h, hL, hl, hp => by
    unfold wpl_X3_fates_74
    have e8 := (h i hi).1
    rw [nI_clamp (by omega)]
    refine ⟨fun c => absurd c (nI_ge (by omega) (by omega)), fun _ => ⟨vin hi (by decide), fun x13 e13 => ?_⟩⟩
    rw [fb_r v (by omega)] at e13
    subst e13
    have e64 : 64 * nI i + g.1 8 i = nI (64 * i + (fl i).length) := by rw [e8, show (64 : Int32) * nI i = nI (64 * i) from pk_mul 64 i, nI_add]
    rw [e64]
    refine ⟨vin (by omega) (by decide), fun g15 e15 => ⟨vin hi (by decide), fun x17 e17 => ⟨vin hi (by decide), fun g19 e19 x20 e20 => ?_⟩⟩⟩
    rw [nI_clamp (by omega)] at e15
    have hx : x17 = nI ((fl i).length + 1) := by rw [e17, e15, gi_r (by omega), e8, nI_1]
    subst hx
    rw [nI_1] at e20
    subst e20
    have hG := rF_add (b := fb v k) hi (by omega) h hL
    rw [← e15, ← e19] at hG
    refine rl_fates v hi hN m (k + 1) _ g19 (by omega) hG (fun i' hi' => ?_) (by rw [va_up_self, List.length_append]; show _ + 1 + m ≤ 64; omega) (fun G' hG' hf' => ?_)
    · by_cases ei : i' = i
      · subst ei
        rw [va_up_self, List.length_append]
        show _ + 1 ≤ 64
        omega
      · rw [va_up_ne _ _ ei]
        exact hL i' hi'
    rw [va_up_self, up_up, List.append_assoc] at hG'
    rw [va_up_self, List.length_append]
    have := hp G' hG' (frr_tr (by rw [e19, e15]; exact frr_tr (frr_i (by omega)) (frr_i (by omega))) hf')
    rw [show (fl i).length + (m + 1) = (fl i).length + [fb v k].length + m by show _ = _ + 1 + m; omega] at this
    exact this
theorem op_fates {t F n T : Nat} {lg dl up ct : Nat → Int32} {fl : Nat → List Nat} {pl : List Nat} {AL : List aQ} {sm : Int32} {K : aQ} {g : gS} {Q : Int32 → gS → Prop} {p1 p3 : Int32} {v : Int64} (hJ : J t F n T lg dl up ct fl pl AL sm K g) (hQ : ∀ k g1, (∀ C : gS → Prop, (∀ g', Inv (t + 1) g' → C g') → wp_X3_fates (fun b g2 => endK C k b g2) p1 v p3 g1) → Q k g1) : wp_L_fates Q p1 v p3 g := by
  have hn := hJ.1.1
  unfold wp_L_fates wp_X2_fates
  refine w_nn hn hJ.2.1.1.1 (fun i hi ep => ⟨i, g, rfl, by omega, ?_⟩) (fun hx => Or.inl ⟨rfl, hQ _ _ (fun C hC => ?_)⟩)
  · have hi24 : i < 24 := by omega
    obtain ⟨f, -, -, f3, -⟩ := hJ.2.1.2.2.1 i hi24
    have f8 := (hJ.2.2.2.2.1 i hi24).1
    have hL := (hJ.1.2.2.2.2.1 i hi24).1
    by_cases h1 : p3 < 1
    · refine ⟨fun _ => Or.inl ⟨rfl, hQ _ _ (fun C hC => ?_)⟩, fun c => absurd h1 c⟩
      unfold wp_X3_fates
      refine w_isNet (n := n) hn hJ.2.2.1.1 (fun i' hi' ep' => ⟨fun c => absurd c (by decide), fun _ => ⟨fun _ g7 e7 => ?_, fun c => absurd h1 c⟩⟩) (fun hx => absurd ep (hx i hi))
      subst e7
      exact bad (by decide) hJ hC
    by_cases h2 : p3 ≤ 32
    rotate_left
    · refine ⟨fun c => absurd c h1, fun _ => ⟨fun c => absurd c h2, fun _ => Or.inl ⟨rfl, hQ _ _ (fun C hC => ?_)⟩⟩⟩
      unfold wp_X3_fates
      refine w_isNet (n := n) hn hJ.2.2.1.1 (fun i' hi' ep' => ⟨fun c => absurd c (by decide), fun _ => ⟨fun c => absurd c h1, fun _ => ⟨fun c => absurd c h2, fun _ g7 e7 => ?_⟩⟩⟩) (fun hx => absurd ep (hx i hi))
      subst e7
      exact bad (by decide) hJ hC
    obtain ⟨N, hN, rfl⟩ := nI_of2 (M := 32) (n := 32) (by decide) (fun c => h1 (Int32.lt_trans c (by decide))) h2
    have cl : p1.toNatClampNeg = i := by rw [ep, nI_clamp (by omega)]
    by_cases h3 : (fl i).length + N ≤ 64
    · have hs : g.1 25 i + nI N ≤ 64 := by rw [f3, nI_add]; exact nI_le (b := 64) h3 (by decide)
      refine ⟨fun c => absurd c h1, fun _ => ⟨fun _ => ⟨fun _ => ⟨N + 1, ?_⟩, fun c => absurd hs c⟩, fun c => absurd h2 c⟩⟩
      have := cl_fates (p1 := p1) (px := fun u_ => ((u_.1 = "java/lang/IllegalArgumentException" ∧ (Q 1 u_.2)) ∨ (u_.1 = "java/lang/IllegalStateException" ∧ (Q 2 u_.2)))) v hi24 hN (post := fun r_2 g_1 => (vp_in (0 : Int32) 1 ∧ (∀ g_4 : gS, g_4 = gj g_1 18 ((0 : Int32).toNatClampNeg) r_2.toInt64 → (Q 0 g_4)))) N 0 fl g (by omega) hJ.2.1.2.2.1 h3 (fun G hG hf => ⟨vin01, fun g4 e4 => ?_⟩)
      · exact this
      subst e4
      refine hQ _ _ (fun C hC => ?_)
      have hR := RR_s (sR_tr (frF_R hf) (sR_j (i := (0 : Int32).toNatClampNeg) (v := (nI ((fl i).length + N)).toInt64))) hJ.2.2
      unfold wp_X3_fates
      refine w_isNet (n := n) hn hR.1.1 (fun i' hi' ep' => ⟨fun c => absurd c (by decide), fun _ => ⟨fun c => absurd c h1, fun _ => ⟨fun _ g7 e7 => ?_, fun c => absurd h2 c⟩⟩⟩) (fun hx => absurd ep (hx i hi))
      subst e7
      refine code_good ⟨by rw [ep]; exact vin hi24 (by decide), ?_⟩
      have hR7 := RR_s (sR_code (v := 0)) hR
      have hs7 : (gi (gj G 18 ((0 : Int32).toNatClampNeg) (nI ((fl i).length + N)).toInt64) 4 0 0).1 8 p1.toNatClampNeg + nI N ≤ 64 := by
        rw [cl, (hR7.2.2.1 i hi24).1, nI_add]
        exact nI_le (b := 64) h3 (by decide)
      refine ⟨fun _ g8 e8 => ?_, fun c => absurd hs7 c⟩
      have hR8 := RR_s (sR_code (v := 0)) hR7
      subst e8
      refine code_good ⟨N + 1, ?_⟩
      rw [ep]
      refine rl_fates v hi24 hN N 0 fl _ (by omega) hR8.2.2.1 (fun i hi => (hJ.1.2.2.2.2.1 i hi).1) h3 (fun g' hG' hf' => fin ?_ (RC_F hJ.2.1 hf hG) (RR_F hR8 hf' hG') (sC_tr (sC_tr (sC_i (by omega) (by omega)) (sC_i (by omega) (by omega))) (frr_C hf')) (by rw [hf'.2.2.2, gi_s]) hC)
      obtain ⟨w1, w2, w3, w4, w5, w6, w7, w8, w9, w10⟩ := aW_up (Nat.le_succ t) hJ.1
      refine ⟨w1, w2, w3, w4, fun i' hi' => ?_, w6, w7, w8, w9, w10⟩
      by_cases ei : i' = i
      · subst ei
        rw [va_up_self, List.length_append, fbs_len]
        refine ⟨h3, fun b hb => ?_⟩
        rcases List.mem_append.mp hb with hb | hb
        · exact (w5 i' hi').2 b hb
        · exact fbs_lt v _ _ b hb
      · rw [va_up_ne _ _ ei]
        exact w5 i' hi'
    · have hs : ¬ g.1 25 i + nI N ≤ 64 := by rw [f3, nI_add]; exact nI_ge (a := 64) (by omega) (by omega)
      refine ⟨fun c => absurd c h1, fun _ => ⟨fun _ => ⟨fun c => absurd c hs, fun _ => Or.inr ⟨rfl, hQ _ _ (fun C hC => ?_)⟩⟩, fun c => absurd h2 c⟩⟩
      unfold wp_X3_fates
      refine w_isNet (n := n) hn hJ.2.2.1.1 (fun i' hi' ep' => ⟨fun c => absurd c (by decide), fun _ => ⟨fun c => absurd c h1, fun _ => ⟨fun _ g7 e7 => ?_, fun c => absurd h2 c⟩⟩⟩) (fun hx => absurd ep (hx i hi))
      subst e7
      refine code_good ⟨by rw [ep]; exact vin hi24 (by decide), fun c => absurd c ?_, fun _ g8 e8 => ?_⟩
      · rw [cl, gi_r (by omega), f8, nI_add]
        exact nI_ge (a := 64) (by omega) (by omega)
      · subst e8
        exact bad (by decide) (J_code hJ) hC
  · unfold wp_X3_fates
    refine w_isNet (n := n) hn hJ.2.2.1.1 (fun i' hi' ep' => absurd ep' (hx i' hi')) (fun hx => ⟨fun _ g7 e7 => ?_, fun c => absurd rfl c⟩)
    subst e7
    exact bad (by decide) hJ hC

theorem and8 : ∀ v, v < 1481 → nI v &&& (-8) = nI (v / 8 * 8) := by decide +kernel
def putR (i : Nat) (u : Int32) (T d : Nat) (mk : Nat → Nat → Nat → aQ) (a P : Nat) (s : aSt) : Nat × aSt := if P + 20 ≤ a then (0, st1 i u T d mk 0 P s) else ((P + (a - 20) / 8 * 8 - 1) / ((a - 20) / 8 * 8), runs i u T d mk ((a - 20) / 8 * 8) P ((P + (a - 20) / 8 * 8 - 1) / ((a - 20) / 8 * 8)) 0 s)
theorem aW_put {t F n T i d a : Nat} {lg dl up ct : Nat → Int32} {fl : Nat → List Nat} {pl : List Nat} {AL : List aQ} {p2 p3 p4 : Int32} (h : aW t F n T lg dl up fl pl AL) (hi : i < n) (hd : d ≤ 50) : aW t (F + pl.length) n T lg dl up (putR i (up i) T d (mkq i p2 p3 p4 pl) a pl.length (ct, fl, AL)).2.2.1 [] (putR i (up i) T d (mkq i p2 p3 p4 pl) a pl.length (ct, fl, AL)).2.2.2 := by
  have hP := h.2.2.2.2.2.2.1
  have key : aW t F n T lg dl up (putR i (up i) T d (mkq i p2 p3 p4 pl) a pl.length (ct, fl, AL)).2.2.1 pl (putR i (up i) T d (mkq i p2 p3 p4 pl) a pl.length (ct, fl, AL)).2.2.2 := by
    unfold putR
    by_cases hc : pl.length + 20 ≤ a
    · rw [if_pos hc]
      exact aW_step h hi hd hP
    · rw [if_neg hc]
      exact aW_runs hi hd hP _ 0 (ct, fl, AL) h
  obtain ⟨w1, w2, w3, w4, w5, w6, w7, w8, w9, w10⟩ := key
  exact ⟨w1, w2, w3, w4, w5, w6, Nat.zero_le _, fun b hb => absurd hb (by simp), w9, w10⟩
theorem RC_end {F n T : Nat} {lg dl up ct : Nat → Int32} {fl : Nat → List Nat} {pl : List Nat} {AL : List aQ} {sm : Int32} {K : aQ} {g : gS} (h : RC F n T lg dl up ct fl pl AL sm K g) : RC (F + pl.length) n T lg dl up ct fl [] AL sm K (gi (gi g 0 4 (nI (F + pl.length))) 0 5 0) := by
  obtain ⟨a, b, c, d, e, f⟩ := h
  exact ⟨cN_c (g := g) (by rw [gi_n (by omega), gi_n (by omega)]) (fun r _ _ => by rw [gi_r (by omega), gi_r (by omega)]) a, cT_c (g := g) (by rw [gi_n (by omega), gi_n (by omega)]) b, kF_c (g := g) (fun r _ => by rw [gi_r (by omega), gi_r (by omega)]) c, ⟨by rw [gi_n (by omega), gi_s], gi_s, fun j b' hj => absurd hj (by simp)⟩, cK_c (g := g) (by rw [gi_n (by omega), gi_n (by omega)]) (by rw [gi_r (by omega), gi_r (by omega)]) rfl (fun r _ _ => by rw [gi_r (by omega), gi_r (by omega)]) e, cA_c (g := g) (by rw [gi_n (by omega), gi_n (by omega)]) (by rw [gi_r (by omega), gi_r (by omega)]) rfl rfl (fun r _ _ => by rw [gi_r (by omega), gi_r (by omega)]) f⟩
theorem RR_end {n T : Nat} {lg dl up ct : Nat → Int32} {fl : Nat → List Nat} {pl : List Nat} {AL : List aQ} {sm : Int32} {K : aQ} {g : gS} (h : RR n T lg dl up ct fl pl AL sm K g) : RR n T lg dl up ct fl [] AL sm K (gi g 4 3 0) := by
  obtain ⟨a, b, c, d, e, f⟩ := h
  exact ⟨rN_c (g := g) (by simp [gi, gu]) (by simp [gi, gu_r]) (by simp [gi, gu_r]) (by simp [gi, gu_r]) (by simp [gi, gu_r]) a, rT_c (g := g) (by simp [gi, gu]) b, rF_c (g := g) (by simp [gi, gu_r]) (by simp [gi, gu_r]) c, ⟨gi_s, fun j b' hj => absurd hj (by simp)⟩, rK_c (g := g) (by simp [gi, gu]) (by simp [gi, gu_r]) (by simp [gi, gu_r]) e, rA_c (g := g) (by simp [gi, gu]) (by simp [gi, gu_r]) (by simp [gi, gu_r]) (by simp [gi, gu_r]) rfl f⟩
/-- how many pieces there are -/
theorem pieces {P w : Nat} (hP : P ≤ 1480) (hw : 80 ≤ w) (hw2 : w ≤ 1480) : (∀ k, k < (P + w - 1) / w → k * w < P) ∧ P ≤ (P + w - 1) / w * w ∧ (P + w - 1) / w * w ≤ 2960 ∧ (P + w - 1) / w ≤ 1480 := by
  have h0 : 0 < w := by omega
  have h1 := Nat.div_add_mod (P + w - 1) w
  have h2 := Nat.mod_lt (P + w - 1) h0
  rw [Nat.mul_comm] at h1
  have h3 : (P + w - 1) / w * 80 ≤ (P + w - 1) / w * w := Nat.mul_le_mul_left _ hw
  refine ⟨fun k hk => ?_, by omega, by omega, by omega⟩
  have h4 := (Nat.le_div_iff_mul_le h0).mp (show k + 1 ≤ (P + w - 1) / w from hk)
  rw [Nat.add_mul, Nat.one_mul] at h4
  omega
theorem c_send {t F n T : Nat} {lg dl up ct : Nat → Int32} {fl : Nat → List Nat} {pl : List Nat} {AL : List aQ} {sm : Int32} {K : aQ} {g : gS} {post : Int32 → gS → Prop} {i a d : Nat} {p2 p3 p4 : Int32} (ht : t < 512) (hW : aW t F n T lg dl up fl pl AL) (hi : i < n) (hlg : lg i = nI a) (ha1 : 100 ≤ a) (ha2 : a ≤ 1500) (hdl : dl i = nI d) (hd1 : 1 ≤ d) (hd2 : d ≤ 50) (h : RC F n T lg dl up ct fl pl AL sm K g) (hdr : drf i p2 p3 p4 pl.length g) (hp : ∀ G, RC F n T lg dl up (putR i (up i) T d (mkq i p2 p3 p4 pl) a pl.length (ct, fl, AL)).2.1 (putR i (up i) T d (mkq i p2 p3 p4 pl) a pl.length (ct, fl, AL)).2.2.1 pl (putR i (up i) T d (mkq i p2 p3 p4 pl) a pl.length (ct, fl, AL)).2.2.2 sm K G → sR g G → post (nI (putR i (up i) T d (mkq i p2 p3 p4 pl) a pl.length (ct, fl, AL)).1) G) : wp_X2_sendPayload post i g := by
  have hn := hW.1
  have hi24 : i < 24 := by omega
  have hP := hW.2.2.2.2.2.2.1
  have hF := hW.2.2.2.2.2.1
  have e20 : g.1 20 i = nI a := (h.1.2 i hi24).1.trans hlg
  unfold wp_X2_sendPayload
  refine ⟨hi24, fun x1 e1 => ?_⟩
  rw [h.2.2.2.1.2.1] at e1
  subst e1
  rw [e20, show nI pl.length + 20 = nI (pl.length + 20) from nI_add _ 20]
  refine pk_lt a (pl.length + 20) (fun hlt => ?_) (fun hge => ?_)
  · unfold wp_X1_pieceSize
    have e8 : (g.1 20 i - 20) &&& (-8) = nI ((a - 20) / 8 * 8) := by rw [e20, show nI a - 20 = nI (a - 20) from pk_sub (b := 20) (by omega), and8 _ (by omega)]
    rw [e8]
    have hR : putR i (up i) T d (mkq i p2 p3 p4 pl) a pl.length (ct, fl, AL) = _ := if_neg (by omega)
    rw [hR] at hp
    obtain ⟨m1, m2, m3, m4⟩ := pieces (P := pl.length) (w := (a - 20) / 8 * 8) hP (by omega) (by omega)
    refine ⟨hi24, ?_⟩
    unfold wp_X2_countPieces
    refine ⟨fun _ => ⟨nI_ne0 (by omega) (by omega), (pl.length + (a - 20) / 8 * 8 - 1) / ((a - 20) / 8 * 8) + 1, ?_⟩, fun c => absurd (nI_le (a := 1) (by omega) (by omega)) c⟩
    rw [nI_add, show nI (pl.length + (a - 20) / 8 * 8) - 1 = nI (pl.length + (a - 20) / 8 * 8 - 1) from pk_sub (b := 1) (by omega), pk_div (by omega) (by omega) (by omega)]
    exact cl_put (by omega) (by omega) hi hdl hd1 hd2 m1 m4 (by omega) _ 0 (ct, fl, AL) g (by omega) hW h hdr hp
  · have hR : putR i (up i) T d (mkq i p2 p3 p4 pl) a pl.length (ct, fl, AL) = _ := if_pos hge
    rw [hR] at hp
    exact c_piece (x := 0) (by omega) hW (by omega) hi hdl hd1 hd2 h hdr (by omega) (fun G hG hs _ => hp G hG hs)
theorem c_go {t F n T : Nat} {lg dl up ct : Nat → Int32} {fl : Nat → List Nat} {pl : List Nat} {AL : List aQ} {sm : Int32} {K : aQ} {g : gS} {post : Int32 → gS → Prop} {i a d : Nat} {p2 p3 p4 : Int32} (ht : t < 512) (hW : aW t F n T lg dl up fl pl AL) (hi : i < n) (hlg : lg i = nI a) (ha1 : 100 ≤ a) (ha2 : a ≤ 1500) (hdl : dl i = nI d) (hd1 : 1 ≤ d) (hd2 : d ≤ 50) (h : RC F n T lg dl up ct fl pl AL sm K g) (hp : ∀ G, RC (F + pl.length) n T lg dl up (putR i (up i) T d (mkq i p2 p3 p4 pl) a pl.length (ct, fl, AL)).2.1 (putR i (up i) T d (mkq i p2 p3 p4 pl) a pl.length (ct, fl, AL)).2.2.1 [] (putR i (up i) T d (mkq i p2 p3 p4 pl) a pl.length (ct, fl, AL)).2.2.2 sm K G → sR g G → post (nI (putR i (up i) T d (mkq i p2 p3 p4 pl) a pl.length (ct, fl, AL)).1) G) :
    (∀ g_9 : gS, g_9 = gi g 31 513 (nI i) → (∀ g_10 : gS, g_10 = gi g_9 32 513 p2 → (∀ g_11 : gS, g_11 = gi g_10 33 513 p3 → (∀ g_12 : gS, g_12 = gi g_11 34 513 p4 → (∀ x_13 : Int32, x_13 = g_12.1 0 5 → (∀ g_14 : gS, g_14 = gi g_12 36 513 x_13 → (wp_X2_sendPayload (fun r_16 g_15 => (wp_X2_ringPlace (fun r_18 g_17 => (∀ g_19 : gS, g_19 = gi g_17 0 4 r_18 → (∀ g_20 : gS, g_20 = gi g_19 0 5 (0 : Int32) → (post r_16 g_20)))) ((g_15.1 0 4) + (g_15.1 0 5)) g_15)) i g_14))))))) := by
  intro g9 e9 g10 e10 g11 e11 g12 e12 x13 e13 g14 e14
  have hl := hW.2.2.2.2.2.2.2.2.1
  have hF := hW.2.2.2.2.2.1
  have h12 : RC F n T lg dl up ct fl pl AL sm K g12 := by
    rw [e12, e11, e10, e9]
    exact RC_dr (by omega) (by omega) hl (RC_dr (by omega) (by omega) hl (RC_dr (by omega) (by omega) hl (RC_dr (by omega) (by omega) hl h)))
  rw [h12.2.2.2.1.2.1] at e13
  subst e13
  have h14 : RC F n T lg dl up ct fl pl AL sm K g14 := by rw [e14]; exact RC_dr (by omega) (by omega) hl h12
  have s14 : sR g g14 := by
    rw [e14, e12, e11, e10, e9]
    exact sR_tr (sR_tr (sR_tr (sR_tr (sR_i (by omega)) (sR_i (by omega))) (sR_i (by omega))) (sR_i (by omega))) (sR_i (by omega))
  have d14 : drf i p2 p3 p4 pl.length g14 := by
    rw [e14, e12, e11, e10, e9]
    refine ⟨?_, ?_, ?_, ?_, gi_s⟩
    · rw [gi_n (by omega), gi_n (by omega), gi_n (by omega), gi_n (by omega), gi_s]
    · rw [gi_n (by omega), gi_n (by omega), gi_n (by omega), gi_s]
    · rw [gi_n (by omega), gi_n (by omega), gi_s]
    · rw [gi_n (by omega), gi_s]
  refine c_send ht hW hi hlg ha1 ha2 hdl hd1 hd2 h14 d14 (fun G hG hs => ?_)
  unfold wp_X2_ringPlace
  rw [hG.2.2.2.1.1, hG.2.2.2.1.2.1, ringp (by omega)]
  intro g19 e19 g20 e20
  subst e20
  subst e19
  exact hp _ (RC_end hG) (sR_tr s14 (sR_tr hs (sR_tr (sR_i (by omega)) (sR_i (by omega)))))
theorem r_put {t F n T : Nat} {lg dl up ct : Nat → Int32} {fl : Nat → List Nat} {pl : List Nat} {AL : List aQ} {sm : Int32} {K : aQ} {g : gS} {post : Int32 → gS → Prop} {i a d : Nat} {p2 p3 p4 : Int32} (hW : aW t F n T lg dl up fl pl AL) (hi : i < n) (hlg : lg i = nI a) (ha1 : 100 ≤ a) (ha2 : a ≤ 1500) (hdl : dl i = nI d) (hd2 : d ≤ 50) (v1 : ¬ p2 < 0) (v2 : ¬ 7 < p2) (v3 : ¬ p3 < -1) (v4 : ¬ 7 < p3) (v5 : ¬ p3 = p2) (h : RR n T lg dl up ct fl pl AL sm K g) (hp : ∀ G, RR n T lg dl up (putR i (up i) T d (mkq i p2 p3 p4 pl) a pl.length (ct, fl, AL)).2.1 (putR i (up i) T d (mkq i p2 p3 p4 pl) a pl.length (ct, fl, AL)).2.2.1 [] (putR i (up i) T d (mkq i p2 p3 p4 pl) a pl.length (ct, fl, AL)).2.2.2 sm K G → sC g G → G.1 4 0 = 0 → post (nI (putR i (up i) T d (mkq i p2 p3 p4 pl) a pl.length (ct, fl, AL)).1) G) : wp_X3_put post (nI i) p2 p3 p4 g := by
  have hn := hW.1
  have hi24 : i < 24 := by omega
  have hP := hW.2.2.2.2.2.2.1
  unfold wp_X3_put
  refine w_isNet (n := n) hn h.1.1 (fun i' hi' ep' => ⟨fun c => absurd c (by decide), fun _ => ⟨fun c => absurd c v1, fun _ => ⟨fun c => absurd c v2, fun _ => ⟨fun c => absurd c v3, fun _ => ⟨fun c => absurd c v4, fun _ => ⟨fun _ g63 e63 => ?_, fun c => absurd c v5⟩⟩⟩⟩⟩⟩) (fun hx => absurd rfl (hx i hi))
  have h63 : RR n T lg dl up ct fl pl AL sm K g63 := by rw [e63]; exact RR_s sR_code h
  have s63 : sC g g63 := by rw [e63]; exact sC_i (by omega) (by omega)
  have k63 : g63.1 4 0 = 0 := by rw [e63, gi_s]
  rw [k63]
  refine ⟨fun _ => ⟨vin hi24 (by decide), fun x66 e66 => ?_⟩, fun c => absurd (by decide) c⟩
  rw [nI_clamp (by omega), (h63.1.2 i hi24).1, hlg, show nI a - 20 = nI (a - 20) from pk_sub (b := 20) (by omega)] at e66
  subst e66
  rw [h63.2.2.2.1.1]
  refine pk_lt (a - 20) pl.length (fun hlt x68 e68 => ?_) (fun hge => ?_)
  · rw [show nI (a - 20) / 8 * 8 = nI ((a - 20) / 8 * 8) by rw [show nI (a - 20) / 8 = nI ((a - 20) / 8) from pk_div (by omega) (by decide) (by decide)]; exact pk_mul _ 8] at e68
    subst e68
    have hR : putR i (up i) T d (mkq i p2 p3 p4 pl) a pl.length (ct, fl, AL) = _ := if_neg (by omega)
    rw [hR] at hp
    obtain ⟨m1, m2, m3, m4⟩ := pieces (P := pl.length) (w := (a - 20) / 8 * 8) hP (by omega) (by omega)
    have := rl_put (x5 := nI (a - 20)) (post := post) hi hdl hd2 m1 m2 m3 m4 (by omega) _ 0 (ct, fl, AL) g63 (Nat.add_zero _) hW h63 (fun G hG hs hc => hp _ (RR_end hG) (sC_tr s63 (sC_tr hs (sC_i (by omega) (by omega)))) (by rw [gi_n (by omega), hc, k63]))
    rw [Nat.zero_mul] at this
    exact ⟨_, this⟩
  · have hR : putR i (up i) T d (mkq i p2 p3 p4 pl) a pl.length (ct, fl, AL) = _ := if_pos (by omega)
    rw [hR] at hp
    refine r_frame (x := 0) hW hi hdl h63 (by omega) (fun G hG hs hc g21 e21 => ?_)
    subst e21
    exact hp _ (RR_end hG) (sC_tr s63 (sC_tr hs (sC_i (by omega) (by omega)))) (by rw [gi_n (by omega), hc, k63])
theorem lt78 (x : Int32) : 7 < x ↔ 8 ≤ x := by
  rw [Int32.lt_iff_toInt_lt, Int32.le_iff_toInt_le]
  have h7 : (7 : Int32).toInt = 7 := by decide
  have h8 : (8 : Int32).toInt = 8 := by decide
  omega
theorem ltm1 (x : Int32) : x < -1 ↔ x < 0 ∧ ¬ x = -1 := by
  rw [Int32.lt_iff_toInt_lt, Int32.lt_iff_toInt_lt, ← Int32.toInt_inj]
  have h7 : (-1 : Int32).toInt = -1 := by decide
  have h8 : (0 : Int32).toInt = 0 := by decide
  omega
theorem op_put {t F n T : Nat} {lg dl up ct : Nat → Int32} {fl : Nat → List Nat} {pl : List Nat} {AL : List aQ} {sm : Int32} {K : aQ} {g : gS} {Q : Int32 → gS → Prop} {p1 p2 p3 p4 : Int32} (ht : t < 512) (hJ : J t F n T lg dl up ct fl pl AL sm K g) (hQ : ∀ k g1, (∀ C : gS → Prop, (∀ g', Inv (t + 1) g' → C g') → wp_X3_put (fun b g2 => endK C k b g2) p1 p2 p3 p4 g1) → Q k g1) : wp_L_put Q p1 p2 p3 p4 g := by
  obtain ⟨hW, hC0, hR0⟩ := id hJ
  have hn := hW.1
  unfold wp_L_put wp_X2_put
  refine w_nn hn hC0.1.1 (fun i hi ep => ⟨i, g, rfl, by omega, ?_⟩) (fun hx => ⟨rfl, hQ _ _ (fun C hC => ?_)⟩)
  rotate_left
  · unfold wp_X3_put
    refine w_isNet (n := n) hn hR0.1.1 (fun i' hi' ep' => absurd ep' (hx i' hi')) (fun hx => ⟨fun _ g7 e7 => ?_, fun c => absurd rfl c⟩)
    subst e7
    exact bad (by decide) hJ hC
  subst ep
  unfold wp_X2_isStation
  by_cases h1 : p2 < 0
  · refine ⟨fun _ => ⟨fun c => absurd rfl c, fun _ => ⟨rfl, hQ _ _ (fun C hC => ?_)⟩⟩, fun c => absurd h1 c⟩
    unfold wp_X3_put
    refine w_isNet (n := n) hn hR0.1.1 (fun i' hi' ep' => ⟨fun c => absurd c (by decide), fun _ => ⟨fun _ g7 e7 => ?_, fun c => absurd h1 c⟩⟩) (fun hx => absurd rfl (hx i hi))
    subst e7
    exact bad (by decide) hJ hC
  refine ⟨fun c => absurd c h1, fun _ => ⟨fun h2 => ⟨fun c => absurd rfl c, fun _ => ⟨rfl, hQ _ _ (fun C hC => ?_)⟩⟩, fun h2 => ⟨fun _ => ?_, fun c => absurd c (by decide)⟩⟩⟩
  · unfold wp_X3_put
    refine w_isNet (n := n) hn hR0.1.1 (fun i' hi' ep' => ⟨fun c => absurd c (by decide), fun _ => ⟨fun c => absurd c h1, fun _ => ⟨fun _ g7 e7 => ?_, fun c => absurd ((lt78 p2).mpr h2) c⟩⟩⟩) (fun hx => absurd rfl (hx i hi))
    subst e7
    exact bad (by decide) hJ hC
  have v2 : ¬ 7 < p2 := fun c => h2 ((lt78 p2).mp c)
  obtain ⟨⟨a, ha1, ha2, hlg⟩, d, hd1, hd2, hdl⟩ := hW.2.2.1 i hi
  have hgo : (¬ p3 < -1) → (¬ 7 < p3) → (¬ p3 = p2) → ∀ G, RC (F + pl.length) n T lg dl up (putR i (up i) T d (mkq i p2 p3 p4 pl) a pl.length (ct, fl, AL)).2.1 (putR i (up i) T d (mkq i p2 p3 p4 pl) a pl.length (ct, fl, AL)).2.2.1 [] (putR i (up i) T d (mkq i p2 p3 p4 pl) a pl.length (ct, fl, AL)).2.2.2 sm K G → sR g G → (vp_in (0 : Int32) 1 ∧ ∀ g_4 : gS, g_4 = gj G 18 ((0 : Int32).toNatClampNeg) (nI (putR i (up i) T d (mkq i p2 p3 p4 pl) a pl.length (ct, fl, AL)).1).toInt64 → Q 0 g_4) := fun v3 v4 v5 G hG hs => by
    refine ⟨vin01, fun g4 e4 => ?_⟩
    subst e4
    exact hQ _ _ (fun C hC => r_put hW hi hlg ha1 ha2 hdl hd2 h1 v2 v3 v4 v5 (RR_s (sR_tr hs sR_j) hR0) (fun g' hR hs' hc => fin (aW_up (Nat.le_succ t) (aW_put hW hi hd2)) hG hR hs' hc hC))
  have hbad5 : (¬ p3 < -1) → (¬ 7 < p3) → p3 = p2 → ("java/lang/IllegalArgumentException" = "java/lang/IllegalArgumentException" ∧ Q 1 g) := fun v3 v4 v5 => by
    refine ⟨rfl, hQ _ _ (fun C hC => ?_)⟩
    unfold wp_X3_put
    refine w_isNet (n := n) hn hR0.1.1 (fun i' hi' ep' => ⟨fun c => absurd c (by decide), fun _ => ⟨fun c => absurd c h1, fun _ => ⟨fun c => absurd c v2, fun _ => ⟨fun c => absurd c v3, fun _ => ⟨fun c => absurd c v4, fun _ => ⟨fun c => absurd v5 c, fun _ g7 e7 => ?_⟩⟩⟩⟩⟩⟩) (fun hx => absurd rfl (hx i hi))
    subst e7
    exact bad (by decide) hJ hC
  refine ⟨fun h3 => ?_, fun h3 => ?_⟩
  · have v3 : ¬ p3 < -1 := by rw [h3]; decide
    have v4 : ¬ 7 < p3 := by rw [h3]; decide
    exact ⟨fun v5 => c_go ht hW hi hlg ha1 ha2 hdl hd1 hd2 hC0 (hgo v3 v4 v5), fun v5 => hbad5 v3 v4 v5⟩
  · refine ⟨fun h4 => ⟨fun c => absurd rfl c, fun _ => ⟨rfl, hQ _ _ (fun C hC => ?_)⟩⟩, fun h4 => ⟨fun h5 => ⟨fun c => absurd rfl c, fun _ => ⟨rfl, hQ _ _ (fun C hC => ?_)⟩⟩, fun h5 => ⟨fun _ => ?_, fun c => absurd c (by decide)⟩⟩⟩
    · unfold wp_X3_put
      refine w_isNet (n := n) hn hR0.1.1 (fun i' hi' ep' => ⟨fun c => absurd c (by decide), fun _ => ⟨fun c => absurd c h1, fun _ => ⟨fun c => absurd c v2, fun _ => ⟨fun _ g7 e7 => ?_, fun c => absurd ((ltm1 p3).mpr ⟨h4, h3⟩) c⟩⟩⟩⟩) (fun hx => absurd rfl (hx i hi))
      subst e7
      exact bad (by decide) hJ hC
    · unfold wp_X3_put
      refine w_isNet (n := n) hn hR0.1.1 (fun i' hi' ep' => ⟨fun c => absurd c (by decide), fun _ => ⟨fun c => absurd c h1, fun _ => ⟨fun c => absurd c v2, fun _ => ⟨fun c => absurd ((ltm1 p3).mp c).1 h4, fun _ => ⟨fun _ g7 e7 => ?_, fun c => absurd ((lt78 p3).mpr h5) c⟩⟩⟩⟩⟩) (fun hx => absurd rfl (hx i hi))
      subst e7
      exact bad (by decide) hJ hC
    · have v3 : ¬ p3 < -1 := fun c => absurd ((ltm1 p3).mp c).1 h4
      have v4 : ¬ 7 < p3 := fun c => h5 ((lt78 p3).mp c)
      exact ⟨fun v5 => c_go ht hW hi hlg ha1 ha2 hdl hd1 hd2 hC0 (hgo v3 v4 v5), fun v5 => hbad5 v3 v4 v5⟩

theorem rl_nf {i c : Nat} {x2 : Int32} {O : Nat → Int32} {post : Int32 → gS → Prop} (hi : i < 24) (hc : c < 64) : ∀ (m k : Nat) (g : gS), m + k = 64 * i + c → 64 * i ≤ k → g.1 8 i = nI c → (∀ j, g.1 9 j = if 64 * i ≤ j ∧ j < k then O (j + 1) else O j) → (∀ G : gS, (∀ j, G.1 9 j = if 64 * i ≤ j ∧ j < 64 * i + c then O (j + 1) else O j) → (∀ r, r ≠ 9 → G.1 r = g.1 r) → G.2 = g.2 → post x2 G) → wpl_X3_nextFate_36 post (m + 1) (nI i) x2 (nI k) g
  | 0, k, g, hm, hk, h8, h9, hp => by
    unfold wpl_X3_nextFate_36
    obtain rfl : k = 64 * i + c := by omega
    rw [nI_clamp (by omega), h8, show (64 : Int32) * nI i = nI (64 * i) from pk_mul 64 i, nI_add]
    exact ⟨vin hi (by decide), fun _ => hp g h9 (fun _ _ => rfl) rfl, fun c => absurd (nI_le (Nat.le_refl _) (by omega)) c⟩
  | m + 1, k, g, hm, hk, h8, h9, hp => by
    unfold wpl_X3_nextFate_36
    rw [nI_clamp (by omega), h8, show (64 : Int32) * nI i = nI (64 * i) from pk_mul 64 i, nI_add, nI_1]
    refine ⟨vin hi (by decide), fun c => absurd c (nI_ge (by omega) (by omega)), fun _ i13 e13 => ?_⟩
    subst e13
    refine ⟨vin (by omega) (by decide), fun x15 e15 => ⟨vin (by omega) (by decide), fun g17 e17 x18 e18 => ?_⟩⟩
    rw [nI_clamp (by omega), h9, if_neg (by omega)] at e15
    rw [nI_clamp (by omega)] at e17
    subst e18
    subst e15
    refine rl_nf hi hc m (k + 1) g17 (by omega) (by omega) (by rw [e17, gi_r (by omega)]; exact h8) (fun j => ?_) (fun G q1 q2 q3 => hp G q1 (fun r hr => by rw [q2 r hr, e17, gi_r hr]) (by rw [q3, e17]; rfl))
    rw [e17]
    by_cases hj : j = k
    · subst hj
      rw [gi_s, if_pos (by omega)]
    · rw [gi_n (by omega), h9]
      by_cases hq : 64 * i ≤ j ∧ j < k
      · rw [if_pos hq, if_pos (by omega)]
      · rw [if_neg hq, if_neg (by omega)]
theorem w_nextFate {fl : Nat → List Nat} {g : gS} {post : Int32 → gS → Prop} {i : Nat} (hi : i < 24) (h : rF fl g) (hL : ∀ i, i < 24 → (fl i).length ≤ 64) (hp : ∀ G, rF (va_up fl i (fl i).tail) G → frr g G → post (nI ((fl i).headD 0)) G) : wp_X3_nextFate post (nI i) g := by
  obtain ⟨f1, f2⟩ := h i hi
  have hLi := hL i hi
  unfold wp_X3_nextFate
  rw [nI_clamp (by omega), f1]
  refine ⟨vin hi (by decide), ?_⟩
  cases hfl : fl i with
  | nil =>
    rw [hfl] at hp
    refine ⟨fun c => absurd rfl c, fun _ => hp g ?_ ⟨fun _ _ => rfl, fun _ _ _ _ => rfl, rfl, rfl⟩⟩
    rw [List.tail_nil, ← hfl, up_id]
    exact h
  | cons b rest =>
    rw [hfl] at hp hLi f2
    rw [List.length_cons] at hLi
    refine ⟨fun _ i3 e3 => ?_, fun c => absurd c (nI_ne0 (by rw [List.length_cons]; omega) (by rw [List.length_cons]; omega))⟩
    rw [show (64 : Int32) * nI i = nI (64 * i) from pk_mul 64 i] at e3
    subst e3
    refine ⟨vin (by omega) (by decide), fun x5 e5 => ⟨vin hi (by decide), fun x7 e7 => ⟨vin hi (by decide), fun g9 e9 x10 e10 => ⟨rest.length + 1, ?_⟩⟩⟩⟩
    rw [nI_clamp (by omega), show g.1 9 (64 * i) = nI b from f2 0 b rfl] at e5
    subst e5
    rw [List.length_cons, nI_pred] at e7
    subst e7
    rw [show (64 : Int32) * nI i = nI (64 * i) from pk_mul 64 i] at e10
    subst e10
    refine rl_nf (O := g.1 9) (c := rest.length) hi (by omega) rest.length (64 * i) g9 (by omega) (Nat.le_refl _) (by rw [e9, gi_s]) (fun j => by rw [e9, gi_r (by omega), if_neg (by omega)]) (fun G q1 q2 q3 => hp G (fun i' hi' => ?_) ?_)
    · by_cases ei : i' = i
      · subst ei
        refine ⟨by rw [q2 8 (by omega), e9, gi_s, va_up_self]; rfl, fun j b' hj => ?_⟩
        rw [va_up_self, List.tail_cons] at hj
        have hjl := get_lt hj
        rw [q1, if_pos (by omega)]
        exact f2 (j + 1) b' (by rw [List.getElem?_cons_succ]; exact hj)
      · obtain ⟨k1, k2⟩ := h i' hi'
        refine ⟨by rw [q2 8 (by omega), e9, gi_n (by omega), va_up_ne _ _ ei]; exact k1, fun j b' hj => ?_⟩
        rw [va_up_ne _ _ ei] at hj
        have hjl := get_lt hj
        have := hL i' hi'
        rw [q1, if_neg (by omega)]
        exact k2 j b' hj
    · refine ⟨fun j _ => by rw [q2 4 (by omega), e9, gi_r (by omega)], fun r r1 r2 r3 => by rw [q2 r r3, e9, gi_r r2], by rw [q3, e9]; rfl, by rw [q2 4 (by omega), e9, gi_r (by omega)]⟩
theorem RR_ct {n T : Nat} {lg dl up ct : Nat → Int32} {fl : Nat → List Nat} {pl : List Nat} {AL : List aQ} {sm : Int32} {K : aQ} {g : gS} {i : Nat} {v : Int32} (hi : i < 24) (h : RR n T lg dl up ct fl pl AL sm K g) : RR n T lg dl up (upd ct i v) fl pl AL sm K (gi g 10 i v) := by
  obtain ⟨a, b, c, d, e, f⟩ := h
  refine ⟨⟨by rw [gi_r (by omega)]; exact a.1, fun j hj => ?_⟩, rT_c (g := g) (by rw [gi_r (by omega)]) b, rF_c (g := g) (gi_r (by omega)) (gi_r (by omega)) c, rP_c (g := g) (by rw [gi_r (by omega)]) (gi_r (by omega)) d, rK_c (g := g) (by rw [gi_r (by omega)]) (gi_r (by omega)) (gi_r (by omega)) e, rA_c (g := g) (by rw [gi_r (by omega)]) (gi_r (by omega)) (gi_r (by omega)) (gi_r (by omega)) rfl f⟩
  obtain ⟨q1, q2, q3, q4⟩ := a.2 j hj
  by_cases hij : j = i
  · subst hij
    simp [gi, gu, upd, q1, q2, q3]
  · simp [gi, gu, upd, hij, q1, q2, q3, q4]
theorem r_frame {t F n T : Nat} {lg dl up ct : Nat → Int32} {fl : Nat → List Nat} {pl : List Nat} {AL : List aQ} {sm : Int32} {K : aQ} {g : gS} {post : gS → Prop} {i d x sz : Nat} {p2 p3 p4 : Int32} (hW : aW t F n T lg dl up fl pl AL) (hi : i < n) (hdl : dl i = nI d) (h : RR n T lg dl up ct fl pl AL sm K g) (hx : x + sz ≤ pl.length) (hp : ∀ G, RR n T lg dl up (upd ct i (ct i + 1)) (stepF (up i) i fl) pl (stepA (up i) ((fl i).headD 0) T d (mkq i p2 p3 p4 pl x sz) AL) sm K G → sC g G → G.1 4 0 = g.1 4 0 → post G) : wp_X3_frame post (nI i) p2 p3 p4 (nI x) (nI sz) g := by
  have hn := hW.1
  have hi24 : i < 24 := by omega
  have hl := hW.2.2.2.2.2.2.2.2.1
  have hP := hW.2.2.2.2.2.2.1
  have hlt := hW.2.2.2.2.2.2.2.1
  have fw := hW.2.2.2.2.1
  unfold wp_X3_frame
  rw [nI_clamp (by omega)]
  refine ⟨vin hi24 (by decide), fun x2 e2 => ⟨vin hi24 (by decide), fun g4 e4 => ⟨vin hi24 (by decide), ?_⟩⟩⟩
  rw [(h.1.2 i hi24).2.2.2] at e2
  subst e2
  have h4 := RR_ct (v := ct i + 1) hi24 h
  rw [← e4] at h4
  have s4 : sC g g4 := by rw [e4]; exact sC_i (by omega) (by omega)
  have k4 : g4.1 4 0 = g.1 4 0 := by rw [e4, gi_r (by omega)]
  rw [(h4.1.2 i hi24).2.2.1]
  refine ⟨fun hu => ?_, fun hu => ?_⟩
  rotate_left
  · unfold stepF stepA at hp
    rw [if_pos hu, if_pos hu] at hp
    exact hp g4 h4 s4 k4
  refine w_nextFate hi24 h4.2.2.1 (fun j hj => (fw j hj).1) (fun g7 hF hf x9 e9 => ?_)
  have h7 := RR_F h4 hf hF
  have s7 : sC g g7 := sC_tr s4 (frr_C hf)
  have k7 : g7.1 4 0 = g.1 4 0 := hf.2.2.2.trans k4
  have hsF : stepF (up i) i fl = va_up fl i (fl i).tail := if_neg hu
  rw [hsF] at hp
  unfold stepA at hp
  rw [if_neg hu] at hp
  obtain ⟨sl, fs⟩ := h7.2.2.2.2.2
  rw [fs.2.2.1, show (512 : Int32) - nI AL.length = nI (512 - AL.length) from pk_sub hl] at e9
  subst e9
  rw [show g7.1 4 1 = nI T from h7.2.1, (h7.1.2 i hi24).2.1, hdl, show nI d * 1 = nI (d * 1) from pk_mul d 1, show nI d * 4 = nI (d * 4) from pk_mul d 4, nI_add, nI_add]
  have hb := fl_hd (fw i hi24).2
  generalize (fl i).headD 0 = b at hp hb
  have : b = 0 ∨ b = 1 ∨ b = 2 ∨ b = 3 := by omega
  rcases this with rfl | rfl | rfl | rfl
  · rw [if_neg (show ¬ (0 : Nat) = 1 by decide), if_neg (show ¬ (0 : Nat) = 2 by decide), if_neg (show ¬ (0 : Nat) = 3 by decide)] at hp
    refine ⟨fun c => absurd c (by decide), fun _ => ⟨fun _ => pk_le 1 (512 - AL.length) (fun hle => ⟨vin hi24 (by decide), fun _ => ?_, fun c => absurd c (by decide)⟩) (fun hgt => ?_), fun c => absurd c (by decide)⟩⟩
    · rw [if_pos (by omega)] at hp
      refine w_add h7 (by omega) hx hP hlt (fun G hG hs hc => ⟨fun _ => ?_, fun c => absurd c (by decide)⟩)
      rw [show T + d * 1 = T + d by omega] at hG
      exact hp G hG (sC_tr s7 hs) (hc.trans k7)
    · rw [if_neg (by omega)] at hp
      exact hp g7 h7 s7 k7
  · rw [if_pos rfl] at hp
    exact ⟨fun _ => hp g7 h7 s7 k7, fun c => absurd rfl c⟩
  · rw [if_neg (show ¬ (2 : Nat) = 1 by decide), if_pos rfl] at hp
    refine ⟨fun c => absurd c (by decide), fun _ => ⟨fun c => absurd rfl c, fun _ => pk_le 2 (512 - AL.length) (fun hle => ⟨vin hi24 (by decide), fun _ => ?_, fun c => absurd c (by decide)⟩) (fun hgt => ?_)⟩⟩
    · rw [if_pos (by omega)] at hp
      refine w_add h7 (by omega) hx hP hlt (fun G hG hs hc => ⟨fun c => absurd rfl c, fun _ => ⟨vin hi24 (by decide), ?_⟩⟩)
      rw [show G.1 4 1 = nI T from hG.2.1, (hG.1.2 i hi24).2.1, hdl, show nI d * 3 = nI (d * 3) from pk_mul d 3, nI_add]
      rw [show T + d * 1 = T + d by omega] at hG
      have hl2 : (AL ++ [mkq i p2 p3 p4 pl x sz (T + d)]).length = AL.length + 1 := by simp
      refine w_add hG (by omega) hx hP hlt (fun G' hG' hs' hc' => ?_)
      rw [show T + d * 3 = T + 3 * d by omega] at hG'
      exact hp G' hG' (sC_tr s7 (sC_tr hs hs')) (hc'.trans (hc.trans k7))
    · rw [if_neg (by omega)] at hp
      exact hp g7 h7 s7 k7
  · rw [if_neg (show ¬ (3 : Nat) = 1 by decide), if_neg (show ¬ (3 : Nat) = 2 by decide), if_pos rfl] at hp
    refine ⟨fun c => absurd c (by decide), fun _ => ⟨fun _ => pk_le 1 (512 - AL.length) (fun hle => ⟨vin hi24 (by decide), fun c => absurd rfl c, fun _ => ?_⟩) (fun hgt => ?_), fun c => absurd c (by decide)⟩⟩
    · rw [if_pos (by omega)] at hp
      refine w_add h7 (by omega) hx hP hlt (fun G hG hs hc => ⟨fun _ => ?_, fun c => absurd c (by decide)⟩)
      rw [show T + d * 4 = T + 4 * d by omega] at hG
      exact hp G hG (sC_tr s7 hs) (hc.trans k7)
    · rw [if_neg (by omega)] at hp
      exact hp g7 h7 s7 k7
/-! all the frames of a put -/
abbrev aSt : Type := (Nat → Int32) × (Nat → List Nat) × List aQ
def st1 (i : Nat) (u : Int32) (T d : Nat) (mk : Nat → Nat → Nat → aQ) (x sz : Nat) (s : aSt) : aSt := (upd s.1 i (s.1 i + 1), stepF u i s.2.1, stepA u ((s.2.1 i).headD 0) T d (mk x sz) s.2.2)
def runs (i : Nat) (u : Int32) (T d : Nat) (mk : Nat → Nat → Nat → aQ) (w P : Nat) : Nat → Nat → aSt → aSt
  | 0, _, s => s
  | m + 1, k, s => runs i u T d mk w P m (k + 1) (st1 i u T d mk (k * w) (if P - k * w < w then P - k * w else w) s)
theorem aW_runs {t F n T i d w : Nat} {lg dl up : Nat → Int32} {pl : List Nat} {p2 p3 p4 : Int32} (hi : i < n) (hd : d ≤ 50) (hP : pl.length ≤ 1480) : ∀ (m k : Nat) (s : aSt), aW t F n T lg dl up s.2.1 pl s.2.2 → aW t F n T lg dl up (runs i (up i) T d (mkq i p2 p3 p4 pl) w pl.length m k s).2.1 pl (runs i (up i) T d (mkq i p2 p3 p4 pl) w pl.length m k s).2.2
  | 0, _, _, h => h
  | m + 1, k, s, h => aW_runs hi hd hP m (k + 1) _ (aW_step h hi hd (by split <;> omega))
theorem cl_put {t F n T : Nat} {lg dl up : Nat → Int32} {pl : List Nat} {sm : Int32} {K : aQ} {i d w M : Nat} {p2 p3 p4 : Int32} {post : Int32 → gS → Prop} (ht : t ≤ 512) (hFP : F + pl.length < 4096) (hi : i < n) (hdl : dl i = nI d) (hd1 : 1 ≤ d) (hd2 : d ≤ 50) (hM : ∀ k, k < M → k * w < pl.length) (hMb : M ≤ 1480) (hwb : w ≤ 1480) : ∀ (m k : Nat) (s : aSt) (g : gS), m + k = M → aW t F n T lg dl up s.2.1 pl s.2.2 → RC F n T lg dl up s.1 s.2.1 pl s.2.2 sm K g → drf i p2 p3 p4 pl.length g → (∀ G, RC F n T lg dl up (runs i (up i) T d (mkq i p2 p3 p4 pl) w pl.length m k s).1 (runs i (up i) T d (mkq i p2 p3 p4 pl) w pl.length m k s).2.1 pl (runs i (up i) T d (mkq i p2 p3 p4 pl) w pl.length m k s).2.2 sm K G → sR g G → post (nI M) G) → wpl_X2_sendPayload_40 post (m + 1) i (nI pl.length) (nI w) (nI M) (nI k) g
  | 0, k, s, g, hm, hW, h, hdr, hp => by
    unfold wpl_X2_sendPayload_40
    exact ⟨by have := hW.1; omega, fun _ => hp g h sR_rfl, fun c => absurd (nI_le (by omega) (by omega)) c⟩
  | m + 1, k, s, g, hm, hW, h, hdr, hp => by
    have hP := hW.2.2.2.2.2.2.1
    have hk := hM k (by omega)
    unfold wpl_X2_sendPayload_40
    refine ⟨by have := hW.1; omega, fun c => absurd c (nI_ge (by omega) (by omega)), fun _ x8 e8 => ?_⟩
    rw [pk_mul] at e8
    subst e8
    have hsz : (if nI pl.length - nI (k * w) < nI w then nI pl.length - nI (k * w) else nI w) = nI (if pl.length - k * w < w then pl.length - k * w else w) := by
      rw [pk_sub (by omega)]
      by_cases hc : pl.length - k * w < w
      · rw [if_pos hc, if_pos (nI_lt hc (by omega))]
      · rw [if_neg hc, if_neg (nI_nlt (by omega) (by omega))]
    rw [hsz]
    refine c_piece ht hW hFP hi hdl hd1 hd2 h hdr (by split <;> omega) (fun G hG hs hdr' x10 e10 => ?_)
    rw [nI_1] at e10
    subst e10
    exact cl_put ht hFP hi hdl hd1 hd2 hM hMb hwb m (k + 1) (st1 i (up i) T d (mkq i p2 p3 p4 pl) (k * w) (if pl.length - k * w < w then pl.length - k * w else w) s) G (by omega) (aW_step hW hi hd2 (by split <;> omega)) hG hdr' (fun G' hG' hs' => hp G' hG' (sR_tr hs hs'))
theorem rl_put {t F n T : Nat} {lg dl up : Nat → Int32} {pl : List Nat} {sm : Int32} {K : aQ} {i d w M : Nat} {p2 p3 p4 x5 : Int32} {post : Int32 → gS → Prop} (hi : i < n) (hdl : dl i = nI d) (hd2 : d ≤ 50) (hM : ∀ k, k < M → k * w < pl.length) (hM2 : pl.length ≤ M * w) (hMw : M * w ≤ 2960) (hMb : M ≤ 1480) (hwb : w ≤ 1480) : ∀ (m k : Nat) (s : aSt) (g : gS), m + k = M → aW t F n T lg dl up s.2.1 pl s.2.2 → RR n T lg dl up s.1 s.2.1 pl s.2.2 sm K g → (∀ G, RR n T lg dl up (runs i (up i) T d (mkq i p2 p3 p4 pl) w pl.length m k s).1 (runs i (up i) T d (mkq i p2 p3 p4 pl) w pl.length m k s).2.1 pl (runs i (up i) T d (mkq i p2 p3 p4 pl) w pl.length m k s).2.2 sm K G → sC g G → G.1 4 0 = g.1 4 0 → post (nI M) (gi G 4 3 0)) → wpl_X3_put_105 post (m + 1) (nI i) p2 p3 p4 x5 (nI k) (nI w) (nI (k * w)) g
  | 0, k, s, g, hm, hW, h, hp => by
    unfold wpl_X3_put_105
    obtain rfl : k = M := by omega
    rw [h.2.2.2.1.1]
    refine ⟨fun _ g11 e11 => ?_, fun c => absurd (nI_le hM2 (by omega)) c⟩
    subst e11
    exact hp g h sC_rfl rfl
  | m + 1, k, s, g, hm, hW, h, hp => by
    have hP := hW.2.2.2.2.2.2.1
    have hk := hM k (by omega)
    have hstep : ∀ (sz : Nat), sz = (if pl.length - k * w < w then pl.length - k * w else w) → wp_X3_frame (fun g_13 => (∀ x_14 : Int32, x_14 = nI k + 1 → (∀ x_15 : Int32, x_15 = nI (k * w) + nI w → (wpl_X3_put_105 post (m + 1) (nI i) p2 p3 p4 x5 x_14 (nI w) x_15 g_13)))) (nI i) p2 p3 p4 (nI (k * w)) (nI sz) g := fun sz hsz => by
      refine r_frame hW hi hdl h (by rw [hsz]; split <;> omega) (fun G hG hs hc x14 e14 x15 e15 => ?_)
      rw [nI_1] at e14
      rw [nI_add, show k * w + w = (k + 1) * w by rw [Nat.add_mul, Nat.one_mul]] at e15
      subst e14
      subst e15
      rw [hsz] at hG
      exact rl_put hi hdl hd2 hM hM2 hMw hMb hwb m (k + 1) (st1 i (up i) T d (mkq i p2 p3 p4 pl) (k * w) (if pl.length - k * w < w then pl.length - k * w else w) s) G (by omega) (aW_step hW hi hd2 (by split <;> omega)) hG (fun G' hG' hs' hc' => hp G' hG' (sC_tr hs hs') (hc'.trans hc))
    unfold wpl_X3_put_105
    rw [h.2.2.2.1.1, pk_sub (by omega)]
    refine ⟨fun c => absurd c (nI_ge hk (by omega)), fun _ => pk_le w (pl.length - k * w) (fun hle => hstep w (by rw [if_neg (by omega)])) (fun hgt => hstep (pl.length - k * w) (by rw [if_pos hgt]))⟩

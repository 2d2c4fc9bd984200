/-! a frame, in the account -/
def mkq (i : Nat) (p2 p3 p4 : Int32) (pl : List Nat) (x sz due : Nat) : aQ := (fun k => if k = 0 then nI i else if k = 1 then p2 else if k = 2 then p3 else if k = 3 then p4 else if k = 4 then nI x else if k = 5 then nI pl.length else nI sz, fun j => nI (pl.getD (x + j) 0), due)
def stepF (u : Int32) (i : Nat) (fl : Nat → List Nat) : Nat → List Nat := if u = 0 then fl else va_up fl i (fl i).tail
def stepA (u : Int32) (b T d : Nat) (mk : Nat → aQ) (AL : List aQ) : List aQ := if u = 0 then AL else if b = 1 then AL else if b = 2 then (if AL.length + 2 ≤ 512 then (AL ++ [mk (T + d)]) ++ [mk (T + 3 * d)] else AL) else if AL.length < 512 then AL ++ [mk (T + (if b = 3 then 4 * d else d))] else AL
def drf (i : Nat) (p2 p3 p4 : Int32) (P : Nat) (g : gS) : Prop := g.1 31 513 = nI i ∧ g.1 32 513 = p2 ∧ g.1 33 513 = p3 ∧ g.1 34 513 = p4 ∧ g.1 36 513 = nI P
theorem drf_B {i P : Nat} {p2 p3 p4 : Int32} {g G : gS} (h : ∀ r, 30 ≤ r → r ≤ 38 → G.1 r 513 = g.1 r 513) (hd : drf i p2 p3 p4 P g) : drf i p2 p3 p4 P G :=
  ⟨(h 31 (by omega) (by omega)).trans hd.1, (h 32 (by omega) (by omega)).trans hd.2.1, (h 33 (by omega) (by omega)).trans hd.2.2.1, (h 34 (by omega) (by omega)).trans hd.2.2.2.1, (h 36 (by omega) (by omega)).trans hd.2.2.2.2⟩
theorem fl_hd {L : List Nat} (h : ∀ b, b ∈ L → b < 4) : L.headD 0 < 4 := by
  cases L with
  | nil => decide
  | cons b L => exact h b List.mem_cons_self
theorem aW_step {t F n T i d x sz : Nat} {lg dl up : Nat → Int32} {fl : Nat → List Nat} {pl : List Nat} {AL : List aQ} {p2 p3 p4 : Int32} (h : aW t F n T lg dl up fl pl AL) (hi : i < n) (hd : d ≤ 50) (hsz : sz ≤ 1480) : aW t F n T lg dl up (stepF (up i) i fl) pl (stepA (up i) ((fl i).headD 0) T d (mkq i p2 p3 p4 pl x sz) AL) := by
  obtain ⟨w1, w2, w3, w4, w5, w6, w7, w8, w9, w10⟩ := h
  have hmk : up i ≠ 0 → ∀ w, w ≤ 200 → wQ t n up (mkq i p2 p3 p4 pl x sz (T + w)) := fun hu w hw => by
    refine ⟨by show T + w ≤ _; omega, ⟨sz, hsz, rfl⟩, i, hi, rfl, ?_⟩
    rcases w4 i (by omega) with h | h
    · exact absurd h hu
    · exact h
  refine ⟨w1, w2, w3, w4, fun j hj => ?_, w6, w7, w8, ?_, fun q hq => ?_⟩
  · unfold stepF
    by_cases hu : up i = 0
    · rw [if_pos hu]
      exact w5 j hj
    · rw [if_neg hu]
      by_cases hji : j = i
      · subst hji
        rw [va_up_self]
        have := w5 j hj
        exact ⟨by rw [List.length_tail]; omega, fun b hb => this.2 b (List.mem_of_mem_tail hb)⟩
      · rw [va_up_ne _ _ hji]
        exact w5 j hj
  · unfold stepA
    (repeat' split) <;> (try exact w9) <;> rw [List.length_append] <;> (try rw [List.length_append]) <;> simp only [List.length_cons, List.length_nil] <;> omega
  · unfold stepA at hq
    by_cases hu : up i = 0
    · rw [if_pos hu] at hq
      exact w10 q hq
    rw [if_neg hu] at hq
    split at hq
    · exact w10 q hq
    split at hq
    · split at hq
      · rcases List.mem_append.mp hq with hq | hq
        · rcases List.mem_append.mp hq with hq | hq
          · exact w10 q hq
          · rw [List.mem_singleton.mp hq]
            exact hmk hu d (by omega)
        · rw [List.mem_singleton.mp hq]
          exact hmk hu (3 * d) (by omega)
      · exact w10 q hq
    · split at hq
      · rcases List.mem_append.mp hq with hq | hq
        · exact w10 q hq
        · rw [List.mem_singleton.mp hq]
          exact hmk hu _ (by split <;> omega)
      · exact w10 q hq
theorem RC_ct {F n T : Nat} {lg dl up ct : Nat → Int32} {fl : Nat → List Nat} {pl : List Nat} {AL : List aQ} {sm : Int32} {K : aQ} {g : gS} {i : Nat} {v : Int32} (hi : i < 24) (h : RC F n T lg dl up ct fl pl AL sm K g) : RC F n T lg dl up (upd ct i v) fl pl AL sm K (gi g 23 i v) := by
  obtain ⟨a, b, c, d, e, f⟩ := h
  refine ⟨⟨by rw [gi_r (by omega)]; exact a.1, fun j hj => ?_⟩, cT_c (g := g) (by rw [gi_r (by omega)]) b, kF_c (g := g) (fun r _ => gi_r (by omega)) c, kP_c (g := g) (by rw [gi_r (by omega)]) (by rw [gi_r (by omega)]) (gi_r (by omega)) d, cK_c (g := g) (by rw [gi_r (by omega)]) (gi_r (by omega)) rfl (fun r _ _ => by rw [gi_r (by omega)]) e, cA_c (g := g) (by rw [gi_r (by omega)]) (gi_r (by omega)) rfl rfl (fun r _ _ => gi_r (by omega)) f⟩
  obtain ⟨q1, q2, q3, q4⟩ := a.2 j hj
  by_cases hij : j = i
  · subst hij
    simp [gi, gu, upd, q1, q2, q3]
  · simp [gi, gu, upd, hij, q1, q2, q3, q4]
theorem RC_dr {F n T : Nat} {lg dl up ct : Nat → Int32} {fl : Nat → List Nat} {pl : List Nat} {AL : List aQ} {sm : Int32} {K : aQ} {g : gS} {r : Nat} {v : Int32} (h1 : 30 ≤ r) (h2 : r ≤ 38) (hl : AL.length ≤ 512) (h : RC F n T lg dl up ct fl pl AL sm K g) : RC F n T lg dl up ct fl pl AL sm K (gi g r 513 v) := by
  obtain ⟨a, b, c, d, e, f⟩ := h
  refine ⟨cN_c (g := g) (by rw [gi_r (by omega)]) (fun r' _ _ => gi_r (by omega)) a, cT_c (g := g) (by rw [gi_r (by omega)]) b, kF_c (g := g) (fun r' _ => gi_r (by omega)) c, kP_c (g := g) (by rw [gi_r (by omega)]) (by rw [gi_r (by omega)]) (gi_r (by omega)) d, cK_c (g := g) (by rw [gi_r (by omega)]) (gi_r (by omega)) rfl (fun r' _ _ => gi_n (by have := e.2.1; omega)) e, ⟨by rw [gi_r (by omega)]; exact f.1, fun k q hk => ?_, f.2.2⟩⟩
  have hkl := get_lt hk
  rw [srt_len] at hkl
  exact cO_c (g := g) (fun r' _ _ => gi_n (by show ¬ (r' = r ∧ g.2.1 k = 513); have := (f.2.2.1 k (by omega)).1; omega)) (gi_r (by omega)) (f.2.1 k q hk)
theorem w_meet {F n T : Nat} {lg dl up ct : Nat → Int32} {fl : Nat → List Nat} {pl : List Nat} {AL : List aQ} {sm : Int32} {K : aQ} {g : gS} {post : gS → Prop} {b w : Nat} {mk : Nat → aQ} {u : Int32} (hu : ¬ u = 0) (h : RC F n T lg dl up ct fl pl AL sm K g) (hl : AL.length ≤ 512) (hb : b < 4) (hw : 1 ≤ w) (hw2 : w ≤ 50) (hT : T ≤ 1000000) (hmk : ∀ v, (mk v).2.2 = v) (hd : ∀ a, a ∈ AL → a.2.2 < 2 ^ 31) (hO : ∀ v, dO (F + pl.length) g (mk v)) (hp : ∀ G, RC F n T lg dl up ct fl pl (stepA u b T w mk AL) sm K G → frB g G → post G) : wp_X2_meetFate post (nI b) (nI w) g := by
  unfold wp_X2_meetFate
  rw [nI_toInt (by omega), h.2.2.2.2.2.1, show (3 : Int32) * nI w = nI (3 * w) from pk_mul 3 w, show (4 : Int32) * nI w = nI (4 * w) from pk_mul 4 w, show nI AL.length + 2 = nI (AL.length + 2) from nI_add _ 2]
  unfold stepA at hp
  rw [if_neg hu] at hp
  refine ⟨fun hb1 => ?_, fun hb1 => ?_, fun hb1 => ?_, fun hb1 => ?_⟩
  · have hb0 : b = 0 := by omega
    subst hb0
    rw [if_neg (show ¬ (0 : Nat) = 1 by decide), if_neg (show ¬ (0 : Nat) = 2 by decide), if_neg (show ¬ (0 : Nat) = 3 by decide)] at hp
    refine w_ab (q := mk (T + w)) h hl (hmk _) (by omega) hd (hO _) (fun hf => ?_) (fun hf G hG hfr => ?_)
    · rw [if_neg hf] at hp
      exact hp g h frB_rfl
    · rw [if_pos hf] at hp
      exact hp G hG hfr
  · have hb0 : b = 1 := by omega
    subst hb0
    rw [if_pos rfl] at hp
    exact hp g h frB_rfl
  · have hb0 : b = 2 := by omega
    subst hb0
    rw [if_neg (by decide), if_pos rfl] at hp
    refine pk_lt 512 (AL.length + 2) (fun hlt => ?_) (fun hge => ?_)
    · rw [if_neg (by omega)] at hp
      exact hp g h frB_rfl
    · rw [if_pos hge] at hp
      refine w_ab (q := mk (T + w)) h hl (hmk _) (by omega) hd (hO _) (fun hf => absurd hf (by omega)) (fun hf G hG hfr => ?_)
      have hl2 : (AL ++ [mk (T + w)]).length = AL.length + 1 := by simp
      refine w_ab (q := mk (T + 3 * w)) hG (by omega) (hmk _) (by omega) (fun a ha => ?_) (dO_B hfr (hO _)) (fun hf => absurd hf (by omega)) (fun hf G' hG' hfr' => hp G' hG' (frB_tr hfr hfr'))
      rcases List.mem_append.mp ha with ha | ha
      · exact hd a ha
      · rw [List.mem_singleton.mp ha, hmk]
        omega
  · have hb0 : b = 3 := by omega
    subst hb0
    rw [if_neg (by decide), if_neg (by decide), if_pos rfl] at hp
    refine w_ab (q := mk (T + 4 * w)) h hl (hmk _) (by omega) hd (hO _) (fun hf => ?_) (fun hf G hG hfr => ?_)
    · rw [if_neg hf] at hp
      exact hp g h frB_rfl
    · rw [if_pos hf] at hp
      exact hp G hG hfr
theorem c_piece {t F n T : Nat} {lg dl up ct : Nat → Int32} {fl : Nat → List Nat} {pl : List Nat} {AL : List aQ} {sm : Int32} {K : aQ} {g : gS} {post : gS → Prop} {i d x sz : Nat} {p2 p3 p4 : Int32} (ht : t ≤ 512) (hW : aW t F n T lg dl up fl pl AL) (hFP : F + pl.length < 4096) (hi : i < n) (hdl : dl i = nI d) (hd1 : 1 ≤ d) (hd2 : d ≤ 50) (h : RC F n T lg dl up ct fl pl AL sm K g) (hdr : drf i p2 p3 p4 pl.length g) (hx : x + sz ≤ pl.length) (hp : ∀ G, RC F n T lg dl up (upd ct i (ct i + 1)) (stepF (up i) i fl) pl (stepA (up i) ((fl i).headD 0) T d (mkq i p2 p3 p4 pl x sz) AL) sm K G → sR g G → drf i p2 p3 p4 pl.length G → post G) : wp_X2_sendPiece post i (nI x) (nI sz) g := by
  have hn := hW.1
  have hi24 : i < 24 := by omega
  have hl := hW.2.2.2.2.2.2.2.2.1
  have hTb := hW.2.1
  have hP := hW.2.2.2.2.2.2.1
  unfold wp_X2_sendPiece
  refine ⟨hi24, fun x1 e1 g2 e2 => ?_⟩
  rw [(h.1.2 i hi24).2.2.2] at e1
  subst e1
  have h2 := RC_ct (v := ct i + 1) hi24 h
  rw [← e2] at h2
  have s2 : sR g g2 := by rw [e2]; exact sR_i (by omega)
  have d2 : drf i p2 p3 p4 pl.length g2 := drf_B (g := g) (fun r _ _ => by rw [e2, gi_r (by omega)]) hdr
  rw [(h2.1.2 i hi24).2.2.1]
  refine ⟨fun hu g4 e4 g5 e5 => ?_, fun hu => ?_⟩
  · have h5 : RC F n T lg dl up (upd ct i (ct i + 1)) fl pl AL sm K g5 := by rw [e5, e4]; exact RC_dr (by omega) (by omega) hl (RC_dr (by omega) (by omega) hl h2)
    have s5 : sR g g5 := by rw [e5, e4]; exact sR_tr s2 (sR_tr (sR_i (by omega)) (sR_i (by omega)))
    unfold wp_X2_ringPlace
    rw [h5.2.2.2.1.1, ringp (by omega)]
    intro g8 e8
    have h8 : RC F n T lg dl up (upd ct i (ct i + 1)) fl pl AL sm K g8 := by rw [e8]; exact RC_dr (by omega) (by omega) hl h5
    have s8 : sR g g8 := by rw [e8]; exact sR_tr s5 (sR_i (by omega))
    have d8 : drf i p2 p3 p4 pl.length g8 := by
      rw [e8, e5, e4]
      refine ⟨?_, ?_, ?_, ?_, ?_⟩
      · rw [gi_n (by omega), gi_n (by omega), gi_n (by omega)]; exact d2.1
      · rw [gi_n (by omega), gi_n (by omega), gi_n (by omega)]; exact d2.2.1
      · rw [gi_n (by omega), gi_n (by omega), gi_n (by omega)]; exact d2.2.2.1
      · rw [gi_n (by omega), gi_n (by omega), gi_n (by omega)]; exact d2.2.2.2.1
      · rw [gi_n (by omega), gi_n (by omega), gi_n (by omega)]; exact d2.2.2.2.2
    have k35 : g8.1 35 513 = nI x := by rw [e8, gi_n (by omega), e5, gi_n (by omega), e4, gi_s]
    have k37 : g8.1 37 513 = nI sz := by rw [e8, gi_n (by omega), e5, gi_s]
    have k38 : g8.1 38 513 = nI (F + x) := by rw [e8, gi_s]
    have fw := hW.2.2.2.2.1 i hi24
    refine w_takeFate hi24 h8.2.2.1 fw.1 (fun G hG hf => ?_)
    have hR := RC_F h8 hf hG
    have sG := sR_tr s8 (frF_R hf)
    rw [(hR.1.2 i hi24).2.1, hdl]
    have dG : drf i p2 p3 p4 pl.length G := drf_B (g := g8) (fun r _ _ => by rw [hf.1 r (by omega)]) d8
    have hsF : stepF (up i) i fl = va_up fl i (fl i).tail := if_neg hu
    rw [hsF] at hp
    refine w_meet (mk := mkq i p2 p3 p4 pl x sz) hu hR hl (fl_hd fw.2) hd1 hd2 (by omega) (fun _ => rfl) (fun a ha => by have := (hW.2.2.2.2.2.2.2.2.2 a ha).1; omega) (fun v => ⟨fun k hk => ?_, F + x, sz, rfl, by omega, by omega, by rw [hf.1 38 (by omega)]; exact k38, fun j hj => ?_⟩) (fun G' hG' hfr => hp G' hG' (sR_tr sG (frB_R hfr)) (drf_B hfr.2.1 dG))
    · have : k = 0 ∨ k = 1 ∨ k = 2 ∨ k = 3 ∨ k = 4 ∨ k = 5 ∨ k = 6 := by omega
      rcases this with rfl | rfl | rfl | rfl | rfl | rfl | rfl
      · exact dG.1
      · exact dG.2.1
      · exact dG.2.2.1
      · exact dG.2.2.2.1
      · rw [hf.1 _ (by omega)]
        exact k35
      · exact dG.2.2.2.2
      · rw [hf.1 _ (by omega)]
        exact k37
    · have hj2 := List.getElem?_eq_getElem (l := pl) (i := x + j) (by omega)
      have := hR.2.2.2.1.2.2 _ _ hj2
      rw [Nat.add_assoc, this]
      show _ = nI (pl.getD (x + j) 0)
      rw [List.getD_eq_getElem?_getD, hj2]
      rfl
  · unfold stepF stepA at hp
    rw [if_pos hu, if_pos hu] at hp
    exact hp g2 h2 s2 d2

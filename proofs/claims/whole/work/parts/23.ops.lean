/-! feed -/
def fd (v : Int64) : Nat → List Nat
  | 0 => []
  | m + 1 => by8 v m :: fd v m
theorem fd_len (v : Int64) : ∀ m, (fd v m).length = m
  | 0 => rfl
  | m + 1 => by
    show (fd v m).length + 1 = m + 1
    rw [fd_len v m]
theorem fd_lt (v : Int64) : ∀ m b, b ∈ fd v m → b < 256
  | 0, b, h => absurd h (by simp [fd])
  | m + 1, b, h => by
    rcases List.mem_cons.mp h with rfl | h
    · exact by8_lt v m
    · exact fd_lt v m b h
theorem RC_feed {F n T : Nat} {lg dl up ct : Nat → Int32} {fl : Nat → List Nat} {pl : List Nat} {AL : List aQ} {sm : Int32} {K : aQ} {g : gS} {b : Nat} {y : Int32} (h : RC F n T lg dl up ct fl pl AL sm K g) (hy : y &&& 255 = nI b) : RC F n T lg dl up ct fl (pl ++ [b]) AL sm K (gi (gi g 3 (F + pl.length) y) 0 5 (nI (pl.length + 1))) := by
  obtain ⟨a, b1, c, d, e, f⟩ := h
  have hlen : (pl ++ [b]).length = pl.length + 1 := by simp
  refine ⟨cN_c (g := g) (by rw [gi_n (by omega), gi_n (by omega)]) (fun r _ _ => by rw [gi_r (by omega), gi_r (by omega)]) a, cT_c (g := g) (by rw [gi_n (by omega), gi_n (by omega)]) b1, kF_c (g := g) (fun r hr => by rw [gi_r (by omega), gi_r (by omega)]) c, ⟨by rw [gi_n (by omega), gi_n (by omega)]; exact d.1, by rw [gi_s, hlen], fun j b' hj => ?_⟩, ⟨by rw [gi_n (by omega), gi_n (by omega)]; exact e.1, e.2.1, fun hs => cO_r (g := g) (fun r _ _ => by rw [gi_r (by omega), gi_r (by omega)]) (fun x hx => by rw [gi_r (by omega), gi_n (by omega)]) (by omega) (e.2.2 hs)⟩, ⟨by rw [gi_n (by omega), gi_n (by omega)]; exact f.1, fun k q hk => cO_r (g := g) (fun r _ _ => by rw [gi_r (by omega), gi_r (by omega)]) (fun x hx => by rw [gi_r (by omega), gi_n (by omega)]) (by omega) (f.2.1 k q hk), f.2.2⟩⟩
  rcases snoc_get hj with ⟨h1, h2⟩ | ⟨h1, h2⟩
  · rw [gi_r (by omega), gi_n (by omega)]
    exact d.2.2 j b' h2
  · rw [gi_r (by omega), h1, gi_s, h2]
    exact hy
theorem cl_feed {F n T : Nat} {lg dl up ct : Nat → Int32} {fl : Nat → List Nat} {AL : List aQ} {sm : Int32} {K : aQ} (v : Int64) {p2 : Int32} {post : Int32 → gS → Prop} {px : String × gS → Prop} : ∀ (m : Nat) (pl : List Nat) (g : gS), m ≤ 8 → RC F n T lg dl up ct fl pl AL sm K g → F + pl.length + m ≤ 4096 → (∀ G, RC F n T lg dl up ct fl (pl ++ fd v m) AL sm K G → sR g G → post (nI (pl.length + m)) G) → wpl_X2_feed_48 post px (m + 1) v p2 (nI m + (-1)) g
  | 0, pl, g, hm, h, hl, hp => by
    unfold wpl_X2_feed_48
    refine ⟨fun _ => ?_, fun c => absurd (by decide) c⟩
    rw [h.2.2.2.1.2.1]
    refine hp g ?_ sR_rfl
    rw [show fd v 0 = [] from rfl, List.append_nil]
    exact h
  | m + 1, pl, g, hm, h, hl, hp => by
    unfold wpl_X2_feed_48
    rw [pk_m1]
    refine ⟨fun c => absurd c (nI_pos (by omega)), fun _ => ?_⟩
    unfold wp_X2_ringPlace
    rw [h.2.2.2.1.1, h.2.2.2.1.2.1, ringp (by omega)]
    intro x8 e8
    rw [nI_clamp (by omega)]
    refine ⟨vin (by omega) (by decide), fun g10 e10 x11 e11 g12 e12 x13 e13 => ?_⟩
    have hx : x11 = nI (pl.length + 1) := by rw [e11, e10, gi_n (by omega), h.2.2.2.1.2.1, nI_1]
    subst hx
    subst e13
    subst e8
    have hG := RC_feed h (by8_c v (k := m) (by omega))
    rw [← e10, ← e12] at hG
    refine cl_feed v m _ g12 (by omega) hG (by rw [List.length_append]; show F + (pl.length + 1) + m ≤ 4096; omega) (fun G hG' hs => ?_)
    rw [List.append_assoc] at hG'
    have := hp G hG' (sR_tr (by rw [e12, e10]; exact sR_tr (sR_i (by omega)) (sR_i (by omega))) hs)
    rw [List.length_append, show pl.length + [by8 v m].length + m = pl.length + (m + 1) by show _ + 1 + m = _; omega]
    exact this
theorem RR_feed {n T : Nat} {lg dl up ct : Nat → Int32} {fl : Nat → List Nat} {pl : List Nat} {AL : List aQ} {sm : Int32} {K : aQ} {g : gS} {b : Nat} (h : RR n T lg dl up ct fl pl AL sm K g) : RR n T lg dl up ct fl (pl ++ [b]) AL sm K (gi (gi g 11 pl.length (nI b)) 4 3 (nI (pl.length + 1))) := by
  obtain ⟨a, b1, c, d, e, f⟩ := h
  have hlen : (pl ++ [b]).length = pl.length + 1 := by simp
  refine ⟨rN_c (g := g) (by simp [gi, gu]) (by simp [gi, gu_r]) (by simp [gi, gu_r]) (by simp [gi, gu_r]) (by simp [gi, gu_r]) a, rT_c (g := g) (by simp [gi, gu]) b1, rF_c (g := g) (by simp [gi, gu_r]) (by simp [gi, gu_r]) c, ⟨by rw [gi_s, hlen], fun j b' hj => ?_⟩, rK_c (g := g) (by simp [gi, gu]) (by simp [gi, gu_r]) (by simp [gi, gu_r]) e, rA_c (g := g) (by simp [gi, gu]) (by simp [gi, gu_r]) (by simp [gi, gu_r]) (by simp [gi, gu_r]) rfl f⟩
  rcases snoc_get hj with ⟨h1, h2⟩ | ⟨h1, h2⟩
  · rw [gi_r (by omega), gi_n (by omega)]
    exact d.2 j b' h2
  · rw [gi_r (by omega), h1, gi_s, h2]
theorem rl_feed {n T : Nat} {lg dl up ct : Nat → Int32} {fl : Nat → List Nat} {AL : List aQ} {sm : Int32} {K : aQ} (v : Int64) {p2 : Int32} {post : Int32 → gS → Prop} : ∀ (m : Nat) (pl : List Nat) (g : gS), m ≤ 8 → RR n T lg dl up ct fl pl AL sm K g → pl.length + m ≤ 1480 → (∀ G, RR n T lg dl up ct fl (pl ++ fd v m) AL sm K G → sC g G → G.1 4 0 = g.1 4 0 → post (nI (pl.length + m)) G) → wpl_X3_feed_50 post (m + 1) v p2 (nI m + (-1)) g
  | 0, pl, g, hm, h, hl, hp => by
    unfold wpl_X3_feed_50
    refine ⟨fun _ => ?_, fun c => absurd (by decide) c⟩
    rw [h.2.2.2.1.1]
    refine hp g ?_ sC_rfl rfl
    rw [show fd v 0 = [] from rfl, List.append_nil]
    exact h
  | m + 1, pl, g, hm, h, hl, hp => by
    unfold wpl_X3_feed_50
    rw [pk_m1]
    refine ⟨fun c => absurd c (nI_pos (by omega)), fun _ x6 e6 => ?_⟩
    rw [by8_r v (by omega)] at e6
    subst e6
    rw [h.2.2.2.1.1, nI_clamp (by omega)]
    refine ⟨vin (by omega) (by decide), fun g10 e10 x11 e11 g12 e12 x13 e13 => ?_⟩
    have hx : x11 = nI (pl.length + 1) := by rw [e11, e10, gi_n (by omega), h.2.2.2.1.1, nI_1]
    subst hx
    subst e13
    have hG := RR_feed (b := by8 v m) h
    rw [← e10, ← e12] at hG
    refine rl_feed v m _ g12 (by omega) hG (by rw [List.length_append]; show (pl.length + 1) + m ≤ 1480; omega) (fun G hG' hs hc => ?_)
    rw [List.append_assoc] at hG'
    have := hp G hG' (sC_tr (by rw [e12, e10]; exact sC_tr (sC_i (by omega) (by omega)) (sC_i (by omega) (by omega))) hs) (by rw [hc, e12, e10, gi_n (by omega), gi_n (by omega)])
    rw [List.length_append, show pl.length + [by8 v m].length + m = pl.length + (m + 1) by show _ + 1 + m = _; omega]
    exact this
theorem op_feed {t F n T : Nat} {lg dl up ct : Nat → Int32} {fl : Nat → List Nat} {pl : List Nat} {AL : List aQ} {sm : Int32} {K : aQ} {g : gS} {Q : Int32 → gS → Prop} {p2 : Int32} {v : Int64} (ht : t < 512) (hJ : J t F n T lg dl up ct fl pl AL sm K g) (hQ : ∀ k g1, (∀ C : gS → Prop, (∀ g', Inv (t + 1) g' → C g') → wp_X3_feed (fun b g2 => endK C k b g2) v p2 g1) → Q k g1) : wp_L_feed Q v p2 g := by
  have e5 : g.1 0 5 = nI pl.length := hJ.2.1.2.2.2.1.2.1
  have e3 : g.1 4 3 = nI pl.length := hJ.2.2.2.2.2.1.1
  have hP : pl.length ≤ 1480 := hJ.1.2.2.2.2.2.2.1
  have hF := hJ.1.2.2.2.2.2.1
  unfold wp_L_feed wp_X2_feed
  by_cases h1 : p2 < 1
  · refine ⟨fun _ => Or.inl ⟨rfl, hQ _ _ (fun C hC => ?_)⟩, fun c => absurd h1 c⟩
    unfold wp_X3_feed
    refine ⟨fun _ g2 e2 => ?_, fun c => absurd h1 c⟩
    subst e2
    exact bad (by decide) hJ hC
  by_cases h2 : p2 ≤ 8
  rotate_left
  · refine ⟨fun c => absurd c h1, fun _ => ⟨fun c => absurd c h2, fun _ => Or.inl ⟨rfl, hQ _ _ (fun C hC => ?_)⟩⟩⟩
    unfold wp_X3_feed
    refine ⟨fun c => absurd c h1, fun _ => ⟨fun c => absurd c h2, fun _ g2 e2 => ?_⟩⟩
    subst e2
    exact bad (by decide) hJ hC
  obtain ⟨N, hN, rfl⟩ := nI_of2 (M := 8) (n := 8) (by decide) (fun c => h1 (Int32.lt_trans c (by decide))) h2
  by_cases h3 : pl.length + N ≤ 1480
  · have hs : g.1 0 5 + nI N ≤ 1480 := by rw [e5, nI_add]; exact nI_le (b := 1480) h3 (by decide)
    refine ⟨fun c => absurd c h1, fun _ => ⟨fun _ => ⟨fun _ x4 e4 => ⟨N + 1, ?_⟩, fun c => absurd hs c⟩, fun c => absurd h2 c⟩⟩
    rw [Int32.sub_eq_add_neg] at e4
    subst e4
    refine cl_feed v N pl g hN hJ.2.1 (by omega) (fun G hG hs => ⟨vin01, fun g4 e4 => ?_⟩)
    subst e4
    refine hQ _ _ (fun C hC => ?_)
    have hR := RR_s (sR_tr hs (sR_j (i := (0 : Int32).toNatClampNeg) (v := (nI (pl.length + N)).toInt64))) hJ.2.2
    unfold wp_X3_feed
    refine ⟨fun c => absurd c h1, fun _ => ⟨fun _ => ⟨fun _ g7 e7 => ?_, fun c => absurd ?_ c⟩, fun c => absurd h2 c⟩⟩
    · subst e7
      refine code_good (fun x17 e17 => ⟨N + 1, ?_⟩)
      rw [Int32.sub_eq_add_neg] at e17
      subst e17
      refine rl_feed v N pl _ hN (RR_s (sR_code (v := 0)) hR) h3 (fun g' hR' hs' hc => fin ?_ hG hR' (sC_tr (sC_i (by omega) (by omega)) hs') (by rw [hc, gi_s]) hC)
      obtain ⟨w1, w2, w3, w4, w5, w6, w7, w8, w9, w10⟩ := aW_up (Nat.le_succ t) hJ.1
      refine ⟨w1, w2, w3, w4, w5, by rw [List.length_append, fd_len]; omega, by rw [List.length_append, fd_len]; exact h3, fun b hb => ?_, w9, w10⟩
      rcases List.mem_append.mp hb with hb | hb
      · exact w8 b hb
      · exact fd_lt v _ b hb
    · rw [hR.2.2.2.1.1, nI_add]
      exact nI_le (b := 1480) h3 (by decide)
  · refine ⟨fun c => absurd c h1, fun _ => ⟨fun _ => ⟨fun c => absurd c ?_, fun _ => Or.inr ⟨rfl, hQ _ _ (fun C hC => ?_)⟩⟩, fun c => absurd h2 c⟩⟩
    · rw [e5, nI_add]
      exact nI_ge (a := 1480) (by omega) (by omega)
    · unfold wp_X3_feed
      refine ⟨fun c => absurd c h1, fun _ => ⟨fun _ => ⟨fun c => absurd c ?_, fun _ g2 e2 => ?_⟩, fun c => absurd h2 c⟩⟩
      · rw [e3, nI_add]
        exact nI_ge (a := 1480) (by omega) (by omega)
      · subst e2
        exact bad (by decide) hJ hC
/-! pass -/
theorem sOk_get {L : List aQ} (h : sOk L) {k j : Nat} {a b : aQ} (hk : L[k]? = some a) (hj : L[j]? = some b) (hkj : k ≤ j) : a.2.2 ≤ b.2.2 := by
  have h1 := get_lt hk
  have h2 := get_lt hj
  rw [List.getElem?_eq_getElem h1] at hk
  rw [List.getElem?_eq_getElem h2] at hj
  have e1 := Option.some.inj hk
  have e2 := Option.some.inj hj
  rcases Nat.lt_or_ge k j with hl | hl
  · have := (List.pairwise_iff_getElem.mp h) k j h1 h2 hl
    rw [e1, e2] at this
    exact this
  · have : k = j := by omega
    subst this
    rw [← e1, ← e2]
    exact Nat.le_refl _
def dueP (T : Nat) (q : aQ) : Bool := decide (q.2.2 ≤ T)
theorem flt (T : Nat) : ∀ (L : List aQ) (k : Nat), k ≤ L.length → (∀ j a, L[j]? = some a → j < k → a.2.2 ≤ T) → (∀ j a, L[j]? = some a → k ≤ j → T < a.2.2) → (L.filter (dueP T)).length = k
  | [], k, hk, _, _ => by
    have : k = 0 := by simpa using hk
    subst this
    rfl
  | a :: L, 0, _, _, h2 => by
    have h : ∀ q, q ∈ a :: L → ¬ dueP T q = true := by
      intro q hq
      obtain ⟨j, hj⟩ := List.getElem?_of_mem hq
      have := h2 j q hj (Nat.zero_le j)
      simp only [dueP, decide_eq_true_eq]
      omega
    rw [List.filter_eq_nil_iff.mpr h]
    rfl
  | a :: L, k + 1, hk, h1, h2 => by
    have ha := h1 0 a rfl (by omega)
    rw [List.filter_cons_of_pos (by simp only [dueP, decide_eq_true_eq]; exact ha), List.length_cons, flt T L k (by simpa using hk) (fun j b hj hjk => h1 (j + 1) b (by simpa using hj) (by omega)) (fun j b hj hjk => h2 (j + 1) b (by simpa using hj) (by omega))]
theorem flt_srt (T : Nat) (AL : List aQ) : ((srt AL).filter (dueP T)).length = (AL.filter (dueP T)).length := ((srt_perm AL).filter _).length_eq
theorem cl_due {B T : Nat} {AL : List aQ} {g : gS} {post : Int32 → gS → Prop} (hT : cT T g) (hA : cA B AL g) (hl : AL.length ≤ 512) (hb : T < 2 ^ 31) (hd : ∀ q, q ∈ AL → q.2.2 < 2 ^ 31) (hp : post (nI (AL.filter (dueP T)).length) g) : ∀ (m k : Nat), m + k = AL.length → (∀ j a, (srt AL)[j]? = some a → j < k → a.2.2 ≤ T) → wpl_X2_countDue_2 post (m + 1) (nI k) g
  | 0, k, hk, h => by
    unfold wpl_X2_countDue_2
    rw [hA.1]
    refine ⟨fun _ => ?_, fun c => absurd (nI_le (by omega) (by omega)) c⟩
    have := flt T (srt AL) k (by rw [srt_len]; omega) h (fun j a hj hkj => absurd (get_lt hj) (by rw [srt_len]; omega))
    rw [flt_srt] at this
    rw [this] at hp
    exact hp
  | m + 1, k, hk, h => by
    unfold wpl_X2_countDue_2
    have hk2 : k < (srt AL).length := by rw [srt_len]; omega
    have hq := List.getElem?_eq_getElem hk2
    have hc := hA.2.1 k _ hq
    have hdq := hd _ (srt_mem.mp (get_mem hq))
    have hpm := (hA.2.2.1 k (by omega)).1
    rw [hA.1, nI_clamp (by omega), hT, hc.1]
    refine ⟨fun c => absurd c (nI_ge (by omega) (by omega)), fun _ => ⟨vin (by omega) (by decide), by omega, fun c => ?_, fun c x5 e5 => ?_⟩⟩
    · have c' := (nI_ltI hb hdq).mp c
      have := flt T (srt AL) k (by omega) h (fun j a hj hkj => Nat.lt_of_lt_of_le c' (sOk_get (srt_ok AL) hq hj hkj))
      rw [flt_srt] at this
      rw [this] at hp
      exact hp
    · rw [nI_1] at e5
      subst e5
      refine cl_due hT hA hl hb hd hp m (k + 1) (by omega) (fun j a hj hjk => ?_)
      rcases Nat.lt_or_ge j k with hl' | hl'
      · exact h j a hj hl'
      · have : j = k := by omega
        subst this
        rw [hq] at hj
        rw [← Option.some.inj hj]
        exact Nat.not_lt.mp fun z => c (nI_lt z hdq)
theorem w_due {AL : List aQ} {sl : List Nat} {g : gS} {post : Int32 → gS → Prop} {k p : Nat} {q : aQ} (h : rS AL sl g) (hl : AL.length ≤ 512) (hp : sl[k]? = some p) (hq : AL[k]? = some q) (hpost : post (nI q.2.2) g) : wp_X3_due post (nI k) g := by
  have hk := get_lt hq
  have hp5 := h.2.2.2.1 p (get_mem hp)
  unfold wp_X3_due
  rw [nI_clamp (by omega), h.2.2.2.2.1 k p hp]
  refine ⟨vin (by omega) (by decide), fun i2 e2 => ?_⟩
  have : i2 = nI (8 * p + 7) := by rw [e2, show (8 : Int32) * nI p = nI (8 * p) from pk_mul 8 p]; exact nI_add _ 7
  subst this
  refine ⟨vin (by omega) (by decide), ?_⟩
  rw [nI_clamp (by omega), (h.2.2.2.2.2.2 k p q hp hq).1]
  exact hpost
theorem slot {AL : List aQ} {sl : List Nat} {g : gS} (h : rS AL sl g) {k : Nat} (hk : k < AL.length) : ∃ p q, sl[k]? = some p ∧ AL[k]? = some q :=
  ⟨_, _, List.getElem?_eq_getElem (by rw [h.1]; exact hk), List.getElem?_eq_getElem hk⟩
theorem rl_pass {T : Nat} {AL : List aQ} {sl : List Nat} {g : gS} {p1 : Int32} {post : Int32 → gS → Prop} (hT : rT T g) (hA : rS AL sl g) (hl : AL.length ≤ 512) (hb : T < 2 ^ 31) (hd : ∀ q, q ∈ AL → q.2.2 < 2 ^ 31) (hp : post (nI (AL.filter (dueP T)).length) g) : ∀ (m k : Nat), m + k = AL.length → wpl_X3_pass_58 post (m + 1) p1 (nI ((AL.take k).filter (dueP T)).length) (nI k) g
  | 0, k, hk => by
    unfold wpl_X3_pass_58
    rw [hA.2.2.1]
    refine ⟨fun _ => ?_, fun c => absurd (nI_le (by omega) (by omega)) c⟩
    rw [List.take_of_length_le (by omega)]
    exact hp
  | m + 1, k, hk => by
    unfold wpl_X3_pass_58
    rw [hA.2.2.1]
    refine ⟨fun c => absurd c (nI_ge (by omega) (by omega)), fun _ => ?_⟩
    obtain ⟨p, q, h1, h2⟩ := slot hA (k := k) (by omega)
    have hdq := hd q (get_mem h2)
    have ih := rl_pass (p1 := p1) hT hA hl hb hd hp m (k + 1) (by omega)
    rw [List.take_add_one, h2, List.filter_append, List.length_append] at ih
    refine w_due hA hl h1 h2 ⟨fun c x10 e10 x11 e11 => ?_, fun c x10 e10 x11 e11 => ?_⟩
    · rw [hT] at c
      have c' := (nI_ltI hb hdq).mp c
      rw [nI_1] at e11
      rw [Int32.add_zero] at e10
      subst e10
      subst e11
      rw [show ((some q).toList.filter (dueP T)) = [] by simp [Option.toList, dueP, c']] at ih
      exact ih
    · rw [hT] at c
      have c' : q.2.2 ≤ T := Nat.not_lt.mp fun z => c (nI_lt z hdq)
      rw [nI_1] at e11 e10
      subst e10
      subst e11
      rw [show ((some q).toList.filter (dueP T)) = [q] by simp [Option.toList, dueP, c']] at ih
      exact ih
theorem op_pass {t F n T : Nat} {lg dl up ct : Nat → Int32} {fl : Nat → List Nat} {pl : List Nat} {AL : List aQ} {sm : Int32} {K : aQ} {g : gS} {Q : Int32 → gS → Prop} {p1 : Int32} (ht : t < 512) (hJ : J t F n T lg dl up ct fl pl AL sm K g) (hQ : ∀ k g1, (∀ C : gS → Prop, (∀ g', Inv (t + 1) g' → C g') → wp_X3_pass (fun b g2 => endK C k b g2) p1 g1) → Q k g1) : wp_L_pass Q p1 g := by
  obtain ⟨hW, hC0, hR0⟩ := id hJ
  obtain ⟨a, b, c, d, e, f⟩ := hC0
  obtain ⟨a', b', c', d', e', f'⟩ := hR0
  unfold wp_L_pass wp_X2_pass
  by_cases h1 : p1 < 0
  · refine ⟨fun _ => Or.inl ⟨rfl, hQ _ _ (fun C hC => ?_)⟩, fun c => absurd h1 c⟩
    unfold wp_X3_pass
    refine ⟨fun _ g2 e2 => ?_, fun c => absurd h1 c⟩
    subst e2
    exact bad (by decide) hJ hC
  by_cases h2 : p1 ≤ 1000
  rotate_left
  · refine ⟨fun c => absurd c h1, fun _ => ⟨fun c => absurd c h2, fun _ => Or.inl ⟨rfl, hQ _ _ (fun C hC => ?_)⟩⟩⟩
    unfold wp_X3_pass
    refine ⟨fun c => absurd c h1, fun _ => ⟨fun c => absurd c h2, fun _ g2 e2 => ?_⟩⟩
    subst e2
    exact bad (by decide) hJ hC
  obtain ⟨N, hN, rfl⟩ := nI_of2 (M := 1000) (n := 1000) (by decide) h1 h2
  have hT : T ≤ 1000 * t := hW.2.1
  have eT : g.1 0 1 + nI N = nI (T + N) := by rw [show g.1 0 1 = nI T from b, nI_add]
  have hle : nI (T + N) ≤ 1000000 := nI_le (b := 1000000) (by omega) (by decide)
  have hd : ∀ q, q ∈ AL → q.2.2 < 2 ^ 31 := fun q hq => by have := (hW.2.2.2.2.2.2.2.2.2 q hq).1; omega
  have hl : AL.length ≤ 512 := hW.2.2.2.2.2.2.2.2.1
  rw [eT]
  refine ⟨fun c => absurd c h1, fun _ => ⟨fun _ => ⟨fun _ x4 e4 g5 e5 => ?_, fun c => absurd hle c⟩, fun c => absurd h2 c⟩⟩
  subst e4
  have hG : RC F n (T + N) lg dl up ct fl pl AL sm K g5 := by
    rw [e5]
    exact ⟨cN_c (g := g) (by rw [gi_n (by omega)]) (fun r _ _ => by rw [gi_r (by omega)]) a, gi_s, kF_c (g := g) (fun r _ => by rw [gi_r (by omega)]) c, kP_c (g := g) (by rw [gi_n (by omega)]) (by rw [gi_n (by omega)]) (by rw [gi_r (by omega)]) d, cK_c (g := g) (by rw [gi_n (by omega)]) (by rw [gi_r (by omega)]) rfl (fun r _ _ => by rw [gi_r (by omega)]) e, cA_c (g := g) (by rw [gi_n (by omega)]) (by rw [gi_r (by omega)]) rfl rfl (fun r _ _ => by rw [gi_r (by omega)]) f⟩
  have hs5 : sR g g5 := by rw [e5]; exact sR_i (by omega)
  unfold wp_X2_countDue
  refine ⟨AL.length + 1, cl_due hG.2.1 hG.2.2.2.2.2 hl (by omega) hd ⟨vin01, fun g4 e4 => ?_⟩ AL.length 0 (by omega) (fun j a _ hj => absurd hj (by omega))⟩
  subst e4
  refine hQ _ _ (fun C hC => ?_)
  have hR := RR_s (sR_tr hs5 (sR_j (i := (0 : Int32).toNatClampNeg) (v := (nI (AL.filter (dueP (T + N))).length).toInt64))) hJ.2.2
  unfold wp_X3_pass
  have eT2 : (gj g5 18 ((0 : Int32).toNatClampNeg) (nI (AL.filter (dueP (T + N))).length).toInt64).1 4 1 + nI N = nI (T + N) := by rw [hR.2.1, nI_add]
  rw [eT2]
  refine ⟨fun c => absurd c h1, fun _ => ⟨fun _ => ⟨fun _ g7 e7 => ?_, fun c => absurd hle c⟩, fun c => absurd h2 c⟩⟩
  have hR7 : RR n T lg dl up ct fl pl AL sm K g7 := by rw [e7]; exact RR_s sR_code hR
  have hs7 : sC (gj g5 18 ((0 : Int32).toNatClampNeg) (nI (AL.filter (dueP (T + N))).length).toInt64) g7 := by rw [e7]; exact sC_i (by omega) (by omega)
  have hc7 : g7.1 4 0 = 0 := by rw [e7, gi_s]
  rw [hc7]
  refine ⟨fun _ x19 e19 g20 e20 => ?_, fun c => absurd (by decide) c⟩
  rw [hR7.2.1, nI_add] at e19
  subst e19
  obtain ⟨a7, b7, c7, d7, e7', f7⟩ := hR7
  have hR20 : RR n (T + N) lg dl up ct fl pl AL sm K g20 := by
    rw [e20]
    exact ⟨rN_c (g := g7) (by simp [gi, gu]) (by simp [gi, gu_r]) (by simp [gi, gu_r]) (by simp [gi, gu_r]) (by simp [gi, gu_r]) a7, gi_s, rF_c (g := g7) (by simp [gi, gu_r]) (by simp [gi, gu_r]) c7, rP_c (g := g7) (by simp [gi, gu]) (by simp [gi, gu_r]) d7, rK_c (g := g7) (by simp [gi, gu]) (by simp [gi, gu_r]) (by simp [gi, gu_r]) e7', rA_c (g := g7) (by simp [gi, gu]) (by simp [gi, gu_r]) (by simp [gi, gu_r]) (by simp [gi, gu_r]) rfl f7⟩
  obtain ⟨sl, hsl⟩ := hR20.2.2.2.2.2
  refine ⟨AL.length + 1, rl_pass hR20.2.1 hsl hl (by omega) hd (fin ?_ hG hR20 (sC_tr hs7 (by rw [e20]; exact sC_i (by omega) (by omega))) (by rw [e20, gi_n (by omega)]; exact hc7) hC) AL.length 0 (by omega)⟩
  obtain ⟨w1, w2, w3, w4, w5, w6, w7, w8, w9, w10⟩ := aW_up (Nat.le_succ t) hJ.1
  exact ⟨w1, by omega, w3, w4, w5, w6, w7, w8, w9, w10⟩

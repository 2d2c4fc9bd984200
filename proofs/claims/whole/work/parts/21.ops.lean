theorem gi_s {g : gS} {r i : Nat} {v : Int32} : (gi g r i v).1 r i = v := gu_s
theorem gi_n {g : gS} {r i r' i' : Nat} {v : Int32} (h : ¬ (r' = r ∧ i' = i)) : (gi g r i v).1 r' i' = g.1 r' i' := gu_n h
theorem gi_r {g : gS} {r i r' : Nat} {v : Int32} (h : r' ≠ r) : (gi g r i v).1 r' = g.1 r' := gu_r h
theorem fin {t F n T : Nat} {lg dl up ct : Nat → Int32} {fl : Nat → List Nat} {pl : List Nat} {AL : List aQ} {sm : Int32} {K : aQ} {G g' : gS} {b : Int32} {C : gS → Prop} (hW : aW (t + 1) F n T lg dl up fl pl AL) (hRC : RC F n T lg dl up ct fl pl AL sm K G) (hRR : RR n T lg dl up ct fl pl AL sm K g') (hs : sC (gj G 18 ((0 : Int32).toNatClampNeg) b.toInt64) g') (hc : g'.1 4 0 = 0) (hC : ∀ g', Inv (t + 1) g' → C g') : endK C 0 b g' :=
  endK_ok hc (fun _ => by rw [hs.2.2.2, cl0]; simp [gj]) (hC _ (J_inv ⟨hW, RC_s hs (RC_j hRC), hRR⟩))
theorem rN_c {n : Nat} {lg dl up ct : Nat → Int32} {g g' : gS} (h0 : g'.1 4 2 = g.1 4 2) (h5 : g'.1 5 = g.1 5) (h6 : g'.1 6 = g.1 6) (h7 : g'.1 7 = g.1 7) (h10 : g'.1 10 = g.1 10) (hc : rN n lg dl up ct g) : rN n lg dl up ct g' := by
  unfold rN at hc ⊢
  simpa only [h0, h5, h6, h7, h10] using hc
theorem rT_c {T : Nat} {g g' : gS} (h0 : g'.1 4 1 = g.1 4 1) (hc : rT T g) : rT T g' := h0.trans hc
theorem rF_c {fl : Nat → List Nat} {g g' : gS} (h8 : g'.1 8 = g.1 8) (h9 : g'.1 9 = g.1 9) (hc : rF fl g) : rF fl g' := by
  unfold rF at hc ⊢
  simpa only [h8, h9] using hc
theorem rP_c {pl : List Nat} {g g' : gS} (h0 : g'.1 4 3 = g.1 4 3) (h11 : g'.1 11 = g.1 11) (hc : rP pl g) : rP pl g' := by
  unfold rP at hc ⊢
  simpa only [h0, h11] using hc
theorem rK_c {sm : Int32} {K : aQ} {g g' : gS} (h0 : g'.1 4 5 = g.1 4 5) (h15 : g'.1 15 = g.1 15) (h16 : g'.1 16 = g.1 16) (hc : rK sm K g) : rK sm K g' := by
  unfold rK at hc ⊢
  simpa only [h0, h15, h16] using hc
theorem rO_c {g g' : gS} {p : Nat} {q : aQ} (h14 : g'.1 14 = g.1 14) (h17 : g'.2.2.2 17 = g.2.2.2 17) (hc : rO g p q) : rO g' p q := by
  unfold rO at hc ⊢
  simpa only [h14, h17] using hc
theorem rA_c {AL : List aQ} {g g' : gS} (h0 : g'.1 4 4 = g.1 4 4) (h12 : g'.1 12 = g.1 12) (h13 : g'.1 13 = g.1 13) (h14 : g'.1 14 = g.1 14) (h17 : g'.2.2.2 17 = g.2.2.2 17) (hc : rA AL g) : rA AL g' := by
  unfold rA rS rO at hc ⊢
  simpa only [h0, h12, h13, h14, h17] using hc
theorem cO_r {B B' : Nat} {g g' : gS} {o : Nat} {q : aQ} (h : ∀ r, 30 ≤ r → r ≤ 38 → g'.1 r o = g.1 r o) (h3 : ∀ x, x < B → g'.1 3 x = g.1 3 x) (hB : B ≤ B') (hc : cO B g o q) : cO B' g' o q := by
  obtain ⟨h1, h2, S, z, h4, h5, h6, h7, h8⟩ := hc
  refine ⟨by rw [h 30 (by decide) (by decide)]; exact h1, fun k hk => by rw [h (31 + k) (by omega) (by omega)]; exact h2 k hk, S, z, h4, h5, by omega, by rw [h 38 (by decide) (by decide)]; exact h7, fun i hi => by rw [h3 _ (by omega)]; exact h8 i hi⟩
theorem snoc_get {α : Type} {L : List α} {b b' : α} {j : Nat} (h : (L ++ [b])[j]? = some b') : (j < L.length ∧ L[j]? = some b') ∨ (j = L.length ∧ b' = b) := by
  rcases Nat.lt_trichotomy j L.length with hj | hj | hj
  · left
    rw [List.getElem?_append_left hj] at h
    exact ⟨hj, h⟩
  · right
    subst hj
    rw [List.getElem?_append_right (Nat.le_refl _), Nat.sub_self] at h
    exact ⟨rfl, (Option.some.inj h).symm⟩
  · rw [List.getElem?_eq_none (by simp; omega)] at h
    exact absurd h (by simp)
theorem get_lt {α : Type} {L : List α} {b : α} {j : Nat} (h : L[j]? = some b) : j < L.length := by
  rcases Nat.lt_or_ge j L.length with hj | hj
  · exact hj
  · rw [List.getElem?_eq_none hj] at h
    exact absurd h (by simp)
theorem get_mem {α : Type} {L : List α} {b : α} {j : Nat} (h : L[j]? = some b) : b ∈ L := List.mem_of_getElem? h
/-! bits -/
theorem z_c : ∀ k, k < 64 → ((nI k).toInt64 &&& 63) = lN k := by decide +kernel
theorem z_u : ∀ k, k < 64 → ((nI k).toInt64.toUInt64 &&& Int64.toUInt64 63) = UInt64.ofNat k := by decide +kernel
theorem z_s : ∀ k, k < 64 → (BitVec.ofNat 64 k).smod 64 = BitVec.ofNat 64 k := by decide +kernel
theorem z_lb (x : Int64) {m w : Nat} (hm : m < 64) (h : m + w ≤ 64) : ((x >>> ((nI m).toInt64 &&& 63)) &&& lN (2 ^ w - 1)) = lN (x.toBitVec.toNat / 2 ^ m % 2 ^ w) := by
  apply Int64.toBitVec_inj.mp
  rw [Int64.toBitVec_and, z_c m hm]
  show BitVec.sshiftRight x.toBitVec ((BitVec.ofNat 64 m).smod 64).toNat &&& BitVec.ofNat 64 (2 ^ w - 1) = BitVec.ofNat 64 _
  rw [z_s m hm, BitVec.toNat_ofNat, Nat.mod_eq_of_lt (by omega)]
  apply BitVec.eq_of_getLsbD_eq
  intro i hi
  rw [BitVec.getLsbD_and, BitVec.getLsbD_sshiftRight, BitVec.getLsbD_ofNat, BitVec.getLsbD_ofNat, Nat.testBit_mod_two_pow, Nat.testBit_div_two_pow, Nat.testBit_two_pow_sub_one]
  by_cases hw : i < w
  · have h1 : m + i < 64 := by omega
    have h2 : ¬ 64 ≤ i := by omega
    simp [hw, h1, h2, hi, BitVec.getLsbD, Nat.add_comm]
  · simp [hw]
theorem z_ush (x : Int64) {k : Nat} (hk : k < 64) : (x.toUInt64 >>> ((nI k).toInt64.toUInt64 &&& Int64.toUInt64 63)).toInt64 = lN (x.toBitVec.toNat / 2 ^ k) := by
  rw [z_u k hk]
  apply Int64.toBitVec_inj.mp
  apply BitVec.eq_of_toNat_eq
  show (x.toUInt64 >>> UInt64.ofNat k).toNat = (BitVec.ofNat 64 _).toNat
  have h1 : (UInt64.ofNat k).toNat = k := Nat.mod_eq_of_lt (by omega)
  have h2 : x.toUInt64.toNat = x.toBitVec.toNat := rfl
  have h3 := x.toBitVec.isLt
  rw [UInt64.toNat_shiftRight, h1, h2, Nat.mod_eq_of_lt hk, Nat.shiftRight_eq_div_pow, BitVec.toNat_ofNat, Nat.mod_eq_of_lt (Nat.lt_of_le_of_lt (Nat.div_le_self _ _) h3)]
theorem z_tn (n : Nat) : (nI n).toBitVec.toNat = n % 2 ^ 32 := rfl
/-- two bits of a schedule -/
def fb (v : Int64) (k : Nat) : Nat := v.toBitVec.toNat / 2 ^ (2 * k) % 4
theorem fb_lt (v : Int64) (k : Nat) : fb v k < 4 := Nat.mod_lt _ (by decide)
theorem fb_r (v : Int64) {k : Nat} (hk : k < 32) : ((v >>> ((2 * nI k).toInt64 &&& 63)) &&& 3).toInt32 = nI (fb v k) := by
  have e : (2 : Int32) * nI k = nI (2 * k) := pk_mul 2 k
  have e2 := z_lb v (m := 2 * k) (w := 2) (by omega) (by omega)
  rw [e]
  have e3 : (3 : Int64) = lN (2 ^ 2 - 1) := by decide +kernel
  rw [e3, e2, lN_i]
  rfl
theorem fb_8 : ∀ b, b < 4 → (nI b).toInt8.toInt32 = nI b := by decide +kernel
theorem fb_c (v : Int64) {k : Nat} (hk : k < 32) : vp_nar .byte ((((v.toUInt64 >>> ((2 * nI k).toInt64.toUInt64 &&& Int64.toUInt64 63)).toInt64).toInt32) &&& 3).toInt8.toInt32 = nI (fb v k) := by
  have e : (2 : Int32) * nI k = nI (2 * k) := pk_mul 2 k
  rw [pk_vb, e, z_ush v (k := 2 * k) (by omega), lN_i, pk_and _ 2 (by decide), z_tn, Nat.mod_mod_of_dvd _ (by decide)]
  exact fb_8 _ (fb_lt v k)
/-- a byte of a payload -/
def by8 (v : Int64) (k : Nat) : Nat := v.toBitVec.toNat / 2 ^ (8 * k) % 256
theorem by8_lt (v : Int64) (k : Nat) : by8 v k < 256 := Nat.mod_lt _ (by decide)
theorem by8_r (v : Int64) {k : Nat} (hk : k < 8) : ((v >>> ((8 * nI k).toInt64 &&& 63)) &&& 255).toInt32 = nI (by8 v k) := by
  have e : (8 : Int32) * nI k = nI (8 * k) := pk_mul 8 k
  have e2 := z_lb v (m := 8 * k) (w := 8) (by omega) (by omega)
  rw [e]
  have e3 : (255 : Int64) = lN (2 ^ 8 - 1) := by decide +kernel
  rw [e3, e2, lN_i]
  rfl
theorem z_b8 (x : Int32) : x.toInt8.toInt32 &&& 255 = x &&& 255 := by
  apply Int32.toBitVec_inj.mp
  apply BitVec.eq_of_getLsbD_eq
  intro i hi
  have hm : ∀ i < 32, 8 ≤ i → (255 : Int32).toBitVec.getLsbD i = false := by decide +kernel
  rw [Int32.toBitVec_and, Int32.toBitVec_and, BitVec.getLsbD_and, BitVec.getLsbD_and, Int8.toBitVec_toInt32, Int32.toBitVec_toInt8]
  by_cases h8 : i < 8
  · congr 1
    rw [BitVec.getLsbD_signExtend, if_pos h8, BitVec.getLsbD_signExtend, if_pos hi]
    simp [h8, hi]
  · rw [hm i hi (by omega), Bool.and_false, Bool.and_false]
theorem by8_c (v : Int64) {k : Nat} (hk : k < 8) : vp_nar .byte ((((v.toUInt64 >>> ((8 * nI k).toInt64.toUInt64 &&& Int64.toUInt64 63)).toInt64).toInt32).toInt8.toInt32) &&& 255 = nI (by8 v k) := by
  have e : (8 : Int32) * nI k = nI (8 * k) := pk_mul 8 k
  rw [pk_vb, z_b8, e, z_ush v (k := 8 * k) (by omega), lN_i, pk_and _ 8 (by decide), z_tn, Nat.mod_mod_of_dvd _ (by decide)]
  rfl
/-! net -/
theorem c_net {F n T : Nat} {lg dl up ct : Nat → Int32} {fl : Nat → List Nat} {pl : List Nat} {AL : List aQ} {sm : Int32} {K : aQ} {g : gS} {post : Int32 → gS → Prop} {px : String × gS → Prop} {p1 p2 : Int32} (hn : n < 24) (h : RC F n T lg dl up ct fl pl AL sm K g) (h1 : ¬ p1 < 100) (h2 : p1 ≤ 1500) (h3 : ¬ p2 < 1) (h4 : p2 ≤ 50) (hp : ∀ G, RC F (n + 1) T (upd lg n p1) (upd dl n p2) (upd up n 1) ct fl pl AL sm K G → sR g G → post (nI n) G) : wp_X2_net post px p1 p2 g := by
  obtain ⟨a, b, c, d, e, f⟩ := h
  unfold wp_X2_net
  refine ⟨fun c => absurd c h1, fun _ => ⟨fun _ => ⟨fun c => absurd c h3, fun _ => ⟨fun _ => ⟨fun _ i6 e6 => ?_, fun c => absurd (by rw [a.1]; exact nI_lt (b := 24) hn (by decide)) c⟩, fun c => absurd h4 c⟩⟩, fun c => absurd h2 c⟩⟩
  rw [a.1] at e6
  subst e6
  refine ⟨vin hn (by decide), ?_⟩
  rw [nI_clamp (by omega)]
  unfold wp_X1_open
  refine ⟨hn, fun g1 e1 g2 e2 g3 e3 x10 e10 g11 e11 => ?_⟩
  have hx : x10 = nI (n + 1) := by rw [e10, e3, gi_n (by omega), e2, gi_n (by omega), e1, gi_n (by omega), a.1, nI_1]
  subst hx
  rw [e11, gi_s, nI_pred]
  subst e3
  subst e2
  subst e1
  refine hp _ ⟨⟨gi_s, fun i hi => ?_⟩, cT_c (by simp [gi, gu]) b, kF_c (fun r hr => by rw [gi_r (by omega), gi_r (by omega), gi_r (by omega), gi_r (by omega)]) c, kP_c (by simp [gi, gu]) (by simp [gi, gu]) (by rw [gi_r (by omega), gi_r (by omega), gi_r (by omega), gi_r (by omega)]) d, cK_c (g := g) (by simp [gi, gu]) (by rw [gi_r (by omega), gi_r (by omega), gi_r (by omega), gi_r (by omega)]) rfl (fun r _ _ => by rw [gi_r (by omega), gi_r (by omega), gi_r (by omega), gi_r (by omega)]) e, cA_c (g := g) (by simp [gi, gu]) (by rw [gi_r (by omega), gi_r (by omega), gi_r (by omega), gi_r (by omega)]) rfl rfl (fun r _ _ => by rw [gi_r (by omega), gi_r (by omega), gi_r (by omega), gi_r (by omega)]) f⟩ (sR_tr (sR_tr (sR_tr (sR_i (by omega)) (sR_i (by omega))) (sR_i (by omega))) (sR_i (by omega)))
  obtain ⟨q1, q2, q3, q4⟩ := a.2 i hi
  by_cases hin : i = n
  · subst hin
    simp [gi, gu, upd, q4]
  · simp [gi, gu, upd, hin, q1, q2, q3, q4]
theorem r_net {n T : Nat} {lg dl up ct : Nat → Int32} {fl : Nat → List Nat} {pl : List Nat} {AL : List aQ} {sm : Int32} {K : aQ} {g : gS} {post : Int32 → gS → Prop} {p1 p2 : Int32} (hn : n < 24) (h : RR n T lg dl up ct fl pl AL sm K g) (h1 : ¬ p1 < 100) (h2 : p1 ≤ 1500) (h3 : ¬ p2 < 1) (h4 : p2 ≤ 50) (hp : ∀ G, RR (n + 1) T (upd lg n p1) (upd dl n p2) (upd up n 1) ct fl pl AL sm K G → sC g G → G.1 4 0 = 0 → post (nI n) G) : wp_X3_net post p1 p2 g := by
  obtain ⟨a, b, c, d, e, f⟩ := h
  unfold wp_X3_net
  have h5 : ¬ g.1 4 2 = 24 := by rw [a.1]; exact fun c => absurd ((nI_eq (b := 24) (by omega) (by decide)).mp c) (by omega)
  refine ⟨fun c => absurd c h1, fun _ => ⟨fun c => absurd h2 (Int32.not_le.mpr c), fun _ => ⟨fun c => absurd c h3, fun _ => ⟨fun _ => ⟨fun _ g36 e36 => ?_, fun c => absurd c h5⟩, fun c => absurd h4 c⟩⟩⟩⟩
  subst e36
  have k1 : (gi g 4 0 0).1 4 2 = nI n := by rw [gi_n (by omega), a.1]
  refine code_good ⟨by rw [k1]; exact vin hn (by decide), fun g39 e39 => ?_⟩
  rw [k1, nI_clamp (by omega)] at e39
  have k2 : g39.1 4 2 = nI n := by rw [e39, gi_n (by omega), k1]
  refine ⟨by rw [k2]; exact vin hn (by decide), fun g41 e41 => ?_⟩
  rw [k2, nI_clamp (by omega)] at e41
  have k3 : g41.1 4 2 = nI n := by rw [e41, gi_n (by omega), k2]
  refine ⟨by rw [k3]; exact vin hn (by decide), fun g43 e43 => ?_⟩
  rw [k3, nI_clamp (by omega)] at e43
  have k4 : g43.1 4 2 = nI n := by rw [e43, gi_n (by omega), k3]
  intro x44 e44 g45 e45
  rw [k4, nI_1] at e44
  subst e44
  have k5 : g45.1 4 2 - 1 = nI n := by rw [e45, gi_s, nI_pred]
  rw [k5]
  have k6 : vp_nar .boolean (1 : Int32) = 1 := by decide +kernel
  rw [k6] at e43
  subst e45
  subst e43
  subst e41
  subst e39
  refine hp _ ⟨⟨gi_s, fun i hi => ?_⟩, rT_c (by simp [gi, gu]) b, rF_c (by simp [gi, gu_r]) (by simp [gi, gu_r]) c, rP_c (by simp [gi, gu]) (by simp [gi, gu_r]) d, rK_c (by simp [gi, gu]) (by simp [gi, gu_r]) (by simp [gi, gu_r]) e, rA_c (by simp [gi, gu]) (by simp [gi, gu_r]) (by simp [gi, gu_r]) (by simp [gi, gu_r]) rfl f⟩ (sC_tr (sC_tr (sC_tr (sC_tr (sC_i (by omega) (by omega)) (sC_i (by omega) (by omega))) (sC_i (by omega) (by omega))) (sC_i (by omega) (by omega))) (sC_i (by omega) (by omega))) (by simp [gi, gu])
  obtain ⟨q1, q2, q3, q4⟩ := a.2 i hi
  by_cases hin : i = n
  · subst hin
    simp [gi, gu, upd, q4]
  · simp [gi, gu, upd, hin, q1, q2, q3, q4]
theorem op_net {t F n T : Nat} {lg dl up ct : Nat → Int32} {fl : Nat → List Nat} {pl : List Nat} {AL : List aQ} {sm : Int32} {K : aQ} {g : gS} {Q : Int32 → gS → Prop} {p1 p2 : Int32} (hJ : J t F n T lg dl up ct fl pl AL sm K g) (hQ : ∀ k g1, (∀ C : gS → Prop, (∀ g', Inv (t + 1) g' → C g') → wp_X3_net (fun b g2 => endK C k b g2) p1 p2 g1) → Q k g1) : wp_L_net Q p1 p2 g := by
  have hn := hJ.1.1
  have e0 : g.1 0 0 = nI n := hJ.2.1.1.1
  have e0' : g.1 4 2 = nI n := hJ.2.2.1.1
  unfold wp_L_net
  by_cases h1 : p1 < 100
  · unfold wp_X2_net
    refine ⟨fun _ => Or.inl ⟨rfl, hQ _ _ (fun C hC => ?_)⟩, fun c => absurd h1 c⟩
    unfold wp_X3_net
    refine ⟨fun _ g2 e2 => ?_, fun c => absurd h1 c⟩
    subst e2
    exact bad (by decide) hJ hC
  by_cases h2 : p1 ≤ 1500
  rotate_left
  · unfold wp_X2_net
    refine ⟨fun c => absurd c h1, fun _ => ⟨fun c => absurd c h2, fun _ => Or.inl ⟨rfl, hQ _ _ (fun C hC => ?_)⟩⟩⟩
    unfold wp_X3_net
    refine ⟨fun c => absurd c h1, fun _ => ⟨fun _ g2 e2 => ?_, fun c => absurd (Int32.not_le.mp h2) c⟩⟩
    subst e2
    exact bad (by decide) hJ hC
  have h2' : ¬ 1500 < p1 := Int32.not_lt.mpr h2
  by_cases h3 : p2 < 1
  · unfold wp_X2_net
    refine ⟨fun c => absurd c h1, fun _ => ⟨fun _ => ⟨fun _ => Or.inl ⟨rfl, hQ _ _ (fun C hC => ?_)⟩, fun c => absurd h3 c⟩, fun c => absurd h2 c⟩⟩
    unfold wp_X3_net
    refine ⟨fun c => absurd c h1, fun _ => ⟨fun c => absurd c h2', fun _ => ⟨fun _ g2 e2 => ?_, fun c => absurd h3 c⟩⟩⟩
    subst e2
    exact bad (by decide) hJ hC
  by_cases h4 : p2 ≤ 50
  rotate_left
  · unfold wp_X2_net
    refine ⟨fun c => absurd c h1, fun _ => ⟨fun _ => ⟨fun c => absurd c h3, fun _ => ⟨fun c => absurd c h4, fun _ => Or.inl ⟨rfl, hQ _ _ (fun C hC => ?_)⟩⟩⟩, fun c => absurd h2 c⟩⟩
    unfold wp_X3_net
    refine ⟨fun c => absurd c h1, fun _ => ⟨fun c => absurd c h2', fun _ => ⟨fun c => absurd c h3, fun _ => ⟨fun c => absurd c h4, fun _ g2 e2 => ?_⟩⟩⟩⟩
    subst e2
    exact bad (by decide) hJ hC
  by_cases h5 : n < 24
  rotate_left
  · have h24 : n = 24 := by omega
    unfold wp_X2_net
    refine ⟨fun c => absurd c h1, fun _ => ⟨fun _ => ⟨fun c => absurd c h3, fun _ => ⟨fun _ => ⟨fun c => absurd c ?_, fun _ => Or.inr ⟨rfl, hQ _ _ (fun C hC => ?_)⟩⟩, fun c => absurd h4 c⟩⟩, fun c => absurd h2 c⟩⟩
    · rw [e0, h24]
      decide
    unfold wp_X3_net
    refine ⟨fun c => absurd c h1, fun _ => ⟨fun c => absurd c h2', fun _ => ⟨fun c => absurd c h3, fun _ => ⟨fun _ => ⟨fun c => absurd ?_ c, fun _ g2 e2 => ?_⟩, fun c => absurd h4 c⟩⟩⟩⟩
    · rw [e0', h24]
      rfl
    subst e2
    exact bad (by decide) hJ hC
  obtain ⟨a, ha, rfl⟩ := nI_of2 (M := 1500) (n := 1500) (by decide) (fun c => h1 (Int32.lt_trans c (by decide))) h2
  obtain ⟨d, hd, rfl⟩ := nI_of2 (M := 50) (n := 50) (by decide) (fun c => h3 (Int32.lt_trans c (by decide))) h4
  have ha2 : 100 ≤ a := Nat.not_lt.mp fun c => h1 (nI_lt (b := 100) c (by decide))
  have hd2 : 1 ≤ d := Nat.not_lt.mp fun c => h3 (nI_lt (b := 1) c (by decide))
  refine c_net h5 hJ.2.1 h1 h2 h3 h4 (fun G hG hs => ⟨vin01, fun g4 e4 => ?_⟩)
  subst e4
  refine hQ _ _ (fun C hC => r_net h5 (RR_s (sR_tr hs sR_j) hJ.2.2) h1 h2 h3 h4 (fun g' hR hs' hc => fin ?_ hG hR hs' hc hC))
  obtain ⟨w1, w2, w3, w4, w5, w6, w7, w8, w9, w10⟩ := hJ.1
  refine ⟨by omega, by omega, fun i hi => ?_, fun i hi => ?_, w5, by omega, w7, w8, w9, fun q hq => ?_⟩
  · by_cases hin : i = n
    · subst hin
      exact ⟨⟨a, ha2, ha, by simp [upd]⟩, d, hd2, hd, by simp [upd]⟩
    · obtain ⟨⟨a', q1, q2, q3⟩, d', q4, q5, q6⟩ := w3 i (by omega)
      exact ⟨⟨a', q1, q2, by simp [upd, hin, q3]⟩, d', q4, q5, by simp [upd, hin, q6]⟩
  · by_cases hin : i = n
    · subst hin
      exact Or.inr (by simp [upd])
    · rw [show upd up n 1 i = up i by simp [upd, hin]]
      exact w4 i hi
  · obtain ⟨v1, v2, i, v3, v4, v5⟩ := w10 q hq
    refine ⟨by omega, v2, i, by omega, v4, ?_⟩
    rw [show upd up n 1 i = up i by simp [upd, show i ≠ n by omega]]
    exact v5

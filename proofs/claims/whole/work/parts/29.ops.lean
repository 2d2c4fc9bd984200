/-! put, the reference -/
theorem z_255 : ∀ i, i < 64 → (255 : Int64).toBitVec.getLsbD i = decide (i < 8) := by decide +kernel
theorem z_m1 : ∀ i, i < 64 → (-1 : Int64).toBitVec.getLsbD i = true := by decide +kernel
/-- byte a of w is written: b -/
def pbyte (w : Int64) (a b : Nat) : Int64 := (w &&& (((255 : Int64) <<< ((nI (8 * a)).toInt64 &&& 63)) ^^^ (-1))) ||| ((nI b).toInt64 <<< ((nI (8 * a)).toInt64 &&& 63))
theorem z_sl (x : Int64) {m j : Nat} (hm : m < 64) (hj : j < 64) : (x <<< ((nI m).toInt64 &&& 63)).toBitVec.getLsbD j = (decide (m ≤ j) && x.toBitVec.getLsbD (j - m)) := by
  rw [z_c m hm, Int64.toBitVec_shiftLeft]
  show (x.toBitVec <<< ((BitVec.ofNat 64 m).smod 64)).getLsbD j = _
  rw [z_s m hm, BitVec.shiftLeft_eq', BitVec.getLsbD_shiftLeft, BitVec.toNat_ofNat, Nat.mod_eq_of_lt (show m < 2 ^ 64 by omega)]
  by_cases h : m ≤ j
  · simp [h, hj, Nat.not_lt.mpr h]
  · simp [h, hj, Nat.lt_of_not_le h]
theorem pb_bit (w : Int64) {a b j : Nat} (ha : a < 8) (hb : b < 256) (hj : j < 64) : (pbyte w a b).toBitVec.getLsbD j = if 8 * a ≤ j ∧ j < 8 * a + 8 then b.testBit (j - 8 * a) else w.toBitVec.getLsbD j := by
  have hlb : (nI b).toInt64.toBitVec.getLsbD (j - 8 * a) = b.testBit (j - 8 * a) := by
    rw [nI_l (by omega)]
    show (BitVec.ofNat 64 b).getLsbD _ = _
    rw [BitVec.getLsbD_ofNat, decide_eq_true (show j - 8 * a < 64 by omega), Bool.true_and]
  unfold pbyte
  rw [Int64.toBitVec_or, Int64.toBitVec_and, Int64.toBitVec_xor, BitVec.getLsbD_or, BitVec.getLsbD_and, BitVec.getLsbD_xor, z_sl _ (by omega) hj, z_sl _ (by omega) hj, z_m1 j hj, z_255 _ (by omega), hlb]
  by_cases h1 : 8 * a ≤ j
  · by_cases h2 : j < 8 * a + 8
    · rw [if_pos ⟨h1, h2⟩, decide_eq_true h1, decide_eq_true (show j - 8 * a < 8 by omega)]
      simp
    · rw [if_neg (fun z => h2 z.2), decide_eq_true h1, decide_eq_false (show ¬ j - 8 * a < 8 by omega), Nat.testBit_lt_two_pow (Nat.lt_of_lt_of_le hb (show 256 ≤ 2 ^ (j - 8 * a) from Nat.pow_le_pow_right (n := 2) (by decide) (show 8 ≤ j - 8 * a by omega)))]
      simp
  · rw [if_neg (fun z => h1 z.1), decide_eq_false h1]
    simp
theorem pb_get (w : Int64) {a b a' : Nat} (ha : a < 8) (ha' : a' < 8) (hb : b < 256) : ((pbyte w a b >>> ((nI (8 * a')).toInt64 &&& 63)) &&& 255).toInt32 = if a' = a then nI b else ((w >>> ((nI (8 * a')).toInt64 &&& 63)) &&& 255).toInt32 := by
  have e3 : (255 : Int64) = lN (2 ^ 8 - 1) := by decide +kernel
  rw [e3, z_lb _ (m := 8 * a') (w := 8) (by omega) (by omega), z_lb _ (m := 8 * a') (w := 8) (by omega) (by omega), lN_i, lN_i]
  have key : (pbyte w a b).toBitVec.toNat / 2 ^ (8 * a') % 2 ^ 8 = if a' = a then b else w.toBitVec.toNat / 2 ^ (8 * a') % 2 ^ 8 := by
    apply Nat.eq_of_testBit_eq
    intro i
    rw [Nat.testBit_mod_two_pow, Nat.testBit_div_two_pow]
    by_cases hi : i < 8
    · have hbit := pb_bit w (j := i + 8 * a') ha hb (by omega)
      have hL : (pbyte w a b).toBitVec.toNat.testBit (i + 8 * a') = (pbyte w a b).toBitVec.getLsbD (i + 8 * a') := rfl
      have hW : w.toBitVec.toNat.testBit (i + 8 * a') = w.toBitVec.getLsbD (i + 8 * a') := rfl
      rw [hL, hbit, decide_eq_true hi, Bool.true_and]
      by_cases haa : a' = a
      · subst haa
        rw [if_pos rfl, if_pos (by omega), Nat.add_sub_cancel]
      · rw [if_neg haa, if_neg (by omega), Nat.testBit_mod_two_pow, Nat.testBit_div_two_pow, decide_eq_true hi, Bool.true_and, hW]
    · rw [decide_eq_false hi, Bool.false_and]
      by_cases haa : a' = a
      · rw [if_pos haa, Nat.testBit_lt_two_pow (Nat.lt_of_lt_of_le hb (show 256 ≤ 2 ^ i from Nat.pow_le_pow_right (n := 2) (by decide) (show 8 ≤ i by omega)))]
      · rw [if_neg haa, Nat.testBit_mod_two_pow, decide_eq_false hi, Bool.false_and]
  rw [key]
  by_cases haa : a' = a
  · rw [if_pos haa, if_pos haa]
  · rw [if_neg haa, if_neg haa]
theorem rb_put {l l' : Nat → Int64} {p k b : Nat} (hk : k < 1480) (hb : b < 256) (h1 : l' (185 * p + k / 8) = pbyte (l (185 * p + k / 8)) (k % 8) b) (h2 : ∀ c, c ≠ 185 * p + k / 8 → l' c = l c) (p' j : Nat) (hj : j < 1480) : rbyte l' p' j = if p' = p ∧ j = k then nI b else rbyte l p' j := by
  unfold rbyte
  by_cases he : 185 * p' + j / 8 = 185 * p + k / 8
  · have hp : p' = p := by omega
    have hq : j / 8 = k / 8 := by omega
    rw [he, h1, pb_get _ (Nat.mod_lt _ (by decide)) (Nat.mod_lt _ (by decide)) hb]
    by_cases hjk : j = k
    · rw [if_pos (by rw [hjk]), if_pos ⟨hp, hjk⟩]
    · rw [if_neg (by omega), if_neg (fun z => hjk z.2)]
  · rw [h2 _ he, if_neg (fun z => he (by rw [z.1, z.2]))]
theorem rl_bytes {p sz x : Nat} {pl : List Nat} {x1 x2 x3 x4 x7 : Int32} {post : gS → Prop} (hp5 : p < 512) (hx : x + sz ≤ pl.length) (hpl : pl.length ≤ 1480) (hlt : ∀ b, b ∈ pl → b < 256) : ∀ (m k : Nat) (g : gS), m + k = sz → rP pl g → (∀ j, j < k → rbyte (g.2.2.2 17) p j = nI (pl.getD (x + j) 0)) → (∀ G : gS, G.1 = g.1 → G.2.1 = g.2.1 → G.2.2.1 = g.2.2.1 → G.2.2.2 18 = g.2.2.2 18 → (∀ j, j < sz → rbyte (G.2.2.2 17) p j = nI (pl.getD (x + j) 0)) → (∀ p' j, p' ≠ p → j < 1480 → rbyte (G.2.2.2 17) p' j = rbyte (g.2.2.2 17) p' j) → post G) → wpl_X3_add_162 post (m + 1) x1 x2 x3 x4 (nI x) (nI sz) x7 (nI p) (nI k) g
  | 0, k, g, hm, hP, hk, hp => by
    unfold wpl_X3_add_162
    exact ⟨fun _ => hp g rfl rfl rfl rfl (fun j hj => hk j (by omega)) (fun _ _ _ _ => rfl), fun c => absurd (nI_le (by omega) (by omega)) c⟩
  | m + 1, k, g, hm, hP, hk, hp => by
    unfold wpl_X3_add_162
    refine ⟨fun c => absurd c (nI_ge (by omega) (by omega)), fun _ x27 e27 => ?_⟩
    have ei : x27 = nI (185 * p + k / 8) := by
      rw [e27, show (185 : Int32) * nI p = nI (185 * p) from pk_mul 185 p, show nI k / 8 = nI (k / 8) from pk_div (by omega) (by decide) (by decide), nI_add]
    subst ei
    refine ⟨vin (by omega) (by decide), fun i29 e29 => ?_⟩
    rw [nI_add] at e29
    subst e29
    have hg := List.getElem?_eq_getElem (l := pl) (i := x + k) (by omega)
    have hb := hlt _ (get_mem hg)
    have hv : pl.getD (x + k) 0 = pl[x + k]'(by omega) := by rw [List.getD_eq_getElem?_getD, hg]; rfl
    generalize pl[x + k]'(by omega) = b at hg hb hv
    refine ⟨vin (by omega) (by decide), fun x31 e31 => ⟨vin (by omega) (by decide), fun g33 e33 x34 e34 => ?_⟩⟩
    have er : nI k - nI k / 8 * 8 = nI (k % 8) := pk_rem (by omega) (by decide) (by decide)
    rw [nI_clamp (by omega), nI_clamp (by omega), er, show (8 : Int32) * nI (k % 8) = nI (8 * (k % 8)) from pk_mul 8 _, hP.2 _ _ hg] at e31
    rw [nI_clamp (by omega)] at e33
    rw [nI_1] at e34
    subst e34
    have l1 : g33.2.2.2 17 (185 * p + k / 8) = pbyte (g.2.2.2 17 (185 * p + k / 8)) (k % 8) b := by
      rw [e33]
      show (if 17 = 17 ∧ 185 * p + k / 8 = 185 * p + k / 8 then x31 else _) = _
      rw [if_pos ⟨rfl, rfl⟩, e31]
      rfl
    have l2 : ∀ c, c ≠ 185 * p + k / 8 → g33.2.2.2 17 c = g.2.2.2 17 c := fun c hc => by
      rw [e33]
      show (if 17 = 17 ∧ c = 185 * p + k / 8 then x31 else _) = _
      rw [if_neg (fun z => hc z.2)]
    have l18 : g33.2.2.2 18 = g.2.2.2 18 := by rw [e33]; funext c; simp [gj]
    have hput := rb_put (l := g.2.2.2 17) (l' := g33.2.2.2 17) (p := p) (k := k) (by omega) hb l1 l2
    have g1 : g33.1 = g.1 := by rw [e33]; rfl
    refine rl_bytes hp5 hx hpl hlt m (k + 1) g33 (by omega) (rP_c (g := g) (by rw [g1]) (by rw [g1]) hP) (fun j hj => ?_) (fun G q1 q2 q3 q4 q5 q6 => hp G (q1.trans g1) (q2.trans (by rw [e33]; rfl)) (q3.trans (by rw [e33]; rfl)) (q4.trans l18) q5 (fun p' j h1 h2 => by rw [q6 p' j h1 h2, hput p' j h2, if_neg (fun z => h1 z.1)]))
    rw [hput p j (by omega)]
    by_cases hjk : j = k
    · rw [if_pos ⟨rfl, hjk⟩, hjk, hv]
    · rw [if_neg (fun z => hjk z.2)]
      exact hk j (by omega)
theorem pigeon : ∀ (n : Nat) (l : List Nat), (∀ p, p < n → p ∈ l) → n ≤ l.length
  | 0, _, _ => Nat.zero_le _
  | n + 1, l, h => by
    have h1 := h n (by omega)
    have h2 := pigeon n (l.erase n) (fun p hp => (List.mem_erase_of_ne (by omega)).mpr (h p (by omega)))
    rw [List.length_erase_of_mem h1] at h2
    have := List.length_pos_of_mem h1
    omega
theorem free_ex {l : List Nat} (h : l.length < 512) : ∃ p, p < 512 ∧ p ∉ l := by
  refine Classical.byContradiction fun hn => ?_
  have := pigeon 512 l (fun p hp => Classical.byContradiction fun z => hn ⟨p, hp, z⟩)
  omega
theorem w_add {n T : Nat} {lg dl up ct : Nat → Int32} {fl : Nat → List Nat} {pl : List Nat} {AL : List aQ} {sm : Int32} {K : aQ} {g : gS} {post : gS → Prop} {i x sz due : Nat} {p2 p3 p4 : Int32} (h : RR n T lg dl up ct fl pl AL sm K g) (hl : AL.length < 512) (hx : x + sz ≤ pl.length) (hpl : pl.length ≤ 1480) (hlt : ∀ b, b ∈ pl → b < 256) (hp : ∀ G, RR n T lg dl up ct fl pl (AL ++ [mkq i p2 p3 p4 pl x sz due]) sm K G → sC g G → G.1 4 0 = g.1 4 0 → post G) : wp_X3_add post (nI i) p2 p3 p4 (nI x) (nI sz) (nI due) g := by
  obtain ⟨a, b, c, d, e, sl, f⟩ := h
  obtain ⟨p0, hp0, hf0⟩ := free_ex (l := sl) (by rw [f.1]; exact hl)
  unfold wp_X3_add
  have h13 := f.2.2.2.2.2.1
  have hfind : ∀ (m k : Nat), k + m = p0 → wpl_X3_add_3 post (m + 1) (nI i) p2 p3 p4 (nI x) (nI sz) (nI due) (nI k) g := by
    have hbody : ∀ p, p < 512 → p ∉ sl → (vp_in (nI p) 512 ∧ (∀ g_4 : gS, g_4 = gi g 13 (nI p).toNatClampNeg (vp_nar .boolean (1 : Int32)) → (vp_in (g_4.1 4 4) 512 ∧ (∀ g_6 : gS, g_6 = gi g_4 12 ((g_4.1 4 4).toNatClampNeg) (nI p) → (∀ x_7 : Int32, x_7 = (g_6.1 4 4) + 1 → (∀ g_8 : gS, g_8 = gi g_6 4 4 x_7 → (vp_in (8 * (nI p)) 4096 ∧ (∀ g_10 : gS, g_10 = gi g_8 14 ((8 * (nI p)).toNatClampNeg) (nI i) → (vp_in ((8 * (nI p)) + 1) 4096 ∧ (∀ g_12 : gS, g_12 = gi g_10 14 (((8 * (nI p)) + 1).toNatClampNeg) p2 → (vp_in ((8 * (nI p)) + 2) 4096 ∧ (∀ g_14 : gS, g_14 = gi g_12 14 (((8 * (nI p)) + 2).toNatClampNeg) p3 → (vp_in ((8 * (nI p)) + 3) 4096 ∧ (∀ g_16 : gS, g_16 = gi g_14 14 (((8 * (nI p)) + 3).toNatClampNeg) p4 → (vp_in ((8 * (nI p)) + 4) 4096 ∧ (∀ g_18 : gS, g_18 = gi g_16 14 (((8 * (nI p)) + 4).toNatClampNeg) (nI x) → (∀ x_19 : Int32, x_19 = g_18.1 4 3 → (vp_in ((8 * (nI p)) + 5) 4096 ∧ (∀ g_21 : gS, g_21 = gi g_18 14 (((8 * (nI p)) + 5).toNatClampNeg) x_19 → (vp_in ((8 * (nI p)) + 6) 4096 ∧ (∀ g_23 : gS, g_23 = gi g_21 14 (((8 * (nI p)) + 6).toNatClampNeg) (nI sz) → (vp_in ((8 * (nI p)) + 7) 4096 ∧ (∀ g_25 : gS, g_25 = gi g_23 14 (((8 * (nI p)) + 7).toNatClampNeg) (nI due) → (∃ n, wpl_X3_add_162 post n (nI i) p2 p3 p4 (nI x) (nI sz) (nI due) (nI p) 0 g_25)))))))))))))))))))))))) := fun p hp5 hps => by
      have k1 : vp_nar .boolean (1 : Int32) = 1 := by decide +kernel
      have m8 : (8 : Int32) * nI p = nI (8 * p) := pk_mul 8 p
      have m81 : nI (8 * p) + 1 = nI (8 * p + 1) := nI_add _ 1
      have m82 : nI (8 * p) + 2 = nI (8 * p + 2) := nI_add _ 2
      have m83 : nI (8 * p) + 3 = nI (8 * p + 3) := nI_add _ 3
      have m84 : nI (8 * p) + 4 = nI (8 * p + 4) := nI_add _ 4
      have m85 : nI (8 * p) + 5 = nI (8 * p + 5) := nI_add _ 5
      have m86 : nI (8 * p) + 6 = nI (8 * p + 6) := nI_add _ 6
      have m87 : nI (8 * p) + 7 = nI (8 * p + 7) := nI_add _ 7
      rw [m8, m81, m82, m83, m84, m85, m86, m87, nI_clamp (show 8 * p < 2 ^ 31 by omega), nI_clamp (show 8 * p + 1 < 2 ^ 31 by omega), nI_clamp (show 8 * p + 2 < 2 ^ 31 by omega), nI_clamp (show 8 * p + 3 < 2 ^ 31 by omega), nI_clamp (show 8 * p + 4 < 2 ^ 31 by omega), nI_clamp (show 8 * p + 5 < 2 ^ 31 by omega), nI_clamp (show 8 * p + 6 < 2 ^ 31 by omega), nI_clamp (show 8 * p + 7 < 2 ^ 31 by omega), nI_clamp (show p < 2 ^ 31 by omega), k1]
      refine ⟨vin hp5 (by decide), fun g4 e4 => ?_⟩
      have c4 : g4.1 4 4 = nI AL.length := by rw [e4, gi_r (by omega), f.2.2.1]
      rw [c4, nI_clamp (by omega)]
      refine ⟨vin hl (by decide), fun g6 e6 x7 e7 g8 e8 => ⟨vin (by omega) (by decide), fun g10 e10 => ⟨vin (by omega) (by decide), fun g12 e12 => ⟨vin (by omega) (by decide), fun g14 e14 => ⟨vin (by omega) (by decide), fun g16 e16 => ⟨vin (by omega) (by decide), fun g18 e18 x19 e19 => ⟨vin (by omega) (by decide), fun g21 e21 => ⟨vin (by omega) (by decide), fun g23 e23 => ⟨vin (by omega) (by decide), fun g25 e25 => ⟨sz + 1, ?_⟩⟩⟩⟩⟩⟩⟩⟩⟩⟩
      have hx7 : x7 = nI (AL.length + 1) := by rw [e7, e6, gi_r (by omega), c4, nI_1]
      subst hx7
      have r18 : ∀ r, r ≠ 4 → r ≠ 12 → r ≠ 13 → r ≠ 14 → g18.1 r = g.1 r := fun r r1 r2 r3 r4 => by rw [e18, gi_r r4, e16, gi_r r4, e14, gi_r r4, e12, gi_r r4, e10, gi_r r4, e8, gi_r r1, e6, gi_r r2, e4, gi_r r3]
      have q18 : ∀ j, j ≠ 4 → g18.1 4 j = g.1 4 j := fun j hj => by rw [e18, gi_r (by omega), e16, gi_r (by omega), e14, gi_r (by omega), e12, gi_r (by omega), e10, gi_r (by omega), e8, gi_n (by omega), e6, gi_r (by omega), e4, gi_r (by omega)]
      have hx19 : x19 = nI pl.length := by rw [e19, q18 3 (by omega), d.1]
      subst hx19
      have r25 : ∀ r, r ≠ 4 → r ≠ 12 → r ≠ 13 → r ≠ 14 → g25.1 r = g.1 r := fun r r1 r2 r3 r4 => by rw [e25, gi_r r4, e23, gi_r r4, e21, gi_r r4, r18 r r1 r2 r3 r4]
      have q25 : ∀ j, j ≠ 4 → g25.1 4 j = g.1 4 j := fun j hj => by rw [e25, gi_r (by omega), e23, gi_r (by omega), e21, gi_r (by omega), q18 j hj]
      have c25 : g25.1 4 4 = nI (AL.length + 1) := by rw [e25, gi_r (by omega), e23, gi_r (by omega), e21, gi_r (by omega), e18, gi_r (by omega), e16, gi_r (by omega), e14, gi_r (by omega), e12, gi_r (by omega), e10, gi_r (by omega), e8, gi_s]
      have o25 : g25.1 12 = (gi g 12 AL.length (nI p)).1 12 := by
        funext j
        rw [e25, gi_r (by omega), e23, gi_r (by omega), e21, gi_r (by omega), e18, gi_r (by omega), e16, gi_r (by omega), e14, gi_r (by omega), e12, gi_r (by omega), e10, gi_r (by omega), e8, gi_r (by omega), e6, e4]
        by_cases hj : j = AL.length
        · rw [hj, gi_s, gi_s]
        · rw [gi_n (by omega), gi_r (by omega), gi_n (by omega)]
      have u25 : g25.1 13 = (gi g 13 p 1).1 13 := by rw [e25, gi_r (by omega), e23, gi_r (by omega), e21, gi_r (by omega), e18, gi_r (by omega), e16, gi_r (by omega), e14, gi_r (by omega), e12, gi_r (by omega), e10, gi_r (by omega), e8, gi_r (by omega), e6, gi_r (by omega), e4]
      have f25 : ∀ j, (∀ k, k < 8 → j ≠ 8 * p + k) → g25.1 14 j = g.1 14 j := fun j hj => by
        have z0 := hj 0 (by omega)
        have z1 := hj 1 (by omega)
        have z2 := hj 2 (by omega)
        have z3 := hj 3 (by omega)
        have z4 := hj 4 (by omega)
        have z5 := hj 5 (by omega)
        have z6 := hj 6 (by omega)
        have z7 := hj 7 (by omega)
        rw [e25, gi_n (by omega), e23, gi_n (by omega), e21, gi_n (by omega), e18, gi_n (by omega), e16, gi_n (by omega), e14, gi_n (by omega), e12, gi_n (by omega), e10, gi_n (by omega), e8, gi_r (by omega), e6, gi_r (by omega), e4, gi_r (by omega)]
      have t25 : g25.2 = g.2 := by rw [e25, e23, e21, e18, e16, e14, e12, e10, e8, e6, e4]; rfl
      have fig : ∀ k, k < 7 → g25.1 14 (8 * p + k) = (mkq i p2 p3 p4 pl x sz due).1 k := fun k hk => by
        have : k = 0 ∨ k = 1 ∨ k = 2 ∨ k = 3 ∨ k = 4 ∨ k = 5 ∨ k = 6 := by omega
        rcases this with rfl | rfl | rfl | rfl | rfl | rfl | rfl
        · rw [e25, gi_n (by omega), e23, gi_n (by omega), e21, gi_n (by omega), e18, gi_n (by omega), e16, gi_n (by omega), e14, gi_n (by omega), e12, gi_n (by omega), e10]
          exact gi_s
        · rw [e25, gi_n (by omega), e23, gi_n (by omega), e21, gi_n (by omega), e18, gi_n (by omega), e16, gi_n (by omega), e14, gi_n (by omega), e12]
          exact gi_s
        · rw [e25, gi_n (by omega), e23, gi_n (by omega), e21, gi_n (by omega), e18, gi_n (by omega), e16, gi_n (by omega), e14]
          exact gi_s
        · rw [e25, gi_n (by omega), e23, gi_n (by omega), e21, gi_n (by omega), e18, gi_n (by omega), e16]
          exact gi_s
        · rw [e25, gi_n (by omega), e23, gi_n (by omega), e21, gi_n (by omega), e18]
          exact gi_s
        · rw [e25, gi_n (by omega), e23, gi_n (by omega), e21]
          exact gi_s
        · rw [e25, gi_n (by omega), e23]
          exact gi_s
      have fdue : g25.1 14 (8 * p + 7) = nI due := by rw [e25, gi_s]
      refine rl_bytes hp5 hx hpl hlt sz 0 g25 (by omega) (rP_c (g := g) (q25 3 (by omega)) (r25 11 (by omega) (by omega) (by omega) (by omega)) d) (fun j hj => absurd hj (by omega)) (fun G q1 q2 q3 q4 q5 q6 => ?_)
      have w : ∀ r, r ≠ 4 ∧ r ≠ 12 ∧ r ≠ 13 ∧ r ≠ 14 → G.1 r = g.1 r := fun r hr => by rw [q1]; exact r25 r hr.1 hr.2.1 hr.2.2.1 hr.2.2.2
      have w4 : ∀ j, j ≠ 4 → G.1 4 j = g.1 4 j := fun j hj => by rw [q1]; exact q25 j hj
      refine hp G ⟨rN_c (g := g) (w4 2 (by omega)) (w 5 (by decide)) (w 6 (by decide)) (w 7 (by decide)) (w 10 (by decide)) a, rT_c (g := g) (w4 1 (by omega)) b, rF_c (g := g) (w 8 (by decide)) (w 9 (by decide)) c, rP_c (g := g) (w4 3 (by omega)) (w 11 (by decide)) d, rK_c (g := g) (w4 5 (by omega)) (w 15 (by decide)) (w 16 (by decide)) e, sl ++ [p], ?_⟩ ⟨fun r hr => w r (by omega), by rw [q2, t25], by rw [q3, t25], by rw [q4, t25]⟩ (w4 0 (by omega))
      refine ⟨by rw [List.length_append, List.length_append, f.1]; rfl, ?_, by rw [q1, c25, List.length_append]; rfl, fun p' hp' => ?_, fun k p' hk => ?_, fun p' hp' => ?_, fun k p' q' hk hk' => ?_⟩
      · exact (List.perm_append_comm (l₁ := sl) (l₂ := [p])).nodup_iff.mpr (List.nodup_cons.mpr ⟨hps, f.2.1⟩)
      · rcases List.mem_append.mp hp' with h | h
        · exact f.2.2.2.1 p' h
        · rw [List.mem_singleton.mp h]
          exact hp5
      · rw [q1, o25]
        rcases snoc_get hk with ⟨h1, h2⟩ | ⟨h1, h2⟩
        · rw [gi_n (by have := f.1; omega)]
          exact f.2.2.2.2.1 k p' h2
        · rw [h1, h2, f.1, gi_s]
      · rw [q1, u25]
        by_cases hpp : p' = p
        · rw [hpp, gi_s, if_pos (by simp)]
        · rw [gi_n (by omega), h13 p' hp']
          have : p' ∈ sl ++ [p] ↔ p' ∈ sl := by simp [hpp]
          by_cases hm : p' ∈ sl
          · rw [if_pos hm, if_pos (this.mpr hm)]
          · rw [if_neg hm, if_neg (fun z => hm (this.mp z))]
      · rcases snoc_get hk with ⟨h1, h2⟩ | ⟨h1, h2⟩
        · rcases snoc_get hk' with ⟨h3, h4⟩ | ⟨h3, h4⟩
          · have hpp : p' ≠ p := fun z => hps (by rw [← z]; exact get_mem h2)
            obtain ⟨o1, o2, o3⟩ := f.2.2.2.2.2.2 k p' q' h2 h4
            refine ⟨by rw [q1, f25 _ (fun k hk => by omega)]; exact o1, fun k hk => by rw [q1, f25 _ (fun k' hk' => by omega)]; exact o2 k hk, fun z hz hz2 j hj => ?_⟩
            rw [q6 p' j hpp (by omega), t25]
            exact o3 z hz hz2 j hj
          · exact absurd h1 (by rw [h3, f.1]; omega)
        · rcases snoc_get hk' with ⟨h3, h4⟩ | ⟨h3, h4⟩
          · exact absurd h3 (by rw [h1, f.1]; omega)
          · rw [h2, h4]
            refine ⟨by rw [q1]; exact fdue, fun k hk => by rw [q1]; exact fig k hk, fun z hz hz2 j hj => q5 j ?_⟩
            have : nI sz = nI z := hz
            have := (nI_eq (by omega) (by omega)).mp this
            omega
    intro m
    induction m with
    | zero =>
      intro k hk
      unfold wpl_X3_add_3
      have hk5 : k < 512 := by omega
      have : g.1 13 k = 0 := by rw [h13 k hk5, if_neg (by rw [show k = p0 by omega]; exact hf0)]
      rw [nI_clamp (by omega), this]
      have hb0 := hbody k hk5 (by rw [show k = p0 by omega]; exact hf0)
      rw [nI_clamp (by omega)] at hb0
      exact ⟨vin hk5 (by decide), fun _ => hb0, fun c => absurd rfl c⟩
    | succ m ih =>
      intro k hk
      unfold wpl_X3_add_3
      have hk5 : k < 512 := by omega
      rw [nI_clamp (by omega), h13 k hk5]
      by_cases hm : k ∈ sl
      · rw [if_pos hm]
        refine ⟨vin hk5 (by decide), fun c => absurd c (by decide), fun _ x36 e36 => ?_⟩
        rw [nI_1] at e36
        subst e36
        exact ih (k + 1) (by omega)
      · rw [if_neg hm]
        have hb0 := hbody k hk5 hm
        rw [nI_clamp (by omega)] at hb0
        exact ⟨vin hk5 (by decide), fun _ => hb0, fun c => absurd rfl c⟩
  exact ⟨p0 + 1, hfind p0 0 (by omega)⟩

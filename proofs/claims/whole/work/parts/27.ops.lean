/-! put, the class -/
def dO (B : Nat) (g : gS) (q : aQ) : Prop := (∀ k, k < 7 → g.1 (31 + k) 513 = q.1 k) ∧ ∃ S z, q.1 6 = nI z ∧ z ≤ 1480 ∧ S + z ≤ B ∧ g.1 38 513 = nI S ∧ ∀ i, i < z → g.1 3 (S + i) &&& 255 = q.2.1 i
theorem w_copy {o : Nat} {g : gS} {post : gS → Prop} (ho : o < 513) (hp : ∀ G : gS, G.2 = g.2 → (∀ r i, (r < 31 ∨ 38 < r ∨ i ≠ o) → G.1 r i = g.1 r i) → (∀ r, 31 ≤ r → r ≤ 38 → G.1 r o = g.1 r 513) → post G) : wp_X0_copyFrom post o 513 g := by
  unfold wp_X0_copyFrom
  refine ⟨by omega, by omega, ?_⟩
  intro x1 e1 g2 e2 x3 e3 g4 e4 x5 e5 g6 e6 x7 e7 g8 e8 x9 e9 g10 e10 x11 e11 g12 e12 x13 e13 g14 e14 x15 e15 g16 e16
  subst e16 e15 e14 e13 e12 e11 e10 e9 e8 e7 e6 e5 e4 e3 e2 e1
  refine hp _ rfl (fun r i h => ?_) (fun r h1 h2 => ?_)
  · rw [gi_n (by omega), gi_n (by omega), gi_n (by omega), gi_n (by omega), gi_n (by omega), gi_n (by omega), gi_n (by omega), gi_n (by omega)]
  · have : r = 31 ∨ r = 32 ∨ r = 33 ∨ r = 34 ∨ r = 35 ∨ r = 36 ∨ r = 37 ∨ r = 38 := by omega
    rcases this with rfl | rfl | rfl | rfl | rfl | rfl | rfl | rfl <;> simp [gi, gu]
theorem cl_ab {c o : Nat} {P : Nat → Nat} {L : List aQ} {q : aQ} {x1 : Int32} {f0 : gMem} {tl : Nat × (Nat → Nat → Int64)} {post : gS → Prop} (hc : c < 512) (hL : L.length = c) (hs : sOk L) (ho : o < 514) (hP : ∀ j, j < 512 → P j < 514) (h2 : f0 0 2 = nI c) (hq : f0 30 o = nI q.2.2) (hqb : q.2.2 < 2 ^ 31) (hLd : ∀ (j : Nat) (a : aQ), L[j]? = some a → f0 30 (P j) = nI a.2.2 ∧ a.2.2 < 2 ^ 31) (hp : ∀ (m : Nat) (G : gS), m ≤ c → (∀ (j : Nat) (a : aQ), L[j]? = some a → j < m → a.2.2 ≤ q.2.2) → (∀ (j : Nat) (a : aQ), L[j]? = some a → m ≤ j → q.2.2 < a.2.2) → G.1 = gu f0 0 2 (nI (c + 1)) → G.2.2 = tl → (∀ j, G.2.1 j = if j < m then P j else if j = m then o else if j ≤ c then P (j - 1) else P j) → post G) : ∀ (m : Nat) (g : gS), m ≤ c → g.1 = f0 → g.2.2 = tl → (∀ j, j ≠ m → g.2.1 j = if j < m then P j else if j ≤ c then P (j - 1) else P j) → (∀ (j : Nat) (a : aQ), L[j]? = some a → m ≤ j → q.2.2 < a.2.2) → wpl_X2_arriveBehind_44 post (m + 1) x1 o (nI m) g
  | m, g, hm, hg1, hg2, hg3, hlt => by
    have hend : (∀ (j : Nat) (a : aQ), L[j]? = some a → j < m → a.2.2 ≤ q.2.2) → (vp_in (nI m) 512 ∧ (∀ g_11 : gS, g_11 = gp g (nI m).toNatClampNeg o → (∀ x_12 : Int32, x_12 = (g_11.1 0 2) + 1 → (∀ g_13 : gS, g_13 = gi g_11 0 2 x_12 → (post g_13))))) := fun hle => by
      refine ⟨vin (by omega) (by decide), fun g11 e11 x12 e12 g13 e13 => ?_⟩
      rw [nI_clamp (by omega)] at e11
      have hx : x12 = nI (c + 1) := by rw [e12, e11]; show g.1 0 2 + 1 = _; rw [hg1, h2, nI_1]
      subst hx
      subst e13
      subst e11
      refine hp m _ hm hle hlt (by show gu g.1 _ _ _ = _; rw [hg1]) hg2 (fun j => ?_)
      show va_up g.2.1 m o j = _
      by_cases hj : j = m
      · rw [hj, va_up_self, if_neg (by omega), if_pos rfl]
      · rw [va_up_ne _ _ hj, hg3 j hj, if_neg hj]
    unfold wpl_X2_arriveBehind_44
    refine ⟨ho, fun hx => ?_, fun hx i14 e14 => ?_⟩
    · have hm0 : m = 0 := Nat.le_zero.mp (Nat.not_lt.mp fun z => absurd hx (nI_nle z (by omega)))
      exact hend (fun j a _ hj => absurd hj (by omega))
    · cases m with
      | zero => exact absurd (by decide) hx
      | succ m =>
        rw [nI_pred] at e14
        subst e14
        have hml := List.getElem?_eq_getElem (l := L) (i := m) (by omega)
        generalize L[m]'(by omega) = a at hml
        obtain ⟨ea, hab⟩ := hLd m a hml
        have epm : g.2.1 m = P m := by rw [hg3 m (by omega), if_pos (by omega)]
        rw [nI_clamp (show m < 2 ^ 31 by omega), epm, hg1, ea, hq]
        refine ⟨vin (by omega) (by decide), hP m (by omega), fun hle => hend (fun j b hj hjm => ?_), fun hnle i22 e22 => ?_⟩
        · have h1 := sOk_get hs hj hml (by omega)
          have h3 := (nI_leI hab hqb).mp hle
          omega
        · rw [nI_pred] at e22
          subst e22
          rw [nI_clamp (show m < 2 ^ 31 by omega), epm, nI_clamp (show m + 1 < 2 ^ 31 by omega)]
          refine ⟨vin (by omega) (by decide), hP m (by omega), vin (by omega) (by decide), fun g26 e26 x27 e27 => ?_⟩
          rw [pk_m1] at e27
          subst e27
          subst e26
          refine cl_ab hc hL hs ho hP h2 hq hqb hLd hp m _ (by omega) hg1 hg2 (fun j hj => ?_) (fun j b hj hmj => ?_)
          · show va_up g.2.1 (m + 1) (P m) j = _
            by_cases hj1 : j = m + 1
            · rw [hj1, va_up_self, if_neg (by omega), if_pos (by omega)]
              rfl
            · rw [va_up_ne _ _ hj1, hg3 j hj1]
              by_cases hjm : j < m
              · rw [if_pos hjm, if_pos (by omega)]
              · rw [if_neg hjm, if_neg (by omega)]
          · rcases Nat.lt_or_ge m j with hl' | hl'
            · exact hlt j b hj (by omega)
            · obtain rfl : j = m := by omega
              rw [hml] at hj
              rw [← Option.some.inj hj]
              exact Nat.not_le.mp fun z => hnle (nI_le z hqb)
theorem sig_inj {m c i j : Nat} (hm : m ≤ c) (h : (if i < m then i else if i = m then c else if i ≤ c then i - 1 else i) = (if j < m then j else if j = m then c else if j ≤ c then j - 1 else j)) : i = j := by
  revert h
  (repeat' split) <;> intro h <;> omega
def frB (g G : gS) : Prop := (∀ r, r < 30 ∨ 38 < r → r ≠ 0 → G.1 r = g.1 r) ∧ (∀ r, 30 ≤ r → r ≤ 38 → G.1 r 513 = g.1 r 513) ∧ (∀ i, i ≠ 2 → G.1 0 i = g.1 0 i) ∧ G.2.2.2 = g.2.2.2
theorem frB_R {g G : gS} (h : frB g G) : sR g G := ⟨fun i _ => by rw [h.1 4 (by omega) (by omega)], fun r _ _ => h.1 r (by omega) (by omega), by rw [h.2.2.2]⟩
theorem frB_tr {a b c : gS} (h : frB a b) (h' : frB b c) : frB a c := ⟨fun r h1 h2 => (h'.1 r h1 h2).trans (h.1 r h1 h2), fun r h1 h2 => (h'.2.1 r h1 h2).trans (h.2.1 r h1 h2), fun i h1 => (h'.2.2.1 i h1).trans (h.2.2.1 i h1), h'.2.2.2.trans h.2.2.2⟩
theorem frB_rfl {g : gS} : frB g g := ⟨fun _ _ _ => rfl, fun _ _ _ => rfl, fun _ _ => rfl, rfl⟩
theorem dO_B {B : Nat} {g G : gS} {q : aQ} (h : frB g G) (hd : dO B g q) : dO B G q := by
  obtain ⟨a, S, z, b1, b2, b3, b4, b5⟩ := hd
  exact ⟨fun k hk => by rw [h.2.1 _ (by omega) (by omega)]; exact a k hk, S, z, b1, b2, b3, by rw [h.2.1 _ (by omega) (by omega)]; exact b4, fun i hi => by rw [h.1 3 (by omega) (by omega)]; exact b5 i hi⟩
theorem w_ab {F n T : Nat} {lg dl up ct : Nat → Int32} {fl : Nat → List Nat} {pl : List Nat} {AL : List aQ} {sm : Int32} {K : aQ} {g : gS} {post : gS → Prop} {q : aQ} {w : Nat} (h : RC F n T lg dl up ct fl pl AL sm K g) (hl : AL.length ≤ 512) (hq : q.2.2 = T + w) (hb : T + w < 2 ^ 31) (hd : ∀ a, a ∈ AL → a.2.2 < 2 ^ 31) (hO : dO (F + pl.length) g q) (hfull : ¬ AL.length < 512 → post g) (hp : AL.length < 512 → ∀ G, RC F n T lg dl up ct fl pl (AL ++ [q]) sm K G → frB g G → post G) : wp_X2_arriveBehind post (nI w) g := by
  obtain ⟨a, b, c, d, e, f⟩ := h
  unfold wp_X2_arriveBehind
  rw [f.1]
  refine pk_lt AL.length 512 (fun hlt i2 e2 => ?_) (fun hge => hfull (by omega))
  subst e2
  rw [nI_clamp (by omega)]
  have ho := (f.2.2.1 AL.length hlt).1
  have hot := (f.2.2.1 AL.length hlt).2
  have inj := f.2.2.2
  refine ⟨vin hlt (by decide), by omega, w_copy ho (fun g5 k1 k2 k3 x6 e6 g7 e7 x8 e8 => ⟨AL.length + 1, ?_⟩)⟩
  have hx6 : x6 = nI q.2.2 := by rw [e6, k2 0 1 (by omega), show g.1 0 1 = nI T from b, nI_add, hq]
  subst hx6
  have hx8 : x8 = nI AL.length := by rw [e8, e7, gi_n (by omega), k2 0 2 (by omega), f.1]
  subst hx8
  have r1 : ∀ r i, (r < 30 ∨ 38 < r ∨ i ≠ g.2.1 AL.length) → g7.1 r i = g.1 r i := fun r i hi => by rw [e7, gi_n (by omega), k2 r i (by omega)]
  have r2 : ∀ r, 31 ≤ r → r ≤ 38 → g7.1 r (g.2.1 AL.length) = g.1 r 513 := fun r h1 h2 => by rw [e7, gi_n (by omega), k3 r h1 h2]
  have r3 : g7.1 30 (g.2.1 AL.length) = nI q.2.2 := by rw [e7, gi_s]
  have r4 : g7.2 = g.2 := by rw [e7]; exact k1
  have hne : ∀ j, j < 512 → j ≠ AL.length → g.2.1 j ≠ g.2.1 AL.length := fun j hj hn z => hn (inj j _ hj hlt z)
  refine cl_ab (c := AL.length) (P := g.2.1) (L := srt AL) (q := q) (f0 := g7.1) (tl := g.2.2) hlt (srt_len AL) (srt_ok AL) (by omega) (fun j hj => by have := (f.2.2.1 j hj).1; omega) (by rw [r1 _ _ (by omega), f.1]) r3 (by omega) (fun j x hj => ?_) (fun m G hm q1 q2 q3 q4 q5 => ?_) AL.length g7 (Nat.le_refl _) rfl (by rw [r4]) (fun j hj => ?_) (fun j x hj hjc => absurd (get_lt hj) (by rw [srt_len]; omega))
  · have hjl := get_lt hj
    rw [srt_len] at hjl
    rw [r1 _ _ (Or.inr (Or.inr (hne j (by omega) (by omega))))]
    exact ⟨(f.2.1 j x hj).1, hd x (srt_mem.mp (get_mem hj))⟩
  · have G1 : ∀ r i, ¬ (r = 0 ∧ i = 2) → G.1 r i = g7.1 r i := fun r i h => by rw [q3]; exact gu_n h
    have G1r : ∀ r, r ≠ 0 → G.1 r = g7.1 r := fun r h => by rw [q3]; exact gu_r h
    have hB : frB g G := by
      refine ⟨fun r h1 h2 => ?_, fun r h1 h2 => ?_, fun i hi => ?_, by rw [q4]⟩
      · funext i
        rw [G1r r h2]
        exact r1 r i (by omega)
      · rw [G1r r (by omega)]
        exact r1 r 513 (by omega)
      · rw [G1 0 i (by omega)]
        exact r1 0 i (by omega)
    have ho1 : ∀ o', o' ≠ g.2.1 AL.length → ∀ r, 30 ≤ r → r ≤ 38 → G.1 r o' = g.1 r o' := fun o' h r h1 h2 => by rw [G1r r (by omega)]; exact r1 r o' (by omega)
    have h3 : G.1 3 = g.1 3 := hB.1 3 (by omega) (by omega)
    refine hp hlt G ⟨cN_c (g := g) (hB.2.2.1 0 (by omega)) (fun r _ _ => hB.1 r (by omega) (by omega)) a, cT_c (g := g) (hB.2.2.1 1 (by omega)) b, kF_c (g := g) (fun r _ => hB.1 r (by omega) (by omega)) c, kP_c (g := g) (hB.2.2.1 4 (by omega)) (hB.2.2.1 5 (by omega)) h3 d, cK_c (g := g) (hB.2.2.1 3 (by omega)) h3 (by rw [q4]) (ho1 _ (fun z => hot z.symm)) e, ⟨by rw [q3, gu_s, List.length_append]; rfl, fun k q' hk => ?_, fun i hi => ?_, fun i j hi hj hij => ?_⟩⟩ hB
    · rw [srt_snoc, ins_at q (srt AL) m (srt_ok AL) (by rw [srt_len]; exact hm) q1 q2] at hk
      have htl : ((srt AL).take m).length = m := by rw [List.length_take, srt_len]; omega
      have hkl := get_lt hk
      rw [List.length_append, List.length_cons, htl, List.length_drop, srt_len] at hkl
      rw [q5]
      rcases Nat.lt_trichotomy k m with hkm | hkm | hkm
      · have := mid_get (X := (srt AL).take m) (Y := (srt AL).drop m) (p := q) k
        rw [htl, if_pos hkm, List.take_append_drop, hk] at this
        rw [if_pos hkm]
        exact cO_c (g := g) (ho1 _ (hne k (by omega) (by omega))) h3 (f.2.1 k q' this)
      · rw [if_neg (by omega), if_pos hkm]
        have hkq : q' = q := by
          have := mid_at (X := (srt AL).take m) (Y := (srt AL).drop m) (p := q)
          rw [htl, ← hkm, ] at this
          rw [hkm] at hk this
          rw [hk] at this
          exact Option.some.inj this
        subst hkq
        obtain ⟨d1, S, z, d2, d3, d4, d5, d6⟩ := hO
        refine ⟨by rw [G1r 30 (by omega)]; exact r3, fun k hk => by rw [G1r _ (by omega), r2 _ (by omega) (by omega)]; exact d1 k hk, S, z, d2, d3, d4, by rw [G1r _ (by omega), r2 _ (by omega) (by omega)]; exact d5, fun i hi => by rw [h3]; exact d6 i hi⟩
      · have := mid_get (X := (srt AL).take m) (Y := (srt AL).drop m) (p := q) (k - 1)
        rw [htl, if_neg (by omega), List.take_append_drop, show k - 1 + 1 = k by omega, hk] at this
        rw [if_neg (by omega), if_neg (by omega), if_pos (by omega)]
        exact cO_c (g := g) (ho1 _ (hne (k - 1) (by omega) (by omega))) h3 (f.2.1 (k - 1) q' this)
    · rw [q4, q5, show (if i < m then g.2.1 i else if i = m then g.2.1 AL.length else if i ≤ AL.length then g.2.1 (i - 1) else g.2.1 i) = g.2.1 (if i < m then i else if i = m then AL.length else if i ≤ AL.length then i - 1 else i) by split <;> (try split) <;> (try split) <;> rfl]
      exact f.2.2.1 _ (by split <;> (try split) <;> (try split) <;> omega)
    · rw [q5, q5, show (if i < m then g.2.1 i else if i = m then g.2.1 AL.length else if i ≤ AL.length then g.2.1 (i - 1) else g.2.1 i) = g.2.1 (if i < m then i else if i = m then AL.length else if i ≤ AL.length then i - 1 else i) by split <;> (try split) <;> (try split) <;> rfl, show (if j < m then g.2.1 j else if j = m then g.2.1 AL.length else if j ≤ AL.length then g.2.1 (j - 1) else g.2.1 j) = g.2.1 (if j < m then j else if j = m then AL.length else if j ≤ AL.length then j - 1 else j) by split <;> (try split) <;> (try split) <;> rfl] at hij
      have := inj _ _ (by split <;> (try split) <;> (try split) <;> omega) (by split <;> (try split) <;> (try split) <;> omega) hij
      exact sig_inj hm this
  · rw [r4]
    by_cases h1 : j < AL.length
    · rw [if_pos h1]
    · rw [if_neg h1, if_neg (by omega)]
theorem w_takeFate {fl : Nat → List Nat} {g : gS} {post : Int32 → gS → Prop} {i : Nat} (hi : i < 24) (h : kF fl g) (hL : (fl i).length ≤ 64) (hp : ∀ G, kF (va_up fl i (fl i).tail) G → frF g G → post (nI ((fl i).headD 0)) G) : wp_X1_takeFate post i g := by
  obtain ⟨f, f1, f2, f3, f4⟩ := h i hi
  unfold wp_X1_takeFate
  rw [f3, f2]
  cases hfl : fl i with
  | nil =>
    rw [hfl] at hp
    refine ⟨hi, fun c => absurd c (by decide), fun _ => hp g ?_ ⟨fun _ _ => rfl, rfl⟩⟩
    rw [List.tail_nil, ← hfl, up_id]
    exact h
  | cons b rest =>
    rw [hfl] at hp hL f4
    rw [List.length_cons] at hL
    refine ⟨hi, fun _ i2 e2 => ?_, fun c => absurd (nI_le (a := 1) (by rw [List.length_cons]; omega) (by rw [List.length_cons]; omega)) c⟩
    subst e2
    refine ⟨vin f1 (by decide), fun x4 e4 x5 e5 g6 e6 x7 e7 g8 e8 => ?_⟩
    have h0 := f4 0 b rfl
    rw [Nat.add_zero, Nat.mod_eq_of_lt f1] at h0
    rw [nI_clamp (by omega), h0] at e4
    subst e4
    rw [nI_1, pk_andN (by omega) 6 (by decide)] at e5
    subst e5
    have hx : x7 = nI rest.length := by rw [e7, e6, gi_r (by omega), f3, hfl, List.length_cons, nI_pred]
    subst hx
    subst e8
    subst e6
    refine hp _ (fun i' hi' => ?_) (frF_tr (frF_i (by omega)) (frF_i (by omega)))
    by_cases ei : i' = i
    · subst ei
      refine ⟨(f + 1) % 2 ^ 6, Nat.mod_lt _ (by decide), by rw [gi_r (by omega), gi_s], by rw [gi_s, va_up_self]; rfl, fun j b' hj => ?_⟩
      rw [va_up_self, List.tail_cons] at hj
      rw [gi_r (by omega), gi_r (by omega), show ((f + 1) % 2 ^ 6 + j) % 64 = (f + (j + 1)) % 64 by omega]
      exact f4 (j + 1) b' (by rw [List.getElem?_cons_succ]; exact hj)
    · obtain ⟨f', q1, q2, q3, q4⟩ := h i' hi'
      refine ⟨f', q1, by rw [gi_r (by omega), gi_n (by omega)]; exact q2, by rw [gi_n (by omega), gi_r (by omega), va_up_ne _ _ ei]; exact q3, fun j b' hj => ?_⟩
      rw [va_up_ne _ _ ei] at hj
      rw [gi_r (by omega), gi_r (by omega)]
      exact q4 j b' hj

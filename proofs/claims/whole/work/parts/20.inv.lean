/-! WHAT HOLDS between class and reference after t calls: n nets, time T, F bytes used up, P bytes fed, the arrivals AL -/
def jN (n : Nat) (g : gS) : Prop := n ≤ 24 ∧ g.1 0 0 = nI n ∧ g.1 4 2 = nI n
def jT (t T : Nat) (g : gS) : Prop := T ≤ 1000 * t ∧ g.1 0 1 = nI T ∧ g.1 4 1 = nI T
def jP (t F P : Nat) (g : gS) : Prop := g.1 0 4 = nI F ∧ g.1 0 5 = nI P ∧ g.1 4 3 = nI P ∧ P ≤ 1480 ∧ F + P ≤ 8 * t ∧ ∀ j, j < P → (g.1 3 (F + j) &&& 255 = g.1 11 j ∧ ∃ b, b < 256 ∧ g.1 11 j = nI b)
def jW1 (i : Nat) (g : gS) : Prop := (∃ a, 100 ≤ a ∧ a ≤ 1500 ∧ g.1 20 i = nI a ∧ g.1 5 i = nI a) ∧ (∃ d, 1 ≤ d ∧ d ≤ 50 ∧ g.1 21 i = nI d ∧ g.1 6 i = nI d) ∧ (g.1 22 i = 0 ∨ g.1 22 i = 1) ∧ g.1 7 i = g.1 22 i
def jW2 (i : Nat) (g : gS) : Prop := g.1 10 i = g.1 23 i ∧ ∃ f k, f < 64 ∧ k ≤ 64 ∧ g.1 24 i = nI f ∧ g.1 25 i = nI k ∧ g.1 8 i = nI k ∧ ∀ j, j < k → (g.1 (200 + i) ((f + j) % 64) = g.1 9 (64 * i + j) ∧ ∃ v, v < 4 ∧ g.1 9 (64 * i + j) = nI v)
def jW (n : Nat) (g : gS) : Prop := (∀ i, i < n → jW1 i g) ∧ ∀ i, i < 24 → jW2 i g
def jK (B : Nat) (g : gS) : Prop := g.1 4 5 = g.1 0 3 ∧ g.2.2.1 < 513 ∧ (¬ g.1 0 3 = 0 → g.1 15 0 = g.1 31 g.2.2.1 ∧ g.1 15 1 = g.1 32 g.2.2.1 ∧ g.1 15 2 = g.1 33 g.2.2.1 ∧ g.1 15 3 = g.1 34 g.2.2.1 ∧ g.1 15 4 = g.1 35 g.2.2.1 ∧ g.1 15 5 = g.1 36 g.2.2.1 ∧
  ∃ S z, z ≤ 1480 ∧ S + z ≤ B ∧ g.1 37 g.2.2.1 = nI z ∧ g.1 15 6 = nI z ∧ g.1 38 g.2.2.1 = nI S ∧ ∀ i, i < z → g.1 3 (S + i) &&& 255 = g.1 16 i)
/-- byte i of the reference's slot p -/
def rbyte (g : gS) (p i : Nat) : Int32 := ((g.2.2.2 17 (185 * p + i / 8) >>> ((nI (8 * (i % 8))).toInt64 &&& 63)) &&& 255).toInt32
def jR (t n B : Nat) (g : gS) (q : aQ) : Prop := q.1 < 513 ∧ q.2.1 < 512 ∧ (q.2.2 ≤ 1000 * t + 200 ∧ g.1 30 q.1 = nI q.2.2 ∧ g.1 14 (8 * q.2.1 + 7) = nI q.2.2) ∧ (∃ i, i < n ∧ g.1 31 q.1 = nI i ∧ g.1 14 (8 * q.2.1) = nI i ∧ g.1 22 i = 1) ∧
  g.1 14 (8 * q.2.1 + 1) = g.1 32 q.1 ∧ g.1 14 (8 * q.2.1 + 2) = g.1 33 q.1 ∧ g.1 14 (8 * q.2.1 + 3) = g.1 34 q.1 ∧ g.1 14 (8 * q.2.1 + 4) = g.1 35 q.1 ∧ g.1 14 (8 * q.2.1 + 5) = g.1 36 q.1 ∧
  ∃ S z, z ≤ 1480 ∧ S + z ≤ B ∧ g.1 37 q.1 = nI z ∧ g.1 14 (8 * q.2.1 + 6) = nI z ∧ g.1 38 q.1 = nI S ∧ ∀ i, i < z → g.1 3 (S + i) &&& 255 = rbyte g q.2.1 i
def jA (t n B : Nat) (AL : List aQ) (g : gS) : Prop := AL.length ≤ 512 ∧ g.1 0 2 = nI AL.length ∧ g.1 4 4 = nI AL.length ∧ (∀ k q, AL[k]? = some q → g.1 12 k = nI q.2.1) ∧ (AL.map (fun q => q.2.1)).Nodup ∧ (∀ q, q ∈ AL → jR t n B g q) ∧ (∀ p, p < 512 → g.1 13 p = if p ∈ AL.map (fun q => q.2.1) then 1 else 0) ∧
  (∀ k q, (srt AL)[k]? = some q → g.2.1 k = q.1) ∧ (∀ i, i < 512 → g.2.1 i < 513 ∧ g.2.1 i ≠ g.2.2.1) ∧ (∀ i j, i < 512 → j < 512 → g.2.1 i = g.2.1 j → i = j)
def J (t n T F P : Nat) (AL : List aQ) (g : gS) : Prop := jN n g ∧ jT t T g ∧ jP t F P g ∧ jW n g ∧ jK (F + P) g ∧ jA t n (F + P) AL g
def Inv (t : Nat) (g : gS) : Prop := ∃ (n T F P : Nat) (AL : List aQ), J t n T F P AL g
theorem J_up {t t' n T F P : Nat} {AL : List aQ} {g : gS} (ht : t ≤ t') (h : J t n T F P AL g) : J t' n T F P AL g := by
  obtain ⟨hN, hT, hP, hW, hK, hA⟩ := h
  refine ⟨hN, ⟨by have := hT.1; omega, hT.2⟩, ⟨hP.1, hP.2.1, hP.2.2.1, hP.2.2.2.1, by have := hP.2.2.2.2.1; omega, hP.2.2.2.2.2⟩, hW, hK, ?_⟩
  obtain ⟨a1, a2, a3, a4, a5, a6, a7⟩ := hA
  refine ⟨a1, a2, a3, a4, a5, fun q hq => ?_, a7⟩
  obtain ⟨b1, b2, ⟨b3, b4⟩, b5⟩ := a6 q hq
  exact ⟨b1, b2, ⟨by omega, b4⟩, b5⟩
/-- the reference's code and the law's row are no part of it -/
theorem J_out {t n T F P : Nat} {AL : List aQ} {g : gS} {i : Nat} {v : Int64} {w : Int32} (h : J t n T F P AL g) : J t n T F P AL (gi (gj g 18 i v) 4 0 w) := by
  simpa [J, jN, jT, jP, jW, jW1, jW2, jK, jA, jR, rbyte, gi, gj, gu] using h
theorem J_code {t n T F P : Nat} {AL : List aQ} {g : gS} {w : Int32} (h : J t n T F P AL g) : J t n T F P AL (gi g 4 0 w) := by
  simpa [J, jN, jT, jP, jW, jW1, jW2, jK, jA, jR, rbyte, gi, gu] using h
theorem cl0 : (0 : Int32).toNatClampNeg = 0 := by decide
theorem vin01 : vp_in (0 : Int32) 1 := by unfold vp_in; decide
theorem vin {i N : Nat} (h : i < N) (hN : N < 2 ^ 31) : vp_in (nI i) N := vp_in_nI h hN
theorem w_nn {n : Nat} {g : gS} {post : Nat × gS → Prop} {px : String × gS → Prop} {p1 : Int32} (hn : n ≤ 24) (h0 : g.1 0 0 = nI n) (h1 : ∀ i, i < n → p1 = nI i → post (100 + i, g)) (h2 : (∀ i, i < n → p1 ≠ nI i) → px ("java/lang/IllegalArgumentException", g)) : wp_X2_netNumbered post px p1 g := by
  unfold wp_X2_netNumbered
  rcases pk_ix p1 (n := n) (by omega) with h | h | ⟨i, hi, rfl⟩
  · have hx : ∀ i, i < n → p1 ≠ nI i := fun i hi e => by rw [e] at h; exact absurd h (nI_pos (by omega))
    exact ⟨fun _ => h2 hx, fun c => absurd h c⟩
  · have hx : ∀ i, i < n → p1 ≠ nI i := fun i hi e => by rw [e] at h; exact absurd h (nI_ge hi (by omega))
    refine ⟨fun _ => h2 hx, fun _ => ⟨fun c => ?_, fun _ => h2 hx⟩⟩
    rw [h0] at c
    exact absurd c (Int32.not_lt.mpr h)
  · refine ⟨fun c => absurd c (nI_pos (by omega)), fun _ => ⟨fun _ => ⟨vin (by omega) (by decide), ?_⟩, fun c => absurd ?_ c⟩⟩
    · rw [nI_clamp (by omega)]
      exact h1 i hi rfl
    · rw [h0]
      exact nI_lt hi (by omega)
theorem w_isNet {n : Nat} {g : gS} {post : Int32 → gS → Prop} {p1 : Int32} (hn : n ≤ 24) (h0 : g.1 4 2 = nI n) (h1 : ∀ i, i < n → p1 = nI i → post 1 g) (h2 : (∀ i, i < n → p1 ≠ nI i) → post 0 g) : wp_X3_isNet post p1 g := by
  unfold wp_X3_isNet
  rcases pk_ix p1 (n := n) (by omega) with h | h | ⟨i, hi, rfl⟩
  · have hx : ∀ i, i < n → p1 ≠ nI i := fun i hi e => by rw [e] at h; exact absurd h (nI_pos (by omega))
    exact ⟨fun _ => h2 hx, fun c => absurd h c⟩
  · have hx : ∀ i, i < n → p1 ≠ nI i := fun i hi e => by rw [e] at h; exact absurd h (nI_ge hi (by omega))
    refine ⟨fun _ => h2 hx, fun _ => ⟨fun _ => h2 hx, fun c => ?_⟩⟩
    rw [h0] at c
    exact absurd h c
  · refine ⟨fun c => absurd c (nI_pos (by omega)), fun _ => ⟨fun c => ?_, fun _ => h1 i hi rfl⟩⟩
    rw [h0] at c
    exact absurd c (nI_ge hi (by omega))
theorem cmp_same (x : Int64) : lg_cmp x x = 0 := by
  unfold lg_cmp
  rw [if_neg (by simp [Int64.lt_irrefl]), if_pos rfl]
/-- the law's look at an answer: k the class's code, b the reference's answer -/
def endK (C : gS → Prop) (k b : Int32) (g : gS) : Prop := wp_X3_thrown (fun r g' => (((r = k) → (((¬ k = 0) → C g') ∧ ((k = 0) → (vp_in (0 : Int32) 1 ∧ ((((lg_cmp (g'.2.2.2 18 (0 : Int32).toNatClampNeg) b.toInt64) = 0) → C g') ∧ ((¬ (lg_cmp (g'.2.2.2 18 (0 : Int32).toNatClampNeg) b.toInt64) = 0) → (False))))))) ∧ ((¬ r = k) → (False)))) g
theorem endK_ok {C : gS → Prop} {k b : Int32} {g : gS} (h1 : g.1 4 0 = k) (h2 : k = 0 → g.2.2.2 18 0 = b.toInt64) (hC : C g) : endK C k b g := by
  unfold endK wp_X3_thrown
  refine ⟨fun _ => ⟨fun _ => hC, fun hk => ⟨vin01, fun _ => hC, fun c => c ?_⟩⟩, fun c => c h1⟩
  rw [cl0, h2 hk]
  exact cmp_same _
/-- the reference answers 0 with a code that isn't 0 -/
theorem code_bad {g : gS} {w : Int32} {A B : Prop} (hw : ¬ w ≤ 0) (hB : B) : (((gi g 4 0 w).1 4 0 ≤ 0) → A) ∧ ((¬ (gi g 4 0 w).1 4 0 ≤ 0) → B) := by
  have e : (gi g 4 0 w).1 4 0 = w := by simp [gi, gu]
  rw [e]
  exact ⟨fun c => absurd c hw, fun _ => hB⟩
theorem code_good {g : gS} {A B : Prop} (hA : A) : (((gi g 4 0 0).1 4 0 ≤ 0) → A) ∧ ((¬ (gi g 4 0 0).1 4 0 ≤ 0) → B) := by
  have e : (gi g 4 0 0).1 4 0 = 0 := by simp [gi, gu]
  rw [e]
  exact ⟨fun _ => hA, fun c => absurd (by decide) c⟩
theorem op_fated {t n T F P : Nat} {AL : List aQ} {g : gS} {Q : Int32 → gS → Prop} {p1 : Int32} (hJ : J t n T F P AL g) (hQ : ∀ k g1, (∀ C : gS → Prop, (∀ g', Inv (t + 1) g' → C g') → wp_X3_fated (fun b g2 => endK C k b g2) p1 g1) → Q k g1) : wp_L_fated Q p1 g := by
  have hN := hJ.1
  unfold wp_L_fated wp_X2_fated
  refine w_nn hN.1 hN.2.1 (fun i hi ep => ?_) (fun hx => ⟨rfl, hQ _ _ (fun C hC => ?_)⟩)
  · refine ⟨i, g, rfl, by have := hN.1; omega, vin01, fun g4 e4 => ?_⟩
    subst e4
    refine hQ _ _ (fun C hC => ?_)
    unfold wp_X3_fated
    refine w_isNet (n := n) hN.1 hN.2.2 (fun i' hi' ep' => ⟨fun c => absurd c (by decide), fun _ g7 e7 => ?_⟩) (fun hx => absurd ep (hx i hi))
    subst e7
    refine code_good ⟨by rw [ep]; exact vin (by have := hN.1; omega) (by decide), endK_ok (by simp [gi, gu]) (fun _ => ?_) (hC _ ⟨n, T, F, P, AL, J_up (by omega) (J_out hJ)⟩)⟩
    obtain ⟨-, f, k, -, -, -, e1, e2, -⟩ := hJ.2.2.2.1.2 i (by have := hN.1; omega)
    rw [ep, nI_clamp (by have := hN.1; omega)]
    simp [gi, gj, gu, cl0, e1, e2]
  · unfold wp_X3_fated
    refine w_isNet (n := n) hN.1 hN.2.2 (fun i' hi' ep' => absurd ep' (hx i' hi')) (fun hx => ⟨fun _ g7 e7 => ?_, fun c => absurd rfl c⟩)
    subst e7
    exact code_bad (by decide) (endK_ok (by simp [gi, gu]) (fun c => absurd c (by decide)) (hC _ ⟨n, T, F, P, AL, J_up (by omega) (J_code hJ)⟩))
theorem op_puts {t n T F P : Nat} {AL : List aQ} {g : gS} {Q : Int32 → gS → Prop} {p1 : Int32} (hJ : J t n T F P AL g) (hQ : ∀ k g1, (∀ C : gS → Prop, (∀ g', Inv (t + 1) g' → C g') → wp_X3_puts (fun b g2 => endK C k b g2) p1 g1) → Q k g1) : wp_L_puts Q p1 g := by
  have hN := hJ.1
  unfold wp_L_puts wp_X2_puts
  refine w_nn hN.1 hN.2.1 (fun i hi ep => ?_) (fun hx => ⟨rfl, hQ _ _ (fun C hC => ?_)⟩)
  · refine ⟨i, g, rfl, by have := hN.1; omega, vin01, fun g4 e4 => ?_⟩
    subst e4
    refine hQ _ _ (fun C hC => ?_)
    unfold wp_X3_puts
    refine w_isNet (n := n) hN.1 hN.2.2 (fun i' hi' ep' => ⟨fun c => absurd c (by decide), fun _ g7 e7 => ?_⟩) (fun hx => absurd ep (hx i hi))
    subst e7
    refine code_good ⟨by rw [ep]; exact vin (by have := hN.1; omega) (by decide), endK_ok (by simp [gi, gu]) (fun _ => ?_) (hC _ ⟨n, T, F, P, AL, J_up (by omega) (J_out hJ)⟩)⟩
    obtain ⟨e1, -⟩ := hJ.2.2.2.1.2 i (by have := hN.1; omega)
    rw [ep, nI_clamp (by have := hN.1; omega)]
    simp [gi, gj, gu, cl0, e1]
  · unfold wp_X3_puts
    refine w_isNet (n := n) hN.1 hN.2.2 (fun i' hi' ep' => absurd ep' (hx i' hi')) (fun hx => ⟨fun _ g7 e7 => ?_, fun c => absurd rfl c⟩)
    subst e7
    exact code_bad (by decide) (endK_ok (by simp [gi, gu]) (fun c => absurd c (by decide)) (hC _ ⟨n, T, F, P, AL, J_up (by omega) (J_code hJ)⟩))

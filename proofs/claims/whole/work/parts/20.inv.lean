/-! WHAT CLASS AND REFERENCE EACH HOLD of the same account: n nets (largest lg, delay dl, up, frames ct), time T, fates fl, payload pl from place F on, arrivals AL, the taken one K (sm: any) -/
def cN (n : Nat) (lg dl up ct : Nat → Int32) (g : gS) : Prop := g.1 0 0 = nI n ∧ ∀ i, i < 24 → g.1 20 i = lg i ∧ g.1 21 i = dl i ∧ g.1 22 i = up i ∧ g.1 23 i = ct i
def cT (T : Nat) (g : gS) : Prop := g.1 0 1 = nI T
def kF (fl : Nat → List Nat) (g : gS) : Prop := ∀ i, i < 24 → ∃ f, f < 64 ∧ g.1 24 i = nI f ∧ g.1 25 i = nI (fl i).length ∧ ∀ j b, (fl i)[j]? = some b → g.1 (200 + i) ((f + j) % 64) = nI b
def kP (F : Nat) (pl : List Nat) (g : gS) : Prop := g.1 0 4 = nI F ∧ g.1 0 5 = nI pl.length ∧ ∀ j b, pl[j]? = some b → g.1 3 (F + j) &&& 255 = nI b
def cO (B : Nat) (g : gS) (o : Nat) (q : aQ) : Prop := g.1 30 o = nI q.2.2 ∧ (∀ k, k < 7 → g.1 (31 + k) o = q.1 k) ∧ ∃ S z, q.1 6 = nI z ∧ z ≤ 1480 ∧ S + z ≤ B ∧ g.1 38 o = nI S ∧ ∀ i, i < z → g.1 3 (S + i) &&& 255 = q.2.1 i
def cK (B : Nat) (sm : Int32) (K : aQ) (g : gS) : Prop := g.1 0 3 = sm ∧ g.2.2.1 < 513 ∧ (¬ sm = 0 → cO B g g.2.2.1 K)
def cA (B : Nat) (AL : List aQ) (g : gS) : Prop := g.1 0 2 = nI AL.length ∧ (∀ k q, (srt AL)[k]? = some q → cO B g (g.2.1 k) q) ∧ (∀ i, i < 512 → g.2.1 i < 513 ∧ g.2.1 i ≠ g.2.2.1) ∧ (∀ i j, i < 512 → j < 512 → g.2.1 i = g.2.1 j → i = j)
def RC (F n T : Nat) (lg dl up ct : Nat → Int32) (fl : Nat → List Nat) (pl : List Nat) (AL : List aQ) (sm : Int32) (K : aQ) (g : gS) : Prop := cN n lg dl up ct g ∧ cT T g ∧ kF fl g ∧ kP F pl g ∧ cK (F + pl.length) sm K g ∧ cA (F + pl.length) AL g
/-- byte i of the reference's slot p -/
def rbyte (l : Nat → Int64) (p i : Nat) : Int32 := ((l (185 * p + i / 8) >>> ((nI (8 * (i % 8))).toInt64 &&& 63)) &&& 255).toInt32
def rN (n : Nat) (lg dl up ct : Nat → Int32) (g : gS) : Prop := g.1 4 2 = nI n ∧ ∀ i, i < 24 → g.1 5 i = lg i ∧ g.1 6 i = dl i ∧ g.1 7 i = up i ∧ g.1 10 i = ct i
def rT (T : Nat) (g : gS) : Prop := g.1 4 1 = nI T
def rF (fl : Nat → List Nat) (g : gS) : Prop := ∀ i, i < 24 → g.1 8 i = nI (fl i).length ∧ ∀ j b, (fl i)[j]? = some b → g.1 9 (64 * i + j) = nI b
def rP (pl : List Nat) (g : gS) : Prop := g.1 4 3 = nI pl.length ∧ ∀ j b, pl[j]? = some b → g.1 11 j = nI b
def rO (g : gS) (p : Nat) (q : aQ) : Prop := g.1 14 (8 * p + 7) = nI q.2.2 ∧ (∀ k, k < 7 → g.1 14 (8 * p + k) = q.1 k) ∧ ∀ z, q.1 6 = nI z → z ≤ 1480 → ∀ i, i < z → rbyte (g.2.2.2 17) p i = q.2.1 i
def rK (sm : Int32) (K : aQ) (g : gS) : Prop := g.1 4 5 = sm ∧ (¬ sm = 0 → (∀ k, k < 7 → g.1 15 k = K.1 k) ∧ ∀ z, K.1 6 = nI z → z ≤ 1480 → ∀ i, i < z → g.1 16 i = K.2.1 i)
def rS (AL : List aQ) (sl : List Nat) (g : gS) : Prop := sl.length = AL.length ∧ sl.Nodup ∧ g.1 4 4 = nI AL.length ∧ (∀ p, p ∈ sl → p < 512) ∧ (∀ (k p : Nat), sl[k]? = some p → g.1 12 k = nI p) ∧ (∀ p, p < 512 → g.1 13 p = if p ∈ sl then 1 else 0) ∧ ∀ (k p : Nat) (q : aQ), sl[k]? = some p → AL[k]? = some q → rO g p q
def rA (AL : List aQ) (g : gS) : Prop := ∃ sl : List Nat, rS AL sl g
def RR (n T : Nat) (lg dl up ct : Nat → Int32) (fl : Nat → List Nat) (pl : List Nat) (AL : List aQ) (sm : Int32) (K : aQ) (g : gS) : Prop := rN n lg dl up ct g ∧ rT T g ∧ rF fl g ∧ rP pl g ∧ rK sm K g ∧ rA AL g
/-- what the account keeps after t calls -/
def wQ (t n : Nat) (up : Nat → Int32) (q : aQ) : Prop := q.2.2 ≤ 1000 * t + 200 ∧ (∃ z, z ≤ 1480 ∧ q.1 6 = nI z) ∧ ∃ i, i < n ∧ q.1 0 = nI i ∧ up i = 1
def aW (t F n T : Nat) (lg dl up : Nat → Int32) (fl : Nat → List Nat) (pl : List Nat) (AL : List aQ) : Prop := n ≤ 24 ∧ T ≤ 1000 * t ∧ (∀ i, i < n → (∃ a, 100 ≤ a ∧ a ≤ 1500 ∧ lg i = nI a) ∧ ∃ d, 1 ≤ d ∧ d ≤ 50 ∧ dl i = nI d) ∧ (∀ i, i < 24 → up i = 0 ∨ up i = 1) ∧ (∀ i, i < 24 → (fl i).length ≤ 64 ∧ ∀ b, b ∈ fl i → b < 4) ∧ F + pl.length ≤ 8 * t ∧ pl.length ≤ 1480 ∧ (∀ b, b ∈ pl → b < 256) ∧ AL.length ≤ 512 ∧ ∀ q, q ∈ AL → wQ t n up q
def J (t F n T : Nat) (lg dl up ct : Nat → Int32) (fl : Nat → List Nat) (pl : List Nat) (AL : List aQ) (sm : Int32) (K : aQ) (g : gS) : Prop := aW t F n T lg dl up fl pl AL ∧ RC F n T lg dl up ct fl pl AL sm K g ∧ RR n T lg dl up ct fl pl AL sm K g
def Inv (t : Nat) (g : gS) : Prop := ∃ (F n T : Nat) (lg dl up ct : Nat → Int32) (fl : Nat → List Nat) (pl : List Nat) (AL : List aQ) (sm : Int32) (K : aQ), J t F n T lg dl up ct fl pl AL sm K g
theorem J_inv {t F n T : Nat} {lg dl up ct : Nat → Int32} {fl : Nat → List Nat} {pl : List Nat} {AL : List aQ} {sm : Int32} {K : aQ} {g : gS} (h : J t F n T lg dl up ct fl pl AL sm K g) : Inv t g := ⟨F, n, T, lg, dl, up, ct, fl, pl, AL, sm, K, h⟩
theorem aW_up {t t' F n T : Nat} {lg dl up : Nat → Int32} {fl : Nat → List Nat} {pl : List Nat} {AL : List aQ} (ht : t ≤ t') (h : aW t F n T lg dl up fl pl AL) : aW t' F n T lg dl up fl pl AL := by
  obtain ⟨h1, h2, h3, h4, h5, h6, h7, h8, h9, h10⟩ := h
  refine ⟨h1, by omega, h3, h4, h5, by omega, h7, h8, h9, fun q hq => ?_⟩
  obtain ⟨a, b⟩ := h10 q hq
  exact ⟨by omega, b⟩
def sR (g g' : gS) : Prop := (∀ i, 1 ≤ i → g'.1 4 i = g.1 4 i) ∧ (∀ r, 5 ≤ r → r ≤ 16 → g'.1 r = g.1 r) ∧ g'.2.2.2 17 = g.2.2.2 17
def sC (g g' : gS) : Prop := (∀ r, r < 4 ∨ 17 ≤ r → g'.1 r = g.1 r) ∧ g'.2.1 = g.2.1 ∧ g'.2.2.1 = g.2.2.1 ∧ g'.2.2.2 18 = g.2.2.2 18
theorem sR_rfl {g : gS} : sR g g := ⟨fun _ _ => rfl, fun _ _ _ => rfl, rfl⟩
theorem sC_rfl {g : gS} : sC g g := ⟨fun _ _ => rfl, rfl, rfl, rfl⟩
theorem sR_tr {a b c : gS} (h : sR a b) (h' : sR b c) : sR a c := ⟨fun i hi => (h'.1 i hi).trans (h.1 i hi), fun r h1 h2 => (h'.2.1 r h1 h2).trans (h.2.1 r h1 h2), h'.2.2.trans h.2.2⟩
theorem sC_tr {a b c : gS} (h : sC a b) (h' : sC b c) : sC a c := ⟨fun r hr => (h'.1 r hr).trans (h.1 r hr), h'.2.1.trans h.2.1, h'.2.2.1.trans h.2.2.1, h'.2.2.2.trans h.2.2.2⟩
theorem sR_i {g : gS} {r i : Nat} {v : Int32} (h : r < 4 ∨ 17 ≤ r) : sR g (gi g r i v) := ⟨fun _ _ => gu_n (fun e => by omega), fun _ _ _ => gu_r (fun e => by omega), rfl⟩
theorem sR_p {g : gS} {i j : Nat} : sR g (gp g i j) := ⟨fun _ _ => rfl, fun _ _ _ => rfl, rfl⟩
theorem sR_t {g : gS} {j : Nat} : sR g (gt g j) := ⟨fun _ _ => rfl, fun _ _ _ => rfl, rfl⟩
theorem sR_j {g : gS} {i : Nat} {v : Int64} : sR g (gj g 18 i v) := ⟨fun _ _ => rfl, fun _ _ _ => rfl, by funext x; simp [gj]⟩
theorem sR_code {g : gS} {v : Int32} : sR g (gi g 4 0 v) := ⟨fun i hi => gu_n (fun e => by omega), fun _ _ _ => gu_r (fun e => by omega), rfl⟩
theorem sC_i {g : gS} {r i : Nat} {v : Int32} (h : 4 ≤ r) (h' : r ≤ 16) : sC g (gi g r i v) := ⟨fun _ _ => gu_r (fun e => by omega), rfl, rfl, rfl⟩
theorem sC_j {g : gS} {i : Nat} {v : Int64} : sC g (gj g 17 i v) := ⟨fun _ _ => rfl, rfl, rfl, by funext x; simp [gj]⟩
theorem RR_s {n T : Nat} {lg dl up ct : Nat → Int32} {fl : Nat → List Nat} {pl : List Nat} {AL : List aQ} {sm : Int32} {K : aQ} {g g' : gS} (h : sR g g') (hr : RR n T lg dl up ct fl pl AL sm K g) : RR n T lg dl up ct fl pl AL sm K g' := by
  obtain ⟨h4, h5, h17⟩ := h
  unfold RR rN rT rF rP rK rA rS rO at hr ⊢
  simpa only [h4 1 (by decide), h4 2 (by decide), h4 3 (by decide), h4 4 (by decide), h4 5 (by decide), h5 5 (by decide) (by decide), h5 6 (by decide) (by decide), h5 7 (by decide) (by decide), h5 8 (by decide) (by decide), h5 9 (by decide) (by decide), h5 10 (by decide) (by decide), h5 11 (by decide) (by decide), h5 12 (by decide) (by decide), h5 13 (by decide) (by decide), h5 14 (by decide) (by decide), h5 15 (by decide) (by decide), h5 16 (by decide) (by decide), h17] using hr
theorem cO_c {B : Nat} {g g' : gS} {o : Nat} {q : aQ} (h : ∀ r, 30 ≤ r → r ≤ 38 → g'.1 r o = g.1 r o) (h3 : g'.1 3 = g.1 3) (hc : cO B g o q) : cO B g' o q := by
  obtain ⟨h1, h2, S, z, h4, h5, h6, h7, h8⟩ := hc
  refine ⟨by rw [h 30 (by decide) (by decide)]; exact h1, fun k hk => by rw [h (31 + k) (by omega) (by omega)]; exact h2 k hk, S, z, h4, h5, h6, by rw [h 38 (by decide) (by decide)]; exact h7, fun i hi => by rw [h3]; exact h8 i hi⟩
theorem cO_up {B B' : Nat} {g : gS} {o : Nat} {q : aQ} (hB : B ≤ B') (hc : cO B g o q) : cO B' g o q := by
  obtain ⟨h1, h2, S, z, h4, h5, h6, h7, h8⟩ := hc
  exact ⟨h1, h2, S, z, h4, h5, by omega, h7, h8⟩
theorem cN_c {n : Nat} {lg dl up ct : Nat → Int32} {g g' : gS} (h0 : g'.1 0 0 = g.1 0 0) (h : ∀ r, 20 ≤ r → r ≤ 23 → g'.1 r = g.1 r) (hc : cN n lg dl up ct g) : cN n lg dl up ct g' := by
  unfold cN at hc ⊢
  simpa only [h0, h 20 (by decide) (by decide), h 21 (by decide) (by decide), h 22 (by decide) (by decide), h 23 (by decide) (by decide)] using hc
theorem cT_c {T : Nat} {g g' : gS} (h0 : g'.1 0 1 = g.1 0 1) (hc : cT T g) : cT T g' := h0.trans hc
theorem kF_c {fl : Nat → List Nat} {g g' : gS} (h : ∀ r, r = 24 ∨ r = 25 ∨ 200 ≤ r → g'.1 r = g.1 r) (hc : kF fl g) : kF fl g' := by
  unfold kF at hc ⊢
  have h2 : ∀ i, g'.1 (200 + i) = g.1 (200 + i) := fun i => h _ (by omega)
  simpa only [h 24 (by decide), h 25 (by decide), h2] using hc
theorem kP_c {F : Nat} {pl : List Nat} {g g' : gS} (h4 : g'.1 0 4 = g.1 0 4) (h5 : g'.1 0 5 = g.1 0 5) (h3 : g'.1 3 = g.1 3) (hc : kP F pl g) : kP F pl g' := by
  unfold kP at hc ⊢
  simpa only [h4, h5, h3] using hc
theorem cK_c {B : Nat} {sm : Int32} {K : aQ} {g g' : gS} (h0 : g'.1 0 3 = g.1 0 3) (h3 : g'.1 3 = g.1 3) (ht : g'.2.2.1 = g.2.2.1) (h : ∀ r, 30 ≤ r → r ≤ 38 → g'.1 r g.2.2.1 = g.1 r g.2.2.1) (hc : cK B sm K g) : cK B sm K g' := by
  obtain ⟨a, b, c⟩ := hc
  refine ⟨h0.trans a, by rw [ht]; exact b, fun hs => ?_⟩
  rw [ht]
  exact cO_c h h3 (c hs)
theorem cA_c {B : Nat} {AL : List aQ} {g g' : gS} (h0 : g'.1 0 2 = g.1 0 2) (h3 : g'.1 3 = g.1 3) (hp : g'.2.1 = g.2.1) (ht : g'.2.2.1 = g.2.2.1) (h : ∀ r, 30 ≤ r → r ≤ 38 → g'.1 r = g.1 r) (hc : cA B AL g) : cA B AL g' := by
  obtain ⟨a, b, c, d⟩ := hc
  refine ⟨h0.trans a, fun k q hk => ?_, fun i hi => by rw [hp, ht]; exact c i hi, fun i j hi hj => by rw [hp]; exact d i j hi hj⟩
  rw [hp]
  exact cO_c (fun r h1 h2 => by rw [h r h1 h2]) h3 (b k q hk)
theorem RC_s {F n T : Nat} {lg dl up ct : Nat → Int32} {fl : Nat → List Nat} {pl : List Nat} {AL : List aQ} {sm : Int32} {K : aQ} {g g' : gS} (h : sC g g') (hr : RC F n T lg dl up ct fl pl AL sm K g) : RC F n T lg dl up ct fl pl AL sm K g' := by
  obtain ⟨h1, h2, h3, -⟩ := h
  obtain ⟨a, b, c, d, e, f⟩ := hr
  have z0 : g'.1 0 = g.1 0 := h1 0 (by decide)
  refine ⟨cN_c (by rw [z0]) (fun r q1 q2 => h1 r (by omega)) a, cT_c (by rw [z0]) b, kF_c (fun r q => h1 r (by omega)) c, kP_c (by rw [z0]) (by rw [z0]) (h1 3 (by decide)) d, cK_c (by rw [z0]) (h1 3 (by decide)) h3 (fun r q1 q2 => by rw [h1 r (by omega)]) e, cA_c (by rw [z0]) (h1 3 (by decide)) h2 h3 (fun r q1 q2 => h1 r (by omega)) f⟩
theorem RC_j {F n T : Nat} {lg dl up ct : Nat → Int32} {fl : Nat → List Nat} {pl : List Nat} {AL : List aQ} {sm : Int32} {K : aQ} {g : gS} {r i : Nat} {v : Int64} (hr : RC F n T lg dl up ct fl pl AL sm K g) : RC F n T lg dl up ct fl pl AL sm K (gj g r i v) := by
  obtain ⟨a, b, c, d, e, f⟩ := hr
  exact ⟨a, b, c, d, e, f⟩
theorem J_code {t F n T : Nat} {lg dl up ct : Nat → Int32} {fl : Nat → List Nat} {pl : List Nat} {AL : List aQ} {sm : Int32} {K : aQ} {g : gS} {w : Int32} (h : J t F n T lg dl up ct fl pl AL sm K g) : J t F n T lg dl up ct fl pl AL sm K (gi g 4 0 w) := ⟨h.1, RC_s (sC_i (by decide) (by decide)) h.2.1, RR_s sR_code h.2.2⟩
theorem J_up {t F n T : Nat} {lg dl up ct : Nat → Int32} {fl : Nat → List Nat} {pl : List Nat} {AL : List aQ} {sm : Int32} {K : aQ} {g : gS} {t' : Nat} (ht : t ≤ t') (h : J t F n T lg dl up ct fl pl AL sm K g) : J t' F n T lg dl up ct fl pl AL sm K g := ⟨aW_up ht h.1, h.2⟩
theorem J_out {t F n T : Nat} {lg dl up ct : Nat → Int32} {fl : Nat → List Nat} {pl : List Nat} {AL : List aQ} {sm : Int32} {K : aQ} {g : gS} {i : Nat} {v : Int64} {w : Int32} (h : J t F n T lg dl up ct fl pl AL sm K g) : J t F n T lg dl up ct fl pl AL sm K (gi (gj g 18 i v) 4 0 w) := J_code ⟨h.1, RC_j h.2.1, RR_s sR_j h.2.2⟩
theorem cl0 : (0 : Int32).toNatClampNeg = 0 := by decide
theorem vin01 : vp_in (0 : Int32) 1 := by unfold vp_in; decide
theorem vin {i N : Nat} (h : i < N) (hN : N < 2 ^ 31) : vp_in (nI i) N := vp_in_nI h hN
theorem w_nn {n : Nat} {g : gS} {post : Nat × gS → Prop} {px : String × gS → Prop} {p1 : Int32} (hn : n ≤ 24) (h0 : g.1 0 0 = nI n) (h1 : ∀ i, i < n → p1 = nI i → post (100 + i, g)) (h2 : (∀ i, i < n → p1 ≠ nI i) → px ("java/lang/IllegalArgumentException", g)) : wp_X2_netNumbered post px p1 g := by
  unfold wp_X2_netNumbered
  rcases pk_ix p1 (n := n) (by omega) with h | h | ⟨i, hi, rfl⟩
  · have hx : ∀ i, i < n → p1 ≠ nI i := fun i hi e => by rw [e] at h; exact absurd h (nI_pos (by omega))
    exact ⟨fun _ => h2 hx, fun c => absurd h c⟩
  · have hx : ∀ i, i < n → p1 ≠ nI i := fun i hi e => by rw [e] at h; exact absurd h (nI_ge hi (by omega))
    refine ⟨fun _ => h2 hx, fun _ => ⟨fun c => ?_, fun _ => h2 hx⟩⟩
    rw [h0] at c
    exact absurd c (Int32.not_lt.mpr h)
  · refine ⟨fun c => absurd c (nI_pos (by omega)), fun _ => ⟨fun _ => ⟨vin (by omega) (by decide), ?_⟩, fun c => absurd ?_ c⟩⟩
    · rw [nI_clamp (by omega)]
      exact h1 i hi rfl
    · rw [h0]
      exact nI_lt hi (by omega)
theorem w_isNet {n : Nat} {g : gS} {post : Int32 → gS → Prop} {p1 : Int32} (hn : n ≤ 24) (h0 : g.1 4 2 = nI n) (h1 : ∀ i, i < n → p1 = nI i → post 1 g) (h2 : (∀ i, i < n → p1 ≠ nI i) → post 0 g) : wp_X3_isNet post p1 g := by
  unfold wp_X3_isNet
  rcases pk_ix p1 (n := n) (by omega) with h | h | ⟨i, hi, rfl⟩
  · have hx : ∀ i, i < n → p1 ≠ nI i := fun i hi e => by rw [e] at h; exact absurd h (nI_pos (by omega))
    exact ⟨fun _ => h2 hx, fun c => absurd h c⟩
  · have hx : ∀ i, i < n → p1 ≠ nI i := fun i hi e => by rw [e] at h; exact absurd h (nI_ge hi (by omega))
    refine ⟨fun _ => h2 hx, fun _ => ⟨fun _ => h2 hx, fun c => ?_⟩⟩
    rw [h0] at c
    exact absurd h c
  · refine ⟨fun c => absurd c (nI_pos (by omega)), fun _ => ⟨fun c => ?_, fun _ => h1 i hi rfl⟩⟩
    rw [h0] at c
    exact absurd c (nI_ge hi (by omega))
theorem cmp_same (x : Int64) : lg_cmp x x = 0 := by
  unfold lg_cmp
  rw [if_neg (by simp [Int64.lt_irrefl]), if_pos rfl]
/-- the law's look at an answer: k the class's code, b the reference's answer -/
def endK (C : gS → Prop) (k b : Int32) (g : gS) : Prop := wp_X3_thrown (fun r g' => (((r = k) → (((¬ k = 0) → C g') ∧ ((k = 0) → (vp_in (0 : Int32) 1 ∧ ((((lg_cmp (g'.2.2.2 18 (0 : Int32).toNatClampNeg) b.toInt64) = 0) → C g') ∧ ((¬ (lg_cmp (g'.2.2.2 18 (0 : Int32).toNatClampNeg) b.toInt64) = 0) → (False))))))) ∧ ((¬ r = k) → (False)))) g
theorem endK_ok {C : gS → Prop} {k b : Int32} {g : gS} (h1 : g.1 4 0 = k) (h2 : k = 0 → g.2.2.2 18 0 = b.toInt64) (hC : C g) : endK C k b g := by
  unfold endK wp_X3_thrown
  refine ⟨fun _ => ⟨fun _ => hC, fun hk => ⟨vin01, fun _ => hC, fun c => c ?_⟩⟩, fun c => c h1⟩
  rw [cl0, h2 hk]
  exact cmp_same _
/-- the reference answers 0 with a code that isn't 0 -/
theorem code_bad {g : gS} {w : Int32} {A B : Prop} (hw : ¬ w ≤ 0) (hB : B) : (((gi g 4 0 w).1 4 0 ≤ 0) → A) ∧ ((¬ (gi g 4 0 w).1 4 0 ≤ 0) → B) := by
  have e : (gi g 4 0 w).1 4 0 = w := by simp [gi, gu]
  rw [e]
  exact ⟨fun c => absurd c hw, fun _ => hB⟩
theorem code_good {g : gS} {A B : Prop} (hA : A) : (((gi g 4 0 0).1 4 0 ≤ 0) → A) ∧ ((¬ (gi g 4 0 0).1 4 0 ≤ 0) → B) := by
  have e : (gi g 4 0 0).1 4 0 = 0 := by simp [gi, gu]
  rw [e]
  exact ⟨fun _ => hA, fun c => absurd (by decide) c⟩
theorem bad {t F n T : Nat} {lg dl up ct : Nat → Int32} {fl : Nat → List Nat} {pl : List Nat} {AL : List aQ} {sm : Int32} {K : aQ} {g : gS} {C : gS → Prop} {k : Int32} {A : Prop} (hk : ¬ k ≤ 0) (hJ : J t F n T lg dl up ct fl pl AL sm K g) (hC : ∀ g', Inv (t + 1) g' → C g') : (((gi g 4 0 k).1 4 0 ≤ 0) → A) ∧ ((¬ (gi g 4 0 k).1 4 0 ≤ 0) → endK C k 0 (gi g 4 0 k)) :=
  code_bad hk (endK_ok (by simp [gi, gu]) (fun c => absurd (by rw [c]; decide) hk) (hC _ (J_inv (J_up (by omega) (J_code hJ)))))
/-- the answer is the same and the account goes on -/
theorem good {t F n T : Nat} {lg dl up ct : Nat → Int32} {fl : Nat → List Nat} {pl : List Nat} {AL : List aQ} {sm : Int32} {K : aQ} {g : gS} {C : gS → Prop} {b : Int32} {i : Nat} {v : Int64} (hJ : J t F n T lg dl up ct fl pl AL sm K g) (hC : ∀ g', Inv (t + 1) g' → C g') (hi : i = 0) (hv : v = b.toInt64) : endK C 0 b (gi (gj g 18 i v) 4 0 0) := by
  subst hi
  subst hv
  exact endK_ok (by simp [gi, gu]) (fun _ => by simp [gi, gj]) (hC _ (J_inv (J_up (by omega) (J_out hJ))))
theorem op_fated {t F n T : Nat} {lg dl up ct : Nat → Int32} {fl : Nat → List Nat} {pl : List Nat} {AL : List aQ} {sm : Int32} {K : aQ} {g : gS} {Q : Int32 → gS → Prop} {p1 : Int32} (hJ : J t F n T lg dl up ct fl pl AL sm K g) (hQ : ∀ k g1, (∀ C : gS → Prop, (∀ g', Inv (t + 1) g' → C g') → wp_X3_fated (fun b g2 => endK C k b g2) p1 g1) → Q k g1) : wp_L_fated Q p1 g := by
  have hn := hJ.1.1
  unfold wp_L_fated wp_X2_fated
  refine w_nn hn hJ.2.1.1.1 (fun i hi ep => ?_) (fun hx => ⟨rfl, hQ _ _ (fun C hC => ?_)⟩)
  · refine ⟨i, g, rfl, by omega, vin01, fun g4 e4 => ?_⟩
    subst e4
    refine hQ _ _ (fun C hC => ?_)
    unfold wp_X3_fated
    refine w_isNet (n := n) hn hJ.2.2.1.1 (fun i' hi' ep' => ⟨fun c => absurd c (by decide), fun _ g7 e7 => ?_⟩) (fun hx => absurd ep (hx i hi))
    subst e7
    refine code_good ⟨by rw [ep]; exact vin (by omega) (by decide), good hJ hC cl0 ?_⟩
    obtain ⟨f, -, -, e1, -⟩ := hJ.2.1.2.2.1 i (by omega)
    obtain ⟨e2, -⟩ := hJ.2.2.2.2.1 i (by omega)
    rw [ep, nI_clamp (by omega)]
    simp [gi, gj, gu, e1, e2]
  · unfold wp_X3_fated
    refine w_isNet (n := n) hn hJ.2.2.1.1 (fun i' hi' ep' => absurd ep' (hx i' hi')) (fun hx => ⟨fun _ g7 e7 => ?_, fun c => absurd rfl c⟩)
    subst e7
    exact bad (by decide) hJ hC
theorem op_puts {t F n T : Nat} {lg dl up ct : Nat → Int32} {fl : Nat → List Nat} {pl : List Nat} {AL : List aQ} {sm : Int32} {K : aQ} {g : gS} {Q : Int32 → gS → Prop} {p1 : Int32} (hJ : J t F n T lg dl up ct fl pl AL sm K g) (hQ : ∀ k g1, (∀ C : gS → Prop, (∀ g', Inv (t + 1) g' → C g') → wp_X3_puts (fun b g2 => endK C k b g2) p1 g1) → Q k g1) : wp_L_puts Q p1 g := by
  have hn := hJ.1.1
  unfold wp_L_puts wp_X2_puts
  refine w_nn hn hJ.2.1.1.1 (fun i hi ep => ?_) (fun hx => ⟨rfl, hQ _ _ (fun C hC => ?_)⟩)
  · refine ⟨i, g, rfl, by omega, vin01, fun g4 e4 => ?_⟩
    subst e4
    refine hQ _ _ (fun C hC => ?_)
    unfold wp_X3_puts
    refine w_isNet (n := n) hn hJ.2.2.1.1 (fun i' hi' ep' => ⟨fun c => absurd c (by decide), fun _ g7 e7 => ?_⟩) (fun hx => absurd ep (hx i hi))
    subst e7
    refine code_good ⟨by rw [ep]; exact vin (by omega) (by decide), good hJ hC cl0 ?_⟩
    have e1 := (hJ.2.1.1.2 i (by omega)).2.2.2
    have e2 := (hJ.2.2.1.2 i (by omega)).2.2.2
    rw [ep, nI_clamp (by omega)]
    simp [gi, gj, gu, e1, e2]
  · unfold wp_X3_puts
    refine w_isNet (n := n) hn hJ.2.2.1.1 (fun i' hi' ep' => absurd ep' (hx i' hi')) (fun hx => ⟨fun _ g7 e7 => ?_, fun c => absurd rfl c⟩)
    subst e7
    exact bad (by decide) hJ hC
theorem op_arrival {t F n T : Nat} {lg dl up ct : Nat → Int32} {fl : Nat → List Nat} {pl : List Nat} {AL : List aQ} {sm : Int32} {K : aQ} {g : gS} {Q : Int32 → gS → Prop} {p1 : Int32} (hJ : J t F n T lg dl up ct fl pl AL sm K g) (hQ : ∀ k g1, (∀ C : gS → Prop, (∀ g', Inv (t + 1) g' → C g') → wp_X3_arrival (fun b g2 => endK C k b g2) p1 g1) → Q k g1) : wp_L_arrival Q p1 g := by
  have hs : g.1 0 3 = sm := hJ.2.1.2.2.2.2.1.1
  have hs' : g.1 4 5 = sm := hJ.2.2.2.2.2.2.1.1
  have htk : g.2.2.1 < 514 := by have := hJ.2.1.2.2.2.2.1.2.1; omega
  unfold wp_L_arrival wp_X2_arrival
  rcases pk_ix p1 (n := 7) (by decide) with h | h | ⟨j, hj, rfl⟩
  · refine ⟨fun _ => Or.inl ⟨rfl, hQ _ _ (fun C hC => ?_)⟩, fun c => absurd h c⟩
    unfold wp_X3_arrival
    refine ⟨fun _ g2 e2 => ?_, fun c => absurd h c⟩
    subst e2
    exact bad (by decide) hJ hC
  · have h7 : ¬ p1 ≤ 6 := fun c => absurd (Int32.le_trans h c) (by decide)
    have h0 : ¬ p1 < 0 := fun c => absurd (Int32.le_of_lt (Int32.lt_of_le_of_lt h c)) (by decide)
    refine ⟨fun c => absurd c h0, fun _ => ⟨fun c => absurd c h7, fun _ => Or.inl ⟨rfl, hQ _ _ (fun C hC => ?_)⟩⟩⟩
    unfold wp_X3_arrival
    refine ⟨fun c => absurd c h0, fun _ => ⟨fun c => absurd c h7, fun _ g2 e2 => ?_⟩⟩
    subst e2
    exact bad (by decide) hJ hC
  · have h7 : nI j ≤ 6 := nI_le (b := 6) (by omega) (by decide)
    have h0 : ¬ nI j < 0 := nI_pos (by omega)
    refine ⟨fun c => absurd c h0, fun _ => ⟨fun _ => ⟨fun hsm => ?_, fun hsm => Or.inr ⟨rfl, hQ _ _ (fun C hC => ?_)⟩⟩, fun c => absurd h7 c⟩⟩
    · have key : vp_in (0 : Int32) 1 ∧ ∀ g4 : gS, g4 = gj g 18 ((0 : Int32).toNatClampNeg) (g.1 (31 + j) g.2.2.1).toInt64 → Q 0 g4 := by
        refine ⟨vin01, fun g4 e4 => ?_⟩
        subst e4
        refine hQ _ _ (fun C hC => ?_)
        unfold wp_X3_arrival
        refine ⟨fun c => absurd c h0, fun _ => ⟨fun _ => ⟨fun _ g7 e7 => ?_, fun c => absurd ?_ hsm⟩, fun c => absurd h7 c⟩⟩
        · subst e7
          refine code_good ⟨vin (by omega) (by decide), good hJ hC cl0 ?_⟩
          rw [hs] at hsm
          have e1 := (hJ.2.1.2.2.2.2.1.2.2 hsm).2.1 j hj
          have e2 := (hJ.2.2.2.2.2.2.1.2 hsm).1 j hj
          rw [nI_clamp (by omega), e1, ← e2]
          simp [gi, gj, gu]
        · rw [hs, ← hs']
          exact c
      rw [nI_toInt (by omega)]
      refine ⟨fun h => ⟨htk, ?_⟩, fun h => ⟨htk, ?_⟩, fun h => ⟨htk, ?_⟩, fun h => ⟨htk, ?_⟩, fun h => ⟨htk, ?_⟩, fun h => ⟨htk, ?_⟩, fun h => ⟨htk, ?_⟩⟩
      · obtain rfl : j = 6 := by omega
        exact key
      · obtain rfl : j = 0 := by omega
        exact key
      · obtain rfl : j = 1 := by omega
        exact key
      · obtain rfl : j = 2 := by omega
        exact key
      · obtain rfl : j = 3 := by omega
        exact key
      · obtain rfl : j = 4 := by omega
        exact key
      · obtain rfl : j = 5 := by omega
        exact key
    · unfold wp_X3_arrival
      refine ⟨fun c => absurd c h0, fun _ => ⟨fun _ => ⟨fun c => absurd ?_ c, fun _ g7 e7 => ?_⟩, fun c => absurd h7 c⟩⟩
      · rw [hs', ← hs]
        exact hsm
      · subst e7
        exact bad (by decide) hJ hC
/-- a place of the ring that isn't past its end -/
theorem ringp {a b : Nat} (h : a + b < 4096) : (nI a + nI b) &&& 4095 = nI (a + b) := by
  rw [nI_add, pk_andN (by omega) 12 (by decide), Nat.mod_eq_of_lt (by omega)]
theorem op_byteAt {t F n T : Nat} {lg dl up ct : Nat → Int32} {fl : Nat → List Nat} {pl : List Nat} {AL : List aQ} {sm : Int32} {K : aQ} {g : gS} {Q : Int32 → gS → Prop} {p1 : Int32} (ht : t < 512) (hJ : J t F n T lg dl up ct fl pl AL sm K g) (hQ : ∀ k g1, (∀ C : gS → Prop, (∀ g', Inv (t + 1) g' → C g') → wp_X3_byteAt (fun b g2 => endK C k b g2) p1 g1) → Q k g1) : wp_L_byteAt Q p1 g := by
  have hs : g.1 0 3 = sm := hJ.2.1.2.2.2.2.1.1
  have hs' : g.1 4 5 = sm := hJ.2.2.2.2.2.2.1.1
  have htk : g.2.2.1 < 514 := by have := hJ.2.1.2.2.2.2.1.2.1; omega
  have hF := hJ.1.2.2.2.2.2.1
  unfold wp_L_byteAt wp_X2_byteAt
  refine ⟨fun hsm => ?_, fun hsm => Or.inl ⟨rfl, hQ _ _ (fun C hC => ?_)⟩⟩
  · have hsm' : ¬ sm = 0 := by rw [← hs]; exact hsm
    have hsm4 : ¬ g.1 4 5 = 0 := by rw [hs']; exact hsm'
    obtain ⟨-, k2, S, z, z1, z2, z3, z4, z5⟩ := hJ.2.1.2.2.2.2.1.2.2 hsm'
    obtain ⟨m1, m2⟩ := hJ.2.2.2.2.2.2.1.2 hsm'
    have c37 : g.1 37 g.2.2.1 = nI z := (k2 6 (by decide)).trans z1
    have m6 : g.1 15 (6 : Int32).toNatClampNeg = nI z := (m1 6 (by decide)).trans z1
    rcases pk_ix p1 (n := z) (by omega) with h | h | ⟨j, hj, rfl⟩
    · refine ⟨fun _ => Or.inr ⟨rfl, hQ _ _ (fun C hC => ?_)⟩, fun c => absurd h c⟩
      unfold wp_X3_byteAt
      refine ⟨fun _ => ⟨fun _ g3 e3 => ?_, fun c => absurd h c⟩, fun c => absurd c hsm4⟩
      subst e3
      exact bad (by decide) hJ hC
    · have h0 : ¬ p1 < 0 := fun c => absurd (Int32.lt_of_le_of_lt h c) (nI_pos (by omega))
      have h1 : ¬ p1 < nI z := Int32.not_lt.mpr h
      refine ⟨fun c => absurd c h0, fun _ => ⟨htk, fun c => absurd (by rw [← c37]; exact c) h1, fun _ => Or.inr ⟨rfl, hQ _ _ (fun C hC => ?_)⟩⟩⟩
      unfold wp_X3_byteAt
      refine ⟨fun _ => ⟨fun c => absurd c h0, fun _ => ⟨by unfold vp_in; decide, fun c => absurd (by rw [← m6]; exact c) h1, fun _ g3 e3 => ?_⟩⟩, fun c => absurd c hsm4⟩
      subst e3
      exact bad (by decide) hJ hC
    · have h0 : ¬ nI j < 0 := nI_pos (by omega)
      have h1 : nI j < nI z := nI_lt hj (by omega)
      refine ⟨fun c => absurd c h0, fun _ => ⟨htk, fun _ => ⟨htk, ?_⟩, fun c => absurd (by rw [c37]; exact h1) c⟩⟩
      unfold wp_X2_ringPlace
      rw [z4, ringp (by omega)]
      refine ⟨vin (by omega) (by decide), vin01, fun g4 e4 => ?_⟩
      subst e4
      refine hQ _ _ (fun C hC => ?_)
      unfold wp_X3_byteAt
      refine ⟨fun _ => ⟨fun c => absurd c h0, fun _ => ⟨by unfold vp_in; decide, fun _ g8 e8 => ?_, fun c => absurd ?_ c⟩⟩, fun c => absurd c hsm4⟩
      · subst e8
        refine code_good ⟨vin (by omega) (by decide), good hJ hC cl0 ?_⟩
        rw [nI_clamp (by omega), nI_clamp (by omega), z5 j hj, ← m2 z z1 z2 j hj]
        simp [gi, gj, gu]
      · show nI j < g.1 15 (6 : Int32).toNatClampNeg
        rw [m6]
        exact h1
  · unfold wp_X3_byteAt
    refine ⟨fun c => absurd ?_ c, fun _ g3 e3 => ?_⟩
    · rw [hs', ← hs]
      exact hsm
    · subst e3
      exact bad (by decide) hJ hC

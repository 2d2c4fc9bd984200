
/-! the start -/
def g0 : gS := (fun _ _ => 0, fun i => i, 512, fun _ _ => 0)
abbrev mD : List Value := [.int 0, .int 0, .int 0, .null, .null, .null, .null, .null, .null, .int 0, .null, .int 0, .null, .null, .null, .null, .int 0, .null, .null]
abbrev mF (u : Nat × Nat × Nat × Nat × Nat × Nat × Nat × Nat × Nat × Nat × Nat × Nat × Nat) : List Value := [.int 0, .int 0, .int 0, .ref (u.1), .ref (u.2.1), .ref (u.2.2.1), .ref (u.2.2.2.1), .ref (u.2.2.2.2.1), .ref (u.2.2.2.2.2.1), .int 0, .ref (u.2.2.2.2.2.2.1), .int 0, .ref (u.2.2.2.2.2.2.2.1), .ref (u.2.2.2.2.2.2.2.2.1), .ref (u.2.2.2.2.2.2.2.2.2.1), .ref (u.2.2.2.2.2.2.2.2.2.2.1), .int 0, .ref (u.2.2.2.2.2.2.2.2.2.2.2.1), .ref (u.2.2.2.2.2.2.2.2.2.2.2.2)]
abbrev mA (K : Nat → ClassId) (u : Nat × Nat × Nat × Nat × Nat × Nat × Nat × Nat × Nat × Nat × Nat × Nat × Nat) : va_W := [(u.1, .inl (K 3, 24, .inl (fun _ => 0))), (u.2.1, .inl (K 3, 24, .inl (fun _ => 0))), (u.2.2.1, .inl (K 4, 24, .inl (fun _ => 0))), (u.2.2.2.1, .inl (K 3, 24, .inl (fun _ => 0))), (u.2.2.2.2.1, .inl (K 3, 1536, .inl (fun _ => 0))), (u.2.2.2.2.2.1, .inl (K 3, 24, .inl (fun _ => 0))), (u.2.2.2.2.2.2.1, .inl (K 3, 1480, .inl (fun _ => 0))), (u.2.2.2.2.2.2.2.1, .inl (K 3, 512, .inl (fun _ => 0))), (u.2.2.2.2.2.2.2.2.1, .inl (K 4, 512, .inl (fun _ => 0))), (u.2.2.2.2.2.2.2.2.2.1, .inl (K 3, 4096, .inl (fun _ => 0))), (u.2.2.2.2.2.2.2.2.2.2.1, .inl (K 5, 94720, .inr (.inl (fun _ => 0)))), (u.2.2.2.2.2.2.2.2.2.2.2.1, .inl (K 3, 7, .inl (fun _ => 0))), (u.2.2.2.2.2.2.2.2.2.2.2.2, .inl (K 3, 1480, .inl (fun _ => 0)))]
def amF (u : Nat × Nat × Nat × Nat × Nat × Nat × Nat × Nat × Nat × Nat × Nat × Nat × Nat) (k : Nat) : Nat := match k with
  | 5 => u.1
  | 6 => u.2.1
  | 7 => u.2.2.1
  | 8 => u.2.2.2.1
  | 9 => u.2.2.2.2.1
  | 10 => u.2.2.2.2.2.1
  | 11 => u.2.2.2.2.2.2.1
  | 12 => u.2.2.2.2.2.2.2.1
  | 13 => u.2.2.2.2.2.2.2.2.1
  | 14 => u.2.2.2.2.2.2.2.2.2.1
  | 15 => u.2.2.2.2.2.2.2.2.2.2.2.1
  | 16 => u.2.2.2.2.2.2.2.2.2.2.2.2
  | 17 => u.2.2.2.2.2.2.2.2.2.2.1
  | _ => 0
def adF (h0 q1 q2 q3 q4 q5 : Nat) (nt sc ar : Nat → Nat) (hm : Nat) (u : Nat × Nat × Nat × Nat × Nat × Nat × Nat × Nat × Nat × Nat × Nat × Nat × Nat) (o : Nat) : Nat → Nat := fun k =>
  if k = 1512 then q4 else if k = 1513 then q5 else if 1000 ≤ k then ar (k - 1000) else if 200 ≤ k then sc (k - 200) else if 100 ≤ k then nt (k - 100) else if k = 0 then h0 else if k = 1 then q1 else if k = 2 then q2 else if k = 3 then q3 else if k = 4 then hm else if k = 18 then o else amF u k
section GST
variable {K : Nat → ClassId} {h0 q1 q2 q3 q4 q5 hm o : Nat} {nt sc ar : Nat → Nat} {u : Nat × Nat × Nat × Nat × Nat × Nat × Nat × Nat × Nat × Nat × Nat × Nat × Nat}
theorem adF_N {j : Nat} (h : j < 24) : adF h0 q1 q2 q3 q4 q5 nt sc ar hm u o (100 + j) = nt j := by
  unfold adF
  rw [if_neg (by omega), if_neg (by omega), if_neg (by omega), if_neg (by omega), if_pos (by omega), Nat.add_sub_cancel_left]
theorem adF_S {j : Nat} (h : j < 24) : adF h0 q1 q2 q3 q4 q5 nt sc ar hm u o (200 + j) = sc j := by
  unfold adF
  rw [if_neg (by omega), if_neg (by omega), if_neg (by omega), if_pos (by omega), Nat.add_sub_cancel_left]
theorem adF_A {j : Nat} (h : j < 512) : adF h0 q1 q2 q3 q4 q5 nt sc ar hm u o (1000 + j) = ar j := by
  unfold adF
  rw [if_neg (by omega), if_neg (by omega), if_pos (by omega), Nat.add_sub_cancel_left]
theorem gw_P : ∀ i : Nat, i ≤ 24 → (ixP i).map (fun k => (adF h0 q1 q2 q3 q4 q5 nt sc ar hm u o k, gcont K (adF h0 q1 q2 q3 q4 q5 nt sc ar hm u o) g0 k)) = cP K nt sc i
  | 0, _ => rfl
  | i + 1, h => by
    unfold ixP cP
    rw [List.map_append, gw_P i (by omega)]
    congr 1
    simp only [List.map_cons, List.map_nil]
    rw [adF_N (by omega), adF_S (by omega), gc_N (by omega), gc_S (by omega)]
    simp only [gfN, adF_S (show i < 24 by omega), g0]
theorem gw_Q : ∀ i : Nat, i ≤ 512 → (ixQ i).map (fun k => (adF h0 q1 q2 q3 q4 q5 nt sc ar hm u o k, gcont K (adF h0 q1 q2 q3 q4 q5 nt sc ar hm u o) g0 k)) = cQ ar i
  | 0, _ => rfl
  | i + 1, h => by
    unfold ixQ cQ
    rw [List.map_append, gw_Q i (by omega)]
    congr 1
    simp only [List.map_cons, List.map_nil]
    rw [adF_A (by omega), gc_A]
    rfl
theorem gw_1 : gcont K (adF h0 q1 q2 q3 q4 q5 nt sc ar hm u o) g0 1 = .inl (K 1, 24, .inr (.inr (.inr (.inr (cRf nt 24))))) := by
  rw [gc_lo (by decide)]
  simp only [gc0]
  congr 7
  funext i
  by_cases h : i < 24
  · simp only [if_pos h, adF_N h]
  · simp only [if_neg h]
theorem gw_2 : gcont K (adF h0 q1 q2 q3 q4 q5 nt sc ar hm u o) g0 2 = .inl (K 2, 512, .inr (.inr (.inr (.inr (cRf ar 512))))) := by
  rw [gc_lo (by decide)]
  simp only [gc0]
  congr 7
  funext i
  by_cases h : i < 512
  · simp only [if_pos h, g0, adF_A h]
  · simp only [if_neg h]
theorem gw_6 : ([0, 1, 2, 1512, 1513, 3] : List Nat).map (fun k => (adF h0 q1 q2 q3 q4 q5 nt sc ar hm u o k, gcont K (adF h0 q1 q2 q3 q4 q5 nt sc ar hm u o) g0 k)) = cW K h0 q1 q2 q3 q4 q5 nt ar 24 512 := by
  simp only [List.map_cons, List.map_nil]
  rw [gw_1, gw_2, gc_W, gc_3]
  rfl
theorem gw_m : ([4] ++ ([5, 6, 7, 8, 9, 10, 11, 12, 13, 14, 17, 15, 16] ++ [18]) : List Nat).map (fun k => (adF h0 q1 q2 q3 q4 q5 nt sc ar hm u o k, gcont K (adF h0 q1 q2 q3 q4 q5 nt sc ar hm u o) g0 k)) = [(hm, .inr (3, mF u))] ++ (mA K u ++ [(o, .inl (K 5, 1, .inr (.inl (fun _ => 0))))]) := by
  rfl
theorem gw_start : gw K (adF h0 q1 q2 q3 q4 q5 nt sc ar hm u o) g0 = (cW K h0 q1 q2 q3 q4 q5 nt ar 24 512 ++ (cP K nt sc 24 ++ cQ ar 512)) ++ ([(hm, .inr (3, mF u))] ++ (mA K u ++ [(o, .inl (K 5, 1, .inr (.inl (fun _ => 0))))])) := by
  unfold gw gix
  rw [List.map_append, List.map_append, List.map_append, gw_6, gw_P 24 (by decide), gw_Q 512 (by decide), gw_m]
  simp only [List.append_assoc]
end GST
theorem arr_prim {args : Array Value} {s : State} {ty : FieldType} (hty : ∀ C, ty ≠ .object C) (h : (Cond.arrayClass ty).before args s = true) : ∃ cA : ClassId, ArrOfT s cA ty ∧ va_RA s cA ty := by
  obtain ⟨c, k, comp, h1, h2, h3⟩ := Cond.arrayClass_spec h
  refine ⟨c, fun n z => ⟨fun k h => (by cases h), k, h2, comp, h3⟩, ?_⟩
  cases ty with
  | object C => exact absurd rfl (hty C)
  | _ => exact h1
theorem arr_obj {args : Array Value} {s : State} {C : String} (h : (Cond.arrayOver (.object C)).before args s = true) : ∃ cA : ClassId, ArrOfT s cA (.object C) ∧ va_RA s cA (.object C) := by
  obtain ⟨comp, c, k, h1, h2, h3, h4, h5⟩ := Cond.arrayOver_spec h
  exact ⟨c, fun n z => ⟨fun k h => (by cases h), k, h3, comp, h4⟩, k, comp, h3, h4, h1, h5⟩
set_option maxRecDepth 20000 in
theorem mem_nF : ∀ q ∈ gnF, Cond.fieldLinkNest q.1 q.2.1 q.2.2.1 q.2.2.2.1 q.2.2.2.2.1 q.2.2.2.2.2 ∈ lw_tbl := by decide +kernel
set_option maxRecDepth 20000 in
theorem mem_nM : ∀ q ∈ gnM, Cond.methodLinkNest q.1 q.2.1 q.2.2.1 q.2.2.2 ∈ lw_tbl := by decide +kernel
set_option maxRecDepth 20000 in
theorem mem_str : ∀ q ∈ gstr, Cond.stringRef q.1 q.2.1 q.2.2 ∈ lw_tbl := by decide +kernel
set_option maxRecDepth 20000 in
theorem mem_cst : ∀ q ∈ gcst, Cond.castable q.1 q.2 ∈ lw_tbl := by decide +kernel
set_option maxRecDepth 20000 in
theorem mem_dcl : ∀ y ∈ gdcl, Cond.declares y ∈ lw_tbl := by decide +kernel
set_option maxRecDepth 20000 in
theorem mem_strX : ∀ q ∈ gstr, Cond.exactly (.string q.1 q.2.1) "java/lang/String" ∈ flatC (Jvm.Cond.and given_1 narrow_1) := by decide +kernel
theorem mem_strO : ∀ q ∈ gstr, q.1 = "WireBench" := by decide +kernel
set_option maxRecDepth 20000 in
theorem mem_nca : ∀ q ∈ gnca, Cond.not (.castable q.1 q.2) ∈ flatC (Jvm.Cond.and given_1 narrow_1) := by decide +kernel
/-- what the Statement gives at the law's entry -/
theorem start_E {s : State} {b : Nat} (hts : ∀ w ∈ lw_tbl, w.before #[Value.ref b] s = true) (hgv : (Jvm.Cond.and given_1 narrow_1).before #[Value.ref b] s = true) : ∃ (D : va_G) (K : Nat → ClassId) (sa : Nat → Nat), gE D K sa (fun q : Nat => s.heap.size ≤ q) s s.heap ∧ gE0 D K s := by
  have hs := flat_of_before _ hgv
  have hA : ∀ a : Nat, a < s.heap.size → ¬ (fun q : Nat => s.heap.size ≤ q) a := fun a h => Nat.not_le.mpr h
  have hq : ∀ w ∈ gW, w.before #[Value.ref b] s = true := fun w h => hts w (gW_in h)
  obtain ⟨c0, iS0, hKn0⟩ := u_known (C := RX0) (T := TX0) (N := 9) (n := 9) hq hin_X0 (hq _ q_43)
  obtain ⟨c1, iS1, hKn1⟩ := u_known (C := RX1) (T := TX1) (N := 7) (n := 7) hq hin_X1 (hq _ q_85)
  obtain ⟨c2, iS2, hKn2⟩ := u_known (C := RX2) (T := TX2) (N := 11) (n := 11) hq hin_X2 (hq _ q_32)
  obtain ⟨c3, iS3, hKn3⟩ := u_known (C := RX3) (T := TX3) (N := 19) (n := 19) hq hin_X3 (hq _ q_407)
  have aN : va_AO "WireBench$Net" s := va_AO.of (hts (Cond.arrayOver (.object "WireBench$Net")) (by decide +kernel))
  have aA : va_AO "WireBench$Arrival" s := va_AO.of (hts (Cond.arrayOver (.object "WireBench$Arrival")) (by decide +kernel))
  obtain ⟨k0, k0a, k0b⟩ := arr_prim (ty := .byte) (fun C h => by cases h) (hq _ q_117)
  obtain ⟨k1, k1a, k1b⟩ := arr_obj (args := #[]) aN
  obtain ⟨k2, k2a, k2b⟩ := arr_obj (args := #[]) aA
  obtain ⟨k3, k3a, k3b⟩ := arr_prim (ty := .int) (fun C h => by cases h) (hq _ q_471)
  obtain ⟨k4, k4a, k4b⟩ := arr_prim (ty := .boolean) (fun C h => by cases h) (hq _ q_472)
  obtain ⟨k5, k5a, k5b⟩ := arr_prim (ty := .long) (fun C h => by cases h) (hq _ q_473)
  obtain ⟨K, e0, e1, e2, e3, e4, e5⟩ : ∃ K : Nat → ClassId, K 0 = k0 ∧ K 1 = k1 ∧ K 2 = k2 ∧ K 3 = k3 ∧ K 4 = k4 ∧ K 5 = k5 := ⟨fun k => if k = 0 then k0 else if k = 1 then k1 else if k = 2 then k2 else if k = 3 then k3 else if k = 4 then k4 else k5, rfl, rfl, rfl, rfl, rfl, rfl⟩
  obtain ⟨D, hKc⟩ : ∃ (D : va_G), ∀ (k : Nat) (q : vw_C), vwCl[k]? = some q → u_Kn s q.1 q.2.1 q.2.2 (D.1 k) (D.2 k) := by
    refine ⟨(fun k => if k = 0 then c0 else if k = 1 then c1 else if k = 2 then c2 else c3, fun k => if k = 0 then iS0 else if k = 1 then iS1 else if k = 2 then iS2 else iS3), ?_⟩
    intro k q hq
    match k, hq with
    | 0, hq => cases hq; exact hKn0
    | 1, hq => cases hq; exact hKn1
    | 2, hq => cases hq; exact hKn2
    | 3, hq => cases hq; exact hKn3
    | k + 4, hq => simp [vwCl] at hq
  have hK : va_K D vwCl (gtys K) s := by
    refine ⟨hKc, fun k q hk => ?_⟩
    match k, hk with
    | 0, hk => cases hk; rw [e0]; exact ⟨k0a, k0b⟩
    | 1, hk => cases hk; rw [e1]; exact ⟨k1a, k1b⟩
    | 2, hk => cases hk; rw [e2]; exact ⟨k2a, k2b⟩
    | 3, hk => cases hk; rw [e3]; exact ⟨k3a, k3b⟩
    | 4, hk => cases hk; rw [e4]; exact ⟨k4a, k4b⟩
    | 5, hk => cases hk; rw [e5]; exact ⟨k5a, k5b⟩
    | k + 6, hk => simp [gtys] at hk
  have hstr : ∀ q ∈ gstr, ∃ a : Nat, (Term.string "WireBench" q.2.1).eval #[Value.ref b] s none [] s = some (.ref a) := by
    intro q hq2
    have h := hs _ (mem_strX q hq2)
    rw [mem_strO q hq2] at h
    obtain ⟨a2, c, cA, kA, p1, -⟩ := Cond.exactly_spec (args := #[Value.ref b]) (first := s) (o := none) (s := s) (idx := []) h
    exact ⟨a2, p1⟩
  obtain ⟨sa, hsa⟩ : ∃ sa : Nat → Nat, ∀ k : Nat, (∃ a : Nat, (Term.string "WireBench" k).eval #[Value.ref b] s none [] s = some (.ref a)) → (Term.string "WireBench" k).eval #[Value.ref b] s none [] s = some (.ref (sa k)) := by
    have h : ∀ k : Nat, ∃ z : Nat, (∃ a : Nat, (Term.string "WireBench" k).eval #[Value.ref b] s none [] s = some (.ref a)) → (Term.string "WireBench" k).eval #[Value.ref b] s none [] s = some (.ref z) := by
      intro k
      by_cases hk : ∃ a : Nat, (Term.string "WireBench" k).eval #[Value.ref b] s none [] s = some (.ref a)
      · obtain ⟨a, ha⟩ := hk
        exact ⟨a, fun _ => ha⟩
      · exact ⟨0, fun h => absurd h hk⟩
    exact ⟨fun k => Classical.choose (h k), fun k hk => Classical.choose_spec (h k) hk⟩
  have hnM : ∀ q ∈ gnM, va_Nw (.methodLinkNest q.1 q.2.1 q.2.2.1 q.2.2.2) s := fun q hq2 => va_Nw.of rfl (hts _ (mem_nM q hq2))
  refine ⟨D, K, sa, ⟨hK, fun q hq2 => va_Nw.of rfl (hts _ (mem_nF q hq2)), hnM, fun q hq2 => ?_, fun q hq2 => va_Nw.of rfl (hts _ (mem_cst q hq2)), fun y hy => va_Nw.of rfl (hts _ (mem_dcl y hy)), fun q hq2 => va_Nc.of (hs _ (mem_nca q hq2)), ?_, ?_⟩, ⟨hK, hnM, aN, aA⟩⟩
  · have e := mem_strO q hq2
    have h1 := hts _ (mem_str q hq2)
    have h2 := hsa q.2.1 (hstr q hq2)
    rw [← e] at h2
    exact vk_R.of h1 h2
  · exact vx_Zqof (hts (Cond.laysStatic Bundle.tN "UNASSIGNED_STACK" Bundle.steD) (by decide +kernel)) (hts (Cond.initialized Bundle.tN) (by decide +kernel)) (hs (Cond.isRef (.static Bundle.tN "UNASSIGNED_STACK" Bundle.steD)) (by decide +kernel)) hA
  · exact vx_Zqof (hts (Cond.laysStatic Bundle.tN "SUPPRESSED_SENTINEL" Bundle.listD) (by decide +kernel)) (hts (Cond.initialized Bundle.tN) (by decide +kernel)) (hs (Cond.isRef (.static Bundle.tN "SUPPRESSED_SENTINEL" Bundle.listD)) (by decide +kernel)) hA
set_option maxHeartbeats 4000000 in
set_option maxRecDepth 100000 in
/-- THE LAW, from its entry, given that its loop's wp holds of the start -/
theorem start_open {p : Program} {e : Env} {s : State} {m : MethodId} {below : List Frame} {meth : Method} {c : Code} (l : Launch) (hl9 : l.stackTraces = false) {b L : Nat} {xs : Nat → Int32} (hw : wpl_L_law L xs 513 0 g0) (C0 : lw_At p s m meth c b L xs) : W p l e room_1 s m #[Value.ref b] below meth c s.heap [] 0 0 (lw_Z below #[Value.ref b] s) (entryFrame m ([Value.ref b] : List Value).toArray 7) := by
  obtain ⟨hx, hb, hr, hml, hown, hts, hX, hbl, hlocks, hgv⟩ := id C0
  have hA : ∀ q : Nat, s.heap.size ≤ q → (fun q : Nat => s.heap.size ≤ q) q := fun _ h => h
  have hq : ∀ w ∈ gW, w.before #[Value.ref b] s = true := fun w h => hts w (gW_in h)
  obtain ⟨D, K, sa, hE, hE0⟩ := start_E hts hgv
  have hK := hE.1
  have hS : va_S (fun q : Nat => s.heap.size ≤ q) s.heap s.heap [] := va_S.rf
  have hP : va_P D vwCl [] s.heap := fun k q h => by simp at h
  have hD : va_D (fun q : Nat => s.heap.size ≤ q) [] := ⟨fun i j p q h => by simp at h, fun k q h => by simp at h⟩
  have hl := lv_entry ([.ref b]) (n := 7) (Nat.le_of_ble_eq_true rfl)
  rw [lg_entry_eq]
  generalize (lg_sl ([.ref b]) ++ List.replicate (7 - (lg_sl ([.ref b])).length) Slot.unset).toArray = ls at hl ⊢
  have hl : lv_has ls 7 [(0, .ref b)] := hl
  refine va_new (ci := 2) (fs := [.null, .int 0, .int 0, .null, .int 0, .null, .int 0, .null, .null, .int 0, .int 0]) (C := RX2) (T := TX2) (N := 11) hx hb hq hin_X2 tyX2 tyX2_ok hown (hq _ q_31) (hq _ q_32) (hq _ q_20) hK hP hD hS hA rfl (fun j hj => by rcases (show j = 0 ∨ j = 1 ∨ j = 2 ∨ j = 3 ∨ j = 4 ∨ j = 5 ∨ j = 6 ∨ j = 7 ∨ j = 8 ∨ j = 9 ∨ j = 10 by omega) with rfl | rfl | rfl | rfl | rfl | rfl | rfl | rfl | rfl | rfl | rfl <;> rfl) (Nat.le_of_ble_eq_true rfl) (Nat.le_of_ble_eq_true rfl) dL_law_0 (fun h0 H hP hD hS => ?_)
  refine W.widen (k := 1) (n := 11) (by omega) (by omega) ?_
  refine lv_dup hx hb dL_law_3 rfl ?_
  have hFc := cFree hD hS hA
  refine va_callv (va_runI (As := []) (rest := [.ref h0]) ⟨hx, hb, hml, hown, hts⟩ (c_X2_init l D K h0 H.size) (cwI 0 hts (gGood (fun w h => gW_in h) (gCode q_35)) rfl rfl rfl (hq _ q_20) (hq _ q_33) (hq _ q_34) rfl (by decide +kernel) ⟨Nat.le_of_ble_eq_true rfl, Nat.le_of_ble_eq_true rfl⟩) ⟨fun a U g mk h => by
      obtain ⟨z0, z1, z2, z3, z4⟩ := h
      exact ⟨z0, z1, z2, z3.moved (U := U.calling g mk a) (State.WarmedH.refl U), z4⟩, fun U hU hW => ⟨rfl, by rw [hU], by rw [hU]; exact hP, hE0.moved hW, hD.weaken (fun _ _ _ _ => trivial)⟩⟩ rfl rfl hl.1 rfl (lv_room (Nat.le_of_ble_eq_true rfl)) dL_law_4 ⟨Nat.le_of_ble_eq_true rfl, Nat.le_of_ble_eq_true rfl⟩) hS (fun q _ h => hFc q h) hFc (fun u1 t H1 locs ht hvm hw1 hB hz1 hk1 hS => ?_)
  obtain ⟨⟨q1, q2, q3, q4, q5⟩, nt, sc, ar⟩ := u1
  obtain ⟨hP, hD2⟩ := hB
  rw [ht] at hP
  have hD := hD2.weaken (B := fun q : Nat => s.heap.size ≤ q) (fun _ _ _ h => hFc _ h)
  generalize H1 = H at hP hS ⊢
  obtain ⟨ws, ews⟩ : ∃ z, z = cW K h0 q1 q2 q3 q4 q5 nt ar 24 512 ++ (cP K nt sc 24 ++ cQ ar 512) := ⟨_, rfl⟩
  have hP : va_P D vwCl ws H := by rw [ews]; exact hP
  have hD : va_D (fun q : Nat => s.heap.size ≤ q) ws := by rw [ews]; exact hD
  refine W.widen (k := 566) (n := 10973) (by omega) (by omega) ?_
  refine lv_astore_n (lv' := [(1, .ref h0), (0, .ref b)]) hx hb dL_law_7 rfl hl (by decide) rfl (fun ls hl => ?_)
  refine va_new (ci := 3) (fs := mD) (C := RX3) (T := TX3) (N := 19) hx hb hq hin_X3 tyX3 tyX3_ok hown (hq _ q_406) (hq _ q_407) (hq _ q_23) hK hP hD hS hA rfl (fun j hj => by rcases (show j = 0 ∨ j = 1 ∨ j = 2 ∨ j = 3 ∨ j = 4 ∨ j = 5 ∨ j = 6 ∨ j = 7 ∨ j = 8 ∨ j = 9 ∨ j = 10 ∨ j = 11 ∨ j = 12 ∨ j = 13 ∨ j = 14 ∨ j = 15 ∨ j = 16 ∨ j = 17 ∨ j = 18 by omega) with rfl | rfl | rfl | rfl | rfl | rfl | rfl | rfl | rfl | rfl | rfl | rfl | rfl | rfl | rfl | rfl | rfl | rfl | rfl <;> rfl) (Nat.le_of_ble_eq_true rfl) (Nat.le_of_ble_eq_true rfl) dL_law_8 (fun hm H hP hD hS => ?_)
  refine W.widen (k := 567) (n := 10992) (by omega) (by omega) ?_
  refine lv_dup hx hb dL_law_11 rfl ?_
  have he : (ws ++ [(hm, (.inr (3, mD) : va_E))])[ws.length]? = some (hm, (.inr (3, mD) : va_E)) := List.getElem?_concat_length
  have hFc := cFree hD hS hA
  refine va_callv (va_runI (As := []) (rest := [.ref hm]) ⟨hx, hb, hml, hown, hts⟩ (c_X3_init l D K _ _ hm H.size he) (cwI 0 hts (gGood (fun w h => gW_in h) (gCode q_410)) rfl rfl rfl (hq _ q_23) (hq _ q_408) (hq _ q_409) rfl (by decide +kernel) ⟨Nat.le_of_ble_eq_true rfl, Nat.le_of_ble_eq_true rfl⟩) (cPre hK hP hD) rfl rfl hl.1 rfl (lv_room (Nat.le_of_ble_eq_true rfl)) dL_law_12 ⟨Nat.le_of_ble_eq_true rfl, Nat.le_of_ble_eq_true rfl⟩) hS (fun q _ h => hFc q h) hFc (fun u t H1 locs ht hvm hw1 hB hz1 hk1 hS => ?_)
  obtain ⟨hP, hD2⟩ := hB
  rw [ht] at hP
  have hD := hD2.weaken (B := fun q : Nat => s.heap.size ≤ q) (fun _ _ _ h => hFc _ h)
  generalize H1 = H at hP hS ⊢
  have e8 : (ws ++ [(hm, (.inr (3, mD) : va_E))]).set ws.length (hm, .inr (3, mF u)) ++ mA K u = ws ++ ([(hm, .inr (3, mF u))] ++ mA K u) := by
    rw [List.set_append_right _ _ (Nat.le_refl _), Nat.sub_self, List.append_assoc]
    rfl
  have hP : va_P D vwCl (ws ++ ([(hm, .inr (3, mF u))] ++ mA K u)) H := by rw [← e8]; exact hP
  have hD : va_D (fun q : Nat => s.heap.size ≤ q) (ws ++ ([(hm, .inr (3, mF u))] ++ mA K u)) := by rw [← e8]; exact hD
  refine W.widen (k := 580) (n := 115455) (by omega) (by omega) ?_
  refine lv_astore_n (lv' := [(2, .ref hm), (1, .ref h0), (0, .ref b)]) hx hb dL_law_15 rfl hl (by decide) rfl (fun ls hl => ?_)
  refine lv_iconst (v := 1) hx hb dL_law_16 (by decide) ?_
  refine va_newa (atype := .long) hx hb (hq _ q_473) (ty := .long) rfl hK hP hD hS hA (n := 1) (N' := 1) (a0 := (1, .inr (.inl (fun _ => 0)))) (fun cA => rfl) (by decide) (by decide) (by decide) (Nat.le_of_ble_eq_true rfl) (Nat.le_of_ble_eq_true rfl) dL_law_17 (fun o cA H hK7 hP hD hS => ?_)
  cases (gK_one (i := 6) (j := 5) hK7 rfl rfl : cA = K 5)
  refine W.widen (k := 581) (n := 115456) (by omega) (by omega) ?_
  have e9 : (ws ++ ([(hm, .inr (3, mF u))] ++ mA K u)) ++ [(o, .inl (K 5, 1, .inr (.inl (fun _ => 0))))] = gw K (adF h0 q1 q2 q3 q4 q5 nt sc ar hm u o) g0 := by
    rw [gw_start, ews, List.append_assoc, List.append_assoc [(hm, _)]]
  rw [e9] at hP hD
  refine lv_astore_n (lv' := [(3, .ref o), (2, .ref hm), (1, .ref h0), (0, .ref b)]) hx hb dL_law_19 rfl hl (by decide) rfl (fun ls hl => ?_)
  refine lv_iconst (v := 0) hx hb dL_law_20 (by decide) ?_
  refine lv_istore (lv' := [(4, .int 0), (3, .ref o), (2, .ref hm), (1, .ref h0), (0, .ref b)]) hx hb dL_law_21 hl (by decide) rfl (fun ls hl => ?_)
  exact L_law_loop (ad := adF h0 q1 q2 q3 q4 q5 nt sc ar hm u o) hl9 C0 hE 513 581 115456 (by omega) (by omega) 0 g0 hw _ _ _ ⟨hP, hD, hS⟩ (lv_sub hl [4, 3, 2, 1, 0] rfl)

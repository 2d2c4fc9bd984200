/-! the law -/
theorem inv0 : Inv 0 g0 := by
  refine ⟨0, 0, 0, fun _ => 0, fun _ => 0, fun _ => 0, fun _ => 0, fun _ => [], [], [], 0, (fun _ => 0, fun _ => 0, 0), ?_, ?_, ?_⟩
  · refine ⟨by omega, by omega, fun i hi => absurd hi (by omega), fun i _ => Or.inl rfl, fun i _ => ⟨Nat.zero_le _, fun b hb => absurd hb (by simp)⟩, by decide, by decide, fun b hb => absurd hb (by simp), by decide, fun q hq => absurd hq (by simp)⟩
  · refine ⟨⟨rfl, fun i _ => ⟨rfl, rfl, rfl, rfl⟩⟩, rfl, fun i _ => ⟨0, by omega, rfl, rfl, fun j b hj => absurd hj (by simp)⟩, ⟨rfl, rfl, fun j b hj => absurd hj (by simp)⟩, ⟨rfl, by show 512 < 513; omega, fun z => absurd rfl z⟩, ⟨rfl, fun k q hk => absurd hk (by simp [srt]), fun i hi => ⟨by show i < 513; omega, by show i ≠ 512; omega⟩, fun i j _ _ h => h⟩⟩
  · refine ⟨⟨rfl, fun i _ => ⟨rfl, rfl, rfl, rfl⟩⟩, rfl, fun i _ => ⟨rfl, fun j b hj => absurd hj (by simp)⟩, ⟨rfl, fun j b hj => absurd hj (by simp)⟩, ⟨rfl, fun z => absurd rfl z⟩, [], rfl, List.nodup_nil, rfl, fun p hp => absurd hp (by simp), fun k p hk => absurd hk (by simp), fun p _ => rfl, fun k p q hk => absurd hk (by simp)⟩
set_option maxHeartbeats 4000000 in
theorem law_all {L : Nat} {xs : Nat → Int32} (hL : L ≤ 2560) : ∀ (m t : Nat) (g : gS), t + m = 512 → Inv t g → wpl_L_law L xs (m + 1) (nI (5 * t)) g := by
  intro m
  induction m with
  | zero =>
    intro t g htm hI
    unfold wpl_L_law
    refine ⟨fun _ => trivial, fun hn => absurd ?_ hn⟩
    show nI L - 5 < nI (5 * t)
    by_cases h5 : L < 5
    · exact Int32.lt_of_lt_of_le (pk_sneg (b := 5) (by omega) h5) (nI_pos' (by omega))
    · rw [show nI L - 5 = nI (L - 5) from pk_sub (b := 5) (by omega)]
      exact nI_lt (by omega) (by omega)
  | succ m ih =>
    intro t g htm hI
    by_cases hlt : L < 5 * t + 5
    · unfold wpl_L_law
      refine ⟨fun _ => trivial, fun hn => absurd ?_ hn⟩
      show nI L - 5 < nI (5 * t)
      by_cases h5 : L < 5
      · exact Int32.lt_of_lt_of_le (pk_sneg (b := 5) (by omega) h5) (nI_pos' (by omega))
      · rw [show nI L - 5 = nI (L - 5) from pk_sub (b := 5) (by omega)]
        exact nI_lt (by omega) (by omega)
    have ht : t < 512 := by omega
    have hv0 : vp_in (nI (5 * t)) L := vin (by omega) (by omega)
    have hv1 : ∀ i : Int32, i = nI (5 * t) + 1 → vp_in i L := fun i e => by rw [e, show nI (5 * t) + 1 = nI (5 * t + 1) from nI_add _ 1]; exact vin (by omega) (by omega)
    have hv2 : ∀ i : Int32, i = nI (5 * t) + 2 → vp_in i L := fun i e => by rw [e, show nI (5 * t) + 2 = nI (5 * t + 2) from nI_add _ 2]; exact vin (by omega) (by omega)
    have hv3 : ∀ i : Int32, i = nI (5 * t) + 3 → vp_in i L := fun i e => by rw [e, show nI (5 * t) + 3 = nI (5 * t + 3) from nI_add _ 3]; exact vin (by omega) (by omega)
    have hv4 : ∀ i : Int32, i = nI (5 * t) + 4 → vp_in i L := fun i e => by rw [e, show nI (5 * t) + 4 = nI (5 * t + 4) from nI_add _ 4]; exact vin (by omega) (by omega)
    have hC : ∀ g' : gS, Inv (t + 1) g' → ∀ x : Int32, x = nI (5 * t) + 5 → wpl_L_law L xs (m + 1) x g' := fun g' hI' x e => by
      rw [e, show nI (5 * t) + 5 = nI (5 * (t + 1)) from nI_add _ 5]
      exact ih (t + 1) g' (by omega) hI'
    obtain ⟨F, n, T, lg, dl, up, ct, fl, pl, AL, sm, K, hJ⟩ := hI
    unfold wpl_L_law
    refine ⟨fun _ => trivial, fun _ => ⟨hv0, ?_, ?_, ?_, ?_, ?_, ?_, ?_, ?_, ?_, ?_, ?_, ?_, ?_⟩⟩
    · exact fun _ x e => hC g (J_inv (J_up (Nat.le_succ t) hJ)) x e
    · refine fun _ i5 e5 => ⟨hv1 i5 e5, fun i7 e7 => ⟨hv2 i7 e7, op_net hJ (fun k g1 hk i11 e11 => ⟨hv1 i11 e11, fun i13 e13 => ⟨hv2 i13 e13, ?_⟩⟩)⟩⟩
      rw [e11, e13, ← e5, ← e7]
      exact hk _ hC
    · refine fun _ i5 e5 => ⟨hv1 i5 e5, fun i7 e7 => ⟨hv2 i7 e7, fun hz => op_link (Or.inl rfl) hJ (fun k g1 hk i11 e11 => ⟨hv1 i11 e11, fun i13 e13 => ⟨hv2 i13 e13, ?_⟩⟩), fun hz => op_link (Or.inr rfl) hJ (fun k g1 hk i11 e11 => ⟨hv1 i11 e11, fun i13 e13 => ⟨hv2 i13 e13, ?_⟩⟩)⟩⟩
      · rw [e11, e13, ← e5, ← e7]
        exact ⟨fun _ => hk _ hC, fun c => absurd hz c⟩
      · rw [e11, e13, ← e5, ← e7]
        exact ⟨fun c => absurd c hz, fun _ => hk _ hC⟩
    · refine fun _ i5 e5 => ⟨hv1 i5 e5, fun i7 e7 => ⟨hv2 i7 e7, fun i9 e9 => ⟨hv3 i9 e9, fun i10 e10 => ⟨hv4 i10 e10, op_fates hJ (fun k g1 hk j1 d1 => ⟨hv1 j1 d1, fun j2 d2 => ⟨hv2 j2 d2, fun j3 d3 => ⟨hv3 j3 d3, fun j4 d4 => ⟨hv4 j4 d4, ?_⟩⟩⟩⟩)⟩⟩⟩⟩
      rw [d1, d2, d3, d4, ← e5, ← e7, ← e9, ← e10]
      exact hk _ hC
    · refine fun _ i5 e5 => ⟨hv1 i5 e5, fun i7 e7 => ⟨hv2 i7 e7, fun i9 e9 => ⟨hv3 i9 e9, op_feed ht hJ (fun k g1 hk j1 d1 => ⟨hv1 j1 d1, fun j2 d2 => ⟨hv2 j2 d2, fun j3 d3 => ⟨hv3 j3 d3, ?_⟩⟩⟩)⟩⟩⟩
      rw [d1, d2, d3, ← e5, ← e7, ← e9]
      exact hk _ hC
    · refine fun _ i5 e5 => ⟨hv1 i5 e5, fun i7 e7 => ⟨hv2 i7 e7, fun i9 e9 => ⟨hv3 i9 e9, fun i10 e10 => ⟨hv4 i10 e10, op_put ht hJ (fun k g1 hk j1 d1 => ⟨hv1 j1 d1, fun j2 d2 => ⟨hv2 j2 d2, fun j3 d3 => ⟨hv3 j3 d3, fun j4 d4 => ⟨hv4 j4 d4, ?_⟩⟩⟩⟩)⟩⟩⟩⟩
      rw [d1, d2, d3, d4, ← e5, ← e7, ← e9, ← e10]
      exact hk _ hC
    · refine fun _ i5 e5 => ⟨hv1 i5 e5, op_pass ht hJ (fun k g1 hk j1 d1 => ⟨hv1 j1 d1, ?_⟩)⟩
      rw [d1, ← e5]
      exact hk _ hC
    · exact fun _ => op_next ht hJ hC
    · refine fun _ i5 e5 => ⟨hv1 i5 e5, op_arrival hJ (fun k g1 hk j1 d1 => ⟨hv1 j1 d1, ?_⟩)⟩
      rw [d1, ← e5]
      exact hk _ hC
    · refine fun _ i5 e5 => ⟨hv1 i5 e5, op_byteAt ht hJ (fun k g1 hk j1 d1 => ⟨hv1 j1 d1, ?_⟩)⟩
      rw [d1, ← e5]
      exact hk _ hC
    · exact fun _ => op_underWay hJ hC
    · refine fun _ i5 e5 => ⟨hv1 i5 e5, op_fated hJ (fun k g1 hk j1 d1 => ⟨hv1 j1 d1, ?_⟩)⟩
      rw [d1, ← e5]
      exact hk _ hC
    · refine fun _ i5 e5 => ⟨hv1 i5 e5, op_puts hJ (fun k g1 hk j1 d1 => ⟨hv1 j1 d1, ?_⟩)⟩
      rw [d1, ← e5]
      exact hk _ hC
theorem law_0 {L : Nat} {xs : Nat → Int32} (hL : L ≤ 2560) : wpl_L_law L xs 513 0 g0 := law_all hL 512 0 g0 rfl inv0

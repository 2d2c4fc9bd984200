def wp_X3_thrown (post : Int32 → gS → Prop)  (g : gS) : Prop := post (g.1 4 0) g
set_option maxHeartbeats 4000000 in
set_option maxRecDepth 100000 in
theorem m_X3_thrown {l : Launch} (hl9 : l.stackTraces = false) (D : va_G) (K : Nat → ClassId) (sa ad : Nat → Nat) (sz : Nat) (post : Int32 → gS → Prop)  (g : gS) (hw : wp_X3_thrown post  g) : Met l yX3_thrown wsX3_thrown ({ frames := 0, cells := 0, slots := 0, locals := 0 } : Room) (gPc D K sa ad sz g [.ref (ad 4)]) (va_Qi post (gB D K ad (va_A (gw K ad g) sz)) (va_A (gw K ad g) sz)) 0 0 (va_A (gw K ad g) sz) := by
  refine Met.ofW (cc := cX3_thrown) (maxL := 1) (ret := (some .int)) (by decide) rfl ?_
  intro p e s m args below meth c s₁ B hml hv
  obtain ⟨rfl, hsz, hP, hE, hD0⟩ := hv
  have hx := B.exec
  have hb := B.bytes
  have hr := B.returns
  have hts := atoms_spec (ws := wsX3_thrown) B.pre
  have hq : ∀ w ∈ gW, w.before _ s = true := fun w h => hts w (List.mem_cons_of_mem _ h)
  have hown : s.vm.findClass RX3 = some m.cls := findClass_of_methodNamed B.named
  have hlocks := B.notSynchronized
  subst hsz
  have hD := hD0.self (sz := s.heap.size)
  generalize hAe : va_A (gw K ad g) s.heap.size = A at hD hE ⊢
  have hA : ∀ q : Nat, s.heap.size ≤ q → A q := fun q h => by rw [← hAe]; exact Or.inr h
  have hK := hE.1
  have hG : gX D K ad A s.heap g s.heap [] := ⟨hP, hD, va_S.rf⟩
  have hl := lv_entry ([.ref (ad 4)]) (n := 1) (Nat.le_of_ble_eq_true rfl)
  rw [lg_entry_eq]
  generalize (lg_sl ([.ref (ad 4)]) ++ List.replicate (1 - (lg_sl ([.ref (ad 4)])).length) Slot.unset).toArray = ls at hl ⊢
  have hl : lv_has ls 1 [(0, .ref (ad 4))] := hl
  dsimp only [wp_X3_thrown] at hw
  refine lv_aload_n hx hb dX3_thrown_0 rfl (lv_at hl 0 rfl) ?_
  refine g_get (own := RX3) (C := RX3) (T := TX3) (N := 19) (ci := 3) hx hb hq hin_X3 hown hK hG (k := 4) (gok_lo (by decide)) (gc_M) rfl 0 (by decide) (hq _ q_413) rfl (v := .int (g.1 4 0)) rfl dX3_thrown_1 ?_
  exact g_iret hx hb hr hlocks hw hG (by decide) (by decide) dX3_thrown_4

def wp_X3_isNet (post : Int32 → gS → Prop) (p1 : Int32) (g : gS) : Prop := ((p1 < 0) → (post 0 g)) ∧ ((¬ p1 < 0) → ((((g.1 4 2) ≤ p1) → (post 0 g)) ∧ ((¬ (g.1 4 2) ≤ p1) → (post 1 g))))
set_option maxHeartbeats 4000000 in
set_option maxRecDepth 100000 in
theorem m_X3_isNet {l : Launch} (hl9 : l.stackTraces = false) (D : va_G) (K : Nat → ClassId) (sa ad : Nat → Nat) (sz : Nat) (post : Int32 → gS → Prop) (p1 : Int32) (g : gS) (hw : wp_X3_isNet post p1 g) : Met l yX3_isNet wsX3_isNet ({ frames := 0, cells := 0, slots := 0, locals := 0 } : Room) (gPc D K sa ad sz g [.ref (ad 4), .int p1]) (va_Qi post (gB D K ad (va_A (gw K ad g) sz)) (va_A (gw K ad g) sz)) 0 0 (va_A (gw K ad g) sz) := by
  refine Met.ofW (cc := cX3_isNet) (maxL := 2) (ret := (some .boolean)) (by decide) rfl ?_
  intro p e s m args below meth c s₁ B hml hv
  obtain ⟨rfl, hsz, hP, hE, hD0⟩ := hv
  have hx := B.exec
  have hb := B.bytes
  have hr := B.returns
  have hts := atoms_spec (ws := wsX3_isNet) B.pre
  have hq : ∀ w ∈ gW, w.before _ s = true := fun w h => hts w (List.mem_cons_of_mem _ h)
  have hown : s.vm.findClass RX3 = some m.cls := findClass_of_methodNamed B.named
  have hlocks := B.notSynchronized
  subst hsz
  have hD := hD0.self (sz := s.heap.size)
  generalize hAe : va_A (gw K ad g) s.heap.size = A at hD hE ⊢
  have hA : ∀ q : Nat, s.heap.size ≤ q → A q := fun q h => by rw [← hAe]; exact Or.inr h
  have hK := hE.1
  have hG : gX D K ad A s.heap g s.heap [] := ⟨hP, hD, va_S.rf⟩
  have hl := lv_entry ([.ref (ad 4), .int p1]) (n := 2) (Nat.le_of_ble_eq_true rfl)
  rw [lg_entry_eq]
  generalize (lg_sl ([.ref (ad 4), .int p1]) ++ List.replicate (2 - (lg_sl ([.ref (ad 4), .int p1])).length) Slot.unset).toArray = ls at hl ⊢
  have hl : lv_has ls 2 [(0, .ref (ad 4)), (1, .int p1)] := hl
  dsimp only [wp_X3_isNet] at hw
  refine lv_iload_n hx hb dX3_isNet_0 rfl (lv_at hl 1 rfl) ?_
  refine lv_if_lt (tgt := 16) hx hb dX3_isNet_1 (by decide) (fun c_1 => ?_) (fun c_1 => ?_)
  · have hw := hw.1 c_1
    refine lv_iconst (v := 0) hx hb dX3_isNet_16 (by decide) ?_
    exact g_zret hx hb hr (by decide) hlocks hw hG (by decide) (by decide) dX3_isNet_17
  · have hw := hw.2 c_1
    refine lv_iload_n hx hb dX3_isNet_4 rfl (lv_at hl 1 rfl) ?_
    refine lv_aload_n hx hb dX3_isNet_5 rfl (lv_at hl 0 rfl) ?_
    refine g_get (own := RX3) (C := RX3) (T := TX3) (N := 19) (ci := 3) hx hb hq hin_X3 hown hK hG (k := 4) (gok_lo (by decide)) (gc_M) rfl 2 (by decide) (hq _ q_415) rfl (v := .int (g.1 4 2)) rfl dX3_isNet_6 ?_
    refine lv_icmp_ge (tgt := 16) hx hb dX3_isNet_9 (by decide) (fun c_2 => ?_) (fun c_2 => ?_)
    · have hw := hw.1 c_2
      refine lv_iconst (v := 0) hx hb dX3_isNet_16 (by decide) ?_
      exact g_zret hx hb hr (by decide) hlocks hw hG (by decide) (by decide) dX3_isNet_17
    · have hw := hw.2 c_2
      refine lv_iconst (v := 1) hx hb dX3_isNet_12 (by decide) ?_
      refine lv_goto (tgt := 17) hx hb dX3_isNet_13 (by decide) ?_
      exact g_zret hx hb hr (by decide) hlocks hw hG (by decide) (by decide) dX3_isNet_17

def wp_X3_net (post : Int32 → gS → Prop) (p1 : Int32) (p2 : Int32) (g : gS) : Prop := ((p1 < 100) → (∀ g_2 : gS, g_2 = gi g 4 0 (1 : Int32) → ((((g_2.1 4 0) ≤ 0) → (vp_in (g_2.1 4 2) 24 ∧ (∀ g_5 : gS, g_5 = gi g_2 5 ((g_2.1 4 2).toNatClampNeg) p1 → (vp_in (g_5.1 4 2) 24 ∧ (∀ g_7 : gS, g_7 = gi g_5 6 ((g_5.1 4 2).toNatClampNeg) p2 → (vp_in (g_7.1 4 2) 24 ∧ (∀ g_9 : gS, g_9 = gi g_7 7 ((g_7.1 4 2).toNatClampNeg) (vp_nar .boolean (1 : Int32)) → (∀ x_10 : Int32, x_10 = (g_9.1 4 2) + 1 → (∀ g_11 : gS, g_11 = gi g_9 4 2 x_10 → (post ((g_11.1 4 2) - 1) g_11)))))))))) ∧ ((¬ (g_2.1 4 0) ≤ 0) → (post 0 g_2))))) ∧ ((¬ p1 < 100) → (((1500 < p1) → (∀ g_13 : gS, g_13 = gi g 4 0 (1 : Int32) → ((((g_13.1 4 0) ≤ 0) → (vp_in (g_13.1 4 2) 24 ∧ (∀ g_16 : gS, g_16 = gi g_13 5 ((g_13.1 4 2).toNatClampNeg) p1 → (vp_in (g_16.1 4 2) 24 ∧ (∀ g_18 : gS, g_18 = gi g_16 6 ((g_16.1 4 2).toNatClampNeg) p2 → (vp_in (g_18.1 4 2) 24 ∧ (∀ g_20 : gS, g_20 = gi g_18 7 ((g_18.1 4 2).toNatClampNeg) (vp_nar .boolean (1 : Int32)) → (∀ x_21 : Int32, x_21 = (g_20.1 4 2) + 1 → (∀ g_22 : gS, g_22 = gi g_20 4 2 x_21 → (post ((g_22.1 4 2) - 1) g_22)))))))))) ∧ ((¬ (g_13.1 4 0) ≤ 0) → (post 0 g_13))))) ∧ ((¬ 1500 < p1) → (((p2 < 1) → (∀ g_24 : gS, g_24 = gi g 4 0 (1 : Int32) → ((((g_24.1 4 0) ≤ 0) → (vp_in (g_24.1 4 2) 24 ∧ (∀ g_27 : gS, g_27 = gi g_24 5 ((g_24.1 4 2).toNatClampNeg) p1 → (vp_in (g_27.1 4 2) 24 ∧ (∀ g_29 : gS, g_29 = gi g_27 6 ((g_27.1 4 2).toNatClampNeg) p2 → (vp_in (g_29.1 4 2) 24 ∧ (∀ g_31 : gS, g_31 = gi g_29 7 ((g_29.1 4 2).toNatClampNeg) (vp_nar .boolean (1 : Int32)) → (∀ x_32 : Int32, x_32 = (g_31.1 4 2) + 1 → (∀ g_33 : gS, g_33 = gi g_31 4 2 x_32 → (post ((g_33.1 4 2) - 1) g_33)))))))))) ∧ ((¬ (g_24.1 4 0) ≤ 0) → (post 0 g_24))))) ∧ ((¬ p2 < 1) → (((p2 ≤ 50) → (((¬ (g.1 4 2) = 24) → (∀ g_36 : gS, g_36 = gi g 4 0 (0 : Int32) → ((((g_36.1 4 0) ≤ 0) → (vp_in (g_36.1 4 2) 24 ∧ (∀ g_39 : gS, g_39 = gi g_36 5 ((g_36.1 4 2).toNatClampNeg) p1 → (vp_in (g_39.1 4 2) 24 ∧ (∀ g_41 : gS, g_41 = gi g_39 6 ((g_39.1 4 2).toNatClampNeg) p2 → (vp_in (g_41.1 4 2) 24 ∧ (∀ g_43 : gS, g_43 = gi g_41 7 ((g_41.1 4 2).toNatClampNeg) (vp_nar .boolean (1 : Int32)) → (∀ x_44 : Int32, x_44 = (g_43.1 4 2) + 1 → (∀ g_45 : gS, g_45 = gi g_43 4 2 x_44 → (post ((g_45.1 4 2) - 1) g_45)))))))))) ∧ ((¬ (g_36.1 4 0) ≤ 0) → (post 0 g_36))))) ∧ (((g.1 4 2) = 24) → (∀ g_46 : gS, g_46 = gi g 4 0 (2 : Int32) → ((((g_46.1 4 0) ≤ 0) → (vp_in (g_46.1 4 2) 24 ∧ (∀ g_49 : gS, g_49 = gi g_46 5 ((g_46.1 4 2).toNatClampNeg) p1 → (vp_in (g_49.1 4 2) 24 ∧ (∀ g_51 : gS, g_51 = gi g_49 6 ((g_49.1 4 2).toNatClampNeg) p2 → (vp_in (g_51.1 4 2) 24 ∧ (∀ g_53 : gS, g_53 = gi g_51 7 ((g_51.1 4 2).toNatClampNeg) (vp_nar .boolean (1 : Int32)) → (∀ x_54 : Int32, x_54 = (g_53.1 4 2) + 1 → (∀ g_55 : gS, g_55 = gi g_53 4 2 x_54 → (post ((g_55.1 4 2) - 1) g_55)))))))))) ∧ ((¬ (g_46.1 4 0) ≤ 0) → (post 0 g_46))))))) ∧ ((¬ p2 ≤ 50) → (∀ g_56 : gS, g_56 = gi g 4 0 (1 : Int32) → ((((g_56.1 4 0) ≤ 0) → (vp_in (g_56.1 4 2) 24 ∧ (∀ g_59 : gS, g_59 = gi g_56 5 ((g_56.1 4 2).toNatClampNeg) p1 → (vp_in (g_59.1 4 2) 24 ∧ (∀ g_61 : gS, g_61 = gi g_59 6 ((g_59.1 4 2).toNatClampNeg) p2 → (vp_in (g_61.1 4 2) 24 ∧ (∀ g_63 : gS, g_63 = gi g_61 7 ((g_61.1 4 2).toNatClampNeg) (vp_nar .boolean (1 : Int32)) → (∀ x_64 : Int32, x_64 = (g_63.1 4 2) + 1 → (∀ g_65 : gS, g_65 = gi g_63 4 2 x_64 → (post ((g_65.1 4 2) - 1) g_65)))))))))) ∧ ((¬ (g_56.1 4 0) ≤ 0) → (post 0 g_56)))))))))))
set_option maxHeartbeats 4000000 in
set_option maxRecDepth 100000 in
theorem m_X3_net {l : Launch} (hl9 : l.stackTraces = false) (D : va_G) (K : Nat → ClassId) (sa ad : Nat → Nat) (sz : Nat) (post : Int32 → gS → Prop) (p1 : Int32) (p2 : Int32) (g : gS) (hw : wp_X3_net post p1 p2 g) : Met l yX3_net wsX3_net ({ frames := 0, cells := 0, slots := 0, locals := 0 } : Room) (gPc D K sa ad sz g [.ref (ad 4), .int p1, .int p2]) (va_Qi post (gB D K ad (va_A (gw K ad g) sz)) (va_A (gw K ad g) sz)) 0 0 (va_A (gw K ad g) sz) := by
  refine Met.ofW (cc := cX3_net) (maxL := 3) (ret := (some .int)) (by decide) rfl ?_
  intro p e s m args below meth c s₁ B hml hv
  obtain ⟨rfl, hsz, hP, hE, hD0⟩ := hv
  have hx := B.exec
  have hb := B.bytes
  have hr := B.returns
  have hts := atoms_spec (ws := wsX3_net) B.pre
  have hq : ∀ w ∈ gW, w.before _ s = true := fun w h => hts w (List.mem_cons_of_mem _ h)
  have hown : s.vm.findClass RX3 = some m.cls := findClass_of_methodNamed B.named
  have hlocks := B.notSynchronized
  subst hsz
  have hD := hD0.self (sz := s.heap.size)
  generalize hAe : va_A (gw K ad g) s.heap.size = A at hD hE ⊢
  have hA : ∀ q : Nat, s.heap.size ≤ q → A q := fun q h => by rw [← hAe]; exact Or.inr h
  have hK := hE.1
  have hG : gX D K ad A s.heap g s.heap [] := ⟨hP, hD, va_S.rf⟩
  have hl := lv_entry ([.ref (ad 4), .int p1, .int p2]) (n := 3) (Nat.le_of_ble_eq_true rfl)
  rw [lg_entry_eq]
  generalize (lg_sl ([.ref (ad 4), .int p1, .int p2]) ++ List.replicate (3 - (lg_sl ([.ref (ad 4), .int p1, .int p2])).length) Slot.unset).toArray = ls at hl ⊢
  have hl : lv_has ls 3 [(0, .ref (ad 4)), (1, .int p1), (2, .int p2)] := hl
  dsimp only [wp_X3_net] at hw
  refine lv_aload_n hx hb dX3_net_0 rfl (lv_at hl 0 rfl) ?_
  refine lv_iload_n hx hb dX3_net_1 rfl (lv_at hl 1 rfl) ?_
  refine lv_bipush (v := 100) hx hb dX3_net_2 (by decide) ?_
  refine lv_icmp_lt (tgt := 25) hx hb dX3_net_4 (by decide) (fun c_1 => ?_) (fun c_1 => ?_)
  · have hw := hw.1 c_1
    refine lv_iconst (v := 1) hx hb dX3_net_25 (by decide) ?_
    refine lv_goto (tgt := 43) hx hb dX3_net_26 (by decide) ?_
    refine g_put (own := RX3) (C := RX3) (T := TX3) (N := 19) (ci := 3) hx hb hq hin_X3 tyX3 tyX3_ok nmX3 hown hK hG (k := 4) (gok_lo (by decide)) (gc_M) rfl 0 (by decide) (hq _ q_413) rfl rfl (ty := .int) (v := .int 1) (by decide +kernel) rfl rfl (Nat.le_of_ble_eq_true rfl) (gi g 4 0 (1 : Int32)) (gs_M0) (gho_lo (by decide)) dX3_net_43 (fun H locs hG => ?_)
    obtain ⟨g_2, eg_2⟩ : ∃ z, z = gi g 4 0 (1 : Int32) := ⟨_, rfl⟩
    rw [← eg_2] at hG
    have hw := hw g_2 eg_2
    refine lv_aload_n hx hb dX3_net_46 rfl (lv_at hl 0 rfl) ?_
    refine g_get (own := RX3) (C := RX3) (T := TX3) (N := 19) (ci := 3) hx hb hq hin_X3 hown hK hG (k := 4) (gok_lo (by decide)) (gc_M) rfl 0 (by decide) (hq _ q_413) rfl (v := .int (g_2.1 4 0)) rfl dX3_net_47 ?_
    refine lv_if_le (tgt := 55) hx hb dX3_net_50 (by decide) (fun c_3 => ?_) (fun c_3 => ?_)
    · have hw := hw.1 c_3
      refine lv_aload_n hx hb dX3_net_55 rfl (lv_at hl 0 rfl) ?_
      refine g_get (own := RX3) (C := RX3) (T := TX3) (N := 19) (ci := 3) hx hb hq hin_X3 hown hK hG (k := 4) (gok_lo (by decide)) (gc_M) rfl 3 (by decide) (hq _ q_416) rfl (v := .ref (ad 5)) rfl dX3_net_56 ?_
      refine lv_aload_n hx hb dX3_net_59 rfl (lv_at hl 0 rfl) ?_
      refine g_get (own := RX3) (C := RX3) (T := TX3) (N := 19) (ci := 3) hx hb hq hin_X3 hown hK hG (k := 4) (gok_lo (by decide)) (gc_M) rfl 2 (by decide) (hq _ q_415) rfl (v := .int (g_2.1 4 2)) rfl dX3_net_60 ?_
      refine lv_iload_n hx hb dX3_net_63 rfl (lv_at hl 1 rfl) ?_
      obtain ⟨hi_4, hw⟩ := hw
      refine g_iast hx hb hK hG (k := 5) (gok_lo (by decide)) (fun g => gc_5) (x := p1) hi_4 (gho_lo (by decide)) dX3_net_64 (fun H locs hG => ?_)
      obtain ⟨g_5, eg_5⟩ : ∃ z, z = gi g_2 5 ((g_2.1 4 2).toNatClampNeg) p1 := ⟨_, rfl⟩
      rw [← eg_5] at hG
      have hw := hw g_5 eg_5
      refine lv_aload_n hx hb dX3_net_65 rfl (lv_at hl 0 rfl) ?_
      refine g_get (own := RX3) (C := RX3) (T := TX3) (N := 19) (ci := 3) hx hb hq hin_X3 hown hK hG (k := 4) (gok_lo (by decide)) (gc_M) rfl 4 (by decide) (hq _ q_417) rfl (v := .ref (ad 6)) rfl dX3_net_66 ?_
      refine lv_aload_n hx hb dX3_net_69 rfl (lv_at hl 0 rfl) ?_
      refine g_get (own := RX3) (C := RX3) (T := TX3) (N := 19) (ci := 3) hx hb hq hin_X3 hown hK hG (k := 4) (gok_lo (by decide)) (gc_M) rfl 2 (by decide) (hq _ q_415) rfl (v := .int (g_5.1 4 2)) rfl dX3_net_70 ?_
      refine lv_iload_n hx hb dX3_net_73 rfl (lv_at hl 2 rfl) ?_
      obtain ⟨hi_6, hw⟩ := hw
      refine g_iast hx hb hK hG (k := 6) (gok_lo (by decide)) (fun g => gc_6) (x := p2) hi_6 (gho_lo (by decide)) dX3_net_74 (fun H locs hG => ?_)
      obtain ⟨g_7, eg_7⟩ : ∃ z, z = gi g_5 6 ((g_5.1 4 2).toNatClampNeg) p2 := ⟨_, rfl⟩
      rw [← eg_7] at hG
      have hw := hw g_7 eg_7
      refine lv_aload_n hx hb dX3_net_75 rfl (lv_at hl 0 rfl) ?_
      refine g_get (own := RX3) (C := RX3) (T := TX3) (N := 19) (ci := 3) hx hb hq hin_X3 hown hK hG (k := 4) (gok_lo (by decide)) (gc_M) rfl 5 (by decide) (hq _ q_418) rfl (v := .ref (ad 7)) rfl dX3_net_76 ?_
      refine lv_aload_n hx hb dX3_net_79 rfl (lv_at hl 0 rfl) ?_
      refine g_get (own := RX3) (C := RX3) (T := TX3) (N := 19) (ci := 3) hx hb hq hin_X3 hown hK hG (k := 4) (gok_lo (by decide)) (gc_M) rfl 2 (by decide) (hq _ q_415) rfl (v := .int (g_7.1 4 2)) rfl dX3_net_80 ?_
      refine lv_iconst (v := 1) hx hb dX3_net_83 (by decide) ?_
      obtain ⟨hi_8, hw⟩ := hw
      refine g_zast hx hb hK hG (k := 7) (gok_lo (by decide)) (fun g => gc_7) (x := (1 : Int32)) hi_8 (gho_lo (by decide)) dX3_net_84 (fun H locs hG => ?_)
      obtain ⟨g_9, eg_9⟩ : ∃ z, z = gi g_7 7 ((g_7.1 4 2).toNatClampNeg) (vp_nar .boolean (1 : Int32)) := ⟨_, rfl⟩
      rw [← eg_9] at hG
      have hw := hw g_9 eg_9
      refine lv_aload_n hx hb dX3_net_85 rfl (lv_at hl 0 rfl) ?_
      refine lv_dup hx hb dX3_net_86 rfl ?_
      refine g_get (own := RX3) (C := RX3) (T := TX3) (N := 19) (ci := 3) hx hb hq hin_X3 hown hK hG (k := 4) (gok_lo (by decide)) (gc_M) rfl 2 (by decide) (hq _ q_415) rfl (v := .int (g_9.1 4 2)) rfl dX3_net_87 ?_
      refine lv_iconst (v := 1) hx hb dX3_net_90 (by decide) ?_
      refine lv_iadd hx hb dX3_net_91 ?_
      refine lv_topi (fun x_10 ex_10 => ?_)
      have hw := hw x_10 ex_10
      refine g_put (own := RX3) (C := RX3) (T := TX3) (N := 19) (ci := 3) hx hb hq hin_X3 tyX3 tyX3_ok nmX3 hown hK hG (k := 4) (gok_lo (by decide)) (gc_M) rfl 2 (by decide) (hq _ q_415) rfl rfl (ty := .int) (v := .int x_10) (by decide +kernel) rfl rfl (Nat.le_of_ble_eq_true rfl) (gi g_9 4 2 x_10) (gs_M2) (gho_lo (by decide)) dX3_net_92 (fun H locs hG => ?_)
      obtain ⟨g_11, eg_11⟩ : ∃ z, z = gi g_9 4 2 x_10 := ⟨_, rfl⟩
      rw [← eg_11] at hG
      have hw := hw g_11 eg_11
      refine lv_aload_n hx hb dX3_net_95 rfl (lv_at hl 0 rfl) ?_
      refine g_get (own := RX3) (C := RX3) (T := TX3) (N := 19) (ci := 3) hx hb hq hin_X3 hown hK hG (k := 4) (gok_lo (by decide)) (gc_M) rfl 2 (by decide) (hq _ q_415) rfl (v := .int (g_11.1 4 2)) rfl dX3_net_96 ?_
      refine lv_iconst (v := 1) hx hb dX3_net_99 (by decide) ?_
      refine lv_isub hx hb dX3_net_100 ?_
      exact g_iret hx hb hr hlocks hw hG (by decide) (by decide) dX3_net_101
    · have hw := hw.2 c_3
      refine lv_iconst (v := 0) hx hb dX3_net_53 (by decide) ?_
      exact g_iret hx hb hr hlocks hw hG (by decide) (by decide) dX3_net_54
  · have hw := hw.2 c_1
    refine lv_iload_n hx hb dX3_net_7 rfl (lv_at hl 1 rfl) ?_
    refine lv_sipush (v := 1500) hx hb dX3_net_8 (by decide) ?_
    refine lv_icmp_gt (tgt := 25) hx hb dX3_net_11 (by decide) (fun c_12 => ?_) (fun c_12 => ?_)
    · have hw := hw.1 c_12
      refine lv_iconst (v := 1) hx hb dX3_net_25 (by decide) ?_
      refine lv_goto (tgt := 43) hx hb dX3_net_26 (by decide) ?_
      refine g_put (own := RX3) (C := RX3) (T := TX3) (N := 19) (ci := 3) hx hb hq hin_X3 tyX3 tyX3_ok nmX3 hown hK hG (k := 4) (gok_lo (by decide)) (gc_M) rfl 0 (by decide) (hq _ q_413) rfl rfl (ty := .int) (v := .int 1) (by decide +kernel) rfl rfl (Nat.le_of_ble_eq_true rfl) (gi g 4 0 (1 : Int32)) (gs_M0) (gho_lo (by decide)) dX3_net_43 (fun H locs hG => ?_)
      obtain ⟨g_13, eg_13⟩ : ∃ z, z = gi g 4 0 (1 : Int32) := ⟨_, rfl⟩
      rw [← eg_13] at hG
      have hw := hw g_13 eg_13
      refine lv_aload_n hx hb dX3_net_46 rfl (lv_at hl 0 rfl) ?_
      refine g_get (own := RX3) (C := RX3) (T := TX3) (N := 19) (ci := 3) hx hb hq hin_X3 hown hK hG (k := 4) (gok_lo (by decide)) (gc_M) rfl 0 (by decide) (hq _ q_413) rfl (v := .int (g_13.1 4 0)) rfl dX3_net_47 ?_
      refine lv_if_le (tgt := 55) hx hb dX3_net_50 (by decide) (fun c_14 => ?_) (fun c_14 => ?_)
      · have hw := hw.1 c_14
        refine lv_aload_n hx hb dX3_net_55 rfl (lv_at hl 0 rfl) ?_
        refine g_get (own := RX3) (C := RX3) (T := TX3) (N := 19) (ci := 3) hx hb hq hin_X3 hown hK hG (k := 4) (gok_lo (by decide)) (gc_M) rfl 3 (by decide) (hq _ q_416) rfl (v := .ref (ad 5)) rfl dX3_net_56 ?_
        refine lv_aload_n hx hb dX3_net_59 rfl (lv_at hl 0 rfl) ?_
        refine g_get (own := RX3) (C := RX3) (T := TX3) (N := 19) (ci := 3) hx hb hq hin_X3 hown hK hG (k := 4) (gok_lo (by decide)) (gc_M) rfl 2 (by decide) (hq _ q_415) rfl (v := .int (g_13.1 4 2)) rfl dX3_net_60 ?_
        refine lv_iload_n hx hb dX3_net_63 rfl (lv_at hl 1 rfl) ?_
        obtain ⟨hi_15, hw⟩ := hw
        refine g_iast hx hb hK hG (k := 5) (gok_lo (by decide)) (fun g => gc_5) (x := p1) hi_15 (gho_lo (by decide)) dX3_net_64 (fun H locs hG => ?_)
        obtain ⟨g_16, eg_16⟩ : ∃ z, z = gi g_13 5 ((g_13.1 4 2).toNatClampNeg) p1 := ⟨_, rfl⟩
        rw [← eg_16] at hG
        have hw := hw g_16 eg_16
        refine lv_aload_n hx hb dX3_net_65 rfl (lv_at hl 0 rfl) ?_
        refine g_get (own := RX3) (C := RX3) (T := TX3) (N := 19) (ci := 3) hx hb hq hin_X3 hown hK hG (k := 4) (gok_lo (by decide)) (gc_M) rfl 4 (by decide) (hq _ q_417) rfl (v := .ref (ad 6)) rfl dX3_net_66 ?_
        refine lv_aload_n hx hb dX3_net_69 rfl (lv_at hl 0 rfl) ?_
        refine g_get (own := RX3) (C := RX3) (T := TX3) (N := 19) (ci := 3) hx hb hq hin_X3 hown hK hG (k := 4) (gok_lo (by decide)) (gc_M) rfl 2 (by decide) (hq _ q_415) rfl (v := .int (g_16.1 4 2)) rfl dX3_net_70 ?_
        refine lv_iload_n hx hb dX3_net_73 rfl (lv_at hl 2 rfl) ?_
        obtain ⟨hi_17, hw⟩ := hw
        refine g_iast hx hb hK hG (k := 6) (gok_lo (by decide)) (fun g => gc_6) (x := p2) hi_17 (gho_lo (by decide)) dX3_net_74 (fun H locs hG => ?_)
        obtain ⟨g_18, eg_18⟩ : ∃ z, z = gi g_16 6 ((g_16.1 4 2).toNatClampNeg) p2 := ⟨_, rfl⟩
        rw [← eg_18] at hG
        have hw := hw g_18 eg_18
        refine lv_aload_n hx hb dX3_net_75 rfl (lv_at hl 0 rfl) ?_
        refine g_get (own := RX3) (C := RX3) (T := TX3) (N := 19) (ci := 3) hx hb hq hin_X3 hown hK hG (k := 4) (gok_lo (by decide)) (gc_M) rfl 5 (by decide) (hq _ q_418) rfl (v := .ref (ad 7)) rfl dX3_net_76 ?_
        refine lv_aload_n hx hb dX3_net_79 rfl (lv_at hl 0 rfl) ?_
        refine g_get (own := RX3) (C := RX3) (T := TX3) (N := 19) (ci := 3) hx hb hq hin_X3 hown hK hG (k := 4) (gok_lo (by decide)) (gc_M) rfl 2 (by decide) (hq _ q_415) rfl (v := .int (g_18.1 4 2)) rfl dX3_net_80 ?_
        refine lv_iconst (v := 1) hx hb dX3_net_83 (by decide) ?_
        obtain ⟨hi_19, hw⟩ := hw
        refine g_zast hx hb hK hG (k := 7) (gok_lo (by decide)) (fun g => gc_7) (x := (1 : Int32)) hi_19 (gho_lo (by decide)) dX3_net_84 (fun H locs hG => ?_)
        obtain ⟨g_20, eg_20⟩ : ∃ z, z = gi g_18 7 ((g_18.1 4 2).toNatClampNeg) (vp_nar .boolean (1 : Int32)) := ⟨_, rfl⟩
        rw [← eg_20] at hG
        have hw := hw g_20 eg_20
        refine lv_aload_n hx hb dX3_net_85 rfl (lv_at hl 0 rfl) ?_
        refine lv_dup hx hb dX3_net_86 rfl ?_
        refine g_get (own := RX3) (C := RX3) (T := TX3) (N := 19) (ci := 3) hx hb hq hin_X3 hown hK hG (k := 4) (gok_lo (by decide)) (gc_M) rfl 2 (by decide) (hq _ q_415) rfl (v := .int (g_20.1 4 2)) rfl dX3_net_87 ?_
        refine lv_iconst (v := 1) hx hb dX3_net_90 (by decide) ?_
        refine lv_iadd hx hb dX3_net_91 ?_
        refine lv_topi (fun x_21 ex_21 => ?_)
        have hw := hw x_21 ex_21
        refine g_put (own := RX3) (C := RX3) (T := TX3) (N := 19) (ci := 3) hx hb hq hin_X3 tyX3 tyX3_ok nmX3 hown hK hG (k := 4) (gok_lo (by decide)) (gc_M) rfl 2 (by decide) (hq _ q_415) rfl rfl (ty := .int) (v := .int x_21) (by decide +kernel) rfl rfl (Nat.le_of_ble_eq_true rfl) (gi g_20 4 2 x_21) (gs_M2) (gho_lo (by decide)) dX3_net_92 (fun H locs hG => ?_)
        obtain ⟨g_22, eg_22⟩ : ∃ z, z = gi g_20 4 2 x_21 := ⟨_, rfl⟩
        rw [← eg_22] at hG
        have hw := hw g_22 eg_22
        refine lv_aload_n hx hb dX3_net_95 rfl (lv_at hl 0 rfl) ?_
        refine g_get (own := RX3) (C := RX3) (T := TX3) (N := 19) (ci := 3) hx hb hq hin_X3 hown hK hG (k := 4) (gok_lo (by decide)) (gc_M) rfl 2 (by decide) (hq _ q_415) rfl (v := .int (g_22.1 4 2)) rfl dX3_net_96 ?_
        refine lv_iconst (v := 1) hx hb dX3_net_99 (by decide) ?_
        refine lv_isub hx hb dX3_net_100 ?_
        exact g_iret hx hb hr hlocks hw hG (by decide) (by decide) dX3_net_101
      · have hw := hw.2 c_14
        refine lv_iconst (v := 0) hx hb dX3_net_53 (by decide) ?_
        exact g_iret hx hb hr hlocks hw hG (by decide) (by decide) dX3_net_54
    · have hw := hw.2 c_12
      refine lv_iload_n hx hb dX3_net_14 rfl (lv_at hl 2 rfl) ?_
      refine lv_iconst (v := 1) hx hb dX3_net_15 (by decide) ?_
      refine lv_icmp_lt (tgt := 25) hx hb dX3_net_16 (by decide) (fun c_23 => ?_) (fun c_23 => ?_)
      · have hw := hw.1 c_23
        refine lv_iconst (v := 1) hx hb dX3_net_25 (by decide) ?_
        refine lv_goto (tgt := 43) hx hb dX3_net_26 (by decide) ?_
        refine g_put (own := RX3) (C := RX3) (T := TX3) (N := 19) (ci := 3) hx hb hq hin_X3 tyX3 tyX3_ok nmX3 hown hK hG (k := 4) (gok_lo (by decide)) (gc_M) rfl 0 (by decide) (hq _ q_413) rfl rfl (ty := .int) (v := .int 1) (by decide +kernel) rfl rfl (Nat.le_of_ble_eq_true rfl) (gi g 4 0 (1 : Int32)) (gs_M0) (gho_lo (by decide)) dX3_net_43 (fun H locs hG => ?_)
        obtain ⟨g_24, eg_24⟩ : ∃ z, z = gi g 4 0 (1 : Int32) := ⟨_, rfl⟩
        rw [← eg_24] at hG
        have hw := hw g_24 eg_24
        refine lv_aload_n hx hb dX3_net_46 rfl (lv_at hl 0 rfl) ?_
        refine g_get (own := RX3) (C := RX3) (T := TX3) (N := 19) (ci := 3) hx hb hq hin_X3 hown hK hG (k := 4) (gok_lo (by decide)) (gc_M) rfl 0 (by decide) (hq _ q_413) rfl (v := .int (g_24.1 4 0)) rfl dX3_net_47 ?_
        refine lv_if_le (tgt := 55) hx hb dX3_net_50 (by decide) (fun c_25 => ?_) (fun c_25 => ?_)
        · have hw := hw.1 c_25
          refine lv_aload_n hx hb dX3_net_55 rfl (lv_at hl 0 rfl) ?_
          refine g_get (own := RX3) (C := RX3) (T := TX3) (N := 19) (ci := 3) hx hb hq hin_X3 hown hK hG (k := 4) (gok_lo (by decide)) (gc_M) rfl 3 (by decide) (hq _ q_416) rfl (v := .ref (ad 5)) rfl dX3_net_56 ?_
          refine lv_aload_n hx hb dX3_net_59 rfl (lv_at hl 0 rfl) ?_
          refine g_get (own := RX3) (C := RX3) (T := TX3) (N := 19) (ci := 3) hx hb hq hin_X3 hown hK hG (k := 4) (gok_lo (by decide)) (gc_M) rfl 2 (by decide) (hq _ q_415) rfl (v := .int (g_24.1 4 2)) rfl dX3_net_60 ?_
          refine lv_iload_n hx hb dX3_net_63 rfl (lv_at hl 1 rfl) ?_
          obtain ⟨hi_26, hw⟩ := hw
          refine g_iast hx hb hK hG (k := 5) (gok_lo (by decide)) (fun g => gc_5) (x := p1) hi_26 (gho_lo (by decide)) dX3_net_64 (fun H locs hG => ?_)
          obtain ⟨g_27, eg_27⟩ : ∃ z, z = gi g_24 5 ((g_24.1 4 2).toNatClampNeg) p1 := ⟨_, rfl⟩
          rw [← eg_27] at hG
          have hw := hw g_27 eg_27
          refine lv_aload_n hx hb dX3_net_65 rfl (lv_at hl 0 rfl) ?_
          refine g_get (own := RX3) (C := RX3) (T := TX3) (N := 19) (ci := 3) hx hb hq hin_X3 hown hK hG (k := 4) (gok_lo (by decide)) (gc_M) rfl 4 (by decide) (hq _ q_417) rfl (v := .ref (ad 6)) rfl dX3_net_66 ?_
          refine lv_aload_n hx hb dX3_net_69 rfl (lv_at hl 0 rfl) ?_
          refine g_get (own := RX3) (C := RX3) (T := TX3) (N := 19) (ci := 3) hx hb hq hin_X3 hown hK hG (k := 4) (gok_lo (by decide)) (gc_M) rfl 2 (by decide) (hq _ q_415) rfl (v := .int (g_27.1 4 2)) rfl dX3_net_70 ?_
          refine lv_iload_n hx hb dX3_net_73 rfl (lv_at hl 2 rfl) ?_
          obtain ⟨hi_28, hw⟩ := hw
          refine g_iast hx hb hK hG (k := 6) (gok_lo (by decide)) (fun g => gc_6) (x := p2) hi_28 (gho_lo (by decide)) dX3_net_74 (fun H locs hG => ?_)
          obtain ⟨g_29, eg_29⟩ : ∃ z, z = gi g_27 6 ((g_27.1 4 2).toNatClampNeg) p2 := ⟨_, rfl⟩
          rw [← eg_29] at hG
          have hw := hw g_29 eg_29
          refine lv_aload_n hx hb dX3_net_75 rfl (lv_at hl 0 rfl) ?_
          refine g_get (own := RX3) (C := RX3) (T := TX3) (N := 19) (ci := 3) hx hb hq hin_X3 hown hK hG (k := 4) (gok_lo (by decide)) (gc_M) rfl 5 (by decide) (hq _ q_418) rfl (v := .ref (ad 7)) rfl dX3_net_76 ?_
          refine lv_aload_n hx hb dX3_net_79 rfl (lv_at hl 0 rfl) ?_
          refine g_get (own := RX3) (C := RX3) (T := TX3) (N := 19) (ci := 3) hx hb hq hin_X3 hown hK hG (k := 4) (gok_lo (by decide)) (gc_M) rfl 2 (by decide) (hq _ q_415) rfl (v := .int (g_29.1 4 2)) rfl dX3_net_80 ?_
          refine lv_iconst (v := 1) hx hb dX3_net_83 (by decide) ?_
          obtain ⟨hi_30, hw⟩ := hw
          refine g_zast hx hb hK hG (k := 7) (gok_lo (by decide)) (fun g => gc_7) (x := (1 : Int32)) hi_30 (gho_lo (by decide)) dX3_net_84 (fun H locs hG => ?_)
          obtain ⟨g_31, eg_31⟩ : ∃ z, z = gi g_29 7 ((g_29.1 4 2).toNatClampNeg) (vp_nar .boolean (1 : Int32)) := ⟨_, rfl⟩
          rw [← eg_31] at hG
          have hw := hw g_31 eg_31
          refine lv_aload_n hx hb dX3_net_85 rfl (lv_at hl 0 rfl) ?_
          refine lv_dup hx hb dX3_net_86 rfl ?_
          refine g_get (own := RX3) (C := RX3) (T := TX3) (N := 19) (ci := 3) hx hb hq hin_X3 hown hK hG (k := 4) (gok_lo (by decide)) (gc_M) rfl 2 (by decide) (hq _ q_415) rfl (v := .int (g_31.1 4 2)) rfl dX3_net_87 ?_
          refine lv_iconst (v := 1) hx hb dX3_net_90 (by decide) ?_
          refine lv_iadd hx hb dX3_net_91 ?_
          refine lv_topi (fun x_32 ex_32 => ?_)
          have hw := hw x_32 ex_32
          refine g_put (own := RX3) (C := RX3) (T := TX3) (N := 19) (ci := 3) hx hb hq hin_X3 tyX3 tyX3_ok nmX3 hown hK hG (k := 4) (gok_lo (by decide)) (gc_M) rfl 2 (by decide) (hq _ q_415) rfl rfl (ty := .int) (v := .int x_32) (by decide +kernel) rfl rfl (Nat.le_of_ble_eq_true rfl) (gi g_31 4 2 x_32) (gs_M2) (gho_lo (by decide)) dX3_net_92 (fun H locs hG => ?_)
          obtain ⟨g_33, eg_33⟩ : ∃ z, z = gi g_31 4 2 x_32 := ⟨_, rfl⟩
          rw [← eg_33] at hG
          have hw := hw g_33 eg_33
          refine lv_aload_n hx hb dX3_net_95 rfl (lv_at hl 0 rfl) ?_
          refine g_get (own := RX3) (C := RX3) (T := TX3) (N := 19) (ci := 3) hx hb hq hin_X3 hown hK hG (k := 4) (gok_lo (by decide)) (gc_M) rfl 2 (by decide) (hq _ q_415) rfl (v := .int (g_33.1 4 2)) rfl dX3_net_96 ?_
          refine lv_iconst (v := 1) hx hb dX3_net_99 (by decide) ?_
          refine lv_isub hx hb dX3_net_100 ?_
          exact g_iret hx hb hr hlocks hw hG (by decide) (by decide) dX3_net_101
        · have hw := hw.2 c_25
          refine lv_iconst (v := 0) hx hb dX3_net_53 (by decide) ?_
          exact g_iret hx hb hr hlocks hw hG (by decide) (by decide) dX3_net_54
      · have hw := hw.2 c_23
        refine lv_iload_n hx hb dX3_net_19 rfl (lv_at hl 2 rfl) ?_
        refine lv_bipush (v := 50) hx hb dX3_net_20 (by decide) ?_
        refine lv_icmp_le (tgt := 29) hx hb dX3_net_22 (by decide) (fun c_34 => ?_) (fun c_34 => ?_)
        · have hw := hw.1 c_34
          refine lv_aload_n hx hb dX3_net_29 rfl (lv_at hl 0 rfl) ?_
          refine g_get (own := RX3) (C := RX3) (T := TX3) (N := 19) (ci := 3) hx hb hq hin_X3 hown hK hG (k := 4) (gok_lo (by decide)) (gc_M) rfl 2 (by decide) (hq _ q_415) rfl (v := .int (g.1 4 2)) rfl dX3_net_30 ?_
          refine lv_bipush (v := 24) hx hb dX3_net_33 (by decide) ?_
          refine lv_icmp_ne (tgt := 42) hx hb dX3_net_35 (by decide) (fun c_35 => ?_) (fun c_35 => ?_)
          · have hw := hw.1 c_35
            refine lv_iconst (v := 0) hx hb dX3_net_42 (by decide) ?_
            refine g_put (own := RX3) (C := RX3) (T := TX3) (N := 19) (ci := 3) hx hb hq hin_X3 tyX3 tyX3_ok nmX3 hown hK hG (k := 4) (gok_lo (by decide)) (gc_M) rfl 0 (by decide) (hq _ q_413) rfl rfl (ty := .int) (v := .int 0) (by decide +kernel) rfl rfl (Nat.le_of_ble_eq_true rfl) (gi g 4 0 (0 : Int32)) (gs_M0) (gho_lo (by decide)) dX3_net_43 (fun H locs hG => ?_)
            obtain ⟨g_36, eg_36⟩ : ∃ z, z = gi g 4 0 (0 : Int32) := ⟨_, rfl⟩
            rw [← eg_36] at hG
            have hw := hw g_36 eg_36
            refine lv_aload_n hx hb dX3_net_46 rfl (lv_at hl 0 rfl) ?_
            refine g_get (own := RX3) (C := RX3) (T := TX3) (N := 19) (ci := 3) hx hb hq hin_X3 hown hK hG (k := 4) (gok_lo (by decide)) (gc_M) rfl 0 (by decide) (hq _ q_413) rfl (v := .int (g_36.1 4 0)) rfl dX3_net_47 ?_
            refine lv_if_le (tgt := 55) hx hb dX3_net_50 (by decide) (fun c_37 => ?_) (fun c_37 => ?_)
            · have hw := hw.1 c_37
              refine lv_aload_n hx hb dX3_net_55 rfl (lv_at hl 0 rfl) ?_
              refine g_get (own := RX3) (C := RX3) (T := TX3) (N := 19) (ci := 3) hx hb hq hin_X3 hown hK hG (k := 4) (gok_lo (by decide)) (gc_M) rfl 3 (by decide) (hq _ q_416) rfl (v := .ref (ad 5)) rfl dX3_net_56 ?_
              refine lv_aload_n hx hb dX3_net_59 rfl (lv_at hl 0 rfl) ?_
              refine g_get (own := RX3) (C := RX3) (T := TX3) (N := 19) (ci := 3) hx hb hq hin_X3 hown hK hG (k := 4) (gok_lo (by decide)) (gc_M) rfl 2 (by decide) (hq _ q_415) rfl (v := .int (g_36.1 4 2)) rfl dX3_net_60 ?_
              refine lv_iload_n hx hb dX3_net_63 rfl (lv_at hl 1 rfl) ?_
              obtain ⟨hi_38, hw⟩ := hw
              refine g_iast hx hb hK hG (k := 5) (gok_lo (by decide)) (fun g => gc_5) (x := p1) hi_38 (gho_lo (by decide)) dX3_net_64 (fun H locs hG => ?_)
              obtain ⟨g_39, eg_39⟩ : ∃ z, z = gi g_36 5 ((g_36.1 4 2).toNatClampNeg) p1 := ⟨_, rfl⟩
              rw [← eg_39] at hG
              have hw := hw g_39 eg_39
              refine lv_aload_n hx hb dX3_net_65 rfl (lv_at hl 0 rfl) ?_
              refine g_get (own := RX3) (C := RX3) (T := TX3) (N := 19) (ci := 3) hx hb hq hin_X3 hown hK hG (k := 4) (gok_lo (by decide)) (gc_M) rfl 4 (by decide) (hq _ q_417) rfl (v := .ref (ad 6)) rfl dX3_net_66 ?_
              refine lv_aload_n hx hb dX3_net_69 rfl (lv_at hl 0 rfl) ?_
              refine g_get (own := RX3) (C := RX3) (T := TX3) (N := 19) (ci := 3) hx hb hq hin_X3 hown hK hG (k := 4) (gok_lo (by decide)) (gc_M) rfl 2 (by decide) (hq _ q_415) rfl (v := .int (g_39.1 4 2)) rfl dX3_net_70 ?_
              refine lv_iload_n hx hb dX3_net_73 rfl (lv_at hl 2 rfl) ?_
              obtain ⟨hi_40, hw⟩ := hw
              refine g_iast hx hb hK hG (k := 6) (gok_lo (by decide)) (fun g => gc_6) (x := p2) hi_40 (gho_lo (by decide)) dX3_net_74 (fun H locs hG => ?_)
              obtain ⟨g_41, eg_41⟩ : ∃ z, z = gi g_39 6 ((g_39.1 4 2).toNatClampNeg) p2 := ⟨_, rfl⟩
              rw [← eg_41] at hG
              have hw := hw g_41 eg_41
              refine lv_aload_n hx hb dX3_net_75 rfl (lv_at hl 0 rfl) ?_
              refine g_get (own := RX3) (C := RX3) (T := TX3) (N := 19) (ci := 3) hx hb hq hin_X3 hown hK hG (k := 4) (gok_lo (by decide)) (gc_M) rfl 5 (by decide) (hq _ q_418) rfl (v := .ref (ad 7)) rfl dX3_net_76 ?_
              refine lv_aload_n hx hb dX3_net_79 rfl (lv_at hl 0 rfl) ?_
              refine g_get (own := RX3) (C := RX3) (T := TX3) (N := 19) (ci := 3) hx hb hq hin_X3 hown hK hG (k := 4) (gok_lo (by decide)) (gc_M) rfl 2 (by decide) (hq _ q_415) rfl (v := .int (g_41.1 4 2)) rfl dX3_net_80 ?_
              refine lv_iconst (v := 1) hx hb dX3_net_83 (by decide) ?_
              obtain ⟨hi_42, hw⟩ := hw
              refine g_zast hx hb hK hG (k := 7) (gok_lo (by decide)) (fun g => gc_7) (x := (1 : Int32)) hi_42 (gho_lo (by decide)) dX3_net_84 (fun H locs hG => ?_)
              obtain ⟨g_43, eg_43⟩ : ∃ z, z = gi g_41 7 ((g_41.1 4 2).toNatClampNeg) (vp_nar .boolean (1 : Int32)) := ⟨_, rfl⟩
              rw [← eg_43] at hG
              have hw := hw g_43 eg_43
              refine lv_aload_n hx hb dX3_net_85 rfl (lv_at hl 0 rfl) ?_
              refine lv_dup hx hb dX3_net_86 rfl ?_
              refine g_get (own := RX3) (C := RX3) (T := TX3) (N := 19) (ci := 3) hx hb hq hin_X3 hown hK hG (k := 4) (gok_lo (by decide)) (gc_M) rfl 2 (by decide) (hq _ q_415) rfl (v := .int (g_43.1 4 2)) rfl dX3_net_87 ?_
              refine lv_iconst (v := 1) hx hb dX3_net_90 (by decide) ?_
              refine lv_iadd hx hb dX3_net_91 ?_
              refine lv_topi (fun x_44 ex_44 => ?_)
              have hw := hw x_44 ex_44
              refine g_put (own := RX3) (C := RX3) (T := TX3) (N := 19) (ci := 3) hx hb hq hin_X3 tyX3 tyX3_ok nmX3 hown hK hG (k := 4) (gok_lo (by decide)) (gc_M) rfl 2 (by decide) (hq _ q_415) rfl rfl (ty := .int) (v := .int x_44) (by decide +kernel) rfl rfl (Nat.le_of_ble_eq_true rfl) (gi g_43 4 2 x_44) (gs_M2) (gho_lo (by decide)) dX3_net_92 (fun H locs hG => ?_)
              obtain ⟨g_45, eg_45⟩ : ∃ z, z = gi g_43 4 2 x_44 := ⟨_, rfl⟩
              rw [← eg_45] at hG
              have hw := hw g_45 eg_45
              refine lv_aload_n hx hb dX3_net_95 rfl (lv_at hl 0 rfl) ?_
              refine g_get (own := RX3) (C := RX3) (T := TX3) (N := 19) (ci := 3) hx hb hq hin_X3 hown hK hG (k := 4) (gok_lo (by decide)) (gc_M) rfl 2 (by decide) (hq _ q_415) rfl (v := .int (g_45.1 4 2)) rfl dX3_net_96 ?_
              refine lv_iconst (v := 1) hx hb dX3_net_99 (by decide) ?_
              refine lv_isub hx hb dX3_net_100 ?_
              exact g_iret hx hb hr hlocks hw hG (by decide) (by decide) dX3_net_101
            · have hw := hw.2 c_37
              refine lv_iconst (v := 0) hx hb dX3_net_53 (by decide) ?_
              exact g_iret hx hb hr hlocks hw hG (by decide) (by decide) dX3_net_54
          · have hw := hw.2 c_35
            refine lv_iconst (v := 2) hx hb dX3_net_38 (by decide) ?_
            refine lv_goto (tgt := 43) hx hb dX3_net_39 (by decide) ?_
            refine g_put (own := RX3) (C := RX3) (T := TX3) (N := 19) (ci := 3) hx hb hq hin_X3 tyX3 tyX3_ok nmX3 hown hK hG (k := 4) (gok_lo (by decide)) (gc_M) rfl 0 (by decide) (hq _ q_413) rfl rfl (ty := .int) (v := .int 2) (by decide +kernel) rfl rfl (Nat.le_of_ble_eq_true rfl) (gi g 4 0 (2 : Int32)) (gs_M0) (gho_lo (by decide)) dX3_net_43 (fun H locs hG => ?_)
            obtain ⟨g_46, eg_46⟩ : ∃ z, z = gi g 4 0 (2 : Int32) := ⟨_, rfl⟩
            rw [← eg_46] at hG
            have hw := hw g_46 eg_46
            refine lv_aload_n hx hb dX3_net_46 rfl (lv_at hl 0 rfl) ?_
            refine g_get (own := RX3) (C := RX3) (T := TX3) (N := 19) (ci := 3) hx hb hq hin_X3 hown hK hG (k := 4) (gok_lo (by decide)) (gc_M) rfl 0 (by decide) (hq _ q_413) rfl (v := .int (g_46.1 4 0)) rfl dX3_net_47 ?_
            refine lv_if_le (tgt := 55) hx hb dX3_net_50 (by decide) (fun c_47 => ?_) (fun c_47 => ?_)
            · have hw := hw.1 c_47
              refine lv_aload_n hx hb dX3_net_55 rfl (lv_at hl 0 rfl) ?_
              refine g_get (own := RX3) (C := RX3) (T := TX3) (N := 19) (ci := 3) hx hb hq hin_X3 hown hK hG (k := 4) (gok_lo (by decide)) (gc_M) rfl 3 (by decide) (hq _ q_416) rfl (v := .ref (ad 5)) rfl dX3_net_56 ?_
              refine lv_aload_n hx hb dX3_net_59 rfl (lv_at hl 0 rfl) ?_
              refine g_get (own := RX3) (C := RX3) (T := TX3) (N := 19) (ci := 3) hx hb hq hin_X3 hown hK hG (k := 4) (gok_lo (by decide)) (gc_M) rfl 2 (by decide) (hq _ q_415) rfl (v := .int (g_46.1 4 2)) rfl dX3_net_60 ?_
              refine lv_iload_n hx hb dX3_net_63 rfl (lv_at hl 1 rfl) ?_
              obtain ⟨hi_48, hw⟩ := hw
              refine g_iast hx hb hK hG (k := 5) (gok_lo (by decide)) (fun g => gc_5) (x := p1) hi_48 (gho_lo (by decide)) dX3_net_64 (fun H locs hG => ?_)
              obtain ⟨g_49, eg_49⟩ : ∃ z, z = gi g_46 5 ((g_46.1 4 2).toNatClampNeg) p1 := ⟨_, rfl⟩
              rw [← eg_49] at hG
              have hw := hw g_49 eg_49
              refine lv_aload_n hx hb dX3_net_65 rfl (lv_at hl 0 rfl) ?_
              refine g_get (own := RX3) (C := RX3) (T := TX3) (N := 19) (ci := 3) hx hb hq hin_X3 hown hK hG (k := 4) (gok_lo (by decide)) (gc_M) rfl 4 (by decide) (hq _ q_417) rfl (v := .ref (ad 6)) rfl dX3_net_66 ?_
              refine lv_aload_n hx hb dX3_net_69 rfl (lv_at hl 0 rfl) ?_
              refine g_get (own := RX3) (C := RX3) (T := TX3) (N := 19) (ci := 3) hx hb hq hin_X3 hown hK hG (k := 4) (gok_lo (by decide)) (gc_M) rfl 2 (by decide) (hq _ q_415) rfl (v := .int (g_49.1 4 2)) rfl dX3_net_70 ?_
              refine lv_iload_n hx hb dX3_net_73 rfl (lv_at hl 2 rfl) ?_
              obtain ⟨hi_50, hw⟩ := hw
              refine g_iast hx hb hK hG (k := 6) (gok_lo (by decide)) (fun g => gc_6) (x := p2) hi_50 (gho_lo (by decide)) dX3_net_74 (fun H locs hG => ?_)
              obtain ⟨g_51, eg_51⟩ : ∃ z, z = gi g_49 6 ((g_49.1 4 2).toNatClampNeg) p2 := ⟨_, rfl⟩
              rw [← eg_51] at hG
              have hw := hw g_51 eg_51
              refine lv_aload_n hx hb dX3_net_75 rfl (lv_at hl 0 rfl) ?_
              refine g_get (own := RX3) (C := RX3) (T := TX3) (N := 19) (ci := 3) hx hb hq hin_X3 hown hK hG (k := 4) (gok_lo (by decide)) (gc_M) rfl 5 (by decide) (hq _ q_418) rfl (v := .ref (ad 7)) rfl dX3_net_76 ?_
              refine lv_aload_n hx hb dX3_net_79 rfl (lv_at hl 0 rfl) ?_
              refine g_get (own := RX3) (C := RX3) (T := TX3) (N := 19) (ci := 3) hx hb hq hin_X3 hown hK hG (k := 4) (gok_lo (by decide)) (gc_M) rfl 2 (by decide) (hq _ q_415) rfl (v := .int (g_51.1 4 2)) rfl dX3_net_80 ?_
              refine lv_iconst (v := 1) hx hb dX3_net_83 (by decide) ?_
              obtain ⟨hi_52, hw⟩ := hw
              refine g_zast hx hb hK hG (k := 7) (gok_lo (by decide)) (fun g => gc_7) (x := (1 : Int32)) hi_52 (gho_lo (by decide)) dX3_net_84 (fun H locs hG => ?_)
              obtain ⟨g_53, eg_53⟩ : ∃ z, z = gi g_51 7 ((g_51.1 4 2).toNatClampNeg) (vp_nar .boolean (1 : Int32)) := ⟨_, rfl⟩
              rw [← eg_53] at hG
              have hw := hw g_53 eg_53
              refine lv_aload_n hx hb dX3_net_85 rfl (lv_at hl 0 rfl) ?_
              refine lv_dup hx hb dX3_net_86 rfl ?_
              refine g_get (own := RX3) (C := RX3) (T := TX3) (N := 19) (ci := 3) hx hb hq hin_X3 hown hK hG (k := 4) (gok_lo (by decide)) (gc_M) rfl 2 (by decide) (hq _ q_415) rfl (v := .int (g_53.1 4 2)) rfl dX3_net_87 ?_
              refine lv_iconst (v := 1) hx hb dX3_net_90 (by decide) ?_
              refine lv_iadd hx hb dX3_net_91 ?_
              refine lv_topi (fun x_54 ex_54 => ?_)
              have hw := hw x_54 ex_54
              refine g_put (own := RX3) (C := RX3) (T := TX3) (N := 19) (ci := 3) hx hb hq hin_X3 tyX3 tyX3_ok nmX3 hown hK hG (k := 4) (gok_lo (by decide)) (gc_M) rfl 2 (by decide) (hq _ q_415) rfl rfl (ty := .int) (v := .int x_54) (by decide +kernel) rfl rfl (Nat.le_of_ble_eq_true rfl) (gi g_53 4 2 x_54) (gs_M2) (gho_lo (by decide)) dX3_net_92 (fun H locs hG => ?_)
              obtain ⟨g_55, eg_55⟩ : ∃ z, z = gi g_53 4 2 x_54 := ⟨_, rfl⟩
              rw [← eg_55] at hG
              have hw := hw g_55 eg_55
              refine lv_aload_n hx hb dX3_net_95 rfl (lv_at hl 0 rfl) ?_
              refine g_get (own := RX3) (C := RX3) (T := TX3) (N := 19) (ci := 3) hx hb hq hin_X3 hown hK hG (k := 4) (gok_lo (by decide)) (gc_M) rfl 2 (by decide) (hq _ q_415) rfl (v := .int (g_55.1 4 2)) rfl dX3_net_96 ?_
              refine lv_iconst (v := 1) hx hb dX3_net_99 (by decide) ?_
              refine lv_isub hx hb dX3_net_100 ?_
              exact g_iret hx hb hr hlocks hw hG (by decide) (by decide) dX3_net_101
            · have hw := hw.2 c_47
              refine lv_iconst (v := 0) hx hb dX3_net_53 (by decide) ?_
              exact g_iret hx hb hr hlocks hw hG (by decide) (by decide) dX3_net_54
        · have hw := hw.2 c_34
          refine lv_iconst (v := 1) hx hb dX3_net_25 (by decide) ?_
          refine lv_goto (tgt := 43) hx hb dX3_net_26 (by decide) ?_
          refine g_put (own := RX3) (C := RX3) (T := TX3) (N := 19) (ci := 3) hx hb hq hin_X3 tyX3 tyX3_ok nmX3 hown hK hG (k := 4) (gok_lo (by decide)) (gc_M) rfl 0 (by decide) (hq _ q_413) rfl rfl (ty := .int) (v := .int 1) (by decide +kernel) rfl rfl (Nat.le_of_ble_eq_true rfl) (gi g 4 0 (1 : Int32)) (gs_M0) (gho_lo (by decide)) dX3_net_43 (fun H locs hG => ?_)
          obtain ⟨g_56, eg_56⟩ : ∃ z, z = gi g 4 0 (1 : Int32) := ⟨_, rfl⟩
          rw [← eg_56] at hG
          have hw := hw g_56 eg_56
          refine lv_aload_n hx hb dX3_net_46 rfl (lv_at hl 0 rfl) ?_
          refine g_get (own := RX3) (C := RX3) (T := TX3) (N := 19) (ci := 3) hx hb hq hin_X3 hown hK hG (k := 4) (gok_lo (by decide)) (gc_M) rfl 0 (by decide) (hq _ q_413) rfl (v := .int (g_56.1 4 0)) rfl dX3_net_47 ?_
          refine lv_if_le (tgt := 55) hx hb dX3_net_50 (by decide) (fun c_57 => ?_) (fun c_57 => ?_)
          · have hw := hw.1 c_57
            refine lv_aload_n hx hb dX3_net_55 rfl (lv_at hl 0 rfl) ?_
            refine g_get (own := RX3) (C := RX3) (T := TX3) (N := 19) (ci := 3) hx hb hq hin_X3 hown hK hG (k := 4) (gok_lo (by decide)) (gc_M) rfl 3 (by decide) (hq _ q_416) rfl (v := .ref (ad 5)) rfl dX3_net_56 ?_
            refine lv_aload_n hx hb dX3_net_59 rfl (lv_at hl 0 rfl) ?_
            refine g_get (own := RX3) (C := RX3) (T := TX3) (N := 19) (ci := 3) hx hb hq hin_X3 hown hK hG (k := 4) (gok_lo (by decide)) (gc_M) rfl 2 (by decide) (hq _ q_415) rfl (v := .int (g_56.1 4 2)) rfl dX3_net_60 ?_
            refine lv_iload_n hx hb dX3_net_63 rfl (lv_at hl 1 rfl) ?_
            obtain ⟨hi_58, hw⟩ := hw
            refine g_iast hx hb hK hG (k := 5) (gok_lo (by decide)) (fun g => gc_5) (x := p1) hi_58 (gho_lo (by decide)) dX3_net_64 (fun H locs hG => ?_)
            obtain ⟨g_59, eg_59⟩ : ∃ z, z = gi g_56 5 ((g_56.1 4 2).toNatClampNeg) p1 := ⟨_, rfl⟩
            rw [← eg_59] at hG
            have hw := hw g_59 eg_59
            refine lv_aload_n hx hb dX3_net_65 rfl (lv_at hl 0 rfl) ?_
            refine g_get (own := RX3) (C := RX3) (T := TX3) (N := 19) (ci := 3) hx hb hq hin_X3 hown hK hG (k := 4) (gok_lo (by decide)) (gc_M) rfl 4 (by decide) (hq _ q_417) rfl (v := .ref (ad 6)) rfl dX3_net_66 ?_
            refine lv_aload_n hx hb dX3_net_69 rfl (lv_at hl 0 rfl) ?_
            refine g_get (own := RX3) (C := RX3) (T := TX3) (N := 19) (ci := 3) hx hb hq hin_X3 hown hK hG (k := 4) (gok_lo (by decide)) (gc_M) rfl 2 (by decide) (hq _ q_415) rfl (v := .int (g_59.1 4 2)) rfl dX3_net_70 ?_
            refine lv_iload_n hx hb dX3_net_73 rfl (lv_at hl 2 rfl) ?_
            obtain ⟨hi_60, hw⟩ := hw
            refine g_iast hx hb hK hG (k := 6) (gok_lo (by decide)) (fun g => gc_6) (x := p2) hi_60 (gho_lo (by decide)) dX3_net_74 (fun H locs hG => ?_)
            obtain ⟨g_61, eg_61⟩ : ∃ z, z = gi g_59 6 ((g_59.1 4 2).toNatClampNeg) p2 := ⟨_, rfl⟩
            rw [← eg_61] at hG
            have hw := hw g_61 eg_61
            refine lv_aload_n hx hb dX3_net_75 rfl (lv_at hl 0 rfl) ?_
            refine g_get (own := RX3) (C := RX3) (T := TX3) (N := 19) (ci := 3) hx hb hq hin_X3 hown hK hG (k := 4) (gok_lo (by decide)) (gc_M) rfl 5 (by decide) (hq _ q_418) rfl (v := .ref (ad 7)) rfl dX3_net_76 ?_
            refine lv_aload_n hx hb dX3_net_79 rfl (lv_at hl 0 rfl) ?_
            refine g_get (own := RX3) (C := RX3) (T := TX3) (N := 19) (ci := 3) hx hb hq hin_X3 hown hK hG (k := 4) (gok_lo (by decide)) (gc_M) rfl 2 (by decide) (hq _ q_415) rfl (v := .int (g_61.1 4 2)) rfl dX3_net_80 ?_
            refine lv_iconst (v := 1) hx hb dX3_net_83 (by decide) ?_
            obtain ⟨hi_62, hw⟩ := hw
            refine g_zast hx hb hK hG (k := 7) (gok_lo (by decide)) (fun g => gc_7) (x := (1 : Int32)) hi_62 (gho_lo (by decide)) dX3_net_84 (fun H locs hG => ?_)
            obtain ⟨g_63, eg_63⟩ : ∃ z, z = gi g_61 7 ((g_61.1 4 2).toNatClampNeg) (vp_nar .boolean (1 : Int32)) := ⟨_, rfl⟩
            rw [← eg_63] at hG
            have hw := hw g_63 eg_63
            refine lv_aload_n hx hb dX3_net_85 rfl (lv_at hl 0 rfl) ?_
            refine lv_dup hx hb dX3_net_86 rfl ?_
            refine g_get (own := RX3) (C := RX3) (T := TX3) (N := 19) (ci := 3) hx hb hq hin_X3 hown hK hG (k := 4) (gok_lo (by decide)) (gc_M) rfl 2 (by decide) (hq _ q_415) rfl (v := .int (g_63.1 4 2)) rfl dX3_net_87 ?_
            refine lv_iconst (v := 1) hx hb dX3_net_90 (by decide) ?_
            refine lv_iadd hx hb dX3_net_91 ?_
            refine lv_topi (fun x_64 ex_64 => ?_)
            have hw := hw x_64 ex_64
            refine g_put (own := RX3) (C := RX3) (T := TX3) (N := 19) (ci := 3) hx hb hq hin_X3 tyX3 tyX3_ok nmX3 hown hK hG (k := 4) (gok_lo (by decide)) (gc_M) rfl 2 (by decide) (hq _ q_415) rfl rfl (ty := .int) (v := .int x_64) (by decide +kernel) rfl rfl (Nat.le_of_ble_eq_true rfl) (gi g_63 4 2 x_64) (gs_M2) (gho_lo (by decide)) dX3_net_92 (fun H locs hG => ?_)
            obtain ⟨g_65, eg_65⟩ : ∃ z, z = gi g_63 4 2 x_64 := ⟨_, rfl⟩
            rw [← eg_65] at hG
            have hw := hw g_65 eg_65
            refine lv_aload_n hx hb dX3_net_95 rfl (lv_at hl 0 rfl) ?_
            refine g_get (own := RX3) (C := RX3) (T := TX3) (N := 19) (ci := 3) hx hb hq hin_X3 hown hK hG (k := 4) (gok_lo (by decide)) (gc_M) rfl 2 (by decide) (hq _ q_415) rfl (v := .int (g_65.1 4 2)) rfl dX3_net_96 ?_
            refine lv_iconst (v := 1) hx hb dX3_net_99 (by decide) ?_
            refine lv_isub hx hb dX3_net_100 ?_
            exact g_iret hx hb hr hlocks hw hG (by decide) (by decide) dX3_net_101
          · have hw := hw.2 c_57
            refine lv_iconst (v := 0) hx hb dX3_net_53 (by decide) ?_
            exact g_iret hx hb hr hlocks hw hG (by decide) (by decide) dX3_net_54

def wpl_X3_remove_24 (post : gS → Prop) : Nat → Int32 → Int32 → gS → Prop
  | 0 => fun _ _ _ => False
  | n + 1 => fun x1 x2 g => (((g.1 4 4) ≤ x2) → (post g)) ∧ ((¬ (g.1 4 4) ≤ x2) → (∀ i_7 : Int32, i_7 = x2 + 1 → (vp_in i_7 512 ∧ (∀ x_9 : Int32, x_9 = g.1 12 i_7.toNatClampNeg → (vp_in x2 512 ∧ (∀ g_11 : gS, g_11 = gi g 12 x2.toNatClampNeg x_9 → (∀ x_12 : Int32, x_12 = x2 + 1 → (wpl_X3_remove_24 post n x1 x_12 g_11))))))))
set_option maxHeartbeats 4000000 in
set_option maxRecDepth 100000 in
theorem L_X3_remove_24 {p : Program} {l : Launch} {e : Env} {s : State} {m : MethodId} {args : Array Value} {below : List Frame} {meth : Method} {c : Code} {D : va_G} {K : Nat → ClassId} {sa ad : Nat → Nat} {A : Nat → Prop} (post : gS → Prop) (hl9 : l.stackTraces = false) (hx : p.tables.exec = Jvm.exec) (hb : c.code = cX3_remove) (hr : meth.sig.returnType = none) (hml : c.maxLocals = 3) (hown : s.vm.findClass RX3 = some m.cls) (hts : ∀ w ∈ wsX3_remove, w.before args s = true) (hlocks : meth.locks = false) (hA : ∀ q, s.heap.size ≤ q → A q) (hE : gE D K sa A s s.heap) : ∀ (n : Nat) (x1 : Int32) (x2 : Int32) (g : gS), wpl_X3_remove_24 post n x1 x2 g → ∀ (H : Heap) (locs : List Loc) (ls : Array Slot), gX D K ad A s.heap g H locs → lv_has ls 3 [(0, .ref (ad 4)), (1, .int x1), (2, .int x2)] → W p l e ({ frames := 0, cells := 0, slots := 0, locals := 0 } : Room) s m args below meth c H locs 0 0 (MQ below (va_Qv post (gB D K ad A) A) args s 0 0 A) (F0 m 24 ls []) := by
  have hK := hE.1
  have hq : ∀ w ∈ gW, w.before args s = true := fun w h => hts w (List.mem_cons_of_mem _ h)
  intro n
  induction n with
  | zero =>
    intro x1 x2 g hw
    exact hw.elim
  | succ n ih =>
    intro x1 x2 g hw H locs ls hG hl
    dsimp only [wpl_X3_remove_24] at hw
    refine lv_iload_n hx hb dX3_remove_24 rfl (lv_at hl 2 rfl) ?_
    refine lv_aload_n hx hb dX3_remove_25 rfl (lv_at hl 0 rfl) ?_
    refine g_get (own := RX3) (C := RX3) (T := TX3) (N := 19) (ci := 3) hx hb hq hin_X3 hown hK hG (k := 4) (gok_lo (by decide)) (gc_M) rfl 11 (by decide) (hq _ q_424) rfl (v := .int (g.1 4 4)) rfl dX3_remove_26 ?_
    refine lv_icmp_ge (tgt := 52) hx hb dX3_remove_29 (by decide) (fun c_6 => ?_) (fun c_6 => ?_)
    · have hw := hw.1 c_6
      exact g_vret hx hb hr hlocks hw hG (by decide) (by decide) dX3_remove_52
    · have hw := hw.2 c_6
      refine lv_aload_n hx hb dX3_remove_32 rfl (lv_at hl 0 rfl) ?_
      refine g_get (own := RX3) (C := RX3) (T := TX3) (N := 19) (ci := 3) hx hb hq hin_X3 hown hK hG (k := 4) (gok_lo (by decide)) (gc_M) rfl 12 (by decide) (hq _ q_425) rfl (v := .ref (ad 12)) rfl dX3_remove_33 ?_
      refine lv_iload_n hx hb dX3_remove_36 rfl (lv_at hl 2 rfl) ?_
      refine lv_aload_n hx hb dX3_remove_37 rfl (lv_at hl 0 rfl) ?_
      refine g_get (own := RX3) (C := RX3) (T := TX3) (N := 19) (ci := 3) hx hb hq hin_X3 hown hK hG (k := 4) (gok_lo (by decide)) (gc_M) rfl 12 (by decide) (hq _ q_425) rfl (v := .ref (ad 12)) rfl dX3_remove_38 ?_
      refine lv_iload_n hx hb dX3_remove_41 rfl (lv_at hl 2 rfl) ?_
      refine lv_iconst (v := 1) hx hb dX3_remove_42 (by decide) ?_
      refine lv_iadd hx hb dX3_remove_43 ?_
      refine lv_topi (fun i_7 ei_7 => ?_)
      have hw := hw i_7 ei_7
      obtain ⟨hi_8, hw⟩ := hw
      refine g_iald hx hb hK hG (k := 12) (gok_lo (by decide)) (gc_12) hi_8 dX3_remove_44 ?_
      refine lv_topi (fun x_9 ex_9 => ?_)
      have hw := hw x_9 ex_9
      obtain ⟨hi_10, hw⟩ := hw
      refine g_iast hx hb hK hG (k := 12) (gok_lo (by decide)) (fun g => gc_12) (x := x_9) hi_10 (gho_lo (by decide)) dX3_remove_45 (fun H locs hG => ?_)
      obtain ⟨g_11, eg_11⟩ : ∃ z, z = gi g 12 x2.toNatClampNeg x_9 := ⟨_, rfl⟩
      rw [← eg_11] at hG
      have hw := hw g_11 eg_11
      obtain ⟨x_12, ex_12⟩ : ∃ y : Int32, y = x2 + 1 := ⟨_, rfl⟩
      have hw := hw x_12 ex_12
      refine lv_iinc (v := x_12) (lv' := [(2, .int x_12), (0, .ref (ad 4)), (1, .int x1)]) hx hb dX3_remove_46 hl (k := 2) rfl (by rw [ex_12]; rfl) (by decide) rfl (fun ls hl => ?_)
      refine lv_goto (tgt := 24) hx hb dX3_remove_49 (by decide) ?_
      exact ih x1 x_12 g_11 hw _ _ _ hG (lv_sub hl [1, 2, 0] rfl)
def wp_X3_remove (post : gS → Prop) (p1 : Int32) (g : gS) : Prop := vp_in p1 512 ∧ (vp_in (g.1 12 p1.toNatClampNeg) 512 ∧ (∀ g_3 : gS, g_3 = gi g 13 ((g.1 12 p1.toNatClampNeg).toNatClampNeg) (vp_nar .boolean (0 : Int32)) → (∀ x_4 : Int32, x_4 = (g_3.1 4 4) - 1 → (∀ g_5 : gS, g_5 = gi g_3 4 4 x_4 → (∃ n, wpl_X3_remove_24 post n p1 p1 g_5)))))
set_option maxHeartbeats 4000000 in
set_option maxRecDepth 100000 in
theorem m_X3_remove {l : Launch} (hl9 : l.stackTraces = false) (D : va_G) (K : Nat → ClassId) (sa ad : Nat → Nat) (sz : Nat) (post : gS → Prop) (p1 : Int32) (g : gS) (hw : wp_X3_remove post p1 g) : Met l yX3_remove wsX3_remove ({ frames := 0, cells := 0, slots := 0, locals := 0 } : Room) (gPc D K sa ad sz g [.ref (ad 4), .int p1]) (va_Qv post (gB D K ad (va_A (gw K ad g) sz)) (va_A (gw K ad g) sz)) 0 0 (va_A (gw K ad g) sz) := by
  refine Met.ofW (cc := cX3_remove) (maxL := 3) (ret := none) (by decide) rfl ?_
  intro p e s m args below meth c s₁ B hml hv
  obtain ⟨rfl, hsz, hP, hE, hD0⟩ := hv
  have hx := B.exec
  have hb := B.bytes
  have hr := B.returns
  have hts := atoms_spec (ws := wsX3_remove) B.pre
  have hq : ∀ w ∈ gW, w.before _ s = true := fun w h => hts w (List.mem_cons_of_mem _ h)
  have hown : s.vm.findClass RX3 = some m.cls := findClass_of_methodNamed B.named
  have hlocks := B.notSynchronized
  subst hsz
  have hD := hD0.self (sz := s.heap.size)
  generalize hAe : va_A (gw K ad g) s.heap.size = A at hD hE ⊢
  have hA : ∀ q : Nat, s.heap.size ≤ q → A q := fun q h => by rw [← hAe]; exact Or.inr h
  have hK := hE.1
  have hG : gX D K ad A s.heap g s.heap [] := ⟨hP, hD, va_S.rf⟩
  have hl := lv_entry ([.ref (ad 4), .int p1]) (n := 3) (Nat.le_of_ble_eq_true rfl)
  rw [lg_entry_eq]
  generalize (lg_sl ([.ref (ad 4), .int p1]) ++ List.replicate (3 - (lg_sl ([.ref (ad 4), .int p1])).length) Slot.unset).toArray = ls at hl ⊢
  have hl : lv_has ls 3 [(0, .ref (ad 4)), (1, .int p1)] := hl
  dsimp only [wp_X3_remove] at hw
  refine lv_aload_n hx hb dX3_remove_0 rfl (lv_at hl 0 rfl) ?_
  refine g_get (own := RX3) (C := RX3) (T := TX3) (N := 19) (ci := 3) hx hb hq hin_X3 hown hK hG (k := 4) (gok_lo (by decide)) (gc_M) rfl 13 (by decide) (hq _ q_426) rfl (v := .ref (ad 13)) rfl dX3_remove_1 ?_
  refine lv_aload_n hx hb dX3_remove_4 rfl (lv_at hl 0 rfl) ?_
  refine g_get (own := RX3) (C := RX3) (T := TX3) (N := 19) (ci := 3) hx hb hq hin_X3 hown hK hG (k := 4) (gok_lo (by decide)) (gc_M) rfl 12 (by decide) (hq _ q_425) rfl (v := .ref (ad 12)) rfl dX3_remove_5 ?_
  refine lv_iload_n hx hb dX3_remove_8 rfl (lv_at hl 1 rfl) ?_
  obtain ⟨hi_1, hw⟩ := hw
  refine g_iald hx hb hK hG (k := 12) (gok_lo (by decide)) (gc_12) hi_1 dX3_remove_9 ?_
  refine lv_iconst (v := 0) hx hb dX3_remove_10 (by decide) ?_
  obtain ⟨hi_2, hw⟩ := hw
  refine g_zast hx hb hK hG (k := 13) (gok_lo (by decide)) (fun g => gc_13) (x := (0 : Int32)) hi_2 (gho_lo (by decide)) dX3_remove_11 (fun H locs hG => ?_)
  obtain ⟨g_3, eg_3⟩ : ∃ z, z = gi g 13 ((g.1 12 p1.toNatClampNeg).toNatClampNeg) (vp_nar .boolean (0 : Int32)) := ⟨_, rfl⟩
  rw [← eg_3] at hG
  have hw := hw g_3 eg_3
  refine lv_aload_n hx hb dX3_remove_12 rfl (lv_at hl 0 rfl) ?_
  refine lv_dup hx hb dX3_remove_13 rfl ?_
  refine g_get (own := RX3) (C := RX3) (T := TX3) (N := 19) (ci := 3) hx hb hq hin_X3 hown hK hG (k := 4) (gok_lo (by decide)) (gc_M) rfl 11 (by decide) (hq _ q_424) rfl (v := .int (g_3.1 4 4)) rfl dX3_remove_14 ?_
  refine lv_iconst (v := 1) hx hb dX3_remove_17 (by decide) ?_
  refine lv_isub hx hb dX3_remove_18 ?_
  refine lv_topi (fun x_4 ex_4 => ?_)
  have hw := hw x_4 ex_4
  refine g_put (own := RX3) (C := RX3) (T := TX3) (N := 19) (ci := 3) hx hb hq hin_X3 tyX3 tyX3_ok nmX3 hown hK hG (k := 4) (gok_lo (by decide)) (gc_M) rfl 11 (by decide) (hq _ q_424) rfl rfl (ty := .int) (v := .int x_4) (by decide +kernel) rfl rfl (Nat.le_of_ble_eq_true rfl) (gi g_3 4 4 x_4) (gs_M4) (gho_lo (by decide)) dX3_remove_19 (fun H locs hG => ?_)
  obtain ⟨g_5, eg_5⟩ : ∃ z, z = gi g_3 4 4 x_4 := ⟨_, rfl⟩
  rw [← eg_5] at hG
  have hw := hw g_5 eg_5
  refine lv_iload_n hx hb dX3_remove_22 rfl (lv_at hl 1 rfl) ?_
  refine lv_istore_n (lv' := [(2, .int p1), (0, .ref (ad 4)), (1, .int p1)]) hx hb dX3_remove_23 rfl hl (by decide) rfl (fun ls hl => ?_)
  obtain ⟨n_13, hw⟩ := hw
  exact L_X3_remove_24 post hl9 hx hb hr hml hown hts hlocks hA hE n_13 p1 p1 g_5 hw _ _ _ hG (lv_sub hl [1, 2, 0] rfl)

def wpl_X3_link_36 (post : Int32 → gS → Prop) : Nat → Int32 → Int32 → Int32 → Int32 → gS → Prop
  | 0 => fun _ _ _ _ _ => False
  | n + 1 => fun x1 x2 x3 x4 g => ((x4 < 0) → (vp_in x1 24 ∧ (∀ g_9 : gS, g_9 = gi g 7 x1.toNatClampNeg (vp_nar .boolean x2) → (post x3 g_9)))) ∧ ((¬ x4 < 0) → (vp_in x1 24 ∧ ((((g.1 7 x1.toNatClampNeg) = 0) → (vp_in x1 24 ∧ (∀ g_13 : gS, g_13 = gi g 7 x1.toNatClampNeg (vp_nar .boolean x2) → (post x3 g_13)))) ∧ ((¬ (g.1 7 x1.toNatClampNeg) = 0) → (((¬ x2 = 0) → (vp_in x1 24 ∧ (∀ g_16 : gS, g_16 = gi g 7 x1.toNatClampNeg (vp_nar .boolean x2) → (post x3 g_16)))) ∧ ((x2 = 0) → (vp_in x4 512 ∧ (∀ i_18 : Int32, i_18 = 8 * (g.1 12 x4.toNatClampNeg) → (vp_in i_18 4096 ∧ (((¬ (g.1 14 i_18.toNatClampNeg) = x1) → (∀ x_21 : Int32, x_21 = x4 + (-1) → (wpl_X3_link_36 post n x1 x2 x3 x_21 g))) ∧ (((g.1 14 i_18.toNatClampNeg) = x1) → (wp_X3_remove (fun g_22 => (∀ x_23 : Int32, x_23 = x3 + 1 → (∀ x_24 : Int32, x_24 = x4 + (-1) → (wpl_X3_link_36 post n x1 x2 x_23 x_24 g_22)))) x4 g))))))))))))
set_option maxHeartbeats 4000000 in
set_option maxRecDepth 100000 in
theorem L_X3_link_36 {p : Program} {l : Launch} {e : Env} {s : State} {m : MethodId} {args : Array Value} {below : List Frame} {meth : Method} {c : Code} {D : va_G} {K : Nat → ClassId} {sa ad : Nat → Nat} {A : Nat → Prop} (post : Int32 → gS → Prop) (hl9 : l.stackTraces = false) (hx : p.tables.exec = Jvm.exec) (hb : c.code = cX3_link) (hr : meth.sig.returnType = (some .int)) (hml : c.maxLocals = 5) (hown : s.vm.findClass RX3 = some m.cls) (hts : ∀ w ∈ wsX3_link, w.before args s = true) (hlocks : meth.locks = false) (hA : ∀ q, s.heap.size ≤ q → A q) (hE : gE D K sa A s s.heap) : ∀ (n : Nat) (x1 : Int32) (x2 : Int32) (x3 : Int32) (x4 : Int32) (g : gS), wpl_X3_link_36 post n x1 x2 x3 x4 g → ∀ (H : Heap) (locs : List Loc) (ls : Array Slot), gX D K ad A s.heap g H locs → lv_has ls 5 [(0, .ref (ad 4)), (1, .int x1), (2, .int x2), (3, .int x3), (4, .int x4)] → W p l e ({ frames := 1, cells := 0, slots := 0, locals := 22 } : Room) s m args below meth c H locs 0 0 (MQ below (va_Qi post (gB D K ad A) A) args s 0 0 A) (F0 m 36 ls []) := by
  have hK := hE.1
  have hq : ∀ w ∈ gW, w.before args s = true := fun w h => hts w (List.mem_cons_of_mem _ h)
  intro n
  induction n with
  | zero =>
    intro x1 x2 x3 x4 g hw
    exact hw.elim
  | succ n ih =>
    intro x1 x2 x3 x4 g hw H locs ls hG hl
    dsimp only [wpl_X3_link_36] at hw
    refine lv_iload hx hb dX3_link_36 (lv_at hl 4 rfl) ?_
    refine lv_if_lt (tgt := 88) hx hb dX3_link_38 (by decide) (fun c_7 => ?_) (fun c_7 => ?_)
    · have hw := hw.1 c_7
      refine lv_aload_n hx hb dX3_link_88 rfl (lv_at hl 0 rfl) ?_
      refine g_get (own := RX3) (C := RX3) (T := TX3) (N := 19) (ci := 3) hx hb hq hin_X3 hown hK hG (k := 4) (gok_lo (by decide)) (gc_M) rfl 5 (by decide) (hq _ q_418) rfl (v := .ref (ad 7)) rfl dX3_link_89 ?_
      refine lv_iload_n hx hb dX3_link_92 rfl (lv_at hl 1 rfl) ?_
      refine lv_iload_n hx hb dX3_link_93 rfl (lv_at hl 2 rfl) ?_
      obtain ⟨hi_8, hw⟩ := hw
      refine g_zast hx hb hK hG (k := 7) (gok_lo (by decide)) (fun g => gc_7) (x := x2) hi_8 (gho_lo (by decide)) dX3_link_94 (fun H locs hG => ?_)
      obtain ⟨g_9, eg_9⟩ : ∃ z, z = gi g 7 x1.toNatClampNeg (vp_nar .boolean x2) := ⟨_, rfl⟩
      rw [← eg_9] at hG
      have hw := hw g_9 eg_9
      refine lv_iload_n hx hb dX3_link_95 rfl (lv_at hl 3 rfl) ?_
      exact g_iret hx hb hr hlocks hw hG (by decide) (by decide) dX3_link_96
    · have hw := hw.2 c_7
      refine lv_aload_n hx hb dX3_link_41 rfl (lv_at hl 0 rfl) ?_
      refine g_get (own := RX3) (C := RX3) (T := TX3) (N := 19) (ci := 3) hx hb hq hin_X3 hown hK hG (k := 4) (gok_lo (by decide)) (gc_M) rfl 5 (by decide) (hq _ q_418) rfl (v := .ref (ad 7)) rfl dX3_link_42 ?_
      refine lv_iload_n hx hb dX3_link_45 rfl (lv_at hl 1 rfl) ?_
      obtain ⟨hi_10, hw⟩ := hw
      refine g_zald hx hb hK hG (k := 7) (gok_lo (by decide)) (gc_7) hi_10 dX3_link_46 ?_
      refine lv_if_eq (tgt := 88) hx hb dX3_link_47 (by decide) (fun c_11 => ?_) (fun c_11 => ?_)
      · have hw := hw.1 c_11
        refine lv_aload_n hx hb dX3_link_88 rfl (lv_at hl 0 rfl) ?_
        refine g_get (own := RX3) (C := RX3) (T := TX3) (N := 19) (ci := 3) hx hb hq hin_X3 hown hK hG (k := 4) (gok_lo (by decide)) (gc_M) rfl 5 (by decide) (hq _ q_418) rfl (v := .ref (ad 7)) rfl dX3_link_89 ?_
        refine lv_iload_n hx hb dX3_link_92 rfl (lv_at hl 1 rfl) ?_
        refine lv_iload_n hx hb dX3_link_93 rfl (lv_at hl 2 rfl) ?_
        obtain ⟨hi_12, hw⟩ := hw
        refine g_zast hx hb hK hG (k := 7) (gok_lo (by decide)) (fun g => gc_7) (x := x2) hi_12 (gho_lo (by decide)) dX3_link_94 (fun H locs hG => ?_)
        obtain ⟨g_13, eg_13⟩ : ∃ z, z = gi g 7 x1.toNatClampNeg (vp_nar .boolean x2) := ⟨_, rfl⟩
        rw [← eg_13] at hG
        have hw := hw g_13 eg_13
        refine lv_iload_n hx hb dX3_link_95 rfl (lv_at hl 3 rfl) ?_
        exact g_iret hx hb hr hlocks hw hG (by decide) (by decide) dX3_link_96
      · have hw := hw.2 c_11
        refine lv_iload_n hx hb dX3_link_50 rfl (lv_at hl 2 rfl) ?_
        refine lv_if_ne (tgt := 88) hx hb dX3_link_51 (by decide) (fun c_14 => ?_) (fun c_14 => ?_)
        · have hw := hw.1 c_14
          refine lv_aload_n hx hb dX3_link_88 rfl (lv_at hl 0 rfl) ?_
          refine g_get (own := RX3) (C := RX3) (T := TX3) (N := 19) (ci := 3) hx hb hq hin_X3 hown hK hG (k := 4) (gok_lo (by decide)) (gc_M) rfl 5 (by decide) (hq _ q_418) rfl (v := .ref (ad 7)) rfl dX3_link_89 ?_
          refine lv_iload_n hx hb dX3_link_92 rfl (lv_at hl 1 rfl) ?_
          refine lv_iload_n hx hb dX3_link_93 rfl (lv_at hl 2 rfl) ?_
          obtain ⟨hi_15, hw⟩ := hw
          refine g_zast hx hb hK hG (k := 7) (gok_lo (by decide)) (fun g => gc_7) (x := x2) hi_15 (gho_lo (by decide)) dX3_link_94 (fun H locs hG => ?_)
          obtain ⟨g_16, eg_16⟩ : ∃ z, z = gi g 7 x1.toNatClampNeg (vp_nar .boolean x2) := ⟨_, rfl⟩
          rw [← eg_16] at hG
          have hw := hw g_16 eg_16
          refine lv_iload_n hx hb dX3_link_95 rfl (lv_at hl 3 rfl) ?_
          exact g_iret hx hb hr hlocks hw hG (by decide) (by decide) dX3_link_96
        · have hw := hw.2 c_14
          refine lv_aload_n hx hb dX3_link_54 rfl (lv_at hl 0 rfl) ?_
          refine g_get (own := RX3) (C := RX3) (T := TX3) (N := 19) (ci := 3) hx hb hq hin_X3 hown hK hG (k := 4) (gok_lo (by decide)) (gc_M) rfl 14 (by decide) (hq _ q_427) rfl (v := .ref (ad 14)) rfl dX3_link_55 ?_
          refine lv_bipush (v := 8) hx hb dX3_link_58 (by decide) ?_
          refine lv_aload_n hx hb dX3_link_60 rfl (lv_at hl 0 rfl) ?_
          refine g_get (own := RX3) (C := RX3) (T := TX3) (N := 19) (ci := 3) hx hb hq hin_X3 hown hK hG (k := 4) (gok_lo (by decide)) (gc_M) rfl 12 (by decide) (hq _ q_425) rfl (v := .ref (ad 12)) rfl dX3_link_61 ?_
          refine lv_iload hx hb dX3_link_64 (lv_at hl 4 rfl) ?_
          obtain ⟨hi_17, hw⟩ := hw
          refine g_iald hx hb hK hG (k := 12) (gok_lo (by decide)) (gc_12) hi_17 dX3_link_66 ?_
          refine lv_imul hx hb dX3_link_67 ?_
          refine lv_topi (fun i_18 ei_18 => ?_)
          have hw := hw i_18 ei_18
          obtain ⟨hi_19, hw⟩ := hw
          refine g_iald hx hb hK hG (k := 14) (gok_lo (by decide)) (gc_14) hi_19 dX3_link_68 ?_
          refine lv_iload_n hx hb dX3_link_69 rfl (lv_at hl 1 rfl) ?_
          refine lv_icmp_ne (tgt := 82) hx hb dX3_link_70 (by decide) (fun c_20 => ?_) (fun c_20 => ?_)
          · have hw := hw.1 c_20
            obtain ⟨x_21, ex_21⟩ : ∃ y : Int32, y = x4 + (-1) := ⟨_, rfl⟩
            have hw := hw x_21 ex_21
            refine lv_iinc (v := x_21) (lv' := [(4, .int x_21), (0, .ref (ad 4)), (1, .int x1), (2, .int x2), (3, .int x3)]) hx hb dX3_link_82 hl (k := 4) rfl (by rw [ex_21]; rfl) (by decide) rfl (fun ls hl => ?_)
            refine lv_goto (tgt := 36) hx hb dX3_link_85 (by decide) ?_
            exact ih x1 x2 x3 x_21 g hw _ _ _ hG (lv_sub hl [1, 2, 3, 4, 0] rfl)
          · have hw := hw.2 c_20
            refine lv_aload_n hx hb dX3_link_73 rfl (lv_at hl 0 rfl) ?_
            refine lv_iload hx hb dX3_link_74 (lv_at hl 4 rfl) ?_
            refine g_callv (va_runV (As := [.int x4]) (rest := []) ⟨hx, hb, hml, hown, hts⟩ (m_X3_remove hl9 D K sa ad _ _ x4 g hw) (cwV 1 hts (gGood gCons (gV q_490 q_492 q_14 q_23 q_493)) rfl rfl rfl (by decide +kernel) ⟨Nat.le_of_ble_eq_true rfl, Nat.le_of_ble_eq_true rfl⟩) ⟨gPc_blind, g_recv hK hG (gok_lo (by decide)) (gc_M) rfl, gPc_at hE hG hA⟩ rfl rfl hl.1 rfl (lv_room (Nat.le_of_ble_eq_true rfl)) dX3_link_76 ⟨Nat.le_of_ble_eq_true rfl, Nat.le_of_ble_eq_true rfl⟩) hG hA (fun g_22 H locs hw hG => ?_)
            try dsimp only at hw
            obtain ⟨x_23, ex_23⟩ : ∃ y : Int32, y = x3 + 1 := ⟨_, rfl⟩
            have hw := hw x_23 ex_23
            refine lv_iinc (v := x_23) (lv' := [(3, .int x_23), (0, .ref (ad 4)), (1, .int x1), (2, .int x2), (4, .int x4)]) hx hb dX3_link_79 hl (k := 3) rfl (by rw [ex_23]; rfl) (by decide) rfl (fun ls hl => ?_)
            obtain ⟨x_24, ex_24⟩ : ∃ y : Int32, y = x4 + (-1) := ⟨_, rfl⟩
            have hw := hw x_24 ex_24
            refine lv_iinc (v := x_24) (lv' := [(4, .int x_24), (3, .int x_23), (0, .ref (ad 4)), (1, .int x1), (2, .int x2)]) hx hb dX3_link_82 hl (k := 4) rfl (by rw [ex_24]; rfl) (by decide) rfl (fun ls hl => ?_)
            refine lv_goto (tgt := 36) hx hb dX3_link_85 (by decide) ?_
            exact ih x1 x2 x_23 x_24 g_22 hw _ _ _ hG (lv_sub hl [2, 3, 4, 1, 0] rfl)
def wp_X3_link (post : Int32 → gS → Prop) (p1 : Int32) (p2 : Int32) (g : gS) : Prop := wp_X3_isNet (fun r_2 g_1 => (((r_2 = 0) → (∀ g_4 : gS, g_4 = gi g_1 4 0 (1 : Int32) → ((((g_4.1 4 0) ≤ 0) → (∀ x_6 : Int32, x_6 = (g_4.1 4 4) - 1 → (∃ n, wpl_X3_link_36 post n p1 p2 0 x_6 g_4))) ∧ ((¬ (g_4.1 4 0) ≤ 0) → (post 0 g_4))))) ∧ ((¬ r_2 = 0) → (∀ g_26 : gS, g_26 = gi g_1 4 0 (0 : Int32) → ((((g_26.1 4 0) ≤ 0) → (∀ x_28 : Int32, x_28 = (g_26.1 4 4) - 1 → (∃ n, wpl_X3_link_36 post n p1 p2 0 x_28 g_26))) ∧ ((¬ (g_26.1 4 0) ≤ 0) → (post 0 g_26))))))) p1 g
set_option maxHeartbeats 4000000 in
set_option maxRecDepth 100000 in
theorem m_X3_link {l : Launch} (hl9 : l.stackTraces = false) (D : va_G) (K : Nat → ClassId) (sa ad : Nat → Nat) (sz : Nat) (post : Int32 → gS → Prop) (p1 : Int32) (p2 : Int32) (g : gS) (hw : wp_X3_link post p1 p2 g) : Met l yX3_link wsX3_link ({ frames := 1, cells := 0, slots := 0, locals := 22 } : Room) (gPc D K sa ad sz g [.ref (ad 4), .int p1, .int p2]) (va_Qi post (gB D K ad (va_A (gw K ad g) sz)) (va_A (gw K ad g) sz)) 0 0 (va_A (gw K ad g) sz) := by
  refine Met.ofW (cc := cX3_link) (maxL := 5) (ret := (some .int)) (by decide) rfl ?_
  intro p e s m args below meth c s₁ B hml hv
  obtain ⟨rfl, hsz, hP, hE, hD0⟩ := hv
  have hx := B.exec
  have hb := B.bytes
  have hr := B.returns
  have hts := atoms_spec (ws := wsX3_link) B.pre
  have hq : ∀ w ∈ gW, w.before _ s = true := fun w h => hts w (List.mem_cons_of_mem _ h)
  have hown : s.vm.findClass RX3 = some m.cls := findClass_of_methodNamed B.named
  have hlocks := B.notSynchronized
  subst hsz
  have hD := hD0.self (sz := s.heap.size)
  generalize hAe : va_A (gw K ad g) s.heap.size = A at hD hE ⊢
  have hA : ∀ q : Nat, s.heap.size ≤ q → A q := fun q h => by rw [← hAe]; exact Or.inr h
  have hK := hE.1
  have hG : gX D K ad A s.heap g s.heap [] := ⟨hP, hD, va_S.rf⟩
  have hl := lv_entry ([.ref (ad 4), .int p1, .int p2]) (n := 5) (Nat.le_of_ble_eq_true rfl)
  rw [lg_entry_eq]
  generalize (lg_sl ([.ref (ad 4), .int p1, .int p2]) ++ List.replicate (5 - (lg_sl ([.ref (ad 4), .int p1, .int p2])).length) Slot.unset).toArray = ls at hl ⊢
  have hl : lv_has ls 5 [(0, .ref (ad 4)), (1, .int p1), (2, .int p2)] := hl
  dsimp only [wp_X3_link] at hw
  refine lv_aload_n hx hb dX3_link_0 rfl (lv_at hl 0 rfl) ?_
  refine lv_aload_n hx hb dX3_link_1 rfl (lv_at hl 0 rfl) ?_
  refine lv_iload_n hx hb dX3_link_2 rfl (lv_at hl 1 rfl) ?_
  refine g_calli (va_runV (As := [.int p1]) (rest := [.ref (ad 4)]) ⟨hx, hb, hml, hown, hts⟩ (m_X3_isNet hl9 D K sa ad _ _ p1 g hw) (cwV 1 hts (gGood gCons (gV q_486 q_488 q_13 q_23 q_489)) rfl rfl rfl (by decide +kernel) ⟨Nat.le_of_ble_eq_true rfl, Nat.le_of_ble_eq_true rfl⟩) ⟨gPc_blind, g_recv hK hG (gok_lo (by decide)) (gc_M) rfl, gPc_at hE hG hA⟩ rfl rfl hl.1 rfl (lv_room (Nat.le_of_ble_eq_true rfl)) dX3_link_3 ⟨Nat.le_of_ble_eq_true rfl, Nat.le_of_ble_eq_true rfl⟩) hG hA (fun r_2 g_1 H locs hw hG => ?_)
  try dsimp only at hw
  refine lv_if_eq (tgt := 13) hx hb dX3_link_6 (by decide) (fun c_3 => ?_) (fun c_3 => ?_)
  · have hw := hw.1 c_3
    refine lv_iconst (v := 1) hx hb dX3_link_13 (by decide) ?_
    refine g_put (own := RX3) (C := RX3) (T := TX3) (N := 19) (ci := 3) hx hb hq hin_X3 tyX3 tyX3_ok nmX3 hown hK hG (k := 4) (gok_lo (by decide)) (gc_M) rfl 0 (by decide) (hq _ q_413) rfl rfl (ty := .int) (v := .int 1) (by decide +kernel) rfl rfl (Nat.le_of_ble_eq_true rfl) (gi g_1 4 0 (1 : Int32)) (gs_M0) (gho_lo (by decide)) dX3_link_14 (fun H locs hG => ?_)
    obtain ⟨g_4, eg_4⟩ : ∃ z, z = gi g_1 4 0 (1 : Int32) := ⟨_, rfl⟩
    rw [← eg_4] at hG
    have hw := hw g_4 eg_4
    refine lv_aload_n hx hb dX3_link_17 rfl (lv_at hl 0 rfl) ?_
    refine g_get (own := RX3) (C := RX3) (T := TX3) (N := 19) (ci := 3) hx hb hq hin_X3 hown hK hG (k := 4) (gok_lo (by decide)) (gc_M) rfl 0 (by decide) (hq _ q_413) rfl (v := .int (g_4.1 4 0)) rfl dX3_link_18 ?_
    refine lv_if_le (tgt := 26) hx hb dX3_link_21 (by decide) (fun c_5 => ?_) (fun c_5 => ?_)
    · have hw := hw.1 c_5
      refine lv_iconst (v := 0) hx hb dX3_link_26 (by decide) ?_
      refine lv_istore_n (lv' := [(3, .int 0), (0, .ref (ad 4)), (1, .int p1), (2, .int p2)]) hx hb dX3_link_27 rfl hl (by decide) rfl (fun ls hl => ?_)
      refine lv_aload_n hx hb dX3_link_28 rfl (lv_at hl 1 rfl) ?_
      refine g_get (own := RX3) (C := RX3) (T := TX3) (N := 19) (ci := 3) hx hb hq hin_X3 hown hK hG (k := 4) (gok_lo (by decide)) (gc_M) rfl 11 (by decide) (hq _ q_424) rfl (v := .int (g_4.1 4 4)) rfl dX3_link_29 ?_
      refine lv_iconst (v := 1) hx hb dX3_link_32 (by decide) ?_
      refine lv_isub hx hb dX3_link_33 ?_
      refine lv_topi (fun x_6 ex_6 => ?_)
      have hw := hw x_6 ex_6
      refine lv_istore (lv' := [(4, .int x_6), (3, .int 0), (0, .ref (ad 4)), (1, .int p1), (2, .int p2)]) hx hb dX3_link_34 hl (by decide) rfl (fun ls hl => ?_)
      obtain ⟨n_25, hw⟩ := hw
      exact L_X3_link_36 post hl9 hx hb hr hml hown hts hlocks hA hE n_25 p1 p2 0 x_6 g_4 hw _ _ _ hG (lv_sub hl [2, 3, 4, 1, 0] rfl)
    · have hw := hw.2 c_5
      refine lv_iconst (v := 0) hx hb dX3_link_24 (by decide) ?_
      exact g_iret hx hb hr hlocks hw hG (by decide) (by decide) dX3_link_25
  · have hw := hw.2 c_3
    refine lv_iconst (v := 0) hx hb dX3_link_9 (by decide) ?_
    refine lv_goto (tgt := 14) hx hb dX3_link_10 (by decide) ?_
    refine g_put (own := RX3) (C := RX3) (T := TX3) (N := 19) (ci := 3) hx hb hq hin_X3 tyX3 tyX3_ok nmX3 hown hK hG (k := 4) (gok_lo (by decide)) (gc_M) rfl 0 (by decide) (hq _ q_413) rfl rfl (ty := .int) (v := .int 0) (by decide +kernel) rfl rfl (Nat.le_of_ble_eq_true rfl) (gi g_1 4 0 (0 : Int32)) (gs_M0) (gho_lo (by decide)) dX3_link_14 (fun H locs hG => ?_)
    obtain ⟨g_26, eg_26⟩ : ∃ z, z = gi g_1 4 0 (0 : Int32) := ⟨_, rfl⟩
    rw [← eg_26] at hG
    have hw := hw g_26 eg_26
    refine lv_aload_n hx hb dX3_link_17 rfl (lv_at hl 0 rfl) ?_
    refine g_get (own := RX3) (C := RX3) (T := TX3) (N := 19) (ci := 3) hx hb hq hin_X3 hown hK hG (k := 4) (gok_lo (by decide)) (gc_M) rfl 0 (by decide) (hq _ q_413) rfl (v := .int (g_26.1 4 0)) rfl dX3_link_18 ?_
    refine lv_if_le (tgt := 26) hx hb dX3_link_21 (by decide) (fun c_27 => ?_) (fun c_27 => ?_)
    · have hw := hw.1 c_27
      refine lv_iconst (v := 0) hx hb dX3_link_26 (by decide) ?_
      refine lv_istore_n (lv' := [(3, .int 0), (0, .ref (ad 4)), (1, .int p1), (2, .int p2)]) hx hb dX3_link_27 rfl hl (by decide) rfl (fun ls hl => ?_)
      refine lv_aload_n hx hb dX3_link_28 rfl (lv_at hl 1 rfl) ?_
      refine g_get (own := RX3) (C := RX3) (T := TX3) (N := 19) (ci := 3) hx hb hq hin_X3 hown hK hG (k := 4) (gok_lo (by decide)) (gc_M) rfl 11 (by decide) (hq _ q_424) rfl (v := .int (g_26.1 4 4)) rfl dX3_link_29 ?_
      refine lv_iconst (v := 1) hx hb dX3_link_32 (by decide) ?_
      refine lv_isub hx hb dX3_link_33 ?_
      refine lv_topi (fun x_28 ex_28 => ?_)
      have hw := hw x_28 ex_28
      refine lv_istore (lv' := [(4, .int x_28), (3, .int 0), (0, .ref (ad 4)), (1, .int p1), (2, .int p2)]) hx hb dX3_link_34 hl (by decide) rfl (fun ls hl => ?_)
      obtain ⟨n_29, hw⟩ := hw
      exact L_X3_link_36 post hl9 hx hb hr hml hown hts hlocks hA hE n_29 p1 p2 0 x_28 g_26 hw _ _ _ hG (lv_sub hl [2, 3, 4, 1, 0] rfl)
    · have hw := hw.2 c_27
      refine lv_iconst (v := 0) hx hb dX3_link_24 (by decide) ?_
      exact g_iret hx hb hr hlocks hw hG (by decide) (by decide) dX3_link_25

def wpl_X3_fates_74 (post : Int32 → gS → Prop) : Nat → Int32 → Int64 → Int32 → Int32 → gS → Prop
  | 0 => fun _ _ _ _ _ => False
  | n + 1 => fun x1 x2 x4 x5 g => ((x4 ≤ x5) → (vp_in x1 24 ∧ (post (g.1 8 x1.toNatClampNeg) g))) ∧ ((¬ x4 ≤ x5) → (vp_in x1 24 ∧ (∀ x_13 : Int32, x_13 = ((x2 >>> ((2 * x5).toInt64 &&& 63)) &&& 3).toInt32 → (vp_in ((64 * x1) + (g.1 8 x1.toNatClampNeg)) 1536 ∧ (∀ g_15 : gS, g_15 = gi g 9 (((64 * x1) + (g.1 8 x1.toNatClampNeg)).toNatClampNeg) x_13 → (vp_in x1 24 ∧ (∀ x_17 : Int32, x_17 = (g_15.1 8 x1.toNatClampNeg) + 1 → (vp_in x1 24 ∧ (∀ g_19 : gS, g_19 = gi g_15 8 x1.toNatClampNeg x_17 → (∀ x_20 : Int32, x_20 = x5 + 1 → (wpl_X3_fates_74 post n x1 x2 x4 x_20 g_19)))))))))))
set_option maxHeartbeats 4000000 in
set_option maxRecDepth 100000 in
theorem L_X3_fates_74 {p : Program} {l : Launch} {e : Env} {s : State} {m : MethodId} {args : Array Value} {below : List Frame} {meth : Method} {c : Code} {D : va_G} {K : Nat → ClassId} {sa ad : Nat → Nat} {A : Nat → Prop} (post : Int32 → gS → Prop) (hl9 : l.stackTraces = false) (hx : p.tables.exec = Jvm.exec) (hb : c.code = cX3_fates) (hr : meth.sig.returnType = (some .int)) (hml : c.maxLocals = 6) (hown : s.vm.findClass RX3 = some m.cls) (hts : ∀ w ∈ wsX3_fates, w.before args s = true) (hlocks : meth.locks = false) (hA : ∀ q, s.heap.size ≤ q → A q) (hE : gE D K sa A s s.heap) : ∀ (n : Nat) (x1 : Int32) (x2 : Int64) (x4 : Int32) (x5 : Int32) (g : gS), wpl_X3_fates_74 post n x1 x2 x4 x5 g → ∀ (H : Heap) (locs : List Loc) (ls : Array Slot), gX D K ad A s.heap g H locs → lv_has ls 6 [(0, .ref (ad 4)), (1, .int x1), (2, .long x2), (4, .int x4), (5, .int x5)] → W p l e ({ frames := 1, cells := 0, slots := 0, locals := 21 } : Room) s m args below meth c H locs 0 0 (MQ below (va_Qi post (gB D K ad A) A) args s 0 0 A) (F0 m 74 ls []) := by
  have hK := hE.1
  have hq : ∀ w ∈ gW, w.before args s = true := fun w h => hts w (List.mem_cons_of_mem _ h)
  intro n
  induction n with
  | zero =>
    intro x1 x2 x4 x5 g hw
    exact hw.elim
  | succ n ih =>
    intro x1 x2 x4 x5 g hw H locs ls hG hl
    dsimp only [wpl_X3_fates_74] at hw
    refine lv_iload hx hb dX3_fates_74 (lv_at hl 4 rfl) ?_
    refine lv_iload hx hb dX3_fates_76 (lv_at hl 3 rfl) ?_
    refine lv_icmp_ge (tgt := 124) hx hb dX3_fates_78 (by decide) (fun c_10 => ?_) (fun c_10 => ?_)
    · have hw := hw.1 c_10
      refine lv_aload_n hx hb dX3_fates_124 rfl (lv_at hl 0 rfl) ?_
      refine g_get (own := RX3) (C := RX3) (T := TX3) (N := 19) (ci := 3) hx hb hq hin_X3 hown hK hG (k := 4) (gok_lo (by decide)) (gc_M) rfl 6 (by decide) (hq _ q_419) rfl (v := .ref (ad 8)) rfl dX3_fates_125 ?_
      refine lv_iload_n hx hb dX3_fates_128 rfl (lv_at hl 1 rfl) ?_
      obtain ⟨hi_11, hw⟩ := hw
      refine g_iald hx hb hK hG (k := 8) (gok_lo (by decide)) (gc_8) hi_11 dX3_fates_129 ?_
      exact g_iret hx hb hr hlocks hw hG (by decide) (by decide) dX3_fates_130
    · have hw := hw.2 c_10
      refine lv_aload_n hx hb dX3_fates_81 rfl (lv_at hl 0 rfl) ?_
      refine g_get (own := RX3) (C := RX3) (T := TX3) (N := 19) (ci := 3) hx hb hq hin_X3 hown hK hG (k := 4) (gok_lo (by decide)) (gc_M) rfl 7 (by decide) (hq _ q_420) rfl (v := .ref (ad 9)) rfl dX3_fates_82 ?_
      refine lv_bipush (v := 64) hx hb dX3_fates_85 (by decide) ?_
      refine lv_iload_n hx hb dX3_fates_87 rfl (lv_at hl 1 rfl) ?_
      refine lv_imul hx hb dX3_fates_88 ?_
      refine lv_aload_n hx hb dX3_fates_89 rfl (lv_at hl 0 rfl) ?_
      refine g_get (own := RX3) (C := RX3) (T := TX3) (N := 19) (ci := 3) hx hb hq hin_X3 hown hK hG (k := 4) (gok_lo (by decide)) (gc_M) rfl 6 (by decide) (hq _ q_419) rfl (v := .ref (ad 8)) rfl dX3_fates_90 ?_
      refine lv_iload_n hx hb dX3_fates_93 rfl (lv_at hl 1 rfl) ?_
      obtain ⟨hi_12, hw⟩ := hw
      refine g_iald hx hb hK hG (k := 8) (gok_lo (by decide)) (gc_8) hi_12 dX3_fates_94 ?_
      refine lv_iadd hx hb dX3_fates_95 ?_
      refine lv_lload_n hx hb dX3_fates_96 rfl (lv_at hl 2 rfl) ?_
      refine lv_iconst (v := 2) hx hb dX3_fates_97 (by decide) ?_
      refine lv_iload hx hb dX3_fates_98 (lv_at hl 4 rfl) ?_
      refine lv_imul hx hb dX3_fates_100 ?_
      refine lv_lshr hx hb dX3_fates_101 rfl ?_
      refine lv_ldc2 (own := RX3) (v := 3) hx hb hown (hq _ q_498) dX3_fates_102 ?_
      refine lv_land hx hb dX3_fates_105 ?_
      refine lv_l2i hx hb dX3_fates_106 rfl ?_
      refine lv_topi (fun x_13 ex_13 => ?_)
      have hw := hw x_13 ex_13
      obtain ⟨hi_14, hw⟩ := hw
      refine g_iast hx hb hK hG (k := 9) (gok_lo (by decide)) (fun g => gc_9) (x := x_13) hi_14 (gho_lo (by decide)) dX3_fates_107 (fun H locs hG => ?_)
      obtain ⟨g_15, eg_15⟩ : ∃ z, z = gi g 9 (((64 * x1) + (g.1 8 x1.toNatClampNeg)).toNatClampNeg) x_13 := ⟨_, rfl⟩
      rw [← eg_15] at hG
      have hw := hw g_15 eg_15
      refine lv_aload_n hx hb dX3_fates_108 rfl (lv_at hl 0 rfl) ?_
      refine g_get (own := RX3) (C := RX3) (T := TX3) (N := 19) (ci := 3) hx hb hq hin_X3 hown hK hG (k := 4) (gok_lo (by decide)) (gc_M) rfl 6 (by decide) (hq _ q_419) rfl (v := .ref (ad 8)) rfl dX3_fates_109 ?_
      refine lv_iload_n hx hb dX3_fates_112 rfl (lv_at hl 1 rfl) ?_
      refine lv_dup2_11 hx hb dX3_fates_113 rfl rfl ?_
      obtain ⟨hi_16, hw⟩ := hw
      refine g_iald hx hb hK hG (k := 8) (gok_lo (by decide)) (gc_8) hi_16 dX3_fates_114 ?_
      refine lv_iconst (v := 1) hx hb dX3_fates_115 (by decide) ?_
      refine lv_iadd hx hb dX3_fates_116 ?_
      refine lv_topi (fun x_17 ex_17 => ?_)
      have hw := hw x_17 ex_17
      obtain ⟨hi_18, hw⟩ := hw
      refine g_iast hx hb hK hG (k := 8) (gok_lo (by decide)) (fun g => gc_8) (x := x_17) hi_18 (gho_lo (by decide)) dX3_fates_117 (fun H locs hG => ?_)
      obtain ⟨g_19, eg_19⟩ : ∃ z, z = gi g_15 8 x1.toNatClampNeg x_17 := ⟨_, rfl⟩
      rw [← eg_19] at hG
      have hw := hw g_19 eg_19
      obtain ⟨x_20, ex_20⟩ : ∃ y : Int32, y = x5 + 1 := ⟨_, rfl⟩
      have hw := hw x_20 ex_20
      refine lv_iinc (v := x_20) (lv' := [(5, .int x_20), (0, .ref (ad 4)), (1, .int x1), (2, .long x2), (4, .int x4)]) hx hb dX3_fates_118 hl (k := 4) rfl (by rw [ex_20]; rfl) (by decide) rfl (fun ls hl => ?_)
      refine lv_goto (tgt := 74) hx hb dX3_fates_121 (by decide) ?_
      exact ih x1 x2 x4 x_20 g_19 hw _ _ _ hG (lv_sub hl [1, 2, 3, 4, 0] rfl)
def wp_X3_fates (post : Int32 → gS → Prop) (p1 : Int32) (p2 : Int64) (p3 : Int32) (g : gS) : Prop := wp_X3_isNet (fun r_2 g_1 => (((r_2 = 0) → (∀ g_4 : gS, g_4 = gi g_1 4 0 (1 : Int32) → ((((g_4.1 4 0) ≤ 0) → (vp_in p1 24 ∧ (((((g_4.1 8 p1.toNatClampNeg) + p3) ≤ 64) → (∀ g_8 : gS, g_8 = gi g_4 4 0 (0 : Int32) → ((((g_8.1 4 0) ≤ 0) → (∃ n, wpl_X3_fates_74 post n p1 p2 p3 0 g_8)) ∧ ((¬ (g_8.1 4 0) ≤ 0) → (post 0 g_8))))) ∧ ((¬ ((g_4.1 8 p1.toNatClampNeg) + p3) ≤ 64) → (∀ g_22 : gS, g_22 = gi g_4 4 0 (2 : Int32) → ((((g_22.1 4 0) ≤ 0) → (∃ n, wpl_X3_fates_74 post n p1 p2 p3 0 g_22)) ∧ ((¬ (g_22.1 4 0) ≤ 0) → (post 0 g_22)))))))) ∧ ((¬ (g_4.1 4 0) ≤ 0) → (post 0 g_4))))) ∧ ((¬ r_2 = 0) → (((p3 < 1) → (∀ g_26 : gS, g_26 = gi g_1 4 0 (1 : Int32) → ((((g_26.1 4 0) ≤ 0) → (vp_in p1 24 ∧ (((((g_26.1 8 p1.toNatClampNeg) + p3) ≤ 64) → (∀ g_30 : gS, g_30 = gi g_26 4 0 (0 : Int32) → ((((g_30.1 4 0) ≤ 0) → (∃ n, wpl_X3_fates_74 post n p1 p2 p3 0 g_30)) ∧ ((¬ (g_30.1 4 0) ≤ 0) → (post 0 g_30))))) ∧ ((¬ ((g_26.1 8 p1.toNatClampNeg) + p3) ≤ 64) → (∀ g_33 : gS, g_33 = gi g_26 4 0 (2 : Int32) → ((((g_33.1 4 0) ≤ 0) → (∃ n, wpl_X3_fates_74 post n p1 p2 p3 0 g_33)) ∧ ((¬ (g_33.1 4 0) ≤ 0) → (post 0 g_33)))))))) ∧ ((¬ (g_26.1 4 0) ≤ 0) → (post 0 g_26))))) ∧ ((¬ p3 < 1) → (((p3 ≤ 32) → (∀ g_37 : gS, g_37 = gi g_1 4 0 (0 : Int32) → ((((g_37.1 4 0) ≤ 0) → (vp_in p1 24 ∧ (((((g_37.1 8 p1.toNatClampNeg) + p3) ≤ 64) → (∀ g_41 : gS, g_41 = gi g_37 4 0 (0 : Int32) → ((((g_41.1 4 0) ≤ 0) → (∃ n, wpl_X3_fates_74 post n p1 p2 p3 0 g_41)) ∧ ((¬ (g_41.1 4 0) ≤ 0) → (post 0 g_41))))) ∧ ((¬ ((g_37.1 8 p1.toNatClampNeg) + p3) ≤ 64) → (∀ g_44 : gS, g_44 = gi g_37 4 0 (2 : Int32) → ((((g_44.1 4 0) ≤ 0) → (∃ n, wpl_X3_fates_74 post n p1 p2 p3 0 g_44)) ∧ ((¬ (g_44.1 4 0) ≤ 0) → (post 0 g_44)))))))) ∧ ((¬ (g_37.1 4 0) ≤ 0) → (post 0 g_37))))) ∧ ((¬ p3 ≤ 32) → (∀ g_47 : gS, g_47 = gi g_1 4 0 (1 : Int32) → ((((g_47.1 4 0) ≤ 0) → (vp_in p1 24 ∧ (((((g_47.1 8 p1.toNatClampNeg) + p3) ≤ 64) → (∀ g_51 : gS, g_51 = gi g_47 4 0 (0 : Int32) → ((((g_51.1 4 0) ≤ 0) → (∃ n, wpl_X3_fates_74 post n p1 p2 p3 0 g_51)) ∧ ((¬ (g_51.1 4 0) ≤ 0) → (post 0 g_51))))) ∧ ((¬ ((g_47.1 8 p1.toNatClampNeg) + p3) ≤ 64) → (∀ g_54 : gS, g_54 = gi g_47 4 0 (2 : Int32) → ((((g_54.1 4 0) ≤ 0) → (∃ n, wpl_X3_fates_74 post n p1 p2 p3 0 g_54)) ∧ ((¬ (g_54.1 4 0) ≤ 0) → (post 0 g_54)))))))) ∧ ((¬ (g_47.1 4 0) ≤ 0) → (post 0 g_47))))))))))) p1 g
set_option maxHeartbeats 4000000 in
set_option maxRecDepth 100000 in
theorem m_X3_fates {l : Launch} (hl9 : l.stackTraces = false) (D : va_G) (K : Nat → ClassId) (sa ad : Nat → Nat) (sz : Nat) (post : Int32 → gS → Prop) (p1 : Int32) (p2 : Int64) (p3 : Int32) (g : gS) (hw : wp_X3_fates post p1 p2 p3 g) : Met l yX3_fates wsX3_fates ({ frames := 1, cells := 0, slots := 0, locals := 21 } : Room) (gPc D K sa ad sz g [.ref (ad 4), .int p1, .long p2, .int p3]) (va_Qi post (gB D K ad (va_A (gw K ad g) sz)) (va_A (gw K ad g) sz)) 0 0 (va_A (gw K ad g) sz) := by
  refine Met.ofW (cc := cX3_fates) (maxL := 6) (ret := (some .int)) (by decide) rfl ?_
  intro p e s m args below meth c s₁ B hml hv
  obtain ⟨rfl, hsz, hP, hE, hD0⟩ := hv
  have hx := B.exec
  have hb := B.bytes
  have hr := B.returns
  have hts := atoms_spec (ws := wsX3_fates) B.pre
  have hq : ∀ w ∈ gW, w.before _ s = true := fun w h => hts w (List.mem_cons_of_mem _ h)
  have hown : s.vm.findClass RX3 = some m.cls := findClass_of_methodNamed B.named
  have hlocks := B.notSynchronized
  subst hsz
  have hD := hD0.self (sz := s.heap.size)
  generalize hAe : va_A (gw K ad g) s.heap.size = A at hD hE ⊢
  have hA : ∀ q : Nat, s.heap.size ≤ q → A q := fun q h => by rw [← hAe]; exact Or.inr h
  have hK := hE.1
  have hG : gX D K ad A s.heap g s.heap [] := ⟨hP, hD, va_S.rf⟩
  have hl := lv_entry ([.ref (ad 4), .int p1, .long p2, .int p3]) (n := 6) (Nat.le_of_ble_eq_true rfl)
  rw [lg_entry_eq]
  generalize (lg_sl ([.ref (ad 4), .int p1, .long p2, .int p3]) ++ List.replicate (6 - (lg_sl ([.ref (ad 4), .int p1, .long p2, .int p3])).length) Slot.unset).toArray = ls at hl ⊢
  have hl : lv_has ls 6 [(0, .ref (ad 4)), (1, .int p1), (2, .long p2), (4, .int p3)] := hl
  dsimp only [wp_X3_fates] at hw
  refine lv_aload_n hx hb dX3_fates_0 rfl (lv_at hl 0 rfl) ?_
  refine lv_aload_n hx hb dX3_fates_1 rfl (lv_at hl 0 rfl) ?_
  refine lv_iload_n hx hb dX3_fates_2 rfl (lv_at hl 1 rfl) ?_
  refine g_calli (va_runV (As := [.int p1]) (rest := [.ref (ad 4)]) ⟨hx, hb, hml, hown, hts⟩ (m_X3_isNet hl9 D K sa ad _ _ p1 g hw) (cwV 1 hts (gGood gCons (gV q_486 q_488 q_13 q_23 q_489)) rfl rfl rfl (by decide +kernel) ⟨Nat.le_of_ble_eq_true rfl, Nat.le_of_ble_eq_true rfl⟩) ⟨gPc_blind, g_recv hK hG (gok_lo (by decide)) (gc_M) rfl, gPc_at hE hG hA⟩ rfl rfl hl.1 rfl (lv_room (Nat.le_of_ble_eq_true rfl)) dX3_fates_3 ⟨Nat.le_of_ble_eq_true rfl, Nat.le_of_ble_eq_true rfl⟩) hG hA (fun r_2 g_1 H locs hw hG => ?_)
  try dsimp only at hw
  refine lv_if_eq (tgt := 22) hx hb dX3_fates_6 (by decide) (fun c_3 => ?_) (fun c_3 => ?_)
  · have hw := hw.1 c_3
    refine lv_iconst (v := 1) hx hb dX3_fates_22 (by decide) ?_
    refine lv_goto (tgt := 27) hx hb dX3_fates_23 (by decide) ?_
    refine g_put (own := RX3) (C := RX3) (T := TX3) (N := 19) (ci := 3) hx hb hq hin_X3 tyX3 tyX3_ok nmX3 hown hK hG (k := 4) (gok_lo (by decide)) (gc_M) rfl 0 (by decide) (hq _ q_413) rfl rfl (ty := .int) (v := .int 1) (by decide +kernel) rfl rfl (Nat.le_of_ble_eq_true rfl) (gi g_1 4 0 (1 : Int32)) (gs_M0) (gho_lo (by decide)) dX3_fates_27 (fun H locs hG => ?_)
    obtain ⟨g_4, eg_4⟩ : ∃ z, z = gi g_1 4 0 (1 : Int32) := ⟨_, rfl⟩
    rw [← eg_4] at hG
    have hw := hw g_4 eg_4
    refine lv_aload_n hx hb dX3_fates_30 rfl (lv_at hl 0 rfl) ?_
    refine g_get (own := RX3) (C := RX3) (T := TX3) (N := 19) (ci := 3) hx hb hq hin_X3 hown hK hG (k := 4) (gok_lo (by decide)) (gc_M) rfl 0 (by decide) (hq _ q_413) rfl (v := .int (g_4.1 4 0)) rfl dX3_fates_31 ?_
    refine lv_if_le (tgt := 39) hx hb dX3_fates_34 (by decide) (fun c_5 => ?_) (fun c_5 => ?_)
    · have hw := hw.1 c_5
      refine lv_aload_n hx hb dX3_fates_39 rfl (lv_at hl 0 rfl) ?_
      refine lv_aload_n hx hb dX3_fates_40 rfl (lv_at hl 0 rfl) ?_
      refine g_get (own := RX3) (C := RX3) (T := TX3) (N := 19) (ci := 3) hx hb hq hin_X3 hown hK hG (k := 4) (gok_lo (by decide)) (gc_M) rfl 6 (by decide) (hq _ q_419) rfl (v := .ref (ad 8)) rfl dX3_fates_41 ?_
      refine lv_iload_n hx hb dX3_fates_44 rfl (lv_at hl 1 rfl) ?_
      obtain ⟨hi_6, hw⟩ := hw
      refine g_iald hx hb hK hG (k := 8) (gok_lo (by decide)) (gc_8) hi_6 dX3_fates_45 ?_
      refine lv_iload hx hb dX3_fates_46 (lv_at hl 3 rfl) ?_
      refine lv_iadd hx hb dX3_fates_48 ?_
      refine lv_bipush (v := 64) hx hb dX3_fates_49 (by decide) ?_
      refine lv_icmp_le (tgt := 58) hx hb dX3_fates_51 (by decide) (fun c_7 => ?_) (fun c_7 => ?_)
      · have hw := hw.1 c_7
        refine lv_iconst (v := 0) hx hb dX3_fates_58 (by decide) ?_
        refine g_put (own := RX3) (C := RX3) (T := TX3) (N := 19) (ci := 3) hx hb hq hin_X3 tyX3 tyX3_ok nmX3 hown hK hG (k := 4) (gok_lo (by decide)) (gc_M) rfl 0 (by decide) (hq _ q_413) rfl rfl (ty := .int) (v := .int 0) (by decide +kernel) rfl rfl (Nat.le_of_ble_eq_true rfl) (gi g_4 4 0 (0 : Int32)) (gs_M0) (gho_lo (by decide)) dX3_fates_59 (fun H locs hG => ?_)
        obtain ⟨g_8, eg_8⟩ : ∃ z, z = gi g_4 4 0 (0 : Int32) := ⟨_, rfl⟩
        rw [← eg_8] at hG
        have hw := hw g_8 eg_8
        refine lv_aload_n hx hb dX3_fates_62 rfl (lv_at hl 0 rfl) ?_
        refine g_get (own := RX3) (C := RX3) (T := TX3) (N := 19) (ci := 3) hx hb hq hin_X3 hown hK hG (k := 4) (gok_lo (by decide)) (gc_M) rfl 0 (by decide) (hq _ q_413) rfl (v := .int (g_8.1 4 0)) rfl dX3_fates_63 ?_
        refine lv_if_le (tgt := 71) hx hb dX3_fates_66 (by decide) (fun c_9 => ?_) (fun c_9 => ?_)
        · have hw := hw.1 c_9
          refine lv_iconst (v := 0) hx hb dX3_fates_71 (by decide) ?_
          refine lv_istore (lv' := [(5, .int 0), (0, .ref (ad 4)), (1, .int p1), (2, .long p2), (4, .int p3)]) hx hb dX3_fates_72 hl (by decide) rfl (fun ls hl => ?_)
          obtain ⟨n_21, hw⟩ := hw
          exact L_X3_fates_74 post hl9 hx hb hr hml hown hts hlocks hA hE n_21 p1 p2 p3 0 g_8 hw _ _ _ hG (lv_sub hl [1, 2, 3, 4, 0] rfl)
        · have hw := hw.2 c_9
          refine lv_iconst (v := 0) hx hb dX3_fates_69 (by decide) ?_
          exact g_iret hx hb hr hlocks hw hG (by decide) (by decide) dX3_fates_70
      · have hw := hw.2 c_7
        refine lv_iconst (v := 2) hx hb dX3_fates_54 (by decide) ?_
        refine lv_goto (tgt := 59) hx hb dX3_fates_55 (by decide) ?_
        refine g_put (own := RX3) (C := RX3) (T := TX3) (N := 19) (ci := 3) hx hb hq hin_X3 tyX3 tyX3_ok nmX3 hown hK hG (k := 4) (gok_lo (by decide)) (gc_M) rfl 0 (by decide) (hq _ q_413) rfl rfl (ty := .int) (v := .int 2) (by decide +kernel) rfl rfl (Nat.le_of_ble_eq_true rfl) (gi g_4 4 0 (2 : Int32)) (gs_M0) (gho_lo (by decide)) dX3_fates_59 (fun H locs hG => ?_)
        obtain ⟨g_22, eg_22⟩ : ∃ z, z = gi g_4 4 0 (2 : Int32) := ⟨_, rfl⟩
        rw [← eg_22] at hG
        have hw := hw g_22 eg_22
        refine lv_aload_n hx hb dX3_fates_62 rfl (lv_at hl 0 rfl) ?_
        refine g_get (own := RX3) (C := RX3) (T := TX3) (N := 19) (ci := 3) hx hb hq hin_X3 hown hK hG (k := 4) (gok_lo (by decide)) (gc_M) rfl 0 (by decide) (hq _ q_413) rfl (v := .int (g_22.1 4 0)) rfl dX3_fates_63 ?_
        refine lv_if_le (tgt := 71) hx hb dX3_fates_66 (by decide) (fun c_23 => ?_) (fun c_23 => ?_)
        · have hw := hw.1 c_23
          refine lv_iconst (v := 0) hx hb dX3_fates_71 (by decide) ?_
          refine lv_istore (lv' := [(5, .int 0), (0, .ref (ad 4)), (1, .int p1), (2, .long p2), (4, .int p3)]) hx hb dX3_fates_72 hl (by decide) rfl (fun ls hl => ?_)
          obtain ⟨n_24, hw⟩ := hw
          exact L_X3_fates_74 post hl9 hx hb hr hml hown hts hlocks hA hE n_24 p1 p2 p3 0 g_22 hw _ _ _ hG (lv_sub hl [1, 2, 3, 4, 0] rfl)
        · have hw := hw.2 c_23
          refine lv_iconst (v := 0) hx hb dX3_fates_69 (by decide) ?_
          exact g_iret hx hb hr hlocks hw hG (by decide) (by decide) dX3_fates_70
    · have hw := hw.2 c_5
      refine lv_iconst (v := 0) hx hb dX3_fates_37 (by decide) ?_
      exact g_iret hx hb hr hlocks hw hG (by decide) (by decide) dX3_fates_38
  · have hw := hw.2 c_3
    refine lv_iload hx hb dX3_fates_9 (lv_at hl 3 rfl) ?_
    refine lv_iconst (v := 1) hx hb dX3_fates_11 (by decide) ?_
    refine lv_icmp_lt (tgt := 22) hx hb dX3_fates_12 (by decide) (fun c_25 => ?_) (fun c_25 => ?_)
    · have hw := hw.1 c_25
      refine lv_iconst (v := 1) hx hb dX3_fates_22 (by decide) ?_
      refine lv_goto (tgt := 27) hx hb dX3_fates_23 (by decide) ?_
      refine g_put (own := RX3) (C := RX3) (T := TX3) (N := 19) (ci := 3) hx hb hq hin_X3 tyX3 tyX3_ok nmX3 hown hK hG (k := 4) (gok_lo (by decide)) (gc_M) rfl 0 (by decide) (hq _ q_413) rfl rfl (ty := .int) (v := .int 1) (by decide +kernel) rfl rfl (Nat.le_of_ble_eq_true rfl) (gi g_1 4 0 (1 : Int32)) (gs_M0) (gho_lo (by decide)) dX3_fates_27 (fun H locs hG => ?_)
      obtain ⟨g_26, eg_26⟩ : ∃ z, z = gi g_1 4 0 (1 : Int32) := ⟨_, rfl⟩
      rw [← eg_26] at hG
      have hw := hw g_26 eg_26
      refine lv_aload_n hx hb dX3_fates_30 rfl (lv_at hl 0 rfl) ?_
      refine g_get (own := RX3) (C := RX3) (T := TX3) (N := 19) (ci := 3) hx hb hq hin_X3 hown hK hG (k := 4) (gok_lo (by decide)) (gc_M) rfl 0 (by decide) (hq _ q_413) rfl (v := .int (g_26.1 4 0)) rfl dX3_fates_31 ?_
      refine lv_if_le (tgt := 39) hx hb dX3_fates_34 (by decide) (fun c_27 => ?_) (fun c_27 => ?_)
      · have hw := hw.1 c_27
        refine lv_aload_n hx hb dX3_fates_39 rfl (lv_at hl 0 rfl) ?_
        refine lv_aload_n hx hb dX3_fates_40 rfl (lv_at hl 0 rfl) ?_
        refine g_get (own := RX3) (C := RX3) (T := TX3) (N := 19) (ci := 3) hx hb hq hin_X3 hown hK hG (k := 4) (gok_lo (by decide)) (gc_M) rfl 6 (by decide) (hq _ q_419) rfl (v := .ref (ad 8)) rfl dX3_fates_41 ?_
        refine lv_iload_n hx hb dX3_fates_44 rfl (lv_at hl 1 rfl) ?_
        obtain ⟨hi_28, hw⟩ := hw
        refine g_iald hx hb hK hG (k := 8) (gok_lo (by decide)) (gc_8) hi_28 dX3_fates_45 ?_
        refine lv_iload hx hb dX3_fates_46 (lv_at hl 3 rfl) ?_
        refine lv_iadd hx hb dX3_fates_48 ?_
        refine lv_bipush (v := 64) hx hb dX3_fates_49 (by decide) ?_
        refine lv_icmp_le (tgt := 58) hx hb dX3_fates_51 (by decide) (fun c_29 => ?_) (fun c_29 => ?_)
        · have hw := hw.1 c_29
          refine lv_iconst (v := 0) hx hb dX3_fates_58 (by decide) ?_
          refine g_put (own := RX3) (C := RX3) (T := TX3) (N := 19) (ci := 3) hx hb hq hin_X3 tyX3 tyX3_ok nmX3 hown hK hG (k := 4) (gok_lo (by decide)) (gc_M) rfl 0 (by decide) (hq _ q_413) rfl rfl (ty := .int) (v := .int 0) (by decide +kernel) rfl rfl (Nat.le_of_ble_eq_true rfl) (gi g_26 4 0 (0 : Int32)) (gs_M0) (gho_lo (by decide)) dX3_fates_59 (fun H locs hG => ?_)
          obtain ⟨g_30, eg_30⟩ : ∃ z, z = gi g_26 4 0 (0 : Int32) := ⟨_, rfl⟩
          rw [← eg_30] at hG
          have hw := hw g_30 eg_30
          refine lv_aload_n hx hb dX3_fates_62 rfl (lv_at hl 0 rfl) ?_
          refine g_get (own := RX3) (C := RX3) (T := TX3) (N := 19) (ci := 3) hx hb hq hin_X3 hown hK hG (k := 4) (gok_lo (by decide)) (gc_M) rfl 0 (by decide) (hq _ q_413) rfl (v := .int (g_30.1 4 0)) rfl dX3_fates_63 ?_
          refine lv_if_le (tgt := 71) hx hb dX3_fates_66 (by decide) (fun c_31 => ?_) (fun c_31 => ?_)
          · have hw := hw.1 c_31
            refine lv_iconst (v := 0) hx hb dX3_fates_71 (by decide) ?_
            refine lv_istore (lv' := [(5, .int 0), (0, .ref (ad 4)), (1, .int p1), (2, .long p2), (4, .int p3)]) hx hb dX3_fates_72 hl (by decide) rfl (fun ls hl => ?_)
            obtain ⟨n_32, hw⟩ := hw
            exact L_X3_fates_74 post hl9 hx hb hr hml hown hts hlocks hA hE n_32 p1 p2 p3 0 g_30 hw _ _ _ hG (lv_sub hl [1, 2, 3, 4, 0] rfl)
          · have hw := hw.2 c_31
            refine lv_iconst (v := 0) hx hb dX3_fates_69 (by decide) ?_
            exact g_iret hx hb hr hlocks hw hG (by decide) (by decide) dX3_fates_70
        · have hw := hw.2 c_29
          refine lv_iconst (v := 2) hx hb dX3_fates_54 (by decide) ?_
          refine lv_goto (tgt := 59) hx hb dX3_fates_55 (by decide) ?_
          refine g_put (own := RX3) (C := RX3) (T := TX3) (N := 19) (ci := 3) hx hb hq hin_X3 tyX3 tyX3_ok nmX3 hown hK hG (k := 4) (gok_lo (by decide)) (gc_M) rfl 0 (by decide) (hq _ q_413) rfl rfl (ty := .int) (v := .int 2) (by decide +kernel) rfl rfl (Nat.le_of_ble_eq_true rfl) (gi g_26 4 0 (2 : Int32)) (gs_M0) (gho_lo (by decide)) dX3_fates_59 (fun H locs hG => ?_)
          obtain ⟨g_33, eg_33⟩ : ∃ z, z = gi g_26 4 0 (2 : Int32) := ⟨_, rfl⟩
          rw [← eg_33] at hG
          have hw := hw g_33 eg_33
          refine lv_aload_n hx hb dX3_fates_62 rfl (lv_at hl 0 rfl) ?_
          refine g_get (own := RX3) (C := RX3) (T := TX3) (N := 19) (ci := 3) hx hb hq hin_X3 hown hK hG (k := 4) (gok_lo (by decide)) (gc_M) rfl 0 (by decide) (hq _ q_413) rfl (v := .int (g_33.1 4 0)) rfl dX3_fates_63 ?_
          refine lv_if_le (tgt := 71) hx hb dX3_fates_66 (by decide) (fun c_34 => ?_) (fun c_34 => ?_)
          · have hw := hw.1 c_34
            refine lv_iconst (v := 0) hx hb dX3_fates_71 (by decide) ?_
            refine lv_istore (lv' := [(5, .int 0), (0, .ref (ad 4)), (1, .int p1), (2, .long p2), (4, .int p3)]) hx hb dX3_fates_72 hl (by decide) rfl (fun ls hl => ?_)
            obtain ⟨n_35, hw⟩ := hw
            exact L_X3_fates_74 post hl9 hx hb hr hml hown hts hlocks hA hE n_35 p1 p2 p3 0 g_33 hw _ _ _ hG (lv_sub hl [1, 2, 3, 4, 0] rfl)
          · have hw := hw.2 c_34
            refine lv_iconst (v := 0) hx hb dX3_fates_69 (by decide) ?_
            exact g_iret hx hb hr hlocks hw hG (by decide) (by decide) dX3_fates_70
      · have hw := hw.2 c_27
        refine lv_iconst (v := 0) hx hb dX3_fates_37 (by decide) ?_
        exact g_iret hx hb hr hlocks hw hG (by decide) (by decide) dX3_fates_38
    · have hw := hw.2 c_25
      refine lv_iload hx hb dX3_fates_15 (lv_at hl 3 rfl) ?_
      refine lv_bipush (v := 32) hx hb dX3_fates_17 (by decide) ?_
      refine lv_icmp_le (tgt := 26) hx hb dX3_fates_19 (by decide) (fun c_36 => ?_) (fun c_36 => ?_)
      · have hw := hw.1 c_36
        refine lv_iconst (v := 0) hx hb dX3_fates_26 (by decide) ?_
        refine g_put (own := RX3) (C := RX3) (T := TX3) (N := 19) (ci := 3) hx hb hq hin_X3 tyX3 tyX3_ok nmX3 hown hK hG (k := 4) (gok_lo (by decide)) (gc_M) rfl 0 (by decide) (hq _ q_413) rfl rfl (ty := .int) (v := .int 0) (by decide +kernel) rfl rfl (Nat.le_of_ble_eq_true rfl) (gi g_1 4 0 (0 : Int32)) (gs_M0) (gho_lo (by decide)) dX3_fates_27 (fun H locs hG => ?_)
        obtain ⟨g_37, eg_37⟩ : ∃ z, z = gi g_1 4 0 (0 : Int32) := ⟨_, rfl⟩
        rw [← eg_37] at hG
        have hw := hw g_37 eg_37
        refine lv_aload_n hx hb dX3_fates_30 rfl (lv_at hl 0 rfl) ?_
        refine g_get (own := RX3) (C := RX3) (T := TX3) (N := 19) (ci := 3) hx hb hq hin_X3 hown hK hG (k := 4) (gok_lo (by decide)) (gc_M) rfl 0 (by decide) (hq _ q_413) rfl (v := .int (g_37.1 4 0)) rfl dX3_fates_31 ?_
        refine lv_if_le (tgt := 39) hx hb dX3_fates_34 (by decide) (fun c_38 => ?_) (fun c_38 => ?_)
        · have hw := hw.1 c_38
          refine lv_aload_n hx hb dX3_fates_39 rfl (lv_at hl 0 rfl) ?_
          refine lv_aload_n hx hb dX3_fates_40 rfl (lv_at hl 0 rfl) ?_
          refine g_get (own := RX3) (C := RX3) (T := TX3) (N := 19) (ci := 3) hx hb hq hin_X3 hown hK hG (k := 4) (gok_lo (by decide)) (gc_M) rfl 6 (by decide) (hq _ q_419) rfl (v := .ref (ad 8)) rfl dX3_fates_41 ?_
          refine lv_iload_n hx hb dX3_fates_44 rfl (lv_at hl 1 rfl) ?_
          obtain ⟨hi_39, hw⟩ := hw
          refine g_iald hx hb hK hG (k := 8) (gok_lo (by decide)) (gc_8) hi_39 dX3_fates_45 ?_
          refine lv_iload hx hb dX3_fates_46 (lv_at hl 3 rfl) ?_
          refine lv_iadd hx hb dX3_fates_48 ?_
          refine lv_bipush (v := 64) hx hb dX3_fates_49 (by decide) ?_
          refine lv_icmp_le (tgt := 58) hx hb dX3_fates_51 (by decide) (fun c_40 => ?_) (fun c_40 => ?_)
          · have hw := hw.1 c_40
            refine lv_iconst (v := 0) hx hb dX3_fates_58 (by decide) ?_
            refine g_put (own := RX3) (C := RX3) (T := TX3) (N := 19) (ci := 3) hx hb hq hin_X3 tyX3 tyX3_ok nmX3 hown hK hG (k := 4) (gok_lo (by decide)) (gc_M) rfl 0 (by decide) (hq _ q_413) rfl rfl (ty := .int) (v := .int 0) (by decide +kernel) rfl rfl (Nat.le_of_ble_eq_true rfl) (gi g_37 4 0 (0 : Int32)) (gs_M0) (gho_lo (by decide)) dX3_fates_59 (fun H locs hG => ?_)
            obtain ⟨g_41, eg_41⟩ : ∃ z, z = gi g_37 4 0 (0 : Int32) := ⟨_, rfl⟩
            rw [← eg_41] at hG
            have hw := hw g_41 eg_41
            refine lv_aload_n hx hb dX3_fates_62 rfl (lv_at hl 0 rfl) ?_
            refine g_get (own := RX3) (C := RX3) (T := TX3) (N := 19) (ci := 3) hx hb hq hin_X3 hown hK hG (k := 4) (gok_lo (by decide)) (gc_M) rfl 0 (by decide) (hq _ q_413) rfl (v := .int (g_41.1 4 0)) rfl dX3_fates_63 ?_
            refine lv_if_le (tgt := 71) hx hb dX3_fates_66 (by decide) (fun c_42 => ?_) (fun c_42 => ?_)
            · have hw := hw.1 c_42
              refine lv_iconst (v := 0) hx hb dX3_fates_71 (by decide) ?_
              refine lv_istore (lv' := [(5, .int 0), (0, .ref (ad 4)), (1, .int p1), (2, .long p2), (4, .int p3)]) hx hb dX3_fates_72 hl (by decide) rfl (fun ls hl => ?_)
              obtain ⟨n_43, hw⟩ := hw
              exact L_X3_fates_74 post hl9 hx hb hr hml hown hts hlocks hA hE n_43 p1 p2 p3 0 g_41 hw _ _ _ hG (lv_sub hl [1, 2, 3, 4, 0] rfl)
            · have hw := hw.2 c_42
              refine lv_iconst (v := 0) hx hb dX3_fates_69 (by decide) ?_
              exact g_iret hx hb hr hlocks hw hG (by decide) (by decide) dX3_fates_70
          · have hw := hw.2 c_40
            refine lv_iconst (v := 2) hx hb dX3_fates_54 (by decide) ?_
            refine lv_goto (tgt := 59) hx hb dX3_fates_55 (by decide) ?_
            refine g_put (own := RX3) (C := RX3) (T := TX3) (N := 19) (ci := 3) hx hb hq hin_X3 tyX3 tyX3_ok nmX3 hown hK hG (k := 4) (gok_lo (by decide)) (gc_M) rfl 0 (by decide) (hq _ q_413) rfl rfl (ty := .int) (v := .int 2) (by decide +kernel) rfl rfl (Nat.le_of_ble_eq_true rfl) (gi g_37 4 0 (2 : Int32)) (gs_M0) (gho_lo (by decide)) dX3_fates_59 (fun H locs hG => ?_)
            obtain ⟨g_44, eg_44⟩ : ∃ z, z = gi g_37 4 0 (2 : Int32) := ⟨_, rfl⟩
            rw [← eg_44] at hG
            have hw := hw g_44 eg_44
            refine lv_aload_n hx hb dX3_fates_62 rfl (lv_at hl 0 rfl) ?_
            refine g_get (own := RX3) (C := RX3) (T := TX3) (N := 19) (ci := 3) hx hb hq hin_X3 hown hK hG (k := 4) (gok_lo (by decide)) (gc_M) rfl 0 (by decide) (hq _ q_413) rfl (v := .int (g_44.1 4 0)) rfl dX3_fates_63 ?_
            refine lv_if_le (tgt := 71) hx hb dX3_fates_66 (by decide) (fun c_45 => ?_) (fun c_45 => ?_)
            · have hw := hw.1 c_45
              refine lv_iconst (v := 0) hx hb dX3_fates_71 (by decide) ?_
              refine lv_istore (lv' := [(5, .int 0), (0, .ref (ad 4)), (1, .int p1), (2, .long p2), (4, .int p3)]) hx hb dX3_fates_72 hl (by decide) rfl (fun ls hl => ?_)
              obtain ⟨n_46, hw⟩ := hw
              exact L_X3_fates_74 post hl9 hx hb hr hml hown hts hlocks hA hE n_46 p1 p2 p3 0 g_44 hw _ _ _ hG (lv_sub hl [1, 2, 3, 4, 0] rfl)
            · have hw := hw.2 c_45
              refine lv_iconst (v := 0) hx hb dX3_fates_69 (by decide) ?_
              exact g_iret hx hb hr hlocks hw hG (by decide) (by decide) dX3_fates_70
        · have hw := hw.2 c_38
          refine lv_iconst (v := 0) hx hb dX3_fates_37 (by decide) ?_
          exact g_iret hx hb hr hlocks hw hG (by decide) (by decide) dX3_fates_38
      · have hw := hw.2 c_36
        refine lv_iconst (v := 1) hx hb dX3_fates_22 (by decide) ?_
        refine lv_goto (tgt := 27) hx hb dX3_fates_23 (by decide) ?_
        refine g_put (own := RX3) (C := RX3) (T := TX3) (N := 19) (ci := 3) hx hb hq hin_X3 tyX3 tyX3_ok nmX3 hown hK hG (k := 4) (gok_lo (by decide)) (gc_M) rfl 0 (by decide) (hq _ q_413) rfl rfl (ty := .int) (v := .int 1) (by decide +kernel) rfl rfl (Nat.le_of_ble_eq_true rfl) (gi g_1 4 0 (1 : Int32)) (gs_M0) (gho_lo (by decide)) dX3_fates_27 (fun H locs hG => ?_)
        obtain ⟨g_47, eg_47⟩ : ∃ z, z = gi g_1 4 0 (1 : Int32) := ⟨_, rfl⟩
        rw [← eg_47] at hG
        have hw := hw g_47 eg_47
        refine lv_aload_n hx hb dX3_fates_30 rfl (lv_at hl 0 rfl) ?_
        refine g_get (own := RX3) (C := RX3) (T := TX3) (N := 19) (ci := 3) hx hb hq hin_X3 hown hK hG (k := 4) (gok_lo (by decide)) (gc_M) rfl 0 (by decide) (hq _ q_413) rfl (v := .int (g_47.1 4 0)) rfl dX3_fates_31 ?_
        refine lv_if_le (tgt := 39) hx hb dX3_fates_34 (by decide) (fun c_48 => ?_) (fun c_48 => ?_)
        · have hw := hw.1 c_48
          refine lv_aload_n hx hb dX3_fates_39 rfl (lv_at hl 0 rfl) ?_
          refine lv_aload_n hx hb dX3_fates_40 rfl (lv_at hl 0 rfl) ?_
          refine g_get (own := RX3) (C := RX3) (T := TX3) (N := 19) (ci := 3) hx hb hq hin_X3 hown hK hG (k := 4) (gok_lo (by decide)) (gc_M) rfl 6 (by decide) (hq _ q_419) rfl (v := .ref (ad 8)) rfl dX3_fates_41 ?_
          refine lv_iload_n hx hb dX3_fates_44 rfl (lv_at hl 1 rfl) ?_
          obtain ⟨hi_49, hw⟩ := hw
          refine g_iald hx hb hK hG (k := 8) (gok_lo (by decide)) (gc_8) hi_49 dX3_fates_45 ?_
          refine lv_iload hx hb dX3_fates_46 (lv_at hl 3 rfl) ?_
          refine lv_iadd hx hb dX3_fates_48 ?_
          refine lv_bipush (v := 64) hx hb dX3_fates_49 (by decide) ?_
          refine lv_icmp_le (tgt := 58) hx hb dX3_fates_51 (by decide) (fun c_50 => ?_) (fun c_50 => ?_)
          · have hw := hw.1 c_50
            refine lv_iconst (v := 0) hx hb dX3_fates_58 (by decide) ?_
            refine g_put (own := RX3) (C := RX3) (T := TX3) (N := 19) (ci := 3) hx hb hq hin_X3 tyX3 tyX3_ok nmX3 hown hK hG (k := 4) (gok_lo (by decide)) (gc_M) rfl 0 (by decide) (hq _ q_413) rfl rfl (ty := .int) (v := .int 0) (by decide +kernel) rfl rfl (Nat.le_of_ble_eq_true rfl) (gi g_47 4 0 (0 : Int32)) (gs_M0) (gho_lo (by decide)) dX3_fates_59 (fun H locs hG => ?_)
            obtain ⟨g_51, eg_51⟩ : ∃ z, z = gi g_47 4 0 (0 : Int32) := ⟨_, rfl⟩
            rw [← eg_51] at hG
            have hw := hw g_51 eg_51
            refine lv_aload_n hx hb dX3_fates_62 rfl (lv_at hl 0 rfl) ?_
            refine g_get (own := RX3) (C := RX3) (T := TX3) (N := 19) (ci := 3) hx hb hq hin_X3 hown hK hG (k := 4) (gok_lo (by decide)) (gc_M) rfl 0 (by decide) (hq _ q_413) rfl (v := .int (g_51.1 4 0)) rfl dX3_fates_63 ?_
            refine lv_if_le (tgt := 71) hx hb dX3_fates_66 (by decide) (fun c_52 => ?_) (fun c_52 => ?_)
            · have hw := hw.1 c_52
              refine lv_iconst (v := 0) hx hb dX3_fates_71 (by decide) ?_
              refine lv_istore (lv' := [(5, .int 0), (0, .ref (ad 4)), (1, .int p1), (2, .long p2), (4, .int p3)]) hx hb dX3_fates_72 hl (by decide) rfl (fun ls hl => ?_)
              obtain ⟨n_53, hw⟩ := hw
              exact L_X3_fates_74 post hl9 hx hb hr hml hown hts hlocks hA hE n_53 p1 p2 p3 0 g_51 hw _ _ _ hG (lv_sub hl [1, 2, 3, 4, 0] rfl)
            · have hw := hw.2 c_52
              refine lv_iconst (v := 0) hx hb dX3_fates_69 (by decide) ?_
              exact g_iret hx hb hr hlocks hw hG (by decide) (by decide) dX3_fates_70
          · have hw := hw.2 c_50
            refine lv_iconst (v := 2) hx hb dX3_fates_54 (by decide) ?_
            refine lv_goto (tgt := 59) hx hb dX3_fates_55 (by decide) ?_
            refine g_put (own := RX3) (C := RX3) (T := TX3) (N := 19) (ci := 3) hx hb hq hin_X3 tyX3 tyX3_ok nmX3 hown hK hG (k := 4) (gok_lo (by decide)) (gc_M) rfl 0 (by decide) (hq _ q_413) rfl rfl (ty := .int) (v := .int 2) (by decide +kernel) rfl rfl (Nat.le_of_ble_eq_true rfl) (gi g_47 4 0 (2 : Int32)) (gs_M0) (gho_lo (by decide)) dX3_fates_59 (fun H locs hG => ?_)
            obtain ⟨g_54, eg_54⟩ : ∃ z, z = gi g_47 4 0 (2 : Int32) := ⟨_, rfl⟩
            rw [← eg_54] at hG
            have hw := hw g_54 eg_54
            refine lv_aload_n hx hb dX3_fates_62 rfl (lv_at hl 0 rfl) ?_
            refine g_get (own := RX3) (C := RX3) (T := TX3) (N := 19) (ci := 3) hx hb hq hin_X3 hown hK hG (k := 4) (gok_lo (by decide)) (gc_M) rfl 0 (by decide) (hq _ q_413) rfl (v := .int (g_54.1 4 0)) rfl dX3_fates_63 ?_
            refine lv_if_le (tgt := 71) hx hb dX3_fates_66 (by decide) (fun c_55 => ?_) (fun c_55 => ?_)
            · have hw := hw.1 c_55
              refine lv_iconst (v := 0) hx hb dX3_fates_71 (by decide) ?_
              refine lv_istore (lv' := [(5, .int 0), (0, .ref (ad 4)), (1, .int p1), (2, .long p2), (4, .int p3)]) hx hb dX3_fates_72 hl (by decide) rfl (fun ls hl => ?_)
              obtain ⟨n_56, hw⟩ := hw
              exact L_X3_fates_74 post hl9 hx hb hr hml hown hts hlocks hA hE n_56 p1 p2 p3 0 g_54 hw _ _ _ hG (lv_sub hl [1, 2, 3, 4, 0] rfl)
            · have hw := hw.2 c_55
              refine lv_iconst (v := 0) hx hb dX3_fates_69 (by decide) ?_
              exact g_iret hx hb hr hlocks hw hG (by decide) (by decide) dX3_fates_70
        · have hw := hw.2 c_48
          refine lv_iconst (v := 0) hx hb dX3_fates_37 (by decide) ?_
          exact g_iret hx hb hr hlocks hw hG (by decide) (by decide) dX3_fates_38

def wpl_X3_feed_50 (post : Int32 → gS → Prop) : Nat → Int64 → Int32 → Int32 → gS → Prop
  | 0 => fun _ _ _ _ => False
  | n + 1 => fun x1 x3 x4 g => ((x4 < 0) → (post (g.1 4 3) g)) ∧ ((¬ x4 < 0) → (∀ x_6 : Int32, x_6 = ((x1 >>> ((8 * x4).toInt64 &&& 63)) &&& 255).toInt32 → (vp_in (g.1 4 3) 1480 ∧ (∀ g_8 : gS, g_8 = gi g 11 ((g.1 4 3).toNatClampNeg) x_6 → (∀ x_9 : Int32, x_9 = (g_8.1 4 3) + 1 → (∀ g_10 : gS, g_10 = gi g_8 4 3 x_9 → (∀ x_11 : Int32, x_11 = x4 + (-1) → (wpl_X3_feed_50 post n x1 x3 x_11 g_10))))))))
set_option maxHeartbeats 4000000 in
set_option maxRecDepth 100000 in
theorem L_X3_feed_50 {p : Program} {l : Launch} {e : Env} {s : State} {m : MethodId} {args : Array Value} {below : List Frame} {meth : Method} {c : Code} {D : va_G} {K : Nat → ClassId} {sa ad : Nat → Nat} {A : Nat → Prop} (post : Int32 → gS → Prop) (hl9 : l.stackTraces = false) (hx : p.tables.exec = Jvm.exec) (hb : c.code = cX3_feed) (hr : meth.sig.returnType = (some .int)) (hml : c.maxLocals = 5) (hown : s.vm.findClass RX3 = some m.cls) (hts : ∀ w ∈ wsX3_feed, w.before args s = true) (hlocks : meth.locks = false) (hA : ∀ q, s.heap.size ≤ q → A q) (hE : gE D K sa A s s.heap) : ∀ (n : Nat) (x1 : Int64) (x3 : Int32) (x4 : Int32) (g : gS), wpl_X3_feed_50 post n x1 x3 x4 g → ∀ (H : Heap) (locs : List Loc) (ls : Array Slot), gX D K ad A s.heap g H locs → lv_has ls 5 [(0, .ref (ad 4)), (1, .long x1), (3, .int x3), (4, .int x4)] → W p l e ({ frames := 0, cells := 0, slots := 0, locals := 0 } : Room) s m args below meth c H locs 0 0 (MQ below (va_Qi post (gB D K ad A) A) args s 0 0 A) (F0 m 50 ls []) := by
  have hK := hE.1
  have hq : ∀ w ∈ gW, w.before args s = true := fun w h => hts w (List.mem_cons_of_mem _ h)
  intro n
  induction n with
  | zero =>
    intro x1 x3 x4 g hw
    exact hw.elim
  | succ n ih =>
    intro x1 x3 x4 g hw H locs ls hG hl
    dsimp only [wpl_X3_feed_50] at hw
    refine lv_iload hx hb dX3_feed_50 (lv_at hl 3 rfl) ?_
    refine lv_if_lt (tgt := 92) hx hb dX3_feed_52 (by decide) (fun c_5 => ?_) (fun c_5 => ?_)
    · have hw := hw.1 c_5
      refine lv_aload_n hx hb dX3_feed_92 rfl (lv_at hl 0 rfl) ?_
      refine g_get (own := RX3) (C := RX3) (T := TX3) (N := 19) (ci := 3) hx hb hq hin_X3 hown hK hG (k := 4) (gok_lo (by decide)) (gc_M) rfl 9 (by decide) (hq _ q_422) rfl (v := .int (g.1 4 3)) rfl dX3_feed_93 ?_
      exact g_iret hx hb hr hlocks hw hG (by decide) (by decide) dX3_feed_96
    · have hw := hw.2 c_5
      refine lv_aload_n hx hb dX3_feed_55 rfl (lv_at hl 0 rfl) ?_
      refine g_get (own := RX3) (C := RX3) (T := TX3) (N := 19) (ci := 3) hx hb hq hin_X3 hown hK hG (k := 4) (gok_lo (by decide)) (gc_M) rfl 10 (by decide) (hq _ q_423) rfl (v := .ref (ad 11)) rfl dX3_feed_56 ?_
      refine lv_aload_n hx hb dX3_feed_59 rfl (lv_at hl 0 rfl) ?_
      refine g_get (own := RX3) (C := RX3) (T := TX3) (N := 19) (ci := 3) hx hb hq hin_X3 hown hK hG (k := 4) (gok_lo (by decide)) (gc_M) rfl 9 (by decide) (hq _ q_422) rfl (v := .int (g.1 4 3)) rfl dX3_feed_60 ?_
      refine lv_lload_n hx hb dX3_feed_63 rfl (lv_at hl 1 rfl) ?_
      refine lv_bipush (v := 8) hx hb dX3_feed_64 (by decide) ?_
      refine lv_iload hx hb dX3_feed_66 (lv_at hl 3 rfl) ?_
      refine lv_imul hx hb dX3_feed_68 ?_
      refine lv_lshr hx hb dX3_feed_69 rfl ?_
      refine lv_ldc2 (own := RX3) (v := 255) hx hb hown (hq _ q_503) dX3_feed_70 ?_
      refine lv_land hx hb dX3_feed_73 ?_
      refine lv_l2i hx hb dX3_feed_74 rfl ?_
      refine lv_topi (fun x_6 ex_6 => ?_)
      have hw := hw x_6 ex_6
      obtain ⟨hi_7, hw⟩ := hw
      refine g_iast hx hb hK hG (k := 11) (gok_lo (by decide)) (fun g => gc_11) (x := x_6) hi_7 (gho_lo (by decide)) dX3_feed_75 (fun H locs hG => ?_)
      obtain ⟨g_8, eg_8⟩ : ∃ z, z = gi g 11 ((g.1 4 3).toNatClampNeg) x_6 := ⟨_, rfl⟩
      rw [← eg_8] at hG
      have hw := hw g_8 eg_8
      refine lv_aload_n hx hb dX3_feed_76 rfl (lv_at hl 0 rfl) ?_
      refine lv_dup hx hb dX3_feed_77 rfl ?_
      refine g_get (own := RX3) (C := RX3) (T := TX3) (N := 19) (ci := 3) hx hb hq hin_X3 hown hK hG (k := 4) (gok_lo (by decide)) (gc_M) rfl 9 (by decide) (hq _ q_422) rfl (v := .int (g_8.1 4 3)) rfl dX3_feed_78 ?_
      refine lv_iconst (v := 1) hx hb dX3_feed_81 (by decide) ?_
      refine lv_iadd hx hb dX3_feed_82 ?_
      refine lv_topi (fun x_9 ex_9 => ?_)
      have hw := hw x_9 ex_9
      refine g_put (own := RX3) (C := RX3) (T := TX3) (N := 19) (ci := 3) hx hb hq hin_X3 tyX3 tyX3_ok nmX3 hown hK hG (k := 4) (gok_lo (by decide)) (gc_M) rfl 9 (by decide) (hq _ q_422) rfl rfl (ty := .int) (v := .int x_9) (by decide +kernel) rfl rfl (Nat.le_of_ble_eq_true rfl) (gi g_8 4 3 x_9) (gs_M3) (gho_lo (by decide)) dX3_feed_83 (fun H locs hG => ?_)
      obtain ⟨g_10, eg_10⟩ : ∃ z, z = gi g_8 4 3 x_9 := ⟨_, rfl⟩
      rw [← eg_10] at hG
      have hw := hw g_10 eg_10
      obtain ⟨x_11, ex_11⟩ : ∃ y : Int32, y = x4 + (-1) := ⟨_, rfl⟩
      have hw := hw x_11 ex_11
      refine lv_iinc (v := x_11) (lv' := [(4, .int x_11), (0, .ref (ad 4)), (1, .long x1), (3, .int x3)]) hx hb dX3_feed_86 hl (k := 3) rfl (by rw [ex_11]; rfl) (by decide) rfl (fun ls hl => ?_)
      refine lv_goto (tgt := 50) hx hb dX3_feed_89 (by decide) ?_
      exact ih x1 x3 x_11 g_10 hw _ _ _ hG (lv_sub hl [1, 2, 3, 0] rfl)
def wp_X3_feed (post : Int32 → gS → Prop) (p1 : Int64) (p2 : Int32) (g : gS) : Prop := ((p2 < 1) → (∀ g_2 : gS, g_2 = gi g 4 0 (1 : Int32) → ((((g_2.1 4 0) ≤ 0) → (∀ x_4 : Int32, x_4 = p2 - 1 → (∃ n, wpl_X3_feed_50 post n p1 p2 x_4 g_2))) ∧ ((¬ (g_2.1 4 0) ≤ 0) → (post 0 g_2))))) ∧ ((¬ p2 < 1) → (((p2 ≤ 8) → (((((g.1 4 3) + p2) ≤ 1480) → (∀ g_15 : gS, g_15 = gi g 4 0 (0 : Int32) → ((((g_15.1 4 0) ≤ 0) → (∀ x_17 : Int32, x_17 = p2 - 1 → (∃ n, wpl_X3_feed_50 post n p1 p2 x_17 g_15))) ∧ ((¬ (g_15.1 4 0) ≤ 0) → (post 0 g_15))))) ∧ ((¬ ((g.1 4 3) + p2) ≤ 1480) → (∀ g_19 : gS, g_19 = gi g 4 0 (2 : Int32) → ((((g_19.1 4 0) ≤ 0) → (∀ x_21 : Int32, x_21 = p2 - 1 → (∃ n, wpl_X3_feed_50 post n p1 p2 x_21 g_19))) ∧ ((¬ (g_19.1 4 0) ≤ 0) → (post 0 g_19))))))) ∧ ((¬ p2 ≤ 8) → (∀ g_23 : gS, g_23 = gi g 4 0 (1 : Int32) → ((((g_23.1 4 0) ≤ 0) → (∀ x_25 : Int32, x_25 = p2 - 1 → (∃ n, wpl_X3_feed_50 post n p1 p2 x_25 g_23))) ∧ ((¬ (g_23.1 4 0) ≤ 0) → (post 0 g_23)))))))
set_option maxHeartbeats 4000000 in
set_option maxRecDepth 100000 in
theorem m_X3_feed {l : Launch} (hl9 : l.stackTraces = false) (D : va_G) (K : Nat → ClassId) (sa ad : Nat → Nat) (sz : Nat) (post : Int32 → gS → Prop) (p1 : Int64) (p2 : Int32) (g : gS) (hw : wp_X3_feed post p1 p2 g) : Met l yX3_feed wsX3_feed ({ frames := 0, cells := 0, slots := 0, locals := 0 } : Room) (gPc D K sa ad sz g [.ref (ad 4), .long p1, .int p2]) (va_Qi post (gB D K ad (va_A (gw K ad g) sz)) (va_A (gw K ad g) sz)) 0 0 (va_A (gw K ad g) sz) := by
  refine Met.ofW (cc := cX3_feed) (maxL := 5) (ret := (some .int)) (by decide) rfl ?_
  intro p e s m args below meth c s₁ B hml hv
  obtain ⟨rfl, hsz, hP, hE, hD0⟩ := hv
  have hx := B.exec
  have hb := B.bytes
  have hr := B.returns
  have hts := atoms_spec (ws := wsX3_feed) B.pre
  have hq : ∀ w ∈ gW, w.before _ s = true := fun w h => hts w (List.mem_cons_of_mem _ h)
  have hown : s.vm.findClass RX3 = some m.cls := findClass_of_methodNamed B.named
  have hlocks := B.notSynchronized
  subst hsz
  have hD := hD0.self (sz := s.heap.size)
  generalize hAe : va_A (gw K ad g) s.heap.size = A at hD hE ⊢
  have hA : ∀ q : Nat, s.heap.size ≤ q → A q := fun q h => by rw [← hAe]; exact Or.inr h
  have hK := hE.1
  have hG : gX D K ad A s.heap g s.heap [] := ⟨hP, hD, va_S.rf⟩
  have hl := lv_entry ([.ref (ad 4), .long p1, .int p2]) (n := 5) (Nat.le_of_ble_eq_true rfl)
  rw [lg_entry_eq]
  generalize (lg_sl ([.ref (ad 4), .long p1, .int p2]) ++ List.replicate (5 - (lg_sl ([.ref (ad 4), .long p1, .int p2])).length) Slot.unset).toArray = ls at hl ⊢
  have hl : lv_has ls 5 [(0, .ref (ad 4)), (1, .long p1), (3, .int p2)] := hl
  dsimp only [wp_X3_feed] at hw
  refine lv_aload_n hx hb dX3_feed_0 rfl (lv_at hl 0 rfl) ?_
  refine lv_iload_n hx hb dX3_feed_1 rfl (lv_at hl 2 rfl) ?_
  refine lv_iconst (v := 1) hx hb dX3_feed_2 (by decide) ?_
  refine lv_icmp_lt (tgt := 12) hx hb dX3_feed_3 (by decide) (fun c_1 => ?_) (fun c_1 => ?_)
  · have hw := hw.1 c_1
    refine lv_iconst (v := 1) hx hb dX3_feed_12 (by decide) ?_
    refine lv_goto (tgt := 33) hx hb dX3_feed_13 (by decide) ?_
    refine g_put (own := RX3) (C := RX3) (T := TX3) (N := 19) (ci := 3) hx hb hq hin_X3 tyX3 tyX3_ok nmX3 hown hK hG (k := 4) (gok_lo (by decide)) (gc_M) rfl 0 (by decide) (hq _ q_413) rfl rfl (ty := .int) (v := .int 1) (by decide +kernel) rfl rfl (Nat.le_of_ble_eq_true rfl) (gi g 4 0 (1 : Int32)) (gs_M0) (gho_lo (by decide)) dX3_feed_33 (fun H locs hG => ?_)
    obtain ⟨g_2, eg_2⟩ : ∃ z, z = gi g 4 0 (1 : Int32) := ⟨_, rfl⟩
    rw [← eg_2] at hG
    have hw := hw g_2 eg_2
    refine lv_aload_n hx hb dX3_feed_36 rfl (lv_at hl 0 rfl) ?_
    refine g_get (own := RX3) (C := RX3) (T := TX3) (N := 19) (ci := 3) hx hb hq hin_X3 hown hK hG (k := 4) (gok_lo (by decide)) (gc_M) rfl 0 (by decide) (hq _ q_413) rfl (v := .int (g_2.1 4 0)) rfl dX3_feed_37 ?_
    refine lv_if_le (tgt := 45) hx hb dX3_feed_40 (by decide) (fun c_3 => ?_) (fun c_3 => ?_)
    · have hw := hw.1 c_3
      refine lv_iload_n hx hb dX3_feed_45 rfl (lv_at hl 2 rfl) ?_
      refine lv_iconst (v := 1) hx hb dX3_feed_46 (by decide) ?_
      refine lv_isub hx hb dX3_feed_47 ?_
      refine lv_topi (fun x_4 ex_4 => ?_)
      have hw := hw x_4 ex_4
      refine lv_istore (lv' := [(4, .int x_4), (0, .ref (ad 4)), (1, .long p1), (3, .int p2)]) hx hb dX3_feed_48 hl (by decide) rfl (fun ls hl => ?_)
      obtain ⟨n_12, hw⟩ := hw
      exact L_X3_feed_50 post hl9 hx hb hr hml hown hts hlocks hA hE n_12 p1 p2 x_4 g_2 hw _ _ _ hG (lv_sub hl [1, 2, 3, 0] rfl)
    · have hw := hw.2 c_3
      refine lv_iconst (v := 0) hx hb dX3_feed_43 (by decide) ?_
      exact g_iret hx hb hr hlocks hw hG (by decide) (by decide) dX3_feed_44
  · have hw := hw.2 c_1
    refine lv_iload_n hx hb dX3_feed_6 rfl (lv_at hl 2 rfl) ?_
    refine lv_bipush (v := 8) hx hb dX3_feed_7 (by decide) ?_
    refine lv_icmp_le (tgt := 16) hx hb dX3_feed_9 (by decide) (fun c_13 => ?_) (fun c_13 => ?_)
    · have hw := hw.1 c_13
      refine lv_aload_n hx hb dX3_feed_16 rfl (lv_at hl 0 rfl) ?_
      refine g_get (own := RX3) (C := RX3) (T := TX3) (N := 19) (ci := 3) hx hb hq hin_X3 hown hK hG (k := 4) (gok_lo (by decide)) (gc_M) rfl 9 (by decide) (hq _ q_422) rfl (v := .int (g.1 4 3)) rfl dX3_feed_17 ?_
      refine lv_iload_n hx hb dX3_feed_20 rfl (lv_at hl 2 rfl) ?_
      refine lv_iadd hx hb dX3_feed_21 ?_
      refine lv_sipush (v := 1480) hx hb dX3_feed_22 (by decide) ?_
      refine lv_icmp_le (tgt := 32) hx hb dX3_feed_25 (by decide) (fun c_14 => ?_) (fun c_14 => ?_)
      · have hw := hw.1 c_14
        refine lv_iconst (v := 0) hx hb dX3_feed_32 (by decide) ?_
        refine g_put (own := RX3) (C := RX3) (T := TX3) (N := 19) (ci := 3) hx hb hq hin_X3 tyX3 tyX3_ok nmX3 hown hK hG (k := 4) (gok_lo (by decide)) (gc_M) rfl 0 (by decide) (hq _ q_413) rfl rfl (ty := .int) (v := .int 0) (by decide +kernel) rfl rfl (Nat.le_of_ble_eq_true rfl) (gi g 4 0 (0 : Int32)) (gs_M0) (gho_lo (by decide)) dX3_feed_33 (fun H locs hG => ?_)
        obtain ⟨g_15, eg_15⟩ : ∃ z, z = gi g 4 0 (0 : Int32) := ⟨_, rfl⟩
        rw [← eg_15] at hG
        have hw := hw g_15 eg_15
        refine lv_aload_n hx hb dX3_feed_36 rfl (lv_at hl 0 rfl) ?_
        refine g_get (own := RX3) (C := RX3) (T := TX3) (N := 19) (ci := 3) hx hb hq hin_X3 hown hK hG (k := 4) (gok_lo (by decide)) (gc_M) rfl 0 (by decide) (hq _ q_413) rfl (v := .int (g_15.1 4 0)) rfl dX3_feed_37 ?_
        refine lv_if_le (tgt := 45) hx hb dX3_feed_40 (by decide) (fun c_16 => ?_) (fun c_16 => ?_)
        · have hw := hw.1 c_16
          refine lv_iload_n hx hb dX3_feed_45 rfl (lv_at hl 2 rfl) ?_
          refine lv_iconst (v := 1) hx hb dX3_feed_46 (by decide) ?_
          refine lv_isub hx hb dX3_feed_47 ?_
          refine lv_topi (fun x_17 ex_17 => ?_)
          have hw := hw x_17 ex_17
          refine lv_istore (lv' := [(4, .int x_17), (0, .ref (ad 4)), (1, .long p1), (3, .int p2)]) hx hb dX3_feed_48 hl (by decide) rfl (fun ls hl => ?_)
          obtain ⟨n_18, hw⟩ := hw
          exact L_X3_feed_50 post hl9 hx hb hr hml hown hts hlocks hA hE n_18 p1 p2 x_17 g_15 hw _ _ _ hG (lv_sub hl [1, 2, 3, 0] rfl)
        · have hw := hw.2 c_16
          refine lv_iconst (v := 0) hx hb dX3_feed_43 (by decide) ?_
          exact g_iret hx hb hr hlocks hw hG (by decide) (by decide) dX3_feed_44
      · have hw := hw.2 c_14
        refine lv_iconst (v := 2) hx hb dX3_feed_28 (by decide) ?_
        refine lv_goto (tgt := 33) hx hb dX3_feed_29 (by decide) ?_
        refine g_put (own := RX3) (C := RX3) (T := TX3) (N := 19) (ci := 3) hx hb hq hin_X3 tyX3 tyX3_ok nmX3 hown hK hG (k := 4) (gok_lo (by decide)) (gc_M) rfl 0 (by decide) (hq _ q_413) rfl rfl (ty := .int) (v := .int 2) (by decide +kernel) rfl rfl (Nat.le_of_ble_eq_true rfl) (gi g 4 0 (2 : Int32)) (gs_M0) (gho_lo (by decide)) dX3_feed_33 (fun H locs hG => ?_)
        obtain ⟨g_19, eg_19⟩ : ∃ z, z = gi g 4 0 (2 : Int32) := ⟨_, rfl⟩
        rw [← eg_19] at hG
        have hw := hw g_19 eg_19
        refine lv_aload_n hx hb dX3_feed_36 rfl (lv_at hl 0 rfl) ?_
        refine g_get (own := RX3) (C := RX3) (T := TX3) (N := 19) (ci := 3) hx hb hq hin_X3 hown hK hG (k := 4) (gok_lo (by decide)) (gc_M) rfl 0 (by decide) (hq _ q_413) rfl (v := .int (g_19.1 4 0)) rfl dX3_feed_37 ?_
        refine lv_if_le (tgt := 45) hx hb dX3_feed_40 (by decide) (fun c_20 => ?_) (fun c_20 => ?_)
        · have hw := hw.1 c_20
          refine lv_iload_n hx hb dX3_feed_45 rfl (lv_at hl 2 rfl) ?_
          refine lv_iconst (v := 1) hx hb dX3_feed_46 (by decide) ?_
          refine lv_isub hx hb dX3_feed_47 ?_
          refine lv_topi (fun x_21 ex_21 => ?_)
          have hw := hw x_21 ex_21
          refine lv_istore (lv' := [(4, .int x_21), (0, .ref (ad 4)), (1, .long p1), (3, .int p2)]) hx hb dX3_feed_48 hl (by decide) rfl (fun ls hl => ?_)
          obtain ⟨n_22, hw⟩ := hw
          exact L_X3_feed_50 post hl9 hx hb hr hml hown hts hlocks hA hE n_22 p1 p2 x_21 g_19 hw _ _ _ hG (lv_sub hl [1, 2, 3, 0] rfl)
        · have hw := hw.2 c_20
          refine lv_iconst (v := 0) hx hb dX3_feed_43 (by decide) ?_
          exact g_iret hx hb hr hlocks hw hG (by decide) (by decide) dX3_feed_44
    · have hw := hw.2 c_13
      refine lv_iconst (v := 1) hx hb dX3_feed_12 (by decide) ?_
      refine lv_goto (tgt := 33) hx hb dX3_feed_13 (by decide) ?_
      refine g_put (own := RX3) (C := RX3) (T := TX3) (N := 19) (ci := 3) hx hb hq hin_X3 tyX3 tyX3_ok nmX3 hown hK hG (k := 4) (gok_lo (by decide)) (gc_M) rfl 0 (by decide) (hq _ q_413) rfl rfl (ty := .int) (v := .int 1) (by decide +kernel) rfl rfl (Nat.le_of_ble_eq_true rfl) (gi g 4 0 (1 : Int32)) (gs_M0) (gho_lo (by decide)) dX3_feed_33 (fun H locs hG => ?_)
      obtain ⟨g_23, eg_23⟩ : ∃ z, z = gi g 4 0 (1 : Int32) := ⟨_, rfl⟩
      rw [← eg_23] at hG
      have hw := hw g_23 eg_23
      refine lv_aload_n hx hb dX3_feed_36 rfl (lv_at hl 0 rfl) ?_
      refine g_get (own := RX3) (C := RX3) (T := TX3) (N := 19) (ci := 3) hx hb hq hin_X3 hown hK hG (k := 4) (gok_lo (by decide)) (gc_M) rfl 0 (by decide) (hq _ q_413) rfl (v := .int (g_23.1 4 0)) rfl dX3_feed_37 ?_
      refine lv_if_le (tgt := 45) hx hb dX3_feed_40 (by decide) (fun c_24 => ?_) (fun c_24 => ?_)
      · have hw := hw.1 c_24
        refine lv_iload_n hx hb dX3_feed_45 rfl (lv_at hl 2 rfl) ?_
        refine lv_iconst (v := 1) hx hb dX3_feed_46 (by decide) ?_
        refine lv_isub hx hb dX3_feed_47 ?_
        refine lv_topi (fun x_25 ex_25 => ?_)
        have hw := hw x_25 ex_25
        refine lv_istore (lv' := [(4, .int x_25), (0, .ref (ad 4)), (1, .long p1), (3, .int p2)]) hx hb dX3_feed_48 hl (by decide) rfl (fun ls hl => ?_)
        obtain ⟨n_26, hw⟩ := hw
        exact L_X3_feed_50 post hl9 hx hb hr hml hown hts hlocks hA hE n_26 p1 p2 x_25 g_23 hw _ _ _ hG (lv_sub hl [1, 2, 3, 0] rfl)
      · have hw := hw.2 c_24
        refine lv_iconst (v := 0) hx hb dX3_feed_43 (by decide) ?_
        exact g_iret hx hb hr hlocks hw hG (by decide) (by decide) dX3_feed_44

def wpl_X3_nextFate_36 (post : Int32 → gS → Prop) : Nat → Int32 → Int32 → Int32 → gS → Prop
  | 0 => fun _ _ _ _ => False
  | n + 1 => fun x1 x2 x3 g => vp_in x1 24 ∧ (((((64 * x1) + (g.1 8 x1.toNatClampNeg)) ≤ x3) → (post x2 g)) ∧ ((¬ ((64 * x1) + (g.1 8 x1.toNatClampNeg)) ≤ x3) → (∀ i_13 : Int32, i_13 = x3 + 1 → (vp_in i_13 1536 ∧ (∀ x_15 : Int32, x_15 = g.1 9 i_13.toNatClampNeg → (vp_in x3 1536 ∧ (∀ g_17 : gS, g_17 = gi g 9 x3.toNatClampNeg x_15 → (∀ x_18 : Int32, x_18 = x3 + 1 → (wpl_X3_nextFate_36 post n x1 x2 x_18 g_17)))))))))
set_option maxHeartbeats 4000000 in
set_option maxRecDepth 100000 in
theorem L_X3_nextFate_36 {p : Program} {l : Launch} {e : Env} {s : State} {m : MethodId} {args : Array Value} {below : List Frame} {meth : Method} {c : Code} {D : va_G} {K : Nat → ClassId} {sa ad : Nat → Nat} {A : Nat → Prop} (post : Int32 → gS → Prop) (hl9 : l.stackTraces = false) (hx : p.tables.exec = Jvm.exec) (hb : c.code = cX3_nextFate) (hr : meth.sig.returnType = (some .int)) (hml : c.maxLocals = 4) (hown : s.vm.findClass RX3 = some m.cls) (hts : ∀ w ∈ wsX3_nextFate, w.before args s = true) (hlocks : meth.locks = false) (hA : ∀ q, s.heap.size ≤ q → A q) (hE : gE D K sa A s s.heap) : ∀ (n : Nat) (x1 : Int32) (x2 : Int32) (x3 : Int32) (g : gS), wpl_X3_nextFate_36 post n x1 x2 x3 g → ∀ (H : Heap) (locs : List Loc) (ls : Array Slot), gX D K ad A s.heap g H locs → lv_has ls 4 [(0, .ref (ad 4)), (1, .int x1), (2, .int x2), (3, .int x3)] → W p l e ({ frames := 0, cells := 0, slots := 0, locals := 0 } : Room) s m args below meth c H locs 0 0 (MQ below (va_Qi post (gB D K ad A) A) args s 0 0 A) (F0 m 36 ls []) := by
  have hK := hE.1
  have hq : ∀ w ∈ gW, w.before args s = true := fun w h => hts w (List.mem_cons_of_mem _ h)
  intro n
  induction n with
  | zero =>
    intro x1 x2 x3 g hw
    exact hw.elim
  | succ n ih =>
    intro x1 x2 x3 g hw H locs ls hG hl
    dsimp only [wpl_X3_nextFate_36] at hw
    refine lv_iload_n hx hb dX3_nextFate_36 rfl (lv_at hl 3 rfl) ?_
    refine lv_bipush (v := 64) hx hb dX3_nextFate_37 (by decide) ?_
    refine lv_iload_n hx hb dX3_nextFate_39 rfl (lv_at hl 1 rfl) ?_
    refine lv_imul hx hb dX3_nextFate_40 ?_
    refine lv_aload_n hx hb dX3_nextFate_41 rfl (lv_at hl 0 rfl) ?_
    refine g_get (own := RX3) (C := RX3) (T := TX3) (N := 19) (ci := 3) hx hb hq hin_X3 hown hK hG (k := 4) (gok_lo (by decide)) (gc_M) rfl 6 (by decide) (hq _ q_419) rfl (v := .ref (ad 8)) rfl dX3_nextFate_42 ?_
    refine lv_iload_n hx hb dX3_nextFate_45 rfl (lv_at hl 1 rfl) ?_
    obtain ⟨hi_11, hw⟩ := hw
    refine g_iald hx hb hK hG (k := 8) (gok_lo (by decide)) (gc_8) hi_11 dX3_nextFate_46 ?_
    refine lv_iadd hx hb dX3_nextFate_47 ?_
    refine lv_icmp_ge (tgt := 71) hx hb dX3_nextFate_48 (by decide) (fun c_12 => ?_) (fun c_12 => ?_)
    · have hw := hw.1 c_12
      refine lv_iload_n hx hb dX3_nextFate_71 rfl (lv_at hl 2 rfl) ?_
      exact g_iret hx hb hr hlocks hw hG (by decide) (by decide) dX3_nextFate_72
    · have hw := hw.2 c_12
      refine lv_aload_n hx hb dX3_nextFate_51 rfl (lv_at hl 0 rfl) ?_
      refine g_get (own := RX3) (C := RX3) (T := TX3) (N := 19) (ci := 3) hx hb hq hin_X3 hown hK hG (k := 4) (gok_lo (by decide)) (gc_M) rfl 7 (by decide) (hq _ q_420) rfl (v := .ref (ad 9)) rfl dX3_nextFate_52 ?_
      refine lv_iload_n hx hb dX3_nextFate_55 rfl (lv_at hl 3 rfl) ?_
      refine lv_aload_n hx hb dX3_nextFate_56 rfl (lv_at hl 0 rfl) ?_
      refine g_get (own := RX3) (C := RX3) (T := TX3) (N := 19) (ci := 3) hx hb hq hin_X3 hown hK hG (k := 4) (gok_lo (by decide)) (gc_M) rfl 7 (by decide) (hq _ q_420) rfl (v := .ref (ad 9)) rfl dX3_nextFate_57 ?_
      refine lv_iload_n hx hb dX3_nextFate_60 rfl (lv_at hl 3 rfl) ?_
      refine lv_iconst (v := 1) hx hb dX3_nextFate_61 (by decide) ?_
      refine lv_iadd hx hb dX3_nextFate_62 ?_
      refine lv_topi (fun i_13 ei_13 => ?_)
      have hw := hw i_13 ei_13
      obtain ⟨hi_14, hw⟩ := hw
      refine g_iald hx hb hK hG (k := 9) (gok_lo (by decide)) (gc_9) hi_14 dX3_nextFate_63 ?_
      refine lv_topi (fun x_15 ex_15 => ?_)
      have hw := hw x_15 ex_15
      obtain ⟨hi_16, hw⟩ := hw
      refine g_iast hx hb hK hG (k := 9) (gok_lo (by decide)) (fun g => gc_9) (x := x_15) hi_16 (gho_lo (by decide)) dX3_nextFate_64 (fun H locs hG => ?_)
      obtain ⟨g_17, eg_17⟩ : ∃ z, z = gi g 9 x3.toNatClampNeg x_15 := ⟨_, rfl⟩
      rw [← eg_17] at hG
      have hw := hw g_17 eg_17
      obtain ⟨x_18, ex_18⟩ : ∃ y : Int32, y = x3 + 1 := ⟨_, rfl⟩
      have hw := hw x_18 ex_18
      refine lv_iinc (v := x_18) (lv' := [(3, .int x_18), (0, .ref (ad 4)), (1, .int x1), (2, .int x2)]) hx hb dX3_nextFate_65 hl (k := 3) rfl (by rw [ex_18]; rfl) (by decide) rfl (fun ls hl => ?_)
      refine lv_goto (tgt := 36) hx hb dX3_nextFate_68 (by decide) ?_
      exact ih x1 x2 x_18 g_17 hw _ _ _ hG (lv_sub hl [1, 2, 3, 0] rfl)
def wp_X3_nextFate (post : Int32 → gS → Prop) (p1 : Int32) (g : gS) : Prop := vp_in p1 24 ∧ (((¬ (g.1 8 p1.toNatClampNeg) = 0) → (∀ i_3 : Int32, i_3 = 64 * p1 → (vp_in i_3 1536 ∧ (∀ x_5 : Int32, x_5 = g.1 9 i_3.toNatClampNeg → (vp_in p1 24 ∧ (∀ x_7 : Int32, x_7 = (g.1 8 p1.toNatClampNeg) - 1 → (vp_in p1 24 ∧ (∀ g_9 : gS, g_9 = gi g 8 p1.toNatClampNeg x_7 → (∀ x_10 : Int32, x_10 = 64 * p1 → (∃ n, wpl_X3_nextFate_36 post n p1 x_5 x_10 g_9)))))))))) ∧ (((g.1 8 p1.toNatClampNeg) = 0) → (post 0 g)))
set_option maxHeartbeats 4000000 in
set_option maxRecDepth 100000 in
theorem m_X3_nextFate {l : Launch} (hl9 : l.stackTraces = false) (D : va_G) (K : Nat → ClassId) (sa ad : Nat → Nat) (sz : Nat) (post : Int32 → gS → Prop) (p1 : Int32) (g : gS) (hw : wp_X3_nextFate post p1 g) : Met l yX3_nextFate wsX3_nextFate ({ frames := 0, cells := 0, slots := 0, locals := 0 } : Room) (gPc D K sa ad sz g [.ref (ad 4), .int p1]) (va_Qi post (gB D K ad (va_A (gw K ad g) sz)) (va_A (gw K ad g) sz)) 0 0 (va_A (gw K ad g) sz) := by
  refine Met.ofW (cc := cX3_nextFate) (maxL := 4) (ret := (some .int)) (by decide) rfl ?_
  intro p e s m args below meth c s₁ B hml hv
  obtain ⟨rfl, hsz, hP, hE, hD0⟩ := hv
  have hx := B.exec
  have hb := B.bytes
  have hr := B.returns
  have hts := atoms_spec (ws := wsX3_nextFate) B.pre
  have hq : ∀ w ∈ gW, w.before _ s = true := fun w h => hts w (List.mem_cons_of_mem _ h)
  have hown : s.vm.findClass RX3 = some m.cls := findClass_of_methodNamed B.named
  have hlocks := B.notSynchronized
  subst hsz
  have hD := hD0.self (sz := s.heap.size)
  generalize hAe : va_A (gw K ad g) s.heap.size = A at hD hE ⊢
  have hA : ∀ q : Nat, s.heap.size ≤ q → A q := fun q h => by rw [← hAe]; exact Or.inr h
  have hK := hE.1
  have hG : gX D K ad A s.heap g s.heap [] := ⟨hP, hD, va_S.rf⟩
  have hl := lv_entry ([.ref (ad 4), .int p1]) (n := 4) (Nat.le_of_ble_eq_true rfl)
  rw [lg_entry_eq]
  generalize (lg_sl ([.ref (ad 4), .int p1]) ++ List.replicate (4 - (lg_sl ([.ref (ad 4), .int p1])).length) Slot.unset).toArray = ls at hl ⊢
  have hl : lv_has ls 4 [(0, .ref (ad 4)), (1, .int p1)] := hl
  dsimp only [wp_X3_nextFate] at hw
  refine lv_aload_n hx hb dX3_nextFate_0 rfl (lv_at hl 0 rfl) ?_
  refine g_get (own := RX3) (C := RX3) (T := TX3) (N := 19) (ci := 3) hx hb hq hin_X3 hown hK hG (k := 4) (gok_lo (by decide)) (gc_M) rfl 6 (by decide) (hq _ q_419) rfl (v := .ref (ad 8)) rfl dX3_nextFate_1 ?_
  refine lv_iload_n hx hb dX3_nextFate_4 rfl (lv_at hl 1 rfl) ?_
  obtain ⟨hi_1, hw⟩ := hw
  refine g_iald hx hb hK hG (k := 8) (gok_lo (by decide)) (gc_8) hi_1 dX3_nextFate_5 ?_
  refine lv_if_ne (tgt := 11) hx hb dX3_nextFate_6 (by decide) (fun c_2 => ?_) (fun c_2 => ?_)
  · have hw := hw.1 c_2
    refine lv_aload_n hx hb dX3_nextFate_11 rfl (lv_at hl 0 rfl) ?_
    refine g_get (own := RX3) (C := RX3) (T := TX3) (N := 19) (ci := 3) hx hb hq hin_X3 hown hK hG (k := 4) (gok_lo (by decide)) (gc_M) rfl 7 (by decide) (hq _ q_420) rfl (v := .ref (ad 9)) rfl dX3_nextFate_12 ?_
    refine lv_bipush (v := 64) hx hb dX3_nextFate_15 (by decide) ?_
    refine lv_iload_n hx hb dX3_nextFate_17 rfl (lv_at hl 1 rfl) ?_
    refine lv_imul hx hb dX3_nextFate_18 ?_
    refine lv_topi (fun i_3 ei_3 => ?_)
    have hw := hw i_3 ei_3
    obtain ⟨hi_4, hw⟩ := hw
    refine g_iald hx hb hK hG (k := 9) (gok_lo (by decide)) (gc_9) hi_4 dX3_nextFate_19 ?_
    refine lv_topi (fun x_5 ex_5 => ?_)
    have hw := hw x_5 ex_5
    refine lv_istore_n (lv' := [(2, .int x_5), (0, .ref (ad 4)), (1, .int p1)]) hx hb dX3_nextFate_20 rfl hl (by decide) rfl (fun ls hl => ?_)
    refine lv_aload_n hx hb dX3_nextFate_21 rfl (lv_at hl 1 rfl) ?_
    refine g_get (own := RX3) (C := RX3) (T := TX3) (N := 19) (ci := 3) hx hb hq hin_X3 hown hK hG (k := 4) (gok_lo (by decide)) (gc_M) rfl 6 (by decide) (hq _ q_419) rfl (v := .ref (ad 8)) rfl dX3_nextFate_22 ?_
    refine lv_iload_n hx hb dX3_nextFate_25 rfl (lv_at hl 2 rfl) ?_
    refine lv_dup2_11 hx hb dX3_nextFate_26 rfl rfl ?_
    obtain ⟨hi_6, hw⟩ := hw
    refine g_iald hx hb hK hG (k := 8) (gok_lo (by decide)) (gc_8) hi_6 dX3_nextFate_27 ?_
    refine lv_iconst (v := 1) hx hb dX3_nextFate_28 (by decide) ?_
    refine lv_isub hx hb dX3_nextFate_29 ?_
    refine lv_topi (fun x_7 ex_7 => ?_)
    have hw := hw x_7 ex_7
    obtain ⟨hi_8, hw⟩ := hw
    refine g_iast hx hb hK hG (k := 8) (gok_lo (by decide)) (fun g => gc_8) (x := x_7) hi_8 (gho_lo (by decide)) dX3_nextFate_30 (fun H locs hG => ?_)
    obtain ⟨g_9, eg_9⟩ : ∃ z, z = gi g 8 p1.toNatClampNeg x_7 := ⟨_, rfl⟩
    rw [← eg_9] at hG
    have hw := hw g_9 eg_9
    refine lv_bipush (v := 64) hx hb dX3_nextFate_31 (by decide) ?_
    refine lv_iload_n hx hb dX3_nextFate_33 rfl (lv_at hl 2 rfl) ?_
    refine lv_imul hx hb dX3_nextFate_34 ?_
    refine lv_topi (fun x_10 ex_10 => ?_)
    have hw := hw x_10 ex_10
    refine lv_istore_n (lv' := [(3, .int x_10), (2, .int x_5), (0, .ref (ad 4)), (1, .int p1)]) hx hb dX3_nextFate_35 rfl hl (by decide) rfl (fun ls hl => ?_)
    obtain ⟨n_19, hw⟩ := hw
    exact L_X3_nextFate_36 post hl9 hx hb hr hml hown hts hlocks hA hE n_19 p1 x_5 x_10 g_9 hw _ _ _ hG (lv_sub hl [2, 3, 1, 0] rfl)
  · have hw := hw.2 c_2
    refine lv_iconst (v := 0) hx hb dX3_nextFate_9 (by decide) ?_
    exact g_iret hx hb hr hlocks hw hG (by decide) (by decide) dX3_nextFate_10

def wp_X3_due (post : Int32 → gS → Prop) (p1 : Int32) (g : gS) : Prop := vp_in p1 512 ∧ (∀ i_2 : Int32, i_2 = (8 * (g.1 12 p1.toNatClampNeg)) + 7 → (vp_in i_2 4096 ∧ (post (g.1 14 i_2.toNatClampNeg) g)))
set_option maxHeartbeats 4000000 in
set_option maxRecDepth 100000 in
theorem m_X3_due {l : Launch} (hl9 : l.stackTraces = false) (D : va_G) (K : Nat → ClassId) (sa ad : Nat → Nat) (sz : Nat) (post : Int32 → gS → Prop) (p1 : Int32) (g : gS) (hw : wp_X3_due post p1 g) : Met l yX3_due wsX3_due ({ frames := 0, cells := 0, slots := 0, locals := 0 } : Room) (gPc D K sa ad sz g [.ref (ad 4), .int p1]) (va_Qi post (gB D K ad (va_A (gw K ad g) sz)) (va_A (gw K ad g) sz)) 0 0 (va_A (gw K ad g) sz) := by
  refine Met.ofW (cc := cX3_due) (maxL := 2) (ret := (some .int)) (by decide) rfl ?_
  intro p e s m args below meth c s₁ B hml hv
  obtain ⟨rfl, hsz, hP, hE, hD0⟩ := hv
  have hx := B.exec
  have hb := B.bytes
  have hr := B.returns
  have hts := atoms_spec (ws := wsX3_due) B.pre
  have hq : ∀ w ∈ gW, w.before _ s = true := fun w h => hts w (List.mem_cons_of_mem _ h)
  have hown : s.vm.findClass RX3 = some m.cls := findClass_of_methodNamed B.named
  have hlocks := B.notSynchronized
  subst hsz
  have hD := hD0.self (sz := s.heap.size)
  generalize hAe : va_A (gw K ad g) s.heap.size = A at hD hE ⊢
  have hA : ∀ q : Nat, s.heap.size ≤ q → A q := fun q h => by rw [← hAe]; exact Or.inr h
  have hK := hE.1
  have hG : gX D K ad A s.heap g s.heap [] := ⟨hP, hD, va_S.rf⟩
  have hl := lv_entry ([.ref (ad 4), .int p1]) (n := 2) (Nat.le_of_ble_eq_true rfl)
  rw [lg_entry_eq]
  generalize (lg_sl ([.ref (ad 4), .int p1]) ++ List.replicate (2 - (lg_sl ([.ref (ad 4), .int p1])).length) Slot.unset).toArray = ls at hl ⊢
  have hl : lv_has ls 2 [(0, .ref (ad 4)), (1, .int p1)] := hl
  dsimp only [wp_X3_due] at hw
  refine lv_aload_n hx hb dX3_due_0 rfl (lv_at hl 0 rfl) ?_
  refine g_get (own := RX3) (C := RX3) (T := TX3) (N := 19) (ci := 3) hx hb hq hin_X3 hown hK hG (k := 4) (gok_lo (by decide)) (gc_M) rfl 14 (by decide) (hq _ q_427) rfl (v := .ref (ad 14)) rfl dX3_due_1 ?_
  refine lv_bipush (v := 8) hx hb dX3_due_4 (by decide) ?_
  refine lv_aload_n hx hb dX3_due_6 rfl (lv_at hl 0 rfl) ?_
  refine g_get (own := RX3) (C := RX3) (T := TX3) (N := 19) (ci := 3) hx hb hq hin_X3 hown hK hG (k := 4) (gok_lo (by decide)) (gc_M) rfl 12 (by decide) (hq _ q_425) rfl (v := .ref (ad 12)) rfl dX3_due_7 ?_
  refine lv_iload_n hx hb dX3_due_10 rfl (lv_at hl 1 rfl) ?_
  obtain ⟨hi_1, hw⟩ := hw
  refine g_iald hx hb hK hG (k := 12) (gok_lo (by decide)) (gc_12) hi_1 dX3_due_11 ?_
  refine lv_imul hx hb dX3_due_12 ?_
  refine lv_bipush (v := 7) hx hb dX3_due_13 (by decide) ?_
  refine lv_iadd hx hb dX3_due_15 ?_
  refine lv_topi (fun i_2 ei_2 => ?_)
  have hw := hw i_2 ei_2
  obtain ⟨hi_3, hw⟩ := hw
  refine g_iald hx hb hK hG (k := 14) (gok_lo (by decide)) (gc_14) hi_3 dX3_due_16 ?_
  exact g_iret hx hb hr hlocks hw hG (by decide) (by decide) dX3_due_17

def wpl_X3_pass_58 (post : Int32 → gS → Prop) : Nat → Int32 → Int32 → Int32 → gS → Prop
  | 0 => fun _ _ _ _ => False
  | n + 1 => fun x1 x2 x3 g => (((g.1 4 4) ≤ x3) → (post x2 g)) ∧ ((¬ (g.1 4 4) ≤ x3) → (wp_X3_due (fun r_8 g_7 => ((((g_7.1 4 1) < r_8) → (∀ x_10 : Int32, x_10 = x2 + 0 → (∀ x_11 : Int32, x_11 = x3 + 1 → (wpl_X3_pass_58 post n x1 x_10 x_11 g_7)))) ∧ ((¬ (g_7.1 4 1) < r_8) → (∀ x_12 : Int32, x_12 = x2 + 1 → (∀ x_13 : Int32, x_13 = x3 + 1 → (wpl_X3_pass_58 post n x1 x_12 x_13 g_7)))))) x3 g))
set_option maxHeartbeats 4000000 in
set_option maxRecDepth 100000 in
theorem L_X3_pass_58 {p : Program} {l : Launch} {e : Env} {s : State} {m : MethodId} {args : Array Value} {below : List Frame} {meth : Method} {c : Code} {D : va_G} {K : Nat → ClassId} {sa ad : Nat → Nat} {A : Nat → Prop} (post : Int32 → gS → Prop) (hl9 : l.stackTraces = false) (hx : p.tables.exec = Jvm.exec) (hb : c.code = cX3_pass) (hr : meth.sig.returnType = (some .int)) (hml : c.maxLocals = 4) (hown : s.vm.findClass RX3 = some m.cls) (hts : ∀ w ∈ wsX3_pass, w.before args s = true) (hlocks : meth.locks = false) (hA : ∀ q, s.heap.size ≤ q → A q) (hE : gE D K sa A s s.heap) : ∀ (n : Nat) (x1 : Int32) (x2 : Int32) (x3 : Int32) (g : gS), wpl_X3_pass_58 post n x1 x2 x3 g → ∀ (H : Heap) (locs : List Loc) (ls : Array Slot), gX D K ad A s.heap g H locs → lv_has ls 4 [(0, .ref (ad 4)), (1, .int x1), (2, .int x2), (3, .int x3)] → W p l e ({ frames := 1, cells := 0, slots := 0, locals := 21 } : Room) s m args below meth c H locs 0 0 (MQ below (va_Qi post (gB D K ad A) A) args s 0 0 A) (F0 m 58 ls []) := by
  have hK := hE.1
  have hq : ∀ w ∈ gW, w.before args s = true := fun w h => hts w (List.mem_cons_of_mem _ h)
  intro n
  induction n with
  | zero =>
    intro x1 x2 x3 g hw
    exact hw.elim
  | succ n ih =>
    intro x1 x2 x3 g hw H locs ls hG hl
    dsimp only [wpl_X3_pass_58] at hw
    refine lv_iload_n hx hb dX3_pass_58 rfl (lv_at hl 3 rfl) ?_
    refine lv_aload_n hx hb dX3_pass_59 rfl (lv_at hl 0 rfl) ?_
    refine g_get (own := RX3) (C := RX3) (T := TX3) (N := 19) (ci := 3) hx hb hq hin_X3 hown hK hG (k := 4) (gok_lo (by decide)) (gc_M) rfl 11 (by decide) (hq _ q_424) rfl (v := .int (g.1 4 4)) rfl dX3_pass_60 ?_
    refine lv_icmp_ge (tgt := 92) hx hb dX3_pass_63 (by decide) (fun c_6 => ?_) (fun c_6 => ?_)
    · have hw := hw.1 c_6
      refine lv_iload_n hx hb dX3_pass_92 rfl (lv_at hl 2 rfl) ?_
      exact g_iret hx hb hr hlocks hw hG (by decide) (by decide) dX3_pass_93
    · have hw := hw.2 c_6
      refine lv_iload_n hx hb dX3_pass_66 rfl (lv_at hl 2 rfl) ?_
      refine lv_aload_n hx hb dX3_pass_67 rfl (lv_at hl 0 rfl) ?_
      refine lv_iload_n hx hb dX3_pass_68 rfl (lv_at hl 3 rfl) ?_
      refine g_calli (va_runV (As := [.int x3]) (rest := [.int x2]) ⟨hx, hb, hml, hown, hts⟩ (m_X3_due hl9 D K sa ad _ _ x3 g hw) (cwV 1 hts (gGood gCons (gV q_526 q_528 q_18 q_23 q_529)) rfl rfl rfl (by decide +kernel) ⟨Nat.le_of_ble_eq_true rfl, Nat.le_of_ble_eq_true rfl⟩) ⟨gPc_blind, g_recv hK hG (gok_lo (by decide)) (gc_M) rfl, gPc_at hE hG hA⟩ rfl rfl hl.1 rfl (lv_room (Nat.le_of_ble_eq_true rfl)) dX3_pass_69 ⟨Nat.le_of_ble_eq_true rfl, Nat.le_of_ble_eq_true rfl⟩) hG hA (fun r_8 g_7 H locs hw hG => ?_)
      try dsimp only at hw
      refine lv_aload_n hx hb dX3_pass_72 rfl (lv_at hl 0 rfl) ?_
      refine g_get (own := RX3) (C := RX3) (T := TX3) (N := 19) (ci := 3) hx hb hq hin_X3 hown hK hG (k := 4) (gok_lo (by decide)) (gc_M) rfl 1 (by decide) (hq _ q_414) rfl (v := .int (g_7.1 4 1)) rfl dX3_pass_73 ?_
      refine lv_icmp_gt (tgt := 83) hx hb dX3_pass_76 (by decide) (fun c_9 => ?_) (fun c_9 => ?_)
      · have hw := hw.1 c_9
        refine lv_iconst (v := 0) hx hb dX3_pass_83 (by decide) ?_
        refine lv_iadd hx hb dX3_pass_84 ?_
        refine lv_topi (fun x_10 ex_10 => ?_)
        have hw := hw x_10 ex_10
        refine lv_istore_n (lv' := [(2, .int x_10), (0, .ref (ad 4)), (1, .int x1), (3, .int x3)]) hx hb dX3_pass_85 rfl hl (by decide) rfl (fun ls hl => ?_)
        obtain ⟨x_11, ex_11⟩ : ∃ y : Int32, y = x3 + 1 := ⟨_, rfl⟩
        have hw := hw x_11 ex_11
        refine lv_iinc (v := x_11) (lv' := [(3, .int x_11), (2, .int x_10), (0, .ref (ad 4)), (1, .int x1)]) hx hb dX3_pass_86 hl (k := 3) rfl (by rw [ex_11]; rfl) (by decide) rfl (fun ls hl => ?_)
        refine lv_goto (tgt := 58) hx hb dX3_pass_89 (by decide) ?_
        exact ih x1 x_10 x_11 g_7 hw _ _ _ hG (lv_sub hl [2, 3, 1, 0] rfl)
      · have hw := hw.2 c_9
        refine lv_iconst (v := 1) hx hb dX3_pass_79 (by decide) ?_
        refine lv_goto (tgt := 84) hx hb dX3_pass_80 (by decide) ?_
        refine lv_iadd hx hb dX3_pass_84 ?_
        refine lv_topi (fun x_12 ex_12 => ?_)
        have hw := hw x_12 ex_12
        refine lv_istore_n (lv' := [(2, .int x_12), (0, .ref (ad 4)), (1, .int x1), (3, .int x3)]) hx hb dX3_pass_85 rfl hl (by decide) rfl (fun ls hl => ?_)
        obtain ⟨x_13, ex_13⟩ : ∃ y : Int32, y = x3 + 1 := ⟨_, rfl⟩
        have hw := hw x_13 ex_13
        refine lv_iinc (v := x_13) (lv' := [(3, .int x_13), (2, .int x_12), (0, .ref (ad 4)), (1, .int x1)]) hx hb dX3_pass_86 hl (k := 3) rfl (by rw [ex_13]; rfl) (by decide) rfl (fun ls hl => ?_)
        refine lv_goto (tgt := 58) hx hb dX3_pass_89 (by decide) ?_
        exact ih x1 x_12 x_13 g_7 hw _ _ _ hG (lv_sub hl [2, 3, 1, 0] rfl)
def wp_X3_pass (post : Int32 → gS → Prop) (p1 : Int32) (g : gS) : Prop := ((p1 < 0) → (∀ g_2 : gS, g_2 = gi g 4 0 (1 : Int32) → ((((g_2.1 4 0) ≤ 0) → (∀ x_4 : Int32, x_4 = (g_2.1 4 1) + p1 → (∀ g_5 : gS, g_5 = gi g_2 4 1 x_4 → (∃ n, wpl_X3_pass_58 post n p1 0 0 g_5)))) ∧ ((¬ (g_2.1 4 0) ≤ 0) → (post 0 g_2))))) ∧ ((¬ p1 < 0) → (((p1 ≤ 1000) → (((((g.1 4 1) + p1) ≤ 1000000) → (∀ g_17 : gS, g_17 = gi g 4 0 (0 : Int32) → ((((g_17.1 4 0) ≤ 0) → (∀ x_19 : Int32, x_19 = (g_17.1 4 1) + p1 → (∀ g_20 : gS, g_20 = gi g_17 4 1 x_19 → (∃ n, wpl_X3_pass_58 post n p1 0 0 g_20)))) ∧ ((¬ (g_17.1 4 0) ≤ 0) → (post 0 g_17))))) ∧ ((¬ ((g.1 4 1) + p1) ≤ 1000000) → (∀ g_22 : gS, g_22 = gi g 4 0 (2 : Int32) → ((((g_22.1 4 0) ≤ 0) → (∀ x_24 : Int32, x_24 = (g_22.1 4 1) + p1 → (∀ g_25 : gS, g_25 = gi g_22 4 1 x_24 → (∃ n, wpl_X3_pass_58 post n p1 0 0 g_25)))) ∧ ((¬ (g_22.1 4 0) ≤ 0) → (post 0 g_22))))))) ∧ ((¬ p1 ≤ 1000) → (∀ g_27 : gS, g_27 = gi g 4 0 (1 : Int32) → ((((g_27.1 4 0) ≤ 0) → (∀ x_29 : Int32, x_29 = (g_27.1 4 1) + p1 → (∀ g_30 : gS, g_30 = gi g_27 4 1 x_29 → (∃ n, wpl_X3_pass_58 post n p1 0 0 g_30)))) ∧ ((¬ (g_27.1 4 0) ≤ 0) → (post 0 g_27)))))))
set_option maxHeartbeats 4000000 in
set_option maxRecDepth 100000 in
theorem m_X3_pass {l : Launch} (hl9 : l.stackTraces = false) (D : va_G) (K : Nat → ClassId) (sa ad : Nat → Nat) (sz : Nat) (post : Int32 → gS → Prop) (p1 : Int32) (g : gS) (hw : wp_X3_pass post p1 g) : Met l yX3_pass wsX3_pass ({ frames := 1, cells := 0, slots := 0, locals := 21 } : Room) (gPc D K sa ad sz g [.ref (ad 4), .int p1]) (va_Qi post (gB D K ad (va_A (gw K ad g) sz)) (va_A (gw K ad g) sz)) 0 0 (va_A (gw K ad g) sz) := by
  refine Met.ofW (cc := cX3_pass) (maxL := 4) (ret := (some .int)) (by decide) rfl ?_
  intro p e s m args below meth c s₁ B hml hv
  obtain ⟨rfl, hsz, hP, hE, hD0⟩ := hv
  have hx := B.exec
  have hb := B.bytes
  have hr := B.returns
  have hts := atoms_spec (ws := wsX3_pass) B.pre
  have hq : ∀ w ∈ gW, w.before _ s = true := fun w h => hts w (List.mem_cons_of_mem _ h)
  have hown : s.vm.findClass RX3 = some m.cls := findClass_of_methodNamed B.named
  have hlocks := B.notSynchronized
  subst hsz
  have hD := hD0.self (sz := s.heap.size)
  generalize hAe : va_A (gw K ad g) s.heap.size = A at hD hE ⊢
  have hA : ∀ q : Nat, s.heap.size ≤ q → A q := fun q h => by rw [← hAe]; exact Or.inr h
  have hK := hE.1
  have hG : gX D K ad A s.heap g s.heap [] := ⟨hP, hD, va_S.rf⟩
  have hl := lv_entry ([.ref (ad 4), .int p1]) (n := 4) (Nat.le_of_ble_eq_true rfl)
  rw [lg_entry_eq]
  generalize (lg_sl ([.ref (ad 4), .int p1]) ++ List.replicate (4 - (lg_sl ([.ref (ad 4), .int p1])).length) Slot.unset).toArray = ls at hl ⊢
  have hl : lv_has ls 4 [(0, .ref (ad 4)), (1, .int p1)] := hl
  dsimp only [wp_X3_pass] at hw
  refine lv_aload_n hx hb dX3_pass_0 rfl (lv_at hl 0 rfl) ?_
  refine lv_iload_n hx hb dX3_pass_1 rfl (lv_at hl 1 rfl) ?_
  refine lv_if_lt (tgt := 12) hx hb dX3_pass_2 (by decide) (fun c_1 => ?_) (fun c_1 => ?_)
  · have hw := hw.1 c_1
    refine lv_iconst (v := 1) hx hb dX3_pass_12 (by decide) ?_
    refine lv_goto (tgt := 32) hx hb dX3_pass_13 (by decide) ?_
    refine g_put (own := RX3) (C := RX3) (T := TX3) (N := 19) (ci := 3) hx hb hq hin_X3 tyX3 tyX3_ok nmX3 hown hK hG (k := 4) (gok_lo (by decide)) (gc_M) rfl 0 (by decide) (hq _ q_413) rfl rfl (ty := .int) (v := .int 1) (by decide +kernel) rfl rfl (Nat.le_of_ble_eq_true rfl) (gi g 4 0 (1 : Int32)) (gs_M0) (gho_lo (by decide)) dX3_pass_32 (fun H locs hG => ?_)
    obtain ⟨g_2, eg_2⟩ : ∃ z, z = gi g 4 0 (1 : Int32) := ⟨_, rfl⟩
    rw [← eg_2] at hG
    have hw := hw g_2 eg_2
    refine lv_aload_n hx hb dX3_pass_35 rfl (lv_at hl 0 rfl) ?_
    refine g_get (own := RX3) (C := RX3) (T := TX3) (N := 19) (ci := 3) hx hb hq hin_X3 hown hK hG (k := 4) (gok_lo (by decide)) (gc_M) rfl 0 (by decide) (hq _ q_413) rfl (v := .int (g_2.1 4 0)) rfl dX3_pass_36 ?_
    refine lv_if_le (tgt := 44) hx hb dX3_pass_39 (by decide) (fun c_3 => ?_) (fun c_3 => ?_)
    · have hw := hw.1 c_3
      refine lv_aload_n hx hb dX3_pass_44 rfl (lv_at hl 0 rfl) ?_
      refine lv_dup hx hb dX3_pass_45 rfl ?_
      refine g_get (own := RX3) (C := RX3) (T := TX3) (N := 19) (ci := 3) hx hb hq hin_X3 hown hK hG (k := 4) (gok_lo (by decide)) (gc_M) rfl 1 (by decide) (hq _ q_414) rfl (v := .int (g_2.1 4 1)) rfl dX3_pass_46 ?_
      refine lv_iload_n hx hb dX3_pass_49 rfl (lv_at hl 1 rfl) ?_
      refine lv_iadd hx hb dX3_pass_50 ?_
      refine lv_topi (fun x_4 ex_4 => ?_)
      have hw := hw x_4 ex_4
      refine g_put (own := RX3) (C := RX3) (T := TX3) (N := 19) (ci := 3) hx hb hq hin_X3 tyX3 tyX3_ok nmX3 hown hK hG (k := 4) (gok_lo (by decide)) (gc_M) rfl 1 (by decide) (hq _ q_414) rfl rfl (ty := .int) (v := .int x_4) (by decide +kernel) rfl rfl (Nat.le_of_ble_eq_true rfl) (gi g_2 4 1 x_4) (gs_M1) (gho_lo (by decide)) dX3_pass_51 (fun H locs hG => ?_)
      obtain ⟨g_5, eg_5⟩ : ∃ z, z = gi g_2 4 1 x_4 := ⟨_, rfl⟩
      rw [← eg_5] at hG
      have hw := hw g_5 eg_5
      refine lv_iconst (v := 0) hx hb dX3_pass_54 (by decide) ?_
      refine lv_istore_n (lv' := [(2, .int 0), (0, .ref (ad 4)), (1, .int p1)]) hx hb dX3_pass_55 rfl hl (by decide) rfl (fun ls hl => ?_)
      refine lv_iconst (v := 0) hx hb dX3_pass_56 (by decide) ?_
      refine lv_istore_n (lv' := [(3, .int 0), (2, .int 0), (0, .ref (ad 4)), (1, .int p1)]) hx hb dX3_pass_57 rfl hl (by decide) rfl (fun ls hl => ?_)
      obtain ⟨n_14, hw⟩ := hw
      exact L_X3_pass_58 post hl9 hx hb hr hml hown hts hlocks hA hE n_14 p1 0 0 g_5 hw _ _ _ hG (lv_sub hl [2, 3, 1, 0] rfl)
    · have hw := hw.2 c_3
      refine lv_iconst (v := 0) hx hb dX3_pass_42 (by decide) ?_
      exact g_iret hx hb hr hlocks hw hG (by decide) (by decide) dX3_pass_43
  · have hw := hw.2 c_1
    refine lv_iload_n hx hb dX3_pass_5 rfl (lv_at hl 1 rfl) ?_
    refine lv_sipush (v := 1000) hx hb dX3_pass_6 (by decide) ?_
    refine lv_icmp_le (tgt := 16) hx hb dX3_pass_9 (by decide) (fun c_15 => ?_) (fun c_15 => ?_)
    · have hw := hw.1 c_15
      refine lv_aload_n hx hb dX3_pass_16 rfl (lv_at hl 0 rfl) ?_
      refine g_get (own := RX3) (C := RX3) (T := TX3) (N := 19) (ci := 3) hx hb hq hin_X3 hown hK hG (k := 4) (gok_lo (by decide)) (gc_M) rfl 1 (by decide) (hq _ q_414) rfl (v := .int (g.1 4 1)) rfl dX3_pass_17 ?_
      refine lv_iload_n hx hb dX3_pass_20 rfl (lv_at hl 1 rfl) ?_
      refine lv_iadd hx hb dX3_pass_21 ?_
      refine lv_ldc (own := RX3) (v := 1000000) hx hb hown (hq _ q_525) dX3_pass_22 ?_
      refine lv_icmp_le (tgt := 31) hx hb dX3_pass_24 (by decide) (fun c_16 => ?_) (fun c_16 => ?_)
      · have hw := hw.1 c_16
        refine lv_iconst (v := 0) hx hb dX3_pass_31 (by decide) ?_
        refine g_put (own := RX3) (C := RX3) (T := TX3) (N := 19) (ci := 3) hx hb hq hin_X3 tyX3 tyX3_ok nmX3 hown hK hG (k := 4) (gok_lo (by decide)) (gc_M) rfl 0 (by decide) (hq _ q_413) rfl rfl (ty := .int) (v := .int 0) (by decide +kernel) rfl rfl (Nat.le_of_ble_eq_true rfl) (gi g 4 0 (0 : Int32)) (gs_M0) (gho_lo (by decide)) dX3_pass_32 (fun H locs hG => ?_)
        obtain ⟨g_17, eg_17⟩ : ∃ z, z = gi g 4 0 (0 : Int32) := ⟨_, rfl⟩
        rw [← eg_17] at hG
        have hw := hw g_17 eg_17
        refine lv_aload_n hx hb dX3_pass_35 rfl (lv_at hl 0 rfl) ?_
        refine g_get (own := RX3) (C := RX3) (T := TX3) (N := 19) (ci := 3) hx hb hq hin_X3 hown hK hG (k := 4) (gok_lo (by decide)) (gc_M) rfl 0 (by decide) (hq _ q_413) rfl (v := .int (g_17.1 4 0)) rfl dX3_pass_36 ?_
        refine lv_if_le (tgt := 44) hx hb dX3_pass_39 (by decide) (fun c_18 => ?_) (fun c_18 => ?_)
        · have hw := hw.1 c_18
          refine lv_aload_n hx hb dX3_pass_44 rfl (lv_at hl 0 rfl) ?_
          refine lv_dup hx hb dX3_pass_45 rfl ?_
          refine g_get (own := RX3) (C := RX3) (T := TX3) (N := 19) (ci := 3) hx hb hq hin_X3 hown hK hG (k := 4) (gok_lo (by decide)) (gc_M) rfl 1 (by decide) (hq _ q_414) rfl (v := .int (g_17.1 4 1)) rfl dX3_pass_46 ?_
          refine lv_iload_n hx hb dX3_pass_49 rfl (lv_at hl 1 rfl) ?_
          refine lv_iadd hx hb dX3_pass_50 ?_
          refine lv_topi (fun x_19 ex_19 => ?_)
          have hw := hw x_19 ex_19
          refine g_put (own := RX3) (C := RX3) (T := TX3) (N := 19) (ci := 3) hx hb hq hin_X3 tyX3 tyX3_ok nmX3 hown hK hG (k := 4) (gok_lo (by decide)) (gc_M) rfl 1 (by decide) (hq _ q_414) rfl rfl (ty := .int) (v := .int x_19) (by decide +kernel) rfl rfl (Nat.le_of_ble_eq_true rfl) (gi g_17 4 1 x_19) (gs_M1) (gho_lo (by decide)) dX3_pass_51 (fun H locs hG => ?_)
          obtain ⟨g_20, eg_20⟩ : ∃ z, z = gi g_17 4 1 x_19 := ⟨_, rfl⟩
          rw [← eg_20] at hG
          have hw := hw g_20 eg_20
          refine lv_iconst (v := 0) hx hb dX3_pass_54 (by decide) ?_
          refine lv_istore_n (lv' := [(2, .int 0), (0, .ref (ad 4)), (1, .int p1)]) hx hb dX3_pass_55 rfl hl (by decide) rfl (fun ls hl => ?_)
          refine lv_iconst (v := 0) hx hb dX3_pass_56 (by decide) ?_
          refine lv_istore_n (lv' := [(3, .int 0), (2, .int 0), (0, .ref (ad 4)), (1, .int p1)]) hx hb dX3_pass_57 rfl hl (by decide) rfl (fun ls hl => ?_)
          obtain ⟨n_21, hw⟩ := hw
          exact L_X3_pass_58 post hl9 hx hb hr hml hown hts hlocks hA hE n_21 p1 0 0 g_20 hw _ _ _ hG (lv_sub hl [2, 3, 1, 0] rfl)
        · have hw := hw.2 c_18
          refine lv_iconst (v := 0) hx hb dX3_pass_42 (by decide) ?_
          exact g_iret hx hb hr hlocks hw hG (by decide) (by decide) dX3_pass_43
      · have hw := hw.2 c_16
        refine lv_iconst (v := 2) hx hb dX3_pass_27 (by decide) ?_
        refine lv_goto (tgt := 32) hx hb dX3_pass_28 (by decide) ?_
        refine g_put (own := RX3) (C := RX3) (T := TX3) (N := 19) (ci := 3) hx hb hq hin_X3 tyX3 tyX3_ok nmX3 hown hK hG (k := 4) (gok_lo (by decide)) (gc_M) rfl 0 (by decide) (hq _ q_413) rfl rfl (ty := .int) (v := .int 2) (by decide +kernel) rfl rfl (Nat.le_of_ble_eq_true rfl) (gi g 4 0 (2 : Int32)) (gs_M0) (gho_lo (by decide)) dX3_pass_32 (fun H locs hG => ?_)
        obtain ⟨g_22, eg_22⟩ : ∃ z, z = gi g 4 0 (2 : Int32) := ⟨_, rfl⟩
        rw [← eg_22] at hG
        have hw := hw g_22 eg_22
        refine lv_aload_n hx hb dX3_pass_35 rfl (lv_at hl 0 rfl) ?_
        refine g_get (own := RX3) (C := RX3) (T := TX3) (N := 19) (ci := 3) hx hb hq hin_X3 hown hK hG (k := 4) (gok_lo (by decide)) (gc_M) rfl 0 (by decide) (hq _ q_413) rfl (v := .int (g_22.1 4 0)) rfl dX3_pass_36 ?_
        refine lv_if_le (tgt := 44) hx hb dX3_pass_39 (by decide) (fun c_23 => ?_) (fun c_23 => ?_)
        · have hw := hw.1 c_23
          refine lv_aload_n hx hb dX3_pass_44 rfl (lv_at hl 0 rfl) ?_
          refine lv_dup hx hb dX3_pass_45 rfl ?_
          refine g_get (own := RX3) (C := RX3) (T := TX3) (N := 19) (ci := 3) hx hb hq hin_X3 hown hK hG (k := 4) (gok_lo (by decide)) (gc_M) rfl 1 (by decide) (hq _ q_414) rfl (v := .int (g_22.1 4 1)) rfl dX3_pass_46 ?_
          refine lv_iload_n hx hb dX3_pass_49 rfl (lv_at hl 1 rfl) ?_
          refine lv_iadd hx hb dX3_pass_50 ?_
          refine lv_topi (fun x_24 ex_24 => ?_)
          have hw := hw x_24 ex_24
          refine g_put (own := RX3) (C := RX3) (T := TX3) (N := 19) (ci := 3) hx hb hq hin_X3 tyX3 tyX3_ok nmX3 hown hK hG (k := 4) (gok_lo (by decide)) (gc_M) rfl 1 (by decide) (hq _ q_414) rfl rfl (ty := .int) (v := .int x_24) (by decide +kernel) rfl rfl (Nat.le_of_ble_eq_true rfl) (gi g_22 4 1 x_24) (gs_M1) (gho_lo (by decide)) dX3_pass_51 (fun H locs hG => ?_)
          obtain ⟨g_25, eg_25⟩ : ∃ z, z = gi g_22 4 1 x_24 := ⟨_, rfl⟩
          rw [← eg_25] at hG
          have hw := hw g_25 eg_25
          refine lv_iconst (v := 0) hx hb dX3_pass_54 (by decide) ?_
          refine lv_istore_n (lv' := [(2, .int 0), (0, .ref (ad 4)), (1, .int p1)]) hx hb dX3_pass_55 rfl hl (by decide) rfl (fun ls hl => ?_)
          refine lv_iconst (v := 0) hx hb dX3_pass_56 (by decide) ?_
          refine lv_istore_n (lv' := [(3, .int 0), (2, .int 0), (0, .ref (ad 4)), (1, .int p1)]) hx hb dX3_pass_57 rfl hl (by decide) rfl (fun ls hl => ?_)
          obtain ⟨n_26, hw⟩ := hw
          exact L_X3_pass_58 post hl9 hx hb hr hml hown hts hlocks hA hE n_26 p1 0 0 g_25 hw _ _ _ hG (lv_sub hl [2, 3, 1, 0] rfl)
        · have hw := hw.2 c_23
          refine lv_iconst (v := 0) hx hb dX3_pass_42 (by decide) ?_
          exact g_iret hx hb hr hlocks hw hG (by decide) (by decide) dX3_pass_43
    · have hw := hw.2 c_15
      refine lv_iconst (v := 1) hx hb dX3_pass_12 (by decide) ?_
      refine lv_goto (tgt := 32) hx hb dX3_pass_13 (by decide) ?_
      refine g_put (own := RX3) (C := RX3) (T := TX3) (N := 19) (ci := 3) hx hb hq hin_X3 tyX3 tyX3_ok nmX3 hown hK hG (k := 4) (gok_lo (by decide)) (gc_M) rfl 0 (by decide) (hq _ q_413) rfl rfl (ty := .int) (v := .int 1) (by decide +kernel) rfl rfl (Nat.le_of_ble_eq_true rfl) (gi g 4 0 (1 : Int32)) (gs_M0) (gho_lo (by decide)) dX3_pass_32 (fun H locs hG => ?_)
      obtain ⟨g_27, eg_27⟩ : ∃ z, z = gi g 4 0 (1 : Int32) := ⟨_, rfl⟩
      rw [← eg_27] at hG
      have hw := hw g_27 eg_27
      refine lv_aload_n hx hb dX3_pass_35 rfl (lv_at hl 0 rfl) ?_
      refine g_get (own := RX3) (C := RX3) (T := TX3) (N := 19) (ci := 3) hx hb hq hin_X3 hown hK hG (k := 4) (gok_lo (by decide)) (gc_M) rfl 0 (by decide) (hq _ q_413) rfl (v := .int (g_27.1 4 0)) rfl dX3_pass_36 ?_
      refine lv_if_le (tgt := 44) hx hb dX3_pass_39 (by decide) (fun c_28 => ?_) (fun c_28 => ?_)
      · have hw := hw.1 c_28
        refine lv_aload_n hx hb dX3_pass_44 rfl (lv_at hl 0 rfl) ?_
        refine lv_dup hx hb dX3_pass_45 rfl ?_
        refine g_get (own := RX3) (C := RX3) (T := TX3) (N := 19) (ci := 3) hx hb hq hin_X3 hown hK hG (k := 4) (gok_lo (by decide)) (gc_M) rfl 1 (by decide) (hq _ q_414) rfl (v := .int (g_27.1 4 1)) rfl dX3_pass_46 ?_
        refine lv_iload_n hx hb dX3_pass_49 rfl (lv_at hl 1 rfl) ?_
        refine lv_iadd hx hb dX3_pass_50 ?_
        refine lv_topi (fun x_29 ex_29 => ?_)
        have hw := hw x_29 ex_29
        refine g_put (own := RX3) (C := RX3) (T := TX3) (N := 19) (ci := 3) hx hb hq hin_X3 tyX3 tyX3_ok nmX3 hown hK hG (k := 4) (gok_lo (by decide)) (gc_M) rfl 1 (by decide) (hq _ q_414) rfl rfl (ty := .int) (v := .int x_29) (by decide +kernel) rfl rfl (Nat.le_of_ble_eq_true rfl) (gi g_27 4 1 x_29) (gs_M1) (gho_lo (by decide)) dX3_pass_51 (fun H locs hG => ?_)
        obtain ⟨g_30, eg_30⟩ : ∃ z, z = gi g_27 4 1 x_29 := ⟨_, rfl⟩
        rw [← eg_30] at hG
        have hw := hw g_30 eg_30
        refine lv_iconst (v := 0) hx hb dX3_pass_54 (by decide) ?_
        refine lv_istore_n (lv' := [(2, .int 0), (0, .ref (ad 4)), (1, .int p1)]) hx hb dX3_pass_55 rfl hl (by decide) rfl (fun ls hl => ?_)
        refine lv_iconst (v := 0) hx hb dX3_pass_56 (by decide) ?_
        refine lv_istore_n (lv' := [(3, .int 0), (2, .int 0), (0, .ref (ad 4)), (1, .int p1)]) hx hb dX3_pass_57 rfl hl (by decide) rfl (fun ls hl => ?_)
        obtain ⟨n_31, hw⟩ := hw
        exact L_X3_pass_58 post hl9 hx hb hr hml hown hts hlocks hA hE n_31 p1 0 0 g_30 hw _ _ _ hG (lv_sub hl [2, 3, 1, 0] rfl)
      · have hw := hw.2 c_28
        refine lv_iconst (v := 0) hx hb dX3_pass_42 (by decide) ?_
        exact g_iret hx hb hr hlocks hw hG (by decide) (by decide) dX3_pass_43

def wp_X3_arrival (post : Int32 → gS → Prop) (p1 : Int32) (g : gS) : Prop := ((p1 < 0) → (∀ g_2 : gS, g_2 = gi g 4 0 (1 : Int32) → ((((g_2.1 4 0) ≤ 0) → (vp_in p1 7 ∧ (post (g_2.1 15 p1.toNatClampNeg) g_2))) ∧ ((¬ (g_2.1 4 0) ≤ 0) → (post 0 g_2))))) ∧ ((¬ p1 < 0) → (((p1 ≤ 6) → (((¬ (g.1 4 5) = 0) → (∀ g_7 : gS, g_7 = gi g 4 0 (0 : Int32) → ((((g_7.1 4 0) ≤ 0) → (vp_in p1 7 ∧ (post (g_7.1 15 p1.toNatClampNeg) g_7))) ∧ ((¬ (g_7.1 4 0) ≤ 0) → (post 0 g_7))))) ∧ (((g.1 4 5) = 0) → (∀ g_10 : gS, g_10 = gi g 4 0 (2 : Int32) → ((((g_10.1 4 0) ≤ 0) → (vp_in p1 7 ∧ (post (g_10.1 15 p1.toNatClampNeg) g_10))) ∧ ((¬ (g_10.1 4 0) ≤ 0) → (post 0 g_10))))))) ∧ ((¬ p1 ≤ 6) → (∀ g_13 : gS, g_13 = gi g 4 0 (1 : Int32) → ((((g_13.1 4 0) ≤ 0) → (vp_in p1 7 ∧ (post (g_13.1 15 p1.toNatClampNeg) g_13))) ∧ ((¬ (g_13.1 4 0) ≤ 0) → (post 0 g_13)))))))
set_option maxHeartbeats 4000000 in
set_option maxRecDepth 100000 in
theorem m_X3_arrival {l : Launch} (hl9 : l.stackTraces = false) (D : va_G) (K : Nat → ClassId) (sa ad : Nat → Nat) (sz : Nat) (post : Int32 → gS → Prop) (p1 : Int32) (g : gS) (hw : wp_X3_arrival post p1 g) : Met l yX3_arrival wsX3_arrival ({ frames := 0, cells := 0, slots := 0, locals := 0 } : Room) (gPc D K sa ad sz g [.ref (ad 4), .int p1]) (va_Qi post (gB D K ad (va_A (gw K ad g) sz)) (va_A (gw K ad g) sz)) 0 0 (va_A (gw K ad g) sz) := by
  refine Met.ofW (cc := cX3_arrival) (maxL := 2) (ret := (some .int)) (by decide) rfl ?_
  intro p e s m args below meth c s₁ B hml hv
  obtain ⟨rfl, hsz, hP, hE, hD0⟩ := hv
  have hx := B.exec
  have hb := B.bytes
  have hr := B.returns
  have hts := atoms_spec (ws := wsX3_arrival) B.pre
  have hq : ∀ w ∈ gW, w.before _ s = true := fun w h => hts w (List.mem_cons_of_mem _ h)
  have hown : s.vm.findClass RX3 = some m.cls := findClass_of_methodNamed B.named
  have hlocks := B.notSynchronized
  subst hsz
  have hD := hD0.self (sz := s.heap.size)
  generalize hAe : va_A (gw K ad g) s.heap.size = A at hD hE ⊢
  have hA : ∀ q : Nat, s.heap.size ≤ q → A q := fun q h => by rw [← hAe]; exact Or.inr h
  have hK := hE.1
  have hG : gX D K ad A s.heap g s.heap [] := ⟨hP, hD, va_S.rf⟩
  have hl := lv_entry ([.ref (ad 4), .int p1]) (n := 2) (Nat.le_of_ble_eq_true rfl)
  rw [lg_entry_eq]
  generalize (lg_sl ([.ref (ad 4), .int p1]) ++ List.replicate (2 - (lg_sl ([.ref (ad 4), .int p1])).length) Slot.unset).toArray = ls at hl ⊢
  have hl : lv_has ls 2 [(0, .ref (ad 4)), (1, .int p1)] := hl
  dsimp only [wp_X3_arrival] at hw
  refine lv_aload_n hx hb dX3_arrival_0 rfl (lv_at hl 0 rfl) ?_
  refine lv_iload_n hx hb dX3_arrival_1 rfl (lv_at hl 1 rfl) ?_
  refine lv_if_lt (tgt := 11) hx hb dX3_arrival_2 (by decide) (fun c_1 => ?_) (fun c_1 => ?_)
  · have hw := hw.1 c_1
    refine lv_iconst (v := 1) hx hb dX3_arrival_11 (by decide) ?_
    refine lv_goto (tgt := 27) hx hb dX3_arrival_12 (by decide) ?_
    refine g_put (own := RX3) (C := RX3) (T := TX3) (N := 19) (ci := 3) hx hb hq hin_X3 tyX3 tyX3_ok nmX3 hown hK hG (k := 4) (gok_lo (by decide)) (gc_M) rfl 0 (by decide) (hq _ q_413) rfl rfl (ty := .int) (v := .int 1) (by decide +kernel) rfl rfl (Nat.le_of_ble_eq_true rfl) (gi g 4 0 (1 : Int32)) (gs_M0) (gho_lo (by decide)) dX3_arrival_27 (fun H locs hG => ?_)
    obtain ⟨g_2, eg_2⟩ : ∃ z, z = gi g 4 0 (1 : Int32) := ⟨_, rfl⟩
    rw [← eg_2] at hG
    have hw := hw g_2 eg_2
    refine lv_aload_n hx hb dX3_arrival_30 rfl (lv_at hl 0 rfl) ?_
    refine g_get (own := RX3) (C := RX3) (T := TX3) (N := 19) (ci := 3) hx hb hq hin_X3 hown hK hG (k := 4) (gok_lo (by decide)) (gc_M) rfl 0 (by decide) (hq _ q_413) rfl (v := .int (g_2.1 4 0)) rfl dX3_arrival_31 ?_
    refine lv_if_le (tgt := 41) hx hb dX3_arrival_34 (by decide) (fun c_3 => ?_) (fun c_3 => ?_)
    · have hw := hw.1 c_3
      refine lv_aload_n hx hb dX3_arrival_41 rfl (lv_at hl 0 rfl) ?_
      refine g_get (own := RX3) (C := RX3) (T := TX3) (N := 19) (ci := 3) hx hb hq hin_X3 hown hK hG (k := 4) (gok_lo (by decide)) (gc_M) rfl 17 (by decide) (hq _ q_430) rfl (v := .ref (ad 15)) rfl dX3_arrival_42 ?_
      refine lv_iload_n hx hb dX3_arrival_45 rfl (lv_at hl 1 rfl) ?_
      obtain ⟨hi_4, hw⟩ := hw
      refine g_iald hx hb hK hG (k := 15) (gok_lo (by decide)) (gc_15) hi_4 dX3_arrival_46 ?_
      exact g_iret hx hb hr hlocks hw hG (by decide) (by decide) dX3_arrival_47
    · have hw := hw.2 c_3
      refine lv_iconst (v := 0) hx hb dX3_arrival_37 (by decide) ?_
      refine lv_goto (tgt := 47) hx hb dX3_arrival_38 (by decide) ?_
      exact g_iret hx hb hr hlocks hw hG (by decide) (by decide) dX3_arrival_47
  · have hw := hw.2 c_1
    refine lv_iload_n hx hb dX3_arrival_5 rfl (lv_at hl 1 rfl) ?_
    refine lv_bipush (v := 6) hx hb dX3_arrival_6 (by decide) ?_
    refine lv_icmp_le (tgt := 15) hx hb dX3_arrival_8 (by decide) (fun c_5 => ?_) (fun c_5 => ?_)
    · have hw := hw.1 c_5
      refine lv_aload_n hx hb dX3_arrival_15 rfl (lv_at hl 0 rfl) ?_
      refine g_get (own := RX3) (C := RX3) (T := TX3) (N := 19) (ci := 3) hx hb hq hin_X3 hown hK hG (k := 4) (gok_lo (by decide)) (gc_M) rfl 16 (by decide) (hq _ q_429) rfl (v := .int (g.1 4 5)) rfl dX3_arrival_16 ?_
      refine lv_if_ne (tgt := 26) hx hb dX3_arrival_19 (by decide) (fun c_6 => ?_) (fun c_6 => ?_)
      · have hw := hw.1 c_6
        refine lv_iconst (v := 0) hx hb dX3_arrival_26 (by decide) ?_
        refine g_put (own := RX3) (C := RX3) (T := TX3) (N := 19) (ci := 3) hx hb hq hin_X3 tyX3 tyX3_ok nmX3 hown hK hG (k := 4) (gok_lo (by decide)) (gc_M) rfl 0 (by decide) (hq _ q_413) rfl rfl (ty := .int) (v := .int 0) (by decide +kernel) rfl rfl (Nat.le_of_ble_eq_true rfl) (gi g 4 0 (0 : Int32)) (gs_M0) (gho_lo (by decide)) dX3_arrival_27 (fun H locs hG => ?_)
        obtain ⟨g_7, eg_7⟩ : ∃ z, z = gi g 4 0 (0 : Int32) := ⟨_, rfl⟩
        rw [← eg_7] at hG
        have hw := hw g_7 eg_7
        refine lv_aload_n hx hb dX3_arrival_30 rfl (lv_at hl 0 rfl) ?_
        refine g_get (own := RX3) (C := RX3) (T := TX3) (N := 19) (ci := 3) hx hb hq hin_X3 hown hK hG (k := 4) (gok_lo (by decide)) (gc_M) rfl 0 (by decide) (hq _ q_413) rfl (v := .int (g_7.1 4 0)) rfl dX3_arrival_31 ?_
        refine lv_if_le (tgt := 41) hx hb dX3_arrival_34 (by decide) (fun c_8 => ?_) (fun c_8 => ?_)
        · have hw := hw.1 c_8
          refine lv_aload_n hx hb dX3_arrival_41 rfl (lv_at hl 0 rfl) ?_
          refine g_get (own := RX3) (C := RX3) (T := TX3) (N := 19) (ci := 3) hx hb hq hin_X3 hown hK hG (k := 4) (gok_lo (by decide)) (gc_M) rfl 17 (by decide) (hq _ q_430) rfl (v := .ref (ad 15)) rfl dX3_arrival_42 ?_
          refine lv_iload_n hx hb dX3_arrival_45 rfl (lv_at hl 1 rfl) ?_
          obtain ⟨hi_9, hw⟩ := hw
          refine g_iald hx hb hK hG (k := 15) (gok_lo (by decide)) (gc_15) hi_9 dX3_arrival_46 ?_
          exact g_iret hx hb hr hlocks hw hG (by decide) (by decide) dX3_arrival_47
        · have hw := hw.2 c_8
          refine lv_iconst (v := 0) hx hb dX3_arrival_37 (by decide) ?_
          refine lv_goto (tgt := 47) hx hb dX3_arrival_38 (by decide) ?_
          exact g_iret hx hb hr hlocks hw hG (by decide) (by decide) dX3_arrival_47
      · have hw := hw.2 c_6
        refine lv_iconst (v := 2) hx hb dX3_arrival_22 (by decide) ?_
        refine lv_goto (tgt := 27) hx hb dX3_arrival_23 (by decide) ?_
        refine g_put (own := RX3) (C := RX3) (T := TX3) (N := 19) (ci := 3) hx hb hq hin_X3 tyX3 tyX3_ok nmX3 hown hK hG (k := 4) (gok_lo (by decide)) (gc_M) rfl 0 (by decide) (hq _ q_413) rfl rfl (ty := .int) (v := .int 2) (by decide +kernel) rfl rfl (Nat.le_of_ble_eq_true rfl) (gi g 4 0 (2 : Int32)) (gs_M0) (gho_lo (by decide)) dX3_arrival_27 (fun H locs hG => ?_)
        obtain ⟨g_10, eg_10⟩ : ∃ z, z = gi g 4 0 (2 : Int32) := ⟨_, rfl⟩
        rw [← eg_10] at hG
        have hw := hw g_10 eg_10
        refine lv_aload_n hx hb dX3_arrival_30 rfl (lv_at hl 0 rfl) ?_
        refine g_get (own := RX3) (C := RX3) (T := TX3) (N := 19) (ci := 3) hx hb hq hin_X3 hown hK hG (k := 4) (gok_lo (by decide)) (gc_M) rfl 0 (by decide) (hq _ q_413) rfl (v := .int (g_10.1 4 0)) rfl dX3_arrival_31 ?_
        refine lv_if_le (tgt := 41) hx hb dX3_arrival_34 (by decide) (fun c_11 => ?_) (fun c_11 => ?_)
        · have hw := hw.1 c_11
          refine lv_aload_n hx hb dX3_arrival_41 rfl (lv_at hl 0 rfl) ?_
          refine g_get (own := RX3) (C := RX3) (T := TX3) (N := 19) (ci := 3) hx hb hq hin_X3 hown hK hG (k := 4) (gok_lo (by decide)) (gc_M) rfl 17 (by decide) (hq _ q_430) rfl (v := .ref (ad 15)) rfl dX3_arrival_42 ?_
          refine lv_iload_n hx hb dX3_arrival_45 rfl (lv_at hl 1 rfl) ?_
          obtain ⟨hi_12, hw⟩ := hw
          refine g_iald hx hb hK hG (k := 15) (gok_lo (by decide)) (gc_15) hi_12 dX3_arrival_46 ?_
          exact g_iret hx hb hr hlocks hw hG (by decide) (by decide) dX3_arrival_47
        · have hw := hw.2 c_11
          refine lv_iconst (v := 0) hx hb dX3_arrival_37 (by decide) ?_
          refine lv_goto (tgt := 47) hx hb dX3_arrival_38 (by decide) ?_
          exact g_iret hx hb hr hlocks hw hG (by decide) (by decide) dX3_arrival_47
    · have hw := hw.2 c_5
      refine lv_iconst (v := 1) hx hb dX3_arrival_11 (by decide) ?_
      refine lv_goto (tgt := 27) hx hb dX3_arrival_12 (by decide) ?_
      refine g_put (own := RX3) (C := RX3) (T := TX3) (N := 19) (ci := 3) hx hb hq hin_X3 tyX3 tyX3_ok nmX3 hown hK hG (k := 4) (gok_lo (by decide)) (gc_M) rfl 0 (by decide) (hq _ q_413) rfl rfl (ty := .int) (v := .int 1) (by decide +kernel) rfl rfl (Nat.le_of_ble_eq_true rfl) (gi g 4 0 (1 : Int32)) (gs_M0) (gho_lo (by decide)) dX3_arrival_27 (fun H locs hG => ?_)
      obtain ⟨g_13, eg_13⟩ : ∃ z, z = gi g 4 0 (1 : Int32) := ⟨_, rfl⟩
      rw [← eg_13] at hG
      have hw := hw g_13 eg_13
      refine lv_aload_n hx hb dX3_arrival_30 rfl (lv_at hl 0 rfl) ?_
      refine g_get (own := RX3) (C := RX3) (T := TX3) (N := 19) (ci := 3) hx hb hq hin_X3 hown hK hG (k := 4) (gok_lo (by decide)) (gc_M) rfl 0 (by decide) (hq _ q_413) rfl (v := .int (g_13.1 4 0)) rfl dX3_arrival_31 ?_
      refine lv_if_le (tgt := 41) hx hb dX3_arrival_34 (by decide) (fun c_14 => ?_) (fun c_14 => ?_)
      · have hw := hw.1 c_14
        refine lv_aload_n hx hb dX3_arrival_41 rfl (lv_at hl 0 rfl) ?_
        refine g_get (own := RX3) (C := RX3) (T := TX3) (N := 19) (ci := 3) hx hb hq hin_X3 hown hK hG (k := 4) (gok_lo (by decide)) (gc_M) rfl 17 (by decide) (hq _ q_430) rfl (v := .ref (ad 15)) rfl dX3_arrival_42 ?_
        refine lv_iload_n hx hb dX3_arrival_45 rfl (lv_at hl 1 rfl) ?_
        obtain ⟨hi_15, hw⟩ := hw
        refine g_iald hx hb hK hG (k := 15) (gok_lo (by decide)) (gc_15) hi_15 dX3_arrival_46 ?_
        exact g_iret hx hb hr hlocks hw hG (by decide) (by decide) dX3_arrival_47
      · have hw := hw.2 c_14
        refine lv_iconst (v := 0) hx hb dX3_arrival_37 (by decide) ?_
        refine lv_goto (tgt := 47) hx hb dX3_arrival_38 (by decide) ?_
        exact g_iret hx hb hr hlocks hw hG (by decide) (by decide) dX3_arrival_47

def wp_X3_byteAt (post : Int32 → gS → Prop) (p1 : Int32) (g : gS) : Prop := ((¬ (g.1 4 5) = 0) → (((p1 < 0) → (∀ g_3 : gS, g_3 = gi g 4 0 (2 : Int32) → ((((g_3.1 4 0) ≤ 0) → (vp_in p1 1480 ∧ (post (g_3.1 16 p1.toNatClampNeg) g_3))) ∧ ((¬ (g_3.1 4 0) ≤ 0) → (post 0 g_3))))) ∧ ((¬ p1 < 0) → (vp_in (6 : Int32) 7 ∧ (((p1 < (g.1 15 (6 : Int32).toNatClampNeg)) → (∀ g_8 : gS, g_8 = gi g 4 0 (0 : Int32) → ((((g_8.1 4 0) ≤ 0) → (vp_in p1 1480 ∧ (post (g_8.1 16 p1.toNatClampNeg) g_8))) ∧ ((¬ (g_8.1 4 0) ≤ 0) → (post 0 g_8))))) ∧ ((¬ p1 < (g.1 15 (6 : Int32).toNatClampNeg)) → (∀ g_11 : gS, g_11 = gi g 4 0 (2 : Int32) → ((((g_11.1 4 0) ≤ 0) → (vp_in p1 1480 ∧ (post (g_11.1 16 p1.toNatClampNeg) g_11))) ∧ ((¬ (g_11.1 4 0) ≤ 0) → (post 0 g_11)))))))))) ∧ (((g.1 4 5) = 0) → (∀ g_14 : gS, g_14 = gi g 4 0 (1 : Int32) → ((((g_14.1 4 0) ≤ 0) → (vp_in p1 1480 ∧ (post (g_14.1 16 p1.toNatClampNeg) g_14))) ∧ ((¬ (g_14.1 4 0) ≤ 0) → (post 0 g_14)))))
set_option maxHeartbeats 4000000 in
set_option maxRecDepth 100000 in
theorem m_X3_byteAt {l : Launch} (hl9 : l.stackTraces = false) (D : va_G) (K : Nat → ClassId) (sa ad : Nat → Nat) (sz : Nat) (post : Int32 → gS → Prop) (p1 : Int32) (g : gS) (hw : wp_X3_byteAt post p1 g) : Met l yX3_byteAt wsX3_byteAt ({ frames := 0, cells := 0, slots := 0, locals := 0 } : Room) (gPc D K sa ad sz g [.ref (ad 4), .int p1]) (va_Qi post (gB D K ad (va_A (gw K ad g) sz)) (va_A (gw K ad g) sz)) 0 0 (va_A (gw K ad g) sz) := by
  refine Met.ofW (cc := cX3_byteAt) (maxL := 2) (ret := (some .int)) (by decide) rfl ?_
  intro p e s m args below meth c s₁ B hml hv
  obtain ⟨rfl, hsz, hP, hE, hD0⟩ := hv
  have hx := B.exec
  have hb := B.bytes
  have hr := B.returns
  have hts := atoms_spec (ws := wsX3_byteAt) B.pre
  have hq : ∀ w ∈ gW, w.before _ s = true := fun w h => hts w (List.mem_cons_of_mem _ h)
  have hown : s.vm.findClass RX3 = some m.cls := findClass_of_methodNamed B.named
  have hlocks := B.notSynchronized
  subst hsz
  have hD := hD0.self (sz := s.heap.size)
  generalize hAe : va_A (gw K ad g) s.heap.size = A at hD hE ⊢
  have hA : ∀ q : Nat, s.heap.size ≤ q → A q := fun q h => by rw [← hAe]; exact Or.inr h
  have hK := hE.1
  have hG : gX D K ad A s.heap g s.heap [] := ⟨hP, hD, va_S.rf⟩
  have hl := lv_entry ([.ref (ad 4), .int p1]) (n := 2) (Nat.le_of_ble_eq_true rfl)
  rw [lg_entry_eq]
  generalize (lg_sl ([.ref (ad 4), .int p1]) ++ List.replicate (2 - (lg_sl ([.ref (ad 4), .int p1])).length) Slot.unset).toArray = ls at hl ⊢
  have hl : lv_has ls 2 [(0, .ref (ad 4)), (1, .int p1)] := hl
  dsimp only [wp_X3_byteAt] at hw
  refine lv_aload_n hx hb dX3_byteAt_0 rfl (lv_at hl 0 rfl) ?_
  refine lv_aload_n hx hb dX3_byteAt_1 rfl (lv_at hl 0 rfl) ?_
  refine g_get (own := RX3) (C := RX3) (T := TX3) (N := 19) (ci := 3) hx hb hq hin_X3 hown hK hG (k := 4) (gok_lo (by decide)) (gc_M) rfl 16 (by decide) (hq _ q_429) rfl (v := .int (g.1 4 5)) rfl dX3_byteAt_2 ?_
  refine lv_if_ne (tgt := 12) hx hb dX3_byteAt_5 (by decide) (fun c_1 => ?_) (fun c_1 => ?_)
  · have hw := hw.1 c_1
    refine lv_iload_n hx hb dX3_byteAt_12 rfl (lv_at hl 1 rfl) ?_
    refine lv_if_lt (tgt := 27) hx hb dX3_byteAt_13 (by decide) (fun c_2 => ?_) (fun c_2 => ?_)
    · have hw := hw.1 c_2
      refine lv_iconst (v := 2) hx hb dX3_byteAt_27 (by decide) ?_
      refine lv_goto (tgt := 32) hx hb dX3_byteAt_28 (by decide) ?_
      refine g_put (own := RX3) (C := RX3) (T := TX3) (N := 19) (ci := 3) hx hb hq hin_X3 tyX3 tyX3_ok nmX3 hown hK hG (k := 4) (gok_lo (by decide)) (gc_M) rfl 0 (by decide) (hq _ q_413) rfl rfl (ty := .int) (v := .int 2) (by decide +kernel) rfl rfl (Nat.le_of_ble_eq_true rfl) (gi g 4 0 (2 : Int32)) (gs_M0) (gho_lo (by decide)) dX3_byteAt_32 (fun H locs hG => ?_)
      obtain ⟨g_3, eg_3⟩ : ∃ z, z = gi g 4 0 (2 : Int32) := ⟨_, rfl⟩
      rw [← eg_3] at hG
      have hw := hw g_3 eg_3
      refine lv_aload_n hx hb dX3_byteAt_35 rfl (lv_at hl 0 rfl) ?_
      refine g_get (own := RX3) (C := RX3) (T := TX3) (N := 19) (ci := 3) hx hb hq hin_X3 hown hK hG (k := 4) (gok_lo (by decide)) (gc_M) rfl 0 (by decide) (hq _ q_413) rfl (v := .int (g_3.1 4 0)) rfl dX3_byteAt_36 ?_
      refine lv_if_le (tgt := 46) hx hb dX3_byteAt_39 (by decide) (fun c_4 => ?_) (fun c_4 => ?_)
      · have hw := hw.1 c_4
        refine lv_aload_n hx hb dX3_byteAt_46 rfl (lv_at hl 0 rfl) ?_
        refine g_get (own := RX3) (C := RX3) (T := TX3) (N := 19) (ci := 3) hx hb hq hin_X3 hown hK hG (k := 4) (gok_lo (by decide)) (gc_M) rfl 18 (by decide) (hq _ q_431) rfl (v := .ref (ad 16)) rfl dX3_byteAt_47 ?_
        refine lv_iload_n hx hb dX3_byteAt_50 rfl (lv_at hl 1 rfl) ?_
        obtain ⟨hi_5, hw⟩ := hw
        refine g_iald hx hb hK hG (k := 16) (gok_lo (by decide)) (gc_16) hi_5 dX3_byteAt_51 ?_
        exact g_iret hx hb hr hlocks hw hG (by decide) (by decide) dX3_byteAt_52
      · have hw := hw.2 c_4
        refine lv_iconst (v := 0) hx hb dX3_byteAt_42 (by decide) ?_
        refine lv_goto (tgt := 52) hx hb dX3_byteAt_43 (by decide) ?_
        exact g_iret hx hb hr hlocks hw hG (by decide) (by decide) dX3_byteAt_52
    · have hw := hw.2 c_2
      refine lv_iload_n hx hb dX3_byteAt_16 rfl (lv_at hl 1 rfl) ?_
      refine lv_aload_n hx hb dX3_byteAt_17 rfl (lv_at hl 0 rfl) ?_
      refine g_get (own := RX3) (C := RX3) (T := TX3) (N := 19) (ci := 3) hx hb hq hin_X3 hown hK hG (k := 4) (gok_lo (by decide)) (gc_M) rfl 17 (by decide) (hq _ q_430) rfl (v := .ref (ad 15)) rfl dX3_byteAt_18 ?_
      refine lv_bipush (v := 6) hx hb dX3_byteAt_21 (by decide) ?_
      obtain ⟨hi_6, hw⟩ := hw
      refine g_iald hx hb hK hG (k := 15) (gok_lo (by decide)) (gc_15) hi_6 dX3_byteAt_23 ?_
      refine lv_icmp_lt (tgt := 31) hx hb dX3_byteAt_24 (by decide) (fun c_7 => ?_) (fun c_7 => ?_)
      · have hw := hw.1 c_7
        refine lv_iconst (v := 0) hx hb dX3_byteAt_31 (by decide) ?_
        refine g_put (own := RX3) (C := RX3) (T := TX3) (N := 19) (ci := 3) hx hb hq hin_X3 tyX3 tyX3_ok nmX3 hown hK hG (k := 4) (gok_lo (by decide)) (gc_M) rfl 0 (by decide) (hq _ q_413) rfl rfl (ty := .int) (v := .int 0) (by decide +kernel) rfl rfl (Nat.le_of_ble_eq_true rfl) (gi g 4 0 (0 : Int32)) (gs_M0) (gho_lo (by decide)) dX3_byteAt_32 (fun H locs hG => ?_)
        obtain ⟨g_8, eg_8⟩ : ∃ z, z = gi g 4 0 (0 : Int32) := ⟨_, rfl⟩
        rw [← eg_8] at hG
        have hw := hw g_8 eg_8
        refine lv_aload_n hx hb dX3_byteAt_35 rfl (lv_at hl 0 rfl) ?_
        refine g_get (own := RX3) (C := RX3) (T := TX3) (N := 19) (ci := 3) hx hb hq hin_X3 hown hK hG (k := 4) (gok_lo (by decide)) (gc_M) rfl 0 (by decide) (hq _ q_413) rfl (v := .int (g_8.1 4 0)) rfl dX3_byteAt_36 ?_
        refine lv_if_le (tgt := 46) hx hb dX3_byteAt_39 (by decide) (fun c_9 => ?_) (fun c_9 => ?_)
        · have hw := hw.1 c_9
          refine lv_aload_n hx hb dX3_byteAt_46 rfl (lv_at hl 0 rfl) ?_
          refine g_get (own := RX3) (C := RX3) (T := TX3) (N := 19) (ci := 3) hx hb hq hin_X3 hown hK hG (k := 4) (gok_lo (by decide)) (gc_M) rfl 18 (by decide) (hq _ q_431) rfl (v := .ref (ad 16)) rfl dX3_byteAt_47 ?_
          refine lv_iload_n hx hb dX3_byteAt_50 rfl (lv_at hl 1 rfl) ?_
          obtain ⟨hi_10, hw⟩ := hw
          refine g_iald hx hb hK hG (k := 16) (gok_lo (by decide)) (gc_16) hi_10 dX3_byteAt_51 ?_
          exact g_iret hx hb hr hlocks hw hG (by decide) (by decide) dX3_byteAt_52
        · have hw := hw.2 c_9
          refine lv_iconst (v := 0) hx hb dX3_byteAt_42 (by decide) ?_
          refine lv_goto (tgt := 52) hx hb dX3_byteAt_43 (by decide) ?_
          exact g_iret hx hb hr hlocks hw hG (by decide) (by decide) dX3_byteAt_52
      · have hw := hw.2 c_7
        refine lv_iconst (v := 2) hx hb dX3_byteAt_27 (by decide) ?_
        refine lv_goto (tgt := 32) hx hb dX3_byteAt_28 (by decide) ?_
        refine g_put (own := RX3) (C := RX3) (T := TX3) (N := 19) (ci := 3) hx hb hq hin_X3 tyX3 tyX3_ok nmX3 hown hK hG (k := 4) (gok_lo (by decide)) (gc_M) rfl 0 (by decide) (hq _ q_413) rfl rfl (ty := .int) (v := .int 2) (by decide +kernel) rfl rfl (Nat.le_of_ble_eq_true rfl) (gi g 4 0 (2 : Int32)) (gs_M0) (gho_lo (by decide)) dX3_byteAt_32 (fun H locs hG => ?_)
        obtain ⟨g_11, eg_11⟩ : ∃ z, z = gi g 4 0 (2 : Int32) := ⟨_, rfl⟩
        rw [← eg_11] at hG
        have hw := hw g_11 eg_11
        refine lv_aload_n hx hb dX3_byteAt_35 rfl (lv_at hl 0 rfl) ?_
        refine g_get (own := RX3) (C := RX3) (T := TX3) (N := 19) (ci := 3) hx hb hq hin_X3 hown hK hG (k := 4) (gok_lo (by decide)) (gc_M) rfl 0 (by decide) (hq _ q_413) rfl (v := .int (g_11.1 4 0)) rfl dX3_byteAt_36 ?_
        refine lv_if_le (tgt := 46) hx hb dX3_byteAt_39 (by decide) (fun c_12 => ?_) (fun c_12 => ?_)
        · have hw := hw.1 c_12
          refine lv_aload_n hx hb dX3_byteAt_46 rfl (lv_at hl 0 rfl) ?_
          refine g_get (own := RX3) (C := RX3) (T := TX3) (N := 19) (ci := 3) hx hb hq hin_X3 hown hK hG (k := 4) (gok_lo (by decide)) (gc_M) rfl 18 (by decide) (hq _ q_431) rfl (v := .ref (ad 16)) rfl dX3_byteAt_47 ?_
          refine lv_iload_n hx hb dX3_byteAt_50 rfl (lv_at hl 1 rfl) ?_
          obtain ⟨hi_13, hw⟩ := hw
          refine g_iald hx hb hK hG (k := 16) (gok_lo (by decide)) (gc_16) hi_13 dX3_byteAt_51 ?_
          exact g_iret hx hb hr hlocks hw hG (by decide) (by decide) dX3_byteAt_52
        · have hw := hw.2 c_12
          refine lv_iconst (v := 0) hx hb dX3_byteAt_42 (by decide) ?_
          refine lv_goto (tgt := 52) hx hb dX3_byteAt_43 (by decide) ?_
          exact g_iret hx hb hr hlocks hw hG (by decide) (by decide) dX3_byteAt_52
  · have hw := hw.2 c_1
    refine lv_iconst (v := 1) hx hb dX3_byteAt_8 (by decide) ?_
    refine lv_goto (tgt := 32) hx hb dX3_byteAt_9 (by decide) ?_
    refine g_put (own := RX3) (C := RX3) (T := TX3) (N := 19) (ci := 3) hx hb hq hin_X3 tyX3 tyX3_ok nmX3 hown hK hG (k := 4) (gok_lo (by decide)) (gc_M) rfl 0 (by decide) (hq _ q_413) rfl rfl (ty := .int) (v := .int 1) (by decide +kernel) rfl rfl (Nat.le_of_ble_eq_true rfl) (gi g 4 0 (1 : Int32)) (gs_M0) (gho_lo (by decide)) dX3_byteAt_32 (fun H locs hG => ?_)
    obtain ⟨g_14, eg_14⟩ : ∃ z, z = gi g 4 0 (1 : Int32) := ⟨_, rfl⟩
    rw [← eg_14] at hG
    have hw := hw g_14 eg_14
    refine lv_aload_n hx hb dX3_byteAt_35 rfl (lv_at hl 0 rfl) ?_
    refine g_get (own := RX3) (C := RX3) (T := TX3) (N := 19) (ci := 3) hx hb hq hin_X3 hown hK hG (k := 4) (gok_lo (by decide)) (gc_M) rfl 0 (by decide) (hq _ q_413) rfl (v := .int (g_14.1 4 0)) rfl dX3_byteAt_36 ?_
    refine lv_if_le (tgt := 46) hx hb dX3_byteAt_39 (by decide) (fun c_15 => ?_) (fun c_15 => ?_)
    · have hw := hw.1 c_15
      refine lv_aload_n hx hb dX3_byteAt_46 rfl (lv_at hl 0 rfl) ?_
      refine g_get (own := RX3) (C := RX3) (T := TX3) (N := 19) (ci := 3) hx hb hq hin_X3 hown hK hG (k := 4) (gok_lo (by decide)) (gc_M) rfl 18 (by decide) (hq _ q_431) rfl (v := .ref (ad 16)) rfl dX3_byteAt_47 ?_
      refine lv_iload_n hx hb dX3_byteAt_50 rfl (lv_at hl 1 rfl) ?_
      obtain ⟨hi_16, hw⟩ := hw
      refine g_iald hx hb hK hG (k := 16) (gok_lo (by decide)) (gc_16) hi_16 dX3_byteAt_51 ?_
      exact g_iret hx hb hr hlocks hw hG (by decide) (by decide) dX3_byteAt_52
    · have hw := hw.2 c_15
      refine lv_iconst (v := 0) hx hb dX3_byteAt_42 (by decide) ?_
      refine lv_goto (tgt := 52) hx hb dX3_byteAt_43 (by decide) ?_
      exact g_iret hx hb hr hlocks hw hG (by decide) (by decide) dX3_byteAt_52

def wp_X3_underWay (post : Int32 → gS → Prop)  (g : gS) : Prop := ∀ g_1 : gS, g_1 = gi g 4 0 (0 : Int32) → (post (g_1.1 4 4) g_1)
set_option maxHeartbeats 4000000 in
set_option maxRecDepth 100000 in
theorem m_X3_underWay {l : Launch} (hl9 : l.stackTraces = false) (D : va_G) (K : Nat → ClassId) (sa ad : Nat → Nat) (sz : Nat) (post : Int32 → gS → Prop)  (g : gS) (hw : wp_X3_underWay post  g) : Met l yX3_underWay wsX3_underWay ({ frames := 0, cells := 0, slots := 0, locals := 0 } : Room) (gPc D K sa ad sz g [.ref (ad 4)]) (va_Qi post (gB D K ad (va_A (gw K ad g) sz)) (va_A (gw K ad g) sz)) 0 0 (va_A (gw K ad g) sz) := by
  refine Met.ofW (cc := cX3_underWay) (maxL := 1) (ret := (some .int)) (by decide) rfl ?_
  intro p e s m args below meth c s₁ B hml hv
  obtain ⟨rfl, hsz, hP, hE, hD0⟩ := hv
  have hx := B.exec
  have hb := B.bytes
  have hr := B.returns
  have hts := atoms_spec (ws := wsX3_underWay) B.pre
  have hq : ∀ w ∈ gW, w.before _ s = true := fun w h => hts w (List.mem_cons_of_mem _ h)
  have hown : s.vm.findClass RX3 = some m.cls := findClass_of_methodNamed B.named
  have hlocks := B.notSynchronized
  subst hsz
  have hD := hD0.self (sz := s.heap.size)
  generalize hAe : va_A (gw K ad g) s.heap.size = A at hD hE ⊢
  have hA : ∀ q : Nat, s.heap.size ≤ q → A q := fun q h => by rw [← hAe]; exact Or.inr h
  have hK := hE.1
  have hG : gX D K ad A s.heap g s.heap [] := ⟨hP, hD, va_S.rf⟩
  have hl := lv_entry ([.ref (ad 4)]) (n := 1) (Nat.le_of_ble_eq_true rfl)
  rw [lg_entry_eq]
  generalize (lg_sl ([.ref (ad 4)]) ++ List.replicate (1 - (lg_sl ([.ref (ad 4)])).length) Slot.unset).toArray = ls at hl ⊢
  have hl : lv_has ls 1 [(0, .ref (ad 4))] := hl
  dsimp only [wp_X3_underWay] at hw
  refine lv_aload_n hx hb dX3_underWay_0 rfl (lv_at hl 0 rfl) ?_
  refine lv_iconst (v := 0) hx hb dX3_underWay_1 (by decide) ?_
  refine g_put (own := RX3) (C := RX3) (T := TX3) (N := 19) (ci := 3) hx hb hq hin_X3 tyX3 tyX3_ok nmX3 hown hK hG (k := 4) (gok_lo (by decide)) (gc_M) rfl 0 (by decide) (hq _ q_413) rfl rfl (ty := .int) (v := .int 0) (by decide +kernel) rfl rfl (Nat.le_of_ble_eq_true rfl) (gi g 4 0 (0 : Int32)) (gs_M0) (gho_lo (by decide)) dX3_underWay_2 (fun H locs hG => ?_)
  obtain ⟨g_1, eg_1⟩ : ∃ z, z = gi g 4 0 (0 : Int32) := ⟨_, rfl⟩
  rw [← eg_1] at hG
  have hw := hw g_1 eg_1
  refine lv_aload_n hx hb dX3_underWay_5 rfl (lv_at hl 0 rfl) ?_
  refine g_get (own := RX3) (C := RX3) (T := TX3) (N := 19) (ci := 3) hx hb hq hin_X3 hown hK hG (k := 4) (gok_lo (by decide)) (gc_M) rfl 11 (by decide) (hq _ q_424) rfl (v := .int (g_1.1 4 4)) rfl dX3_underWay_6 ?_
  exact g_iret hx hb hr hlocks hw hG (by decide) (by decide) dX3_underWay_9

def wp_X3_fated (post : Int32 → gS → Prop) (p1 : Int32) (g : gS) : Prop := wp_X3_isNet (fun r_2 g_1 => (((r_2 = 0) → (∀ g_4 : gS, g_4 = gi g_1 4 0 (1 : Int32) → ((((g_4.1 4 0) ≤ 0) → (vp_in p1 24 ∧ (post (g_4.1 8 p1.toNatClampNeg) g_4))) ∧ ((¬ (g_4.1 4 0) ≤ 0) → (post 0 g_4))))) ∧ ((¬ r_2 = 0) → (∀ g_7 : gS, g_7 = gi g_1 4 0 (0 : Int32) → ((((g_7.1 4 0) ≤ 0) → (vp_in p1 24 ∧ (post (g_7.1 8 p1.toNatClampNeg) g_7))) ∧ ((¬ (g_7.1 4 0) ≤ 0) → (post 0 g_7))))))) p1 g
set_option maxHeartbeats 4000000 in
set_option maxRecDepth 100000 in
theorem m_X3_fated {l : Launch} (hl9 : l.stackTraces = false) (D : va_G) (K : Nat → ClassId) (sa ad : Nat → Nat) (sz : Nat) (post : Int32 → gS → Prop) (p1 : Int32) (g : gS) (hw : wp_X3_fated post p1 g) : Met l yX3_fated wsX3_fated ({ frames := 1, cells := 0, slots := 0, locals := 21 } : Room) (gPc D K sa ad sz g [.ref (ad 4), .int p1]) (va_Qi post (gB D K ad (va_A (gw K ad g) sz)) (va_A (gw K ad g) sz)) 0 0 (va_A (gw K ad g) sz) := by
  refine Met.ofW (cc := cX3_fated) (maxL := 2) (ret := (some .int)) (by decide) rfl ?_
  intro p e s m args below meth c s₁ B hml hv
  obtain ⟨rfl, hsz, hP, hE, hD0⟩ := hv
  have hx := B.exec
  have hb := B.bytes
  have hr := B.returns
  have hts := atoms_spec (ws := wsX3_fated) B.pre
  have hq : ∀ w ∈ gW, w.before _ s = true := fun w h => hts w (List.mem_cons_of_mem _ h)
  have hown : s.vm.findClass RX3 = some m.cls := findClass_of_methodNamed B.named
  have hlocks := B.notSynchronized
  subst hsz
  have hD := hD0.self (sz := s.heap.size)
  generalize hAe : va_A (gw K ad g) s.heap.size = A at hD hE ⊢
  have hA : ∀ q : Nat, s.heap.size ≤ q → A q := fun q h => by rw [← hAe]; exact Or.inr h
  have hK := hE.1
  have hG : gX D K ad A s.heap g s.heap [] := ⟨hP, hD, va_S.rf⟩
  have hl := lv_entry ([.ref (ad 4), .int p1]) (n := 2) (Nat.le_of_ble_eq_true rfl)
  rw [lg_entry_eq]
  generalize (lg_sl ([.ref (ad 4), .int p1]) ++ List.replicate (2 - (lg_sl ([.ref (ad 4), .int p1])).length) Slot.unset).toArray = ls at hl ⊢
  have hl : lv_has ls 2 [(0, .ref (ad 4)), (1, .int p1)] := hl
  dsimp only [wp_X3_fated] at hw
  refine lv_aload_n hx hb dX3_fated_0 rfl (lv_at hl 0 rfl) ?_
  refine lv_aload_n hx hb dX3_fated_1 rfl (lv_at hl 0 rfl) ?_
  refine lv_iload_n hx hb dX3_fated_2 rfl (lv_at hl 1 rfl) ?_
  refine g_calli (va_runV (As := [.int p1]) (rest := [.ref (ad 4)]) ⟨hx, hb, hml, hown, hts⟩ (m_X3_isNet hl9 D K sa ad _ _ p1 g hw) (cwV 1 hts (gGood gCons (gV q_486 q_488 q_13 q_23 q_489)) rfl rfl rfl (by decide +kernel) ⟨Nat.le_of_ble_eq_true rfl, Nat.le_of_ble_eq_true rfl⟩) ⟨gPc_blind, g_recv hK hG (gok_lo (by decide)) (gc_M) rfl, gPc_at hE hG hA⟩ rfl rfl hl.1 rfl (lv_room (Nat.le_of_ble_eq_true rfl)) dX3_fated_3 ⟨Nat.le_of_ble_eq_true rfl, Nat.le_of_ble_eq_true rfl⟩) hG hA (fun r_2 g_1 H locs hw hG => ?_)
  try dsimp only at hw
  refine lv_if_eq (tgt := 13) hx hb dX3_fated_6 (by decide) (fun c_3 => ?_) (fun c_3 => ?_)
  · have hw := hw.1 c_3
    refine lv_iconst (v := 1) hx hb dX3_fated_13 (by decide) ?_
    refine g_put (own := RX3) (C := RX3) (T := TX3) (N := 19) (ci := 3) hx hb hq hin_X3 tyX3 tyX3_ok nmX3 hown hK hG (k := 4) (gok_lo (by decide)) (gc_M) rfl 0 (by decide) (hq _ q_413) rfl rfl (ty := .int) (v := .int 1) (by decide +kernel) rfl rfl (Nat.le_of_ble_eq_true rfl) (gi g_1 4 0 (1 : Int32)) (gs_M0) (gho_lo (by decide)) dX3_fated_14 (fun H locs hG => ?_)
    obtain ⟨g_4, eg_4⟩ : ∃ z, z = gi g_1 4 0 (1 : Int32) := ⟨_, rfl⟩
    rw [← eg_4] at hG
    have hw := hw g_4 eg_4
    refine lv_aload_n hx hb dX3_fated_17 rfl (lv_at hl 0 rfl) ?_
    refine g_get (own := RX3) (C := RX3) (T := TX3) (N := 19) (ci := 3) hx hb hq hin_X3 hown hK hG (k := 4) (gok_lo (by decide)) (gc_M) rfl 0 (by decide) (hq _ q_413) rfl (v := .int (g_4.1 4 0)) rfl dX3_fated_18 ?_
    refine lv_if_le (tgt := 28) hx hb dX3_fated_21 (by decide) (fun c_5 => ?_) (fun c_5 => ?_)
    · have hw := hw.1 c_5
      refine lv_aload_n hx hb dX3_fated_28 rfl (lv_at hl 0 rfl) ?_
      refine g_get (own := RX3) (C := RX3) (T := TX3) (N := 19) (ci := 3) hx hb hq hin_X3 hown hK hG (k := 4) (gok_lo (by decide)) (gc_M) rfl 6 (by decide) (hq _ q_419) rfl (v := .ref (ad 8)) rfl dX3_fated_29 ?_
      refine lv_iload_n hx hb dX3_fated_32 rfl (lv_at hl 1 rfl) ?_
      obtain ⟨hi_6, hw⟩ := hw
      refine g_iald hx hb hK hG (k := 8) (gok_lo (by decide)) (gc_8) hi_6 dX3_fated_33 ?_
      exact g_iret hx hb hr hlocks hw hG (by decide) (by decide) dX3_fated_34
    · have hw := hw.2 c_5
      refine lv_iconst (v := 0) hx hb dX3_fated_24 (by decide) ?_
      refine lv_goto (tgt := 34) hx hb dX3_fated_25 (by decide) ?_
      exact g_iret hx hb hr hlocks hw hG (by decide) (by decide) dX3_fated_34
  · have hw := hw.2 c_3
    refine lv_iconst (v := 0) hx hb dX3_fated_9 (by decide) ?_
    refine lv_goto (tgt := 14) hx hb dX3_fated_10 (by decide) ?_
    refine g_put (own := RX3) (C := RX3) (T := TX3) (N := 19) (ci := 3) hx hb hq hin_X3 tyX3 tyX3_ok nmX3 hown hK hG (k := 4) (gok_lo (by decide)) (gc_M) rfl 0 (by decide) (hq _ q_413) rfl rfl (ty := .int) (v := .int 0) (by decide +kernel) rfl rfl (Nat.le_of_ble_eq_true rfl) (gi g_1 4 0 (0 : Int32)) (gs_M0) (gho_lo (by decide)) dX3_fated_14 (fun H locs hG => ?_)
    obtain ⟨g_7, eg_7⟩ : ∃ z, z = gi g_1 4 0 (0 : Int32) := ⟨_, rfl⟩
    rw [← eg_7] at hG
    have hw := hw g_7 eg_7
    refine lv_aload_n hx hb dX3_fated_17 rfl (lv_at hl 0 rfl) ?_
    refine g_get (own := RX3) (C := RX3) (T := TX3) (N := 19) (ci := 3) hx hb hq hin_X3 hown hK hG (k := 4) (gok_lo (by decide)) (gc_M) rfl 0 (by decide) (hq _ q_413) rfl (v := .int (g_7.1 4 0)) rfl dX3_fated_18 ?_
    refine lv_if_le (tgt := 28) hx hb dX3_fated_21 (by decide) (fun c_8 => ?_) (fun c_8 => ?_)
    · have hw := hw.1 c_8
      refine lv_aload_n hx hb dX3_fated_28 rfl (lv_at hl 0 rfl) ?_
      refine g_get (own := RX3) (C := RX3) (T := TX3) (N := 19) (ci := 3) hx hb hq hin_X3 hown hK hG (k := 4) (gok_lo (by decide)) (gc_M) rfl 6 (by decide) (hq _ q_419) rfl (v := .ref (ad 8)) rfl dX3_fated_29 ?_
      refine lv_iload_n hx hb dX3_fated_32 rfl (lv_at hl 1 rfl) ?_
      obtain ⟨hi_9, hw⟩ := hw
      refine g_iald hx hb hK hG (k := 8) (gok_lo (by decide)) (gc_8) hi_9 dX3_fated_33 ?_
      exact g_iret hx hb hr hlocks hw hG (by decide) (by decide) dX3_fated_34
    · have hw := hw.2 c_8
      refine lv_iconst (v := 0) hx hb dX3_fated_24 (by decide) ?_
      refine lv_goto (tgt := 34) hx hb dX3_fated_25 (by decide) ?_
      exact g_iret hx hb hr hlocks hw hG (by decide) (by decide) dX3_fated_34

def wp_X3_puts (post : Int32 → gS → Prop) (p1 : Int32) (g : gS) : Prop := wp_X3_isNet (fun r_2 g_1 => (((r_2 = 0) → (∀ g_4 : gS, g_4 = gi g_1 4 0 (1 : Int32) → ((((g_4.1 4 0) ≤ 0) → (vp_in p1 24 ∧ (post (g_4.1 10 p1.toNatClampNeg) g_4))) ∧ ((¬ (g_4.1 4 0) ≤ 0) → (post 0 g_4))))) ∧ ((¬ r_2 = 0) → (∀ g_7 : gS, g_7 = gi g_1 4 0 (0 : Int32) → ((((g_7.1 4 0) ≤ 0) → (vp_in p1 24 ∧ (post (g_7.1 10 p1.toNatClampNeg) g_7))) ∧ ((¬ (g_7.1 4 0) ≤ 0) → (post 0 g_7))))))) p1 g
set_option maxHeartbeats 4000000 in
set_option maxRecDepth 100000 in
theorem m_X3_puts {l : Launch} (hl9 : l.stackTraces = false) (D : va_G) (K : Nat → ClassId) (sa ad : Nat → Nat) (sz : Nat) (post : Int32 → gS → Prop) (p1 : Int32) (g : gS) (hw : wp_X3_puts post p1 g) : Met l yX3_puts wsX3_puts ({ frames := 1, cells := 0, slots := 0, locals := 21 } : Room) (gPc D K sa ad sz g [.ref (ad 4), .int p1]) (va_Qi post (gB D K ad (va_A (gw K ad g) sz)) (va_A (gw K ad g) sz)) 0 0 (va_A (gw K ad g) sz) := by
  refine Met.ofW (cc := cX3_puts) (maxL := 2) (ret := (some .int)) (by decide) rfl ?_
  intro p e s m args below meth c s₁ B hml hv
  obtain ⟨rfl, hsz, hP, hE, hD0⟩ := hv
  have hx := B.exec
  have hb := B.bytes
  have hr := B.returns
  have hts := atoms_spec (ws := wsX3_puts) B.pre
  have hq : ∀ w ∈ gW, w.before _ s = true := fun w h => hts w (List.mem_cons_of_mem _ h)
  have hown : s.vm.findClass RX3 = some m.cls := findClass_of_methodNamed B.named
  have hlocks := B.notSynchronized
  subst hsz
  have hD := hD0.self (sz := s.heap.size)
  generalize hAe : va_A (gw K ad g) s.heap.size = A at hD hE ⊢
  have hA : ∀ q : Nat, s.heap.size ≤ q → A q := fun q h => by rw [← hAe]; exact Or.inr h
  have hK := hE.1
  have hG : gX D K ad A s.heap g s.heap [] := ⟨hP, hD, va_S.rf⟩
  have hl := lv_entry ([.ref (ad 4), .int p1]) (n := 2) (Nat.le_of_ble_eq_true rfl)
  rw [lg_entry_eq]
  generalize (lg_sl ([.ref (ad 4), .int p1]) ++ List.replicate (2 - (lg_sl ([.ref (ad 4), .int p1])).length) Slot.unset).toArray = ls at hl ⊢
  have hl : lv_has ls 2 [(0, .ref (ad 4)), (1, .int p1)] := hl
  dsimp only [wp_X3_puts] at hw
  refine lv_aload_n hx hb dX3_puts_0 rfl (lv_at hl 0 rfl) ?_
  refine lv_aload_n hx hb dX3_puts_1 rfl (lv_at hl 0 rfl) ?_
  refine lv_iload_n hx hb dX3_puts_2 rfl (lv_at hl 1 rfl) ?_
  refine g_calli (va_runV (As := [.int p1]) (rest := [.ref (ad 4)]) ⟨hx, hb, hml, hown, hts⟩ (m_X3_isNet hl9 D K sa ad _ _ p1 g hw) (cwV 1 hts (gGood gCons (gV q_486 q_488 q_13 q_23 q_489)) rfl rfl rfl (by decide +kernel) ⟨Nat.le_of_ble_eq_true rfl, Nat.le_of_ble_eq_true rfl⟩) ⟨gPc_blind, g_recv hK hG (gok_lo (by decide)) (gc_M) rfl, gPc_at hE hG hA⟩ rfl rfl hl.1 rfl (lv_room (Nat.le_of_ble_eq_true rfl)) dX3_puts_3 ⟨Nat.le_of_ble_eq_true rfl, Nat.le_of_ble_eq_true rfl⟩) hG hA (fun r_2 g_1 H locs hw hG => ?_)
  try dsimp only at hw
  refine lv_if_eq (tgt := 13) hx hb dX3_puts_6 (by decide) (fun c_3 => ?_) (fun c_3 => ?_)
  · have hw := hw.1 c_3
    refine lv_iconst (v := 1) hx hb dX3_puts_13 (by decide) ?_
    refine g_put (own := RX3) (C := RX3) (T := TX3) (N := 19) (ci := 3) hx hb hq hin_X3 tyX3 tyX3_ok nmX3 hown hK hG (k := 4) (gok_lo (by decide)) (gc_M) rfl 0 (by decide) (hq _ q_413) rfl rfl (ty := .int) (v := .int 1) (by decide +kernel) rfl rfl (Nat.le_of_ble_eq_true rfl) (gi g_1 4 0 (1 : Int32)) (gs_M0) (gho_lo (by decide)) dX3_puts_14 (fun H locs hG => ?_)
    obtain ⟨g_4, eg_4⟩ : ∃ z, z = gi g_1 4 0 (1 : Int32) := ⟨_, rfl⟩
    rw [← eg_4] at hG
    have hw := hw g_4 eg_4
    refine lv_aload_n hx hb dX3_puts_17 rfl (lv_at hl 0 rfl) ?_
    refine g_get (own := RX3) (C := RX3) (T := TX3) (N := 19) (ci := 3) hx hb hq hin_X3 hown hK hG (k := 4) (gok_lo (by decide)) (gc_M) rfl 0 (by decide) (hq _ q_413) rfl (v := .int (g_4.1 4 0)) rfl dX3_puts_18 ?_
    refine lv_if_le (tgt := 28) hx hb dX3_puts_21 (by decide) (fun c_5 => ?_) (fun c_5 => ?_)
    · have hw := hw.1 c_5
      refine lv_aload_n hx hb dX3_puts_28 rfl (lv_at hl 0 rfl) ?_
      refine g_get (own := RX3) (C := RX3) (T := TX3) (N := 19) (ci := 3) hx hb hq hin_X3 hown hK hG (k := 4) (gok_lo (by decide)) (gc_M) rfl 8 (by decide) (hq _ q_421) rfl (v := .ref (ad 10)) rfl dX3_puts_29 ?_
      refine lv_iload_n hx hb dX3_puts_32 rfl (lv_at hl 1 rfl) ?_
      obtain ⟨hi_6, hw⟩ := hw
      refine g_iald hx hb hK hG (k := 10) (gok_lo (by decide)) (gc_10) hi_6 dX3_puts_33 ?_
      exact g_iret hx hb hr hlocks hw hG (by decide) (by decide) dX3_puts_34
    · have hw := hw.2 c_5
      refine lv_iconst (v := 0) hx hb dX3_puts_24 (by decide) ?_
      refine lv_goto (tgt := 34) hx hb dX3_puts_25 (by decide) ?_
      exact g_iret hx hb hr hlocks hw hG (by decide) (by decide) dX3_puts_34
  · have hw := hw.2 c_3
    refine lv_iconst (v := 0) hx hb dX3_puts_9 (by decide) ?_
    refine lv_goto (tgt := 14) hx hb dX3_puts_10 (by decide) ?_
    refine g_put (own := RX3) (C := RX3) (T := TX3) (N := 19) (ci := 3) hx hb hq hin_X3 tyX3 tyX3_ok nmX3 hown hK hG (k := 4) (gok_lo (by decide)) (gc_M) rfl 0 (by decide) (hq _ q_413) rfl rfl (ty := .int) (v := .int 0) (by decide +kernel) rfl rfl (Nat.le_of_ble_eq_true rfl) (gi g_1 4 0 (0 : Int32)) (gs_M0) (gho_lo (by decide)) dX3_puts_14 (fun H locs hG => ?_)
    obtain ⟨g_7, eg_7⟩ : ∃ z, z = gi g_1 4 0 (0 : Int32) := ⟨_, rfl⟩
    rw [← eg_7] at hG
    have hw := hw g_7 eg_7
    refine lv_aload_n hx hb dX3_puts_17 rfl (lv_at hl 0 rfl) ?_
    refine g_get (own := RX3) (C := RX3) (T := TX3) (N := 19) (ci := 3) hx hb hq hin_X3 hown hK hG (k := 4) (gok_lo (by decide)) (gc_M) rfl 0 (by decide) (hq _ q_413) rfl (v := .int (g_7.1 4 0)) rfl dX3_puts_18 ?_
    refine lv_if_le (tgt := 28) hx hb dX3_puts_21 (by decide) (fun c_8 => ?_) (fun c_8 => ?_)
    · have hw := hw.1 c_8
      refine lv_aload_n hx hb dX3_puts_28 rfl (lv_at hl 0 rfl) ?_
      refine g_get (own := RX3) (C := RX3) (T := TX3) (N := 19) (ci := 3) hx hb hq hin_X3 hown hK hG (k := 4) (gok_lo (by decide)) (gc_M) rfl 8 (by decide) (hq _ q_421) rfl (v := .ref (ad 10)) rfl dX3_puts_29 ?_
      refine lv_iload_n hx hb dX3_puts_32 rfl (lv_at hl 1 rfl) ?_
      obtain ⟨hi_9, hw⟩ := hw
      refine g_iald hx hb hK hG (k := 10) (gok_lo (by decide)) (gc_10) hi_9 dX3_puts_33 ?_
      exact g_iret hx hb hr hlocks hw hG (by decide) (by decide) dX3_puts_34
    · have hw := hw.2 c_8
      refine lv_iconst (v := 0) hx hb dX3_puts_24 (by decide) ?_
      refine lv_goto (tgt := 34) hx hb dX3_puts_25 (by decide) ?_
      exact g_iret hx hb hr hlocks hw hG (by decide) (by decide) dX3_puts_34

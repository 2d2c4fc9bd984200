def wp_X2_ringPlace (post : Int32 → gS → Prop) (p0 : Int32) (g : gS) : Prop := post (p0 &&& 4095) g
set_option maxHeartbeats 4000000 in
set_option maxRecDepth 100000 in
theorem m_X2_ringPlace {l : Launch} (hl9 : l.stackTraces = false) (D : va_G) (K : Nat → ClassId) (sa ad : Nat → Nat) (sz : Nat) (post : Int32 → gS → Prop) (p0 : Int32) (g : gS) (hw : wp_X2_ringPlace post p0 g) : Met l yX2_ringPlace wsX2_ringPlace ({ frames := 0, cells := 0, slots := 0, locals := 0 } : Room) (gPc D K sa ad sz g [.int p0]) (va_Qi post (gB D K ad (va_A (gw K ad g) sz)) (va_A (gw K ad g) sz)) 0 0 (va_A (gw K ad g) sz) := by
  refine Met.ofW (cc := cX2_ringPlace) (maxL := 1) (ret := (some .int)) (by decide) rfl ?_
  intro p e s m args below meth c s₁ B hml hv
  obtain ⟨rfl, hsz, hP, hE, hD0⟩ := hv
  have hx := B.exec
  have hb := B.bytes
  have hr := B.returns
  have hts := atoms_spec (ws := wsX2_ringPlace) B.pre
  have hq : ∀ w ∈ gW, w.before _ s = true := fun w h => hts w (List.mem_cons_of_mem _ h)
  have hown : s.vm.findClass RX2 = some m.cls := findClass_of_methodNamed B.named
  have hlocks := B.notSynchronized
  subst hsz
  have hD := hD0.self (sz := s.heap.size)
  generalize hAe : va_A (gw K ad g) s.heap.size = A at hD hE ⊢
  have hA : ∀ q : Nat, s.heap.size ≤ q → A q := fun q h => by rw [← hAe]; exact Or.inr h
  have hK := hE.1
  have hG : gX D K ad A s.heap g s.heap [] := ⟨hP, hD, va_S.rf⟩
  have hl := lv_entry ([.int p0]) (n := 1) (Nat.le_of_ble_eq_true rfl)
  rw [lg_entry_eq]
  generalize (lg_sl ([.int p0]) ++ List.replicate (1 - (lg_sl ([.int p0])).length) Slot.unset).toArray = ls at hl ⊢
  have hl : lv_has ls 1 [(0, .int p0)] := hl
  dsimp only [wp_X2_ringPlace] at hw
  refine lv_iload_n hx hb dX2_ringPlace_0 rfl (lv_at hl 0 rfl) ?_
  refine lv_sipush (v := 4095) hx hb dX2_ringPlace_1 (by decide) ?_
  refine lv_iand hx hb dX2_ringPlace_4 ?_
  exact g_iret hx hb hr hlocks hw hG (by decide) (by decide) dX2_ringPlace_5

def wp_X2_isStation (post : Int32 → gS → Prop) (p0 : Int32) (g : gS) : Prop := ((p0 < 0) → (post 0 g)) ∧ ((¬ p0 < 0) → (((8 ≤ p0) → (post 0 g)) ∧ ((¬ 8 ≤ p0) → (post 1 g))))
set_option maxHeartbeats 4000000 in
set_option maxRecDepth 100000 in
theorem m_X2_isStation {l : Launch} (hl9 : l.stackTraces = false) (D : va_G) (K : Nat → ClassId) (sa ad : Nat → Nat) (sz : Nat) (post : Int32 → gS → Prop) (p0 : Int32) (g : gS) (hw : wp_X2_isStation post p0 g) : Met l yX2_isStation wsX2_isStation ({ frames := 0, cells := 0, slots := 0, locals := 0 } : Room) (gPc D K sa ad sz g [.int p0]) (va_Qi post (gB D K ad (va_A (gw K ad g) sz)) (va_A (gw K ad g) sz)) 0 0 (va_A (gw K ad g) sz) := by
  refine Met.ofW (cc := cX2_isStation) (maxL := 1) (ret := (some .boolean)) (by decide) rfl ?_
  intro p e s m args below meth c s₁ B hml hv
  obtain ⟨rfl, hsz, hP, hE, hD0⟩ := hv
  have hx := B.exec
  have hb := B.bytes
  have hr := B.returns
  have hts := atoms_spec (ws := wsX2_isStation) B.pre
  have hq : ∀ w ∈ gW, w.before _ s = true := fun w h => hts w (List.mem_cons_of_mem _ h)
  have hown : s.vm.findClass RX2 = some m.cls := findClass_of_methodNamed B.named
  have hlocks := B.notSynchronized
  subst hsz
  have hD := hD0.self (sz := s.heap.size)
  generalize hAe : va_A (gw K ad g) s.heap.size = A at hD hE ⊢
  have hA : ∀ q : Nat, s.heap.size ≤ q → A q := fun q h => by rw [← hAe]; exact Or.inr h
  have hK := hE.1
  have hG : gX D K ad A s.heap g s.heap [] := ⟨hP, hD, va_S.rf⟩
  have hl := lv_entry ([.int p0]) (n := 1) (Nat.le_of_ble_eq_true rfl)
  rw [lg_entry_eq]
  generalize (lg_sl ([.int p0]) ++ List.replicate (1 - (lg_sl ([.int p0])).length) Slot.unset).toArray = ls at hl ⊢
  have hl : lv_has ls 1 [(0, .int p0)] := hl
  dsimp only [wp_X2_isStation] at hw
  refine lv_iload_n hx hb dX2_isStation_0 rfl (lv_at hl 0 rfl) ?_
  refine lv_if_lt (tgt := 14) hx hb dX2_isStation_1 (by decide) (fun c_1 => ?_) (fun c_1 => ?_)
  · have hw := hw.1 c_1
    refine lv_iconst (v := 0) hx hb dX2_isStation_14 (by decide) ?_
    exact g_zret hx hb hr (by decide) hlocks hw hG (by decide) (by decide) dX2_isStation_15
  · have hw := hw.2 c_1
    refine lv_iload_n hx hb dX2_isStation_4 rfl (lv_at hl 0 rfl) ?_
    refine lv_bipush (v := 8) hx hb dX2_isStation_5 (by decide) ?_
    refine lv_icmp_ge (tgt := 14) hx hb dX2_isStation_7 (by decide) (fun c_2 => ?_) (fun c_2 => ?_)
    · have hw := hw.1 c_2
      refine lv_iconst (v := 0) hx hb dX2_isStation_14 (by decide) ?_
      exact g_zret hx hb hr (by decide) hlocks hw hG (by decide) (by decide) dX2_isStation_15
    · have hw := hw.2 c_2
      refine lv_iconst (v := 1) hx hb dX2_isStation_10 (by decide) ?_
      refine lv_goto (tgt := 15) hx hb dX2_isStation_11 (by decide) ?_
      exact g_zret hx hb hr (by decide) hlocks hw hG (by decide) (by decide) dX2_isStation_15

def wp_X2_underWay (post : Int32 → gS → Prop)  (g : gS) : Prop := post (g.1 0 2) g
set_option maxHeartbeats 4000000 in
set_option maxRecDepth 100000 in
theorem m_X2_underWay {l : Launch} (hl9 : l.stackTraces = false) (D : va_G) (K : Nat → ClassId) (sa ad : Nat → Nat) (sz : Nat) (post : Int32 → gS → Prop)  (g : gS) (hw : wp_X2_underWay post  g) : Met l yX2_underWay wsX2_underWay ({ frames := 0, cells := 0, slots := 0, locals := 0 } : Room) (gPc D K sa ad sz g [.ref (ad 0)]) (va_Qi post (gB D K ad (va_A (gw K ad g) sz)) (va_A (gw K ad g) sz)) 0 0 (va_A (gw K ad g) sz) := by
  refine Met.ofW (cc := cX2_underWay) (maxL := 1) (ret := (some .int)) (by decide) rfl ?_
  intro p e s m args below meth c s₁ B hml hv
  obtain ⟨rfl, hsz, hP, hE, hD0⟩ := hv
  have hx := B.exec
  have hb := B.bytes
  have hr := B.returns
  have hts := atoms_spec (ws := wsX2_underWay) B.pre
  have hq : ∀ w ∈ gW, w.before _ s = true := fun w h => hts w (List.mem_cons_of_mem _ h)
  have hown : s.vm.findClass RX2 = some m.cls := findClass_of_methodNamed B.named
  have hlocks := B.notSynchronized
  subst hsz
  have hD := hD0.self (sz := s.heap.size)
  generalize hAe : va_A (gw K ad g) s.heap.size = A at hD hE ⊢
  have hA : ∀ q : Nat, s.heap.size ≤ q → A q := fun q h => by rw [← hAe]; exact Or.inr h
  have hK := hE.1
  have hG : gX D K ad A s.heap g s.heap [] := ⟨hP, hD, va_S.rf⟩
  have hl := lv_entry ([.ref (ad 0)]) (n := 1) (Nat.le_of_ble_eq_true rfl)
  rw [lg_entry_eq]
  generalize (lg_sl ([.ref (ad 0)]) ++ List.replicate (1 - (lg_sl ([.ref (ad 0)])).length) Slot.unset).toArray = ls at hl ⊢
  have hl : lv_has ls 1 [(0, .ref (ad 0))] := hl
  dsimp only [wp_X2_underWay] at hw
  refine lv_aload_n hx hb dX2_underWay_0 rfl (lv_at hl 0 rfl) ?_
  refine g_get (own := RX2) (C := RX2) (T := TX2) (N := 11) (ci := 2) hx hb hq hin_X2 hown hK hG (k := 0) (gok_lo (by decide)) (gc_W) rfl 4 (by decide) (hq _ q_122) rfl (v := .int (g.1 0 2)) rfl dX2_underWay_1 ?_
  exact g_iret hx hb hr hlocks hw hG (by decide) (by decide) dX2_underWay_4

def wp_X2_netNumbered (post : Nat × gS → Prop) (px : String × gS → Prop) (p1 : Int32) (g : gS) : Prop := ((p1 < 0) → (px ("java/lang/IllegalArgumentException", g))) ∧ ((¬ p1 < 0) → (((p1 < (g.1 0 0)) → (vp_in p1 24 ∧ (post (100 + p1.toNatClampNeg, g)))) ∧ ((¬ p1 < (g.1 0 0)) → (px ("java/lang/IllegalArgumentException", g)))))
set_option maxHeartbeats 4000000 in
set_option maxRecDepth 100000 in
theorem m_X2_netNumbered {l : Launch} (hl9 : l.stackTraces = false) (D : va_G) (K : Nat → ClassId) (sa ad : Nat → Nat) (sz : Nat) (post : Nat × gS → Prop) (px : String × gS → Prop) (p1 : Int32) (g : gS) (hw : wp_X2_netNumbered post px p1 g) : vx_Met l yX2_netNumbered wsX2_netNumbered ({ frames := 6, cells := 1, slots := 6, locals := 91 } : Room) (gPc D K sa ad sz g [.ref (ad 0), .int p1]) (va_Qr post (gBr D K ad (va_A (gw K ad g) sz)) (va_A (gw K ad g) sz)) (vx_X px (gBX D K ad (va_A (gw K ad g) sz)) (va_A (gw K ad g) sz)) 1 6 (va_A (gw K ad g) sz) := by
  refine vx_ofW (cc := cX2_netNumbered) (maxL := 2) (ret := (some (.object "WireBench$Net"))) (by decide) rfl ?_
  intro p e s m args below meth c s₁ B hml hN hv
  obtain ⟨rfl, hsz, hP, hE, hD0⟩ := hv
  have hx := B.exec
  have hb := B.bytes
  have hr := B.returns
  have hts := atoms_spec (ws := wsX2_netNumbered) B.pre
  have hq : ∀ w ∈ gW, w.before _ s = true := fun w h => hts w (List.mem_cons_of_mem _ h)
  have hown : s.vm.findClass RX2 = some m.cls := findClass_of_methodNamed B.named
  have hlocks := B.notSynchronized
  subst hsz
  have hD := hD0.self (sz := s.heap.size)
  generalize hAe : va_A (gw K ad g) s.heap.size = A at hD hE ⊢
  have hA : ∀ q : Nat, s.heap.size ≤ q → A q := fun q h => by rw [← hAe]; exact Or.inr h
  have hK := hE.1
  have hG : gX D K ad A s.heap g s.heap [] := ⟨hP, hD, va_S.rf⟩
  have hl := lv_entry ([.ref (ad 0), .int p1]) (n := 2) (Nat.le_of_ble_eq_true rfl)
  rw [lg_entry_eq]
  generalize (lg_sl ([.ref (ad 0), .int p1]) ++ List.replicate (2 - (lg_sl ([.ref (ad 0), .int p1])).length) Slot.unset).toArray = ls at hl ⊢
  have hl : lv_has ls 2 [(0, .ref (ad 0)), (1, .int p1)] := hl
  dsimp only [wp_X2_netNumbered] at hw
  refine lv_iload_n hx hb dX2_netNumbered_0 rfl (lv_at hl 1 rfl) ?_
  refine lv_if_lt (tgt := 12) hx hb dX2_netNumbered_1 (by decide) (fun c_1 => ?_) (fun c_1 => ?_)
  · have hw := hw.1 c_1
    exact g_throwS (own := RX2) (cls := "java/lang/IllegalArgumentException") (text := "there is no such net") (names := ["java/lang/RuntimeException", "java/lang/Exception"]) hx hb hl9 hown (by decide +kernel) (by decide +kernel) (hq _ q_169) (hq _ q_27) hE (by decide +kernel) (hat_IAE_58 hq hE) hgd_IAE_58 (hl.1.trans hml.symm) hN hlocks hw hG dX2_netNumbered_12 dX2_netNumbered_15 dX2_netNumbered_16 dX2_netNumbered_18 dX2_netNumbered_21 (Nat.le_of_ble_eq_true rfl) (Nat.le_of_ble_eq_true rfl) (Nat.le_of_ble_eq_true rfl) (Nat.le_of_ble_eq_true rfl) (by decide) (by decide)
  · have hw := hw.2 c_1
    refine lv_iload_n hx hb dX2_netNumbered_4 rfl (lv_at hl 1 rfl) ?_
    refine lv_aload_n hx hb dX2_netNumbered_5 rfl (lv_at hl 0 rfl) ?_
    refine g_get (own := RX2) (C := RX2) (T := TX2) (N := 11) (ci := 2) hx hb hq hin_X2 hown hK hG (k := 0) (gok_lo (by decide)) (gc_W) rfl 1 (by decide) (hq _ q_119) rfl (v := .int (g.1 0 0)) rfl dX2_netNumbered_6 ?_
    refine lv_icmp_lt (tgt := 22) hx hb dX2_netNumbered_9 (by decide) (fun c_2 => ?_) (fun c_2 => ?_)
    · have hw := hw.1 c_2
      refine lv_aload_n hx hb dX2_netNumbered_22 rfl (lv_at hl 0 rfl) ?_
      refine g_get (own := RX2) (C := RX2) (T := TX2) (N := 11) (ci := 2) hx hb hq hin_X2 hown hK hG (k := 0) (gok_lo (by decide)) (gc_W) rfl 0 (by decide) (hq _ q_118) rfl (v := .ref (ad 1)) rfl dX2_netNumbered_23 ?_
      refine lv_iload_n hx hb dX2_netNumbered_26 rfl (lv_at hl 1 rfl) ?_
      obtain ⟨hi_3, hw⟩ := hw
      refine g_aldN hx hb hK hG hi_3 dX2_netNumbered_27 ?_
      have hk_4 : p1.toNatClampNeg < 24 := vin_lt hi_3
      exact vx_ret (g_aret hx hb hr hlocks hw hG (by decide) (by decide) dX2_netNumbered_28)
    · have hw := hw.2 c_2
      exact g_throwS (own := RX2) (cls := "java/lang/IllegalArgumentException") (text := "there is no such net") (names := ["java/lang/RuntimeException", "java/lang/Exception"]) hx hb hl9 hown (by decide +kernel) (by decide +kernel) (hq _ q_169) (hq _ q_27) hE (by decide +kernel) (hat_IAE_58 hq hE) hgd_IAE_58 (hl.1.trans hml.symm) hN hlocks hw hG dX2_netNumbered_12 dX2_netNumbered_15 dX2_netNumbered_16 dX2_netNumbered_18 dX2_netNumbered_21 (Nat.le_of_ble_eq_true rfl) (Nat.le_of_ble_eq_true rfl) (Nat.le_of_ble_eq_true rfl) (Nat.le_of_ble_eq_true rfl) (by decide) (by decide)

def wp_X1_open (post : gS → Prop) (p0 : Nat) (p1 : Int32) (p2 : Int32) (g : gS) : Prop := p0 < 24 ∧ (∀ g_1 : gS, g_1 = gi g 20 p0 p1 → (∀ g_2 : gS, g_2 = gi g_1 21 p0 p2 → (∀ g_3 : gS, g_3 = gi g_2 22 p0 (1 : Int32) → (post g_3))))
set_option maxHeartbeats 4000000 in
set_option maxRecDepth 100000 in
theorem m_X1_open {l : Launch} (hl9 : l.stackTraces = false) (D : va_G) (K : Nat → ClassId) (sa ad : Nat → Nat) (sz : Nat) (post : gS → Prop) (p0 : Nat) (p1 : Int32) (p2 : Int32) (g : gS) (hw : wp_X1_open post p0 p1 p2 g) : Met l yX1_open wsX1_open ({ frames := 0, cells := 0, slots := 0, locals := 0 } : Room) (gPc D K sa ad sz g [.ref (ad (100 + p0)), .int p1, .int p2]) (va_Qv post (gB D K ad (va_A (gw K ad g) sz)) (va_A (gw K ad g) sz)) 0 0 (va_A (gw K ad g) sz) := by
  refine Met.ofW (cc := cX1_open) (maxL := 3) (ret := none) (by decide) rfl ?_
  intro p e s m args below meth c s₁ B hml hv
  obtain ⟨rfl, hsz, hP, hE, hD0⟩ := hv
  have hx := B.exec
  have hb := B.bytes
  have hr := B.returns
  have hts := atoms_spec (ws := wsX1_open) B.pre
  have hq : ∀ w ∈ gW, w.before _ s = true := fun w h => hts w (List.mem_cons_of_mem _ h)
  have hown : s.vm.findClass RX1 = some m.cls := findClass_of_methodNamed B.named
  have hlocks := B.notSynchronized
  subst hsz
  have hD := hD0.self (sz := s.heap.size)
  generalize hAe : va_A (gw K ad g) s.heap.size = A at hD hE ⊢
  have hA : ∀ q : Nat, s.heap.size ≤ q → A q := fun q h => by rw [← hAe]; exact Or.inr h
  have hK := hE.1
  have hG : gX D K ad A s.heap g s.heap [] := ⟨hP, hD, va_S.rf⟩
  have hl := lv_entry ([.ref (ad (100 + p0)), .int p1, .int p2]) (n := 3) (Nat.le_of_ble_eq_true rfl)
  rw [lg_entry_eq]
  generalize (lg_sl ([.ref (ad (100 + p0)), .int p1, .int p2]) ++ List.replicate (3 - (lg_sl ([.ref (ad (100 + p0)), .int p1, .int p2])).length) Slot.unset).toArray = ls at hl ⊢
  have hl : lv_has ls 3 [(0, .ref (ad (100 + p0))), (1, .int p1), (2, .int p2)] := hl
  dsimp only [wp_X1_open] at hw
  obtain ⟨hp0, hw⟩ := hw
  refine lv_aload_n hx hb dX1_open_0 rfl (lv_at hl 0 rfl) ?_
  refine lv_iload_n hx hb dX1_open_1 rfl (lv_at hl 1 rfl) ?_
  refine g_put (own := RX1) (C := RX1) (T := TX1) (N := 7) (ci := 1) hx hb hq hin_X1 tyX1 tyX1_ok nmX1 hown hK hG (k := 100 + p0) (gok_N hp0) (gc_N hp0) rfl 0 (by decide) (hq _ q_90) rfl rfl (ty := .int) (v := .int p1) (by decide +kernel) rfl rfl (Nat.le_of_ble_eq_true rfl) (gi g 20 p0 p1) (gs_N20 hp0) (gho_N ⟨by decide, by decide⟩) dX1_open_2 (fun H locs hG => ?_)
  obtain ⟨g_1, eg_1⟩ : ∃ z, z = gi g 20 p0 p1 := ⟨_, rfl⟩
  rw [← eg_1] at hG
  have hw := hw g_1 eg_1
  refine lv_aload_n hx hb dX1_open_5 rfl (lv_at hl 0 rfl) ?_
  refine lv_iload_n hx hb dX1_open_6 rfl (lv_at hl 2 rfl) ?_
  refine g_put (own := RX1) (C := RX1) (T := TX1) (N := 7) (ci := 1) hx hb hq hin_X1 tyX1 tyX1_ok nmX1 hown hK hG (k := 100 + p0) (gok_N hp0) (gc_N hp0) rfl 1 (by decide) (hq _ q_92) rfl rfl (ty := .int) (v := .int p2) (by decide +kernel) rfl rfl (Nat.le_of_ble_eq_true rfl) (gi g_1 21 p0 p2) (gs_N21 hp0) (gho_N ⟨by decide, by decide⟩) dX1_open_7 (fun H locs hG => ?_)
  obtain ⟨g_2, eg_2⟩ : ∃ z, z = gi g_1 21 p0 p2 := ⟨_, rfl⟩
  rw [← eg_2] at hG
  have hw := hw g_2 eg_2
  refine lv_aload_n hx hb dX1_open_10 rfl (lv_at hl 0 rfl) ?_
  refine lv_iconst (v := 1) hx hb dX1_open_11 (by decide) ?_
  refine g_put (own := RX1) (C := RX1) (T := TX1) (N := 7) (ci := 1) hx hb hq hin_X1 tyX1 tyX1_ok nmX1 hown hK hG (k := 100 + p0) (gok_N hp0) (gc_N hp0) rfl 2 (by decide) (hq _ q_94) rfl rfl (ty := .boolean) (v := .int 1) (by decide +kernel) (by decide) (by decide) (Nat.le_of_ble_eq_true rfl) (gi g_2 22 p0 (1 : Int32)) (gs_N22 hp0) (gho_N ⟨by decide, by decide⟩) dX1_open_12 (fun H locs hG => ?_)
  obtain ⟨g_3, eg_3⟩ : ∃ z, z = gi g_2 22 p0 (1 : Int32) := ⟨_, rfl⟩
  rw [← eg_3] at hG
  have hw := hw g_3 eg_3
  exact g_vret hx hb hr hlocks hw hG (by decide) (by decide) dX1_open_15

def wp_X1_pieceSize (post : Int32 → gS → Prop) (p0 : Nat) (g : gS) : Prop := p0 < 24 ∧ (post (((g.1 20 p0) - 20) &&& (-8)) g)
set_option maxHeartbeats 4000000 in
set_option maxRecDepth 100000 in
theorem m_X1_pieceSize {l : Launch} (hl9 : l.stackTraces = false) (D : va_G) (K : Nat → ClassId) (sa ad : Nat → Nat) (sz : Nat) (post : Int32 → gS → Prop) (p0 : Nat) (g : gS) (hw : wp_X1_pieceSize post p0 g) : Met l yX1_pieceSize wsX1_pieceSize ({ frames := 0, cells := 0, slots := 0, locals := 0 } : Room) (gPc D K sa ad sz g [.ref (ad (100 + p0))]) (va_Qi post (gB D K ad (va_A (gw K ad g) sz)) (va_A (gw K ad g) sz)) 0 0 (va_A (gw K ad g) sz) := by
  refine Met.ofW (cc := cX1_pieceSize) (maxL := 1) (ret := (some .int)) (by decide) rfl ?_
  intro p e s m args below meth c s₁ B hml hv
  obtain ⟨rfl, hsz, hP, hE, hD0⟩ := hv
  have hx := B.exec
  have hb := B.bytes
  have hr := B.returns
  have hts := atoms_spec (ws := wsX1_pieceSize) B.pre
  have hq : ∀ w ∈ gW, w.before _ s = true := fun w h => hts w (List.mem_cons_of_mem _ h)
  have hown : s.vm.findClass RX1 = some m.cls := findClass_of_methodNamed B.named
  have hlocks := B.notSynchronized
  subst hsz
  have hD := hD0.self (sz := s.heap.size)
  generalize hAe : va_A (gw K ad g) s.heap.size = A at hD hE ⊢
  have hA : ∀ q : Nat, s.heap.size ≤ q → A q := fun q h => by rw [← hAe]; exact Or.inr h
  have hK := hE.1
  have hG : gX D K ad A s.heap g s.heap [] := ⟨hP, hD, va_S.rf⟩
  have hl := lv_entry ([.ref (ad (100 + p0))]) (n := 1) (Nat.le_of_ble_eq_true rfl)
  rw [lg_entry_eq]
  generalize (lg_sl ([.ref (ad (100 + p0))]) ++ List.replicate (1 - (lg_sl ([.ref (ad (100 + p0))])).length) Slot.unset).toArray = ls at hl ⊢
  have hl : lv_has ls 1 [(0, .ref (ad (100 + p0)))] := hl
  dsimp only [wp_X1_pieceSize] at hw
  obtain ⟨hp0, hw⟩ := hw
  refine lv_aload_n hx hb dX1_pieceSize_0 rfl (lv_at hl 0 rfl) ?_
  refine g_get (own := RX1) (C := RX1) (T := TX1) (N := 7) (ci := 1) hx hb hq hin_X1 hown hK hG (k := 100 + p0) (gok_N hp0) (gc_N hp0) rfl 0 (by decide) (hq _ q_90) rfl (v := .int (g.1 20 p0)) rfl dX1_pieceSize_1 ?_
  refine lv_bipush (v := 20) hx hb dX1_pieceSize_4 (by decide) ?_
  refine lv_isub hx hb dX1_pieceSize_6 ?_
  refine lv_bipush (v := (-8)) hx hb dX1_pieceSize_7 (by decide) ?_
  refine lv_iand hx hb dX1_pieceSize_9 ?_
  exact g_iret hx hb hr hlocks hw hG (by decide) (by decide) dX1_pieceSize_10

def wp_X1_addFate (post : gS → Prop) (p0 : Nat) (p1 : Int32) (g : gS) : Prop := p0 < 24 ∧ (vp_in (((g.1 24 p0) + (g.1 25 p0)) &&& 63) 64 ∧ (∀ g_2 : gS, g_2 = gi g (200 + p0) ((((g.1 24 p0) + (g.1 25 p0)) &&& 63).toNatClampNeg) (vp_nar .byte p1.toInt8.toInt32) → (∀ x_3 : Int32, x_3 = (g_2.1 25 p0) + 1 → (∀ g_4 : gS, g_4 = gi g_2 25 p0 x_3 → (post g_4)))))
set_option maxHeartbeats 4000000 in
set_option maxRecDepth 100000 in
theorem m_X1_addFate {l : Launch} (hl9 : l.stackTraces = false) (D : va_G) (K : Nat → ClassId) (sa ad : Nat → Nat) (sz : Nat) (post : gS → Prop) (p0 : Nat) (p1 : Int32) (g : gS) (hw : wp_X1_addFate post p0 p1 g) : Met l yX1_addFate wsX1_addFate ({ frames := 0, cells := 0, slots := 0, locals := 0 } : Room) (gPc D K sa ad sz g [.ref (ad (100 + p0)), .int p1]) (va_Qv post (gB D K ad (va_A (gw K ad g) sz)) (va_A (gw K ad g) sz)) 0 0 (va_A (gw K ad g) sz) := by
  refine Met.ofW (cc := cX1_addFate) (maxL := 2) (ret := none) (by decide) rfl ?_
  intro p e s m args below meth c s₁ B hml hv
  obtain ⟨rfl, hsz, hP, hE, hD0⟩ := hv
  have hx := B.exec
  have hb := B.bytes
  have hr := B.returns
  have hts := atoms_spec (ws := wsX1_addFate) B.pre
  have hq : ∀ w ∈ gW, w.before _ s = true := fun w h => hts w (List.mem_cons_of_mem _ h)
  have hown : s.vm.findClass RX1 = some m.cls := findClass_of_methodNamed B.named
  have hlocks := B.notSynchronized
  subst hsz
  have hD := hD0.self (sz := s.heap.size)
  generalize hAe : va_A (gw K ad g) s.heap.size = A at hD hE ⊢
  have hA : ∀ q : Nat, s.heap.size ≤ q → A q := fun q h => by rw [← hAe]; exact Or.inr h
  have hK := hE.1
  have hG : gX D K ad A s.heap g s.heap [] := ⟨hP, hD, va_S.rf⟩
  have hl := lv_entry ([.ref (ad (100 + p0)), .int p1]) (n := 2) (Nat.le_of_ble_eq_true rfl)
  rw [lg_entry_eq]
  generalize (lg_sl ([.ref (ad (100 + p0)), .int p1]) ++ List.replicate (2 - (lg_sl ([.ref (ad (100 + p0)), .int p1])).length) Slot.unset).toArray = ls at hl ⊢
  have hl : lv_has ls 2 [(0, .ref (ad (100 + p0))), (1, .int p1)] := hl
  dsimp only [wp_X1_addFate] at hw
  obtain ⟨hp0, hw⟩ := hw
  refine lv_aload_n hx hb dX1_addFate_0 rfl (lv_at hl 0 rfl) ?_
  refine g_get (own := RX1) (C := RX1) (T := TX1) (N := 7) (ci := 1) hx hb hq hin_X1 hown hK hG (k := 100 + p0) (gok_N hp0) (gc_N hp0) rfl 4 (by decide) (hq _ q_98) rfl (v := .ref (ad (200 + p0))) rfl dX1_addFate_1 ?_
  refine lv_aload_n hx hb dX1_addFate_4 rfl (lv_at hl 0 rfl) ?_
  refine g_get (own := RX1) (C := RX1) (T := TX1) (N := 7) (ci := 1) hx hb hq hin_X1 hown hK hG (k := 100 + p0) (gok_N hp0) (gc_N hp0) rfl 5 (by decide) (hq _ q_99) rfl (v := .int (g.1 24 p0)) rfl dX1_addFate_5 ?_
  refine lv_aload_n hx hb dX1_addFate_8 rfl (lv_at hl 0 rfl) ?_
  refine g_get (own := RX1) (C := RX1) (T := TX1) (N := 7) (ci := 1) hx hb hq hin_X1 hown hK hG (k := 100 + p0) (gok_N hp0) (gc_N hp0) rfl 6 (by decide) (hq _ q_100) rfl (v := .int (g.1 25 p0)) rfl dX1_addFate_9 ?_
  refine lv_iadd hx hb dX1_addFate_12 ?_
  refine lv_bipush (v := 63) hx hb dX1_addFate_13 (by decide) ?_
  refine lv_iand hx hb dX1_addFate_15 ?_
  refine lv_iload_n hx hb dX1_addFate_16 rfl (lv_at hl 1 rfl) ?_
  refine lv_i2b hx hb dX1_addFate_17 rfl ?_
  obtain ⟨hi_1, hw⟩ := hw
  refine g_bast hx hb hK hG (k := 200 + p0) (gok_S hp0) (fun g => gc_S hp0) (x := p1.toInt8.toInt32) hi_1 (gho_S ⟨by omega, by omega⟩) dX1_addFate_18 (fun H locs hG => ?_)
  obtain ⟨g_2, eg_2⟩ : ∃ z, z = gi g (200 + p0) ((((g.1 24 p0) + (g.1 25 p0)) &&& 63).toNatClampNeg) (vp_nar .byte p1.toInt8.toInt32) := ⟨_, rfl⟩
  rw [← eg_2] at hG
  have hw := hw g_2 eg_2
  refine lv_aload_n hx hb dX1_addFate_19 rfl (lv_at hl 0 rfl) ?_
  refine lv_dup hx hb dX1_addFate_20 rfl ?_
  refine g_get (own := RX1) (C := RX1) (T := TX1) (N := 7) (ci := 1) hx hb hq hin_X1 hown hK hG (k := 100 + p0) (gok_N hp0) (gc_N hp0) rfl 6 (by decide) (hq _ q_100) rfl (v := .int (g_2.1 25 p0)) rfl dX1_addFate_21 ?_
  refine lv_iconst (v := 1) hx hb dX1_addFate_24 (by decide) ?_
  refine lv_iadd hx hb dX1_addFate_25 ?_
  refine lv_topi (fun x_3 ex_3 => ?_)
  have hw := hw x_3 ex_3
  refine g_put (own := RX1) (C := RX1) (T := TX1) (N := 7) (ci := 1) hx hb hq hin_X1 tyX1 tyX1_ok nmX1 hown hK hG (k := 100 + p0) (gok_N hp0) (gc_N hp0) rfl 6 (by decide) (hq _ q_100) rfl rfl (ty := .int) (v := .int x_3) (by decide +kernel) rfl rfl (Nat.le_of_ble_eq_true rfl) (gi g_2 25 p0 x_3) (gs_N25 hp0) (gho_N ⟨by decide, by decide⟩) dX1_addFate_26 (fun H locs hG => ?_)
  obtain ⟨g_4, eg_4⟩ : ∃ z, z = gi g_2 25 p0 x_3 := ⟨_, rfl⟩
  rw [← eg_4] at hG
  have hw := hw g_4 eg_4
  exact g_vret hx hb hr hlocks hw hG (by decide) (by decide) dX1_addFate_29

def wp_X1_takeFate (post : Int32 → gS → Prop) (p0 : Nat) (g : gS) : Prop := p0 < 24 ∧ (((1 ≤ (g.1 25 p0)) → (∀ i_2 : Int32, i_2 = g.1 24 p0 → (vp_in i_2 64 ∧ (∀ x_4 : Int32, x_4 = g.1 (200 + p0) i_2.toNatClampNeg → (∀ x_5 : Int32, x_5 = ((g.1 24 p0) + 1) &&& 63 → (∀ g_6 : gS, g_6 = gi g 24 p0 x_5 → (∀ x_7 : Int32, x_7 = (g_6.1 25 p0) - 1 → (∀ g_8 : gS, g_8 = gi g_6 25 p0 x_7 → (post x_4 g_8))))))))) ∧ ((¬ 1 ≤ (g.1 25 p0)) → (post 0 g)))
set_option maxHeartbeats 4000000 in
set_option maxRecDepth 100000 in
theorem m_X1_takeFate {l : Launch} (hl9 : l.stackTraces = false) (D : va_G) (K : Nat → ClassId) (sa ad : Nat → Nat) (sz : Nat) (post : Int32 → gS → Prop) (p0 : Nat) (g : gS) (hw : wp_X1_takeFate post p0 g) : Met l yX1_takeFate wsX1_takeFate ({ frames := 0, cells := 0, slots := 0, locals := 0 } : Room) (gPc D K sa ad sz g [.ref (ad (100 + p0))]) (va_Qi post (gB D K ad (va_A (gw K ad g) sz)) (va_A (gw K ad g) sz)) 0 0 (va_A (gw K ad g) sz) := by
  refine Met.ofW (cc := cX1_takeFate) (maxL := 2) (ret := (some .int)) (by decide) rfl ?_
  intro p e s m args below meth c s₁ B hml hv
  obtain ⟨rfl, hsz, hP, hE, hD0⟩ := hv
  have hx := B.exec
  have hb := B.bytes
  have hr := B.returns
  have hts := atoms_spec (ws := wsX1_takeFate) B.pre
  have hq : ∀ w ∈ gW, w.before _ s = true := fun w h => hts w (List.mem_cons_of_mem _ h)
  have hown : s.vm.findClass RX1 = some m.cls := findClass_of_methodNamed B.named
  have hlocks := B.notSynchronized
  subst hsz
  have hD := hD0.self (sz := s.heap.size)
  generalize hAe : va_A (gw K ad g) s.heap.size = A at hD hE ⊢
  have hA : ∀ q : Nat, s.heap.size ≤ q → A q := fun q h => by rw [← hAe]; exact Or.inr h
  have hK := hE.1
  have hG : gX D K ad A s.heap g s.heap [] := ⟨hP, hD, va_S.rf⟩
  have hl := lv_entry ([.ref (ad (100 + p0))]) (n := 2) (Nat.le_of_ble_eq_true rfl)
  rw [lg_entry_eq]
  generalize (lg_sl ([.ref (ad (100 + p0))]) ++ List.replicate (2 - (lg_sl ([.ref (ad (100 + p0))])).length) Slot.unset).toArray = ls at hl ⊢
  have hl : lv_has ls 2 [(0, .ref (ad (100 + p0)))] := hl
  dsimp only [wp_X1_takeFate] at hw
  obtain ⟨hp0, hw⟩ := hw
  refine lv_aload_n hx hb dX1_takeFate_0 rfl (lv_at hl 0 rfl) ?_
  refine g_get (own := RX1) (C := RX1) (T := TX1) (N := 7) (ci := 1) hx hb hq hin_X1 hown hK hG (k := 100 + p0) (gok_N hp0) (gc_N hp0) rfl 6 (by decide) (hq _ q_100) rfl (v := .int (g.1 25 p0)) rfl dX1_takeFate_1 ?_
  refine lv_iconst (v := 1) hx hb dX1_takeFate_4 (by decide) ?_
  refine lv_icmp_ge (tgt := 10) hx hb dX1_takeFate_5 (by decide) (fun c_1 => ?_) (fun c_1 => ?_)
  · have hw := hw.1 c_1
    refine lv_aload_n hx hb dX1_takeFate_10 rfl (lv_at hl 0 rfl) ?_
    refine g_get (own := RX1) (C := RX1) (T := TX1) (N := 7) (ci := 1) hx hb hq hin_X1 hown hK hG (k := 100 + p0) (gok_N hp0) (gc_N hp0) rfl 4 (by decide) (hq _ q_98) rfl (v := .ref (ad (200 + p0))) rfl dX1_takeFate_11 ?_
    refine lv_aload_n hx hb dX1_takeFate_14 rfl (lv_at hl 0 rfl) ?_
    refine g_get (own := RX1) (C := RX1) (T := TX1) (N := 7) (ci := 1) hx hb hq hin_X1 hown hK hG (k := 100 + p0) (gok_N hp0) (gc_N hp0) rfl 5 (by decide) (hq _ q_99) rfl (v := .int (g.1 24 p0)) rfl dX1_takeFate_15 ?_
    refine lv_topi (fun i_2 ei_2 => ?_)
    have hw := hw i_2 ei_2
    obtain ⟨hi_3, hw⟩ := hw
    refine g_bald hx hb hK hG (k := 200 + p0) (gok_S hp0) (gc_S hp0) hi_3 dX1_takeFate_18 ?_
    refine lv_topi (fun x_4 ex_4 => ?_)
    have hw := hw x_4 ex_4
    refine lv_istore_n (lv' := [(1, .int x_4), (0, .ref (ad (100 + p0)))]) hx hb dX1_takeFate_19 rfl hl (by decide) rfl (fun ls hl => ?_)
    refine lv_aload_n hx hb dX1_takeFate_20 rfl (lv_at hl 1 rfl) ?_
    refine lv_aload_n hx hb dX1_takeFate_21 rfl (lv_at hl 1 rfl) ?_
    refine g_get (own := RX1) (C := RX1) (T := TX1) (N := 7) (ci := 1) hx hb hq hin_X1 hown hK hG (k := 100 + p0) (gok_N hp0) (gc_N hp0) rfl 5 (by decide) (hq _ q_99) rfl (v := .int (g.1 24 p0)) rfl dX1_takeFate_22 ?_
    refine lv_iconst (v := 1) hx hb dX1_takeFate_25 (by decide) ?_
    refine lv_iadd hx hb dX1_takeFate_26 ?_
    refine lv_bipush (v := 63) hx hb dX1_takeFate_27 (by decide) ?_
    refine lv_iand hx hb dX1_takeFate_29 ?_
    refine lv_topi (fun x_5 ex_5 => ?_)
    have hw := hw x_5 ex_5
    refine g_put (own := RX1) (C := RX1) (T := TX1) (N := 7) (ci := 1) hx hb hq hin_X1 tyX1 tyX1_ok nmX1 hown hK hG (k := 100 + p0) (gok_N hp0) (gc_N hp0) rfl 5 (by decide) (hq _ q_99) rfl rfl (ty := .int) (v := .int x_5) (by decide +kernel) rfl rfl (Nat.le_of_ble_eq_true rfl) (gi g 24 p0 x_5) (gs_N24 hp0) (gho_N ⟨by decide, by decide⟩) dX1_takeFate_30 (fun H locs hG => ?_)
    obtain ⟨g_6, eg_6⟩ : ∃ z, z = gi g 24 p0 x_5 := ⟨_, rfl⟩
    rw [← eg_6] at hG
    have hw := hw g_6 eg_6
    refine lv_aload_n hx hb dX1_takeFate_33 rfl (lv_at hl 1 rfl) ?_
    refine lv_dup hx hb dX1_takeFate_34 rfl ?_
    refine g_get (own := RX1) (C := RX1) (T := TX1) (N := 7) (ci := 1) hx hb hq hin_X1 hown hK hG (k := 100 + p0) (gok_N hp0) (gc_N hp0) rfl 6 (by decide) (hq _ q_100) rfl (v := .int (g_6.1 25 p0)) rfl dX1_takeFate_35 ?_
    refine lv_iconst (v := 1) hx hb dX1_takeFate_38 (by decide) ?_
    refine lv_isub hx hb dX1_takeFate_39 ?_
    refine lv_topi (fun x_7 ex_7 => ?_)
    have hw := hw x_7 ex_7
    refine g_put (own := RX1) (C := RX1) (T := TX1) (N := 7) (ci := 1) hx hb hq hin_X1 tyX1 tyX1_ok nmX1 hown hK hG (k := 100 + p0) (gok_N hp0) (gc_N hp0) rfl 6 (by decide) (hq _ q_100) rfl rfl (ty := .int) (v := .int x_7) (by decide +kernel) rfl rfl (Nat.le_of_ble_eq_true rfl) (gi g_6 25 p0 x_7) (gs_N25 hp0) (gho_N ⟨by decide, by decide⟩) dX1_takeFate_40 (fun H locs hG => ?_)
    obtain ⟨g_8, eg_8⟩ : ∃ z, z = gi g_6 25 p0 x_7 := ⟨_, rfl⟩
    rw [← eg_8] at hG
    have hw := hw g_8 eg_8
    refine lv_iload_n hx hb dX1_takeFate_43 rfl (lv_at hl 0 rfl) ?_
    exact g_iret hx hb hr hlocks hw hG (by decide) (by decide) dX1_takeFate_44
  · have hw := hw.2 c_1
    refine lv_iconst (v := 0) hx hb dX1_takeFate_8 (by decide) ?_
    exact g_iret hx hb hr hlocks hw hG (by decide) (by decide) dX1_takeFate_9

def wp_X0_copyFrom (post : gS → Prop) (p0 : Nat) (p1 : Nat) (g : gS) : Prop := p0 < 514 ∧ p1 < 514 ∧ (∀ x_1 : Int32, x_1 = g.1 31 p1 → (∀ g_2 : gS, g_2 = gi g 31 p0 x_1 → (∀ x_3 : Int32, x_3 = g_2.1 32 p1 → (∀ g_4 : gS, g_4 = gi g_2 32 p0 x_3 → (∀ x_5 : Int32, x_5 = g_4.1 33 p1 → (∀ g_6 : gS, g_6 = gi g_4 33 p0 x_5 → (∀ x_7 : Int32, x_7 = g_6.1 34 p1 → (∀ g_8 : gS, g_8 = gi g_6 34 p0 x_7 → (∀ x_9 : Int32, x_9 = g_8.1 35 p1 → (∀ g_10 : gS, g_10 = gi g_8 35 p0 x_9 → (∀ x_11 : Int32, x_11 = g_10.1 36 p1 → (∀ g_12 : gS, g_12 = gi g_10 36 p0 x_11 → (∀ x_13 : Int32, x_13 = g_12.1 37 p1 → (∀ g_14 : gS, g_14 = gi g_12 37 p0 x_13 → (∀ x_15 : Int32, x_15 = g_14.1 38 p1 → (∀ g_16 : gS, g_16 = gi g_14 38 p0 x_15 → (post g_16)))))))))))))))))
set_option maxHeartbeats 4000000 in
set_option maxRecDepth 100000 in
theorem m_X0_copyFrom {l : Launch} (hl9 : l.stackTraces = false) (D : va_G) (K : Nat → ClassId) (sa ad : Nat → Nat) (sz : Nat) (post : gS → Prop) (p0 : Nat) (p1 : Nat) (g : gS) (hw : wp_X0_copyFrom post p0 p1 g) : Met l yX0_copyFrom wsX0_copyFrom ({ frames := 0, cells := 0, slots := 0, locals := 0 } : Room) (gPc D K sa ad sz g [.ref (ad (1000 + p0)), .ref (ad (1000 + p1))]) (va_Qv post (gB D K ad (va_A (gw K ad g) sz)) (va_A (gw K ad g) sz)) 0 0 (va_A (gw K ad g) sz) := by
  refine Met.ofW (cc := cX0_copyFrom) (maxL := 2) (ret := none) (by decide) rfl ?_
  intro p e s m args below meth c s₁ B hml hv
  obtain ⟨rfl, hsz, hP, hE, hD0⟩ := hv
  have hx := B.exec
  have hb := B.bytes
  have hr := B.returns
  have hts := atoms_spec (ws := wsX0_copyFrom) B.pre
  have hq : ∀ w ∈ gW, w.before _ s = true := fun w h => hts w (List.mem_cons_of_mem _ h)
  have hown : s.vm.findClass RX0 = some m.cls := findClass_of_methodNamed B.named
  have hlocks := B.notSynchronized
  subst hsz
  have hD := hD0.self (sz := s.heap.size)
  generalize hAe : va_A (gw K ad g) s.heap.size = A at hD hE ⊢
  have hA : ∀ q : Nat, s.heap.size ≤ q → A q := fun q h => by rw [← hAe]; exact Or.inr h
  have hK := hE.1
  have hG : gX D K ad A s.heap g s.heap [] := ⟨hP, hD, va_S.rf⟩
  have hl := lv_entry ([.ref (ad (1000 + p0)), .ref (ad (1000 + p1))]) (n := 2) (Nat.le_of_ble_eq_true rfl)
  rw [lg_entry_eq]
  generalize (lg_sl ([.ref (ad (1000 + p0)), .ref (ad (1000 + p1))]) ++ List.replicate (2 - (lg_sl ([.ref (ad (1000 + p0)), .ref (ad (1000 + p1))])).length) Slot.unset).toArray = ls at hl ⊢
  have hl : lv_has ls 2 [(0, .ref (ad (1000 + p0))), (1, .ref (ad (1000 + p1)))] := hl
  dsimp only [wp_X0_copyFrom] at hw
  obtain ⟨hp0, hw⟩ := hw
  obtain ⟨hp1, hw⟩ := hw
  refine lv_aload_n hx hb dX0_copyFrom_0 rfl (lv_at hl 0 rfl) ?_
  refine lv_aload_n hx hb dX0_copyFrom_1 rfl (lv_at hl 1 rfl) ?_
  refine g_get (own := RX0) (C := RX0) (T := TX0) (N := 9) (ci := 0) hx hb hq hin_X0 hown hK hG (k := 1000 + p1) (gok_A hp1) (gc_A) rfl 1 (by decide) (hq _ q_50) rfl (v := .int (g.1 31 p1)) rfl dX0_copyFrom_2 ?_
  refine lv_topi (fun x_1 ex_1 => ?_)
  have hw := hw x_1 ex_1
  refine g_put (own := RX0) (C := RX0) (T := TX0) (N := 9) (ci := 0) hx hb hq hin_X0 tyX0 tyX0_ok nmX0 hown hK hG (k := 1000 + p0) (gok_A hp0) (gc_A) rfl 1 (by decide) (hq _ q_50) rfl rfl (ty := .int) (v := .int x_1) (by decide +kernel) rfl rfl (Nat.le_of_ble_eq_true rfl) (gi g 31 p0 x_1) (gs_A31) (gho_A ⟨by decide, by decide⟩) dX0_copyFrom_5 (fun H locs hG => ?_)
  obtain ⟨g_2, eg_2⟩ : ∃ z, z = gi g 31 p0 x_1 := ⟨_, rfl⟩
  rw [← eg_2] at hG
  have hw := hw g_2 eg_2
  refine lv_aload_n hx hb dX0_copyFrom_8 rfl (lv_at hl 0 rfl) ?_
  refine lv_aload_n hx hb dX0_copyFrom_9 rfl (lv_at hl 1 rfl) ?_
  refine g_get (own := RX0) (C := RX0) (T := TX0) (N := 9) (ci := 0) hx hb hq hin_X0 hown hK hG (k := 1000 + p1) (gok_A hp1) (gc_A) rfl 2 (by decide) (hq _ q_52) rfl (v := .int (g_2.1 32 p1)) rfl dX0_copyFrom_10 ?_
  refine lv_topi (fun x_3 ex_3 => ?_)
  have hw := hw x_3 ex_3
  refine g_put (own := RX0) (C := RX0) (T := TX0) (N := 9) (ci := 0) hx hb hq hin_X0 tyX0 tyX0_ok nmX0 hown hK hG (k := 1000 + p0) (gok_A hp0) (gc_A) rfl 2 (by decide) (hq _ q_52) rfl rfl (ty := .int) (v := .int x_3) (by decide +kernel) rfl rfl (Nat.le_of_ble_eq_true rfl) (gi g_2 32 p0 x_3) (gs_A32) (gho_A ⟨by decide, by decide⟩) dX0_copyFrom_13 (fun H locs hG => ?_)
  obtain ⟨g_4, eg_4⟩ : ∃ z, z = gi g_2 32 p0 x_3 := ⟨_, rfl⟩
  rw [← eg_4] at hG
  have hw := hw g_4 eg_4
  refine lv_aload_n hx hb dX0_copyFrom_16 rfl (lv_at hl 0 rfl) ?_
  refine lv_aload_n hx hb dX0_copyFrom_17 rfl (lv_at hl 1 rfl) ?_
  refine g_get (own := RX0) (C := RX0) (T := TX0) (N := 9) (ci := 0) hx hb hq hin_X0 hown hK hG (k := 1000 + p1) (gok_A hp1) (gc_A) rfl 3 (by decide) (hq _ q_54) rfl (v := .int (g_4.1 33 p1)) rfl dX0_copyFrom_18 ?_
  refine lv_topi (fun x_5 ex_5 => ?_)
  have hw := hw x_5 ex_5
  refine g_put (own := RX0) (C := RX0) (T := TX0) (N := 9) (ci := 0) hx hb hq hin_X0 tyX0 tyX0_ok nmX0 hown hK hG (k := 1000 + p0) (gok_A hp0) (gc_A) rfl 3 (by decide) (hq _ q_54) rfl rfl (ty := .int) (v := .int x_5) (by decide +kernel) rfl rfl (Nat.le_of_ble_eq_true rfl) (gi g_4 33 p0 x_5) (gs_A33) (gho_A ⟨by decide, by decide⟩) dX0_copyFrom_21 (fun H locs hG => ?_)
  obtain ⟨g_6, eg_6⟩ : ∃ z, z = gi g_4 33 p0 x_5 := ⟨_, rfl⟩
  rw [← eg_6] at hG
  have hw := hw g_6 eg_6
  refine lv_aload_n hx hb dX0_copyFrom_24 rfl (lv_at hl 0 rfl) ?_
  refine lv_aload_n hx hb dX0_copyFrom_25 rfl (lv_at hl 1 rfl) ?_
  refine g_get (own := RX0) (C := RX0) (T := TX0) (N := 9) (ci := 0) hx hb hq hin_X0 hown hK hG (k := 1000 + p1) (gok_A hp1) (gc_A) rfl 4 (by decide) (hq _ q_56) rfl (v := .int (g_6.1 34 p1)) rfl dX0_copyFrom_26 ?_
  refine lv_topi (fun x_7 ex_7 => ?_)
  have hw := hw x_7 ex_7
  refine g_put (own := RX0) (C := RX0) (T := TX0) (N := 9) (ci := 0) hx hb hq hin_X0 tyX0 tyX0_ok nmX0 hown hK hG (k := 1000 + p0) (gok_A hp0) (gc_A) rfl 4 (by decide) (hq _ q_56) rfl rfl (ty := .int) (v := .int x_7) (by decide +kernel) rfl rfl (Nat.le_of_ble_eq_true rfl) (gi g_6 34 p0 x_7) (gs_A34) (gho_A ⟨by decide, by decide⟩) dX0_copyFrom_29 (fun H locs hG => ?_)
  obtain ⟨g_8, eg_8⟩ : ∃ z, z = gi g_6 34 p0 x_7 := ⟨_, rfl⟩
  rw [← eg_8] at hG
  have hw := hw g_8 eg_8
  refine lv_aload_n hx hb dX0_copyFrom_32 rfl (lv_at hl 0 rfl) ?_
  refine lv_aload_n hx hb dX0_copyFrom_33 rfl (lv_at hl 1 rfl) ?_
  refine g_get (own := RX0) (C := RX0) (T := TX0) (N := 9) (ci := 0) hx hb hq hin_X0 hown hK hG (k := 1000 + p1) (gok_A hp1) (gc_A) rfl 5 (by decide) (hq _ q_58) rfl (v := .int (g_8.1 35 p1)) rfl dX0_copyFrom_34 ?_
  refine lv_topi (fun x_9 ex_9 => ?_)
  have hw := hw x_9 ex_9
  refine g_put (own := RX0) (C := RX0) (T := TX0) (N := 9) (ci := 0) hx hb hq hin_X0 tyX0 tyX0_ok nmX0 hown hK hG (k := 1000 + p0) (gok_A hp0) (gc_A) rfl 5 (by decide) (hq _ q_58) rfl rfl (ty := .int) (v := .int x_9) (by decide +kernel) rfl rfl (Nat.le_of_ble_eq_true rfl) (gi g_8 35 p0 x_9) (gs_A35) (gho_A ⟨by decide, by decide⟩) dX0_copyFrom_37 (fun H locs hG => ?_)
  obtain ⟨g_10, eg_10⟩ : ∃ z, z = gi g_8 35 p0 x_9 := ⟨_, rfl⟩
  rw [← eg_10] at hG
  have hw := hw g_10 eg_10
  refine lv_aload_n hx hb dX0_copyFrom_40 rfl (lv_at hl 0 rfl) ?_
  refine lv_aload_n hx hb dX0_copyFrom_41 rfl (lv_at hl 1 rfl) ?_
  refine g_get (own := RX0) (C := RX0) (T := TX0) (N := 9) (ci := 0) hx hb hq hin_X0 hown hK hG (k := 1000 + p1) (gok_A hp1) (gc_A) rfl 6 (by decide) (hq _ q_60) rfl (v := .int (g_10.1 36 p1)) rfl dX0_copyFrom_42 ?_
  refine lv_topi (fun x_11 ex_11 => ?_)
  have hw := hw x_11 ex_11
  refine g_put (own := RX0) (C := RX0) (T := TX0) (N := 9) (ci := 0) hx hb hq hin_X0 tyX0 tyX0_ok nmX0 hown hK hG (k := 1000 + p0) (gok_A hp0) (gc_A) rfl 6 (by decide) (hq _ q_60) rfl rfl (ty := .int) (v := .int x_11) (by decide +kernel) rfl rfl (Nat.le_of_ble_eq_true rfl) (gi g_10 36 p0 x_11) (gs_A36) (gho_A ⟨by decide, by decide⟩) dX0_copyFrom_45 (fun H locs hG => ?_)
  obtain ⟨g_12, eg_12⟩ : ∃ z, z = gi g_10 36 p0 x_11 := ⟨_, rfl⟩
  rw [← eg_12] at hG
  have hw := hw g_12 eg_12
  refine lv_aload_n hx hb dX0_copyFrom_48 rfl (lv_at hl 0 rfl) ?_
  refine lv_aload_n hx hb dX0_copyFrom_49 rfl (lv_at hl 1 rfl) ?_
  refine g_get (own := RX0) (C := RX0) (T := TX0) (N := 9) (ci := 0) hx hb hq hin_X0 hown hK hG (k := 1000 + p1) (gok_A hp1) (gc_A) rfl 7 (by decide) (hq _ q_62) rfl (v := .int (g_12.1 37 p1)) rfl dX0_copyFrom_50 ?_
  refine lv_topi (fun x_13 ex_13 => ?_)
  have hw := hw x_13 ex_13
  refine g_put (own := RX0) (C := RX0) (T := TX0) (N := 9) (ci := 0) hx hb hq hin_X0 tyX0 tyX0_ok nmX0 hown hK hG (k := 1000 + p0) (gok_A hp0) (gc_A) rfl 7 (by decide) (hq _ q_62) rfl rfl (ty := .int) (v := .int x_13) (by decide +kernel) rfl rfl (Nat.le_of_ble_eq_true rfl) (gi g_12 37 p0 x_13) (gs_A37) (gho_A ⟨by decide, by decide⟩) dX0_copyFrom_53 (fun H locs hG => ?_)
  obtain ⟨g_14, eg_14⟩ : ∃ z, z = gi g_12 37 p0 x_13 := ⟨_, rfl⟩
  rw [← eg_14] at hG
  have hw := hw g_14 eg_14
  refine lv_aload_n hx hb dX0_copyFrom_56 rfl (lv_at hl 0 rfl) ?_
  refine lv_aload_n hx hb dX0_copyFrom_57 rfl (lv_at hl 1 rfl) ?_
  refine g_get (own := RX0) (C := RX0) (T := TX0) (N := 9) (ci := 0) hx hb hq hin_X0 hown hK hG (k := 1000 + p1) (gok_A hp1) (gc_A) rfl 8 (by decide) (hq _ q_64) rfl (v := .int (g_14.1 38 p1)) rfl dX0_copyFrom_58 ?_
  refine lv_topi (fun x_15 ex_15 => ?_)
  have hw := hw x_15 ex_15
  refine g_put (own := RX0) (C := RX0) (T := TX0) (N := 9) (ci := 0) hx hb hq hin_X0 tyX0 tyX0_ok nmX0 hown hK hG (k := 1000 + p0) (gok_A hp0) (gc_A) rfl 8 (by decide) (hq _ q_64) rfl rfl (ty := .int) (v := .int x_15) (by decide +kernel) rfl rfl (Nat.le_of_ble_eq_true rfl) (gi g_14 38 p0 x_15) (gs_A38) (gho_A ⟨by decide, by decide⟩) dX0_copyFrom_61 (fun H locs hG => ?_)
  obtain ⟨g_16, eg_16⟩ : ∃ z, z = gi g_14 38 p0 x_15 := ⟨_, rfl⟩
  rw [← eg_16] at hG
  have hw := hw g_16 eg_16
  exact g_vret hx hb hr hlocks hw hG (by decide) (by decide) dX0_copyFrom_64

def wp_X2_countPieces (post : Int32 → gS → Prop) (p0 : Int32) (p1 : Int32) (g : gS) : Prop := ((1 ≤ p1) → (¬ p1 = 0 ∧ (post (((p0 + p1) - 1) / p1) g))) ∧ ((¬ 1 ≤ p1) → (post 0 g))
set_option maxHeartbeats 4000000 in
set_option maxRecDepth 100000 in
theorem m_X2_countPieces {l : Launch} (hl9 : l.stackTraces = false) (D : va_G) (K : Nat → ClassId) (sa ad : Nat → Nat) (sz : Nat) (post : Int32 → gS → Prop) (p0 : Int32) (p1 : Int32) (g : gS) (hw : wp_X2_countPieces post p0 p1 g) : Met l yX2_countPieces wsX2_countPieces ({ frames := 0, cells := 0, slots := 0, locals := 0 } : Room) (gPc D K sa ad sz g [.int p0, .int p1]) (va_Qi post (gB D K ad (va_A (gw K ad g) sz)) (va_A (gw K ad g) sz)) 0 0 (va_A (gw K ad g) sz) := by
  refine Met.ofW (cc := cX2_countPieces) (maxL := 2) (ret := (some .int)) (by decide) rfl ?_
  intro p e s m args below meth c s₁ B hml hv
  obtain ⟨rfl, hsz, hP, hE, hD0⟩ := hv
  have hx := B.exec
  have hb := B.bytes
  have hr := B.returns
  have hts := atoms_spec (ws := wsX2_countPieces) B.pre
  have hq : ∀ w ∈ gW, w.before _ s = true := fun w h => hts w (List.mem_cons_of_mem _ h)
  have hown : s.vm.findClass RX2 = some m.cls := findClass_of_methodNamed B.named
  have hlocks := B.notSynchronized
  subst hsz
  have hD := hD0.self (sz := s.heap.size)
  generalize hAe : va_A (gw K ad g) s.heap.size = A at hD hE ⊢
  have hA : ∀ q : Nat, s.heap.size ≤ q → A q := fun q h => by rw [← hAe]; exact Or.inr h
  have hK := hE.1
  have hG : gX D K ad A s.heap g s.heap [] := ⟨hP, hD, va_S.rf⟩
  have hl := lv_entry ([.int p0, .int p1]) (n := 2) (Nat.le_of_ble_eq_true rfl)
  rw [lg_entry_eq]
  generalize (lg_sl ([.int p0, .int p1]) ++ List.replicate (2 - (lg_sl ([.int p0, .int p1])).length) Slot.unset).toArray = ls at hl ⊢
  have hl : lv_has ls 2 [(0, .int p0), (1, .int p1)] := hl
  dsimp only [wp_X2_countPieces] at hw
  refine lv_iload_n hx hb dX2_countPieces_0 rfl (lv_at hl 1 rfl) ?_
  refine lv_iconst (v := 1) hx hb dX2_countPieces_1 (by decide) ?_
  refine lv_icmp_ge (tgt := 9) hx hb dX2_countPieces_2 (by decide) (fun c_1 => ?_) (fun c_1 => ?_)
  · have hw := hw.1 c_1
    refine lv_iload_n hx hb dX2_countPieces_9 rfl (lv_at hl 0 rfl) ?_
    refine lv_iload_n hx hb dX2_countPieces_10 rfl (lv_at hl 1 rfl) ?_
    refine lv_iadd hx hb dX2_countPieces_11 ?_
    refine lv_iconst (v := 1) hx hb dX2_countPieces_12 (by decide) ?_
    refine lv_isub hx hb dX2_countPieces_13 ?_
    refine lv_iload_n hx hb dX2_countPieces_14 rfl (lv_at hl 1 rfl) ?_
    obtain ⟨h_2, hw⟩ := hw
    refine lv_idiv hx hb dX2_countPieces_15 h_2 ?_
    exact g_iret hx hb hr hlocks hw hG (by decide) (by decide) dX2_countPieces_16
  · have hw := hw.2 c_1
    refine lv_iconst (v := 0) hx hb dX2_countPieces_5 (by decide) ?_
    refine lv_goto (tgt := 16) hx hb dX2_countPieces_6 (by decide) ?_
    exact g_iret hx hb hr hlocks hw hG (by decide) (by decide) dX2_countPieces_16

def wpl_X2_countDue_2 (post : Int32 → gS → Prop) : Nat → Int32 → gS → Prop
  | 0 => fun _ _ => False
  | n + 1 => fun x1 g => (((g.1 0 2) ≤ x1) → (post x1 g)) ∧ ((¬ (g.1 0 2) ≤ x1) → (vp_in x1 512 ∧ (g.2.1 x1.toNatClampNeg < 514 ∧ ((((g.1 0 1) < (g.1 30 (g.2.1 x1.toNatClampNeg))) → (post x1 g)) ∧ ((¬ (g.1 0 1) < (g.1 30 (g.2.1 x1.toNatClampNeg))) → (∀ x_5 : Int32, x_5 = x1 + 1 → (wpl_X2_countDue_2 post n x_5 g)))))))
set_option maxHeartbeats 4000000 in
set_option maxRecDepth 100000 in
theorem L_X2_countDue_2 {p : Program} {l : Launch} {e : Env} {s : State} {m : MethodId} {args : Array Value} {below : List Frame} {meth : Method} {c : Code} {D : va_G} {K : Nat → ClassId} {sa ad : Nat → Nat} {A : Nat → Prop} (post : Int32 → gS → Prop) (hl9 : l.stackTraces = false) (hx : p.tables.exec = Jvm.exec) (hb : c.code = cX2_countDue) (hr : meth.sig.returnType = (some .int)) (hml : c.maxLocals = 2) (hown : s.vm.findClass RX2 = some m.cls) (hts : ∀ w ∈ wsX2_countDue, w.before args s = true) (hlocks : meth.locks = false) (hA : ∀ q, s.heap.size ≤ q → A q) (hE : gE D K sa A s s.heap) : ∀ (n : Nat) (x1 : Int32) (g : gS), wpl_X2_countDue_2 post n x1 g → ∀ (H : Heap) (locs : List Loc) (ls : Array Slot), gX D K ad A s.heap g H locs → lv_has ls 2 [(0, .ref (ad 0)), (1, .int x1)] → W p l e ({ frames := 0, cells := 0, slots := 0, locals := 0 } : Room) s m args below meth c H locs 0 0 (MQ below (va_Qi post (gB D K ad A) A) args s 0 0 A) (F0 m 2 ls []) := by
  have hK := hE.1
  have hq : ∀ w ∈ gW, w.before args s = true := fun w h => hts w (List.mem_cons_of_mem _ h)
  intro n
  induction n with
  | zero =>
    intro x1 g hw
    exact hw.elim
  | succ n ih =>
    intro x1 g hw H locs ls hG hl
    dsimp only [wpl_X2_countDue_2] at hw
    refine lv_iload_n hx hb dX2_countDue_2 rfl (lv_at hl 1 rfl) ?_
    refine lv_aload_n hx hb dX2_countDue_3 rfl (lv_at hl 0 rfl) ?_
    refine g_get (own := RX2) (C := RX2) (T := TX2) (N := 11) (ci := 2) hx hb hq hin_X2 hown hK hG (k := 0) (gok_lo (by decide)) (gc_W) rfl 4 (by decide) (hq _ q_122) rfl (v := .int (g.1 0 2)) rfl dX2_countDue_4 ?_
    refine lv_icmp_ge (tgt := 32) hx hb dX2_countDue_7 (by decide) (fun c_1 => ?_) (fun c_1 => ?_)
    · have hw := hw.1 c_1
      refine lv_iload_n hx hb dX2_countDue_32 rfl (lv_at hl 1 rfl) ?_
      exact g_iret hx hb hr hlocks hw hG (by decide) (by decide) dX2_countDue_33
    · have hw := hw.2 c_1
      refine lv_aload_n hx hb dX2_countDue_10 rfl (lv_at hl 0 rfl) ?_
      refine g_get (own := RX2) (C := RX2) (T := TX2) (N := 11) (ci := 2) hx hb hq hin_X2 hown hK hG (k := 0) (gok_lo (by decide)) (gc_W) rfl 3 (by decide) (hq _ q_121) rfl (v := .ref (ad 2)) rfl dX2_countDue_11 ?_
      refine lv_iload_n hx hb dX2_countDue_14 rfl (lv_at hl 1 rfl) ?_
      obtain ⟨hi_2, hw⟩ := hw
      obtain ⟨hk_3, hw⟩ := hw
      refine g_aldA hx hb hK hG hi_2 dX2_countDue_15 ?_
      refine g_getN (own := RX2) (C := RX0) (T := TX0) (N := 9) (ci := 0) hx hb hq hin_X0 hown hK hG (k := 1000 + (g.2.1 x1.toNatClampNeg)) (gok_A hk_3) (gc_A) rfl 0 (by decide) (hE.2.1 ("WireBench", 139, "WireBench$Arrival", "due", "I", "WireBench") (by decide +kernel)) rfl (v := .int (g.1 30 (g.2.1 x1.toNatClampNeg))) rfl dX2_countDue_16 ?_
      refine lv_aload_n hx hb dX2_countDue_19 rfl (lv_at hl 0 rfl) ?_
      refine g_get (own := RX2) (C := RX2) (T := TX2) (N := 11) (ci := 2) hx hb hq hin_X2 hown hK hG (k := 0) (gok_lo (by decide)) (gc_W) rfl 2 (by decide) (hq _ q_120) rfl (v := .int (g.1 0 1)) rfl dX2_countDue_20 ?_
      refine lv_icmp_gt (tgt := 32) hx hb dX2_countDue_23 (by decide) (fun c_4 => ?_) (fun c_4 => ?_)
      · have hw := hw.1 c_4
        refine lv_iload_n hx hb dX2_countDue_32 rfl (lv_at hl 1 rfl) ?_
        exact g_iret hx hb hr hlocks hw hG (by decide) (by decide) dX2_countDue_33
      · have hw := hw.2 c_4
        obtain ⟨x_5, ex_5⟩ : ∃ y : Int32, y = x1 + 1 := ⟨_, rfl⟩
        have hw := hw x_5 ex_5
        refine lv_iinc (v := x_5) (lv' := [(1, .int x_5), (0, .ref (ad 0))]) hx hb dX2_countDue_26 hl (k := 1) rfl (by rw [ex_5]; rfl) (by decide) rfl (fun ls hl => ?_)
        refine lv_goto (tgt := 2) hx hb dX2_countDue_29 (by decide) ?_
        exact ih x_5 g hw _ _ _ hG (lv_sub hl [1, 0] rfl)
def wp_X2_countDue (post : Int32 → gS → Prop)  (g : gS) : Prop := ∃ n, wpl_X2_countDue_2 post n 0 g
set_option maxHeartbeats 4000000 in
set_option maxRecDepth 100000 in
theorem m_X2_countDue {l : Launch} (hl9 : l.stackTraces = false) (D : va_G) (K : Nat → ClassId) (sa ad : Nat → Nat) (sz : Nat) (post : Int32 → gS → Prop)  (g : gS) (hw : wp_X2_countDue post  g) : Met l yX2_countDue wsX2_countDue ({ frames := 0, cells := 0, slots := 0, locals := 0 } : Room) (gPc D K sa ad sz g [.ref (ad 0)]) (va_Qi post (gB D K ad (va_A (gw K ad g) sz)) (va_A (gw K ad g) sz)) 0 0 (va_A (gw K ad g) sz) := by
  refine Met.ofW (cc := cX2_countDue) (maxL := 2) (ret := (some .int)) (by decide) rfl ?_
  intro p e s m args below meth c s₁ B hml hv
  obtain ⟨rfl, hsz, hP, hE, hD0⟩ := hv
  have hx := B.exec
  have hb := B.bytes
  have hr := B.returns
  have hts := atoms_spec (ws := wsX2_countDue) B.pre
  have hq : ∀ w ∈ gW, w.before _ s = true := fun w h => hts w (List.mem_cons_of_mem _ h)
  have hown : s.vm.findClass RX2 = some m.cls := findClass_of_methodNamed B.named
  have hlocks := B.notSynchronized
  subst hsz
  have hD := hD0.self (sz := s.heap.size)
  generalize hAe : va_A (gw K ad g) s.heap.size = A at hD hE ⊢
  have hA : ∀ q : Nat, s.heap.size ≤ q → A q := fun q h => by rw [← hAe]; exact Or.inr h
  have hK := hE.1
  have hG : gX D K ad A s.heap g s.heap [] := ⟨hP, hD, va_S.rf⟩
  have hl := lv_entry ([.ref (ad 0)]) (n := 2) (Nat.le_of_ble_eq_true rfl)
  rw [lg_entry_eq]
  generalize (lg_sl ([.ref (ad 0)]) ++ List.replicate (2 - (lg_sl ([.ref (ad 0)])).length) Slot.unset).toArray = ls at hl ⊢
  have hl : lv_has ls 2 [(0, .ref (ad 0))] := hl
  dsimp only [wp_X2_countDue] at hw
  refine lv_iconst (v := 0) hx hb dX2_countDue_0 (by decide) ?_
  refine lv_istore_n (lv' := [(1, .int 0), (0, .ref (ad 0))]) hx hb dX2_countDue_1 rfl hl (by decide) rfl (fun ls hl => ?_)
  obtain ⟨n_6, hw⟩ := hw
  exact L_X2_countDue_2 post hl9 hx hb hr hml hown hts hlocks hA hE n_6 0 g hw _ _ _ hG (lv_sub hl [1, 0] rfl)

def wpl_X2_loseArrivalsOf_4 (post : Int32 → gS → Prop) : Nat → Int32 → Int32 → Int32 → gS → Prop
  | 0 => fun _ _ _ _ => False
  | n + 1 => fun x1 x2 x3 g => (((g.1 0 2) ≤ x3) → (∀ x_2 : Int32, x_2 = (g.1 0 2) - x2 → (∀ g_3 : gS, g_3 = gi g 0 2 x2 → (post x_2 g_3)))) ∧ ((¬ (g.1 0 2) ≤ x3) → (vp_in x3 512 ∧ (g.2.1 x3.toNatClampNeg < 514 ∧ ((((g.1 31 (g.2.1 x3.toNatClampNeg)) = x1) → (∀ x_7 : Int32, x_7 = x3 + 1 → (wpl_X2_loseArrivalsOf_4 post n x1 x2 x_7 g))) ∧ ((¬ (g.1 31 (g.2.1 x3.toNatClampNeg)) = x1) → (vp_in x2 512 ∧ (g.2.1 x2.toNatClampNeg < 514 ∧ (vp_in x3 512 ∧ (∀ g_11 : gS, g_11 = gp g x3.toNatClampNeg (g.2.1 x2.toNatClampNeg) → (vp_in x2 512 ∧ (∀ g_13 : gS, g_13 = gp g_11 x2.toNatClampNeg (g.2.1 x3.toNatClampNeg) → (∀ x_14 : Int32, x_14 = x2 + 1 → (∀ x_15 : Int32, x_15 = x3 + 1 → (wpl_X2_loseArrivalsOf_4 post n x1 x_14 x_15 g_13))))))))))))))
set_option maxHeartbeats 4000000 in
set_option maxRecDepth 100000 in
theorem L_X2_loseArrivalsOf_4 {p : Program} {l : Launch} {e : Env} {s : State} {m : MethodId} {args : Array Value} {below : List Frame} {meth : Method} {c : Code} {D : va_G} {K : Nat → ClassId} {sa ad : Nat → Nat} {A : Nat → Prop} (post : Int32 → gS → Prop) (hl9 : l.stackTraces = false) (hx : p.tables.exec = Jvm.exec) (hb : c.code = cX2_loseArrivalsOf) (hr : meth.sig.returnType = (some .int)) (hml : c.maxLocals = 5) (hown : s.vm.findClass RX2 = some m.cls) (hts : ∀ w ∈ wsX2_loseArrivalsOf, w.before args s = true) (hlocks : meth.locks = false) (hA : ∀ q, s.heap.size ≤ q → A q) (hE : gE D K sa A s s.heap) : ∀ (n : Nat) (x1 : Int32) (x2 : Int32) (x3 : Int32) (g : gS), wpl_X2_loseArrivalsOf_4 post n x1 x2 x3 g → ∀ (H : Heap) (locs : List Loc) (ls : Array Slot), gX D K ad A s.heap g H locs → lv_has ls 5 [(0, .ref (ad 0)), (1, .int x1), (2, .int x2), (3, .int x3)] → W p l e ({ frames := 0, cells := 0, slots := 0, locals := 0 } : Room) s m args below meth c H locs 0 0 (MQ below (va_Qi post (gB D K ad A) A) args s 0 0 A) (F0 m 4 ls []) := by
  have hK := hE.1
  have hq : ∀ w ∈ gW, w.before args s = true := fun w h => hts w (List.mem_cons_of_mem _ h)
  intro n
  induction n with
  | zero =>
    intro x1 x2 x3 g hw
    exact hw.elim
  | succ n ih =>
    intro x1 x2 x3 g hw H locs ls hG hl
    dsimp only [wpl_X2_loseArrivalsOf_4] at hw
    refine lv_iload_n hx hb dX2_loseArrivalsOf_4 rfl (lv_at hl 3 rfl) ?_
    refine lv_aload_n hx hb dX2_loseArrivalsOf_5 rfl (lv_at hl 0 rfl) ?_
    refine g_get (own := RX2) (C := RX2) (T := TX2) (N := 11) (ci := 2) hx hb hq hin_X2 hown hK hG (k := 0) (gok_lo (by decide)) (gc_W) rfl 4 (by decide) (hq _ q_122) rfl (v := .int (g.1 0 2)) rfl dX2_loseArrivalsOf_6 ?_
    refine lv_icmp_ge (tgt := 58) hx hb dX2_loseArrivalsOf_9 (by decide) (fun c_1 => ?_) (fun c_1 => ?_)
    · have hw := hw.1 c_1
      refine lv_aload_n hx hb dX2_loseArrivalsOf_58 rfl (lv_at hl 0 rfl) ?_
      refine g_get (own := RX2) (C := RX2) (T := TX2) (N := 11) (ci := 2) hx hb hq hin_X2 hown hK hG (k := 0) (gok_lo (by decide)) (gc_W) rfl 4 (by decide) (hq _ q_122) rfl (v := .int (g.1 0 2)) rfl dX2_loseArrivalsOf_59 ?_
      refine lv_iload_n hx hb dX2_loseArrivalsOf_62 rfl (lv_at hl 2 rfl) ?_
      refine lv_isub hx hb dX2_loseArrivalsOf_63 ?_
      refine lv_topi (fun x_2 ex_2 => ?_)
      have hw := hw x_2 ex_2
      refine lv_istore_n (lv' := [(3, .int x_2), (0, .ref (ad 0)), (1, .int x1), (2, .int x2)]) hx hb dX2_loseArrivalsOf_64 rfl hl (by decide) rfl (fun ls hl => ?_)
      refine lv_aload_n hx hb dX2_loseArrivalsOf_65 rfl (lv_at hl 1 rfl) ?_
      refine lv_iload_n hx hb dX2_loseArrivalsOf_66 rfl (lv_at hl 3 rfl) ?_
      refine g_put (own := RX2) (C := RX2) (T := TX2) (N := 11) (ci := 2) hx hb hq hin_X2 tyX2 tyX2_ok nmX2 hown hK hG (k := 0) (gok_lo (by decide)) (gc_W) rfl 4 (by decide) (hq _ q_122) rfl rfl (ty := .int) (v := .int x2) (by decide +kernel) rfl rfl (Nat.le_of_ble_eq_true rfl) (gi g 0 2 x2) (gs_W2) (gho_lo (by decide)) dX2_loseArrivalsOf_67 (fun H locs hG => ?_)
      obtain ⟨g_3, eg_3⟩ : ∃ z, z = gi g 0 2 x2 := ⟨_, rfl⟩
      rw [← eg_3] at hG
      have hw := hw g_3 eg_3
      refine lv_iload_n hx hb dX2_loseArrivalsOf_70 rfl (lv_at hl 0 rfl) ?_
      exact g_iret hx hb hr hlocks hw hG (by decide) (by decide) dX2_loseArrivalsOf_71
    · have hw := hw.2 c_1
      refine lv_aload_n hx hb dX2_loseArrivalsOf_12 rfl (lv_at hl 0 rfl) ?_
      refine g_get (own := RX2) (C := RX2) (T := TX2) (N := 11) (ci := 2) hx hb hq hin_X2 hown hK hG (k := 0) (gok_lo (by decide)) (gc_W) rfl 3 (by decide) (hq _ q_121) rfl (v := .ref (ad 2)) rfl dX2_loseArrivalsOf_13 ?_
      refine lv_iload_n hx hb dX2_loseArrivalsOf_16 rfl (lv_at hl 3 rfl) ?_
      obtain ⟨hi_4, hw⟩ := hw
      obtain ⟨hk_5, hw⟩ := hw
      refine g_aldA hx hb hK hG hi_4 dX2_loseArrivalsOf_17 ?_
      refine lv_astore (lv' := [(4, .ref (ad (1000 + (g.2.1 x3.toNatClampNeg)))), (0, .ref (ad 0)), (1, .int x1), (2, .int x2), (3, .int x3)]) hx hb dX2_loseArrivalsOf_18 hl (by decide) rfl (fun ls hl => ?_)
      refine lv_aload hx hb dX2_loseArrivalsOf_20 (lv_at hl 0 rfl) ?_
      refine g_getN (own := RX2) (C := RX0) (T := TX0) (N := 9) (ci := 0) hx hb hq hin_X0 hown hK hG (k := 1000 + (g.2.1 x3.toNatClampNeg)) (gok_A hk_5) (gc_A) rfl 1 (by decide) (hE.2.1 ("WireBench", 111, "WireBench$Arrival", "net", "I", "WireBench") (by decide +kernel)) rfl (v := .int (g.1 31 (g.2.1 x3.toNatClampNeg))) rfl dX2_loseArrivalsOf_22 ?_
      refine lv_iload_n hx hb dX2_loseArrivalsOf_25 rfl (lv_at hl 2 rfl) ?_
      refine lv_icmp_eq (tgt := 52) hx hb dX2_loseArrivalsOf_26 (by decide) (fun c_6 => ?_) (fun c_6 => ?_)
      · have hw := hw.1 c_6
        obtain ⟨x_7, ex_7⟩ : ∃ y : Int32, y = x3 + 1 := ⟨_, rfl⟩
        have hw := hw x_7 ex_7
        refine lv_iinc (v := x_7) (lv' := [(3, .int x_7), (4, .ref (ad (1000 + (g.2.1 x3.toNatClampNeg)))), (0, .ref (ad 0)), (1, .int x1), (2, .int x2)]) hx hb dX2_loseArrivalsOf_52 hl (k := 4) rfl (by rw [ex_7]; rfl) (by decide) rfl (fun ls hl => ?_)
        refine lv_goto (tgt := 4) hx hb dX2_loseArrivalsOf_55 (by decide) ?_
        exact ih x1 x2 x_7 g hw _ _ _ hG (lv_sub hl [2, 3, 4, 0] rfl)
      · have hw := hw.2 c_6
        refine lv_aload_n hx hb dX2_loseArrivalsOf_29 rfl (lv_at hl 1 rfl) ?_
        refine g_get (own := RX2) (C := RX2) (T := TX2) (N := 11) (ci := 2) hx hb hq hin_X2 hown hK hG (k := 0) (gok_lo (by decide)) (gc_W) rfl 3 (by decide) (hq _ q_121) rfl (v := .ref (ad 2)) rfl dX2_loseArrivalsOf_30 ?_
        refine lv_iload_n hx hb dX2_loseArrivalsOf_33 rfl (lv_at hl 4 rfl) ?_
        refine lv_aload_n hx hb dX2_loseArrivalsOf_34 rfl (lv_at hl 1 rfl) ?_
        refine g_get (own := RX2) (C := RX2) (T := TX2) (N := 11) (ci := 2) hx hb hq hin_X2 hown hK hG (k := 0) (gok_lo (by decide)) (gc_W) rfl 3 (by decide) (hq _ q_121) rfl (v := .ref (ad 2)) rfl dX2_loseArrivalsOf_35 ?_
        refine lv_iload_n hx hb dX2_loseArrivalsOf_38 rfl (lv_at hl 3 rfl) ?_
        obtain ⟨hi_8, hw⟩ := hw
        obtain ⟨hk_9, hw⟩ := hw
        refine g_aldA hx hb hK hG hi_8 dX2_loseArrivalsOf_39 ?_
        obtain ⟨hi_10, hw⟩ := hw
        refine g_astA hx hb hK hG (j := g.2.1 x2.toNatClampNeg) hk_9 hi_10 dX2_loseArrivalsOf_40 (fun H locs hG => ?_)
        obtain ⟨g_11, eg_11⟩ : ∃ z, z = gp g x3.toNatClampNeg (g.2.1 x2.toNatClampNeg) := ⟨_, rfl⟩
        rw [← eg_11] at hG
        have hw := hw g_11 eg_11
        refine lv_aload_n hx hb dX2_loseArrivalsOf_41 rfl (lv_at hl 1 rfl) ?_
        refine g_get (own := RX2) (C := RX2) (T := TX2) (N := 11) (ci := 2) hx hb hq hin_X2 hown hK hG (k := 0) (gok_lo (by decide)) (gc_W) rfl 3 (by decide) (hq _ q_121) rfl (v := .ref (ad 2)) rfl dX2_loseArrivalsOf_42 ?_
        refine lv_iload_n hx hb dX2_loseArrivalsOf_45 rfl (lv_at hl 3 rfl) ?_
        refine lv_aload hx hb dX2_loseArrivalsOf_46 (lv_at hl 0 rfl) ?_
        obtain ⟨hi_12, hw⟩ := hw
        refine g_astA hx hb hK hG (j := g.2.1 x3.toNatClampNeg) hk_5 hi_12 dX2_loseArrivalsOf_48 (fun H locs hG => ?_)
        obtain ⟨g_13, eg_13⟩ : ∃ z, z = gp g_11 x2.toNatClampNeg (g.2.1 x3.toNatClampNeg) := ⟨_, rfl⟩
        rw [← eg_13] at hG
        have hw := hw g_13 eg_13
        obtain ⟨x_14, ex_14⟩ : ∃ y : Int32, y = x2 + 1 := ⟨_, rfl⟩
        have hw := hw x_14 ex_14
        refine lv_iinc (v := x_14) (lv' := [(2, .int x_14), (4, .ref (ad (1000 + (g.2.1 x3.toNatClampNeg)))), (0, .ref (ad 0)), (1, .int x1), (3, .int x3)]) hx hb dX2_loseArrivalsOf_49 hl (k := 3) rfl (by rw [ex_14]; rfl) (by decide) rfl (fun ls hl => ?_)
        obtain ⟨x_15, ex_15⟩ : ∃ y : Int32, y = x3 + 1 := ⟨_, rfl⟩
        have hw := hw x_15 ex_15
        refine lv_iinc (v := x_15) (lv' := [(3, .int x_15), (2, .int x_14), (4, .ref (ad (1000 + (g.2.1 x3.toNatClampNeg)))), (0, .ref (ad 0)), (1, .int x1)]) hx hb dX2_loseArrivalsOf_52 hl (k := 4) rfl (by rw [ex_15]; rfl) (by decide) rfl (fun ls hl => ?_)
        refine lv_goto (tgt := 4) hx hb dX2_loseArrivalsOf_55 (by decide) ?_
        exact ih x1 x_14 x_15 g_13 hw _ _ _ hG (lv_sub hl [3, 4, 1, 0] rfl)
def wp_X2_loseArrivalsOf (post : Int32 → gS → Prop) (p1 : Int32) (g : gS) : Prop := ∃ n, wpl_X2_loseArrivalsOf_4 post n p1 0 0 g
set_option maxHeartbeats 4000000 in
set_option maxRecDepth 100000 in
theorem m_X2_loseArrivalsOf {l : Launch} (hl9 : l.stackTraces = false) (D : va_G) (K : Nat → ClassId) (sa ad : Nat → Nat) (sz : Nat) (post : Int32 → gS → Prop) (p1 : Int32) (g : gS) (hw : wp_X2_loseArrivalsOf post p1 g) : Met l yX2_loseArrivalsOf wsX2_loseArrivalsOf ({ frames := 0, cells := 0, slots := 0, locals := 0 } : Room) (gPc D K sa ad sz g [.ref (ad 0), .int p1]) (va_Qi post (gB D K ad (va_A (gw K ad g) sz)) (va_A (gw K ad g) sz)) 0 0 (va_A (gw K ad g) sz) := by
  refine Met.ofW (cc := cX2_loseArrivalsOf) (maxL := 5) (ret := (some .int)) (by decide) rfl ?_
  intro p e s m args below meth c s₁ B hml hv
  obtain ⟨rfl, hsz, hP, hE, hD0⟩ := hv
  have hx := B.exec
  have hb := B.bytes
  have hr := B.returns
  have hts := atoms_spec (ws := wsX2_loseArrivalsOf) B.pre
  have hq : ∀ w ∈ gW, w.before _ s = true := fun w h => hts w (List.mem_cons_of_mem _ h)
  have hown : s.vm.findClass RX2 = some m.cls := findClass_of_methodNamed B.named
  have hlocks := B.notSynchronized
  subst hsz
  have hD := hD0.self (sz := s.heap.size)
  generalize hAe : va_A (gw K ad g) s.heap.size = A at hD hE ⊢
  have hA : ∀ q : Nat, s.heap.size ≤ q → A q := fun q h => by rw [← hAe]; exact Or.inr h
  have hK := hE.1
  have hG : gX D K ad A s.heap g s.heap [] := ⟨hP, hD, va_S.rf⟩
  have hl := lv_entry ([.ref (ad 0), .int p1]) (n := 5) (Nat.le_of_ble_eq_true rfl)
  rw [lg_entry_eq]
  generalize (lg_sl ([.ref (ad 0), .int p1]) ++ List.replicate (5 - (lg_sl ([.ref (ad 0), .int p1])).length) Slot.unset).toArray = ls at hl ⊢
  have hl : lv_has ls 5 [(0, .ref (ad 0)), (1, .int p1)] := hl
  dsimp only [wp_X2_loseArrivalsOf] at hw
  refine lv_iconst (v := 0) hx hb dX2_loseArrivalsOf_0 (by decide) ?_
  refine lv_istore_n (lv' := [(2, .int 0), (0, .ref (ad 0)), (1, .int p1)]) hx hb dX2_loseArrivalsOf_1 rfl hl (by decide) rfl (fun ls hl => ?_)
  refine lv_iconst (v := 0) hx hb dX2_loseArrivalsOf_2 (by decide) ?_
  refine lv_istore_n (lv' := [(3, .int 0), (2, .int 0), (0, .ref (ad 0)), (1, .int p1)]) hx hb dX2_loseArrivalsOf_3 rfl hl (by decide) rfl (fun ls hl => ?_)
  obtain ⟨n_16, hw⟩ := hw
  exact L_X2_loseArrivalsOf_4 post hl9 hx hb hr hml hown hts hlocks hA hE n_16 p1 0 0 g hw _ _ _ hG (lv_sub hl [2, 3, 1, 0] rfl)

def wpl_X2_arriveBehind_44 (post : gS → Prop) : Nat → Int32 → Nat → Int32 → gS → Prop
  | 0 => fun _ _ _ _ => False
  | n + 1 => fun x1 x2 x3 g => x2 < 514 ∧ (((x3 ≤ 0) → (vp_in x3 512 ∧ (∀ g_11 : gS, g_11 = gp g x3.toNatClampNeg x2 → (∀ x_12 : Int32, x_12 = (g_11.1 0 2) + 1 → (∀ g_13 : gS, g_13 = gi g_11 0 2 x_12 → (post g_13)))))) ∧ ((¬ x3 ≤ 0) → (∀ i_14 : Int32, i_14 = x3 - 1 → (vp_in i_14 512 ∧ (g.2.1 i_14.toNatClampNeg < 514 ∧ ((((g.1 30 (g.2.1 i_14.toNatClampNeg)) ≤ (g.1 30 x2)) → (vp_in x3 512 ∧ (∀ g_19 : gS, g_19 = gp g x3.toNatClampNeg x2 → (∀ x_20 : Int32, x_20 = (g_19.1 0 2) + 1 → (∀ g_21 : gS, g_21 = gi g_19 0 2 x_20 → (post g_21)))))) ∧ ((¬ (g.1 30 (g.2.1 i_14.toNatClampNeg)) ≤ (g.1 30 x2)) → (∀ i_22 : Int32, i_22 = x3 - 1 → (vp_in i_22 512 ∧ (g.2.1 i_22.toNatClampNeg < 514 ∧ (vp_in x3 512 ∧ (∀ g_26 : gS, g_26 = gp g x3.toNatClampNeg (g.2.1 i_22.toNatClampNeg) → (∀ x_27 : Int32, x_27 = x3 + (-1) → (wpl_X2_arriveBehind_44 post n x1 x2 x_27 g_26))))))))))))))
set_option maxHeartbeats 4000000 in
set_option maxRecDepth 100000 in
theorem L_X2_arriveBehind_44 {p : Program} {l : Launch} {e : Env} {s : State} {m : MethodId} {args : Array Value} {below : List Frame} {meth : Method} {c : Code} {D : va_G} {K : Nat → ClassId} {sa ad : Nat → Nat} {A : Nat → Prop} (post : gS → Prop) (hl9 : l.stackTraces = false) (hx : p.tables.exec = Jvm.exec) (hb : c.code = cX2_arriveBehind) (hr : meth.sig.returnType = none) (hml : c.maxLocals = 4) (hown : s.vm.findClass RX2 = some m.cls) (hts : ∀ w ∈ wsX2_arriveBehind, w.before args s = true) (hlocks : meth.locks = false) (hA : ∀ q, s.heap.size ≤ q → A q) (hE : gE D K sa A s s.heap) : ∀ (n : Nat) (x1 : Int32) (x2 : Nat) (x3 : Int32) (g : gS), wpl_X2_arriveBehind_44 post n x1 x2 x3 g → ∀ (H : Heap) (locs : List Loc) (ls : Array Slot), gX D K ad A s.heap g H locs → lv_has ls 4 [(0, .ref (ad 0)), (1, .int x1), (2, .ref (ad (1000 + x2))), (3, .int x3)] → W p l e ({ frames := 1, cells := 0, slots := 0, locals := 21 } : Room) s m args below meth c H locs 0 0 (MQ below (va_Qv post (gB D K ad A) A) args s 0 0 A) (F0 m 44 ls []) := by
  have hK := hE.1
  have hq : ∀ w ∈ gW, w.before args s = true := fun w h => hts w (List.mem_cons_of_mem _ h)
  intro n
  induction n with
  | zero =>
    intro x1 x2 x3 g hw
    exact hw.elim
  | succ n ih =>
    intro x1 x2 x3 g hw H locs ls hG hl
    dsimp only [wpl_X2_arriveBehind_44] at hw
    obtain ⟨hx2, hw⟩ := hw
    refine lv_iload_n hx hb dX2_arriveBehind_44 rfl (lv_at hl 3 rfl) ?_
    refine lv_if_le (tgt := 86) hx hb dX2_arriveBehind_45 (by decide) (fun c_9 => ?_) (fun c_9 => ?_)
    · have hw := hw.1 c_9
      refine lv_aload_n hx hb dX2_arriveBehind_86 rfl (lv_at hl 0 rfl) ?_
      refine g_get (own := RX2) (C := RX2) (T := TX2) (N := 11) (ci := 2) hx hb hq hin_X2 hown hK hG (k := 0) (gok_lo (by decide)) (gc_W) rfl 3 (by decide) (hq _ q_121) rfl (v := .ref (ad 2)) rfl dX2_arriveBehind_87 ?_
      refine lv_iload_n hx hb dX2_arriveBehind_90 rfl (lv_at hl 3 rfl) ?_
      refine lv_aload_n hx hb dX2_arriveBehind_91 rfl (lv_at hl 2 rfl) ?_
      obtain ⟨hi_10, hw⟩ := hw
      refine g_astA hx hb hK hG (j := x2) hx2 hi_10 dX2_arriveBehind_92 (fun H locs hG => ?_)
      obtain ⟨g_11, eg_11⟩ : ∃ z, z = gp g x3.toNatClampNeg x2 := ⟨_, rfl⟩
      rw [← eg_11] at hG
      have hw := hw g_11 eg_11
      refine lv_aload_n hx hb dX2_arriveBehind_93 rfl (lv_at hl 0 rfl) ?_
      refine lv_dup hx hb dX2_arriveBehind_94 rfl ?_
      refine g_get (own := RX2) (C := RX2) (T := TX2) (N := 11) (ci := 2) hx hb hq hin_X2 hown hK hG (k := 0) (gok_lo (by decide)) (gc_W) rfl 4 (by decide) (hq _ q_122) rfl (v := .int (g_11.1 0 2)) rfl dX2_arriveBehind_95 ?_
      refine lv_iconst (v := 1) hx hb dX2_arriveBehind_98 (by decide) ?_
      refine lv_iadd hx hb dX2_arriveBehind_99 ?_
      refine lv_topi (fun x_12 ex_12 => ?_)
      have hw := hw x_12 ex_12
      refine g_put (own := RX2) (C := RX2) (T := TX2) (N := 11) (ci := 2) hx hb hq hin_X2 tyX2 tyX2_ok nmX2 hown hK hG (k := 0) (gok_lo (by decide)) (gc_W) rfl 4 (by decide) (hq _ q_122) rfl rfl (ty := .int) (v := .int x_12) (by decide +kernel) rfl rfl (Nat.le_of_ble_eq_true rfl) (gi g_11 0 2 x_12) (gs_W2) (gho_lo (by decide)) dX2_arriveBehind_100 (fun H locs hG => ?_)
      obtain ⟨g_13, eg_13⟩ : ∃ z, z = gi g_11 0 2 x_12 := ⟨_, rfl⟩
      rw [← eg_13] at hG
      have hw := hw g_13 eg_13
      exact g_vret hx hb hr hlocks hw hG (by decide) (by decide) dX2_arriveBehind_103
    · have hw := hw.2 c_9
      refine lv_aload_n hx hb dX2_arriveBehind_48 rfl (lv_at hl 0 rfl) ?_
      refine g_get (own := RX2) (C := RX2) (T := TX2) (N := 11) (ci := 2) hx hb hq hin_X2 hown hK hG (k := 0) (gok_lo (by decide)) (gc_W) rfl 3 (by decide) (hq _ q_121) rfl (v := .ref (ad 2)) rfl dX2_arriveBehind_49 ?_
      refine lv_iload_n hx hb dX2_arriveBehind_52 rfl (lv_at hl 3 rfl) ?_
      refine lv_iconst (v := 1) hx hb dX2_arriveBehind_53 (by decide) ?_
      refine lv_isub hx hb dX2_arriveBehind_54 ?_
      refine lv_topi (fun i_14 ei_14 => ?_)
      have hw := hw i_14 ei_14
      obtain ⟨hi_15, hw⟩ := hw
      obtain ⟨hk_16, hw⟩ := hw
      refine g_aldA hx hb hK hG hi_15 dX2_arriveBehind_55 ?_
      refine g_getN (own := RX2) (C := RX0) (T := TX0) (N := 9) (ci := 0) hx hb hq hin_X0 hown hK hG (k := 1000 + (g.2.1 i_14.toNatClampNeg)) (gok_A hk_16) (gc_A) rfl 0 (by decide) (hE.2.1 ("WireBench", 139, "WireBench$Arrival", "due", "I", "WireBench") (by decide +kernel)) rfl (v := .int (g.1 30 (g.2.1 i_14.toNatClampNeg))) rfl dX2_arriveBehind_56 ?_
      refine lv_aload_n hx hb dX2_arriveBehind_59 rfl (lv_at hl 2 rfl) ?_
      refine g_getN (own := RX2) (C := RX0) (T := TX0) (N := 9) (ci := 0) hx hb hq hin_X0 hown hK hG (k := 1000 + x2) (gok_A hx2) (gc_A) rfl 0 (by decide) (hE.2.1 ("WireBench", 139, "WireBench$Arrival", "due", "I", "WireBench") (by decide +kernel)) rfl (v := .int (g.1 30 x2)) rfl dX2_arriveBehind_60 ?_
      refine lv_icmp_le (tgt := 86) hx hb dX2_arriveBehind_63 (by decide) (fun c_17 => ?_) (fun c_17 => ?_)
      · have hw := hw.1 c_17
        refine lv_aload_n hx hb dX2_arriveBehind_86 rfl (lv_at hl 0 rfl) ?_
        refine g_get (own := RX2) (C := RX2) (T := TX2) (N := 11) (ci := 2) hx hb hq hin_X2 hown hK hG (k := 0) (gok_lo (by decide)) (gc_W) rfl 3 (by decide) (hq _ q_121) rfl (v := .ref (ad 2)) rfl dX2_arriveBehind_87 ?_
        refine lv_iload_n hx hb dX2_arriveBehind_90 rfl (lv_at hl 3 rfl) ?_
        refine lv_aload_n hx hb dX2_arriveBehind_91 rfl (lv_at hl 2 rfl) ?_
        obtain ⟨hi_18, hw⟩ := hw
        refine g_astA hx hb hK hG (j := x2) hx2 hi_18 dX2_arriveBehind_92 (fun H locs hG => ?_)
        obtain ⟨g_19, eg_19⟩ : ∃ z, z = gp g x3.toNatClampNeg x2 := ⟨_, rfl⟩
        rw [← eg_19] at hG
        have hw := hw g_19 eg_19
        refine lv_aload_n hx hb dX2_arriveBehind_93 rfl (lv_at hl 0 rfl) ?_
        refine lv_dup hx hb dX2_arriveBehind_94 rfl ?_
        refine g_get (own := RX2) (C := RX2) (T := TX2) (N := 11) (ci := 2) hx hb hq hin_X2 hown hK hG (k := 0) (gok_lo (by decide)) (gc_W) rfl 4 (by decide) (hq _ q_122) rfl (v := .int (g_19.1 0 2)) rfl dX2_arriveBehind_95 ?_
        refine lv_iconst (v := 1) hx hb dX2_arriveBehind_98 (by decide) ?_
        refine lv_iadd hx hb dX2_arriveBehind_99 ?_
        refine lv_topi (fun x_20 ex_20 => ?_)
        have hw := hw x_20 ex_20
        refine g_put (own := RX2) (C := RX2) (T := TX2) (N := 11) (ci := 2) hx hb hq hin_X2 tyX2 tyX2_ok nmX2 hown hK hG (k := 0) (gok_lo (by decide)) (gc_W) rfl 4 (by decide) (hq _ q_122) rfl rfl (ty := .int) (v := .int x_20) (by decide +kernel) rfl rfl (Nat.le_of_ble_eq_true rfl) (gi g_19 0 2 x_20) (gs_W2) (gho_lo (by decide)) dX2_arriveBehind_100 (fun H locs hG => ?_)
        obtain ⟨g_21, eg_21⟩ : ∃ z, z = gi g_19 0 2 x_20 := ⟨_, rfl⟩
        rw [← eg_21] at hG
        have hw := hw g_21 eg_21
        exact g_vret hx hb hr hlocks hw hG (by decide) (by decide) dX2_arriveBehind_103
      · have hw := hw.2 c_17
        refine lv_aload_n hx hb dX2_arriveBehind_66 rfl (lv_at hl 0 rfl) ?_
        refine g_get (own := RX2) (C := RX2) (T := TX2) (N := 11) (ci := 2) hx hb hq hin_X2 hown hK hG (k := 0) (gok_lo (by decide)) (gc_W) rfl 3 (by decide) (hq _ q_121) rfl (v := .ref (ad 2)) rfl dX2_arriveBehind_67 ?_
        refine lv_iload_n hx hb dX2_arriveBehind_70 rfl (lv_at hl 3 rfl) ?_
        refine lv_aload_n hx hb dX2_arriveBehind_71 rfl (lv_at hl 0 rfl) ?_
        refine g_get (own := RX2) (C := RX2) (T := TX2) (N := 11) (ci := 2) hx hb hq hin_X2 hown hK hG (k := 0) (gok_lo (by decide)) (gc_W) rfl 3 (by decide) (hq _ q_121) rfl (v := .ref (ad 2)) rfl dX2_arriveBehind_72 ?_
        refine lv_iload_n hx hb dX2_arriveBehind_75 rfl (lv_at hl 3 rfl) ?_
        refine lv_iconst (v := 1) hx hb dX2_arriveBehind_76 (by decide) ?_
        refine lv_isub hx hb dX2_arriveBehind_77 ?_
        refine lv_topi (fun i_22 ei_22 => ?_)
        have hw := hw i_22 ei_22
        obtain ⟨hi_23, hw⟩ := hw
        obtain ⟨hk_24, hw⟩ := hw
        refine g_aldA hx hb hK hG hi_23 dX2_arriveBehind_78 ?_
        obtain ⟨hi_25, hw⟩ := hw
        refine g_astA hx hb hK hG (j := g.2.1 i_22.toNatClampNeg) hk_24 hi_25 dX2_arriveBehind_79 (fun H locs hG => ?_)
        obtain ⟨g_26, eg_26⟩ : ∃ z, z = gp g x3.toNatClampNeg (g.2.1 i_22.toNatClampNeg) := ⟨_, rfl⟩
        rw [← eg_26] at hG
        have hw := hw g_26 eg_26
        obtain ⟨x_27, ex_27⟩ : ∃ y : Int32, y = x3 + (-1) := ⟨_, rfl⟩
        have hw := hw x_27 ex_27
        refine lv_iinc (v := x_27) (lv' := [(3, .int x_27), (0, .ref (ad 0)), (1, .int x1), (2, .ref (ad (1000 + x2)))]) hx hb dX2_arriveBehind_80 hl (k := 3) rfl (by rw [ex_27]; rfl) (by decide) rfl (fun ls hl => ?_)
        refine lv_goto (tgt := 44) hx hb dX2_arriveBehind_83 (by decide) ?_
        exact ih x1 x2 x_27 g_26 hw _ _ _ hG (lv_sub hl [1, 2, 3, 0] rfl)
def wp_X2_arriveBehind (post : gS → Prop) (p1 : Int32) (g : gS) : Prop := (((g.1 0 2) < 512) → (∀ i_2 : Int32, i_2 = g.1 0 2 → (vp_in i_2 512 ∧ (g.2.1 i_2.toNatClampNeg < 514 ∧ (wp_X0_copyFrom (fun g_5 => (∀ x_6 : Int32, x_6 = (g_5.1 0 1) + p1 → (∀ g_7 : gS, g_7 = gi g_5 30 (g.2.1 i_2.toNatClampNeg) x_6 → (∀ x_8 : Int32, x_8 = g_7.1 0 2 → (∃ n, wpl_X2_arriveBehind_44 post n p1 (g.2.1 i_2.toNatClampNeg) x_8 g_7))))) (g.2.1 i_2.toNatClampNeg) 513 g))))) ∧ ((¬ (g.1 0 2) < 512) → (post g))
set_option maxHeartbeats 4000000 in
set_option maxRecDepth 100000 in
theorem m_X2_arriveBehind {l : Launch} (hl9 : l.stackTraces = false) (D : va_G) (K : Nat → ClassId) (sa ad : Nat → Nat) (sz : Nat) (post : gS → Prop) (p1 : Int32) (g : gS) (hw : wp_X2_arriveBehind post p1 g) : Met l yX2_arriveBehind wsX2_arriveBehind ({ frames := 1, cells := 0, slots := 0, locals := 21 } : Room) (gPc D K sa ad sz g [.ref (ad 0), .int p1]) (va_Qv post (gB D K ad (va_A (gw K ad g) sz)) (va_A (gw K ad g) sz)) 0 0 (va_A (gw K ad g) sz) := by
  refine Met.ofW (cc := cX2_arriveBehind) (maxL := 4) (ret := none) (by decide) rfl ?_
  intro p e s m args below meth c s₁ B hml hv
  obtain ⟨rfl, hsz, hP, hE, hD0⟩ := hv
  have hx := B.exec
  have hb := B.bytes
  have hr := B.returns
  have hts := atoms_spec (ws := wsX2_arriveBehind) B.pre
  have hq : ∀ w ∈ gW, w.before _ s = true := fun w h => hts w (List.mem_cons_of_mem _ h)
  have hown : s.vm.findClass RX2 = some m.cls := findClass_of_methodNamed B.named
  have hlocks := B.notSynchronized
  subst hsz
  have hD := hD0.self (sz := s.heap.size)
  generalize hAe : va_A (gw K ad g) s.heap.size = A at hD hE ⊢
  have hA : ∀ q : Nat, s.heap.size ≤ q → A q := fun q h => by rw [← hAe]; exact Or.inr h
  have hK := hE.1
  have hG : gX D K ad A s.heap g s.heap [] := ⟨hP, hD, va_S.rf⟩
  have hl := lv_entry ([.ref (ad 0), .int p1]) (n := 4) (Nat.le_of_ble_eq_true rfl)
  rw [lg_entry_eq]
  generalize (lg_sl ([.ref (ad 0), .int p1]) ++ List.replicate (4 - (lg_sl ([.ref (ad 0), .int p1])).length) Slot.unset).toArray = ls at hl ⊢
  have hl : lv_has ls 4 [(0, .ref (ad 0)), (1, .int p1)] := hl
  dsimp only [wp_X2_arriveBehind] at hw
  refine lv_aload_n hx hb dX2_arriveBehind_0 rfl (lv_at hl 0 rfl) ?_
  refine g_get (own := RX2) (C := RX2) (T := TX2) (N := 11) (ci := 2) hx hb hq hin_X2 hown hK hG (k := 0) (gok_lo (by decide)) (gc_W) rfl 4 (by decide) (hq _ q_122) rfl (v := .int (g.1 0 2)) rfl dX2_arriveBehind_1 ?_
  refine lv_sipush (v := 512) hx hb dX2_arriveBehind_4 (by decide) ?_
  refine lv_icmp_lt (tgt := 11) hx hb dX2_arriveBehind_7 (by decide) (fun c_1 => ?_) (fun c_1 => ?_)
  · have hw := hw.1 c_1
    refine lv_aload_n hx hb dX2_arriveBehind_11 rfl (lv_at hl 0 rfl) ?_
    refine g_get (own := RX2) (C := RX2) (T := TX2) (N := 11) (ci := 2) hx hb hq hin_X2 hown hK hG (k := 0) (gok_lo (by decide)) (gc_W) rfl 3 (by decide) (hq _ q_121) rfl (v := .ref (ad 2)) rfl dX2_arriveBehind_12 ?_
    refine lv_aload_n hx hb dX2_arriveBehind_15 rfl (lv_at hl 0 rfl) ?_
    refine g_get (own := RX2) (C := RX2) (T := TX2) (N := 11) (ci := 2) hx hb hq hin_X2 hown hK hG (k := 0) (gok_lo (by decide)) (gc_W) rfl 4 (by decide) (hq _ q_122) rfl (v := .int (g.1 0 2)) rfl dX2_arriveBehind_16 ?_
    refine lv_topi (fun i_2 ei_2 => ?_)
    have hw := hw i_2 ei_2
    obtain ⟨hi_3, hw⟩ := hw
    obtain ⟨hk_4, hw⟩ := hw
    refine g_aldA hx hb hK hG hi_3 dX2_arriveBehind_19 ?_
    refine lv_astore_n (lv' := [(2, .ref (ad (1000 + (g.2.1 i_2.toNatClampNeg)))), (0, .ref (ad 0)), (1, .int p1)]) hx hb dX2_arriveBehind_20 rfl hl (by decide) rfl (fun ls hl => ?_)
    refine lv_aload_n hx hb dX2_arriveBehind_21 rfl (lv_at hl 0 rfl) ?_
    refine lv_aload_n hx hb dX2_arriveBehind_22 rfl (lv_at hl 1 rfl) ?_
    refine g_get (own := RX2) (C := RX2) (T := TX2) (N := 11) (ci := 2) hx hb hq hin_X2 hown hK hG (k := 0) (gok_lo (by decide)) (gc_W) rfl 7 (by decide) (hq _ q_125) rfl (v := .ref (ad 1513)) rfl dX2_arriveBehind_23 ?_
    refine g_callv (va_runVN (C := RX0) (As := [.ref (ad (1000 + 513))]) (rest := []) ⟨hx, hb, hml, hown, hts⟩ (m_X0_copyFrom hl9 D K sa ad _ _ (g.2.1 i_2.toNatClampNeg) 513 g hw) ⟨va_cnB 1 hts (gGood gCons (gCode q_334)) rfl rfl rfl (hE.2.2.1 ("WireBench", 196, yX0_copyFrom, "WireBench") (by decide +kernel)) (hq _ q_21) (by decide +kernel) ⟨Nat.le_of_ble_eq_true rfl, Nat.le_of_ble_eq_true rfl⟩, hq _ q_333, hq _ q_10⟩ ⟨gPc_blind, g_recv hK hG (gok_A hk_4) (gc_A) rfl, gPc_at hE hG hA⟩ rfl rfl hl.1 rfl (lv_room (Nat.le_of_ble_eq_true rfl)) dX2_arriveBehind_26 ⟨Nat.le_of_ble_eq_true rfl, Nat.le_of_ble_eq_true rfl⟩) hG hA (fun g_5 H locs hw hG => ?_)
    try dsimp only at hw
    refine lv_aload_n hx hb dX2_arriveBehind_29 rfl (lv_at hl 0 rfl) ?_
    refine lv_aload_n hx hb dX2_arriveBehind_30 rfl (lv_at hl 1 rfl) ?_
    refine g_get (own := RX2) (C := RX2) (T := TX2) (N := 11) (ci := 2) hx hb hq hin_X2 hown hK hG (k := 0) (gok_lo (by decide)) (gc_W) rfl 2 (by decide) (hq _ q_120) rfl (v := .int (g_5.1 0 1)) rfl dX2_arriveBehind_31 ?_
    refine lv_iload_n hx hb dX2_arriveBehind_34 rfl (lv_at hl 2 rfl) ?_
    refine lv_iadd hx hb dX2_arriveBehind_35 ?_
    refine lv_topi (fun x_6 ex_6 => ?_)
    have hw := hw x_6 ex_6
    refine g_putN (own := RX2) (C := RX0) (T := TX0) (N := 9) (ci := 0) hx hb hq hin_X0 tyX0 tyX0_ok nmX0 hown hK hG (k := 1000 + (g.2.1 i_2.toNatClampNeg)) (gok_A hk_4) (gc_A) rfl 0 (by decide) (hE.2.1 ("WireBench", 139, "WireBench$Arrival", "due", "I", "WireBench") (by decide +kernel)) rfl rfl (ty := .int) (v := .int x_6) (by decide +kernel) rfl rfl (Nat.le_of_ble_eq_true rfl) (gi g_5 30 (g.2.1 i_2.toNatClampNeg) x_6) (gs_A30) (gho_A ⟨by decide, by decide⟩) dX2_arriveBehind_36 (fun H locs hG => ?_)
    obtain ⟨g_7, eg_7⟩ : ∃ z, z = gi g_5 30 (g.2.1 i_2.toNatClampNeg) x_6 := ⟨_, rfl⟩
    rw [← eg_7] at hG
    have hw := hw g_7 eg_7
    refine lv_aload_n hx hb dX2_arriveBehind_39 rfl (lv_at hl 1 rfl) ?_
    refine g_get (own := RX2) (C := RX2) (T := TX2) (N := 11) (ci := 2) hx hb hq hin_X2 hown hK hG (k := 0) (gok_lo (by decide)) (gc_W) rfl 4 (by decide) (hq _ q_122) rfl (v := .int (g_7.1 0 2)) rfl dX2_arriveBehind_40 ?_
    refine lv_topi (fun x_8 ex_8 => ?_)
    have hw := hw x_8 ex_8
    refine lv_istore_n (lv' := [(3, .int x_8), (2, .ref (ad (1000 + (g.2.1 i_2.toNatClampNeg)))), (0, .ref (ad 0)), (1, .int p1)]) hx hb dX2_arriveBehind_43 rfl hl (by decide) rfl (fun ls hl => ?_)
    obtain ⟨n_28, hw⟩ := hw
    exact L_X2_arriveBehind_44 post hl9 hx hb hr hml hown hts hlocks hA hE n_28 p1 (g.2.1 i_2.toNatClampNeg) x_8 g_7 hw _ _ _ hG (lv_sub hl [2, 3, 1, 0] rfl)
  · have hw := hw.2 c_1
    exact g_vret hx hb hr hlocks hw hG (by decide) (by decide) dX2_arriveBehind_10

def wp_X2_meetFate (post : gS → Prop) (p1 : Int32) (p2 : Int32) (g : gS) : Prop := ((p1.toInt < 1 ∨ 3 < p1.toInt) → (wp_X2_arriveBehind (fun g_2 => (post g_2)) p2 g)) ∧ (p1.toInt = 1 → (post g)) ∧ (p1.toInt = 2 → (((512 < ((g.1 0 2) + 2)) → (post g)) ∧ ((¬ 512 < ((g.1 0 2) + 2)) → (wp_X2_arriveBehind (fun g_4 => (wp_X2_arriveBehind (fun g_5 => (post g_5)) (3 * p2) g_4)) p2 g)))) ∧ (p1.toInt = 3 → (wp_X2_arriveBehind (fun g_6 => (post g_6)) (4 * p2) g))
set_option maxHeartbeats 4000000 in
set_option maxRecDepth 100000 in
theorem m_X2_meetFate {l : Launch} (hl9 : l.stackTraces = false) (D : va_G) (K : Nat → ClassId) (sa ad : Nat → Nat) (sz : Nat) (post : gS → Prop) (p1 : Int32) (p2 : Int32) (g : gS) (hw : wp_X2_meetFate post p1 p2 g) : Met l yX2_meetFate wsX2_meetFate ({ frames := 2, cells := 0, slots := 0, locals := 44 } : Room) (gPc D K sa ad sz g [.ref (ad 0), .int p1, .int p2]) (va_Qv post (gB D K ad (va_A (gw K ad g) sz)) (va_A (gw K ad g) sz)) 0 0 (va_A (gw K ad g) sz) := by
  refine Met.ofW (cc := cX2_meetFate) (maxL := 3) (ret := none) (by decide) rfl ?_
  intro p e s m args below meth c s₁ B hml hv
  obtain ⟨rfl, hsz, hP, hE, hD0⟩ := hv
  have hx := B.exec
  have hb := B.bytes
  have hr := B.returns
  have hts := atoms_spec (ws := wsX2_meetFate) B.pre
  have hq : ∀ w ∈ gW, w.before _ s = true := fun w h => hts w (List.mem_cons_of_mem _ h)
  have hown : s.vm.findClass RX2 = some m.cls := findClass_of_methodNamed B.named
  have hlocks := B.notSynchronized
  subst hsz
  have hD := hD0.self (sz := s.heap.size)
  generalize hAe : va_A (gw K ad g) s.heap.size = A at hD hE ⊢
  have hA : ∀ q : Nat, s.heap.size ≤ q → A q := fun q h => by rw [← hAe]; exact Or.inr h
  have hK := hE.1
  have hG : gX D K ad A s.heap g s.heap [] := ⟨hP, hD, va_S.rf⟩
  have hl := lv_entry ([.ref (ad 0), .int p1, .int p2]) (n := 3) (Nat.le_of_ble_eq_true rfl)
  rw [lg_entry_eq]
  generalize (lg_sl ([.ref (ad 0), .int p1, .int p2]) ++ List.replicate (3 - (lg_sl ([.ref (ad 0), .int p1, .int p2])).length) Slot.unset).toArray = ls at hl ⊢
  have hl : lv_has ls 3 [(0, .ref (ad 0)), (1, .int p1), (2, .int p2)] := hl
  dsimp only [wp_X2_meetFate] at hw
  refine lv_iload_n hx hb dX2_meetFate_0 rfl (lv_at hl 1 rfl) ?_
  by_cases h_1 : p1.toInt < 1 ∨ 3 < p1.toInt
  · refine lv_tableOut hx hb dX2_meetFate_1 h_1 (tgt := 68) (by decide) ?_
    have hw := hw.1 h_1
    refine lv_aload_n hx hb dX2_meetFate_68 rfl (lv_at hl 0 rfl) ?_
    refine lv_iload_n hx hb dX2_meetFate_69 rfl (lv_at hl 2 rfl) ?_
    refine g_callv (va_runV (As := [.int p2]) (rest := []) ⟨hx, hb, hml, hown, hts⟩ (m_X2_arriveBehind hl9 D K sa ad _ _ p2 g hw) (cwV 1 hts (gGood gCons (gV q_327 q_329 q_9 q_20 q_330)) rfl rfl rfl (by decide +kernel) ⟨Nat.le_of_ble_eq_true rfl, Nat.le_of_ble_eq_true rfl⟩) ⟨gPc_blind, g_recv hK hG (gok_lo (by decide)) (gc_W) rfl, gPc_at hE hG hA⟩ rfl rfl hl.1 rfl (lv_room (Nat.le_of_ble_eq_true rfl)) dX2_meetFate_70 ⟨Nat.le_of_ble_eq_true rfl, Nat.le_of_ble_eq_true rfl⟩) hG hA (fun g_2 H locs hw hG => ?_)
    try dsimp only at hw
    exact g_vret hx hb hr hlocks hw hG (by decide) (by decide) dX2_meetFate_73
  · have hw := hw.2
    rcases (show p1.toInt = 1 ∨ p1.toInt = 2 ∨ p1.toInt = 3 by omega) with h_1 | h_1 | h_1
    · refine lv_tableIn hx hb dX2_meetFate_1 (by omega) (by omega) (by rw [h_1]; rfl) (tgt := 28) (by decide) ?_
      have hw := hw.1 h_1
      refine lv_goto (tgt := 73) hx hb dX2_meetFate_28 (by decide) ?_
      exact g_vret hx hb hr hlocks hw hG (by decide) (by decide) dX2_meetFate_73
    · refine lv_tableIn hx hb dX2_meetFate_1 (by omega) (by omega) (by rw [h_1]; rfl) (tgt := 31) (by decide) ?_
      have hw := hw.2.1 h_1
      refine lv_aload_n hx hb dX2_meetFate_31 rfl (lv_at hl 0 rfl) ?_
      refine g_get (own := RX2) (C := RX2) (T := TX2) (N := 11) (ci := 2) hx hb hq hin_X2 hown hK hG (k := 0) (gok_lo (by decide)) (gc_W) rfl 4 (by decide) (hq _ q_122) rfl (v := .int (g.1 0 2)) rfl dX2_meetFate_32 ?_
      refine lv_iconst (v := 2) hx hb dX2_meetFate_35 (by decide) ?_
      refine lv_iadd hx hb dX2_meetFate_36 ?_
      refine lv_sipush (v := 512) hx hb dX2_meetFate_37 (by decide) ?_
      refine lv_icmp_gt (tgt := 73) hx hb dX2_meetFate_40 (by decide) (fun c_3 => ?_) (fun c_3 => ?_)
      · have hw := hw.1 c_3
        exact g_vret hx hb hr hlocks hw hG (by decide) (by decide) dX2_meetFate_73
      · have hw := hw.2 c_3
        refine lv_aload_n hx hb dX2_meetFate_43 rfl (lv_at hl 0 rfl) ?_
        refine lv_iload_n hx hb dX2_meetFate_44 rfl (lv_at hl 2 rfl) ?_
        refine g_callv (va_runV (As := [.int p2]) (rest := []) ⟨hx, hb, hml, hown, hts⟩ (m_X2_arriveBehind hl9 D K sa ad _ _ p2 g hw) (cwV 1 hts (gGood gCons (gV q_327 q_329 q_9 q_20 q_330)) rfl rfl rfl (by decide +kernel) ⟨Nat.le_of_ble_eq_true rfl, Nat.le_of_ble_eq_true rfl⟩) ⟨gPc_blind, g_recv hK hG (gok_lo (by decide)) (gc_W) rfl, gPc_at hE hG hA⟩ rfl rfl hl.1 rfl (lv_room (Nat.le_of_ble_eq_true rfl)) dX2_meetFate_45 ⟨Nat.le_of_ble_eq_true rfl, Nat.le_of_ble_eq_true rfl⟩) hG hA (fun g_4 H locs hw hG => ?_)
        try dsimp only at hw
        refine lv_aload_n hx hb dX2_meetFate_48 rfl (lv_at hl 0 rfl) ?_
        refine lv_iconst (v := 3) hx hb dX2_meetFate_49 (by decide) ?_
        refine lv_iload_n hx hb dX2_meetFate_50 rfl (lv_at hl 2 rfl) ?_
        refine lv_imul hx hb dX2_meetFate_51 ?_
        refine g_callv (va_runV (As := [.int (3 * p2)]) (rest := []) ⟨hx, hb, hml, hown, hts⟩ (m_X2_arriveBehind hl9 D K sa ad _ _ (3 * p2) g_4 hw) (cwV 1 hts (gGood gCons (gV q_327 q_329 q_9 q_20 q_330)) rfl rfl rfl (by decide +kernel) ⟨Nat.le_of_ble_eq_true rfl, Nat.le_of_ble_eq_true rfl⟩) ⟨gPc_blind, g_recv hK hG (gok_lo (by decide)) (gc_W) rfl, gPc_at hE hG hA⟩ rfl rfl hl.1 rfl (lv_room (Nat.le_of_ble_eq_true rfl)) dX2_meetFate_52 ⟨Nat.le_of_ble_eq_true rfl, Nat.le_of_ble_eq_true rfl⟩) hG hA (fun g_5 H locs hw hG => ?_)
        try dsimp only at hw
        refine lv_goto (tgt := 73) hx hb dX2_meetFate_55 (by decide) ?_
        exact g_vret hx hb hr hlocks hw hG (by decide) (by decide) dX2_meetFate_73
    · refine lv_tableIn hx hb dX2_meetFate_1 (by omega) (by omega) (by rw [h_1]; rfl) (tgt := 58) (by decide) ?_
      have hw := hw.2.2 h_1
      refine lv_aload_n hx hb dX2_meetFate_58 rfl (lv_at hl 0 rfl) ?_
      refine lv_iconst (v := 4) hx hb dX2_meetFate_59 (by decide) ?_
      refine lv_iload_n hx hb dX2_meetFate_60 rfl (lv_at hl 2 rfl) ?_
      refine lv_imul hx hb dX2_meetFate_61 ?_
      refine g_callv (va_runV (As := [.int (4 * p2)]) (rest := []) ⟨hx, hb, hml, hown, hts⟩ (m_X2_arriveBehind hl9 D K sa ad _ _ (4 * p2) g hw) (cwV 1 hts (gGood gCons (gV q_327 q_329 q_9 q_20 q_330)) rfl rfl rfl (by decide +kernel) ⟨Nat.le_of_ble_eq_true rfl, Nat.le_of_ble_eq_true rfl⟩) ⟨gPc_blind, g_recv hK hG (gok_lo (by decide)) (gc_W) rfl, gPc_at hE hG hA⟩ rfl rfl hl.1 rfl (lv_room (Nat.le_of_ble_eq_true rfl)) dX2_meetFate_62 ⟨Nat.le_of_ble_eq_true rfl, Nat.le_of_ble_eq_true rfl⟩) hG hA (fun g_6 H locs hw hG => ?_)
      try dsimp only at hw
      refine lv_goto (tgt := 73) hx hb dX2_meetFate_65 (by decide) ?_
      exact g_vret hx hb hr hlocks hw hG (by decide) (by decide) dX2_meetFate_73

def wp_X2_sendPiece (post : gS → Prop) (p1 : Nat) (p2 : Int32) (p3 : Int32) (g : gS) : Prop := p1 < 24 ∧ (∀ x_1 : Int32, x_1 = (g.1 23 p1) + 1 → (∀ g_2 : gS, g_2 = gi g 23 p1 x_1 → (((¬ (g_2.1 22 p1) = 0) → (∀ g_4 : gS, g_4 = gi g_2 35 513 p2 → (∀ g_5 : gS, g_5 = gi g_4 37 513 p3 → (wp_X2_ringPlace (fun r_7 g_6 => (∀ g_8 : gS, g_8 = gi g_6 38 513 r_7 → (wp_X1_takeFate (fun r_10 g_9 => (wp_X2_meetFate (fun g_11 => (post g_11)) r_10 (g_9.1 21 p1) g_9)) p1 g_8))) ((g_5.1 0 4) + p2) g_5)))) ∧ (((g_2.1 22 p1) = 0) → (post g_2)))))
set_option maxHeartbeats 4000000 in
set_option maxRecDepth 100000 in
theorem m_X2_sendPiece {l : Launch} (hl9 : l.stackTraces = false) (D : va_G) (K : Nat → ClassId) (sa ad : Nat → Nat) (sz : Nat) (post : gS → Prop) (p1 : Nat) (p2 : Int32) (p3 : Int32) (g : gS) (hw : wp_X2_sendPiece post p1 p2 p3 g) : Met l yX2_sendPiece wsX2_sendPiece ({ frames := 3, cells := 0, slots := 0, locals := 66 } : Room) (gPc D K sa ad sz g [.ref (ad 0), .ref (ad (100 + p1)), .int p2, .int p3]) (va_Qv post (gB D K ad (va_A (gw K ad g) sz)) (va_A (gw K ad g) sz)) 0 0 (va_A (gw K ad g) sz) := by
  refine Met.ofW (cc := cX2_sendPiece) (maxL := 4) (ret := none) (by decide) rfl ?_
  intro p e s m args below meth c s₁ B hml hv
  obtain ⟨rfl, hsz, hP, hE, hD0⟩ := hv
  have hx := B.exec
  have hb := B.bytes
  have hr := B.returns
  have hts := atoms_spec (ws := wsX2_sendPiece) B.pre
  have hq : ∀ w ∈ gW, w.before _ s = true := fun w h => hts w (List.mem_cons_of_mem _ h)
  have hown : s.vm.findClass RX2 = some m.cls := findClass_of_methodNamed B.named
  have hlocks := B.notSynchronized
  subst hsz
  have hD := hD0.self (sz := s.heap.size)
  generalize hAe : va_A (gw K ad g) s.heap.size = A at hD hE ⊢
  have hA : ∀ q : Nat, s.heap.size ≤ q → A q := fun q h => by rw [← hAe]; exact Or.inr h
  have hK := hE.1
  have hG : gX D K ad A s.heap g s.heap [] := ⟨hP, hD, va_S.rf⟩
  have hl := lv_entry ([.ref (ad 0), .ref (ad (100 + p1)), .int p2, .int p3]) (n := 4) (Nat.le_of_ble_eq_true rfl)
  rw [lg_entry_eq]
  generalize (lg_sl ([.ref (ad 0), .ref (ad (100 + p1)), .int p2, .int p3]) ++ List.replicate (4 - (lg_sl ([.ref (ad 0), .ref (ad (100 + p1)), .int p2, .int p3])).length) Slot.unset).toArray = ls at hl ⊢
  have hl : lv_has ls 4 [(0, .ref (ad 0)), (1, .ref (ad (100 + p1))), (2, .int p2), (3, .int p3)] := hl
  dsimp only [wp_X2_sendPiece] at hw
  obtain ⟨hp1, hw⟩ := hw
  refine lv_aload_n hx hb dX2_sendPiece_0 rfl (lv_at hl 1 rfl) ?_
  refine lv_dup hx hb dX2_sendPiece_1 rfl ?_
  refine g_getN (own := RX2) (C := RX1) (T := TX1) (N := 7) (ci := 1) hx hb hq hin_X1 hown hK hG (k := 100 + p1) (gok_N hp1) (gc_N hp1) rfl 3 (by decide) (hE.2.1 ("WireBench", 160, "WireBench$Net", "frameCount", "I", "WireBench") (by decide +kernel)) rfl (v := .int (g.1 23 p1)) rfl dX2_sendPiece_2 ?_
  refine lv_iconst (v := 1) hx hb dX2_sendPiece_5 (by decide) ?_
  refine lv_iadd hx hb dX2_sendPiece_6 ?_
  refine lv_topi (fun x_1 ex_1 => ?_)
  have hw := hw x_1 ex_1
  refine g_putN (own := RX2) (C := RX1) (T := TX1) (N := 7) (ci := 1) hx hb hq hin_X1 tyX1 tyX1_ok nmX1 hown hK hG (k := 100 + p1) (gok_N hp1) (gc_N hp1) rfl 3 (by decide) (hE.2.1 ("WireBench", 160, "WireBench$Net", "frameCount", "I", "WireBench") (by decide +kernel)) rfl rfl (ty := .int) (v := .int x_1) (by decide +kernel) rfl rfl (Nat.le_of_ble_eq_true rfl) (gi g 23 p1 x_1) (gs_N23 hp1) (gho_N ⟨by decide, by decide⟩) dX2_sendPiece_7 (fun H locs hG => ?_)
  obtain ⟨g_2, eg_2⟩ : ∃ z, z = gi g 23 p1 x_1 := ⟨_, rfl⟩
  rw [← eg_2] at hG
  have hw := hw g_2 eg_2
  refine lv_aload_n hx hb dX2_sendPiece_10 rfl (lv_at hl 1 rfl) ?_
  refine g_getN (own := RX2) (C := RX1) (T := TX1) (N := 7) (ci := 1) hx hb hq hin_X1 hown hK hG (k := 100 + p1) (gok_N hp1) (gc_N hp1) rfl 2 (by decide) (hE.2.1 ("WireBench", 76, "WireBench$Net", "up", "Z", "WireBench") (by decide +kernel)) rfl (v := .int (g_2.1 22 p1)) rfl dX2_sendPiece_11 ?_
  refine lv_if_ne (tgt := 18) hx hb dX2_sendPiece_14 (by decide) (fun c_3 => ?_) (fun c_3 => ?_)
  · have hw := hw.1 c_3
    refine lv_aload_n hx hb dX2_sendPiece_18 rfl (lv_at hl 0 rfl) ?_
    refine g_get (own := RX2) (C := RX2) (T := TX2) (N := 11) (ci := 2) hx hb hq hin_X2 hown hK hG (k := 0) (gok_lo (by decide)) (gc_W) rfl 7 (by decide) (hq _ q_125) rfl (v := .ref (ad 1513)) rfl dX2_sendPiece_19 ?_
    refine lv_iload_n hx hb dX2_sendPiece_22 rfl (lv_at hl 2 rfl) ?_
    refine g_putN (own := RX2) (C := RX0) (T := TX0) (N := 9) (ci := 0) hx hb hq hin_X0 tyX0 tyX0_ok nmX0 hown hK hG (k := 1000 + 513) (gok_A (by decide)) (gc_A) rfl 5 (by decide) (hE.2.1 ("WireBench", 146, "WireBench$Arrival", "from", "I", "WireBench") (by decide +kernel)) rfl rfl (ty := .int) (v := .int p2) (by decide +kernel) rfl rfl (Nat.le_of_ble_eq_true rfl) (gi g_2 35 513 p2) (gs_A35) (gho_A ⟨by decide, by decide⟩) dX2_sendPiece_23 (fun H locs hG => ?_)
    obtain ⟨g_4, eg_4⟩ : ∃ z, z = gi g_2 35 513 p2 := ⟨_, rfl⟩
    rw [← eg_4] at hG
    have hw := hw g_4 eg_4
    refine lv_aload_n hx hb dX2_sendPiece_26 rfl (lv_at hl 0 rfl) ?_
    refine g_get (own := RX2) (C := RX2) (T := TX2) (N := 11) (ci := 2) hx hb hq hin_X2 hown hK hG (k := 0) (gok_lo (by decide)) (gc_W) rfl 7 (by decide) (hq _ q_125) rfl (v := .ref (ad 1513)) rfl dX2_sendPiece_27 ?_
    refine lv_iload_n hx hb dX2_sendPiece_30 rfl (lv_at hl 3 rfl) ?_
    refine g_putN (own := RX2) (C := RX0) (T := TX0) (N := 9) (ci := 0) hx hb hq hin_X0 tyX0 tyX0_ok nmX0 hown hK hG (k := 1000 + 513) (gok_A (by decide)) (gc_A) rfl 7 (by decide) (hE.2.1 ("WireBench", 149, "WireBench$Arrival", "size", "I", "WireBench") (by decide +kernel)) rfl rfl (ty := .int) (v := .int p3) (by decide +kernel) rfl rfl (Nat.le_of_ble_eq_true rfl) (gi g_4 37 513 p3) (gs_A37) (gho_A ⟨by decide, by decide⟩) dX2_sendPiece_31 (fun H locs hG => ?_)
    obtain ⟨g_5, eg_5⟩ : ∃ z, z = gi g_4 37 513 p3 := ⟨_, rfl⟩
    rw [← eg_5] at hG
    have hw := hw g_5 eg_5
    refine lv_aload_n hx hb dX2_sendPiece_34 rfl (lv_at hl 0 rfl) ?_
    refine g_get (own := RX2) (C := RX2) (T := TX2) (N := 11) (ci := 2) hx hb hq hin_X2 hown hK hG (k := 0) (gok_lo (by decide)) (gc_W) rfl 7 (by decide) (hq _ q_125) rfl (v := .ref (ad 1513)) rfl dX2_sendPiece_35 ?_
    refine lv_aload_n hx hb dX2_sendPiece_38 rfl (lv_at hl 0 rfl) ?_
    refine g_get (own := RX2) (C := RX2) (T := TX2) (N := 11) (ci := 2) hx hb hq hin_X2 hown hK hG (k := 0) (gok_lo (by decide)) (gc_W) rfl 9 (by decide) (hq _ q_127) rfl (v := .int (g_5.1 0 4)) rfl dX2_sendPiece_39 ?_
    refine lv_iload_n hx hb dX2_sendPiece_42 rfl (lv_at hl 2 rfl) ?_
    refine lv_iadd hx hb dX2_sendPiece_43 ?_
    refine g_calli (va_runS (As := [.int ((g_5.1 0 4) + p2)]) (rest := [.ref (ad (1000 + 513))]) ⟨hx, hb, hml, hown, hts⟩ (m_X2_ringPlace hl9 D K sa ad _ _ ((g_5.1 0 4) + p2) g_5 hw) (cwS 1 hts (gGood gCons (gSt q_295 q_296 q_20 q_297)) rfl rfl rfl (by decide +kernel) ⟨Nat.le_of_ble_eq_true rfl, Nat.le_of_ble_eq_true rfl⟩) ⟨gPc_blind, gPc_at hE hG hA⟩ rfl rfl hl.1 rfl (lv_room (Nat.le_of_ble_eq_true rfl)) dX2_sendPiece_44 ⟨Nat.le_of_ble_eq_true rfl, Nat.le_of_ble_eq_true rfl⟩) hG hA (fun r_7 g_6 H locs hw hG => ?_)
    try dsimp only at hw
    refine g_putN (own := RX2) (C := RX0) (T := TX0) (N := 9) (ci := 0) hx hb hq hin_X0 tyX0 tyX0_ok nmX0 hown hK hG (k := 1000 + 513) (gok_A (by decide)) (gc_A) rfl 8 (by decide) (hE.2.1 ("WireBench", 157, "WireBench$Arrival", "start", "I", "WireBench") (by decide +kernel)) rfl rfl (ty := .int) (v := .int r_7) (by decide +kernel) rfl rfl (Nat.le_of_ble_eq_true rfl) (gi g_6 38 513 r_7) (gs_A38) (gho_A ⟨by decide, by decide⟩) dX2_sendPiece_47 (fun H locs hG => ?_)
    obtain ⟨g_8, eg_8⟩ : ∃ z, z = gi g_6 38 513 r_7 := ⟨_, rfl⟩
    rw [← eg_8] at hG
    have hw := hw g_8 eg_8
    refine lv_aload_n hx hb dX2_sendPiece_50 rfl (lv_at hl 0 rfl) ?_
    refine lv_aload_n hx hb dX2_sendPiece_51 rfl (lv_at hl 1 rfl) ?_
    refine g_calli (va_runVN (C := RX1) (As := []) (rest := [.ref (ad 0)]) ⟨hx, hb, hml, hown, hts⟩ (m_X1_takeFate hl9 D K sa ad _ _ p1 g_8 hw) ⟨va_cnB 0 hts (gGood gCons (gCode q_322)) rfl rfl rfl (hE.2.2.1 ("WireBench", 184, yX1_takeFate, "WireBench") (by decide +kernel)) (hq _ q_22) (by decide +kernel) ⟨Nat.le_of_ble_eq_true rfl, Nat.le_of_ble_eq_true rfl⟩, hq _ q_321, hq _ q_7⟩ ⟨gPc_blind, g_recv hK hG (gok_N hp1) (gc_N hp1) rfl, gPc_at hE hG hA⟩ rfl rfl hl.1 rfl (lv_room (Nat.le_of_ble_eq_true rfl)) dX2_sendPiece_52 ⟨Nat.le_of_ble_eq_true rfl, Nat.le_of_ble_eq_true rfl⟩) hG hA (fun r_10 g_9 H locs hw hG => ?_)
    try dsimp only at hw
    refine lv_aload_n hx hb dX2_sendPiece_55 rfl (lv_at hl 1 rfl) ?_
    refine g_getN (own := RX2) (C := RX1) (T := TX1) (N := 7) (ci := 1) hx hb hq hin_X1 hown hK hG (k := 100 + p1) (gok_N hp1) (gc_N hp1) rfl 1 (by decide) (hE.2.1 ("WireBench", 187, "WireBench$Net", "delay", "I", "WireBench") (by decide +kernel)) rfl (v := .int (g_9.1 21 p1)) rfl dX2_sendPiece_56 ?_
    refine g_callv (va_runV (As := [.int r_10, .int (g_9.1 21 p1)]) (rest := []) ⟨hx, hb, hml, hown, hts⟩ (m_X2_meetFate hl9 D K sa ad _ _ r_10 (g_9.1 21 p1) g_9 hw) (cwV 2 hts (gGood gCons (gV q_323 q_325 q_8 q_20 q_326)) rfl rfl rfl (by decide +kernel) ⟨Nat.le_of_ble_eq_true rfl, Nat.le_of_ble_eq_true rfl⟩) ⟨gPc_blind, g_recv hK hG (gok_lo (by decide)) (gc_W) rfl, gPc_at hE hG hA⟩ rfl rfl hl.1 rfl (lv_room (Nat.le_of_ble_eq_true rfl)) dX2_sendPiece_59 ⟨Nat.le_of_ble_eq_true rfl, Nat.le_of_ble_eq_true rfl⟩) hG hA (fun g_11 H locs hw hG => ?_)
    try dsimp only at hw
    exact g_vret hx hb hr hlocks hw hG (by decide) (by decide) dX2_sendPiece_62
  · have hw := hw.2 c_3
    exact g_vret hx hb hr hlocks hw hG (by decide) (by decide) dX2_sendPiece_17

def wpl_X2_sendPayload_40 (post : Int32 → gS → Prop) : Nat → Nat → Int32 → Int32 → Int32 → Int32 → gS → Prop
  | 0 => fun _ _ _ _ _ _ => False
  | n + 1 => fun x1 x2 x3 x4 x5 g => x1 < 24 ∧ (((x4 ≤ x5) → (post x4 g)) ∧ ((¬ x4 ≤ x5) → (∀ x_8 : Int32, x_8 = x5 * x3 → (wp_X2_sendPiece (fun g_9 => (∀ x_10 : Int32, x_10 = x5 + 1 → (wpl_X2_sendPayload_40 post n x1 x2 x3 x4 x_10 g_9))) x1 x_8 (if x2 - x_8 < x3 then x2 - x_8 else x3) g))))
set_option maxHeartbeats 4000000 in
set_option maxRecDepth 100000 in
theorem L_X2_sendPayload_40 {p : Program} {l : Launch} {e : Env} {s : State} {m : MethodId} {args : Array Value} {below : List Frame} {meth : Method} {c : Code} {D : va_G} {K : Nat → ClassId} {sa ad : Nat → Nat} {A : Nat → Prop} (post : Int32 → gS → Prop) (hl9 : l.stackTraces = false) (hx : p.tables.exec = Jvm.exec) (hb : c.code = cX2_sendPayload) (hr : meth.sig.returnType = (some .int)) (hml : c.maxLocals = 7) (hown : s.vm.findClass RX2 = some m.cls) (hts : ∀ w ∈ wsX2_sendPayload, w.before args s = true) (hlocks : meth.locks = false) (hA : ∀ q, s.heap.size ≤ q → A q) (hE : gE D K sa A s s.heap) : ∀ (n : Nat) (x1 : Nat) (x2 : Int32) (x3 : Int32) (x4 : Int32) (x5 : Int32) (g : gS), wpl_X2_sendPayload_40 post n x1 x2 x3 x4 x5 g → ∀ (H : Heap) (locs : List Loc) (ls : Array Slot), gX D K ad A s.heap g H locs → lv_has ls 7 [(0, .ref (ad 0)), (1, .ref (ad (100 + x1))), (2, .int x2), (3, .int x3), (4, .int x4), (5, .int x5)] → W p l e ({ frames := 4, cells := 0, slots := 0, locals := 89 } : Room) s m args below meth c H locs 0 0 (MQ below (va_Qi post (gB D K ad A) A) args s 0 0 A) (F0 m 40 ls []) := by
  have hK := hE.1
  have hq : ∀ w ∈ gW, w.before args s = true := fun w h => hts w (List.mem_cons_of_mem _ h)
  intro n
  induction n with
  | zero =>
    intro x1 x2 x3 x4 x5 g hw
    exact hw.elim
  | succ n ih =>
    intro x1 x2 x3 x4 x5 g hw H locs ls hG hl
    dsimp only [wpl_X2_sendPayload_40] at hw
    obtain ⟨hx1, hw⟩ := hw
    refine lv_iload hx hb dX2_sendPayload_40 (lv_at hl 5 rfl) ?_
    refine lv_iload hx hb dX2_sendPayload_42 (lv_at hl 4 rfl) ?_
    refine lv_icmp_ge (tgt := 74) hx hb dX2_sendPayload_44 (by decide) (fun c_7 => ?_) (fun c_7 => ?_)
    · have hw := hw.1 c_7
      refine lv_iload hx hb dX2_sendPayload_74 (lv_at hl 4 rfl) ?_
      exact g_iret hx hb hr hlocks hw hG (by decide) (by decide) dX2_sendPayload_76
    · have hw := hw.2 c_7
      refine lv_iload hx hb dX2_sendPayload_47 (lv_at hl 5 rfl) ?_
      refine lv_iload_n hx hb dX2_sendPayload_49 rfl (lv_at hl 3 rfl) ?_
      refine lv_imul hx hb dX2_sendPayload_50 ?_
      refine lv_topi (fun x_8 ex_8 => ?_)
      have hw := hw x_8 ex_8
      refine lv_istore (lv' := [(6, .int x_8), (0, .ref (ad 0)), (1, .ref (ad (100 + x1))), (2, .int x2), (3, .int x3), (4, .int x4), (5, .int x5)]) hx hb dX2_sendPayload_51 hl (by decide) rfl (fun ls hl => ?_)
      refine lv_aload_n hx hb dX2_sendPayload_53 rfl (lv_at hl 1 rfl) ?_
      refine lv_aload_n hx hb dX2_sendPayload_54 rfl (lv_at hl 2 rfl) ?_
      refine lv_iload hx hb dX2_sendPayload_55 (lv_at hl 0 rfl) ?_
      refine lv_iload_n hx hb dX2_sendPayload_57 rfl (lv_at hl 4 rfl) ?_
      refine lv_iload_n hx hb dX2_sendPayload_58 rfl (lv_at hl 3 rfl) ?_
      refine lv_iload hx hb dX2_sendPayload_59 (lv_at hl 0 rfl) ?_
      refine lv_isub hx hb dX2_sendPayload_61 ?_
      refine va_mmin hx hb (hml.trans hl.1.symm) hown (hq _ q_342) (hq _ q_343) (hq _ q_29) (hq _ q_344) (Nat.le_of_ble_eq_true rfl) (Nat.le_of_ble_eq_true rfl) (Nat.le_of_ble_eq_true rfl) (Nat.le_of_ble_eq_true rfl) dX2_sendPayload_62 ?_
      refine g_callv (va_runV (As := [.ref (ad (100 + x1)), .int x_8, .int (if x2 - x_8 < x3 then x2 - x_8 else x3)]) (rest := []) ⟨hx, hb, hml, hown, hts⟩ (m_X2_sendPiece hl9 D K sa ad _ _ x1 x_8 (if x2 - x_8 < x3 then x2 - x_8 else x3) g hw) (cwV 3 hts (gGood gCons (gV q_315 q_317 q_6 q_20 q_318)) rfl rfl rfl (by decide +kernel) ⟨Nat.le_of_ble_eq_true rfl, Nat.le_of_ble_eq_true rfl⟩) ⟨gPc_blind, g_recv hK hG (gok_lo (by decide)) (gc_W) rfl, gPc_at hE hG hA⟩ rfl rfl hl.1 rfl (lv_room (Nat.le_of_ble_eq_true rfl)) dX2_sendPayload_65 ⟨Nat.le_of_ble_eq_true rfl, Nat.le_of_ble_eq_true rfl⟩) hG hA (fun g_9 H locs hw hG => ?_)
      try dsimp only at hw
      obtain ⟨x_10, ex_10⟩ : ∃ y : Int32, y = x5 + 1 := ⟨_, rfl⟩
      have hw := hw x_10 ex_10
      refine lv_iinc (v := x_10) (lv' := [(5, .int x_10), (6, .int x_8), (0, .ref (ad 0)), (1, .ref (ad (100 + x1))), (2, .int x2), (3, .int x3), (4, .int x4)]) hx hb dX2_sendPayload_68 hl (k := 6) rfl (by rw [ex_10]; rfl) (by decide) rfl (fun ls hl => ?_)
      refine lv_goto (tgt := 40) hx hb dX2_sendPayload_71 (by decide) ?_
      exact ih x1 x2 x3 x4 x_10 g_9 hw _ _ _ hG (lv_sub hl [2, 3, 4, 5, 6, 0] rfl)
def wp_X2_sendPayload (post : Int32 → gS → Prop) (p1 : Nat) (g : gS) : Prop := p1 < 24 ∧ (∀ x_1 : Int32, x_1 = g.1 0 5 → ((((g.1 20 p1) < (x_1 + 20)) → (wp_X1_pieceSize (fun r_4 g_3 => (wp_X2_countPieces (fun r_6 g_5 => (∃ n, wpl_X2_sendPayload_40 post n p1 x_1 r_4 r_6 0 g_5)) x_1 r_4 g_3)) p1 g)) ∧ ((¬ (g.1 20 p1) < (x_1 + 20)) → (wp_X2_sendPiece (fun g_12 => (post 0 g_12)) p1 0 x_1 g))))
set_option maxHeartbeats 4000000 in
set_option maxRecDepth 100000 in
theorem m_X2_sendPayload {l : Launch} (hl9 : l.stackTraces = false) (D : va_G) (K : Nat → ClassId) (sa ad : Nat → Nat) (sz : Nat) (post : Int32 → gS → Prop) (p1 : Nat) (g : gS) (hw : wp_X2_sendPayload post p1 g) : Met l yX2_sendPayload wsX2_sendPayload ({ frames := 4, cells := 0, slots := 0, locals := 89 } : Room) (gPc D K sa ad sz g [.ref (ad 0), .ref (ad (100 + p1))]) (va_Qi post (gB D K ad (va_A (gw K ad g) sz)) (va_A (gw K ad g) sz)) 0 0 (va_A (gw K ad g) sz) := by
  refine Met.ofW (cc := cX2_sendPayload) (maxL := 7) (ret := (some .int)) (by decide) rfl ?_
  intro p e s m args below meth c s₁ B hml hv
  obtain ⟨rfl, hsz, hP, hE, hD0⟩ := hv
  have hx := B.exec
  have hb := B.bytes
  have hr := B.returns
  have hts := atoms_spec (ws := wsX2_sendPayload) B.pre
  have hq : ∀ w ∈ gW, w.before _ s = true := fun w h => hts w (List.mem_cons_of_mem _ h)
  have hown : s.vm.findClass RX2 = some m.cls := findClass_of_methodNamed B.named
  have hlocks := B.notSynchronized
  subst hsz
  have hD := hD0.self (sz := s.heap.size)
  generalize hAe : va_A (gw K ad g) s.heap.size = A at hD hE ⊢
  have hA : ∀ q : Nat, s.heap.size ≤ q → A q := fun q h => by rw [← hAe]; exact Or.inr h
  have hK := hE.1
  have hG : gX D K ad A s.heap g s.heap [] := ⟨hP, hD, va_S.rf⟩
  have hl := lv_entry ([.ref (ad 0), .ref (ad (100 + p1))]) (n := 7) (Nat.le_of_ble_eq_true rfl)
  rw [lg_entry_eq]
  generalize (lg_sl ([.ref (ad 0), .ref (ad (100 + p1))]) ++ List.replicate (7 - (lg_sl ([.ref (ad 0), .ref (ad (100 + p1))])).length) Slot.unset).toArray = ls at hl ⊢
  have hl : lv_has ls 7 [(0, .ref (ad 0)), (1, .ref (ad (100 + p1)))] := hl
  dsimp only [wp_X2_sendPayload] at hw
  obtain ⟨hp1, hw⟩ := hw
  refine lv_aload_n hx hb dX2_sendPayload_0 rfl (lv_at hl 0 rfl) ?_
  refine g_get (own := RX2) (C := RX2) (T := TX2) (N := 11) (ci := 2) hx hb hq hin_X2 hown hK hG (k := 0) (gok_lo (by decide)) (gc_W) rfl 10 (by decide) (hq _ q_128) rfl (v := .int (g.1 0 5)) rfl dX2_sendPayload_1 ?_
  refine lv_topi (fun x_1 ex_1 => ?_)
  have hw := hw x_1 ex_1
  refine lv_istore_n (lv' := [(2, .int x_1), (0, .ref (ad 0)), (1, .ref (ad (100 + p1)))]) hx hb dX2_sendPayload_4 rfl hl (by decide) rfl (fun ls hl => ?_)
  refine lv_iload_n hx hb dX2_sendPayload_5 rfl (lv_at hl 0 rfl) ?_
  refine lv_bipush (v := 20) hx hb dX2_sendPayload_6 (by decide) ?_
  refine lv_iadd hx hb dX2_sendPayload_8 ?_
  refine lv_aload_n hx hb dX2_sendPayload_9 rfl (lv_at hl 2 rfl) ?_
  refine g_getN (own := RX2) (C := RX1) (T := TX1) (N := 7) (ci := 1) hx hb hq hin_X1 hown hK hG (k := 100 + p1) (gok_N hp1) (gc_N hp1) rfl 0 (by decide) (hE.2.1 ("WireBench", 165, "WireBench$Net", "largest", "I", "WireBench") (by decide +kernel)) rfl (v := .int (g.1 20 p1)) rfl dX2_sendPayload_10 ?_
  refine lv_icmp_gt (tgt := 25) hx hb dX2_sendPayload_13 (by decide) (fun c_2 => ?_) (fun c_2 => ?_)
  · have hw := hw.1 c_2
    refine lv_aload_n hx hb dX2_sendPayload_25 rfl (lv_at hl 2 rfl) ?_
    refine g_calli (va_runVN (C := RX1) (As := []) (rest := []) ⟨hx, hb, hml, hown, hts⟩ (m_X1_pieceSize hl9 D K sa ad _ _ p1 g hw) ⟨va_cnB 0 hts (gGood gCons (gCode q_338)) rfl rfl rfl (hE.2.2.1 ("WireBench", 172, yX1_pieceSize, "WireBench") (by decide +kernel)) (hq _ q_22) (by decide +kernel) ⟨Nat.le_of_ble_eq_true rfl, Nat.le_of_ble_eq_true rfl⟩, hq _ q_337, hq _ q_11⟩ ⟨gPc_blind, g_recv hK hG (gok_N hp1) (gc_N hp1) rfl, gPc_at hE hG hA⟩ rfl rfl hl.1 rfl (lv_room (Nat.le_of_ble_eq_true rfl)) dX2_sendPayload_26 ⟨Nat.le_of_ble_eq_true rfl, Nat.le_of_ble_eq_true rfl⟩) hG hA (fun r_4 g_3 H locs hw hG => ?_)
    try dsimp only at hw
    refine lv_istore_n (lv' := [(3, .int r_4), (2, .int x_1), (0, .ref (ad 0)), (1, .ref (ad (100 + p1)))]) hx hb dX2_sendPayload_29 rfl hl (by decide) rfl (fun ls hl => ?_)
    refine lv_iload_n hx hb dX2_sendPayload_30 rfl (lv_at hl 1 rfl) ?_
    refine lv_iload_n hx hb dX2_sendPayload_31 rfl (lv_at hl 0 rfl) ?_
    refine g_calli (va_runS (As := [.int x_1, .int r_4]) (rest := []) ⟨hx, hb, hml, hown, hts⟩ (m_X2_countPieces hl9 D K sa ad _ _ x_1 r_4 g_3 hw) (cwS 2 hts (gGood gCons (gSt q_339 q_340 q_20 q_341)) rfl rfl rfl (by decide +kernel) ⟨Nat.le_of_ble_eq_true rfl, Nat.le_of_ble_eq_true rfl⟩) ⟨gPc_blind, gPc_at hE hG hA⟩ rfl rfl hl.1 rfl (lv_room (Nat.le_of_ble_eq_true rfl)) dX2_sendPayload_32 ⟨Nat.le_of_ble_eq_true rfl, Nat.le_of_ble_eq_true rfl⟩) hG hA (fun r_6 g_5 H locs hw hG => ?_)
    try dsimp only at hw
    refine lv_istore (lv' := [(4, .int r_6), (3, .int r_4), (2, .int x_1), (0, .ref (ad 0)), (1, .ref (ad (100 + p1)))]) hx hb dX2_sendPayload_35 hl (by decide) rfl (fun ls hl => ?_)
    refine lv_iconst (v := 0) hx hb dX2_sendPayload_37 (by decide) ?_
    refine lv_istore (lv' := [(5, .int 0), (4, .int r_6), (3, .int r_4), (2, .int x_1), (0, .ref (ad 0)), (1, .ref (ad (100 + p1)))]) hx hb dX2_sendPayload_38 hl (by decide) rfl (fun ls hl => ?_)
    obtain ⟨n_11, hw⟩ := hw
    exact L_X2_sendPayload_40 post hl9 hx hb hr hml hown hts hlocks hA hE n_11 p1 x_1 r_4 r_6 0 g_5 hw _ _ _ hG (lv_sub hl [4, 5, 3, 2, 1, 0] rfl)
  · have hw := hw.2 c_2
    refine lv_aload_n hx hb dX2_sendPayload_16 rfl (lv_at hl 1 rfl) ?_
    refine lv_aload_n hx hb dX2_sendPayload_17 rfl (lv_at hl 2 rfl) ?_
    refine lv_iconst (v := 0) hx hb dX2_sendPayload_18 (by decide) ?_
    refine lv_iload_n hx hb dX2_sendPayload_19 rfl (lv_at hl 0 rfl) ?_
    refine g_callv (va_runV (As := [.ref (ad (100 + p1)), .int 0, .int x_1]) (rest := []) ⟨hx, hb, hml, hown, hts⟩ (m_X2_sendPiece hl9 D K sa ad _ _ p1 0 x_1 g hw) (cwV 3 hts (gGood gCons (gV q_315 q_317 q_6 q_20 q_318)) rfl rfl rfl (by decide +kernel) ⟨Nat.le_of_ble_eq_true rfl, Nat.le_of_ble_eq_true rfl⟩) ⟨gPc_blind, g_recv hK hG (gok_lo (by decide)) (gc_W) rfl, gPc_at hE hG hA⟩ rfl rfl hl.1 rfl (lv_room (Nat.le_of_ble_eq_true rfl)) dX2_sendPayload_20 ⟨Nat.le_of_ble_eq_true rfl, Nat.le_of_ble_eq_true rfl⟩) hG hA (fun g_12 H locs hw hG => ?_)
    try dsimp only at hw
    refine lv_iconst (v := 0) hx hb dX2_sendPayload_23 (by decide) ?_
    exact g_iret hx hb hr hlocks hw hG (by decide) (by decide) dX2_sendPayload_24

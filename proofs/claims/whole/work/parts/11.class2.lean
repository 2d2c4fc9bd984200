def wp_X2_net (post : Int32 → gS → Prop) (px : String × gS → Prop) (p1 : Int32) (p2 : Int32) (g : gS) : Prop := ((p1 < 100) → (px ("java/lang/IllegalArgumentException", g))) ∧ ((¬ p1 < 100) → (((p1 ≤ 1500) → (((p2 < 1) → (px ("java/lang/IllegalArgumentException", g))) ∧ ((¬ p2 < 1) → (((p2 ≤ 50) → ((((g.1 0 0) < 24) → (∀ i_6 : Int32, i_6 = g.1 0 0 → (vp_in i_6 24 ∧ (wp_X1_open (fun g_9 => (∀ x_10 : Int32, x_10 = (g_9.1 0 0) + 1 → (∀ g_11 : gS, g_11 = gi g_9 0 0 x_10 → (post ((g_11.1 0 0) - 1) g_11)))) i_6.toNatClampNeg p1 p2 g)))) ∧ ((¬ (g.1 0 0) < 24) → (px ("java/lang/IllegalStateException", g))))) ∧ ((¬ p2 ≤ 50) → (px ("java/lang/IllegalArgumentException", g))))))) ∧ ((¬ p1 ≤ 1500) → (px ("java/lang/IllegalArgumentException", g)))))
set_option maxHeartbeats 4000000 in
set_option maxRecDepth 100000 in
theorem m_X2_net {l : Launch} (hl9 : l.stackTraces = false) (D : va_G) (K : Nat → ClassId) (sa ad : Nat → Nat) (sz : Nat) (post : Int32 → gS → Prop) (px : String × gS → Prop) (p1 : Int32) (p2 : Int32) (g : gS) (hw : wp_X2_net post px p1 p2 g) : vx_Met l yX2_net wsX2_net ({ frames := 6, cells := 1, slots := 6, locals := 91 } : Room) (gPc D K sa ad sz g [.ref (ad 0), .int p1, .int p2]) (va_Qi post (gB D K ad (va_A (gw K ad g) sz)) (va_A (gw K ad g) sz)) (vx_X px (gBX D K ad (va_A (gw K ad g) sz)) (va_A (gw K ad g) sz)) 1 6 (va_A (gw K ad g) sz) := by
  refine vx_ofW (cc := cX2_net) (maxL := 3) (ret := (some .int)) (by decide) rfl ?_
  intro p e s m args below meth c s₁ B hml hN hv
  obtain ⟨rfl, hsz, hP, hE, hD0⟩ := hv
  have hx := B.exec
  have hb := B.bytes
  have hr := B.returns
  have hts := atoms_spec (ws := wsX2_net) B.pre
  have hq : ∀ w ∈ gW, w.before _ s = true := fun w h => hts w (List.mem_cons_of_mem _ h)
  have hown : s.vm.findClass RX2 = some m.cls := findClass_of_methodNamed B.named
  have hlocks := B.notSynchronized
  subst hsz
  have hD := hD0.self (sz := s.heap.size)
  generalize hAe : va_A (gw K ad g) s.heap.size = A at hD hE ⊢
  have hA : ∀ q : Nat, s.heap.size ≤ q → A q := fun q h => by rw [← hAe]; exact Or.inr h
  have hK := hE.1
  have hG : gX D K ad A s.heap g s.heap [] := ⟨hP, hD, va_S.rf⟩
  have hl := lv_entry ([.ref (ad 0), .int p1, .int p2]) (n := 3) (Nat.le_of_ble_eq_true rfl)
  rw [lg_entry_eq]
  generalize (lg_sl ([.ref (ad 0), .int p1, .int p2]) ++ List.replicate (3 - (lg_sl ([.ref (ad 0), .int p1, .int p2])).length) Slot.unset).toArray = ls at hl ⊢
  have hl : lv_has ls 3 [(0, .ref (ad 0)), (1, .int p1), (2, .int p2)] := hl
  dsimp only [wp_X2_net] at hw
  refine lv_iload_n hx hb dX2_net_0 rfl (lv_at hl 1 rfl) ?_
  refine lv_bipush (v := 100) hx hb dX2_net_1 (by decide) ?_
  refine lv_icmp_lt (tgt := 13) hx hb dX2_net_3 (by decide) (fun c_1 => ?_) (fun c_1 => ?_)
  · have hw := hw.1 c_1
    exact g_throwS (own := RX2) (cls := "java/lang/IllegalArgumentException") (text := "largest is not 100 .. 1500") (names := ["java/lang/RuntimeException", "java/lang/Exception"]) hx hb hl9 hown (by decide +kernel) (by decide +kernel) (hq _ q_169) (hq _ q_27) hE (by decide +kernel) (hat_IAE_58 hq hE) hgd_IAE_58 (hl.1.trans hml.symm) hN hlocks hw hG dX2_net_13 dX2_net_16 dX2_net_17 dX2_net_19 dX2_net_22 (Nat.le_of_ble_eq_true rfl) (Nat.le_of_ble_eq_true rfl) (Nat.le_of_ble_eq_true rfl) (Nat.le_of_ble_eq_true rfl) (by decide) (by decide)
  · have hw := hw.2 c_1
    refine lv_iload_n hx hb dX2_net_6 rfl (lv_at hl 1 rfl) ?_
    refine lv_sipush (v := 1500) hx hb dX2_net_7 (by decide) ?_
    refine lv_icmp_le (tgt := 23) hx hb dX2_net_10 (by decide) (fun c_2 => ?_) (fun c_2 => ?_)
    · have hw := hw.1 c_2
      refine lv_iload_n hx hb dX2_net_23 rfl (lv_at hl 2 rfl) ?_
      refine lv_iconst (v := 1) hx hb dX2_net_24 (by decide) ?_
      refine lv_icmp_lt (tgt := 34) hx hb dX2_net_25 (by decide) (fun c_3 => ?_) (fun c_3 => ?_)
      · have hw := hw.1 c_3
        exact g_throwS (own := RX2) (cls := "java/lang/IllegalArgumentException") (text := "delay is not 1 .. 50") (names := ["java/lang/RuntimeException", "java/lang/Exception"]) hx hb hl9 hown (by decide +kernel) (by decide +kernel) (hq _ q_169) (hq _ q_27) hE (by decide +kernel) (hat_IAE_58 hq hE) hgd_IAE_58 (hl.1.trans hml.symm) hN hlocks hw hG dX2_net_34 dX2_net_37 dX2_net_38 dX2_net_40 dX2_net_43 (Nat.le_of_ble_eq_true rfl) (Nat.le_of_ble_eq_true rfl) (Nat.le_of_ble_eq_true rfl) (Nat.le_of_ble_eq_true rfl) (by decide) (by decide)
      · have hw := hw.2 c_3
        refine lv_iload_n hx hb dX2_net_28 rfl (lv_at hl 2 rfl) ?_
        refine lv_bipush (v := 50) hx hb dX2_net_29 (by decide) ?_
        refine lv_icmp_le (tgt := 44) hx hb dX2_net_31 (by decide) (fun c_4 => ?_) (fun c_4 => ?_)
        · have hw := hw.1 c_4
          refine lv_aload_n hx hb dX2_net_44 rfl (lv_at hl 0 rfl) ?_
          refine g_get (own := RX2) (C := RX2) (T := TX2) (N := 11) (ci := 2) hx hb hq hin_X2 hown hK hG (k := 0) (gok_lo (by decide)) (gc_W) rfl 1 (by decide) (hq _ q_119) rfl (v := .int (g.1 0 0)) rfl dX2_net_45 ?_
          refine lv_bipush (v := 24) hx hb dX2_net_48 (by decide) ?_
          refine lv_icmp_lt (tgt := 63) hx hb dX2_net_50 (by decide) (fun c_5 => ?_) (fun c_5 => ?_)
          · have hw := hw.1 c_5
            refine lv_aload_n hx hb dX2_net_63 rfl (lv_at hl 0 rfl) ?_
            refine g_get (own := RX2) (C := RX2) (T := TX2) (N := 11) (ci := 2) hx hb hq hin_X2 hown hK hG (k := 0) (gok_lo (by decide)) (gc_W) rfl 0 (by decide) (hq _ q_118) rfl (v := .ref (ad 1)) rfl dX2_net_64 ?_
            refine lv_aload_n hx hb dX2_net_67 rfl (lv_at hl 0 rfl) ?_
            refine g_get (own := RX2) (C := RX2) (T := TX2) (N := 11) (ci := 2) hx hb hq hin_X2 hown hK hG (k := 0) (gok_lo (by decide)) (gc_W) rfl 1 (by decide) (hq _ q_119) rfl (v := .int (g.1 0 0)) rfl dX2_net_68 ?_
            refine lv_topi (fun i_6 ei_6 => ?_)
            have hw := hw i_6 ei_6
            obtain ⟨hi_7, hw⟩ := hw
            refine g_aldN hx hb hK hG hi_7 dX2_net_71 ?_
            have hk_8 : i_6.toNatClampNeg < 24 := vin_lt hi_7
            refine lv_iload_n hx hb dX2_net_72 rfl (lv_at hl 1 rfl) ?_
            refine lv_iload_n hx hb dX2_net_73 rfl (lv_at hl 2 rfl) ?_
            refine g_callv (va_runVN (C := RX1) (As := [.int p1, .int p2]) (rest := []) ⟨hx, hb, hml, hown, hts⟩ (m_X1_open hl9 D K sa ad _ _ i_6.toNatClampNeg p1 p2 g hw) ⟨va_cnB 2 hts (gGood gCons (gCode q_256)) rfl rfl rfl (hE.2.2.1 ("WireBench", 68, yX1_open, "WireBench") (by decide +kernel)) (hq _ q_22) (by decide +kernel) ⟨Nat.le_of_ble_eq_true rfl, Nat.le_of_ble_eq_true rfl⟩, hq _ q_255, hq _ q_1⟩ ⟨gPc_blind, g_recv hK hG (gok_N hk_8) (gc_N hk_8) rfl, gPc_at hE hG hA⟩ rfl rfl hl.1 rfl (lv_room (Nat.le_of_ble_eq_true rfl)) dX2_net_74 ⟨Nat.le_of_ble_eq_true rfl, Nat.le_of_ble_eq_true rfl⟩) hG hA (fun g_9 H locs hw hG => ?_)
            try dsimp only at hw
            refine lv_aload_n hx hb dX2_net_77 rfl (lv_at hl 0 rfl) ?_
            refine lv_dup hx hb dX2_net_78 rfl ?_
            refine g_get (own := RX2) (C := RX2) (T := TX2) (N := 11) (ci := 2) hx hb hq hin_X2 hown hK hG (k := 0) (gok_lo (by decide)) (gc_W) rfl 1 (by decide) (hq _ q_119) rfl (v := .int (g_9.1 0 0)) rfl dX2_net_79 ?_
            refine lv_iconst (v := 1) hx hb dX2_net_82 (by decide) ?_
            refine lv_iadd hx hb dX2_net_83 ?_
            refine lv_topi (fun x_10 ex_10 => ?_)
            have hw := hw x_10 ex_10
            refine g_put (own := RX2) (C := RX2) (T := TX2) (N := 11) (ci := 2) hx hb hq hin_X2 tyX2 tyX2_ok nmX2 hown hK hG (k := 0) (gok_lo (by decide)) (gc_W) rfl 1 (by decide) (hq _ q_119) rfl rfl (ty := .int) (v := .int x_10) (by decide +kernel) rfl rfl (Nat.le_of_ble_eq_true rfl) (gi g_9 0 0 x_10) (gs_W0) (gho_lo (by decide)) dX2_net_84 (fun H locs hG => ?_)
            obtain ⟨g_11, eg_11⟩ : ∃ z, z = gi g_9 0 0 x_10 := ⟨_, rfl⟩
            rw [← eg_11] at hG
            have hw := hw g_11 eg_11
            refine lv_aload_n hx hb dX2_net_87 rfl (lv_at hl 0 rfl) ?_
            refine g_get (own := RX2) (C := RX2) (T := TX2) (N := 11) (ci := 2) hx hb hq hin_X2 hown hK hG (k := 0) (gok_lo (by decide)) (gc_W) rfl 1 (by decide) (hq _ q_119) rfl (v := .int (g_11.1 0 0)) rfl dX2_net_88 ?_
            refine lv_iconst (v := 1) hx hb dX2_net_91 (by decide) ?_
            refine lv_isub hx hb dX2_net_92 ?_
            exact vx_ret (g_iret hx hb hr hlocks hw hG (by decide) (by decide) dX2_net_93)
          · have hw := hw.2 c_5
            exact g_throwS (own := RX2) (cls := "java/lang/IllegalStateException") (text := "there are 24 nets") (names := ["java/lang/RuntimeException", "java/lang/Exception"]) hx hb hl9 hown (by decide +kernel) (by decide +kernel) (hq _ q_237) (hq _ q_28) hE (by decide +kernel) (hat_ISE_67 hq hE) hgd_ISE_67 (hl.1.trans hml.symm) hN hlocks hw hG dX2_net_53 dX2_net_56 dX2_net_57 dX2_net_59 dX2_net_62 (Nat.le_of_ble_eq_true rfl) (Nat.le_of_ble_eq_true rfl) (Nat.le_of_ble_eq_true rfl) (Nat.le_of_ble_eq_true rfl) (by decide) (by decide)
        · have hw := hw.2 c_4
          exact g_throwS (own := RX2) (cls := "java/lang/IllegalArgumentException") (text := "delay is not 1 .. 50") (names := ["java/lang/RuntimeException", "java/lang/Exception"]) hx hb hl9 hown (by decide +kernel) (by decide +kernel) (hq _ q_169) (hq _ q_27) hE (by decide +kernel) (hat_IAE_58 hq hE) hgd_IAE_58 (hl.1.trans hml.symm) hN hlocks hw hG dX2_net_34 dX2_net_37 dX2_net_38 dX2_net_40 dX2_net_43 (Nat.le_of_ble_eq_true rfl) (Nat.le_of_ble_eq_true rfl) (Nat.le_of_ble_eq_true rfl) (Nat.le_of_ble_eq_true rfl) (by decide) (by decide)
    · have hw := hw.2 c_2
      exact g_throwS (own := RX2) (cls := "java/lang/IllegalArgumentException") (text := "largest is not 100 .. 1500") (names := ["java/lang/RuntimeException", "java/lang/Exception"]) hx hb hl9 hown (by decide +kernel) (by decide +kernel) (hq _ q_169) (hq _ q_27) hE (by decide +kernel) (hat_IAE_58 hq hE) hgd_IAE_58 (hl.1.trans hml.symm) hN hlocks hw hG dX2_net_13 dX2_net_16 dX2_net_17 dX2_net_19 dX2_net_22 (Nat.le_of_ble_eq_true rfl) (Nat.le_of_ble_eq_true rfl) (Nat.le_of_ble_eq_true rfl) (Nat.le_of_ble_eq_true rfl) (by decide) (by decide)

def wp_X2_link (post : Int32 → gS → Prop) (px : String × gS → Prop) (p1 : Int32) (p2 : Int32) (g : gS) : Prop := wp_X2_netNumbered (fun u_ => ∃ (k_2 : Nat) (g_1 : gS), u_ = (100 + k_2, g_1) ∧ (k_2 < 24 ∧ (narrow .boolean (.int p2) = .int p2 ∧ (fits .boolean (.int p2) = true ∧ (∀ g_6 : gS, g_6 = gi g_1 22 k_2 p2 → (((p2 = 0) → (wp_X2_loseArrivalsOf (fun r_9 g_8 => (post r_9 g_8)) p1 g_6)) ∧ ((¬ p2 = 0) → (post 0 g_6)))))))) px p1 g
set_option maxHeartbeats 4000000 in
set_option maxRecDepth 100000 in
theorem m_X2_link {l : Launch} (hl9 : l.stackTraces = false) (D : va_G) (K : Nat → ClassId) (sa ad : Nat → Nat) (sz : Nat) (post : Int32 → gS → Prop) (px : String × gS → Prop) (p1 : Int32) (p2 : Int32) (g : gS) (hw : wp_X2_link post px p1 p2 g) : vx_Met l yX2_link wsX2_link ({ frames := 7, cells := 1, slots := 6, locals := 112 } : Room) (gPc D K sa ad sz g [.ref (ad 0), .int p1, .int p2]) (va_Qi post (gB D K ad (va_A (gw K ad g) sz)) (va_A (gw K ad g) sz)) (vx_X px (gBX D K ad (va_A (gw K ad g) sz)) (va_A (gw K ad g) sz)) 1 6 (va_A (gw K ad g) sz) := by
  refine vx_ofW (cc := cX2_link) (maxL := 3) (ret := (some .int)) (by decide) rfl ?_
  intro p e s m args below meth c s₁ B hml hN hv
  obtain ⟨rfl, hsz, hP, hE, hD0⟩ := hv
  have hx := B.exec
  have hb := B.bytes
  have hr := B.returns
  have hts := atoms_spec (ws := wsX2_link) B.pre
  have hq : ∀ w ∈ gW, w.before _ s = true := fun w h => hts w (List.mem_cons_of_mem _ h)
  have hown : s.vm.findClass RX2 = some m.cls := findClass_of_methodNamed B.named
  have hlocks := B.notSynchronized
  subst hsz
  have hD := hD0.self (sz := s.heap.size)
  generalize hAe : va_A (gw K ad g) s.heap.size = A at hD hE ⊢
  have hA : ∀ q : Nat, s.heap.size ≤ q → A q := fun q h => by rw [← hAe]; exact Or.inr h
  have hK := hE.1
  have hG : gX D K ad A s.heap g s.heap [] := ⟨hP, hD, va_S.rf⟩
  have hl := lv_entry ([.ref (ad 0), .int p1, .int p2]) (n := 3) (Nat.le_of_ble_eq_true rfl)
  rw [lg_entry_eq]
  generalize (lg_sl ([.ref (ad 0), .int p1, .int p2]) ++ List.replicate (3 - (lg_sl ([.ref (ad 0), .int p1, .int p2])).length) Slot.unset).toArray = ls at hl ⊢
  have hl : lv_has ls 3 [(0, .ref (ad 0)), (1, .int p1), (2, .int p2)] := hl
  dsimp only [wp_X2_link] at hw
  refine lv_aload_n hx hb dX2_link_0 rfl (lv_at hl 0 rfl) ?_
  refine lv_iload_n hx hb dX2_link_1 rfl (lv_at hl 1 rfl) ?_
  refine g_xcallr (vx_runV (As := [.int p1]) (rest := []) ⟨hx, hb, hml, hown, hts⟩ (m_X2_netNumbered hl9 D K sa ad _ _ _ p1 g hw) (cwV 1 hts (gGood gCons (gV q_264 q_266 q_2 q_20 q_267)) rfl rfl rfl (by decide +kernel) ⟨Nat.le_of_ble_eq_true rfl, Nat.le_of_ble_eq_true rfl⟩) ⟨gPc_blind, g_recv hK hG (gok_lo (by decide)) (gc_W) rfl, gPc_at hE hG hA⟩ rfl rfl hl.1 rfl (lv_room (Nat.le_of_ble_eq_true rfl)) dX2_link_2 ⟨Nat.le_of_ble_eq_true rfl, Nat.le_of_ble_eq_true rfl⟩) hG hA (fun E_ ce_ q_ g_1 H locs hw hG h1_ h2_ h3_ => ?_) (fun k_ ga_ H locs hw hG => ?_)
  · exact g_out hN hlocks h1_ h2_ h3_ hw hG (by decide) (by decide)
  try dsimp only at hw
  obtain ⟨k_2, g_1, eu_, hk_3, hw⟩ := hw
  obtain ⟨e1_, e2_⟩ := Prod.mk.inj eu_
  subst e1_
  have e2_ := e2_.symm
  subst e2_
  refine lv_iload_n hx hb dX2_link_5 rfl (lv_at hl 2 rfl) ?_
  obtain ⟨h_4, hw⟩ := hw
  obtain ⟨h_5, hw⟩ := hw
  refine g_putN (own := RX2) (C := RX1) (T := TX1) (N := 7) (ci := 1) hx hb hq hin_X1 tyX1 tyX1_ok nmX1 hown hK hG (k := 100 + k_2) (gok_N hk_3) (gc_N hk_3) rfl 2 (by decide) (hE.2.1 ("WireBench", 76, "WireBench$Net", "up", "Z", "WireBench") (by decide +kernel)) rfl rfl (ty := .boolean) (v := .int p2) (by decide +kernel) h_4 h_5 (Nat.le_of_ble_eq_true rfl) (gi g_1 22 k_2 p2) (gs_N22 hk_3) (gho_N ⟨by decide, by decide⟩) dX2_link_6 (fun H locs hG => ?_)
  obtain ⟨g_6, eg_6⟩ : ∃ z, z = gi g_1 22 k_2 p2 := ⟨_, rfl⟩
  rw [← eg_6] at hG
  have hw := hw g_6 eg_6
  refine lv_iload_n hx hb dX2_link_9 rfl (lv_at hl 2 rfl) ?_
  refine lv_if_eq (tgt := 17) hx hb dX2_link_10 (by decide) (fun c_7 => ?_) (fun c_7 => ?_)
  · have hw := hw.1 c_7
    refine lv_aload_n hx hb dX2_link_17 rfl (lv_at hl 0 rfl) ?_
    refine lv_iload_n hx hb dX2_link_18 rfl (lv_at hl 1 rfl) ?_
    refine g_calli (va_runV (As := [.int p1]) (rest := []) ⟨hx, hb, hml, hown, hts⟩ (m_X2_loseArrivalsOf hl9 D K sa ad _ _ p1 g_6 hw) (cwV 1 hts (gGood gCons (gV q_269 q_271 q_3 q_20 q_272)) rfl rfl rfl (by decide +kernel) ⟨Nat.le_of_ble_eq_true rfl, Nat.le_of_ble_eq_true rfl⟩) ⟨gPc_blind, g_recv hK hG (gok_lo (by decide)) (gc_W) rfl, gPc_at hE hG hA⟩ rfl rfl hl.1 rfl (lv_room (Nat.le_of_ble_eq_true rfl)) dX2_link_19 ⟨Nat.le_of_ble_eq_true rfl, Nat.le_of_ble_eq_true rfl⟩) hG hA (fun r_9 g_8 H locs hw hG => ?_)
    try dsimp only at hw
    exact vx_ret (g_iret hx hb hr hlocks hw hG (by decide) (by decide) dX2_link_22)
  · have hw := hw.2 c_7
    refine lv_iconst (v := 0) hx hb dX2_link_13 (by decide) ?_
    refine lv_goto (tgt := 22) hx hb dX2_link_14 (by decide) ?_
    exact vx_ret (g_iret hx hb hr hlocks hw hG (by decide) (by decide) dX2_link_22)

def wpl_X2_fates_56 (post : Int32 → gS → Prop) (px : String × gS → Prop) : Nat → Int32 → Int64 → Int32 → Nat → Int32 → gS → Prop
  | 0 => fun _ _ _ _ _ _ => False
  | n + 1 => fun x1 x2 x4 x5 x6 g => x5 < 24 ∧ (((x4 ≤ x6) → (post (g.1 25 x5) g)) ∧ ((¬ x4 ≤ x6) → (wp_X1_addFate (fun g_8 => (∀ x_9 : Int32, x_9 = x6 + 1 → (wpl_X2_fates_56 post px n x1 x2 x4 x5 x_9 g_8))) x5 ((((x2.toUInt64 >>> ((2 * x6).toInt64.toUInt64 &&& Int64.toUInt64 63)).toInt64).toInt32) &&& 3) g)))
set_option maxHeartbeats 4000000 in
set_option maxRecDepth 100000 in
theorem L_X2_fates_56 {p : Program} {l : Launch} {e : Env} {s : State} {m : MethodId} {args : Array Value} {below : List Frame} {meth : Method} {c : Code} {D : va_G} {K : Nat → ClassId} {sa ad : Nat → Nat} {A : Nat → Prop} (post : Int32 → gS → Prop) (px : String × gS → Prop) (hl9 : l.stackTraces = false) (hx : p.tables.exec = Jvm.exec) (hb : c.code = cX2_fates) (hr : meth.sig.returnType = (some .int)) (hml : c.maxLocals = 7) (hown : s.vm.findClass RX2 = some m.cls) (hts : ∀ w ∈ wsX2_fates, w.before args s = true) (hlocks : meth.locks = false) (hA : ∀ q, s.heap.size ≤ q → A q) (hE : gE D K sa A s s.heap) (hN : ∀ x ∈ c.exceptionTable.toList, False) : ∀ (n : Nat) (x1 : Int32) (x2 : Int64) (x4 : Int32) (x5 : Nat) (x6 : Int32) (g : gS), wpl_X2_fates_56 post px n x1 x2 x4 x5 x6 g → ∀ (H : Heap) (locs : List Loc) (ls : Array Slot), gX D K ad A s.heap g H locs → lv_has ls 7 [(0, .ref (ad 0)), (1, .int x1), (2, .long x2), (4, .int x4), (5, .ref (ad (100 + x5))), (6, .int x6)] → W p l e ({ frames := 7, cells := 2, slots := 12, locals := 112 } : Room) s m args below meth c H locs 1 6 (vx_MQ below (va_Qi post (gB D K ad A) A) (vx_X px (gBX D K ad A) A) args s 2 12 A) (F0 m 56 ls []) := by
  have hK := hE.1
  have hq : ∀ w ∈ gW, w.before args s = true := fun w h => hts w (List.mem_cons_of_mem _ h)
  intro n
  induction n with
  | zero =>
    intro x1 x2 x4 x5 x6 g hw
    exact hw.elim
  | succ n ih =>
    intro x1 x2 x4 x5 x6 g hw H locs ls hG hl
    dsimp only [wpl_X2_fates_56] at hw
    obtain ⟨hx5, hw⟩ := hw
    refine lv_iload hx hb dX2_fates_56 (lv_at hl 5 rfl) ?_
    refine lv_iload hx hb dX2_fates_58 (lv_at hl 3 rfl) ?_
    refine lv_icmp_ge (tgt := 83) hx hb dX2_fates_60 (by decide) (fun c_7 => ?_) (fun c_7 => ?_)
    · have hw := hw.1 c_7
      refine lv_aload hx hb dX2_fates_83 (lv_at hl 4 rfl) ?_
      refine g_getN (own := RX2) (C := RX1) (T := TX1) (N := 7) (ci := 1) hx hb hq hin_X1 hown hK hG (k := 100 + x5) (gok_N hx5) (gc_N hx5) rfl 6 (by decide) (hE.2.1 ("WireBench", 85, "WireBench$Net", "fateCount", "I", "WireBench") (by decide +kernel)) rfl (v := .int (g.1 25 x5)) rfl dX2_fates_85 ?_
      exact vx_ret (g_iret hx hb hr hlocks hw hG (by decide) (by decide) dX2_fates_88)
    · have hw := hw.2 c_7
      refine lv_aload hx hb dX2_fates_63 (lv_at hl 4 rfl) ?_
      refine lv_lload_n hx hb dX2_fates_65 rfl (lv_at hl 2 rfl) ?_
      refine lv_iconst (v := 2) hx hb dX2_fates_66 (by decide) ?_
      refine lv_iload hx hb dX2_fates_67 (lv_at hl 5 rfl) ?_
      refine lv_imul hx hb dX2_fates_69 ?_
      refine lv_lushr hx hb dX2_fates_70 rfl ?_
      refine lv_l2i hx hb dX2_fates_71 rfl ?_
      refine lv_iconst (v := 3) hx hb dX2_fates_72 (by decide) ?_
      refine lv_iand hx hb dX2_fates_73 ?_
      refine g_callv (va_runVN (C := RX1) (As := [.int ((((x2.toUInt64 >>> ((2 * x6).toInt64.toUInt64 &&& Int64.toUInt64 63)).toInt64).toInt32) &&& 3)]) (rest := []) ⟨hx, hb, hml, hown, hts⟩ (m_X1_addFate hl9 D K sa ad _ _ x5 ((((x2.toUInt64 >>> ((2 * x6).toInt64.toUInt64 &&& Int64.toUInt64 63)).toInt64).toInt32) &&& 3) g hw) ⟨va_cnB 1 hts (gGood gCons (gCode q_285)) rfl rfl rfl (hE.2.2.1 ("WireBench", 90, yX1_addFate, "WireBench") (by decide +kernel)) (hq _ q_22) (by decide +kernel) ⟨Nat.le_of_ble_eq_true rfl, Nat.le_of_ble_eq_true rfl⟩, hq _ q_284, hq _ q_4⟩ ⟨gPc_blind, g_recv hK hG (gok_N hx5) (gc_N hx5) rfl, gPc_at hE hG hA⟩ rfl rfl hl.1 rfl (lv_room (Nat.le_of_ble_eq_true rfl)) dX2_fates_74 ⟨Nat.le_of_ble_eq_true rfl, Nat.le_of_ble_eq_true rfl⟩) hG hA (fun g_8 H locs hw hG => ?_)
      try dsimp only at hw
      obtain ⟨x_9, ex_9⟩ : ∃ y : Int32, y = x6 + 1 := ⟨_, rfl⟩
      have hw := hw x_9 ex_9
      refine lv_iinc (v := x_9) (lv' := [(6, .int x_9), (0, .ref (ad 0)), (1, .int x1), (2, .long x2), (4, .int x4), (5, .ref (ad (100 + x5)))]) hx hb dX2_fates_77 hl (k := 5) rfl (by rw [ex_9]; rfl) (by decide) rfl (fun ls hl => ?_)
      refine lv_goto (tgt := 56) hx hb dX2_fates_80 (by decide) ?_
      exact ih x1 x2 x4 x5 x_9 g_8 hw _ _ _ hG (lv_sub hl [1, 2, 3, 4, 5, 0] rfl)
def wp_X2_fates (post : Int32 → gS → Prop) (px : String × gS → Prop) (p1 : Int32) (p2 : Int64) (p3 : Int32) (g : gS) : Prop := wp_X2_netNumbered (fun u_ => ∃ (k_2 : Nat) (g_1 : gS), u_ = (100 + k_2, g_1) ∧ (k_2 < 24 ∧ (((p3 < 1) → (px ("java/lang/IllegalArgumentException", g_1))) ∧ ((¬ p3 < 1) → (((p3 ≤ 32) → (((((g_1.1 25 k_2) + p3) ≤ 64) → (∃ n, wpl_X2_fates_56 post px n p1 p2 p3 k_2 0 g_1)) ∧ ((¬ ((g_1.1 25 k_2) + p3) ≤ 64) → (px ("java/lang/IllegalStateException", g_1))))) ∧ ((¬ p3 ≤ 32) → (px ("java/lang/IllegalArgumentException", g_1)))))))) px p1 g
set_option maxHeartbeats 4000000 in
set_option maxRecDepth 100000 in
theorem m_X2_fates {l : Launch} (hl9 : l.stackTraces = false) (D : va_G) (K : Nat → ClassId) (sa ad : Nat → Nat) (sz : Nat) (post : Int32 → gS → Prop) (px : String × gS → Prop) (p1 : Int32) (p2 : Int64) (p3 : Int32) (g : gS) (hw : wp_X2_fates post px p1 p2 p3 g) : vx_Met l yX2_fates wsX2_fates ({ frames := 7, cells := 2, slots := 12, locals := 112 } : Room) (gPc D K sa ad sz g [.ref (ad 0), .int p1, .long p2, .int p3]) (va_Qi post (gB D K ad (va_A (gw K ad g) sz)) (va_A (gw K ad g) sz)) (vx_X px (gBX D K ad (va_A (gw K ad g) sz)) (va_A (gw K ad g) sz)) 2 12 (va_A (gw K ad g) sz) := by
  refine vx_ofW (cc := cX2_fates) (maxL := 7) (ret := (some .int)) (by decide) rfl ?_
  intro p e s m args below meth c s₁ B hml hN hv
  obtain ⟨rfl, hsz, hP, hE, hD0⟩ := hv
  have hx := B.exec
  have hb := B.bytes
  have hr := B.returns
  have hts := atoms_spec (ws := wsX2_fates) B.pre
  have hq : ∀ w ∈ gW, w.before _ s = true := fun w h => hts w (List.mem_cons_of_mem _ h)
  have hown : s.vm.findClass RX2 = some m.cls := findClass_of_methodNamed B.named
  have hlocks := B.notSynchronized
  subst hsz
  have hD := hD0.self (sz := s.heap.size)
  generalize hAe : va_A (gw K ad g) s.heap.size = A at hD hE ⊢
  have hA : ∀ q : Nat, s.heap.size ≤ q → A q := fun q h => by rw [← hAe]; exact Or.inr h
  have hK := hE.1
  have hG : gX D K ad A s.heap g s.heap [] := ⟨hP, hD, va_S.rf⟩
  have hl := lv_entry ([.ref (ad 0), .int p1, .long p2, .int p3]) (n := 7) (Nat.le_of_ble_eq_true rfl)
  rw [lg_entry_eq]
  generalize (lg_sl ([.ref (ad 0), .int p1, .long p2, .int p3]) ++ List.replicate (7 - (lg_sl ([.ref (ad 0), .int p1, .long p2, .int p3])).length) Slot.unset).toArray = ls at hl ⊢
  have hl : lv_has ls 7 [(0, .ref (ad 0)), (1, .int p1), (2, .long p2), (4, .int p3)] := hl
  dsimp only [wp_X2_fates] at hw
  refine lv_aload_n hx hb dX2_fates_0 rfl (lv_at hl 0 rfl) ?_
  refine lv_iload_n hx hb dX2_fates_1 rfl (lv_at hl 1 rfl) ?_
  refine g_xcallr (vx_runV (As := [.int p1]) (rest := []) ⟨hx, hb, hml, hown, hts⟩ (m_X2_netNumbered hl9 D K sa ad _ _ _ p1 g hw) (cwV 1 hts (gGood gCons (gV q_264 q_266 q_2 q_20 q_267)) rfl rfl rfl (by decide +kernel) ⟨Nat.le_of_ble_eq_true rfl, Nat.le_of_ble_eq_true rfl⟩) ⟨gPc_blind, g_recv hK hG (gok_lo (by decide)) (gc_W) rfl, gPc_at hE hG hA⟩ rfl rfl hl.1 rfl (lv_room (Nat.le_of_ble_eq_true rfl)) dX2_fates_2 ⟨Nat.le_of_ble_eq_true rfl, Nat.le_of_ble_eq_true rfl⟩) hG hA (fun E_ ce_ q_ g_1 H locs hw hG h1_ h2_ h3_ => ?_) (fun k_ ga_ H locs hw hG => ?_)
  · exact g_out hN hlocks h1_ h2_ h3_ hw hG (by decide) (by decide)
  try dsimp only at hw
  obtain ⟨k_2, g_1, eu_, hk_3, hw⟩ := hw
  obtain ⟨e1_, e2_⟩ := Prod.mk.inj eu_
  subst e1_
  have e2_ := e2_.symm
  subst e2_
  refine lv_astore (lv' := [(5, .ref (ad (100 + k_2))), (0, .ref (ad 0)), (1, .int p1), (2, .long p2), (4, .int p3)]) hx hb dX2_fates_5 hl (by decide) rfl (fun ls hl => ?_)
  refine lv_iload hx hb dX2_fates_7 (lv_at hl 4 rfl) ?_
  refine lv_iconst (v := 1) hx hb dX2_fates_9 (by decide) ?_
  refine lv_icmp_lt (tgt := 20) hx hb dX2_fates_10 (by decide) (fun c_4 => ?_) (fun c_4 => ?_)
  · have hw := hw.1 c_4
    exact g_throwS (own := RX2) (cls := "java/lang/IllegalArgumentException") (text := "n is not 1 .. 32") (names := ["java/lang/RuntimeException", "java/lang/Exception"]) hx hb hl9 hown (by decide +kernel) (by decide +kernel) (hq _ q_169) (hq _ q_27) hE (by decide +kernel) (hat_IAE_58 hq hE) hgd_IAE_58 (hl.1.trans hml.symm) hN hlocks hw hG dX2_fates_20 dX2_fates_23 dX2_fates_24 dX2_fates_26 dX2_fates_29 (Nat.le_of_ble_eq_true rfl) (Nat.le_of_ble_eq_true rfl) (Nat.le_of_ble_eq_true rfl) (Nat.le_of_ble_eq_true rfl) (by decide) (by decide)
  · have hw := hw.2 c_4
    refine lv_iload hx hb dX2_fates_13 (lv_at hl 4 rfl) ?_
    refine lv_bipush (v := 32) hx hb dX2_fates_15 (by decide) ?_
    refine lv_icmp_le (tgt := 30) hx hb dX2_fates_17 (by decide) (fun c_5 => ?_) (fun c_5 => ?_)
    · have hw := hw.1 c_5
      refine lv_aload hx hb dX2_fates_30 (lv_at hl 0 rfl) ?_
      refine g_getN (own := RX2) (C := RX1) (T := TX1) (N := 7) (ci := 1) hx hb hq hin_X1 hown hK hG (k := 100 + k_2) (gok_N hk_3) (gc_N hk_3) rfl 6 (by decide) (hE.2.1 ("WireBench", 85, "WireBench$Net", "fateCount", "I", "WireBench") (by decide +kernel)) rfl (v := .int (g_1.1 25 k_2)) rfl dX2_fates_32 ?_
      refine lv_iload hx hb dX2_fates_35 (lv_at hl 4 rfl) ?_
      refine lv_iadd hx hb dX2_fates_37 ?_
      refine lv_bipush (v := 64) hx hb dX2_fates_38 (by decide) ?_
      refine lv_icmp_le (tgt := 53) hx hb dX2_fates_40 (by decide) (fun c_6 => ?_) (fun c_6 => ?_)
      · have hw := hw.1 c_6
        refine lv_iconst (v := 0) hx hb dX2_fates_53 (by decide) ?_
        refine lv_istore (lv' := [(6, .int 0), (5, .ref (ad (100 + k_2))), (0, .ref (ad 0)), (1, .int p1), (2, .long p2), (4, .int p3)]) hx hb dX2_fates_54 hl (by decide) rfl (fun ls hl => ?_)
        obtain ⟨n_10, hw⟩ := hw
        exact L_X2_fates_56 post px hl9 hx hb hr hml hown hts hlocks hA hE hN n_10 p1 p2 p3 k_2 0 g_1 hw _ _ _ hG (lv_sub hl [2, 3, 4, 5, 1, 0] rfl)
      · have hw := hw.2 c_6
        exact g_throwS (own := RX2) (cls := "java/lang/IllegalStateException") (text := "the schedule would have more than 64 fates") (names := ["java/lang/RuntimeException", "java/lang/Exception"]) hx hb hl9 hown (by decide +kernel) (by decide +kernel) (hq _ q_237) (hq _ q_28) hE (by decide +kernel) (hat_ISE_67 hq hE) hgd_ISE_67 (hl.1.trans hml.symm) hN hlocks hw hG dX2_fates_43 dX2_fates_46 dX2_fates_47 dX2_fates_49 dX2_fates_52 (Nat.le_of_ble_eq_true rfl) (Nat.le_of_ble_eq_true rfl) (Nat.le_of_ble_eq_true rfl) (Nat.le_of_ble_eq_true rfl) (by decide) (by decide)
    · have hw := hw.2 c_5
      exact g_throwS (own := RX2) (cls := "java/lang/IllegalArgumentException") (text := "n is not 1 .. 32") (names := ["java/lang/RuntimeException", "java/lang/Exception"]) hx hb hl9 hown (by decide +kernel) (by decide +kernel) (hq _ q_169) (hq _ q_27) hE (by decide +kernel) (hat_IAE_58 hq hE) hgd_IAE_58 (hl.1.trans hml.symm) hN hlocks hw hG dX2_fates_20 dX2_fates_23 dX2_fates_24 dX2_fates_26 dX2_fates_29 (Nat.le_of_ble_eq_true rfl) (Nat.le_of_ble_eq_true rfl) (Nat.le_of_ble_eq_true rfl) (Nat.le_of_ble_eq_true rfl) (by decide) (by decide)

def wpl_X2_feed_48 (post : Int32 → gS → Prop) (px : String × gS → Prop) : Nat → Int64 → Int32 → Int32 → gS → Prop
  | 0 => fun _ _ _ _ => False
  | n + 1 => fun x1 x3 x4 g => ((x4 < 0) → (post (g.1 0 5) g)) ∧ ((¬ x4 < 0) → (wp_X2_ringPlace (fun r_7 g_6 => (∀ x_8 : Int32, x_8 = (((x1.toUInt64 >>> ((8 * x4).toInt64.toUInt64 &&& Int64.toUInt64 63)).toInt64).toInt32).toInt8.toInt32 → (vp_in r_7 4096 ∧ (∀ g_10 : gS, g_10 = gi g_6 3 r_7.toNatClampNeg (vp_nar .byte x_8) → (∀ x_11 : Int32, x_11 = (g_10.1 0 5) + 1 → (∀ g_12 : gS, g_12 = gi g_10 0 5 x_11 → (∀ x_13 : Int32, x_13 = x4 + (-1) → (wpl_X2_feed_48 post px n x1 x3 x_13 g_12)))))))) ((g.1 0 4) + (g.1 0 5)) g))
set_option maxHeartbeats 4000000 in
set_option maxRecDepth 100000 in
theorem L_X2_feed_48 {p : Program} {l : Launch} {e : Env} {s : State} {m : MethodId} {args : Array Value} {below : List Frame} {meth : Method} {c : Code} {D : va_G} {K : Nat → ClassId} {sa ad : Nat → Nat} {A : Nat → Prop} (post : Int32 → gS → Prop) (px : String × gS → Prop) (hl9 : l.stackTraces = false) (hx : p.tables.exec = Jvm.exec) (hb : c.code = cX2_feed) (hr : meth.sig.returnType = (some .int)) (hml : c.maxLocals = 5) (hown : s.vm.findClass RX2 = some m.cls) (hts : ∀ w ∈ wsX2_feed, w.before args s = true) (hlocks : meth.locks = false) (hA : ∀ q, s.heap.size ≤ q → A q) (hE : gE D K sa A s s.heap) (hN : ∀ x ∈ c.exceptionTable.toList, False) : ∀ (n : Nat) (x1 : Int64) (x3 : Int32) (x4 : Int32) (g : gS), wpl_X2_feed_48 post px n x1 x3 x4 g → ∀ (H : Heap) (locs : List Loc) (ls : Array Slot), gX D K ad A s.heap g H locs → lv_has ls 5 [(0, .ref (ad 0)), (1, .long x1), (3, .int x3), (4, .int x4)] → W p l e ({ frames := 6, cells := 1, slots := 6, locals := 91 } : Room) s m args below meth c H locs 0 0 (vx_MQ below (va_Qi post (gB D K ad A) A) (vx_X px (gBX D K ad A) A) args s 1 6 A) (F0 m 48 ls []) := by
  have hK := hE.1
  have hq : ∀ w ∈ gW, w.before args s = true := fun w h => hts w (List.mem_cons_of_mem _ h)
  intro n
  induction n with
  | zero =>
    intro x1 x3 x4 g hw
    exact hw.elim
  | succ n ih =>
    intro x1 x3 x4 g hw H locs ls hG hl
    dsimp only [wpl_X2_feed_48] at hw
    refine lv_iload hx hb dX2_feed_48 (lv_at hl 3 rfl) ?_
    refine lv_if_lt (tgt := 95) hx hb dX2_feed_50 (by decide) (fun c_5 => ?_) (fun c_5 => ?_)
    · have hw := hw.1 c_5
      refine lv_aload_n hx hb dX2_feed_95 rfl (lv_at hl 0 rfl) ?_
      refine g_get (own := RX2) (C := RX2) (T := TX2) (N := 11) (ci := 2) hx hb hq hin_X2 hown hK hG (k := 0) (gok_lo (by decide)) (gc_W) rfl 10 (by decide) (hq _ q_128) rfl (v := .int (g.1 0 5)) rfl dX2_feed_96 ?_
      exact vx_ret (g_iret hx hb hr hlocks hw hG (by decide) (by decide) dX2_feed_99)
    · have hw := hw.2 c_5
      refine lv_aload_n hx hb dX2_feed_53 rfl (lv_at hl 0 rfl) ?_
      refine g_get (own := RX2) (C := RX2) (T := TX2) (N := 11) (ci := 2) hx hb hq hin_X2 hown hK hG (k := 0) (gok_lo (by decide)) (gc_W) rfl 8 (by decide) (hq _ q_126) rfl (v := .ref (ad 3)) rfl dX2_feed_54 ?_
      refine lv_aload_n hx hb dX2_feed_57 rfl (lv_at hl 0 rfl) ?_
      refine g_get (own := RX2) (C := RX2) (T := TX2) (N := 11) (ci := 2) hx hb hq hin_X2 hown hK hG (k := 0) (gok_lo (by decide)) (gc_W) rfl 9 (by decide) (hq _ q_127) rfl (v := .int (g.1 0 4)) rfl dX2_feed_58 ?_
      refine lv_aload_n hx hb dX2_feed_61 rfl (lv_at hl 0 rfl) ?_
      refine g_get (own := RX2) (C := RX2) (T := TX2) (N := 11) (ci := 2) hx hb hq hin_X2 hown hK hG (k := 0) (gok_lo (by decide)) (gc_W) rfl 10 (by decide) (hq _ q_128) rfl (v := .int (g.1 0 5)) rfl dX2_feed_62 ?_
      refine lv_iadd hx hb dX2_feed_65 ?_
      refine g_calli (va_runS (As := [.int ((g.1 0 4) + (g.1 0 5))]) (rest := [.ref (ad 3)]) ⟨hx, hb, hml, hown, hts⟩ (m_X2_ringPlace hl9 D K sa ad _ _ ((g.1 0 4) + (g.1 0 5)) g hw) (cwS 1 hts (gGood gCons (gSt q_295 q_296 q_20 q_297)) rfl rfl rfl (by decide +kernel) ⟨Nat.le_of_ble_eq_true rfl, Nat.le_of_ble_eq_true rfl⟩) ⟨gPc_blind, gPc_at hE hG hA⟩ rfl rfl hl.1 rfl (lv_room (Nat.le_of_ble_eq_true rfl)) dX2_feed_66 ⟨Nat.le_of_ble_eq_true rfl, Nat.le_of_ble_eq_true rfl⟩) hG hA (fun r_7 g_6 H locs hw hG => ?_)
      try dsimp only at hw
      refine lv_lload_n hx hb dX2_feed_69 rfl (lv_at hl 1 rfl) ?_
      refine lv_bipush (v := 8) hx hb dX2_feed_70 (by decide) ?_
      refine lv_iload hx hb dX2_feed_72 (lv_at hl 3 rfl) ?_
      refine lv_imul hx hb dX2_feed_74 ?_
      refine lv_lushr hx hb dX2_feed_75 rfl ?_
      refine lv_l2i hx hb dX2_feed_76 rfl ?_
      refine lv_i2b hx hb dX2_feed_77 rfl ?_
      refine lv_topi (fun x_8 ex_8 => ?_)
      have hw := hw x_8 ex_8
      obtain ⟨hi_9, hw⟩ := hw
      refine g_bast hx hb hK hG (k := 3) (gok_lo (by decide)) (fun g => gc_3) (x := x_8) hi_9 (gho_lo (by decide)) dX2_feed_78 (fun H locs hG => ?_)
      obtain ⟨g_10, eg_10⟩ : ∃ z, z = gi g_6 3 r_7.toNatClampNeg (vp_nar .byte x_8) := ⟨_, rfl⟩
      rw [← eg_10] at hG
      have hw := hw g_10 eg_10
      refine lv_aload_n hx hb dX2_feed_79 rfl (lv_at hl 0 rfl) ?_
      refine lv_dup hx hb dX2_feed_80 rfl ?_
      refine g_get (own := RX2) (C := RX2) (T := TX2) (N := 11) (ci := 2) hx hb hq hin_X2 hown hK hG (k := 0) (gok_lo (by decide)) (gc_W) rfl 10 (by decide) (hq _ q_128) rfl (v := .int (g_10.1 0 5)) rfl dX2_feed_81 ?_
      refine lv_iconst (v := 1) hx hb dX2_feed_84 (by decide) ?_
      refine lv_iadd hx hb dX2_feed_85 ?_
      refine lv_topi (fun x_11 ex_11 => ?_)
      have hw := hw x_11 ex_11
      refine g_put (own := RX2) (C := RX2) (T := TX2) (N := 11) (ci := 2) hx hb hq hin_X2 tyX2 tyX2_ok nmX2 hown hK hG (k := 0) (gok_lo (by decide)) (gc_W) rfl 10 (by decide) (hq _ q_128) rfl rfl (ty := .int) (v := .int x_11) (by decide +kernel) rfl rfl (Nat.le_of_ble_eq_true rfl) (gi g_10 0 5 x_11) (gs_W5) (gho_lo (by decide)) dX2_feed_86 (fun H locs hG => ?_)
      obtain ⟨g_12, eg_12⟩ : ∃ z, z = gi g_10 0 5 x_11 := ⟨_, rfl⟩
      rw [← eg_12] at hG
      have hw := hw g_12 eg_12
      obtain ⟨x_13, ex_13⟩ : ∃ y : Int32, y = x4 + (-1) := ⟨_, rfl⟩
      have hw := hw x_13 ex_13
      refine lv_iinc (v := x_13) (lv' := [(4, .int x_13), (0, .ref (ad 0)), (1, .long x1), (3, .int x3)]) hx hb dX2_feed_89 hl (k := 3) rfl (by rw [ex_13]; rfl) (by decide) rfl (fun ls hl => ?_)
      refine lv_goto (tgt := 48) hx hb dX2_feed_92 (by decide) ?_
      exact ih x1 x3 x_13 g_12 hw _ _ _ hG (lv_sub hl [1, 2, 3, 0] rfl)
def wp_X2_feed (post : Int32 → gS → Prop) (px : String × gS → Prop) (p1 : Int64) (p2 : Int32) (g : gS) : Prop := ((p2 < 1) → (px ("java/lang/IllegalArgumentException", g))) ∧ ((¬ p2 < 1) → (((p2 ≤ 8) → (((((g.1 0 5) + p2) ≤ 1480) → (∀ x_4 : Int32, x_4 = p2 - 1 → (∃ n, wpl_X2_feed_48 post px n p1 p2 x_4 g))) ∧ ((¬ ((g.1 0 5) + p2) ≤ 1480) → (px ("java/lang/IllegalStateException", g))))) ∧ ((¬ p2 ≤ 8) → (px ("java/lang/IllegalArgumentException", g)))))
set_option maxHeartbeats 4000000 in
set_option maxRecDepth 100000 in
theorem m_X2_feed {l : Launch} (hl9 : l.stackTraces = false) (D : va_G) (K : Nat → ClassId) (sa ad : Nat → Nat) (sz : Nat) (post : Int32 → gS → Prop) (px : String × gS → Prop) (p1 : Int64) (p2 : Int32) (g : gS) (hw : wp_X2_feed post px p1 p2 g) : vx_Met l yX2_feed wsX2_feed ({ frames := 6, cells := 1, slots := 6, locals := 91 } : Room) (gPc D K sa ad sz g [.ref (ad 0), .long p1, .int p2]) (va_Qi post (gB D K ad (va_A (gw K ad g) sz)) (va_A (gw K ad g) sz)) (vx_X px (gBX D K ad (va_A (gw K ad g) sz)) (va_A (gw K ad g) sz)) 1 6 (va_A (gw K ad g) sz) := by
  refine vx_ofW (cc := cX2_feed) (maxL := 5) (ret := (some .int)) (by decide) rfl ?_
  intro p e s m args below meth c s₁ B hml hN hv
  obtain ⟨rfl, hsz, hP, hE, hD0⟩ := hv
  have hx := B.exec
  have hb := B.bytes
  have hr := B.returns
  have hts := atoms_spec (ws := wsX2_feed) B.pre
  have hq : ∀ w ∈ gW, w.before _ s = true := fun w h => hts w (List.mem_cons_of_mem _ h)
  have hown : s.vm.findClass RX2 = some m.cls := findClass_of_methodNamed B.named
  have hlocks := B.notSynchronized
  subst hsz
  have hD := hD0.self (sz := s.heap.size)
  generalize hAe : va_A (gw K ad g) s.heap.size = A at hD hE ⊢
  have hA : ∀ q : Nat, s.heap.size ≤ q → A q := fun q h => by rw [← hAe]; exact Or.inr h
  have hK := hE.1
  have hG : gX D K ad A s.heap g s.heap [] := ⟨hP, hD, va_S.rf⟩
  have hl := lv_entry ([.ref (ad 0), .long p1, .int p2]) (n := 5) (Nat.le_of_ble_eq_true rfl)
  rw [lg_entry_eq]
  generalize (lg_sl ([.ref (ad 0), .long p1, .int p2]) ++ List.replicate (5 - (lg_sl ([.ref (ad 0), .long p1, .int p2])).length) Slot.unset).toArray = ls at hl ⊢
  have hl : lv_has ls 5 [(0, .ref (ad 0)), (1, .long p1), (3, .int p2)] := hl
  dsimp only [wp_X2_feed] at hw
  refine lv_iload_n hx hb dX2_feed_0 rfl (lv_at hl 2 rfl) ?_
  refine lv_iconst (v := 1) hx hb dX2_feed_1 (by decide) ?_
  refine lv_icmp_lt (tgt := 11) hx hb dX2_feed_2 (by decide) (fun c_1 => ?_) (fun c_1 => ?_)
  · have hw := hw.1 c_1
    exact g_throwS (own := RX2) (cls := "java/lang/IllegalArgumentException") (text := "n is not 1 .. 8") (names := ["java/lang/RuntimeException", "java/lang/Exception"]) hx hb hl9 hown (by decide +kernel) (by decide +kernel) (hq _ q_169) (hq _ q_27) hE (by decide +kernel) (hat_IAE_58 hq hE) hgd_IAE_58 (hl.1.trans hml.symm) hN hlocks hw hG dX2_feed_11 dX2_feed_14 dX2_feed_15 dX2_feed_17 dX2_feed_20 (Nat.le_of_ble_eq_true rfl) (Nat.le_of_ble_eq_true rfl) (Nat.le_of_ble_eq_true rfl) (Nat.le_of_ble_eq_true rfl) (by decide) (by decide)
  · have hw := hw.2 c_1
    refine lv_iload_n hx hb dX2_feed_5 rfl (lv_at hl 2 rfl) ?_
    refine lv_bipush (v := 8) hx hb dX2_feed_6 (by decide) ?_
    refine lv_icmp_le (tgt := 21) hx hb dX2_feed_8 (by decide) (fun c_2 => ?_) (fun c_2 => ?_)
    · have hw := hw.1 c_2
      refine lv_aload_n hx hb dX2_feed_21 rfl (lv_at hl 0 rfl) ?_
      refine g_get (own := RX2) (C := RX2) (T := TX2) (N := 11) (ci := 2) hx hb hq hin_X2 hown hK hG (k := 0) (gok_lo (by decide)) (gc_W) rfl 10 (by decide) (hq _ q_128) rfl (v := .int (g.1 0 5)) rfl dX2_feed_22 ?_
      refine lv_iload_n hx hb dX2_feed_25 rfl (lv_at hl 2 rfl) ?_
      refine lv_iadd hx hb dX2_feed_26 ?_
      refine lv_sipush (v := 1480) hx hb dX2_feed_27 (by decide) ?_
      refine lv_icmp_le (tgt := 43) hx hb dX2_feed_30 (by decide) (fun c_3 => ?_) (fun c_3 => ?_)
      · have hw := hw.1 c_3
        refine lv_iload_n hx hb dX2_feed_43 rfl (lv_at hl 2 rfl) ?_
        refine lv_iconst (v := 1) hx hb dX2_feed_44 (by decide) ?_
        refine lv_isub hx hb dX2_feed_45 ?_
        refine lv_topi (fun x_4 ex_4 => ?_)
        have hw := hw x_4 ex_4
        refine lv_istore (lv' := [(4, .int x_4), (0, .ref (ad 0)), (1, .long p1), (3, .int p2)]) hx hb dX2_feed_46 hl (by decide) rfl (fun ls hl => ?_)
        obtain ⟨n_14, hw⟩ := hw
        exact L_X2_feed_48 post px hl9 hx hb hr hml hown hts hlocks hA hE hN n_14 p1 p2 x_4 g hw _ _ _ hG (lv_sub hl [1, 2, 3, 0] rfl)
      · have hw := hw.2 c_3
        exact g_throwS (own := RX2) (cls := "java/lang/IllegalStateException") (text := "the payload would be more than 1480 bytes") (names := ["java/lang/RuntimeException", "java/lang/Exception"]) hx hb hl9 hown (by decide +kernel) (by decide +kernel) (hq _ q_237) (hq _ q_28) hE (by decide +kernel) (hat_ISE_67 hq hE) hgd_ISE_67 (hl.1.trans hml.symm) hN hlocks hw hG dX2_feed_33 dX2_feed_36 dX2_feed_37 dX2_feed_39 dX2_feed_42 (Nat.le_of_ble_eq_true rfl) (Nat.le_of_ble_eq_true rfl) (Nat.le_of_ble_eq_true rfl) (Nat.le_of_ble_eq_true rfl) (by decide) (by decide)
    · have hw := hw.2 c_2
      exact g_throwS (own := RX2) (cls := "java/lang/IllegalArgumentException") (text := "n is not 1 .. 8") (names := ["java/lang/RuntimeException", "java/lang/Exception"]) hx hb hl9 hown (by decide +kernel) (by decide +kernel) (hq _ q_169) (hq _ q_27) hE (by decide +kernel) (hat_IAE_58 hq hE) hgd_IAE_58 (hl.1.trans hml.symm) hN hlocks hw hG dX2_feed_11 dX2_feed_14 dX2_feed_15 dX2_feed_17 dX2_feed_20 (Nat.le_of_ble_eq_true rfl) (Nat.le_of_ble_eq_true rfl) (Nat.le_of_ble_eq_true rfl) (Nat.le_of_ble_eq_true rfl) (by decide) (by decide)

def wp_X2_put (post : Int32 → gS → Prop) (px : String × gS → Prop) (p1 : Int32) (p2 : Int32) (p3 : Int32) (p4 : Int32) (g : gS) : Prop := wp_X2_netNumbered (fun u_ => ∃ (k_2 : Nat) (g_1 : gS), u_ = (100 + k_2, g_1) ∧ (k_2 < 24 ∧ (wp_X2_isStation (fun r_5 g_4 => (((¬ r_5 = 0) → (((p3 = (-1)) → (((¬ p3 = p2) → (∀ g_9 : gS, g_9 = gi g_4 31 513 p1 → (∀ g_10 : gS, g_10 = gi g_9 32 513 p2 → (∀ g_11 : gS, g_11 = gi g_10 33 513 p3 → (∀ g_12 : gS, g_12 = gi g_11 34 513 p4 → (∀ x_13 : Int32, x_13 = g_12.1 0 5 → (∀ g_14 : gS, g_14 = gi g_12 36 513 x_13 → (wp_X2_sendPayload (fun r_16 g_15 => (wp_X2_ringPlace (fun r_18 g_17 => (∀ g_19 : gS, g_19 = gi g_17 0 4 r_18 → (∀ g_20 : gS, g_20 = gi g_19 0 5 (0 : Int32) → (post r_16 g_20)))) ((g_15.1 0 4) + (g_15.1 0 5)) g_15)) k_2 g_14)))))))) ∧ ((p3 = p2) → (px ("java/lang/IllegalArgumentException", g_4))))) ∧ ((¬ p3 = (-1)) → (wp_X2_isStation (fun r_22 g_21 => (((¬ r_22 = 0) → (((¬ p3 = p2) → (∀ g_25 : gS, g_25 = gi g_21 31 513 p1 → (∀ g_26 : gS, g_26 = gi g_25 32 513 p2 → (∀ g_27 : gS, g_27 = gi g_26 33 513 p3 → (∀ g_28 : gS, g_28 = gi g_27 34 513 p4 → (∀ x_29 : Int32, x_29 = g_28.1 0 5 → (∀ g_30 : gS, g_30 = gi g_28 36 513 x_29 → (wp_X2_sendPayload (fun r_32 g_31 => (wp_X2_ringPlace (fun r_34 g_33 => (∀ g_35 : gS, g_35 = gi g_33 0 4 r_34 → (∀ g_36 : gS, g_36 = gi g_35 0 5 (0 : Int32) → (post r_32 g_36)))) ((g_31.1 0 4) + (g_31.1 0 5)) g_31)) k_2 g_30)))))))) ∧ ((p3 = p2) → (px ("java/lang/IllegalArgumentException", g_21))))) ∧ ((r_22 = 0) → (px ("java/lang/IllegalArgumentException", g_21))))) p3 g_4)))) ∧ ((r_5 = 0) → (px ("java/lang/IllegalArgumentException", g_4))))) p2 g_1))) px p1 g
set_option maxHeartbeats 4000000 in
set_option maxRecDepth 100000 in
theorem m_X2_put {l : Launch} (hl9 : l.stackTraces = false) (D : va_G) (K : Nat → ClassId) (sa ad : Nat → Nat) (sz : Nat) (post : Int32 → gS → Prop) (px : String × gS → Prop) (p1 : Int32) (p2 : Int32) (p3 : Int32) (p4 : Int32) (g : gS) (hw : wp_X2_put post px p1 p2 p3 p4 g) : vx_Met l yX2_put wsX2_put ({ frames := 7, cells := 2, slots := 12, locals := 115 } : Room) (gPc D K sa ad sz g [.ref (ad 0), .int p1, .int p2, .int p3, .int p4]) (va_Qi post (gB D K ad (va_A (gw K ad g) sz)) (va_A (gw K ad g) sz)) (vx_X px (gBX D K ad (va_A (gw K ad g) sz)) (va_A (gw K ad g) sz)) 2 12 (va_A (gw K ad g) sz) := by
  refine vx_ofW (cc := cX2_put) (maxL := 7) (ret := (some .int)) (by decide) rfl ?_
  intro p e s m args below meth c s₁ B hml hN hv
  obtain ⟨rfl, hsz, hP, hE, hD0⟩ := hv
  have hx := B.exec
  have hb := B.bytes
  have hr := B.returns
  have hts := atoms_spec (ws := wsX2_put) B.pre
  have hq : ∀ w ∈ gW, w.before _ s = true := fun w h => hts w (List.mem_cons_of_mem _ h)
  have hown : s.vm.findClass RX2 = some m.cls := findClass_of_methodNamed B.named
  have hlocks := B.notSynchronized
  subst hsz
  have hD := hD0.self (sz := s.heap.size)
  generalize hAe : va_A (gw K ad g) s.heap.size = A at hD hE ⊢
  have hA : ∀ q : Nat, s.heap.size ≤ q → A q := fun q h => by rw [← hAe]; exact Or.inr h
  have hK := hE.1
  have hG : gX D K ad A s.heap g s.heap [] := ⟨hP, hD, va_S.rf⟩
  have hl := lv_entry ([.ref (ad 0), .int p1, .int p2, .int p3, .int p4]) (n := 7) (Nat.le_of_ble_eq_true rfl)
  rw [lg_entry_eq]
  generalize (lg_sl ([.ref (ad 0), .int p1, .int p2, .int p3, .int p4]) ++ List.replicate (7 - (lg_sl ([.ref (ad 0), .int p1, .int p2, .int p3, .int p4])).length) Slot.unset).toArray = ls at hl ⊢
  have hl : lv_has ls 7 [(0, .ref (ad 0)), (1, .int p1), (2, .int p2), (3, .int p3), (4, .int p4)] := hl
  dsimp only [wp_X2_put] at hw
  refine lv_aload_n hx hb dX2_put_0 rfl (lv_at hl 0 rfl) ?_
  refine lv_iload_n hx hb dX2_put_1 rfl (lv_at hl 1 rfl) ?_
  refine g_xcallr (vx_runV (As := [.int p1]) (rest := []) ⟨hx, hb, hml, hown, hts⟩ (m_X2_netNumbered hl9 D K sa ad _ _ _ p1 g hw) (cwV 1 hts (gGood gCons (gV q_264 q_266 q_2 q_20 q_267)) rfl rfl rfl (by decide +kernel) ⟨Nat.le_of_ble_eq_true rfl, Nat.le_of_ble_eq_true rfl⟩) ⟨gPc_blind, g_recv hK hG (gok_lo (by decide)) (gc_W) rfl, gPc_at hE hG hA⟩ rfl rfl hl.1 rfl (lv_room (Nat.le_of_ble_eq_true rfl)) dX2_put_2 ⟨Nat.le_of_ble_eq_true rfl, Nat.le_of_ble_eq_true rfl⟩) hG hA (fun E_ ce_ q_ g_1 H locs hw hG h1_ h2_ h3_ => ?_) (fun k_ ga_ H locs hw hG => ?_)
  · exact g_out hN hlocks h1_ h2_ h3_ hw hG (by decide) (by decide)
  try dsimp only at hw
  obtain ⟨k_2, g_1, eu_, hk_3, hw⟩ := hw
  obtain ⟨e1_, e2_⟩ := Prod.mk.inj eu_
  subst e1_
  have e2_ := e2_.symm
  subst e2_
  refine lv_astore (lv' := [(5, .ref (ad (100 + k_2))), (0, .ref (ad 0)), (1, .int p1), (2, .int p2), (3, .int p3), (4, .int p4)]) hx hb dX2_put_5 hl (by decide) rfl (fun ls hl => ?_)
  refine lv_iload_n hx hb dX2_put_7 rfl (lv_at hl 3 rfl) ?_
  refine g_calli (va_runS (As := [.int p2]) (rest := []) ⟨hx, hb, hml, hown, hts⟩ (m_X2_isStation hl9 D K sa ad _ _ p2 g_1 hw) (cwS 1 hts (gGood gCons (gSt q_305 q_306 q_20 q_307)) rfl rfl rfl (by decide +kernel) ⟨Nat.le_of_ble_eq_true rfl, Nat.le_of_ble_eq_true rfl⟩) ⟨gPc_blind, gPc_at hE hG hA⟩ rfl rfl hl.1 rfl (lv_room (Nat.le_of_ble_eq_true rfl)) dX2_put_8 ⟨Nat.le_of_ble_eq_true rfl, Nat.le_of_ble_eq_true rfl⟩) hG hA (fun r_5 g_4 H locs hw hG => ?_)
  try dsimp only at hw
  refine lv_if_ne (tgt := 24) hx hb dX2_put_11 (by decide) (fun c_6 => ?_) (fun c_6 => ?_)
  · have hw := hw.1 c_6
    refine lv_iload_n hx hb dX2_put_24 rfl (lv_at hl 4 rfl) ?_
    refine lv_iconst (v := (-1)) hx hb dX2_put_25 (by decide) ?_
    refine lv_icmp_eq (tgt := 46) hx hb dX2_put_26 (by decide) (fun c_7 => ?_) (fun c_7 => ?_)
    · have hw := hw.1 c_7
      refine lv_iload_n hx hb dX2_put_46 rfl (lv_at hl 4 rfl) ?_
      refine lv_iload_n hx hb dX2_put_47 rfl (lv_at hl 3 rfl) ?_
      refine lv_icmp_ne (tgt := 61) hx hb dX2_put_48 (by decide) (fun c_8 => ?_) (fun c_8 => ?_)
      · have hw := hw.1 c_8
        refine lv_aload_n hx hb dX2_put_61 rfl (lv_at hl 1 rfl) ?_
        refine g_get (own := RX2) (C := RX2) (T := TX2) (N := 11) (ci := 2) hx hb hq hin_X2 hown hK hG (k := 0) (gok_lo (by decide)) (gc_W) rfl 7 (by decide) (hq _ q_125) rfl (v := .ref (ad 1513)) rfl dX2_put_62 ?_
        refine lv_iload_n hx hb dX2_put_65 rfl (lv_at hl 2 rfl) ?_
        refine g_putN (own := RX2) (C := RX0) (T := TX0) (N := 9) (ci := 0) hx hb hq hin_X0 tyX0 tyX0_ok nmX0 hown hK hG (k := 1000 + 513) (gok_A (by decide)) (gc_A) rfl 1 (by decide) (hE.2.1 ("WireBench", 111, "WireBench$Arrival", "net", "I", "WireBench") (by decide +kernel)) rfl rfl (ty := .int) (v := .int p1) (by decide +kernel) rfl rfl (Nat.le_of_ble_eq_true rfl) (gi g_4 31 513 p1) (gs_A31) (gho_A ⟨by decide, by decide⟩) dX2_put_66 (fun H locs hG => ?_)
        obtain ⟨g_9, eg_9⟩ : ∃ z, z = gi g_4 31 513 p1 := ⟨_, rfl⟩
        rw [← eg_9] at hG
        have hw := hw g_9 eg_9
        refine lv_aload_n hx hb dX2_put_69 rfl (lv_at hl 1 rfl) ?_
        refine g_get (own := RX2) (C := RX2) (T := TX2) (N := 11) (ci := 2) hx hb hq hin_X2 hown hK hG (k := 0) (gok_lo (by decide)) (gc_W) rfl 7 (by decide) (hq _ q_125) rfl (v := .ref (ad 1513)) rfl dX2_put_70 ?_
        refine lv_iload_n hx hb dX2_put_73 rfl (lv_at hl 3 rfl) ?_
        refine g_putN (own := RX2) (C := RX0) (T := TX0) (N := 9) (ci := 0) hx hb hq hin_X0 tyX0 tyX0_ok nmX0 hown hK hG (k := 1000 + 513) (gok_A (by decide)) (gc_A) rfl 2 (by decide) (hE.2.1 ("WireBench", 114, "WireBench$Arrival", "station", "I", "WireBench") (by decide +kernel)) rfl rfl (ty := .int) (v := .int p2) (by decide +kernel) rfl rfl (Nat.le_of_ble_eq_true rfl) (gi g_9 32 513 p2) (gs_A32) (gho_A ⟨by decide, by decide⟩) dX2_put_74 (fun H locs hG => ?_)
        obtain ⟨g_10, eg_10⟩ : ∃ z, z = gi g_9 32 513 p2 := ⟨_, rfl⟩
        rw [← eg_10] at hG
        have hw := hw g_10 eg_10
        refine lv_aload_n hx hb dX2_put_77 rfl (lv_at hl 1 rfl) ?_
        refine g_get (own := RX2) (C := RX2) (T := TX2) (N := 11) (ci := 2) hx hb hq hin_X2 hown hK hG (k := 0) (gok_lo (by decide)) (gc_W) rfl 7 (by decide) (hq _ q_125) rfl (v := .ref (ad 1513)) rfl dX2_put_78 ?_
        refine lv_iload_n hx hb dX2_put_81 rfl (lv_at hl 4 rfl) ?_
        refine g_putN (own := RX2) (C := RX0) (T := TX0) (N := 9) (ci := 0) hx hb hq hin_X0 tyX0 tyX0_ok nmX0 hown hK hG (k := 1000 + 513) (gok_A (by decide)) (gc_A) rfl 3 (by decide) (hE.2.1 ("WireBench", 117, "WireBench$Arrival", "goal", "I", "WireBench") (by decide +kernel)) rfl rfl (ty := .int) (v := .int p3) (by decide +kernel) rfl rfl (Nat.le_of_ble_eq_true rfl) (gi g_10 33 513 p3) (gs_A33) (gho_A ⟨by decide, by decide⟩) dX2_put_82 (fun H locs hG => ?_)
        obtain ⟨g_11, eg_11⟩ : ∃ z, z = gi g_10 33 513 p3 := ⟨_, rfl⟩
        rw [← eg_11] at hG
        have hw := hw g_11 eg_11
        refine lv_aload_n hx hb dX2_put_85 rfl (lv_at hl 1 rfl) ?_
        refine g_get (own := RX2) (C := RX2) (T := TX2) (N := 11) (ci := 2) hx hb hq hin_X2 hown hK hG (k := 0) (gok_lo (by decide)) (gc_W) rfl 7 (by decide) (hq _ q_125) rfl (v := .ref (ad 1513)) rfl dX2_put_86 ?_
        refine lv_iload hx hb dX2_put_89 (lv_at hl 5 rfl) ?_
        refine g_putN (own := RX2) (C := RX0) (T := TX0) (N := 9) (ci := 0) hx hb hq hin_X0 tyX0 tyX0_ok nmX0 hown hK hG (k := 1000 + 513) (gok_A (by decide)) (gc_A) rfl 4 (by decide) (hE.2.1 ("WireBench", 120, "WireBench$Arrival", "number", "I", "WireBench") (by decide +kernel)) rfl rfl (ty := .int) (v := .int p4) (by decide +kernel) rfl rfl (Nat.le_of_ble_eq_true rfl) (gi g_11 34 513 p4) (gs_A34) (gho_A ⟨by decide, by decide⟩) dX2_put_91 (fun H locs hG => ?_)
        obtain ⟨g_12, eg_12⟩ : ∃ z, z = gi g_11 34 513 p4 := ⟨_, rfl⟩
        rw [← eg_12] at hG
        have hw := hw g_12 eg_12
        refine lv_aload_n hx hb dX2_put_94 rfl (lv_at hl 1 rfl) ?_
        refine g_get (own := RX2) (C := RX2) (T := TX2) (N := 11) (ci := 2) hx hb hq hin_X2 hown hK hG (k := 0) (gok_lo (by decide)) (gc_W) rfl 7 (by decide) (hq _ q_125) rfl (v := .ref (ad 1513)) rfl dX2_put_95 ?_
        refine lv_aload_n hx hb dX2_put_98 rfl (lv_at hl 1 rfl) ?_
        refine g_get (own := RX2) (C := RX2) (T := TX2) (N := 11) (ci := 2) hx hb hq hin_X2 hown hK hG (k := 0) (gok_lo (by decide)) (gc_W) rfl 10 (by decide) (hq _ q_128) rfl (v := .int (g_12.1 0 5)) rfl dX2_put_99 ?_
        refine lv_topi (fun x_13 ex_13 => ?_)
        have hw := hw x_13 ex_13
        refine g_putN (own := RX2) (C := RX0) (T := TX0) (N := 9) (ci := 0) hx hb hq hin_X0 tyX0 tyX0_ok nmX0 hown hK hG (k := 1000 + 513) (gok_A (by decide)) (gc_A) rfl 6 (by decide) (hE.2.1 ("WireBench", 123, "WireBench$Arrival", "whole", "I", "WireBench") (by decide +kernel)) rfl rfl (ty := .int) (v := .int x_13) (by decide +kernel) rfl rfl (Nat.le_of_ble_eq_true rfl) (gi g_12 36 513 x_13) (gs_A36) (gho_A ⟨by decide, by decide⟩) dX2_put_102 (fun H locs hG => ?_)
        obtain ⟨g_14, eg_14⟩ : ∃ z, z = gi g_12 36 513 x_13 := ⟨_, rfl⟩
        rw [← eg_14] at hG
        have hw := hw g_14 eg_14
        refine lv_aload_n hx hb dX2_put_105 rfl (lv_at hl 1 rfl) ?_
        refine lv_aload hx hb dX2_put_106 (lv_at hl 0 rfl) ?_
        refine g_calli (va_runV (As := [.ref (ad (100 + k_2))]) (rest := []) ⟨hx, hb, hml, hown, hts⟩ (m_X2_sendPayload hl9 D K sa ad _ _ k_2 g_14 hw) (cwV 1 hts (gGood gCons (gV q_311 q_313 q_5 q_20 q_314)) rfl rfl rfl (by decide +kernel) ⟨Nat.le_of_ble_eq_true rfl, Nat.le_of_ble_eq_true rfl⟩) ⟨gPc_blind, g_recv hK hG (gok_lo (by decide)) (gc_W) rfl, gPc_at hE hG hA⟩ rfl rfl hl.1 rfl (lv_room (Nat.le_of_ble_eq_true rfl)) dX2_put_108 ⟨Nat.le_of_ble_eq_true rfl, Nat.le_of_ble_eq_true rfl⟩) hG hA (fun r_16 g_15 H locs hw hG => ?_)
        try dsimp only at hw
        refine lv_istore (lv' := [(6, .int r_16), (5, .ref (ad (100 + k_2))), (0, .ref (ad 0)), (1, .int p1), (2, .int p2), (3, .int p3), (4, .int p4)]) hx hb dX2_put_111 hl (by decide) rfl (fun ls hl => ?_)
        refine lv_aload_n hx hb dX2_put_113 rfl (lv_at hl 2 rfl) ?_
        refine lv_aload_n hx hb dX2_put_114 rfl (lv_at hl 2 rfl) ?_
        refine g_get (own := RX2) (C := RX2) (T := TX2) (N := 11) (ci := 2) hx hb hq hin_X2 hown hK hG (k := 0) (gok_lo (by decide)) (gc_W) rfl 9 (by decide) (hq _ q_127) rfl (v := .int (g_15.1 0 4)) rfl dX2_put_115 ?_
        refine lv_aload_n hx hb dX2_put_118 rfl (lv_at hl 2 rfl) ?_
        refine g_get (own := RX2) (C := RX2) (T := TX2) (N := 11) (ci := 2) hx hb hq hin_X2 hown hK hG (k := 0) (gok_lo (by decide)) (gc_W) rfl 10 (by decide) (hq _ q_128) rfl (v := .int (g_15.1 0 5)) rfl dX2_put_119 ?_
        refine lv_iadd hx hb dX2_put_122 ?_
        refine g_calli (va_runS (As := [.int ((g_15.1 0 4) + (g_15.1 0 5))]) (rest := [.ref (ad 0)]) ⟨hx, hb, hml, hown, hts⟩ (m_X2_ringPlace hl9 D K sa ad _ _ ((g_15.1 0 4) + (g_15.1 0 5)) g_15 hw) (cwS 1 hts (gGood gCons (gSt q_295 q_296 q_20 q_297)) rfl rfl rfl (by decide +kernel) ⟨Nat.le_of_ble_eq_true rfl, Nat.le_of_ble_eq_true rfl⟩) ⟨gPc_blind, gPc_at hE hG hA⟩ rfl rfl hl.1 rfl (lv_room (Nat.le_of_ble_eq_true rfl)) dX2_put_123 ⟨Nat.le_of_ble_eq_true rfl, Nat.le_of_ble_eq_true rfl⟩) hG hA (fun r_18 g_17 H locs hw hG => ?_)
        try dsimp only at hw
        refine g_put (own := RX2) (C := RX2) (T := TX2) (N := 11) (ci := 2) hx hb hq hin_X2 tyX2 tyX2_ok nmX2 hown hK hG (k := 0) (gok_lo (by decide)) (gc_W) rfl 9 (by decide) (hq _ q_127) rfl rfl (ty := .int) (v := .int r_18) (by decide +kernel) rfl rfl (Nat.le_of_ble_eq_true rfl) (gi g_17 0 4 r_18) (gs_W4) (gho_lo (by decide)) dX2_put_126 (fun H locs hG => ?_)
        obtain ⟨g_19, eg_19⟩ : ∃ z, z = gi g_17 0 4 r_18 := ⟨_, rfl⟩
        rw [← eg_19] at hG
        have hw := hw g_19 eg_19
        refine lv_aload_n hx hb dX2_put_129 rfl (lv_at hl 2 rfl) ?_
        refine lv_iconst (v := 0) hx hb dX2_put_130 (by decide) ?_
        refine g_put (own := RX2) (C := RX2) (T := TX2) (N := 11) (ci := 2) hx hb hq hin_X2 tyX2 tyX2_ok nmX2 hown hK hG (k := 0) (gok_lo (by decide)) (gc_W) rfl 10 (by decide) (hq _ q_128) rfl rfl (ty := .int) (v := .int 0) (by decide +kernel) rfl rfl (Nat.le_of_ble_eq_true rfl) (gi g_19 0 5 (0 : Int32)) (gs_W5) (gho_lo (by decide)) dX2_put_131 (fun H locs hG => ?_)
        obtain ⟨g_20, eg_20⟩ : ∃ z, z = gi g_19 0 5 (0 : Int32) := ⟨_, rfl⟩
        rw [← eg_20] at hG
        have hw := hw g_20 eg_20
        refine lv_iload hx hb dX2_put_134 (lv_at hl 0 rfl) ?_
        exact vx_ret (g_iret hx hb hr hlocks hw hG (by decide) (by decide) dX2_put_136)
      · have hw := hw.2 c_8
        exact g_throwS (own := RX2) (cls := "java/lang/IllegalArgumentException") (text := "goal is from itself") (names := ["java/lang/RuntimeException", "java/lang/Exception"]) hx hb hl9 hown (by decide +kernel) (by decide +kernel) (hq _ q_169) (hq _ q_27) hE (by decide +kernel) (hat_IAE_58 hq hE) hgd_IAE_58 (hl.1.trans hml.symm) hN hlocks hw hG dX2_put_51 dX2_put_54 dX2_put_55 dX2_put_57 dX2_put_60 (Nat.le_of_ble_eq_true rfl) (Nat.le_of_ble_eq_true rfl) (Nat.le_of_ble_eq_true rfl) (Nat.le_of_ble_eq_true rfl) (by decide) (by decide)
    · have hw := hw.2 c_7
      refine lv_iload_n hx hb dX2_put_29 rfl (lv_at hl 4 rfl) ?_
      refine g_calli (va_runS (As := [.int p3]) (rest := []) ⟨hx, hb, hml, hown, hts⟩ (m_X2_isStation hl9 D K sa ad _ _ p3 g_4 hw) (cwS 1 hts (gGood gCons (gSt q_305 q_306 q_20 q_307)) rfl rfl rfl (by decide +kernel) ⟨Nat.le_of_ble_eq_true rfl, Nat.le_of_ble_eq_true rfl⟩) ⟨gPc_blind, gPc_at hE hG hA⟩ rfl rfl hl.1 rfl (lv_room (Nat.le_of_ble_eq_true rfl)) dX2_put_30 ⟨Nat.le_of_ble_eq_true rfl, Nat.le_of_ble_eq_true rfl⟩) hG hA (fun r_22 g_21 H locs hw hG => ?_)
      try dsimp only at hw
      refine lv_if_ne (tgt := 46) hx hb dX2_put_33 (by decide) (fun c_23 => ?_) (fun c_23 => ?_)
      · have hw := hw.1 c_23
        refine lv_iload_n hx hb dX2_put_46 rfl (lv_at hl 4 rfl) ?_
        refine lv_iload_n hx hb dX2_put_47 rfl (lv_at hl 3 rfl) ?_
        refine lv_icmp_ne (tgt := 61) hx hb dX2_put_48 (by decide) (fun c_24 => ?_) (fun c_24 => ?_)
        · have hw := hw.1 c_24
          refine lv_aload_n hx hb dX2_put_61 rfl (lv_at hl 1 rfl) ?_
          refine g_get (own := RX2) (C := RX2) (T := TX2) (N := 11) (ci := 2) hx hb hq hin_X2 hown hK hG (k := 0) (gok_lo (by decide)) (gc_W) rfl 7 (by decide) (hq _ q_125) rfl (v := .ref (ad 1513)) rfl dX2_put_62 ?_
          refine lv_iload_n hx hb dX2_put_65 rfl (lv_at hl 2 rfl) ?_
          refine g_putN (own := RX2) (C := RX0) (T := TX0) (N := 9) (ci := 0) hx hb hq hin_X0 tyX0 tyX0_ok nmX0 hown hK hG (k := 1000 + 513) (gok_A (by decide)) (gc_A) rfl 1 (by decide) (hE.2.1 ("WireBench", 111, "WireBench$Arrival", "net", "I", "WireBench") (by decide +kernel)) rfl rfl (ty := .int) (v := .int p1) (by decide +kernel) rfl rfl (Nat.le_of_ble_eq_true rfl) (gi g_21 31 513 p1) (gs_A31) (gho_A ⟨by decide, by decide⟩) dX2_put_66 (fun H locs hG => ?_)
          obtain ⟨g_25, eg_25⟩ : ∃ z, z = gi g_21 31 513 p1 := ⟨_, rfl⟩
          rw [← eg_25] at hG
          have hw := hw g_25 eg_25
          refine lv_aload_n hx hb dX2_put_69 rfl (lv_at hl 1 rfl) ?_
          refine g_get (own := RX2) (C := RX2) (T := TX2) (N := 11) (ci := 2) hx hb hq hin_X2 hown hK hG (k := 0) (gok_lo (by decide)) (gc_W) rfl 7 (by decide) (hq _ q_125) rfl (v := .ref (ad 1513)) rfl dX2_put_70 ?_
          refine lv_iload_n hx hb dX2_put_73 rfl (lv_at hl 3 rfl) ?_
          refine g_putN (own := RX2) (C := RX0) (T := TX0) (N := 9) (ci := 0) hx hb hq hin_X0 tyX0 tyX0_ok nmX0 hown hK hG (k := 1000 + 513) (gok_A (by decide)) (gc_A) rfl 2 (by decide) (hE.2.1 ("WireBench", 114, "WireBench$Arrival", "station", "I", "WireBench") (by decide +kernel)) rfl rfl (ty := .int) (v := .int p2) (by decide +kernel) rfl rfl (Nat.le_of_ble_eq_true rfl) (gi g_25 32 513 p2) (gs_A32) (gho_A ⟨by decide, by decide⟩) dX2_put_74 (fun H locs hG => ?_)
          obtain ⟨g_26, eg_26⟩ : ∃ z, z = gi g_25 32 513 p2 := ⟨_, rfl⟩
          rw [← eg_26] at hG
          have hw := hw g_26 eg_26
          refine lv_aload_n hx hb dX2_put_77 rfl (lv_at hl 1 rfl) ?_
          refine g_get (own := RX2) (C := RX2) (T := TX2) (N := 11) (ci := 2) hx hb hq hin_X2 hown hK hG (k := 0) (gok_lo (by decide)) (gc_W) rfl 7 (by decide) (hq _ q_125) rfl (v := .ref (ad 1513)) rfl dX2_put_78 ?_
          refine lv_iload_n hx hb dX2_put_81 rfl (lv_at hl 4 rfl) ?_
          refine g_putN (own := RX2) (C := RX0) (T := TX0) (N := 9) (ci := 0) hx hb hq hin_X0 tyX0 tyX0_ok nmX0 hown hK hG (k := 1000 + 513) (gok_A (by decide)) (gc_A) rfl 3 (by decide) (hE.2.1 ("WireBench", 117, "WireBench$Arrival", "goal", "I", "WireBench") (by decide +kernel)) rfl rfl (ty := .int) (v := .int p3) (by decide +kernel) rfl rfl (Nat.le_of_ble_eq_true rfl) (gi g_26 33 513 p3) (gs_A33) (gho_A ⟨by decide, by decide⟩) dX2_put_82 (fun H locs hG => ?_)
          obtain ⟨g_27, eg_27⟩ : ∃ z, z = gi g_26 33 513 p3 := ⟨_, rfl⟩
          rw [← eg_27] at hG
          have hw := hw g_27 eg_27
          refine lv_aload_n hx hb dX2_put_85 rfl (lv_at hl 1 rfl) ?_
          refine g_get (own := RX2) (C := RX2) (T := TX2) (N := 11) (ci := 2) hx hb hq hin_X2 hown hK hG (k := 0) (gok_lo (by decide)) (gc_W) rfl 7 (by decide) (hq _ q_125) rfl (v := .ref (ad 1513)) rfl dX2_put_86 ?_
          refine lv_iload hx hb dX2_put_89 (lv_at hl 5 rfl) ?_
          refine g_putN (own := RX2) (C := RX0) (T := TX0) (N := 9) (ci := 0) hx hb hq hin_X0 tyX0 tyX0_ok nmX0 hown hK hG (k := 1000 + 513) (gok_A (by decide)) (gc_A) rfl 4 (by decide) (hE.2.1 ("WireBench", 120, "WireBench$Arrival", "number", "I", "WireBench") (by decide +kernel)) rfl rfl (ty := .int) (v := .int p4) (by decide +kernel) rfl rfl (Nat.le_of_ble_eq_true rfl) (gi g_27 34 513 p4) (gs_A34) (gho_A ⟨by decide, by decide⟩) dX2_put_91 (fun H locs hG => ?_)
          obtain ⟨g_28, eg_28⟩ : ∃ z, z = gi g_27 34 513 p4 := ⟨_, rfl⟩
          rw [← eg_28] at hG
          have hw := hw g_28 eg_28
          refine lv_aload_n hx hb dX2_put_94 rfl (lv_at hl 1 rfl) ?_
          refine g_get (own := RX2) (C := RX2) (T := TX2) (N := 11) (ci := 2) hx hb hq hin_X2 hown hK hG (k := 0) (gok_lo (by decide)) (gc_W) rfl 7 (by decide) (hq _ q_125) rfl (v := .ref (ad 1513)) rfl dX2_put_95 ?_
          refine lv_aload_n hx hb dX2_put_98 rfl (lv_at hl 1 rfl) ?_
          refine g_get (own := RX2) (C := RX2) (T := TX2) (N := 11) (ci := 2) hx hb hq hin_X2 hown hK hG (k := 0) (gok_lo (by decide)) (gc_W) rfl 10 (by decide) (hq _ q_128) rfl (v := .int (g_28.1 0 5)) rfl dX2_put_99 ?_
          refine lv_topi (fun x_29 ex_29 => ?_)
          have hw := hw x_29 ex_29
          refine g_putN (own := RX2) (C := RX0) (T := TX0) (N := 9) (ci := 0) hx hb hq hin_X0 tyX0 tyX0_ok nmX0 hown hK hG (k := 1000 + 513) (gok_A (by decide)) (gc_A) rfl 6 (by decide) (hE.2.1 ("WireBench", 123, "WireBench$Arrival", "whole", "I", "WireBench") (by decide +kernel)) rfl rfl (ty := .int) (v := .int x_29) (by decide +kernel) rfl rfl (Nat.le_of_ble_eq_true rfl) (gi g_28 36 513 x_29) (gs_A36) (gho_A ⟨by decide, by decide⟩) dX2_put_102 (fun H locs hG => ?_)
          obtain ⟨g_30, eg_30⟩ : ∃ z, z = gi g_28 36 513 x_29 := ⟨_, rfl⟩
          rw [← eg_30] at hG
          have hw := hw g_30 eg_30
          refine lv_aload_n hx hb dX2_put_105 rfl (lv_at hl 1 rfl) ?_
          refine lv_aload hx hb dX2_put_106 (lv_at hl 0 rfl) ?_
          refine g_calli (va_runV (As := [.ref (ad (100 + k_2))]) (rest := []) ⟨hx, hb, hml, hown, hts⟩ (m_X2_sendPayload hl9 D K sa ad _ _ k_2 g_30 hw) (cwV 1 hts (gGood gCons (gV q_311 q_313 q_5 q_20 q_314)) rfl rfl rfl (by decide +kernel) ⟨Nat.le_of_ble_eq_true rfl, Nat.le_of_ble_eq_true rfl⟩) ⟨gPc_blind, g_recv hK hG (gok_lo (by decide)) (gc_W) rfl, gPc_at hE hG hA⟩ rfl rfl hl.1 rfl (lv_room (Nat.le_of_ble_eq_true rfl)) dX2_put_108 ⟨Nat.le_of_ble_eq_true rfl, Nat.le_of_ble_eq_true rfl⟩) hG hA (fun r_32 g_31 H locs hw hG => ?_)
          try dsimp only at hw
          refine lv_istore (lv' := [(6, .int r_32), (5, .ref (ad (100 + k_2))), (0, .ref (ad 0)), (1, .int p1), (2, .int p2), (3, .int p3), (4, .int p4)]) hx hb dX2_put_111 hl (by decide) rfl (fun ls hl => ?_)
          refine lv_aload_n hx hb dX2_put_113 rfl (lv_at hl 2 rfl) ?_
          refine lv_aload_n hx hb dX2_put_114 rfl (lv_at hl 2 rfl) ?_
          refine g_get (own := RX2) (C := RX2) (T := TX2) (N := 11) (ci := 2) hx hb hq hin_X2 hown hK hG (k := 0) (gok_lo (by decide)) (gc_W) rfl 9 (by decide) (hq _ q_127) rfl (v := .int (g_31.1 0 4)) rfl dX2_put_115 ?_
          refine lv_aload_n hx hb dX2_put_118 rfl (lv_at hl 2 rfl) ?_
          refine g_get (own := RX2) (C := RX2) (T := TX2) (N := 11) (ci := 2) hx hb hq hin_X2 hown hK hG (k := 0) (gok_lo (by decide)) (gc_W) rfl 10 (by decide) (hq _ q_128) rfl (v := .int (g_31.1 0 5)) rfl dX2_put_119 ?_
          refine lv_iadd hx hb dX2_put_122 ?_
          refine g_calli (va_runS (As := [.int ((g_31.1 0 4) + (g_31.1 0 5))]) (rest := [.ref (ad 0)]) ⟨hx, hb, hml, hown, hts⟩ (m_X2_ringPlace hl9 D K sa ad _ _ ((g_31.1 0 4) + (g_31.1 0 5)) g_31 hw) (cwS 1 hts (gGood gCons (gSt q_295 q_296 q_20 q_297)) rfl rfl rfl (by decide +kernel) ⟨Nat.le_of_ble_eq_true rfl, Nat.le_of_ble_eq_true rfl⟩) ⟨gPc_blind, gPc_at hE hG hA⟩ rfl rfl hl.1 rfl (lv_room (Nat.le_of_ble_eq_true rfl)) dX2_put_123 ⟨Nat.le_of_ble_eq_true rfl, Nat.le_of_ble_eq_true rfl⟩) hG hA (fun r_34 g_33 H locs hw hG => ?_)
          try dsimp only at hw
          refine g_put (own := RX2) (C := RX2) (T := TX2) (N := 11) (ci := 2) hx hb hq hin_X2 tyX2 tyX2_ok nmX2 hown hK hG (k := 0) (gok_lo (by decide)) (gc_W) rfl 9 (by decide) (hq _ q_127) rfl rfl (ty := .int) (v := .int r_34) (by decide +kernel) rfl rfl (Nat.le_of_ble_eq_true rfl) (gi g_33 0 4 r_34) (gs_W4) (gho_lo (by decide)) dX2_put_126 (fun H locs hG => ?_)
          obtain ⟨g_35, eg_35⟩ : ∃ z, z = gi g_33 0 4 r_34 := ⟨_, rfl⟩
          rw [← eg_35] at hG
          have hw := hw g_35 eg_35
          refine lv_aload_n hx hb dX2_put_129 rfl (lv_at hl 2 rfl) ?_
          refine lv_iconst (v := 0) hx hb dX2_put_130 (by decide) ?_
          refine g_put (own := RX2) (C := RX2) (T := TX2) (N := 11) (ci := 2) hx hb hq hin_X2 tyX2 tyX2_ok nmX2 hown hK hG (k := 0) (gok_lo (by decide)) (gc_W) rfl 10 (by decide) (hq _ q_128) rfl rfl (ty := .int) (v := .int 0) (by decide +kernel) rfl rfl (Nat.le_of_ble_eq_true rfl) (gi g_35 0 5 (0 : Int32)) (gs_W5) (gho_lo (by decide)) dX2_put_131 (fun H locs hG => ?_)
          obtain ⟨g_36, eg_36⟩ : ∃ z, z = gi g_35 0 5 (0 : Int32) := ⟨_, rfl⟩
          rw [← eg_36] at hG
          have hw := hw g_36 eg_36
          refine lv_iload hx hb dX2_put_134 (lv_at hl 0 rfl) ?_
          exact vx_ret (g_iret hx hb hr hlocks hw hG (by decide) (by decide) dX2_put_136)
        · have hw := hw.2 c_24
          exact g_throwS (own := RX2) (cls := "java/lang/IllegalArgumentException") (text := "goal is from itself") (names := ["java/lang/RuntimeException", "java/lang/Exception"]) hx hb hl9 hown (by decide +kernel) (by decide +kernel) (hq _ q_169) (hq _ q_27) hE (by decide +kernel) (hat_IAE_58 hq hE) hgd_IAE_58 (hl.1.trans hml.symm) hN hlocks hw hG dX2_put_51 dX2_put_54 dX2_put_55 dX2_put_57 dX2_put_60 (Nat.le_of_ble_eq_true rfl) (Nat.le_of_ble_eq_true rfl) (Nat.le_of_ble_eq_true rfl) (Nat.le_of_ble_eq_true rfl) (by decide) (by decide)
      · have hw := hw.2 c_23
        exact g_throwS (own := RX2) (cls := "java/lang/IllegalArgumentException") (text := "goal is not -1 .. 7") (names := ["java/lang/RuntimeException", "java/lang/Exception"]) hx hb hl9 hown (by decide +kernel) (by decide +kernel) (hq _ q_169) (hq _ q_27) hE (by decide +kernel) (hat_IAE_58 hq hE) hgd_IAE_58 (hl.1.trans hml.symm) hN hlocks hw hG dX2_put_36 dX2_put_39 dX2_put_40 dX2_put_42 dX2_put_45 (Nat.le_of_ble_eq_true rfl) (Nat.le_of_ble_eq_true rfl) (Nat.le_of_ble_eq_true rfl) (Nat.le_of_ble_eq_true rfl) (by decide) (by decide)
  · have hw := hw.2 c_6
    exact g_throwS (own := RX2) (cls := "java/lang/IllegalArgumentException") (text := "from is not 0 .. 7") (names := ["java/lang/RuntimeException", "java/lang/Exception"]) hx hb hl9 hown (by decide +kernel) (by decide +kernel) (hq _ q_169) (hq _ q_27) hE (by decide +kernel) (hat_IAE_58 hq hE) hgd_IAE_58 (hl.1.trans hml.symm) hN hlocks hw hG dX2_put_14 dX2_put_17 dX2_put_18 dX2_put_20 dX2_put_23 (Nat.le_of_ble_eq_true rfl) (Nat.le_of_ble_eq_true rfl) (Nat.le_of_ble_eq_true rfl) (Nat.le_of_ble_eq_true rfl) (by decide) (by decide)

def wp_X2_pass (post : Int32 → gS → Prop) (px : String × gS → Prop) (p1 : Int32) (g : gS) : Prop := ((p1 < 0) → (px ("java/lang/IllegalArgumentException", g))) ∧ ((¬ p1 < 0) → (((p1 ≤ 1000) → (((((g.1 0 1) + p1) ≤ 1000000) → (∀ x_4 : Int32, x_4 = (g.1 0 1) + p1 → (∀ g_5 : gS, g_5 = gi g 0 1 x_4 → (wp_X2_countDue (fun r_7 g_6 => (post r_7 g_6))  g_5)))) ∧ ((¬ ((g.1 0 1) + p1) ≤ 1000000) → (px ("java/lang/IllegalStateException", g))))) ∧ ((¬ p1 ≤ 1000) → (px ("java/lang/IllegalArgumentException", g)))))
set_option maxHeartbeats 4000000 in
set_option maxRecDepth 100000 in
theorem m_X2_pass {l : Launch} (hl9 : l.stackTraces = false) (D : va_G) (K : Nat → ClassId) (sa ad : Nat → Nat) (sz : Nat) (post : Int32 → gS → Prop) (px : String × gS → Prop) (p1 : Int32) (g : gS) (hw : wp_X2_pass post px p1 g) : vx_Met l yX2_pass wsX2_pass ({ frames := 6, cells := 1, slots := 6, locals := 91 } : Room) (gPc D K sa ad sz g [.ref (ad 0), .int p1]) (va_Qi post (gB D K ad (va_A (gw K ad g) sz)) (va_A (gw K ad g) sz)) (vx_X px (gBX D K ad (va_A (gw K ad g) sz)) (va_A (gw K ad g) sz)) 1 6 (va_A (gw K ad g) sz) := by
  refine vx_ofW (cc := cX2_pass) (maxL := 2) (ret := (some .int)) (by decide) rfl ?_
  intro p e s m args below meth c s₁ B hml hN hv
  obtain ⟨rfl, hsz, hP, hE, hD0⟩ := hv
  have hx := B.exec
  have hb := B.bytes
  have hr := B.returns
  have hts := atoms_spec (ws := wsX2_pass) B.pre
  have hq : ∀ w ∈ gW, w.before _ s = true := fun w h => hts w (List.mem_cons_of_mem _ h)
  have hown : s.vm.findClass RX2 = some m.cls := findClass_of_methodNamed B.named
  have hlocks := B.notSynchronized
  subst hsz
  have hD := hD0.self (sz := s.heap.size)
  generalize hAe : va_A (gw K ad g) s.heap.size = A at hD hE ⊢
  have hA : ∀ q : Nat, s.heap.size ≤ q → A q := fun q h => by rw [← hAe]; exact Or.inr h
  have hK := hE.1
  have hG : gX D K ad A s.heap g s.heap [] := ⟨hP, hD, va_S.rf⟩
  have hl := lv_entry ([.ref (ad 0), .int p1]) (n := 2) (Nat.le_of_ble_eq_true rfl)
  rw [lg_entry_eq]
  generalize (lg_sl ([.ref (ad 0), .int p1]) ++ List.replicate (2 - (lg_sl ([.ref (ad 0), .int p1])).length) Slot.unset).toArray = ls at hl ⊢
  have hl : lv_has ls 2 [(0, .ref (ad 0)), (1, .int p1)] := hl
  dsimp only [wp_X2_pass] at hw
  refine lv_iload_n hx hb dX2_pass_0 rfl (lv_at hl 1 rfl) ?_
  refine lv_if_lt (tgt := 11) hx hb dX2_pass_1 (by decide) (fun c_1 => ?_) (fun c_1 => ?_)
  · have hw := hw.1 c_1
    exact g_throwS (own := RX2) (cls := "java/lang/IllegalArgumentException") (text := "n is not 0 .. 1000") (names := ["java/lang/RuntimeException", "java/lang/Exception"]) hx hb hl9 hown (by decide +kernel) (by decide +kernel) (hq _ q_169) (hq _ q_27) hE (by decide +kernel) (hat_IAE_58 hq hE) hgd_IAE_58 (hl.1.trans hml.symm) hN hlocks hw hG dX2_pass_11 dX2_pass_14 dX2_pass_15 dX2_pass_17 dX2_pass_20 (Nat.le_of_ble_eq_true rfl) (Nat.le_of_ble_eq_true rfl) (Nat.le_of_ble_eq_true rfl) (Nat.le_of_ble_eq_true rfl) (by decide) (by decide)
  · have hw := hw.2 c_1
    refine lv_iload_n hx hb dX2_pass_4 rfl (lv_at hl 1 rfl) ?_
    refine lv_sipush (v := 1000) hx hb dX2_pass_5 (by decide) ?_
    refine lv_icmp_le (tgt := 21) hx hb dX2_pass_8 (by decide) (fun c_2 => ?_) (fun c_2 => ?_)
    · have hw := hw.1 c_2
      refine lv_aload_n hx hb dX2_pass_21 rfl (lv_at hl 0 rfl) ?_
      refine g_get (own := RX2) (C := RX2) (T := TX2) (N := 11) (ci := 2) hx hb hq hin_X2 hown hK hG (k := 0) (gok_lo (by decide)) (gc_W) rfl 2 (by decide) (hq _ q_120) rfl (v := .int (g.1 0 1)) rfl dX2_pass_22 ?_
      refine lv_iload_n hx hb dX2_pass_25 rfl (lv_at hl 1 rfl) ?_
      refine lv_iadd hx hb dX2_pass_26 ?_
      refine lv_ldc (own := RX2) (v := 1000000) hx hb hown (hq _ q_353) dX2_pass_27 ?_
      refine lv_icmp_le (tgt := 42) hx hb dX2_pass_29 (by decide) (fun c_3 => ?_) (fun c_3 => ?_)
      · have hw := hw.1 c_3
        refine lv_aload_n hx hb dX2_pass_42 rfl (lv_at hl 0 rfl) ?_
        refine lv_dup hx hb dX2_pass_43 rfl ?_
        refine g_get (own := RX2) (C := RX2) (T := TX2) (N := 11) (ci := 2) hx hb hq hin_X2 hown hK hG (k := 0) (gok_lo (by decide)) (gc_W) rfl 2 (by decide) (hq _ q_120) rfl (v := .int (g.1 0 1)) rfl dX2_pass_44 ?_
        refine lv_iload_n hx hb dX2_pass_47 rfl (lv_at hl 1 rfl) ?_
        refine lv_iadd hx hb dX2_pass_48 ?_
        refine lv_topi (fun x_4 ex_4 => ?_)
        have hw := hw x_4 ex_4
        refine g_put (own := RX2) (C := RX2) (T := TX2) (N := 11) (ci := 2) hx hb hq hin_X2 tyX2 tyX2_ok nmX2 hown hK hG (k := 0) (gok_lo (by decide)) (gc_W) rfl 2 (by decide) (hq _ q_120) rfl rfl (ty := .int) (v := .int x_4) (by decide +kernel) rfl rfl (Nat.le_of_ble_eq_true rfl) (gi g 0 1 x_4) (gs_W1) (gho_lo (by decide)) dX2_pass_49 (fun H locs hG => ?_)
        obtain ⟨g_5, eg_5⟩ : ∃ z, z = gi g 0 1 x_4 := ⟨_, rfl⟩
        rw [← eg_5] at hG
        have hw := hw g_5 eg_5
        refine lv_aload_n hx hb dX2_pass_52 rfl (lv_at hl 0 rfl) ?_
        refine g_calli (va_runV (As := []) (rest := []) ⟨hx, hb, hml, hown, hts⟩ (m_X2_countDue hl9 D K sa ad _ _  g_5 hw) (cwV 0 hts (gGood gCons (gV q_355 q_357 q_12 q_20 q_358)) rfl rfl rfl (by decide +kernel) ⟨Nat.le_of_ble_eq_true rfl, Nat.le_of_ble_eq_true rfl⟩) ⟨gPc_blind, g_recv hK hG (gok_lo (by decide)) (gc_W) rfl, gPc_at hE hG hA⟩ rfl rfl hl.1 rfl (lv_room (Nat.le_of_ble_eq_true rfl)) dX2_pass_53 ⟨Nat.le_of_ble_eq_true rfl, Nat.le_of_ble_eq_true rfl⟩) hG hA (fun r_7 g_6 H locs hw hG => ?_)
        try dsimp only at hw
        exact vx_ret (g_iret hx hb hr hlocks hw hG (by decide) (by decide) dX2_pass_56)
      · have hw := hw.2 c_3
        exact g_throwS (own := RX2) (cls := "java/lang/IllegalStateException") (text := "the time would be more than 1000000") (names := ["java/lang/RuntimeException", "java/lang/Exception"]) hx hb hl9 hown (by decide +kernel) (by decide +kernel) (hq _ q_237) (hq _ q_28) hE (by decide +kernel) (hat_ISE_67 hq hE) hgd_ISE_67 (hl.1.trans hml.symm) hN hlocks hw hG dX2_pass_32 dX2_pass_35 dX2_pass_36 dX2_pass_38 dX2_pass_41 (Nat.le_of_ble_eq_true rfl) (Nat.le_of_ble_eq_true rfl) (Nat.le_of_ble_eq_true rfl) (Nat.le_of_ble_eq_true rfl) (by decide) (by decide)
    · have hw := hw.2 c_2
      exact g_throwS (own := RX2) (cls := "java/lang/IllegalArgumentException") (text := "n is not 0 .. 1000") (names := ["java/lang/RuntimeException", "java/lang/Exception"]) hx hb hl9 hown (by decide +kernel) (by decide +kernel) (hq _ q_169) (hq _ q_27) hE (by decide +kernel) (hat_IAE_58 hq hE) hgd_IAE_58 (hl.1.trans hml.symm) hN hlocks hw hG dX2_pass_11 dX2_pass_14 dX2_pass_15 dX2_pass_17 dX2_pass_20 (Nat.le_of_ble_eq_true rfl) (Nat.le_of_ble_eq_true rfl) (Nat.le_of_ble_eq_true rfl) (Nat.le_of_ble_eq_true rfl) (by decide) (by decide)

def wpl_X2_next_45 (post : Int32 → gS → Prop) : Nat → Nat → Int32 → gS → Prop
  | 0 => fun _ _ _ => False
  | n + 1 => fun x1 x2 g => x1 < 514 ∧ ((((g.1 0 2) ≤ x2) → (g.2.2.1 < 514 ∧ (vp_in (g.1 0 2) 512 ∧ (∀ g_12 : gS, g_12 = gp g ((g.1 0 2).toNatClampNeg) g.2.2.1 → (∀ g_13 : gS, g_13 = gt g_12 x1 → (∀ g_14 : gS, g_14 = gi g_13 0 3 (1 : Int32) → (post 1 g_14))))))) ∧ ((¬ (g.1 0 2) ≤ x2) → (∀ i_15 : Int32, i_15 = x2 + 1 → (vp_in i_15 512 ∧ (g.2.1 i_15.toNatClampNeg < 514 ∧ (vp_in x2 512 ∧ (∀ g_19 : gS, g_19 = gp g x2.toNatClampNeg (g.2.1 i_15.toNatClampNeg) → (∀ x_20 : Int32, x_20 = x2 + 1 → (wpl_X2_next_45 post n x1 x_20 g_19)))))))))
set_option maxHeartbeats 4000000 in
set_option maxRecDepth 100000 in
theorem L_X2_next_45 {p : Program} {l : Launch} {e : Env} {s : State} {m : MethodId} {args : Array Value} {below : List Frame} {meth : Method} {c : Code} {D : va_G} {K : Nat → ClassId} {sa ad : Nat → Nat} {A : Nat → Prop} (post : Int32 → gS → Prop) (hl9 : l.stackTraces = false) (hx : p.tables.exec = Jvm.exec) (hb : c.code = cX2_next) (hr : meth.sig.returnType = (some .boolean)) (hml : c.maxLocals = 3) (hown : s.vm.findClass RX2 = some m.cls) (hts : ∀ w ∈ wsX2_next, w.before args s = true) (hlocks : meth.locks = false) (hA : ∀ q, s.heap.size ≤ q → A q) (hE : gE D K sa A s s.heap) : ∀ (n : Nat) (x1 : Nat) (x2 : Int32) (g : gS), wpl_X2_next_45 post n x1 x2 g → ∀ (H : Heap) (locs : List Loc) (ls : Array Slot), gX D K ad A s.heap g H locs → lv_has ls 3 [(0, .ref (ad 0)), (1, .ref (ad (1000 + x1))), (2, .int x2)] → W p l e ({ frames := 0, cells := 0, slots := 0, locals := 0 } : Room) s m args below meth c H locs 0 0 (MQ below (va_Qi post (gB D K ad A) A) args s 0 0 A) (F0 m 45 ls []) := by
  have hK := hE.1
  have hq : ∀ w ∈ gW, w.before args s = true := fun w h => hts w (List.mem_cons_of_mem _ h)
  intro n
  induction n with
  | zero =>
    intro x1 x2 g hw
    exact hw.elim
  | succ n ih =>
    intro x1 x2 g hw H locs ls hG hl
    dsimp only [wpl_X2_next_45] at hw
    obtain ⟨hx1, hw⟩ := hw
    refine lv_iload_n hx hb dX2_next_45 rfl (lv_at hl 2 rfl) ?_
    refine lv_aload_n hx hb dX2_next_46 rfl (lv_at hl 0 rfl) ?_
    refine g_get (own := RX2) (C := RX2) (T := TX2) (N := 11) (ci := 2) hx hb hq hin_X2 hown hK hG (k := 0) (gok_lo (by decide)) (gc_W) rfl 4 (by decide) (hq _ q_122) rfl (v := .int (g.1 0 2)) rfl dX2_next_47 ?_
    refine lv_icmp_ge (tgt := 73) hx hb dX2_next_50 (by decide) (fun c_9 => ?_) (fun c_9 => ?_)
    · have hw := hw.1 c_9
      refine lv_aload_n hx hb dX2_next_73 rfl (lv_at hl 0 rfl) ?_
      refine g_get (own := RX2) (C := RX2) (T := TX2) (N := 11) (ci := 2) hx hb hq hin_X2 hown hK hG (k := 0) (gok_lo (by decide)) (gc_W) rfl 3 (by decide) (hq _ q_121) rfl (v := .ref (ad 2)) rfl dX2_next_74 ?_
      refine lv_aload_n hx hb dX2_next_77 rfl (lv_at hl 0 rfl) ?_
      refine g_get (own := RX2) (C := RX2) (T := TX2) (N := 11) (ci := 2) hx hb hq hin_X2 hown hK hG (k := 0) (gok_lo (by decide)) (gc_W) rfl 4 (by decide) (hq _ q_122) rfl (v := .int (g.1 0 2)) rfl dX2_next_78 ?_
      refine lv_aload_n hx hb dX2_next_81 rfl (lv_at hl 0 rfl) ?_
      obtain ⟨hk_10, hw⟩ := hw
      refine g_get (own := RX2) (C := RX2) (T := TX2) (N := 11) (ci := 2) hx hb hq hin_X2 hown hK hG (k := 0) (gok_lo (by decide)) (gc_W) rfl 5 (by decide) (hq _ q_123) rfl (v := .ref (ad (1000 + g.2.2.1))) rfl dX2_next_82 ?_
      obtain ⟨hi_11, hw⟩ := hw
      refine g_astA hx hb hK hG (j := g.2.2.1) hk_10 hi_11 dX2_next_85 (fun H locs hG => ?_)
      obtain ⟨g_12, eg_12⟩ : ∃ z, z = gp g ((g.1 0 2).toNatClampNeg) g.2.2.1 := ⟨_, rfl⟩
      rw [← eg_12] at hG
      have hw := hw g_12 eg_12
      refine lv_aload_n hx hb dX2_next_86 rfl (lv_at hl 0 rfl) ?_
      refine lv_aload_n hx hb dX2_next_87 rfl (lv_at hl 1 rfl) ?_
      refine g_put (own := RX2) (C := RX2) (T := TX2) (N := 11) (ci := 2) hx hb hq hin_X2 tyX2 tyX2_ok nmX2 hown hK hG (k := 0) (gok_lo (by decide)) (gc_W) rfl 5 (by decide) (hq _ q_123) rfl rfl (ty := .object "WireBench$Arrival") (v := .ref (ad (1000 + x1))) (by decide +kernel) rfl rfl (Nat.le_of_ble_eq_true rfl) (gt g_12 x1) (gs_Wt) (gho_t) dX2_next_88 (fun H locs hG => ?_)
      obtain ⟨g_13, eg_13⟩ : ∃ z, z = gt g_12 x1 := ⟨_, rfl⟩
      rw [← eg_13] at hG
      have hw := hw g_13 eg_13
      refine lv_aload_n hx hb dX2_next_91 rfl (lv_at hl 0 rfl) ?_
      refine lv_iconst (v := 1) hx hb dX2_next_92 (by decide) ?_
      refine g_put (own := RX2) (C := RX2) (T := TX2) (N := 11) (ci := 2) hx hb hq hin_X2 tyX2 tyX2_ok nmX2 hown hK hG (k := 0) (gok_lo (by decide)) (gc_W) rfl 6 (by decide) (hq _ q_124) rfl rfl (ty := .boolean) (v := .int 1) (by decide +kernel) (by decide) (by decide) (Nat.le_of_ble_eq_true rfl) (gi g_13 0 3 (1 : Int32)) (gs_W3) (gho_lo (by decide)) dX2_next_93 (fun H locs hG => ?_)
      obtain ⟨g_14, eg_14⟩ : ∃ z, z = gi g_13 0 3 (1 : Int32) := ⟨_, rfl⟩
      rw [← eg_14] at hG
      have hw := hw g_14 eg_14
      refine lv_iconst (v := 1) hx hb dX2_next_96 (by decide) ?_
      exact g_zret hx hb hr (by decide) hlocks hw hG (by decide) (by decide) dX2_next_97
    · have hw := hw.2 c_9
      refine lv_aload_n hx hb dX2_next_53 rfl (lv_at hl 0 rfl) ?_
      refine g_get (own := RX2) (C := RX2) (T := TX2) (N := 11) (ci := 2) hx hb hq hin_X2 hown hK hG (k := 0) (gok_lo (by decide)) (gc_W) rfl 3 (by decide) (hq _ q_121) rfl (v := .ref (ad 2)) rfl dX2_next_54 ?_
      refine lv_iload_n hx hb dX2_next_57 rfl (lv_at hl 2 rfl) ?_
      refine lv_aload_n hx hb dX2_next_58 rfl (lv_at hl 0 rfl) ?_
      refine g_get (own := RX2) (C := RX2) (T := TX2) (N := 11) (ci := 2) hx hb hq hin_X2 hown hK hG (k := 0) (gok_lo (by decide)) (gc_W) rfl 3 (by decide) (hq _ q_121) rfl (v := .ref (ad 2)) rfl dX2_next_59 ?_
      refine lv_iload_n hx hb dX2_next_62 rfl (lv_at hl 2 rfl) ?_
      refine lv_iconst (v := 1) hx hb dX2_next_63 (by decide) ?_
      refine lv_iadd hx hb dX2_next_64 ?_
      refine lv_topi (fun i_15 ei_15 => ?_)
      have hw := hw i_15 ei_15
      obtain ⟨hi_16, hw⟩ := hw
      obtain ⟨hk_17, hw⟩ := hw
      refine g_aldA hx hb hK hG hi_16 dX2_next_65 ?_
      obtain ⟨hi_18, hw⟩ := hw
      refine g_astA hx hb hK hG (j := g.2.1 i_15.toNatClampNeg) hk_17 hi_18 dX2_next_66 (fun H locs hG => ?_)
      obtain ⟨g_19, eg_19⟩ : ∃ z, z = gp g x2.toNatClampNeg (g.2.1 i_15.toNatClampNeg) := ⟨_, rfl⟩
      rw [← eg_19] at hG
      have hw := hw g_19 eg_19
      obtain ⟨x_20, ex_20⟩ : ∃ y : Int32, y = x2 + 1 := ⟨_, rfl⟩
      have hw := hw x_20 ex_20
      refine lv_iinc (v := x_20) (lv' := [(2, .int x_20), (0, .ref (ad 0)), (1, .ref (ad (1000 + x1)))]) hx hb dX2_next_67 hl (k := 2) rfl (by rw [ex_20]; rfl) (by decide) rfl (fun ls hl => ?_)
      refine lv_goto (tgt := 45) hx hb dX2_next_70 (by decide) ?_
      exact ih x1 x_20 g_19 hw _ _ _ hG (lv_sub hl [1, 2, 0] rfl)
def wp_X2_next (post : Int32 → gS → Prop)  (g : gS) : Prop := (((g.1 0 2) < 1) → (post 0 g)) ∧ ((¬ (g.1 0 2) < 1) → (vp_in (0 : Int32) 512 ∧ (g.2.1 (0 : Int32).toNatClampNeg < 514 ∧ ((((g.1 30 (g.2.1 (0 : Int32).toNatClampNeg)) ≤ (g.1 0 1)) → (vp_in (0 : Int32) 512 ∧ (g.2.1 (0 : Int32).toNatClampNeg < 514 ∧ (∀ x_7 : Int32, x_7 = (g.1 0 2) - 1 → (∀ g_8 : gS, g_8 = gi g 0 2 x_7 → (∃ n, wpl_X2_next_45 post n (g.2.1 (0 : Int32).toNatClampNeg) 0 g_8)))))) ∧ ((¬ (g.1 30 (g.2.1 (0 : Int32).toNatClampNeg)) ≤ (g.1 0 1)) → (post 0 g))))))
set_option maxHeartbeats 4000000 in
set_option maxRecDepth 100000 in
theorem m_X2_next {l : Launch} (hl9 : l.stackTraces = false) (D : va_G) (K : Nat → ClassId) (sa ad : Nat → Nat) (sz : Nat) (post : Int32 → gS → Prop)  (g : gS) (hw : wp_X2_next post  g) : Met l yX2_next wsX2_next ({ frames := 0, cells := 0, slots := 0, locals := 0 } : Room) (gPc D K sa ad sz g [.ref (ad 0)]) (va_Qi post (gB D K ad (va_A (gw K ad g) sz)) (va_A (gw K ad g) sz)) 0 0 (va_A (gw K ad g) sz) := by
  refine Met.ofW (cc := cX2_next) (maxL := 3) (ret := (some .boolean)) (by decide) rfl ?_
  intro p e s m args below meth c s₁ B hml hv
  obtain ⟨rfl, hsz, hP, hE, hD0⟩ := hv
  have hx := B.exec
  have hb := B.bytes
  have hr := B.returns
  have hts := atoms_spec (ws := wsX2_next) B.pre
  have hq : ∀ w ∈ gW, w.before _ s = true := fun w h => hts w (List.mem_cons_of_mem _ h)
  have hown : s.vm.findClass RX2 = some m.cls := findClass_of_methodNamed B.named
  have hlocks := B.notSynchronized
  subst hsz
  have hD := hD0.self (sz := s.heap.size)
  generalize hAe : va_A (gw K ad g) s.heap.size = A at hD hE ⊢
  have hA : ∀ q : Nat, s.heap.size ≤ q → A q := fun q h => by rw [← hAe]; exact Or.inr h
  have hK := hE.1
  have hG : gX D K ad A s.heap g s.heap [] := ⟨hP, hD, va_S.rf⟩
  have hl := lv_entry ([.ref (ad 0)]) (n := 3) (Nat.le_of_ble_eq_true rfl)
  rw [lg_entry_eq]
  generalize (lg_sl ([.ref (ad 0)]) ++ List.replicate (3 - (lg_sl ([.ref (ad 0)])).length) Slot.unset).toArray = ls at hl ⊢
  have hl : lv_has ls 3 [(0, .ref (ad 0))] := hl
  dsimp only [wp_X2_next] at hw
  refine lv_aload_n hx hb dX2_next_0 rfl (lv_at hl 0 rfl) ?_
  refine g_get (own := RX2) (C := RX2) (T := TX2) (N := 11) (ci := 2) hx hb hq hin_X2 hown hK hG (k := 0) (gok_lo (by decide)) (gc_W) rfl 4 (by decide) (hq _ q_122) rfl (v := .int (g.1 0 2)) rfl dX2_next_1 ?_
  refine lv_iconst (v := 1) hx hb dX2_next_4 (by decide) ?_
  refine lv_icmp_lt (tgt := 24) hx hb dX2_next_5 (by decide) (fun c_1 => ?_) (fun c_1 => ?_)
  · have hw := hw.1 c_1
    refine lv_iconst (v := 0) hx hb dX2_next_24 (by decide) ?_
    exact g_zret hx hb hr (by decide) hlocks hw hG (by decide) (by decide) dX2_next_25
  · have hw := hw.2 c_1
    refine lv_aload_n hx hb dX2_next_8 rfl (lv_at hl 0 rfl) ?_
    refine g_get (own := RX2) (C := RX2) (T := TX2) (N := 11) (ci := 2) hx hb hq hin_X2 hown hK hG (k := 0) (gok_lo (by decide)) (gc_W) rfl 3 (by decide) (hq _ q_121) rfl (v := .ref (ad 2)) rfl dX2_next_9 ?_
    refine lv_iconst (v := 0) hx hb dX2_next_12 (by decide) ?_
    obtain ⟨hi_2, hw⟩ := hw
    obtain ⟨hk_3, hw⟩ := hw
    refine g_aldA hx hb hK hG hi_2 dX2_next_13 ?_
    refine g_getN (own := RX2) (C := RX0) (T := TX0) (N := 9) (ci := 0) hx hb hq hin_X0 hown hK hG (k := 1000 + (g.2.1 (0 : Int32).toNatClampNeg)) (gok_A hk_3) (gc_A) rfl 0 (by decide) (hE.2.1 ("WireBench", 139, "WireBench$Arrival", "due", "I", "WireBench") (by decide +kernel)) rfl (v := .int (g.1 30 (g.2.1 (0 : Int32).toNatClampNeg))) rfl dX2_next_14 ?_
    refine lv_aload_n hx hb dX2_next_17 rfl (lv_at hl 0 rfl) ?_
    refine g_get (own := RX2) (C := RX2) (T := TX2) (N := 11) (ci := 2) hx hb hq hin_X2 hown hK hG (k := 0) (gok_lo (by decide)) (gc_W) rfl 2 (by decide) (hq _ q_120) rfl (v := .int (g.1 0 1)) rfl dX2_next_18 ?_
    refine lv_icmp_le (tgt := 26) hx hb dX2_next_21 (by decide) (fun c_4 => ?_) (fun c_4 => ?_)
    · have hw := hw.1 c_4
      refine lv_aload_n hx hb dX2_next_26 rfl (lv_at hl 0 rfl) ?_
      refine g_get (own := RX2) (C := RX2) (T := TX2) (N := 11) (ci := 2) hx hb hq hin_X2 hown hK hG (k := 0) (gok_lo (by decide)) (gc_W) rfl 3 (by decide) (hq _ q_121) rfl (v := .ref (ad 2)) rfl dX2_next_27 ?_
      refine lv_iconst (v := 0) hx hb dX2_next_30 (by decide) ?_
      obtain ⟨hi_5, hw⟩ := hw
      obtain ⟨hk_6, hw⟩ := hw
      refine g_aldA hx hb hK hG hi_5 dX2_next_31 ?_
      refine lv_astore_n (lv' := [(1, .ref (ad (1000 + (g.2.1 (0 : Int32).toNatClampNeg)))), (0, .ref (ad 0))]) hx hb dX2_next_32 rfl hl (by decide) rfl (fun ls hl => ?_)
      refine lv_aload_n hx hb dX2_next_33 rfl (lv_at hl 1 rfl) ?_
      refine lv_dup hx hb dX2_next_34 rfl ?_
      refine g_get (own := RX2) (C := RX2) (T := TX2) (N := 11) (ci := 2) hx hb hq hin_X2 hown hK hG (k := 0) (gok_lo (by decide)) (gc_W) rfl 4 (by decide) (hq _ q_122) rfl (v := .int (g.1 0 2)) rfl dX2_next_35 ?_
      refine lv_iconst (v := 1) hx hb dX2_next_38 (by decide) ?_
      refine lv_isub hx hb dX2_next_39 ?_
      refine lv_topi (fun x_7 ex_7 => ?_)
      have hw := hw x_7 ex_7
      refine g_put (own := RX2) (C := RX2) (T := TX2) (N := 11) (ci := 2) hx hb hq hin_X2 tyX2 tyX2_ok nmX2 hown hK hG (k := 0) (gok_lo (by decide)) (gc_W) rfl 4 (by decide) (hq _ q_122) rfl rfl (ty := .int) (v := .int x_7) (by decide +kernel) rfl rfl (Nat.le_of_ble_eq_true rfl) (gi g 0 2 x_7) (gs_W2) (gho_lo (by decide)) dX2_next_40 (fun H locs hG => ?_)
      obtain ⟨g_8, eg_8⟩ : ∃ z, z = gi g 0 2 x_7 := ⟨_, rfl⟩
      rw [← eg_8] at hG
      have hw := hw g_8 eg_8
      refine lv_iconst (v := 0) hx hb dX2_next_43 (by decide) ?_
      refine lv_istore_n (lv' := [(2, .int 0), (1, .ref (ad (1000 + (g.2.1 (0 : Int32).toNatClampNeg)))), (0, .ref (ad 0))]) hx hb dX2_next_44 rfl hl (by decide) rfl (fun ls hl => ?_)
      obtain ⟨n_21, hw⟩ := hw
      exact L_X2_next_45 post hl9 hx hb hr hml hown hts hlocks hA hE n_21 (g.2.1 (0 : Int32).toNatClampNeg) 0 g_8 hw _ _ _ hG (lv_sub hl [2, 1, 0] rfl)
    · have hw := hw.2 c_4
      refine lv_iconst (v := 0) hx hb dX2_next_24 (by decide) ?_
      exact g_zret hx hb hr (by decide) hlocks hw hG (by decide) (by decide) dX2_next_25

def wp_X2_arrival (post : Int32 → gS → Prop) (px : String × gS → Prop) (p1 : Int32) (g : gS) : Prop := ((p1 < 0) → (px ("java/lang/IllegalArgumentException", g))) ∧ ((¬ p1 < 0) → (((p1 ≤ 6) → (((¬ (g.1 0 3) = 0) → (((p1.toInt < 0 ∨ 5 < p1.toInt) → (g.2.2.1 < 514 ∧ (post (g.1 37 g.2.2.1) g))) ∧ (p1.toInt = 0 → (g.2.2.1 < 514 ∧ (post (g.1 31 g.2.2.1) g))) ∧ (p1.toInt = 1 → (g.2.2.1 < 514 ∧ (post (g.1 32 g.2.2.1) g))) ∧ (p1.toInt = 2 → (g.2.2.1 < 514 ∧ (post (g.1 33 g.2.2.1) g))) ∧ (p1.toInt = 3 → (g.2.2.1 < 514 ∧ (post (g.1 34 g.2.2.1) g))) ∧ (p1.toInt = 4 → (g.2.2.1 < 514 ∧ (post (g.1 35 g.2.2.1) g))) ∧ (p1.toInt = 5 → (g.2.2.1 < 514 ∧ (post (g.1 36 g.2.2.1) g))))) ∧ (((g.1 0 3) = 0) → (px ("java/lang/IllegalStateException", g))))) ∧ ((¬ p1 ≤ 6) → (px ("java/lang/IllegalArgumentException", g)))))
set_option maxHeartbeats 4000000 in
set_option maxRecDepth 100000 in
theorem m_X2_arrival {l : Launch} (hl9 : l.stackTraces = false) (D : va_G) (K : Nat → ClassId) (sa ad : Nat → Nat) (sz : Nat) (post : Int32 → gS → Prop) (px : String × gS → Prop) (p1 : Int32) (g : gS) (hw : wp_X2_arrival post px p1 g) : vx_Met l yX2_arrival wsX2_arrival ({ frames := 6, cells := 1, slots := 6, locals := 91 } : Room) (gPc D K sa ad sz g [.ref (ad 0), .int p1]) (va_Qi post (gB D K ad (va_A (gw K ad g) sz)) (va_A (gw K ad g) sz)) (vx_X px (gBX D K ad (va_A (gw K ad g) sz)) (va_A (gw K ad g) sz)) 1 6 (va_A (gw K ad g) sz) := by
  refine vx_ofW (cc := cX2_arrival) (maxL := 2) (ret := (some .int)) (by decide) rfl ?_
  intro p e s m args below meth c s₁ B hml hN hv
  obtain ⟨rfl, hsz, hP, hE, hD0⟩ := hv
  have hx := B.exec
  have hb := B.bytes
  have hr := B.returns
  have hts := atoms_spec (ws := wsX2_arrival) B.pre
  have hq : ∀ w ∈ gW, w.before _ s = true := fun w h => hts w (List.mem_cons_of_mem _ h)
  have hown : s.vm.findClass RX2 = some m.cls := findClass_of_methodNamed B.named
  have hlocks := B.notSynchronized
  subst hsz
  have hD := hD0.self (sz := s.heap.size)
  generalize hAe : va_A (gw K ad g) s.heap.size = A at hD hE ⊢
  have hA : ∀ q : Nat, s.heap.size ≤ q → A q := fun q h => by rw [← hAe]; exact Or.inr h
  have hK := hE.1
  have hG : gX D K ad A s.heap g s.heap [] := ⟨hP, hD, va_S.rf⟩
  have hl := lv_entry ([.ref (ad 0), .int p1]) (n := 2) (Nat.le_of_ble_eq_true rfl)
  rw [lg_entry_eq]
  generalize (lg_sl ([.ref (ad 0), .int p1]) ++ List.replicate (2 - (lg_sl ([.ref (ad 0), .int p1])).length) Slot.unset).toArray = ls at hl ⊢
  have hl : lv_has ls 2 [(0, .ref (ad 0)), (1, .int p1)] := hl
  dsimp only [wp_X2_arrival] at hw
  refine lv_iload_n hx hb dX2_arrival_0 rfl (lv_at hl 1 rfl) ?_
  refine lv_if_lt (tgt := 10) hx hb dX2_arrival_1 (by decide) (fun c_1 => ?_) (fun c_1 => ?_)
  · have hw := hw.1 c_1
    exact g_throwS (own := RX2) (cls := "java/lang/IllegalArgumentException") (text := "what is not 0 .. 6") (names := ["java/lang/RuntimeException", "java/lang/Exception"]) hx hb hl9 hown (by decide +kernel) (by decide +kernel) (hq _ q_169) (hq _ q_27) hE (by decide +kernel) (hat_IAE_58 hq hE) hgd_IAE_58 (hl.1.trans hml.symm) hN hlocks hw hG dX2_arrival_10 dX2_arrival_13 dX2_arrival_14 dX2_arrival_16 dX2_arrival_19 (Nat.le_of_ble_eq_true rfl) (Nat.le_of_ble_eq_true rfl) (Nat.le_of_ble_eq_true rfl) (Nat.le_of_ble_eq_true rfl) (by decide) (by decide)
  · have hw := hw.2 c_1
    refine lv_iload_n hx hb dX2_arrival_4 rfl (lv_at hl 1 rfl) ?_
    refine lv_bipush (v := 6) hx hb dX2_arrival_5 (by decide) ?_
    refine lv_icmp_le (tgt := 20) hx hb dX2_arrival_7 (by decide) (fun c_2 => ?_) (fun c_2 => ?_)
    · have hw := hw.1 c_2
      refine lv_aload_n hx hb dX2_arrival_20 rfl (lv_at hl 0 rfl) ?_
      refine g_get (own := RX2) (C := RX2) (T := TX2) (N := 11) (ci := 2) hx hb hq hin_X2 hown hK hG (k := 0) (gok_lo (by decide)) (gc_W) rfl 6 (by decide) (hq _ q_124) rfl (v := .int (g.1 0 3)) rfl dX2_arrival_21 ?_
      refine lv_if_ne (tgt := 37) hx hb dX2_arrival_24 (by decide) (fun c_3 => ?_) (fun c_3 => ?_)
      · have hw := hw.1 c_3
        refine lv_iload_n hx hb dX2_arrival_37 rfl (lv_at hl 1 rfl) ?_
        by_cases h_4 : p1.toInt < 0 ∨ 5 < p1.toInt
        · refine lv_tableOut hx hb dX2_arrival_38 h_4 (tgt := 124) (by decide) ?_
          have hw := hw.1 h_4
          refine lv_aload_n hx hb dX2_arrival_124 rfl (lv_at hl 0 rfl) ?_
          obtain ⟨hk_5, hw⟩ := hw
          refine g_get (own := RX2) (C := RX2) (T := TX2) (N := 11) (ci := 2) hx hb hq hin_X2 hown hK hG (k := 0) (gok_lo (by decide)) (gc_W) rfl 5 (by decide) (hq _ q_123) rfl (v := .ref (ad (1000 + g.2.2.1))) rfl dX2_arrival_125 ?_
          refine g_getN (own := RX2) (C := RX0) (T := TX0) (N := 9) (ci := 0) hx hb hq hin_X0 hown hK hG (k := 1000 + g.2.2.1) (gok_A hk_5) (gc_A) rfl 7 (by decide) (hE.2.1 ("WireBench", 149, "WireBench$Arrival", "size", "I", "WireBench") (by decide +kernel)) rfl (v := .int (g.1 37 g.2.2.1)) rfl dX2_arrival_128 ?_
          exact vx_ret (g_iret hx hb hr hlocks hw hG (by decide) (by decide) dX2_arrival_131)
        · have hw := hw.2
          rcases (show p1.toInt = 0 ∨ p1.toInt = 1 ∨ p1.toInt = 2 ∨ p1.toInt = 3 ∨ p1.toInt = 4 ∨ p1.toInt = 5 by omega) with h_4 | h_4 | h_4 | h_4 | h_4 | h_4
          · refine lv_tableIn hx hb dX2_arrival_38 (by omega) (by omega) (by rw [h_4]; rfl) (tgt := 76) (by decide) ?_
            have hw := hw.1 h_4
            refine lv_aload_n hx hb dX2_arrival_76 rfl (lv_at hl 0 rfl) ?_
            obtain ⟨hk_6, hw⟩ := hw
            refine g_get (own := RX2) (C := RX2) (T := TX2) (N := 11) (ci := 2) hx hb hq hin_X2 hown hK hG (k := 0) (gok_lo (by decide)) (gc_W) rfl 5 (by decide) (hq _ q_123) rfl (v := .ref (ad (1000 + g.2.2.1))) rfl dX2_arrival_77 ?_
            refine g_getN (own := RX2) (C := RX0) (T := TX0) (N := 9) (ci := 0) hx hb hq hin_X0 hown hK hG (k := 1000 + g.2.2.1) (gok_A hk_6) (gc_A) rfl 1 (by decide) (hE.2.1 ("WireBench", 111, "WireBench$Arrival", "net", "I", "WireBench") (by decide +kernel)) rfl (v := .int (g.1 31 g.2.2.1)) rfl dX2_arrival_80 ?_
            exact vx_ret (g_iret hx hb hr hlocks hw hG (by decide) (by decide) dX2_arrival_83)
          · refine lv_tableIn hx hb dX2_arrival_38 (by omega) (by omega) (by rw [h_4]; rfl) (tgt := 84) (by decide) ?_
            have hw := hw.2.1 h_4
            refine lv_aload_n hx hb dX2_arrival_84 rfl (lv_at hl 0 rfl) ?_
            obtain ⟨hk_7, hw⟩ := hw
            refine g_get (own := RX2) (C := RX2) (T := TX2) (N := 11) (ci := 2) hx hb hq hin_X2 hown hK hG (k := 0) (gok_lo (by decide)) (gc_W) rfl 5 (by decide) (hq _ q_123) rfl (v := .ref (ad (1000 + g.2.2.1))) rfl dX2_arrival_85 ?_
            refine g_getN (own := RX2) (C := RX0) (T := TX0) (N := 9) (ci := 0) hx hb hq hin_X0 hown hK hG (k := 1000 + g.2.2.1) (gok_A hk_7) (gc_A) rfl 2 (by decide) (hE.2.1 ("WireBench", 114, "WireBench$Arrival", "station", "I", "WireBench") (by decide +kernel)) rfl (v := .int (g.1 32 g.2.2.1)) rfl dX2_arrival_88 ?_
            exact vx_ret (g_iret hx hb hr hlocks hw hG (by decide) (by decide) dX2_arrival_91)
          · refine lv_tableIn hx hb dX2_arrival_38 (by omega) (by omega) (by rw [h_4]; rfl) (tgt := 92) (by decide) ?_
            have hw := hw.2.2.1 h_4
            refine lv_aload_n hx hb dX2_arrival_92 rfl (lv_at hl 0 rfl) ?_
            obtain ⟨hk_8, hw⟩ := hw
            refine g_get (own := RX2) (C := RX2) (T := TX2) (N := 11) (ci := 2) hx hb hq hin_X2 hown hK hG (k := 0) (gok_lo (by decide)) (gc_W) rfl 5 (by decide) (hq _ q_123) rfl (v := .ref (ad (1000 + g.2.2.1))) rfl dX2_arrival_93 ?_
            refine g_getN (own := RX2) (C := RX0) (T := TX0) (N := 9) (ci := 0) hx hb hq hin_X0 hown hK hG (k := 1000 + g.2.2.1) (gok_A hk_8) (gc_A) rfl 3 (by decide) (hE.2.1 ("WireBench", 117, "WireBench$Arrival", "goal", "I", "WireBench") (by decide +kernel)) rfl (v := .int (g.1 33 g.2.2.1)) rfl dX2_arrival_96 ?_
            exact vx_ret (g_iret hx hb hr hlocks hw hG (by decide) (by decide) dX2_arrival_99)
          · refine lv_tableIn hx hb dX2_arrival_38 (by omega) (by omega) (by rw [h_4]; rfl) (tgt := 100) (by decide) ?_
            have hw := hw.2.2.2.1 h_4
            refine lv_aload_n hx hb dX2_arrival_100 rfl (lv_at hl 0 rfl) ?_
            obtain ⟨hk_9, hw⟩ := hw
            refine g_get (own := RX2) (C := RX2) (T := TX2) (N := 11) (ci := 2) hx hb hq hin_X2 hown hK hG (k := 0) (gok_lo (by decide)) (gc_W) rfl 5 (by decide) (hq _ q_123) rfl (v := .ref (ad (1000 + g.2.2.1))) rfl dX2_arrival_101 ?_
            refine g_getN (own := RX2) (C := RX0) (T := TX0) (N := 9) (ci := 0) hx hb hq hin_X0 hown hK hG (k := 1000 + g.2.2.1) (gok_A hk_9) (gc_A) rfl 4 (by decide) (hE.2.1 ("WireBench", 120, "WireBench$Arrival", "number", "I", "WireBench") (by decide +kernel)) rfl (v := .int (g.1 34 g.2.2.1)) rfl dX2_arrival_104 ?_
            exact vx_ret (g_iret hx hb hr hlocks hw hG (by decide) (by decide) dX2_arrival_107)
          · refine lv_tableIn hx hb dX2_arrival_38 (by omega) (by omega) (by rw [h_4]; rfl) (tgt := 108) (by decide) ?_
            have hw := hw.2.2.2.2.1 h_4
            refine lv_aload_n hx hb dX2_arrival_108 rfl (lv_at hl 0 rfl) ?_
            obtain ⟨hk_10, hw⟩ := hw
            refine g_get (own := RX2) (C := RX2) (T := TX2) (N := 11) (ci := 2) hx hb hq hin_X2 hown hK hG (k := 0) (gok_lo (by decide)) (gc_W) rfl 5 (by decide) (hq _ q_123) rfl (v := .ref (ad (1000 + g.2.2.1))) rfl dX2_arrival_109 ?_
            refine g_getN (own := RX2) (C := RX0) (T := TX0) (N := 9) (ci := 0) hx hb hq hin_X0 hown hK hG (k := 1000 + g.2.2.1) (gok_A hk_10) (gc_A) rfl 5 (by decide) (hE.2.1 ("WireBench", 146, "WireBench$Arrival", "from", "I", "WireBench") (by decide +kernel)) rfl (v := .int (g.1 35 g.2.2.1)) rfl dX2_arrival_112 ?_
            exact vx_ret (g_iret hx hb hr hlocks hw hG (by decide) (by decide) dX2_arrival_115)
          · refine lv_tableIn hx hb dX2_arrival_38 (by omega) (by omega) (by rw [h_4]; rfl) (tgt := 116) (by decide) ?_
            have hw := hw.2.2.2.2.2 h_4
            refine lv_aload_n hx hb dX2_arrival_116 rfl (lv_at hl 0 rfl) ?_
            obtain ⟨hk_11, hw⟩ := hw
            refine g_get (own := RX2) (C := RX2) (T := TX2) (N := 11) (ci := 2) hx hb hq hin_X2 hown hK hG (k := 0) (gok_lo (by decide)) (gc_W) rfl 5 (by decide) (hq _ q_123) rfl (v := .ref (ad (1000 + g.2.2.1))) rfl dX2_arrival_117 ?_
            refine g_getN (own := RX2) (C := RX0) (T := TX0) (N := 9) (ci := 0) hx hb hq hin_X0 hown hK hG (k := 1000 + g.2.2.1) (gok_A hk_11) (gc_A) rfl 6 (by decide) (hE.2.1 ("WireBench", 123, "WireBench$Arrival", "whole", "I", "WireBench") (by decide +kernel)) rfl (v := .int (g.1 36 g.2.2.1)) rfl dX2_arrival_120 ?_
            exact vx_ret (g_iret hx hb hr hlocks hw hG (by decide) (by decide) dX2_arrival_123)
      · have hw := hw.2 c_3
        exact g_throwS (own := RX2) (cls := "java/lang/IllegalStateException") (text := "no arrival was taken") (names := ["java/lang/RuntimeException", "java/lang/Exception"]) hx hb hl9 hown (by decide +kernel) (by decide +kernel) (hq _ q_237) (hq _ q_28) hE (by decide +kernel) (hat_ISE_67 hq hE) hgd_ISE_67 (hl.1.trans hml.symm) hN hlocks hw hG dX2_arrival_27 dX2_arrival_30 dX2_arrival_31 dX2_arrival_33 dX2_arrival_36 (Nat.le_of_ble_eq_true rfl) (Nat.le_of_ble_eq_true rfl) (Nat.le_of_ble_eq_true rfl) (Nat.le_of_ble_eq_true rfl) (by decide) (by decide)
    · have hw := hw.2 c_2
      exact g_throwS (own := RX2) (cls := "java/lang/IllegalArgumentException") (text := "what is not 0 .. 6") (names := ["java/lang/RuntimeException", "java/lang/Exception"]) hx hb hl9 hown (by decide +kernel) (by decide +kernel) (hq _ q_169) (hq _ q_27) hE (by decide +kernel) (hat_IAE_58 hq hE) hgd_IAE_58 (hl.1.trans hml.symm) hN hlocks hw hG dX2_arrival_10 dX2_arrival_13 dX2_arrival_14 dX2_arrival_16 dX2_arrival_19 (Nat.le_of_ble_eq_true rfl) (Nat.le_of_ble_eq_true rfl) (Nat.le_of_ble_eq_true rfl) (Nat.le_of_ble_eq_true rfl) (by decide) (by decide)

def wp_X2_byteAt (post : Int32 → gS → Prop) (px : String × gS → Prop) (p1 : Int32) (g : gS) : Prop := ((¬ (g.1 0 3) = 0) → (((p1 < 0) → (px ("java/lang/IndexOutOfBoundsException", g))) ∧ ((¬ p1 < 0) → (g.2.2.1 < 514 ∧ (((p1 < (g.1 37 g.2.2.1)) → (g.2.2.1 < 514 ∧ (wp_X2_ringPlace (fun r_7 g_6 => (vp_in r_7 4096 ∧ (post ((g_6.1 3 r_7.toNatClampNeg) &&& 255) g_6))) ((g.1 38 g.2.2.1) + p1) g))) ∧ ((¬ p1 < (g.1 37 g.2.2.1)) → (px ("java/lang/IndexOutOfBoundsException", g)))))))) ∧ (((g.1 0 3) = 0) → (px ("java/lang/IllegalStateException", g)))
set_option maxHeartbeats 4000000 in
set_option maxRecDepth 100000 in
theorem m_X2_byteAt {l : Launch} (hl9 : l.stackTraces = false) (D : va_G) (K : Nat → ClassId) (sa ad : Nat → Nat) (sz : Nat) (post : Int32 → gS → Prop) (px : String × gS → Prop) (p1 : Int32) (g : gS) (hw : wp_X2_byteAt post px p1 g) : vx_Met l yX2_byteAt wsX2_byteAt ({ frames := 6, cells := 1, slots := 6, locals := 91 } : Room) (gPc D K sa ad sz g [.ref (ad 0), .int p1]) (va_Qi post (gB D K ad (va_A (gw K ad g) sz)) (va_A (gw K ad g) sz)) (vx_X px (gBX D K ad (va_A (gw K ad g) sz)) (va_A (gw K ad g) sz)) 1 6 (va_A (gw K ad g) sz) := by
  refine vx_ofW (cc := cX2_byteAt) (maxL := 2) (ret := (some .int)) (by decide) rfl ?_
  intro p e s m args below meth c s₁ B hml hN hv
  obtain ⟨rfl, hsz, hP, hE, hD0⟩ := hv
  have hx := B.exec
  have hb := B.bytes
  have hr := B.returns
  have hts := atoms_spec (ws := wsX2_byteAt) B.pre
  have hq : ∀ w ∈ gW, w.before _ s = true := fun w h => hts w (List.mem_cons_of_mem _ h)
  have hown : s.vm.findClass RX2 = some m.cls := findClass_of_methodNamed B.named
  have hlocks := B.notSynchronized
  subst hsz
  have hD := hD0.self (sz := s.heap.size)
  generalize hAe : va_A (gw K ad g) s.heap.size = A at hD hE ⊢
  have hA : ∀ q : Nat, s.heap.size ≤ q → A q := fun q h => by rw [← hAe]; exact Or.inr h
  have hK := hE.1
  have hG : gX D K ad A s.heap g s.heap [] := ⟨hP, hD, va_S.rf⟩
  have hl := lv_entry ([.ref (ad 0), .int p1]) (n := 2) (Nat.le_of_ble_eq_true rfl)
  rw [lg_entry_eq]
  generalize (lg_sl ([.ref (ad 0), .int p1]) ++ List.replicate (2 - (lg_sl ([.ref (ad 0), .int p1])).length) Slot.unset).toArray = ls at hl ⊢
  have hl : lv_has ls 2 [(0, .ref (ad 0)), (1, .int p1)] := hl
  dsimp only [wp_X2_byteAt] at hw
  refine lv_aload_n hx hb dX2_byteAt_0 rfl (lv_at hl 0 rfl) ?_
  refine g_get (own := RX2) (C := RX2) (T := TX2) (N := 11) (ci := 2) hx hb hq hin_X2 hown hK hG (k := 0) (gok_lo (by decide)) (gc_W) rfl 6 (by decide) (hq _ q_124) rfl (v := .int (g.1 0 3)) rfl dX2_byteAt_1 ?_
  refine lv_if_ne (tgt := 17) hx hb dX2_byteAt_4 (by decide) (fun c_1 => ?_) (fun c_1 => ?_)
  · have hw := hw.1 c_1
    refine lv_iload_n hx hb dX2_byteAt_17 rfl (lv_at hl 1 rfl) ?_
    refine lv_if_lt (tgt := 32) hx hb dX2_byteAt_18 (by decide) (fun c_2 => ?_) (fun c_2 => ?_)
    · have hw := hw.1 c_2
      exact g_throwS (own := RX2) (cls := "java/lang/IndexOutOfBoundsException") (text := "there is no such byte") (names := ["java/lang/RuntimeException", "java/lang/Exception"]) hx hb hl9 hown (by decide +kernel) (by decide +kernel) (hq _ q_376) (hq _ q_30) hE (by decide +kernel) (hat_IOB_156 hq hE) hgd_IOB_156 (hl.1.trans hml.symm) hN hlocks hw hG dX2_byteAt_32 dX2_byteAt_35 dX2_byteAt_36 dX2_byteAt_38 dX2_byteAt_41 (Nat.le_of_ble_eq_true rfl) (Nat.le_of_ble_eq_true rfl) (Nat.le_of_ble_eq_true rfl) (Nat.le_of_ble_eq_true rfl) (by decide) (by decide)
    · have hw := hw.2 c_2
      refine lv_iload_n hx hb dX2_byteAt_21 rfl (lv_at hl 1 rfl) ?_
      refine lv_aload_n hx hb dX2_byteAt_22 rfl (lv_at hl 0 rfl) ?_
      obtain ⟨hk_3, hw⟩ := hw
      refine g_get (own := RX2) (C := RX2) (T := TX2) (N := 11) (ci := 2) hx hb hq hin_X2 hown hK hG (k := 0) (gok_lo (by decide)) (gc_W) rfl 5 (by decide) (hq _ q_123) rfl (v := .ref (ad (1000 + g.2.2.1))) rfl dX2_byteAt_23 ?_
      refine g_getN (own := RX2) (C := RX0) (T := TX0) (N := 9) (ci := 0) hx hb hq hin_X0 hown hK hG (k := 1000 + g.2.2.1) (gok_A hk_3) (gc_A) rfl 7 (by decide) (hE.2.1 ("WireBench", 149, "WireBench$Arrival", "size", "I", "WireBench") (by decide +kernel)) rfl (v := .int (g.1 37 g.2.2.1)) rfl dX2_byteAt_26 ?_
      refine lv_icmp_lt (tgt := 42) hx hb dX2_byteAt_29 (by decide) (fun c_4 => ?_) (fun c_4 => ?_)
      · have hw := hw.1 c_4
        refine lv_aload_n hx hb dX2_byteAt_42 rfl (lv_at hl 0 rfl) ?_
        refine g_get (own := RX2) (C := RX2) (T := TX2) (N := 11) (ci := 2) hx hb hq hin_X2 hown hK hG (k := 0) (gok_lo (by decide)) (gc_W) rfl 8 (by decide) (hq _ q_126) rfl (v := .ref (ad 3)) rfl dX2_byteAt_43 ?_
        refine lv_aload_n hx hb dX2_byteAt_46 rfl (lv_at hl 0 rfl) ?_
        obtain ⟨hk_5, hw⟩ := hw
        refine g_get (own := RX2) (C := RX2) (T := TX2) (N := 11) (ci := 2) hx hb hq hin_X2 hown hK hG (k := 0) (gok_lo (by decide)) (gc_W) rfl 5 (by decide) (hq _ q_123) rfl (v := .ref (ad (1000 + g.2.2.1))) rfl dX2_byteAt_47 ?_
        refine g_getN (own := RX2) (C := RX0) (T := TX0) (N := 9) (ci := 0) hx hb hq hin_X0 hown hK hG (k := 1000 + g.2.2.1) (gok_A hk_5) (gc_A) rfl 8 (by decide) (hE.2.1 ("WireBench", 157, "WireBench$Arrival", "start", "I", "WireBench") (by decide +kernel)) rfl (v := .int (g.1 38 g.2.2.1)) rfl dX2_byteAt_50 ?_
        refine lv_iload_n hx hb dX2_byteAt_53 rfl (lv_at hl 1 rfl) ?_
        refine lv_iadd hx hb dX2_byteAt_54 ?_
        refine g_calli (va_runS (As := [.int ((g.1 38 g.2.2.1) + p1)]) (rest := [.ref (ad 3)]) ⟨hx, hb, hml, hown, hts⟩ (m_X2_ringPlace hl9 D K sa ad _ _ ((g.1 38 g.2.2.1) + p1) g hw) (cwS 1 hts (gGood gCons (gSt q_295 q_296 q_20 q_297)) rfl rfl rfl (by decide +kernel) ⟨Nat.le_of_ble_eq_true rfl, Nat.le_of_ble_eq_true rfl⟩) ⟨gPc_blind, gPc_at hE hG hA⟩ rfl rfl hl.1 rfl (lv_room (Nat.le_of_ble_eq_true rfl)) dX2_byteAt_55 ⟨Nat.le_of_ble_eq_true rfl, Nat.le_of_ble_eq_true rfl⟩) hG hA (fun r_7 g_6 H locs hw hG => ?_)
        try dsimp only at hw
        obtain ⟨hi_8, hw⟩ := hw
        refine g_bald hx hb hK hG (k := 3) (gok_lo (by decide)) (gc_3) hi_8 dX2_byteAt_58 ?_
        refine lv_sipush (v := 255) hx hb dX2_byteAt_59 (by decide) ?_
        refine lv_iand hx hb dX2_byteAt_62 ?_
        exact vx_ret (g_iret hx hb hr hlocks hw hG (by decide) (by decide) dX2_byteAt_63)
      · have hw := hw.2 c_4
        exact g_throwS (own := RX2) (cls := "java/lang/IndexOutOfBoundsException") (text := "there is no such byte") (names := ["java/lang/RuntimeException", "java/lang/Exception"]) hx hb hl9 hown (by decide +kernel) (by decide +kernel) (hq _ q_376) (hq _ q_30) hE (by decide +kernel) (hat_IOB_156 hq hE) hgd_IOB_156 (hl.1.trans hml.symm) hN hlocks hw hG dX2_byteAt_32 dX2_byteAt_35 dX2_byteAt_36 dX2_byteAt_38 dX2_byteAt_41 (Nat.le_of_ble_eq_true rfl) (Nat.le_of_ble_eq_true rfl) (Nat.le_of_ble_eq_true rfl) (Nat.le_of_ble_eq_true rfl) (by decide) (by decide)
  · have hw := hw.2 c_1
    exact g_throwS (own := RX2) (cls := "java/lang/IllegalStateException") (text := "no arrival was taken") (names := ["java/lang/RuntimeException", "java/lang/Exception"]) hx hb hl9 hown (by decide +kernel) (by decide +kernel) (hq _ q_237) (hq _ q_28) hE (by decide +kernel) (hat_ISE_67 hq hE) hgd_ISE_67 (hl.1.trans hml.symm) hN hlocks hw hG dX2_byteAt_7 dX2_byteAt_10 dX2_byteAt_11 dX2_byteAt_13 dX2_byteAt_16 (Nat.le_of_ble_eq_true rfl) (Nat.le_of_ble_eq_true rfl) (Nat.le_of_ble_eq_true rfl) (Nat.le_of_ble_eq_true rfl) (by decide) (by decide)

def wp_X2_fated (post : Int32 → gS → Prop) (px : String × gS → Prop) (p1 : Int32) (g : gS) : Prop := wp_X2_netNumbered (fun u_ => ∃ (k_2 : Nat) (g_1 : gS), u_ = (100 + k_2, g_1) ∧ (k_2 < 24 ∧ (post (g_1.1 25 k_2) g_1))) px p1 g
set_option maxHeartbeats 4000000 in
set_option maxRecDepth 100000 in
theorem m_X2_fated {l : Launch} (hl9 : l.stackTraces = false) (D : va_G) (K : Nat → ClassId) (sa ad : Nat → Nat) (sz : Nat) (post : Int32 → gS → Prop) (px : String × gS → Prop) (p1 : Int32) (g : gS) (hw : wp_X2_fated post px p1 g) : vx_Met l yX2_fated wsX2_fated ({ frames := 7, cells := 1, slots := 6, locals := 112 } : Room) (gPc D K sa ad sz g [.ref (ad 0), .int p1]) (va_Qi post (gB D K ad (va_A (gw K ad g) sz)) (va_A (gw K ad g) sz)) (vx_X px (gBX D K ad (va_A (gw K ad g) sz)) (va_A (gw K ad g) sz)) 1 6 (va_A (gw K ad g) sz) := by
  refine vx_ofW (cc := cX2_fated) (maxL := 2) (ret := (some .int)) (by decide) rfl ?_
  intro p e s m args below meth c s₁ B hml hN hv
  obtain ⟨rfl, hsz, hP, hE, hD0⟩ := hv
  have hx := B.exec
  have hb := B.bytes
  have hr := B.returns
  have hts := atoms_spec (ws := wsX2_fated) B.pre
  have hq : ∀ w ∈ gW, w.before _ s = true := fun w h => hts w (List.mem_cons_of_mem _ h)
  have hown : s.vm.findClass RX2 = some m.cls := findClass_of_methodNamed B.named
  have hlocks := B.notSynchronized
  subst hsz
  have hD := hD0.self (sz := s.heap.size)
  generalize hAe : va_A (gw K ad g) s.heap.size = A at hD hE ⊢
  have hA : ∀ q : Nat, s.heap.size ≤ q → A q := fun q h => by rw [← hAe]; exact Or.inr h
  have hK := hE.1
  have hG : gX D K ad A s.heap g s.heap [] := ⟨hP, hD, va_S.rf⟩
  have hl := lv_entry ([.ref (ad 0), .int p1]) (n := 2) (Nat.le_of_ble_eq_true rfl)
  rw [lg_entry_eq]
  generalize (lg_sl ([.ref (ad 0), .int p1]) ++ List.replicate (2 - (lg_sl ([.ref (ad 0), .int p1])).length) Slot.unset).toArray = ls at hl ⊢
  have hl : lv_has ls 2 [(0, .ref (ad 0)), (1, .int p1)] := hl
  dsimp only [wp_X2_fated] at hw
  refine lv_aload_n hx hb dX2_fated_0 rfl (lv_at hl 0 rfl) ?_
  refine lv_iload_n hx hb dX2_fated_1 rfl (lv_at hl 1 rfl) ?_
  refine g_xcallr (vx_runV (As := [.int p1]) (rest := []) ⟨hx, hb, hml, hown, hts⟩ (m_X2_netNumbered hl9 D K sa ad _ _ _ p1 g hw) (cwV 1 hts (gGood gCons (gV q_264 q_266 q_2 q_20 q_267)) rfl rfl rfl (by decide +kernel) ⟨Nat.le_of_ble_eq_true rfl, Nat.le_of_ble_eq_true rfl⟩) ⟨gPc_blind, g_recv hK hG (gok_lo (by decide)) (gc_W) rfl, gPc_at hE hG hA⟩ rfl rfl hl.1 rfl (lv_room (Nat.le_of_ble_eq_true rfl)) dX2_fated_2 ⟨Nat.le_of_ble_eq_true rfl, Nat.le_of_ble_eq_true rfl⟩) hG hA (fun E_ ce_ q_ g_1 H locs hw hG h1_ h2_ h3_ => ?_) (fun k_ ga_ H locs hw hG => ?_)
  · exact g_out hN hlocks h1_ h2_ h3_ hw hG (by decide) (by decide)
  try dsimp only at hw
  obtain ⟨k_2, g_1, eu_, hk_3, hw⟩ := hw
  obtain ⟨e1_, e2_⟩ := Prod.mk.inj eu_
  subst e1_
  have e2_ := e2_.symm
  subst e2_
  refine g_getN (own := RX2) (C := RX1) (T := TX1) (N := 7) (ci := 1) hx hb hq hin_X1 hown hK hG (k := 100 + k_2) (gok_N hk_3) (gc_N hk_3) rfl 6 (by decide) (hE.2.1 ("WireBench", 85, "WireBench$Net", "fateCount", "I", "WireBench") (by decide +kernel)) rfl (v := .int (g_1.1 25 k_2)) rfl dX2_fated_5 ?_
  exact vx_ret (g_iret hx hb hr hlocks hw hG (by decide) (by decide) dX2_fated_8)

def wp_X2_puts (post : Int32 → gS → Prop) (px : String × gS → Prop) (p1 : Int32) (g : gS) : Prop := wp_X2_netNumbered (fun u_ => ∃ (k_2 : Nat) (g_1 : gS), u_ = (100 + k_2, g_1) ∧ (k_2 < 24 ∧ (post (g_1.1 23 k_2) g_1))) px p1 g
set_option maxHeartbeats 4000000 in
set_option maxRecDepth 100000 in
theorem m_X2_puts {l : Launch} (hl9 : l.stackTraces = false) (D : va_G) (K : Nat → ClassId) (sa ad : Nat → Nat) (sz : Nat) (post : Int32 → gS → Prop) (px : String × gS → Prop) (p1 : Int32) (g : gS) (hw : wp_X2_puts post px p1 g) : vx_Met l yX2_puts wsX2_puts ({ frames := 7, cells := 1, slots := 6, locals := 112 } : Room) (gPc D K sa ad sz g [.ref (ad 0), .int p1]) (va_Qi post (gB D K ad (va_A (gw K ad g) sz)) (va_A (gw K ad g) sz)) (vx_X px (gBX D K ad (va_A (gw K ad g) sz)) (va_A (gw K ad g) sz)) 1 6 (va_A (gw K ad g) sz) := by
  refine vx_ofW (cc := cX2_puts) (maxL := 2) (ret := (some .int)) (by decide) rfl ?_
  intro p e s m args below meth c s₁ B hml hN hv
  obtain ⟨rfl, hsz, hP, hE, hD0⟩ := hv
  have hx := B.exec
  have hb := B.bytes
  have hr := B.returns
  have hts := atoms_spec (ws := wsX2_puts) B.pre
  have hq : ∀ w ∈ gW, w.before _ s = true := fun w h => hts w (List.mem_cons_of_mem _ h)
  have hown : s.vm.findClass RX2 = some m.cls := findClass_of_methodNamed B.named
  have hlocks := B.notSynchronized
  subst hsz
  have hD := hD0.self (sz := s.heap.size)
  generalize hAe : va_A (gw K ad g) s.heap.size = A at hD hE ⊢
  have hA : ∀ q : Nat, s.heap.size ≤ q → A q := fun q h => by rw [← hAe]; exact Or.inr h
  have hK := hE.1
  have hG : gX D K ad A s.heap g s.heap [] := ⟨hP, hD, va_S.rf⟩
  have hl := lv_entry ([.ref (ad 0), .int p1]) (n := 2) (Nat.le_of_ble_eq_true rfl)
  rw [lg_entry_eq]
  generalize (lg_sl ([.ref (ad 0), .int p1]) ++ List.replicate (2 - (lg_sl ([.ref (ad 0), .int p1])).length) Slot.unset).toArray = ls at hl ⊢
  have hl : lv_has ls 2 [(0, .ref (ad 0)), (1, .int p1)] := hl
  dsimp only [wp_X2_puts] at hw
  refine lv_aload_n hx hb dX2_puts_0 rfl (lv_at hl 0 rfl) ?_
  refine lv_iload_n hx hb dX2_puts_1 rfl (lv_at hl 1 rfl) ?_
  refine g_xcallr (vx_runV (As := [.int p1]) (rest := []) ⟨hx, hb, hml, hown, hts⟩ (m_X2_netNumbered hl9 D K sa ad _ _ _ p1 g hw) (cwV 1 hts (gGood gCons (gV q_264 q_266 q_2 q_20 q_267)) rfl rfl rfl (by decide +kernel) ⟨Nat.le_of_ble_eq_true rfl, Nat.le_of_ble_eq_true rfl⟩) ⟨gPc_blind, g_recv hK hG (gok_lo (by decide)) (gc_W) rfl, gPc_at hE hG hA⟩ rfl rfl hl.1 rfl (lv_room (Nat.le_of_ble_eq_true rfl)) dX2_puts_2 ⟨Nat.le_of_ble_eq_true rfl, Nat.le_of_ble_eq_true rfl⟩) hG hA (fun E_ ce_ q_ g_1 H locs hw hG h1_ h2_ h3_ => ?_) (fun k_ ga_ H locs hw hG => ?_)
  · exact g_out hN hlocks h1_ h2_ h3_ hw hG (by decide) (by decide)
  try dsimp only at hw
  obtain ⟨k_2, g_1, eu_, hk_3, hw⟩ := hw
  obtain ⟨e1_, e2_⟩ := Prod.mk.inj eu_
  subst e1_
  have e2_ := e2_.symm
  subst e2_
  refine g_getN (own := RX2) (C := RX1) (T := TX1) (N := 7) (ci := 1) hx hb hq hin_X1 hown hK hG (k := 100 + k_2) (gok_N hk_3) (gc_N hk_3) rfl 3 (by decide) (hE.2.1 ("WireBench", 160, "WireBench$Net", "frameCount", "I", "WireBench") (by decide +kernel)) rfl (v := .int (g_1.1 23 k_2)) rfl dX2_puts_5 ?_
  exact vx_ret (g_iret hx hb hr hlocks hw hG (by decide) (by decide) dX2_puts_8)

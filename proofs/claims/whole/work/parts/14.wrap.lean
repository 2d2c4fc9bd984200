def wp_L_net (post : Int32 → gS → Prop) (p1 : Int32) (p2 : Int32) (g : gS) : Prop := wp_X2_net (fun r_2 g_1 => (vp_in (0 : Int32) 1 ∧ (∀ g_4 : gS, g_4 = gj g_1 18 ((0 : Int32).toNatClampNeg) r_2.toInt64 → (post 0 g_4)))) (fun u_ => ((u_.1 = "java/lang/IllegalArgumentException" ∧ (post 1 u_.2)) ∨ (u_.1 = "java/lang/IllegalStateException" ∧ (post 2 u_.2)))) p1 p2 g
set_option maxHeartbeats 4000000 in
set_option maxRecDepth 100000 in
theorem m_L_net {l : Launch} (hl9 : l.stackTraces = false) (D : va_G) (K : Nat → ClassId) (sa ad : Nat → Nat) (sz : Nat) (post : Int32 → gS → Prop) (p1 : Int32) (p2 : Int32) (g : gS) (hw : wp_L_net post p1 p2 g) : Met l yL_net wsL_net ({ frames := 7, cells := 1, slots := 6, locals := 113 } : Room) (gPc D K sa ad sz g [.ref (ad 0), .int p1, .int p2, .ref (ad 18)]) (va_Qi post (gB D K ad (va_A (gw K ad g) sz)) (va_A (gw K ad g) sz)) 1 6 (va_A (gw K ad g) sz) := by
  refine va_MetW (cc := cL_net) (maxL := 5) (ret := (some .int)) (hh := [(0, 10, 13, 13), (0, 10, 17, 15)]) (by decide) rfl ?_
  intro p e s m args below meth c s₁ B hml hv
  obtain ⟨rfl, hsz, hP, hE, hD0⟩ := hv
  have hx := B.exec
  have hb := B.bytes
  have hr := B.returns
  have hts := atoms_spec (ws := wsL_net) B.pre
  have hq : ∀ w ∈ gW, w.before _ s = true := fun w h => hts w (List.mem_cons_of_mem _ h)
  have hTab : c.exceptionTable.toList = tableOf [(0, 10, 13, 13), (0, 10, 17, 15)] := vx_table (x := yL_net) B (hts _ List.mem_cons_self)
  have hown : s.vm.findClass RL = some m.cls := findClass_of_methodNamed B.named
  have hlocks := B.notSynchronized
  subst hsz
  have hD := hD0.self (sz := s.heap.size)
  generalize hAe : va_A (gw K ad g) s.heap.size = A at hD hE ⊢
  have hA : ∀ q : Nat, s.heap.size ≤ q → A q := fun q h => by rw [← hAe]; exact Or.inr h
  have hK := hE.1
  have hG : gX D K ad A s.heap g s.heap [] := ⟨hP, hD, va_S.rf⟩
  have hl := lv_entry ([.ref (ad 0), .int p1, .int p2, .ref (ad 18)]) (n := 5) (Nat.le_of_ble_eq_true rfl)
  rw [lg_entry_eq]
  generalize (lg_sl ([.ref (ad 0), .int p1, .int p2, .ref (ad 18)]) ++ List.replicate (5 - (lg_sl ([.ref (ad 0), .int p1, .int p2, .ref (ad 18)])).length) Slot.unset).toArray = ls at hl ⊢
  have hl : lv_has ls 5 [(0, .ref (ad 0)), (1, .int p1), (2, .int p2), (3, .ref (ad 18))] := hl
  dsimp only [wp_L_net] at hw
  refine lv_aload_n hx hb dL_net_0 rfl (lv_at hl 3 rfl) ?_
  refine lv_iconst (v := 0) hx hb dL_net_1 (by decide) ?_
  refine lv_aload_n hx hb dL_net_2 rfl (lv_at hl 0 rfl) ?_
  refine lv_iload_n hx hb dL_net_3 rfl (lv_at hl 1 rfl) ?_
  refine lv_iload_n hx hb dL_net_4 rfl (lv_at hl 2 rfl) ?_
  refine g_xcalli (vx_runV (As := [.int p1, .int p2]) (rest := [.int 0, .ref (ad 18)]) ⟨hx, hb, hml, hown, hts⟩ (m_X2_net hl9 D K sa ad _ _ _ p1 p2 g hw) (cwV 2 hts (gGood gCons (gV q_165 q_166 q_167 q_20 q_168)) rfl rfl rfl (by decide +kernel) ⟨Nat.le_of_ble_eq_true rfl, Nat.le_of_ble_eq_true rfl⟩) ⟨gPc_blind, g_recv hK hG (gok_lo (by decide)) (gc_W) rfl, gPc_at hE hG hA⟩ rfl rfl hl.1 rfl (lv_room (Nat.le_of_ble_eq_true rfl)) dL_net_5 ⟨Nat.le_of_ble_eq_true rfl, Nat.le_of_ble_eq_true rfl⟩) hG hA (fun E_ ce_ q_ g_1 H locs hw hG h1_ h2_ h3_ => ?_) (fun r_2 g_1 H locs hw hG => ?_)
  · try dsimp only at hw
    rcases hw with ⟨e_, hw⟩ | ⟨e_, hw⟩
    · subst e_
      refine vx_catch (own := RL) (name := "java/lang/IllegalArgumentException") (E := "java/lang/IllegalArgumentException") hown [] ⟨0, 10, 13, 13⟩ [⟨0, 10, 17, 15⟩] (by rw [hTab]; rfl) (fun z hz => nomatch hz) (by decide) (by decide) (hq _ q_163) (va_Nw.use rfl (hE.2.2.2.2.1 ("java/lang/IllegalArgumentException", "java/lang/IllegalArgumentException") (by decide +kernel))) h1_ h2_ h3_ ?_
      refine lv_astore (lv' := [(4, .ref q_), (0, .ref (ad 0)), (1, .int p1), (2, .int p2), (3, .ref (ad 18))]) hx hb dL_net_13 hl (by decide) rfl (fun ls hl => ?_)
      refine lv_iconst (v := 1) hx hb dL_net_15 (by decide) ?_
      exact g_iret hx hb hr hlocks hw hG (by decide) (by decide) dL_net_16
    · subst e_
      refine vx_catch (own := RL) (name := "java/lang/IllegalStateException") (E := "java/lang/IllegalStateException") hown [⟨0, 10, 13, 13⟩] ⟨0, 10, 17, 15⟩ [] (by rw [hTab]; rfl) (by
        intro z hz
        rcases List.mem_cons.mp hz with rfl | hz
        · exact Or.inr ⟨by decide, "java/lang/IllegalArgumentException", hq _ q_163, hE.2.2.2.2.2.2.1 ("java/lang/IllegalStateException", "java/lang/IllegalArgumentException") (by decide +kernel)⟩
        cases hz) (by decide) (by decide) (hq _ q_164) (va_Nw.use rfl (hE.2.2.2.2.1 ("java/lang/IllegalStateException", "java/lang/IllegalStateException") (by decide +kernel))) h1_ h2_ h3_ ?_
      refine lv_astore (lv' := [(4, .ref q_), (0, .ref (ad 0)), (1, .int p1), (2, .int p2), (3, .ref (ad 18))]) hx hb dL_net_17 hl (by decide) rfl (fun ls hl => ?_)
      refine lv_iconst (v := 2) hx hb dL_net_19 (by decide) ?_
      exact g_iret hx hb hr hlocks hw hG (by decide) (by decide) dL_net_20
  try dsimp only at hw
  refine lv_i2l hx hb dL_net_8 rfl ?_
  obtain ⟨hi_3, hw⟩ := hw
  refine g_last hx hb hK hG (k := 18) (gok_lo (by decide)) (fun g => gc_18) (x := r_2.toInt64) hi_3 (gho_18) dL_net_9 (fun H locs hG => ?_)
  obtain ⟨g_4, eg_4⟩ : ∃ z, z = gj g_1 18 ((0 : Int32).toNatClampNeg) r_2.toInt64 := ⟨_, rfl⟩
  rw [← eg_4] at hG
  have hw := hw g_4 eg_4
  refine lv_goto (tgt := 21) hx hb dL_net_10 (by decide) ?_
  refine lv_iconst (v := 0) hx hb dL_net_21 (by decide) ?_
  exact g_iret hx hb hr hlocks hw hG (by decide) (by decide) dL_net_22

def wp_L_link (post : Int32 → gS → Prop) (p1 : Int32) (p2 : Int32) (g : gS) : Prop := wp_X2_link (fun r_2 g_1 => (vp_in (0 : Int32) 1 ∧ (∀ g_4 : gS, g_4 = gj g_1 18 ((0 : Int32).toNatClampNeg) r_2.toInt64 → (post 0 g_4)))) (fun u_ => ((u_.1 = "java/lang/IllegalArgumentException" ∧ (post 1 u_.2)))) p1 p2 g
set_option maxHeartbeats 4000000 in
set_option maxRecDepth 100000 in
theorem m_L_link {l : Launch} (hl9 : l.stackTraces = false) (D : va_G) (K : Nat → ClassId) (sa ad : Nat → Nat) (sz : Nat) (post : Int32 → gS → Prop) (p1 : Int32) (p2 : Int32) (g : gS) (hw : wp_L_link post p1 p2 g) : Met l yL_link wsL_link ({ frames := 8, cells := 1, slots := 6, locals := 134 } : Room) (gPc D K sa ad sz g [.ref (ad 0), .int p1, .int p2, .ref (ad 18)]) (va_Qi post (gB D K ad (va_A (gw K ad g) sz)) (va_A (gw K ad g) sz)) 1 6 (va_A (gw K ad g) sz) := by
  refine va_MetW (cc := cL_link) (maxL := 5) (ret := (some .int)) (hh := [(0, 10, 13, 13)]) (by decide) rfl ?_
  intro p e s m args below meth c s₁ B hml hv
  obtain ⟨rfl, hsz, hP, hE, hD0⟩ := hv
  have hx := B.exec
  have hb := B.bytes
  have hr := B.returns
  have hts := atoms_spec (ws := wsL_link) B.pre
  have hq : ∀ w ∈ gW, w.before _ s = true := fun w h => hts w (List.mem_cons_of_mem _ h)
  have hTab : c.exceptionTable.toList = tableOf [(0, 10, 13, 13)] := vx_table (x := yL_link) B (hts _ List.mem_cons_self)
  have hown : s.vm.findClass RL = some m.cls := findClass_of_methodNamed B.named
  have hlocks := B.notSynchronized
  subst hsz
  have hD := hD0.self (sz := s.heap.size)
  generalize hAe : va_A (gw K ad g) s.heap.size = A at hD hE ⊢
  have hA : ∀ q : Nat, s.heap.size ≤ q → A q := fun q h => by rw [← hAe]; exact Or.inr h
  have hK := hE.1
  have hG : gX D K ad A s.heap g s.heap [] := ⟨hP, hD, va_S.rf⟩
  have hl := lv_entry ([.ref (ad 0), .int p1, .int p2, .ref (ad 18)]) (n := 5) (Nat.le_of_ble_eq_true rfl)
  rw [lg_entry_eq]
  generalize (lg_sl ([.ref (ad 0), .int p1, .int p2, .ref (ad 18)]) ++ List.replicate (5 - (lg_sl ([.ref (ad 0), .int p1, .int p2, .ref (ad 18)])).length) Slot.unset).toArray = ls at hl ⊢
  have hl : lv_has ls 5 [(0, .ref (ad 0)), (1, .int p1), (2, .int p2), (3, .ref (ad 18))] := hl
  dsimp only [wp_L_link] at hw
  refine lv_aload_n hx hb dL_link_0 rfl (lv_at hl 3 rfl) ?_
  refine lv_iconst (v := 0) hx hb dL_link_1 (by decide) ?_
  refine lv_aload_n hx hb dL_link_2 rfl (lv_at hl 0 rfl) ?_
  refine lv_iload_n hx hb dL_link_3 rfl (lv_at hl 1 rfl) ?_
  refine lv_iload_n hx hb dL_link_4 rfl (lv_at hl 2 rfl) ?_
  refine g_xcalli (vx_runV (As := [.int p1, .int p2]) (rest := [.int 0, .ref (ad 18)]) ⟨hx, hb, hml, hown, hts⟩ (m_X2_link hl9 D K sa ad _ _ _ p1 p2 g hw) (cwV 2 hts (gGood gCons (gV q_260 q_261 q_262 q_20 q_263)) rfl rfl rfl (by decide +kernel) ⟨Nat.le_of_ble_eq_true rfl, Nat.le_of_ble_eq_true rfl⟩) ⟨gPc_blind, g_recv hK hG (gok_lo (by decide)) (gc_W) rfl, gPc_at hE hG hA⟩ rfl rfl hl.1 rfl (lv_room (Nat.le_of_ble_eq_true rfl)) dL_link_5 ⟨Nat.le_of_ble_eq_true rfl, Nat.le_of_ble_eq_true rfl⟩) hG hA (fun E_ ce_ q_ g_1 H locs hw hG h1_ h2_ h3_ => ?_) (fun r_2 g_1 H locs hw hG => ?_)
  · try dsimp only at hw
    rcases hw with ⟨e_, hw⟩
    · subst e_
      refine vx_catch (own := RL) (name := "java/lang/IllegalArgumentException") (E := "java/lang/IllegalArgumentException") hown [] ⟨0, 10, 13, 13⟩ [] (by rw [hTab]; rfl) (fun z hz => nomatch hz) (by decide) (by decide) (hq _ q_163) (va_Nw.use rfl (hE.2.2.2.2.1 ("java/lang/IllegalArgumentException", "java/lang/IllegalArgumentException") (by decide +kernel))) h1_ h2_ h3_ ?_
      refine lv_astore (lv' := [(4, .ref q_), (0, .ref (ad 0)), (1, .int p1), (2, .int p2), (3, .ref (ad 18))]) hx hb dL_link_13 hl (by decide) rfl (fun ls hl => ?_)
      refine lv_iconst (v := 1) hx hb dL_link_15 (by decide) ?_
      exact g_iret hx hb hr hlocks hw hG (by decide) (by decide) dL_link_16
  try dsimp only at hw
  refine lv_i2l hx hb dL_link_8 rfl ?_
  obtain ⟨hi_3, hw⟩ := hw
  refine g_last hx hb hK hG (k := 18) (gok_lo (by decide)) (fun g => gc_18) (x := r_2.toInt64) hi_3 (gho_18) dL_link_9 (fun H locs hG => ?_)
  obtain ⟨g_4, eg_4⟩ : ∃ z, z = gj g_1 18 ((0 : Int32).toNatClampNeg) r_2.toInt64 := ⟨_, rfl⟩
  rw [← eg_4] at hG
  have hw := hw g_4 eg_4
  refine lv_goto (tgt := 17) hx hb dL_link_10 (by decide) ?_
  refine lv_iconst (v := 0) hx hb dL_link_17 (by decide) ?_
  exact g_iret hx hb hr hlocks hw hG (by decide) (by decide) dL_link_18

def wp_L_fates (post : Int32 → gS → Prop) (p1 : Int32) (p2 : Int64) (p3 : Int32) (g : gS) : Prop := wp_X2_fates (fun r_2 g_1 => (vp_in (0 : Int32) 1 ∧ (∀ g_4 : gS, g_4 = gj g_1 18 ((0 : Int32).toNatClampNeg) r_2.toInt64 → (post 0 g_4)))) (fun u_ => ((u_.1 = "java/lang/IllegalArgumentException" ∧ (post 1 u_.2)) ∨ (u_.1 = "java/lang/IllegalStateException" ∧ (post 2 u_.2)))) p1 p2 p3 g
set_option maxHeartbeats 4000000 in
set_option maxRecDepth 100000 in
theorem m_L_fates {l : Launch} (hl9 : l.stackTraces = false) (D : va_G) (K : Nat → ClassId) (sa ad : Nat → Nat) (sz : Nat) (post : Int32 → gS → Prop) (p1 : Int32) (p2 : Int64) (p3 : Int32) (g : gS) (hw : wp_L_fates post p1 p2 p3 g) : Met l yL_fates wsL_fates ({ frames := 8, cells := 2, slots := 12, locals := 138 } : Room) (gPc D K sa ad sz g [.ref (ad 0), .int p1, .long p2, .int p3, .ref (ad 18)]) (va_Qi post (gB D K ad (va_A (gw K ad g) sz)) (va_A (gw K ad g) sz)) 2 12 (va_A (gw K ad g) sz) := by
  refine va_MetW (cc := cL_fates) (maxL := 7) (ret := (some .int)) (hh := [(0, 13, 16, 13), (0, 13, 20, 15)]) (by decide) rfl ?_
  intro p e s m args below meth c s₁ B hml hv
  obtain ⟨rfl, hsz, hP, hE, hD0⟩ := hv
  have hx := B.exec
  have hb := B.bytes
  have hr := B.returns
  have hts := atoms_spec (ws := wsL_fates) B.pre
  have hq : ∀ w ∈ gW, w.before _ s = true := fun w h => hts w (List.mem_cons_of_mem _ h)
  have hTab : c.exceptionTable.toList = tableOf [(0, 13, 16, 13), (0, 13, 20, 15)] := vx_table (x := yL_fates) B (hts _ List.mem_cons_self)
  have hown : s.vm.findClass RL = some m.cls := findClass_of_methodNamed B.named
  have hlocks := B.notSynchronized
  subst hsz
  have hD := hD0.self (sz := s.heap.size)
  generalize hAe : va_A (gw K ad g) s.heap.size = A at hD hE ⊢
  have hA : ∀ q : Nat, s.heap.size ≤ q → A q := fun q h => by rw [← hAe]; exact Or.inr h
  have hK := hE.1
  have hG : gX D K ad A s.heap g s.heap [] := ⟨hP, hD, va_S.rf⟩
  have hl := lv_entry ([.ref (ad 0), .int p1, .long p2, .int p3, .ref (ad 18)]) (n := 7) (Nat.le_of_ble_eq_true rfl)
  rw [lg_entry_eq]
  generalize (lg_sl ([.ref (ad 0), .int p1, .long p2, .int p3, .ref (ad 18)]) ++ List.replicate (7 - (lg_sl ([.ref (ad 0), .int p1, .long p2, .int p3, .ref (ad 18)])).length) Slot.unset).toArray = ls at hl ⊢
  have hl : lv_has ls 7 [(0, .ref (ad 0)), (1, .int p1), (2, .long p2), (4, .int p3), (5, .ref (ad 18))] := hl
  dsimp only [wp_L_fates] at hw
  refine lv_aload hx hb dL_fates_0 (lv_at hl 4 rfl) ?_
  refine lv_iconst (v := 0) hx hb dL_fates_2 (by decide) ?_
  refine lv_aload_n hx hb dL_fates_3 rfl (lv_at hl 0 rfl) ?_
  refine lv_iload_n hx hb dL_fates_4 rfl (lv_at hl 1 rfl) ?_
  refine lv_lload_n hx hb dL_fates_5 rfl (lv_at hl 2 rfl) ?_
  refine lv_iload hx hb dL_fates_6 (lv_at hl 3 rfl) ?_
  refine g_xcalli (vx_runV (As := [.int p1, .long p2, .int p3]) (rest := [.int 0, .ref (ad 18)]) ⟨hx, hb, hml, hown, hts⟩ (m_X2_fates hl9 D K sa ad _ _ _ p1 p2 p3 g hw) (cwV 3 hts (gGood gCons (gV q_276 q_277 q_278 q_20 q_279)) rfl rfl rfl (by decide +kernel) ⟨Nat.le_of_ble_eq_true rfl, Nat.le_of_ble_eq_true rfl⟩) ⟨gPc_blind, g_recv hK hG (gok_lo (by decide)) (gc_W) rfl, gPc_at hE hG hA⟩ rfl rfl hl.1 rfl (lv_room (Nat.le_of_ble_eq_true rfl)) dL_fates_8 ⟨Nat.le_of_ble_eq_true rfl, Nat.le_of_ble_eq_true rfl⟩) hG hA (fun E_ ce_ q_ g_1 H locs hw hG h1_ h2_ h3_ => ?_) (fun r_2 g_1 H locs hw hG => ?_)
  · try dsimp only at hw
    rcases hw with ⟨e_, hw⟩ | ⟨e_, hw⟩
    · subst e_
      refine vx_catch (own := RL) (name := "java/lang/IllegalArgumentException") (E := "java/lang/IllegalArgumentException") hown [] ⟨0, 13, 16, 13⟩ [⟨0, 13, 20, 15⟩] (by rw [hTab]; rfl) (fun z hz => nomatch hz) (by decide) (by decide) (hq _ q_163) (va_Nw.use rfl (hE.2.2.2.2.1 ("java/lang/IllegalArgumentException", "java/lang/IllegalArgumentException") (by decide +kernel))) h1_ h2_ h3_ ?_
      refine lv_astore (lv' := [(6, .ref q_), (0, .ref (ad 0)), (1, .int p1), (2, .long p2), (4, .int p3), (5, .ref (ad 18))]) hx hb dL_fates_16 hl (by decide) rfl (fun ls hl => ?_)
      refine lv_iconst (v := 1) hx hb dL_fates_18 (by decide) ?_
      exact g_iret hx hb hr hlocks hw hG (by decide) (by decide) dL_fates_19
    · subst e_
      refine vx_catch (own := RL) (name := "java/lang/IllegalStateException") (E := "java/lang/IllegalStateException") hown [⟨0, 13, 16, 13⟩] ⟨0, 13, 20, 15⟩ [] (by rw [hTab]; rfl) (by
        intro z hz
        rcases List.mem_cons.mp hz with rfl | hz
        · exact Or.inr ⟨by decide, "java/lang/IllegalArgumentException", hq _ q_163, hE.2.2.2.2.2.2.1 ("java/lang/IllegalStateException", "java/lang/IllegalArgumentException") (by decide +kernel)⟩
        cases hz) (by decide) (by decide) (hq _ q_164) (va_Nw.use rfl (hE.2.2.2.2.1 ("java/lang/IllegalStateException", "java/lang/IllegalStateException") (by decide +kernel))) h1_ h2_ h3_ ?_
      refine lv_astore (lv' := [(6, .ref q_), (0, .ref (ad 0)), (1, .int p1), (2, .long p2), (4, .int p3), (5, .ref (ad 18))]) hx hb dL_fates_20 hl (by decide) rfl (fun ls hl => ?_)
      refine lv_iconst (v := 2) hx hb dL_fates_22 (by decide) ?_
      exact g_iret hx hb hr hlocks hw hG (by decide) (by decide) dL_fates_23
  try dsimp only at hw
  refine lv_i2l hx hb dL_fates_11 rfl ?_
  obtain ⟨hi_3, hw⟩ := hw
  refine g_last hx hb hK hG (k := 18) (gok_lo (by decide)) (fun g => gc_18) (x := r_2.toInt64) hi_3 (gho_18) dL_fates_12 (fun H locs hG => ?_)
  obtain ⟨g_4, eg_4⟩ : ∃ z, z = gj g_1 18 ((0 : Int32).toNatClampNeg) r_2.toInt64 := ⟨_, rfl⟩
  rw [← eg_4] at hG
  have hw := hw g_4 eg_4
  refine lv_goto (tgt := 24) hx hb dL_fates_13 (by decide) ?_
  refine lv_iconst (v := 0) hx hb dL_fates_24 (by decide) ?_
  exact g_iret hx hb hr hlocks hw hG (by decide) (by decide) dL_fates_25

def wp_L_feed (post : Int32 → gS → Prop) (p1 : Int64) (p2 : Int32) (g : gS) : Prop := wp_X2_feed (fun r_2 g_1 => (vp_in (0 : Int32) 1 ∧ (∀ g_4 : gS, g_4 = gj g_1 18 ((0 : Int32).toNatClampNeg) r_2.toInt64 → (post 0 g_4)))) (fun u_ => ((u_.1 = "java/lang/IllegalArgumentException" ∧ (post 1 u_.2)) ∨ (u_.1 = "java/lang/IllegalStateException" ∧ (post 2 u_.2)))) p1 p2 g
set_option maxHeartbeats 4000000 in
set_option maxRecDepth 100000 in
theorem m_L_feed {l : Launch} (hl9 : l.stackTraces = false) (D : va_G) (K : Nat → ClassId) (sa ad : Nat → Nat) (sz : Nat) (post : Int32 → gS → Prop) (p1 : Int64) (p2 : Int32) (g : gS) (hw : wp_L_feed post p1 p2 g) : Met l yL_feed wsL_feed ({ frames := 7, cells := 1, slots := 6, locals := 115 } : Room) (gPc D K sa ad sz g [.ref (ad 0), .long p1, .int p2, .ref (ad 18)]) (va_Qi post (gB D K ad (va_A (gw K ad g) sz)) (va_A (gw K ad g) sz)) 1 6 (va_A (gw K ad g) sz) := by
  refine va_MetW (cc := cL_feed) (maxL := 6) (ret := (some .int)) (hh := [(0, 11, 14, 13), (0, 11, 18, 15)]) (by decide) rfl ?_
  intro p e s m args below meth c s₁ B hml hv
  obtain ⟨rfl, hsz, hP, hE, hD0⟩ := hv
  have hx := B.exec
  have hb := B.bytes
  have hr := B.returns
  have hts := atoms_spec (ws := wsL_feed) B.pre
  have hq : ∀ w ∈ gW, w.before _ s = true := fun w h => hts w (List.mem_cons_of_mem _ h)
  have hTab : c.exceptionTable.toList = tableOf [(0, 11, 14, 13), (0, 11, 18, 15)] := vx_table (x := yL_feed) B (hts _ List.mem_cons_self)
  have hown : s.vm.findClass RL = some m.cls := findClass_of_methodNamed B.named
  have hlocks := B.notSynchronized
  subst hsz
  have hD := hD0.self (sz := s.heap.size)
  generalize hAe : va_A (gw K ad g) s.heap.size = A at hD hE ⊢
  have hA : ∀ q : Nat, s.heap.size ≤ q → A q := fun q h => by rw [← hAe]; exact Or.inr h
  have hK := hE.1
  have hG : gX D K ad A s.heap g s.heap [] := ⟨hP, hD, va_S.rf⟩
  have hl := lv_entry ([.ref (ad 0), .long p1, .int p2, .ref (ad 18)]) (n := 6) (Nat.le_of_ble_eq_true rfl)
  rw [lg_entry_eq]
  generalize (lg_sl ([.ref (ad 0), .long p1, .int p2, .ref (ad 18)]) ++ List.replicate (6 - (lg_sl ([.ref (ad 0), .long p1, .int p2, .ref (ad 18)])).length) Slot.unset).toArray = ls at hl ⊢
  have hl : lv_has ls 6 [(0, .ref (ad 0)), (1, .long p1), (3, .int p2), (4, .ref (ad 18))] := hl
  dsimp only [wp_L_feed] at hw
  refine lv_aload hx hb dL_feed_0 (lv_at hl 3 rfl) ?_
  refine lv_iconst (v := 0) hx hb dL_feed_2 (by decide) ?_
  refine lv_aload_n hx hb dL_feed_3 rfl (lv_at hl 0 rfl) ?_
  refine lv_lload_n hx hb dL_feed_4 rfl (lv_at hl 1 rfl) ?_
  refine lv_iload_n hx hb dL_feed_5 rfl (lv_at hl 2 rfl) ?_
  refine g_xcalli (vx_runV (As := [.long p1, .int p2]) (rest := [.int 0, .ref (ad 18)]) ⟨hx, hb, hml, hown, hts⟩ (m_X2_feed hl9 D K sa ad _ _ _ p1 p2 g hw) (cwV 2 hts (gGood gCons (gV q_289 q_290 q_291 q_20 q_292)) rfl rfl rfl (by decide +kernel) ⟨Nat.le_of_ble_eq_true rfl, Nat.le_of_ble_eq_true rfl⟩) ⟨gPc_blind, g_recv hK hG (gok_lo (by decide)) (gc_W) rfl, gPc_at hE hG hA⟩ rfl rfl hl.1 rfl (lv_room (Nat.le_of_ble_eq_true rfl)) dL_feed_6 ⟨Nat.le_of_ble_eq_true rfl, Nat.le_of_ble_eq_true rfl⟩) hG hA (fun E_ ce_ q_ g_1 H locs hw hG h1_ h2_ h3_ => ?_) (fun r_2 g_1 H locs hw hG => ?_)
  · try dsimp only at hw
    rcases hw with ⟨e_, hw⟩ | ⟨e_, hw⟩
    · subst e_
      refine vx_catch (own := RL) (name := "java/lang/IllegalArgumentException") (E := "java/lang/IllegalArgumentException") hown [] ⟨0, 11, 14, 13⟩ [⟨0, 11, 18, 15⟩] (by rw [hTab]; rfl) (fun z hz => nomatch hz) (by decide) (by decide) (hq _ q_163) (va_Nw.use rfl (hE.2.2.2.2.1 ("java/lang/IllegalArgumentException", "java/lang/IllegalArgumentException") (by decide +kernel))) h1_ h2_ h3_ ?_
      refine lv_astore (lv' := [(5, .ref q_), (0, .ref (ad 0)), (1, .long p1), (3, .int p2), (4, .ref (ad 18))]) hx hb dL_feed_14 hl (by decide) rfl (fun ls hl => ?_)
      refine lv_iconst (v := 1) hx hb dL_feed_16 (by decide) ?_
      exact g_iret hx hb hr hlocks hw hG (by decide) (by decide) dL_feed_17
    · subst e_
      refine vx_catch (own := RL) (name := "java/lang/IllegalStateException") (E := "java/lang/IllegalStateException") hown [⟨0, 11, 14, 13⟩] ⟨0, 11, 18, 15⟩ [] (by rw [hTab]; rfl) (by
        intro z hz
        rcases List.mem_cons.mp hz with rfl | hz
        · exact Or.inr ⟨by decide, "java/lang/IllegalArgumentException", hq _ q_163, hE.2.2.2.2.2.2.1 ("java/lang/IllegalStateException", "java/lang/IllegalArgumentException") (by decide +kernel)⟩
        cases hz) (by decide) (by decide) (hq _ q_164) (va_Nw.use rfl (hE.2.2.2.2.1 ("java/lang/IllegalStateException", "java/lang/IllegalStateException") (by decide +kernel))) h1_ h2_ h3_ ?_
      refine lv_astore (lv' := [(5, .ref q_), (0, .ref (ad 0)), (1, .long p1), (3, .int p2), (4, .ref (ad 18))]) hx hb dL_feed_18 hl (by decide) rfl (fun ls hl => ?_)
      refine lv_iconst (v := 2) hx hb dL_feed_20 (by decide) ?_
      exact g_iret hx hb hr hlocks hw hG (by decide) (by decide) dL_feed_21
  try dsimp only at hw
  refine lv_i2l hx hb dL_feed_9 rfl ?_
  obtain ⟨hi_3, hw⟩ := hw
  refine g_last hx hb hK hG (k := 18) (gok_lo (by decide)) (fun g => gc_18) (x := r_2.toInt64) hi_3 (gho_18) dL_feed_10 (fun H locs hG => ?_)
  obtain ⟨g_4, eg_4⟩ : ∃ z, z = gj g_1 18 ((0 : Int32).toNatClampNeg) r_2.toInt64 := ⟨_, rfl⟩
  rw [← eg_4] at hG
  have hw := hw g_4 eg_4
  refine lv_goto (tgt := 22) hx hb dL_feed_11 (by decide) ?_
  refine lv_iconst (v := 0) hx hb dL_feed_22 (by decide) ?_
  exact g_iret hx hb hr hlocks hw hG (by decide) (by decide) dL_feed_23

def wp_L_put (post : Int32 → gS → Prop) (p1 : Int32) (p2 : Int32) (p3 : Int32) (p4 : Int32) (g : gS) : Prop := wp_X2_put (fun r_2 g_1 => (vp_in (0 : Int32) 1 ∧ (∀ g_4 : gS, g_4 = gj g_1 18 ((0 : Int32).toNatClampNeg) r_2.toInt64 → (post 0 g_4)))) (fun u_ => ((u_.1 = "java/lang/IllegalArgumentException" ∧ (post 1 u_.2)))) p1 p2 p3 p4 g
set_option maxHeartbeats 4000000 in
set_option maxRecDepth 100000 in
theorem m_L_put {l : Launch} (hl9 : l.stackTraces = false) (D : va_G) (K : Nat → ClassId) (sa ad : Nat → Nat) (sz : Nat) (post : Int32 → gS → Prop) (p1 : Int32) (p2 : Int32) (p3 : Int32) (p4 : Int32) (g : gS) (hw : wp_L_put post p1 p2 p3 p4 g) : Met l yL_put wsL_put ({ frames := 8, cells := 2, slots := 12, locals := 141 } : Room) (gPc D K sa ad sz g [.ref (ad 0), .int p1, .int p2, .int p3, .int p4, .ref (ad 18)]) (va_Qi post (gB D K ad (va_A (gw K ad g) sz)) (va_A (gw K ad g) sz)) 2 12 (va_A (gw K ad g) sz) := by
  refine va_MetW (cc := cL_put) (maxL := 7) (ret := (some .int)) (hh := [(0, 14, 17, 13)]) (by decide) rfl ?_
  intro p e s m args below meth c s₁ B hml hv
  obtain ⟨rfl, hsz, hP, hE, hD0⟩ := hv
  have hx := B.exec
  have hb := B.bytes
  have hr := B.returns
  have hts := atoms_spec (ws := wsL_put) B.pre
  have hq : ∀ w ∈ gW, w.before _ s = true := fun w h => hts w (List.mem_cons_of_mem _ h)
  have hTab : c.exceptionTable.toList = tableOf [(0, 14, 17, 13)] := vx_table (x := yL_put) B (hts _ List.mem_cons_self)
  have hown : s.vm.findClass RL = some m.cls := findClass_of_methodNamed B.named
  have hlocks := B.notSynchronized
  subst hsz
  have hD := hD0.self (sz := s.heap.size)
  generalize hAe : va_A (gw K ad g) s.heap.size = A at hD hE ⊢
  have hA : ∀ q : Nat, s.heap.size ≤ q → A q := fun q h => by rw [← hAe]; exact Or.inr h
  have hK := hE.1
  have hG : gX D K ad A s.heap g s.heap [] := ⟨hP, hD, va_S.rf⟩
  have hl := lv_entry ([.ref (ad 0), .int p1, .int p2, .int p3, .int p4, .ref (ad 18)]) (n := 7) (Nat.le_of_ble_eq_true rfl)
  rw [lg_entry_eq]
  generalize (lg_sl ([.ref (ad 0), .int p1, .int p2, .int p3, .int p4, .ref (ad 18)]) ++ List.replicate (7 - (lg_sl ([.ref (ad 0), .int p1, .int p2, .int p3, .int p4, .ref (ad 18)])).length) Slot.unset).toArray = ls at hl ⊢
  have hl : lv_has ls 7 [(0, .ref (ad 0)), (1, .int p1), (2, .int p2), (3, .int p3), (4, .int p4), (5, .ref (ad 18))] := hl
  dsimp only [wp_L_put] at hw
  refine lv_aload hx hb dL_put_0 (lv_at hl 5 rfl) ?_
  refine lv_iconst (v := 0) hx hb dL_put_2 (by decide) ?_
  refine lv_aload_n hx hb dL_put_3 rfl (lv_at hl 0 rfl) ?_
  refine lv_iload_n hx hb dL_put_4 rfl (lv_at hl 1 rfl) ?_
  refine lv_iload_n hx hb dL_put_5 rfl (lv_at hl 2 rfl) ?_
  refine lv_iload_n hx hb dL_put_6 rfl (lv_at hl 3 rfl) ?_
  refine lv_iload hx hb dL_put_7 (lv_at hl 4 rfl) ?_
  refine g_xcalli (vx_runV (As := [.int p1, .int p2, .int p3, .int p4]) (rest := [.int 0, .ref (ad 18)]) ⟨hx, hb, hml, hown, hts⟩ (m_X2_put hl9 D K sa ad _ _ _ p1 p2 p3 p4 g hw) (cwV 4 hts (gGood gCons (gV q_301 q_302 q_303 q_20 q_304)) rfl rfl rfl (by decide +kernel) ⟨Nat.le_of_ble_eq_true rfl, Nat.le_of_ble_eq_true rfl⟩) ⟨gPc_blind, g_recv hK hG (gok_lo (by decide)) (gc_W) rfl, gPc_at hE hG hA⟩ rfl rfl hl.1 rfl (lv_room (Nat.le_of_ble_eq_true rfl)) dL_put_9 ⟨Nat.le_of_ble_eq_true rfl, Nat.le_of_ble_eq_true rfl⟩) hG hA (fun E_ ce_ q_ g_1 H locs hw hG h1_ h2_ h3_ => ?_) (fun r_2 g_1 H locs hw hG => ?_)
  · try dsimp only at hw
    rcases hw with ⟨e_, hw⟩
    · subst e_
      refine vx_catch (own := RL) (name := "java/lang/IllegalArgumentException") (E := "java/lang/IllegalArgumentException") hown [] ⟨0, 14, 17, 13⟩ [] (by rw [hTab]; rfl) (fun z hz => nomatch hz) (by decide) (by decide) (hq _ q_163) (va_Nw.use rfl (hE.2.2.2.2.1 ("java/lang/IllegalArgumentException", "java/lang/IllegalArgumentException") (by decide +kernel))) h1_ h2_ h3_ ?_
      refine lv_astore (lv' := [(6, .ref q_), (0, .ref (ad 0)), (1, .int p1), (2, .int p2), (3, .int p3), (4, .int p4), (5, .ref (ad 18))]) hx hb dL_put_17 hl (by decide) rfl (fun ls hl => ?_)
      refine lv_iconst (v := 1) hx hb dL_put_19 (by decide) ?_
      exact g_iret hx hb hr hlocks hw hG (by decide) (by decide) dL_put_20
  try dsimp only at hw
  refine lv_i2l hx hb dL_put_12 rfl ?_
  obtain ⟨hi_3, hw⟩ := hw
  refine g_last hx hb hK hG (k := 18) (gok_lo (by decide)) (fun g => gc_18) (x := r_2.toInt64) hi_3 (gho_18) dL_put_13 (fun H locs hG => ?_)
  obtain ⟨g_4, eg_4⟩ : ∃ z, z = gj g_1 18 ((0 : Int32).toNatClampNeg) r_2.toInt64 := ⟨_, rfl⟩
  rw [← eg_4] at hG
  have hw := hw g_4 eg_4
  refine lv_goto (tgt := 21) hx hb dL_put_14 (by decide) ?_
  refine lv_iconst (v := 0) hx hb dL_put_21 (by decide) ?_
  exact g_iret hx hb hr hlocks hw hG (by decide) (by decide) dL_put_22

def wp_L_pass (post : Int32 → gS → Prop) (p1 : Int32) (g : gS) : Prop := wp_X2_pass (fun r_2 g_1 => (vp_in (0 : Int32) 1 ∧ (∀ g_4 : gS, g_4 = gj g_1 18 ((0 : Int32).toNatClampNeg) r_2.toInt64 → (post 0 g_4)))) (fun u_ => ((u_.1 = "java/lang/IllegalArgumentException" ∧ (post 1 u_.2)) ∨ (u_.1 = "java/lang/IllegalStateException" ∧ (post 2 u_.2)))) p1 g
set_option maxHeartbeats 4000000 in
set_option maxRecDepth 100000 in
theorem m_L_pass {l : Launch} (hl9 : l.stackTraces = false) (D : va_G) (K : Nat → ClassId) (sa ad : Nat → Nat) (sz : Nat) (post : Int32 → gS → Prop) (p1 : Int32) (g : gS) (hw : wp_L_pass post p1 g) : Met l yL_pass wsL_pass ({ frames := 7, cells := 1, slots := 6, locals := 112 } : Room) (gPc D K sa ad sz g [.ref (ad 0), .int p1, .ref (ad 18)]) (va_Qi post (gB D K ad (va_A (gw K ad g) sz)) (va_A (gw K ad g) sz)) 1 6 (va_A (gw K ad g) sz) := by
  refine va_MetW (cc := cL_pass) (maxL := 4) (ret := (some .int)) (hh := [(0, 9, 12, 13), (0, 9, 15, 15)]) (by decide) rfl ?_
  intro p e s m args below meth c s₁ B hml hv
  obtain ⟨rfl, hsz, hP, hE, hD0⟩ := hv
  have hx := B.exec
  have hb := B.bytes
  have hr := B.returns
  have hts := atoms_spec (ws := wsL_pass) B.pre
  have hq : ∀ w ∈ gW, w.before _ s = true := fun w h => hts w (List.mem_cons_of_mem _ h)
  have hTab : c.exceptionTable.toList = tableOf [(0, 9, 12, 13), (0, 9, 15, 15)] := vx_table (x := yL_pass) B (hts _ List.mem_cons_self)
  have hown : s.vm.findClass RL = some m.cls := findClass_of_methodNamed B.named
  have hlocks := B.notSynchronized
  subst hsz
  have hD := hD0.self (sz := s.heap.size)
  generalize hAe : va_A (gw K ad g) s.heap.size = A at hD hE ⊢
  have hA : ∀ q : Nat, s.heap.size ≤ q → A q := fun q h => by rw [← hAe]; exact Or.inr h
  have hK := hE.1
  have hG : gX D K ad A s.heap g s.heap [] := ⟨hP, hD, va_S.rf⟩
  have hl := lv_entry ([.ref (ad 0), .int p1, .ref (ad 18)]) (n := 4) (Nat.le_of_ble_eq_true rfl)
  rw [lg_entry_eq]
  generalize (lg_sl ([.ref (ad 0), .int p1, .ref (ad 18)]) ++ List.replicate (4 - (lg_sl ([.ref (ad 0), .int p1, .ref (ad 18)])).length) Slot.unset).toArray = ls at hl ⊢
  have hl : lv_has ls 4 [(0, .ref (ad 0)), (1, .int p1), (2, .ref (ad 18))] := hl
  dsimp only [wp_L_pass] at hw
  refine lv_aload_n hx hb dL_pass_0 rfl (lv_at hl 2 rfl) ?_
  refine lv_iconst (v := 0) hx hb dL_pass_1 (by decide) ?_
  refine lv_aload_n hx hb dL_pass_2 rfl (lv_at hl 0 rfl) ?_
  refine lv_iload_n hx hb dL_pass_3 rfl (lv_at hl 1 rfl) ?_
  refine g_xcalli (vx_runV (As := [.int p1]) (rest := [.int 0, .ref (ad 18)]) ⟨hx, hb, hml, hown, hts⟩ (m_X2_pass hl9 D K sa ad _ _ _ p1 g hw) (cwV 1 hts (gGood gCons (gV q_348 q_349 q_350 q_20 q_351)) rfl rfl rfl (by decide +kernel) ⟨Nat.le_of_ble_eq_true rfl, Nat.le_of_ble_eq_true rfl⟩) ⟨gPc_blind, g_recv hK hG (gok_lo (by decide)) (gc_W) rfl, gPc_at hE hG hA⟩ rfl rfl hl.1 rfl (lv_room (Nat.le_of_ble_eq_true rfl)) dL_pass_4 ⟨Nat.le_of_ble_eq_true rfl, Nat.le_of_ble_eq_true rfl⟩) hG hA (fun E_ ce_ q_ g_1 H locs hw hG h1_ h2_ h3_ => ?_) (fun r_2 g_1 H locs hw hG => ?_)
  · try dsimp only at hw
    rcases hw with ⟨e_, hw⟩ | ⟨e_, hw⟩
    · subst e_
      refine vx_catch (own := RL) (name := "java/lang/IllegalArgumentException") (E := "java/lang/IllegalArgumentException") hown [] ⟨0, 9, 12, 13⟩ [⟨0, 9, 15, 15⟩] (by rw [hTab]; rfl) (fun z hz => nomatch hz) (by decide) (by decide) (hq _ q_163) (va_Nw.use rfl (hE.2.2.2.2.1 ("java/lang/IllegalArgumentException", "java/lang/IllegalArgumentException") (by decide +kernel))) h1_ h2_ h3_ ?_
      refine lv_astore_n (lv' := [(3, .ref q_), (0, .ref (ad 0)), (1, .int p1), (2, .ref (ad 18))]) hx hb dL_pass_12 rfl hl (by decide) rfl (fun ls hl => ?_)
      refine lv_iconst (v := 1) hx hb dL_pass_13 (by decide) ?_
      exact g_iret hx hb hr hlocks hw hG (by decide) (by decide) dL_pass_14
    · subst e_
      refine vx_catch (own := RL) (name := "java/lang/IllegalStateException") (E := "java/lang/IllegalStateException") hown [⟨0, 9, 12, 13⟩] ⟨0, 9, 15, 15⟩ [] (by rw [hTab]; rfl) (by
        intro z hz
        rcases List.mem_cons.mp hz with rfl | hz
        · exact Or.inr ⟨by decide, "java/lang/IllegalArgumentException", hq _ q_163, hE.2.2.2.2.2.2.1 ("java/lang/IllegalStateException", "java/lang/IllegalArgumentException") (by decide +kernel)⟩
        cases hz) (by decide) (by decide) (hq _ q_164) (va_Nw.use rfl (hE.2.2.2.2.1 ("java/lang/IllegalStateException", "java/lang/IllegalStateException") (by decide +kernel))) h1_ h2_ h3_ ?_
      refine lv_astore_n (lv' := [(3, .ref q_), (0, .ref (ad 0)), (1, .int p1), (2, .ref (ad 18))]) hx hb dL_pass_15 rfl hl (by decide) rfl (fun ls hl => ?_)
      refine lv_iconst (v := 2) hx hb dL_pass_16 (by decide) ?_
      exact g_iret hx hb hr hlocks hw hG (by decide) (by decide) dL_pass_17
  try dsimp only at hw
  refine lv_i2l hx hb dL_pass_7 rfl ?_
  obtain ⟨hi_3, hw⟩ := hw
  refine g_last hx hb hK hG (k := 18) (gok_lo (by decide)) (fun g => gc_18) (x := r_2.toInt64) hi_3 (gho_18) dL_pass_8 (fun H locs hG => ?_)
  obtain ⟨g_4, eg_4⟩ : ∃ z, z = gj g_1 18 ((0 : Int32).toNatClampNeg) r_2.toInt64 := ⟨_, rfl⟩
  rw [← eg_4] at hG
  have hw := hw g_4 eg_4
  refine lv_goto (tgt := 18) hx hb dL_pass_9 (by decide) ?_
  refine lv_iconst (v := 0) hx hb dL_pass_18 (by decide) ?_
  exact g_iret hx hb hr hlocks hw hG (by decide) (by decide) dL_pass_19

def wp_L_arrival (post : Int32 → gS → Prop) (p1 : Int32) (g : gS) : Prop := wp_X2_arrival (fun r_2 g_1 => (vp_in (0 : Int32) 1 ∧ (∀ g_4 : gS, g_4 = gj g_1 18 ((0 : Int32).toNatClampNeg) r_2.toInt64 → (post 0 g_4)))) (fun u_ => ((u_.1 = "java/lang/IllegalArgumentException" ∧ (post 1 u_.2)) ∨ (u_.1 = "java/lang/IllegalStateException" ∧ (post 2 u_.2)))) p1 g
set_option maxHeartbeats 4000000 in
set_option maxRecDepth 100000 in
theorem m_L_arrival {l : Launch} (hl9 : l.stackTraces = false) (D : va_G) (K : Nat → ClassId) (sa ad : Nat → Nat) (sz : Nat) (post : Int32 → gS → Prop) (p1 : Int32) (g : gS) (hw : wp_L_arrival post p1 g) : Met l yL_arrival wsL_arrival ({ frames := 7, cells := 1, slots := 6, locals := 112 } : Room) (gPc D K sa ad sz g [.ref (ad 0), .int p1, .ref (ad 18)]) (va_Qi post (gB D K ad (va_A (gw K ad g) sz)) (va_A (gw K ad g) sz)) 1 6 (va_A (gw K ad g) sz) := by
  refine va_MetW (cc := cL_arrival) (maxL := 4) (ret := (some .int)) (hh := [(0, 9, 12, 13), (0, 9, 15, 15)]) (by decide) rfl ?_
  intro p e s m args below meth c s₁ B hml hv
  obtain ⟨rfl, hsz, hP, hE, hD0⟩ := hv
  have hx := B.exec
  have hb := B.bytes
  have hr := B.returns
  have hts := atoms_spec (ws := wsL_arrival) B.pre
  have hq : ∀ w ∈ gW, w.before _ s = true := fun w h => hts w (List.mem_cons_of_mem _ h)
  have hTab : c.exceptionTable.toList = tableOf [(0, 9, 12, 13), (0, 9, 15, 15)] := vx_table (x := yL_arrival) B (hts _ List.mem_cons_self)
  have hown : s.vm.findClass RL = some m.cls := findClass_of_methodNamed B.named
  have hlocks := B.notSynchronized
  subst hsz
  have hD := hD0.self (sz := s.heap.size)
  generalize hAe : va_A (gw K ad g) s.heap.size = A at hD hE ⊢
  have hA : ∀ q : Nat, s.heap.size ≤ q → A q := fun q h => by rw [← hAe]; exact Or.inr h
  have hK := hE.1
  have hG : gX D K ad A s.heap g s.heap [] := ⟨hP, hD, va_S.rf⟩
  have hl := lv_entry ([.ref (ad 0), .int p1, .ref (ad 18)]) (n := 4) (Nat.le_of_ble_eq_true rfl)
  rw [lg_entry_eq]
  generalize (lg_sl ([.ref (ad 0), .int p1, .ref (ad 18)]) ++ List.replicate (4 - (lg_sl ([.ref (ad 0), .int p1, .ref (ad 18)])).length) Slot.unset).toArray = ls at hl ⊢
  have hl : lv_has ls 4 [(0, .ref (ad 0)), (1, .int p1), (2, .ref (ad 18))] := hl
  dsimp only [wp_L_arrival] at hw
  refine lv_aload_n hx hb dL_arrival_0 rfl (lv_at hl 2 rfl) ?_
  refine lv_iconst (v := 0) hx hb dL_arrival_1 (by decide) ?_
  refine lv_aload_n hx hb dL_arrival_2 rfl (lv_at hl 0 rfl) ?_
  refine lv_iload_n hx hb dL_arrival_3 rfl (lv_at hl 1 rfl) ?_
  refine g_xcalli (vx_runV (As := [.int p1]) (rest := [.int 0, .ref (ad 18)]) ⟨hx, hb, hml, hown, hts⟩ (m_X2_arrival hl9 D K sa ad _ _ _ p1 g hw) (cwV 1 hts (gGood gCons (gV q_362 q_363 q_364 q_20 q_365)) rfl rfl rfl (by decide +kernel) ⟨Nat.le_of_ble_eq_true rfl, Nat.le_of_ble_eq_true rfl⟩) ⟨gPc_blind, g_recv hK hG (gok_lo (by decide)) (gc_W) rfl, gPc_at hE hG hA⟩ rfl rfl hl.1 rfl (lv_room (Nat.le_of_ble_eq_true rfl)) dL_arrival_4 ⟨Nat.le_of_ble_eq_true rfl, Nat.le_of_ble_eq_true rfl⟩) hG hA (fun E_ ce_ q_ g_1 H locs hw hG h1_ h2_ h3_ => ?_) (fun r_2 g_1 H locs hw hG => ?_)
  · try dsimp only at hw
    rcases hw with ⟨e_, hw⟩ | ⟨e_, hw⟩
    · subst e_
      refine vx_catch (own := RL) (name := "java/lang/IllegalArgumentException") (E := "java/lang/IllegalArgumentException") hown [] ⟨0, 9, 12, 13⟩ [⟨0, 9, 15, 15⟩] (by rw [hTab]; rfl) (fun z hz => nomatch hz) (by decide) (by decide) (hq _ q_163) (va_Nw.use rfl (hE.2.2.2.2.1 ("java/lang/IllegalArgumentException", "java/lang/IllegalArgumentException") (by decide +kernel))) h1_ h2_ h3_ ?_
      refine lv_astore_n (lv' := [(3, .ref q_), (0, .ref (ad 0)), (1, .int p1), (2, .ref (ad 18))]) hx hb dL_arrival_12 rfl hl (by decide) rfl (fun ls hl => ?_)
      refine lv_iconst (v := 1) hx hb dL_arrival_13 (by decide) ?_
      exact g_iret hx hb hr hlocks hw hG (by decide) (by decide) dL_arrival_14
    · subst e_
      refine vx_catch (own := RL) (name := "java/lang/IllegalStateException") (E := "java/lang/IllegalStateException") hown [⟨0, 9, 12, 13⟩] ⟨0, 9, 15, 15⟩ [] (by rw [hTab]; rfl) (by
        intro z hz
        rcases List.mem_cons.mp hz with rfl | hz
        · exact Or.inr ⟨by decide, "java/lang/IllegalArgumentException", hq _ q_163, hE.2.2.2.2.2.2.1 ("java/lang/IllegalStateException", "java/lang/IllegalArgumentException") (by decide +kernel)⟩
        cases hz) (by decide) (by decide) (hq _ q_164) (va_Nw.use rfl (hE.2.2.2.2.1 ("java/lang/IllegalStateException", "java/lang/IllegalStateException") (by decide +kernel))) h1_ h2_ h3_ ?_
      refine lv_astore_n (lv' := [(3, .ref q_), (0, .ref (ad 0)), (1, .int p1), (2, .ref (ad 18))]) hx hb dL_arrival_15 rfl hl (by decide) rfl (fun ls hl => ?_)
      refine lv_iconst (v := 2) hx hb dL_arrival_16 (by decide) ?_
      exact g_iret hx hb hr hlocks hw hG (by decide) (by decide) dL_arrival_17
  try dsimp only at hw
  refine lv_i2l hx hb dL_arrival_7 rfl ?_
  obtain ⟨hi_3, hw⟩ := hw
  refine g_last hx hb hK hG (k := 18) (gok_lo (by decide)) (fun g => gc_18) (x := r_2.toInt64) hi_3 (gho_18) dL_arrival_8 (fun H locs hG => ?_)
  obtain ⟨g_4, eg_4⟩ : ∃ z, z = gj g_1 18 ((0 : Int32).toNatClampNeg) r_2.toInt64 := ⟨_, rfl⟩
  rw [← eg_4] at hG
  have hw := hw g_4 eg_4
  refine lv_goto (tgt := 18) hx hb dL_arrival_9 (by decide) ?_
  refine lv_iconst (v := 0) hx hb dL_arrival_18 (by decide) ?_
  exact g_iret hx hb hr hlocks hw hG (by decide) (by decide) dL_arrival_19

def wp_L_byteAt (post : Int32 → gS → Prop) (p1 : Int32) (g : gS) : Prop := wp_X2_byteAt (fun r_2 g_1 => (vp_in (0 : Int32) 1 ∧ (∀ g_4 : gS, g_4 = gj g_1 18 ((0 : Int32).toNatClampNeg) r_2.toInt64 → (post 0 g_4)))) (fun u_ => ((u_.1 = "java/lang/IllegalStateException" ∧ (post 1 u_.2)) ∨ (u_.1 = "java/lang/IndexOutOfBoundsException" ∧ (post 2 u_.2)))) p1 g
set_option maxHeartbeats 4000000 in
set_option maxRecDepth 100000 in
theorem m_L_byteAt {l : Launch} (hl9 : l.stackTraces = false) (D : va_G) (K : Nat → ClassId) (sa ad : Nat → Nat) (sz : Nat) (post : Int32 → gS → Prop) (p1 : Int32) (g : gS) (hw : wp_L_byteAt post p1 g) : Met l yL_byteAt wsL_byteAt ({ frames := 7, cells := 1, slots := 6, locals := 112 } : Room) (gPc D K sa ad sz g [.ref (ad 0), .int p1, .ref (ad 18)]) (va_Qi post (gB D K ad (va_A (gw K ad g) sz)) (va_A (gw K ad g) sz)) 1 6 (va_A (gw K ad g) sz) := by
  refine va_MetW (cc := cL_byteAt) (maxL := 4) (ret := (some .int)) (hh := [(0, 9, 12, 15), (0, 9, 15, 43)]) (by decide) rfl ?_
  intro p e s m args below meth c s₁ B hml hv
  obtain ⟨rfl, hsz, hP, hE, hD0⟩ := hv
  have hx := B.exec
  have hb := B.bytes
  have hr := B.returns
  have hts := atoms_spec (ws := wsL_byteAt) B.pre
  have hq : ∀ w ∈ gW, w.before _ s = true := fun w h => hts w (List.mem_cons_of_mem _ h)
  have hTab : c.exceptionTable.toList = tableOf [(0, 9, 12, 15), (0, 9, 15, 43)] := vx_table (x := yL_byteAt) B (hts _ List.mem_cons_self)
  have hown : s.vm.findClass RL = some m.cls := findClass_of_methodNamed B.named
  have hlocks := B.notSynchronized
  subst hsz
  have hD := hD0.self (sz := s.heap.size)
  generalize hAe : va_A (gw K ad g) s.heap.size = A at hD hE ⊢
  have hA : ∀ q : Nat, s.heap.size ≤ q → A q := fun q h => by rw [← hAe]; exact Or.inr h
  have hK := hE.1
  have hG : gX D K ad A s.heap g s.heap [] := ⟨hP, hD, va_S.rf⟩
  have hl := lv_entry ([.ref (ad 0), .int p1, .ref (ad 18)]) (n := 4) (Nat.le_of_ble_eq_true rfl)
  rw [lg_entry_eq]
  generalize (lg_sl ([.ref (ad 0), .int p1, .ref (ad 18)]) ++ List.replicate (4 - (lg_sl ([.ref (ad 0), .int p1, .ref (ad 18)])).length) Slot.unset).toArray = ls at hl ⊢
  have hl : lv_has ls 4 [(0, .ref (ad 0)), (1, .int p1), (2, .ref (ad 18))] := hl
  dsimp only [wp_L_byteAt] at hw
  refine lv_aload_n hx hb dL_byteAt_0 rfl (lv_at hl 2 rfl) ?_
  refine lv_iconst (v := 0) hx hb dL_byteAt_1 (by decide) ?_
  refine lv_aload_n hx hb dL_byteAt_2 rfl (lv_at hl 0 rfl) ?_
  refine lv_iload_n hx hb dL_byteAt_3 rfl (lv_at hl 1 rfl) ?_
  refine g_xcalli (vx_runV (As := [.int p1]) (rest := [.int 0, .ref (ad 18)]) ⟨hx, hb, hml, hown, hts⟩ (m_X2_byteAt hl9 D K sa ad _ _ _ p1 g hw) (cwV 1 hts (gGood gCons (gV q_372 q_373 q_374 q_20 q_375)) rfl rfl rfl (by decide +kernel) ⟨Nat.le_of_ble_eq_true rfl, Nat.le_of_ble_eq_true rfl⟩) ⟨gPc_blind, g_recv hK hG (gok_lo (by decide)) (gc_W) rfl, gPc_at hE hG hA⟩ rfl rfl hl.1 rfl (lv_room (Nat.le_of_ble_eq_true rfl)) dL_byteAt_4 ⟨Nat.le_of_ble_eq_true rfl, Nat.le_of_ble_eq_true rfl⟩) hG hA (fun E_ ce_ q_ g_1 H locs hw hG h1_ h2_ h3_ => ?_) (fun r_2 g_1 H locs hw hG => ?_)
  · try dsimp only at hw
    rcases hw with ⟨e_, hw⟩ | ⟨e_, hw⟩
    · subst e_
      refine vx_catch (own := RL) (name := "java/lang/IllegalStateException") (E := "java/lang/IllegalStateException") hown [] ⟨0, 9, 12, 15⟩ [⟨0, 9, 15, 43⟩] (by rw [hTab]; rfl) (fun z hz => nomatch hz) (by decide) (by decide) (hq _ q_164) (va_Nw.use rfl (hE.2.2.2.2.1 ("java/lang/IllegalStateException", "java/lang/IllegalStateException") (by decide +kernel))) h1_ h2_ h3_ ?_
      refine lv_astore_n (lv' := [(3, .ref q_), (0, .ref (ad 0)), (1, .int p1), (2, .ref (ad 18))]) hx hb dL_byteAt_12 rfl hl (by decide) rfl (fun ls hl => ?_)
      refine lv_iconst (v := 1) hx hb dL_byteAt_13 (by decide) ?_
      exact g_iret hx hb hr hlocks hw hG (by decide) (by decide) dL_byteAt_14
    · subst e_
      refine vx_catch (own := RL) (name := "java/lang/IndexOutOfBoundsException") (E := "java/lang/IndexOutOfBoundsException") hown [⟨0, 9, 12, 15⟩] ⟨0, 9, 15, 43⟩ [] (by rw [hTab]; rfl) (by
        intro z hz
        rcases List.mem_cons.mp hz with rfl | hz
        · exact Or.inr ⟨by decide, "java/lang/IllegalStateException", hq _ q_164, hE.2.2.2.2.2.2.1 ("java/lang/IndexOutOfBoundsException", "java/lang/IllegalStateException") (by decide +kernel)⟩
        cases hz) (by decide) (by decide) (hq _ q_371) (va_Nw.use rfl (hE.2.2.2.2.1 ("java/lang/IndexOutOfBoundsException", "java/lang/IndexOutOfBoundsException") (by decide +kernel))) h1_ h2_ h3_ ?_
      refine lv_astore_n (lv' := [(3, .ref q_), (0, .ref (ad 0)), (1, .int p1), (2, .ref (ad 18))]) hx hb dL_byteAt_15 rfl hl (by decide) rfl (fun ls hl => ?_)
      refine lv_iconst (v := 2) hx hb dL_byteAt_16 (by decide) ?_
      exact g_iret hx hb hr hlocks hw hG (by decide) (by decide) dL_byteAt_17
  try dsimp only at hw
  refine lv_i2l hx hb dL_byteAt_7 rfl ?_
  obtain ⟨hi_3, hw⟩ := hw
  refine g_last hx hb hK hG (k := 18) (gok_lo (by decide)) (fun g => gc_18) (x := r_2.toInt64) hi_3 (gho_18) dL_byteAt_8 (fun H locs hG => ?_)
  obtain ⟨g_4, eg_4⟩ : ∃ z, z = gj g_1 18 ((0 : Int32).toNatClampNeg) r_2.toInt64 := ⟨_, rfl⟩
  rw [← eg_4] at hG
  have hw := hw g_4 eg_4
  refine lv_goto (tgt := 18) hx hb dL_byteAt_9 (by decide) ?_
  refine lv_iconst (v := 0) hx hb dL_byteAt_18 (by decide) ?_
  exact g_iret hx hb hr hlocks hw hG (by decide) (by decide) dL_byteAt_19

def wp_L_fated (post : Int32 → gS → Prop) (p1 : Int32) (g : gS) : Prop := wp_X2_fated (fun r_2 g_1 => (vp_in (0 : Int32) 1 ∧ (∀ g_4 : gS, g_4 = gj g_1 18 ((0 : Int32).toNatClampNeg) r_2.toInt64 → (post 0 g_4)))) (fun u_ => ((u_.1 = "java/lang/IllegalArgumentException" ∧ (post 1 u_.2)))) p1 g
set_option maxHeartbeats 4000000 in
set_option maxRecDepth 100000 in
theorem m_L_fated {l : Launch} (hl9 : l.stackTraces = false) (D : va_G) (K : Nat → ClassId) (sa ad : Nat → Nat) (sz : Nat) (post : Int32 → gS → Prop) (p1 : Int32) (g : gS) (hw : wp_L_fated post p1 g) : Met l yL_fated wsL_fated ({ frames := 8, cells := 1, slots := 6, locals := 133 } : Room) (gPc D K sa ad sz g [.ref (ad 0), .int p1, .ref (ad 18)]) (va_Qi post (gB D K ad (va_A (gw K ad g) sz)) (va_A (gw K ad g) sz)) 1 6 (va_A (gw K ad g) sz) := by
  refine va_MetW (cc := cL_fated) (maxL := 4) (ret := (some .int)) (hh := [(0, 9, 12, 13)]) (by decide) rfl ?_
  intro p e s m args below meth c s₁ B hml hv
  obtain ⟨rfl, hsz, hP, hE, hD0⟩ := hv
  have hx := B.exec
  have hb := B.bytes
  have hr := B.returns
  have hts := atoms_spec (ws := wsL_fated) B.pre
  have hq : ∀ w ∈ gW, w.before _ s = true := fun w h => hts w (List.mem_cons_of_mem _ h)
  have hTab : c.exceptionTable.toList = tableOf [(0, 9, 12, 13)] := vx_table (x := yL_fated) B (hts _ List.mem_cons_self)
  have hown : s.vm.findClass RL = some m.cls := findClass_of_methodNamed B.named
  have hlocks := B.notSynchronized
  subst hsz
  have hD := hD0.self (sz := s.heap.size)
  generalize hAe : va_A (gw K ad g) s.heap.size = A at hD hE ⊢
  have hA : ∀ q : Nat, s.heap.size ≤ q → A q := fun q h => by rw [← hAe]; exact Or.inr h
  have hK := hE.1
  have hG : gX D K ad A s.heap g s.heap [] := ⟨hP, hD, va_S.rf⟩
  have hl := lv_entry ([.ref (ad 0), .int p1, .ref (ad 18)]) (n := 4) (Nat.le_of_ble_eq_true rfl)
  rw [lg_entry_eq]
  generalize (lg_sl ([.ref (ad 0), .int p1, .ref (ad 18)]) ++ List.replicate (4 - (lg_sl ([.ref (ad 0), .int p1, .ref (ad 18)])).length) Slot.unset).toArray = ls at hl ⊢
  have hl : lv_has ls 4 [(0, .ref (ad 0)), (1, .int p1), (2, .ref (ad 18))] := hl
  dsimp only [wp_L_fated] at hw
  refine lv_aload_n hx hb dL_fated_0 rfl (lv_at hl 2 rfl) ?_
  refine lv_iconst (v := 0) hx hb dL_fated_1 (by decide) ?_
  refine lv_aload_n hx hb dL_fated_2 rfl (lv_at hl 0 rfl) ?_
  refine lv_iload_n hx hb dL_fated_3 rfl (lv_at hl 1 rfl) ?_
  refine g_xcalli (vx_runV (As := [.int p1]) (rest := [.int 0, .ref (ad 18)]) ⟨hx, hb, hml, hown, hts⟩ (m_X2_fated hl9 D K sa ad _ _ _ p1 g hw) (cwV 1 hts (gGood gCons (gV q_395 q_396 q_397 q_20 q_398)) rfl rfl rfl (by decide +kernel) ⟨Nat.le_of_ble_eq_true rfl, Nat.le_of_ble_eq_true rfl⟩) ⟨gPc_blind, g_recv hK hG (gok_lo (by decide)) (gc_W) rfl, gPc_at hE hG hA⟩ rfl rfl hl.1 rfl (lv_room (Nat.le_of_ble_eq_true rfl)) dL_fated_4 ⟨Nat.le_of_ble_eq_true rfl, Nat.le_of_ble_eq_true rfl⟩) hG hA (fun E_ ce_ q_ g_1 H locs hw hG h1_ h2_ h3_ => ?_) (fun r_2 g_1 H locs hw hG => ?_)
  · try dsimp only at hw
    rcases hw with ⟨e_, hw⟩
    · subst e_
      refine vx_catch (own := RL) (name := "java/lang/IllegalArgumentException") (E := "java/lang/IllegalArgumentException") hown [] ⟨0, 9, 12, 13⟩ [] (by rw [hTab]; rfl) (fun z hz => nomatch hz) (by decide) (by decide) (hq _ q_163) (va_Nw.use rfl (hE.2.2.2.2.1 ("java/lang/IllegalArgumentException", "java/lang/IllegalArgumentException") (by decide +kernel))) h1_ h2_ h3_ ?_
      refine lv_astore_n (lv' := [(3, .ref q_), (0, .ref (ad 0)), (1, .int p1), (2, .ref (ad 18))]) hx hb dL_fated_12 rfl hl (by decide) rfl (fun ls hl => ?_)
      refine lv_iconst (v := 1) hx hb dL_fated_13 (by decide) ?_
      exact g_iret hx hb hr hlocks hw hG (by decide) (by decide) dL_fated_14
  try dsimp only at hw
  refine lv_i2l hx hb dL_fated_7 rfl ?_
  obtain ⟨hi_3, hw⟩ := hw
  refine g_last hx hb hK hG (k := 18) (gok_lo (by decide)) (fun g => gc_18) (x := r_2.toInt64) hi_3 (gho_18) dL_fated_8 (fun H locs hG => ?_)
  obtain ⟨g_4, eg_4⟩ : ∃ z, z = gj g_1 18 ((0 : Int32).toNatClampNeg) r_2.toInt64 := ⟨_, rfl⟩
  rw [← eg_4] at hG
  have hw := hw g_4 eg_4
  refine lv_goto (tgt := 15) hx hb dL_fated_9 (by decide) ?_
  refine lv_iconst (v := 0) hx hb dL_fated_15 (by decide) ?_
  exact g_iret hx hb hr hlocks hw hG (by decide) (by decide) dL_fated_16

def wp_L_puts (post : Int32 → gS → Prop) (p1 : Int32) (g : gS) : Prop := wp_X2_puts (fun r_2 g_1 => (vp_in (0 : Int32) 1 ∧ (∀ g_4 : gS, g_4 = gj g_1 18 ((0 : Int32).toNatClampNeg) r_2.toInt64 → (post 0 g_4)))) (fun u_ => ((u_.1 = "java/lang/IllegalArgumentException" ∧ (post 1 u_.2)))) p1 g
set_option maxHeartbeats 4000000 in
set_option maxRecDepth 100000 in
theorem m_L_puts {l : Launch} (hl9 : l.stackTraces = false) (D : va_G) (K : Nat → ClassId) (sa ad : Nat → Nat) (sz : Nat) (post : Int32 → gS → Prop) (p1 : Int32) (g : gS) (hw : wp_L_puts post p1 g) : Met l yL_puts wsL_puts ({ frames := 8, cells := 1, slots := 6, locals := 133 } : Room) (gPc D K sa ad sz g [.ref (ad 0), .int p1, .ref (ad 18)]) (va_Qi post (gB D K ad (va_A (gw K ad g) sz)) (va_A (gw K ad g) sz)) 1 6 (va_A (gw K ad g) sz) := by
  refine va_MetW (cc := cL_puts) (maxL := 4) (ret := (some .int)) (hh := [(0, 9, 12, 13)]) (by decide) rfl ?_
  intro p e s m args below meth c s₁ B hml hv
  obtain ⟨rfl, hsz, hP, hE, hD0⟩ := hv
  have hx := B.exec
  have hb := B.bytes
  have hr := B.returns
  have hts := atoms_spec (ws := wsL_puts) B.pre
  have hq : ∀ w ∈ gW, w.before _ s = true := fun w h => hts w (List.mem_cons_of_mem _ h)
  have hTab : c.exceptionTable.toList = tableOf [(0, 9, 12, 13)] := vx_table (x := yL_puts) B (hts _ List.mem_cons_self)
  have hown : s.vm.findClass RL = some m.cls := findClass_of_methodNamed B.named
  have hlocks := B.notSynchronized
  subst hsz
  have hD := hD0.self (sz := s.heap.size)
  generalize hAe : va_A (gw K ad g) s.heap.size = A at hD hE ⊢
  have hA : ∀ q : Nat, s.heap.size ≤ q → A q := fun q h => by rw [← hAe]; exact Or.inr h
  have hK := hE.1
  have hG : gX D K ad A s.heap g s.heap [] := ⟨hP, hD, va_S.rf⟩
  have hl := lv_entry ([.ref (ad 0), .int p1, .ref (ad 18)]) (n := 4) (Nat.le_of_ble_eq_true rfl)
  rw [lg_entry_eq]
  generalize (lg_sl ([.ref (ad 0), .int p1, .ref (ad 18)]) ++ List.replicate (4 - (lg_sl ([.ref (ad 0), .int p1, .ref (ad 18)])).length) Slot.unset).toArray = ls at hl ⊢
  have hl : lv_has ls 4 [(0, .ref (ad 0)), (1, .int p1), (2, .ref (ad 18))] := hl
  dsimp only [wp_L_puts] at hw
  refine lv_aload_n hx hb dL_puts_0 rfl (lv_at hl 2 rfl) ?_
  refine lv_iconst (v := 0) hx hb dL_puts_1 (by decide) ?_
  refine lv_aload_n hx hb dL_puts_2 rfl (lv_at hl 0 rfl) ?_
  refine lv_iload_n hx hb dL_puts_3 rfl (lv_at hl 1 rfl) ?_
  refine g_xcalli (vx_runV (As := [.int p1]) (rest := [.int 0, .ref (ad 18)]) ⟨hx, hb, hml, hown, hts⟩ (m_X2_puts hl9 D K sa ad _ _ _ p1 g hw) (cwV 1 hts (gGood gCons (gV q_402 q_403 q_404 q_20 q_405)) rfl rfl rfl (by decide +kernel) ⟨Nat.le_of_ble_eq_true rfl, Nat.le_of_ble_eq_true rfl⟩) ⟨gPc_blind, g_recv hK hG (gok_lo (by decide)) (gc_W) rfl, gPc_at hE hG hA⟩ rfl rfl hl.1 rfl (lv_room (Nat.le_of_ble_eq_true rfl)) dL_puts_4 ⟨Nat.le_of_ble_eq_true rfl, Nat.le_of_ble_eq_true rfl⟩) hG hA (fun E_ ce_ q_ g_1 H locs hw hG h1_ h2_ h3_ => ?_) (fun r_2 g_1 H locs hw hG => ?_)
  · try dsimp only at hw
    rcases hw with ⟨e_, hw⟩
    · subst e_
      refine vx_catch (own := RL) (name := "java/lang/IllegalArgumentException") (E := "java/lang/IllegalArgumentException") hown [] ⟨0, 9, 12, 13⟩ [] (by rw [hTab]; rfl) (fun z hz => nomatch hz) (by decide) (by decide) (hq _ q_163) (va_Nw.use rfl (hE.2.2.2.2.1 ("java/lang/IllegalArgumentException", "java/lang/IllegalArgumentException") (by decide +kernel))) h1_ h2_ h3_ ?_
      refine lv_astore_n (lv' := [(3, .ref q_), (0, .ref (ad 0)), (1, .int p1), (2, .ref (ad 18))]) hx hb dL_puts_12 rfl hl (by decide) rfl (fun ls hl => ?_)
      refine lv_iconst (v := 1) hx hb dL_puts_13 (by decide) ?_
      exact g_iret hx hb hr hlocks hw hG (by decide) (by decide) dL_puts_14
  try dsimp only at hw
  refine lv_i2l hx hb dL_puts_7 rfl ?_
  obtain ⟨hi_3, hw⟩ := hw
  refine g_last hx hb hK hG (k := 18) (gok_lo (by decide)) (fun g => gc_18) (x := r_2.toInt64) hi_3 (gho_18) dL_puts_8 (fun H locs hG => ?_)
  obtain ⟨g_4, eg_4⟩ : ∃ z, z = gj g_1 18 ((0 : Int32).toNatClampNeg) r_2.toInt64 := ⟨_, rfl⟩
  rw [← eg_4] at hG
  have hw := hw g_4 eg_4
  refine lv_goto (tgt := 15) hx hb dL_puts_9 (by decide) ?_
  refine lv_iconst (v := 0) hx hb dL_puts_15 (by decide) ?_
  exact g_iret hx hb hr hlocks hw hG (by decide) (by decide) dL_puts_16

def wpl_X3_add_162 (post : gS → Prop) : Nat → Int32 → Int32 → Int32 → Int32 → Int32 → Int32 → Int32 → Int32 → Int32 → gS → Prop
  | 0 => fun _ _ _ _ _ _ _ _ _ _ => False
  | n + 1 => fun x1 x2 x3 x4 x5 x6 x7 x8 x9 g => ((x6 ≤ x9) → (post g)) ∧ ((¬ x6 ≤ x9) → (∀ x_27 : Int32, x_27 = (185 * x8) + (x9 / 8) → (vp_in x_27 94720 ∧ (∀ i_29 : Int32, i_29 = x5 + x9 → (vp_in i_29 1480 ∧ (∀ x_31 : Int64, x_31 = ((g.2.2.2 17 x_27.toNatClampNeg) &&& (((255 : Int64) <<< ((8 * (x9 - x9 / 8 * 8)).toInt64 &&& 63)) ^^^ (-1))) ||| (((g.1 11 i_29.toNatClampNeg).toInt64) <<< ((8 * (x9 - x9 / 8 * 8)).toInt64 &&& 63)) → (vp_in x_27 94720 ∧ (∀ g_33 : gS, g_33 = gj g 17 x_27.toNatClampNeg x_31 → (∀ x_34 : Int32, x_34 = x9 + 1 → (wpl_X3_add_162 post n x1 x2 x3 x4 x5 x6 x7 x8 x_34 g_33))))))))))
set_option maxHeartbeats 4000000 in
set_option maxRecDepth 100000 in
theorem L_X3_add_162 {p : Program} {l : Launch} {e : Env} {s : State} {m : MethodId} {args : Array Value} {below : List Frame} {meth : Method} {c : Code} {D : va_G} {K : Nat → ClassId} {sa ad : Nat → Nat} {A : Nat → Prop} (post : gS → Prop) (hl9 : l.stackTraces = false) (hx : p.tables.exec = Jvm.exec) (hb : c.code = cX3_add) (hr : meth.sig.returnType = none) (hml : c.maxLocals = 11) (hown : s.vm.findClass RX3 = some m.cls) (hts : ∀ w ∈ wsX3_add, w.before args s = true) (hlocks : meth.locks = false) (hA : ∀ q, s.heap.size ≤ q → A q) (hE : gE D K sa A s s.heap) : ∀ (n : Nat) (x1 : Int32) (x2 : Int32) (x3 : Int32) (x4 : Int32) (x5 : Int32) (x6 : Int32) (x7 : Int32) (x8 : Int32) (x9 : Int32) (g : gS), wpl_X3_add_162 post n x1 x2 x3 x4 x5 x6 x7 x8 x9 g → ∀ (H : Heap) (locs : List Loc) (ls : Array Slot), gX D K ad A s.heap g H locs → lv_has ls 11 [(0, .ref (ad 4)), (1, .int x1), (2, .int x2), (3, .int x3), (4, .int x4), (5, .int x5), (6, .int x6), (7, .int x7), (8, .int x8), (9, .int x9)] → W p l e ({ frames := 0, cells := 0, slots := 0, locals := 0 } : Room) s m args below meth c H locs 0 0 (MQ below (va_Qv post (gB D K ad A) A) args s 0 0 A) (F0 m 162 ls []) := by
  have hK := hE.1
  have hq : ∀ w ∈ gW, w.before args s = true := fun w h => hts w (List.mem_cons_of_mem _ h)
  intro n
  induction n with
  | zero =>
    intro x1 x2 x3 x4 x5 x6 x7 x8 x9 g hw
    exact hw.elim
  | succ n ih =>
    intro x1 x2 x3 x4 x5 x6 x7 x8 x9 g hw H locs ls hG hl
    dsimp only [wpl_X3_add_162] at hw
    refine lv_iload hx hb dX3_add_162 (lv_at hl 9 rfl) ?_
    refine lv_iload hx hb dX3_add_164 (lv_at hl 6 rfl) ?_
    refine lv_icmp_ge (tgt := 241) hx hb dX3_add_166 (by decide) (fun c_26 => ?_) (fun c_26 => ?_)
    · have hw := hw.1 c_26
      exact g_vret hx hb hr hlocks hw hG (by decide) (by decide) dX3_add_241
    · have hw := hw.2 c_26
      refine lv_sipush (v := 185) hx hb dX3_add_169 (by decide) ?_
      refine lv_iload hx hb dX3_add_172 (lv_at hl 8 rfl) ?_
      refine lv_imul hx hb dX3_add_174 ?_
      refine lv_iload hx hb dX3_add_175 (lv_at hl 9 rfl) ?_
      refine lv_bipush (v := 8) hx hb dX3_add_177 (by decide) ?_
      refine lv_idiv hx hb dX3_add_179 (by decide) ?_
      refine lv_iadd hx hb dX3_add_180 ?_
      refine lv_topi (fun x_27 ex_27 => ?_)
      have hw := hw x_27 ex_27
      refine lv_istore (lv' := [(10, .int x_27), (0, .ref (ad 4)), (1, .int x1), (2, .int x2), (3, .int x3), (4, .int x4), (5, .int x5), (6, .int x6), (7, .int x7), (8, .int x8), (9, .int x9)]) hx hb dX3_add_181 hl (by decide) rfl (fun ls hl => ?_)
      refine lv_aload_n hx hb dX3_add_183 rfl (lv_at hl 1 rfl) ?_
      refine g_get (own := RX3) (C := RX3) (T := TX3) (N := 19) (ci := 3) hx hb hq hin_X3 hown hK hG (k := 4) (gok_lo (by decide)) (gc_M) rfl 15 (by decide) (hq _ q_428) rfl (v := .ref (ad 17)) rfl dX3_add_184 ?_
      refine lv_iload hx hb dX3_add_187 (lv_at hl 0 rfl) ?_
      refine lv_aload_n hx hb dX3_add_189 rfl (lv_at hl 1 rfl) ?_
      refine g_get (own := RX3) (C := RX3) (T := TX3) (N := 19) (ci := 3) hx hb hq hin_X3 hown hK hG (k := 4) (gok_lo (by decide)) (gc_M) rfl 15 (by decide) (hq _ q_428) rfl (v := .ref (ad 17)) rfl dX3_add_190 ?_
      refine lv_iload hx hb dX3_add_193 (lv_at hl 0 rfl) ?_
      obtain ⟨hi_28, hw⟩ := hw
      refine g_lald hx hb hK hG (k := 17) (gok_lo (by decide)) (gc_17) hi_28 dX3_add_195 ?_
      refine lv_ldc2 (own := RX3) (v := 255) hx hb hown (hq _ q_503) dX3_add_196 ?_
      refine lv_bipush (v := 8) hx hb dX3_add_199 (by decide) ?_
      refine lv_iload hx hb dX3_add_201 (lv_at hl 10 rfl) ?_
      refine lv_bipush (v := 8) hx hb dX3_add_203 (by decide) ?_
      refine lv_irem hx hb dX3_add_205 (by decide) ?_
      refine lv_imul hx hb dX3_add_206 ?_
      refine lv_lshl hx hb dX3_add_207 rfl ?_
      refine lv_ldc2 (own := RX3) (v := (-1)) hx hb hown (hq _ q_520) dX3_add_208 ?_
      refine lv_lxor hx hb dX3_add_211 ?_
      refine lv_land hx hb dX3_add_212 ?_
      refine lv_aload_n hx hb dX3_add_213 rfl (lv_at hl 1 rfl) ?_
      refine g_get (own := RX3) (C := RX3) (T := TX3) (N := 19) (ci := 3) hx hb hq hin_X3 hown hK hG (k := 4) (gok_lo (by decide)) (gc_M) rfl 10 (by decide) (hq _ q_423) rfl (v := .ref (ad 11)) rfl dX3_add_214 ?_
      refine lv_iload hx hb dX3_add_217 (lv_at hl 6 rfl) ?_
      refine lv_iload hx hb dX3_add_219 (lv_at hl 10 rfl) ?_
      refine lv_iadd hx hb dX3_add_221 ?_
      refine lv_topi (fun i_29 ei_29 => ?_)
      have hw := hw i_29 ei_29
      obtain ⟨hi_30, hw⟩ := hw
      refine g_iald hx hb hK hG (k := 11) (gok_lo (by decide)) (gc_11) hi_30 dX3_add_222 ?_
      refine lv_i2l hx hb dX3_add_223 rfl ?_
      refine lv_bipush (v := 8) hx hb dX3_add_224 (by decide) ?_
      refine lv_iload hx hb dX3_add_226 (lv_at hl 10 rfl) ?_
      refine lv_bipush (v := 8) hx hb dX3_add_228 (by decide) ?_
      refine lv_irem hx hb dX3_add_230 (by decide) ?_
      refine lv_imul hx hb dX3_add_231 ?_
      refine lv_lshl hx hb dX3_add_232 rfl ?_
      refine lv_lor hx hb dX3_add_233 ?_
      refine lv_topl (fun x_31 ex_31 => ?_)
      have hw := hw x_31 ex_31
      obtain ⟨hi_32, hw⟩ := hw
      refine g_last hx hb hK hG (k := 17) (gok_lo (by decide)) (fun g => gc_17) (x := x_31) hi_32 (gho_17) dX3_add_234 (fun H locs hG => ?_)
      obtain ⟨g_33, eg_33⟩ : ∃ z, z = gj g 17 x_27.toNatClampNeg x_31 := ⟨_, rfl⟩
      rw [← eg_33] at hG
      have hw := hw g_33 eg_33
      obtain ⟨x_34, ex_34⟩ : ∃ y : Int32, y = x9 + 1 := ⟨_, rfl⟩
      have hw := hw x_34 ex_34
      refine lv_iinc (v := x_34) (lv' := [(9, .int x_34), (10, .int x_27), (0, .ref (ad 4)), (1, .int x1), (2, .int x2), (3, .int x3), (4, .int x4), (5, .int x5), (6, .int x6), (7, .int x7), (8, .int x8)]) hx hb dX3_add_235 hl (k := 10) rfl (by rw [ex_34]; rfl) (by decide) rfl (fun ls hl => ?_)
      refine lv_goto (tgt := 162) hx hb dX3_add_238 (by decide) ?_
      exact ih x1 x2 x3 x4 x5 x6 x7 x8 x_34 g_33 hw _ _ _ hG (lv_sub hl [2, 3, 4, 5, 6, 7, 8, 9, 10, 0] rfl)
def wpl_X3_add_3 (post : gS → Prop) : Nat → Int32 → Int32 → Int32 → Int32 → Int32 → Int32 → Int32 → Int32 → gS → Prop
  | 0 => fun _ _ _ _ _ _ _ _ _ => False
  | n + 1 => fun x1 x2 x3 x4 x5 x6 x7 x8 g => vp_in x8 512 ∧ ((((g.1 13 x8.toNatClampNeg) = 0) → (vp_in x8 512 ∧ (∀ g_4 : gS, g_4 = gi g 13 x8.toNatClampNeg (vp_nar .boolean (1 : Int32)) → (vp_in (g_4.1 4 4) 512 ∧ (∀ g_6 : gS, g_6 = gi g_4 12 ((g_4.1 4 4).toNatClampNeg) x8 → (∀ x_7 : Int32, x_7 = (g_6.1 4 4) + 1 → (∀ g_8 : gS, g_8 = gi g_6 4 4 x_7 → (vp_in (8 * x8) 4096 ∧ (∀ g_10 : gS, g_10 = gi g_8 14 ((8 * x8).toNatClampNeg) x1 → (vp_in ((8 * x8) + 1) 4096 ∧ (∀ g_12 : gS, g_12 = gi g_10 14 (((8 * x8) + 1).toNatClampNeg) x2 → (vp_in ((8 * x8) + 2) 4096 ∧ (∀ g_14 : gS, g_14 = gi g_12 14 (((8 * x8) + 2).toNatClampNeg) x3 → (vp_in ((8 * x8) + 3) 4096 ∧ (∀ g_16 : gS, g_16 = gi g_14 14 (((8 * x8) + 3).toNatClampNeg) x4 → (vp_in ((8 * x8) + 4) 4096 ∧ (∀ g_18 : gS, g_18 = gi g_16 14 (((8 * x8) + 4).toNatClampNeg) x5 → (∀ x_19 : Int32, x_19 = g_18.1 4 3 → (vp_in ((8 * x8) + 5) 4096 ∧ (∀ g_21 : gS, g_21 = gi g_18 14 (((8 * x8) + 5).toNatClampNeg) x_19 → (vp_in ((8 * x8) + 6) 4096 ∧ (∀ g_23 : gS, g_23 = gi g_21 14 (((8 * x8) + 6).toNatClampNeg) x6 → (vp_in ((8 * x8) + 7) 4096 ∧ (∀ g_25 : gS, g_25 = gi g_23 14 (((8 * x8) + 7).toNatClampNeg) x7 → (∃ n, wpl_X3_add_162 post n x1 x2 x3 x4 x5 x6 x7 x8 0 g_25))))))))))))))))))))))))) ∧ ((¬ (g.1 13 x8.toNatClampNeg) = 0) → (∀ x_36 : Int32, x_36 = x8 + 1 → (wpl_X3_add_3 post n x1 x2 x3 x4 x5 x6 x7 x_36 g))))
set_option maxHeartbeats 4000000 in
set_option maxRecDepth 100000 in
theorem L_X3_add_3 {p : Program} {l : Launch} {e : Env} {s : State} {m : MethodId} {args : Array Value} {below : List Frame} {meth : Method} {c : Code} {D : va_G} {K : Nat → ClassId} {sa ad : Nat → Nat} {A : Nat → Prop} (post : gS → Prop) (hl9 : l.stackTraces = false) (hx : p.tables.exec = Jvm.exec) (hb : c.code = cX3_add) (hr : meth.sig.returnType = none) (hml : c.maxLocals = 11) (hown : s.vm.findClass RX3 = some m.cls) (hts : ∀ w ∈ wsX3_add, w.before args s = true) (hlocks : meth.locks = false) (hA : ∀ q, s.heap.size ≤ q → A q) (hE : gE D K sa A s s.heap) : ∀ (n : Nat) (x1 : Int32) (x2 : Int32) (x3 : Int32) (x4 : Int32) (x5 : Int32) (x6 : Int32) (x7 : Int32) (x8 : Int32) (g : gS), wpl_X3_add_3 post n x1 x2 x3 x4 x5 x6 x7 x8 g → ∀ (H : Heap) (locs : List Loc) (ls : Array Slot), gX D K ad A s.heap g H locs → lv_has ls 11 [(0, .ref (ad 4)), (1, .int x1), (2, .int x2), (3, .int x3), (4, .int x4), (5, .int x5), (6, .int x6), (7, .int x7), (8, .int x8)] → W p l e ({ frames := 0, cells := 0, slots := 0, locals := 0 } : Room) s m args below meth c H locs 0 0 (MQ below (va_Qv post (gB D K ad A) A) args s 0 0 A) (F0 m 3 ls []) := by
  have hK := hE.1
  have hq : ∀ w ∈ gW, w.before args s = true := fun w h => hts w (List.mem_cons_of_mem _ h)
  intro n
  induction n with
  | zero =>
    intro x1 x2 x3 x4 x5 x6 x7 x8 g hw
    exact hw.elim
  | succ n ih =>
    intro x1 x2 x3 x4 x5 x6 x7 x8 g hw H locs ls hG hl
    dsimp only [wpl_X3_add_3] at hw
    refine lv_aload_n hx hb dX3_add_3 rfl (lv_at hl 0 rfl) ?_
    refine g_get (own := RX3) (C := RX3) (T := TX3) (N := 19) (ci := 3) hx hb hq hin_X3 hown hK hG (k := 4) (gok_lo (by decide)) (gc_M) rfl 13 (by decide) (hq _ q_426) rfl (v := .ref (ad 13)) rfl dX3_add_4 ?_
    refine lv_iload hx hb dX3_add_7 (lv_at hl 8 rfl) ?_
    obtain ⟨hi_1, hw⟩ := hw
    refine g_zald hx hb hK hG (k := 13) (gok_lo (by decide)) (gc_13) hi_1 dX3_add_9 ?_
    refine lv_if_eq (tgt := 19) hx hb dX3_add_10 (by decide) (fun c_2 => ?_) (fun c_2 => ?_)
    · have hw := hw.1 c_2
      refine lv_aload_n hx hb dX3_add_19 rfl (lv_at hl 0 rfl) ?_
      refine g_get (own := RX3) (C := RX3) (T := TX3) (N := 19) (ci := 3) hx hb hq hin_X3 hown hK hG (k := 4) (gok_lo (by decide)) (gc_M) rfl 13 (by decide) (hq _ q_426) rfl (v := .ref (ad 13)) rfl dX3_add_20 ?_
      refine lv_iload hx hb dX3_add_23 (lv_at hl 8 rfl) ?_
      refine lv_iconst (v := 1) hx hb dX3_add_25 (by decide) ?_
      obtain ⟨hi_3, hw⟩ := hw
      refine g_zast hx hb hK hG (k := 13) (gok_lo (by decide)) (fun g => gc_13) (x := (1 : Int32)) hi_3 (gho_lo (by decide)) dX3_add_26 (fun H locs hG => ?_)
      obtain ⟨g_4, eg_4⟩ : ∃ z, z = gi g 13 x8.toNatClampNeg (vp_nar .boolean (1 : Int32)) := ⟨_, rfl⟩
      rw [← eg_4] at hG
      have hw := hw g_4 eg_4
      refine lv_aload_n hx hb dX3_add_27 rfl (lv_at hl 0 rfl) ?_
      refine g_get (own := RX3) (C := RX3) (T := TX3) (N := 19) (ci := 3) hx hb hq hin_X3 hown hK hG (k := 4) (gok_lo (by decide)) (gc_M) rfl 12 (by decide) (hq _ q_425) rfl (v := .ref (ad 12)) rfl dX3_add_28 ?_
      refine lv_aload_n hx hb dX3_add_31 rfl (lv_at hl 0 rfl) ?_
      refine g_get (own := RX3) (C := RX3) (T := TX3) (N := 19) (ci := 3) hx hb hq hin_X3 hown hK hG (k := 4) (gok_lo (by decide)) (gc_M) rfl 11 (by decide) (hq _ q_424) rfl (v := .int (g_4.1 4 4)) rfl dX3_add_32 ?_
      refine lv_iload hx hb dX3_add_35 (lv_at hl 8 rfl) ?_
      obtain ⟨hi_5, hw⟩ := hw
      refine g_iast hx hb hK hG (k := 12) (gok_lo (by decide)) (fun g => gc_12) (x := x8) hi_5 (gho_lo (by decide)) dX3_add_37 (fun H locs hG => ?_)
      obtain ⟨g_6, eg_6⟩ : ∃ z, z = gi g_4 12 ((g_4.1 4 4).toNatClampNeg) x8 := ⟨_, rfl⟩
      rw [← eg_6] at hG
      have hw := hw g_6 eg_6
      refine lv_aload_n hx hb dX3_add_38 rfl (lv_at hl 0 rfl) ?_
      refine lv_dup hx hb dX3_add_39 rfl ?_
      refine g_get (own := RX3) (C := RX3) (T := TX3) (N := 19) (ci := 3) hx hb hq hin_X3 hown hK hG (k := 4) (gok_lo (by decide)) (gc_M) rfl 11 (by decide) (hq _ q_424) rfl (v := .int (g_6.1 4 4)) rfl dX3_add_40 ?_
      refine lv_iconst (v := 1) hx hb dX3_add_43 (by decide) ?_
      refine lv_iadd hx hb dX3_add_44 ?_
      refine lv_topi (fun x_7 ex_7 => ?_)
      have hw := hw x_7 ex_7
      refine g_put (own := RX3) (C := RX3) (T := TX3) (N := 19) (ci := 3) hx hb hq hin_X3 tyX3 tyX3_ok nmX3 hown hK hG (k := 4) (gok_lo (by decide)) (gc_M) rfl 11 (by decide) (hq _ q_424) rfl rfl (ty := .int) (v := .int x_7) (by decide +kernel) rfl rfl (Nat.le_of_ble_eq_true rfl) (gi g_6 4 4 x_7) (gs_M4) (gho_lo (by decide)) dX3_add_45 (fun H locs hG => ?_)
      obtain ⟨g_8, eg_8⟩ : ∃ z, z = gi g_6 4 4 x_7 := ⟨_, rfl⟩
      rw [← eg_8] at hG
      have hw := hw g_8 eg_8
      refine lv_aload_n hx hb dX3_add_48 rfl (lv_at hl 0 rfl) ?_
      refine g_get (own := RX3) (C := RX3) (T := TX3) (N := 19) (ci := 3) hx hb hq hin_X3 hown hK hG (k := 4) (gok_lo (by decide)) (gc_M) rfl 14 (by decide) (hq _ q_427) rfl (v := .ref (ad 14)) rfl dX3_add_49 ?_
      refine lv_bipush (v := 8) hx hb dX3_add_52 (by decide) ?_
      refine lv_iload hx hb dX3_add_54 (lv_at hl 8 rfl) ?_
      refine lv_imul hx hb dX3_add_56 ?_
      refine lv_iload_n hx hb dX3_add_57 rfl (lv_at hl 1 rfl) ?_
      obtain ⟨hi_9, hw⟩ := hw
      refine g_iast hx hb hK hG (k := 14) (gok_lo (by decide)) (fun g => gc_14) (x := x1) hi_9 (gho_lo (by decide)) dX3_add_58 (fun H locs hG => ?_)
      obtain ⟨g_10, eg_10⟩ : ∃ z, z = gi g_8 14 ((8 * x8).toNatClampNeg) x1 := ⟨_, rfl⟩
      rw [← eg_10] at hG
      have hw := hw g_10 eg_10
      refine lv_aload_n hx hb dX3_add_59 rfl (lv_at hl 0 rfl) ?_
      refine g_get (own := RX3) (C := RX3) (T := TX3) (N := 19) (ci := 3) hx hb hq hin_X3 hown hK hG (k := 4) (gok_lo (by decide)) (gc_M) rfl 14 (by decide) (hq _ q_427) rfl (v := .ref (ad 14)) rfl dX3_add_60 ?_
      refine lv_bipush (v := 8) hx hb dX3_add_63 (by decide) ?_
      refine lv_iload hx hb dX3_add_65 (lv_at hl 8 rfl) ?_
      refine lv_imul hx hb dX3_add_67 ?_
      refine lv_iconst (v := 1) hx hb dX3_add_68 (by decide) ?_
      refine lv_iadd hx hb dX3_add_69 ?_
      refine lv_iload_n hx hb dX3_add_70 rfl (lv_at hl 2 rfl) ?_
      obtain ⟨hi_11, hw⟩ := hw
      refine g_iast hx hb hK hG (k := 14) (gok_lo (by decide)) (fun g => gc_14) (x := x2) hi_11 (gho_lo (by decide)) dX3_add_71 (fun H locs hG => ?_)
      obtain ⟨g_12, eg_12⟩ : ∃ z, z = gi g_10 14 (((8 * x8) + 1).toNatClampNeg) x2 := ⟨_, rfl⟩
      rw [← eg_12] at hG
      have hw := hw g_12 eg_12
      refine lv_aload_n hx hb dX3_add_72 rfl (lv_at hl 0 rfl) ?_
      refine g_get (own := RX3) (C := RX3) (T := TX3) (N := 19) (ci := 3) hx hb hq hin_X3 hown hK hG (k := 4) (gok_lo (by decide)) (gc_M) rfl 14 (by decide) (hq _ q_427) rfl (v := .ref (ad 14)) rfl dX3_add_73 ?_
      refine lv_bipush (v := 8) hx hb dX3_add_76 (by decide) ?_
      refine lv_iload hx hb dX3_add_78 (lv_at hl 8 rfl) ?_
      refine lv_imul hx hb dX3_add_80 ?_
      refine lv_iconst (v := 2) hx hb dX3_add_81 (by decide) ?_
      refine lv_iadd hx hb dX3_add_82 ?_
      refine lv_iload_n hx hb dX3_add_83 rfl (lv_at hl 3 rfl) ?_
      obtain ⟨hi_13, hw⟩ := hw
      refine g_iast hx hb hK hG (k := 14) (gok_lo (by decide)) (fun g => gc_14) (x := x3) hi_13 (gho_lo (by decide)) dX3_add_84 (fun H locs hG => ?_)
      obtain ⟨g_14, eg_14⟩ : ∃ z, z = gi g_12 14 (((8 * x8) + 2).toNatClampNeg) x3 := ⟨_, rfl⟩
      rw [← eg_14] at hG
      have hw := hw g_14 eg_14
      refine lv_aload_n hx hb dX3_add_85 rfl (lv_at hl 0 rfl) ?_
      refine g_get (own := RX3) (C := RX3) (T := TX3) (N := 19) (ci := 3) hx hb hq hin_X3 hown hK hG (k := 4) (gok_lo (by decide)) (gc_M) rfl 14 (by decide) (hq _ q_427) rfl (v := .ref (ad 14)) rfl dX3_add_86 ?_
      refine lv_bipush (v := 8) hx hb dX3_add_89 (by decide) ?_
      refine lv_iload hx hb dX3_add_91 (lv_at hl 8 rfl) ?_
      refine lv_imul hx hb dX3_add_93 ?_
      refine lv_iconst (v := 3) hx hb dX3_add_94 (by decide) ?_
      refine lv_iadd hx hb dX3_add_95 ?_
      refine lv_iload hx hb dX3_add_96 (lv_at hl 4 rfl) ?_
      obtain ⟨hi_15, hw⟩ := hw
      refine g_iast hx hb hK hG (k := 14) (gok_lo (by decide)) (fun g => gc_14) (x := x4) hi_15 (gho_lo (by decide)) dX3_add_98 (fun H locs hG => ?_)
      obtain ⟨g_16, eg_16⟩ : ∃ z, z = gi g_14 14 (((8 * x8) + 3).toNatClampNeg) x4 := ⟨_, rfl⟩
      rw [← eg_16] at hG
      have hw := hw g_16 eg_16
      refine lv_aload_n hx hb dX3_add_99 rfl (lv_at hl 0 rfl) ?_
      refine g_get (own := RX3) (C := RX3) (T := TX3) (N := 19) (ci := 3) hx hb hq hin_X3 hown hK hG (k := 4) (gok_lo (by decide)) (gc_M) rfl 14 (by decide) (hq _ q_427) rfl (v := .ref (ad 14)) rfl dX3_add_100 ?_
      refine lv_bipush (v := 8) hx hb dX3_add_103 (by decide) ?_
      refine lv_iload hx hb dX3_add_105 (lv_at hl 8 rfl) ?_
      refine lv_imul hx hb dX3_add_107 ?_
      refine lv_iconst (v := 4) hx hb dX3_add_108 (by decide) ?_
      refine lv_iadd hx hb dX3_add_109 ?_
      refine lv_iload hx hb dX3_add_110 (lv_at hl 5 rfl) ?_
      obtain ⟨hi_17, hw⟩ := hw
      refine g_iast hx hb hK hG (k := 14) (gok_lo (by decide)) (fun g => gc_14) (x := x5) hi_17 (gho_lo (by decide)) dX3_add_112 (fun H locs hG => ?_)
      obtain ⟨g_18, eg_18⟩ : ∃ z, z = gi g_16 14 (((8 * x8) + 4).toNatClampNeg) x5 := ⟨_, rfl⟩
      rw [← eg_18] at hG
      have hw := hw g_18 eg_18
      refine lv_aload_n hx hb dX3_add_113 rfl (lv_at hl 0 rfl) ?_
      refine g_get (own := RX3) (C := RX3) (T := TX3) (N := 19) (ci := 3) hx hb hq hin_X3 hown hK hG (k := 4) (gok_lo (by decide)) (gc_M) rfl 14 (by decide) (hq _ q_427) rfl (v := .ref (ad 14)) rfl dX3_add_114 ?_
      refine lv_bipush (v := 8) hx hb dX3_add_117 (by decide) ?_
      refine lv_iload hx hb dX3_add_119 (lv_at hl 8 rfl) ?_
      refine lv_imul hx hb dX3_add_121 ?_
      refine lv_iconst (v := 5) hx hb dX3_add_122 (by decide) ?_
      refine lv_iadd hx hb dX3_add_123 ?_
      refine lv_aload_n hx hb dX3_add_124 rfl (lv_at hl 0 rfl) ?_
      refine g_get (own := RX3) (C := RX3) (T := TX3) (N := 19) (ci := 3) hx hb hq hin_X3 hown hK hG (k := 4) (gok_lo (by decide)) (gc_M) rfl 9 (by decide) (hq _ q_422) rfl (v := .int (g_18.1 4 3)) rfl dX3_add_125 ?_
      refine lv_topi (fun x_19 ex_19 => ?_)
      have hw := hw x_19 ex_19
      obtain ⟨hi_20, hw⟩ := hw
      refine g_iast hx hb hK hG (k := 14) (gok_lo (by decide)) (fun g => gc_14) (x := x_19) hi_20 (gho_lo (by decide)) dX3_add_128 (fun H locs hG => ?_)
      obtain ⟨g_21, eg_21⟩ : ∃ z, z = gi g_18 14 (((8 * x8) + 5).toNatClampNeg) x_19 := ⟨_, rfl⟩
      rw [← eg_21] at hG
      have hw := hw g_21 eg_21
      refine lv_aload_n hx hb dX3_add_129 rfl (lv_at hl 0 rfl) ?_
      refine g_get (own := RX3) (C := RX3) (T := TX3) (N := 19) (ci := 3) hx hb hq hin_X3 hown hK hG (k := 4) (gok_lo (by decide)) (gc_M) rfl 14 (by decide) (hq _ q_427) rfl (v := .ref (ad 14)) rfl dX3_add_130 ?_
      refine lv_bipush (v := 8) hx hb dX3_add_133 (by decide) ?_
      refine lv_iload hx hb dX3_add_135 (lv_at hl 8 rfl) ?_
      refine lv_imul hx hb dX3_add_137 ?_
      refine lv_bipush (v := 6) hx hb dX3_add_138 (by decide) ?_
      refine lv_iadd hx hb dX3_add_140 ?_
      refine lv_iload hx hb dX3_add_141 (lv_at hl 6 rfl) ?_
      obtain ⟨hi_22, hw⟩ := hw
      refine g_iast hx hb hK hG (k := 14) (gok_lo (by decide)) (fun g => gc_14) (x := x6) hi_22 (gho_lo (by decide)) dX3_add_143 (fun H locs hG => ?_)
      obtain ⟨g_23, eg_23⟩ : ∃ z, z = gi g_21 14 (((8 * x8) + 6).toNatClampNeg) x6 := ⟨_, rfl⟩
      rw [← eg_23] at hG
      have hw := hw g_23 eg_23
      refine lv_aload_n hx hb dX3_add_144 rfl (lv_at hl 0 rfl) ?_
      refine g_get (own := RX3) (C := RX3) (T := TX3) (N := 19) (ci := 3) hx hb hq hin_X3 hown hK hG (k := 4) (gok_lo (by decide)) (gc_M) rfl 14 (by decide) (hq _ q_427) rfl (v := .ref (ad 14)) rfl dX3_add_145 ?_
      refine lv_bipush (v := 8) hx hb dX3_add_148 (by decide) ?_
      refine lv_iload hx hb dX3_add_150 (lv_at hl 8 rfl) ?_
      refine lv_imul hx hb dX3_add_152 ?_
      refine lv_bipush (v := 7) hx hb dX3_add_153 (by decide) ?_
      refine lv_iadd hx hb dX3_add_155 ?_
      refine lv_iload hx hb dX3_add_156 (lv_at hl 7 rfl) ?_
      obtain ⟨hi_24, hw⟩ := hw
      refine g_iast hx hb hK hG (k := 14) (gok_lo (by decide)) (fun g => gc_14) (x := x7) hi_24 (gho_lo (by decide)) dX3_add_158 (fun H locs hG => ?_)
      obtain ⟨g_25, eg_25⟩ : ∃ z, z = gi g_23 14 (((8 * x8) + 7).toNatClampNeg) x7 := ⟨_, rfl⟩
      rw [← eg_25] at hG
      have hw := hw g_25 eg_25
      refine lv_iconst (v := 0) hx hb dX3_add_159 (by decide) ?_
      refine lv_istore (lv' := [(9, .int 0), (0, .ref (ad 4)), (1, .int x1), (2, .int x2), (3, .int x3), (4, .int x4), (5, .int x5), (6, .int x6), (7, .int x7), (8, .int x8)]) hx hb dX3_add_160 hl (by decide) rfl (fun ls hl => ?_)
      obtain ⟨n_35, hw⟩ := hw
      exact L_X3_add_162 post hl9 hx hb hr hml hown hts hlocks hA hE n_35 x1 x2 x3 x4 x5 x6 x7 x8 0 g_25 hw _ _ _ hG (lv_sub hl [1, 2, 3, 4, 5, 6, 7, 8, 9, 0] rfl)
    · have hw := hw.2 c_2
      obtain ⟨x_36, ex_36⟩ : ∃ y : Int32, y = x8 + 1 := ⟨_, rfl⟩
      have hw := hw x_36 ex_36
      refine lv_iinc (v := x_36) (lv' := [(8, .int x_36), (0, .ref (ad 4)), (1, .int x1), (2, .int x2), (3, .int x3), (4, .int x4), (5, .int x5), (6, .int x6), (7, .int x7)]) hx hb dX3_add_13 hl (k := 8) rfl (by rw [ex_36]; rfl) (by decide) rfl (fun ls hl => ?_)
      refine lv_goto (tgt := 3) hx hb dX3_add_16 (by decide) ?_
      exact ih x1 x2 x3 x4 x5 x6 x7 x_36 g hw _ _ _ hG (lv_sub hl [1, 2, 3, 4, 5, 6, 7, 8, 0] rfl)
def wp_X3_add (post : gS → Prop) (p1 : Int32) (p2 : Int32) (p3 : Int32) (p4 : Int32) (p5 : Int32) (p6 : Int32) (p7 : Int32) (g : gS) : Prop := ∃ n, wpl_X3_add_3 post n p1 p2 p3 p4 p5 p6 p7 0 g
set_option maxHeartbeats 4000000 in
set_option maxRecDepth 100000 in
theorem m_X3_add {l : Launch} (hl9 : l.stackTraces = false) (D : va_G) (K : Nat → ClassId) (sa ad : Nat → Nat) (sz : Nat) (post : gS → Prop) (p1 : Int32) (p2 : Int32) (p3 : Int32) (p4 : Int32) (p5 : Int32) (p6 : Int32) (p7 : Int32) (g : gS) (hw : wp_X3_add post p1 p2 p3 p4 p5 p6 p7 g) : Met l yX3_add wsX3_add ({ frames := 0, cells := 0, slots := 0, locals := 0 } : Room) (gPc D K sa ad sz g [.ref (ad 4), .int p1, .int p2, .int p3, .int p4, .int p5, .int p6, .int p7]) (va_Qv post (gB D K ad (va_A (gw K ad g) sz)) (va_A (gw K ad g) sz)) 0 0 (va_A (gw K ad g) sz) := by
  refine Met.ofW (cc := cX3_add) (maxL := 11) (ret := none) (by decide) rfl ?_
  intro p e s m args below meth c s₁ B hml hv
  obtain ⟨rfl, hsz, hP, hE, hD0⟩ := hv
  have hx := B.exec
  have hb := B.bytes
  have hr := B.returns
  have hts := atoms_spec (ws := wsX3_add) B.pre
  have hq : ∀ w ∈ gW, w.before _ s = true := fun w h => hts w (List.mem_cons_of_mem _ h)
  have hown : s.vm.findClass RX3 = some m.cls := findClass_of_methodNamed B.named
  have hlocks := B.notSynchronized
  subst hsz
  have hD := hD0.self (sz := s.heap.size)
  generalize hAe : va_A (gw K ad g) s.heap.size = A at hD hE ⊢
  have hA : ∀ q : Nat, s.heap.size ≤ q → A q := fun q h => by rw [← hAe]; exact Or.inr h
  have hK := hE.1
  have hG : gX D K ad A s.heap g s.heap [] := ⟨hP, hD, va_S.rf⟩
  have hl := lv_entry ([.ref (ad 4), .int p1, .int p2, .int p3, .int p4, .int p5, .int p6, .int p7]) (n := 11) (Nat.le_of_ble_eq_true rfl)
  rw [lg_entry_eq]
  generalize (lg_sl ([.ref (ad 4), .int p1, .int p2, .int p3, .int p4, .int p5, .int p6, .int p7]) ++ List.replicate (11 - (lg_sl ([.ref (ad 4), .int p1, .int p2, .int p3, .int p4, .int p5, .int p6, .int p7])).length) Slot.unset).toArray = ls at hl ⊢
  have hl : lv_has ls 11 [(0, .ref (ad 4)), (1, .int p1), (2, .int p2), (3, .int p3), (4, .int p4), (5, .int p5), (6, .int p6), (7, .int p7)] := hl
  dsimp only [wp_X3_add] at hw
  refine lv_iconst (v := 0) hx hb dX3_add_0 (by decide) ?_
  refine lv_istore (lv' := [(8, .int 0), (0, .ref (ad 4)), (1, .int p1), (2, .int p2), (3, .int p3), (4, .int p4), (5, .int p5), (6, .int p6), (7, .int p7)]) hx hb dX3_add_1 hl (by decide) rfl (fun ls hl => ?_)
  obtain ⟨n_37, hw⟩ := hw
  exact L_X3_add_3 post hl9 hx hb hr hml hown hts hlocks hA hE n_37 p1 p2 p3 p4 p5 p6 p7 0 g hw _ _ _ hG (lv_sub hl [1, 2, 3, 4, 5, 6, 7, 8, 0] rfl)

def wp_X3_frame (post : gS → Prop) (p1 : Int32) (p2 : Int32) (p3 : Int32) (p4 : Int32) (p5 : Int32) (p6 : Int32) (g : gS) : Prop := vp_in p1 24 ∧ (∀ x_2 : Int32, x_2 = (g.1 10 p1.toNatClampNeg) + 1 → (vp_in p1 24 ∧ (∀ g_4 : gS, g_4 = gi g 10 p1.toNatClampNeg x_2 → (vp_in p1 24 ∧ (((¬ (g_4.1 7 p1.toNatClampNeg) = 0) → (wp_X3_nextFate (fun r_8 g_7 => (∀ x_9 : Int32, x_9 = 512 - (g_7.1 4 4) → (((r_8 = 1) → (post g_7)) ∧ ((¬ r_8 = 1) → (((¬ r_8 = 2) → (((1 ≤ x_9) → (vp_in p1 24 ∧ (((¬ r_8 = 3) → (wp_X3_add (fun g_15 => (((¬ r_8 = 2) → (post g_15)) ∧ ((r_8 = 2) → (vp_in p1 24 ∧ (wp_X3_add (fun g_18 => (post g_18)) p1 p2 p3 p4 p5 p6 ((g_15.1 4 1) + ((g_15.1 6 p1.toNatClampNeg) * 3)) g_15))))) p1 p2 p3 p4 p5 p6 ((g_7.1 4 1) + ((g_7.1 6 p1.toNatClampNeg) * 1)) g_7)) ∧ ((r_8 = 3) → (wp_X3_add (fun g_19 => (((¬ r_8 = 2) → (post g_19)) ∧ ((r_8 = 2) → (vp_in p1 24 ∧ (wp_X3_add (fun g_22 => (post g_22)) p1 p2 p3 p4 p5 p6 ((g_19.1 4 1) + ((g_19.1 6 p1.toNatClampNeg) * 3)) g_19))))) p1 p2 p3 p4 p5 p6 ((g_7.1 4 1) + ((g_7.1 6 p1.toNatClampNeg) * 4)) g_7))))) ∧ ((¬ 1 ≤ x_9) → (post g_7)))) ∧ ((r_8 = 2) → (((2 ≤ x_9) → (vp_in p1 24 ∧ (((¬ r_8 = 3) → (wp_X3_add (fun g_26 => (((¬ r_8 = 2) → (post g_26)) ∧ ((r_8 = 2) → (vp_in p1 24 ∧ (wp_X3_add (fun g_29 => (post g_29)) p1 p2 p3 p4 p5 p6 ((g_26.1 4 1) + ((g_26.1 6 p1.toNatClampNeg) * 3)) g_26))))) p1 p2 p3 p4 p5 p6 ((g_7.1 4 1) + ((g_7.1 6 p1.toNatClampNeg) * 1)) g_7)) ∧ ((r_8 = 3) → (wp_X3_add (fun g_30 => (((¬ r_8 = 2) → (post g_30)) ∧ ((r_8 = 2) → (vp_in p1 24 ∧ (wp_X3_add (fun g_33 => (post g_33)) p1 p2 p3 p4 p5 p6 ((g_30.1 4 1) + ((g_30.1 6 p1.toNatClampNeg) * 3)) g_30))))) p1 p2 p3 p4 p5 p6 ((g_7.1 4 1) + ((g_7.1 6 p1.toNatClampNeg) * 4)) g_7))))) ∧ ((¬ 2 ≤ x_9) → (post g_7))))))))) p1 g_4)) ∧ (((g_4.1 7 p1.toNatClampNeg) = 0) → (post g_4)))))))
set_option maxHeartbeats 4000000 in
set_option maxRecDepth 100000 in
theorem m_X3_frame {l : Launch} (hl9 : l.stackTraces = false) (D : va_G) (K : Nat → ClassId) (sa ad : Nat → Nat) (sz : Nat) (post : gS → Prop) (p1 : Int32) (p2 : Int32) (p3 : Int32) (p4 : Int32) (p5 : Int32) (p6 : Int32) (g : gS) (hw : wp_X3_frame post p1 p2 p3 p4 p5 p6 g) : Met l yX3_frame wsX3_frame ({ frames := 1, cells := 0, slots := 0, locals := 30 } : Room) (gPc D K sa ad sz g [.ref (ad 4), .int p1, .int p2, .int p3, .int p4, .int p5, .int p6]) (va_Qv post (gB D K ad (va_A (gw K ad g) sz)) (va_A (gw K ad g) sz)) 0 0 (va_A (gw K ad g) sz) := by
  refine Met.ofW (cc := cX3_frame) (maxL := 9) (ret := none) (by decide) rfl ?_
  intro p e s m args below meth c s₁ B hml hv
  obtain ⟨rfl, hsz, hP, hE, hD0⟩ := hv
  have hx := B.exec
  have hb := B.bytes
  have hr := B.returns
  have hts := atoms_spec (ws := wsX3_frame) B.pre
  have hq : ∀ w ∈ gW, w.before _ s = true := fun w h => hts w (List.mem_cons_of_mem _ h)
  have hown : s.vm.findClass RX3 = some m.cls := findClass_of_methodNamed B.named
  have hlocks := B.notSynchronized
  subst hsz
  have hD := hD0.self (sz := s.heap.size)
  generalize hAe : va_A (gw K ad g) s.heap.size = A at hD hE ⊢
  have hA : ∀ q : Nat, s.heap.size ≤ q → A q := fun q h => by rw [← hAe]; exact Or.inr h
  have hK := hE.1
  have hG : gX D K ad A s.heap g s.heap [] := ⟨hP, hD, va_S.rf⟩
  have hl := lv_entry ([.ref (ad 4), .int p1, .int p2, .int p3, .int p4, .int p5, .int p6]) (n := 9) (Nat.le_of_ble_eq_true rfl)
  rw [lg_entry_eq]
  generalize (lg_sl ([.ref (ad 4), .int p1, .int p2, .int p3, .int p4, .int p5, .int p6]) ++ List.replicate (9 - (lg_sl ([.ref (ad 4), .int p1, .int p2, .int p3, .int p4, .int p5, .int p6])).length) Slot.unset).toArray = ls at hl ⊢
  have hl : lv_has ls 9 [(0, .ref (ad 4)), (1, .int p1), (2, .int p2), (3, .int p3), (4, .int p4), (5, .int p5), (6, .int p6)] := hl
  dsimp only [wp_X3_frame] at hw
  refine lv_aload_n hx hb dX3_frame_0 rfl (lv_at hl 0 rfl) ?_
  refine g_get (own := RX3) (C := RX3) (T := TX3) (N := 19) (ci := 3) hx hb hq hin_X3 hown hK hG (k := 4) (gok_lo (by decide)) (gc_M) rfl 8 (by decide) (hq _ q_421) rfl (v := .ref (ad 10)) rfl dX3_frame_1 ?_
  refine lv_iload_n hx hb dX3_frame_4 rfl (lv_at hl 1 rfl) ?_
  refine lv_dup2_11 hx hb dX3_frame_5 rfl rfl ?_
  obtain ⟨hi_1, hw⟩ := hw
  refine g_iald hx hb hK hG (k := 10) (gok_lo (by decide)) (gc_10) hi_1 dX3_frame_6 ?_
  refine lv_iconst (v := 1) hx hb dX3_frame_7 (by decide) ?_
  refine lv_iadd hx hb dX3_frame_8 ?_
  refine lv_topi (fun x_2 ex_2 => ?_)
  have hw := hw x_2 ex_2
  obtain ⟨hi_3, hw⟩ := hw
  refine g_iast hx hb hK hG (k := 10) (gok_lo (by decide)) (fun g => gc_10) (x := x_2) hi_3 (gho_lo (by decide)) dX3_frame_9 (fun H locs hG => ?_)
  obtain ⟨g_4, eg_4⟩ : ∃ z, z = gi g 10 p1.toNatClampNeg x_2 := ⟨_, rfl⟩
  rw [← eg_4] at hG
  have hw := hw g_4 eg_4
  refine lv_aload_n hx hb dX3_frame_10 rfl (lv_at hl 0 rfl) ?_
  refine g_get (own := RX3) (C := RX3) (T := TX3) (N := 19) (ci := 3) hx hb hq hin_X3 hown hK hG (k := 4) (gok_lo (by decide)) (gc_M) rfl 5 (by decide) (hq _ q_418) rfl (v := .ref (ad 7)) rfl dX3_frame_11 ?_
  refine lv_iload_n hx hb dX3_frame_14 rfl (lv_at hl 1 rfl) ?_
  obtain ⟨hi_5, hw⟩ := hw
  refine g_zald hx hb hK hG (k := 7) (gok_lo (by decide)) (gc_7) hi_5 dX3_frame_15 ?_
  refine lv_if_ne (tgt := 20) hx hb dX3_frame_16 (by decide) (fun c_6 => ?_) (fun c_6 => ?_)
  · have hw := hw.1 c_6
    refine lv_aload_n hx hb dX3_frame_20 rfl (lv_at hl 0 rfl) ?_
    refine lv_iload_n hx hb dX3_frame_21 rfl (lv_at hl 1 rfl) ?_
    refine g_calli (va_runV (As := [.int p1]) (rest := []) ⟨hx, hb, hml, hown, hts⟩ (m_X3_nextFate hl9 D K sa ad _ _ p1 g_4 hw) (cwV 1 hts (gGood gCons (gV q_512 q_514 q_16 q_23 q_515)) rfl rfl rfl (by decide +kernel) ⟨Nat.le_of_ble_eq_true rfl, Nat.le_of_ble_eq_true rfl⟩) ⟨gPc_blind, g_recv hK hG (gok_lo (by decide)) (gc_M) rfl, gPc_at hE hG hA⟩ rfl rfl hl.1 rfl (lv_room (Nat.le_of_ble_eq_true rfl)) dX3_frame_22 ⟨Nat.le_of_ble_eq_true rfl, Nat.le_of_ble_eq_true rfl⟩) hG hA (fun r_8 g_7 H locs hw hG => ?_)
    try dsimp only at hw
    refine lv_istore (lv' := [(7, .int r_8), (0, .ref (ad 4)), (1, .int p1), (2, .int p2), (3, .int p3), (4, .int p4), (5, .int p5), (6, .int p6)]) hx hb dX3_frame_25 hl (by decide) rfl (fun ls hl => ?_)
    refine lv_sipush (v := 512) hx hb dX3_frame_27 (by decide) ?_
    refine lv_aload_n hx hb dX3_frame_30 rfl (lv_at hl 1 rfl) ?_
    refine g_get (own := RX3) (C := RX3) (T := TX3) (N := 19) (ci := 3) hx hb hq hin_X3 hown hK hG (k := 4) (gok_lo (by decide)) (gc_M) rfl 11 (by decide) (hq _ q_424) rfl (v := .int (g_7.1 4 4)) rfl dX3_frame_31 ?_
    refine lv_isub hx hb dX3_frame_34 ?_
    refine lv_topi (fun x_9 ex_9 => ?_)
    have hw := hw x_9 ex_9
    refine lv_istore (lv' := [(8, .int x_9), (7, .int r_8), (0, .ref (ad 4)), (1, .int p1), (2, .int p2), (3, .int p3), (4, .int p4), (5, .int p5), (6, .int p6)]) hx hb dX3_frame_35 hl (by decide) rfl (fun ls hl => ?_)
    refine lv_iload hx hb dX3_frame_37 (lv_at hl 1 rfl) ?_
    refine lv_iconst (v := 1) hx hb dX3_frame_39 (by decide) ?_
    refine lv_icmp_eq (tgt := 59) hx hb dX3_frame_40 (by decide) (fun c_10 => ?_) (fun c_10 => ?_)
    · have hw := hw.1 c_10
      exact g_vret hx hb hr hlocks hw hG (by decide) (by decide) dX3_frame_59
    · have hw := hw.2 c_10
      refine lv_iload hx hb dX3_frame_43 (lv_at hl 0 rfl) ?_
      refine lv_iload hx hb dX3_frame_45 (lv_at hl 1 rfl) ?_
      refine lv_iconst (v := 2) hx hb dX3_frame_47 (by decide) ?_
      refine lv_icmp_ne (tgt := 55) hx hb dX3_frame_48 (by decide) (fun c_11 => ?_) (fun c_11 => ?_)
      · have hw := hw.1 c_11
        refine lv_iconst (v := 1) hx hb dX3_frame_55 (by decide) ?_
        refine lv_icmp_ge (tgt := 60) hx hb dX3_frame_56 (by decide) (fun c_12 => ?_) (fun c_12 => ?_)
        · have hw := hw.1 c_12
          refine lv_aload_n hx hb dX3_frame_60 rfl (lv_at hl 2 rfl) ?_
          refine lv_iload_n hx hb dX3_frame_61 rfl (lv_at hl 3 rfl) ?_
          refine lv_iload_n hx hb dX3_frame_62 rfl (lv_at hl 4 rfl) ?_
          refine lv_iload_n hx hb dX3_frame_63 rfl (lv_at hl 5 rfl) ?_
          refine lv_iload hx hb dX3_frame_64 (lv_at hl 6 rfl) ?_
          refine lv_iload hx hb dX3_frame_66 (lv_at hl 7 rfl) ?_
          refine lv_iload hx hb dX3_frame_68 (lv_at hl 8 rfl) ?_
          refine lv_aload_n hx hb dX3_frame_70 rfl (lv_at hl 2 rfl) ?_
          refine g_get (own := RX3) (C := RX3) (T := TX3) (N := 19) (ci := 3) hx hb hq hin_X3 hown hK hG (k := 4) (gok_lo (by decide)) (gc_M) rfl 1 (by decide) (hq _ q_414) rfl (v := .int (g_7.1 4 1)) rfl dX3_frame_71 ?_
          refine lv_aload_n hx hb dX3_frame_74 rfl (lv_at hl 2 rfl) ?_
          refine g_get (own := RX3) (C := RX3) (T := TX3) (N := 19) (ci := 3) hx hb hq hin_X3 hown hK hG (k := 4) (gok_lo (by decide)) (gc_M) rfl 4 (by decide) (hq _ q_417) rfl (v := .ref (ad 6)) rfl dX3_frame_75 ?_
          refine lv_iload_n hx hb dX3_frame_78 rfl (lv_at hl 3 rfl) ?_
          obtain ⟨hi_13, hw⟩ := hw
          refine g_iald hx hb hK hG (k := 6) (gok_lo (by decide)) (gc_6) hi_13 dX3_frame_79 ?_
          refine lv_iload hx hb dX3_frame_80 (lv_at hl 1 rfl) ?_
          refine lv_iconst (v := 3) hx hb dX3_frame_82 (by decide) ?_
          refine lv_icmp_ne (tgt := 90) hx hb dX3_frame_83 (by decide) (fun c_14 => ?_) (fun c_14 => ?_)
          · have hw := hw.1 c_14
            refine lv_iconst (v := 1) hx hb dX3_frame_90 (by decide) ?_
            refine lv_imul hx hb dX3_frame_91 ?_
            refine lv_iadd hx hb dX3_frame_92 ?_
            refine g_callv (va_runV (As := [.int p1, .int p2, .int p3, .int p4, .int p5, .int p6, .int ((g_7.1 4 1) + ((g_7.1 6 p1.toNatClampNeg) * 1))]) (rest := []) ⟨hx, hb, hml, hown, hts⟩ (m_X3_add hl9 D K sa ad _ _ p1 p2 p3 p4 p5 p6 ((g_7.1 4 1) + ((g_7.1 6 p1.toNatClampNeg) * 1)) g_7 hw) (cwV 7 hts (gGood gCons (gV q_516 q_518 q_17 q_23 q_519)) rfl rfl rfl (by decide +kernel) ⟨Nat.le_of_ble_eq_true rfl, Nat.le_of_ble_eq_true rfl⟩) ⟨gPc_blind, g_recv hK hG (gok_lo (by decide)) (gc_M) rfl, gPc_at hE hG hA⟩ rfl rfl hl.1 rfl (lv_room (Nat.le_of_ble_eq_true rfl)) dX3_frame_93 ⟨Nat.le_of_ble_eq_true rfl, Nat.le_of_ble_eq_true rfl⟩) hG hA (fun g_15 H locs hw hG => ?_)
            try dsimp only at hw
            refine lv_iload hx hb dX3_frame_96 (lv_at hl 1 rfl) ?_
            refine lv_iconst (v := 2) hx hb dX3_frame_98 (by decide) ?_
            refine lv_icmp_ne (tgt := 128) hx hb dX3_frame_99 (by decide) (fun c_16 => ?_) (fun c_16 => ?_)
            · have hw := hw.1 c_16
              exact g_vret hx hb hr hlocks hw hG (by decide) (by decide) dX3_frame_128
            · have hw := hw.2 c_16
              refine lv_aload_n hx hb dX3_frame_102 rfl (lv_at hl 2 rfl) ?_
              refine lv_iload_n hx hb dX3_frame_103 rfl (lv_at hl 3 rfl) ?_
              refine lv_iload_n hx hb dX3_frame_104 rfl (lv_at hl 4 rfl) ?_
              refine lv_iload_n hx hb dX3_frame_105 rfl (lv_at hl 5 rfl) ?_
              refine lv_iload hx hb dX3_frame_106 (lv_at hl 6 rfl) ?_
              refine lv_iload hx hb dX3_frame_108 (lv_at hl 7 rfl) ?_
              refine lv_iload hx hb dX3_frame_110 (lv_at hl 8 rfl) ?_
              refine lv_aload_n hx hb dX3_frame_112 rfl (lv_at hl 2 rfl) ?_
              refine g_get (own := RX3) (C := RX3) (T := TX3) (N := 19) (ci := 3) hx hb hq hin_X3 hown hK hG (k := 4) (gok_lo (by decide)) (gc_M) rfl 1 (by decide) (hq _ q_414) rfl (v := .int (g_15.1 4 1)) rfl dX3_frame_113 ?_
              refine lv_aload_n hx hb dX3_frame_116 rfl (lv_at hl 2 rfl) ?_
              refine g_get (own := RX3) (C := RX3) (T := TX3) (N := 19) (ci := 3) hx hb hq hin_X3 hown hK hG (k := 4) (gok_lo (by decide)) (gc_M) rfl 4 (by decide) (hq _ q_417) rfl (v := .ref (ad 6)) rfl dX3_frame_117 ?_
              refine lv_iload_n hx hb dX3_frame_120 rfl (lv_at hl 3 rfl) ?_
              obtain ⟨hi_17, hw⟩ := hw
              refine g_iald hx hb hK hG (k := 6) (gok_lo (by decide)) (gc_6) hi_17 dX3_frame_121 ?_
              refine lv_iconst (v := 3) hx hb dX3_frame_122 (by decide) ?_
              refine lv_imul hx hb dX3_frame_123 ?_
              refine lv_iadd hx hb dX3_frame_124 ?_
              refine g_callv (va_runV (As := [.int p1, .int p2, .int p3, .int p4, .int p5, .int p6, .int ((g_15.1 4 1) + ((g_15.1 6 p1.toNatClampNeg) * 3))]) (rest := []) ⟨hx, hb, hml, hown, hts⟩ (m_X3_add hl9 D K sa ad _ _ p1 p2 p3 p4 p5 p6 ((g_15.1 4 1) + ((g_15.1 6 p1.toNatClampNeg) * 3)) g_15 hw) (cwV 7 hts (gGood gCons (gV q_516 q_518 q_17 q_23 q_519)) rfl rfl rfl (by decide +kernel) ⟨Nat.le_of_ble_eq_true rfl, Nat.le_of_ble_eq_true rfl⟩) ⟨gPc_blind, g_recv hK hG (gok_lo (by decide)) (gc_M) rfl, gPc_at hE hG hA⟩ rfl rfl hl.1 rfl (lv_room (Nat.le_of_ble_eq_true rfl)) dX3_frame_125 ⟨Nat.le_of_ble_eq_true rfl, Nat.le_of_ble_eq_true rfl⟩) hG hA (fun g_18 H locs hw hG => ?_)
              try dsimp only at hw
              exact g_vret hx hb hr hlocks hw hG (by decide) (by decide) dX3_frame_128
          · have hw := hw.2 c_14
            refine lv_iconst (v := 4) hx hb dX3_frame_86 (by decide) ?_
            refine lv_goto (tgt := 91) hx hb dX3_frame_87 (by decide) ?_
            refine lv_imul hx hb dX3_frame_91 ?_
            refine lv_iadd hx hb dX3_frame_92 ?_
            refine g_callv (va_runV (As := [.int p1, .int p2, .int p3, .int p4, .int p5, .int p6, .int ((g_7.1 4 1) + ((g_7.1 6 p1.toNatClampNeg) * 4))]) (rest := []) ⟨hx, hb, hml, hown, hts⟩ (m_X3_add hl9 D K sa ad _ _ p1 p2 p3 p4 p5 p6 ((g_7.1 4 1) + ((g_7.1 6 p1.toNatClampNeg) * 4)) g_7 hw) (cwV 7 hts (gGood gCons (gV q_516 q_518 q_17 q_23 q_519)) rfl rfl rfl (by decide +kernel) ⟨Nat.le_of_ble_eq_true rfl, Nat.le_of_ble_eq_true rfl⟩) ⟨gPc_blind, g_recv hK hG (gok_lo (by decide)) (gc_M) rfl, gPc_at hE hG hA⟩ rfl rfl hl.1 rfl (lv_room (Nat.le_of_ble_eq_true rfl)) dX3_frame_93 ⟨Nat.le_of_ble_eq_true rfl, Nat.le_of_ble_eq_true rfl⟩) hG hA (fun g_19 H locs hw hG => ?_)
            try dsimp only at hw
            refine lv_iload hx hb dX3_frame_96 (lv_at hl 1 rfl) ?_
            refine lv_iconst (v := 2) hx hb dX3_frame_98 (by decide) ?_
            refine lv_icmp_ne (tgt := 128) hx hb dX3_frame_99 (by decide) (fun c_20 => ?_) (fun c_20 => ?_)
            · have hw := hw.1 c_20
              exact g_vret hx hb hr hlocks hw hG (by decide) (by decide) dX3_frame_128
            · have hw := hw.2 c_20
              refine lv_aload_n hx hb dX3_frame_102 rfl (lv_at hl 2 rfl) ?_
              refine lv_iload_n hx hb dX3_frame_103 rfl (lv_at hl 3 rfl) ?_
              refine lv_iload_n hx hb dX3_frame_104 rfl (lv_at hl 4 rfl) ?_
              refine lv_iload_n hx hb dX3_frame_105 rfl (lv_at hl 5 rfl) ?_
              refine lv_iload hx hb dX3_frame_106 (lv_at hl 6 rfl) ?_
              refine lv_iload hx hb dX3_frame_108 (lv_at hl 7 rfl) ?_
              refine lv_iload hx hb dX3_frame_110 (lv_at hl 8 rfl) ?_
              refine lv_aload_n hx hb dX3_frame_112 rfl (lv_at hl 2 rfl) ?_
              refine g_get (own := RX3) (C := RX3) (T := TX3) (N := 19) (ci := 3) hx hb hq hin_X3 hown hK hG (k := 4) (gok_lo (by decide)) (gc_M) rfl 1 (by decide) (hq _ q_414) rfl (v := .int (g_19.1 4 1)) rfl dX3_frame_113 ?_
              refine lv_aload_n hx hb dX3_frame_116 rfl (lv_at hl 2 rfl) ?_
              refine g_get (own := RX3) (C := RX3) (T := TX3) (N := 19) (ci := 3) hx hb hq hin_X3 hown hK hG (k := 4) (gok_lo (by decide)) (gc_M) rfl 4 (by decide) (hq _ q_417) rfl (v := .ref (ad 6)) rfl dX3_frame_117 ?_
              refine lv_iload_n hx hb dX3_frame_120 rfl (lv_at hl 3 rfl) ?_
              obtain ⟨hi_21, hw⟩ := hw
              refine g_iald hx hb hK hG (k := 6) (gok_lo (by decide)) (gc_6) hi_21 dX3_frame_121 ?_
              refine lv_iconst (v := 3) hx hb dX3_frame_122 (by decide) ?_
              refine lv_imul hx hb dX3_frame_123 ?_
              refine lv_iadd hx hb dX3_frame_124 ?_
              refine g_callv (va_runV (As := [.int p1, .int p2, .int p3, .int p4, .int p5, .int p6, .int ((g_19.1 4 1) + ((g_19.1 6 p1.toNatClampNeg) * 3))]) (rest := []) ⟨hx, hb, hml, hown, hts⟩ (m_X3_add hl9 D K sa ad _ _ p1 p2 p3 p4 p5 p6 ((g_19.1 4 1) + ((g_19.1 6 p1.toNatClampNeg) * 3)) g_19 hw) (cwV 7 hts (gGood gCons (gV q_516 q_518 q_17 q_23 q_519)) rfl rfl rfl (by decide +kernel) ⟨Nat.le_of_ble_eq_true rfl, Nat.le_of_ble_eq_true rfl⟩) ⟨gPc_blind, g_recv hK hG (gok_lo (by decide)) (gc_M) rfl, gPc_at hE hG hA⟩ rfl rfl hl.1 rfl (lv_room (Nat.le_of_ble_eq_true rfl)) dX3_frame_125 ⟨Nat.le_of_ble_eq_true rfl, Nat.le_of_ble_eq_true rfl⟩) hG hA (fun g_22 H locs hw hG => ?_)
              try dsimp only at hw
              exact g_vret hx hb hr hlocks hw hG (by decide) (by decide) dX3_frame_128
        · have hw := hw.2 c_12
          exact g_vret hx hb hr hlocks hw hG (by decide) (by decide) dX3_frame_59
      · have hw := hw.2 c_11
        refine lv_iconst (v := 2) hx hb dX3_frame_51 (by decide) ?_
        refine lv_goto (tgt := 56) hx hb dX3_frame_52 (by decide) ?_
        refine lv_icmp_ge (tgt := 60) hx hb dX3_frame_56 (by decide) (fun c_23 => ?_) (fun c_23 => ?_)
        · have hw := hw.1 c_23
          refine lv_aload_n hx hb dX3_frame_60 rfl (lv_at hl 2 rfl) ?_
          refine lv_iload_n hx hb dX3_frame_61 rfl (lv_at hl 3 rfl) ?_
          refine lv_iload_n hx hb dX3_frame_62 rfl (lv_at hl 4 rfl) ?_
          refine lv_iload_n hx hb dX3_frame_63 rfl (lv_at hl 5 rfl) ?_
          refine lv_iload hx hb dX3_frame_64 (lv_at hl 6 rfl) ?_
          refine lv_iload hx hb dX3_frame_66 (lv_at hl 7 rfl) ?_
          refine lv_iload hx hb dX3_frame_68 (lv_at hl 8 rfl) ?_
          refine lv_aload_n hx hb dX3_frame_70 rfl (lv_at hl 2 rfl) ?_
          refine g_get (own := RX3) (C := RX3) (T := TX3) (N := 19) (ci := 3) hx hb hq hin_X3 hown hK hG (k := 4) (gok_lo (by decide)) (gc_M) rfl 1 (by decide) (hq _ q_414) rfl (v := .int (g_7.1 4 1)) rfl dX3_frame_71 ?_
          refine lv_aload_n hx hb dX3_frame_74 rfl (lv_at hl 2 rfl) ?_
          refine g_get (own := RX3) (C := RX3) (T := TX3) (N := 19) (ci := 3) hx hb hq hin_X3 hown hK hG (k := 4) (gok_lo (by decide)) (gc_M) rfl 4 (by decide) (hq _ q_417) rfl (v := .ref (ad 6)) rfl dX3_frame_75 ?_
          refine lv_iload_n hx hb dX3_frame_78 rfl (lv_at hl 3 rfl) ?_
          obtain ⟨hi_24, hw⟩ := hw
          refine g_iald hx hb hK hG (k := 6) (gok_lo (by decide)) (gc_6) hi_24 dX3_frame_79 ?_
          refine lv_iload hx hb dX3_frame_80 (lv_at hl 1 rfl) ?_
          refine lv_iconst (v := 3) hx hb dX3_frame_82 (by decide) ?_
          refine lv_icmp_ne (tgt := 90) hx hb dX3_frame_83 (by decide) (fun c_25 => ?_) (fun c_25 => ?_)
          · have hw := hw.1 c_25
            refine lv_iconst (v := 1) hx hb dX3_frame_90 (by decide) ?_
            refine lv_imul hx hb dX3_frame_91 ?_
            refine lv_iadd hx hb dX3_frame_92 ?_
            refine g_callv (va_runV (As := [.int p1, .int p2, .int p3, .int p4, .int p5, .int p6, .int ((g_7.1 4 1) + ((g_7.1 6 p1.toNatClampNeg) * 1))]) (rest := []) ⟨hx, hb, hml, hown, hts⟩ (m_X3_add hl9 D K sa ad _ _ p1 p2 p3 p4 p5 p6 ((g_7.1 4 1) + ((g_7.1 6 p1.toNatClampNeg) * 1)) g_7 hw) (cwV 7 hts (gGood gCons (gV q_516 q_518 q_17 q_23 q_519)) rfl rfl rfl (by decide +kernel) ⟨Nat.le_of_ble_eq_true rfl, Nat.le_of_ble_eq_true rfl⟩) ⟨gPc_blind, g_recv hK hG (gok_lo (by decide)) (gc_M) rfl, gPc_at hE hG hA⟩ rfl rfl hl.1 rfl (lv_room (Nat.le_of_ble_eq_true rfl)) dX3_frame_93 ⟨Nat.le_of_ble_eq_true rfl, Nat.le_of_ble_eq_true rfl⟩) hG hA (fun g_26 H locs hw hG => ?_)
            try dsimp only at hw
            refine lv_iload hx hb dX3_frame_96 (lv_at hl 1 rfl) ?_
            refine lv_iconst (v := 2) hx hb dX3_frame_98 (by decide) ?_
            refine lv_icmp_ne (tgt := 128) hx hb dX3_frame_99 (by decide) (fun c_27 => ?_) (fun c_27 => ?_)
            · have hw := hw.1 c_27
              exact g_vret hx hb hr hlocks hw hG (by decide) (by decide) dX3_frame_128
            · have hw := hw.2 c_27
              refine lv_aload_n hx hb dX3_frame_102 rfl (lv_at hl 2 rfl) ?_
              refine lv_iload_n hx hb dX3_frame_103 rfl (lv_at hl 3 rfl) ?_
              refine lv_iload_n hx hb dX3_frame_104 rfl (lv_at hl 4 rfl) ?_
              refine lv_iload_n hx hb dX3_frame_105 rfl (lv_at hl 5 rfl) ?_
              refine lv_iload hx hb dX3_frame_106 (lv_at hl 6 rfl) ?_
              refine lv_iload hx hb dX3_frame_108 (lv_at hl 7 rfl) ?_
              refine lv_iload hx hb dX3_frame_110 (lv_at hl 8 rfl) ?_
              refine lv_aload_n hx hb dX3_frame_112 rfl (lv_at hl 2 rfl) ?_
              refine g_get (own := RX3) (C := RX3) (T := TX3) (N := 19) (ci := 3) hx hb hq hin_X3 hown hK hG (k := 4) (gok_lo (by decide)) (gc_M) rfl 1 (by decide) (hq _ q_414) rfl (v := .int (g_26.1 4 1)) rfl dX3_frame_113 ?_
              refine lv_aload_n hx hb dX3_frame_116 rfl (lv_at hl 2 rfl) ?_
              refine g_get (own := RX3) (C := RX3) (T := TX3) (N := 19) (ci := 3) hx hb hq hin_X3 hown hK hG (k := 4) (gok_lo (by decide)) (gc_M) rfl 4 (by decide) (hq _ q_417) rfl (v := .ref (ad 6)) rfl dX3_frame_117 ?_
              refine lv_iload_n hx hb dX3_frame_120 rfl (lv_at hl 3 rfl) ?_
              obtain ⟨hi_28, hw⟩ := hw
              refine g_iald hx hb hK hG (k := 6) (gok_lo (by decide)) (gc_6) hi_28 dX3_frame_121 ?_
              refine lv_iconst (v := 3) hx hb dX3_frame_122 (by decide) ?_
              refine lv_imul hx hb dX3_frame_123 ?_
              refine lv_iadd hx hb dX3_frame_124 ?_
              refine g_callv (va_runV (As := [.int p1, .int p2, .int p3, .int p4, .int p5, .int p6, .int ((g_26.1 4 1) + ((g_26.1 6 p1.toNatClampNeg) * 3))]) (rest := []) ⟨hx, hb, hml, hown, hts⟩ (m_X3_add hl9 D K sa ad _ _ p1 p2 p3 p4 p5 p6 ((g_26.1 4 1) + ((g_26.1 6 p1.toNatClampNeg) * 3)) g_26 hw) (cwV 7 hts (gGood gCons (gV q_516 q_518 q_17 q_23 q_519)) rfl rfl rfl (by decide +kernel) ⟨Nat.le_of_ble_eq_true rfl, Nat.le_of_ble_eq_true rfl⟩) ⟨gPc_blind, g_recv hK hG (gok_lo (by decide)) (gc_M) rfl, gPc_at hE hG hA⟩ rfl rfl hl.1 rfl (lv_room (Nat.le_of_ble_eq_true rfl)) dX3_frame_125 ⟨Nat.le_of_ble_eq_true rfl, Nat.le_of_ble_eq_true rfl⟩) hG hA (fun g_29 H locs hw hG => ?_)
              try dsimp only at hw
              exact g_vret hx hb hr hlocks hw hG (by decide) (by decide) dX3_frame_128
          · have hw := hw.2 c_25
            refine lv_iconst (v := 4) hx hb dX3_frame_86 (by decide) ?_
            refine lv_goto (tgt := 91) hx hb dX3_frame_87 (by decide) ?_
            refine lv_imul hx hb dX3_frame_91 ?_
            refine lv_iadd hx hb dX3_frame_92 ?_
            refine g_callv (va_runV (As := [.int p1, .int p2, .int p3, .int p4, .int p5, .int p6, .int ((g_7.1 4 1) + ((g_7.1 6 p1.toNatClampNeg) * 4))]) (rest := []) ⟨hx, hb, hml, hown, hts⟩ (m_X3_add hl9 D K sa ad _ _ p1 p2 p3 p4 p5 p6 ((g_7.1 4 1) + ((g_7.1 6 p1.toNatClampNeg) * 4)) g_7 hw) (cwV 7 hts (gGood gCons (gV q_516 q_518 q_17 q_23 q_519)) rfl rfl rfl (by decide +kernel) ⟨Nat.le_of_ble_eq_true rfl, Nat.le_of_ble_eq_true rfl⟩) ⟨gPc_blind, g_recv hK hG (gok_lo (by decide)) (gc_M) rfl, gPc_at hE hG hA⟩ rfl rfl hl.1 rfl (lv_room (Nat.le_of_ble_eq_true rfl)) dX3_frame_93 ⟨Nat.le_of_ble_eq_true rfl, Nat.le_of_ble_eq_true rfl⟩) hG hA (fun g_30 H locs hw hG => ?_)
            try dsimp only at hw
            refine lv_iload hx hb dX3_frame_96 (lv_at hl 1 rfl) ?_
            refine lv_iconst (v := 2) hx hb dX3_frame_98 (by decide) ?_
            refine lv_icmp_ne (tgt := 128) hx hb dX3_frame_99 (by decide) (fun c_31 => ?_) (fun c_31 => ?_)
            · have hw := hw.1 c_31
              exact g_vret hx hb hr hlocks hw hG (by decide) (by decide) dX3_frame_128
            · have hw := hw.2 c_31
              refine lv_aload_n hx hb dX3_frame_102 rfl (lv_at hl 2 rfl) ?_
              refine lv_iload_n hx hb dX3_frame_103 rfl (lv_at hl 3 rfl) ?_
              refine lv_iload_n hx hb dX3_frame_104 rfl (lv_at hl 4 rfl) ?_
              refine lv_iload_n hx hb dX3_frame_105 rfl (lv_at hl 5 rfl) ?_
              refine lv_iload hx hb dX3_frame_106 (lv_at hl 6 rfl) ?_
              refine lv_iload hx hb dX3_frame_108 (lv_at hl 7 rfl) ?_
              refine lv_iload hx hb dX3_frame_110 (lv_at hl 8 rfl) ?_
              refine lv_aload_n hx hb dX3_frame_112 rfl (lv_at hl 2 rfl) ?_
              refine g_get (own := RX3) (C := RX3) (T := TX3) (N := 19) (ci := 3) hx hb hq hin_X3 hown hK hG (k := 4) (gok_lo (by decide)) (gc_M) rfl 1 (by decide) (hq _ q_414) rfl (v := .int (g_30.1 4 1)) rfl dX3_frame_113 ?_
              refine lv_aload_n hx hb dX3_frame_116 rfl (lv_at hl 2 rfl) ?_
              refine g_get (own := RX3) (C := RX3) (T := TX3) (N := 19) (ci := 3) hx hb hq hin_X3 hown hK hG (k := 4) (gok_lo (by decide)) (gc_M) rfl 4 (by decide) (hq _ q_417) rfl (v := .ref (ad 6)) rfl dX3_frame_117 ?_
              refine lv_iload_n hx hb dX3_frame_120 rfl (lv_at hl 3 rfl) ?_
              obtain ⟨hi_32, hw⟩ := hw
              refine g_iald hx hb hK hG (k := 6) (gok_lo (by decide)) (gc_6) hi_32 dX3_frame_121 ?_
              refine lv_iconst (v := 3) hx hb dX3_frame_122 (by decide) ?_
              refine lv_imul hx hb dX3_frame_123 ?_
              refine lv_iadd hx hb dX3_frame_124 ?_
              refine g_callv (va_runV (As := [.int p1, .int p2, .int p3, .int p4, .int p5, .int p6, .int ((g_30.1 4 1) + ((g_30.1 6 p1.toNatClampNeg) * 3))]) (rest := []) ⟨hx, hb, hml, hown, hts⟩ (m_X3_add hl9 D K sa ad _ _ p1 p2 p3 p4 p5 p6 ((g_30.1 4 1) + ((g_30.1 6 p1.toNatClampNeg) * 3)) g_30 hw) (cwV 7 hts (gGood gCons (gV q_516 q_518 q_17 q_23 q_519)) rfl rfl rfl (by decide +kernel) ⟨Nat.le_of_ble_eq_true rfl, Nat.le_of_ble_eq_true rfl⟩) ⟨gPc_blind, g_recv hK hG (gok_lo (by decide)) (gc_M) rfl, gPc_at hE hG hA⟩ rfl rfl hl.1 rfl (lv_room (Nat.le_of_ble_eq_true rfl)) dX3_frame_125 ⟨Nat.le_of_ble_eq_true rfl, Nat.le_of_ble_eq_true rfl⟩) hG hA (fun g_33 H locs hw hG => ?_)
              try dsimp only at hw
              exact g_vret hx hb hr hlocks hw hG (by decide) (by decide) dX3_frame_128
        · have hw := hw.2 c_23
          exact g_vret hx hb hr hlocks hw hG (by decide) (by decide) dX3_frame_59
  · have hw := hw.2 c_6
    exact g_vret hx hb hr hlocks hw hG (by decide) (by decide) dX3_frame_19

def wpl_X3_put_105 (post : Int32 → gS → Prop) : Nat → Int32 → Int32 → Int32 → Int32 → Int32 → Int32 → Int32 → Int32 → gS → Prop
  | 0 => fun _ _ _ _ _ _ _ _ _ => False
  | n + 1 => fun x1 x2 x3 x4 x5 x6 x7 x8 g => (((g.1 4 3) ≤ x8) → (∀ g_11 : gS, g_11 = gi g 4 3 (0 : Int32) → (post x6 g_11))) ∧ ((¬ (g.1 4 3) ≤ x8) → (((x7 ≤ ((g.1 4 3) - x8)) → (wp_X3_frame (fun g_13 => (∀ x_14 : Int32, x_14 = x6 + 1 → (∀ x_15 : Int32, x_15 = x8 + x7 → (wpl_X3_put_105 post n x1 x2 x3 x4 x5 x_14 x7 x_15 g_13)))) x1 x2 x3 x4 x8 x7 g)) ∧ ((¬ x7 ≤ ((g.1 4 3) - x8)) → (wp_X3_frame (fun g_16 => (∀ x_17 : Int32, x_17 = x6 + 1 → (∀ x_18 : Int32, x_18 = x8 + x7 → (wpl_X3_put_105 post n x1 x2 x3 x4 x5 x_17 x7 x_18 g_16)))) x1 x2 x3 x4 x8 ((g.1 4 3) - x8) g))))
set_option maxHeartbeats 4000000 in
set_option maxRecDepth 100000 in
theorem L_X3_put_105 {p : Program} {l : Launch} {e : Env} {s : State} {m : MethodId} {args : Array Value} {below : List Frame} {meth : Method} {c : Code} {D : va_G} {K : Nat → ClassId} {sa ad : Nat → Nat} {A : Nat → Prop} (post : Int32 → gS → Prop) (hl9 : l.stackTraces = false) (hx : p.tables.exec = Jvm.exec) (hb : c.code = cX3_put) (hr : meth.sig.returnType = (some .int)) (hml : c.maxLocals = 9) (hown : s.vm.findClass RX3 = some m.cls) (hts : ∀ w ∈ wsX3_put, w.before args s = true) (hlocks : meth.locks = false) (hA : ∀ q, s.heap.size ≤ q → A q) (hE : gE D K sa A s s.heap) : ∀ (n : Nat) (x1 : Int32) (x2 : Int32) (x3 : Int32) (x4 : Int32) (x5 : Int32) (x6 : Int32) (x7 : Int32) (x8 : Int32) (g : gS), wpl_X3_put_105 post n x1 x2 x3 x4 x5 x6 x7 x8 g → ∀ (H : Heap) (locs : List Loc) (ls : Array Slot), gX D K ad A s.heap g H locs → lv_has ls 9 [(0, .ref (ad 4)), (1, .int x1), (2, .int x2), (3, .int x3), (4, .int x4), (5, .int x5), (6, .int x6), (7, .int x7), (8, .int x8)] → W p l e ({ frames := 2, cells := 0, slots := 0, locals := 58 } : Room) s m args below meth c H locs 0 0 (MQ below (va_Qi post (gB D K ad A) A) args s 0 0 A) (F0 m 105 ls []) := by
  have hK := hE.1
  have hq : ∀ w ∈ gW, w.before args s = true := fun w h => hts w (List.mem_cons_of_mem _ h)
  intro n
  induction n with
  | zero =>
    intro x1 x2 x3 x4 x5 x6 x7 x8 g hw
    exact hw.elim
  | succ n ih =>
    intro x1 x2 x3 x4 x5 x6 x7 x8 g hw H locs ls hG hl
    dsimp only [wpl_X3_put_105] at hw
    refine lv_iload hx hb dX3_put_105 (lv_at hl 8 rfl) ?_
    refine lv_aload_n hx hb dX3_put_107 rfl (lv_at hl 0 rfl) ?_
    refine g_get (own := RX3) (C := RX3) (T := TX3) (N := 19) (ci := 3) hx hb hq hin_X3 hown hK hG (k := 4) (gok_lo (by decide)) (gc_M) rfl 9 (by decide) (hq _ q_422) rfl (v := .int (g.1 4 3)) rfl dX3_put_108 ?_
    refine lv_icmp_ge (tgt := 162) hx hb dX3_put_111 (by decide) (fun c_10 => ?_) (fun c_10 => ?_)
    · have hw := hw.1 c_10
      refine lv_aload_n hx hb dX3_put_162 rfl (lv_at hl 0 rfl) ?_
      refine lv_iconst (v := 0) hx hb dX3_put_163 (by decide) ?_
      refine g_put (own := RX3) (C := RX3) (T := TX3) (N := 19) (ci := 3) hx hb hq hin_X3 tyX3 tyX3_ok nmX3 hown hK hG (k := 4) (gok_lo (by decide)) (gc_M) rfl 9 (by decide) (hq _ q_422) rfl rfl (ty := .int) (v := .int 0) (by decide +kernel) rfl rfl (Nat.le_of_ble_eq_true rfl) (gi g 4 3 (0 : Int32)) (gs_M3) (gho_lo (by decide)) dX3_put_164 (fun H locs hG => ?_)
      obtain ⟨g_11, eg_11⟩ : ∃ z, z = gi g 4 3 (0 : Int32) := ⟨_, rfl⟩
      rw [← eg_11] at hG
      have hw := hw g_11 eg_11
      refine lv_iload hx hb dX3_put_167 (lv_at hl 6 rfl) ?_
      exact g_iret hx hb hr hlocks hw hG (by decide) (by decide) dX3_put_169
    · have hw := hw.2 c_10
      refine lv_aload_n hx hb dX3_put_114 rfl (lv_at hl 0 rfl) ?_
      refine lv_iload_n hx hb dX3_put_115 rfl (lv_at hl 1 rfl) ?_
      refine lv_iload_n hx hb dX3_put_116 rfl (lv_at hl 2 rfl) ?_
      refine lv_iload_n hx hb dX3_put_117 rfl (lv_at hl 3 rfl) ?_
      refine lv_iload hx hb dX3_put_118 (lv_at hl 4 rfl) ?_
      refine lv_iload hx hb dX3_put_120 (lv_at hl 8 rfl) ?_
      refine lv_aload_n hx hb dX3_put_122 rfl (lv_at hl 0 rfl) ?_
      refine g_get (own := RX3) (C := RX3) (T := TX3) (N := 19) (ci := 3) hx hb hq hin_X3 hown hK hG (k := 4) (gok_lo (by decide)) (gc_M) rfl 9 (by decide) (hq _ q_422) rfl (v := .int (g.1 4 3)) rfl dX3_put_123 ?_
      refine lv_iload hx hb dX3_put_126 (lv_at hl 8 rfl) ?_
      refine lv_isub hx hb dX3_put_128 ?_
      refine lv_iload hx hb dX3_put_129 (lv_at hl 7 rfl) ?_
      refine lv_icmp_ge (tgt := 144) hx hb dX3_put_131 (by decide) (fun c_12 => ?_) (fun c_12 => ?_)
      · have hw := hw.1 c_12
        refine lv_iload hx hb dX3_put_144 (lv_at hl 7 rfl) ?_
        refine g_callv (va_runV (As := [.int x1, .int x2, .int x3, .int x4, .int x8, .int x7]) (rest := []) ⟨hx, hb, hml, hown, hts⟩ (m_X3_frame hl9 D K sa ad _ _ x1 x2 x3 x4 x8 x7 g hw) (cwV 6 hts (gGood gCons (gV q_508 q_510 q_15 q_23 q_511)) rfl rfl rfl (by decide +kernel) ⟨Nat.le_of_ble_eq_true rfl, Nat.le_of_ble_eq_true rfl⟩) ⟨gPc_blind, g_recv hK hG (gok_lo (by decide)) (gc_M) rfl, gPc_at hE hG hA⟩ rfl rfl hl.1 rfl (lv_room (Nat.le_of_ble_eq_true rfl)) dX3_put_146 ⟨Nat.le_of_ble_eq_true rfl, Nat.le_of_ble_eq_true rfl⟩) hG hA (fun g_13 H locs hw hG => ?_)
        try dsimp only at hw
        obtain ⟨x_14, ex_14⟩ : ∃ y : Int32, y = x6 + 1 := ⟨_, rfl⟩
        have hw := hw x_14 ex_14
        refine lv_iinc (v := x_14) (lv' := [(6, .int x_14), (0, .ref (ad 4)), (1, .int x1), (2, .int x2), (3, .int x3), (4, .int x4), (5, .int x5), (7, .int x7), (8, .int x8)]) hx hb dX3_put_149 hl (k := 6) rfl (by rw [ex_14]; rfl) (by decide) rfl (fun ls hl => ?_)
        refine lv_iload hx hb dX3_put_152 (lv_at hl 8 rfl) ?_
        refine lv_iload hx hb dX3_put_154 (lv_at hl 7 rfl) ?_
        refine lv_iadd hx hb dX3_put_156 ?_
        refine lv_topi (fun x_15 ex_15 => ?_)
        have hw := hw x_15 ex_15
        refine lv_istore (lv' := [(8, .int x_15), (6, .int x_14), (0, .ref (ad 4)), (1, .int x1), (2, .int x2), (3, .int x3), (4, .int x4), (5, .int x5), (7, .int x7)]) hx hb dX3_put_157 hl (by decide) rfl (fun ls hl => ?_)
        refine lv_goto (tgt := 105) hx hb dX3_put_159 (by decide) ?_
        exact ih x1 x2 x3 x4 x5 x_14 x7 x_15 g_13 hw _ _ _ hG (lv_sub hl [2, 3, 4, 5, 6, 7, 1, 8, 0] rfl)
      · have hw := hw.2 c_12
        refine lv_aload_n hx hb dX3_put_134 rfl (lv_at hl 0 rfl) ?_
        refine g_get (own := RX3) (C := RX3) (T := TX3) (N := 19) (ci := 3) hx hb hq hin_X3 hown hK hG (k := 4) (gok_lo (by decide)) (gc_M) rfl 9 (by decide) (hq _ q_422) rfl (v := .int (g.1 4 3)) rfl dX3_put_135 ?_
        refine lv_iload hx hb dX3_put_138 (lv_at hl 8 rfl) ?_
        refine lv_isub hx hb dX3_put_140 ?_
        refine lv_goto (tgt := 146) hx hb dX3_put_141 (by decide) ?_
        refine g_callv (va_runV (As := [.int x1, .int x2, .int x3, .int x4, .int x8, .int ((g.1 4 3) - x8)]) (rest := []) ⟨hx, hb, hml, hown, hts⟩ (m_X3_frame hl9 D K sa ad _ _ x1 x2 x3 x4 x8 ((g.1 4 3) - x8) g hw) (cwV 6 hts (gGood gCons (gV q_508 q_510 q_15 q_23 q_511)) rfl rfl rfl (by decide +kernel) ⟨Nat.le_of_ble_eq_true rfl, Nat.le_of_ble_eq_true rfl⟩) ⟨gPc_blind, g_recv hK hG (gok_lo (by decide)) (gc_M) rfl, gPc_at hE hG hA⟩ rfl rfl hl.1 rfl (lv_room (Nat.le_of_ble_eq_true rfl)) dX3_put_146 ⟨Nat.le_of_ble_eq_true rfl, Nat.le_of_ble_eq_true rfl⟩) hG hA (fun g_16 H locs hw hG => ?_)
        try dsimp only at hw
        obtain ⟨x_17, ex_17⟩ : ∃ y : Int32, y = x6 + 1 := ⟨_, rfl⟩
        have hw := hw x_17 ex_17
        refine lv_iinc (v := x_17) (lv' := [(6, .int x_17), (0, .ref (ad 4)), (1, .int x1), (2, .int x2), (3, .int x3), (4, .int x4), (5, .int x5), (7, .int x7), (8, .int x8)]) hx hb dX3_put_149 hl (k := 6) rfl (by rw [ex_17]; rfl) (by decide) rfl (fun ls hl => ?_)
        refine lv_iload hx hb dX3_put_152 (lv_at hl 8 rfl) ?_
        refine lv_iload hx hb dX3_put_154 (lv_at hl 7 rfl) ?_
        refine lv_iadd hx hb dX3_put_156 ?_
        refine lv_topi (fun x_18 ex_18 => ?_)
        have hw := hw x_18 ex_18
        refine lv_istore (lv' := [(8, .int x_18), (6, .int x_17), (0, .ref (ad 4)), (1, .int x1), (2, .int x2), (3, .int x3), (4, .int x4), (5, .int x5), (7, .int x7)]) hx hb dX3_put_157 hl (by decide) rfl (fun ls hl => ?_)
        refine lv_goto (tgt := 105) hx hb dX3_put_159 (by decide) ?_
        exact ih x1 x2 x3 x4 x5 x_17 x7 x_18 g_16 hw _ _ _ hG (lv_sub hl [2, 3, 4, 5, 6, 7, 1, 8, 0] rfl)
def wp_X3_put (post : Int32 → gS → Prop) (p1 : Int32) (p2 : Int32) (p3 : Int32) (p4 : Int32) (g : gS) : Prop := wp_X3_isNet (fun r_2 g_1 => (((r_2 = 0) → (∀ g_4 : gS, g_4 = gi g_1 4 0 (1 : Int32) → ((((g_4.1 4 0) ≤ 0) → (vp_in p1 24 ∧ (∀ x_7 : Int32, x_7 = (g_4.1 5 p1.toNatClampNeg) - 20 → (((x_7 < (g_4.1 4 3)) → (∀ x_9 : Int32, x_9 = (x_7 / 8) * 8 → (∃ n, wpl_X3_put_105 post n p1 p2 p3 p4 x_7 0 x_9 0 g_4))) ∧ ((¬ x_7 < (g_4.1 4 3)) → (wp_X3_frame (fun g_20 => (∀ g_21 : gS, g_21 = gi g_20 4 3 (0 : Int32) → (post 0 g_21))) p1 p2 p3 p4 0 (g_4.1 4 3) g_4)))))) ∧ ((¬ (g_4.1 4 0) ≤ 0) → (post 0 g_4))))) ∧ ((¬ r_2 = 0) → (((p2 < 0) → (∀ g_23 : gS, g_23 = gi g_1 4 0 (1 : Int32) → ((((g_23.1 4 0) ≤ 0) → (vp_in p1 24 ∧ (∀ x_26 : Int32, x_26 = (g_23.1 5 p1.toNatClampNeg) - 20 → (((x_26 < (g_23.1 4 3)) → (∀ x_28 : Int32, x_28 = (x_26 / 8) * 8 → (∃ n, wpl_X3_put_105 post n p1 p2 p3 p4 x_26 0 x_28 0 g_23))) ∧ ((¬ x_26 < (g_23.1 4 3)) → (wp_X3_frame (fun g_30 => (∀ g_31 : gS, g_31 = gi g_30 4 3 (0 : Int32) → (post 0 g_31))) p1 p2 p3 p4 0 (g_23.1 4 3) g_23)))))) ∧ ((¬ (g_23.1 4 0) ≤ 0) → (post 0 g_23))))) ∧ ((¬ p2 < 0) → (((7 < p2) → (∀ g_33 : gS, g_33 = gi g_1 4 0 (1 : Int32) → ((((g_33.1 4 0) ≤ 0) → (vp_in p1 24 ∧ (∀ x_36 : Int32, x_36 = (g_33.1 5 p1.toNatClampNeg) - 20 → (((x_36 < (g_33.1 4 3)) → (∀ x_38 : Int32, x_38 = (x_36 / 8) * 8 → (∃ n, wpl_X3_put_105 post n p1 p2 p3 p4 x_36 0 x_38 0 g_33))) ∧ ((¬ x_36 < (g_33.1 4 3)) → (wp_X3_frame (fun g_40 => (∀ g_41 : gS, g_41 = gi g_40 4 3 (0 : Int32) → (post 0 g_41))) p1 p2 p3 p4 0 (g_33.1 4 3) g_33)))))) ∧ ((¬ (g_33.1 4 0) ≤ 0) → (post 0 g_33))))) ∧ ((¬ 7 < p2) → (((p3 < (-1)) → (∀ g_43 : gS, g_43 = gi g_1 4 0 (1 : Int32) → ((((g_43.1 4 0) ≤ 0) → (vp_in p1 24 ∧ (∀ x_46 : Int32, x_46 = (g_43.1 5 p1.toNatClampNeg) - 20 → (((x_46 < (g_43.1 4 3)) → (∀ x_48 : Int32, x_48 = (x_46 / 8) * 8 → (∃ n, wpl_X3_put_105 post n p1 p2 p3 p4 x_46 0 x_48 0 g_43))) ∧ ((¬ x_46 < (g_43.1 4 3)) → (wp_X3_frame (fun g_50 => (∀ g_51 : gS, g_51 = gi g_50 4 3 (0 : Int32) → (post 0 g_51))) p1 p2 p3 p4 0 (g_43.1 4 3) g_43)))))) ∧ ((¬ (g_43.1 4 0) ≤ 0) → (post 0 g_43))))) ∧ ((¬ p3 < (-1)) → (((7 < p3) → (∀ g_53 : gS, g_53 = gi g_1 4 0 (1 : Int32) → ((((g_53.1 4 0) ≤ 0) → (vp_in p1 24 ∧ (∀ x_56 : Int32, x_56 = (g_53.1 5 p1.toNatClampNeg) - 20 → (((x_56 < (g_53.1 4 3)) → (∀ x_58 : Int32, x_58 = (x_56 / 8) * 8 → (∃ n, wpl_X3_put_105 post n p1 p2 p3 p4 x_56 0 x_58 0 g_53))) ∧ ((¬ x_56 < (g_53.1 4 3)) → (wp_X3_frame (fun g_60 => (∀ g_61 : gS, g_61 = gi g_60 4 3 (0 : Int32) → (post 0 g_61))) p1 p2 p3 p4 0 (g_53.1 4 3) g_53)))))) ∧ ((¬ (g_53.1 4 0) ≤ 0) → (post 0 g_53))))) ∧ ((¬ 7 < p3) → (((¬ p3 = p2) → (∀ g_63 : gS, g_63 = gi g_1 4 0 (0 : Int32) → ((((g_63.1 4 0) ≤ 0) → (vp_in p1 24 ∧ (∀ x_66 : Int32, x_66 = (g_63.1 5 p1.toNatClampNeg) - 20 → (((x_66 < (g_63.1 4 3)) → (∀ x_68 : Int32, x_68 = (x_66 / 8) * 8 → (∃ n, wpl_X3_put_105 post n p1 p2 p3 p4 x_66 0 x_68 0 g_63))) ∧ ((¬ x_66 < (g_63.1 4 3)) → (wp_X3_frame (fun g_70 => (∀ g_71 : gS, g_71 = gi g_70 4 3 (0 : Int32) → (post 0 g_71))) p1 p2 p3 p4 0 (g_63.1 4 3) g_63)))))) ∧ ((¬ (g_63.1 4 0) ≤ 0) → (post 0 g_63))))) ∧ ((p3 = p2) → (∀ g_72 : gS, g_72 = gi g_1 4 0 (1 : Int32) → ((((g_72.1 4 0) ≤ 0) → (vp_in p1 24 ∧ (∀ x_75 : Int32, x_75 = (g_72.1 5 p1.toNatClampNeg) - 20 → (((x_75 < (g_72.1 4 3)) → (∀ x_77 : Int32, x_77 = (x_75 / 8) * 8 → (∃ n, wpl_X3_put_105 post n p1 p2 p3 p4 x_75 0 x_77 0 g_72))) ∧ ((¬ x_75 < (g_72.1 4 3)) → (wp_X3_frame (fun g_79 => (∀ g_80 : gS, g_80 = gi g_79 4 3 (0 : Int32) → (post 0 g_80))) p1 p2 p3 p4 0 (g_72.1 4 3) g_72)))))) ∧ ((¬ (g_72.1 4 0) ≤ 0) → (post 0 g_72))))))))))))))))) p1 g
set_option maxHeartbeats 4000000 in
set_option maxRecDepth 100000 in
theorem m_X3_put {l : Launch} (hl9 : l.stackTraces = false) (D : va_G) (K : Nat → ClassId) (sa ad : Nat → Nat) (sz : Nat) (post : Int32 → gS → Prop) (p1 : Int32) (p2 : Int32) (p3 : Int32) (p4 : Int32) (g : gS) (hw : wp_X3_put post p1 p2 p3 p4 g) : Met l yX3_put wsX3_put ({ frames := 2, cells := 0, slots := 0, locals := 58 } : Room) (gPc D K sa ad sz g [.ref (ad 4), .int p1, .int p2, .int p3, .int p4]) (va_Qi post (gB D K ad (va_A (gw K ad g) sz)) (va_A (gw K ad g) sz)) 0 0 (va_A (gw K ad g) sz) := by
  refine Met.ofW (cc := cX3_put) (maxL := 9) (ret := (some .int)) (by decide) rfl ?_
  intro p e s m args below meth c s₁ B hml hv
  obtain ⟨rfl, hsz, hP, hE, hD0⟩ := hv
  have hx := B.exec
  have hb := B.bytes
  have hr := B.returns
  have hts := atoms_spec (ws := wsX3_put) B.pre
  have hq : ∀ w ∈ gW, w.before _ s = true := fun w h => hts w (List.mem_cons_of_mem _ h)
  have hown : s.vm.findClass RX3 = some m.cls := findClass_of_methodNamed B.named
  have hlocks := B.notSynchronized
  subst hsz
  have hD := hD0.self (sz := s.heap.size)
  generalize hAe : va_A (gw K ad g) s.heap.size = A at hD hE ⊢
  have hA : ∀ q : Nat, s.heap.size ≤ q → A q := fun q h => by rw [← hAe]; exact Or.inr h
  have hK := hE.1
  have hG : gX D K ad A s.heap g s.heap [] := ⟨hP, hD, va_S.rf⟩
  have hl := lv_entry ([.ref (ad 4), .int p1, .int p2, .int p3, .int p4]) (n := 9) (Nat.le_of_ble_eq_true rfl)
  rw [lg_entry_eq]
  generalize (lg_sl ([.ref (ad 4), .int p1, .int p2, .int p3, .int p4]) ++ List.replicate (9 - (lg_sl ([.ref (ad 4), .int p1, .int p2, .int p3, .int p4])).length) Slot.unset).toArray = ls at hl ⊢
  have hl : lv_has ls 9 [(0, .ref (ad 4)), (1, .int p1), (2, .int p2), (3, .int p3), (4, .int p4)] := hl
  dsimp only [wp_X3_put] at hw
  refine lv_aload_n hx hb dX3_put_0 rfl (lv_at hl 0 rfl) ?_
  refine lv_aload_n hx hb dX3_put_1 rfl (lv_at hl 0 rfl) ?_
  refine lv_iload_n hx hb dX3_put_2 rfl (lv_at hl 1 rfl) ?_
  refine g_calli (va_runV (As := [.int p1]) (rest := [.ref (ad 4)]) ⟨hx, hb, hml, hown, hts⟩ (m_X3_isNet hl9 D K sa ad _ _ p1 g hw) (cwV 1 hts (gGood gCons (gV q_486 q_488 q_13 q_23 q_489)) rfl rfl rfl (by decide +kernel) ⟨Nat.le_of_ble_eq_true rfl, Nat.le_of_ble_eq_true rfl⟩) ⟨gPc_blind, g_recv hK hG (gok_lo (by decide)) (gc_M) rfl, gPc_at hE hG hA⟩ rfl rfl hl.1 rfl (lv_room (Nat.le_of_ble_eq_true rfl)) dX3_put_3 ⟨Nat.le_of_ble_eq_true rfl, Nat.le_of_ble_eq_true rfl⟩) hG hA (fun r_2 g_1 H locs hw hG => ?_)
  try dsimp only at hw
  refine lv_if_eq (tgt := 35) hx hb dX3_put_6 (by decide) (fun c_3 => ?_) (fun c_3 => ?_)
  · have hw := hw.1 c_3
    refine lv_iconst (v := 1) hx hb dX3_put_35 (by decide) ?_
    refine lv_goto (tgt := 40) hx hb dX3_put_36 (by decide) ?_
    refine g_put (own := RX3) (C := RX3) (T := TX3) (N := 19) (ci := 3) hx hb hq hin_X3 tyX3 tyX3_ok nmX3 hown hK hG (k := 4) (gok_lo (by decide)) (gc_M) rfl 0 (by decide) (hq _ q_413) rfl rfl (ty := .int) (v := .int 1) (by decide +kernel) rfl rfl (Nat.le_of_ble_eq_true rfl) (gi g_1 4 0 (1 : Int32)) (gs_M0) (gho_lo (by decide)) dX3_put_40 (fun H locs hG => ?_)
    obtain ⟨g_4, eg_4⟩ : ∃ z, z = gi g_1 4 0 (1 : Int32) := ⟨_, rfl⟩
    rw [← eg_4] at hG
    have hw := hw g_4 eg_4
    refine lv_aload_n hx hb dX3_put_43 rfl (lv_at hl 0 rfl) ?_
    refine g_get (own := RX3) (C := RX3) (T := TX3) (N := 19) (ci := 3) hx hb hq hin_X3 hown hK hG (k := 4) (gok_lo (by decide)) (gc_M) rfl 0 (by decide) (hq _ q_413) rfl (v := .int (g_4.1 4 0)) rfl dX3_put_44 ?_
    refine lv_if_le (tgt := 52) hx hb dX3_put_47 (by decide) (fun c_5 => ?_) (fun c_5 => ?_)
    · have hw := hw.1 c_5
      refine lv_aload_n hx hb dX3_put_52 rfl (lv_at hl 0 rfl) ?_
      refine g_get (own := RX3) (C := RX3) (T := TX3) (N := 19) (ci := 3) hx hb hq hin_X3 hown hK hG (k := 4) (gok_lo (by decide)) (gc_M) rfl 3 (by decide) (hq _ q_416) rfl (v := .ref (ad 5)) rfl dX3_put_53 ?_
      refine lv_iload_n hx hb dX3_put_56 rfl (lv_at hl 1 rfl) ?_
      obtain ⟨hi_6, hw⟩ := hw
      refine g_iald hx hb hK hG (k := 5) (gok_lo (by decide)) (gc_5) hi_6 dX3_put_57 ?_
      refine lv_bipush (v := 20) hx hb dX3_put_58 (by decide) ?_
      refine lv_isub hx hb dX3_put_60 ?_
      refine lv_topi (fun x_7 ex_7 => ?_)
      have hw := hw x_7 ex_7
      refine lv_istore (lv' := [(5, .int x_7), (0, .ref (ad 4)), (1, .int p1), (2, .int p2), (3, .int p3), (4, .int p4)]) hx hb dX3_put_61 hl (by decide) rfl (fun ls hl => ?_)
      refine lv_iconst (v := 0) hx hb dX3_put_63 (by decide) ?_
      refine lv_istore (lv' := [(6, .int 0), (5, .int x_7), (0, .ref (ad 4)), (1, .int p1), (2, .int p2), (3, .int p3), (4, .int p4)]) hx hb dX3_put_64 hl (by decide) rfl (fun ls hl => ?_)
      refine lv_aload_n hx hb dX3_put_66 rfl (lv_at hl 2 rfl) ?_
      refine g_get (own := RX3) (C := RX3) (T := TX3) (N := 19) (ci := 3) hx hb hq hin_X3 hown hK hG (k := 4) (gok_lo (by decide)) (gc_M) rfl 9 (by decide) (hq _ q_422) rfl (v := .int (g_4.1 4 3)) rfl dX3_put_67 ?_
      refine lv_iload hx hb dX3_put_70 (lv_at hl 1 rfl) ?_
      refine lv_icmp_gt (tgt := 92) hx hb dX3_put_72 (by decide) (fun c_8 => ?_) (fun c_8 => ?_)
      · have hw := hw.1 c_8
        refine lv_iload hx hb dX3_put_92 (lv_at hl 1 rfl) ?_
        refine lv_bipush (v := 8) hx hb dX3_put_94 (by decide) ?_
        refine lv_idiv hx hb dX3_put_96 (by decide) ?_
        refine lv_bipush (v := 8) hx hb dX3_put_97 (by decide) ?_
        refine lv_imul hx hb dX3_put_99 ?_
        refine lv_topi (fun x_9 ex_9 => ?_)
        have hw := hw x_9 ex_9
        refine lv_istore (lv' := [(7, .int x_9), (6, .int 0), (5, .int x_7), (0, .ref (ad 4)), (1, .int p1), (2, .int p2), (3, .int p3), (4, .int p4)]) hx hb dX3_put_100 hl (by decide) rfl (fun ls hl => ?_)
        refine lv_iconst (v := 0) hx hb dX3_put_102 (by decide) ?_
        refine lv_istore (lv' := [(8, .int 0), (7, .int x_9), (6, .int 0), (5, .int x_7), (0, .ref (ad 4)), (1, .int p1), (2, .int p2), (3, .int p3), (4, .int p4)]) hx hb dX3_put_103 hl (by decide) rfl (fun ls hl => ?_)
        obtain ⟨n_19, hw⟩ := hw
        exact L_X3_put_105 post hl9 hx hb hr hml hown hts hlocks hA hE n_19 p1 p2 p3 p4 x_7 0 x_9 0 g_4 hw _ _ _ hG (lv_sub hl [4, 5, 6, 7, 8, 3, 2, 1, 0] rfl)
      · have hw := hw.2 c_8
        refine lv_aload_n hx hb dX3_put_75 rfl (lv_at hl 2 rfl) ?_
        refine lv_iload_n hx hb dX3_put_76 rfl (lv_at hl 3 rfl) ?_
        refine lv_iload_n hx hb dX3_put_77 rfl (lv_at hl 4 rfl) ?_
        refine lv_iload_n hx hb dX3_put_78 rfl (lv_at hl 5 rfl) ?_
        refine lv_iload hx hb dX3_put_79 (lv_at hl 6 rfl) ?_
        refine lv_iconst (v := 0) hx hb dX3_put_81 (by decide) ?_
        refine lv_aload_n hx hb dX3_put_82 rfl (lv_at hl 2 rfl) ?_
        refine g_get (own := RX3) (C := RX3) (T := TX3) (N := 19) (ci := 3) hx hb hq hin_X3 hown hK hG (k := 4) (gok_lo (by decide)) (gc_M) rfl 9 (by decide) (hq _ q_422) rfl (v := .int (g_4.1 4 3)) rfl dX3_put_83 ?_
        refine g_callv (va_runV (As := [.int p1, .int p2, .int p3, .int p4, .int 0, .int (g_4.1 4 3)]) (rest := []) ⟨hx, hb, hml, hown, hts⟩ (m_X3_frame hl9 D K sa ad _ _ p1 p2 p3 p4 0 (g_4.1 4 3) g_4 hw) (cwV 6 hts (gGood gCons (gV q_508 q_510 q_15 q_23 q_511)) rfl rfl rfl (by decide +kernel) ⟨Nat.le_of_ble_eq_true rfl, Nat.le_of_ble_eq_true rfl⟩) ⟨gPc_blind, g_recv hK hG (gok_lo (by decide)) (gc_M) rfl, gPc_at hE hG hA⟩ rfl rfl hl.1 rfl (lv_room (Nat.le_of_ble_eq_true rfl)) dX3_put_86 ⟨Nat.le_of_ble_eq_true rfl, Nat.le_of_ble_eq_true rfl⟩) hG hA (fun g_20 H locs hw hG => ?_)
        try dsimp only at hw
        refine lv_goto (tgt := 162) hx hb dX3_put_89 (by decide) ?_
        refine lv_aload_n hx hb dX3_put_162 rfl (lv_at hl 2 rfl) ?_
        refine lv_iconst (v := 0) hx hb dX3_put_163 (by decide) ?_
        refine g_put (own := RX3) (C := RX3) (T := TX3) (N := 19) (ci := 3) hx hb hq hin_X3 tyX3 tyX3_ok nmX3 hown hK hG (k := 4) (gok_lo (by decide)) (gc_M) rfl 9 (by decide) (hq _ q_422) rfl rfl (ty := .int) (v := .int 0) (by decide +kernel) rfl rfl (Nat.le_of_ble_eq_true rfl) (gi g_20 4 3 (0 : Int32)) (gs_M3) (gho_lo (by decide)) dX3_put_164 (fun H locs hG => ?_)
        obtain ⟨g_21, eg_21⟩ : ∃ z, z = gi g_20 4 3 (0 : Int32) := ⟨_, rfl⟩
        rw [← eg_21] at hG
        have hw := hw g_21 eg_21
        refine lv_iload hx hb dX3_put_167 (lv_at hl 0 rfl) ?_
        exact g_iret hx hb hr hlocks hw hG (by decide) (by decide) dX3_put_169
    · have hw := hw.2 c_5
      refine lv_iconst (v := 0) hx hb dX3_put_50 (by decide) ?_
      exact g_iret hx hb hr hlocks hw hG (by decide) (by decide) dX3_put_51
  · have hw := hw.2 c_3
    refine lv_iload_n hx hb dX3_put_9 rfl (lv_at hl 2 rfl) ?_
    refine lv_if_lt (tgt := 35) hx hb dX3_put_10 (by decide) (fun c_22 => ?_) (fun c_22 => ?_)
    · have hw := hw.1 c_22
      refine lv_iconst (v := 1) hx hb dX3_put_35 (by decide) ?_
      refine lv_goto (tgt := 40) hx hb dX3_put_36 (by decide) ?_
      refine g_put (own := RX3) (C := RX3) (T := TX3) (N := 19) (ci := 3) hx hb hq hin_X3 tyX3 tyX3_ok nmX3 hown hK hG (k := 4) (gok_lo (by decide)) (gc_M) rfl 0 (by decide) (hq _ q_413) rfl rfl (ty := .int) (v := .int 1) (by decide +kernel) rfl rfl (Nat.le_of_ble_eq_true rfl) (gi g_1 4 0 (1 : Int32)) (gs_M0) (gho_lo (by decide)) dX3_put_40 (fun H locs hG => ?_)
      obtain ⟨g_23, eg_23⟩ : ∃ z, z = gi g_1 4 0 (1 : Int32) := ⟨_, rfl⟩
      rw [← eg_23] at hG
      have hw := hw g_23 eg_23
      refine lv_aload_n hx hb dX3_put_43 rfl (lv_at hl 0 rfl) ?_
      refine g_get (own := RX3) (C := RX3) (T := TX3) (N := 19) (ci := 3) hx hb hq hin_X3 hown hK hG (k := 4) (gok_lo (by decide)) (gc_M) rfl 0 (by decide) (hq _ q_413) rfl (v := .int (g_23.1 4 0)) rfl dX3_put_44 ?_
      refine lv_if_le (tgt := 52) hx hb dX3_put_47 (by decide) (fun c_24 => ?_) (fun c_24 => ?_)
      · have hw := hw.1 c_24
        refine lv_aload_n hx hb dX3_put_52 rfl (lv_at hl 0 rfl) ?_
        refine g_get (own := RX3) (C := RX3) (T := TX3) (N := 19) (ci := 3) hx hb hq hin_X3 hown hK hG (k := 4) (gok_lo (by decide)) (gc_M) rfl 3 (by decide) (hq _ q_416) rfl (v := .ref (ad 5)) rfl dX3_put_53 ?_
        refine lv_iload_n hx hb dX3_put_56 rfl (lv_at hl 1 rfl) ?_
        obtain ⟨hi_25, hw⟩ := hw
        refine g_iald hx hb hK hG (k := 5) (gok_lo (by decide)) (gc_5) hi_25 dX3_put_57 ?_
        refine lv_bipush (v := 20) hx hb dX3_put_58 (by decide) ?_
        refine lv_isub hx hb dX3_put_60 ?_
        refine lv_topi (fun x_26 ex_26 => ?_)
        have hw := hw x_26 ex_26
        refine lv_istore (lv' := [(5, .int x_26), (0, .ref (ad 4)), (1, .int p1), (2, .int p2), (3, .int p3), (4, .int p4)]) hx hb dX3_put_61 hl (by decide) rfl (fun ls hl => ?_)
        refine lv_iconst (v := 0) hx hb dX3_put_63 (by decide) ?_
        refine lv_istore (lv' := [(6, .int 0), (5, .int x_26), (0, .ref (ad 4)), (1, .int p1), (2, .int p2), (3, .int p3), (4, .int p4)]) hx hb dX3_put_64 hl (by decide) rfl (fun ls hl => ?_)
        refine lv_aload_n hx hb dX3_put_66 rfl (lv_at hl 2 rfl) ?_
        refine g_get (own := RX3) (C := RX3) (T := TX3) (N := 19) (ci := 3) hx hb hq hin_X3 hown hK hG (k := 4) (gok_lo (by decide)) (gc_M) rfl 9 (by decide) (hq _ q_422) rfl (v := .int (g_23.1 4 3)) rfl dX3_put_67 ?_
        refine lv_iload hx hb dX3_put_70 (lv_at hl 1 rfl) ?_
        refine lv_icmp_gt (tgt := 92) hx hb dX3_put_72 (by decide) (fun c_27 => ?_) (fun c_27 => ?_)
        · have hw := hw.1 c_27
          refine lv_iload hx hb dX3_put_92 (lv_at hl 1 rfl) ?_
          refine lv_bipush (v := 8) hx hb dX3_put_94 (by decide) ?_
          refine lv_idiv hx hb dX3_put_96 (by decide) ?_
          refine lv_bipush (v := 8) hx hb dX3_put_97 (by decide) ?_
          refine lv_imul hx hb dX3_put_99 ?_
          refine lv_topi (fun x_28 ex_28 => ?_)
          have hw := hw x_28 ex_28
          refine lv_istore (lv' := [(7, .int x_28), (6, .int 0), (5, .int x_26), (0, .ref (ad 4)), (1, .int p1), (2, .int p2), (3, .int p3), (4, .int p4)]) hx hb dX3_put_100 hl (by decide) rfl (fun ls hl => ?_)
          refine lv_iconst (v := 0) hx hb dX3_put_102 (by decide) ?_
          refine lv_istore (lv' := [(8, .int 0), (7, .int x_28), (6, .int 0), (5, .int x_26), (0, .ref (ad 4)), (1, .int p1), (2, .int p2), (3, .int p3), (4, .int p4)]) hx hb dX3_put_103 hl (by decide) rfl (fun ls hl => ?_)
          obtain ⟨n_29, hw⟩ := hw
          exact L_X3_put_105 post hl9 hx hb hr hml hown hts hlocks hA hE n_29 p1 p2 p3 p4 x_26 0 x_28 0 g_23 hw _ _ _ hG (lv_sub hl [4, 5, 6, 7, 8, 3, 2, 1, 0] rfl)
        · have hw := hw.2 c_27
          refine lv_aload_n hx hb dX3_put_75 rfl (lv_at hl 2 rfl) ?_
          refine lv_iload_n hx hb dX3_put_76 rfl (lv_at hl 3 rfl) ?_
          refine lv_iload_n hx hb dX3_put_77 rfl (lv_at hl 4 rfl) ?_
          refine lv_iload_n hx hb dX3_put_78 rfl (lv_at hl 5 rfl) ?_
          refine lv_iload hx hb dX3_put_79 (lv_at hl 6 rfl) ?_
          refine lv_iconst (v := 0) hx hb dX3_put_81 (by decide) ?_
          refine lv_aload_n hx hb dX3_put_82 rfl (lv_at hl 2 rfl) ?_
          refine g_get (own := RX3) (C := RX3) (T := TX3) (N := 19) (ci := 3) hx hb hq hin_X3 hown hK hG (k := 4) (gok_lo (by decide)) (gc_M) rfl 9 (by decide) (hq _ q_422) rfl (v := .int (g_23.1 4 3)) rfl dX3_put_83 ?_
          refine g_callv (va_runV (As := [.int p1, .int p2, .int p3, .int p4, .int 0, .int (g_23.1 4 3)]) (rest := []) ⟨hx, hb, hml, hown, hts⟩ (m_X3_frame hl9 D K sa ad _ _ p1 p2 p3 p4 0 (g_23.1 4 3) g_23 hw) (cwV 6 hts (gGood gCons (gV q_508 q_510 q_15 q_23 q_511)) rfl rfl rfl (by decide +kernel) ⟨Nat.le_of_ble_eq_true rfl, Nat.le_of_ble_eq_true rfl⟩) ⟨gPc_blind, g_recv hK hG (gok_lo (by decide)) (gc_M) rfl, gPc_at hE hG hA⟩ rfl rfl hl.1 rfl (lv_room (Nat.le_of_ble_eq_true rfl)) dX3_put_86 ⟨Nat.le_of_ble_eq_true rfl, Nat.le_of_ble_eq_true rfl⟩) hG hA (fun g_30 H locs hw hG => ?_)
          try dsimp only at hw
          refine lv_goto (tgt := 162) hx hb dX3_put_89 (by decide) ?_
          refine lv_aload_n hx hb dX3_put_162 rfl (lv_at hl 2 rfl) ?_
          refine lv_iconst (v := 0) hx hb dX3_put_163 (by decide) ?_
          refine g_put (own := RX3) (C := RX3) (T := TX3) (N := 19) (ci := 3) hx hb hq hin_X3 tyX3 tyX3_ok nmX3 hown hK hG (k := 4) (gok_lo (by decide)) (gc_M) rfl 9 (by decide) (hq _ q_422) rfl rfl (ty := .int) (v := .int 0) (by decide +kernel) rfl rfl (Nat.le_of_ble_eq_true rfl) (gi g_30 4 3 (0 : Int32)) (gs_M3) (gho_lo (by decide)) dX3_put_164 (fun H locs hG => ?_)
          obtain ⟨g_31, eg_31⟩ : ∃ z, z = gi g_30 4 3 (0 : Int32) := ⟨_, rfl⟩
          rw [← eg_31] at hG
          have hw := hw g_31 eg_31
          refine lv_iload hx hb dX3_put_167 (lv_at hl 0 rfl) ?_
          exact g_iret hx hb hr hlocks hw hG (by decide) (by decide) dX3_put_169
      · have hw := hw.2 c_24
        refine lv_iconst (v := 0) hx hb dX3_put_50 (by decide) ?_
        exact g_iret hx hb hr hlocks hw hG (by decide) (by decide) dX3_put_51
    · have hw := hw.2 c_22
      refine lv_iload_n hx hb dX3_put_13 rfl (lv_at hl 2 rfl) ?_
      refine lv_bipush (v := 7) hx hb dX3_put_14 (by decide) ?_
      refine lv_icmp_gt (tgt := 35) hx hb dX3_put_16 (by decide) (fun c_32 => ?_) (fun c_32 => ?_)
      · have hw := hw.1 c_32
        refine lv_iconst (v := 1) hx hb dX3_put_35 (by decide) ?_
        refine lv_goto (tgt := 40) hx hb dX3_put_36 (by decide) ?_
        refine g_put (own := RX3) (C := RX3) (T := TX3) (N := 19) (ci := 3) hx hb hq hin_X3 tyX3 tyX3_ok nmX3 hown hK hG (k := 4) (gok_lo (by decide)) (gc_M) rfl 0 (by decide) (hq _ q_413) rfl rfl (ty := .int) (v := .int 1) (by decide +kernel) rfl rfl (Nat.le_of_ble_eq_true rfl) (gi g_1 4 0 (1 : Int32)) (gs_M0) (gho_lo (by decide)) dX3_put_40 (fun H locs hG => ?_)
        obtain ⟨g_33, eg_33⟩ : ∃ z, z = gi g_1 4 0 (1 : Int32) := ⟨_, rfl⟩
        rw [← eg_33] at hG
        have hw := hw g_33 eg_33
        refine lv_aload_n hx hb dX3_put_43 rfl (lv_at hl 0 rfl) ?_
        refine g_get (own := RX3) (C := RX3) (T := TX3) (N := 19) (ci := 3) hx hb hq hin_X3 hown hK hG (k := 4) (gok_lo (by decide)) (gc_M) rfl 0 (by decide) (hq _ q_413) rfl (v := .int (g_33.1 4 0)) rfl dX3_put_44 ?_
        refine lv_if_le (tgt := 52) hx hb dX3_put_47 (by decide) (fun c_34 => ?_) (fun c_34 => ?_)
        · have hw := hw.1 c_34
          refine lv_aload_n hx hb dX3_put_52 rfl (lv_at hl 0 rfl) ?_
          refine g_get (own := RX3) (C := RX3) (T := TX3) (N := 19) (ci := 3) hx hb hq hin_X3 hown hK hG (k := 4) (gok_lo (by decide)) (gc_M) rfl 3 (by decide) (hq _ q_416) rfl (v := .ref (ad 5)) rfl dX3_put_53 ?_
          refine lv_iload_n hx hb dX3_put_56 rfl (lv_at hl 1 rfl) ?_
          obtain ⟨hi_35, hw⟩ := hw
          refine g_iald hx hb hK hG (k := 5) (gok_lo (by decide)) (gc_5) hi_35 dX3_put_57 ?_
          refine lv_bipush (v := 20) hx hb dX3_put_58 (by decide) ?_
          refine lv_isub hx hb dX3_put_60 ?_
          refine lv_topi (fun x_36 ex_36 => ?_)
          have hw := hw x_36 ex_36
          refine lv_istore (lv' := [(5, .int x_36), (0, .ref (ad 4)), (1, .int p1), (2, .int p2), (3, .int p3), (4, .int p4)]) hx hb dX3_put_61 hl (by decide) rfl (fun ls hl => ?_)
          refine lv_iconst (v := 0) hx hb dX3_put_63 (by decide) ?_
          refine lv_istore (lv' := [(6, .int 0), (5, .int x_36), (0, .ref (ad 4)), (1, .int p1), (2, .int p2), (3, .int p3), (4, .int p4)]) hx hb dX3_put_64 hl (by decide) rfl (fun ls hl => ?_)
          refine lv_aload_n hx hb dX3_put_66 rfl (lv_at hl 2 rfl) ?_
          refine g_get (own := RX3) (C := RX3) (T := TX3) (N := 19) (ci := 3) hx hb hq hin_X3 hown hK hG (k := 4) (gok_lo (by decide)) (gc_M) rfl 9 (by decide) (hq _ q_422) rfl (v := .int (g_33.1 4 3)) rfl dX3_put_67 ?_
          refine lv_iload hx hb dX3_put_70 (lv_at hl 1 rfl) ?_
          refine lv_icmp_gt (tgt := 92) hx hb dX3_put_72 (by decide) (fun c_37 => ?_) (fun c_37 => ?_)
          · have hw := hw.1 c_37
            refine lv_iload hx hb dX3_put_92 (lv_at hl 1 rfl) ?_
            refine lv_bipush (v := 8) hx hb dX3_put_94 (by decide) ?_
            refine lv_idiv hx hb dX3_put_96 (by decide) ?_
            refine lv_bipush (v := 8) hx hb dX3_put_97 (by decide) ?_
            refine lv_imul hx hb dX3_put_99 ?_
            refine lv_topi (fun x_38 ex_38 => ?_)
            have hw := hw x_38 ex_38
            refine lv_istore (lv' := [(7, .int x_38), (6, .int 0), (5, .int x_36), (0, .ref (ad 4)), (1, .int p1), (2, .int p2), (3, .int p3), (4, .int p4)]) hx hb dX3_put_100 hl (by decide) rfl (fun ls hl => ?_)
            refine lv_iconst (v := 0) hx hb dX3_put_102 (by decide) ?_
            refine lv_istore (lv' := [(8, .int 0), (7, .int x_38), (6, .int 0), (5, .int x_36), (0, .ref (ad 4)), (1, .int p1), (2, .int p2), (3, .int p3), (4, .int p4)]) hx hb dX3_put_103 hl (by decide) rfl (fun ls hl => ?_)
            obtain ⟨n_39, hw⟩ := hw
            exact L_X3_put_105 post hl9 hx hb hr hml hown hts hlocks hA hE n_39 p1 p2 p3 p4 x_36 0 x_38 0 g_33 hw _ _ _ hG (lv_sub hl [4, 5, 6, 7, 8, 3, 2, 1, 0] rfl)
          · have hw := hw.2 c_37
            refine lv_aload_n hx hb dX3_put_75 rfl (lv_at hl 2 rfl) ?_
            refine lv_iload_n hx hb dX3_put_76 rfl (lv_at hl 3 rfl) ?_
            refine lv_iload_n hx hb dX3_put_77 rfl (lv_at hl 4 rfl) ?_
            refine lv_iload_n hx hb dX3_put_78 rfl (lv_at hl 5 rfl) ?_
            refine lv_iload hx hb dX3_put_79 (lv_at hl 6 rfl) ?_
            refine lv_iconst (v := 0) hx hb dX3_put_81 (by decide) ?_
            refine lv_aload_n hx hb dX3_put_82 rfl (lv_at hl 2 rfl) ?_
            refine g_get (own := RX3) (C := RX3) (T := TX3) (N := 19) (ci := 3) hx hb hq hin_X3 hown hK hG (k := 4) (gok_lo (by decide)) (gc_M) rfl 9 (by decide) (hq _ q_422) rfl (v := .int (g_33.1 4 3)) rfl dX3_put_83 ?_
            refine g_callv (va_runV (As := [.int p1, .int p2, .int p3, .int p4, .int 0, .int (g_33.1 4 3)]) (rest := []) ⟨hx, hb, hml, hown, hts⟩ (m_X3_frame hl9 D K sa ad _ _ p1 p2 p3 p4 0 (g_33.1 4 3) g_33 hw) (cwV 6 hts (gGood gCons (gV q_508 q_510 q_15 q_23 q_511)) rfl rfl rfl (by decide +kernel) ⟨Nat.le_of_ble_eq_true rfl, Nat.le_of_ble_eq_true rfl⟩) ⟨gPc_blind, g_recv hK hG (gok_lo (by decide)) (gc_M) rfl, gPc_at hE hG hA⟩ rfl rfl hl.1 rfl (lv_room (Nat.le_of_ble_eq_true rfl)) dX3_put_86 ⟨Nat.le_of_ble_eq_true rfl, Nat.le_of_ble_eq_true rfl⟩) hG hA (fun g_40 H locs hw hG => ?_)
            try dsimp only at hw
            refine lv_goto (tgt := 162) hx hb dX3_put_89 (by decide) ?_
            refine lv_aload_n hx hb dX3_put_162 rfl (lv_at hl 2 rfl) ?_
            refine lv_iconst (v := 0) hx hb dX3_put_163 (by decide) ?_
            refine g_put (own := RX3) (C := RX3) (T := TX3) (N := 19) (ci := 3) hx hb hq hin_X3 tyX3 tyX3_ok nmX3 hown hK hG (k := 4) (gok_lo (by decide)) (gc_M) rfl 9 (by decide) (hq _ q_422) rfl rfl (ty := .int) (v := .int 0) (by decide +kernel) rfl rfl (Nat.le_of_ble_eq_true rfl) (gi g_40 4 3 (0 : Int32)) (gs_M3) (gho_lo (by decide)) dX3_put_164 (fun H locs hG => ?_)
            obtain ⟨g_41, eg_41⟩ : ∃ z, z = gi g_40 4 3 (0 : Int32) := ⟨_, rfl⟩
            rw [← eg_41] at hG
            have hw := hw g_41 eg_41
            refine lv_iload hx hb dX3_put_167 (lv_at hl 0 rfl) ?_
            exact g_iret hx hb hr hlocks hw hG (by decide) (by decide) dX3_put_169
        · have hw := hw.2 c_34
          refine lv_iconst (v := 0) hx hb dX3_put_50 (by decide) ?_
          exact g_iret hx hb hr hlocks hw hG (by decide) (by decide) dX3_put_51
      · have hw := hw.2 c_32
        refine lv_iload_n hx hb dX3_put_19 rfl (lv_at hl 3 rfl) ?_
        refine lv_iconst (v := (-1)) hx hb dX3_put_20 (by decide) ?_
        refine lv_icmp_lt (tgt := 35) hx hb dX3_put_21 (by decide) (fun c_42 => ?_) (fun c_42 => ?_)
        · have hw := hw.1 c_42
          refine lv_iconst (v := 1) hx hb dX3_put_35 (by decide) ?_
          refine lv_goto (tgt := 40) hx hb dX3_put_36 (by decide) ?_
          refine g_put (own := RX3) (C := RX3) (T := TX3) (N := 19) (ci := 3) hx hb hq hin_X3 tyX3 tyX3_ok nmX3 hown hK hG (k := 4) (gok_lo (by decide)) (gc_M) rfl 0 (by decide) (hq _ q_413) rfl rfl (ty := .int) (v := .int 1) (by decide +kernel) rfl rfl (Nat.le_of_ble_eq_true rfl) (gi g_1 4 0 (1 : Int32)) (gs_M0) (gho_lo (by decide)) dX3_put_40 (fun H locs hG => ?_)
          obtain ⟨g_43, eg_43⟩ : ∃ z, z = gi g_1 4 0 (1 : Int32) := ⟨_, rfl⟩
          rw [← eg_43] at hG
          have hw := hw g_43 eg_43
          refine lv_aload_n hx hb dX3_put_43 rfl (lv_at hl 0 rfl) ?_
          refine g_get (own := RX3) (C := RX3) (T := TX3) (N := 19) (ci := 3) hx hb hq hin_X3 hown hK hG (k := 4) (gok_lo (by decide)) (gc_M) rfl 0 (by decide) (hq _ q_413) rfl (v := .int (g_43.1 4 0)) rfl dX3_put_44 ?_
          refine lv_if_le (tgt := 52) hx hb dX3_put_47 (by decide) (fun c_44 => ?_) (fun c_44 => ?_)
          · have hw := hw.1 c_44
            refine lv_aload_n hx hb dX3_put_52 rfl (lv_at hl 0 rfl) ?_
            refine g_get (own := RX3) (C := RX3) (T := TX3) (N := 19) (ci := 3) hx hb hq hin_X3 hown hK hG (k := 4) (gok_lo (by decide)) (gc_M) rfl 3 (by decide) (hq _ q_416) rfl (v := .ref (ad 5)) rfl dX3_put_53 ?_
            refine lv_iload_n hx hb dX3_put_56 rfl (lv_at hl 1 rfl) ?_
            obtain ⟨hi_45, hw⟩ := hw
            refine g_iald hx hb hK hG (k := 5) (gok_lo (by decide)) (gc_5) hi_45 dX3_put_57 ?_
            refine lv_bipush (v := 20) hx hb dX3_put_58 (by decide) ?_
            refine lv_isub hx hb dX3_put_60 ?_
            refine lv_topi (fun x_46 ex_46 => ?_)
            have hw := hw x_46 ex_46
            refine lv_istore (lv' := [(5, .int x_46), (0, .ref (ad 4)), (1, .int p1), (2, .int p2), (3, .int p3), (4, .int p4)]) hx hb dX3_put_61 hl (by decide) rfl (fun ls hl => ?_)
            refine lv_iconst (v := 0) hx hb dX3_put_63 (by decide) ?_
            refine lv_istore (lv' := [(6, .int 0), (5, .int x_46), (0, .ref (ad 4)), (1, .int p1), (2, .int p2), (3, .int p3), (4, .int p4)]) hx hb dX3_put_64 hl (by decide) rfl (fun ls hl => ?_)
            refine lv_aload_n hx hb dX3_put_66 rfl (lv_at hl 2 rfl) ?_
            refine g_get (own := RX3) (C := RX3) (T := TX3) (N := 19) (ci := 3) hx hb hq hin_X3 hown hK hG (k := 4) (gok_lo (by decide)) (gc_M) rfl 9 (by decide) (hq _ q_422) rfl (v := .int (g_43.1 4 3)) rfl dX3_put_67 ?_
            refine lv_iload hx hb dX3_put_70 (lv_at hl 1 rfl) ?_
            refine lv_icmp_gt (tgt := 92) hx hb dX3_put_72 (by decide) (fun c_47 => ?_) (fun c_47 => ?_)
            · have hw := hw.1 c_47
              refine lv_iload hx hb dX3_put_92 (lv_at hl 1 rfl) ?_
              refine lv_bipush (v := 8) hx hb dX3_put_94 (by decide) ?_
              refine lv_idiv hx hb dX3_put_96 (by decide) ?_
              refine lv_bipush (v := 8) hx hb dX3_put_97 (by decide) ?_
              refine lv_imul hx hb dX3_put_99 ?_
              refine lv_topi (fun x_48 ex_48 => ?_)
              have hw := hw x_48 ex_48
              refine lv_istore (lv' := [(7, .int x_48), (6, .int 0), (5, .int x_46), (0, .ref (ad 4)), (1, .int p1), (2, .int p2), (3, .int p3), (4, .int p4)]) hx hb dX3_put_100 hl (by decide) rfl (fun ls hl => ?_)
              refine lv_iconst (v := 0) hx hb dX3_put_102 (by decide) ?_
              refine lv_istore (lv' := [(8, .int 0), (7, .int x_48), (6, .int 0), (5, .int x_46), (0, .ref (ad 4)), (1, .int p1), (2, .int p2), (3, .int p3), (4, .int p4)]) hx hb dX3_put_103 hl (by decide) rfl (fun ls hl => ?_)
              obtain ⟨n_49, hw⟩ := hw
              exact L_X3_put_105 post hl9 hx hb hr hml hown hts hlocks hA hE n_49 p1 p2 p3 p4 x_46 0 x_48 0 g_43 hw _ _ _ hG (lv_sub hl [4, 5, 6, 7, 8, 3, 2, 1, 0] rfl)
            · have hw := hw.2 c_47
              refine lv_aload_n hx hb dX3_put_75 rfl (lv_at hl 2 rfl) ?_
              refine lv_iload_n hx hb dX3_put_76 rfl (lv_at hl 3 rfl) ?_
              refine lv_iload_n hx hb dX3_put_77 rfl (lv_at hl 4 rfl) ?_
              refine lv_iload_n hx hb dX3_put_78 rfl (lv_at hl 5 rfl) ?_
              refine lv_iload hx hb dX3_put_79 (lv_at hl 6 rfl) ?_
              refine lv_iconst (v := 0) hx hb dX3_put_81 (by decide) ?_
              refine lv_aload_n hx hb dX3_put_82 rfl (lv_at hl 2 rfl) ?_
              refine g_get (own := RX3) (C := RX3) (T := TX3) (N := 19) (ci := 3) hx hb hq hin_X3 hown hK hG (k := 4) (gok_lo (by decide)) (gc_M) rfl 9 (by decide) (hq _ q_422) rfl (v := .int (g_43.1 4 3)) rfl dX3_put_83 ?_
              refine g_callv (va_runV (As := [.int p1, .int p2, .int p3, .int p4, .int 0, .int (g_43.1 4 3)]) (rest := []) ⟨hx, hb, hml, hown, hts⟩ (m_X3_frame hl9 D K sa ad _ _ p1 p2 p3 p4 0 (g_43.1 4 3) g_43 hw) (cwV 6 hts (gGood gCons (gV q_508 q_510 q_15 q_23 q_511)) rfl rfl rfl (by decide +kernel) ⟨Nat.le_of_ble_eq_true rfl, Nat.le_of_ble_eq_true rfl⟩) ⟨gPc_blind, g_recv hK hG (gok_lo (by decide)) (gc_M) rfl, gPc_at hE hG hA⟩ rfl rfl hl.1 rfl (lv_room (Nat.le_of_ble_eq_true rfl)) dX3_put_86 ⟨Nat.le_of_ble_eq_true rfl, Nat.le_of_ble_eq_true rfl⟩) hG hA (fun g_50 H locs hw hG => ?_)
              try dsimp only at hw
              refine lv_goto (tgt := 162) hx hb dX3_put_89 (by decide) ?_
              refine lv_aload_n hx hb dX3_put_162 rfl (lv_at hl 2 rfl) ?_
              refine lv_iconst (v := 0) hx hb dX3_put_163 (by decide) ?_
              refine g_put (own := RX3) (C := RX3) (T := TX3) (N := 19) (ci := 3) hx hb hq hin_X3 tyX3 tyX3_ok nmX3 hown hK hG (k := 4) (gok_lo (by decide)) (gc_M) rfl 9 (by decide) (hq _ q_422) rfl rfl (ty := .int) (v := .int 0) (by decide +kernel) rfl rfl (Nat.le_of_ble_eq_true rfl) (gi g_50 4 3 (0 : Int32)) (gs_M3) (gho_lo (by decide)) dX3_put_164 (fun H locs hG => ?_)
              obtain ⟨g_51, eg_51⟩ : ∃ z, z = gi g_50 4 3 (0 : Int32) := ⟨_, rfl⟩
              rw [← eg_51] at hG
              have hw := hw g_51 eg_51
              refine lv_iload hx hb dX3_put_167 (lv_at hl 0 rfl) ?_
              exact g_iret hx hb hr hlocks hw hG (by decide) (by decide) dX3_put_169
          · have hw := hw.2 c_44
            refine lv_iconst (v := 0) hx hb dX3_put_50 (by decide) ?_
            exact g_iret hx hb hr hlocks hw hG (by decide) (by decide) dX3_put_51
        · have hw := hw.2 c_42
          refine lv_iload_n hx hb dX3_put_24 rfl (lv_at hl 3 rfl) ?_
          refine lv_bipush (v := 7) hx hb dX3_put_25 (by decide) ?_
          refine lv_icmp_gt (tgt := 35) hx hb dX3_put_27 (by decide) (fun c_52 => ?_) (fun c_52 => ?_)
          · have hw := hw.1 c_52
            refine lv_iconst (v := 1) hx hb dX3_put_35 (by decide) ?_
            refine lv_goto (tgt := 40) hx hb dX3_put_36 (by decide) ?_
            refine g_put (own := RX3) (C := RX3) (T := TX3) (N := 19) (ci := 3) hx hb hq hin_X3 tyX3 tyX3_ok nmX3 hown hK hG (k := 4) (gok_lo (by decide)) (gc_M) rfl 0 (by decide) (hq _ q_413) rfl rfl (ty := .int) (v := .int 1) (by decide +kernel) rfl rfl (Nat.le_of_ble_eq_true rfl) (gi g_1 4 0 (1 : Int32)) (gs_M0) (gho_lo (by decide)) dX3_put_40 (fun H locs hG => ?_)
            obtain ⟨g_53, eg_53⟩ : ∃ z, z = gi g_1 4 0 (1 : Int32) := ⟨_, rfl⟩
            rw [← eg_53] at hG
            have hw := hw g_53 eg_53
            refine lv_aload_n hx hb dX3_put_43 rfl (lv_at hl 0 rfl) ?_
            refine g_get (own := RX3) (C := RX3) (T := TX3) (N := 19) (ci := 3) hx hb hq hin_X3 hown hK hG (k := 4) (gok_lo (by decide)) (gc_M) rfl 0 (by decide) (hq _ q_413) rfl (v := .int (g_53.1 4 0)) rfl dX3_put_44 ?_
            refine lv_if_le (tgt := 52) hx hb dX3_put_47 (by decide) (fun c_54 => ?_) (fun c_54 => ?_)
            · have hw := hw.1 c_54
              refine lv_aload_n hx hb dX3_put_52 rfl (lv_at hl 0 rfl) ?_
              refine g_get (own := RX3) (C := RX3) (T := TX3) (N := 19) (ci := 3) hx hb hq hin_X3 hown hK hG (k := 4) (gok_lo (by decide)) (gc_M) rfl 3 (by decide) (hq _ q_416) rfl (v := .ref (ad 5)) rfl dX3_put_53 ?_
              refine lv_iload_n hx hb dX3_put_56 rfl (lv_at hl 1 rfl) ?_
              obtain ⟨hi_55, hw⟩ := hw
              refine g_iald hx hb hK hG (k := 5) (gok_lo (by decide)) (gc_5) hi_55 dX3_put_57 ?_
              refine lv_bipush (v := 20) hx hb dX3_put_58 (by decide) ?_
              refine lv_isub hx hb dX3_put_60 ?_
              refine lv_topi (fun x_56 ex_56 => ?_)
              have hw := hw x_56 ex_56
              refine lv_istore (lv' := [(5, .int x_56), (0, .ref (ad 4)), (1, .int p1), (2, .int p2), (3, .int p3), (4, .int p4)]) hx hb dX3_put_61 hl (by decide) rfl (fun ls hl => ?_)
              refine lv_iconst (v := 0) hx hb dX3_put_63 (by decide) ?_
              refine lv_istore (lv' := [(6, .int 0), (5, .int x_56), (0, .ref (ad 4)), (1, .int p1), (2, .int p2), (3, .int p3), (4, .int p4)]) hx hb dX3_put_64 hl (by decide) rfl (fun ls hl => ?_)
              refine lv_aload_n hx hb dX3_put_66 rfl (lv_at hl 2 rfl) ?_
              refine g_get (own := RX3) (C := RX3) (T := TX3) (N := 19) (ci := 3) hx hb hq hin_X3 hown hK hG (k := 4) (gok_lo (by decide)) (gc_M) rfl 9 (by decide) (hq _ q_422) rfl (v := .int (g_53.1 4 3)) rfl dX3_put_67 ?_
              refine lv_iload hx hb dX3_put_70 (lv_at hl 1 rfl) ?_
              refine lv_icmp_gt (tgt := 92) hx hb dX3_put_72 (by decide) (fun c_57 => ?_) (fun c_57 => ?_)
              · have hw := hw.1 c_57
                refine lv_iload hx hb dX3_put_92 (lv_at hl 1 rfl) ?_
                refine lv_bipush (v := 8) hx hb dX3_put_94 (by decide) ?_
                refine lv_idiv hx hb dX3_put_96 (by decide) ?_
                refine lv_bipush (v := 8) hx hb dX3_put_97 (by decide) ?_
                refine lv_imul hx hb dX3_put_99 ?_
                refine lv_topi (fun x_58 ex_58 => ?_)
                have hw := hw x_58 ex_58
                refine lv_istore (lv' := [(7, .int x_58), (6, .int 0), (5, .int x_56), (0, .ref (ad 4)), (1, .int p1), (2, .int p2), (3, .int p3), (4, .int p4)]) hx hb dX3_put_100 hl (by decide) rfl (fun ls hl => ?_)
                refine lv_iconst (v := 0) hx hb dX3_put_102 (by decide) ?_
                refine lv_istore (lv' := [(8, .int 0), (7, .int x_58), (6, .int 0), (5, .int x_56), (0, .ref (ad 4)), (1, .int p1), (2, .int p2), (3, .int p3), (4, .int p4)]) hx hb dX3_put_103 hl (by decide) rfl (fun ls hl => ?_)
                obtain ⟨n_59, hw⟩ := hw
                exact L_X3_put_105 post hl9 hx hb hr hml hown hts hlocks hA hE n_59 p1 p2 p3 p4 x_56 0 x_58 0 g_53 hw _ _ _ hG (lv_sub hl [4, 5, 6, 7, 8, 3, 2, 1, 0] rfl)
              · have hw := hw.2 c_57
                refine lv_aload_n hx hb dX3_put_75 rfl (lv_at hl 2 rfl) ?_
                refine lv_iload_n hx hb dX3_put_76 rfl (lv_at hl 3 rfl) ?_
                refine lv_iload_n hx hb dX3_put_77 rfl (lv_at hl 4 rfl) ?_
                refine lv_iload_n hx hb dX3_put_78 rfl (lv_at hl 5 rfl) ?_
                refine lv_iload hx hb dX3_put_79 (lv_at hl 6 rfl) ?_
                refine lv_iconst (v := 0) hx hb dX3_put_81 (by decide) ?_
                refine lv_aload_n hx hb dX3_put_82 rfl (lv_at hl 2 rfl) ?_
                refine g_get (own := RX3) (C := RX3) (T := TX3) (N := 19) (ci := 3) hx hb hq hin_X3 hown hK hG (k := 4) (gok_lo (by decide)) (gc_M) rfl 9 (by decide) (hq _ q_422) rfl (v := .int (g_53.1 4 3)) rfl dX3_put_83 ?_
                refine g_callv (va_runV (As := [.int p1, .int p2, .int p3, .int p4, .int 0, .int (g_53.1 4 3)]) (rest := []) ⟨hx, hb, hml, hown, hts⟩ (m_X3_frame hl9 D K sa ad _ _ p1 p2 p3 p4 0 (g_53.1 4 3) g_53 hw) (cwV 6 hts (gGood gCons (gV q_508 q_510 q_15 q_23 q_511)) rfl rfl rfl (by decide +kernel) ⟨Nat.le_of_ble_eq_true rfl, Nat.le_of_ble_eq_true rfl⟩) ⟨gPc_blind, g_recv hK hG (gok_lo (by decide)) (gc_M) rfl, gPc_at hE hG hA⟩ rfl rfl hl.1 rfl (lv_room (Nat.le_of_ble_eq_true rfl)) dX3_put_86 ⟨Nat.le_of_ble_eq_true rfl, Nat.le_of_ble_eq_true rfl⟩) hG hA (fun g_60 H locs hw hG => ?_)
                try dsimp only at hw
                refine lv_goto (tgt := 162) hx hb dX3_put_89 (by decide) ?_
                refine lv_aload_n hx hb dX3_put_162 rfl (lv_at hl 2 rfl) ?_
                refine lv_iconst (v := 0) hx hb dX3_put_163 (by decide) ?_
                refine g_put (own := RX3) (C := RX3) (T := TX3) (N := 19) (ci := 3) hx hb hq hin_X3 tyX3 tyX3_ok nmX3 hown hK hG (k := 4) (gok_lo (by decide)) (gc_M) rfl 9 (by decide) (hq _ q_422) rfl rfl (ty := .int) (v := .int 0) (by decide +kernel) rfl rfl (Nat.le_of_ble_eq_true rfl) (gi g_60 4 3 (0 : Int32)) (gs_M3) (gho_lo (by decide)) dX3_put_164 (fun H locs hG => ?_)
                obtain ⟨g_61, eg_61⟩ : ∃ z, z = gi g_60 4 3 (0 : Int32) := ⟨_, rfl⟩
                rw [← eg_61] at hG
                have hw := hw g_61 eg_61
                refine lv_iload hx hb dX3_put_167 (lv_at hl 0 rfl) ?_
                exact g_iret hx hb hr hlocks hw hG (by decide) (by decide) dX3_put_169
            · have hw := hw.2 c_54
              refine lv_iconst (v := 0) hx hb dX3_put_50 (by decide) ?_
              exact g_iret hx hb hr hlocks hw hG (by decide) (by decide) dX3_put_51
          · have hw := hw.2 c_52
            refine lv_iload_n hx hb dX3_put_30 rfl (lv_at hl 3 rfl) ?_
            refine lv_iload_n hx hb dX3_put_31 rfl (lv_at hl 2 rfl) ?_
            refine lv_icmp_ne (tgt := 39) hx hb dX3_put_32 (by decide) (fun c_62 => ?_) (fun c_62 => ?_)
            · have hw := hw.1 c_62
              refine lv_iconst (v := 0) hx hb dX3_put_39 (by decide) ?_
              refine g_put (own := RX3) (C := RX3) (T := TX3) (N := 19) (ci := 3) hx hb hq hin_X3 tyX3 tyX3_ok nmX3 hown hK hG (k := 4) (gok_lo (by decide)) (gc_M) rfl 0 (by decide) (hq _ q_413) rfl rfl (ty := .int) (v := .int 0) (by decide +kernel) rfl rfl (Nat.le_of_ble_eq_true rfl) (gi g_1 4 0 (0 : Int32)) (gs_M0) (gho_lo (by decide)) dX3_put_40 (fun H locs hG => ?_)
              obtain ⟨g_63, eg_63⟩ : ∃ z, z = gi g_1 4 0 (0 : Int32) := ⟨_, rfl⟩
              rw [← eg_63] at hG
              have hw := hw g_63 eg_63
              refine lv_aload_n hx hb dX3_put_43 rfl (lv_at hl 0 rfl) ?_
              refine g_get (own := RX3) (C := RX3) (T := TX3) (N := 19) (ci := 3) hx hb hq hin_X3 hown hK hG (k := 4) (gok_lo (by decide)) (gc_M) rfl 0 (by decide) (hq _ q_413) rfl (v := .int (g_63.1 4 0)) rfl dX3_put_44 ?_
              refine lv_if_le (tgt := 52) hx hb dX3_put_47 (by decide) (fun c_64 => ?_) (fun c_64 => ?_)
              · have hw := hw.1 c_64
                refine lv_aload_n hx hb dX3_put_52 rfl (lv_at hl 0 rfl) ?_
                refine g_get (own := RX3) (C := RX3) (T := TX3) (N := 19) (ci := 3) hx hb hq hin_X3 hown hK hG (k := 4) (gok_lo (by decide)) (gc_M) rfl 3 (by decide) (hq _ q_416) rfl (v := .ref (ad 5)) rfl dX3_put_53 ?_
                refine lv_iload_n hx hb dX3_put_56 rfl (lv_at hl 1 rfl) ?_
                obtain ⟨hi_65, hw⟩ := hw
                refine g_iald hx hb hK hG (k := 5) (gok_lo (by decide)) (gc_5) hi_65 dX3_put_57 ?_
                refine lv_bipush (v := 20) hx hb dX3_put_58 (by decide) ?_
                refine lv_isub hx hb dX3_put_60 ?_
                refine lv_topi (fun x_66 ex_66 => ?_)
                have hw := hw x_66 ex_66
                refine lv_istore (lv' := [(5, .int x_66), (0, .ref (ad 4)), (1, .int p1), (2, .int p2), (3, .int p3), (4, .int p4)]) hx hb dX3_put_61 hl (by decide) rfl (fun ls hl => ?_)
                refine lv_iconst (v := 0) hx hb dX3_put_63 (by decide) ?_
                refine lv_istore (lv' := [(6, .int 0), (5, .int x_66), (0, .ref (ad 4)), (1, .int p1), (2, .int p2), (3, .int p3), (4, .int p4)]) hx hb dX3_put_64 hl (by decide) rfl (fun ls hl => ?_)
                refine lv_aload_n hx hb dX3_put_66 rfl (lv_at hl 2 rfl) ?_
                refine g_get (own := RX3) (C := RX3) (T := TX3) (N := 19) (ci := 3) hx hb hq hin_X3 hown hK hG (k := 4) (gok_lo (by decide)) (gc_M) rfl 9 (by decide) (hq _ q_422) rfl (v := .int (g_63.1 4 3)) rfl dX3_put_67 ?_
                refine lv_iload hx hb dX3_put_70 (lv_at hl 1 rfl) ?_
                refine lv_icmp_gt (tgt := 92) hx hb dX3_put_72 (by decide) (fun c_67 => ?_) (fun c_67 => ?_)
                · have hw := hw.1 c_67
                  refine lv_iload hx hb dX3_put_92 (lv_at hl 1 rfl) ?_
                  refine lv_bipush (v := 8) hx hb dX3_put_94 (by decide) ?_
                  refine lv_idiv hx hb dX3_put_96 (by decide) ?_
                  refine lv_bipush (v := 8) hx hb dX3_put_97 (by decide) ?_
                  refine lv_imul hx hb dX3_put_99 ?_
                  refine lv_topi (fun x_68 ex_68 => ?_)
                  have hw := hw x_68 ex_68
                  refine lv_istore (lv' := [(7, .int x_68), (6, .int 0), (5, .int x_66), (0, .ref (ad 4)), (1, .int p1), (2, .int p2), (3, .int p3), (4, .int p4)]) hx hb dX3_put_100 hl (by decide) rfl (fun ls hl => ?_)
                  refine lv_iconst (v := 0) hx hb dX3_put_102 (by decide) ?_
                  refine lv_istore (lv' := [(8, .int 0), (7, .int x_68), (6, .int 0), (5, .int x_66), (0, .ref (ad 4)), (1, .int p1), (2, .int p2), (3, .int p3), (4, .int p4)]) hx hb dX3_put_103 hl (by decide) rfl (fun ls hl => ?_)
                  obtain ⟨n_69, hw⟩ := hw
                  exact L_X3_put_105 post hl9 hx hb hr hml hown hts hlocks hA hE n_69 p1 p2 p3 p4 x_66 0 x_68 0 g_63 hw _ _ _ hG (lv_sub hl [4, 5, 6, 7, 8, 3, 2, 1, 0] rfl)
                · have hw := hw.2 c_67
                  refine lv_aload_n hx hb dX3_put_75 rfl (lv_at hl 2 rfl) ?_
                  refine lv_iload_n hx hb dX3_put_76 rfl (lv_at hl 3 rfl) ?_
                  refine lv_iload_n hx hb dX3_put_77 rfl (lv_at hl 4 rfl) ?_
                  refine lv_iload_n hx hb dX3_put_78 rfl (lv_at hl 5 rfl) ?_
                  refine lv_iload hx hb dX3_put_79 (lv_at hl 6 rfl) ?_
                  refine lv_iconst (v := 0) hx hb dX3_put_81 (by decide) ?_
                  refine lv_aload_n hx hb dX3_put_82 rfl (lv_at hl 2 rfl) ?_
                  refine g_get (own := RX3) (C := RX3) (T := TX3) (N := 19) (ci := 3) hx hb hq hin_X3 hown hK hG (k := 4) (gok_lo (by decide)) (gc_M) rfl 9 (by decide) (hq _ q_422) rfl (v := .int (g_63.1 4 3)) rfl dX3_put_83 ?_
                  refine g_callv (va_runV (As := [.int p1, .int p2, .int p3, .int p4, .int 0, .int (g_63.1 4 3)]) (rest := []) ⟨hx, hb, hml, hown, hts⟩ (m_X3_frame hl9 D K sa ad _ _ p1 p2 p3 p4 0 (g_63.1 4 3) g_63 hw) (cwV 6 hts (gGood gCons (gV q_508 q_510 q_15 q_23 q_511)) rfl rfl rfl (by decide +kernel) ⟨Nat.le_of_ble_eq_true rfl, Nat.le_of_ble_eq_true rfl⟩) ⟨gPc_blind, g_recv hK hG (gok_lo (by decide)) (gc_M) rfl, gPc_at hE hG hA⟩ rfl rfl hl.1 rfl (lv_room (Nat.le_of_ble_eq_true rfl)) dX3_put_86 ⟨Nat.le_of_ble_eq_true rfl, Nat.le_of_ble_eq_true rfl⟩) hG hA (fun g_70 H locs hw hG => ?_)
                  try dsimp only at hw
                  refine lv_goto (tgt := 162) hx hb dX3_put_89 (by decide) ?_
                  refine lv_aload_n hx hb dX3_put_162 rfl (lv_at hl 2 rfl) ?_
                  refine lv_iconst (v := 0) hx hb dX3_put_163 (by decide) ?_
                  refine g_put (own := RX3) (C := RX3) (T := TX3) (N := 19) (ci := 3) hx hb hq hin_X3 tyX3 tyX3_ok nmX3 hown hK hG (k := 4) (gok_lo (by decide)) (gc_M) rfl 9 (by decide) (hq _ q_422) rfl rfl (ty := .int) (v := .int 0) (by decide +kernel) rfl rfl (Nat.le_of_ble_eq_true rfl) (gi g_70 4 3 (0 : Int32)) (gs_M3) (gho_lo (by decide)) dX3_put_164 (fun H locs hG => ?_)
                  obtain ⟨g_71, eg_71⟩ : ∃ z, z = gi g_70 4 3 (0 : Int32) := ⟨_, rfl⟩
                  rw [← eg_71] at hG
                  have hw := hw g_71 eg_71
                  refine lv_iload hx hb dX3_put_167 (lv_at hl 0 rfl) ?_
                  exact g_iret hx hb hr hlocks hw hG (by decide) (by decide) dX3_put_169
              · have hw := hw.2 c_64
                refine lv_iconst (v := 0) hx hb dX3_put_50 (by decide) ?_
                exact g_iret hx hb hr hlocks hw hG (by decide) (by decide) dX3_put_51
            · have hw := hw.2 c_62
              refine lv_iconst (v := 1) hx hb dX3_put_35 (by decide) ?_
              refine lv_goto (tgt := 40) hx hb dX3_put_36 (by decide) ?_
              refine g_put (own := RX3) (C := RX3) (T := TX3) (N := 19) (ci := 3) hx hb hq hin_X3 tyX3 tyX3_ok nmX3 hown hK hG (k := 4) (gok_lo (by decide)) (gc_M) rfl 0 (by decide) (hq _ q_413) rfl rfl (ty := .int) (v := .int 1) (by decide +kernel) rfl rfl (Nat.le_of_ble_eq_true rfl) (gi g_1 4 0 (1 : Int32)) (gs_M0) (gho_lo (by decide)) dX3_put_40 (fun H locs hG => ?_)
              obtain ⟨g_72, eg_72⟩ : ∃ z, z = gi g_1 4 0 (1 : Int32) := ⟨_, rfl⟩
              rw [← eg_72] at hG
              have hw := hw g_72 eg_72
              refine lv_aload_n hx hb dX3_put_43 rfl (lv_at hl 0 rfl) ?_
              refine g_get (own := RX3) (C := RX3) (T := TX3) (N := 19) (ci := 3) hx hb hq hin_X3 hown hK hG (k := 4) (gok_lo (by decide)) (gc_M) rfl 0 (by decide) (hq _ q_413) rfl (v := .int (g_72.1 4 0)) rfl dX3_put_44 ?_
              refine lv_if_le (tgt := 52) hx hb dX3_put_47 (by decide) (fun c_73 => ?_) (fun c_73 => ?_)
              · have hw := hw.1 c_73
                refine lv_aload_n hx hb dX3_put_52 rfl (lv_at hl 0 rfl) ?_
                refine g_get (own := RX3) (C := RX3) (T := TX3) (N := 19) (ci := 3) hx hb hq hin_X3 hown hK hG (k := 4) (gok_lo (by decide)) (gc_M) rfl 3 (by decide) (hq _ q_416) rfl (v := .ref (ad 5)) rfl dX3_put_53 ?_
                refine lv_iload_n hx hb dX3_put_56 rfl (lv_at hl 1 rfl) ?_
                obtain ⟨hi_74, hw⟩ := hw
                refine g_iald hx hb hK hG (k := 5) (gok_lo (by decide)) (gc_5) hi_74 dX3_put_57 ?_
                refine lv_bipush (v := 20) hx hb dX3_put_58 (by decide) ?_
                refine lv_isub hx hb dX3_put_60 ?_
                refine lv_topi (fun x_75 ex_75 => ?_)
                have hw := hw x_75 ex_75
                refine lv_istore (lv' := [(5, .int x_75), (0, .ref (ad 4)), (1, .int p1), (2, .int p2), (3, .int p3), (4, .int p4)]) hx hb dX3_put_61 hl (by decide) rfl (fun ls hl => ?_)
                refine lv_iconst (v := 0) hx hb dX3_put_63 (by decide) ?_
                refine lv_istore (lv' := [(6, .int 0), (5, .int x_75), (0, .ref (ad 4)), (1, .int p1), (2, .int p2), (3, .int p3), (4, .int p4)]) hx hb dX3_put_64 hl (by decide) rfl (fun ls hl => ?_)
                refine lv_aload_n hx hb dX3_put_66 rfl (lv_at hl 2 rfl) ?_
                refine g_get (own := RX3) (C := RX3) (T := TX3) (N := 19) (ci := 3) hx hb hq hin_X3 hown hK hG (k := 4) (gok_lo (by decide)) (gc_M) rfl 9 (by decide) (hq _ q_422) rfl (v := .int (g_72.1 4 3)) rfl dX3_put_67 ?_
                refine lv_iload hx hb dX3_put_70 (lv_at hl 1 rfl) ?_
                refine lv_icmp_gt (tgt := 92) hx hb dX3_put_72 (by decide) (fun c_76 => ?_) (fun c_76 => ?_)
                · have hw := hw.1 c_76
                  refine lv_iload hx hb dX3_put_92 (lv_at hl 1 rfl) ?_
                  refine lv_bipush (v := 8) hx hb dX3_put_94 (by decide) ?_
                  refine lv_idiv hx hb dX3_put_96 (by decide) ?_
                  refine lv_bipush (v := 8) hx hb dX3_put_97 (by decide) ?_
                  refine lv_imul hx hb dX3_put_99 ?_
                  refine lv_topi (fun x_77 ex_77 => ?_)
                  have hw := hw x_77 ex_77
                  refine lv_istore (lv' := [(7, .int x_77), (6, .int 0), (5, .int x_75), (0, .ref (ad 4)), (1, .int p1), (2, .int p2), (3, .int p3), (4, .int p4)]) hx hb dX3_put_100 hl (by decide) rfl (fun ls hl => ?_)
                  refine lv_iconst (v := 0) hx hb dX3_put_102 (by decide) ?_
                  refine lv_istore (lv' := [(8, .int 0), (7, .int x_77), (6, .int 0), (5, .int x_75), (0, .ref (ad 4)), (1, .int p1), (2, .int p2), (3, .int p3), (4, .int p4)]) hx hb dX3_put_103 hl (by decide) rfl (fun ls hl => ?_)
                  obtain ⟨n_78, hw⟩ := hw
                  exact L_X3_put_105 post hl9 hx hb hr hml hown hts hlocks hA hE n_78 p1 p2 p3 p4 x_75 0 x_77 0 g_72 hw _ _ _ hG (lv_sub hl [4, 5, 6, 7, 8, 3, 2, 1, 0] rfl)
                · have hw := hw.2 c_76
                  refine lv_aload_n hx hb dX3_put_75 rfl (lv_at hl 2 rfl) ?_
                  refine lv_iload_n hx hb dX3_put_76 rfl (lv_at hl 3 rfl) ?_
                  refine lv_iload_n hx hb dX3_put_77 rfl (lv_at hl 4 rfl) ?_
                  refine lv_iload_n hx hb dX3_put_78 rfl (lv_at hl 5 rfl) ?_
                  refine lv_iload hx hb dX3_put_79 (lv_at hl 6 rfl) ?_
                  refine lv_iconst (v := 0) hx hb dX3_put_81 (by decide) ?_
                  refine lv_aload_n hx hb dX3_put_82 rfl (lv_at hl 2 rfl) ?_
                  refine g_get (own := RX3) (C := RX3) (T := TX3) (N := 19) (ci := 3) hx hb hq hin_X3 hown hK hG (k := 4) (gok_lo (by decide)) (gc_M) rfl 9 (by decide) (hq _ q_422) rfl (v := .int (g_72.1 4 3)) rfl dX3_put_83 ?_
                  refine g_callv (va_runV (As := [.int p1, .int p2, .int p3, .int p4, .int 0, .int (g_72.1 4 3)]) (rest := []) ⟨hx, hb, hml, hown, hts⟩ (m_X3_frame hl9 D K sa ad _ _ p1 p2 p3 p4 0 (g_72.1 4 3) g_72 hw) (cwV 6 hts (gGood gCons (gV q_508 q_510 q_15 q_23 q_511)) rfl rfl rfl (by decide +kernel) ⟨Nat.le_of_ble_eq_true rfl, Nat.le_of_ble_eq_true rfl⟩) ⟨gPc_blind, g_recv hK hG (gok_lo (by decide)) (gc_M) rfl, gPc_at hE hG hA⟩ rfl rfl hl.1 rfl (lv_room (Nat.le_of_ble_eq_true rfl)) dX3_put_86 ⟨Nat.le_of_ble_eq_true rfl, Nat.le_of_ble_eq_true rfl⟩) hG hA (fun g_79 H locs hw hG => ?_)
                  try dsimp only at hw
                  refine lv_goto (tgt := 162) hx hb dX3_put_89 (by decide) ?_
                  refine lv_aload_n hx hb dX3_put_162 rfl (lv_at hl 2 rfl) ?_
                  refine lv_iconst (v := 0) hx hb dX3_put_163 (by decide) ?_
                  refine g_put (own := RX3) (C := RX3) (T := TX3) (N := 19) (ci := 3) hx hb hq hin_X3 tyX3 tyX3_ok nmX3 hown hK hG (k := 4) (gok_lo (by decide)) (gc_M) rfl 9 (by decide) (hq _ q_422) rfl rfl (ty := .int) (v := .int 0) (by decide +kernel) rfl rfl (Nat.le_of_ble_eq_true rfl) (gi g_79 4 3 (0 : Int32)) (gs_M3) (gho_lo (by decide)) dX3_put_164 (fun H locs hG => ?_)
                  obtain ⟨g_80, eg_80⟩ : ∃ z, z = gi g_79 4 3 (0 : Int32) := ⟨_, rfl⟩
                  rw [← eg_80] at hG
                  have hw := hw g_80 eg_80
                  refine lv_iload hx hb dX3_put_167 (lv_at hl 0 rfl) ?_
                  exact g_iret hx hb hr hlocks hw hG (by decide) (by decide) dX3_put_169
              · have hw := hw.2 c_73
                refine lv_iconst (v := 0) hx hb dX3_put_50 (by decide) ?_
                exact g_iret hx hb hr hlocks hw hG (by decide) (by decide) dX3_put_51

def wpl_X3_next_104 (post : Int32 → gS → Prop) : Nat → Int32 → Int32 → Int32 → gS → Prop
  | 0 => fun _ _ _ _ => False
  | n + 1 => fun x1 x2 x3 g => vp_in (6 : Int32) 7 ∧ ((((g.1 15 (6 : Int32).toNatClampNeg) ≤ x3) → (∀ g_9 : gS, g_9 = gi g 4 5 (1 : Int32) → (wp_X3_remove (fun g_10 => (post 1 g_10)) x1 g_9))) ∧ ((¬ (g.1 15 (6 : Int32).toNatClampNeg) ≤ x3) → (∀ i_11 : Int32, i_11 = (185 * x2) + (x3 / 8) → (vp_in i_11 94720 ∧ (∀ x_13 : Int32, x_13 = (((g.2.2.2 17 i_11.toNatClampNeg) >>> ((8 * (x3 - x3 / 8 * 8)).toInt64 &&& 63)) &&& 255).toInt32 → (vp_in x3 1480 ∧ (∀ g_15 : gS, g_15 = gi g 16 x3.toNatClampNeg x_13 → (∀ x_16 : Int32, x_16 = x3 + 1 → (wpl_X3_next_104 post n x1 x2 x_16 g_15)))))))))
set_option maxHeartbeats 4000000 in
set_option maxRecDepth 100000 in
theorem L_X3_next_104 {p : Program} {l : Launch} {e : Env} {s : State} {m : MethodId} {args : Array Value} {below : List Frame} {meth : Method} {c : Code} {D : va_G} {K : Nat → ClassId} {sa ad : Nat → Nat} {A : Nat → Prop} (post : Int32 → gS → Prop) (hl9 : l.stackTraces = false) (hx : p.tables.exec = Jvm.exec) (hb : c.code = cX3_next) (hr : meth.sig.returnType = (some .boolean)) (hml : c.maxLocals = 4) (hown : s.vm.findClass RX3 = some m.cls) (hts : ∀ w ∈ wsX3_next, w.before args s = true) (hlocks : meth.locks = false) (hA : ∀ q, s.heap.size ≤ q → A q) (hE : gE D K sa A s s.heap) : ∀ (n : Nat) (x1 : Int32) (x2 : Int32) (x3 : Int32) (g : gS), wpl_X3_next_104 post n x1 x2 x3 g → ∀ (H : Heap) (locs : List Loc) (ls : Array Slot), gX D K ad A s.heap g H locs → lv_has ls 4 [(0, .ref (ad 4)), (1, .int x1), (2, .int x2), (3, .int x3)] → W p l e ({ frames := 1, cells := 0, slots := 0, locals := 22 } : Room) s m args below meth c H locs 0 0 (MQ below (va_Qi post (gB D K ad A) A) args s 0 0 A) (F0 m 104 ls []) := by
  have hK := hE.1
  have hq : ∀ w ∈ gW, w.before args s = true := fun w h => hts w (List.mem_cons_of_mem _ h)
  intro n
  induction n with
  | zero =>
    intro x1 x2 x3 g hw
    exact hw.elim
  | succ n ih =>
    intro x1 x2 x3 g hw H locs ls hG hl
    dsimp only [wpl_X3_next_104] at hw
    refine lv_iload_n hx hb dX3_next_104 rfl (lv_at hl 3 rfl) ?_
    refine lv_aload_n hx hb dX3_next_105 rfl (lv_at hl 0 rfl) ?_
    refine g_get (own := RX3) (C := RX3) (T := TX3) (N := 19) (ci := 3) hx hb hq hin_X3 hown hK hG (k := 4) (gok_lo (by decide)) (gc_M) rfl 17 (by decide) (hq _ q_430) rfl (v := .ref (ad 15)) rfl dX3_next_106 ?_
    refine lv_bipush (v := 6) hx hb dX3_next_109 (by decide) ?_
    obtain ⟨hi_7, hw⟩ := hw
    refine g_iald hx hb hK hG (k := 15) (gok_lo (by decide)) (gc_15) hi_7 dX3_next_111 ?_
    refine lv_icmp_ge (tgt := 155) hx hb dX3_next_112 (by decide) (fun c_8 => ?_) (fun c_8 => ?_)
    · have hw := hw.1 c_8
      refine lv_aload_n hx hb dX3_next_155 rfl (lv_at hl 0 rfl) ?_
      refine lv_iconst (v := 1) hx hb dX3_next_156 (by decide) ?_
      refine g_put (own := RX3) (C := RX3) (T := TX3) (N := 19) (ci := 3) hx hb hq hin_X3 tyX3 tyX3_ok nmX3 hown hK hG (k := 4) (gok_lo (by decide)) (gc_M) rfl 16 (by decide) (hq _ q_429) rfl rfl (ty := .boolean) (v := .int 1) (by decide +kernel) (by decide) (by decide) (Nat.le_of_ble_eq_true rfl) (gi g 4 5 (1 : Int32)) (gs_M5) (gho_lo (by decide)) dX3_next_157 (fun H locs hG => ?_)
      obtain ⟨g_9, eg_9⟩ : ∃ z, z = gi g 4 5 (1 : Int32) := ⟨_, rfl⟩
      rw [← eg_9] at hG
      have hw := hw g_9 eg_9
      refine lv_aload_n hx hb dX3_next_160 rfl (lv_at hl 0 rfl) ?_
      refine lv_iload_n hx hb dX3_next_161 rfl (lv_at hl 1 rfl) ?_
      refine g_callv (va_runV (As := [.int x1]) (rest := []) ⟨hx, hb, hml, hown, hts⟩ (m_X3_remove hl9 D K sa ad _ _ x1 g_9 hw) (cwV 1 hts (gGood gCons (gV q_490 q_492 q_14 q_23 q_493)) rfl rfl rfl (by decide +kernel) ⟨Nat.le_of_ble_eq_true rfl, Nat.le_of_ble_eq_true rfl⟩) ⟨gPc_blind, g_recv hK hG (gok_lo (by decide)) (gc_M) rfl, gPc_at hE hG hA⟩ rfl rfl hl.1 rfl (lv_room (Nat.le_of_ble_eq_true rfl)) dX3_next_162 ⟨Nat.le_of_ble_eq_true rfl, Nat.le_of_ble_eq_true rfl⟩) hG hA (fun g_10 H locs hw hG => ?_)
      try dsimp only at hw
      refine lv_iconst (v := 1) hx hb dX3_next_165 (by decide) ?_
      exact g_zret hx hb hr (by decide) hlocks hw hG (by decide) (by decide) dX3_next_166
    · have hw := hw.2 c_8
      refine lv_aload_n hx hb dX3_next_115 rfl (lv_at hl 0 rfl) ?_
      refine g_get (own := RX3) (C := RX3) (T := TX3) (N := 19) (ci := 3) hx hb hq hin_X3 hown hK hG (k := 4) (gok_lo (by decide)) (gc_M) rfl 18 (by decide) (hq _ q_431) rfl (v := .ref (ad 16)) rfl dX3_next_116 ?_
      refine lv_iload_n hx hb dX3_next_119 rfl (lv_at hl 3 rfl) ?_
      refine lv_aload_n hx hb dX3_next_120 rfl (lv_at hl 0 rfl) ?_
      refine g_get (own := RX3) (C := RX3) (T := TX3) (N := 19) (ci := 3) hx hb hq hin_X3 hown hK hG (k := 4) (gok_lo (by decide)) (gc_M) rfl 15 (by decide) (hq _ q_428) rfl (v := .ref (ad 17)) rfl dX3_next_121 ?_
      refine lv_sipush (v := 185) hx hb dX3_next_124 (by decide) ?_
      refine lv_iload_n hx hb dX3_next_127 rfl (lv_at hl 2 rfl) ?_
      refine lv_imul hx hb dX3_next_128 ?_
      refine lv_iload_n hx hb dX3_next_129 rfl (lv_at hl 3 rfl) ?_
      refine lv_bipush (v := 8) hx hb dX3_next_130 (by decide) ?_
      refine lv_idiv hx hb dX3_next_132 (by decide) ?_
      refine lv_iadd hx hb dX3_next_133 ?_
      refine lv_topi (fun i_11 ei_11 => ?_)
      have hw := hw i_11 ei_11
      obtain ⟨hi_12, hw⟩ := hw
      refine g_lald hx hb hK hG (k := 17) (gok_lo (by decide)) (gc_17) hi_12 dX3_next_134 ?_
      refine lv_bipush (v := 8) hx hb dX3_next_135 (by decide) ?_
      refine lv_iload_n hx hb dX3_next_137 rfl (lv_at hl 3 rfl) ?_
      refine lv_bipush (v := 8) hx hb dX3_next_138 (by decide) ?_
      refine lv_irem hx hb dX3_next_140 (by decide) ?_
      refine lv_imul hx hb dX3_next_141 ?_
      refine lv_lshr hx hb dX3_next_142 rfl ?_
      refine lv_ldc2 (own := RX3) (v := 255) hx hb hown (hq _ q_503) dX3_next_143 ?_
      refine lv_land hx hb dX3_next_146 ?_
      refine lv_l2i hx hb dX3_next_147 rfl ?_
      refine lv_topi (fun x_13 ex_13 => ?_)
      have hw := hw x_13 ex_13
      obtain ⟨hi_14, hw⟩ := hw
      refine g_iast hx hb hK hG (k := 16) (gok_lo (by decide)) (fun g => gc_16) (x := x_13) hi_14 (gho_lo (by decide)) dX3_next_148 (fun H locs hG => ?_)
      obtain ⟨g_15, eg_15⟩ : ∃ z, z = gi g 16 x3.toNatClampNeg x_13 := ⟨_, rfl⟩
      rw [← eg_15] at hG
      have hw := hw g_15 eg_15
      obtain ⟨x_16, ex_16⟩ : ∃ y : Int32, y = x3 + 1 := ⟨_, rfl⟩
      have hw := hw x_16 ex_16
      refine lv_iinc (v := x_16) (lv' := [(3, .int x_16), (0, .ref (ad 4)), (1, .int x1), (2, .int x2)]) hx hb dX3_next_149 hl (k := 3) rfl (by rw [ex_16]; rfl) (by decide) rfl (fun ls hl => ?_)
      refine lv_goto (tgt := 104) hx hb dX3_next_152 (by decide) ?_
      exact ih x1 x2 x_16 g_15 hw _ _ _ hG (lv_sub hl [1, 2, 3, 0] rfl)
def wpl_X3_next_73 (post : Int32 → gS → Prop) : Nat → Int32 → Int32 → Int32 → gS → Prop
  | 0 => fun _ _ _ _ => False
  | n + 1 => fun x1 x2 x3 g => ((7 ≤ x3) → (∃ n, wpl_X3_next_104 post n x1 x2 0 g)) ∧ ((¬ 7 ≤ x3) → (∀ i_18 : Int32, i_18 = (8 * x2) + x3 → (vp_in i_18 4096 ∧ (∀ x_20 : Int32, x_20 = g.1 14 i_18.toNatClampNeg → (vp_in x3 7 ∧ (∀ g_22 : gS, g_22 = gi g 15 x3.toNatClampNeg x_20 → (∀ x_23 : Int32, x_23 = x3 + 1 → (wpl_X3_next_73 post n x1 x2 x_23 g_22))))))))
set_option maxHeartbeats 4000000 in
set_option maxRecDepth 100000 in
theorem L_X3_next_73 {p : Program} {l : Launch} {e : Env} {s : State} {m : MethodId} {args : Array Value} {below : List Frame} {meth : Method} {c : Code} {D : va_G} {K : Nat → ClassId} {sa ad : Nat → Nat} {A : Nat → Prop} (post : Int32 → gS → Prop) (hl9 : l.stackTraces = false) (hx : p.tables.exec = Jvm.exec) (hb : c.code = cX3_next) (hr : meth.sig.returnType = (some .boolean)) (hml : c.maxLocals = 4) (hown : s.vm.findClass RX3 = some m.cls) (hts : ∀ w ∈ wsX3_next, w.before args s = true) (hlocks : meth.locks = false) (hA : ∀ q, s.heap.size ≤ q → A q) (hE : gE D K sa A s s.heap) : ∀ (n : Nat) (x1 : Int32) (x2 : Int32) (x3 : Int32) (g : gS), wpl_X3_next_73 post n x1 x2 x3 g → ∀ (H : Heap) (locs : List Loc) (ls : Array Slot), gX D K ad A s.heap g H locs → lv_has ls 4 [(0, .ref (ad 4)), (1, .int x1), (2, .int x2), (3, .int x3)] → W p l e ({ frames := 1, cells := 0, slots := 0, locals := 22 } : Room) s m args below meth c H locs 0 0 (MQ below (va_Qi post (gB D K ad A) A) args s 0 0 A) (F0 m 73 ls []) := by
  have hK := hE.1
  have hq : ∀ w ∈ gW, w.before args s = true := fun w h => hts w (List.mem_cons_of_mem _ h)
  intro n
  induction n with
  | zero =>
    intro x1 x2 x3 g hw
    exact hw.elim
  | succ n ih =>
    intro x1 x2 x3 g hw H locs ls hG hl
    dsimp only [wpl_X3_next_73] at hw
    refine lv_iload_n hx hb dX3_next_73 rfl (lv_at hl 3 rfl) ?_
    refine lv_bipush (v := 7) hx hb dX3_next_74 (by decide) ?_
    refine lv_icmp_ge (tgt := 102) hx hb dX3_next_76 (by decide) (fun c_6 => ?_) (fun c_6 => ?_)
    · have hw := hw.1 c_6
      refine lv_iconst (v := 0) hx hb dX3_next_102 (by decide) ?_
      refine lv_istore_n (lv' := [(3, .int 0), (0, .ref (ad 4)), (1, .int x1), (2, .int x2)]) hx hb dX3_next_103 rfl hl (by decide) rfl (fun ls hl => ?_)
      obtain ⟨n_17, hw⟩ := hw
      exact L_X3_next_104 post hl9 hx hb hr hml hown hts hlocks hA hE n_17 x1 x2 0 g hw _ _ _ hG (lv_sub hl [1, 2, 3, 0] rfl)
    · have hw := hw.2 c_6
      refine lv_aload_n hx hb dX3_next_79 rfl (lv_at hl 0 rfl) ?_
      refine g_get (own := RX3) (C := RX3) (T := TX3) (N := 19) (ci := 3) hx hb hq hin_X3 hown hK hG (k := 4) (gok_lo (by decide)) (gc_M) rfl 17 (by decide) (hq _ q_430) rfl (v := .ref (ad 15)) rfl dX3_next_80 ?_
      refine lv_iload_n hx hb dX3_next_83 rfl (lv_at hl 3 rfl) ?_
      refine lv_aload_n hx hb dX3_next_84 rfl (lv_at hl 0 rfl) ?_
      refine g_get (own := RX3) (C := RX3) (T := TX3) (N := 19) (ci := 3) hx hb hq hin_X3 hown hK hG (k := 4) (gok_lo (by decide)) (gc_M) rfl 14 (by decide) (hq _ q_427) rfl (v := .ref (ad 14)) rfl dX3_next_85 ?_
      refine lv_bipush (v := 8) hx hb dX3_next_88 (by decide) ?_
      refine lv_iload_n hx hb dX3_next_90 rfl (lv_at hl 2 rfl) ?_
      refine lv_imul hx hb dX3_next_91 ?_
      refine lv_iload_n hx hb dX3_next_92 rfl (lv_at hl 3 rfl) ?_
      refine lv_iadd hx hb dX3_next_93 ?_
      refine lv_topi (fun i_18 ei_18 => ?_)
      have hw := hw i_18 ei_18
      obtain ⟨hi_19, hw⟩ := hw
      refine g_iald hx hb hK hG (k := 14) (gok_lo (by decide)) (gc_14) hi_19 dX3_next_94 ?_
      refine lv_topi (fun x_20 ex_20 => ?_)
      have hw := hw x_20 ex_20
      obtain ⟨hi_21, hw⟩ := hw
      refine g_iast hx hb hK hG (k := 15) (gok_lo (by decide)) (fun g => gc_15) (x := x_20) hi_21 (gho_lo (by decide)) dX3_next_95 (fun H locs hG => ?_)
      obtain ⟨g_22, eg_22⟩ : ∃ z, z = gi g 15 x3.toNatClampNeg x_20 := ⟨_, rfl⟩
      rw [← eg_22] at hG
      have hw := hw g_22 eg_22
      obtain ⟨x_23, ex_23⟩ : ∃ y : Int32, y = x3 + 1 := ⟨_, rfl⟩
      have hw := hw x_23 ex_23
      refine lv_iinc (v := x_23) (lv' := [(3, .int x_23), (0, .ref (ad 4)), (1, .int x1), (2, .int x2)]) hx hb dX3_next_96 hl (k := 3) rfl (by rw [ex_23]; rfl) (by decide) rfl (fun ls hl => ?_)
      refine lv_goto (tgt := 73) hx hb dX3_next_99 (by decide) ?_
      exact ih x1 x2 x_23 g_22 hw _ _ _ hG (lv_sub hl [1, 2, 3, 0] rfl)
def wpl_X3_next_9 (post : Int32 → gS → Prop) : Nat → Int32 → Int32 → gS → Prop
  | 0 => fun _ _ _ => False
  | n + 1 => fun x1 x2 g => (((g.1 4 4) ≤ x2) → (((0 ≤ x1) → (vp_in x1 512 ∧ (∀ x_5 : Int32, x_5 = g.1 12 x1.toNatClampNeg → (∃ n, wpl_X3_next_73 post n x1 x_5 0 g)))) ∧ ((¬ 0 ≤ x1) → (post 0 g)))) ∧ ((¬ (g.1 4 4) ≤ x2) → (wp_X3_due (fun r_26 g_25 => ((((g_25.1 4 1) < r_26) → (∀ x_28 : Int32, x_28 = x2 + 1 → (wpl_X3_next_9 post n x1 x_28 g_25))) ∧ ((¬ (g_25.1 4 1) < r_26) → (((x1 < 0) → (∀ x_30 : Int32, x_30 = x2 + 1 → (wpl_X3_next_9 post n x2 x_30 g_25))) ∧ ((¬ x1 < 0) → (wp_X3_due (fun r_32 g_31 => (wp_X3_due (fun r_34 g_33 => (((r_34 ≤ r_32) → (∀ x_36 : Int32, x_36 = x2 + 1 → (wpl_X3_next_9 post n x1 x_36 g_33))) ∧ ((¬ r_34 ≤ r_32) → (∀ x_37 : Int32, x_37 = x2 + 1 → (wpl_X3_next_9 post n x2 x_37 g_33))))) x1 g_31)) x2 g_25)))))) x2 g))
set_option maxHeartbeats 4000000 in
set_option maxRecDepth 100000 in
theorem L_X3_next_9 {p : Program} {l : Launch} {e : Env} {s : State} {m : MethodId} {args : Array Value} {below : List Frame} {meth : Method} {c : Code} {D : va_G} {K : Nat → ClassId} {sa ad : Nat → Nat} {A : Nat → Prop} (post : Int32 → gS → Prop) (hl9 : l.stackTraces = false) (hx : p.tables.exec = Jvm.exec) (hb : c.code = cX3_next) (hr : meth.sig.returnType = (some .boolean)) (hml : c.maxLocals = 4) (hown : s.vm.findClass RX3 = some m.cls) (hts : ∀ w ∈ wsX3_next, w.before args s = true) (hlocks : meth.locks = false) (hA : ∀ q, s.heap.size ≤ q → A q) (hE : gE D K sa A s s.heap) : ∀ (n : Nat) (x1 : Int32) (x2 : Int32) (g : gS), wpl_X3_next_9 post n x1 x2 g → ∀ (H : Heap) (locs : List Loc) (ls : Array Slot), gX D K ad A s.heap g H locs → lv_has ls 4 [(0, .ref (ad 4)), (1, .int x1), (2, .int x2)] → W p l e ({ frames := 1, cells := 0, slots := 0, locals := 22 } : Room) s m args below meth c H locs 0 0 (MQ below (va_Qi post (gB D K ad A) A) args s 0 0 A) (F0 m 9 ls []) := by
  have hK := hE.1
  have hq : ∀ w ∈ gW, w.before args s = true := fun w h => hts w (List.mem_cons_of_mem _ h)
  intro n
  induction n with
  | zero =>
    intro x1 x2 g hw
    exact hw.elim
  | succ n ih =>
    intro x1 x2 g hw H locs ls hG hl
    dsimp only [wpl_X3_next_9] at hw
    refine lv_iload_n hx hb dX3_next_9 rfl (lv_at hl 2 rfl) ?_
    refine lv_aload_n hx hb dX3_next_10 rfl (lv_at hl 0 rfl) ?_
    refine g_get (own := RX3) (C := RX3) (T := TX3) (N := 19) (ci := 3) hx hb hq hin_X3 hown hK hG (k := 4) (gok_lo (by decide)) (gc_M) rfl 11 (by decide) (hq _ q_424) rfl (v := .int (g.1 4 4)) rfl dX3_next_11 ?_
    refine lv_icmp_ge (tgt := 58) hx hb dX3_next_14 (by decide) (fun c_2 => ?_) (fun c_2 => ?_)
    · have hw := hw.1 c_2
      refine lv_iload_n hx hb dX3_next_58 rfl (lv_at hl 1 rfl) ?_
      refine lv_if_ge (tgt := 64) hx hb dX3_next_59 (by decide) (fun c_3 => ?_) (fun c_3 => ?_)
      · have hw := hw.1 c_3
        refine lv_aload_n hx hb dX3_next_64 rfl (lv_at hl 0 rfl) ?_
        refine g_get (own := RX3) (C := RX3) (T := TX3) (N := 19) (ci := 3) hx hb hq hin_X3 hown hK hG (k := 4) (gok_lo (by decide)) (gc_M) rfl 12 (by decide) (hq _ q_425) rfl (v := .ref (ad 12)) rfl dX3_next_65 ?_
        refine lv_iload_n hx hb dX3_next_68 rfl (lv_at hl 1 rfl) ?_
        obtain ⟨hi_4, hw⟩ := hw
        refine g_iald hx hb hK hG (k := 12) (gok_lo (by decide)) (gc_12) hi_4 dX3_next_69 ?_
        refine lv_topi (fun x_5 ex_5 => ?_)
        have hw := hw x_5 ex_5
        refine lv_istore_n (lv' := [(2, .int x_5), (0, .ref (ad 4)), (1, .int x1)]) hx hb dX3_next_70 rfl hl (by decide) rfl (fun ls hl => ?_)
        refine lv_iconst (v := 0) hx hb dX3_next_71 (by decide) ?_
        refine lv_istore_n (lv' := [(3, .int 0), (2, .int x_5), (0, .ref (ad 4)), (1, .int x1)]) hx hb dX3_next_72 rfl hl (by decide) rfl (fun ls hl => ?_)
        obtain ⟨n_24, hw⟩ := hw
        exact L_X3_next_73 post hl9 hx hb hr hml hown hts hlocks hA hE n_24 x1 x_5 0 g hw _ _ _ hG (lv_sub hl [2, 3, 1, 0] rfl)
      · have hw := hw.2 c_3
        refine lv_iconst (v := 0) hx hb dX3_next_62 (by decide) ?_
        exact g_zret hx hb hr (by decide) hlocks hw hG (by decide) (by decide) dX3_next_63
    · have hw := hw.2 c_2
      refine lv_aload_n hx hb dX3_next_17 rfl (lv_at hl 0 rfl) ?_
      refine lv_iload_n hx hb dX3_next_18 rfl (lv_at hl 2 rfl) ?_
      refine g_calli (va_runV (As := [.int x2]) (rest := []) ⟨hx, hb, hml, hown, hts⟩ (m_X3_due hl9 D K sa ad _ _ x2 g hw) (cwV 1 hts (gGood gCons (gV q_526 q_528 q_18 q_23 q_529)) rfl rfl rfl (by decide +kernel) ⟨Nat.le_of_ble_eq_true rfl, Nat.le_of_ble_eq_true rfl⟩) ⟨gPc_blind, g_recv hK hG (gok_lo (by decide)) (gc_M) rfl, gPc_at hE hG hA⟩ rfl rfl hl.1 rfl (lv_room (Nat.le_of_ble_eq_true rfl)) dX3_next_19 ⟨Nat.le_of_ble_eq_true rfl, Nat.le_of_ble_eq_true rfl⟩) hG hA (fun r_26 g_25 H locs hw hG => ?_)
      try dsimp only at hw
      refine lv_aload_n hx hb dX3_next_22 rfl (lv_at hl 0 rfl) ?_
      refine g_get (own := RX3) (C := RX3) (T := TX3) (N := 19) (ci := 3) hx hb hq hin_X3 hown hK hG (k := 4) (gok_lo (by decide)) (gc_M) rfl 1 (by decide) (hq _ q_414) rfl (v := .int (g_25.1 4 1)) rfl dX3_next_23 ?_
      refine lv_icmp_gt (tgt := 50) hx hb dX3_next_26 (by decide) (fun c_27 => ?_) (fun c_27 => ?_)
      · have hw := hw.1 c_27
        refine lv_iload_n hx hb dX3_next_50 rfl (lv_at hl 1 rfl) ?_
        refine lv_istore_n (lv' := [(1, .int x1), (0, .ref (ad 4)), (2, .int x2)]) hx hb dX3_next_51 rfl hl (by decide) rfl (fun ls hl => ?_)
        obtain ⟨x_28, ex_28⟩ : ∃ y : Int32, y = x2 + 1 := ⟨_, rfl⟩
        have hw := hw x_28 ex_28
        refine lv_iinc (v := x_28) (lv' := [(2, .int x_28), (1, .int x1), (0, .ref (ad 4))]) hx hb dX3_next_52 hl (k := 2) rfl (by rw [ex_28]; rfl) (by decide) rfl (fun ls hl => ?_)
        refine lv_goto (tgt := 9) hx hb dX3_next_55 (by decide) ?_
        exact ih x1 x_28 g_25 hw _ _ _ hG (lv_sub hl [2, 1, 0] rfl)
      · have hw := hw.2 c_27
        refine lv_iload_n hx hb dX3_next_29 rfl (lv_at hl 1 rfl) ?_
        refine lv_if_lt (tgt := 46) hx hb dX3_next_30 (by decide) (fun c_29 => ?_) (fun c_29 => ?_)
        · have hw := hw.1 c_29
          refine lv_iload_n hx hb dX3_next_46 rfl (lv_at hl 2 rfl) ?_
          refine lv_goto (tgt := 51) hx hb dX3_next_47 (by decide) ?_
          refine lv_istore_n (lv' := [(1, .int x2), (0, .ref (ad 4)), (2, .int x2)]) hx hb dX3_next_51 rfl hl (by decide) rfl (fun ls hl => ?_)
          obtain ⟨x_30, ex_30⟩ : ∃ y : Int32, y = x2 + 1 := ⟨_, rfl⟩
          have hw := hw x_30 ex_30
          refine lv_iinc (v := x_30) (lv' := [(2, .int x_30), (1, .int x2), (0, .ref (ad 4))]) hx hb dX3_next_52 hl (k := 2) rfl (by rw [ex_30]; rfl) (by decide) rfl (fun ls hl => ?_)
          refine lv_goto (tgt := 9) hx hb dX3_next_55 (by decide) ?_
          exact ih x2 x_30 g_25 hw _ _ _ hG (lv_sub hl [2, 1, 0] rfl)
        · have hw := hw.2 c_29
          refine lv_aload_n hx hb dX3_next_33 rfl (lv_at hl 0 rfl) ?_
          refine lv_iload_n hx hb dX3_next_34 rfl (lv_at hl 2 rfl) ?_
          refine g_calli (va_runV (As := [.int x2]) (rest := []) ⟨hx, hb, hml, hown, hts⟩ (m_X3_due hl9 D K sa ad _ _ x2 g_25 hw) (cwV 1 hts (gGood gCons (gV q_526 q_528 q_18 q_23 q_529)) rfl rfl rfl (by decide +kernel) ⟨Nat.le_of_ble_eq_true rfl, Nat.le_of_ble_eq_true rfl⟩) ⟨gPc_blind, g_recv hK hG (gok_lo (by decide)) (gc_M) rfl, gPc_at hE hG hA⟩ rfl rfl hl.1 rfl (lv_room (Nat.le_of_ble_eq_true rfl)) dX3_next_35 ⟨Nat.le_of_ble_eq_true rfl, Nat.le_of_ble_eq_true rfl⟩) hG hA (fun r_32 g_31 H locs hw hG => ?_)
          try dsimp only at hw
          refine lv_aload_n hx hb dX3_next_38 rfl (lv_at hl 0 rfl) ?_
          refine lv_iload_n hx hb dX3_next_39 rfl (lv_at hl 1 rfl) ?_
          refine g_calli (va_runV (As := [.int x1]) (rest := [.int r_32]) ⟨hx, hb, hml, hown, hts⟩ (m_X3_due hl9 D K sa ad _ _ x1 g_31 hw) (cwV 1 hts (gGood gCons (gV q_526 q_528 q_18 q_23 q_529)) rfl rfl rfl (by decide +kernel) ⟨Nat.le_of_ble_eq_true rfl, Nat.le_of_ble_eq_true rfl⟩) ⟨gPc_blind, g_recv hK hG (gok_lo (by decide)) (gc_M) rfl, gPc_at hE hG hA⟩ rfl rfl hl.1 rfl (lv_room (Nat.le_of_ble_eq_true rfl)) dX3_next_40 ⟨Nat.le_of_ble_eq_true rfl, Nat.le_of_ble_eq_true rfl⟩) hG hA (fun r_34 g_33 H locs hw hG => ?_)
          try dsimp only at hw
          refine lv_icmp_ge (tgt := 50) hx hb dX3_next_43 (by decide) (fun c_35 => ?_) (fun c_35 => ?_)
          · have hw := hw.1 c_35
            refine lv_iload_n hx hb dX3_next_50 rfl (lv_at hl 1 rfl) ?_
            refine lv_istore_n (lv' := [(1, .int x1), (0, .ref (ad 4)), (2, .int x2)]) hx hb dX3_next_51 rfl hl (by decide) rfl (fun ls hl => ?_)
            obtain ⟨x_36, ex_36⟩ : ∃ y : Int32, y = x2 + 1 := ⟨_, rfl⟩
            have hw := hw x_36 ex_36
            refine lv_iinc (v := x_36) (lv' := [(2, .int x_36), (1, .int x1), (0, .ref (ad 4))]) hx hb dX3_next_52 hl (k := 2) rfl (by rw [ex_36]; rfl) (by decide) rfl (fun ls hl => ?_)
            refine lv_goto (tgt := 9) hx hb dX3_next_55 (by decide) ?_
            exact ih x1 x_36 g_33 hw _ _ _ hG (lv_sub hl [2, 1, 0] rfl)
          · have hw := hw.2 c_35
            refine lv_iload_n hx hb dX3_next_46 rfl (lv_at hl 2 rfl) ?_
            refine lv_goto (tgt := 51) hx hb dX3_next_47 (by decide) ?_
            refine lv_istore_n (lv' := [(1, .int x2), (0, .ref (ad 4)), (2, .int x2)]) hx hb dX3_next_51 rfl hl (by decide) rfl (fun ls hl => ?_)
            obtain ⟨x_37, ex_37⟩ : ∃ y : Int32, y = x2 + 1 := ⟨_, rfl⟩
            have hw := hw x_37 ex_37
            refine lv_iinc (v := x_37) (lv' := [(2, .int x_37), (1, .int x2), (0, .ref (ad 4))]) hx hb dX3_next_52 hl (k := 2) rfl (by rw [ex_37]; rfl) (by decide) rfl (fun ls hl => ?_)
            refine lv_goto (tgt := 9) hx hb dX3_next_55 (by decide) ?_
            exact ih x2 x_37 g_33 hw _ _ _ hG (lv_sub hl [2, 1, 0] rfl)
def wp_X3_next (post : Int32 → gS → Prop)  (g : gS) : Prop := ∀ g_1 : gS, g_1 = gi g 4 0 (0 : Int32) → (∃ n, wpl_X3_next_9 post n (-1) 0 g_1)
set_option maxHeartbeats 4000000 in
set_option maxRecDepth 100000 in
theorem m_X3_next {l : Launch} (hl9 : l.stackTraces = false) (D : va_G) (K : Nat → ClassId) (sa ad : Nat → Nat) (sz : Nat) (post : Int32 → gS → Prop)  (g : gS) (hw : wp_X3_next post  g) : Met l yX3_next wsX3_next ({ frames := 1, cells := 0, slots := 0, locals := 22 } : Room) (gPc D K sa ad sz g [.ref (ad 4)]) (va_Qi post (gB D K ad (va_A (gw K ad g) sz)) (va_A (gw K ad g) sz)) 0 0 (va_A (gw K ad g) sz) := by
  refine Met.ofW (cc := cX3_next) (maxL := 4) (ret := (some .boolean)) (by decide) rfl ?_
  intro p e s m args below meth c s₁ B hml hv
  obtain ⟨rfl, hsz, hP, hE, hD0⟩ := hv
  have hx := B.exec
  have hb := B.bytes
  have hr := B.returns
  have hts := atoms_spec (ws := wsX3_next) B.pre
  have hq : ∀ w ∈ gW, w.before _ s = true := fun w h => hts w (List.mem_cons_of_mem _ h)
  have hown : s.vm.findClass RX3 = some m.cls := findClass_of_methodNamed B.named
  have hlocks := B.notSynchronized
  subst hsz
  have hD := hD0.self (sz := s.heap.size)
  generalize hAe : va_A (gw K ad g) s.heap.size = A at hD hE ⊢
  have hA : ∀ q : Nat, s.heap.size ≤ q → A q := fun q h => by rw [← hAe]; exact Or.inr h
  have hK := hE.1
  have hG : gX D K ad A s.heap g s.heap [] := ⟨hP, hD, va_S.rf⟩
  have hl := lv_entry ([.ref (ad 4)]) (n := 4) (Nat.le_of_ble_eq_true rfl)
  rw [lg_entry_eq]
  generalize (lg_sl ([.ref (ad 4)]) ++ List.replicate (4 - (lg_sl ([.ref (ad 4)])).length) Slot.unset).toArray = ls at hl ⊢
  have hl : lv_has ls 4 [(0, .ref (ad 4))] := hl
  dsimp only [wp_X3_next] at hw
  refine lv_aload_n hx hb dX3_next_0 rfl (lv_at hl 0 rfl) ?_
  refine lv_iconst (v := 0) hx hb dX3_next_1 (by decide) ?_
  refine g_put (own := RX3) (C := RX3) (T := TX3) (N := 19) (ci := 3) hx hb hq hin_X3 tyX3 tyX3_ok nmX3 hown hK hG (k := 4) (gok_lo (by decide)) (gc_M) rfl 0 (by decide) (hq _ q_413) rfl rfl (ty := .int) (v := .int 0) (by decide +kernel) rfl rfl (Nat.le_of_ble_eq_true rfl) (gi g 4 0 (0 : Int32)) (gs_M0) (gho_lo (by decide)) dX3_next_2 (fun H locs hG => ?_)
  obtain ⟨g_1, eg_1⟩ : ∃ z, z = gi g 4 0 (0 : Int32) := ⟨_, rfl⟩
  rw [← eg_1] at hG
  have hw := hw g_1 eg_1
  refine lv_iconst (v := (-1)) hx hb dX3_next_5 (by decide) ?_
  refine lv_istore_n (lv' := [(1, .int (-1)), (0, .ref (ad 4))]) hx hb dX3_next_6 rfl hl (by decide) rfl (fun ls hl => ?_)
  refine lv_iconst (v := 0) hx hb dX3_next_7 (by decide) ?_
  refine lv_istore_n (lv' := [(2, .int 0), (1, .int (-1)), (0, .ref (ad 4))]) hx hb dX3_next_8 rfl hl (by decide) rfl (fun ls hl => ?_)
  obtain ⟨n_38, hw⟩ := hw
  exact L_X3_next_9 post hl9 hx hb hr hml hown hts hlocks hA hE n_38 (-1) 0 g_1 hw _ _ _ hG (lv_sub hl [2, 1, 0] rfl)

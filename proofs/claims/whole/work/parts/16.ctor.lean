
/-! constructors: any world ws, the object at place p of it -/
theorem sp_lt {ws : va_W} {p : Nat} {y : Nat × va_E} (h : ws[p]? = some y) : p < ws.length := (List.getElem?_eq_some_iff.mp h).1
theorem sp_get {ws B : va_W} {p : Nat} {x y : Nat × va_E} (h : ws[p]? = some y) : (ws.set p x ++ B)[p]? = some x := by
  have hp := sp_lt h
  rw [List.getElem?_append_left (by simpa using hp), List.getElem?_set_self hp]
theorem sp_set {ws B : va_W} {p : Nat} {x y z : Nat × va_E} (h : ws[p]? = some y) : (ws.set p x ++ B).set p z = ws.set p z ++ B := by
  have hp := sp_lt h
  rw [List.set_append_left _ _ (by simpa using hp), List.set_set]
theorem sp_0 {ws : va_W} {p : Nat} {x : Nat × va_E} (h : ws[p]? = some x) : ws = ws.set p x ++ [] := by
  have hp := sp_lt h
  rw [List.append_nil]
  apply List.ext_getElem?
  intro i
  by_cases e : p = i
  · subst e
    rw [List.getElem?_set_self hp, h]
  · rw [List.getElem?_set_ne e]
/-- two numbers of one array class are one -/
theorem gK_one {D : va_G} {tys : List (ClassId × FieldType)} {s : State} {i j : Nat} {a b : ClassId} {ty : FieldType} (hK : va_K D vwCl tys s) (h1 : tys[i]? = some (a, ty)) (h2 : tys[j]? = some (b, ty)) : a = b := by
  have e1 := (hK.2 i _ h1).2
  have e2 := (hK.2 j _ h2).2
  cases ty with
  | object C =>
    obtain ⟨k1, c1, -, -, -, f1⟩ := e1
    obtain ⟨k2, c2, -, -, -, f2⟩ := e2
    exact Option.some.inj (f1.symm.trans f2)
  | _ => exact Option.some.inj (Eq.trans (Eq.symm e1) e2)
abbrev at_X0_init (D : va_G) (K : Nat → ClassId) (A : Nat → Prop) (ws : va_W) (p0 h0 : Nat) (u : Unit) (t : State) : Prop := va_P D vwCl (ws.set p0 (h0, .inr (0, [.int 0, .int 0, .int 0, .int 0, .int 0, .int 0, .int 0, .int 0, .int 0])) ++ []) t.heap ∧ va_D A (ws.set p0 (h0, .inr (0, [.int 0, .int 0, .int 0, .int 0, .int 0, .int 0, .int 0, .int 0, .int 0])) ++ [])
set_option maxHeartbeats 4000000 in
set_option maxRecDepth 100000 in
theorem c_X0_init (l : Launch) (D : va_G) (K : Nat → ClassId) (ws : va_W) (p0 h0 sz : Nat) (he : ws[p0]? = some (h0, .inr (0, [.int 0, .int 0, .int 0, .int 0, .int 0, .int 0, .int 0, .int 0, .int 0]))) : Met l yX0_init wsX0_init ({ frames := 1, cells := 0, slots := 0, locals := 12 } : Room) (va_Pc [.ref h0] (fun U => U.heap.size = sz ∧ va_P D vwCl ws U.heap ∧ va_K D vwCl (gtys K) U ∧ va_D (fun _ => True) ws)) (va_Qv (fun _ : Unit => True) (at_X0_init D K (va_A ws sz) ws p0 h0) (va_A ws sz)) 0 0 (va_A ws sz) := by
  refine Met.ofW (cc := cX0_init) (maxL := 1) (ret := none) (by decide) rfl ?_
  intro p e s m args below meth c s₁ B hml hv
  obtain ⟨rfl, hsz, hP, hK, hD0⟩ := hv
  have hx := B.exec
  have hb := B.bytes
  have hr := B.returns
  have hts := atoms_spec (ws := wsX0_init) B.pre
  have hq : ∀ w ∈ gW, w.before _ s = true := fun w h => hts w (List.mem_cons_of_mem _ h)
  have hown : s.vm.findClass RX0 = some m.cls := findClass_of_methodNamed B.named
  have hlocks := B.notSynchronized
  have hin : meth.name = "<init>" := (name_of_methodNamed B.named B.method).1
  subst hsz
  have hD := hD0.self (sz := s.heap.size)
  generalize hAe : va_A ws s.heap.size = A at hD ⊢
  have hA : ∀ q : Nat, s.heap.size ≤ q → A q := fun q h => by rw [← hAe]; exact Or.inr h
  have hS : va_S A s.heap s.heap [] := va_S.rf
  have hP : va_P D vwCl (ws.set p0 (h0, .inr (0, [.int 0, .int 0, .int 0, .int 0, .int 0, .int 0, .int 0, .int 0, .int 0])) ++ []) s.heap := by rw [← sp_0 he]; exact hP
  have hD : va_D A (ws.set p0 (h0, .inr (0, [.int 0, .int 0, .int 0, .int 0, .int 0, .int 0, .int 0, .int 0, .int 0])) ++ []) := by rw [← sp_0 he]; exact hD
  have hl := lv_entry ([.ref h0]) (n := 1) (Nat.le_of_ble_eq_true rfl)
  rw [lg_entry_eq]
  generalize (lg_sl ([.ref h0]) ++ List.replicate (1 - (lg_sl ([.ref h0])).length) Slot.unset).toArray = ls at hl ⊢
  have hl : lv_has ls 1 [(0, .ref h0)] := hl
  refine lv_aload_n hx hb dX0_init_0 rfl (lv_at hl 0 rfl) ?_
  refine W.objInit hx hb hown (hq _ q_47) (hq _ q_37) (hq _ q_38) rfl (by rw [hml]; exact hl.1) rfl dX0_init_1 (Nat.le_of_ble_eq_true rfl) (Nat.le_of_ble_eq_true rfl) ?_
  refine W.eq (g2 := F0 m 4 ls []) rfl ?_
  refine lv_aload_n hx hb dX0_init_4 rfl (lv_at hl 0 rfl) ?_
  refine lv_iconst (v := 0) hx hb dX0_init_5 (by decide) ?_
  refine va_put (D := D) (ci := 0) (v := .int 0) (ty := .int) (C := RX0) (T := TX0) (N := 9) hx hb hq hin_X0 tyX0 tyX0_ok nmX0 hown hK hP hD hS p0 (sp_get he) rfl 0 (by decide) (hq _ q_48) (fun _ h9 => h9) rfl (by decide +kernel) rfl rfl (Nat.le_of_ble_eq_true rfl) dX0_init_6 (fun H locs hP hD hS => ?_)
  rw [sp_set he] at hP hD
  have hP : va_P D vwCl (ws.set p0 (h0, .inr (0, [.int 0, .int 0, .int 0, .int 0, .int 0, .int 0, .int 0, .int 0, .int 0])) ++ []) H := hP
  have hD : va_D A (ws.set p0 (h0, .inr (0, [.int 0, .int 0, .int 0, .int 0, .int 0, .int 0, .int 0, .int 0, .int 0])) ++ []) := hD
  refine lv_aload_n hx hb dX0_init_9 rfl (lv_at hl 0 rfl) ?_
  refine lv_iconst (v := 0) hx hb dX0_init_10 (by decide) ?_
  refine va_put (D := D) (ci := 0) (v := .int 0) (ty := .int) (C := RX0) (T := TX0) (N := 9) hx hb hq hin_X0 tyX0 tyX0_ok nmX0 hown hK hP hD hS p0 (sp_get he) rfl 1 (by decide) (hq _ q_50) (fun _ h9 => h9) rfl (by decide +kernel) rfl rfl (Nat.le_of_ble_eq_true rfl) dX0_init_11 (fun H locs hP hD hS => ?_)
  rw [sp_set he] at hP hD
  have hP : va_P D vwCl (ws.set p0 (h0, .inr (0, [.int 0, .int 0, .int 0, .int 0, .int 0, .int 0, .int 0, .int 0, .int 0])) ++ []) H := hP
  have hD : va_D A (ws.set p0 (h0, .inr (0, [.int 0, .int 0, .int 0, .int 0, .int 0, .int 0, .int 0, .int 0, .int 0])) ++ []) := hD
  refine lv_aload_n hx hb dX0_init_14 rfl (lv_at hl 0 rfl) ?_
  refine lv_iconst (v := 0) hx hb dX0_init_15 (by decide) ?_
  refine va_put (D := D) (ci := 0) (v := .int 0) (ty := .int) (C := RX0) (T := TX0) (N := 9) hx hb hq hin_X0 tyX0 tyX0_ok nmX0 hown hK hP hD hS p0 (sp_get he) rfl 2 (by decide) (hq _ q_52) (fun _ h9 => h9) rfl (by decide +kernel) rfl rfl (Nat.le_of_ble_eq_true rfl) dX0_init_16 (fun H locs hP hD hS => ?_)
  rw [sp_set he] at hP hD
  have hP : va_P D vwCl (ws.set p0 (h0, .inr (0, [.int 0, .int 0, .int 0, .int 0, .int 0, .int 0, .int 0, .int 0, .int 0])) ++ []) H := hP
  have hD : va_D A (ws.set p0 (h0, .inr (0, [.int 0, .int 0, .int 0, .int 0, .int 0, .int 0, .int 0, .int 0, .int 0])) ++ []) := hD
  refine lv_aload_n hx hb dX0_init_19 rfl (lv_at hl 0 rfl) ?_
  refine lv_iconst (v := 0) hx hb dX0_init_20 (by decide) ?_
  refine va_put (D := D) (ci := 0) (v := .int 0) (ty := .int) (C := RX0) (T := TX0) (N := 9) hx hb hq hin_X0 tyX0 tyX0_ok nmX0 hown hK hP hD hS p0 (sp_get he) rfl 3 (by decide) (hq _ q_54) (fun _ h9 => h9) rfl (by decide +kernel) rfl rfl (Nat.le_of_ble_eq_true rfl) dX0_init_21 (fun H locs hP hD hS => ?_)
  rw [sp_set he] at hP hD
  have hP : va_P D vwCl (ws.set p0 (h0, .inr (0, [.int 0, .int 0, .int 0, .int 0, .int 0, .int 0, .int 0, .int 0, .int 0])) ++ []) H := hP
  have hD : va_D A (ws.set p0 (h0, .inr (0, [.int 0, .int 0, .int 0, .int 0, .int 0, .int 0, .int 0, .int 0, .int 0])) ++ []) := hD
  refine lv_aload_n hx hb dX0_init_24 rfl (lv_at hl 0 rfl) ?_
  refine lv_iconst (v := 0) hx hb dX0_init_25 (by decide) ?_
  refine va_put (D := D) (ci := 0) (v := .int 0) (ty := .int) (C := RX0) (T := TX0) (N := 9) hx hb hq hin_X0 tyX0 tyX0_ok nmX0 hown hK hP hD hS p0 (sp_get he) rfl 4 (by decide) (hq _ q_56) (fun _ h9 => h9) rfl (by decide +kernel) rfl rfl (Nat.le_of_ble_eq_true rfl) dX0_init_26 (fun H locs hP hD hS => ?_)
  rw [sp_set he] at hP hD
  have hP : va_P D vwCl (ws.set p0 (h0, .inr (0, [.int 0, .int 0, .int 0, .int 0, .int 0, .int 0, .int 0, .int 0, .int 0])) ++ []) H := hP
  have hD : va_D A (ws.set p0 (h0, .inr (0, [.int 0, .int 0, .int 0, .int 0, .int 0, .int 0, .int 0, .int 0, .int 0])) ++ []) := hD
  refine lv_aload_n hx hb dX0_init_29 rfl (lv_at hl 0 rfl) ?_
  refine lv_iconst (v := 0) hx hb dX0_init_30 (by decide) ?_
  refine va_put (D := D) (ci := 0) (v := .int 0) (ty := .int) (C := RX0) (T := TX0) (N := 9) hx hb hq hin_X0 tyX0 tyX0_ok nmX0 hown hK hP hD hS p0 (sp_get he) rfl 5 (by decide) (hq _ q_58) (fun _ h9 => h9) rfl (by decide +kernel) rfl rfl (Nat.le_of_ble_eq_true rfl) dX0_init_31 (fun H locs hP hD hS => ?_)
  rw [sp_set he] at hP hD
  have hP : va_P D vwCl (ws.set p0 (h0, .inr (0, [.int 0, .int 0, .int 0, .int 0, .int 0, .int 0, .int 0, .int 0, .int 0])) ++ []) H := hP
  have hD : va_D A (ws.set p0 (h0, .inr (0, [.int 0, .int 0, .int 0, .int 0, .int 0, .int 0, .int 0, .int 0, .int 0])) ++ []) := hD
  refine lv_aload_n hx hb dX0_init_34 rfl (lv_at hl 0 rfl) ?_
  refine lv_iconst (v := 0) hx hb dX0_init_35 (by decide) ?_
  refine va_put (D := D) (ci := 0) (v := .int 0) (ty := .int) (C := RX0) (T := TX0) (N := 9) hx hb hq hin_X0 tyX0 tyX0_ok nmX0 hown hK hP hD hS p0 (sp_get he) rfl 6 (by decide) (hq _ q_60) (fun _ h9 => h9) rfl (by decide +kernel) rfl rfl (Nat.le_of_ble_eq_true rfl) dX0_init_36 (fun H locs hP hD hS => ?_)
  rw [sp_set he] at hP hD
  have hP : va_P D vwCl (ws.set p0 (h0, .inr (0, [.int 0, .int 0, .int 0, .int 0, .int 0, .int 0, .int 0, .int 0, .int 0])) ++ []) H := hP
  have hD : va_D A (ws.set p0 (h0, .inr (0, [.int 0, .int 0, .int 0, .int 0, .int 0, .int 0, .int 0, .int 0, .int 0])) ++ []) := hD
  refine lv_aload_n hx hb dX0_init_39 rfl (lv_at hl 0 rfl) ?_
  refine lv_iconst (v := 0) hx hb dX0_init_40 (by decide) ?_
  refine va_put (D := D) (ci := 0) (v := .int 0) (ty := .int) (C := RX0) (T := TX0) (N := 9) hx hb hq hin_X0 tyX0 tyX0_ok nmX0 hown hK hP hD hS p0 (sp_get he) rfl 7 (by decide) (hq _ q_62) (fun _ h9 => h9) rfl (by decide +kernel) rfl rfl (Nat.le_of_ble_eq_true rfl) dX0_init_41 (fun H locs hP hD hS => ?_)
  rw [sp_set he] at hP hD
  have hP : va_P D vwCl (ws.set p0 (h0, .inr (0, [.int 0, .int 0, .int 0, .int 0, .int 0, .int 0, .int 0, .int 0, .int 0])) ++ []) H := hP
  have hD : va_D A (ws.set p0 (h0, .inr (0, [.int 0, .int 0, .int 0, .int 0, .int 0, .int 0, .int 0, .int 0, .int 0])) ++ []) := hD
  refine lv_aload_n hx hb dX0_init_44 rfl (lv_at hl 0 rfl) ?_
  refine lv_iconst (v := 0) hx hb dX0_init_45 (by decide) ?_
  refine va_put (D := D) (ci := 0) (v := .int 0) (ty := .int) (C := RX0) (T := TX0) (N := 9) hx hb hq hin_X0 tyX0 tyX0_ok nmX0 hown hK hP hD hS p0 (sp_get he) rfl 8 (by decide) (hq _ q_64) (fun _ h9 => h9) rfl (by decide +kernel) rfl rfl (Nat.le_of_ble_eq_true rfl) dX0_init_46 (fun H locs hP hD hS => ?_)
  rw [sp_set he] at hP hD
  have hP : va_P D vwCl (ws.set p0 (h0, .inr (0, [.int 0, .int 0, .int 0, .int 0, .int 0, .int 0, .int 0, .int 0, .int 0])) ++ []) H := hP
  have hD : va_D A (ws.set p0 (h0, .inr (0, [.int 0, .int 0, .int 0, .int 0, .int 0, .int 0, .int 0, .int 0, .int 0])) ++ []) := hD
  exact W.vret hx hb hr (fun t ht hW => ⟨⟨(), rfl, trivial, by rw [ht]; exact hP, hD⟩, hS.F ht⟩) hS.2.2 dX0_init_49 hlocks
abbrev at_X1_init (D : va_G) (K : Nat → ClassId) (A : Nat → Prop) (ws : va_W) (p0 h0 : Nat) (u : Nat) (t : State) : Prop := va_P D vwCl (ws.set p0 (h0, .inr (1, [.int 0, .int 0, .int 0, .int 0, .ref u, .int 0, .int 0])) ++ [(u, .inl (K 0, 64, .inl (fun _ => 0)))]) t.heap ∧ va_D A (ws.set p0 (h0, .inr (1, [.int 0, .int 0, .int 0, .int 0, .ref u, .int 0, .int 0])) ++ [(u, .inl (K 0, 64, .inl (fun _ => 0)))])
set_option maxHeartbeats 4000000 in
set_option maxRecDepth 100000 in
theorem c_X1_init (l : Launch) (D : va_G) (K : Nat → ClassId) (ws : va_W) (p0 h0 sz : Nat) (he : ws[p0]? = some (h0, .inr (1, [.int 0, .int 0, .int 0, .int 0, .null, .int 0, .int 0]))) : Met l yX1_init wsX1_init ({ frames := 1, cells := 1, slots := 64, locals := 12 } : Room) (va_Pc [.ref h0] (fun U => U.heap.size = sz ∧ va_P D vwCl ws U.heap ∧ va_K D vwCl (gtys K) U ∧ va_D (fun _ => True) ws)) (va_Qv (fun _ : Nat => True) (at_X1_init D K (va_A ws sz) ws p0 h0) (va_A ws sz)) 1 64 (va_A ws sz) := by
  refine Met.ofW (cc := cX1_init) (maxL := 1) (ret := none) (by decide) rfl ?_
  intro p e s m args below meth c s₁ B hml hv
  obtain ⟨rfl, hsz, hP, hK, hD0⟩ := hv
  have hx := B.exec
  have hb := B.bytes
  have hr := B.returns
  have hts := atoms_spec (ws := wsX1_init) B.pre
  have hq : ∀ w ∈ gW, w.before _ s = true := fun w h => hts w (List.mem_cons_of_mem _ h)
  have hown : s.vm.findClass RX1 = some m.cls := findClass_of_methodNamed B.named
  have hlocks := B.notSynchronized
  have hin : meth.name = "<init>" := (name_of_methodNamed B.named B.method).1
  subst hsz
  have hD := hD0.self (sz := s.heap.size)
  generalize hAe : va_A ws s.heap.size = A at hD ⊢
  have hA : ∀ q : Nat, s.heap.size ≤ q → A q := fun q h => by rw [← hAe]; exact Or.inr h
  have hS : va_S A s.heap s.heap [] := va_S.rf
  have hP : va_P D vwCl (ws.set p0 (h0, .inr (1, [.int 0, .int 0, .int 0, .int 0, .null, .int 0, .int 0])) ++ []) s.heap := by rw [← sp_0 he]; exact hP
  have hD : va_D A (ws.set p0 (h0, .inr (1, [.int 0, .int 0, .int 0, .int 0, .null, .int 0, .int 0])) ++ []) := by rw [← sp_0 he]; exact hD
  have hl := lv_entry ([.ref h0]) (n := 1) (Nat.le_of_ble_eq_true rfl)
  rw [lg_entry_eq]
  generalize (lg_sl ([.ref h0]) ++ List.replicate (1 - (lg_sl ([.ref h0])).length) Slot.unset).toArray = ls at hl ⊢
  have hl : lv_has ls 1 [(0, .ref h0)] := hl
  refine lv_aload_n hx hb dX1_init_0 rfl (lv_at hl 0 rfl) ?_
  refine W.objInit hx hb hown (hq _ q_89) (hq _ q_37) (hq _ q_38) rfl (by rw [hml]; exact hl.1) rfl dX1_init_1 (Nat.le_of_ble_eq_true rfl) (Nat.le_of_ble_eq_true rfl) ?_
  refine W.eq (g2 := F0 m 4 ls []) rfl ?_
  refine lv_aload_n hx hb dX1_init_4 rfl (lv_at hl 0 rfl) ?_
  refine lv_iconst (v := 0) hx hb dX1_init_5 (by decide) ?_
  refine va_put (D := D) (ci := 1) (v := .int 0) (ty := .int) (C := RX1) (T := TX1) (N := 7) hx hb hq hin_X1 tyX1 tyX1_ok nmX1 hown hK hP hD hS p0 (sp_get he) rfl 0 (by decide) (hq _ q_90) (fun _ h9 => h9) rfl (by decide +kernel) rfl rfl (Nat.le_of_ble_eq_true rfl) dX1_init_6 (fun H locs hP hD hS => ?_)
  rw [sp_set he] at hP hD
  have hP : va_P D vwCl (ws.set p0 (h0, .inr (1, [.int 0, .int 0, .int 0, .int 0, .null, .int 0, .int 0])) ++ []) H := hP
  have hD : va_D A (ws.set p0 (h0, .inr (1, [.int 0, .int 0, .int 0, .int 0, .null, .int 0, .int 0])) ++ []) := hD
  refine lv_aload_n hx hb dX1_init_9 rfl (lv_at hl 0 rfl) ?_
  refine lv_iconst (v := 0) hx hb dX1_init_10 (by decide) ?_
  refine va_put (D := D) (ci := 1) (v := .int 0) (ty := .int) (C := RX1) (T := TX1) (N := 7) hx hb hq hin_X1 tyX1 tyX1_ok nmX1 hown hK hP hD hS p0 (sp_get he) rfl 1 (by decide) (hq _ q_92) (fun _ h9 => h9) rfl (by decide +kernel) rfl rfl (Nat.le_of_ble_eq_true rfl) dX1_init_11 (fun H locs hP hD hS => ?_)
  rw [sp_set he] at hP hD
  have hP : va_P D vwCl (ws.set p0 (h0, .inr (1, [.int 0, .int 0, .int 0, .int 0, .null, .int 0, .int 0])) ++ []) H := hP
  have hD : va_D A (ws.set p0 (h0, .inr (1, [.int 0, .int 0, .int 0, .int 0, .null, .int 0, .int 0])) ++ []) := hD
  refine lv_aload_n hx hb dX1_init_14 rfl (lv_at hl 0 rfl) ?_
  refine lv_iconst (v := 0) hx hb dX1_init_15 (by decide) ?_
  refine va_put (D := D) (ci := 1) (v := .int 0) (ty := .boolean) (C := RX1) (T := TX1) (N := 7) hx hb hq hin_X1 tyX1 tyX1_ok nmX1 hown hK hP hD hS p0 (sp_get he) rfl 2 (by decide) (hq _ q_94) (fun _ h9 => h9) rfl (by decide +kernel) (by decide) (by decide) (Nat.le_of_ble_eq_true rfl) dX1_init_16 (fun H locs hP hD hS => ?_)
  rw [sp_set he] at hP hD
  have hP : va_P D vwCl (ws.set p0 (h0, .inr (1, [.int 0, .int 0, .int 0, .int 0, .null, .int 0, .int 0])) ++ []) H := hP
  have hD : va_D A (ws.set p0 (h0, .inr (1, [.int 0, .int 0, .int 0, .int 0, .null, .int 0, .int 0])) ++ []) := hD
  refine lv_aload_n hx hb dX1_init_19 rfl (lv_at hl 0 rfl) ?_
  refine lv_iconst (v := 0) hx hb dX1_init_20 (by decide) ?_
  refine va_put (D := D) (ci := 1) (v := .int 0) (ty := .int) (C := RX1) (T := TX1) (N := 7) hx hb hq hin_X1 tyX1 tyX1_ok nmX1 hown hK hP hD hS p0 (sp_get he) rfl 3 (by decide) (hq _ q_96) (fun _ h9 => h9) rfl (by decide +kernel) rfl rfl (Nat.le_of_ble_eq_true rfl) dX1_init_21 (fun H locs hP hD hS => ?_)
  rw [sp_set he] at hP hD
  have hP : va_P D vwCl (ws.set p0 (h0, .inr (1, [.int 0, .int 0, .int 0, .int 0, .null, .int 0, .int 0])) ++ []) H := hP
  have hD : va_D A (ws.set p0 (h0, .inr (1, [.int 0, .int 0, .int 0, .int 0, .null, .int 0, .int 0])) ++ []) := hD
  refine lv_aload_n hx hb dX1_init_24 rfl (lv_at hl 0 rfl) ?_
  refine lv_bipush (v := 64) hx hb dX1_init_25 (by decide) ?_
  refine va_newa (atype := .byte) hx hb (hq _ q_117) (ty := .byte) rfl hK hP hD hS hA (n := 64) (N' := 64) (a0 := (64, .inl (fun _ => 0))) (fun cA => rfl) (by decide) (by decide) (by decide) (by show _ ≤ 1; omega) (by show _ ≤ 64; omega) dX1_init_27 (fun a0 cA H hK7 hP hD hS => ?_)
  cases (gK_one (i := 6) (j := 0) hK7 rfl rfl : cA = K 0)
  rw [List.append_assoc] at hP hD
  have hP : va_P D vwCl (ws.set p0 (h0, .inr (1, [.int 0, .int 0, .int 0, .int 0, .null, .int 0, .int 0])) ++ [(a0, .inl (K 0, 64, .inl (fun _ => 0)))]) H := hP
  have hD : va_D A (ws.set p0 (h0, .inr (1, [.int 0, .int 0, .int 0, .int 0, .null, .int 0, .int 0])) ++ [(a0, .inl (K 0, 64, .inl (fun _ => 0)))]) := hD
  refine W.widen (k := 1) (n := 64) (by omega) (by omega) ?_
  refine va_putF (D := D) (ci := 1) (v := .ref a0) (ty := .array .byte) (C := RX1) (T := TX1) (N := 7) hx hb hq hin_X1 tyX1 tyX1_ok nmX1 hown hK hP hD hS p0 (sp_get he) rfl 4 (by decide) (hq _ q_98) (fun _ h9 => h9) rfl hin rfl (by decide +kernel) rfl rfl (Nat.le_of_ble_eq_true rfl) dX1_init_29 (fun H locs hP hD hS => ?_)
  rw [sp_set he] at hP hD
  have hP : va_P D vwCl (ws.set p0 (h0, .inr (1, [.int 0, .int 0, .int 0, .int 0, .ref a0, .int 0, .int 0])) ++ [(a0, .inl (K 0, 64, .inl (fun _ => 0)))]) H := hP
  have hD : va_D A (ws.set p0 (h0, .inr (1, [.int 0, .int 0, .int 0, .int 0, .ref a0, .int 0, .int 0])) ++ [(a0, .inl (K 0, 64, .inl (fun _ => 0)))]) := hD
  refine lv_aload_n hx hb dX1_init_32 rfl (lv_at hl 0 rfl) ?_
  refine lv_iconst (v := 0) hx hb dX1_init_33 (by decide) ?_
  refine va_put (D := D) (ci := 1) (v := .int 0) (ty := .int) (C := RX1) (T := TX1) (N := 7) hx hb hq hin_X1 tyX1 tyX1_ok nmX1 hown hK hP hD hS p0 (sp_get he) rfl 5 (by decide) (hq _ q_99) (fun _ h9 => h9) rfl (by decide +kernel) rfl rfl (Nat.le_of_ble_eq_true rfl) dX1_init_34 (fun H locs hP hD hS => ?_)
  rw [sp_set he] at hP hD
  have hP : va_P D vwCl (ws.set p0 (h0, .inr (1, [.int 0, .int 0, .int 0, .int 0, .ref a0, .int 0, .int 0])) ++ [(a0, .inl (K 0, 64, .inl (fun _ => 0)))]) H := hP
  have hD : va_D A (ws.set p0 (h0, .inr (1, [.int 0, .int 0, .int 0, .int 0, .ref a0, .int 0, .int 0])) ++ [(a0, .inl (K 0, 64, .inl (fun _ => 0)))]) := hD
  refine lv_aload_n hx hb dX1_init_37 rfl (lv_at hl 0 rfl) ?_
  refine lv_iconst (v := 0) hx hb dX1_init_38 (by decide) ?_
  refine va_put (D := D) (ci := 1) (v := .int 0) (ty := .int) (C := RX1) (T := TX1) (N := 7) hx hb hq hin_X1 tyX1 tyX1_ok nmX1 hown hK hP hD hS p0 (sp_get he) rfl 6 (by decide) (hq _ q_100) (fun _ h9 => h9) rfl (by decide +kernel) rfl rfl (Nat.le_of_ble_eq_true rfl) dX1_init_39 (fun H locs hP hD hS => ?_)
  rw [sp_set he] at hP hD
  have hP : va_P D vwCl (ws.set p0 (h0, .inr (1, [.int 0, .int 0, .int 0, .int 0, .ref a0, .int 0, .int 0])) ++ [(a0, .inl (K 0, 64, .inl (fun _ => 0)))]) H := hP
  have hD : va_D A (ws.set p0 (h0, .inr (1, [.int 0, .int 0, .int 0, .int 0, .ref a0, .int 0, .int 0])) ++ [(a0, .inl (K 0, 64, .inl (fun _ => 0)))]) := hD
  exact W.vret hx hb hr (fun t ht hW => ⟨⟨a0, rfl, trivial, by rw [ht]; exact hP, hD⟩, hS.F ht⟩) hS.2.2 dX1_init_42 hlocks
abbrev at_X3_init (D : va_G) (K : Nat → ClassId) (A : Nat → Prop) (ws : va_W) (p0 h0 : Nat) (u : Nat × Nat × Nat × Nat × Nat × Nat × Nat × Nat × Nat × Nat × Nat × Nat × Nat) (t : State) : Prop := va_P D vwCl (ws.set p0 (h0, .inr (3, [.int 0, .int 0, .int 0, .ref u.1, .ref u.2.1, .ref u.2.2.1, .ref u.2.2.2.1, .ref u.2.2.2.2.1, .ref u.2.2.2.2.2.1, .int 0, .ref u.2.2.2.2.2.2.1, .int 0, .ref u.2.2.2.2.2.2.2.1, .ref u.2.2.2.2.2.2.2.2.1, .ref u.2.2.2.2.2.2.2.2.2.1, .ref u.2.2.2.2.2.2.2.2.2.2.1, .int 0, .ref u.2.2.2.2.2.2.2.2.2.2.2.1, .ref u.2.2.2.2.2.2.2.2.2.2.2.2])) ++ [(u.1, .inl (K 3, 24, .inl (fun _ => 0))), (u.2.1, .inl (K 3, 24, .inl (fun _ => 0))), (u.2.2.1, .inl (K 4, 24, .inl (fun _ => 0))), (u.2.2.2.1, .inl (K 3, 24, .inl (fun _ => 0))), (u.2.2.2.2.1, .inl (K 3, 1536, .inl (fun _ => 0))), (u.2.2.2.2.2.1, .inl (K 3, 24, .inl (fun _ => 0))), (u.2.2.2.2.2.2.1, .inl (K 3, 1480, .inl (fun _ => 0))), (u.2.2.2.2.2.2.2.1, .inl (K 3, 512, .inl (fun _ => 0))), (u.2.2.2.2.2.2.2.2.1, .inl (K 4, 512, .inl (fun _ => 0))), (u.2.2.2.2.2.2.2.2.2.1, .inl (K 3, 4096, .inl (fun _ => 0))), (u.2.2.2.2.2.2.2.2.2.2.1, .inl (K 5, 94720, .inr (.inl (fun _ => 0)))), (u.2.2.2.2.2.2.2.2.2.2.2.1, .inl (K 3, 7, .inl (fun _ => 0))), (u.2.2.2.2.2.2.2.2.2.2.2.2, .inl (K 3, 1480, .inl (fun _ => 0)))]) t.heap ∧ va_D A (ws.set p0 (h0, .inr (3, [.int 0, .int 0, .int 0, .ref u.1, .ref u.2.1, .ref u.2.2.1, .ref u.2.2.2.1, .ref u.2.2.2.2.1, .ref u.2.2.2.2.2.1, .int 0, .ref u.2.2.2.2.2.2.1, .int 0, .ref u.2.2.2.2.2.2.2.1, .ref u.2.2.2.2.2.2.2.2.1, .ref u.2.2.2.2.2.2.2.2.2.1, .ref u.2.2.2.2.2.2.2.2.2.2.1, .int 0, .ref u.2.2.2.2.2.2.2.2.2.2.2.1, .ref u.2.2.2.2.2.2.2.2.2.2.2.2])) ++ [(u.1, .inl (K 3, 24, .inl (fun _ => 0))), (u.2.1, .inl (K 3, 24, .inl (fun _ => 0))), (u.2.2.1, .inl (K 4, 24, .inl (fun _ => 0))), (u.2.2.2.1, .inl (K 3, 24, .inl (fun _ => 0))), (u.2.2.2.2.1, .inl (K 3, 1536, .inl (fun _ => 0))), (u.2.2.2.2.2.1, .inl (K 3, 24, .inl (fun _ => 0))), (u.2.2.2.2.2.2.1, .inl (K 3, 1480, .inl (fun _ => 0))), (u.2.2.2.2.2.2.2.1, .inl (K 3, 512, .inl (fun _ => 0))), (u.2.2.2.2.2.2.2.2.1, .inl (K 4, 512, .inl (fun _ => 0))), (u.2.2.2.2.2.2.2.2.2.1, .inl (K 3, 4096, .inl (fun _ => 0))), (u.2.2.2.2.2.2.2.2.2.2.1, .inl (K 5, 94720, .inr (.inl (fun _ => 0)))), (u.2.2.2.2.2.2.2.2.2.2.2.1, .inl (K 3, 7, .inl (fun _ => 0))), (u.2.2.2.2.2.2.2.2.2.2.2.2, .inl (K 3, 1480, .inl (fun _ => 0)))])
set_option maxHeartbeats 4000000 in
set_option maxRecDepth 100000 in
theorem c_X3_init (l : Launch) (D : va_G) (K : Nat → ClassId) (ws : va_W) (p0 h0 sz : Nat) (he : ws[p0]? = some (h0, .inr (3, [.int 0, .int 0, .int 0, .null, .null, .null, .null, .null, .null, .int 0, .null, .int 0, .null, .null, .null, .null, .int 0, .null, .null]))) : Met l yX3_init wsX3_init ({ frames := 1, cells := 13, slots := 104463, locals := 12 } : Room) (va_Pc [.ref h0] (fun U => U.heap.size = sz ∧ va_P D vwCl ws U.heap ∧ va_K D vwCl (gtys K) U ∧ va_D (fun _ => True) ws)) (va_Qv (fun _ : Nat × Nat × Nat × Nat × Nat × Nat × Nat × Nat × Nat × Nat × Nat × Nat × Nat => True) (at_X3_init D K (va_A ws sz) ws p0 h0) (va_A ws sz)) 13 104463 (va_A ws sz) := by
  refine Met.ofW (cc := cX3_init) (maxL := 1) (ret := none) (by decide) rfl ?_
  intro p e s m args below meth c s₁ B hml hv
  obtain ⟨rfl, hsz, hP, hK, hD0⟩ := hv
  have hx := B.exec
  have hb := B.bytes
  have hr := B.returns
  have hts := atoms_spec (ws := wsX3_init) B.pre
  have hq : ∀ w ∈ gW, w.before _ s = true := fun w h => hts w (List.mem_cons_of_mem _ h)
  have hown : s.vm.findClass RX3 = some m.cls := findClass_of_methodNamed B.named
  have hlocks := B.notSynchronized
  have hin : meth.name = "<init>" := (name_of_methodNamed B.named B.method).1
  subst hsz
  have hD := hD0.self (sz := s.heap.size)
  generalize hAe : va_A ws s.heap.size = A at hD ⊢
  have hA : ∀ q : Nat, s.heap.size ≤ q → A q := fun q h => by rw [← hAe]; exact Or.inr h
  have hS : va_S A s.heap s.heap [] := va_S.rf
  have hP : va_P D vwCl (ws.set p0 (h0, .inr (3, [.int 0, .int 0, .int 0, .null, .null, .null, .null, .null, .null, .int 0, .null, .int 0, .null, .null, .null, .null, .int 0, .null, .null])) ++ []) s.heap := by rw [← sp_0 he]; exact hP
  have hD : va_D A (ws.set p0 (h0, .inr (3, [.int 0, .int 0, .int 0, .null, .null, .null, .null, .null, .null, .int 0, .null, .int 0, .null, .null, .null, .null, .int 0, .null, .null])) ++ []) := by rw [← sp_0 he]; exact hD
  have hl := lv_entry ([.ref h0]) (n := 1) (Nat.le_of_ble_eq_true rfl)
  rw [lg_entry_eq]
  generalize (lg_sl ([.ref h0]) ++ List.replicate (1 - (lg_sl ([.ref h0])).length) Slot.unset).toArray = ls at hl ⊢
  have hl : lv_has ls 1 [(0, .ref h0)] := hl
  refine lv_aload_n hx hb dX3_init_0 rfl (lv_at hl 0 rfl) ?_
  refine W.objInit hx hb hown (hq _ q_411) (hq _ q_37) (hq _ q_38) rfl (by rw [hml]; exact hl.1) rfl dX3_init_1 (Nat.le_of_ble_eq_true rfl) (Nat.le_of_ble_eq_true rfl) ?_
  refine W.eq (g2 := F0 m 4 ls []) rfl ?_
  refine lv_aload_n hx hb dX3_init_4 rfl (lv_at hl 0 rfl) ?_
  refine lv_bipush (v := 24) hx hb dX3_init_5 (by decide) ?_
  refine va_newa (atype := .int) hx hb (hq _ q_471) (ty := .int) rfl hK hP hD hS hA (n := 24) (N' := 24) (a0 := (24, .inl (fun _ => 0))) (fun cA => rfl) (by decide) (by decide) (by decide) (by show _ ≤ 13; omega) (by show _ ≤ 104463; omega) dX3_init_7 (fun a0 cA H hK7 hP hD hS => ?_)
  cases (gK_one (i := 6) (j := 3) hK7 rfl rfl : cA = K 3)
  rw [List.append_assoc] at hP hD
  have hP : va_P D vwCl (ws.set p0 (h0, .inr (3, [.int 0, .int 0, .int 0, .null, .null, .null, .null, .null, .null, .int 0, .null, .int 0, .null, .null, .null, .null, .int 0, .null, .null])) ++ [(a0, .inl (K 3, 24, .inl (fun _ => 0)))]) H := hP
  have hD : va_D A (ws.set p0 (h0, .inr (3, [.int 0, .int 0, .int 0, .null, .null, .null, .null, .null, .null, .int 0, .null, .int 0, .null, .null, .null, .null, .int 0, .null, .null])) ++ [(a0, .inl (K 3, 24, .inl (fun _ => 0)))]) := hD
  refine W.widen (k := 1) (n := 24) (by omega) (by omega) ?_
  refine va_putF (D := D) (ci := 3) (v := .ref a0) (ty := .array .int) (C := RX3) (T := TX3) (N := 19) hx hb hq hin_X3 tyX3 tyX3_ok nmX3 hown hK hP hD hS p0 (sp_get he) rfl 3 (by decide) (hq _ q_416) (fun _ h9 => h9) rfl hin rfl (by decide +kernel) rfl rfl (Nat.le_of_ble_eq_true rfl) dX3_init_9 (fun H locs hP hD hS => ?_)
  rw [sp_set he] at hP hD
  have hP : va_P D vwCl (ws.set p0 (h0, .inr (3, [.int 0, .int 0, .int 0, .ref a0, .null, .null, .null, .null, .null, .int 0, .null, .int 0, .null, .null, .null, .null, .int 0, .null, .null])) ++ [(a0, .inl (K 3, 24, .inl (fun _ => 0)))]) H := hP
  have hD : va_D A (ws.set p0 (h0, .inr (3, [.int 0, .int 0, .int 0, .ref a0, .null, .null, .null, .null, .null, .int 0, .null, .int 0, .null, .null, .null, .null, .int 0, .null, .null])) ++ [(a0, .inl (K 3, 24, .inl (fun _ => 0)))]) := hD
  refine lv_aload_n hx hb dX3_init_12 rfl (lv_at hl 0 rfl) ?_
  refine lv_bipush (v := 24) hx hb dX3_init_13 (by decide) ?_
  refine va_newa (atype := .int) hx hb (hq _ q_471) (ty := .int) rfl hK hP hD hS hA (n := 24) (N' := 24) (a0 := (24, .inl (fun _ => 0))) (fun cA => rfl) (by decide) (by decide) (by decide) (by show _ ≤ 13; omega) (by show _ ≤ 104463; omega) dX3_init_15 (fun a1 cA H hK7 hP hD hS => ?_)
  cases (gK_one (i := 6) (j := 3) hK7 rfl rfl : cA = K 3)
  rw [List.append_assoc] at hP hD
  have hP : va_P D vwCl (ws.set p0 (h0, .inr (3, [.int 0, .int 0, .int 0, .ref a0, .null, .null, .null, .null, .null, .int 0, .null, .int 0, .null, .null, .null, .null, .int 0, .null, .null])) ++ [(a0, .inl (K 3, 24, .inl (fun _ => 0))), (a1, .inl (K 3, 24, .inl (fun _ => 0)))]) H := hP
  have hD : va_D A (ws.set p0 (h0, .inr (3, [.int 0, .int 0, .int 0, .ref a0, .null, .null, .null, .null, .null, .int 0, .null, .int 0, .null, .null, .null, .null, .int 0, .null, .null])) ++ [(a0, .inl (K 3, 24, .inl (fun _ => 0))), (a1, .inl (K 3, 24, .inl (fun _ => 0)))]) := hD
  refine W.widen (k := 2) (n := 48) (by omega) (by omega) ?_
  refine va_putF (D := D) (ci := 3) (v := .ref a1) (ty := .array .int) (C := RX3) (T := TX3) (N := 19) hx hb hq hin_X3 tyX3 tyX3_ok nmX3 hown hK hP hD hS p0 (sp_get he) rfl 4 (by decide) (hq _ q_417) (fun _ h9 => h9) rfl hin rfl (by decide +kernel) rfl rfl (Nat.le_of_ble_eq_true rfl) dX3_init_17 (fun H locs hP hD hS => ?_)
  rw [sp_set he] at hP hD
  have hP : va_P D vwCl (ws.set p0 (h0, .inr (3, [.int 0, .int 0, .int 0, .ref a0, .ref a1, .null, .null, .null, .null, .int 0, .null, .int 0, .null, .null, .null, .null, .int 0, .null, .null])) ++ [(a0, .inl (K 3, 24, .inl (fun _ => 0))), (a1, .inl (K 3, 24, .inl (fun _ => 0)))]) H := hP
  have hD : va_D A (ws.set p0 (h0, .inr (3, [.int 0, .int 0, .int 0, .ref a0, .ref a1, .null, .null, .null, .null, .int 0, .null, .int 0, .null, .null, .null, .null, .int 0, .null, .null])) ++ [(a0, .inl (K 3, 24, .inl (fun _ => 0))), (a1, .inl (K 3, 24, .inl (fun _ => 0)))]) := hD
  refine lv_aload_n hx hb dX3_init_20 rfl (lv_at hl 0 rfl) ?_
  refine lv_bipush (v := 24) hx hb dX3_init_21 (by decide) ?_
  refine va_newa (atype := .boolean) hx hb (hq _ q_472) (ty := .boolean) rfl hK hP hD hS hA (n := 24) (N' := 24) (a0 := (24, .inl (fun _ => 0))) (fun cA => rfl) (by decide) (by decide) (by decide) (by show _ ≤ 13; omega) (by show _ ≤ 104463; omega) dX3_init_23 (fun a2 cA H hK7 hP hD hS => ?_)
  cases (gK_one (i := 6) (j := 4) hK7 rfl rfl : cA = K 4)
  rw [List.append_assoc] at hP hD
  have hP : va_P D vwCl (ws.set p0 (h0, .inr (3, [.int 0, .int 0, .int 0, .ref a0, .ref a1, .null, .null, .null, .null, .int 0, .null, .int 0, .null, .null, .null, .null, .int 0, .null, .null])) ++ [(a0, .inl (K 3, 24, .inl (fun _ => 0))), (a1, .inl (K 3, 24, .inl (fun _ => 0))), (a2, .inl (K 4, 24, .inl (fun _ => 0)))]) H := hP
  have hD : va_D A (ws.set p0 (h0, .inr (3, [.int 0, .int 0, .int 0, .ref a0, .ref a1, .null, .null, .null, .null, .int 0, .null, .int 0, .null, .null, .null, .null, .int 0, .null, .null])) ++ [(a0, .inl (K 3, 24, .inl (fun _ => 0))), (a1, .inl (K 3, 24, .inl (fun _ => 0))), (a2, .inl (K 4, 24, .inl (fun _ => 0)))]) := hD
  refine W.widen (k := 3) (n := 72) (by omega) (by omega) ?_
  refine va_putF (D := D) (ci := 3) (v := .ref a2) (ty := .array .boolean) (C := RX3) (T := TX3) (N := 19) hx hb hq hin_X3 tyX3 tyX3_ok nmX3 hown hK hP hD hS p0 (sp_get he) rfl 5 (by decide) (hq _ q_418) (fun _ h9 => h9) rfl hin rfl (by decide +kernel) rfl rfl (Nat.le_of_ble_eq_true rfl) dX3_init_25 (fun H locs hP hD hS => ?_)
  rw [sp_set he] at hP hD
  have hP : va_P D vwCl (ws.set p0 (h0, .inr (3, [.int 0, .int 0, .int 0, .ref a0, .ref a1, .ref a2, .null, .null, .null, .int 0, .null, .int 0, .null, .null, .null, .null, .int 0, .null, .null])) ++ [(a0, .inl (K 3, 24, .inl (fun _ => 0))), (a1, .inl (K 3, 24, .inl (fun _ => 0))), (a2, .inl (K 4, 24, .inl (fun _ => 0)))]) H := hP
  have hD : va_D A (ws.set p0 (h0, .inr (3, [.int 0, .int 0, .int 0, .ref a0, .ref a1, .ref a2, .null, .null, .null, .int 0, .null, .int 0, .null, .null, .null, .null, .int 0, .null, .null])) ++ [(a0, .inl (K 3, 24, .inl (fun _ => 0))), (a1, .inl (K 3, 24, .inl (fun _ => 0))), (a2, .inl (K 4, 24, .inl (fun _ => 0)))]) := hD
  refine lv_aload_n hx hb dX3_init_28 rfl (lv_at hl 0 rfl) ?_
  refine lv_bipush (v := 24) hx hb dX3_init_29 (by decide) ?_
  refine va_newa (atype := .int) hx hb (hq _ q_471) (ty := .int) rfl hK hP hD hS hA (n := 24) (N' := 24) (a0 := (24, .inl (fun _ => 0))) (fun cA => rfl) (by decide) (by decide) (by decide) (by show _ ≤ 13; omega) (by show _ ≤ 104463; omega) dX3_init_31 (fun a3 cA H hK7 hP hD hS => ?_)
  cases (gK_one (i := 6) (j := 3) hK7 rfl rfl : cA = K 3)
  rw [List.append_assoc] at hP hD
  have hP : va_P D vwCl (ws.set p0 (h0, .inr (3, [.int 0, .int 0, .int 0, .ref a0, .ref a1, .ref a2, .null, .null, .null, .int 0, .null, .int 0, .null, .null, .null, .null, .int 0, .null, .null])) ++ [(a0, .inl (K 3, 24, .inl (fun _ => 0))), (a1, .inl (K 3, 24, .inl (fun _ => 0))), (a2, .inl (K 4, 24, .inl (fun _ => 0))), (a3, .inl (K 3, 24, .inl (fun _ => 0)))]) H := hP
  have hD : va_D A (ws.set p0 (h0, .inr (3, [.int 0, .int 0, .int 0, .ref a0, .ref a1, .ref a2, .null, .null, .null, .int 0, .null, .int 0, .null, .null, .null, .null, .int 0, .null, .null])) ++ [(a0, .inl (K 3, 24, .inl (fun _ => 0))), (a1, .inl (K 3, 24, .inl (fun _ => 0))), (a2, .inl (K 4, 24, .inl (fun _ => 0))), (a3, .inl (K 3, 24, .inl (fun _ => 0)))]) := hD
  refine W.widen (k := 4) (n := 96) (by omega) (by omega) ?_
  refine va_putF (D := D) (ci := 3) (v := .ref a3) (ty := .array .int) (C := RX3) (T := TX3) (N := 19) hx hb hq hin_X3 tyX3 tyX3_ok nmX3 hown hK hP hD hS p0 (sp_get he) rfl 6 (by decide) (hq _ q_419) (fun _ h9 => h9) rfl hin rfl (by decide +kernel) rfl rfl (Nat.le_of_ble_eq_true rfl) dX3_init_33 (fun H locs hP hD hS => ?_)
  rw [sp_set he] at hP hD
  have hP : va_P D vwCl (ws.set p0 (h0, .inr (3, [.int 0, .int 0, .int 0, .ref a0, .ref a1, .ref a2, .ref a3, .null, .null, .int 0, .null, .int 0, .null, .null, .null, .null, .int 0, .null, .null])) ++ [(a0, .inl (K 3, 24, .inl (fun _ => 0))), (a1, .inl (K 3, 24, .inl (fun _ => 0))), (a2, .inl (K 4, 24, .inl (fun _ => 0))), (a3, .inl (K 3, 24, .inl (fun _ => 0)))]) H := hP
  have hD : va_D A (ws.set p0 (h0, .inr (3, [.int 0, .int 0, .int 0, .ref a0, .ref a1, .ref a2, .ref a3, .null, .null, .int 0, .null, .int 0, .null, .null, .null, .null, .int 0, .null, .null])) ++ [(a0, .inl (K 3, 24, .inl (fun _ => 0))), (a1, .inl (K 3, 24, .inl (fun _ => 0))), (a2, .inl (K 4, 24, .inl (fun _ => 0))), (a3, .inl (K 3, 24, .inl (fun _ => 0)))]) := hD
  refine lv_aload_n hx hb dX3_init_36 rfl (lv_at hl 0 rfl) ?_
  refine lv_sipush (v := 1536) hx hb dX3_init_37 (by decide) ?_
  refine va_newa (atype := .int) hx hb (hq _ q_471) (ty := .int) rfl hK hP hD hS hA (n := 1536) (N' := 1536) (a0 := (1536, .inl (fun _ => 0))) (fun cA => rfl) (by decide) (by decide) (by decide) (by show _ ≤ 13; omega) (by show _ ≤ 104463; omega) dX3_init_40 (fun a4 cA H hK7 hP hD hS => ?_)
  cases (gK_one (i := 6) (j := 3) hK7 rfl rfl : cA = K 3)
  rw [List.append_assoc] at hP hD
  have hP : va_P D vwCl (ws.set p0 (h0, .inr (3, [.int 0, .int 0, .int 0, .ref a0, .ref a1, .ref a2, .ref a3, .null, .null, .int 0, .null, .int 0, .null, .null, .null, .null, .int 0, .null, .null])) ++ [(a0, .inl (K 3, 24, .inl (fun _ => 0))), (a1, .inl (K 3, 24, .inl (fun _ => 0))), (a2, .inl (K 4, 24, .inl (fun _ => 0))), (a3, .inl (K 3, 24, .inl (fun _ => 0))), (a4, .inl (K 3, 1536, .inl (fun _ => 0)))]) H := hP
  have hD : va_D A (ws.set p0 (h0, .inr (3, [.int 0, .int 0, .int 0, .ref a0, .ref a1, .ref a2, .ref a3, .null, .null, .int 0, .null, .int 0, .null, .null, .null, .null, .int 0, .null, .null])) ++ [(a0, .inl (K 3, 24, .inl (fun _ => 0))), (a1, .inl (K 3, 24, .inl (fun _ => 0))), (a2, .inl (K 4, 24, .inl (fun _ => 0))), (a3, .inl (K 3, 24, .inl (fun _ => 0))), (a4, .inl (K 3, 1536, .inl (fun _ => 0)))]) := hD
  refine W.widen (k := 5) (n := 1632) (by omega) (by omega) ?_
  refine va_putF (D := D) (ci := 3) (v := .ref a4) (ty := .array .int) (C := RX3) (T := TX3) (N := 19) hx hb hq hin_X3 tyX3 tyX3_ok nmX3 hown hK hP hD hS p0 (sp_get he) rfl 7 (by decide) (hq _ q_420) (fun _ h9 => h9) rfl hin rfl (by decide +kernel) rfl rfl (Nat.le_of_ble_eq_true rfl) dX3_init_42 (fun H locs hP hD hS => ?_)
  rw [sp_set he] at hP hD
  have hP : va_P D vwCl (ws.set p0 (h0, .inr (3, [.int 0, .int 0, .int 0, .ref a0, .ref a1, .ref a2, .ref a3, .ref a4, .null, .int 0, .null, .int 0, .null, .null, .null, .null, .int 0, .null, .null])) ++ [(a0, .inl (K 3, 24, .inl (fun _ => 0))), (a1, .inl (K 3, 24, .inl (fun _ => 0))), (a2, .inl (K 4, 24, .inl (fun _ => 0))), (a3, .inl (K 3, 24, .inl (fun _ => 0))), (a4, .inl (K 3, 1536, .inl (fun _ => 0)))]) H := hP
  have hD : va_D A (ws.set p0 (h0, .inr (3, [.int 0, .int 0, .int 0, .ref a0, .ref a1, .ref a2, .ref a3, .ref a4, .null, .int 0, .null, .int 0, .null, .null, .null, .null, .int 0, .null, .null])) ++ [(a0, .inl (K 3, 24, .inl (fun _ => 0))), (a1, .inl (K 3, 24, .inl (fun _ => 0))), (a2, .inl (K 4, 24, .inl (fun _ => 0))), (a3, .inl (K 3, 24, .inl (fun _ => 0))), (a4, .inl (K 3, 1536, .inl (fun _ => 0)))]) := hD
  refine lv_aload_n hx hb dX3_init_45 rfl (lv_at hl 0 rfl) ?_
  refine lv_bipush (v := 24) hx hb dX3_init_46 (by decide) ?_
  refine va_newa (atype := .int) hx hb (hq _ q_471) (ty := .int) rfl hK hP hD hS hA (n := 24) (N' := 24) (a0 := (24, .inl (fun _ => 0))) (fun cA => rfl) (by decide) (by decide) (by decide) (by show _ ≤ 13; omega) (by show _ ≤ 104463; omega) dX3_init_48 (fun a5 cA H hK7 hP hD hS => ?_)
  cases (gK_one (i := 6) (j := 3) hK7 rfl rfl : cA = K 3)
  rw [List.append_assoc] at hP hD
  have hP : va_P D vwCl (ws.set p0 (h0, .inr (3, [.int 0, .int 0, .int 0, .ref a0, .ref a1, .ref a2, .ref a3, .ref a4, .null, .int 0, .null, .int 0, .null, .null, .null, .null, .int 0, .null, .null])) ++ [(a0, .inl (K 3, 24, .inl (fun _ => 0))), (a1, .inl (K 3, 24, .inl (fun _ => 0))), (a2, .inl (K 4, 24, .inl (fun _ => 0))), (a3, .inl (K 3, 24, .inl (fun _ => 0))), (a4, .inl (K 3, 1536, .inl (fun _ => 0))), (a5, .inl (K 3, 24, .inl (fun _ => 0)))]) H := hP
  have hD : va_D A (ws.set p0 (h0, .inr (3, [.int 0, .int 0, .int 0, .ref a0, .ref a1, .ref a2, .ref a3, .ref a4, .null, .int 0, .null, .int 0, .null, .null, .null, .null, .int 0, .null, .null])) ++ [(a0, .inl (K 3, 24, .inl (fun _ => 0))), (a1, .inl (K 3, 24, .inl (fun _ => 0))), (a2, .inl (K 4, 24, .inl (fun _ => 0))), (a3, .inl (K 3, 24, .inl (fun _ => 0))), (a4, .inl (K 3, 1536, .inl (fun _ => 0))), (a5, .inl (K 3, 24, .inl (fun _ => 0)))]) := hD
  refine W.widen (k := 6) (n := 1656) (by omega) (by omega) ?_
  refine va_putF (D := D) (ci := 3) (v := .ref a5) (ty := .array .int) (C := RX3) (T := TX3) (N := 19) hx hb hq hin_X3 tyX3 tyX3_ok nmX3 hown hK hP hD hS p0 (sp_get he) rfl 8 (by decide) (hq _ q_421) (fun _ h9 => h9) rfl hin rfl (by decide +kernel) rfl rfl (Nat.le_of_ble_eq_true rfl) dX3_init_50 (fun H locs hP hD hS => ?_)
  rw [sp_set he] at hP hD
  have hP : va_P D vwCl (ws.set p0 (h0, .inr (3, [.int 0, .int 0, .int 0, .ref a0, .ref a1, .ref a2, .ref a3, .ref a4, .ref a5, .int 0, .null, .int 0, .null, .null, .null, .null, .int 0, .null, .null])) ++ [(a0, .inl (K 3, 24, .inl (fun _ => 0))), (a1, .inl (K 3, 24, .inl (fun _ => 0))), (a2, .inl (K 4, 24, .inl (fun _ => 0))), (a3, .inl (K 3, 24, .inl (fun _ => 0))), (a4, .inl (K 3, 1536, .inl (fun _ => 0))), (a5, .inl (K 3, 24, .inl (fun _ => 0)))]) H := hP
  have hD : va_D A (ws.set p0 (h0, .inr (3, [.int 0, .int 0, .int 0, .ref a0, .ref a1, .ref a2, .ref a3, .ref a4, .ref a5, .int 0, .null, .int 0, .null, .null, .null, .null, .int 0, .null, .null])) ++ [(a0, .inl (K 3, 24, .inl (fun _ => 0))), (a1, .inl (K 3, 24, .inl (fun _ => 0))), (a2, .inl (K 4, 24, .inl (fun _ => 0))), (a3, .inl (K 3, 24, .inl (fun _ => 0))), (a4, .inl (K 3, 1536, .inl (fun _ => 0))), (a5, .inl (K 3, 24, .inl (fun _ => 0)))]) := hD
  refine lv_aload_n hx hb dX3_init_53 rfl (lv_at hl 0 rfl) ?_
  refine lv_sipush (v := 1480) hx hb dX3_init_54 (by decide) ?_
  refine va_newa (atype := .int) hx hb (hq _ q_471) (ty := .int) rfl hK hP hD hS hA (n := 1480) (N' := 1480) (a0 := (1480, .inl (fun _ => 0))) (fun cA => rfl) (by decide) (by decide) (by decide) (by show _ ≤ 13; omega) (by show _ ≤ 104463; omega) dX3_init_57 (fun a6 cA H hK7 hP hD hS => ?_)
  cases (gK_one (i := 6) (j := 3) hK7 rfl rfl : cA = K 3)
  rw [List.append_assoc] at hP hD
  have hP : va_P D vwCl (ws.set p0 (h0, .inr (3, [.int 0, .int 0, .int 0, .ref a0, .ref a1, .ref a2, .ref a3, .ref a4, .ref a5, .int 0, .null, .int 0, .null, .null, .null, .null, .int 0, .null, .null])) ++ [(a0, .inl (K 3, 24, .inl (fun _ => 0))), (a1, .inl (K 3, 24, .inl (fun _ => 0))), (a2, .inl (K 4, 24, .inl (fun _ => 0))), (a3, .inl (K 3, 24, .inl (fun _ => 0))), (a4, .inl (K 3, 1536, .inl (fun _ => 0))), (a5, .inl (K 3, 24, .inl (fun _ => 0))), (a6, .inl (K 3, 1480, .inl (fun _ => 0)))]) H := hP
  have hD : va_D A (ws.set p0 (h0, .inr (3, [.int 0, .int 0, .int 0, .ref a0, .ref a1, .ref a2, .ref a3, .ref a4, .ref a5, .int 0, .null, .int 0, .null, .null, .null, .null, .int 0, .null, .null])) ++ [(a0, .inl (K 3, 24, .inl (fun _ => 0))), (a1, .inl (K 3, 24, .inl (fun _ => 0))), (a2, .inl (K 4, 24, .inl (fun _ => 0))), (a3, .inl (K 3, 24, .inl (fun _ => 0))), (a4, .inl (K 3, 1536, .inl (fun _ => 0))), (a5, .inl (K 3, 24, .inl (fun _ => 0))), (a6, .inl (K 3, 1480, .inl (fun _ => 0)))]) := hD
  refine W.widen (k := 7) (n := 3136) (by omega) (by omega) ?_
  refine va_putF (D := D) (ci := 3) (v := .ref a6) (ty := .array .int) (C := RX3) (T := TX3) (N := 19) hx hb hq hin_X3 tyX3 tyX3_ok nmX3 hown hK hP hD hS p0 (sp_get he) rfl 10 (by decide) (hq _ q_423) (fun _ h9 => h9) rfl hin rfl (by decide +kernel) rfl rfl (Nat.le_of_ble_eq_true rfl) dX3_init_59 (fun H locs hP hD hS => ?_)
  rw [sp_set he] at hP hD
  have hP : va_P D vwCl (ws.set p0 (h0, .inr (3, [.int 0, .int 0, .int 0, .ref a0, .ref a1, .ref a2, .ref a3, .ref a4, .ref a5, .int 0, .ref a6, .int 0, .null, .null, .null, .null, .int 0, .null, .null])) ++ [(a0, .inl (K 3, 24, .inl (fun _ => 0))), (a1, .inl (K 3, 24, .inl (fun _ => 0))), (a2, .inl (K 4, 24, .inl (fun _ => 0))), (a3, .inl (K 3, 24, .inl (fun _ => 0))), (a4, .inl (K 3, 1536, .inl (fun _ => 0))), (a5, .inl (K 3, 24, .inl (fun _ => 0))), (a6, .inl (K 3, 1480, .inl (fun _ => 0)))]) H := hP
  have hD : va_D A (ws.set p0 (h0, .inr (3, [.int 0, .int 0, .int 0, .ref a0, .ref a1, .ref a2, .ref a3, .ref a4, .ref a5, .int 0, .ref a6, .int 0, .null, .null, .null, .null, .int 0, .null, .null])) ++ [(a0, .inl (K 3, 24, .inl (fun _ => 0))), (a1, .inl (K 3, 24, .inl (fun _ => 0))), (a2, .inl (K 4, 24, .inl (fun _ => 0))), (a3, .inl (K 3, 24, .inl (fun _ => 0))), (a4, .inl (K 3, 1536, .inl (fun _ => 0))), (a5, .inl (K 3, 24, .inl (fun _ => 0))), (a6, .inl (K 3, 1480, .inl (fun _ => 0)))]) := hD
  refine lv_aload_n hx hb dX3_init_62 rfl (lv_at hl 0 rfl) ?_
  refine lv_sipush (v := 512) hx hb dX3_init_63 (by decide) ?_
  refine va_newa (atype := .int) hx hb (hq _ q_471) (ty := .int) rfl hK hP hD hS hA (n := 512) (N' := 512) (a0 := (512, .inl (fun _ => 0))) (fun cA => rfl) (by decide) (by decide) (by decide) (by show _ ≤ 13; omega) (by show _ ≤ 104463; omega) dX3_init_66 (fun a7 cA H hK7 hP hD hS => ?_)
  cases (gK_one (i := 6) (j := 3) hK7 rfl rfl : cA = K 3)
  rw [List.append_assoc] at hP hD
  have hP : va_P D vwCl (ws.set p0 (h0, .inr (3, [.int 0, .int 0, .int 0, .ref a0, .ref a1, .ref a2, .ref a3, .ref a4, .ref a5, .int 0, .ref a6, .int 0, .null, .null, .null, .null, .int 0, .null, .null])) ++ [(a0, .inl (K 3, 24, .inl (fun _ => 0))), (a1, .inl (K 3, 24, .inl (fun _ => 0))), (a2, .inl (K 4, 24, .inl (fun _ => 0))), (a3, .inl (K 3, 24, .inl (fun _ => 0))), (a4, .inl (K 3, 1536, .inl (fun _ => 0))), (a5, .inl (K 3, 24, .inl (fun _ => 0))), (a6, .inl (K 3, 1480, .inl (fun _ => 0))), (a7, .inl (K 3, 512, .inl (fun _ => 0)))]) H := hP
  have hD : va_D A (ws.set p0 (h0, .inr (3, [.int 0, .int 0, .int 0, .ref a0, .ref a1, .ref a2, .ref a3, .ref a4, .ref a5, .int 0, .ref a6, .int 0, .null, .null, .null, .null, .int 0, .null, .null])) ++ [(a0, .inl (K 3, 24, .inl (fun _ => 0))), (a1, .inl (K 3, 24, .inl (fun _ => 0))), (a2, .inl (K 4, 24, .inl (fun _ => 0))), (a3, .inl (K 3, 24, .inl (fun _ => 0))), (a4, .inl (K 3, 1536, .inl (fun _ => 0))), (a5, .inl (K 3, 24, .inl (fun _ => 0))), (a6, .inl (K 3, 1480, .inl (fun _ => 0))), (a7, .inl (K 3, 512, .inl (fun _ => 0)))]) := hD
  refine W.widen (k := 8) (n := 3648) (by omega) (by omega) ?_
  refine va_putF (D := D) (ci := 3) (v := .ref a7) (ty := .array .int) (C := RX3) (T := TX3) (N := 19) hx hb hq hin_X3 tyX3 tyX3_ok nmX3 hown hK hP hD hS p0 (sp_get he) rfl 12 (by decide) (hq _ q_425) (fun _ h9 => h9) rfl hin rfl (by decide +kernel) rfl rfl (Nat.le_of_ble_eq_true rfl) dX3_init_68 (fun H locs hP hD hS => ?_)
  rw [sp_set he] at hP hD
  have hP : va_P D vwCl (ws.set p0 (h0, .inr (3, [.int 0, .int 0, .int 0, .ref a0, .ref a1, .ref a2, .ref a3, .ref a4, .ref a5, .int 0, .ref a6, .int 0, .ref a7, .null, .null, .null, .int 0, .null, .null])) ++ [(a0, .inl (K 3, 24, .inl (fun _ => 0))), (a1, .inl (K 3, 24, .inl (fun _ => 0))), (a2, .inl (K 4, 24, .inl (fun _ => 0))), (a3, .inl (K 3, 24, .inl (fun _ => 0))), (a4, .inl (K 3, 1536, .inl (fun _ => 0))), (a5, .inl (K 3, 24, .inl (fun _ => 0))), (a6, .inl (K 3, 1480, .inl (fun _ => 0))), (a7, .inl (K 3, 512, .inl (fun _ => 0)))]) H := hP
  have hD : va_D A (ws.set p0 (h0, .inr (3, [.int 0, .int 0, .int 0, .ref a0, .ref a1, .ref a2, .ref a3, .ref a4, .ref a5, .int 0, .ref a6, .int 0, .ref a7, .null, .null, .null, .int 0, .null, .null])) ++ [(a0, .inl (K 3, 24, .inl (fun _ => 0))), (a1, .inl (K 3, 24, .inl (fun _ => 0))), (a2, .inl (K 4, 24, .inl (fun _ => 0))), (a3, .inl (K 3, 24, .inl (fun _ => 0))), (a4, .inl (K 3, 1536, .inl (fun _ => 0))), (a5, .inl (K 3, 24, .inl (fun _ => 0))), (a6, .inl (K 3, 1480, .inl (fun _ => 0))), (a7, .inl (K 3, 512, .inl (fun _ => 0)))]) := hD
  refine lv_aload_n hx hb dX3_init_71 rfl (lv_at hl 0 rfl) ?_
  refine lv_sipush (v := 512) hx hb dX3_init_72 (by decide) ?_
  refine va_newa (atype := .boolean) hx hb (hq _ q_472) (ty := .boolean) rfl hK hP hD hS hA (n := 512) (N' := 512) (a0 := (512, .inl (fun _ => 0))) (fun cA => rfl) (by decide) (by decide) (by decide) (by show _ ≤ 13; omega) (by show _ ≤ 104463; omega) dX3_init_75 (fun a8 cA H hK7 hP hD hS => ?_)
  cases (gK_one (i := 6) (j := 4) hK7 rfl rfl : cA = K 4)
  rw [List.append_assoc] at hP hD
  have hP : va_P D vwCl (ws.set p0 (h0, .inr (3, [.int 0, .int 0, .int 0, .ref a0, .ref a1, .ref a2, .ref a3, .ref a4, .ref a5, .int 0, .ref a6, .int 0, .ref a7, .null, .null, .null, .int 0, .null, .null])) ++ [(a0, .inl (K 3, 24, .inl (fun _ => 0))), (a1, .inl (K 3, 24, .inl (fun _ => 0))), (a2, .inl (K 4, 24, .inl (fun _ => 0))), (a3, .inl (K 3, 24, .inl (fun _ => 0))), (a4, .inl (K 3, 1536, .inl (fun _ => 0))), (a5, .inl (K 3, 24, .inl (fun _ => 0))), (a6, .inl (K 3, 1480, .inl (fun _ => 0))), (a7, .inl (K 3, 512, .inl (fun _ => 0))), (a8, .inl (K 4, 512, .inl (fun _ => 0)))]) H := hP
  have hD : va_D A (ws.set p0 (h0, .inr (3, [.int 0, .int 0, .int 0, .ref a0, .ref a1, .ref a2, .ref a3, .ref a4, .ref a5, .int 0, .ref a6, .int 0, .ref a7, .null, .null, .null, .int 0, .null, .null])) ++ [(a0, .inl (K 3, 24, .inl (fun _ => 0))), (a1, .inl (K 3, 24, .inl (fun _ => 0))), (a2, .inl (K 4, 24, .inl (fun _ => 0))), (a3, .inl (K 3, 24, .inl (fun _ => 0))), (a4, .inl (K 3, 1536, .inl (fun _ => 0))), (a5, .inl (K 3, 24, .inl (fun _ => 0))), (a6, .inl (K 3, 1480, .inl (fun _ => 0))), (a7, .inl (K 3, 512, .inl (fun _ => 0))), (a8, .inl (K 4, 512, .inl (fun _ => 0)))]) := hD
  refine W.widen (k := 9) (n := 4160) (by omega) (by omega) ?_
  refine va_putF (D := D) (ci := 3) (v := .ref a8) (ty := .array .boolean) (C := RX3) (T := TX3) (N := 19) hx hb hq hin_X3 tyX3 tyX3_ok nmX3 hown hK hP hD hS p0 (sp_get he) rfl 13 (by decide) (hq _ q_426) (fun _ h9 => h9) rfl hin rfl (by decide +kernel) rfl rfl (Nat.le_of_ble_eq_true rfl) dX3_init_77 (fun H locs hP hD hS => ?_)
  rw [sp_set he] at hP hD
  have hP : va_P D vwCl (ws.set p0 (h0, .inr (3, [.int 0, .int 0, .int 0, .ref a0, .ref a1, .ref a2, .ref a3, .ref a4, .ref a5, .int 0, .ref a6, .int 0, .ref a7, .ref a8, .null, .null, .int 0, .null, .null])) ++ [(a0, .inl (K 3, 24, .inl (fun _ => 0))), (a1, .inl (K 3, 24, .inl (fun _ => 0))), (a2, .inl (K 4, 24, .inl (fun _ => 0))), (a3, .inl (K 3, 24, .inl (fun _ => 0))), (a4, .inl (K 3, 1536, .inl (fun _ => 0))), (a5, .inl (K 3, 24, .inl (fun _ => 0))), (a6, .inl (K 3, 1480, .inl (fun _ => 0))), (a7, .inl (K 3, 512, .inl (fun _ => 0))), (a8, .inl (K 4, 512, .inl (fun _ => 0)))]) H := hP
  have hD : va_D A (ws.set p0 (h0, .inr (3, [.int 0, .int 0, .int 0, .ref a0, .ref a1, .ref a2, .ref a3, .ref a4, .ref a5, .int 0, .ref a6, .int 0, .ref a7, .ref a8, .null, .null, .int 0, .null, .null])) ++ [(a0, .inl (K 3, 24, .inl (fun _ => 0))), (a1, .inl (K 3, 24, .inl (fun _ => 0))), (a2, .inl (K 4, 24, .inl (fun _ => 0))), (a3, .inl (K 3, 24, .inl (fun _ => 0))), (a4, .inl (K 3, 1536, .inl (fun _ => 0))), (a5, .inl (K 3, 24, .inl (fun _ => 0))), (a6, .inl (K 3, 1480, .inl (fun _ => 0))), (a7, .inl (K 3, 512, .inl (fun _ => 0))), (a8, .inl (K 4, 512, .inl (fun _ => 0)))]) := hD
  refine lv_aload_n hx hb dX3_init_80 rfl (lv_at hl 0 rfl) ?_
  refine lv_sipush (v := 4096) hx hb dX3_init_81 (by decide) ?_
  refine va_newa (atype := .int) hx hb (hq _ q_471) (ty := .int) rfl hK hP hD hS hA (n := 4096) (N' := 4096) (a0 := (4096, .inl (fun _ => 0))) (fun cA => rfl) (by decide) (by decide) (by decide) (by show _ ≤ 13; omega) (by show _ ≤ 104463; omega) dX3_init_84 (fun a9 cA H hK7 hP hD hS => ?_)
  cases (gK_one (i := 6) (j := 3) hK7 rfl rfl : cA = K 3)
  rw [List.append_assoc] at hP hD
  have hP : va_P D vwCl (ws.set p0 (h0, .inr (3, [.int 0, .int 0, .int 0, .ref a0, .ref a1, .ref a2, .ref a3, .ref a4, .ref a5, .int 0, .ref a6, .int 0, .ref a7, .ref a8, .null, .null, .int 0, .null, .null])) ++ [(a0, .inl (K 3, 24, .inl (fun _ => 0))), (a1, .inl (K 3, 24, .inl (fun _ => 0))), (a2, .inl (K 4, 24, .inl (fun _ => 0))), (a3, .inl (K 3, 24, .inl (fun _ => 0))), (a4, .inl (K 3, 1536, .inl (fun _ => 0))), (a5, .inl (K 3, 24, .inl (fun _ => 0))), (a6, .inl (K 3, 1480, .inl (fun _ => 0))), (a7, .inl (K 3, 512, .inl (fun _ => 0))), (a8, .inl (K 4, 512, .inl (fun _ => 0))), (a9, .inl (K 3, 4096, .inl (fun _ => 0)))]) H := hP
  have hD : va_D A (ws.set p0 (h0, .inr (3, [.int 0, .int 0, .int 0, .ref a0, .ref a1, .ref a2, .ref a3, .ref a4, .ref a5, .int 0, .ref a6, .int 0, .ref a7, .ref a8, .null, .null, .int 0, .null, .null])) ++ [(a0, .inl (K 3, 24, .inl (fun _ => 0))), (a1, .inl (K 3, 24, .inl (fun _ => 0))), (a2, .inl (K 4, 24, .inl (fun _ => 0))), (a3, .inl (K 3, 24, .inl (fun _ => 0))), (a4, .inl (K 3, 1536, .inl (fun _ => 0))), (a5, .inl (K 3, 24, .inl (fun _ => 0))), (a6, .inl (K 3, 1480, .inl (fun _ => 0))), (a7, .inl (K 3, 512, .inl (fun _ => 0))), (a8, .inl (K 4, 512, .inl (fun _ => 0))), (a9, .inl (K 3, 4096, .inl (fun _ => 0)))]) := hD
  refine W.widen (k := 10) (n := 8256) (by omega) (by omega) ?_
  refine va_putF (D := D) (ci := 3) (v := .ref a9) (ty := .array .int) (C := RX3) (T := TX3) (N := 19) hx hb hq hin_X3 tyX3 tyX3_ok nmX3 hown hK hP hD hS p0 (sp_get he) rfl 14 (by decide) (hq _ q_427) (fun _ h9 => h9) rfl hin rfl (by decide +kernel) rfl rfl (Nat.le_of_ble_eq_true rfl) dX3_init_86 (fun H locs hP hD hS => ?_)
  rw [sp_set he] at hP hD
  have hP : va_P D vwCl (ws.set p0 (h0, .inr (3, [.int 0, .int 0, .int 0, .ref a0, .ref a1, .ref a2, .ref a3, .ref a4, .ref a5, .int 0, .ref a6, .int 0, .ref a7, .ref a8, .ref a9, .null, .int 0, .null, .null])) ++ [(a0, .inl (K 3, 24, .inl (fun _ => 0))), (a1, .inl (K 3, 24, .inl (fun _ => 0))), (a2, .inl (K 4, 24, .inl (fun _ => 0))), (a3, .inl (K 3, 24, .inl (fun _ => 0))), (a4, .inl (K 3, 1536, .inl (fun _ => 0))), (a5, .inl (K 3, 24, .inl (fun _ => 0))), (a6, .inl (K 3, 1480, .inl (fun _ => 0))), (a7, .inl (K 3, 512, .inl (fun _ => 0))), (a8, .inl (K 4, 512, .inl (fun _ => 0))), (a9, .inl (K 3, 4096, .inl (fun _ => 0)))]) H := hP
  have hD : va_D A (ws.set p0 (h0, .inr (3, [.int 0, .int 0, .int 0, .ref a0, .ref a1, .ref a2, .ref a3, .ref a4, .ref a5, .int 0, .ref a6, .int 0, .ref a7, .ref a8, .ref a9, .null, .int 0, .null, .null])) ++ [(a0, .inl (K 3, 24, .inl (fun _ => 0))), (a1, .inl (K 3, 24, .inl (fun _ => 0))), (a2, .inl (K 4, 24, .inl (fun _ => 0))), (a3, .inl (K 3, 24, .inl (fun _ => 0))), (a4, .inl (K 3, 1536, .inl (fun _ => 0))), (a5, .inl (K 3, 24, .inl (fun _ => 0))), (a6, .inl (K 3, 1480, .inl (fun _ => 0))), (a7, .inl (K 3, 512, .inl (fun _ => 0))), (a8, .inl (K 4, 512, .inl (fun _ => 0))), (a9, .inl (K 3, 4096, .inl (fun _ => 0)))]) := hD
  refine lv_aload_n hx hb dX3_init_89 rfl (lv_at hl 0 rfl) ?_
  refine lv_ldc (own := RX3) (v := 94720) hx hb hown (hq _ q_412) dX3_init_90 ?_
  refine va_newa (atype := .long) hx hb (hq _ q_473) (ty := .long) rfl hK hP hD hS hA (n := 94720) (N' := 94720) (a0 := (94720, .inr (.inl (fun _ => 0)))) (fun cA => rfl) (by decide) (by decide) (by decide) (by show _ ≤ 13; omega) (by show _ ≤ 104463; omega) dX3_init_92 (fun a10 cA H hK7 hP hD hS => ?_)
  cases (gK_one (i := 6) (j := 5) hK7 rfl rfl : cA = K 5)
  rw [List.append_assoc] at hP hD
  have hP : va_P D vwCl (ws.set p0 (h0, .inr (3, [.int 0, .int 0, .int 0, .ref a0, .ref a1, .ref a2, .ref a3, .ref a4, .ref a5, .int 0, .ref a6, .int 0, .ref a7, .ref a8, .ref a9, .null, .int 0, .null, .null])) ++ [(a0, .inl (K 3, 24, .inl (fun _ => 0))), (a1, .inl (K 3, 24, .inl (fun _ => 0))), (a2, .inl (K 4, 24, .inl (fun _ => 0))), (a3, .inl (K 3, 24, .inl (fun _ => 0))), (a4, .inl (K 3, 1536, .inl (fun _ => 0))), (a5, .inl (K 3, 24, .inl (fun _ => 0))), (a6, .inl (K 3, 1480, .inl (fun _ => 0))), (a7, .inl (K 3, 512, .inl (fun _ => 0))), (a8, .inl (K 4, 512, .inl (fun _ => 0))), (a9, .inl (K 3, 4096, .inl (fun _ => 0))), (a10, .inl (K 5, 94720, .inr (.inl (fun _ => 0))))]) H := hP
  have hD : va_D A (ws.set p0 (h0, .inr (3, [.int 0, .int 0, .int 0, .ref a0, .ref a1, .ref a2, .ref a3, .ref a4, .ref a5, .int 0, .ref a6, .int 0, .ref a7, .ref a8, .ref a9, .null, .int 0, .null, .null])) ++ [(a0, .inl (K 3, 24, .inl (fun _ => 0))), (a1, .inl (K 3, 24, .inl (fun _ => 0))), (a2, .inl (K 4, 24, .inl (fun _ => 0))), (a3, .inl (K 3, 24, .inl (fun _ => 0))), (a4, .inl (K 3, 1536, .inl (fun _ => 0))), (a5, .inl (K 3, 24, .inl (fun _ => 0))), (a6, .inl (K 3, 1480, .inl (fun _ => 0))), (a7, .inl (K 3, 512, .inl (fun _ => 0))), (a8, .inl (K 4, 512, .inl (fun _ => 0))), (a9, .inl (K 3, 4096, .inl (fun _ => 0))), (a10, .inl (K 5, 94720, .inr (.inl (fun _ => 0))))]) := hD
  refine W.widen (k := 11) (n := 102976) (by omega) (by omega) ?_
  refine va_putF (D := D) (ci := 3) (v := .ref a10) (ty := .array .long) (C := RX3) (T := TX3) (N := 19) hx hb hq hin_X3 tyX3 tyX3_ok nmX3 hown hK hP hD hS p0 (sp_get he) rfl 15 (by decide) (hq _ q_428) (fun _ h9 => h9) rfl hin rfl (by decide +kernel) rfl rfl (Nat.le_of_ble_eq_true rfl) dX3_init_94 (fun H locs hP hD hS => ?_)
  rw [sp_set he] at hP hD
  have hP : va_P D vwCl (ws.set p0 (h0, .inr (3, [.int 0, .int 0, .int 0, .ref a0, .ref a1, .ref a2, .ref a3, .ref a4, .ref a5, .int 0, .ref a6, .int 0, .ref a7, .ref a8, .ref a9, .ref a10, .int 0, .null, .null])) ++ [(a0, .inl (K 3, 24, .inl (fun _ => 0))), (a1, .inl (K 3, 24, .inl (fun _ => 0))), (a2, .inl (K 4, 24, .inl (fun _ => 0))), (a3, .inl (K 3, 24, .inl (fun _ => 0))), (a4, .inl (K 3, 1536, .inl (fun _ => 0))), (a5, .inl (K 3, 24, .inl (fun _ => 0))), (a6, .inl (K 3, 1480, .inl (fun _ => 0))), (a7, .inl (K 3, 512, .inl (fun _ => 0))), (a8, .inl (K 4, 512, .inl (fun _ => 0))), (a9, .inl (K 3, 4096, .inl (fun _ => 0))), (a10, .inl (K 5, 94720, .inr (.inl (fun _ => 0))))]) H := hP
  have hD : va_D A (ws.set p0 (h0, .inr (3, [.int 0, .int 0, .int 0, .ref a0, .ref a1, .ref a2, .ref a3, .ref a4, .ref a5, .int 0, .ref a6, .int 0, .ref a7, .ref a8, .ref a9, .ref a10, .int 0, .null, .null])) ++ [(a0, .inl (K 3, 24, .inl (fun _ => 0))), (a1, .inl (K 3, 24, .inl (fun _ => 0))), (a2, .inl (K 4, 24, .inl (fun _ => 0))), (a3, .inl (K 3, 24, .inl (fun _ => 0))), (a4, .inl (K 3, 1536, .inl (fun _ => 0))), (a5, .inl (K 3, 24, .inl (fun _ => 0))), (a6, .inl (K 3, 1480, .inl (fun _ => 0))), (a7, .inl (K 3, 512, .inl (fun _ => 0))), (a8, .inl (K 4, 512, .inl (fun _ => 0))), (a9, .inl (K 3, 4096, .inl (fun _ => 0))), (a10, .inl (K 5, 94720, .inr (.inl (fun _ => 0))))]) := hD
  refine lv_aload_n hx hb dX3_init_97 rfl (lv_at hl 0 rfl) ?_
  refine lv_bipush (v := 7) hx hb dX3_init_98 (by decide) ?_
  refine va_newa (atype := .int) hx hb (hq _ q_471) (ty := .int) rfl hK hP hD hS hA (n := 7) (N' := 7) (a0 := (7, .inl (fun _ => 0))) (fun cA => rfl) (by decide) (by decide) (by decide) (by show _ ≤ 13; omega) (by show _ ≤ 104463; omega) dX3_init_100 (fun a11 cA H hK7 hP hD hS => ?_)
  cases (gK_one (i := 6) (j := 3) hK7 rfl rfl : cA = K 3)
  rw [List.append_assoc] at hP hD
  have hP : va_P D vwCl (ws.set p0 (h0, .inr (3, [.int 0, .int 0, .int 0, .ref a0, .ref a1, .ref a2, .ref a3, .ref a4, .ref a5, .int 0, .ref a6, .int 0, .ref a7, .ref a8, .ref a9, .ref a10, .int 0, .null, .null])) ++ [(a0, .inl (K 3, 24, .inl (fun _ => 0))), (a1, .inl (K 3, 24, .inl (fun _ => 0))), (a2, .inl (K 4, 24, .inl (fun _ => 0))), (a3, .inl (K 3, 24, .inl (fun _ => 0))), (a4, .inl (K 3, 1536, .inl (fun _ => 0))), (a5, .inl (K 3, 24, .inl (fun _ => 0))), (a6, .inl (K 3, 1480, .inl (fun _ => 0))), (a7, .inl (K 3, 512, .inl (fun _ => 0))), (a8, .inl (K 4, 512, .inl (fun _ => 0))), (a9, .inl (K 3, 4096, .inl (fun _ => 0))), (a10, .inl (K 5, 94720, .inr (.inl (fun _ => 0)))), (a11, .inl (K 3, 7, .inl (fun _ => 0)))]) H := hP
  have hD : va_D A (ws.set p0 (h0, .inr (3, [.int 0, .int 0, .int 0, .ref a0, .ref a1, .ref a2, .ref a3, .ref a4, .ref a5, .int 0, .ref a6, .int 0, .ref a7, .ref a8, .ref a9, .ref a10, .int 0, .null, .null])) ++ [(a0, .inl (K 3, 24, .inl (fun _ => 0))), (a1, .inl (K 3, 24, .inl (fun _ => 0))), (a2, .inl (K 4, 24, .inl (fun _ => 0))), (a3, .inl (K 3, 24, .inl (fun _ => 0))), (a4, .inl (K 3, 1536, .inl (fun _ => 0))), (a5, .inl (K 3, 24, .inl (fun _ => 0))), (a6, .inl (K 3, 1480, .inl (fun _ => 0))), (a7, .inl (K 3, 512, .inl (fun _ => 0))), (a8, .inl (K 4, 512, .inl (fun _ => 0))), (a9, .inl (K 3, 4096, .inl (fun _ => 0))), (a10, .inl (K 5, 94720, .inr (.inl (fun _ => 0)))), (a11, .inl (K 3, 7, .inl (fun _ => 0)))]) := hD
  refine W.widen (k := 12) (n := 102983) (by omega) (by omega) ?_
  refine va_putF (D := D) (ci := 3) (v := .ref a11) (ty := .array .int) (C := RX3) (T := TX3) (N := 19) hx hb hq hin_X3 tyX3 tyX3_ok nmX3 hown hK hP hD hS p0 (sp_get he) rfl 17 (by decide) (hq _ q_430) (fun _ h9 => h9) rfl hin rfl (by decide +kernel) rfl rfl (Nat.le_of_ble_eq_true rfl) dX3_init_102 (fun H locs hP hD hS => ?_)
  rw [sp_set he] at hP hD
  have hP : va_P D vwCl (ws.set p0 (h0, .inr (3, [.int 0, .int 0, .int 0, .ref a0, .ref a1, .ref a2, .ref a3, .ref a4, .ref a5, .int 0, .ref a6, .int 0, .ref a7, .ref a8, .ref a9, .ref a10, .int 0, .ref a11, .null])) ++ [(a0, .inl (K 3, 24, .inl (fun _ => 0))), (a1, .inl (K 3, 24, .inl (fun _ => 0))), (a2, .inl (K 4, 24, .inl (fun _ => 0))), (a3, .inl (K 3, 24, .inl (fun _ => 0))), (a4, .inl (K 3, 1536, .inl (fun _ => 0))), (a5, .inl (K 3, 24, .inl (fun _ => 0))), (a6, .inl (K 3, 1480, .inl (fun _ => 0))), (a7, .inl (K 3, 512, .inl (fun _ => 0))), (a8, .inl (K 4, 512, .inl (fun _ => 0))), (a9, .inl (K 3, 4096, .inl (fun _ => 0))), (a10, .inl (K 5, 94720, .inr (.inl (fun _ => 0)))), (a11, .inl (K 3, 7, .inl (fun _ => 0)))]) H := hP
  have hD : va_D A (ws.set p0 (h0, .inr (3, [.int 0, .int 0, .int 0, .ref a0, .ref a1, .ref a2, .ref a3, .ref a4, .ref a5, .int 0, .ref a6, .int 0, .ref a7, .ref a8, .ref a9, .ref a10, .int 0, .ref a11, .null])) ++ [(a0, .inl (K 3, 24, .inl (fun _ => 0))), (a1, .inl (K 3, 24, .inl (fun _ => 0))), (a2, .inl (K 4, 24, .inl (fun _ => 0))), (a3, .inl (K 3, 24, .inl (fun _ => 0))), (a4, .inl (K 3, 1536, .inl (fun _ => 0))), (a5, .inl (K 3, 24, .inl (fun _ => 0))), (a6, .inl (K 3, 1480, .inl (fun _ => 0))), (a7, .inl (K 3, 512, .inl (fun _ => 0))), (a8, .inl (K 4, 512, .inl (fun _ => 0))), (a9, .inl (K 3, 4096, .inl (fun _ => 0))), (a10, .inl (K 5, 94720, .inr (.inl (fun _ => 0)))), (a11, .inl (K 3, 7, .inl (fun _ => 0)))]) := hD
  refine lv_aload_n hx hb dX3_init_105 rfl (lv_at hl 0 rfl) ?_
  refine lv_sipush (v := 1480) hx hb dX3_init_106 (by decide) ?_
  refine va_newa (atype := .int) hx hb (hq _ q_471) (ty := .int) rfl hK hP hD hS hA (n := 1480) (N' := 1480) (a0 := (1480, .inl (fun _ => 0))) (fun cA => rfl) (by decide) (by decide) (by decide) (by show _ ≤ 13; omega) (by show _ ≤ 104463; omega) dX3_init_109 (fun a12 cA H hK7 hP hD hS => ?_)
  cases (gK_one (i := 6) (j := 3) hK7 rfl rfl : cA = K 3)
  rw [List.append_assoc] at hP hD
  have hP : va_P D vwCl (ws.set p0 (h0, .inr (3, [.int 0, .int 0, .int 0, .ref a0, .ref a1, .ref a2, .ref a3, .ref a4, .ref a5, .int 0, .ref a6, .int 0, .ref a7, .ref a8, .ref a9, .ref a10, .int 0, .ref a11, .null])) ++ [(a0, .inl (K 3, 24, .inl (fun _ => 0))), (a1, .inl (K 3, 24, .inl (fun _ => 0))), (a2, .inl (K 4, 24, .inl (fun _ => 0))), (a3, .inl (K 3, 24, .inl (fun _ => 0))), (a4, .inl (K 3, 1536, .inl (fun _ => 0))), (a5, .inl (K 3, 24, .inl (fun _ => 0))), (a6, .inl (K 3, 1480, .inl (fun _ => 0))), (a7, .inl (K 3, 512, .inl (fun _ => 0))), (a8, .inl (K 4, 512, .inl (fun _ => 0))), (a9, .inl (K 3, 4096, .inl (fun _ => 0))), (a10, .inl (K 5, 94720, .inr (.inl (fun _ => 0)))), (a11, .inl (K 3, 7, .inl (fun _ => 0))), (a12, .inl (K 3, 1480, .inl (fun _ => 0)))]) H := hP
  have hD : va_D A (ws.set p0 (h0, .inr (3, [.int 0, .int 0, .int 0, .ref a0, .ref a1, .ref a2, .ref a3, .ref a4, .ref a5, .int 0, .ref a6, .int 0, .ref a7, .ref a8, .ref a9, .ref a10, .int 0, .ref a11, .null])) ++ [(a0, .inl (K 3, 24, .inl (fun _ => 0))), (a1, .inl (K 3, 24, .inl (fun _ => 0))), (a2, .inl (K 4, 24, .inl (fun _ => 0))), (a3, .inl (K 3, 24, .inl (fun _ => 0))), (a4, .inl (K 3, 1536, .inl (fun _ => 0))), (a5, .inl (K 3, 24, .inl (fun _ => 0))), (a6, .inl (K 3, 1480, .inl (fun _ => 0))), (a7, .inl (K 3, 512, .inl (fun _ => 0))), (a8, .inl (K 4, 512, .inl (fun _ => 0))), (a9, .inl (K 3, 4096, .inl (fun _ => 0))), (a10, .inl (K 5, 94720, .inr (.inl (fun _ => 0)))), (a11, .inl (K 3, 7, .inl (fun _ => 0))), (a12, .inl (K 3, 1480, .inl (fun _ => 0)))]) := hD
  refine W.widen (k := 13) (n := 104463) (by omega) (by omega) ?_
  refine va_putF (D := D) (ci := 3) (v := .ref a12) (ty := .array .int) (C := RX3) (T := TX3) (N := 19) hx hb hq hin_X3 tyX3 tyX3_ok nmX3 hown hK hP hD hS p0 (sp_get he) rfl 18 (by decide) (hq _ q_431) (fun _ h9 => h9) rfl hin rfl (by decide +kernel) rfl rfl (Nat.le_of_ble_eq_true rfl) dX3_init_111 (fun H locs hP hD hS => ?_)
  rw [sp_set he] at hP hD
  have hP : va_P D vwCl (ws.set p0 (h0, .inr (3, [.int 0, .int 0, .int 0, .ref a0, .ref a1, .ref a2, .ref a3, .ref a4, .ref a5, .int 0, .ref a6, .int 0, .ref a7, .ref a8, .ref a9, .ref a10, .int 0, .ref a11, .ref a12])) ++ [(a0, .inl (K 3, 24, .inl (fun _ => 0))), (a1, .inl (K 3, 24, .inl (fun _ => 0))), (a2, .inl (K 4, 24, .inl (fun _ => 0))), (a3, .inl (K 3, 24, .inl (fun _ => 0))), (a4, .inl (K 3, 1536, .inl (fun _ => 0))), (a5, .inl (K 3, 24, .inl (fun _ => 0))), (a6, .inl (K 3, 1480, .inl (fun _ => 0))), (a7, .inl (K 3, 512, .inl (fun _ => 0))), (a8, .inl (K 4, 512, .inl (fun _ => 0))), (a9, .inl (K 3, 4096, .inl (fun _ => 0))), (a10, .inl (K 5, 94720, .inr (.inl (fun _ => 0)))), (a11, .inl (K 3, 7, .inl (fun _ => 0))), (a12, .inl (K 3, 1480, .inl (fun _ => 0)))]) H := hP
  have hD : va_D A (ws.set p0 (h0, .inr (3, [.int 0, .int 0, .int 0, .ref a0, .ref a1, .ref a2, .ref a3, .ref a4, .ref a5, .int 0, .ref a6, .int 0, .ref a7, .ref a8, .ref a9, .ref a10, .int 0, .ref a11, .ref a12])) ++ [(a0, .inl (K 3, 24, .inl (fun _ => 0))), (a1, .inl (K 3, 24, .inl (fun _ => 0))), (a2, .inl (K 4, 24, .inl (fun _ => 0))), (a3, .inl (K 3, 24, .inl (fun _ => 0))), (a4, .inl (K 3, 1536, .inl (fun _ => 0))), (a5, .inl (K 3, 24, .inl (fun _ => 0))), (a6, .inl (K 3, 1480, .inl (fun _ => 0))), (a7, .inl (K 3, 512, .inl (fun _ => 0))), (a8, .inl (K 4, 512, .inl (fun _ => 0))), (a9, .inl (K 3, 4096, .inl (fun _ => 0))), (a10, .inl (K 5, 94720, .inr (.inl (fun _ => 0)))), (a11, .inl (K 3, 7, .inl (fun _ => 0))), (a12, .inl (K 3, 1480, .inl (fun _ => 0)))]) := hD
  exact W.vret hx hb hr (fun t ht hW => ⟨⟨(a0, a1, a2, a3, a4, a5, a6, a7, a8, a9, a10, a11, a12), rfl, trivial, by rw [ht]; exact hP, hD⟩, hS.F ht⟩) hS.2.2 dX3_init_114 hlocks

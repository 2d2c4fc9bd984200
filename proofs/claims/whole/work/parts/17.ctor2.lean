
/-! the class's constructor -/
abbrev z9 : List Value := [.int 0, .int 0, .int 0, .int 0, .int 0, .int 0, .int 0, .int 0, .int 0]
abbrev zN (a : Value) : List Value := [.int 0, .int 0, .int 0, .int 0, a, .int 0, .int 0]
abbrev cF (v1 v2 v3 v4 v5 : Value) : List Value := [v1, .int 0, .int 0, v2, .int 0, v4, .int 0, v5, v3, .int 0, .int 0]
abbrev cRf (nt : Nat → Nat) (i : Nat) : Nat → Option Nat := fun j => if j < i then some (nt j) else none
abbrev cW (K : Nat → ClassId) (h0 q1 q2 q3 q4 q5 : Nat) (nt ar : Nat → Nat) (i1 i2 : Nat) : va_W := [(h0, .inr (2, cF (.ref q1) (.ref q2) (.ref q3) (.ref q4) (.ref q5))), (q1, .inl (K 1, 24, .inr (.inr (.inr (.inr (cRf nt i1)))))), (q2, .inl (K 2, 512, .inr (.inr (.inr (.inr (cRf ar i2)))))), (q4, .inr (0, z9)), (q5, .inr (0, z9)), (q3, .inl (K 0, 4096, .inl (fun _ => 0)))]
def cP (K : Nat → ClassId) (nt sc : Nat → Nat) : Nat → va_W
  | 0 => []
  | i + 1 => cP K nt sc i ++ [(nt i, .inr (1, zN (.ref (sc i)))), (sc i, .inl (K 0, 64, .inl (fun _ => 0)))]
def cQ (ar : Nat → Nat) : Nat → va_W
  | 0 => []
  | i + 1 => cQ ar i ++ [(ar i, .inr (0, z9))]
theorem cP_same {K : Nat → ClassId} {nt sc nt' sc' : Nat → Nat} : ∀ i : Nat, (∀ j, j < i → nt' j = nt j) → (∀ j, j < i → sc' j = sc j) → cP K nt' sc' i = cP K nt sc i
  | 0, _, _ => rfl
  | i + 1, h1, h2 => by
    unfold cP
    rw [cP_same i (fun j h => h1 j (by omega)) (fun j h => h2 j (by omega)), h1 i (by omega), h2 i (by omega)]
theorem cQ_same {ar ar' : Nat → Nat} : ∀ i : Nat, (∀ j, j < i → ar' j = ar j) → cQ ar' i = cQ ar i
  | 0, _ => rfl
  | i + 1, h1 => by
    unfold cQ
    rw [cQ_same i (fun j h => h1 j (by omega)), h1 i (by omega)]
theorem cP_succ {K : Nat → ClassId} {nt sc : Nat → Nat} {i a b : Nat} : cP K nt sc i ++ [(a, .inr (1, zN (.ref b))), (b, .inl (K 0, 64, .inl (fun _ => 0)))] = cP K (va_up nt i a) (va_up sc i b) (i + 1) := by
  show _ = cP K (va_up nt i a) (va_up sc i b) i ++ _
  rw [cP_same i (fun j h => va_up_ne nt a (Nat.ne_of_lt h)) (fun j h => va_up_ne sc b (Nat.ne_of_lt h)), va_up_self, va_up_self]
theorem cQ_succ {ar : Nat → Nat} {i a : Nat} : cQ ar i ++ [(a, .inr (0, z9))] = cQ (va_up ar i a) (i + 1) := by
  show _ = cQ (va_up ar i a) i ++ _
  rw [cQ_same i (fun j h => va_up_ne ar a (Nat.ne_of_lt h)), va_up_self]
theorem cRf_succ {nt : Nat → Nat} {i a : Nat} : va_up (cRf nt i) i (some a) = cRf (va_up nt i a) (i + 1) := by
  funext j
  by_cases h : j = i
  · subst h
    simp [va_up, cRf]
  · by_cases h2 : j < i
    · have h3 : j < i + 1 := by omega
      simp [va_up, cRf, h, h2, h3]
    · have h3 : ¬ j < i + 1 := by omega
      simp [va_up, cRf, h, h2, h3]
def gE0 (D : va_G) (K : Nat → ClassId) (U : State) : Prop := va_K D vwCl (gtys K) U ∧ (∀ q ∈ gnM, va_Nw (.methodLinkNest q.1 q.2.1 q.2.2.1 q.2.2.2) U) ∧ va_AO "WireBench$Net" U ∧ va_AO "WireBench$Arrival" U
theorem gE0.moved {D : va_G} {K : Nat → ClassId} {s U : State} (h : gE0 D K s) (hW : s.WarmedH U.vm) : gE0 D K U := ⟨va_K.moved hW.alike h.1, fun q hq => va_Nw.warmM hW (h.2.1 q hq), va_AO.moved hW.alike h.2.2.1, va_AO.moved hW.alike h.2.2.2⟩
abbrev cU : Type := (Nat × Nat × Nat × Nat × Nat) × (Nat → Nat) × (Nat → Nat) × (Nat → Nat)
abbrev at_X2_init (D : va_G) (K : Nat → ClassId) (A : Nat → Prop) (h0 : Nat) (u : cU) (t : State) : Prop := va_P D vwCl (cW K h0 u.1.1 u.1.2.1 u.1.2.2.1 u.1.2.2.2.1 u.1.2.2.2.2 u.2.1 u.2.2.2 24 512 ++ (cP K u.2.1 u.2.2.1 24 ++ cQ u.2.2.2 512)) t.heap ∧ va_D A (cW K h0 u.1.1 u.1.2.1 u.1.2.2.1 u.1.2.2.2.1 u.1.2.2.2.2 u.2.1 u.2.2.2 24 512 ++ (cP K u.2.1 u.2.2.1 24 ++ cQ u.2.2.2 512))
abbrev rX2i : Room := { frames := 2, cells := 565, slots := 10962, locals := 40 }
/-- a world's call of a constructor of an object at its end -/
theorem cPre {D : va_G} {K : Nat → ClassId} {s : State} {A : Nat → Prop} {H : Heap} {ws : va_W} {h0 : Nat} (hK : va_K D vwCl (gtys K) s) (hP : va_P D vwCl ws H) (hD : va_D A ws) : PreS s H (va_Pc [.ref h0] (fun U => U.heap.size = H.size ∧ va_P D vwCl ws U.heap ∧ va_K D vwCl (gtys K) U ∧ va_D (fun _ => True) ws)) [.ref h0] :=
  ⟨fun a U g mk h => by
    obtain ⟨h0, h1, h2, h3, h4⟩ := h
    exact ⟨h0, h1, h2, va_K.moved (u := U) (U := U.calling g mk a) (Vm.Alike.refl U.vm) h3, h4⟩,
   fun U hU hW => ⟨rfl, by rw [hU], by rw [hU]; exact hP, va_K.moved hW.alike hK, hD.weaken (fun _ _ _ _ => trivial)⟩⟩
theorem cFree {A : Nat → Prop} {H0 H : Heap} {ws : va_W} {locs : List Loc} (hD : va_D A ws) (hS : va_S A H0 H locs) (hA : ∀ q, H0.size ≤ q → A q) : ∀ q, va_A ws H.size q → A q := by
  intro q h
  rcases h with ⟨k, x, hk⟩ | h
  · exact hD.2 k _ hk
  · exact hA q (Nat.le_trans hS.1 h)
section CX2
variable {p : Program} {l : Launch} {e : Env} {s : State} {m : MethodId} {args : Array Value} {below : List Frame} {meth : Method} {c : Code} {D : va_G} {K : Nat → ClassId} {A : Nat → Prop}
set_option maxHeartbeats 4000000 in
set_option maxRecDepth 100000 in
theorem L_X2_init_113 (hx : p.tables.exec = Jvm.exec) (hb : c.code = cX2_init) (hr : meth.sig.returnType = none) (hml : c.maxLocals = 2) (hown : s.vm.findClass RX2 = some m.cls) (hts : ∀ w ∈ wsX2_init, w.before args s = true) (hlocks : meth.locks = false) (hA : ∀ q, s.heap.size ≤ q → A q) (hE : gE0 D K s) (h0 q1 q2 q3 q4 q5 : Nat) (nt sc : Nat → Nat) :
    ∀ (n i : Nat) (x1 : Int32) (ar : Nat → Nat), i ≤ 512 → 513 ≤ i + n → x1 = nI i → ∀ (H : Heap) (locs : List Loc) (ls : Array Slot), va_P D vwCl (cW K h0 q1 q2 q3 q4 q5 nt ar 24 i ++ (cP K nt sc 24 ++ cQ ar i)) H → va_D A (cW K h0 q1 q2 q3 q4 q5 nt ar 24 i ++ (cP K nt sc 24 ++ cQ ar i)) → va_S A s.heap H locs → lv_has ls 2 [(0, .ref h0), (1, .int x1)] →
      W p l e rX2i s m args below meth c H locs (53 + i) (6354 + 9 * i) (MQ below (va_Qv (fun _ : cU => True) (at_X2_init D K A h0) A) args s 565 10962 A) (F0 m 113 ls []) := by
  have hK := hE.1
  have hq : ∀ w ∈ gW, w.before args s = true := fun w h => hts w (List.mem_cons_of_mem _ h)
  intro n
  induction n with
  | zero =>
    intro i x1 ar h1 h2
    exact absurd h2 (by omega)
  | succ n ih =>
    intro i x1 ar hi hin ex1 H locs ls hP hD hS hl
    refine lv_iload_n hx hb dX2_init_113 rfl (lv_at hl 1 rfl) ?_
    refine lv_sipush (v := 512) hx hb dX2_init_114 (by decide) ?_
    refine lv_icmp_ge (tgt := 139) hx hb dX2_init_117 (by decide) (fun c_1 => ?_) (fun c_1 => ?_)
    · have hi2 : i = 512 := by
        rcases Nat.lt_or_ge i 512 with h | h
        · exact absurd c_1 (by rw [ex1]; exact nI_ge h (by decide))
        · omega
      subst hi2
      exact W.widen (by omega) (by omega) (W.vret hx hb hr (fun t ht hW => ⟨⟨((q1, q2, q3, q4, q5), nt, sc, ar), rfl, trivial, by rw [ht]; exact hP, hD⟩, hS.F ht⟩) hS.2.2 dX2_init_139 hlocks)
    · have hlt : i < 512 := by
        rcases Nat.lt_or_ge i 512 with h | h
        · exact h
        · exact absurd (by rw [ex1]; exact nI_le h (by omega)) c_1
      refine lv_aload_n hx hb dX2_init_120 rfl (lv_at hl 0 rfl) ?_
      refine va_get (D := D) (ci := 2) (v := .ref q2) (C := RX2) (T := TX2) (N := 11) hx hb hq hin_X2 hown hK hP 0 rfl rfl 3 (by decide) (hq _ q_121) (fun _ h9 => h9) rfl dX2_init_121 ?_
      refine lv_iload_n hx hb dX2_init_124 rfl (lv_at hl 1 rfl) ?_
      refine va_new (ci := 0) (fs := z9) (C := RX0) (T := TX0) (N := 9) hx hb hq hin_X0 tyX0 tyX0_ok hown (hq _ q_41) (hq _ q_43) (hq _ q_21) hK hP hD hS hA rfl (fun j hj => by rcases (show j = 0 ∨ j = 1 ∨ j = 2 ∨ j = 3 ∨ j = 4 ∨ j = 5 ∨ j = 6 ∨ j = 7 ∨ j = 8 by omega) with rfl | rfl | rfl | rfl | rfl | rfl | rfl | rfl | rfl <;> rfl) (by show _ ≤ 565; omega) (by show _ ≤ 10962; omega) dX2_init_125 (fun qa H hP hD hS => ?_)
      refine lv_dup hx hb dX2_init_128 rfl ?_
      have he : ((cW K h0 q1 q2 q3 q4 q5 nt ar 24 i ++ (cP K nt sc 24 ++ cQ ar i)) ++ [(qa, .inr (0, z9))])[(cW K h0 q1 q2 q3 q4 q5 nt ar 24 i ++ (cP K nt sc 24 ++ cQ ar i)).length]? = some (qa, (.inr (0, z9) : va_E)) := List.getElem?_concat_length
      have hFc := cFree hD hS hA
      refine va_callv (va_runIN (As := []) (rest := [.ref qa, .int x1, .ref q2]) ⟨hx, hb, hml, hown, hts⟩ (c_X0_init l D K _ _ qa H.size he) ⟨va_cnB 0 hts (gGood gCons (gCode q_46)) rfl rfl rfl (hE.2.1 ("WireBench", 31, yX0_init, "WireBench") (by decide +kernel)) (hq _ q_21) (by decide +kernel) ⟨Nat.le_of_ble_eq_true rfl, Nat.le_of_ble_eq_true rfl⟩, rfl, hq _ q_45⟩ (cPre hK hP hD) rfl rfl hl.1 rfl (lv_room (Nat.le_of_ble_eq_true rfl)) dX2_init_129 ⟨by show _ ≤ 565; omega, by show _ ≤ 10962; omega⟩) hS (fun q _ h => hFc q h) hFc (fun u t H1 locs ht hvm hw hB hz1 hk1 hS => ?_)
      obtain ⟨hP, hD2⟩ := hB
      rw [ht, ← sp_0 he] at hP
      rw [← sp_0 he] at hD2
      have hD := hD2.weaken (B := A) (fun _ _ _ h => hFc _ h)
      have hin1 : vp_in x1 512 := by rw [ex1]; exact vp_in_nI hlt (by decide)
      have hcl : x1.toNatClampNeg = i := by rw [ex1]; exact nI_clamp (by omega)
      refine va_astq hx hb hK hP hD hS 2 2 (cW K h0 q1 q2 q3 q4 q5 nt ar 24 i ++ (cP K nt sc 24 ++ cQ ar i)).length 0 (r := (RX0, TX0, 9)) (f := cRf ar i) (n := 512) rfl rfl he rfl hin1 dX2_init_132 (fun H locs hP hD hS => ?_)
      rw [hcl, cRf_succ] at hP hD
      obtain ⟨x2, ex2⟩ : ∃ y : Int32, y = x1 + 1 := ⟨_, rfl⟩
      refine lv_iinc (v := x2) (lv' := [(1, .int x2), (0, .ref h0)]) hx hb dX2_init_133 hl (k := 1) rfl (by rw [ex2]; rfl) (by decide) rfl (fun ls hl => ?_)
      refine lv_goto (tgt := 113) hx hb dX2_init_136 (by decide) ?_
      refine W.widen (k := 53 + (i + 1)) (n := 6354 + 9 * (i + 1)) (by omega) (by omega) ?_
      have e9 : ∀ z : Nat × va_E, ((cW K h0 q1 q2 q3 q4 q5 nt ar 24 i ++ (cP K nt sc 24 ++ cQ ar i)) ++ ([(qa, .inr (0, z9))] : va_W)).set 2 (q2, .inl (K 2, 512, .inr (.inr (.inr (.inr (cRf (va_up ar i qa) (i + 1))))))) = cW K h0 q1 q2 q3 q4 q5 nt (va_up ar i qa) 24 (i + 1) ++ (cP K nt sc 24 ++ cQ (va_up ar i qa) (i + 1)) := by
        intro z
        rw [← cQ_succ, ← List.append_assoc (cP K nt sc 24), List.append_assoc, List.append_assoc]
        rfl
      rw [e9 (0, .inr (0, z9))] at hP hD
      exact ih (i + 1) x2 (va_up ar i qa) hlt (by omega) (by rw [ex2, ex1]; exact nI_1 i) _ _ _ hP hD hS (lv_sub hl [1, 0] rfl)
set_option maxHeartbeats 4000000 in
set_option maxRecDepth 100000 in
theorem L_X2_init_86 (hx : p.tables.exec = Jvm.exec) (hb : c.code = cX2_init) (hr : meth.sig.returnType = none) (hml : c.maxLocals = 2) (hown : s.vm.findClass RX2 = some m.cls) (hts : ∀ w ∈ wsX2_init, w.before args s = true) (hlocks : meth.locks = false) (hA : ∀ q, s.heap.size ≤ q → A q) (hE : gE0 D K s) (h0 q1 q2 q3 q4 q5 : Nat) (ar : Nat → Nat) :
    ∀ (n i : Nat) (x1 : Int32) (nt sc : Nat → Nat), i ≤ 24 → 25 ≤ i + n → x1 = nI i → ∀ (H : Heap) (locs : List Loc) (ls : Array Slot), va_P D vwCl (cW K h0 q1 q2 q3 q4 q5 nt ar i 0 ++ cP K nt sc i) H → va_D A (cW K h0 q1 q2 q3 q4 q5 nt ar i 0 ++ cP K nt sc i) → va_S A s.heap H locs → lv_has ls 2 [(0, .ref h0), (1, .int x1)] →
      W p l e rX2i s m args below meth c H locs (5 + 2 * i) (4650 + 71 * i) (MQ below (va_Qv (fun _ : cU => True) (at_X2_init D K A h0) A) args s 565 10962 A) (F0 m 86 ls []) := by
  have hK := hE.1
  have hq : ∀ w ∈ gW, w.before args s = true := fun w h => hts w (List.mem_cons_of_mem _ h)
  intro n
  induction n with
  | zero =>
    intro i x1 nt sc h1 h2
    exact absurd h2 (by omega)
  | succ n ih =>
    intro i x1 nt sc hi hin ex1 H locs ls hP hD hS hl
    refine lv_iload_n hx hb dX2_init_86 rfl (lv_at hl 1 rfl) ?_
    refine lv_bipush (v := 24) hx hb dX2_init_87 (by decide) ?_
    refine lv_icmp_ge (tgt := 111) hx hb dX2_init_89 (by decide) (fun c_1 => ?_) (fun c_1 => ?_)
    · have hi2 : i = 24 := by
        rcases Nat.lt_or_ge i 24 with h | h
        · exact absurd c_1 (by rw [ex1]; exact nI_ge h (by decide))
        · omega
      subst hi2
      refine lv_iconst (v := 0) hx hb dX2_init_111 (by decide) ?_
      refine lv_istore_n (lv' := [(1, .int 0), (0, .ref h0)]) hx hb dX2_init_112 rfl hl (by decide) rfl (fun ls hl => ?_)
      exact L_X2_init_113 hx hb hr hml hown hts hlocks hA hE h0 q1 q2 q3 q4 q5 nt sc 513 0 0 ar (by omega) (by omega) nI_0.symm _ _ _ (by rw [show cQ ar 0 = [] from rfl, List.append_nil]; exact hP) (by rw [show cQ ar 0 = [] from rfl, List.append_nil]; exact hD) hS (lv_sub hl [1, 0] rfl)
    · have hlt : i < 24 := by
        rcases Nat.lt_or_ge i 24 with h | h
        · exact h
        · exact absurd (by rw [ex1]; exact nI_le h (by omega)) c_1
      refine lv_aload_n hx hb dX2_init_92 rfl (lv_at hl 0 rfl) ?_
      refine va_get (D := D) (ci := 2) (v := .ref q1) (C := RX2) (T := TX2) (N := 11) hx hb hq hin_X2 hown hK hP 0 rfl rfl 0 (by decide) (hq _ q_118) (fun _ h9 => h9) rfl dX2_init_93 ?_
      refine lv_iload_n hx hb dX2_init_96 rfl (lv_at hl 1 rfl) ?_
      refine va_new (ci := 1) (fs := zN .null) (C := RX1) (T := TX1) (N := 7) hx hb hq hin_X1 tyX1 tyX1_ok hown (hq _ q_39) (hq _ q_85) (hq _ q_22) hK hP hD hS hA rfl (fun j hj => by rcases (show j = 0 ∨ j = 1 ∨ j = 2 ∨ j = 3 ∨ j = 4 ∨ j = 5 ∨ j = 6 by omega) with rfl | rfl | rfl | rfl | rfl | rfl | rfl <;> rfl) (by show _ ≤ 565; omega) (by show _ ≤ 10962; omega) dX2_init_97 (fun qa H hP hD hS => ?_)
      refine lv_dup hx hb dX2_init_100 rfl ?_
      have he : ((cW K h0 q1 q2 q3 q4 q5 nt ar i 0 ++ cP K nt sc i) ++ [(qa, .inr (1, zN .null))])[(cW K h0 q1 q2 q3 q4 q5 nt ar i 0 ++ cP K nt sc i).length]? = some (qa, (.inr (1, zN .null) : va_E)) := List.getElem?_concat_length
      have hFc := cFree hD hS hA
      refine va_callv (va_runIN (As := []) (rest := [.ref qa, .int x1, .ref q1]) ⟨hx, hb, hml, hown, hts⟩ (c_X1_init l D K _ _ qa H.size he) ⟨va_cnB 0 hts (gGood gCons (gCode q_88)) rfl rfl rfl (hE.2.1 ("WireBench", 53, yX1_init, "WireBench") (by decide +kernel)) (hq _ q_22) (by decide +kernel) ⟨Nat.le_of_ble_eq_true rfl, Nat.le_of_ble_eq_true rfl⟩, rfl, hq _ q_87⟩ (cPre hK hP hD) rfl rfl hl.1 rfl (lv_room (Nat.le_of_ble_eq_true rfl)) dX2_init_101 ⟨by show _ ≤ 565; omega, by show _ ≤ 10962; omega⟩) hS (fun q _ h => hFc q h) hFc (fun u t H1 locs ht hvm hw hB hz1 hk1 hS => ?_)
      obtain ⟨hP, hD2⟩ := hB
      rw [ht] at hP
      have e8 : ((cW K h0 q1 q2 q3 q4 q5 nt ar i 0 ++ cP K nt sc i) ++ [(qa, (.inr (1, zN .null) : va_E))]).set (cW K h0 q1 q2 q3 q4 q5 nt ar i 0 ++ cP K nt sc i).length (qa, .inr (1, zN (.ref u))) = (cW K h0 q1 q2 q3 q4 q5 nt ar i 0 ++ cP K nt sc i) ++ [(qa, .inr (1, zN (.ref u)))] := by
        rw [List.set_append_right _ _ (Nat.le_refl _), Nat.sub_self]
        rfl
      have e8' : ((cW K h0 q1 q2 q3 q4 q5 nt ar i 0 ++ cP K nt sc i) ++ [(qa, (.inr (1, zN .null) : va_E))]).set (cW K h0 q1 q2 q3 q4 q5 nt ar i 0 ++ cP K nt sc i).length (qa, .inr (1, zN (.ref u))) ++ [(u, .inl (K 0, 64, .inl (fun _ => 0)))] = cW K h0 q1 q2 q3 q4 q5 nt ar i 0 ++ cP K (va_up nt i qa) (va_up sc i u) (i + 1) := by
        rw [e8, List.append_assoc, List.append_assoc, ← cP_succ]
        rfl
      have hP : va_P D vwCl (cW K h0 q1 q2 q3 q4 q5 nt ar i 0 ++ cP K (va_up nt i qa) (va_up sc i u) (i + 1)) H1 := by rw [← e8']; exact hP
      have hD3 := hD2.weaken (B := A) (fun _ _ _ h => hFc _ h)
      have hD : va_D A (cW K h0 q1 q2 q3 q4 q5 nt ar i 0 ++ cP K (va_up nt i qa) (va_up sc i u) (i + 1)) := by rw [← e8']; exact hD3
      have hin1 : vp_in x1 24 := by rw [ex1]; exact vp_in_nI hlt (by decide)
      have hcl : x1.toNatClampNeg = i := by rw [ex1]; exact nI_clamp (by omega)
      have hv : (cW K h0 q1 q2 q3 q4 q5 nt ar i 0 ++ cP K (va_up nt i qa) (va_up sc i u) (i + 1))[(cW K h0 q1 q2 q3 q4 q5 nt ar i 0 ++ cP K nt sc i).length]? = some (qa, (.inr (1, zN (.ref u)) : va_E)) := by
        rw [← e8', e8, List.append_assoc]
        rw [List.getElem?_append_right (Nat.le_refl _), Nat.sub_self]
        rfl
      refine va_astq hx hb hK hP hD hS 1 1 (cW K h0 q1 q2 q3 q4 q5 nt ar i 0 ++ cP K nt sc i).length 1 (r := (RX1, TX1, 7)) (f := cRf nt i) (n := 24) rfl rfl hv rfl hin1 dX2_init_104 (fun H locs hP hD hS => ?_)
      rw [hcl, cRf_succ] at hP hD
      obtain ⟨x2, ex2⟩ : ∃ y : Int32, y = x1 + 1 := ⟨_, rfl⟩
      refine lv_iinc (v := x2) (lv' := [(1, .int x2), (0, .ref h0)]) hx hb dX2_init_105 hl (k := 1) rfl (by rw [ex2]; rfl) (by decide) rfl (fun ls hl => ?_)
      refine lv_goto (tgt := 86) hx hb dX2_init_108 (by decide) ?_
      refine W.widen (k := 5 + 2 * (i + 1)) (n := 4650 + 71 * (i + 1)) (by omega) (by omega) ?_
      exact ih (i + 1) x2 (va_up nt i qa) (va_up sc i u) hlt (by omega) (by rw [ex2, ex1]; exact nI_1 i) _ _ _ hP hD hS (lv_sub hl [1, 0] rfl)
end CX2
set_option maxHeartbeats 4000000 in
set_option maxRecDepth 100000 in
theorem c_X2_init (l : Launch) (D : va_G) (K : Nat → ClassId) (h0 sz : Nat) : Met l yX2_init wsX2_init rX2i (va_Pc [.ref h0] (fun U => U.heap.size = sz ∧ va_P D vwCl [(h0, .inr (2, [.null, .int 0, .int 0, .null, .int 0, .null, .int 0, .null, .null, .int 0, .int 0]))] U.heap ∧ gE0 D K U ∧ va_D (fun _ => True) [(h0, .inr (2, [.null, .int 0, .int 0, .null, .int 0, .null, .int 0, .null, .null, .int 0, .int 0]))])) (va_Qv (fun _ : cU => True) (at_X2_init D K (va_A [(h0, .inr (2, [.null, .int 0, .int 0, .null, .int 0, .null, .int 0, .null, .null, .int 0, .int 0]))] sz) h0) (va_A [(h0, .inr (2, [.null, .int 0, .int 0, .null, .int 0, .null, .int 0, .null, .null, .int 0, .int 0]))] sz)) 565 10962 (va_A [(h0, .inr (2, [.null, .int 0, .int 0, .null, .int 0, .null, .int 0, .null, .null, .int 0, .int 0]))] sz) := by
  refine Met.ofW (cc := cX2_init) (maxL := 2) (ret := none) (by decide) rfl ?_
  intro p e s m args below meth c s₁ B hml hv
  obtain ⟨rfl, hsz, hP, hE, hD0⟩ := hv
  have hx := B.exec
  have hb := B.bytes
  have hr := B.returns
  have hts := atoms_spec (ws := wsX2_init) B.pre
  have hq : ∀ w ∈ gW, w.before _ s = true := fun w h => hts w (List.mem_cons_of_mem _ h)
  have hown : s.vm.findClass RX2 = some m.cls := findClass_of_methodNamed B.named
  have hlocks := B.notSynchronized
  have hin : meth.name = "<init>" := (name_of_methodNamed B.named B.method).1
  subst hsz
  have hD := hD0.self (sz := s.heap.size)
  generalize hAe : va_A [(h0, .inr (2, [.null, .int 0, .int 0, .null, .int 0, .null, .int 0, .null, .null, .int 0, .int 0]))] s.heap.size = A at hD ⊢
  have hA : ∀ q : Nat, s.heap.size ≤ q → A q := fun q h => by rw [← hAe]; exact Or.inr h
  have hS : va_S A s.heap s.heap [] := va_S.rf
  have hK := hE.1
  have hl := lv_entry ([.ref h0]) (n := 2) (Nat.le_of_ble_eq_true rfl)
  rw [lg_entry_eq]
  generalize (lg_sl ([.ref h0]) ++ List.replicate (2 - (lg_sl ([.ref h0])).length) Slot.unset).toArray = ls at hl ⊢
  have hl : lv_has ls 2 [(0, .ref h0)] := hl
  refine lv_aload_n hx hb dX2_init_0 rfl (lv_at hl 0 rfl) ?_
  refine W.objInit hx hb hown (hq _ q_36) (hq _ q_37) (hq _ q_38) rfl (by rw [hml]; exact hl.1) rfl dX2_init_1 (Nat.le_of_ble_eq_true rfl) (Nat.le_of_ble_eq_true rfl) ?_
  refine W.eq (g2 := F0 m 4 ls []) rfl ?_
  refine lv_aload_n hx hb dX2_init_4 rfl (lv_at hl 0 rfl) ?_
  refine lv_bipush (v := 24) hx hb dX2_init_5 (by decide) ?_
  refine va_newq (C := "WireBench$Net") hx hb hown (hq _ q_39) hE.2.2.1 hK hP hD hS hA (n := 24) (N' := 24) (by decide) (by decide) (by decide) (by show _ ≤ 565; omega) (by show _ ≤ 10962; omega) dX2_init_7 (fun q1 cA H hK7 hP hD hS => ?_)
  cases (gK_one (i := 6) (j := 1) hK7 rfl rfl : cA = K 1)
  have hP : va_P D vwCl [(h0, .inr (2, [.null, .int 0, .int 0, .null, .int 0, .null, .int 0, .null, .null, .int 0, .int 0])), (q1, .inl (K 1, 24, .inr (.inr (.inr (.inr (fun _ => none))))))] H := hP
  have hD : va_D A [(h0, .inr (2, [.null, .int 0, .int 0, .null, .int 0, .null, .int 0, .null, .null, .int 0, .int 0])), (q1, .inl (K 1, 24, .inr (.inr (.inr (.inr (fun _ => none))))))] := hD
  refine W.widen (k := 1) (n := 24) (by omega) (by omega) ?_
  refine va_putF (D := D) (ci := 2) (v := .ref q1) (ty := .array (.object "WireBench$Net")) (C := RX2) (T := TX2) (N := 11) hx hb hq hin_X2 tyX2 tyX2_ok nmX2 hown hK hP hD hS 0 rfl rfl 0 (by decide) (hq _ q_118) (fun _ h9 => h9) rfl hin rfl (by decide +kernel) rfl rfl (Nat.le_of_ble_eq_true rfl) dX2_init_10 (fun H locs hP hD hS => ?_)
  have hP : va_P D vwCl [(h0, .inr (2, [.ref q1, .int 0, .int 0, .null, .int 0, .null, .int 0, .null, .null, .int 0, .int 0])), (q1, .inl (K 1, 24, .inr (.inr (.inr (.inr (fun _ => none))))))] H := hP
  have hD : va_D A [(h0, .inr (2, [.ref q1, .int 0, .int 0, .null, .int 0, .null, .int 0, .null, .null, .int 0, .int 0])), (q1, .inl (K 1, 24, .inr (.inr (.inr (.inr (fun _ => none))))))] := hD
  refine lv_aload_n hx hb dX2_init_13 rfl (lv_at hl 0 rfl) ?_
  refine lv_iconst (v := 0) hx hb dX2_init_14 (by decide) ?_
  refine va_put (D := D) (ci := 2) (v := .int 0) (ty := .int) (C := RX2) (T := TX2) (N := 11) hx hb hq hin_X2 tyX2 tyX2_ok nmX2 hown hK hP hD hS 0 rfl rfl 1 (by decide) (hq _ q_119) (fun _ h9 => h9) rfl (by decide +kernel) rfl rfl (Nat.le_of_ble_eq_true rfl) dX2_init_15 (fun H locs hP hD hS => ?_)
  have hP : va_P D vwCl [(h0, .inr (2, [.ref q1, .int 0, .int 0, .null, .int 0, .null, .int 0, .null, .null, .int 0, .int 0])), (q1, .inl (K 1, 24, .inr (.inr (.inr (.inr (fun _ => none))))))] H := hP
  have hD : va_D A [(h0, .inr (2, [.ref q1, .int 0, .int 0, .null, .int 0, .null, .int 0, .null, .null, .int 0, .int 0])), (q1, .inl (K 1, 24, .inr (.inr (.inr (.inr (fun _ => none))))))] := hD
  refine lv_aload_n hx hb dX2_init_18 rfl (lv_at hl 0 rfl) ?_
  refine lv_iconst (v := 0) hx hb dX2_init_19 (by decide) ?_
  refine va_put (D := D) (ci := 2) (v := .int 0) (ty := .int) (C := RX2) (T := TX2) (N := 11) hx hb hq hin_X2 tyX2 tyX2_ok nmX2 hown hK hP hD hS 0 rfl rfl 2 (by decide) (hq _ q_120) (fun _ h9 => h9) rfl (by decide +kernel) rfl rfl (Nat.le_of_ble_eq_true rfl) dX2_init_20 (fun H locs hP hD hS => ?_)
  have hP : va_P D vwCl [(h0, .inr (2, [.ref q1, .int 0, .int 0, .null, .int 0, .null, .int 0, .null, .null, .int 0, .int 0])), (q1, .inl (K 1, 24, .inr (.inr (.inr (.inr (fun _ => none))))))] H := hP
  have hD : va_D A [(h0, .inr (2, [.ref q1, .int 0, .int 0, .null, .int 0, .null, .int 0, .null, .null, .int 0, .int 0])), (q1, .inl (K 1, 24, .inr (.inr (.inr (.inr (fun _ => none))))))] := hD
  refine lv_aload_n hx hb dX2_init_23 rfl (lv_at hl 0 rfl) ?_
  refine lv_sipush (v := 512) hx hb dX2_init_24 (by decide) ?_
  refine va_newq (C := "WireBench$Arrival") hx hb hown (hq _ q_41) hE.2.2.2 hK hP hD hS hA (n := 512) (N' := 512) (by decide) (by decide) (by decide) (by show _ ≤ 565; omega) (by show _ ≤ 10962; omega) dX2_init_27 (fun q2 cA H hK7 hP hD hS => ?_)
  cases (gK_one (i := 6) (j := 2) hK7 rfl rfl : cA = K 2)
  have hP : va_P D vwCl [(h0, .inr (2, [.ref q1, .int 0, .int 0, .null, .int 0, .null, .int 0, .null, .null, .int 0, .int 0])), (q1, .inl (K 1, 24, .inr (.inr (.inr (.inr (fun _ => none)))))), (q2, .inl (K 2, 512, .inr (.inr (.inr (.inr (fun _ => none))))))] H := hP
  have hD : va_D A [(h0, .inr (2, [.ref q1, .int 0, .int 0, .null, .int 0, .null, .int 0, .null, .null, .int 0, .int 0])), (q1, .inl (K 1, 24, .inr (.inr (.inr (.inr (fun _ => none)))))), (q2, .inl (K 2, 512, .inr (.inr (.inr (.inr (fun _ => none))))))] := hD
  refine W.widen (k := 2) (n := 536) (by omega) (by omega) ?_
  refine va_putF (D := D) (ci := 2) (v := .ref q2) (ty := .array (.object "WireBench$Arrival")) (C := RX2) (T := TX2) (N := 11) hx hb hq hin_X2 tyX2 tyX2_ok nmX2 hown hK hP hD hS 0 rfl rfl 3 (by decide) (hq _ q_121) (fun _ h9 => h9) rfl hin rfl (by decide +kernel) rfl rfl (Nat.le_of_ble_eq_true rfl) dX2_init_30 (fun H locs hP hD hS => ?_)
  have hP : va_P D vwCl [(h0, .inr (2, [.ref q1, .int 0, .int 0, .ref q2, .int 0, .null, .int 0, .null, .null, .int 0, .int 0])), (q1, .inl (K 1, 24, .inr (.inr (.inr (.inr (fun _ => none)))))), (q2, .inl (K 2, 512, .inr (.inr (.inr (.inr (fun _ => none))))))] H := hP
  have hD : va_D A [(h0, .inr (2, [.ref q1, .int 0, .int 0, .ref q2, .int 0, .null, .int 0, .null, .null, .int 0, .int 0])), (q1, .inl (K 1, 24, .inr (.inr (.inr (.inr (fun _ => none)))))), (q2, .inl (K 2, 512, .inr (.inr (.inr (.inr (fun _ => none))))))] := hD
  refine lv_aload_n hx hb dX2_init_33 rfl (lv_at hl 0 rfl) ?_
  refine lv_iconst (v := 0) hx hb dX2_init_34 (by decide) ?_
  refine va_put (D := D) (ci := 2) (v := .int 0) (ty := .int) (C := RX2) (T := TX2) (N := 11) hx hb hq hin_X2 tyX2 tyX2_ok nmX2 hown hK hP hD hS 0 rfl rfl 4 (by decide) (hq _ q_122) (fun _ h9 => h9) rfl (by decide +kernel) rfl rfl (Nat.le_of_ble_eq_true rfl) dX2_init_35 (fun H locs hP hD hS => ?_)
  have hP : va_P D vwCl [(h0, .inr (2, [.ref q1, .int 0, .int 0, .ref q2, .int 0, .null, .int 0, .null, .null, .int 0, .int 0])), (q1, .inl (K 1, 24, .inr (.inr (.inr (.inr (fun _ => none)))))), (q2, .inl (K 2, 512, .inr (.inr (.inr (.inr (fun _ => none))))))] H := hP
  have hD : va_D A [(h0, .inr (2, [.ref q1, .int 0, .int 0, .ref q2, .int 0, .null, .int 0, .null, .null, .int 0, .int 0])), (q1, .inl (K 1, 24, .inr (.inr (.inr (.inr (fun _ => none)))))), (q2, .inl (K 2, 512, .inr (.inr (.inr (.inr (fun _ => none))))))] := hD
  refine lv_aload_n hx hb dX2_init_38 rfl (lv_at hl 0 rfl) ?_
  refine va_new (ci := 0) (fs := z9) (C := RX0) (T := TX0) (N := 9) hx hb hq hin_X0 tyX0 tyX0_ok hown (hq _ q_41) (hq _ q_43) (hq _ q_21) hK hP hD hS hA rfl (fun j hj => by rcases (show j = 0 ∨ j = 1 ∨ j = 2 ∨ j = 3 ∨ j = 4 ∨ j = 5 ∨ j = 6 ∨ j = 7 ∨ j = 8 by omega) with rfl | rfl | rfl | rfl | rfl | rfl | rfl | rfl | rfl <;> rfl) (by show _ ≤ 565; omega) (by show _ ≤ 10962; omega) dX2_init_39 (fun q4 H hP hD hS => ?_)
  have hP : va_P D vwCl [(h0, .inr (2, [.ref q1, .int 0, .int 0, .ref q2, .int 0, .null, .int 0, .null, .null, .int 0, .int 0])), (q1, .inl (K 1, 24, .inr (.inr (.inr (.inr (fun _ => none)))))), (q2, .inl (K 2, 512, .inr (.inr (.inr (.inr (fun _ => none)))))), (q4, .inr (0, z9))] H := hP
  have hD : va_D A [(h0, .inr (2, [.ref q1, .int 0, .int 0, .ref q2, .int 0, .null, .int 0, .null, .null, .int 0, .int 0])), (q1, .inl (K 1, 24, .inr (.inr (.inr (.inr (fun _ => none)))))), (q2, .inl (K 2, 512, .inr (.inr (.inr (.inr (fun _ => none)))))), (q4, .inr (0, z9))] := hD
  refine W.widen (k := 3) (n := 545) (by omega) (by omega) ?_
  refine lv_dup hx hb dX2_init_42 rfl ?_
  have he : ([(h0, .inr (2, [.ref q1, .int 0, .int 0, .ref q2, .int 0, .null, .int 0, .null, .null, .int 0, .int 0])), (q1, .inl (K 1, 24, .inr (.inr (.inr (.inr (fun _ => none)))))), (q2, .inl (K 2, 512, .inr (.inr (.inr (.inr (fun _ => none)))))), (q4, .inr (0, z9))] : va_W)[3]? = some (q4, (.inr (0, z9) : va_E)) := rfl
  have hFc := cFree hD hS hA
  refine va_callv (va_runIN (As := []) (rest := [.ref q4, .ref h0]) ⟨hx, hb, hml, hown, hts⟩ (c_X0_init l D K _ _ q4 H.size he) ⟨va_cnB 0 hts (gGood gCons (gCode q_46)) rfl rfl rfl (hE.2.1 ("WireBench", 31, yX0_init, "WireBench") (by decide +kernel)) (hq _ q_21) (by decide +kernel) ⟨Nat.le_of_ble_eq_true rfl, Nat.le_of_ble_eq_true rfl⟩, rfl, hq _ q_45⟩ (cPre hK hP hD) rfl rfl hl.1 rfl (lv_room (Nat.le_of_ble_eq_true rfl)) dX2_init_43 ⟨by show _ ≤ 565; omega, by show _ ≤ 10962; omega⟩) hS (fun q _ h => hFc q h) hFc (fun u t H1 locs ht hvm hw hB hz1 hk1 hS => ?_)
  obtain ⟨hP, hD2⟩ := hB
  rw [ht] at hP
  have hD := hD2.weaken (B := A) (fun _ _ _ h => hFc _ h)
  generalize H1 = H at hP hS ⊢
  have hP : va_P D vwCl [(h0, .inr (2, [.ref q1, .int 0, .int 0, .ref q2, .int 0, .null, .int 0, .null, .null, .int 0, .int 0])), (q1, .inl (K 1, 24, .inr (.inr (.inr (.inr (fun _ => none)))))), (q2, .inl (K 2, 512, .inr (.inr (.inr (.inr (fun _ => none)))))), (q4, .inr (0, z9))] H := hP
  have hD : va_D A [(h0, .inr (2, [.ref q1, .int 0, .int 0, .ref q2, .int 0, .null, .int 0, .null, .null, .int 0, .int 0])), (q1, .inl (K 1, 24, .inr (.inr (.inr (.inr (fun _ => none)))))), (q2, .inl (K 2, 512, .inr (.inr (.inr (.inr (fun _ => none)))))), (q4, .inr (0, z9))] := hD
  refine W.widen (k := 3) (n := 545) (by omega) (by omega) ?_
  refine va_put (D := D) (ci := 2) (v := .ref q4) (ty := .object "WireBench$Arrival") (C := RX2) (T := TX2) (N := 11) hx hb hq hin_X2 tyX2 tyX2_ok nmX2 hown hK hP hD hS 0 rfl rfl 5 (by decide) (hq _ q_123) (fun _ h9 => h9) rfl (by decide +kernel) rfl rfl (Nat.le_of_ble_eq_true rfl) dX2_init_46 (fun H locs hP hD hS => ?_)
  have hP : va_P D vwCl [(h0, .inr (2, [.ref q1, .int 0, .int 0, .ref q2, .int 0, .ref q4, .int 0, .null, .null, .int 0, .int 0])), (q1, .inl (K 1, 24, .inr (.inr (.inr (.inr (fun _ => none)))))), (q2, .inl (K 2, 512, .inr (.inr (.inr (.inr (fun _ => none)))))), (q4, .inr (0, z9))] H := hP
  have hD : va_D A [(h0, .inr (2, [.ref q1, .int 0, .int 0, .ref q2, .int 0, .ref q4, .int 0, .null, .null, .int 0, .int 0])), (q1, .inl (K 1, 24, .inr (.inr (.inr (.inr (fun _ => none)))))), (q2, .inl (K 2, 512, .inr (.inr (.inr (.inr (fun _ => none)))))), (q4, .inr (0, z9))] := hD
  refine lv_aload_n hx hb dX2_init_49 rfl (lv_at hl 0 rfl) ?_
  refine lv_iconst (v := 0) hx hb dX2_init_50 (by decide) ?_
  refine va_put (D := D) (ci := 2) (v := .int 0) (ty := .boolean) (C := RX2) (T := TX2) (N := 11) hx hb hq hin_X2 tyX2 tyX2_ok nmX2 hown hK hP hD hS 0 rfl rfl 6 (by decide) (hq _ q_124) (fun _ h9 => h9) rfl (by decide +kernel) (by decide) (by decide) (Nat.le_of_ble_eq_true rfl) dX2_init_51 (fun H locs hP hD hS => ?_)
  have hP : va_P D vwCl [(h0, .inr (2, [.ref q1, .int 0, .int 0, .ref q2, .int 0, .ref q4, .int 0, .null, .null, .int 0, .int 0])), (q1, .inl (K 1, 24, .inr (.inr (.inr (.inr (fun _ => none)))))), (q2, .inl (K 2, 512, .inr (.inr (.inr (.inr (fun _ => none)))))), (q4, .inr (0, z9))] H := hP
  have hD : va_D A [(h0, .inr (2, [.ref q1, .int 0, .int 0, .ref q2, .int 0, .ref q4, .int 0, .null, .null, .int 0, .int 0])), (q1, .inl (K 1, 24, .inr (.inr (.inr (.inr (fun _ => none)))))), (q2, .inl (K 2, 512, .inr (.inr (.inr (.inr (fun _ => none)))))), (q4, .inr (0, z9))] := hD
  refine lv_aload_n hx hb dX2_init_54 rfl (lv_at hl 0 rfl) ?_
  refine va_new (ci := 0) (fs := z9) (C := RX0) (T := TX0) (N := 9) hx hb hq hin_X0 tyX0 tyX0_ok hown (hq _ q_41) (hq _ q_43) (hq _ q_21) hK hP hD hS hA rfl (fun j hj => by rcases (show j = 0 ∨ j = 1 ∨ j = 2 ∨ j = 3 ∨ j = 4 ∨ j = 5 ∨ j = 6 ∨ j = 7 ∨ j = 8 by omega) with rfl | rfl | rfl | rfl | rfl | rfl | rfl | rfl | rfl <;> rfl) (by show _ ≤ 565; omega) (by show _ ≤ 10962; omega) dX2_init_55 (fun q5 H hP hD hS => ?_)
  have hP : va_P D vwCl [(h0, .inr (2, [.ref q1, .int 0, .int 0, .ref q2, .int 0, .ref q4, .int 0, .null, .null, .int 0, .int 0])), (q1, .inl (K 1, 24, .inr (.inr (.inr (.inr (fun _ => none)))))), (q2, .inl (K 2, 512, .inr (.inr (.inr (.inr (fun _ => none)))))), (q4, .inr (0, z9)), (q5, .inr (0, z9))] H := hP
  have hD : va_D A [(h0, .inr (2, [.ref q1, .int 0, .int 0, .ref q2, .int 0, .ref q4, .int 0, .null, .null, .int 0, .int 0])), (q1, .inl (K 1, 24, .inr (.inr (.inr (.inr (fun _ => none)))))), (q2, .inl (K 2, 512, .inr (.inr (.inr (.inr (fun _ => none)))))), (q4, .inr (0, z9)), (q5, .inr (0, z9))] := hD
  refine W.widen (k := 4) (n := 554) (by omega) (by omega) ?_
  refine lv_dup hx hb dX2_init_58 rfl ?_
  have he : ([(h0, .inr (2, [.ref q1, .int 0, .int 0, .ref q2, .int 0, .ref q4, .int 0, .null, .null, .int 0, .int 0])), (q1, .inl (K 1, 24, .inr (.inr (.inr (.inr (fun _ => none)))))), (q2, .inl (K 2, 512, .inr (.inr (.inr (.inr (fun _ => none)))))), (q4, .inr (0, z9)), (q5, .inr (0, z9))] : va_W)[4]? = some (q5, (.inr (0, z9) : va_E)) := rfl
  have hFc := cFree hD hS hA
  refine va_callv (va_runIN (As := []) (rest := [.ref q5, .ref h0]) ⟨hx, hb, hml, hown, hts⟩ (c_X0_init l D K _ _ q5 H.size he) ⟨va_cnB 0 hts (gGood gCons (gCode q_46)) rfl rfl rfl (hE.2.1 ("WireBench", 31, yX0_init, "WireBench") (by decide +kernel)) (hq _ q_21) (by decide +kernel) ⟨Nat.le_of_ble_eq_true rfl, Nat.le_of_ble_eq_true rfl⟩, rfl, hq _ q_45⟩ (cPre hK hP hD) rfl rfl hl.1 rfl (lv_room (Nat.le_of_ble_eq_true rfl)) dX2_init_59 ⟨by show _ ≤ 565; omega, by show _ ≤ 10962; omega⟩) hS (fun q _ h => hFc q h) hFc (fun u t H1 locs ht hvm hw hB hz1 hk1 hS => ?_)
  obtain ⟨hP, hD2⟩ := hB
  rw [ht] at hP
  have hD := hD2.weaken (B := A) (fun _ _ _ h => hFc _ h)
  generalize H1 = H at hP hS ⊢
  have hP : va_P D vwCl [(h0, .inr (2, [.ref q1, .int 0, .int 0, .ref q2, .int 0, .ref q4, .int 0, .null, .null, .int 0, .int 0])), (q1, .inl (K 1, 24, .inr (.inr (.inr (.inr (fun _ => none)))))), (q2, .inl (K 2, 512, .inr (.inr (.inr (.inr (fun _ => none)))))), (q4, .inr (0, z9)), (q5, .inr (0, z9))] H := hP
  have hD : va_D A [(h0, .inr (2, [.ref q1, .int 0, .int 0, .ref q2, .int 0, .ref q4, .int 0, .null, .null, .int 0, .int 0])), (q1, .inl (K 1, 24, .inr (.inr (.inr (.inr (fun _ => none)))))), (q2, .inl (K 2, 512, .inr (.inr (.inr (.inr (fun _ => none)))))), (q4, .inr (0, z9)), (q5, .inr (0, z9))] := hD
  refine W.widen (k := 4) (n := 554) (by omega) (by omega) ?_
  refine va_putF (D := D) (ci := 2) (v := .ref q5) (ty := .object "WireBench$Arrival") (C := RX2) (T := TX2) (N := 11) hx hb hq hin_X2 tyX2 tyX2_ok nmX2 hown hK hP hD hS 0 rfl rfl 7 (by decide) (hq _ q_125) (fun _ h9 => h9) rfl hin rfl (by decide +kernel) rfl rfl (Nat.le_of_ble_eq_true rfl) dX2_init_62 (fun H locs hP hD hS => ?_)
  have hP : va_P D vwCl [(h0, .inr (2, [.ref q1, .int 0, .int 0, .ref q2, .int 0, .ref q4, .int 0, .ref q5, .null, .int 0, .int 0])), (q1, .inl (K 1, 24, .inr (.inr (.inr (.inr (fun _ => none)))))), (q2, .inl (K 2, 512, .inr (.inr (.inr (.inr (fun _ => none)))))), (q4, .inr (0, z9)), (q5, .inr (0, z9))] H := hP
  have hD : va_D A [(h0, .inr (2, [.ref q1, .int 0, .int 0, .ref q2, .int 0, .ref q4, .int 0, .ref q5, .null, .int 0, .int 0])), (q1, .inl (K 1, 24, .inr (.inr (.inr (.inr (fun _ => none)))))), (q2, .inl (K 2, 512, .inr (.inr (.inr (.inr (fun _ => none)))))), (q4, .inr (0, z9)), (q5, .inr (0, z9))] := hD
  refine lv_aload_n hx hb dX2_init_65 rfl (lv_at hl 0 rfl) ?_
  refine lv_sipush (v := 4096) hx hb dX2_init_66 (by decide) ?_
  refine va_newa (atype := .byte) hx hb (hq _ q_117) (ty := .byte) rfl hK hP hD hS hA (n := 4096) (N' := 4096) (a0 := (4096, .inl (fun _ => 0))) (fun cA => rfl) (by decide) (by decide) (by decide) (by show _ ≤ 565; omega) (by show _ ≤ 10962; omega) dX2_init_69 (fun q3 cA H hK7 hP hD hS => ?_)
  cases (gK_one (i := 6) (j := 0) hK7 rfl rfl : cA = K 0)
  have hP : va_P D vwCl [(h0, .inr (2, [.ref q1, .int 0, .int 0, .ref q2, .int 0, .ref q4, .int 0, .ref q5, .null, .int 0, .int 0])), (q1, .inl (K 1, 24, .inr (.inr (.inr (.inr (fun _ => none)))))), (q2, .inl (K 2, 512, .inr (.inr (.inr (.inr (fun _ => none)))))), (q4, .inr (0, z9)), (q5, .inr (0, z9)), (q3, .inl (K 0, 4096, .inl (fun _ => 0)))] H := hP
  have hD : va_D A [(h0, .inr (2, [.ref q1, .int 0, .int 0, .ref q2, .int 0, .ref q4, .int 0, .ref q5, .null, .int 0, .int 0])), (q1, .inl (K 1, 24, .inr (.inr (.inr (.inr (fun _ => none)))))), (q2, .inl (K 2, 512, .inr (.inr (.inr (.inr (fun _ => none)))))), (q4, .inr (0, z9)), (q5, .inr (0, z9)), (q3, .inl (K 0, 4096, .inl (fun _ => 0)))] := hD
  refine W.widen (k := 5) (n := 4650) (by omega) (by omega) ?_
  refine va_putF (D := D) (ci := 2) (v := .ref q3) (ty := .array .byte) (C := RX2) (T := TX2) (N := 11) hx hb hq hin_X2 tyX2 tyX2_ok nmX2 hown hK hP hD hS 0 rfl rfl 8 (by decide) (hq _ q_126) (fun _ h9 => h9) rfl hin rfl (by decide +kernel) rfl rfl (Nat.le_of_ble_eq_true rfl) dX2_init_71 (fun H locs hP hD hS => ?_)
  have hP : va_P D vwCl [(h0, .inr (2, [.ref q1, .int 0, .int 0, .ref q2, .int 0, .ref q4, .int 0, .ref q5, .ref q3, .int 0, .int 0])), (q1, .inl (K 1, 24, .inr (.inr (.inr (.inr (fun _ => none)))))), (q2, .inl (K 2, 512, .inr (.inr (.inr (.inr (fun _ => none)))))), (q4, .inr (0, z9)), (q5, .inr (0, z9)), (q3, .inl (K 0, 4096, .inl (fun _ => 0)))] H := hP
  have hD : va_D A [(h0, .inr (2, [.ref q1, .int 0, .int 0, .ref q2, .int 0, .ref q4, .int 0, .ref q5, .ref q3, .int 0, .int 0])), (q1, .inl (K 1, 24, .inr (.inr (.inr (.inr (fun _ => none)))))), (q2, .inl (K 2, 512, .inr (.inr (.inr (.inr (fun _ => none)))))), (q4, .inr (0, z9)), (q5, .inr (0, z9)), (q3, .inl (K 0, 4096, .inl (fun _ => 0)))] := hD
  refine lv_aload_n hx hb dX2_init_74 rfl (lv_at hl 0 rfl) ?_
  refine lv_iconst (v := 0) hx hb dX2_init_75 (by decide) ?_
  refine va_put (D := D) (ci := 2) (v := .int 0) (ty := .int) (C := RX2) (T := TX2) (N := 11) hx hb hq hin_X2 tyX2 tyX2_ok nmX2 hown hK hP hD hS 0 rfl rfl 9 (by decide) (hq _ q_127) (fun _ h9 => h9) rfl (by decide +kernel) rfl rfl (Nat.le_of_ble_eq_true rfl) dX2_init_76 (fun H locs hP hD hS => ?_)
  have hP : va_P D vwCl [(h0, .inr (2, [.ref q1, .int 0, .int 0, .ref q2, .int 0, .ref q4, .int 0, .ref q5, .ref q3, .int 0, .int 0])), (q1, .inl (K 1, 24, .inr (.inr (.inr (.inr (fun _ => none)))))), (q2, .inl (K 2, 512, .inr (.inr (.inr (.inr (fun _ => none)))))), (q4, .inr (0, z9)), (q5, .inr (0, z9)), (q3, .inl (K 0, 4096, .inl (fun _ => 0)))] H := hP
  have hD : va_D A [(h0, .inr (2, [.ref q1, .int 0, .int 0, .ref q2, .int 0, .ref q4, .int 0, .ref q5, .ref q3, .int 0, .int 0])), (q1, .inl (K 1, 24, .inr (.inr (.inr (.inr (fun _ => none)))))), (q2, .inl (K 2, 512, .inr (.inr (.inr (.inr (fun _ => none)))))), (q4, .inr (0, z9)), (q5, .inr (0, z9)), (q3, .inl (K 0, 4096, .inl (fun _ => 0)))] := hD
  refine lv_aload_n hx hb dX2_init_79 rfl (lv_at hl 0 rfl) ?_
  refine lv_iconst (v := 0) hx hb dX2_init_80 (by decide) ?_
  refine va_put (D := D) (ci := 2) (v := .int 0) (ty := .int) (C := RX2) (T := TX2) (N := 11) hx hb hq hin_X2 tyX2 tyX2_ok nmX2 hown hK hP hD hS 0 rfl rfl 10 (by decide) (hq _ q_128) (fun _ h9 => h9) rfl (by decide +kernel) rfl rfl (Nat.le_of_ble_eq_true rfl) dX2_init_81 (fun H locs hP hD hS => ?_)
  have hP : va_P D vwCl [(h0, .inr (2, [.ref q1, .int 0, .int 0, .ref q2, .int 0, .ref q4, .int 0, .ref q5, .ref q3, .int 0, .int 0])), (q1, .inl (K 1, 24, .inr (.inr (.inr (.inr (fun _ => none)))))), (q2, .inl (K 2, 512, .inr (.inr (.inr (.inr (fun _ => none)))))), (q4, .inr (0, z9)), (q5, .inr (0, z9)), (q3, .inl (K 0, 4096, .inl (fun _ => 0)))] H := hP
  have hD : va_D A [(h0, .inr (2, [.ref q1, .int 0, .int 0, .ref q2, .int 0, .ref q4, .int 0, .ref q5, .ref q3, .int 0, .int 0])), (q1, .inl (K 1, 24, .inr (.inr (.inr (.inr (fun _ => none)))))), (q2, .inl (K 2, 512, .inr (.inr (.inr (.inr (fun _ => none)))))), (q4, .inr (0, z9)), (q5, .inr (0, z9)), (q3, .inl (K 0, 4096, .inl (fun _ => 0)))] := hD
  refine lv_iconst (v := 0) hx hb dX2_init_84 (by decide) ?_
  refine lv_istore_n (lv' := [(1, .int 0), (0, .ref h0)]) hx hb dX2_init_85 rfl hl (by decide) rfl (fun ls hl => ?_)
  exact L_X2_init_86 hx hb hr hml hown hts hlocks hA hE h0 q1 q2 q3 q4 q5 (fun _ => 0) 25 0 0 (fun _ => 0) (fun _ => 0) (by omega) (by omega) nI_0.symm _ _ _ hP hD hS (lv_sub hl [1, 0] rfl)

section
-- ===== PART A: goes FIRST, ahead of the names: the tables' words, and 'selects' of the private methods out of them =====
/-- a private method of a class that the tables say can be made, by its rows of tables_1 -/
def lw_okq (q : MethodName × Nat) : Prop := (q.1.cls ≠ "java/lang/invoke/MethodHandle" ∧ q.1.cls ≠ "java/lang/invoke/VarHandle") ∧ Cond.instantiable q.1.cls q.2 ∈ tables_1 ∧ Cond.privateMethod q.1 ∈ tables_1 ∧ Cond.instanceMethod q.1 ∈ tables_1
theorem lw_p0 : lw_okq (⟨"java/lang/Throwable", "fillInStackTrace", "(I)Ljava/lang/Throwable;"⟩, 6) := ⟨⟨by decide +kernel, by decide +kernel⟩, List.mem_of_getElem? (i := 189) (by decide +kernel), List.mem_of_getElem? (i := 187) (by decide +kernel), List.mem_of_getElem? (i := 188) (by decide +kernel)⟩
theorem lw_p1 : lw_okq (⟨"WireBench$Net", "open", "(II)V"⟩, 7) := ⟨⟨by decide +kernel, by decide +kernel⟩, List.mem_of_getElem? (i := 66) (by decide +kernel), List.mem_of_getElem? (i := 235) (by decide +kernel), List.mem_of_getElem? (i := 236) (by decide +kernel)⟩
theorem lw_p2 : lw_okq (⟨"WireBench", "netNumbered", "(I)LWireBench$Net;"⟩, 11) := ⟨⟨by decide +kernel, by decide +kernel⟩, List.mem_of_getElem? (i := 13) (by decide +kernel), List.mem_of_getElem? (i := 246) (by decide +kernel), List.mem_of_getElem? (i := 247) (by decide +kernel)⟩
theorem lw_p3 : lw_okq (⟨"WireBench", "loseArrivalsOf", "(I)I"⟩, 11) := ⟨⟨by decide +kernel, by decide +kernel⟩, List.mem_of_getElem? (i := 13) (by decide +kernel), List.mem_of_getElem? (i := 251) (by decide +kernel), List.mem_of_getElem? (i := 252) (by decide +kernel)⟩
theorem lw_p4 : lw_okq (⟨"WireBench$Net", "addFate", "(I)V"⟩, 7) := ⟨⟨by decide +kernel, by decide +kernel⟩, List.mem_of_getElem? (i := 66) (by decide +kernel), List.mem_of_getElem? (i := 264) (by decide +kernel), List.mem_of_getElem? (i := 265) (by decide +kernel)⟩
theorem lw_p5 : lw_okq (⟨"WireBench", "sendPayload", "(LWireBench$Net;)I"⟩, 11) := ⟨⟨by decide +kernel, by decide +kernel⟩, List.mem_of_getElem? (i := 13) (by decide +kernel), List.mem_of_getElem? (i := 293) (by decide +kernel), List.mem_of_getElem? (i := 294) (by decide +kernel)⟩
theorem lw_p6 : lw_okq (⟨"WireBench", "sendPiece", "(LWireBench$Net;II)V"⟩, 11) := ⟨⟨by decide +kernel, by decide +kernel⟩, List.mem_of_getElem? (i := 13) (by decide +kernel), List.mem_of_getElem? (i := 297) (by decide +kernel), List.mem_of_getElem? (i := 298) (by decide +kernel)⟩
theorem lw_p7 : lw_okq (⟨"WireBench$Net", "takeFate", "()I"⟩, 7) := ⟨⟨by decide +kernel, by decide +kernel⟩, List.mem_of_getElem? (i := 66) (by decide +kernel), List.mem_of_getElem? (i := 301) (by decide +kernel), List.mem_of_getElem? (i := 302) (by decide +kernel)⟩
theorem lw_p8 : lw_okq (⟨"WireBench", "meetFate", "(II)V"⟩, 11) := ⟨⟨by decide +kernel, by decide +kernel⟩, List.mem_of_getElem? (i := 13) (by decide +kernel), List.mem_of_getElem? (i := 305) (by decide +kernel), List.mem_of_getElem? (i := 306) (by decide +kernel)⟩
theorem lw_p9 : lw_okq (⟨"WireBench", "arriveBehind", "(I)V"⟩, 11) := ⟨⟨by decide +kernel, by decide +kernel⟩, List.mem_of_getElem? (i := 13) (by decide +kernel), List.mem_of_getElem? (i := 309) (by decide +kernel), List.mem_of_getElem? (i := 310) (by decide +kernel)⟩
theorem lw_p10 : lw_okq (⟨"WireBench$Arrival", "copyFrom", "(LWireBench$Arrival;)V"⟩, 9) := ⟨⟨by decide +kernel, by decide +kernel⟩, List.mem_of_getElem? (i := 24) (by decide +kernel), List.mem_of_getElem? (i := 313) (by decide +kernel), List.mem_of_getElem? (i := 314) (by decide +kernel)⟩
theorem lw_p11 : lw_okq (⟨"WireBench$Net", "pieceSize", "()I"⟩, 7) := ⟨⟨by decide +kernel, by decide +kernel⟩, List.mem_of_getElem? (i := 66) (by decide +kernel), List.mem_of_getElem? (i := 317) (by decide +kernel), List.mem_of_getElem? (i := 318) (by decide +kernel)⟩
theorem lw_p12 : lw_okq (⟨"WireBench", "countDue", "()I"⟩, 11) := ⟨⟨by decide +kernel, by decide +kernel⟩, List.mem_of_getElem? (i := 13) (by decide +kernel), List.mem_of_getElem? (i := 337) (by decide +kernel), List.mem_of_getElem? (i := 338) (by decide +kernel)⟩
theorem lw_p13 : lw_okq (⟨"WireBenchModel", "isNet", "(I)Z"⟩, 19) := ⟨⟨by decide +kernel, by decide +kernel⟩, List.mem_of_getElem? (i := 388) (by decide +kernel), List.mem_of_getElem? (i := 468) (by decide +kernel), List.mem_of_getElem? (i := 469) (by decide +kernel)⟩
theorem lw_p14 : lw_okq (⟨"WireBenchModel", "remove", "(I)V"⟩, 19) := ⟨⟨by decide +kernel, by decide +kernel⟩, List.mem_of_getElem? (i := 388) (by decide +kernel), List.mem_of_getElem? (i := 472) (by decide +kernel), List.mem_of_getElem? (i := 473) (by decide +kernel)⟩
theorem lw_p15 : lw_okq (⟨"WireBenchModel", "frame", "(IIIIII)V"⟩, 19) := ⟨⟨by decide +kernel, by decide +kernel⟩, List.mem_of_getElem? (i := 388) (by decide +kernel), List.mem_of_getElem? (i := 490) (by decide +kernel), List.mem_of_getElem? (i := 491) (by decide +kernel)⟩
def lw_privs_1 : List (MethodName × Nat) := [(⟨"java/lang/Throwable", "fillInStackTrace", "(I)Ljava/lang/Throwable;"⟩, 6), (⟨"WireBench$Net", "open", "(II)V"⟩, 7), (⟨"WireBench", "netNumbered", "(I)LWireBench$Net;"⟩, 11), (⟨"WireBench", "loseArrivalsOf", "(I)I"⟩, 11), (⟨"WireBench$Net", "addFate", "(I)V"⟩, 7), (⟨"WireBench", "sendPayload", "(LWireBench$Net;)I"⟩, 11), (⟨"WireBench", "sendPiece", "(LWireBench$Net;II)V"⟩, 11), (⟨"WireBench$Net", "takeFate", "()I"⟩, 7), (⟨"WireBench", "meetFate", "(II)V"⟩, 11), (⟨"WireBench", "arriveBehind", "(I)V"⟩, 11), (⟨"WireBench$Arrival", "copyFrom", "(LWireBench$Arrival;)V"⟩, 9), (⟨"WireBench$Net", "pieceSize", "()I"⟩, 7), (⟨"WireBench", "countDue", "()I"⟩, 11), (⟨"WireBenchModel", "isNet", "(I)Z"⟩, 19), (⟨"WireBenchModel", "remove", "(I)V"⟩, 19), (⟨"WireBenchModel", "frame", "(IIIIII)V"⟩, 19)]
theorem lw_r1 : ∀ q ∈ lw_privs_1, lw_okq q := List.forall_mem_cons.mpr ⟨lw_p0, List.forall_mem_cons.mpr ⟨lw_p1, List.forall_mem_cons.mpr ⟨lw_p2, List.forall_mem_cons.mpr ⟨lw_p3, List.forall_mem_cons.mpr ⟨lw_p4, List.forall_mem_cons.mpr ⟨lw_p5, List.forall_mem_cons.mpr ⟨lw_p6, List.forall_mem_cons.mpr ⟨lw_p7, List.forall_mem_cons.mpr ⟨lw_p8, List.forall_mem_cons.mpr ⟨lw_p9, List.forall_mem_cons.mpr ⟨lw_p10, List.forall_mem_cons.mpr ⟨lw_p11, List.forall_mem_cons.mpr ⟨lw_p12, List.forall_mem_cons.mpr ⟨lw_p13, List.forall_mem_cons.mpr ⟨lw_p14, List.forall_mem_cons.mpr ⟨lw_p15, fun _ h => absurd h List.not_mem_nil⟩⟩⟩⟩⟩⟩⟩⟩⟩⟩⟩⟩⟩⟩⟩⟩
theorem lw_p16 : lw_okq (⟨"WireBenchModel", "nextFate", "(I)I"⟩, 19) := ⟨⟨by decide +kernel, by decide +kernel⟩, List.mem_of_getElem? (i := 388) (by decide +kernel), List.mem_of_getElem? (i := 494) (by decide +kernel), List.mem_of_getElem? (i := 495) (by decide +kernel)⟩
theorem lw_p17 : lw_okq (⟨"WireBenchModel", "add", "(IIIIIII)V"⟩, 19) := ⟨⟨by decide +kernel, by decide +kernel⟩, List.mem_of_getElem? (i := 388) (by decide +kernel), List.mem_of_getElem? (i := 498) (by decide +kernel), List.mem_of_getElem? (i := 499) (by decide +kernel)⟩
theorem lw_p18 : lw_okq (⟨"WireBenchModel", "due", "(I)I"⟩, 19) := ⟨⟨by decide +kernel, by decide +kernel⟩, List.mem_of_getElem? (i := 388) (by decide +kernel), List.mem_of_getElem? (i := 508) (by decide +kernel), List.mem_of_getElem? (i := 509) (by decide +kernel)⟩
def lw_privs_2 : List (MethodName × Nat) := [(⟨"WireBenchModel", "nextFate", "(I)I"⟩, 19), (⟨"WireBenchModel", "add", "(IIIIIII)V"⟩, 19), (⟨"WireBenchModel", "due", "(I)I"⟩, 19)]
theorem lw_r2 : ∀ q ∈ lw_privs_2, lw_okq q := List.forall_mem_cons.mpr ⟨lw_p16, List.forall_mem_cons.mpr ⟨lw_p17, List.forall_mem_cons.mpr ⟨lw_p18, fun _ h => absurd h List.not_mem_nil⟩⟩⟩
def lw_privs : List (MethodName × Nat) := lw_privs_1 ++ (lw_privs_2)
def lw_tbl : List Cond := k2_sels lw_privs ++ tables_1
theorem lw_privs_ok : ∀ q ∈ lw_privs, lw_okq q := by
  show ∀ q ∈ lw_privs_1 ++ (lw_privs_2), lw_okq q
  exact List.forall_mem_append.mpr ⟨lw_r1, lw_r2⟩
end
section
/-! ===== BEGIN words of one list among another's, by their places ===== -/
theorem goodIn_r {big : List Cond} (ws : List Cond) (ps : List Nat) (hp : ws = ps.filterMap (fun i => big[i]?)) (h : ws.all goodWord = true) : GoodIn big ws := by
  intro w hw
  have h1 := List.all_eq_true.mp h w hw
  rw [hp] at hw
  obtain ⟨i, -, hi⟩ := List.mem_filterMap.mp hw
  have hm : w ∈ big := by first | exact List.mem_of_getElem? hi | exact List.getElem?_mem hi
  exact ⟨hm, good_of_word h1⟩
theorem goodIn_app {big a b : List Cond} (ha : GoodIn big a) (hb : GoodIn big b) : GoodIn big (a ++ b) := fun w h => (List.mem_append.mp h).elim (ha w) (hb w)
theorem goodIn_ca {big a b : List Cond} {c : Cond} (ha : GoodIn big (c :: a)) (hb : GoodIn big b) : GoodIn big (c :: (a ++ b)) := fun w h => (List.mem_cons.mp h).elim (fun e => ha w (List.mem_cons.mpr (Or.inl e))) (fun h => (List.mem_append.mp h).elim (fun h => ha w (List.mem_cons.mpr (Or.inr h))) (hb w))
theorem goodIn_sub {big ws : List Cond} (hm : ∀ w ∈ ws, w ∈ big) (h : ws.all goodWord = true) : GoodIn big ws := fun w hw => ⟨hm w hw, good_of_word (List.all_eq_true.mp h w hw)⟩
/-! ===== END ===== -/

/-! ===== BEGIN exceptions that leave a method, and their catching by the caller (launches without stack traces) ===== -/
section VXA
/-! The laws vx_back, vx_callV, vx_callS, vx_callSW, vx_throw0, vx_throwS follow proofs of the library, with one case more: JvmDerived/Free/Laws.lean (Back.of_free), Shelf42/LK1.lean (callV, callS), Shelf/KitTraced.lean (throwNew0V, throwNewS). -/
/-- where a method has thrown q: the class by its name, the cell, what was written, the world -/
def vx_T (XC : String → State → State → Prop) (st : State) (q : Addr) (t : State) (mc ms : Nat) (free : Addr → Prop) : Prop :=
  ∃ (E : String) (ce : Cell) (L : List Loc), XC E st t ∧ t.heap[q]? = some ce ∧ ce.vm = .none ∧ st.vm.findClass E = some ce.cls ∧ st.WarmedH t.vm ∧ st.sameButNew ({ t with vm := st.vm } : State) L mc ms ∧ ∀ z ∈ L, free z.base
def vx_Q (Qc : Array Value → State → Outcome → State → Prop) (XC : String → State → State → Prop) (mc ms : Nat) (free : Addr → Prop) : Array Value → State → Outcome → State → Prop := fun a st o t =>
  (Qc a st o t ∧ ∃ L, FrameEnd st o t L mc ms ∧ ∀ q ∈ L, free q.base) ∨ ∃ q, o = .threw q ∧ vx_T XC st q t mc ms free
/-- a callee that returns or throws -/
def vx_Met (l : Launch) (y : MethodName) (ws : List Cond) (rm : Room) (Pc : Array Value → State → Prop) (Qc : Array Value → State → Outcome → State → Prop) (XC : String → State → State → Prop) (mc ms : Nat) (free : Addr → Prop) : Prop :=
  MetFree l y (headSpec ws rm) Pc (fun _ _ _ _ _ => True) (vx_Q Qc XC mc ms free)
def vx_Post (XC : String → State → State → Prop) (mc ms : Nat) (free : Addr → Prop) : Pt → Array Value → Addr → Pt → Prop := fun A a q B =>
  ∃ (g : JFrame) (mk : MethodId) (t : State) (L : List Loc) (E : String) (ce : Cell), B.U.heap = t.heap ∧ B.U.vm = t.vm ∧ XC E (A.U.calling g mk a) t ∧ t.heap[q]? = some ce ∧ ce.vm = .none ∧ A.U.vm.findClass E = some ce.cls ∧ B.locs = A.locs ++ L ∧ (∀ z ∈ L, free z.base) ∧ B.cells = A.cells + mc ∧ B.slots = A.slots + ms
def vx_Back (l : Launch) (R : Room) (p : Program) (e : Env) (below : List Frame) (s : State) (sargs : Array Value) (y : MethodName) (len W9 : Nat)
    (Pre : Pt → Array Value → Prop) (Post : Pt → Array Value → Option Value → Pt → Prop) (PostX : Pt → Array Value → Addr → Pt → Prop) : Prop :=
  ∀ (m : MethodId) (meth : Method) (c : Code) (A : Pt) (g : JFrame) (ig : Instr) (mk : MethodId) (a : Array Value),
    Stand p l e R s m sargs below meth c A.U A.locs A.cells A.slots → g.method = m → g.locals.size = c.maxLocals → decode c.code g.pc = .ok (ig, len) →
    2 * g.monitorRoom + (g.stack.map fun v => v.category).sum ≤ W9 → A.U.methodNamed? y = some mk → Pre A a →
    (∃ (v : Option Value) (B : Pt), Stand p l e R s m sargs below meth c B.U B.locs B.cells B.slots ∧ Post A a v B ∧
      Steps p.tables e below (doInvoke e (A.U.setTop g) [] mk a).1 (B.U.setTop { g with pc := g.pc + len, stack := v.toList ++ g.stack })) ∨
    (∃ (q : Addr) (B : Pt), Stand p l e R s m sargs below meth c B.U B.locs B.cells B.slots ∧ PostX A a q B ∧
      Steps p.tables e below (doInvoke e (A.U.setTop g) [] mk a).1 ((B.U.setTop g).pushFrame (.throwing q)))
section Payer
variable {l : Launch} {R : Room} {p : Program} {e : Env} {below : List Frame} {s : State} {sargs : Array Value} {y : MethodName} {len W9 : Nat}
theorem vx_back {ws : List Cond} {rm : Room} {Pc : Array Value → State → Prop} {Qc : Array Value → State → Outcome → State → Prop} {XC : String → State → State → Prop} {mc ms : Nat} {free : Addr → Prop} {bytes : ByteArray} {maxL : Nat} {ret : Option FieldType}
    (hM : vx_Met l y ws rm Pc Qc XC mc ms free) (hblind : FrameBlind Pc) (hrc : rm.cells = mc) (hrs : rm.slots = ms)
    (hframes : rm.frames + 1 ≤ R.frames) (hlocals : W9 + (maxL + 11) + rm.locals ≤ R.locals)
    (hws : ∀ w ∈ ws, ∀ a' U, s.WarmedH U.vm → w.before a' U = true) (hcode : Cond.code y bytes maxL ret ∈ ws) (hinit : ∀ a' U, s.WarmedH U.vm → (Cond.initialized y.cls).before a' U = true) :
    vx_Back l R p e below s sargs y len W9 (PreOf R mc ms Pc) (PostOf Qc mc ms free) (vx_Post XC mc ms free) := by
  intro m meth c A g ig mk a X hg hsize hdg hW hn hp
  have h1 : (headSpec ws rm).pre.before a A.U = true := atoms_intro fun w hw => hws w hw _ _ X.warmed
  have h2 : (Cond.code y bytes maxL ret).before a A.U = true := hws _ hcode _ _ X.warmed
  have h3 : (Cond.initialized y.cls).before a A.U = true := hinit _ _ X.warmed
  have h4 : A.cells + (headSpec ws rm).room.cells ≤ R.cells := by rw [show (headSpec ws rm).room.cells = mc from hrc]; exact hp.1
  have h5 : A.slots + (headSpec ws rm).room.slots ≤ R.slots := by rw [show (headSpec ws rm).room.slots = ms from hrs]; exact hp.2.1
  have hPc : Pc a (A.U.calling g mk a) := hblind _ _ _ _ hp.2.2
  obtain ⟨U, Ls, c0, s0⟩ := A
  dsimp only [Pt.U, Pt.locs, Pt.cells, Pt.slots] at h1 h2 h3 h4 h5 X hn hPc ⊢
  obtain ⟨methY, cY, hmY, hcY, -, hlY, -, -, -, -⟩ := Cond.code_spec hn h2
  obtain ⟨kY, hkY, -⟩ := className_of_methodNamed hn
  have hinitY : kY.init = .initialized := Cond.initialized_spec (findClass_of_methodNamed hn) hkY h3
  have h : At U g.method c below := by rw [hg]; exact X.here
  have hlocals9 : W9 + (maxL + 11) + (headSpec ws rm).room.locals ≤ R.locals := hlocals
  have happ : (headSpec ws rm).appliesLoose y e.platform (U.calling g mk a) = true :=
    Spec.appliesLoose_calling (g := g) h hdg hn hkY hinitY
      (X.room_calling (g := g) (R' := (headSpec ws rm).room) hsize hmY hcY hframes (by rw [hlY]; omega) h4 h5) h1
  obtain ⟨mid, hmid⟩ := h.above
  have hfr : (U.setTop g).frames = (.java g :: mid) ++ below := by rw [State.frames_setTop' g h.top, hmid]; rfl
  obtain ⟨o, s₂, hsteps, -, hend, hq⟩ := Steps.callFree hM p X.admits X.cas X.clock (acts := []) hfr happ hPc trivial
  have hq' : vx_Q Qc XC mc ms free a (U.calling g mk a) o s₂ := hq
  rw [State.frames_setTop' g h.top] at hend
  obtain ⟨g₀, hg0⟩ := Option.isSome_iff_exists.mp h.top
  obtain ⟨r, hr⟩ := State.topJava?_eq_some.mp hg0
  have hr' : (({ U with heap := s₂.heap, slotsUsed := s₂.slotsUsed } : State).setVm s₂.vm).frames = .java g₀ :: r := hr
  rcases hq' with ⟨hqc, L, hfe, hL⟩ | ⟨q, rfl, E, ce, L, hx, hce, hcv, hcl, hW₂, hsm, hL⟩
  · obtain ⟨⟨v, rfl⟩, hW₂, e2, q2, q3, q4, q5, q6⟩ := id hfe
    have e3 : s₂ = ({ (U.calling g mk a).setFrames s₂.frames with heap := s₂.heap, slotsUsed := s₂.slotsUsed } : State).setVm s₂.vm := by
      have : s₂ = ({ s₂ with vm := (U.calling g mk a).vm } : State).setVm s₂.vm := rfl
      rw [e2] at this
      exact this
    obtain ⟨c₂, i₂, len₂, hc₂, hd₂, hf₂⟩ := hend
    have hW' : U.WarmedH s₂.vm := hW₂
    have hcc : c₂ = c := by
      have h1 : s₂.code? g.method = U.code? g.method := by
        rw [State.code?_eq, State.code?_eq, hW'.alike.method?]
      exact Option.some.inj (hc₂.symm.trans (h1.trans h.code))
    subst hcc
    have hlen : len₂ = len := by rw [hdg] at hd₂; cases hd₂; rfl
    subst hlen
    have hs₂ : s₂ = (({ U with heap := s₂.heap, slotsUsed := s₂.slotsUsed } : State).setVm s₂.vm).setTop { g with pc := g.pc + len₂, stack := v.toList ++ g.stack } := by
      refine e3.trans ?_
      rw [hf₂, State.calling_eq h.top, State.setFrames_setFrames, State.setTop_of_frames _ hr', hr]
      rfl
    have hsame : U.sameButNew ({ U with heap := s₂.heap, slotsUsed := s₂.slotsUsed } : State) L mc ms := by
      refine ⟨?_, q2, q3, q4, q5, q6⟩
      obtain ⟨t, ht, -⟩ := State.frames_cons hr
      show ({ U with heap := s₂.heap, slotsUsed := s₂.slotsUsed } : State) = { U.setFrames U.frames with heap := s₂.heap, slotsUsed := s₂.slotsUsed }
      rw [State.setFrames_self ht]
    subst hg
    refine Or.inl ⟨v, ⟨(({ U with heap := s₂.heap, slotsUsed := s₂.slotsUsed } : State).setVm s₂.vm), Ls ++ L, c0 + mc, s0 + ms⟩,
      ⟨X.admits, X.cas, X.clock, X.frames, X.room, X.hears, X.method, X.code, (X.here.setHeapUsed s₂.heap s₂.slotsUsed).setVm hW'.alike, X.tail, State.WarmedH.trans X.warmed hW', X.limits, X.bytes, X.same.trans (hsame.setVm s.vm)⟩,
      ⟨g, mk, s₂, L, rfl, rfl, hqc, rfl, hL, rfl, rfl⟩, ?_⟩
    show Steps p.tables e below _ ((({ U with heap := s₂.heap, slotsUsed := s₂.slotsUsed } : State).setVm s₂.vm).setTop { g with pc := g.pc + len₂, stack := v.toList ++ g.stack })
    rw [← hs₂]
    exact hsteps
  · obtain ⟨e2, q2, q3, q4, q5, q6⟩ := id hsm
    have e3 : s₂ = ({ (U.calling g mk a).setFrames s₂.frames with heap := s₂.heap, slotsUsed := s₂.slotsUsed } : State).setVm s₂.vm := by
      have : s₂ = ({ s₂ with vm := (U.calling g mk a).vm } : State).setVm s₂.vm := rfl
      rw [e2] at this
      exact this
    have hf₂ : s₂.frames = .throwing q :: .java g :: U.frames.tail := hend
    have hW' : U.WarmedH s₂.vm := hW₂
    have hs₂ : s₂ = ((({ U with heap := s₂.heap, slotsUsed := s₂.slotsUsed } : State).setVm s₂.vm).setTop g).pushFrame (.throwing q) := by
      refine e3.trans ?_
      rw [hf₂, State.calling_eq h.top, State.setFrames_setFrames, State.pushFrame, State.frames_setTop _ hr', State.setTop_of_frames _ hr', State.setFrames_setFrames, hr]
      rfl
    have hsame : U.sameButNew ({ U with heap := s₂.heap, slotsUsed := s₂.slotsUsed } : State) L mc ms := by
      refine ⟨?_, q2, q3, q4, q5, q6⟩
      obtain ⟨t, ht, -⟩ := State.frames_cons hr
      show ({ U with heap := s₂.heap, slotsUsed := s₂.slotsUsed } : State) = { U.setFrames U.frames with heap := s₂.heap, slotsUsed := s₂.slotsUsed }
      rw [State.setFrames_self ht]
    subst hg
    refine Or.inr ⟨q, ⟨(({ U with heap := s₂.heap, slotsUsed := s₂.slotsUsed } : State).setVm s₂.vm), Ls ++ L, c0 + mc, s0 + ms⟩,
      ⟨X.admits, X.cas, X.clock, X.frames, X.room, X.hears, X.method, X.code, (X.here.setHeapUsed s₂.heap s₂.slotsUsed).setVm hW'.alike, X.tail, State.WarmedH.trans X.warmed hW', X.limits, X.bytes, X.same.trans (hsame.setVm s.vm)⟩,
      ⟨g, mk, s₂, L, E, ce, rfl, rfl, hx, hce, hcv, hcl, rfl, hL, rfl, rfl⟩, ?_⟩
    show Steps p.tables e below _ (((({ U with heap := s₂.heap, slotsUsed := s₂.slotsUsed } : State).setVm s₂.vm).setTop g).pushFrame (.throwing q))
    rw [← hs₂]
    exact hsteps
end Payer
section Calls
variable {p : Program} {l : Launch} {e : Env} {R : Room} {s : State} {m : MethodId} {args : Array Value} {below : List Frame} {meth : Method} {c : Code} {T : State} {locs : List Loc} {cells slots : Nat}
theorem vx_callV (X : Stand p l e R s m args below meth c T locs cells slots) (hexec : p.tables.exec = Jvm.exec) {own C : String} {index : Nat} {y : MethodName} {bytes : ByteArray} {maxL : Nat} {ret : Option FieldType}
    (hown : s.vm.findClass own = some m.cls) (hlink : (Cond.methodLink own index y).before args s = true) (hinst : (Cond.instanceMethod y).before args s = true) (hsel : (Cond.selects C y y).before args s = true)
    (hcode : (Cond.code y bytes maxL ret).before args s = true) (hy : y.cls ≠ "java/lang/invoke/MethodHandle" ∧ y.cls ≠ "java/lang/invoke/VarHandle")
    {W9 : Nat} {Pre : Pt → Array Value → Prop} {Post : Pt → Array Value → Option Value → Pt → Prop} {PostX : Pt → Array Value → Addr → Pt → Prop} (hK : vx_Back l R p e below s args y 3 W9 Pre Post PostX)
    {b : Addr} {cellB : Cell} (hcell : T.heap[b]? = some cellB) (hobj : cellB.vm.isStatics = false) (hcls : s.vm.findClass C = some cellB.cls)
    {g : JFrame} (hg : g.method = m) (hsize : g.locals.size = c.maxLocals) {argsL rest : List Value} (hlen : ∀ sig, parseMethodDescriptor y.desc = some sig → argsL.length = sig.parameters.length)
    (hstack : g.stack = argsL.reverse ++ .ref b :: rest) (hW : 2 * g.monitorRoom + (rest.map fun v => v.category).sum ≤ W9) (hdg : decode c.code g.pc = .ok (.invokevirtual index, 3))
    (hpre : ∀ vm₁, s.WarmedH vm₁ → Pre ⟨T.setVm vm₁, locs, cells, slots⟩ (Value.ref b :: argsL).toArray) :
    (∃ (v : Option Value) (vm₁ : Vm) (B : Pt), s.WarmedH vm₁ ∧ Stand p l e R s m args below meth c B.U B.locs B.cells B.slots ∧ Post ⟨T.setVm vm₁, locs, cells, slots⟩ (Value.ref b :: argsL).toArray v B ∧
      ∀ target, Steps p.tables e below (B.U.setTop { g with pc := g.pc + 3, stack := v.toList ++ rest }) target → Steps p.tables e below (T.setTop g) target) ∨
    (∃ (q : Addr) (vm₁ : Vm) (B : Pt), s.WarmedH vm₁ ∧ Stand p l e R s m args below meth c B.U B.locs B.cells B.slots ∧ PostX ⟨T.setVm vm₁, locs, cells, slots⟩ (Value.ref b :: argsL).toArray q B ∧
      Steps p.tables e below (T.setTop g) ((B.U.setTop { g with stack := rest }).pushFrame (.throwing q))) := by
  obtain ⟨mk, methM, hnamed, hmethM, hstM, habM⟩ := Cond.instanceMethod_spec hinst
  obtain ⟨methM', cM, hmethM', -, -, -, -, -, -, hsigM⟩ := Cond.code_spec hnamed hcode
  cases hmethM.symm.trans hmethM'
  obtain ⟨c2, r2, m2, q1, q2, q3, q4, kP, hkP, hkPi⟩ := Cond.selects_spec hsel
  cases hcls.symm.trans q1
  cases (State.methodFound?_of_named hnamed hy).symm.trans q2
  cases hnamed.symm.trans q3
  have hselP : selectMethod e.platform s.vm cellB.cls mk = .method mk := by rw [Launch.admits_selectMethod X.admits]; exact q4
  obtain ⟨vm₁, X₁, hstep₁⟩ := X.invokevirtual hexec hown hlink hnamed hmethM hstM hkP hkPi hy (a := b) (cell := cellB) hcell
    (fun z h => by rw [h] at hobj; cases hobj) hselP hmethM habM hkP hkPi (g := g) hg (argsL := argsL) (rest := rest) (hlen _ hsigM) hstack hdg
  rcases hK m meth c ⟨T.setVm vm₁, locs, cells, slots⟩ { g with stack := rest } (.invokevirtual index) mk (Value.ref b :: argsL).toArray X₁ hg hsize hdg hW (X₁.named hnamed) (hpre vm₁ X₁.warmed) with ⟨v, B, X', hpost, hsteps⟩ | ⟨q, B, X', hpost, hsteps⟩
  · exact Or.inl ⟨v, vm₁, B, X₁.warmed, X', hpost, fun target h => hstep₁ _ fun acts => by rw [doInvoke_state]; exact hsteps.trans h⟩
  · exact Or.inr ⟨q, vm₁, B, X₁.warmed, X', hpost, hstep₁ _ fun acts => by rw [doInvoke_state]; exact hsteps⟩
theorem vx_callS (X : Stand p l e R s m args below meth c T locs cells slots) (hexec : p.tables.exec = Jvm.exec) {own : String} {index : Nat} {y : MethodName} {bytes : ByteArray} {maxL : Nat} {ret : Option FieldType}
    (hown : s.vm.findClass own = some m.cls) (hlink : (Cond.methodLink own index y).before args s = true) (hstat : (Cond.static y).before args s = true) (hinit : (Cond.initialized y.cls).before args s = true)
    (hcode : (Cond.code y bytes maxL ret).before args s = true) (hy : y.cls ≠ "java/lang/invoke/MethodHandle" ∧ y.cls ≠ "java/lang/invoke/VarHandle")
    {W9 : Nat} {Pre : Pt → Array Value → Prop} {Post : Pt → Array Value → Option Value → Pt → Prop} {PostX : Pt → Array Value → Addr → Pt → Prop} (hK : vx_Back l R p e below s args y 3 W9 Pre Post PostX)
    {g : JFrame} (hg : g.method = m) (hsize : g.locals.size = c.maxLocals) {argsL rest : List Value} (hlen : ∀ sig, parseMethodDescriptor y.desc = some sig → argsL.length = sig.parameters.length)
    (hstack : g.stack = argsL.reverse ++ rest) (hW : 2 * g.monitorRoom + (rest.map fun v => v.category).sum ≤ W9) (hdg : decode c.code g.pc = .ok (.invokestatic index, 3))
    (hpre : ∀ vm₁, s.WarmedH vm₁ → Pre ⟨T.setVm vm₁, locs, cells, slots⟩ argsL.toArray) :
    (∃ (v : Option Value) (vm₁ : Vm) (B : Pt), s.WarmedH vm₁ ∧ Stand p l e R s m args below meth c B.U B.locs B.cells B.slots ∧ Post ⟨T.setVm vm₁, locs, cells, slots⟩ argsL.toArray v B ∧
      ∀ target, Steps p.tables e below (B.U.setTop { g with pc := g.pc + 3, stack := v.toList ++ rest }) target → Steps p.tables e below (T.setTop g) target) ∨
    (∃ (q : Addr) (vm₁ : Vm) (B : Pt), s.WarmedH vm₁ ∧ Stand p l e R s m args below meth c B.U B.locs B.cells B.slots ∧ PostX ⟨T.setVm vm₁, locs, cells, slots⟩ argsL.toArray q B ∧
      Steps p.tables e below (T.setTop g) ((B.U.setTop { g with stack := rest }).pushFrame (.throwing q))) := by
  obtain ⟨mk, hnamed⟩ := Cond.code_named hcode
  obtain ⟨methM, cM, hmethM, -, -, -, -, -, -, hsigM⟩ := Cond.code_spec hnamed hcode
  have hstatic : methM.isStatic = true := Cond.static_spec hnamed hmethM hstat
  obtain ⟨kP, hkP, -⟩ := className_of_methodNamed hnamed
  have hinitP : kP.init = .initialized := Cond.initialized_spec (findClass_of_methodNamed hnamed) hkP hinit
  obtain ⟨vm₁, X₁, hstep₁⟩ := X.invokestatic hexec hown hlink hnamed hmethM hstatic hkP hinitP hy (g := g) hg (argsL := argsL) (rest := rest) (hlen _ hsigM) hstack hdg
  rcases hK m meth c ⟨T.setVm vm₁, locs, cells, slots⟩ { g with stack := rest } (.invokestatic index) mk argsL.toArray X₁ hg hsize hdg hW (X₁.named hnamed) (hpre vm₁ X₁.warmed) with ⟨v, B, X', hpost, hsteps⟩ | ⟨q, B, X', hpost, hsteps⟩
  · exact Or.inl ⟨v, vm₁, B, X₁.warmed, X', hpost, fun target h => hstep₁ _ fun acts => by rw [doInvoke_state]; exact hsteps.trans h⟩
  · exact Or.inr ⟨q, vm₁, B, X₁.warmed, X', hpost, hstep₁ _ fun acts => by rw [doInvoke_state]; exact hsteps⟩
end Calls
theorem vx_cls {s : State} {T : State} {vm₁ : Vm} {E : String} {k : ClassId} (hW : s.WarmedH vm₁) (h : (T.setVm vm₁).vm.findClass E = some k) : s.vm.findClass E = some k := by
  have h1 : vm₁.findClass E = some k := h
  rw [hW.alike.findClass] at h1
  exact h1
/-- the method's frame g, with q thrown over it -/
def vx_W (p : Program) (l : Launch) (e : Env) (R : Room) (s : State) (m : MethodId) (args : Array Value) (below : List Frame) (meth : Method) (c : Code) (H : Heap) (locs : List Loc) (cells slots : Nat) (Q : State → Prop) (g : JFrame) (q : Addr) : Prop :=
  ∀ T : State, T.heap = H → Stand p l e R s m args below meth c T locs cells slots → ∃ t, Steps p.tables e below ((T.setTop g).pushFrame (.throwing q)) t ∧ Q t
def vx_Run (p : Program) (l : Launch) (e : Env) (R : Room) (s : State) (m : MethodId) (args : Array Value) (below : List Frame) (meth : Method) (c : Code) (H : Heap) (locs : List Loc) (cells slots mc ms : Nat) (g : JFrame) (rest : List Value) (Qa : State → Outcome → State → Prop) (XC : String → State → State → Prop) (free : Addr → Prop) : Prop :=
  ∀ T : State, T.heap = H → Stand p l e R s m args below meth c T locs cells slots →
    (∃ (v : Option Value) (st₀ t T' : State) (L : List Loc), st₀.heap = H ∧ Stand p l e R s m args below meth c T' (locs ++ L) (cells + mc) (slots + ms) ∧ (∀ q ∈ L, free q.base) ∧ T'.heap = t.heap ∧ T'.vm = t.vm ∧ Qa st₀ (.returned v) t ∧
      Goes p e below T g T' { g with pc := g.pc + 3, stack := v.toList ++ rest }) ∨
    (∃ (q : Addr) (st₀ t T' : State) (L : List Loc) (E : String) (ce : Cell), st₀.heap = H ∧ Stand p l e R s m args below meth c T' (locs ++ L) (cells + mc) (slots + ms) ∧ (∀ z ∈ L, free z.base) ∧ T'.heap = t.heap ∧ T'.vm = t.vm ∧ XC E st₀ t ∧ t.heap[q]? = some ce ∧ ce.vm = .none ∧ s.vm.findClass E = some ce.cls ∧
      Steps p.tables e below (T.setTop g) ((T'.setTop { g with stack := rest }).pushFrame (.throwing q)))
def vx_X {S : Type} (px : S → Prop) (B : String → S → State → Prop) (A : Nat → Prop) : String → State → State → Prop := fun E st t => ∃ u : S, px u ∧ B E u t ∧ va_F A st t
section Runs
variable {p : Program} {l : Launch} {e : Env} {R : Room} {s : State} {m : MethodId} {args : Array Value} {below : List Frame} {meth : Method} {c : Code} {H : Heap} {locs : List Loc} {cells slots : Nat}
variable {y : MethodName} {bytes cc : ByteArray} {maxL nL mc ms n index : Nat} {ret : Option FieldType} {ws : List Cond} {rm : Room} {Pc : Array Value → State → Prop} {Qc : Array Value → State → Outcome → State → Prop} {XC : String → State → State → Prop} {free : Addr → Prop} {Ts : List Cond} {own C : String} {b : Addr} {As rest : List Value} {g : JFrame}
theorem vx_callBack (cb : CallB R s args own index y bytes maxL ret ws rm mc ms n) (hM : vx_Met l y ws rm Pc Qc XC mc ms free) (hbl : FrameBlind Pc) : vx_Back l R p e below s args y 3 8 (PreOf R mc ms Pc) (PostOf Qc mc ms free) (vx_Post XC mc ms free) := by
  obtain ⟨hrc, hrs, hfr, hlo, hws, hcw, -, hini, -⟩ := cb
  exact vx_back (bytes := bytes) (maxL := maxL) (ret := ret) hM hbl hrc hrs hfr hlo hws hcw (fun a' U hW => word_at hW (Or.inl (by first | rfl | simp [Cond.onTables, Cond.keeps, Cond.steady])) hini)
theorem vx_runV (S : CallFix p m c cc nL s args Ts own) (hM : vx_Met l y ws rm Pc Qc XC mc ms free) (cw : CallW R s args own C index y bytes maxL ret ws rm mc ms n) (hp : PreV s H C b Pc As)
    (hg : g.method = m) (hn : As.length = n) (hsize : g.locals.size = nL) (hstack : g.stack = As.reverse ++ .ref b :: rest) (hW : 2 * g.monitorRoom + (rest.map fun v => v.category).sum ≤ 8) (hdg : decode cc g.pc = .ok (.invokevirtual index, 3)) (hf : cells + mc ≤ R.cells ∧ slots + ms ≤ R.slots) :
    vx_Run p l e R s m args below meth c H locs cells slots mc ms g rest (Qc (Value.ref b :: As).toArray) XC free := by
  have hK : vx_Back l R p e below s args y 3 8 (PreOf R mc ms Pc) (PostOf Qc mc ms free) (vx_Post XC mc ms free) := vx_callBack cw.1 hM hp.1
  obtain ⟨⟨-, -, -, -, -, -, hcode, -, hy, hlen, hl⟩, hin, hse⟩ := cw
  obtain ⟨hx, hb, hml, ho, -⟩ := S
  obtain ⟨-, ⟨cellB, hcB, hoB, hclB⟩, hPc⟩ := hp
  intro T hT X
  rcases vx_callV X hx (C := C) (bytes := bytes) (maxL := maxL) (ret := ret) ho hl hin hse hcode hy hK (by rw [hT]; exact hcB) hoB hclB hg (hsize.trans hml.symm) (argsL := As) (rest := rest) (fun sig h => hn.trans (hlen sig h)) hstack hW (by rw [hb]; exact hdg)
    (fun vm₁ hW₁ => ⟨hf.1, hf.2, hPc (T.setVm vm₁) hT hW₁⟩) with ⟨v, vm₁, ⟨U', l2, c2, s2⟩, hW₁, X', ⟨g', mk, t, L, e1, e2, hq, h1, hL, h2, h3⟩, st⟩ | ⟨q, vm₁, ⟨U', l2, c2, s2⟩, hW₁, X', ⟨g', mk, t, L, E, ce, e1, e2, hq, hce, hcv, hcl, h1, hL, h2, h3⟩, st⟩
  · dsimp only [Pt.U, Pt.locs, Pt.cells, Pt.slots] at X' e1 e2 h1 h2 h3 st
    subst h1; subst h2; subst h3
    exact Or.inl ⟨v, (T.setVm vm₁).calling g' mk (Value.ref b :: As).toArray, t, U', L, hT, X', hL, e1, e2, hq, st⟩
  · dsimp only [Pt.U, Pt.locs, Pt.cells, Pt.slots] at X' e1 e2 h1 h2 h3 st hcl
    subst h1; subst h2; subst h3
    exact Or.inr ⟨q, (T.setVm vm₁).calling g' mk (Value.ref b :: As).toArray, t, U', L, E, ce, hT, X', hL, e1, e2, hq, hce, hcv, vx_cls hW₁ hcl, st⟩
theorem vx_runS (S : CallFix p m c cc nL s args Ts own) (hM : vx_Met l y ws rm Pc Qc XC mc ms free) (cw : CallB R s args own index y bytes maxL ret ws rm mc ms n ∧ (Cond.static y).before args s = true) (hp : PreS s H Pc As)
    (hg : g.method = m) (hn : As.length = n) (hsize : g.locals.size = nL) (hstack : g.stack = As.reverse ++ rest) (hW : 2 * g.monitorRoom + (rest.map fun v => v.category).sum ≤ 8) (hdg : decode cc g.pc = .ok (.invokestatic index, 3)) (hf : cells + mc ≤ R.cells ∧ slots + ms ≤ R.slots) :
    vx_Run p l e R s m args below meth c H locs cells slots mc ms g rest (Qc As.toArray) XC free := by
  have hK : vx_Back l R p e below s args y 3 8 (PreOf R mc ms Pc) (PostOf Qc mc ms free) (vx_Post XC mc ms free) := vx_callBack cw.1 hM hp.1
  obtain ⟨⟨-, -, -, -, -, -, hcode, hini, hy, hlen, hl⟩, hstt⟩ := cw
  obtain ⟨hx, hb, hml, ho, -⟩ := S
  intro T hT X
  rcases vx_callS X hx (bytes := bytes) (maxL := maxL) (ret := ret) ho hl hstt hini hcode hy hK hg (hsize.trans hml.symm) (argsL := As) (rest := rest) (fun sig h => hn.trans (hlen sig h)) hstack hW (by rw [hb]; exact hdg)
    (fun vm₁ hW₁ => ⟨hf.1, hf.2, hp.2 (T.setVm vm₁) hT hW₁⟩) with ⟨v, vm₁, ⟨U', l2, c2, s2⟩, hW₁, X', ⟨g', mk, t, L, e1, e2, hq, h1, hL, h2, h3⟩, st⟩ | ⟨q, vm₁, ⟨U', l2, c2, s2⟩, hW₁, X', ⟨g', mk, t, L, E, ce, e1, e2, hq, hce, hcv, hcl, h1, hL, h2, h3⟩, st⟩
  · dsimp only [Pt.U, Pt.locs, Pt.cells, Pt.slots] at X' e1 e2 h1 h2 h3 st
    subst h1; subst h2; subst h3
    exact Or.inl ⟨v, (T.setVm vm₁).calling g' mk As.toArray, t, U', L, hT, X', hL, e1, e2, hq, st⟩
  · dsimp only [Pt.U, Pt.locs, Pt.cells, Pt.slots] at X' e1 e2 h1 h2 h3 st hcl
    subst h1; subst h2; subst h3
    exact Or.inr ⟨q, (T.setVm vm₁).calling g' mk As.toArray, t, U', L, E, ce, hT, X', hL, e1, e2, hq, hce, hcv, vx_cls hW₁ hcl, st⟩
end Runs
section Rows
variable {p : Program} {l : Launch} {e : Env} {R : Room} {s : State} {m : MethodId} {args : Array Value} {below : List Frame} {meth : Method} {c : Code} {H : Heap} {locs : List Loc} {cells slots : Nat} {Q : State → Prop}
variable {mc ms : Nat} {free : Addr → Prop} {A0 A1 : Nat → Prop} {H0 : Heap} {a : Array Value} {pc : Nat} {ls : Array Slot} {st0 rest : List Value}
theorem vx_keep {st₀ t T' : State} {L : List Loc} (h0 : st₀.heap = H) (e1 : T'.heap = t.heap) (hS : va_S A0 H0 H locs) (hA : ∀ q, q < H.size → A1 q → A0 q) (hf : ∀ q, free q → A0 q) (hL : ∀ q ∈ L, free q.base) (hF : va_F A1 st₀ t) :
    H.size ≤ T'.heap.size ∧ (∀ q : Nat, q < H.size → ¬ A1 q → T'.heap[q]? = H[q]?) ∧ va_S A0 H0 T'.heap (locs ++ L) := by
  obtain ⟨hz, hk⟩ := hF
  rw [h0] at hz hk
  exact ⟨by rw [e1]; exact hz, fun q h1 h2 => by rw [e1]; exact hk q h1 h2,
    ⟨Nat.le_trans hS.1 (by rw [e1]; exact hz), fun q h1 h2 => by rw [e1, hk q (Nat.lt_of_lt_of_le h1 hS.1) (fun z => h2 (hA q (Nat.lt_of_lt_of_le h1 hS.1) z))]; exact hS.2.1 q h1 h2, fun q hq => by
      rcases List.mem_append.mp hq with h | h
      · exact hS.2.2 q h
      · exact hf _ (hL q h)⟩⟩
theorem vx_calli {S SX : Type} {post : Int32 → S → Prop} {px : SX → Prop} {B : S → State → Prop} {BX : String → SX → State → Prop} {AX : Nat → Prop} (hr : vx_Run p l e R s m args below meth c H locs cells slots mc ms (F0 m pc ls st0) rest (va_Qi post B A1 a) (vx_X px BX AX) free) (hS : va_S A0 H0 H locs) (hA : ∀ q, q < H.size → A1 q → A0 q) (hf : ∀ q, free q → A0 q) (hAX : ∀ q, q < H.size → AX q → A0 q)
    (kx : ∀ (E : String) (ce : Cell) (q9 : Addr) (u : SX) (t : State) (H1 : Heap) (locs1 : List Loc), t.heap = H1 → s.vm.Alike t.vm → px u → BX E u t → H.size ≤ H1.size → (∀ q : Nat, q < H.size → ¬ AX q → H1[q]? = H[q]?) → va_S A0 H0 H1 locs1 → H1[q9]? = some ce → ce.vm = .none → s.vm.findClass E = some ce.cls → vx_W p l e R s m args below meth c H1 locs1 (cells + mc) (slots + ms) Q (F0 m pc ls rest) q9)
    (kk : ∀ (r : Int32) (u : S) (t : State) (H1 : Heap) (locs1 : List Loc), t.heap = H1 → s.vm.Alike t.vm → post r u → B u t → H.size ≤ H1.size → (∀ q : Nat, q < H.size → ¬ A1 q → H1[q]? = H[q]?) → va_S A0 H0 H1 locs1 → W p l e R s m args below meth c H1 locs1 (cells + mc) (slots + ms) Q (F0 m (pc + 3) ls (.int r :: rest))) : W p l e R s m args below meth c H locs cells slots Q (F0 m pc ls st0) := by
  intro T hT X
  rcases hr T hT X with ⟨v, st₀, t, T', L, h0, X', hL, e1, e2, ⟨⟨r, u, hv, hp, hb⟩, hF⟩, st⟩ | ⟨q, st₀, t, T', L, E, ce, h0, X', hL, e1, e2, ⟨u, hp, hb, hF⟩, hce, hcv, hcl, st⟩
  · cases hv
    obtain ⟨k1, k2, k3⟩ := vx_keep h0 e1 hS hA hf hL hF
    obtain ⟨t2, a1, b1⟩ := kk r u t T'.heap (locs ++ L) e1.symm (by rw [← e2]; exact X'.warmed.alike) hp hb k1 k2 k3 T' rfl X'
    exact ⟨t2, st t2 a1, b1⟩
  · obtain ⟨k1, k2, k3⟩ := vx_keep h0 e1 hS hAX hf hL hF
    obtain ⟨t2, a1, b1⟩ := kx E ce q u t T'.heap (locs ++ L) e1.symm (by rw [← e2]; exact X'.warmed.alike) hp hb k1 k2 k3 (by rw [e1]; exact hce) hcv hcl T' rfl X'
    exact ⟨t2, st.trans a1, b1⟩
theorem vx_calll {S SX : Type} {post : Int64 → S → Prop} {px : SX → Prop} {B : S → State → Prop} {BX : String → SX → State → Prop} {AX : Nat → Prop} (hr : vx_Run p l e R s m args below meth c H locs cells slots mc ms (F0 m pc ls st0) rest (va_Ql post B A1 a) (vx_X px BX AX) free) (hS : va_S A0 H0 H locs) (hA : ∀ q, q < H.size → A1 q → A0 q) (hf : ∀ q, free q → A0 q) (hAX : ∀ q, q < H.size → AX q → A0 q)
    (kx : ∀ (E : String) (ce : Cell) (q9 : Addr) (u : SX) (t : State) (H1 : Heap) (locs1 : List Loc), t.heap = H1 → s.vm.Alike t.vm → px u → BX E u t → H.size ≤ H1.size → (∀ q : Nat, q < H.size → ¬ AX q → H1[q]? = H[q]?) → va_S A0 H0 H1 locs1 → H1[q9]? = some ce → ce.vm = .none → s.vm.findClass E = some ce.cls → vx_W p l e R s m args below meth c H1 locs1 (cells + mc) (slots + ms) Q (F0 m pc ls rest) q9)
    (kk : ∀ (r : Int64) (u : S) (t : State) (H1 : Heap) (locs1 : List Loc), t.heap = H1 → s.vm.Alike t.vm → post r u → B u t → H.size ≤ H1.size → (∀ q : Nat, q < H.size → ¬ A1 q → H1[q]? = H[q]?) → va_S A0 H0 H1 locs1 → W p l e R s m args below meth c H1 locs1 (cells + mc) (slots + ms) Q (F0 m (pc + 3) ls (.long r :: rest))) : W p l e R s m args below meth c H locs cells slots Q (F0 m pc ls st0) := by
  intro T hT X
  rcases hr T hT X with ⟨v, st₀, t, T', L, h0, X', hL, e1, e2, ⟨⟨r, u, hv, hp, hb⟩, hF⟩, st⟩ | ⟨q, st₀, t, T', L, E, ce, h0, X', hL, e1, e2, ⟨u, hp, hb, hF⟩, hce, hcv, hcl, st⟩
  · cases hv
    obtain ⟨k1, k2, k3⟩ := vx_keep h0 e1 hS hA hf hL hF
    obtain ⟨t2, a1, b1⟩ := kk r u t T'.heap (locs ++ L) e1.symm (by rw [← e2]; exact X'.warmed.alike) hp hb k1 k2 k3 T' rfl X'
    exact ⟨t2, st t2 a1, b1⟩
  · obtain ⟨k1, k2, k3⟩ := vx_keep h0 e1 hS hAX hf hL hF
    obtain ⟨t2, a1, b1⟩ := kx E ce q u t T'.heap (locs ++ L) e1.symm (by rw [← e2]; exact X'.warmed.alike) hp hb k1 k2 k3 (by rw [e1]; exact hce) hcv hcl T' rfl X'
    exact ⟨t2, st.trans a1, b1⟩
theorem vx_callf {S SX : Type} {post : UInt32 → S → Prop} {px : SX → Prop} {B : S → State → Prop} {BX : String → SX → State → Prop} {AX : Nat → Prop} (hr : vx_Run p l e R s m args below meth c H locs cells slots mc ms (F0 m pc ls st0) rest (va_Qf post B A1 a) (vx_X px BX AX) free) (hS : va_S A0 H0 H locs) (hA : ∀ q, q < H.size → A1 q → A0 q) (hf : ∀ q, free q → A0 q) (hAX : ∀ q, q < H.size → AX q → A0 q)
    (kx : ∀ (E : String) (ce : Cell) (q9 : Addr) (u : SX) (t : State) (H1 : Heap) (locs1 : List Loc), t.heap = H1 → s.vm.Alike t.vm → px u → BX E u t → H.size ≤ H1.size → (∀ q : Nat, q < H.size → ¬ AX q → H1[q]? = H[q]?) → va_S A0 H0 H1 locs1 → H1[q9]? = some ce → ce.vm = .none → s.vm.findClass E = some ce.cls → vx_W p l e R s m args below meth c H1 locs1 (cells + mc) (slots + ms) Q (F0 m pc ls rest) q9)
    (kk : ∀ (r : UInt32) (u : S) (t : State) (H1 : Heap) (locs1 : List Loc), t.heap = H1 → s.vm.Alike t.vm → post r u → B u t → H.size ≤ H1.size → (∀ q : Nat, q < H.size → ¬ A1 q → H1[q]? = H[q]?) → va_S A0 H0 H1 locs1 → W p l e R s m args below meth c H1 locs1 (cells + mc) (slots + ms) Q (F0 m (pc + 3) ls (.float r :: rest))) : W p l e R s m args below meth c H locs cells slots Q (F0 m pc ls st0) := by
  intro T hT X
  rcases hr T hT X with ⟨v, st₀, t, T', L, h0, X', hL, e1, e2, ⟨⟨r, u, hv, hp, hb⟩, hF⟩, st⟩ | ⟨q, st₀, t, T', L, E, ce, h0, X', hL, e1, e2, ⟨u, hp, hb, hF⟩, hce, hcv, hcl, st⟩
  · cases hv
    obtain ⟨k1, k2, k3⟩ := vx_keep h0 e1 hS hA hf hL hF
    obtain ⟨t2, a1, b1⟩ := kk r u t T'.heap (locs ++ L) e1.symm (by rw [← e2]; exact X'.warmed.alike) hp hb k1 k2 k3 T' rfl X'
    exact ⟨t2, st t2 a1, b1⟩
  · obtain ⟨k1, k2, k3⟩ := vx_keep h0 e1 hS hAX hf hL hF
    obtain ⟨t2, a1, b1⟩ := kx E ce q u t T'.heap (locs ++ L) e1.symm (by rw [← e2]; exact X'.warmed.alike) hp hb k1 k2 k3 (by rw [e1]; exact hce) hcv hcl T' rfl X'
    exact ⟨t2, st.trans a1, b1⟩
theorem vx_calld {S SX : Type} {post : UInt64 → S → Prop} {px : SX → Prop} {B : S → State → Prop} {BX : String → SX → State → Prop} {AX : Nat → Prop} (hr : vx_Run p l e R s m args below meth c H locs cells slots mc ms (F0 m pc ls st0) rest (va_Qd post B A1 a) (vx_X px BX AX) free) (hS : va_S A0 H0 H locs) (hA : ∀ q, q < H.size → A1 q → A0 q) (hf : ∀ q, free q → A0 q) (hAX : ∀ q, q < H.size → AX q → A0 q)
    (kx : ∀ (E : String) (ce : Cell) (q9 : Addr) (u : SX) (t : State) (H1 : Heap) (locs1 : List Loc), t.heap = H1 → s.vm.Alike t.vm → px u → BX E u t → H.size ≤ H1.size → (∀ q : Nat, q < H.size → ¬ AX q → H1[q]? = H[q]?) → va_S A0 H0 H1 locs1 → H1[q9]? = some ce → ce.vm = .none → s.vm.findClass E = some ce.cls → vx_W p l e R s m args below meth c H1 locs1 (cells + mc) (slots + ms) Q (F0 m pc ls rest) q9)
    (kk : ∀ (r : UInt64) (u : S) (t : State) (H1 : Heap) (locs1 : List Loc), t.heap = H1 → s.vm.Alike t.vm → post r u → B u t → H.size ≤ H1.size → (∀ q : Nat, q < H.size → ¬ A1 q → H1[q]? = H[q]?) → va_S A0 H0 H1 locs1 → W p l e R s m args below meth c H1 locs1 (cells + mc) (slots + ms) Q (F0 m (pc + 3) ls (.double r :: rest))) : W p l e R s m args below meth c H locs cells slots Q (F0 m pc ls st0) := by
  intro T hT X
  rcases hr T hT X with ⟨v, st₀, t, T', L, h0, X', hL, e1, e2, ⟨⟨r, u, hv, hp, hb⟩, hF⟩, st⟩ | ⟨q, st₀, t, T', L, E, ce, h0, X', hL, e1, e2, ⟨u, hp, hb, hF⟩, hce, hcv, hcl, st⟩
  · cases hv
    obtain ⟨k1, k2, k3⟩ := vx_keep h0 e1 hS hA hf hL hF
    obtain ⟨t2, a1, b1⟩ := kk r u t T'.heap (locs ++ L) e1.symm (by rw [← e2]; exact X'.warmed.alike) hp hb k1 k2 k3 T' rfl X'
    exact ⟨t2, st t2 a1, b1⟩
  · obtain ⟨k1, k2, k3⟩ := vx_keep h0 e1 hS hAX hf hL hF
    obtain ⟨t2, a1, b1⟩ := kx E ce q u t T'.heap (locs ++ L) e1.symm (by rw [← e2]; exact X'.warmed.alike) hp hb k1 k2 k3 (by rw [e1]; exact hce) hcv hcl T' rfl X'
    exact ⟨t2, st.trans a1, b1⟩
theorem vx_callv {S SX : Type} {post : S → Prop} {px : SX → Prop} {B : S → State → Prop} {BX : String → SX → State → Prop} {AX : Nat → Prop} (hr : vx_Run p l e R s m args below meth c H locs cells slots mc ms (F0 m pc ls st0) rest (va_Qv post B A1 a) (vx_X px BX AX) free) (hS : va_S A0 H0 H locs) (hA : ∀ q, q < H.size → A1 q → A0 q) (hf : ∀ q, free q → A0 q) (hAX : ∀ q, q < H.size → AX q → A0 q)
    (kx : ∀ (E : String) (ce : Cell) (q9 : Addr) (u : SX) (t : State) (H1 : Heap) (locs1 : List Loc), t.heap = H1 → s.vm.Alike t.vm → px u → BX E u t → H.size ≤ H1.size → (∀ q : Nat, q < H.size → ¬ AX q → H1[q]? = H[q]?) → va_S A0 H0 H1 locs1 → H1[q9]? = some ce → ce.vm = .none → s.vm.findClass E = some ce.cls → vx_W p l e R s m args below meth c H1 locs1 (cells + mc) (slots + ms) Q (F0 m pc ls rest) q9)
    (kk : ∀ (u : S) (t : State) (H1 : Heap) (locs1 : List Loc), t.heap = H1 → s.vm.Alike t.vm → post u → B u t → H.size ≤ H1.size → (∀ q : Nat, q < H.size → ¬ A1 q → H1[q]? = H[q]?) → va_S A0 H0 H1 locs1 → W p l e R s m args below meth c H1 locs1 (cells + mc) (slots + ms) Q (F0 m (pc + 3) ls (rest))) : W p l e R s m args below meth c H locs cells slots Q (F0 m pc ls st0) := by
  intro T hT X
  rcases hr T hT X with ⟨v, st₀, t, T', L, h0, X', hL, e1, e2, ⟨⟨u, hv, hp, hb⟩, hF⟩, st⟩ | ⟨q, st₀, t, T', L, E, ce, h0, X', hL, e1, e2, ⟨u, hp, hb, hF⟩, hce, hcv, hcl, st⟩
  · cases hv
    obtain ⟨k1, k2, k3⟩ := vx_keep h0 e1 hS hA hf hL hF
    obtain ⟨t2, a1, b1⟩ := kk u t T'.heap (locs ++ L) e1.symm (by rw [← e2]; exact X'.warmed.alike) hp hb k1 k2 k3 T' rfl X'
    exact ⟨t2, st t2 a1, b1⟩
  · obtain ⟨k1, k2, k3⟩ := vx_keep h0 e1 hS hAX hf hL hF
    obtain ⟨t2, a1, b1⟩ := kx E ce q u t T'.heap (locs ++ L) e1.symm (by rw [← e2]; exact X'.warmed.alike) hp hb k1 k2 k3 (by rw [e1]; exact hce) hcv hcl T' rfl X'
    exact ⟨t2, st.trans a1, b1⟩
/-- caught by the row x of this method's table; the rows ahead don't take it -/
theorem vx_catch {own name : String} {E : String} {ce : Cell} {q : Addr} (hown : s.vm.findClass own = some m.cls) (pre : List ExceptionTableEntry) (x : ExceptionTableEntry) (suf : List ExceptionTableEntry) (hsplit : c.exceptionTable.toList = pre ++ x :: suf)
    (hpass : ∀ z ∈ pre, covers z pc = false ∨ (z.catchType ≠ 0 ∧ ∃ nm : String, (Cond.classLink own z.catchType nm).before args s = true ∧ va_Nc E nm s)) (hx : covers x pc = true) (h0 : x.catchType ≠ 0)
    (hlink : (Cond.classLink own x.catchType name).before args s = true) (hcast : (Cond.castable E name).before args s = true) (hcell : H[q]? = some ce) (hv : ce.vm = .none) (hcl : s.vm.findClass E = some ce.cls)
    (kk : W p l e R s m args below meth c H locs cells slots Q (F0 m x.handlerPc ls [.ref q])) : vx_W p l e R s m args below meth c H locs cells slots Q (F0 m pc ls rest) q := by
  intro T hT X
  have hpl : e.platform.magicAccessors = ({} : Platform).magicAccessors := by rw [X.admits.platform]
  obtain ⟨c3, c4, hc3, hc4, hasg⟩ := Cond.castable_spec hcast
  cases Option.some.inj (hc3.symm.trans hcl)
  obtain ⟨c5, hc5, hcl5⟩ := Cond.classLink_spec hown hlink e.platform hpl
  cases Option.some.inj (hc4.symm.trans hc5)
  obtain ⟨vm', X', st⟩ := X.thenCaughtThrough q (g := F0 m pc ls rest) rfl (Steps.refl _) (by rw [hT]; exact hcell) (by rw [hv]; rfl) (by obtain ⟨k9, h9, -⟩ := Vm.findClass_spec hcl; exact ⟨k9, h9⟩) pre x suf hsplit
    (fun z hz => by
      rcases hpass z hz with h | ⟨hz0, nm, hl1, hn1⟩
      · exact Or.inl h
      · obtain ⟨c6, hc6, hcl6⟩ := Cond.classLink_spec hown hl1 e.platform hpl
        obtain ⟨a8, b8, h1, h2, h3⟩ := hn1
        cases Option.some.inj (h1.symm.trans hcl)
        cases Option.some.inj (h2.symm.trans hc6)
        exact Or.inr ⟨hz0, _, hcl6, h3⟩) hx (Or.inr ⟨h0, c4, hcl5, hasg⟩)
  obtain ⟨t, a1, b1⟩ := kk (T.setVm vm') hT X'
  exact ⟨t, st.trans a1, b1⟩
end Rows
section Ends
variable {p : Program} {l : Launch} {e : Env} {R : Room} {s : State} {m : MethodId} {args : Array Value} {below : List Frame} {meth : Method} {c : Code} {H : Heap} {locs : List Loc} {cells slots : Nat} {Q : State → Prop}
variable {mc ms : Nat} {free : Addr → Prop} {A0 A1 : Nat → Prop} {H0 : Heap} {a : Array Value} {ls : Array Slot} {st0 rest : List Value}
variable {Qc : Array Value → State → Outcome → State → Prop} {XC : String → State → State → Prop}
/-- what a body that may throw owes at its end -/
def vx_MQ (below : List Frame) (Qc : Array Value → State → Outcome → State → Prop) (XC : String → State → State → Prop) (a : Array Value) (s : State) (mc ms : Nat) (free : Addr → Prop) : State → Prop := fun t =>
  ∃ o, t.status = .running ∧ Ended t below o ∧ vx_Q Qc XC mc ms free a s o t
theorem vx_ret {g : JFrame} {mc ms : Nat} (k : W p l e R s m args below meth c H locs cells slots (MQ below Qc args s mc ms free) g) : W p l e R s m args below meth c H locs cells slots (vx_MQ below Qc XC args s mc ms free) g := by
  intro T hT X
  obtain ⟨t, a1, o, b1, b2, b3, b4⟩ := k T hT X
  exact ⟨t, a1, o, b1, b2, Or.inl ⟨b3, b4⟩⟩
/-- not caught here: it goes on to the caller -/
theorem vx_widen {g : JFrame} {q : Addr} {k n : Nat} (h1 : cells ≤ k) (h2 : slots ≤ n) (kk : vx_W p l e R s m args below meth c H locs k n Q g q) : vx_W p l e R s m args below meth c H locs cells slots Q g q := fun T hT X => kk T hT (stand_widen X h1 h2)
theorem vx_out {pc : Nat} {E : String} {ce : Cell} {q : Addr} {mc ms : Nat} (hout : ∀ x ∈ c.exceptionTable.toList, covers x pc = false) (hlocks : meth.locks = false) (hcell : H[q]? = some ce) (hv : ce.vm = .none) (hcl : s.vm.findClass E = some ce.cls)
    (hx : ∀ t : State, t.heap = H → s.vm.Alike t.vm → XC E s t) (hf : ∀ z ∈ locs, free z.base) (hc : cells ≤ mc) (hs : slots ≤ ms) :
    vx_W p l e R s m args below meth c H locs cells slots (vx_MQ below Qc XC args s mc ms free) (F0 m pc ls rest) q := by
  intro T hT X
  obtain ⟨st1, hrun, hend, hW, hsm⟩ := X.leaveThrown q (g := F0 m pc ls rest) rfl rfl rfl hout hlocks
  have hcell9 : (T.setFrames (.throwing q :: below)).heap[q]? = some ce := by
    show T.heap[q]? = some ce
    rw [hT]; exact hcell
  exact ⟨_, st1, .threw q, hrun, hend, Or.inr ⟨q, rfl, E, ce, locs, hx _ hT hW.alike, hcell9, hv, hcl, hW, hsm.mono hc hs, hf⟩⟩
theorem vx_frame {U : State} {k n : Nat} (h : s.sameButNew ({ U with vm := s.vm } : State) locs k n) : s.heap.size ≤ U.heap.size ∧ ∀ q : Nat, q < s.heap.size → (∀ z ∈ locs, z.base ≠ q) → U.heap[q]? = s.heap[q]? := by
  obtain ⟨-, h2, -, -, -, h6⟩ := h
  refine ⟨h2, fun q hq hz => ?_⟩
  obtain ⟨c9, e1, e2, e3, e4⟩ := h6 q _ (Array.getElem?_eq_getElem hq)
  have hs : c9.slots = (s.heap[q]).slots := Array.ext_getElem? fun i => e4 i fun hm => hz _ hm rfl
  have h9 : c9 = s.heap[q] := by
    rw [hs] at e2
    exact e2
  have e5 : U.heap[q]? = some c9 := e1
  rw [e5, h9, Array.getElem?_eq_getElem hq]
/-- the words of a throw but the four that speak of the heap -/
def vx_no (w : Cond) : Bool := decide (w ≠ .isRef (.static Bundle.tN "UNASSIGNED_STACK" Bundle.steD)) && decide (w ≠ .isRef (.static Bundle.tN "SUPPRESSED_SENTINEL" Bundle.listD)) && decide (w ≠ .laysStatic Bundle.tN "UNASSIGNED_STACK" Bundle.steD) && decide (w ≠ .laysStatic Bundle.tN "SUPPRESSED_SENTINEL" Bundle.listD)
def vx_at0 (own : String) (ic : Nat) (X : String) (names : List String) : List Cond := (Bundle.ownAtoms0 own ic X names).filter vx_no
def vx_atS (own : String) (ic : Nat) (X : String) (names : List String) : List Cond := (Bundle.ownAtoms own ic X names).filter vx_no
/-- a word that the tables alone decide, or a good one -/
def vx_ot (w : Cond) : Bool := w.onTables || goodWord w
theorem vx_ot_at {args a' : Array Value} {s U : State} {w : Cond} (hW : s.WarmedH U.vm) (hvm : s.vm = U.vm) (hg : vx_ot w = true) (h : w.before args s = true) : w.before a' U = true := by
  simp only [vx_ot, Bool.or_eq_true] at hg
  rcases hg with hg | hg
  · exact va_tabs hg hvm h
  · exact word_at hW (good_of_word hg) h
/-- a list's words: the good ones out of the method's own list, the others by premises of their own -/
theorem vx_hat {args : Array Value} {s : State} {L B : List Cond} (h1 : ∀ w ∈ L.filter goodWord, w.before args s = true) (h2 : ∀ w ∈ L.filter (fun w => !goodWord w), w ∈ B) (h3 : ∀ w ∈ B, w.before args s = true) : ∀ w ∈ L, w.before args s = true := by
  intro w hw
  by_cases g : goodWord w = true
  · exact h1 w (List.mem_filter.mpr ⟨hw, g⟩)
  · refine h3 w (h2 w (List.mem_filter.mpr ⟨hw, ?_⟩))
    show (!goodWord w) = true
    cases hgw : goodWord w
    · rfl
    · exact absurd hgw g
theorem vx_c {args : Array Value} {s : State} {w : Cond} {B : List Cond} (h : w.before args s = true) (t : ∀ w ∈ B, w.before args s = true) : ∀ w' ∈ w :: B, w'.before args s = true := fun w' h' => (List.mem_cons.mp h').elim (fun e => by rw [e]; exact h) (t w')
theorem vx_n {args : Array Value} {s : State} : ∀ w ∈ ([] : List Cond), w.before args s = true := fun _ h => nomatch h
theorem vx_own {args : Array Value} {s : State} {L : List Cond} (h1 : ∀ w ∈ L.filter vx_no, w.before args s = true)
    (hU : (Cond.isRef (.static Bundle.tN "UNASSIGNED_STACK" Bundle.steD)).before args s = true) (hN : (Cond.isRef (.static Bundle.tN "SUPPRESSED_SENTINEL" Bundle.listD)).before args s = true)
    (lU : (Cond.laysStatic Bundle.tN "UNASSIGNED_STACK" Bundle.steD).before args s = true) (lN : (Cond.laysStatic Bundle.tN "SUPPRESSED_SENTINEL" Bundle.listD).before args s = true) : ∀ w ∈ L, w.before args s = true := by
  intro w hw
  by_cases e1 : w = .isRef (.static Bundle.tN "UNASSIGNED_STACK" Bundle.steD)
  · rw [e1]; exact hU
  · by_cases e2 : w = .isRef (.static Bundle.tN "SUPPRESSED_SENTINEL" Bundle.listD)
    · rw [e2]; exact hN
    · by_cases e3 : w = .laysStatic Bundle.tN "UNASSIGNED_STACK" Bundle.steD
      · rw [e3]; exact lU
      · by_cases e4 : w = .laysStatic Bundle.tN "SUPPRESSED_SENTINEL" Bundle.listD
        · rw [e4]; exact lN
        · exact h1 w (List.mem_filter.mpr ⟨hw, by unfold vx_no; rw [decide_eq_true e1, decide_eq_true e2, decide_eq_true e3, decide_eq_true e4]; rfl⟩)
/-- where a static field lies, its class's statics cell in H -/
def vx_L (C n d : String) (A : Nat → Prop) (U : State) (H : Heap) : Prop := ∃ (c : ClassId) (k : Class) (i : Nat) (f : Field) (a : Nat) (cell : Cell), U.vm.findClass C = some c ∧ U.fieldFound? C n d = some (c, k, i, f) ∧ f.isStatic = true ∧ k.statics = some a ∧ H[a]? = some cell ∧ cell.vm.isStatics = true ∧ cell.cls = c ∧ f.slot < cell.slots.size ∧ k.staticTypes[f.slot]? = some f.type ∧ ¬ A a
theorem vx_L.moved {C n d : String} {A : Nat → Prop} {u U : State} {H : Heap} (hvm : u.vm.Alike U.vm) (h : vx_L C n d A u H) : vx_L C n d A U H := by
  obtain ⟨c, k, i, f, a, cell, h1, h2, h3, h4, h5, h6, h7, h8, h9, h10⟩ := h
  obtain ⟨k', hi', he⟩ := State.fieldFound?_setVm hvm h2
  exact ⟨c, k', i, f, a, cell, by rw [hvm.findClass]; exact h1, hi', h3, by rw [he]; exact h4, h5, h6, h7, h8, by rw [he]; exact h9, h10⟩
theorem vx_L.kept {C n d : String} {A : Nat → Prop} {U : State} {H H1 : Heap} (h : vx_L C n d A U H) (hq : ∀ a : Nat, a < H.size → ¬ A a → H1[a]? = H[a]?) : vx_L C n d A U H1 := by
  obtain ⟨c, k, i, f, a, cell, h1, h2, h3, h4, h5, h6, h7, h8, h9, h10⟩ := h
  exact ⟨c, k, i, f, a, cell, h1, h2, h3, h4, by rw [hq a (Array.getElem?_eq_some_iff.mp h5).1 h10]; exact h5, h6, h7, h8, h9, h10⟩
theorem vx_L.narrow {C n d : String} {A B : Nat → Prop} {U : State} {H : Heap} (h : vx_L C n d A U H) (hAB : ∀ q, B q → A q) : vx_L C n d B U H := by
  obtain ⟨c, k, i, f, a, cell, h1, h2, h3, h4, h5, h6, h7, h8, h9, h10⟩ := h
  exact ⟨c, k, i, f, a, cell, h1, h2, h3, h4, h5, h6, h7, h8, h9, fun z => h10 (hAB _ z)⟩
theorem vx_L.word {C n d : String} {A : Nat → Prop} {s : State} {args : Array Value} (h : vx_L C n d A s s.heap) : (Cond.laysStatic C n d).before args s = true := by
  obtain ⟨c, k, i, f, a, cell, h1, h2, h3, h4, h5, h6, h7, h8, h9, -⟩ := h
  show (Cond.laysStatic C n d).holds args s none s [] = true
  exact Cond.laysStatic_of h1 h2 h3 h4 h5 h6 h7 h8 h9
/-- .. and what it holds: null or some reference -/
def vx_Zq (C n d : String) (A : Nat → Prop) (U : State) (H : Heap) : Prop := va_Zq C n d A U H ∧ vx_L C n d A U H
theorem vx_Zq.moved {C n d : String} {A : Nat → Prop} {u U : State} {H : Heap} (hvm : u.vm.Alike U.vm) (h : vx_Zq C n d A u H) : vx_Zq C n d A U H := ⟨va_Zq.moved hvm h.1, vx_L.moved hvm h.2⟩
theorem vx_Zq.kept {C n d : String} {A : Nat → Prop} {U : State} {H H1 : Heap} (h : vx_Zq C n d A U H) (hq : ∀ a : Nat, a < H.size → ¬ A a → H1[a]? = H[a]?) : vx_Zq C n d A U H1 := ⟨va_Zq.kept h.1 hq, vx_L.kept h.2 hq⟩
theorem vx_Zq.narrow {C n d : String} {A B : Nat → Prop} {U : State} {H : Heap} (h : vx_Zq C n d A U H) (hAB : ∀ q, B q → A q) : vx_Zq C n d B U H := ⟨va_Zq.narrow h.1 hAB, vx_L.narrow h.2 hAB⟩
theorem vx_Zqof {args : Array Value} {s : State} {C n d : String} {A : Nat → Prop} (hl : (Cond.laysStatic C n d).before args s = true) (hini : (Cond.initialized C).before args s = true) (h : (Cond.isRef (.static C n d)).before args s = true) (hA : ∀ a : Nat, a < s.heap.size → ¬ A a) : vx_Zq C n d A s s.heap := by
  refine ⟨va_Zqof hl hini h hA, ?_⟩
  obtain ⟨c, k, i, f, a, cell, h1, h2, h3, h4, h5, h6, h7, h8, h9⟩ := Cond.laysStatic_spec hl
  exact ⟨c, k, i, f, a, cell, h1, h2, h3, h4, h5, h6, h7, h8, h9, hA a (Array.getElem?_eq_some_iff.mp h5).1⟩
theorem vx_isRef {C n d : String} {v : Value} {A : Nat → Prop} {s : State} {args : Array Value} (h : va_Z C n d v A s s.heap) (hv : v.isRef = true) : (Cond.isRef (.static C n d)).before args s = true := by
  obtain ⟨cf, kf, fi, f, a, cell, h1, h2, h3, h4, h5, h6, h7, -⟩ := h
  have he : (Term.static C n d).eval args s none [] s = some v := by
    simp [Term.eval, State.fieldNamed?, h1, h2, h4, h5, h6, h7]
  simp only [Cond.before, Cond.holds, Cond.value, he]
  cases v <;> simp_all [Value.isRef]
theorem vx_isRefq {C n d : String} {A : Nat → Prop} {s : State} {args : Array Value} (h : va_Zq C n d A s s.heap) : (Cond.isRef (.static C n d)).before args s = true := by
  rcases h with h | ⟨t, h⟩
  · exact vx_isRef h rfl
  · exact vx_isRef h rfl
/-- the same frame, seen from here: as if the method were called anew in this heap -/
theorem vx_rebase {T : State} (X : Stand p l e R s m args below meth c T locs cells slots) {R' : Room} (hf : R'.frames ≤ R.frames) (hl : R'.locals ≤ R.locals) (hc : cells + R'.cells ≤ R.cells) (hs : slots + R'.slots ≤ R.slots) :
    Stand p l e R' ((T.setVm s.vm).setFrames (.invoking m args :: below)) m args below meth c T [] 0 0 := by
  have htop : (T.setVm s.vm).topJava?.isSome := X.here.top
  have hF : ((T.setVm s.vm).setFrames (.invoking m args :: below)).frames = .invoking m args :: below := State.frames_setFrames _ (State.cur_lt_of_top htop)
  obtain ⟨g₀, hg0⟩ := Option.isSome_iff_exists.mp htop
  obtain ⟨r, hr⟩ := State.topJava?_eq_some.mp hg0
  have hl9 : e.platform.stackLimits (T.setVm s.vm).me = e.platform.stackLimits s.me := X.limits
  have hb9 : (T.setVm s.vm).me.stackBytes = s.me.stackBytes := X.bytes
  refine ⟨X.admits, X.cas, X.clock, hF, ?_, X.hears, X.method, X.code, X.here, X.tail, X.warmed, ?_, ?_, ?_⟩
  · have h := X.room
    have hU : ((T.setVm s.vm).setFrames (.invoking m args :: below)).localsInUse = s.localsInUse := by
      rw [State.localsInUse_invoking hF (meth := meth) (c := c) X.method X.code, State.localsInUse_invoking X.frames X.method X.code]
    simp only [State.hasRoom, Bool.and_eq_true, decide_eq_true_eq] at h ⊢
    obtain ⟨⟨⟨⟨h1, h2, h3, h4, h5, h6⟩, h7⟩, h8⟩, h9⟩ := h
    rw [X.frames, List.length_cons] at h2 h3
    have q1 := X.heapSize
    have q2 := X.used
    simp only [hF, hU, List.length_cons, State.stackLimits_setFrames, State.stackBytes_setFrames, hl9, hb9]
    refine ⟨⟨⟨⟨by omega, by omega, by omega, by omega, by omega, h6⟩, ?_⟩, ?_⟩, X.book⟩
    · show T.heap.size + R'.cells ≤ e.platform.maxCells
      omega
    · show T.slotsUsed + R'.slots ≤ e.platform.maxSlots
      omega
  · rw [State.stackLimits_setFrames]; rfl
  · rw [State.stackBytes_setFrames]; rfl
  · refine ⟨?_, Nat.le_refl _, Nat.le_refl _, ?_, ?_, fun a c9 h9 => ⟨c9, h9, rfl, rfl, fun _ _ => rfl⟩⟩
    · obtain ⟨t, ht, -⟩ := State.frames_cons hr
      show T.setVm s.vm = { ((T.setVm s.vm).setFrames (.invoking m args :: below)).setFrames (T.setVm s.vm).frames with heap := T.heap, slotsUsed := T.slotsUsed }
      rw [State.setFrames_setFrames, State.setFrames_self ht]
      rfl
    · show T.slotsUsed = T.slotsUsed + ((T.heap.toList.drop T.heap.size).map (·.slots.size)).sum
      rw [List.drop_eq_nil_of_le (Nat.le_of_eq Array.length_toList)]
      rfl
    · show ((T.heap.toList.drop T.heap.size).map (·.slots.size)).sum ≤ 0
      rw [List.drop_eq_nil_of_le (Nat.le_of_eq Array.length_toList)]
      exact Nat.le_refl _
/-- 'throw new E()': new; dup; invokespecial; athrow -/
theorem vx_throw0 {cc : ByteArray} {pc : Nat} (hexec : p.tables.exec = Jvm.exec) (hb : c.code = cc) (hl : l.stackTraces = false) {own cls : String} {names : List String} {ik ic mc ms : Nat} {A : Nat → Prop}
    (hown : s.vm.findClass own = some m.cls) (hcls : Bundle.fit cls = true) (hnames : ∀ n ∈ names, Bundle.fit n = true)
    (hk : (Cond.classLink own ik cls).before args s = true) (hini : (Cond.initialized cls).before args s = true) (hat : ∀ w ∈ vx_at0 own ic cls names, w.before args s = true)
    (hgood : ∀ w ∈ Cond.classLink own ik cls :: Cond.initialized cls :: vx_at0 own ic cls names, vx_ot w = true)
    (hU : vx_Zq Bundle.tN "UNASSIGNED_STACK" Bundle.steD A s s.heap) (hN : vx_Zq Bundle.tN "SUPPRESSED_SENTINEL" Bundle.listD A s s.heap) (hS : va_S A s.heap H locs) (hsize : ls.size = c.maxLocals)
    (d0 : decode cc pc = .ok (.new ik, 3)) (d3 : decode cc (pc + 3) = .ok (.dup, 1)) (d4 : decode cc (pc + 4) = .ok (.invokespecial ic, 3)) (d7 : decode cc (pc + 7) = .ok (.athrow, 1))
    (hout : ∀ x ∈ c.exceptionTable.toList, covers x (pc + 7) = false)
    (hRframes : names.length + 3 < R.frames) (hRlocals : (rest.map fun v => v.category).sum + (13 * (names.length + 1) + 42) ≤ R.locals) (hRcells : cells + 1 ≤ R.cells) (hRslots : slots + 6 ≤ R.slots) (hlocks : meth.locks = false)
    (hx : ∀ t : State, s.vm.Alike t.vm → H.size ≤ t.heap.size → (∀ q : Nat, q < H.size → t.heap[q]? = H[q]?) → XC cls s t)
    (hf : ∀ z ∈ locs, free z.base) (hc : cells + 1 ≤ mc) (hs : slots + 6 ≤ ms) :
    W p l e R s m args below meth c H locs cells slots (vx_MQ below Qc XC args s mc ms free) (F0 m pc ls rest) := by
  intro T hT X
  have htr : e.platform.stackTraces = false := (show e.platform.stackTraces = l.stackTraces by rw [X.admits.platform]).trans hl
  have Y := vx_rebase X (R' := { frames := R.frames, locals := R.locals, cells := 1, slots := 6 }) (Nat.le_refl _) (Nat.le_refl _) hRcells hRslots
  obtain ⟨s', hA⟩ : ∃ z, z = (T.setVm s.vm).setFrames (.invoking m args :: below) := ⟨_, rfl⟩
  rw [← hA] at Y
  have hvm : s'.vm = s.vm := by rw [hA]; rfl
  have hhp : s'.heap = H := by rw [hA]; exact hT
  have hW0 : s.WarmedH s'.vm := by rw [hvm]; exact State.WarmedH.refl s
  have hat' : ∀ w ∈ vx_at0 own ic cls names, w.before args s' = true := fun w hw => vx_ot_at hW0 hvm.symm (hgood w (List.mem_cons_of_mem _ (List.mem_cons_of_mem _ hw))) (hat w hw)
  have hk' : (Cond.classLink own ik cls).before args s' = true := vx_ot_at hW0 hvm.symm (hgood _ List.mem_cons_self) hk
  have hini' : (Cond.initialized cls).before args s' = true := vx_ot_at hW0 hvm.symm (hgood _ (List.mem_cons_of_mem _ List.mem_cons_self)) hini
  have hU' : vx_Zq Bundle.tN "UNASSIGNED_STACK" Bundle.steD A s' s'.heap := by rw [hhp]; exact vx_Zq.moved hW0.alike (hU.kept hS.2.1)
  have hN' : vx_Zq Bundle.tN "SUPPRESSED_SENTINEL" Bundle.listD A s' s'.heap := by rw [hhp]; exact vx_Zq.moved hW0.alike (hN.kept hS.2.1)
  have h : ∀ w ∈ Bundle.ownAtoms0 own ic cls names, w.before args s' = true := vx_own hat' (vx_isRefq hU'.1) (vx_isRefq hN'.1) hU'.2.word hN'.2.word
  have hown' : s'.vm.findClass own = some m.cls := by rw [hvm]; exact hown
  have hins : (Cond.instantiable cls 6).before args s' = true := h _ (by simp [Bundle.ownAtoms0])
  obtain ⟨vm₁, cX, kX, hfX, hkX, -, -, X₁, st1⟩ := Y.newCold hexec (own := own) (C := cls) (index := ik) (n := 6) hown' hk' hins hini'
    (g := F0 m pc ls rest) rfl (by rw [hb]; exact d0) (Nat.le_refl _) (Nat.le_refl _)
  generalize hT1 : (T.setVm vm₁).pushCell { cls := cX, slots := kX.instanceTypes.map defaultValue, vm := .none } = T1 at X₁ st1
  have hcat : (Value.ref T.heap.size).category = 1 := rfl
  have hcellA : T1.heap[T.heap.size]? = some (freshCell cX kX) := by rw [← hT1]; exact State.heap_pushCell_size _ _
  have d3' : decode c.code (pc + 3) = .ok (.dup, 1) := by rw [hb]; exact d3
  obtain ⟨U, hsteps, hrun, hend, hW, hsame, ce, hce, hO⟩ := X₁.ctorThrow0 hexec htr (own := own) (cls := cls) (names := names) (ic := ic) hown' hcls hnames h (fun x hx => nomatch hx) hfX hkX hcellA (by rw [hhp, hT]; exact Nat.le_refl _)
    (g := { method := m, pc := pc + 4, locals := ls, stack := .ref T.heap.size :: .ref T.heap.size :: rest, locked := none }) rfl hsize rfl rfl (rest := rest) rfl
    (by rw [hb]; exact d4) (by rw [hb]; exact d7) hout hRframes (by simp only [List.map_cons, List.sum_cons, hcat]; omega) hlocks
  obtain ⟨f1, f2⟩ := vx_frame hsame
  rw [hhp] at f1 f2
  have hWs : s.WarmedH U.vm := State.WarmedH.trans hW0 hW
  have hcl : s.vm.findClass cls = some ce.cls := by
    have h9 := hO.cls
    rw [hvm] at h9
    exact h9
  have hall : s.sameButNew ({ U with vm := s.vm } : State) locs mc ms := by
    subst hA
    obtain ⟨e1, e2⟩ := hsame
    rw [State.setFrames_setFrames] at e1
    have h2 : (T.setVm s.vm).sameButNew ({ U with vm := s.vm } : State) [] (0 + 1) (0 + 6) := ⟨e1, e2⟩
    have h3 := X.same.trans h2
    rw [List.append_nil] at h3
    exact h3.mono hc hs
  refine ⟨U, ?_, .threw T.heap.size, hrun, hend, Or.inr ⟨T.heap.size, rfl, cls, ce, locs, hx U hWs.alike f1 (fun q hq => f2 q hq (fun z hz => nomatch hz)), hce, hO.vm, hcl, hWs, hall, hf⟩⟩
  refine st1 _ ?_
  show Steps p.tables e below (T1.setTop { method := m, pc := pc + 3, locals := ls, stack := .ref T.heap.size :: rest, locked := none }) _
  jvm_step X₁.here [X₁.here.top, hexec, d3', Value.category]
  exact hsteps
/-- 'throw new E("text")': new; dup; ldc; invokespecial; athrow -/
theorem vx_throwS {cc : ByteArray} {pc : Nat} (hexec : p.tables.exec = Jvm.exec) (hb : c.code = cc) (hl : l.stackTraces = false) {own cls text : String} {names : List String} {ik is ic mc ms sa : Nat} {A : Nat → Prop}
    (hown : s.vm.findClass own = some m.cls) (hcls : Bundle.fit cls = true) (hnames : ∀ n ∈ names, Bundle.fit n = true)
    (hk : (Cond.classLink own ik cls).before args s = true) (hini : (Cond.initialized cls).before args s = true) (hstr : vk_R own is text sa s) (hat : ∀ w ∈ vx_atS own ic cls names, w.before args s = true)
    (hgood : ∀ w ∈ Cond.classLink own ik cls :: Cond.initialized cls :: vx_atS own ic cls names, vx_ot w = true)
    (hU : vx_Zq Bundle.tN "UNASSIGNED_STACK" Bundle.steD A s s.heap) (hN : vx_Zq Bundle.tN "SUPPRESSED_SENTINEL" Bundle.listD A s s.heap) (hS : va_S A s.heap H locs) (hsize : ls.size = c.maxLocals)
    (d0 : decode cc pc = .ok (.new ik, 3)) (d3 : decode cc (pc + 3) = .ok (.dup, 1)) (d4 : decode cc (pc + 4) = .ok (.ldc is, 2)) (d6 : decode cc (pc + 6) = .ok (.invokespecial ic, 3)) (d9 : decode cc (pc + 9) = .ok (.athrow, 1))
    (hout : ∀ x ∈ c.exceptionTable.toList, covers x (pc + 9) = false)
    (hRframes : names.length + 3 < R.frames) (hRlocals : (rest.map fun v => v.category).sum + (13 * (names.length + 1) + 43) ≤ R.locals) (hRcells : cells + 1 ≤ R.cells) (hRslots : slots + 6 ≤ R.slots) (hlocks : meth.locks = false)
    (hx : ∀ t : State, s.vm.Alike t.vm → H.size ≤ t.heap.size → (∀ q : Nat, q < H.size → t.heap[q]? = H[q]?) → XC cls s t)
    (hf : ∀ z ∈ locs, free z.base) (hc : cells + 1 ≤ mc) (hs : slots + 6 ≤ ms) :
    W p l e R s m args below meth c H locs cells slots (vx_MQ below Qc XC args s mc ms free) (F0 m pc ls rest) := by
  intro T hT X
  have htr : e.platform.stackTraces = false := (show e.platform.stackTraces = l.stackTraces by rw [X.admits.platform]).trans hl
  have Y := vx_rebase X (R' := { frames := R.frames, locals := R.locals, cells := 1, slots := 6 }) (Nat.le_refl _) (Nat.le_refl _) hRcells hRslots
  obtain ⟨s', hA⟩ : ∃ z, z = (T.setVm s.vm).setFrames (.invoking m args :: below) := ⟨_, rfl⟩
  rw [← hA] at Y
  have hvm : s'.vm = s.vm := by rw [hA]; rfl
  have hhp : s'.heap = H := by rw [hA]; exact hT
  have hW0 : s.WarmedH s'.vm := by rw [hvm]; exact State.WarmedH.refl s
  have hat' : ∀ w ∈ vx_atS own ic cls names, w.before args s' = true := fun w hw => vx_ot_at hW0 hvm.symm (hgood w (List.mem_cons_of_mem _ (List.mem_cons_of_mem _ hw))) (hat w hw)
  have hk' : (Cond.classLink own ik cls).before args s' = true := vx_ot_at hW0 hvm.symm (hgood _ List.mem_cons_self) hk
  have hini' : (Cond.initialized cls).before args s' = true := vx_ot_at hW0 hvm.symm (hgood _ (List.mem_cons_of_mem _ List.mem_cons_self)) hini
  have hU' : vx_Zq Bundle.tN "UNASSIGNED_STACK" Bundle.steD A s' s'.heap := by rw [hhp]; exact vx_Zq.moved hW0.alike (hU.kept hS.2.1)
  have hN' : vx_Zq Bundle.tN "SUPPRESSED_SENTINEL" Bundle.listD A s' s'.heap := by rw [hhp]; exact vx_Zq.moved hW0.alike (hN.kept hS.2.1)
  have h : ∀ w ∈ Bundle.ownAtoms own ic cls names, w.before args s' = true := vx_own hat' (vx_isRefq hU'.1) (vx_isRefq hN'.1) hU'.2.word hN'.2.word
  have hown' : s'.vm.findClass own = some m.cls := by rw [hvm]; exact hown
  have hins : (Cond.instantiable cls 6).before args s' = true := h _ (by simp [Bundle.ownAtoms])
  obtain ⟨vm₁, cX, kX, hfX, hkX, -, -, X₁, st1⟩ := Y.newCold hexec (own := own) (C := cls) (index := ik) (n := 6) hown' hk' hins hini'
    (g := F0 m pc ls rest) rfl (by rw [hb]; exact d0) (Nat.le_refl _) (Nat.le_refl _)
  generalize hT1 : (T.setVm vm₁).pushCell { cls := cX, slots := kX.instanceTypes.map defaultValue, vm := .none } = T1 at X₁ st1
  have hcat : (Value.ref T.heap.size).category = 1 := rfl
  have hcellA : T1.heap[T.heap.size]? = some (freshCell cX kX) := by rw [← hT1]; exact State.heap_pushCell_size _ _
  have d3' : decode c.code (pc + 3) = .ok (.dup, 1) := by rw [hb]; exact d3
  have d4' : decode c.code (pc + 4) = .ok (.ldc is, 2) := by rw [hb]; exact d4
  have hstr' : vk_R own is text sa s' := vk_R.warm hW0 hstr
  obtain ⟨U, hsteps, hrun, hend, hW, hsame, ce, hce, hO⟩ := X₁.ctorThrowS hexec htr (own := own) (cls := cls) (names := names) (ic := ic) hown' hcls hnames h (fun x hx => nomatch hx) hfX hkX hcellA (by rw [hhp, hT]; exact Nat.le_refl _) (msg := .ref sa) rfl
    (g := { method := m, pc := pc + 6, locals := ls, stack := .ref sa :: .ref T.heap.size :: .ref T.heap.size :: rest, locked := none }) rfl hsize rfl rfl (rest := rest) rfl
    (by rw [hb]; exact d6) (by rw [hb]; exact d9) hout hRframes (by simp only [List.map_cons, List.sum_cons, hcat]; omega) hlocks
  obtain ⟨f1, f2⟩ := vx_frame hsame
  rw [hhp] at f1 f2
  have hWs : s.WarmedH U.vm := State.WarmedH.trans hW0 hW
  have hcl : s.vm.findClass cls = some ce.cls := by
    have h9 := hO.cls
    rw [hvm] at h9
    exact h9
  have hall : s.sameButNew ({ U with vm := s.vm } : State) locs mc ms := by
    subst hA
    obtain ⟨e1, e2⟩ := hsame
    rw [State.setFrames_setFrames] at e1
    have h2 : (T.setVm s.vm).sameButNew ({ U with vm := s.vm } : State) [] (0 + 1) (0 + 6) := ⟨e1, e2⟩
    have h3 := X.same.trans h2
    rw [List.append_nil] at h3
    exact h3.mono hc hs
  refine ⟨U, ?_, .threw T.heap.size, hrun, hend, Or.inr ⟨T.heap.size, rfl, cls, ce, locs, hx U hWs.alike f1 (fun q hq => f2 q hq (fun z hz => nomatch hz)), hce, hO.vm, hcl, hWs, hall, hf⟩⟩
  refine st1 _ ?_
  show Steps p.tables e below (T1.setTop { method := m, pc := pc + 3, locals := ls, stack := .ref T.heap.size :: rest, locked := none }) _
  jvm_step X₁.here [X₁.here.top, hexec, d3', Value.category]
  exact X₁.ldcString hexec (own := own) (text := text) (index := is) (a := sa) hown' hstr'.1 hstr'.2
    (g := { method := m, pc := pc + 4, locals := ls, stack := .ref T.heap.size :: .ref T.heap.size :: rest, locked := none }) rfl d4' _ hsteps
/-- 'throw new E("text")', the text by a wide index -/
theorem vx_throwSW {cc : ByteArray} {pc : Nat} (hexec : p.tables.exec = Jvm.exec) (hb : c.code = cc) (hl : l.stackTraces = false) {own cls text : String} {names : List String} {ik is ic mc ms sa : Nat} {A : Nat → Prop}
    (hown : s.vm.findClass own = some m.cls) (hcls : Bundle.fit cls = true) (hnames : ∀ n ∈ names, Bundle.fit n = true)
    (hk : (Cond.classLink own ik cls).before args s = true) (hini : (Cond.initialized cls).before args s = true) (hstr : vk_R own is text sa s) (hat : ∀ w ∈ vx_atS own ic cls names, w.before args s = true)
    (hgood : ∀ w ∈ Cond.classLink own ik cls :: Cond.initialized cls :: vx_atS own ic cls names, vx_ot w = true)
    (hU : vx_Zq Bundle.tN "UNASSIGNED_STACK" Bundle.steD A s s.heap) (hN : vx_Zq Bundle.tN "SUPPRESSED_SENTINEL" Bundle.listD A s s.heap) (hS : va_S A s.heap H locs) (hsize : ls.size = c.maxLocals)
    (d0 : decode cc pc = .ok (.new ik, 3)) (d3 : decode cc (pc + 3) = .ok (.dup, 1)) (d4 : decode cc (pc + 4) = .ok (.ldc_w is, 3)) (d7 : decode cc (pc + 7) = .ok (.invokespecial ic, 3)) (d10 : decode cc (pc + 10) = .ok (.athrow, 1))
    (hout : ∀ x ∈ c.exceptionTable.toList, covers x (pc + 10) = false)
    (hRframes : names.length + 3 < R.frames) (hRlocals : (rest.map fun v => v.category).sum + (13 * (names.length + 1) + 43) ≤ R.locals) (hRcells : cells + 1 ≤ R.cells) (hRslots : slots + 6 ≤ R.slots) (hlocks : meth.locks = false)
    (hx : ∀ t : State, s.vm.Alike t.vm → H.size ≤ t.heap.size → (∀ q : Nat, q < H.size → t.heap[q]? = H[q]?) → XC cls s t)
    (hf : ∀ z ∈ locs, free z.base) (hc : cells + 1 ≤ mc) (hs : slots + 6 ≤ ms) :
    W p l e R s m args below meth c H locs cells slots (vx_MQ below Qc XC args s mc ms free) (F0 m pc ls rest) := by
  intro T hT X
  have htr : e.platform.stackTraces = false := (show e.platform.stackTraces = l.stackTraces by rw [X.admits.platform]).trans hl
  have Y := vx_rebase X (R' := { frames := R.frames, locals := R.locals, cells := 1, slots := 6 }) (Nat.le_refl _) (Nat.le_refl _) hRcells hRslots
  obtain ⟨s', hA⟩ : ∃ z, z = (T.setVm s.vm).setFrames (.invoking m args :: below) := ⟨_, rfl⟩
  rw [← hA] at Y
  have hvm : s'.vm = s.vm := by rw [hA]; rfl
  have hhp : s'.heap = H := by rw [hA]; exact hT
  have hW0 : s.WarmedH s'.vm := by rw [hvm]; exact State.WarmedH.refl s
  have hat' : ∀ w ∈ vx_atS own ic cls names, w.before args s' = true := fun w hw => vx_ot_at hW0 hvm.symm (hgood w (List.mem_cons_of_mem _ (List.mem_cons_of_mem _ hw))) (hat w hw)
  have hk' : (Cond.classLink own ik cls).before args s' = true := vx_ot_at hW0 hvm.symm (hgood _ List.mem_cons_self) hk
  have hini' : (Cond.initialized cls).before args s' = true := vx_ot_at hW0 hvm.symm (hgood _ (List.mem_cons_of_mem _ List.mem_cons_self)) hini
  have hU' : vx_Zq Bundle.tN "UNASSIGNED_STACK" Bundle.steD A s' s'.heap := by rw [hhp]; exact vx_Zq.moved hW0.alike (hU.kept hS.2.1)
  have hN' : vx_Zq Bundle.tN "SUPPRESSED_SENTINEL" Bundle.listD A s' s'.heap := by rw [hhp]; exact vx_Zq.moved hW0.alike (hN.kept hS.2.1)
  have h : ∀ w ∈ Bundle.ownAtoms own ic cls names, w.before args s' = true := vx_own hat' (vx_isRefq hU'.1) (vx_isRefq hN'.1) hU'.2.word hN'.2.word
  have hown' : s'.vm.findClass own = some m.cls := by rw [hvm]; exact hown
  have hins : (Cond.instantiable cls 6).before args s' = true := h _ (by simp [Bundle.ownAtoms])
  obtain ⟨vm₁, cX, kX, hfX, hkX, -, -, X₁, st1⟩ := Y.newCold hexec (own := own) (C := cls) (index := ik) (n := 6) hown' hk' hins hini'
    (g := F0 m pc ls rest) rfl (by rw [hb]; exact d0) (Nat.le_refl _) (Nat.le_refl _)
  generalize hT1 : (T.setVm vm₁).pushCell { cls := cX, slots := kX.instanceTypes.map defaultValue, vm := .none } = T1 at X₁ st1
  have hcat : (Value.ref T.heap.size).category = 1 := rfl
  have hcellA : T1.heap[T.heap.size]? = some (freshCell cX kX) := by rw [← hT1]; exact State.heap_pushCell_size _ _
  have d3' : decode c.code (pc + 3) = .ok (.dup, 1) := by rw [hb]; exact d3
  have d4' : decode c.code (pc + 4) = .ok (.ldc_w is, 3) := by rw [hb]; exact d4
  have hstr' : vk_R own is text sa s' := vk_R.warm hW0 hstr
  obtain ⟨U, hsteps, hrun, hend, hW, hsame, ce, hce, hO⟩ := X₁.ctorThrowS hexec htr (own := own) (cls := cls) (names := names) (ic := ic) hown' hcls hnames h (fun x hx => nomatch hx) hfX hkX hcellA (by rw [hhp, hT]; exact Nat.le_refl _) (msg := .ref sa) rfl
    (g := { method := m, pc := pc + 7, locals := ls, stack := .ref sa :: .ref T.heap.size :: .ref T.heap.size :: rest, locked := none }) rfl hsize rfl rfl (rest := rest) rfl
    (by rw [hb]; exact d7) (by rw [hb]; exact d10) hout hRframes (by simp only [List.map_cons, List.sum_cons, hcat]; omega) hlocks
  obtain ⟨f1, f2⟩ := vx_frame hsame
  rw [hhp] at f1 f2
  have hWs : s.WarmedH U.vm := State.WarmedH.trans hW0 hW
  have hcl : s.vm.findClass cls = some ce.cls := by
    have h9 := hO.cls
    rw [hvm] at h9
    exact h9
  have hall : s.sameButNew ({ U with vm := s.vm } : State) locs mc ms := by
    subst hA
    obtain ⟨e1, e2⟩ := hsame
    rw [State.setFrames_setFrames] at e1
    have h2 : (T.setVm s.vm).sameButNew ({ U with vm := s.vm } : State) [] (0 + 1) (0 + 6) := ⟨e1, e2⟩
    have h3 := X.same.trans h2
    rw [List.append_nil] at h3
    exact h3.mono hc hs
  refine ⟨U, ?_, .threw T.heap.size, hrun, hend, Or.inr ⟨T.heap.size, rfl, cls, ce, locs, hx U hWs.alike f1 (fun q hq => f2 q hq (fun z hz => nomatch hz)), hce, hO.vm, hcl, hWs, hall, hf⟩⟩
  refine st1 _ ?_
  show Steps p.tables e below (T1.setTop { method := m, pc := pc + 3, locals := ls, stack := .ref T.heap.size :: rest, locked := none }) _
  jvm_step X₁.here [X₁.here.top, hexec, d3', Value.category]
  exact X₁.ldcStringW hexec (own := own) (text := text) (index := is) (a := sa) hown' hstr'.1 hstr'.2
    (g := { method := m, pc := pc + 4, locals := ls, stack := .ref T.heap.size :: .ref T.heap.size :: rest, locked := none }) rfl d4' _ hsteps
end Ends
section Bodies
variable {l : Launch}
theorem vx_ofW {y : MethodName} {ws ws' : List Cond} {rm : Room} {Pc : Array Value → State → Prop} {Qc : Array Value → State → Outcome → State → Prop} {XC : String → State → State → Prop} {mc ms : Nat} {free : Addr → Prop} {cc : ByteArray} {maxL : Nat} {ret : Option FieldType}
    (hy : plainName y.cls = true) (hw : ws = Cond.code y cc maxL ret :: ws')
    (body : ∀ p e s m args below meth c s₁, BodyLoose p l y (headSpec ws rm) cc maxL ret e s m args below meth c s₁ → c.maxLocals = maxL → (∀ x ∈ c.exceptionTable.toList, False) → Pc args s →
      W p l e (headSpec ws rm).room s m args below meth c s.heap [] 0 0 (vx_MQ below Qc XC args s mc ms free) (entryFrame m args maxL)) : vx_Met l y ws rm Pc Qc XC mc ms free := by
  refine MetFree.of_bodyS (code := cc) (maxLocals := maxL) (ret := ret) hy ?_ ?_
  · intro args s m h hn
    obtain ⟨meth, c, h1, h2, h3, h4, h5, h6, -, -⟩ := Cond.code_spec hn (atoms_spec (ws := ws) h _ (by rw [hw]; exact List.mem_cons_self))
    exact ⟨meth, c, h1, h2, h3, h4, h5, h6⟩
  · intro p e s m args below meth c s₁ B hml hP _
    have hh0 : s₁.heap = s.heap := by rw [B.state]; rfl
    have ht : ∀ x ∈ c.exceptionTable.toList, False := by
      obtain ⟨meth9, c9, h1, h2, -, -, -, -, h7, -⟩ := Cond.code_spec B.named (atoms_spec (ws := ws) B.pre _ (by rw [hw]; exact List.mem_cons_self))
      cases Option.some.inj (h1.symm.trans B.method)
      cases Option.some.inj (h2.symm.trans (Stand.of_body B).code)
      intro x hx
      rw [Array.isEmpty_iff.mp h7] at hx
      cases hx
    obtain ⟨t, a1, o, b1, b2, b3⟩ := body p e s m args below meth c s₁ B hml ht hP s₁ hh0 (Stand.of_body B)
    exact ⟨t, o, a1, b1, b2, b3⟩
/-- the table of a body with handlers -/
theorem vx_table {p : Program} {x y : MethodName} {S : Spec} {cc bytes : ByteArray} {maxL maxL' : Nat} {ret ret' : Option FieldType} {e : Env} {s s₁ : State} {m : MethodId} {args : Array Value} {below : List Frame} {meth : Method} {c : Code} {hh : List (Nat × Nat × Nat × Nat)}
    (B : BodyLoose p l y S cc maxL ret e s m args below meth c s₁) (h : (Cond.codeWith y bytes maxL' ret' hh).before args s = true) : c.exceptionTable.toList = tableOf hh := by
  obtain ⟨m9, meth9, c9, hn9, h1, h2, -, -, h6, -⟩ := Cond.codeWith_spec h
  cases Option.some.inj (hn9.symm.trans B.named)
  cases Option.some.inj (h1.symm.trans B.method)
  cases Option.some.inj (h2.symm.trans (Stand.of_body B).code)
  rw [← h6, table_eq]
end Bodies
end VXA
/-! ===== END ===== -/
/-! ===== BEGIN a static call of a method with an exception table ===== -/
section VXS
variable {p : Program} {l : Launch} {e : Env} {R : Room} {s : State} {m : MethodId} {args : Array Value} {below : List Frame} {meth : Method} {c : Code} {T : State} {H : Heap} {locs : List Loc} {cells slots : Nat}
abbrev vx_CSW (R : Room) (s : State) (args : Array Value) (own : String) (index : Nat) (y : MethodName) (bytes : ByteArray) (maxL : Nat) (ret : Option FieldType) (hh : List (Nat × Nat × Nat × Nat)) (ws : List Cond) (rm : Room) (mc ms n : Nat) : Prop :=
  (rm.cells = mc ∧ rm.slots = ms ∧ rm.frames + 1 ≤ R.frames ∧ 8 + (maxL + 11) + rm.locals ≤ R.locals ∧ (∀ w ∈ ws, ∀ (a' : Array Value) (U : State), s.WarmedH U.vm → w.before a' U = true) ∧ Cond.codeWith y bytes maxL ret hh ∈ ws) ∧
  (Cond.codeWith y bytes maxL ret hh).before args s = true ∧ (Cond.initialized y.cls).before args s = true ∧ (y.cls ≠ "java/lang/invoke/MethodHandle" ∧ y.cls ≠ "java/lang/invoke/VarHandle") ∧
  (∀ sig, parseMethodDescriptor y.desc = some sig → n = sig.parameters.length) ∧ (Cond.methodLink own index y).before args s = true ∧ (Cond.static y).before args s = true
theorem vx_cwSW {own : String} {index maxL mc ms : Nat} {y : MethodName} {bytes : ByteArray} {ret : Option FieldType} {hh : List (Nat × Nat × Nat × Nat)} {Ts ws ws' : List Cond} {rm : Room} (n : Nat) (ht : ∀ w ∈ Ts, w.before args s = true) (hT : GoodIn Ts (va_wsS own index y ws)) (hw : ws = Cond.codeWith y bytes maxL ret hh :: ws') (hrc : rm.cells = mc) (hrs : rm.slots = ms)
    (hd : y.cls ≠ "java/lang/invoke/MethodHandle" ∧ y.cls ≠ "java/lang/invoke/VarHandle" ∧ (parseMethodDescriptor y.desc).map (fun d => d.parameters.length) = some n) (hR : rm.frames + 1 ≤ R.frames ∧ 8 + (maxL + 11) + rm.locals ≤ R.locals) :
    vx_CSW R s args own index y bytes maxL ret hh ws rm mc ms n := by
  have ok : ∀ w ∈ va_wsS own index y ws, w.before args s = true := fun w h => ht w (hT w h).1
  have hG : GoodIn Ts ws := fun w h => hT w (by unfold va_wsS; exact List.mem_append_right _ h)
  have hc : Cond.codeWith y bytes maxL ret hh ∈ ws := by rw [hw]; exact List.mem_cons_self
  refine ⟨⟨hrc, hrs, hR.1, hR.2, pay_in ht hG, hc⟩, ht _ (hG _ hc).1, ok _ (by simp [va_wsS]), ⟨hd.1, hd.2.1⟩, fun sig h => ?_, ok _ (by simp [va_wsS]), ok _ (by simp [va_wsS])⟩
  have h2 := hd.2.2
  rw [h] at h2
  exact (Option.some.inj h2).symm
theorem vx_callSW (X : Stand p l e R s m args below meth c T locs cells slots) (hexec : p.tables.exec = Jvm.exec) {own : String} {index : Nat} {y : MethodName} {bytes : ByteArray} {maxL : Nat} {ret : Option FieldType} {hh : List (Nat × Nat × Nat × Nat)}
    (hown : s.vm.findClass own = some m.cls) (hlink : (Cond.methodLink own index y).before args s = true) (hstat : (Cond.static y).before args s = true) (hinit : (Cond.initialized y.cls).before args s = true)
    (hcode : (Cond.codeWith y bytes maxL ret hh).before args s = true) (hy : y.cls ≠ "java/lang/invoke/MethodHandle" ∧ y.cls ≠ "java/lang/invoke/VarHandle")
    {W9 : Nat} {Pre : Pt → Array Value → Prop} {Post : Pt → Array Value → Option Value → Pt → Prop} (hK : Back l R p e below s args y 3 W9 Pre Post)
    {g : JFrame} (hg : g.method = m) (hsize : g.locals.size = c.maxLocals) {argsL rest : List Value} (hlen : ∀ sig, parseMethodDescriptor y.desc = some sig → argsL.length = sig.parameters.length)
    (hstack : g.stack = argsL.reverse ++ rest) (hW : 2 * g.monitorRoom + (rest.map fun v => v.category).sum ≤ W9) (hdg : decode c.code g.pc = .ok (.invokestatic index, 3))
    (hpre : ∀ vm₁, s.WarmedH vm₁ → Pre ⟨T.setVm vm₁, locs, cells, slots⟩ argsL.toArray) :
    ∃ (v : Option Value) (vm₁ : Vm) (B : Pt), s.WarmedH vm₁ ∧ Stand p l e R s m args below meth c B.U B.locs B.cells B.slots ∧ Post ⟨T.setVm vm₁, locs, cells, slots⟩ argsL.toArray v B ∧
      ∀ target, Steps p.tables e below (B.U.setTop { g with pc := g.pc + 3, stack := v.toList ++ rest }) target → Steps p.tables e below (T.setTop g) target := by
  obtain ⟨mk, methM, cM, hnamed, hmethM, -, -, -, -, -, -, hsigM⟩ := Cond.codeWith_spec hcode
  have hstatic : methM.isStatic = true := Cond.static_spec hnamed hmethM hstat
  obtain ⟨kP, hkP, -⟩ := className_of_methodNamed hnamed
  have hinitP : kP.init = .initialized := Cond.initialized_spec (findClass_of_methodNamed hnamed) hkP hinit
  obtain ⟨vm₁, X₁, hstep₁⟩ := X.invokestatic hexec hown hlink hnamed hmethM hstatic hkP hinitP hy (g := g) hg (argsL := argsL) (rest := rest) (hlen _ hsigM) hstack hdg
  obtain ⟨v, B, X', hpost, hsteps⟩ := hK m meth c ⟨T.setVm vm₁, locs, cells, slots⟩ { g with stack := rest } (.invokestatic index) mk argsL.toArray X₁ hg hsize hdg hW (X₁.named hnamed) (hpre vm₁ X₁.warmed)
  exact ⟨v, vm₁, B, X₁.warmed, X', hpost, fun target h => hstep₁ _ fun acts => by rw [doInvoke_state]; exact hsteps.trans h⟩
theorem vx_runSW {y : MethodName} {bytes cc : ByteArray} {maxL nL mc ms n index : Nat} {ret : Option FieldType} {hh : List (Nat × Nat × Nat × Nat)} {ws : List Cond} {rm : Room} {Pc : Array Value → State → Prop} {Qc : Array Value → State → Outcome → State → Prop} {free : Addr → Prop} {Ts : List Cond} {own : String} {As rest : List Value} {g : JFrame}
    (S : CallFix p m c cc nL s args Ts own) (hM : Met l y ws rm Pc Qc mc ms free) (cw : vx_CSW R s args own index y bytes maxL ret hh ws rm mc ms n) (hp : PreS s H Pc As)
    (hg : g.method = m) (hn : As.length = n) (hsize : g.locals.size = nL) (hstack : g.stack = As.reverse ++ rest) (hW : 2 * g.monitorRoom + (rest.map fun v => v.category).sum ≤ 8) (hdg : decode cc g.pc = .ok (.invokestatic index, 3)) (hf : cells + mc ≤ R.cells ∧ slots + ms ≤ R.slots) :
    va_Run p l e R s m args below meth c H locs cells slots mc ms g rest (Qc As.toArray) (free) := by
  obtain ⟨⟨hrc, hrs, hfr, hlo, hws, hcw⟩, hcode, hini, hy, hlen, hl, hstt⟩ := cw
  have hK : Back l R p e below s args y 3 8 (PreOf R mc ms Pc) (PostOf Qc mc ms free) := va_backW (hh := hh) (bytes := bytes) (maxL := maxL) (ret := ret) hM hp.1 hrc hrs hfr hlo hws hcw (fun a' U hW => word_at hW (Or.inl (by first | rfl | simp [Cond.onTables, Cond.keeps, Cond.steady])) hini)
  obtain ⟨hx, hb, hml, ho, -⟩ := S
  intro T hT X
  obtain ⟨v, vm₁, ⟨U', l2, c2, s2⟩, hW₁, X', ⟨g', mk, t, L, e1, e2, hq, h1, hL, h2, h3⟩, st⟩ := vx_callSW X hx (hh := hh) (bytes := bytes) (maxL := maxL) (ret := ret) ho hl hstt hini hcode hy hK hg (hsize.trans hml.symm) (argsL := As) (rest := rest) (fun sig h => hn.trans (hlen sig h)) hstack hW (by rw [hb]; exact hdg)
    (fun vm₁ hW₁ => ⟨hf.1, hf.2, hp.2 (T.setVm vm₁) hT hW₁⟩)
  dsimp only [Pt.U, Pt.locs, Pt.cells, Pt.slots] at X' e1 e2 h1 h2 h3 st
  subst h1; subst h2; subst h3
  exact ⟨v, (T.setVm vm₁).calling g' mk As.toArray, t, U', L, hT, X', hL, e1, e2, hq, st⟩
/-- not caught here, past rows that name other classes: it goes on to the caller -/
theorem vx_outP {p : Program} {l : Launch} {e : Env} {R : Room} {s : State} {m : MethodId} {args : Array Value} {below : List Frame} {meth : Method} {c : Code} {H : Heap} {locs : List Loc} {cells slots : Nat} {free : Addr → Prop} {ls : Array Slot} {rest : List Value} {Qc : Array Value → State → Outcome → State → Prop} {XC : String → State → State → Prop}
    {pc : Nat} {own E : String} {ce : Cell} {q : Addr} {mc ms : Nat} (hown : s.vm.findClass own = some m.cls) (hlocks : meth.locks = false)
    (hpass : ∀ z ∈ c.exceptionTable.toList, covers z pc = false ∨ (z.catchType ≠ 0 ∧ ∃ nm : String, (Cond.classLink own z.catchType nm).before args s = true ∧ va_Nc E nm s)) (hcell : H[q]? = some ce) (hv : ce.vm = .none) (hcl : s.vm.findClass E = some ce.cls)
    (hx : ∀ t : State, t.heap = H → s.vm.Alike t.vm → XC E s t) (hf : ∀ z ∈ locs, free z.base) (hc : cells ≤ mc) (hs : slots ≤ ms) :
    vx_W p l e R s m args below meth c H locs cells slots (vx_MQ below Qc XC args s mc ms free) (F0 m pc ls rest) q := by
  intro T hT X
  have hpl : e.platform.magicAccessors = ({} : Platform).magicAccessors := by rw [X.admits.platform]
  obtain ⟨vm', hW', X', st⟩ := X.outThrough hlocks q (g := F0 m pc ls rest) rfl rfl rfl (cell := ce) (by rw [hT]; exact hcell) (by rw [hv]; rfl)
    (by obtain ⟨k9, h9, -⟩ := Vm.findClass_spec hcl; exact ⟨k9, h9⟩) (fun z hz => by
      rcases hpass z hz with h | ⟨hz0, nm, hl1, hn1⟩
      · exact Or.inl h
      · obtain ⟨c6, hc6, hcl6⟩ := Cond.classLink_spec hown hl1 e.platform hpl
        obtain ⟨a8, b8, h1, h2, h3⟩ := hn1
        cases Option.some.inj (h1.symm.trans hcl)
        cases Option.some.inj (h2.symm.trans hc6)
        exact Or.inr ⟨hz0, _, hcl6, h3⟩)
  obtain ⟨g₀, hfr⟩ := X'.frames_eq
  have hcell9 : ((T.setVm vm').setFrames (.throwing q :: below)).heap[q]? = some ce := by
    show T.heap[q]? = some ce
    rw [hT]; exact hcell
  have hend : Ended ((T.setVm vm').setFrames (.throwing q :: below)) below (.threw q) := State.frames_setFrames _ (State.cur_lt_of_frames hfr)
  refine ⟨(T.setVm vm').setFrames (.throwing q :: below), ?_, .threw q, X'.here.running, hend, Or.inr ⟨q, rfl, E, ce, locs, hx _ hT (X'.ends _).1.alike, hcell9, hv, hcl, (X'.ends _).1, (X'.ends _).2.mono hc hs, hf⟩⟩
  rw [X.pushThrowing_eq]
  exact st
/-- a thing of a world lies in the heap -/
theorem vx_lt {D : va_G} {cl : List vw_C} {ws : va_W} {H1 : Heap} (h : va_P D cl ws H1) {k : Nat} {q : Nat × va_E} (hk : ws[k]? = some q) : q.1 < H1.size := (h k q hk).lt
end VXS
/-! ===== END ===== -/
/-! ===== BEGIN methods with a table of their own: called by a name, returning or throwing ===== -/
section VXH
/-! vx_backW, vx_callVX, vx_callSX, vx_callVW, vx_runVW, vx_runVX, vx_runSX, vx_ofWH follow the same proofs as their sisters above (Free/Laws.lean, Shelf42/LK1.lean); vx_outP calls Shelf42/NT130.lean (outThrough). -/
section
variable {l : Launch} {R : Room} {p : Program} {e : Env} {below : List Frame} {s : State} {sargs : Array Value} {y : MethodName} {len W9 : Nat}
theorem vx_backW {ws : List Cond} {rm : Room} {Pc : Array Value → State → Prop} {Qc : Array Value → State → Outcome → State → Prop} {XC : String → State → State → Prop} {mc ms : Nat} {free : Addr → Prop} {bytes : ByteArray} {maxL : Nat} {ret : Option FieldType} {hh : List (Nat × Nat × Nat × Nat)}
    (hM : vx_Met l y ws rm Pc Qc XC mc ms free) (hblind : FrameBlind Pc) (hrc : rm.cells = mc) (hrs : rm.slots = ms)
    (hframes : rm.frames + 1 ≤ R.frames) (hlocals : W9 + (maxL + 11) + rm.locals ≤ R.locals)
    (hws : ∀ w ∈ ws, ∀ a' U, s.WarmedH U.vm → w.before a' U = true) (hcode : Cond.codeWith y bytes maxL ret hh ∈ ws) (hinit : ∀ a' U, s.WarmedH U.vm → (Cond.initialized y.cls).before a' U = true) :
    vx_Back l R p e below s sargs y len W9 (PreOf R mc ms Pc) (PostOf Qc mc ms free) (vx_Post XC mc ms free) := by
  intro m meth c A g ig mk a X hg hsize hdg hW hn hp
  have h1 : (headSpec ws rm).pre.before a A.U = true := atoms_intro fun w hw => hws w hw _ _ X.warmed
  have h2 : (Cond.codeWith y bytes maxL ret hh).before a A.U = true := hws _ hcode _ _ X.warmed
  have h3 : (Cond.initialized y.cls).before a A.U = true := hinit _ _ X.warmed
  have h4 : A.cells + (headSpec ws rm).room.cells ≤ R.cells := by rw [show (headSpec ws rm).room.cells = mc from hrc]; exact hp.1
  have h5 : A.slots + (headSpec ws rm).room.slots ≤ R.slots := by rw [show (headSpec ws rm).room.slots = ms from hrs]; exact hp.2.1
  have hPc : Pc a (A.U.calling g mk a) := hblind _ _ _ _ hp.2.2
  obtain ⟨U, Ls, c0, s0⟩ := A
  dsimp only [Pt.U, Pt.locs, Pt.cells, Pt.slots] at h1 h2 h3 h4 h5 X hn hPc ⊢
  obtain ⟨m9, methY, cY, hn9, hmY, hcY, -, hlY, -⟩ := Cond.codeWith_spec h2
  cases Option.some.inj (hn9.symm.trans hn)
  obtain ⟨kY, hkY, -⟩ := className_of_methodNamed hn
  have hinitY : kY.init = .initialized := Cond.initialized_spec (findClass_of_methodNamed hn) hkY h3
  have h : At U g.method c below := by rw [hg]; exact X.here
  have hlocals9 : W9 + (maxL + 11) + (headSpec ws rm).room.locals ≤ R.locals := hlocals
  have happ : (headSpec ws rm).appliesLoose y e.platform (U.calling g mk a) = true :=
    Spec.appliesLoose_calling (g := g) h hdg hn hkY hinitY
      (X.room_calling (g := g) (R' := (headSpec ws rm).room) hsize hmY hcY hframes (by rw [hlY]; omega) h4 h5) h1
  obtain ⟨mid, hmid⟩ := h.above
  have hfr : (U.setTop g).frames = (.java g :: mid) ++ below := by rw [State.frames_setTop' g h.top, hmid]; rfl
  obtain ⟨o, s₂, hsteps, -, hend, hq⟩ := Steps.callFree hM p X.admits X.cas X.clock (acts := []) hfr happ hPc trivial
  have hq' : vx_Q Qc XC mc ms free a (U.calling g mk a) o s₂ := hq
  rw [State.frames_setTop' g h.top] at hend
  obtain ⟨g₀, hg0⟩ := Option.isSome_iff_exists.mp h.top
  obtain ⟨r, hr⟩ := State.topJava?_eq_some.mp hg0
  have hr' : (({ U with heap := s₂.heap, slotsUsed := s₂.slotsUsed } : State).setVm s₂.vm).frames = .java g₀ :: r := hr
  rcases hq' with ⟨hqc, L, hfe, hL⟩ | ⟨q, rfl, E, ce, L, hx, hce, hcv, hcl, hW₂, hsm, hL⟩
  · obtain ⟨⟨v, rfl⟩, hW₂, e2, q2, q3, q4, q5, q6⟩ := id hfe
    have e3 : s₂ = ({ (U.calling g mk a).setFrames s₂.frames with heap := s₂.heap, slotsUsed := s₂.slotsUsed } : State).setVm s₂.vm := by
      have : s₂ = ({ s₂ with vm := (U.calling g mk a).vm } : State).setVm s₂.vm := rfl
      rw [e2] at this
      exact this
    obtain ⟨c₂, i₂, len₂, hc₂, hd₂, hf₂⟩ := hend
    have hW' : U.WarmedH s₂.vm := hW₂
    have hcc : c₂ = c := by
      have h1 : s₂.code? g.method = U.code? g.method := by
        rw [State.code?_eq, State.code?_eq, hW'.alike.method?]
      exact Option.some.inj (hc₂.symm.trans (h1.trans h.code))
    subst hcc
    have hlen : len₂ = len := by rw [hdg] at hd₂; cases hd₂; rfl
    subst hlen
    have hs₂ : s₂ = (({ U with heap := s₂.heap, slotsUsed := s₂.slotsUsed } : State).setVm s₂.vm).setTop { g with pc := g.pc + len₂, stack := v.toList ++ g.stack } := by
      refine e3.trans ?_
      rw [hf₂, State.calling_eq h.top, State.setFrames_setFrames, State.setTop_of_frames _ hr', hr]
      rfl
    have hsame : U.sameButNew ({ U with heap := s₂.heap, slotsUsed := s₂.slotsUsed } : State) L mc ms := by
      refine ⟨?_, q2, q3, q4, q5, q6⟩
      obtain ⟨t, ht, -⟩ := State.frames_cons hr
      show ({ U with heap := s₂.heap, slotsUsed := s₂.slotsUsed } : State) = { U.setFrames U.frames with heap := s₂.heap, slotsUsed := s₂.slotsUsed }
      rw [State.setFrames_self ht]
    subst hg
    refine Or.inl ⟨v, ⟨(({ U with heap := s₂.heap, slotsUsed := s₂.slotsUsed } : State).setVm s₂.vm), Ls ++ L, c0 + mc, s0 + ms⟩,
      ⟨X.admits, X.cas, X.clock, X.frames, X.room, X.hears, X.method, X.code, (X.here.setHeapUsed s₂.heap s₂.slotsUsed).setVm hW'.alike, X.tail, State.WarmedH.trans X.warmed hW', X.limits, X.bytes, X.same.trans (hsame.setVm s.vm)⟩,
      ⟨g, mk, s₂, L, rfl, rfl, hqc, rfl, hL, rfl, rfl⟩, ?_⟩
    show Steps p.tables e below _ ((({ U with heap := s₂.heap, slotsUsed := s₂.slotsUsed } : State).setVm s₂.vm).setTop { g with pc := g.pc + len₂, stack := v.toList ++ g.stack })
    rw [← hs₂]
    exact hsteps
  · obtain ⟨e2, q2, q3, q4, q5, q6⟩ := id hsm
    have e3 : s₂ = ({ (U.calling g mk a).setFrames s₂.frames with heap := s₂.heap, slotsUsed := s₂.slotsUsed } : State).setVm s₂.vm := by
      have : s₂ = ({ s₂ with vm := (U.calling g mk a).vm } : State).setVm s₂.vm := rfl
      rw [e2] at this
      exact this
    have hf₂ : s₂.frames = .throwing q :: .java g :: U.frames.tail := hend
    have hW' : U.WarmedH s₂.vm := hW₂
    have hs₂ : s₂ = ((({ U with heap := s₂.heap, slotsUsed := s₂.slotsUsed } : State).setVm s₂.vm).setTop g).pushFrame (.throwing q) := by
      refine e3.trans ?_
      rw [hf₂, State.calling_eq h.top, State.setFrames_setFrames, State.pushFrame, State.frames_setTop _ hr', State.setTop_of_frames _ hr', State.setFrames_setFrames, hr]
      rfl
    have hsame : U.sameButNew ({ U with heap := s₂.heap, slotsUsed := s₂.slotsUsed } : State) L mc ms := by
      refine ⟨?_, q2, q3, q4, q5, q6⟩
      obtain ⟨t, ht, -⟩ := State.frames_cons hr
      show ({ U with heap := s₂.heap, slotsUsed := s₂.slotsUsed } : State) = { U.setFrames U.frames with heap := s₂.heap, slotsUsed := s₂.slotsUsed }
      rw [State.setFrames_self ht]
    subst hg
    refine Or.inr ⟨q, ⟨(({ U with heap := s₂.heap, slotsUsed := s₂.slotsUsed } : State).setVm s₂.vm), Ls ++ L, c0 + mc, s0 + ms⟩,
      ⟨X.admits, X.cas, X.clock, X.frames, X.room, X.hears, X.method, X.code, (X.here.setHeapUsed s₂.heap s₂.slotsUsed).setVm hW'.alike, X.tail, State.WarmedH.trans X.warmed hW', X.limits, X.bytes, X.same.trans (hsame.setVm s.vm)⟩,
      ⟨g, mk, s₂, L, E, ce, rfl, rfl, hx, hce, hcv, hcl, rfl, hL, rfl, rfl⟩, ?_⟩
    show Steps p.tables e below _ (((({ U with heap := s₂.heap, slotsUsed := s₂.slotsUsed } : State).setVm s₂.vm).setTop g).pushFrame (.throwing q))
    rw [← hs₂]
    exact hsteps
end
variable {p : Program} {l : Launch} {e : Env} {R : Room} {s : State} {m : MethodId} {args : Array Value} {below : List Frame} {meth : Method} {c : Code} {T : State} {H : Heap} {locs : List Loc} {cells slots : Nat}
theorem vx_callVX (X : Stand p l e R s m args below meth c T locs cells slots) (hexec : p.tables.exec = Jvm.exec) {own C : String} {index : Nat} {y : MethodName} {bytes : ByteArray} {maxL : Nat} {ret : Option FieldType} {hh : List (Nat × Nat × Nat × Nat)}
    (hown : s.vm.findClass own = some m.cls) (hlink : (Cond.methodLink own index y).before args s = true) (hinst : (Cond.instanceMethod y).before args s = true) (hsel : (Cond.selects C y y).before args s = true)
    (hcode : (Cond.codeWith y bytes maxL ret hh).before args s = true) (hy : y.cls ≠ "java/lang/invoke/MethodHandle" ∧ y.cls ≠ "java/lang/invoke/VarHandle")
    {W9 : Nat} {Pre : Pt → Array Value → Prop} {Post : Pt → Array Value → Option Value → Pt → Prop} {PostX : Pt → Array Value → Addr → Pt → Prop} (hK : vx_Back l R p e below s args y 3 W9 Pre Post PostX)
    {b : Addr} {cellB : Cell} (hcell : T.heap[b]? = some cellB) (hobj : cellB.vm.isStatics = false) (hcls : s.vm.findClass C = some cellB.cls)
    {g : JFrame} (hg : g.method = m) (hsize : g.locals.size = c.maxLocals) {argsL rest : List Value} (hlen : ∀ sig, parseMethodDescriptor y.desc = some sig → argsL.length = sig.parameters.length)
    (hstack : g.stack = argsL.reverse ++ .ref b :: rest) (hW : 2 * g.monitorRoom + (rest.map fun v => v.category).sum ≤ W9) (hdg : decode c.code g.pc = .ok (.invokevirtual index, 3))
    (hpre : ∀ vm₁, s.WarmedH vm₁ → Pre ⟨T.setVm vm₁, locs, cells, slots⟩ (Value.ref b :: argsL).toArray) :
    (∃ (v : Option Value) (vm₁ : Vm) (B : Pt), s.WarmedH vm₁ ∧ Stand p l e R s m args below meth c B.U B.locs B.cells B.slots ∧ Post ⟨T.setVm vm₁, locs, cells, slots⟩ (Value.ref b :: argsL).toArray v B ∧
      ∀ target, Steps p.tables e below (B.U.setTop { g with pc := g.pc + 3, stack := v.toList ++ rest }) target → Steps p.tables e below (T.setTop g) target) ∨
    (∃ (q : Addr) (vm₁ : Vm) (B : Pt), s.WarmedH vm₁ ∧ Stand p l e R s m args below meth c B.U B.locs B.cells B.slots ∧ PostX ⟨T.setVm vm₁, locs, cells, slots⟩ (Value.ref b :: argsL).toArray q B ∧
      Steps p.tables e below (T.setTop g) ((B.U.setTop { g with stack := rest }).pushFrame (.throwing q))) := by
  obtain ⟨mk, methM, hnamed, hmethM, hstM, habM⟩ := Cond.instanceMethod_spec hinst
  obtain ⟨m8, methM', cM, hn8, hmethM', -, -, -, -, -, -, hsigM⟩ := Cond.codeWith_spec hcode
  cases Option.some.inj (hn8.symm.trans hnamed)
  cases hmethM.symm.trans hmethM'
  obtain ⟨c2, r2, m2, q1, q2, q3, q4, kP, hkP, hkPi⟩ := Cond.selects_spec hsel
  cases hcls.symm.trans q1
  cases (State.methodFound?_of_named hnamed hy).symm.trans q2
  cases hnamed.symm.trans q3
  have hselP : selectMethod e.platform s.vm cellB.cls mk = .method mk := by rw [Launch.admits_selectMethod X.admits]; exact q4
  obtain ⟨vm₁, X₁, hstep₁⟩ := X.invokevirtual hexec hown hlink hnamed hmethM hstM hkP hkPi hy (a := b) (cell := cellB) hcell
    (fun z h => by rw [h] at hobj; cases hobj) hselP hmethM habM hkP hkPi (g := g) hg (argsL := argsL) (rest := rest) (hlen _ hsigM) hstack hdg
  rcases hK m meth c ⟨T.setVm vm₁, locs, cells, slots⟩ { g with stack := rest } (.invokevirtual index) mk (Value.ref b :: argsL).toArray X₁ hg hsize hdg hW (X₁.named hnamed) (hpre vm₁ X₁.warmed) with ⟨v, B, X', hpost, hsteps⟩ | ⟨q, B, X', hpost, hsteps⟩
  · exact Or.inl ⟨v, vm₁, B, X₁.warmed, X', hpost, fun target h => hstep₁ _ fun acts => by rw [doInvoke_state]; exact hsteps.trans h⟩
  · exact Or.inr ⟨q, vm₁, B, X₁.warmed, X', hpost, hstep₁ _ fun acts => by rw [doInvoke_state]; exact hsteps⟩
theorem vx_callSX (X : Stand p l e R s m args below meth c T locs cells slots) (hexec : p.tables.exec = Jvm.exec) {own : String} {index : Nat} {y : MethodName} {bytes : ByteArray} {maxL : Nat} {ret : Option FieldType} {hh : List (Nat × Nat × Nat × Nat)}
    (hown : s.vm.findClass own = some m.cls) (hlink : (Cond.methodLink own index y).before args s = true) (hstat : (Cond.static y).before args s = true) (hinit : (Cond.initialized y.cls).before args s = true)
    (hcode : (Cond.codeWith y bytes maxL ret hh).before args s = true) (hy : y.cls ≠ "java/lang/invoke/MethodHandle" ∧ y.cls ≠ "java/lang/invoke/VarHandle")
    {W9 : Nat} {Pre : Pt → Array Value → Prop} {Post : Pt → Array Value → Option Value → Pt → Prop} {PostX : Pt → Array Value → Addr → Pt → Prop} (hK : vx_Back l R p e below s args y 3 W9 Pre Post PostX)
    {g : JFrame} (hg : g.method = m) (hsize : g.locals.size = c.maxLocals) {argsL rest : List Value} (hlen : ∀ sig, parseMethodDescriptor y.desc = some sig → argsL.length = sig.parameters.length)
    (hstack : g.stack = argsL.reverse ++ rest) (hW : 2 * g.monitorRoom + (rest.map fun v => v.category).sum ≤ W9) (hdg : decode c.code g.pc = .ok (.invokestatic index, 3))
    (hpre : ∀ vm₁, s.WarmedH vm₁ → Pre ⟨T.setVm vm₁, locs, cells, slots⟩ argsL.toArray) :
    (∃ (v : Option Value) (vm₁ : Vm) (B : Pt), s.WarmedH vm₁ ∧ Stand p l e R s m args below meth c B.U B.locs B.cells B.slots ∧ Post ⟨T.setVm vm₁, locs, cells, slots⟩ argsL.toArray v B ∧
      ∀ target, Steps p.tables e below (B.U.setTop { g with pc := g.pc + 3, stack := v.toList ++ rest }) target → Steps p.tables e below (T.setTop g) target) ∨
    (∃ (q : Addr) (vm₁ : Vm) (B : Pt), s.WarmedH vm₁ ∧ Stand p l e R s m args below meth c B.U B.locs B.cells B.slots ∧ PostX ⟨T.setVm vm₁, locs, cells, slots⟩ argsL.toArray q B ∧
      Steps p.tables e below (T.setTop g) ((B.U.setTop { g with stack := rest }).pushFrame (.throwing q))) := by
  obtain ⟨mk, methM, cM, hnamed, hmethM, -, -, -, -, -, -, hsigM⟩ := Cond.codeWith_spec hcode
  have hstatic : methM.isStatic = true := Cond.static_spec hnamed hmethM hstat
  obtain ⟨kP, hkP, -⟩ := className_of_methodNamed hnamed
  have hinitP : kP.init = .initialized := Cond.initialized_spec (findClass_of_methodNamed hnamed) hkP hinit
  obtain ⟨vm₁, X₁, hstep₁⟩ := X.invokestatic hexec hown hlink hnamed hmethM hstatic hkP hinitP hy (g := g) hg (argsL := argsL) (rest := rest) (hlen _ hsigM) hstack hdg
  rcases hK m meth c ⟨T.setVm vm₁, locs, cells, slots⟩ { g with stack := rest } (.invokestatic index) mk argsL.toArray X₁ hg hsize hdg hW (X₁.named hnamed) (hpre vm₁ X₁.warmed) with ⟨v, B, X', hpost, hsteps⟩ | ⟨q, B, X', hpost, hsteps⟩
  · exact Or.inl ⟨v, vm₁, B, X₁.warmed, X', hpost, fun target h => hstep₁ _ fun acts => by rw [doInvoke_state]; exact hsteps.trans h⟩
  · exact Or.inr ⟨q, vm₁, B, X₁.warmed, X', hpost, hstep₁ _ fun acts => by rw [doInvoke_state]; exact hsteps⟩
theorem vx_callVW (X : Stand p l e R s m args below meth c T locs cells slots) (hexec : p.tables.exec = Jvm.exec) {own C : String} {index : Nat} {y : MethodName} {bytes : ByteArray} {maxL : Nat} {ret : Option FieldType} {hh : List (Nat × Nat × Nat × Nat)}
    (hown : s.vm.findClass own = some m.cls) (hlink : (Cond.methodLink own index y).before args s = true) (hinst : (Cond.instanceMethod y).before args s = true) (hsel : (Cond.selects C y y).before args s = true)
    (hcode : (Cond.codeWith y bytes maxL ret hh).before args s = true) (hy : y.cls ≠ "java/lang/invoke/MethodHandle" ∧ y.cls ≠ "java/lang/invoke/VarHandle")
    {W9 : Nat} {Pre : Pt → Array Value → Prop} {Post : Pt → Array Value → Option Value → Pt → Prop} (hK : Back l R p e below s args y 3 W9 Pre Post)
    {b : Addr} {cellB : Cell} (hcell : T.heap[b]? = some cellB) (hobj : cellB.vm.isStatics = false) (hcls : s.vm.findClass C = some cellB.cls)
    {g : JFrame} (hg : g.method = m) (hsize : g.locals.size = c.maxLocals) {argsL rest : List Value} (hlen : ∀ sig, parseMethodDescriptor y.desc = some sig → argsL.length = sig.parameters.length)
    (hstack : g.stack = argsL.reverse ++ .ref b :: rest) (hW : 2 * g.monitorRoom + (rest.map fun v => v.category).sum ≤ W9) (hdg : decode c.code g.pc = .ok (.invokevirtual index, 3))
    (hpre : ∀ vm₁, s.WarmedH vm₁ → Pre ⟨T.setVm vm₁, locs, cells, slots⟩ (Value.ref b :: argsL).toArray) :
    ∃ (v : Option Value) (vm₁ : Vm) (B : Pt), s.WarmedH vm₁ ∧ Stand p l e R s m args below meth c B.U B.locs B.cells B.slots ∧ Post ⟨T.setVm vm₁, locs, cells, slots⟩ (Value.ref b :: argsL).toArray v B ∧
      ∀ target, Steps p.tables e below (B.U.setTop { g with pc := g.pc + 3, stack := v.toList ++ rest }) target → Steps p.tables e below (T.setTop g) target := by
  obtain ⟨mk, methM, hnamed, hmethM, hstM, habM⟩ := Cond.instanceMethod_spec hinst
  obtain ⟨m8, methM', cM, hn8, hmethM', -, -, -, -, -, -, hsigM⟩ := Cond.codeWith_spec hcode
  cases Option.some.inj (hn8.symm.trans hnamed)
  cases hmethM.symm.trans hmethM'
  obtain ⟨c2, r2, m2, q1, q2, q3, q4, kP, hkP, hkPi⟩ := Cond.selects_spec hsel
  cases hcls.symm.trans q1
  cases (State.methodFound?_of_named hnamed hy).symm.trans q2
  cases hnamed.symm.trans q3
  have hselP : selectMethod e.platform s.vm cellB.cls mk = .method mk := by rw [Launch.admits_selectMethod X.admits]; exact q4
  obtain ⟨vm₁, X₁, hstep₁⟩ := X.invokevirtual hexec hown hlink hnamed hmethM hstM hkP hkPi hy (a := b) (cell := cellB) hcell
    (fun z h => by rw [h] at hobj; cases hobj) hselP hmethM habM hkP hkPi (g := g) hg (argsL := argsL) (rest := rest) (hlen _ hsigM) hstack hdg
  obtain ⟨v, B, X', hpost, hsteps⟩ := hK m meth c ⟨T.setVm vm₁, locs, cells, slots⟩ { g with stack := rest } (.invokevirtual index) mk (Value.ref b :: argsL).toArray X₁ hg hsize hdg hW (X₁.named hnamed) (hpre vm₁ X₁.warmed)
  exact ⟨v, vm₁, B, X₁.warmed, X', hpost, fun target h => hstep₁ _ fun acts => by rw [doInvoke_state]; exact hsteps.trans h⟩
abbrev vx_CVW (R : Room) (s : State) (args : Array Value) (own C : String) (index : Nat) (y : MethodName) (bytes : ByteArray) (maxL : Nat) (ret : Option FieldType) (hh : List (Nat × Nat × Nat × Nat)) (ws : List Cond) (rm : Room) (mc ms n : Nat) : Prop :=
  (rm.cells = mc ∧ rm.slots = ms ∧ rm.frames + 1 ≤ R.frames ∧ 8 + (maxL + 11) + rm.locals ≤ R.locals ∧ (∀ w ∈ ws, ∀ (a' : Array Value) (U : State), s.WarmedH U.vm → w.before a' U = true) ∧ Cond.codeWith y bytes maxL ret hh ∈ ws) ∧
  (Cond.codeWith y bytes maxL ret hh).before args s = true ∧ (Cond.initialized y.cls).before args s = true ∧ (y.cls ≠ "java/lang/invoke/MethodHandle" ∧ y.cls ≠ "java/lang/invoke/VarHandle") ∧
  (∀ sig, parseMethodDescriptor y.desc = some sig → n = sig.parameters.length) ∧ (Cond.methodLink own index y).before args s = true ∧ (Cond.instanceMethod y).before args s = true ∧ (Cond.selects C y y).before args s = true
theorem vx_cwVW {own C : String} {index maxL mc ms : Nat} {y : MethodName} {bytes : ByteArray} {ret : Option FieldType} {hh : List (Nat × Nat × Nat × Nat)} {Ts ws ws' : List Cond} {rm : Room} (n : Nat) (ht : ∀ w ∈ Ts, w.before args s = true) (hT : GoodIn Ts (wsV own index C y ws)) (hw : ws = Cond.codeWith y bytes maxL ret hh :: ws') (hrc : rm.cells = mc) (hrs : rm.slots = ms)
    (hd : y.cls = C ∧ y.cls ≠ "java/lang/invoke/MethodHandle" ∧ y.cls ≠ "java/lang/invoke/VarHandle" ∧ (parseMethodDescriptor y.desc).map (fun d => d.parameters.length) = some n) (hR : rm.frames + 1 ≤ R.frames ∧ 8 + (maxL + 11) + rm.locals ≤ R.locals) :
    vx_CVW R s args own C index y bytes maxL ret hh ws rm mc ms n := by
  obtain ⟨hC, hd⟩ := hd
  subst hC
  have ok : ∀ w ∈ wsV own index y.cls y ws, w.before args s = true := fun w h => ht w (hT w h).1
  have hG : GoodIn Ts ws := fun w h => hT w (by unfold wsV; exact List.mem_append_right _ h)
  have hc : Cond.codeWith y bytes maxL ret hh ∈ ws := by rw [hw]; exact List.mem_cons_self
  refine ⟨⟨hrc, hrs, hR.1, hR.2, pay_in ht hG, hc⟩, ht _ (hG _ hc).1, ok _ (by simp [wsV]), ⟨hd.1, hd.2.1⟩, fun sig h => ?_, ok _ (by simp [wsV]), ok _ (by simp [wsV]), ok _ (by simp [wsV])⟩
  have h2 := hd.2.2
  rw [h] at h2
  exact (Option.some.inj h2).symm
theorem vx_runVW {y : MethodName} {bytes cc : ByteArray} {maxL nL mc ms n index : Nat} {ret : Option FieldType} {hh : List (Nat × Nat × Nat × Nat)} {ws : List Cond} {rm : Room} {Pc : Array Value → State → Prop} {Qc : Array Value → State → Outcome → State → Prop} {free : Addr → Prop} {Ts : List Cond} {own C : String} {b : Addr} {As rest : List Value} {g : JFrame}
    (S : CallFix p m c cc nL s args Ts own) (hM : Met l y ws rm Pc Qc mc ms free) (cw : vx_CVW R s args own C index y bytes maxL ret hh ws rm mc ms n) (hp : PreV s H C b Pc As)
    (hg : g.method = m) (hn : As.length = n) (hsize : g.locals.size = nL) (hstack : g.stack = As.reverse ++ .ref b :: rest) (hW : 2 * g.monitorRoom + (rest.map fun v => v.category).sum ≤ 8) (hdg : decode cc g.pc = .ok (.invokevirtual index, 3)) (hf : cells + mc ≤ R.cells ∧ slots + ms ≤ R.slots) :
    va_Run p l e R s m args below meth c H locs cells slots mc ms g rest (Qc (Value.ref b :: As).toArray) free := by
  obtain ⟨⟨hrc, hrs, hfr, hlo, hws, hcw⟩, hcode, hini, hy, hlen, hl, hin, hse⟩ := cw
  have hK : Back l R p e below s args y 3 8 (PreOf R mc ms Pc) (PostOf Qc mc ms free) := va_backW (hh := hh) (bytes := bytes) (maxL := maxL) (ret := ret) hM hp.1 hrc hrs hfr hlo hws hcw (fun a' U hW => word_at hW (Or.inl (by first | rfl | simp [Cond.onTables, Cond.keeps, Cond.steady])) hini)
  obtain ⟨hx, hb, hml, ho, -⟩ := S
  obtain ⟨-, ⟨cellB, hcB, hoB, hclB⟩, hPc⟩ := hp
  intro T hT X
  obtain ⟨v, vm₁, ⟨U', l2, c2, s2⟩, hW₁, X', ⟨g', mk, t, L, e1, e2, hq, h1, hL, h2, h3⟩, st⟩ := vx_callVW X hx (C := C) (hh := hh) (bytes := bytes) (maxL := maxL) (ret := ret) ho hl hin hse hcode hy hK (by rw [hT]; exact hcB) hoB hclB hg (hsize.trans hml.symm) (argsL := As) (rest := rest) (fun sig h => hn.trans (hlen sig h)) hstack hW (by rw [hb]; exact hdg)
    (fun vm₁ hW₁ => ⟨hf.1, hf.2, hPc (T.setVm vm₁) hT hW₁⟩)
  dsimp only [Pt.U, Pt.locs, Pt.cells, Pt.slots] at X' e1 e2 h1 h2 h3 st
  subst h1; subst h2; subst h3
  exact ⟨v, (T.setVm vm₁).calling g' mk (Value.ref b :: As).toArray, t, U', L, hT, X', hL, e1, e2, hq, st⟩
section
variable {y : MethodName} {bytes cc : ByteArray} {maxL nL mc ms n index : Nat} {ret : Option FieldType} {ws : List Cond} {rm : Room} {Pc : Array Value → State → Prop} {Qc : Array Value → State → Outcome → State → Prop} {XC : String → State → State → Prop} {free : Addr → Prop} {Ts : List Cond} {own C : String} {b : Addr} {As rest : List Value} {g : JFrame}
theorem vx_runVX {hh : List (Nat × Nat × Nat × Nat)} (S : CallFix p m c cc nL s args Ts own) (hM : vx_Met l y ws rm Pc Qc XC mc ms free) (cw : vx_CVW R s args own C index y bytes maxL ret hh ws rm mc ms n) (hp : PreV s H C b Pc As)
    (hg : g.method = m) (hn : As.length = n) (hsize : g.locals.size = nL) (hstack : g.stack = As.reverse ++ .ref b :: rest) (hW : 2 * g.monitorRoom + (rest.map fun v => v.category).sum ≤ 8) (hdg : decode cc g.pc = .ok (.invokevirtual index, 3)) (hf : cells + mc ≤ R.cells ∧ slots + ms ≤ R.slots) :
    vx_Run p l e R s m args below meth c H locs cells slots mc ms g rest (Qc (Value.ref b :: As).toArray) XC free := by
  obtain ⟨⟨hrc, hrs, hfr, hlo, hws, hcw⟩, hcode, hini, hy, hlen, hl, hin, hse⟩ := cw
  have hK : vx_Back l R p e below s args y 3 8 (PreOf R mc ms Pc) (PostOf Qc mc ms free) (vx_Post XC mc ms free) := vx_backW (hh := hh) (bytes := bytes) (maxL := maxL) (ret := ret) hM hp.1 hrc hrs hfr hlo hws hcw (fun a' U hW => word_at hW (Or.inl (by first | rfl | simp [Cond.onTables, Cond.keeps, Cond.steady])) hini)
  obtain ⟨hx, hb, hml, ho, -⟩ := S
  obtain ⟨-, ⟨cellB, hcB, hoB, hclB⟩, hPc⟩ := hp
  intro T hT X
  rcases vx_callVX X hx (C := C) (hh := hh) (bytes := bytes) (maxL := maxL) (ret := ret) ho hl hin hse hcode hy hK (by rw [hT]; exact hcB) hoB hclB hg (hsize.trans hml.symm) (argsL := As) (rest := rest) (fun sig h => hn.trans (hlen sig h)) hstack hW (by rw [hb]; exact hdg)
    (fun vm₁ hW₁ => ⟨hf.1, hf.2, hPc (T.setVm vm₁) hT hW₁⟩) with ⟨v, vm₁, ⟨U', l2, c2, s2⟩, hW₁, X', ⟨g', mk, t, L, e1, e2, hq, h1, hL, h2, h3⟩, st⟩ | ⟨q, vm₁, ⟨U', l2, c2, s2⟩, hW₁, X', ⟨g', mk, t, L, E, ce, e1, e2, hq, hce, hcv, hcl, h1, hL, h2, h3⟩, st⟩
  · dsimp only [Pt.U, Pt.locs, Pt.cells, Pt.slots] at X' e1 e2 h1 h2 h3 st
    subst h1; subst h2; subst h3
    exact Or.inl ⟨v, (T.setVm vm₁).calling g' mk (Value.ref b :: As).toArray, t, U', L, hT, X', hL, e1, e2, hq, st⟩
  · dsimp only [Pt.U, Pt.locs, Pt.cells, Pt.slots] at X' e1 e2 h1 h2 h3 st hcl
    subst h1; subst h2; subst h3
    exact Or.inr ⟨q, (T.setVm vm₁).calling g' mk (Value.ref b :: As).toArray, t, U', L, E, ce, hT, X', hL, e1, e2, hq, hce, hcv, vx_cls hW₁ hcl, st⟩
theorem vx_runSX {hh : List (Nat × Nat × Nat × Nat)} (S : CallFix p m c cc nL s args Ts own) (hM : vx_Met l y ws rm Pc Qc XC mc ms free) (cw : vx_CSW R s args own index y bytes maxL ret hh ws rm mc ms n) (hp : PreS s H Pc As)
    (hg : g.method = m) (hn : As.length = n) (hsize : g.locals.size = nL) (hstack : g.stack = As.reverse ++ rest) (hW : 2 * g.monitorRoom + (rest.map fun v => v.category).sum ≤ 8) (hdg : decode cc g.pc = .ok (.invokestatic index, 3)) (hf : cells + mc ≤ R.cells ∧ slots + ms ≤ R.slots) :
    vx_Run p l e R s m args below meth c H locs cells slots mc ms g rest (Qc As.toArray) XC free := by
  obtain ⟨⟨hrc, hrs, hfr, hlo, hws, hcw⟩, hcode, hini, hy, hlen, hl, hstt⟩ := cw
  have hK : vx_Back l R p e below s args y 3 8 (PreOf R mc ms Pc) (PostOf Qc mc ms free) (vx_Post XC mc ms free) := vx_backW (hh := hh) (bytes := bytes) (maxL := maxL) (ret := ret) hM hp.1 hrc hrs hfr hlo hws hcw (fun a' U hW => word_at hW (Or.inl (by first | rfl | simp [Cond.onTables, Cond.keeps, Cond.steady])) hini)
  obtain ⟨hx, hb, hml, ho, -⟩ := S
  intro T hT X
  rcases vx_callSX X hx (hh := hh) (bytes := bytes) (maxL := maxL) (ret := ret) ho hl hstt hini hcode hy hK hg (hsize.trans hml.symm) (argsL := As) (rest := rest) (fun sig h => hn.trans (hlen sig h)) hstack hW (by rw [hb]; exact hdg)
    (fun vm₁ hW₁ => ⟨hf.1, hf.2, hp.2 (T.setVm vm₁) hT hW₁⟩) with ⟨v, vm₁, ⟨U', l2, c2, s2⟩, hW₁, X', ⟨g', mk, t, L, e1, e2, hq, h1, hL, h2, h3⟩, st⟩ | ⟨q, vm₁, ⟨U', l2, c2, s2⟩, hW₁, X', ⟨g', mk, t, L, E, ce, e1, e2, hq, hce, hcv, hcl, h1, hL, h2, h3⟩, st⟩
  · dsimp only [Pt.U, Pt.locs, Pt.cells, Pt.slots] at X' e1 e2 h1 h2 h3 st
    subst h1; subst h2; subst h3
    exact Or.inl ⟨v, (T.setVm vm₁).calling g' mk As.toArray, t, U', L, hT, X', hL, e1, e2, hq, st⟩
  · dsimp only [Pt.U, Pt.locs, Pt.cells, Pt.slots] at X' e1 e2 h1 h2 h3 st hcl
    subst h1; subst h2; subst h3
    exact Or.inr ⟨q, (T.setVm vm₁).calling g' mk As.toArray, t, U', L, E, ce, hT, X', hL, e1, e2, hq, hce, hcv, vx_cls hW₁ hcl, st⟩
end
end VXH
theorem vx_ofWH {l : Launch} {y : MethodName} {ws ws' : List Cond} {rm : Room} {Pc : Array Value → State → Prop} {Qc : Array Value → State → Outcome → State → Prop} {XC : String → State → State → Prop} {mc ms : Nat} {free : Addr → Prop} {cc : ByteArray} {maxL : Nat} {ret : Option FieldType} {hh : List (Nat × Nat × Nat × Nat)}
    (hy : plainName y.cls = true) (hw : ws = Cond.codeWith y cc maxL ret hh :: ws')
    (body : ∀ p e s m args below meth c s₁, BodyLoose p l y (headSpec ws rm) cc maxL ret e s m args below meth c s₁ → c.maxLocals = maxL → Pc args s →
      W p l e (headSpec ws rm).room s m args below meth c s.heap [] 0 0 (vx_MQ below Qc XC args s mc ms free) (entryFrame m args maxL)) : vx_Met l y ws rm Pc Qc XC mc ms free := by
  refine MetFree.of_bodyS (code := cc) (maxLocals := maxL) (ret := ret) hy ?_ ?_
  · intro args s m h hn
    obtain ⟨m9, meth, c, hn9, h1, h2, h3, h4, -, h5, h6, -⟩ := Cond.codeWith_spec (atoms_spec (ws := ws) h _ (by rw [hw]; exact List.mem_cons_self))
    cases hn.symm.trans hn9
    exact ⟨meth, c, h1, h2, h3, h4, h5, h6⟩
  · intro p e s m args below meth c s₁ B hml hP _
    have hh0 : s₁.heap = s.heap := by rw [B.state]; rfl
    obtain ⟨t, a1, o, b1, b2, b3⟩ := body p e s m args below meth c s₁ B hml hP s₁ hh0 (Stand.of_body B)
    exact ⟨t, o, a1, b1, b2, b3⟩
/-! ===== END ===== -/
end
section
def RX0 : String := "WireBench$Arrival"
def TX0 : u_T := fun k => match k with
  | 0 => ("WireBench$Arrival", "due", "I", false)
  | 1 => ("WireBench$Arrival", "net", "I", false)
  | 2 => ("WireBench$Arrival", "station", "I", false)
  | 3 => ("WireBench$Arrival", "goal", "I", false)
  | 4 => ("WireBench$Arrival", "number", "I", false)
  | 5 => ("WireBench$Arrival", "from", "I", false)
  | 6 => ("WireBench$Arrival", "whole", "I", false)
  | 7 => ("WireBench$Arrival", "size", "I", false)
  | _ => ("WireBench$Arrival", "start", "I", false)
def tyX0 : Nat → FieldType := fun k => match k with
  | 0 => .int
  | 1 => .int
  | 2 => .int
  | 3 => .int
  | 4 => .int
  | 5 => .int
  | 6 => .int
  | 7 => .int
  | _ => .int
theorem nmX0 : ∀ a, a < 9 → ∀ b, b < 9 → a ≠ b → (TX0 a).2.1 ≠ (TX0 b).2.1 := by decide +kernel
theorem tyX0_ok : ∀ k, k < 9 → parseFieldDescriptor (TX0 k).2.2.1 = some (tyX0 k) := by decide +kernel
def RX1 : String := "WireBench$Net"
def TX1 : u_T := fun k => match k with
  | 0 => ("WireBench$Net", "largest", "I", false)
  | 1 => ("WireBench$Net", "delay", "I", false)
  | 2 => ("WireBench$Net", "up", "Z", false)
  | 3 => ("WireBench$Net", "frameCount", "I", false)
  | 4 => ("WireBench$Net", "schedule", "[B", true)
  | 5 => ("WireBench$Net", "firstFate", "I", false)
  | _ => ("WireBench$Net", "fateCount", "I", false)
def tyX1 : Nat → FieldType := fun k => match k with
  | 0 => .int
  | 1 => .int
  | 2 => .boolean
  | 3 => .int
  | 4 => .array .byte
  | 5 => .int
  | _ => .int
theorem nmX1 : ∀ a, a < 7 → ∀ b, b < 7 → a ≠ b → (TX1 a).2.1 ≠ (TX1 b).2.1 := by decide +kernel
theorem tyX1_ok : ∀ k, k < 7 → parseFieldDescriptor (TX1 k).2.2.1 = some (tyX1 k) := by decide +kernel
def RX2 : String := "WireBench"
def TX2 : u_T := fun k => match k with
  | 0 => ("WireBench", "nets", "[LWireBench$Net;", true)
  | 1 => ("WireBench", "netCount", "I", false)
  | 2 => ("WireBench", "time", "I", false)
  | 3 => ("WireBench", "arrivals", "[LWireBench$Arrival;", true)
  | 4 => ("WireBench", "arrivalCount", "I", false)
  | 5 => ("WireBench", "taken", "LWireBench$Arrival;", false)
  | 6 => ("WireBench", "anyTaken", "Z", false)
  | 7 => ("WireBench", "draft", "LWireBench$Arrival;", true)
  | 8 => ("WireBench", "ring", "[B", true)
  | 9 => ("WireBench", "payloadStart", "I", false)
  | _ => ("WireBench", "payloadSize", "I", false)
def tyX2 : Nat → FieldType := fun k => match k with
  | 0 => .array (.object "WireBench$Net")
  | 1 => .int
  | 2 => .int
  | 3 => .array (.object "WireBench$Arrival")
  | 4 => .int
  | 5 => .object "WireBench$Arrival"
  | 6 => .boolean
  | 7 => .object "WireBench$Arrival"
  | 8 => .array .byte
  | 9 => .int
  | _ => .int
theorem nmX2 : ∀ a, a < 11 → ∀ b, b < 11 → a ≠ b → (TX2 a).2.1 ≠ (TX2 b).2.1 := by decide +kernel
theorem tyX2_ok : ∀ k, k < 11 → parseFieldDescriptor (TX2 k).2.2.1 = some (tyX2 k) := by decide +kernel
def RX3 : String := "WireBenchModel"
def TX3 : u_T := fun k => match k with
  | 0 => ("WireBenchModel", "code", "I", false)
  | 1 => ("WireBenchModel", "time", "I", false)
  | 2 => ("WireBenchModel", "nets", "I", false)
  | 3 => ("WireBenchModel", "largest", "[I", true)
  | 4 => ("WireBenchModel", "delay", "[I", true)
  | 5 => ("WireBenchModel", "up", "[Z", true)
  | 6 => ("WireBenchModel", "fateCount", "[I", true)
  | 7 => ("WireBenchModel", "fate", "[I", true)
  | 8 => ("WireBenchModel", "puts", "[I", true)
  | 9 => ("WireBenchModel", "fedCount", "I", false)
  | 10 => ("WireBenchModel", "fed", "[I", true)
  | 11 => ("WireBenchModel", "count", "I", false)
  | 12 => ("WireBenchModel", "order", "[I", true)
  | 13 => ("WireBenchModel", "used", "[Z", true)
  | 14 => ("WireBenchModel", "figure", "[I", true)
  | 15 => ("WireBenchModel", "row", "[J", true)
  | 16 => ("WireBenchModel", "some", "Z", false)
  | 17 => ("WireBenchModel", "taken", "[I", true)
  | _ => ("WireBenchModel", "bytes", "[I", true)
def tyX3 : Nat → FieldType := fun k => match k with
  | 0 => .int
  | 1 => .int
  | 2 => .int
  | 3 => .array .int
  | 4 => .array .int
  | 5 => .array .boolean
  | 6 => .array .int
  | 7 => .array .int
  | 8 => .array .int
  | 9 => .int
  | 10 => .array .int
  | 11 => .int
  | 12 => .array .int
  | 13 => .array .boolean
  | 14 => .array .int
  | 15 => .array .long
  | 16 => .boolean
  | 17 => .array .int
  | _ => .array .int
theorem nmX3 : ∀ a, a < 19 → ∀ b, b < 19 → a ≠ b → (TX3 a).2.1 ≠ (TX3 b).2.1 := by decide +kernel
theorem tyX3_ok : ∀ k, k < 19 → parseFieldDescriptor (TX3 k).2.2.1 = some (tyX3 k) := by decide +kernel
def RL : String := "WireBenchLaw"
abbrev vwCl : List vw_C := [(RX0, TX0, 9), (RX1, TX1, 7), (RX2, TX2, 11), (RX3, TX3, 19)]
/-- the words of the tables that a method keeps -/
def gW : List Cond := lw_tbl.filter goodWord
theorem gW_of {w : Cond} (h1 : w ∈ lw_tbl) (h2 : goodWord w = true) : w ∈ gW := List.mem_filter.mpr ⟨h1, h2⟩
theorem gW_in {w : Cond} (h : w ∈ gW) : w ∈ lw_tbl := (List.mem_filter.mp h).1
theorem gW_good {w : Cond} (h : w ∈ gW) : (w.onTables && w.keeps) = true ∨ ∃ ty, w = .arrayClass ty := good_of_word (List.mem_filter.mp h).2
theorem gGood {big L : List Cond} (hb : ∀ w ∈ gW, w ∈ big) (h : ∀ w ∈ L, w ∈ gW) : GoodIn big L := fun w hw => ⟨hb w (h w hw), gW_good (h w hw)⟩
theorem gCons {c : Cond} : ∀ w ∈ gW, w ∈ c :: gW := fun _ h => List.mem_cons_of_mem _ h
theorem gCode {c : Cond} (h : c ∈ gW) : ∀ w ∈ c :: gW, w ∈ gW := fun w hw => (List.mem_cons.mp hw).elim (fun e => e ▸ h) (fun h => h)
theorem gV {c : Cond} {own C : String} {i : Nat} {y : MethodName} (h1 : Cond.methodLink own i y ∈ gW) (h2 : Cond.instanceMethod y ∈ gW) (h3 : Cond.selects C y y ∈ gW) (h4 : Cond.initialized C ∈ gW) (h5 : c ∈ gW) : ∀ w ∈ wsV own i C y (c :: gW), w ∈ gW := by
  intro w hw
  rcases List.mem_append.mp hw with hw | hw
  · rcases List.mem_cons.mp hw with rfl | hw
    · exact h1
    rcases List.mem_cons.mp hw with rfl | hw
    · exact h2
    rcases List.mem_cons.mp hw with rfl | hw
    · exact h3
    rcases List.mem_cons.mp hw with rfl | hw
    · exact h4
    cases hw
  · exact gCode h5 w hw
theorem gSt {c : Cond} {own : String} {i : Nat} {y : MethodName} (h1 : Cond.methodLink own i y ∈ gW) (h2 : Cond.static y ∈ gW) (h3 : Cond.initialized own ∈ gW) (h5 : c ∈ gW) : ∀ w ∈ wsS own i y (c :: gW), w ∈ gW := by
  intro w hw
  rcases List.mem_append.mp hw with hw | hw
  · rcases List.mem_cons.mp hw with rfl | hw
    · exact h1
    rcases List.mem_cons.mp hw with rfl | hw
    · exact h2
    rcases List.mem_cons.mp hw with rfl | hw
    · exact h3
    cases hw
  · exact gCode h5 w hw
abbrev cX2_init : ByteArray := prog_1_method_1_code
def yX2_init : MethodName := ⟨RX2, "<init>", "()V"⟩
abbrev kX2_init : Cond := .code yX2_init cX2_init 2 none
def wsX2_init : List Cond := kX2_init :: gW
abbrev cX0_init : ByteArray := prog_2_method_1_code
def yX0_init : MethodName := ⟨RX0, "<init>", "()V"⟩
abbrev kX0_init : Cond := .code yX0_init cX0_init 1 none
def wsX0_init : List Cond := kX0_init :: gW
abbrev cX1_init : ByteArray := prog_3_method_1_code
def yX1_init : MethodName := ⟨RX1, "<init>", "()V"⟩
abbrev kX1_init : Cond := .code yX1_init cX1_init 1 none
def wsX1_init : List Cond := kX1_init :: gW
abbrev cX2_next : ByteArray := prog_1_method_8_code
def yX2_next : MethodName := ⟨RX2, "next", "()Z"⟩
abbrev kX2_next : Cond := .code yX2_next cX2_next 3 (some .boolean)
def wsX2_next : List Cond := kX2_next :: gW
abbrev cX2_underWay : ByteArray := prog_1_method_11_code
def yX2_underWay : MethodName := ⟨RX2, "underWay", "()I"⟩
abbrev kX2_underWay : Cond := .code yX2_underWay cX2_underWay 1 (some .int)
def wsX2_underWay : List Cond := kX2_underWay :: gW
abbrev cL_net : ByteArray := method_3_code
def yL_net : MethodName := ⟨RL, "net", "(LWireBench;II[J)I"⟩
abbrev kL_net : Cond := .codeWith yL_net cL_net 5 (some .int) [(0, 10, 13, 13), (0, 10, 17, 15)]
def wsL_net : List Cond := kL_net :: gW
abbrev cX2_net : ByteArray := prog_1_method_2_code
def yX2_net : MethodName := ⟨RX2, "net", "(II)I"⟩
abbrev kX2_net : Cond := .code yX2_net cX2_net 3 (some .int)
def wsX2_net : List Cond := kX2_net :: gW
abbrev cX1_open : ByteArray := prog_3_method_2_code
def yX1_open : MethodName := ⟨RX1, "open", "(II)V"⟩
abbrev kX1_open : Cond := .code yX1_open cX1_open 3 none
def wsX1_open : List Cond := kX1_open :: gW
abbrev cL_link : ByteArray := method_4_code
def yL_link : MethodName := ⟨RL, "link", "(LWireBench;IZ[J)I"⟩
abbrev kL_link : Cond := .codeWith yL_link cL_link 5 (some .int) [(0, 10, 13, 13)]
def wsL_link : List Cond := kL_link :: gW
abbrev cX2_link : ByteArray := prog_1_method_3_code
def yX2_link : MethodName := ⟨RX2, "link", "(IZ)I"⟩
abbrev kX2_link : Cond := .code yX2_link cX2_link 3 (some .int)
def wsX2_link : List Cond := kX2_link :: gW
abbrev cX2_netNumbered : ByteArray := prog_1_method_14_code
def yX2_netNumbered : MethodName := ⟨RX2, "netNumbered", "(I)LWireBench$Net;"⟩
abbrev kX2_netNumbered : Cond := .code yX2_netNumbered cX2_netNumbered 2 (some (.object "WireBench$Net"))
def wsX2_netNumbered : List Cond := kX2_netNumbered :: gW
abbrev cX2_loseArrivalsOf : ByteArray := prog_1_method_22_code
def yX2_loseArrivalsOf : MethodName := ⟨RX2, "loseArrivalsOf", "(I)I"⟩
abbrev kX2_loseArrivalsOf : Cond := .code yX2_loseArrivalsOf cX2_loseArrivalsOf 5 (some .int)
def wsX2_loseArrivalsOf : List Cond := kX2_loseArrivalsOf :: gW
abbrev cL_fates : ByteArray := method_5_code
def yL_fates : MethodName := ⟨RL, "fates", "(LWireBench;IJI[J)I"⟩
abbrev kL_fates : Cond := .codeWith yL_fates cL_fates 7 (some .int) [(0, 13, 16, 13), (0, 13, 20, 15)]
def wsL_fates : List Cond := kL_fates :: gW
abbrev cX2_fates : ByteArray := prog_1_method_4_code
def yX2_fates : MethodName := ⟨RX2, "fates", "(IJI)I"⟩
abbrev kX2_fates : Cond := .code yX2_fates cX2_fates 7 (some .int)
def wsX2_fates : List Cond := kX2_fates :: gW
abbrev cX1_addFate : ByteArray := prog_3_method_4_code
def yX1_addFate : MethodName := ⟨RX1, "addFate", "(I)V"⟩
abbrev kX1_addFate : Cond := .code yX1_addFate cX1_addFate 2 none
def wsX1_addFate : List Cond := kX1_addFate :: gW
abbrev cL_feed : ByteArray := method_6_code
def yL_feed : MethodName := ⟨RL, "feed", "(LWireBench;JI[J)I"⟩
abbrev kL_feed : Cond := .codeWith yL_feed cL_feed 6 (some .int) [(0, 11, 14, 13), (0, 11, 18, 15)]
def wsL_feed : List Cond := kL_feed :: gW
abbrev cX2_feed : ByteArray := prog_1_method_5_code
def yX2_feed : MethodName := ⟨RX2, "feed", "(JI)I"⟩
abbrev kX2_feed : Cond := .code yX2_feed cX2_feed 5 (some .int)
def wsX2_feed : List Cond := kX2_feed :: gW
abbrev cX2_ringPlace : ByteArray := prog_1_method_16_code
def yX2_ringPlace : MethodName := ⟨RX2, "ringPlace", "(I)I"⟩
abbrev kX2_ringPlace : Cond := .code yX2_ringPlace cX2_ringPlace 1 (some .int)
def wsX2_ringPlace : List Cond := kX2_ringPlace :: gW
abbrev cL_put : ByteArray := method_7_code
def yL_put : MethodName := ⟨RL, "put", "(LWireBench;IIII[J)I"⟩
abbrev kL_put : Cond := .codeWith yL_put cL_put 7 (some .int) [(0, 14, 17, 13)]
def wsL_put : List Cond := kL_put :: gW
abbrev cX2_put : ByteArray := prog_1_method_6_code
def yX2_put : MethodName := ⟨RX2, "put", "(IIII)I"⟩
abbrev kX2_put : Cond := .code yX2_put cX2_put 7 (some .int)
def wsX2_put : List Cond := kX2_put :: gW
abbrev cX2_isStation : ByteArray := prog_1_method_15_code
def yX2_isStation : MethodName := ⟨RX2, "isStation", "(I)Z"⟩
abbrev kX2_isStation : Cond := .code yX2_isStation cX2_isStation 1 (some .boolean)
def wsX2_isStation : List Cond := kX2_isStation :: gW
abbrev cX2_sendPayload : ByteArray := prog_1_method_17_code
def yX2_sendPayload : MethodName := ⟨RX2, "sendPayload", "(LWireBench$Net;)I"⟩
abbrev kX2_sendPayload : Cond := .code yX2_sendPayload cX2_sendPayload 7 (some .int)
def wsX2_sendPayload : List Cond := kX2_sendPayload :: gW
abbrev cX2_sendPiece : ByteArray := prog_1_method_19_code
def yX2_sendPiece : MethodName := ⟨RX2, "sendPiece", "(LWireBench$Net;II)V"⟩
abbrev kX2_sendPiece : Cond := .code yX2_sendPiece cX2_sendPiece 4 none
def wsX2_sendPiece : List Cond := kX2_sendPiece :: gW
abbrev cX1_takeFate : ByteArray := prog_3_method_5_code
def yX1_takeFate : MethodName := ⟨RX1, "takeFate", "()I"⟩
abbrev kX1_takeFate : Cond := .code yX1_takeFate cX1_takeFate 2 (some .int)
def wsX1_takeFate : List Cond := kX1_takeFate :: gW
abbrev cX2_meetFate : ByteArray := prog_1_method_20_code
def yX2_meetFate : MethodName := ⟨RX2, "meetFate", "(II)V"⟩
abbrev kX2_meetFate : Cond := .code yX2_meetFate cX2_meetFate 3 none
def wsX2_meetFate : List Cond := kX2_meetFate :: gW
abbrev cX2_arriveBehind : ByteArray := prog_1_method_21_code
def yX2_arriveBehind : MethodName := ⟨RX2, "arriveBehind", "(I)V"⟩
abbrev kX2_arriveBehind : Cond := .code yX2_arriveBehind cX2_arriveBehind 4 none
def wsX2_arriveBehind : List Cond := kX2_arriveBehind :: gW
abbrev cX0_copyFrom : ByteArray := prog_2_method_2_code
def yX0_copyFrom : MethodName := ⟨RX0, "copyFrom", "(LWireBench$Arrival;)V"⟩
abbrev kX0_copyFrom : Cond := .code yX0_copyFrom cX0_copyFrom 2 none
def wsX0_copyFrom : List Cond := kX0_copyFrom :: gW
abbrev cX1_pieceSize : ByteArray := prog_3_method_3_code
def yX1_pieceSize : MethodName := ⟨RX1, "pieceSize", "()I"⟩
abbrev kX1_pieceSize : Cond := .code yX1_pieceSize cX1_pieceSize 1 (some .int)
def wsX1_pieceSize : List Cond := kX1_pieceSize :: gW
abbrev cX2_countPieces : ByteArray := prog_1_method_18_code
def yX2_countPieces : MethodName := ⟨RX2, "countPieces", "(II)I"⟩
abbrev kX2_countPieces : Cond := .code yX2_countPieces cX2_countPieces 2 (some .int)
def wsX2_countPieces : List Cond := kX2_countPieces :: gW
abbrev cL_pass : ByteArray := method_8_code
def yL_pass : MethodName := ⟨RL, "pass", "(LWireBench;I[J)I"⟩
abbrev kL_pass : Cond := .codeWith yL_pass cL_pass 4 (some .int) [(0, 9, 12, 13), (0, 9, 15, 15)]
def wsL_pass : List Cond := kL_pass :: gW
abbrev cX2_pass : ByteArray := prog_1_method_7_code
def yX2_pass : MethodName := ⟨RX2, "pass", "(I)I"⟩
abbrev kX2_pass : Cond := .code yX2_pass cX2_pass 2 (some .int)
def wsX2_pass : List Cond := kX2_pass :: gW
abbrev cX2_countDue : ByteArray := prog_1_method_23_code
def yX2_countDue : MethodName := ⟨RX2, "countDue", "()I"⟩
abbrev kX2_countDue : Cond := .code yX2_countDue cX2_countDue 2 (some .int)
def wsX2_countDue : List Cond := kX2_countDue :: gW
abbrev cL_arrival : ByteArray := method_9_code
def yL_arrival : MethodName := ⟨RL, "arrival", "(LWireBench;I[J)I"⟩
abbrev kL_arrival : Cond := .codeWith yL_arrival cL_arrival 4 (some .int) [(0, 9, 12, 13), (0, 9, 15, 15)]
def wsL_arrival : List Cond := kL_arrival :: gW
abbrev cX2_arrival : ByteArray := prog_1_method_9_code
def yX2_arrival : MethodName := ⟨RX2, "arrival", "(I)I"⟩
abbrev kX2_arrival : Cond := .code yX2_arrival cX2_arrival 2 (some .int)
def wsX2_arrival : List Cond := kX2_arrival :: gW
abbrev cL_byteAt : ByteArray := method_10_code
def yL_byteAt : MethodName := ⟨RL, "byteAt", "(LWireBench;I[J)I"⟩
abbrev kL_byteAt : Cond := .codeWith yL_byteAt cL_byteAt 4 (some .int) [(0, 9, 12, 15), (0, 9, 15, 43)]
def wsL_byteAt : List Cond := kL_byteAt :: gW
abbrev cX2_byteAt : ByteArray := prog_1_method_10_code
def yX2_byteAt : MethodName := ⟨RX2, "byteAt", "(I)I"⟩
abbrev kX2_byteAt : Cond := .code yX2_byteAt cX2_byteAt 2 (some .int)
def wsX2_byteAt : List Cond := kX2_byteAt :: gW
abbrev cL_fated : ByteArray := method_11_code
def yL_fated : MethodName := ⟨RL, "fated", "(LWireBench;I[J)I"⟩
abbrev kL_fated : Cond := .codeWith yL_fated cL_fated 4 (some .int) [(0, 9, 12, 13)]
def wsL_fated : List Cond := kL_fated :: gW
abbrev cX2_fated : ByteArray := prog_1_method_12_code
def yX2_fated : MethodName := ⟨RX2, "fated", "(I)I"⟩
abbrev kX2_fated : Cond := .code yX2_fated cX2_fated 2 (some .int)
def wsX2_fated : List Cond := kX2_fated :: gW
abbrev cL_puts : ByteArray := method_12_code
def yL_puts : MethodName := ⟨RL, "puts", "(LWireBench;I[J)I"⟩
abbrev kL_puts : Cond := .codeWith yL_puts cL_puts 4 (some .int) [(0, 9, 12, 13)]
def wsL_puts : List Cond := kL_puts :: gW
abbrev cX2_puts : ByteArray := prog_1_method_13_code
def yX2_puts : MethodName := ⟨RX2, "puts", "(I)I"⟩
abbrev kX2_puts : Cond := .code yX2_puts cX2_puts 2 (some .int)
def wsX2_puts : List Cond := kX2_puts :: gW
abbrev cX3_init : ByteArray := prog_5_method_1_code
def yX3_init : MethodName := ⟨RX3, "<init>", "()V"⟩
abbrev kX3_init : Cond := .code yX3_init cX3_init 1 none
def wsX3_init : List Cond := kX3_init :: gW
abbrev cX3_thrown : ByteArray := prog_5_method_2_code
def yX3_thrown : MethodName := ⟨RX3, "thrown", "()I"⟩
abbrev kX3_thrown : Cond := .code yX3_thrown cX3_thrown 1 (some .int)
def wsX3_thrown : List Cond := kX3_thrown :: gW
abbrev cX3_net : ByteArray := prog_5_method_4_code
def yX3_net : MethodName := ⟨RX3, "net", "(II)I"⟩
abbrev kX3_net : Cond := .code yX3_net cX3_net 3 (some .int)
def wsX3_net : List Cond := kX3_net :: gW
abbrev cX3_link : ByteArray := prog_5_method_6_code
def yX3_link : MethodName := ⟨RX3, "link", "(IZ)I"⟩
abbrev kX3_link : Cond := .code yX3_link cX3_link 5 (some .int)
def wsX3_link : List Cond := kX3_link :: gW
abbrev cX3_isNet : ByteArray := prog_5_method_3_code
def yX3_isNet : MethodName := ⟨RX3, "isNet", "(I)Z"⟩
abbrev kX3_isNet : Cond := .code yX3_isNet cX3_isNet 2 (some .boolean)
def wsX3_isNet : List Cond := kX3_isNet :: gW
abbrev cX3_remove : ByteArray := prog_5_method_5_code
def yX3_remove : MethodName := ⟨RX3, "remove", "(I)V"⟩
abbrev kX3_remove : Cond := .code yX3_remove cX3_remove 3 none
def wsX3_remove : List Cond := kX3_remove :: gW
abbrev cX3_fates : ByteArray := prog_5_method_7_code
def yX3_fates : MethodName := ⟨RX3, "fates", "(IJI)I"⟩
abbrev kX3_fates : Cond := .code yX3_fates cX3_fates 6 (some .int)
def wsX3_fates : List Cond := kX3_fates :: gW
abbrev cX3_feed : ByteArray := prog_5_method_8_code
def yX3_feed : MethodName := ⟨RX3, "feed", "(JI)I"⟩
abbrev kX3_feed : Cond := .code yX3_feed cX3_feed 5 (some .int)
def wsX3_feed : List Cond := kX3_feed :: gW
abbrev cX3_put : ByteArray := prog_5_method_12_code
def yX3_put : MethodName := ⟨RX3, "put", "(IIII)I"⟩
abbrev kX3_put : Cond := .code yX3_put cX3_put 9 (some .int)
def wsX3_put : List Cond := kX3_put :: gW
abbrev cX3_frame : ByteArray := prog_5_method_11_code
def yX3_frame : MethodName := ⟨RX3, "frame", "(IIIIII)V"⟩
abbrev kX3_frame : Cond := .code yX3_frame cX3_frame 9 none
def wsX3_frame : List Cond := kX3_frame :: gW
abbrev cX3_nextFate : ByteArray := prog_5_method_9_code
def yX3_nextFate : MethodName := ⟨RX3, "nextFate", "(I)I"⟩
abbrev kX3_nextFate : Cond := .code yX3_nextFate cX3_nextFate 4 (some .int)
def wsX3_nextFate : List Cond := kX3_nextFate :: gW
abbrev cX3_add : ByteArray := prog_5_method_10_code
def yX3_add : MethodName := ⟨RX3, "add", "(IIIIIII)V"⟩
abbrev kX3_add : Cond := .code yX3_add cX3_add 11 none
def wsX3_add : List Cond := kX3_add :: gW
abbrev cX3_pass : ByteArray := prog_5_method_14_code
def yX3_pass : MethodName := ⟨RX3, "pass", "(I)I"⟩
abbrev kX3_pass : Cond := .code yX3_pass cX3_pass 4 (some .int)
def wsX3_pass : List Cond := kX3_pass :: gW
abbrev cX3_due : ByteArray := prog_5_method_13_code
def yX3_due : MethodName := ⟨RX3, "due", "(I)I"⟩
abbrev kX3_due : Cond := .code yX3_due cX3_due 2 (some .int)
def wsX3_due : List Cond := kX3_due :: gW
abbrev cX3_next : ByteArray := prog_5_method_15_code
def yX3_next : MethodName := ⟨RX3, "next", "()Z"⟩
abbrev kX3_next : Cond := .code yX3_next cX3_next 4 (some .boolean)
def wsX3_next : List Cond := kX3_next :: gW
abbrev cX3_arrival : ByteArray := prog_5_method_16_code
def yX3_arrival : MethodName := ⟨RX3, "arrival", "(I)I"⟩
abbrev kX3_arrival : Cond := .code yX3_arrival cX3_arrival 2 (some .int)
def wsX3_arrival : List Cond := kX3_arrival :: gW
abbrev cX3_byteAt : ByteArray := prog_5_method_17_code
def yX3_byteAt : MethodName := ⟨RX3, "byteAt", "(I)I"⟩
abbrev kX3_byteAt : Cond := .code yX3_byteAt cX3_byteAt 2 (some .int)
def wsX3_byteAt : List Cond := kX3_byteAt :: gW
abbrev cX3_underWay : ByteArray := prog_5_method_18_code
def yX3_underWay : MethodName := ⟨RX3, "underWay", "()I"⟩
abbrev kX3_underWay : Cond := .code yX3_underWay cX3_underWay 1 (some .int)
def wsX3_underWay : List Cond := kX3_underWay :: gW
abbrev cX3_fated : ByteArray := prog_5_method_19_code
def yX3_fated : MethodName := ⟨RX3, "fated", "(I)I"⟩
abbrev kX3_fated : Cond := .code yX3_fated cX3_fated 2 (some .int)
def wsX3_fated : List Cond := kX3_fated :: gW
abbrev cX3_puts : ByteArray := prog_5_method_20_code
def yX3_puts : MethodName := ⟨RX3, "puts", "(I)I"⟩
abbrev kX3_puts : Cond := .code yX3_puts cX3_puts 2 (some .int)
def wsX3_puts : List Cond := kX3_puts :: gW
abbrev cL_law : ByteArray := code
def yL_law : MethodName := ⟨RL, "law", "([I)Z"⟩
set_option maxRecDepth 20000 in
theorem hin_X0 : ∀ w ∈ u_ws RX0 TX0 9, w ∈ gW := fun w h => gW_of ((by decide +kernel : ∀ w ∈ u_ws RX0 TX0 9, w ∈ lw_tbl) w h) ((by decide +kernel : ∀ w ∈ u_ws RX0 TX0 9, goodWord w = true) w h)
set_option maxRecDepth 20000 in
theorem hin_X1 : ∀ w ∈ u_ws RX1 TX1 7, w ∈ gW := fun w h => gW_of ((by decide +kernel : ∀ w ∈ u_ws RX1 TX1 7, w ∈ lw_tbl) w h) ((by decide +kernel : ∀ w ∈ u_ws RX1 TX1 7, goodWord w = true) w h)
set_option maxRecDepth 20000 in
theorem hin_X2 : ∀ w ∈ u_ws RX2 TX2 11, w ∈ gW := fun w h => gW_of ((by decide +kernel : ∀ w ∈ u_ws RX2 TX2 11, w ∈ lw_tbl) w h) ((by decide +kernel : ∀ w ∈ u_ws RX2 TX2 11, goodWord w = true) w h)
set_option maxRecDepth 20000 in
theorem hin_X3 : ∀ w ∈ u_ws RX3 TX3 19, w ∈ gW := fun w h => gW_of ((by decide +kernel : ∀ w ∈ u_ws RX3 TX3 19, w ∈ lw_tbl) w h) ((by decide +kernel : ∀ w ∈ u_ws RX3 TX3 19, goodWord w = true) w h)
end
section
theorem q_1 : Cond.selects "WireBench$Net" ⟨"WireBench$Net", "open", "(II)V"⟩ ⟨"WireBench$Net", "open", "(II)V"⟩ ∈ gW := gW_of (List.mem_of_getElem? (i := 1) (by decide +kernel)) (by decide +kernel)
theorem q_2 : Cond.selects "WireBench" ⟨"WireBench", "netNumbered", "(I)LWireBench$Net;"⟩ ⟨"WireBench", "netNumbered", "(I)LWireBench$Net;"⟩ ∈ gW := gW_of (List.mem_of_getElem? (i := 2) (by decide +kernel)) (by decide +kernel)
theorem q_3 : Cond.selects "WireBench" ⟨"WireBench", "loseArrivalsOf", "(I)I"⟩ ⟨"WireBench", "loseArrivalsOf", "(I)I"⟩ ∈ gW := gW_of (List.mem_of_getElem? (i := 3) (by decide +kernel)) (by decide +kernel)
theorem q_4 : Cond.selects "WireBench$Net" ⟨"WireBench$Net", "addFate", "(I)V"⟩ ⟨"WireBench$Net", "addFate", "(I)V"⟩ ∈ gW := gW_of (List.mem_of_getElem? (i := 4) (by decide +kernel)) (by decide +kernel)
theorem q_5 : Cond.selects "WireBench" ⟨"WireBench", "sendPayload", "(LWireBench$Net;)I"⟩ ⟨"WireBench", "sendPayload", "(LWireBench$Net;)I"⟩ ∈ gW := gW_of (List.mem_of_getElem? (i := 5) (by decide +kernel)) (by decide +kernel)
theorem q_6 : Cond.selects "WireBench" ⟨"WireBench", "sendPiece", "(LWireBench$Net;II)V"⟩ ⟨"WireBench", "sendPiece", "(LWireBench$Net;II)V"⟩ ∈ gW := gW_of (List.mem_of_getElem? (i := 6) (by decide +kernel)) (by decide +kernel)
theorem q_7 : Cond.selects "WireBench$Net" ⟨"WireBench$Net", "takeFate", "()I"⟩ ⟨"WireBench$Net", "takeFate", "()I"⟩ ∈ gW := gW_of (List.mem_of_getElem? (i := 7) (by decide +kernel)) (by decide +kernel)
theorem q_8 : Cond.selects "WireBench" ⟨"WireBench", "meetFate", "(II)V"⟩ ⟨"WireBench", "meetFate", "(II)V"⟩ ∈ gW := gW_of (List.mem_of_getElem? (i := 8) (by decide +kernel)) (by decide +kernel)
theorem q_9 : Cond.selects "WireBench" ⟨"WireBench", "arriveBehind", "(I)V"⟩ ⟨"WireBench", "arriveBehind", "(I)V"⟩ ∈ gW := gW_of (List.mem_of_getElem? (i := 9) (by decide +kernel)) (by decide +kernel)
theorem q_10 : Cond.selects "WireBench$Arrival" ⟨"WireBench$Arrival", "copyFrom", "(LWireBench$Arrival;)V"⟩ ⟨"WireBench$Arrival", "copyFrom", "(LWireBench$Arrival;)V"⟩ ∈ gW := gW_of (List.mem_of_getElem? (i := 10) (by decide +kernel)) (by decide +kernel)
theorem q_11 : Cond.selects "WireBench$Net" ⟨"WireBench$Net", "pieceSize", "()I"⟩ ⟨"WireBench$Net", "pieceSize", "()I"⟩ ∈ gW := gW_of (List.mem_of_getElem? (i := 11) (by decide +kernel)) (by decide +kernel)
theorem q_12 : Cond.selects "WireBench" ⟨"WireBench", "countDue", "()I"⟩ ⟨"WireBench", "countDue", "()I"⟩ ∈ gW := gW_of (List.mem_of_getElem? (i := 12) (by decide +kernel)) (by decide +kernel)
theorem q_13 : Cond.selects "WireBenchModel" ⟨"WireBenchModel", "isNet", "(I)Z"⟩ ⟨"WireBenchModel", "isNet", "(I)Z"⟩ ∈ gW := gW_of (List.mem_of_getElem? (i := 13) (by decide +kernel)) (by decide +kernel)
theorem q_14 : Cond.selects "WireBenchModel" ⟨"WireBenchModel", "remove", "(I)V"⟩ ⟨"WireBenchModel", "remove", "(I)V"⟩ ∈ gW := gW_of (List.mem_of_getElem? (i := 14) (by decide +kernel)) (by decide +kernel)
theorem q_15 : Cond.selects "WireBenchModel" ⟨"WireBenchModel", "frame", "(IIIIII)V"⟩ ⟨"WireBenchModel", "frame", "(IIIIII)V"⟩ ∈ gW := gW_of (List.mem_of_getElem? (i := 15) (by decide +kernel)) (by decide +kernel)
theorem q_16 : Cond.selects "WireBenchModel" ⟨"WireBenchModel", "nextFate", "(I)I"⟩ ⟨"WireBenchModel", "nextFate", "(I)I"⟩ ∈ gW := gW_of (List.mem_of_getElem? (i := 16) (by decide +kernel)) (by decide +kernel)
theorem q_17 : Cond.selects "WireBenchModel" ⟨"WireBenchModel", "add", "(IIIIIII)V"⟩ ⟨"WireBenchModel", "add", "(IIIIIII)V"⟩ ∈ gW := gW_of (List.mem_of_getElem? (i := 17) (by decide +kernel)) (by decide +kernel)
theorem q_18 : Cond.selects "WireBenchModel" ⟨"WireBenchModel", "due", "(I)I"⟩ ⟨"WireBenchModel", "due", "(I)I"⟩ ∈ gW := gW_of (List.mem_of_getElem? (i := 18) (by decide +kernel)) (by decide +kernel)
theorem q_20 : (Jvm.Cond.initialized "WireBench") ∈ gW := gW_of (List.mem_of_getElem? (i := 20) (by decide +kernel)) (by decide +kernel)
theorem q_21 : (Jvm.Cond.initialized "WireBench$Arrival") ∈ gW := gW_of (List.mem_of_getElem? (i := 21) (by decide +kernel)) (by decide +kernel)
theorem q_22 : (Jvm.Cond.initialized "WireBench$Net") ∈ gW := gW_of (List.mem_of_getElem? (i := 22) (by decide +kernel)) (by decide +kernel)
theorem q_23 : (Jvm.Cond.initialized "WireBenchModel") ∈ gW := gW_of (List.mem_of_getElem? (i := 23) (by decide +kernel)) (by decide +kernel)
theorem q_27 : (Jvm.Cond.initialized "java/lang/IllegalArgumentException") ∈ gW := gW_of (List.mem_of_getElem? (i := 27) (by decide +kernel)) (by decide +kernel)
theorem q_28 : (Jvm.Cond.initialized "java/lang/IllegalStateException") ∈ gW := gW_of (List.mem_of_getElem? (i := 28) (by decide +kernel)) (by decide +kernel)
theorem q_29 : (Jvm.Cond.initialized "java/lang/Math") ∈ gW := gW_of (List.mem_of_getElem? (i := 29) (by decide +kernel)) (by decide +kernel)
theorem q_30 : (Jvm.Cond.initialized "java/lang/IndexOutOfBoundsException") ∈ gW := gW_of (List.mem_of_getElem? (i := 30) (by decide +kernel)) (by decide +kernel)
theorem q_50 : (Jvm.Cond.fieldLink "WireBench$Arrival" (13 : Nat) "WireBench$Arrival" "net" "I") ∈ gW := gW_of (List.mem_of_getElem? (i := 50) (by decide +kernel)) (by decide +kernel)
theorem q_52 : (Jvm.Cond.fieldLink "WireBench$Arrival" (16 : Nat) "WireBench$Arrival" "station" "I") ∈ gW := gW_of (List.mem_of_getElem? (i := 52) (by decide +kernel)) (by decide +kernel)
theorem q_54 : (Jvm.Cond.fieldLink "WireBench$Arrival" (19 : Nat) "WireBench$Arrival" "goal" "I") ∈ gW := gW_of (List.mem_of_getElem? (i := 54) (by decide +kernel)) (by decide +kernel)
theorem q_56 : (Jvm.Cond.fieldLink "WireBench$Arrival" (22 : Nat) "WireBench$Arrival" "number" "I") ∈ gW := gW_of (List.mem_of_getElem? (i := 56) (by decide +kernel)) (by decide +kernel)
theorem q_58 : (Jvm.Cond.fieldLink "WireBench$Arrival" (25 : Nat) "WireBench$Arrival" "from" "I") ∈ gW := gW_of (List.mem_of_getElem? (i := 58) (by decide +kernel)) (by decide +kernel)
theorem q_60 : (Jvm.Cond.fieldLink "WireBench$Arrival" (28 : Nat) "WireBench$Arrival" "whole" "I") ∈ gW := gW_of (List.mem_of_getElem? (i := 60) (by decide +kernel)) (by decide +kernel)
theorem q_62 : (Jvm.Cond.fieldLink "WireBench$Arrival" (31 : Nat) "WireBench$Arrival" "size" "I") ∈ gW := gW_of (List.mem_of_getElem? (i := 62) (by decide +kernel)) (by decide +kernel)
theorem q_64 : (Jvm.Cond.fieldLink "WireBench$Arrival" (34 : Nat) "WireBench$Arrival" "start" "I") ∈ gW := gW_of (List.mem_of_getElem? (i := 64) (by decide +kernel)) (by decide +kernel)
theorem q_90 : (Jvm.Cond.fieldLink "WireBench$Net" (9 : Nat) "WireBench$Net" "largest" "I") ∈ gW := gW_of (List.mem_of_getElem? (i := 90) (by decide +kernel)) (by decide +kernel)
theorem q_92 : (Jvm.Cond.fieldLink "WireBench$Net" (15 : Nat) "WireBench$Net" "delay" "I") ∈ gW := gW_of (List.mem_of_getElem? (i := 92) (by decide +kernel)) (by decide +kernel)
theorem q_94 : (Jvm.Cond.fieldLink "WireBench$Net" (18 : Nat) "WireBench$Net" "up" "Z") ∈ gW := gW_of (List.mem_of_getElem? (i := 94) (by decide +kernel)) (by decide +kernel)
theorem q_98 : (Jvm.Cond.fieldLink "WireBench$Net" (25 : Nat) "WireBench$Net" "schedule" "[B") ∈ gW := gW_of (List.mem_of_getElem? (i := 98) (by decide +kernel)) (by decide +kernel)
theorem q_99 : (Jvm.Cond.fieldLink "WireBench$Net" (29 : Nat) "WireBench$Net" "firstFate" "I") ∈ gW := gW_of (List.mem_of_getElem? (i := 99) (by decide +kernel)) (by decide +kernel)
theorem q_100 : (Jvm.Cond.fieldLink "WireBench$Net" (32 : Nat) "WireBench$Net" "fateCount" "I") ∈ gW := gW_of (List.mem_of_getElem? (i := 100) (by decide +kernel)) (by decide +kernel)
theorem q_118 : (Jvm.Cond.fieldLink "WireBench" (11 : Nat) "WireBench" "nets" "[LWireBench$Net;") ∈ gW := gW_of (List.mem_of_getElem? (i := 118) (by decide +kernel)) (by decide +kernel)
theorem q_119 : (Jvm.Cond.fieldLink "WireBench" (15 : Nat) "WireBench" "netCount" "I") ∈ gW := gW_of (List.mem_of_getElem? (i := 119) (by decide +kernel)) (by decide +kernel)
theorem q_120 : (Jvm.Cond.fieldLink "WireBench" (19 : Nat) "WireBench" "time" "I") ∈ gW := gW_of (List.mem_of_getElem? (i := 120) (by decide +kernel)) (by decide +kernel)
theorem q_121 : (Jvm.Cond.fieldLink "WireBench" (24 : Nat) "WireBench" "arrivals" "[LWireBench$Arrival;") ∈ gW := gW_of (List.mem_of_getElem? (i := 121) (by decide +kernel)) (by decide +kernel)
theorem q_122 : (Jvm.Cond.fieldLink "WireBench" (28 : Nat) "WireBench" "arrivalCount" "I") ∈ gW := gW_of (List.mem_of_getElem? (i := 122) (by decide +kernel)) (by decide +kernel)
theorem q_123 : (Jvm.Cond.fieldLink "WireBench" (32 : Nat) "WireBench" "taken" "LWireBench$Arrival;") ∈ gW := gW_of (List.mem_of_getElem? (i := 123) (by decide +kernel)) (by decide +kernel)
theorem q_124 : (Jvm.Cond.fieldLink "WireBench" (36 : Nat) "WireBench" "anyTaken" "Z") ∈ gW := gW_of (List.mem_of_getElem? (i := 124) (by decide +kernel)) (by decide +kernel)
theorem q_125 : (Jvm.Cond.fieldLink "WireBench" (40 : Nat) "WireBench" "draft" "LWireBench$Arrival;") ∈ gW := gW_of (List.mem_of_getElem? (i := 125) (by decide +kernel)) (by decide +kernel)
theorem q_126 : (Jvm.Cond.fieldLink "WireBench" (43 : Nat) "WireBench" "ring" "[B") ∈ gW := gW_of (List.mem_of_getElem? (i := 126) (by decide +kernel)) (by decide +kernel)
theorem q_127 : (Jvm.Cond.fieldLink "WireBench" (47 : Nat) "WireBench" "payloadStart" "I") ∈ gW := gW_of (List.mem_of_getElem? (i := 127) (by decide +kernel)) (by decide +kernel)
theorem q_128 : (Jvm.Cond.fieldLink "WireBench" (50 : Nat) "WireBench" "payloadSize" "I") ∈ gW := gW_of (List.mem_of_getElem? (i := 128) (by decide +kernel)) (by decide +kernel)
theorem q_169 : (Jvm.Cond.classLink "WireBench" (54 : Nat) "java/lang/IllegalArgumentException") ∈ gW := gW_of (List.mem_of_getElem? (i := 169) (by decide +kernel)) (by decide +kernel)
theorem q_237 : (Jvm.Cond.classLink "WireBench" (63 : Nat) "java/lang/IllegalStateException") ∈ gW := gW_of (List.mem_of_getElem? (i := 237) (by decide +kernel)) (by decide +kernel)
theorem q_255 : (Jvm.Cond.instanceMethod ({ cls := "WireBench$Net", name := "open", desc := "(II)V" } : Jvm.MethodName)) ∈ gW := gW_of (List.mem_of_getElem? (i := 255) (by decide +kernel)) (by decide +kernel)
theorem q_256 : (Jvm.Cond.code ({ cls := "WireBench$Net", name := "open", desc := "(II)V" } : Jvm.MethodName) prog_3_method_2_code (3 : Nat) (Option.none : Option Jvm.ClassFile.FieldType)) ∈ gW := gW_of (List.mem_of_getElem? (i := 256) (by decide +kernel)) (by decide +kernel)
theorem q_264 : (Jvm.Cond.methodLink "WireBench" (72 : Nat) ({ cls := "WireBench", name := "netNumbered", desc := "(I)LWireBench$Net;" } : Jvm.MethodName)) ∈ gW := gW_of (List.mem_of_getElem? (i := 264) (by decide +kernel)) (by decide +kernel)
theorem q_266 : (Jvm.Cond.instanceMethod ({ cls := "WireBench", name := "netNumbered", desc := "(I)LWireBench$Net;" } : Jvm.MethodName)) ∈ gW := gW_of (List.mem_of_getElem? (i := 266) (by decide +kernel)) (by decide +kernel)
theorem q_267 : (Jvm.Cond.code ({ cls := "WireBench", name := "netNumbered", desc := "(I)LWireBench$Net;" } : Jvm.MethodName) prog_1_method_14_code (2 : Nat) (Option.some (Jvm.ClassFile.FieldType.object "WireBench$Net"))) ∈ gW := gW_of (List.mem_of_getElem? (i := 267) (by decide +kernel)) (by decide +kernel)
theorem q_269 : (Jvm.Cond.methodLink "WireBench" (79 : Nat) ({ cls := "WireBench", name := "loseArrivalsOf", desc := "(I)I" } : Jvm.MethodName)) ∈ gW := gW_of (List.mem_of_getElem? (i := 269) (by decide +kernel)) (by decide +kernel)
theorem q_271 : (Jvm.Cond.instanceMethod ({ cls := "WireBench", name := "loseArrivalsOf", desc := "(I)I" } : Jvm.MethodName)) ∈ gW := gW_of (List.mem_of_getElem? (i := 271) (by decide +kernel)) (by decide +kernel)
theorem q_272 : (Jvm.Cond.code ({ cls := "WireBench", name := "loseArrivalsOf", desc := "(I)I" } : Jvm.MethodName) prog_1_method_22_code (5 : Nat) (Option.some Jvm.ClassFile.FieldType.int)) ∈ gW := gW_of (List.mem_of_getElem? (i := 272) (by decide +kernel)) (by decide +kernel)
theorem q_284 : (Jvm.Cond.instanceMethod ({ cls := "WireBench$Net", name := "addFate", desc := "(I)V" } : Jvm.MethodName)) ∈ gW := gW_of (List.mem_of_getElem? (i := 284) (by decide +kernel)) (by decide +kernel)
theorem q_285 : (Jvm.Cond.code ({ cls := "WireBench$Net", name := "addFate", desc := "(I)V" } : Jvm.MethodName) prog_3_method_4_code (2 : Nat) (Option.none : Option Jvm.ClassFile.FieldType)) ∈ gW := gW_of (List.mem_of_getElem? (i := 285) (by decide +kernel)) (by decide +kernel)
theorem q_295 : (Jvm.Cond.methodLink "WireBench" (98 : Nat) ({ cls := "WireBench", name := "ringPlace", desc := "(I)I" } : Jvm.MethodName)) ∈ gW := gW_of (List.mem_of_getElem? (i := 295) (by decide +kernel)) (by decide +kernel)
theorem q_296 : (Jvm.Cond.static ({ cls := "WireBench", name := "ringPlace", desc := "(I)I" } : Jvm.MethodName)) ∈ gW := gW_of (List.mem_of_getElem? (i := 296) (by decide +kernel)) (by decide +kernel)
theorem q_297 : (Jvm.Cond.code ({ cls := "WireBench", name := "ringPlace", desc := "(I)I" } : Jvm.MethodName) prog_1_method_16_code (1 : Nat) (Option.some Jvm.ClassFile.FieldType.int)) ∈ gW := gW_of (List.mem_of_getElem? (i := 297) (by decide +kernel)) (by decide +kernel)
theorem q_305 : (Jvm.Cond.methodLink "WireBench" (101 : Nat) ({ cls := "WireBench", name := "isStation", desc := "(I)Z" } : Jvm.MethodName)) ∈ gW := gW_of (List.mem_of_getElem? (i := 305) (by decide +kernel)) (by decide +kernel)
theorem q_306 : (Jvm.Cond.static ({ cls := "WireBench", name := "isStation", desc := "(I)Z" } : Jvm.MethodName)) ∈ gW := gW_of (List.mem_of_getElem? (i := 306) (by decide +kernel)) (by decide +kernel)
theorem q_307 : (Jvm.Cond.code ({ cls := "WireBench", name := "isStation", desc := "(I)Z" } : Jvm.MethodName) prog_1_method_15_code (1 : Nat) (Option.some Jvm.ClassFile.FieldType.boolean)) ∈ gW := gW_of (List.mem_of_getElem? (i := 307) (by decide +kernel)) (by decide +kernel)
theorem q_311 : (Jvm.Cond.methodLink "WireBench" (126 : Nat) ({ cls := "WireBench", name := "sendPayload", desc := "(LWireBench$Net;)I" } : Jvm.MethodName)) ∈ gW := gW_of (List.mem_of_getElem? (i := 311) (by decide +kernel)) (by decide +kernel)
theorem q_313 : (Jvm.Cond.instanceMethod ({ cls := "WireBench", name := "sendPayload", desc := "(LWireBench$Net;)I" } : Jvm.MethodName)) ∈ gW := gW_of (List.mem_of_getElem? (i := 313) (by decide +kernel)) (by decide +kernel)
theorem q_314 : (Jvm.Cond.code ({ cls := "WireBench", name := "sendPayload", desc := "(LWireBench$Net;)I" } : Jvm.MethodName) prog_1_method_17_code (7 : Nat) (Option.some Jvm.ClassFile.FieldType.int)) ∈ gW := gW_of (List.mem_of_getElem? (i := 314) (by decide +kernel)) (by decide +kernel)
theorem q_315 : (Jvm.Cond.methodLink "WireBench" (168 : Nat) ({ cls := "WireBench", name := "sendPiece", desc := "(LWireBench$Net;II)V" } : Jvm.MethodName)) ∈ gW := gW_of (List.mem_of_getElem? (i := 315) (by decide +kernel)) (by decide +kernel)
theorem q_317 : (Jvm.Cond.instanceMethod ({ cls := "WireBench", name := "sendPiece", desc := "(LWireBench$Net;II)V" } : Jvm.MethodName)) ∈ gW := gW_of (List.mem_of_getElem? (i := 317) (by decide +kernel)) (by decide +kernel)
theorem q_318 : (Jvm.Cond.code ({ cls := "WireBench", name := "sendPiece", desc := "(LWireBench$Net;II)V" } : Jvm.MethodName) prog_1_method_19_code (4 : Nat) (Option.none : Option Jvm.ClassFile.FieldType)) ∈ gW := gW_of (List.mem_of_getElem? (i := 318) (by decide +kernel)) (by decide +kernel)
theorem q_321 : (Jvm.Cond.instanceMethod ({ cls := "WireBench$Net", name := "takeFate", desc := "()I" } : Jvm.MethodName)) ∈ gW := gW_of (List.mem_of_getElem? (i := 321) (by decide +kernel)) (by decide +kernel)
theorem q_322 : (Jvm.Cond.code ({ cls := "WireBench$Net", name := "takeFate", desc := "()I" } : Jvm.MethodName) prog_3_method_5_code (2 : Nat) (Option.some Jvm.ClassFile.FieldType.int)) ∈ gW := gW_of (List.mem_of_getElem? (i := 322) (by decide +kernel)) (by decide +kernel)
theorem q_323 : (Jvm.Cond.methodLink "WireBench" (190 : Nat) ({ cls := "WireBench", name := "meetFate", desc := "(II)V" } : Jvm.MethodName)) ∈ gW := gW_of (List.mem_of_getElem? (i := 323) (by decide +kernel)) (by decide +kernel)
theorem q_325 : (Jvm.Cond.instanceMethod ({ cls := "WireBench", name := "meetFate", desc := "(II)V" } : Jvm.MethodName)) ∈ gW := gW_of (List.mem_of_getElem? (i := 325) (by decide +kernel)) (by decide +kernel)
theorem q_326 : (Jvm.Cond.code ({ cls := "WireBench", name := "meetFate", desc := "(II)V" } : Jvm.MethodName) prog_1_method_20_code (3 : Nat) (Option.none : Option Jvm.ClassFile.FieldType)) ∈ gW := gW_of (List.mem_of_getElem? (i := 326) (by decide +kernel)) (by decide +kernel)
theorem q_327 : (Jvm.Cond.methodLink "WireBench" (193 : Nat) ({ cls := "WireBench", name := "arriveBehind", desc := "(I)V" } : Jvm.MethodName)) ∈ gW := gW_of (List.mem_of_getElem? (i := 327) (by decide +kernel)) (by decide +kernel)
theorem q_329 : (Jvm.Cond.instanceMethod ({ cls := "WireBench", name := "arriveBehind", desc := "(I)V" } : Jvm.MethodName)) ∈ gW := gW_of (List.mem_of_getElem? (i := 329) (by decide +kernel)) (by decide +kernel)
theorem q_330 : (Jvm.Cond.code ({ cls := "WireBench", name := "arriveBehind", desc := "(I)V" } : Jvm.MethodName) prog_1_method_21_code (4 : Nat) (Option.none : Option Jvm.ClassFile.FieldType)) ∈ gW := gW_of (List.mem_of_getElem? (i := 330) (by decide +kernel)) (by decide +kernel)
theorem q_333 : (Jvm.Cond.instanceMethod ({ cls := "WireBench$Arrival", name := "copyFrom", desc := "(LWireBench$Arrival;)V" } : Jvm.MethodName)) ∈ gW := gW_of (List.mem_of_getElem? (i := 333) (by decide +kernel)) (by decide +kernel)
theorem q_334 : (Jvm.Cond.code ({ cls := "WireBench$Arrival", name := "copyFrom", desc := "(LWireBench$Arrival;)V" } : Jvm.MethodName) prog_2_method_2_code (2 : Nat) (Option.none : Option Jvm.ClassFile.FieldType)) ∈ gW := gW_of (List.mem_of_getElem? (i := 334) (by decide +kernel)) (by decide +kernel)
theorem q_337 : (Jvm.Cond.instanceMethod ({ cls := "WireBench$Net", name := "pieceSize", desc := "()I" } : Jvm.MethodName)) ∈ gW := gW_of (List.mem_of_getElem? (i := 337) (by decide +kernel)) (by decide +kernel)
theorem q_338 : (Jvm.Cond.code ({ cls := "WireBench$Net", name := "pieceSize", desc := "()I" } : Jvm.MethodName) prog_3_method_3_code (1 : Nat) (Option.some Jvm.ClassFile.FieldType.int)) ∈ gW := gW_of (List.mem_of_getElem? (i := 338) (by decide +kernel)) (by decide +kernel)
theorem q_339 : (Jvm.Cond.methodLink "WireBench" (175 : Nat) ({ cls := "WireBench", name := "countPieces", desc := "(II)I" } : Jvm.MethodName)) ∈ gW := gW_of (List.mem_of_getElem? (i := 339) (by decide +kernel)) (by decide +kernel)
theorem q_340 : (Jvm.Cond.static ({ cls := "WireBench", name := "countPieces", desc := "(II)I" } : Jvm.MethodName)) ∈ gW := gW_of (List.mem_of_getElem? (i := 340) (by decide +kernel)) (by decide +kernel)
theorem q_341 : (Jvm.Cond.code ({ cls := "WireBench", name := "countPieces", desc := "(II)I" } : Jvm.MethodName) prog_1_method_18_code (2 : Nat) (Option.some Jvm.ClassFile.FieldType.int)) ∈ gW := gW_of (List.mem_of_getElem? (i := 341) (by decide +kernel)) (by decide +kernel)
theorem q_342 : (Jvm.Cond.methodLink "WireBench" (179 : Nat) ({ cls := "java/lang/Math", name := "min", desc := "(II)I" } : Jvm.MethodName)) ∈ gW := gW_of (List.mem_of_getElem? (i := 342) (by decide +kernel)) (by decide +kernel)
theorem q_343 : (Jvm.Cond.static ({ cls := "java/lang/Math", name := "min", desc := "(II)I" } : Jvm.MethodName)) ∈ gW := gW_of (List.mem_of_getElem? (i := 343) (by decide +kernel)) (by decide +kernel)
theorem q_344 : (Jvm.Cond.code ({ cls := "java/lang/Math", name := "min", desc := "(II)I" } : Jvm.MethodName) prog_10_method_69_code (2 : Nat) (Option.some Jvm.ClassFile.FieldType.int)) ∈ gW := gW_of (List.mem_of_getElem? (i := 344) (by decide +kernel)) (by decide +kernel)
theorem q_353 : (Jvm.Cond.constant "WireBench" (132 : Nat) (1000000 : Int32)) ∈ gW := gW_of (List.mem_of_getElem? (i := 353) (by decide +kernel)) (by decide +kernel)
theorem q_355 : (Jvm.Cond.methodLink "WireBench" (135 : Nat) ({ cls := "WireBench", name := "countDue", desc := "()I" } : Jvm.MethodName)) ∈ gW := gW_of (List.mem_of_getElem? (i := 355) (by decide +kernel)) (by decide +kernel)
theorem q_357 : (Jvm.Cond.instanceMethod ({ cls := "WireBench", name := "countDue", desc := "()I" } : Jvm.MethodName)) ∈ gW := gW_of (List.mem_of_getElem? (i := 357) (by decide +kernel)) (by decide +kernel)
theorem q_358 : (Jvm.Cond.code ({ cls := "WireBench", name := "countDue", desc := "()I" } : Jvm.MethodName) prog_1_method_23_code (2 : Nat) (Option.some Jvm.ClassFile.FieldType.int)) ∈ gW := gW_of (List.mem_of_getElem? (i := 358) (by decide +kernel)) (by decide +kernel)
theorem q_376 : (Jvm.Cond.classLink "WireBench" (152 : Nat) "java/lang/IndexOutOfBoundsException") ∈ gW := gW_of (List.mem_of_getElem? (i := 376) (by decide +kernel)) (by decide +kernel)
theorem q_413 : (Jvm.Cond.fieldLink "WireBenchModel" (52 : Nat) "WireBenchModel" "code" "I") ∈ gW := gW_of (List.mem_of_getElem? (i := 413) (by decide +kernel)) (by decide +kernel)
theorem q_414 : (Jvm.Cond.fieldLink "WireBenchModel" (83 : Nat) "WireBenchModel" "time" "I") ∈ gW := gW_of (List.mem_of_getElem? (i := 414) (by decide +kernel)) (by decide +kernel)
theorem q_415 : (Jvm.Cond.fieldLink "WireBenchModel" (56 : Nat) "WireBenchModel" "nets" "I") ∈ gW := gW_of (List.mem_of_getElem? (i := 415) (by decide +kernel)) (by decide +kernel)
theorem q_416 : (Jvm.Cond.fieldLink "WireBenchModel" (7 : Nat) "WireBenchModel" "largest" "[I") ∈ gW := gW_of (List.mem_of_getElem? (i := 416) (by decide +kernel)) (by decide +kernel)
theorem q_417 : (Jvm.Cond.fieldLink "WireBenchModel" (13 : Nat) "WireBenchModel" "delay" "[I") ∈ gW := gW_of (List.mem_of_getElem? (i := 417) (by decide +kernel)) (by decide +kernel)
theorem q_418 : (Jvm.Cond.fieldLink "WireBenchModel" (16 : Nat) "WireBenchModel" "up" "[Z") ∈ gW := gW_of (List.mem_of_getElem? (i := 418) (by decide +kernel)) (by decide +kernel)
theorem q_419 : (Jvm.Cond.fieldLink "WireBenchModel" (20 : Nat) "WireBenchModel" "fateCount" "[I") ∈ gW := gW_of (List.mem_of_getElem? (i := 419) (by decide +kernel)) (by decide +kernel)
theorem q_420 : (Jvm.Cond.fieldLink "WireBenchModel" (23 : Nat) "WireBenchModel" "fate" "[I") ∈ gW := gW_of (List.mem_of_getElem? (i := 420) (by decide +kernel)) (by decide +kernel)
theorem q_421 : (Jvm.Cond.fieldLink "WireBenchModel" (26 : Nat) "WireBenchModel" "puts" "[I") ∈ gW := gW_of (List.mem_of_getElem? (i := 421) (by decide +kernel)) (by decide +kernel)
theorem q_422 : (Jvm.Cond.fieldLink "WireBenchModel" (72 : Nat) "WireBenchModel" "fedCount" "I") ∈ gW := gW_of (List.mem_of_getElem? (i := 422) (by decide +kernel)) (by decide +kernel)
theorem q_423 : (Jvm.Cond.fieldLink "WireBenchModel" (29 : Nat) "WireBenchModel" "fed" "[I") ∈ gW := gW_of (List.mem_of_getElem? (i := 423) (by decide +kernel)) (by decide +kernel)
theorem q_424 : (Jvm.Cond.fieldLink "WireBenchModel" (59 : Nat) "WireBenchModel" "count" "I") ∈ gW := gW_of (List.mem_of_getElem? (i := 424) (by decide +kernel)) (by decide +kernel)
theorem q_425 : (Jvm.Cond.fieldLink "WireBenchModel" (32 : Nat) "WireBenchModel" "order" "[I") ∈ gW := gW_of (List.mem_of_getElem? (i := 425) (by decide +kernel)) (by decide +kernel)
theorem q_426 : (Jvm.Cond.fieldLink "WireBenchModel" (35 : Nat) "WireBenchModel" "used" "[Z") ∈ gW := gW_of (List.mem_of_getElem? (i := 426) (by decide +kernel)) (by decide +kernel)
theorem q_427 : (Jvm.Cond.fieldLink "WireBenchModel" (38 : Nat) "WireBenchModel" "figure" "[I") ∈ gW := gW_of (List.mem_of_getElem? (i := 427) (by decide +kernel)) (by decide +kernel)
theorem q_428 : (Jvm.Cond.fieldLink "WireBenchModel" (42 : Nat) "WireBenchModel" "row" "[J") ∈ gW := gW_of (List.mem_of_getElem? (i := 428) (by decide +kernel)) (by decide +kernel)
theorem q_429 : (Jvm.Cond.fieldLink "WireBenchModel" (98 : Nat) "WireBenchModel" "some" "Z") ∈ gW := gW_of (List.mem_of_getElem? (i := 429) (by decide +kernel)) (by decide +kernel)
theorem q_430 : (Jvm.Cond.fieldLink "WireBenchModel" (46 : Nat) "WireBenchModel" "taken" "[I") ∈ gW := gW_of (List.mem_of_getElem? (i := 430) (by decide +kernel)) (by decide +kernel)
theorem q_431 : (Jvm.Cond.fieldLink "WireBenchModel" (49 : Nat) "WireBenchModel" "bytes" "[I") ∈ gW := gW_of (List.mem_of_getElem? (i := 431) (by decide +kernel)) (by decide +kernel)
theorem q_486 : (Jvm.Cond.methodLink "WireBenchModel" (62 : Nat) ({ cls := "WireBenchModel", name := "isNet", desc := "(I)Z" } : Jvm.MethodName)) ∈ gW := gW_of (List.mem_of_getElem? (i := 486) (by decide +kernel)) (by decide +kernel)
theorem q_488 : (Jvm.Cond.instanceMethod ({ cls := "WireBenchModel", name := "isNet", desc := "(I)Z" } : Jvm.MethodName)) ∈ gW := gW_of (List.mem_of_getElem? (i := 488) (by decide +kernel)) (by decide +kernel)
theorem q_489 : (Jvm.Cond.code ({ cls := "WireBenchModel", name := "isNet", desc := "(I)Z" } : Jvm.MethodName) prog_5_method_3_code (2 : Nat) (Option.some Jvm.ClassFile.FieldType.boolean)) ∈ gW := gW_of (List.mem_of_getElem? (i := 489) (by decide +kernel)) (by decide +kernel)
theorem q_490 : (Jvm.Cond.methodLink "WireBenchModel" (66 : Nat) ({ cls := "WireBenchModel", name := "remove", desc := "(I)V" } : Jvm.MethodName)) ∈ gW := gW_of (List.mem_of_getElem? (i := 490) (by decide +kernel)) (by decide +kernel)
theorem q_492 : (Jvm.Cond.instanceMethod ({ cls := "WireBenchModel", name := "remove", desc := "(I)V" } : Jvm.MethodName)) ∈ gW := gW_of (List.mem_of_getElem? (i := 492) (by decide +kernel)) (by decide +kernel)
theorem q_493 : (Jvm.Cond.code ({ cls := "WireBenchModel", name := "remove", desc := "(I)V" } : Jvm.MethodName) prog_5_method_5_code (3 : Nat) (Option.none : Option Jvm.ClassFile.FieldType)) ∈ gW := gW_of (List.mem_of_getElem? (i := 493) (by decide +kernel)) (by decide +kernel)
theorem q_498 : (Jvm.Cond.constantLong "WireBenchModel" (70 : Nat) (3 : Int64)) ∈ gW := gW_of (List.mem_of_getElem? (i := 498) (by decide +kernel)) (by decide +kernel)
theorem q_503 : (Jvm.Cond.constantLong "WireBenchModel" (75 : Nat) (255 : Int64)) ∈ gW := gW_of (List.mem_of_getElem? (i := 503) (by decide +kernel)) (by decide +kernel)
theorem q_508 : (Jvm.Cond.methodLink "WireBenchModel" (90 : Nat) ({ cls := "WireBenchModel", name := "frame", desc := "(IIIIII)V" } : Jvm.MethodName)) ∈ gW := gW_of (List.mem_of_getElem? (i := 508) (by decide +kernel)) (by decide +kernel)
theorem q_510 : (Jvm.Cond.instanceMethod ({ cls := "WireBenchModel", name := "frame", desc := "(IIIIII)V" } : Jvm.MethodName)) ∈ gW := gW_of (List.mem_of_getElem? (i := 510) (by decide +kernel)) (by decide +kernel)
theorem q_511 : (Jvm.Cond.code ({ cls := "WireBenchModel", name := "frame", desc := "(IIIIII)V" } : Jvm.MethodName) prog_5_method_11_code (9 : Nat) (Option.none : Option Jvm.ClassFile.FieldType)) ∈ gW := gW_of (List.mem_of_getElem? (i := 511) (by decide +kernel)) (by decide +kernel)
theorem q_512 : (Jvm.Cond.methodLink "WireBenchModel" (79 : Nat) ({ cls := "WireBenchModel", name := "nextFate", desc := "(I)I" } : Jvm.MethodName)) ∈ gW := gW_of (List.mem_of_getElem? (i := 512) (by decide +kernel)) (by decide +kernel)
theorem q_514 : (Jvm.Cond.instanceMethod ({ cls := "WireBenchModel", name := "nextFate", desc := "(I)I" } : Jvm.MethodName)) ∈ gW := gW_of (List.mem_of_getElem? (i := 514) (by decide +kernel)) (by decide +kernel)
theorem q_515 : (Jvm.Cond.code ({ cls := "WireBenchModel", name := "nextFate", desc := "(I)I" } : Jvm.MethodName) prog_5_method_9_code (4 : Nat) (Option.some Jvm.ClassFile.FieldType.int)) ∈ gW := gW_of (List.mem_of_getElem? (i := 515) (by decide +kernel)) (by decide +kernel)
theorem q_516 : (Jvm.Cond.methodLink "WireBenchModel" (86 : Nat) ({ cls := "WireBenchModel", name := "add", desc := "(IIIIIII)V" } : Jvm.MethodName)) ∈ gW := gW_of (List.mem_of_getElem? (i := 516) (by decide +kernel)) (by decide +kernel)
theorem q_518 : (Jvm.Cond.instanceMethod ({ cls := "WireBenchModel", name := "add", desc := "(IIIIIII)V" } : Jvm.MethodName)) ∈ gW := gW_of (List.mem_of_getElem? (i := 518) (by decide +kernel)) (by decide +kernel)
theorem q_519 : (Jvm.Cond.code ({ cls := "WireBenchModel", name := "add", desc := "(IIIIIII)V" } : Jvm.MethodName) prog_5_method_10_code (11 : Nat) (Option.none : Option Jvm.ClassFile.FieldType)) ∈ gW := gW_of (List.mem_of_getElem? (i := 519) (by decide +kernel)) (by decide +kernel)
theorem q_520 : (Jvm.Cond.constantLong "WireBenchModel" (77 : Nat) (-1 : Int64)) ∈ gW := gW_of (List.mem_of_getElem? (i := 520) (by decide +kernel)) (by decide +kernel)
theorem q_525 : (Jvm.Cond.constant "WireBenchModel" (94 : Nat) (1000000 : Int32)) ∈ gW := gW_of (List.mem_of_getElem? (i := 525) (by decide +kernel)) (by decide +kernel)
theorem q_526 : (Jvm.Cond.methodLink "WireBenchModel" (95 : Nat) ({ cls := "WireBenchModel", name := "due", desc := "(I)I" } : Jvm.MethodName)) ∈ gW := gW_of (List.mem_of_getElem? (i := 526) (by decide +kernel)) (by decide +kernel)
theorem q_528 : (Jvm.Cond.instanceMethod ({ cls := "WireBenchModel", name := "due", desc := "(I)I" } : Jvm.MethodName)) ∈ gW := gW_of (List.mem_of_getElem? (i := 528) (by decide +kernel)) (by decide +kernel)
theorem q_529 : (Jvm.Cond.code ({ cls := "WireBenchModel", name := "due", desc := "(I)I" } : Jvm.MethodName) prog_5_method_13_code (2 : Nat) (Option.some Jvm.ClassFile.FieldType.int)) ∈ gW := gW_of (List.mem_of_getElem? (i := 529) (by decide +kernel)) (by decide +kernel)
end
section
theorem dX2_init_0 : decode cX2_init 0 = .ok (.aload_n 0, 1) := by decide +kernel
theorem dX2_init_1 : decode cX2_init 1 = .ok (.invokespecial 1, 3) := by decide +kernel
theorem dX2_init_4 : decode cX2_init 4 = .ok (.aload_n 0, 1) := by decide +kernel
theorem dX2_init_5 : decode cX2_init 5 = .ok (.bipush 24, 2) := by decide +kernel
theorem dX2_init_7 : decode cX2_init 7 = .ok (.anewarray 9, 3) := by decide +kernel
theorem dX2_init_10 : decode cX2_init 10 = .ok (.putfield 11, 3) := by decide +kernel
theorem dX2_init_13 : decode cX2_init 13 = .ok (.aload_n 0, 1) := by decide +kernel
theorem dX2_init_14 : decode cX2_init 14 = .ok (.iconst 0, 1) := by decide +kernel
theorem dX2_init_15 : decode cX2_init 15 = .ok (.putfield 15, 3) := by decide +kernel
theorem dX2_init_18 : decode cX2_init 18 = .ok (.aload_n 0, 1) := by decide +kernel
theorem dX2_init_19 : decode cX2_init 19 = .ok (.iconst 0, 1) := by decide +kernel
theorem dX2_init_20 : decode cX2_init 20 = .ok (.putfield 19, 3) := by decide +kernel
theorem dX2_init_23 : decode cX2_init 23 = .ok (.aload_n 0, 1) := by decide +kernel
theorem dX2_init_24 : decode cX2_init 24 = .ok (.sipush 512, 3) := by decide +kernel
theorem dX2_init_27 : decode cX2_init 27 = .ok (.anewarray 22, 3) := by decide +kernel
theorem dX2_init_30 : decode cX2_init 30 = .ok (.putfield 24, 3) := by decide +kernel
theorem dX2_init_33 : decode cX2_init 33 = .ok (.aload_n 0, 1) := by decide +kernel
theorem dX2_init_34 : decode cX2_init 34 = .ok (.iconst 0, 1) := by decide +kernel
theorem dX2_init_35 : decode cX2_init 35 = .ok (.putfield 28, 3) := by decide +kernel
theorem dX2_init_38 : decode cX2_init 38 = .ok (.aload_n 0, 1) := by decide +kernel
theorem dX2_init_39 : decode cX2_init 39 = .ok (.new 22, 3) := by decide +kernel
theorem dX2_init_42 : decode cX2_init 42 = .ok (.dup, 1) := by decide +kernel
theorem dX2_init_43 : decode cX2_init 43 = .ok (.invokespecial 31, 3) := by decide +kernel
theorem dX2_init_46 : decode cX2_init 46 = .ok (.putfield 32, 3) := by decide +kernel
theorem dX2_init_49 : decode cX2_init 49 = .ok (.aload_n 0, 1) := by decide +kernel
theorem dX2_init_50 : decode cX2_init 50 = .ok (.iconst 0, 1) := by decide +kernel
theorem dX2_init_51 : decode cX2_init 51 = .ok (.putfield 36, 3) := by decide +kernel
theorem dX2_init_54 : decode cX2_init 54 = .ok (.aload_n 0, 1) := by decide +kernel
theorem dX2_init_55 : decode cX2_init 55 = .ok (.new 22, 3) := by decide +kernel
theorem dX2_init_58 : decode cX2_init 58 = .ok (.dup, 1) := by decide +kernel
theorem dX2_init_59 : decode cX2_init 59 = .ok (.invokespecial 31, 3) := by decide +kernel
theorem dX2_init_62 : decode cX2_init 62 = .ok (.putfield 40, 3) := by decide +kernel
theorem dX2_init_65 : decode cX2_init 65 = .ok (.aload_n 0, 1) := by decide +kernel
theorem dX2_init_66 : decode cX2_init 66 = .ok (.sipush 4096, 3) := by decide +kernel
theorem dX2_init_69 : decode cX2_init 69 = .ok (.newarray .byte, 2) := by decide +kernel
theorem dX2_init_71 : decode cX2_init 71 = .ok (.putfield 43, 3) := by decide +kernel
theorem dX2_init_74 : decode cX2_init 74 = .ok (.aload_n 0, 1) := by decide +kernel
theorem dX2_init_75 : decode cX2_init 75 = .ok (.iconst 0, 1) := by decide +kernel
theorem dX2_init_76 : decode cX2_init 76 = .ok (.putfield 47, 3) := by decide +kernel
theorem dX2_init_79 : decode cX2_init 79 = .ok (.aload_n 0, 1) := by decide +kernel
theorem dX2_init_80 : decode cX2_init 80 = .ok (.iconst 0, 1) := by decide +kernel
theorem dX2_init_81 : decode cX2_init 81 = .ok (.putfield 50, 3) := by decide +kernel
theorem dX2_init_84 : decode cX2_init 84 = .ok (.iconst 0, 1) := by decide +kernel
theorem dX2_init_85 : decode cX2_init 85 = .ok (.istore_n 1, 1) := by decide +kernel
theorem dX2_init_86 : decode cX2_init 86 = .ok (.iload_n 1, 1) := by decide +kernel
theorem dX2_init_87 : decode cX2_init 87 = .ok (.bipush 24, 2) := by decide +kernel
theorem dX2_init_89 : decode cX2_init 89 = .ok (.if_icmp .ge 22, 3) := by decide +kernel
theorem dX2_init_92 : decode cX2_init 92 = .ok (.aload_n 0, 1) := by decide +kernel
theorem dX2_init_93 : decode cX2_init 93 = .ok (.getfield 11, 3) := by decide +kernel
theorem dX2_init_96 : decode cX2_init 96 = .ok (.iload_n 1, 1) := by decide +kernel
theorem dX2_init_97 : decode cX2_init 97 = .ok (.new 9, 3) := by decide +kernel
theorem dX2_init_100 : decode cX2_init 100 = .ok (.dup, 1) := by decide +kernel
theorem dX2_init_101 : decode cX2_init 101 = .ok (.invokespecial 53, 3) := by decide +kernel
theorem dX2_init_104 : decode cX2_init 104 = .ok (.aastore, 1) := by decide +kernel
theorem dX2_init_105 : decode cX2_init 105 = .ok (.iinc 1 1, 3) := by decide +kernel
theorem dX2_init_108 : decode cX2_init 108 = .ok (.goto (-22), 3) := by decide +kernel
theorem dX2_init_111 : decode cX2_init 111 = .ok (.iconst 0, 1) := by decide +kernel
theorem dX2_init_112 : decode cX2_init 112 = .ok (.istore_n 1, 1) := by decide +kernel
theorem dX2_init_113 : decode cX2_init 113 = .ok (.iload_n 1, 1) := by decide +kernel
theorem dX2_init_114 : decode cX2_init 114 = .ok (.sipush 512, 3) := by decide +kernel
theorem dX2_init_117 : decode cX2_init 117 = .ok (.if_icmp .ge 22, 3) := by decide +kernel
theorem dX2_init_120 : decode cX2_init 120 = .ok (.aload_n 0, 1) := by decide +kernel
theorem dX2_init_121 : decode cX2_init 121 = .ok (.getfield 24, 3) := by decide +kernel
theorem dX2_init_124 : decode cX2_init 124 = .ok (.iload_n 1, 1) := by decide +kernel
theorem dX2_init_125 : decode cX2_init 125 = .ok (.new 22, 3) := by decide +kernel
theorem dX2_init_128 : decode cX2_init 128 = .ok (.dup, 1) := by decide +kernel
theorem dX2_init_129 : decode cX2_init 129 = .ok (.invokespecial 31, 3) := by decide +kernel
theorem dX2_init_132 : decode cX2_init 132 = .ok (.aastore, 1) := by decide +kernel
theorem dX2_init_133 : decode cX2_init 133 = .ok (.iinc 1 1, 3) := by decide +kernel
theorem dX2_init_136 : decode cX2_init 136 = .ok (.goto (-23), 3) := by decide +kernel
theorem dX2_init_139 : decode cX2_init 139 = .ok (.return_, 1) := by decide +kernel
theorem dX0_init_0 : decode cX0_init 0 = .ok (.aload_n 0, 1) := by decide +kernel
theorem dX0_init_1 : decode cX0_init 1 = .ok (.invokespecial 1, 3) := by decide +kernel
theorem dX0_init_4 : decode cX0_init 4 = .ok (.aload_n 0, 1) := by decide +kernel
theorem dX0_init_5 : decode cX0_init 5 = .ok (.iconst 0, 1) := by decide +kernel
theorem dX0_init_6 : decode cX0_init 6 = .ok (.putfield 7, 3) := by decide +kernel
theorem dX0_init_9 : decode cX0_init 9 = .ok (.aload_n 0, 1) := by decide +kernel
theorem dX0_init_10 : decode cX0_init 10 = .ok (.iconst 0, 1) := by decide +kernel
theorem dX0_init_11 : decode cX0_init 11 = .ok (.putfield 13, 3) := by decide +kernel
theorem dX0_init_14 : decode cX0_init 14 = .ok (.aload_n 0, 1) := by decide +kernel
theorem dX0_init_15 : decode cX0_init 15 = .ok (.iconst 0, 1) := by decide +kernel
theorem dX0_init_16 : decode cX0_init 16 = .ok (.putfield 16, 3) := by decide +kernel
theorem dX0_init_19 : decode cX0_init 19 = .ok (.aload_n 0, 1) := by decide +kernel
theorem dX0_init_20 : decode cX0_init 20 = .ok (.iconst 0, 1) := by decide +kernel
theorem dX0_init_21 : decode cX0_init 21 = .ok (.putfield 19, 3) := by decide +kernel
theorem dX0_init_24 : decode cX0_init 24 = .ok (.aload_n 0, 1) := by decide +kernel
theorem dX0_init_25 : decode cX0_init 25 = .ok (.iconst 0, 1) := by decide +kernel
theorem dX0_init_26 : decode cX0_init 26 = .ok (.putfield 22, 3) := by decide +kernel
theorem dX0_init_29 : decode cX0_init 29 = .ok (.aload_n 0, 1) := by decide +kernel
theorem dX0_init_30 : decode cX0_init 30 = .ok (.iconst 0, 1) := by decide +kernel
theorem dX0_init_31 : decode cX0_init 31 = .ok (.putfield 25, 3) := by decide +kernel
theorem dX0_init_34 : decode cX0_init 34 = .ok (.aload_n 0, 1) := by decide +kernel
theorem dX0_init_35 : decode cX0_init 35 = .ok (.iconst 0, 1) := by decide +kernel
theorem dX0_init_36 : decode cX0_init 36 = .ok (.putfield 28, 3) := by decide +kernel
theorem dX0_init_39 : decode cX0_init 39 = .ok (.aload_n 0, 1) := by decide +kernel
theorem dX0_init_40 : decode cX0_init 40 = .ok (.iconst 0, 1) := by decide +kernel
theorem dX0_init_41 : decode cX0_init 41 = .ok (.putfield 31, 3) := by decide +kernel
theorem dX0_init_44 : decode cX0_init 44 = .ok (.aload_n 0, 1) := by decide +kernel
theorem dX0_init_45 : decode cX0_init 45 = .ok (.iconst 0, 1) := by decide +kernel
theorem dX0_init_46 : decode cX0_init 46 = .ok (.putfield 34, 3) := by decide +kernel
theorem dX0_init_49 : decode cX0_init 49 = .ok (.return_, 1) := by decide +kernel
theorem dX1_init_0 : decode cX1_init 0 = .ok (.aload_n 0, 1) := by decide +kernel
theorem dX1_init_1 : decode cX1_init 1 = .ok (.invokespecial 3, 3) := by decide +kernel
theorem dX1_init_4 : decode cX1_init 4 = .ok (.aload_n 0, 1) := by decide +kernel
theorem dX1_init_5 : decode cX1_init 5 = .ok (.iconst 0, 1) := by decide +kernel
theorem dX1_init_6 : decode cX1_init 6 = .ok (.putfield 9, 3) := by decide +kernel
theorem dX1_init_9 : decode cX1_init 9 = .ok (.aload_n 0, 1) := by decide +kernel
theorem dX1_init_10 : decode cX1_init 10 = .ok (.iconst 0, 1) := by decide +kernel
theorem dX1_init_11 : decode cX1_init 11 = .ok (.putfield 15, 3) := by decide +kernel
theorem dX1_init_14 : decode cX1_init 14 = .ok (.aload_n 0, 1) := by decide +kernel
theorem dX1_init_15 : decode cX1_init 15 = .ok (.iconst 0, 1) := by decide +kernel
theorem dX1_init_16 : decode cX1_init 16 = .ok (.putfield 18, 3) := by decide +kernel
theorem dX1_init_19 : decode cX1_init 19 = .ok (.aload_n 0, 1) := by decide +kernel
theorem dX1_init_20 : decode cX1_init 20 = .ok (.iconst 0, 1) := by decide +kernel
theorem dX1_init_21 : decode cX1_init 21 = .ok (.putfield 22, 3) := by decide +kernel
theorem dX1_init_24 : decode cX1_init 24 = .ok (.aload_n 0, 1) := by decide +kernel
theorem dX1_init_25 : decode cX1_init 25 = .ok (.bipush 64, 2) := by decide +kernel
theorem dX1_init_27 : decode cX1_init 27 = .ok (.newarray .byte, 2) := by decide +kernel
theorem dX1_init_29 : decode cX1_init 29 = .ok (.putfield 25, 3) := by decide +kernel
theorem dX1_init_32 : decode cX1_init 32 = .ok (.aload_n 0, 1) := by decide +kernel
theorem dX1_init_33 : decode cX1_init 33 = .ok (.iconst 0, 1) := by decide +kernel
theorem dX1_init_34 : decode cX1_init 34 = .ok (.putfield 29, 3) := by decide +kernel
theorem dX1_init_37 : decode cX1_init 37 = .ok (.aload_n 0, 1) := by decide +kernel
theorem dX1_init_38 : decode cX1_init 38 = .ok (.iconst 0, 1) := by decide +kernel
theorem dX1_init_39 : decode cX1_init 39 = .ok (.putfield 32, 3) := by decide +kernel
theorem dX1_init_42 : decode cX1_init 42 = .ok (.return_, 1) := by decide +kernel
theorem dX2_next_0 : decode cX2_next 0 = .ok (.aload_n 0, 1) := by decide +kernel
theorem dX2_next_1 : decode cX2_next 1 = .ok (.getfield 28, 3) := by decide +kernel
theorem dX2_next_4 : decode cX2_next 4 = .ok (.iconst 1, 1) := by decide +kernel
theorem dX2_next_5 : decode cX2_next 5 = .ok (.if_icmp .lt 19, 3) := by decide +kernel
theorem dX2_next_8 : decode cX2_next 8 = .ok (.aload_n 0, 1) := by decide +kernel
theorem dX2_next_9 : decode cX2_next 9 = .ok (.getfield 24, 3) := by decide +kernel
theorem dX2_next_12 : decode cX2_next 12 = .ok (.iconst 0, 1) := by decide +kernel
theorem dX2_next_13 : decode cX2_next 13 = .ok (.aaload, 1) := by decide +kernel
theorem dX2_next_14 : decode cX2_next 14 = .ok (.getfield 139, 3) := by decide +kernel
theorem dX2_next_17 : decode cX2_next 17 = .ok (.aload_n 0, 1) := by decide +kernel
theorem dX2_next_18 : decode cX2_next 18 = .ok (.getfield 19, 3) := by decide +kernel
theorem dX2_next_21 : decode cX2_next 21 = .ok (.if_icmp .le 5, 3) := by decide +kernel
theorem dX2_next_24 : decode cX2_next 24 = .ok (.iconst 0, 1) := by decide +kernel
theorem dX2_next_25 : decode cX2_next 25 = .ok (.ireturn, 1) := by decide +kernel
theorem dX2_next_26 : decode cX2_next 26 = .ok (.aload_n 0, 1) := by decide +kernel
theorem dX2_next_27 : decode cX2_next 27 = .ok (.getfield 24, 3) := by decide +kernel
theorem dX2_next_30 : decode cX2_next 30 = .ok (.iconst 0, 1) := by decide +kernel
theorem dX2_next_31 : decode cX2_next 31 = .ok (.aaload, 1) := by decide +kernel
theorem dX2_next_32 : decode cX2_next 32 = .ok (.astore_n 1, 1) := by decide +kernel
theorem dX2_next_33 : decode cX2_next 33 = .ok (.aload_n 0, 1) := by decide +kernel
theorem dX2_next_34 : decode cX2_next 34 = .ok (.dup, 1) := by decide +kernel
theorem dX2_next_35 : decode cX2_next 35 = .ok (.getfield 28, 3) := by decide +kernel
theorem dX2_next_38 : decode cX2_next 38 = .ok (.iconst 1, 1) := by decide +kernel
theorem dX2_next_39 : decode cX2_next 39 = .ok (.isub, 1) := by decide +kernel
theorem dX2_next_40 : decode cX2_next 40 = .ok (.putfield 28, 3) := by decide +kernel
theorem dX2_next_43 : decode cX2_next 43 = .ok (.iconst 0, 1) := by decide +kernel
theorem dX2_next_44 : decode cX2_next 44 = .ok (.istore_n 2, 1) := by decide +kernel
theorem dX2_next_45 : decode cX2_next 45 = .ok (.iload_n 2, 1) := by decide +kernel
theorem dX2_next_46 : decode cX2_next 46 = .ok (.aload_n 0, 1) := by decide +kernel
theorem dX2_next_47 : decode cX2_next 47 = .ok (.getfield 28, 3) := by decide +kernel
theorem dX2_next_50 : decode cX2_next 50 = .ok (.if_icmp .ge 23, 3) := by decide +kernel
theorem dX2_next_53 : decode cX2_next 53 = .ok (.aload_n 0, 1) := by decide +kernel
theorem dX2_next_54 : decode cX2_next 54 = .ok (.getfield 24, 3) := by decide +kernel
theorem dX2_next_57 : decode cX2_next 57 = .ok (.iload_n 2, 1) := by decide +kernel
theorem dX2_next_58 : decode cX2_next 58 = .ok (.aload_n 0, 1) := by decide +kernel
theorem dX2_next_59 : decode cX2_next 59 = .ok (.getfield 24, 3) := by decide +kernel
theorem dX2_next_62 : decode cX2_next 62 = .ok (.iload_n 2, 1) := by decide +kernel
theorem dX2_next_63 : decode cX2_next 63 = .ok (.iconst 1, 1) := by decide +kernel
theorem dX2_next_64 : decode cX2_next 64 = .ok (.iadd, 1) := by decide +kernel
theorem dX2_next_65 : decode cX2_next 65 = .ok (.aaload, 1) := by decide +kernel
theorem dX2_next_66 : decode cX2_next 66 = .ok (.aastore, 1) := by decide +kernel
theorem dX2_next_67 : decode cX2_next 67 = .ok (.iinc 2 1, 3) := by decide +kernel
theorem dX2_next_70 : decode cX2_next 70 = .ok (.goto (-25), 3) := by decide +kernel
theorem dX2_next_73 : decode cX2_next 73 = .ok (.aload_n 0, 1) := by decide +kernel
theorem dX2_next_74 : decode cX2_next 74 = .ok (.getfield 24, 3) := by decide +kernel
theorem dX2_next_77 : decode cX2_next 77 = .ok (.aload_n 0, 1) := by decide +kernel
theorem dX2_next_78 : decode cX2_next 78 = .ok (.getfield 28, 3) := by decide +kernel
theorem dX2_next_81 : decode cX2_next 81 = .ok (.aload_n 0, 1) := by decide +kernel
theorem dX2_next_82 : decode cX2_next 82 = .ok (.getfield 32, 3) := by decide +kernel
theorem dX2_next_85 : decode cX2_next 85 = .ok (.aastore, 1) := by decide +kernel
theorem dX2_next_86 : decode cX2_next 86 = .ok (.aload_n 0, 1) := by decide +kernel
theorem dX2_next_87 : decode cX2_next 87 = .ok (.aload_n 1, 1) := by decide +kernel
theorem dX2_next_88 : decode cX2_next 88 = .ok (.putfield 32, 3) := by decide +kernel
theorem dX2_next_91 : decode cX2_next 91 = .ok (.aload_n 0, 1) := by decide +kernel
theorem dX2_next_92 : decode cX2_next 92 = .ok (.iconst 1, 1) := by decide +kernel
theorem dX2_next_93 : decode cX2_next 93 = .ok (.putfield 36, 3) := by decide +kernel
theorem dX2_next_96 : decode cX2_next 96 = .ok (.iconst 1, 1) := by decide +kernel
theorem dX2_next_97 : decode cX2_next 97 = .ok (.ireturn, 1) := by decide +kernel
theorem dX2_underWay_0 : decode cX2_underWay 0 = .ok (.aload_n 0, 1) := by decide +kernel
theorem dX2_underWay_1 : decode cX2_underWay 1 = .ok (.getfield 28, 3) := by decide +kernel
theorem dX2_underWay_4 : decode cX2_underWay 4 = .ok (.ireturn, 1) := by decide +kernel
theorem dX2_net_0 : decode cX2_net 0 = .ok (.iload_n 1, 1) := by decide +kernel
theorem dX2_net_1 : decode cX2_net 1 = .ok (.bipush 100, 2) := by decide +kernel
theorem dX2_net_3 : decode cX2_net 3 = .ok (.if_icmp .lt 10, 3) := by decide +kernel
theorem dX2_net_6 : decode cX2_net 6 = .ok (.iload_n 1, 1) := by decide +kernel
theorem dX2_net_7 : decode cX2_net 7 = .ok (.sipush 1500, 3) := by decide +kernel
theorem dX2_net_10 : decode cX2_net 10 = .ok (.if_icmp .le 13, 3) := by decide +kernel
theorem dX2_net_13 : decode cX2_net 13 = .ok (.new 54, 3) := by decide +kernel
theorem dX2_net_16 : decode cX2_net 16 = .ok (.dup, 1) := by decide +kernel
theorem dX2_net_17 : decode cX2_net 17 = .ok (.ldc 56, 2) := by decide +kernel
theorem dX2_net_19 : decode cX2_net 19 = .ok (.invokespecial 58, 3) := by decide +kernel
theorem dX2_net_22 : decode cX2_net 22 = .ok (.athrow, 1) := by decide +kernel
theorem dX2_net_23 : decode cX2_net 23 = .ok (.iload_n 2, 1) := by decide +kernel
theorem dX2_net_24 : decode cX2_net 24 = .ok (.iconst 1, 1) := by decide +kernel
theorem dX2_net_25 : decode cX2_net 25 = .ok (.if_icmp .lt 9, 3) := by decide +kernel
theorem dX2_net_28 : decode cX2_net 28 = .ok (.iload_n 2, 1) := by decide +kernel
theorem dX2_net_29 : decode cX2_net 29 = .ok (.bipush 50, 2) := by decide +kernel
theorem dX2_net_31 : decode cX2_net 31 = .ok (.if_icmp .le 13, 3) := by decide +kernel
theorem dX2_net_34 : decode cX2_net 34 = .ok (.new 54, 3) := by decide +kernel
theorem dX2_net_37 : decode cX2_net 37 = .ok (.dup, 1) := by decide +kernel
theorem dX2_net_38 : decode cX2_net 38 = .ok (.ldc 61, 2) := by decide +kernel
theorem dX2_net_40 : decode cX2_net 40 = .ok (.invokespecial 58, 3) := by decide +kernel
theorem dX2_net_43 : decode cX2_net 43 = .ok (.athrow, 1) := by decide +kernel
theorem dX2_net_44 : decode cX2_net 44 = .ok (.aload_n 0, 1) := by decide +kernel
theorem dX2_net_45 : decode cX2_net 45 = .ok (.getfield 15, 3) := by decide +kernel
theorem dX2_net_48 : decode cX2_net 48 = .ok (.bipush 24, 2) := by decide +kernel
theorem dX2_net_50 : decode cX2_net 50 = .ok (.if_icmp .lt 13, 3) := by decide +kernel
theorem dX2_net_53 : decode cX2_net 53 = .ok (.new 63, 3) := by decide +kernel
theorem dX2_net_56 : decode cX2_net 56 = .ok (.dup, 1) := by decide +kernel
theorem dX2_net_57 : decode cX2_net 57 = .ok (.ldc 65, 2) := by decide +kernel
theorem dX2_net_59 : decode cX2_net 59 = .ok (.invokespecial 67, 3) := by decide +kernel
theorem dX2_net_62 : decode cX2_net 62 = .ok (.athrow, 1) := by decide +kernel
theorem dX2_net_63 : decode cX2_net 63 = .ok (.aload_n 0, 1) := by decide +kernel
theorem dX2_net_64 : decode cX2_net 64 = .ok (.getfield 11, 3) := by decide +kernel
theorem dX2_net_67 : decode cX2_net 67 = .ok (.aload_n 0, 1) := by decide +kernel
theorem dX2_net_68 : decode cX2_net 68 = .ok (.getfield 15, 3) := by decide +kernel
theorem dX2_net_71 : decode cX2_net 71 = .ok (.aaload, 1) := by decide +kernel
theorem dX2_net_72 : decode cX2_net 72 = .ok (.iload_n 1, 1) := by decide +kernel
theorem dX2_net_73 : decode cX2_net 73 = .ok (.iload_n 2, 1) := by decide +kernel
theorem dX2_net_74 : decode cX2_net 74 = .ok (.invokevirtual 68, 3) := by decide +kernel
theorem dX2_net_77 : decode cX2_net 77 = .ok (.aload_n 0, 1) := by decide +kernel
theorem dX2_net_78 : decode cX2_net 78 = .ok (.dup, 1) := by decide +kernel
theorem dX2_net_79 : decode cX2_net 79 = .ok (.getfield 15, 3) := by decide +kernel
theorem dX2_net_82 : decode cX2_net 82 = .ok (.iconst 1, 1) := by decide +kernel
theorem dX2_net_83 : decode cX2_net 83 = .ok (.iadd, 1) := by decide +kernel
theorem dX2_net_84 : decode cX2_net 84 = .ok (.putfield 15, 3) := by decide +kernel
theorem dX2_net_87 : decode cX2_net 87 = .ok (.aload_n 0, 1) := by decide +kernel
theorem dX2_net_88 : decode cX2_net 88 = .ok (.getfield 15, 3) := by decide +kernel
theorem dX2_net_91 : decode cX2_net 91 = .ok (.iconst 1, 1) := by decide +kernel
theorem dX2_net_92 : decode cX2_net 92 = .ok (.isub, 1) := by decide +kernel
theorem dX2_net_93 : decode cX2_net 93 = .ok (.ireturn, 1) := by decide +kernel
theorem dX1_open_0 : decode cX1_open 0 = .ok (.aload_n 0, 1) := by decide +kernel
theorem dX1_open_1 : decode cX1_open 1 = .ok (.iload_n 1, 1) := by decide +kernel
theorem dX1_open_2 : decode cX1_open 2 = .ok (.putfield 9, 3) := by decide +kernel
theorem dX1_open_5 : decode cX1_open 5 = .ok (.aload_n 0, 1) := by decide +kernel
theorem dX1_open_6 : decode cX1_open 6 = .ok (.iload_n 2, 1) := by decide +kernel
theorem dX1_open_7 : decode cX1_open 7 = .ok (.putfield 15, 3) := by decide +kernel
theorem dX1_open_10 : decode cX1_open 10 = .ok (.aload_n 0, 1) := by decide +kernel
theorem dX1_open_11 : decode cX1_open 11 = .ok (.iconst 1, 1) := by decide +kernel
theorem dX1_open_12 : decode cX1_open 12 = .ok (.putfield 18, 3) := by decide +kernel
theorem dX1_open_15 : decode cX1_open 15 = .ok (.return_, 1) := by decide +kernel
theorem dX2_link_0 : decode cX2_link 0 = .ok (.aload_n 0, 1) := by decide +kernel
theorem dX2_link_1 : decode cX2_link 1 = .ok (.iload_n 1, 1) := by decide +kernel
theorem dX2_link_2 : decode cX2_link 2 = .ok (.invokevirtual 72, 3) := by decide +kernel
theorem dX2_link_5 : decode cX2_link 5 = .ok (.iload_n 2, 1) := by decide +kernel
theorem dX2_link_6 : decode cX2_link 6 = .ok (.putfield 76, 3) := by decide +kernel
theorem dX2_link_9 : decode cX2_link 9 = .ok (.iload_n 2, 1) := by decide +kernel
theorem dX2_link_10 : decode cX2_link 10 = .ok (.ifCond .eq 7, 3) := by decide +kernel
theorem dX2_link_13 : decode cX2_link 13 = .ok (.iconst 0, 1) := by decide +kernel
theorem dX2_link_14 : decode cX2_link 14 = .ok (.goto 8, 3) := by decide +kernel
theorem dX2_link_17 : decode cX2_link 17 = .ok (.aload_n 0, 1) := by decide +kernel
theorem dX2_link_18 : decode cX2_link 18 = .ok (.iload_n 1, 1) := by decide +kernel
theorem dX2_link_19 : decode cX2_link 19 = .ok (.invokevirtual 79, 3) := by decide +kernel
theorem dX2_link_22 : decode cX2_link 22 = .ok (.ireturn, 1) := by decide +kernel
theorem dX2_netNumbered_0 : decode cX2_netNumbered 0 = .ok (.iload_n 1, 1) := by decide +kernel
theorem dX2_netNumbered_1 : decode cX2_netNumbered 1 = .ok (.ifCond .lt 11, 3) := by decide +kernel
theorem dX2_netNumbered_4 : decode cX2_netNumbered 4 = .ok (.iload_n 1, 1) := by decide +kernel
theorem dX2_netNumbered_5 : decode cX2_netNumbered 5 = .ok (.aload_n 0, 1) := by decide +kernel
theorem dX2_netNumbered_6 : decode cX2_netNumbered 6 = .ok (.getfield 15, 3) := by decide +kernel
theorem dX2_netNumbered_9 : decode cX2_netNumbered 9 = .ok (.if_icmp .lt 13, 3) := by decide +kernel
theorem dX2_netNumbered_12 : decode cX2_netNumbered 12 = .ok (.new 54, 3) := by decide +kernel
theorem dX2_netNumbered_15 : decode cX2_netNumbered 15 = .ok (.dup, 1) := by decide +kernel
theorem dX2_netNumbered_16 : decode cX2_netNumbered 16 = .ok (.ldc 163, 2) := by decide +kernel
theorem dX2_netNumbered_18 : decode cX2_netNumbered 18 = .ok (.invokespecial 58, 3) := by decide +kernel
theorem dX2_netNumbered_21 : decode cX2_netNumbered 21 = .ok (.athrow, 1) := by decide +kernel
theorem dX2_netNumbered_22 : decode cX2_netNumbered 22 = .ok (.aload_n 0, 1) := by decide +kernel
theorem dX2_netNumbered_23 : decode cX2_netNumbered 23 = .ok (.getfield 11, 3) := by decide +kernel
theorem dX2_netNumbered_26 : decode cX2_netNumbered 26 = .ok (.iload_n 1, 1) := by decide +kernel
theorem dX2_netNumbered_27 : decode cX2_netNumbered 27 = .ok (.aaload, 1) := by decide +kernel
theorem dX2_netNumbered_28 : decode cX2_netNumbered 28 = .ok (.areturn, 1) := by decide +kernel
theorem dX2_loseArrivalsOf_0 : decode cX2_loseArrivalsOf 0 = .ok (.iconst 0, 1) := by decide +kernel
theorem dX2_loseArrivalsOf_1 : decode cX2_loseArrivalsOf 1 = .ok (.istore_n 2, 1) := by decide +kernel
theorem dX2_loseArrivalsOf_2 : decode cX2_loseArrivalsOf 2 = .ok (.iconst 0, 1) := by decide +kernel
theorem dX2_loseArrivalsOf_3 : decode cX2_loseArrivalsOf 3 = .ok (.istore_n 3, 1) := by decide +kernel
theorem dX2_loseArrivalsOf_4 : decode cX2_loseArrivalsOf 4 = .ok (.iload_n 3, 1) := by decide +kernel
theorem dX2_loseArrivalsOf_5 : decode cX2_loseArrivalsOf 5 = .ok (.aload_n 0, 1) := by decide +kernel
theorem dX2_loseArrivalsOf_6 : decode cX2_loseArrivalsOf 6 = .ok (.getfield 28, 3) := by decide +kernel
theorem dX2_loseArrivalsOf_9 : decode cX2_loseArrivalsOf 9 = .ok (.if_icmp .ge 49, 3) := by decide +kernel
theorem dX2_loseArrivalsOf_12 : decode cX2_loseArrivalsOf 12 = .ok (.aload_n 0, 1) := by decide +kernel
theorem dX2_loseArrivalsOf_13 : decode cX2_loseArrivalsOf 13 = .ok (.getfield 24, 3) := by decide +kernel
theorem dX2_loseArrivalsOf_16 : decode cX2_loseArrivalsOf 16 = .ok (.iload_n 3, 1) := by decide +kernel
theorem dX2_loseArrivalsOf_17 : decode cX2_loseArrivalsOf 17 = .ok (.aaload, 1) := by decide +kernel
theorem dX2_loseArrivalsOf_18 : decode cX2_loseArrivalsOf 18 = .ok (.astore 4, 2) := by decide +kernel
theorem dX2_loseArrivalsOf_20 : decode cX2_loseArrivalsOf 20 = .ok (.aload 4, 2) := by decide +kernel
theorem dX2_loseArrivalsOf_22 : decode cX2_loseArrivalsOf 22 = .ok (.getfield 111, 3) := by decide +kernel
theorem dX2_loseArrivalsOf_25 : decode cX2_loseArrivalsOf 25 = .ok (.iload_n 1, 1) := by decide +kernel
theorem dX2_loseArrivalsOf_26 : decode cX2_loseArrivalsOf 26 = .ok (.if_icmp .eq 26, 3) := by decide +kernel
theorem dX2_loseArrivalsOf_29 : decode cX2_loseArrivalsOf 29 = .ok (.aload_n 0, 1) := by decide +kernel
theorem dX2_loseArrivalsOf_30 : decode cX2_loseArrivalsOf 30 = .ok (.getfield 24, 3) := by decide +kernel
theorem dX2_loseArrivalsOf_33 : decode cX2_loseArrivalsOf 33 = .ok (.iload_n 3, 1) := by decide +kernel
theorem dX2_loseArrivalsOf_34 : decode cX2_loseArrivalsOf 34 = .ok (.aload_n 0, 1) := by decide +kernel
theorem dX2_loseArrivalsOf_35 : decode cX2_loseArrivalsOf 35 = .ok (.getfield 24, 3) := by decide +kernel
theorem dX2_loseArrivalsOf_38 : decode cX2_loseArrivalsOf 38 = .ok (.iload_n 2, 1) := by decide +kernel
theorem dX2_loseArrivalsOf_39 : decode cX2_loseArrivalsOf 39 = .ok (.aaload, 1) := by decide +kernel
theorem dX2_loseArrivalsOf_40 : decode cX2_loseArrivalsOf 40 = .ok (.aastore, 1) := by decide +kernel
theorem dX2_loseArrivalsOf_41 : decode cX2_loseArrivalsOf 41 = .ok (.aload_n 0, 1) := by decide +kernel
theorem dX2_loseArrivalsOf_42 : decode cX2_loseArrivalsOf 42 = .ok (.getfield 24, 3) := by decide +kernel
theorem dX2_loseArrivalsOf_45 : decode cX2_loseArrivalsOf 45 = .ok (.iload_n 2, 1) := by decide +kernel
theorem dX2_loseArrivalsOf_46 : decode cX2_loseArrivalsOf 46 = .ok (.aload 4, 2) := by decide +kernel
theorem dX2_loseArrivalsOf_48 : decode cX2_loseArrivalsOf 48 = .ok (.aastore, 1) := by decide +kernel
theorem dX2_loseArrivalsOf_49 : decode cX2_loseArrivalsOf 49 = .ok (.iinc 2 1, 3) := by decide +kernel
theorem dX2_loseArrivalsOf_52 : decode cX2_loseArrivalsOf 52 = .ok (.iinc 3 1, 3) := by decide +kernel
theorem dX2_loseArrivalsOf_55 : decode cX2_loseArrivalsOf 55 = .ok (.goto (-51), 3) := by decide +kernel
theorem dX2_loseArrivalsOf_58 : decode cX2_loseArrivalsOf 58 = .ok (.aload_n 0, 1) := by decide +kernel
theorem dX2_loseArrivalsOf_59 : decode cX2_loseArrivalsOf 59 = .ok (.getfield 28, 3) := by decide +kernel
theorem dX2_loseArrivalsOf_62 : decode cX2_loseArrivalsOf 62 = .ok (.iload_n 2, 1) := by decide +kernel
theorem dX2_loseArrivalsOf_63 : decode cX2_loseArrivalsOf 63 = .ok (.isub, 1) := by decide +kernel
theorem dX2_loseArrivalsOf_64 : decode cX2_loseArrivalsOf 64 = .ok (.istore_n 3, 1) := by decide +kernel
theorem dX2_loseArrivalsOf_65 : decode cX2_loseArrivalsOf 65 = .ok (.aload_n 0, 1) := by decide +kernel
theorem dX2_loseArrivalsOf_66 : decode cX2_loseArrivalsOf 66 = .ok (.iload_n 2, 1) := by decide +kernel
theorem dX2_loseArrivalsOf_67 : decode cX2_loseArrivalsOf 67 = .ok (.putfield 28, 3) := by decide +kernel
theorem dX2_loseArrivalsOf_70 : decode cX2_loseArrivalsOf 70 = .ok (.iload_n 3, 1) := by decide +kernel
theorem dX2_loseArrivalsOf_71 : decode cX2_loseArrivalsOf 71 = .ok (.ireturn, 1) := by decide +kernel
theorem dX2_fates_0 : decode cX2_fates 0 = .ok (.aload_n 0, 1) := by decide +kernel
theorem dX2_fates_1 : decode cX2_fates 1 = .ok (.iload_n 1, 1) := by decide +kernel
theorem dX2_fates_2 : decode cX2_fates 2 = .ok (.invokevirtual 72, 3) := by decide +kernel
theorem dX2_fates_5 : decode cX2_fates 5 = .ok (.astore 5, 2) := by decide +kernel
theorem dX2_fates_7 : decode cX2_fates 7 = .ok (.iload 4, 2) := by decide +kernel
theorem dX2_fates_9 : decode cX2_fates 9 = .ok (.iconst 1, 1) := by decide +kernel
theorem dX2_fates_10 : decode cX2_fates 10 = .ok (.if_icmp .lt 10, 3) := by decide +kernel
theorem dX2_fates_13 : decode cX2_fates 13 = .ok (.iload 4, 2) := by decide +kernel
theorem dX2_fates_15 : decode cX2_fates 15 = .ok (.bipush 32, 2) := by decide +kernel
theorem dX2_fates_17 : decode cX2_fates 17 = .ok (.if_icmp .le 13, 3) := by decide +kernel
theorem dX2_fates_20 : decode cX2_fates 20 = .ok (.new 54, 3) := by decide +kernel
theorem dX2_fates_23 : decode cX2_fates 23 = .ok (.dup, 1) := by decide +kernel
theorem dX2_fates_24 : decode cX2_fates 24 = .ok (.ldc 83, 2) := by decide +kernel
theorem dX2_fates_26 : decode cX2_fates 26 = .ok (.invokespecial 58, 3) := by decide +kernel
theorem dX2_fates_29 : decode cX2_fates 29 = .ok (.athrow, 1) := by decide +kernel
theorem dX2_fates_30 : decode cX2_fates 30 = .ok (.aload 5, 2) := by decide +kernel
theorem dX2_fates_32 : decode cX2_fates 32 = .ok (.getfield 85, 3) := by decide +kernel
theorem dX2_fates_35 : decode cX2_fates 35 = .ok (.iload 4, 2) := by decide +kernel
theorem dX2_fates_37 : decode cX2_fates 37 = .ok (.iadd, 1) := by decide +kernel
theorem dX2_fates_38 : decode cX2_fates 38 = .ok (.bipush 64, 2) := by decide +kernel
theorem dX2_fates_40 : decode cX2_fates 40 = .ok (.if_icmp .le 13, 3) := by decide +kernel
theorem dX2_fates_43 : decode cX2_fates 43 = .ok (.new 63, 3) := by decide +kernel
theorem dX2_fates_46 : decode cX2_fates 46 = .ok (.dup, 1) := by decide +kernel
theorem dX2_fates_47 : decode cX2_fates 47 = .ok (.ldc 88, 2) := by decide +kernel
theorem dX2_fates_49 : decode cX2_fates 49 = .ok (.invokespecial 67, 3) := by decide +kernel
theorem dX2_fates_52 : decode cX2_fates 52 = .ok (.athrow, 1) := by decide +kernel
theorem dX2_fates_53 : decode cX2_fates 53 = .ok (.iconst 0, 1) := by decide +kernel
theorem dX2_fates_54 : decode cX2_fates 54 = .ok (.istore 6, 2) := by decide +kernel
theorem dX2_fates_56 : decode cX2_fates 56 = .ok (.iload 6, 2) := by decide +kernel
theorem dX2_fates_58 : decode cX2_fates 58 = .ok (.iload 4, 2) := by decide +kernel
theorem dX2_fates_60 : decode cX2_fates 60 = .ok (.if_icmp .ge 23, 3) := by decide +kernel
theorem dX2_fates_63 : decode cX2_fates 63 = .ok (.aload 5, 2) := by decide +kernel
theorem dX2_fates_65 : decode cX2_fates 65 = .ok (.lload_n 2, 1) := by decide +kernel
theorem dX2_fates_66 : decode cX2_fates 66 = .ok (.iconst 2, 1) := by decide +kernel
theorem dX2_fates_67 : decode cX2_fates 67 = .ok (.iload 6, 2) := by decide +kernel
theorem dX2_fates_69 : decode cX2_fates 69 = .ok (.imul, 1) := by decide +kernel
theorem dX2_fates_70 : decode cX2_fates 70 = .ok (.lushr, 1) := by decide +kernel
theorem dX2_fates_71 : decode cX2_fates 71 = .ok (.l2i, 1) := by decide +kernel
theorem dX2_fates_72 : decode cX2_fates 72 = .ok (.iconst 3, 1) := by decide +kernel
theorem dX2_fates_73 : decode cX2_fates 73 = .ok (.iand, 1) := by decide +kernel
theorem dX2_fates_74 : decode cX2_fates 74 = .ok (.invokevirtual 90, 3) := by decide +kernel
theorem dX2_fates_77 : decode cX2_fates 77 = .ok (.iinc 6 1, 3) := by decide +kernel
theorem dX2_fates_80 : decode cX2_fates 80 = .ok (.goto (-24), 3) := by decide +kernel
theorem dX2_fates_83 : decode cX2_fates 83 = .ok (.aload 5, 2) := by decide +kernel
theorem dX2_fates_85 : decode cX2_fates 85 = .ok (.getfield 85, 3) := by decide +kernel
theorem dX2_fates_88 : decode cX2_fates 88 = .ok (.ireturn, 1) := by decide +kernel
theorem dX1_addFate_0 : decode cX1_addFate 0 = .ok (.aload_n 0, 1) := by decide +kernel
theorem dX1_addFate_1 : decode cX1_addFate 1 = .ok (.getfield 25, 3) := by decide +kernel
theorem dX1_addFate_4 : decode cX1_addFate 4 = .ok (.aload_n 0, 1) := by decide +kernel
theorem dX1_addFate_5 : decode cX1_addFate 5 = .ok (.getfield 29, 3) := by decide +kernel
theorem dX1_addFate_8 : decode cX1_addFate 8 = .ok (.aload_n 0, 1) := by decide +kernel
theorem dX1_addFate_9 : decode cX1_addFate 9 = .ok (.getfield 32, 3) := by decide +kernel
theorem dX1_addFate_12 : decode cX1_addFate 12 = .ok (.iadd, 1) := by decide +kernel
theorem dX1_addFate_13 : decode cX1_addFate 13 = .ok (.bipush 63, 2) := by decide +kernel
theorem dX1_addFate_15 : decode cX1_addFate 15 = .ok (.iand, 1) := by decide +kernel
theorem dX1_addFate_16 : decode cX1_addFate 16 = .ok (.iload_n 1, 1) := by decide +kernel
theorem dX1_addFate_17 : decode cX1_addFate 17 = .ok (.i2b, 1) := by decide +kernel
theorem dX1_addFate_18 : decode cX1_addFate 18 = .ok (.bastore, 1) := by decide +kernel
theorem dX1_addFate_19 : decode cX1_addFate 19 = .ok (.aload_n 0, 1) := by decide +kernel
theorem dX1_addFate_20 : decode cX1_addFate 20 = .ok (.dup, 1) := by decide +kernel
theorem dX1_addFate_21 : decode cX1_addFate 21 = .ok (.getfield 32, 3) := by decide +kernel
theorem dX1_addFate_24 : decode cX1_addFate 24 = .ok (.iconst 1, 1) := by decide +kernel
theorem dX1_addFate_25 : decode cX1_addFate 25 = .ok (.iadd, 1) := by decide +kernel
theorem dX1_addFate_26 : decode cX1_addFate 26 = .ok (.putfield 32, 3) := by decide +kernel
theorem dX1_addFate_29 : decode cX1_addFate 29 = .ok (.return_, 1) := by decide +kernel
theorem dX2_feed_0 : decode cX2_feed 0 = .ok (.iload_n 3, 1) := by decide +kernel
theorem dX2_feed_1 : decode cX2_feed 1 = .ok (.iconst 1, 1) := by decide +kernel
theorem dX2_feed_2 : decode cX2_feed 2 = .ok (.if_icmp .lt 9, 3) := by decide +kernel
theorem dX2_feed_5 : decode cX2_feed 5 = .ok (.iload_n 3, 1) := by decide +kernel
theorem dX2_feed_6 : decode cX2_feed 6 = .ok (.bipush 8, 2) := by decide +kernel
theorem dX2_feed_8 : decode cX2_feed 8 = .ok (.if_icmp .le 13, 3) := by decide +kernel
theorem dX2_feed_11 : decode cX2_feed 11 = .ok (.new 54, 3) := by decide +kernel
theorem dX2_feed_14 : decode cX2_feed 14 = .ok (.dup, 1) := by decide +kernel
theorem dX2_feed_15 : decode cX2_feed 15 = .ok (.ldc 94, 2) := by decide +kernel
theorem dX2_feed_17 : decode cX2_feed 17 = .ok (.invokespecial 58, 3) := by decide +kernel
theorem dX2_feed_20 : decode cX2_feed 20 = .ok (.athrow, 1) := by decide +kernel
theorem dX2_feed_21 : decode cX2_feed 21 = .ok (.aload_n 0, 1) := by decide +kernel
theorem dX2_feed_22 : decode cX2_feed 22 = .ok (.getfield 50, 3) := by decide +kernel
theorem dX2_feed_25 : decode cX2_feed 25 = .ok (.iload_n 3, 1) := by decide +kernel
theorem dX2_feed_26 : decode cX2_feed 26 = .ok (.iadd, 1) := by decide +kernel
theorem dX2_feed_27 : decode cX2_feed 27 = .ok (.sipush 1480, 3) := by decide +kernel
theorem dX2_feed_30 : decode cX2_feed 30 = .ok (.if_icmp .le 13, 3) := by decide +kernel
theorem dX2_feed_33 : decode cX2_feed 33 = .ok (.new 63, 3) := by decide +kernel
theorem dX2_feed_36 : decode cX2_feed 36 = .ok (.dup, 1) := by decide +kernel
theorem dX2_feed_37 : decode cX2_feed 37 = .ok (.ldc 96, 2) := by decide +kernel
theorem dX2_feed_39 : decode cX2_feed 39 = .ok (.invokespecial 67, 3) := by decide +kernel
theorem dX2_feed_42 : decode cX2_feed 42 = .ok (.athrow, 1) := by decide +kernel
theorem dX2_feed_43 : decode cX2_feed 43 = .ok (.iload_n 3, 1) := by decide +kernel
theorem dX2_feed_44 : decode cX2_feed 44 = .ok (.iconst 1, 1) := by decide +kernel
theorem dX2_feed_45 : decode cX2_feed 45 = .ok (.isub, 1) := by decide +kernel
theorem dX2_feed_46 : decode cX2_feed 46 = .ok (.istore 4, 2) := by decide +kernel
theorem dX2_feed_48 : decode cX2_feed 48 = .ok (.iload 4, 2) := by decide +kernel
theorem dX2_feed_50 : decode cX2_feed 50 = .ok (.ifCond .lt 45, 3) := by decide +kernel
theorem dX2_feed_53 : decode cX2_feed 53 = .ok (.aload_n 0, 1) := by decide +kernel
theorem dX2_feed_54 : decode cX2_feed 54 = .ok (.getfield 43, 3) := by decide +kernel
theorem dX2_feed_57 : decode cX2_feed 57 = .ok (.aload_n 0, 1) := by decide +kernel
theorem dX2_feed_58 : decode cX2_feed 58 = .ok (.getfield 47, 3) := by decide +kernel
theorem dX2_feed_61 : decode cX2_feed 61 = .ok (.aload_n 0, 1) := by decide +kernel
theorem dX2_feed_62 : decode cX2_feed 62 = .ok (.getfield 50, 3) := by decide +kernel
theorem dX2_feed_65 : decode cX2_feed 65 = .ok (.iadd, 1) := by decide +kernel
theorem dX2_feed_66 : decode cX2_feed 66 = .ok (.invokestatic 98, 3) := by decide +kernel
theorem dX2_feed_69 : decode cX2_feed 69 = .ok (.lload_n 1, 1) := by decide +kernel
theorem dX2_feed_70 : decode cX2_feed 70 = .ok (.bipush 8, 2) := by decide +kernel
theorem dX2_feed_72 : decode cX2_feed 72 = .ok (.iload 4, 2) := by decide +kernel
theorem dX2_feed_74 : decode cX2_feed 74 = .ok (.imul, 1) := by decide +kernel
theorem dX2_feed_75 : decode cX2_feed 75 = .ok (.lushr, 1) := by decide +kernel
theorem dX2_feed_76 : decode cX2_feed 76 = .ok (.l2i, 1) := by decide +kernel
theorem dX2_feed_77 : decode cX2_feed 77 = .ok (.i2b, 1) := by decide +kernel
theorem dX2_feed_78 : decode cX2_feed 78 = .ok (.bastore, 1) := by decide +kernel
theorem dX2_feed_79 : decode cX2_feed 79 = .ok (.aload_n 0, 1) := by decide +kernel
theorem dX2_feed_80 : decode cX2_feed 80 = .ok (.dup, 1) := by decide +kernel
theorem dX2_feed_81 : decode cX2_feed 81 = .ok (.getfield 50, 3) := by decide +kernel
theorem dX2_feed_84 : decode cX2_feed 84 = .ok (.iconst 1, 1) := by decide +kernel
theorem dX2_feed_85 : decode cX2_feed 85 = .ok (.iadd, 1) := by decide +kernel
theorem dX2_feed_86 : decode cX2_feed 86 = .ok (.putfield 50, 3) := by decide +kernel
theorem dX2_feed_89 : decode cX2_feed 89 = .ok (.iinc 4 (-1), 3) := by decide +kernel
theorem dX2_feed_92 : decode cX2_feed 92 = .ok (.goto (-44), 3) := by decide +kernel
theorem dX2_feed_95 : decode cX2_feed 95 = .ok (.aload_n 0, 1) := by decide +kernel
theorem dX2_feed_96 : decode cX2_feed 96 = .ok (.getfield 50, 3) := by decide +kernel
theorem dX2_feed_99 : decode cX2_feed 99 = .ok (.ireturn, 1) := by decide +kernel
theorem dX2_ringPlace_0 : decode cX2_ringPlace 0 = .ok (.iload_n 0, 1) := by decide +kernel
theorem dX2_ringPlace_1 : decode cX2_ringPlace 1 = .ok (.sipush 4095, 3) := by decide +kernel
theorem dX2_ringPlace_4 : decode cX2_ringPlace 4 = .ok (.iand, 1) := by decide +kernel
theorem dX2_ringPlace_5 : decode cX2_ringPlace 5 = .ok (.ireturn, 1) := by decide +kernel
theorem dX2_put_0 : decode cX2_put 0 = .ok (.aload_n 0, 1) := by decide +kernel
theorem dX2_put_1 : decode cX2_put 1 = .ok (.iload_n 1, 1) := by decide +kernel
theorem dX2_put_2 : decode cX2_put 2 = .ok (.invokevirtual 72, 3) := by decide +kernel
theorem dX2_put_5 : decode cX2_put 5 = .ok (.astore 5, 2) := by decide +kernel
theorem dX2_put_7 : decode cX2_put 7 = .ok (.iload_n 2, 1) := by decide +kernel
theorem dX2_put_8 : decode cX2_put 8 = .ok (.invokestatic 101, 3) := by decide +kernel
theorem dX2_put_11 : decode cX2_put 11 = .ok (.ifCond .ne 13, 3) := by decide +kernel
theorem dX2_put_14 : decode cX2_put 14 = .ok (.new 54, 3) := by decide +kernel
theorem dX2_put_17 : decode cX2_put 17 = .ok (.dup, 1) := by decide +kernel
theorem dX2_put_18 : decode cX2_put 18 = .ok (.ldc 105, 2) := by decide +kernel
theorem dX2_put_20 : decode cX2_put 20 = .ok (.invokespecial 58, 3) := by decide +kernel
theorem dX2_put_23 : decode cX2_put 23 = .ok (.athrow, 1) := by decide +kernel
theorem dX2_put_24 : decode cX2_put 24 = .ok (.iload_n 3, 1) := by decide +kernel
theorem dX2_put_25 : decode cX2_put 25 = .ok (.iconst (-1), 1) := by decide +kernel
theorem dX2_put_26 : decode cX2_put 26 = .ok (.if_icmp .eq 20, 3) := by decide +kernel
theorem dX2_put_29 : decode cX2_put 29 = .ok (.iload_n 3, 1) := by decide +kernel
theorem dX2_put_30 : decode cX2_put 30 = .ok (.invokestatic 101, 3) := by decide +kernel
theorem dX2_put_33 : decode cX2_put 33 = .ok (.ifCond .ne 13, 3) := by decide +kernel
theorem dX2_put_36 : decode cX2_put 36 = .ok (.new 54, 3) := by decide +kernel
theorem dX2_put_39 : decode cX2_put 39 = .ok (.dup, 1) := by decide +kernel
theorem dX2_put_40 : decode cX2_put 40 = .ok (.ldc 107, 2) := by decide +kernel
theorem dX2_put_42 : decode cX2_put 42 = .ok (.invokespecial 58, 3) := by decide +kernel
theorem dX2_put_45 : decode cX2_put 45 = .ok (.athrow, 1) := by decide +kernel
theorem dX2_put_46 : decode cX2_put 46 = .ok (.iload_n 3, 1) := by decide +kernel
theorem dX2_put_47 : decode cX2_put 47 = .ok (.iload_n 2, 1) := by decide +kernel
theorem dX2_put_48 : decode cX2_put 48 = .ok (.if_icmp .ne 13, 3) := by decide +kernel
theorem dX2_put_51 : decode cX2_put 51 = .ok (.new 54, 3) := by decide +kernel
theorem dX2_put_54 : decode cX2_put 54 = .ok (.dup, 1) := by decide +kernel
theorem dX2_put_55 : decode cX2_put 55 = .ok (.ldc 109, 2) := by decide +kernel
theorem dX2_put_57 : decode cX2_put 57 = .ok (.invokespecial 58, 3) := by decide +kernel
theorem dX2_put_60 : decode cX2_put 60 = .ok (.athrow, 1) := by decide +kernel
theorem dX2_put_61 : decode cX2_put 61 = .ok (.aload_n 0, 1) := by decide +kernel
theorem dX2_put_62 : decode cX2_put 62 = .ok (.getfield 40, 3) := by decide +kernel
theorem dX2_put_65 : decode cX2_put 65 = .ok (.iload_n 1, 1) := by decide +kernel
theorem dX2_put_66 : decode cX2_put 66 = .ok (.putfield 111, 3) := by decide +kernel
theorem dX2_put_69 : decode cX2_put 69 = .ok (.aload_n 0, 1) := by decide +kernel
theorem dX2_put_70 : decode cX2_put 70 = .ok (.getfield 40, 3) := by decide +kernel
theorem dX2_put_73 : decode cX2_put 73 = .ok (.iload_n 2, 1) := by decide +kernel
theorem dX2_put_74 : decode cX2_put 74 = .ok (.putfield 114, 3) := by decide +kernel
theorem dX2_put_77 : decode cX2_put 77 = .ok (.aload_n 0, 1) := by decide +kernel
theorem dX2_put_78 : decode cX2_put 78 = .ok (.getfield 40, 3) := by decide +kernel
theorem dX2_put_81 : decode cX2_put 81 = .ok (.iload_n 3, 1) := by decide +kernel
theorem dX2_put_82 : decode cX2_put 82 = .ok (.putfield 117, 3) := by decide +kernel
theorem dX2_put_85 : decode cX2_put 85 = .ok (.aload_n 0, 1) := by decide +kernel
theorem dX2_put_86 : decode cX2_put 86 = .ok (.getfield 40, 3) := by decide +kernel
theorem dX2_put_89 : decode cX2_put 89 = .ok (.iload 4, 2) := by decide +kernel
theorem dX2_put_91 : decode cX2_put 91 = .ok (.putfield 120, 3) := by decide +kernel
theorem dX2_put_94 : decode cX2_put 94 = .ok (.aload_n 0, 1) := by decide +kernel
theorem dX2_put_95 : decode cX2_put 95 = .ok (.getfield 40, 3) := by decide +kernel
theorem dX2_put_98 : decode cX2_put 98 = .ok (.aload_n 0, 1) := by decide +kernel
theorem dX2_put_99 : decode cX2_put 99 = .ok (.getfield 50, 3) := by decide +kernel
theorem dX2_put_102 : decode cX2_put 102 = .ok (.putfield 123, 3) := by decide +kernel
theorem dX2_put_105 : decode cX2_put 105 = .ok (.aload_n 0, 1) := by decide +kernel
theorem dX2_put_106 : decode cX2_put 106 = .ok (.aload 5, 2) := by decide +kernel
theorem dX2_put_108 : decode cX2_put 108 = .ok (.invokevirtual 126, 3) := by decide +kernel
theorem dX2_put_111 : decode cX2_put 111 = .ok (.istore 6, 2) := by decide +kernel
theorem dX2_put_113 : decode cX2_put 113 = .ok (.aload_n 0, 1) := by decide +kernel
theorem dX2_put_114 : decode cX2_put 114 = .ok (.aload_n 0, 1) := by decide +kernel
theorem dX2_put_115 : decode cX2_put 115 = .ok (.getfield 47, 3) := by decide +kernel
theorem dX2_put_118 : decode cX2_put 118 = .ok (.aload_n 0, 1) := by decide +kernel
theorem dX2_put_119 : decode cX2_put 119 = .ok (.getfield 50, 3) := by decide +kernel
theorem dX2_put_122 : decode cX2_put 122 = .ok (.iadd, 1) := by decide +kernel
theorem dX2_put_123 : decode cX2_put 123 = .ok (.invokestatic 98, 3) := by decide +kernel
theorem dX2_put_126 : decode cX2_put 126 = .ok (.putfield 47, 3) := by decide +kernel
theorem dX2_put_129 : decode cX2_put 129 = .ok (.aload_n 0, 1) := by decide +kernel
theorem dX2_put_130 : decode cX2_put 130 = .ok (.iconst 0, 1) := by decide +kernel
theorem dX2_put_131 : decode cX2_put 131 = .ok (.putfield 50, 3) := by decide +kernel
theorem dX2_put_134 : decode cX2_put 134 = .ok (.iload 6, 2) := by decide +kernel
theorem dX2_put_136 : decode cX2_put 136 = .ok (.ireturn, 1) := by decide +kernel
theorem dX2_isStation_0 : decode cX2_isStation 0 = .ok (.iload_n 0, 1) := by decide +kernel
theorem dX2_isStation_1 : decode cX2_isStation 1 = .ok (.ifCond .lt 13, 3) := by decide +kernel
theorem dX2_isStation_4 : decode cX2_isStation 4 = .ok (.iload_n 0, 1) := by decide +kernel
theorem dX2_isStation_5 : decode cX2_isStation 5 = .ok (.bipush 8, 2) := by decide +kernel
theorem dX2_isStation_7 : decode cX2_isStation 7 = .ok (.if_icmp .ge 7, 3) := by decide +kernel
theorem dX2_isStation_10 : decode cX2_isStation 10 = .ok (.iconst 1, 1) := by decide +kernel
theorem dX2_isStation_11 : decode cX2_isStation 11 = .ok (.goto 4, 3) := by decide +kernel
theorem dX2_isStation_14 : decode cX2_isStation 14 = .ok (.iconst 0, 1) := by decide +kernel
theorem dX2_isStation_15 : decode cX2_isStation 15 = .ok (.ireturn, 1) := by decide +kernel
theorem dX2_sendPayload_0 : decode cX2_sendPayload 0 = .ok (.aload_n 0, 1) := by decide +kernel
theorem dX2_sendPayload_1 : decode cX2_sendPayload 1 = .ok (.getfield 50, 3) := by decide +kernel
theorem dX2_sendPayload_4 : decode cX2_sendPayload 4 = .ok (.istore_n 2, 1) := by decide +kernel
theorem dX2_sendPayload_5 : decode cX2_sendPayload 5 = .ok (.iload_n 2, 1) := by decide +kernel
theorem dX2_sendPayload_6 : decode cX2_sendPayload 6 = .ok (.bipush 20, 2) := by decide +kernel
theorem dX2_sendPayload_8 : decode cX2_sendPayload 8 = .ok (.iadd, 1) := by decide +kernel
theorem dX2_sendPayload_9 : decode cX2_sendPayload 9 = .ok (.aload_n 1, 1) := by decide +kernel
theorem dX2_sendPayload_10 : decode cX2_sendPayload 10 = .ok (.getfield 165, 3) := by decide +kernel
theorem dX2_sendPayload_13 : decode cX2_sendPayload 13 = .ok (.if_icmp .gt 12, 3) := by decide +kernel
theorem dX2_sendPayload_16 : decode cX2_sendPayload 16 = .ok (.aload_n 0, 1) := by decide +kernel
theorem dX2_sendPayload_17 : decode cX2_sendPayload 17 = .ok (.aload_n 1, 1) := by decide +kernel
theorem dX2_sendPayload_18 : decode cX2_sendPayload 18 = .ok (.iconst 0, 1) := by decide +kernel
theorem dX2_sendPayload_19 : decode cX2_sendPayload 19 = .ok (.iload_n 2, 1) := by decide +kernel
theorem dX2_sendPayload_20 : decode cX2_sendPayload 20 = .ok (.invokevirtual 168, 3) := by decide +kernel
theorem dX2_sendPayload_23 : decode cX2_sendPayload 23 = .ok (.iconst 0, 1) := by decide +kernel
theorem dX2_sendPayload_24 : decode cX2_sendPayload 24 = .ok (.ireturn, 1) := by decide +kernel
theorem dX2_sendPayload_25 : decode cX2_sendPayload 25 = .ok (.aload_n 1, 1) := by decide +kernel
theorem dX2_sendPayload_26 : decode cX2_sendPayload 26 = .ok (.invokevirtual 172, 3) := by decide +kernel
theorem dX2_sendPayload_29 : decode cX2_sendPayload 29 = .ok (.istore_n 3, 1) := by decide +kernel
theorem dX2_sendPayload_30 : decode cX2_sendPayload 30 = .ok (.iload_n 2, 1) := by decide +kernel
theorem dX2_sendPayload_31 : decode cX2_sendPayload 31 = .ok (.iload_n 3, 1) := by decide +kernel
theorem dX2_sendPayload_32 : decode cX2_sendPayload 32 = .ok (.invokestatic 175, 3) := by decide +kernel
theorem dX2_sendPayload_35 : decode cX2_sendPayload 35 = .ok (.istore 4, 2) := by decide +kernel
theorem dX2_sendPayload_37 : decode cX2_sendPayload 37 = .ok (.iconst 0, 1) := by decide +kernel
theorem dX2_sendPayload_38 : decode cX2_sendPayload 38 = .ok (.istore 5, 2) := by decide +kernel
theorem dX2_sendPayload_40 : decode cX2_sendPayload 40 = .ok (.iload 5, 2) := by decide +kernel
theorem dX2_sendPayload_42 : decode cX2_sendPayload 42 = .ok (.iload 4, 2) := by decide +kernel
theorem dX2_sendPayload_44 : decode cX2_sendPayload 44 = .ok (.if_icmp .ge 30, 3) := by decide +kernel
theorem dX2_sendPayload_47 : decode cX2_sendPayload 47 = .ok (.iload 5, 2) := by decide +kernel
theorem dX2_sendPayload_49 : decode cX2_sendPayload 49 = .ok (.iload_n 3, 1) := by decide +kernel
theorem dX2_sendPayload_50 : decode cX2_sendPayload 50 = .ok (.imul, 1) := by decide +kernel
theorem dX2_sendPayload_51 : decode cX2_sendPayload 51 = .ok (.istore 6, 2) := by decide +kernel
theorem dX2_sendPayload_53 : decode cX2_sendPayload 53 = .ok (.aload_n 0, 1) := by decide +kernel
theorem dX2_sendPayload_54 : decode cX2_sendPayload 54 = .ok (.aload_n 1, 1) := by decide +kernel
theorem dX2_sendPayload_55 : decode cX2_sendPayload 55 = .ok (.iload 6, 2) := by decide +kernel
theorem dX2_sendPayload_57 : decode cX2_sendPayload 57 = .ok (.iload_n 3, 1) := by decide +kernel
theorem dX2_sendPayload_58 : decode cX2_sendPayload 58 = .ok (.iload_n 2, 1) := by decide +kernel
theorem dX2_sendPayload_59 : decode cX2_sendPayload 59 = .ok (.iload 6, 2) := by decide +kernel
theorem dX2_sendPayload_61 : decode cX2_sendPayload 61 = .ok (.isub, 1) := by decide +kernel
theorem dX2_sendPayload_62 : decode cX2_sendPayload 62 = .ok (.invokestatic 179, 3) := by decide +kernel
theorem dX2_sendPayload_65 : decode cX2_sendPayload 65 = .ok (.invokevirtual 168, 3) := by decide +kernel
theorem dX2_sendPayload_68 : decode cX2_sendPayload 68 = .ok (.iinc 5 1, 3) := by decide +kernel
theorem dX2_sendPayload_71 : decode cX2_sendPayload 71 = .ok (.goto (-31), 3) := by decide +kernel
theorem dX2_sendPayload_74 : decode cX2_sendPayload 74 = .ok (.iload 4, 2) := by decide +kernel
theorem dX2_sendPayload_76 : decode cX2_sendPayload 76 = .ok (.ireturn, 1) := by decide +kernel
theorem dX2_sendPiece_0 : decode cX2_sendPiece 0 = .ok (.aload_n 1, 1) := by decide +kernel
theorem dX2_sendPiece_1 : decode cX2_sendPiece 1 = .ok (.dup, 1) := by decide +kernel
theorem dX2_sendPiece_2 : decode cX2_sendPiece 2 = .ok (.getfield 160, 3) := by decide +kernel
theorem dX2_sendPiece_5 : decode cX2_sendPiece 5 = .ok (.iconst 1, 1) := by decide +kernel
theorem dX2_sendPiece_6 : decode cX2_sendPiece 6 = .ok (.iadd, 1) := by decide +kernel
theorem dX2_sendPiece_7 : decode cX2_sendPiece 7 = .ok (.putfield 160, 3) := by decide +kernel
theorem dX2_sendPiece_10 : decode cX2_sendPiece 10 = .ok (.aload_n 1, 1) := by decide +kernel
theorem dX2_sendPiece_11 : decode cX2_sendPiece 11 = .ok (.getfield 76, 3) := by decide +kernel
theorem dX2_sendPiece_14 : decode cX2_sendPiece 14 = .ok (.ifCond .ne 4, 3) := by decide +kernel
theorem dX2_sendPiece_17 : decode cX2_sendPiece 17 = .ok (.return_, 1) := by decide +kernel
theorem dX2_sendPiece_18 : decode cX2_sendPiece 18 = .ok (.aload_n 0, 1) := by decide +kernel
theorem dX2_sendPiece_19 : decode cX2_sendPiece 19 = .ok (.getfield 40, 3) := by decide +kernel
theorem dX2_sendPiece_22 : decode cX2_sendPiece 22 = .ok (.iload_n 2, 1) := by decide +kernel
theorem dX2_sendPiece_23 : decode cX2_sendPiece 23 = .ok (.putfield 146, 3) := by decide +kernel
theorem dX2_sendPiece_26 : decode cX2_sendPiece 26 = .ok (.aload_n 0, 1) := by decide +kernel
theorem dX2_sendPiece_27 : decode cX2_sendPiece 27 = .ok (.getfield 40, 3) := by decide +kernel
theorem dX2_sendPiece_30 : decode cX2_sendPiece 30 = .ok (.iload_n 3, 1) := by decide +kernel
theorem dX2_sendPiece_31 : decode cX2_sendPiece 31 = .ok (.putfield 149, 3) := by decide +kernel
theorem dX2_sendPiece_34 : decode cX2_sendPiece 34 = .ok (.aload_n 0, 1) := by decide +kernel
theorem dX2_sendPiece_35 : decode cX2_sendPiece 35 = .ok (.getfield 40, 3) := by decide +kernel
theorem dX2_sendPiece_38 : decode cX2_sendPiece 38 = .ok (.aload_n 0, 1) := by decide +kernel
theorem dX2_sendPiece_39 : decode cX2_sendPiece 39 = .ok (.getfield 47, 3) := by decide +kernel
theorem dX2_sendPiece_42 : decode cX2_sendPiece 42 = .ok (.iload_n 2, 1) := by decide +kernel
theorem dX2_sendPiece_43 : decode cX2_sendPiece 43 = .ok (.iadd, 1) := by decide +kernel
theorem dX2_sendPiece_44 : decode cX2_sendPiece 44 = .ok (.invokestatic 98, 3) := by decide +kernel
theorem dX2_sendPiece_47 : decode cX2_sendPiece 47 = .ok (.putfield 157, 3) := by decide +kernel
theorem dX2_sendPiece_50 : decode cX2_sendPiece 50 = .ok (.aload_n 0, 1) := by decide +kernel
theorem dX2_sendPiece_51 : decode cX2_sendPiece 51 = .ok (.aload_n 1, 1) := by decide +kernel
theorem dX2_sendPiece_52 : decode cX2_sendPiece 52 = .ok (.invokevirtual 184, 3) := by decide +kernel
theorem dX2_sendPiece_55 : decode cX2_sendPiece 55 = .ok (.aload_n 1, 1) := by decide +kernel
theorem dX2_sendPiece_56 : decode cX2_sendPiece 56 = .ok (.getfield 187, 3) := by decide +kernel
theorem dX2_sendPiece_59 : decode cX2_sendPiece 59 = .ok (.invokevirtual 190, 3) := by decide +kernel
theorem dX2_sendPiece_62 : decode cX2_sendPiece 62 = .ok (.return_, 1) := by decide +kernel
theorem dX1_takeFate_0 : decode cX1_takeFate 0 = .ok (.aload_n 0, 1) := by decide +kernel
theorem dX1_takeFate_1 : decode cX1_takeFate 1 = .ok (.getfield 32, 3) := by decide +kernel
theorem dX1_takeFate_4 : decode cX1_takeFate 4 = .ok (.iconst 1, 1) := by decide +kernel
theorem dX1_takeFate_5 : decode cX1_takeFate 5 = .ok (.if_icmp .ge 5, 3) := by decide +kernel
theorem dX1_takeFate_8 : decode cX1_takeFate 8 = .ok (.iconst 0, 1) := by decide +kernel
theorem dX1_takeFate_9 : decode cX1_takeFate 9 = .ok (.ireturn, 1) := by decide +kernel
theorem dX1_takeFate_10 : decode cX1_takeFate 10 = .ok (.aload_n 0, 1) := by decide +kernel
theorem dX1_takeFate_11 : decode cX1_takeFate 11 = .ok (.getfield 25, 3) := by decide +kernel
theorem dX1_takeFate_14 : decode cX1_takeFate 14 = .ok (.aload_n 0, 1) := by decide +kernel
theorem dX1_takeFate_15 : decode cX1_takeFate 15 = .ok (.getfield 29, 3) := by decide +kernel
theorem dX1_takeFate_18 : decode cX1_takeFate 18 = .ok (.baload, 1) := by decide +kernel
theorem dX1_takeFate_19 : decode cX1_takeFate 19 = .ok (.istore_n 1, 1) := by decide +kernel
theorem dX1_takeFate_20 : decode cX1_takeFate 20 = .ok (.aload_n 0, 1) := by decide +kernel
theorem dX1_takeFate_21 : decode cX1_takeFate 21 = .ok (.aload_n 0, 1) := by decide +kernel
theorem dX1_takeFate_22 : decode cX1_takeFate 22 = .ok (.getfield 29, 3) := by decide +kernel
theorem dX1_takeFate_25 : decode cX1_takeFate 25 = .ok (.iconst 1, 1) := by decide +kernel
theorem dX1_takeFate_26 : decode cX1_takeFate 26 = .ok (.iadd, 1) := by decide +kernel
theorem dX1_takeFate_27 : decode cX1_takeFate 27 = .ok (.bipush 63, 2) := by decide +kernel
theorem dX1_takeFate_29 : decode cX1_takeFate 29 = .ok (.iand, 1) := by decide +kernel
theorem dX1_takeFate_30 : decode cX1_takeFate 30 = .ok (.putfield 29, 3) := by decide +kernel
theorem dX1_takeFate_33 : decode cX1_takeFate 33 = .ok (.aload_n 0, 1) := by decide +kernel
theorem dX1_takeFate_34 : decode cX1_takeFate 34 = .ok (.dup, 1) := by decide +kernel
theorem dX1_takeFate_35 : decode cX1_takeFate 35 = .ok (.getfield 32, 3) := by decide +kernel
theorem dX1_takeFate_38 : decode cX1_takeFate 38 = .ok (.iconst 1, 1) := by decide +kernel
theorem dX1_takeFate_39 : decode cX1_takeFate 39 = .ok (.isub, 1) := by decide +kernel
theorem dX1_takeFate_40 : decode cX1_takeFate 40 = .ok (.putfield 32, 3) := by decide +kernel
theorem dX1_takeFate_43 : decode cX1_takeFate 43 = .ok (.iload_n 1, 1) := by decide +kernel
theorem dX1_takeFate_44 : decode cX1_takeFate 44 = .ok (.ireturn, 1) := by decide +kernel
theorem dX2_meetFate_0 : decode cX2_meetFate 0 = .ok (.iload_n 1, 1) := by decide +kernel
theorem dX2_meetFate_1 : decode cX2_meetFate 1 = .ok (.tableswitch 67 1 3 #[27, 30, 57], 27) := by decide +kernel
theorem dX2_meetFate_28 : decode cX2_meetFate 28 = .ok (.goto 45, 3) := by decide +kernel
theorem dX2_meetFate_31 : decode cX2_meetFate 31 = .ok (.aload_n 0, 1) := by decide +kernel
theorem dX2_meetFate_32 : decode cX2_meetFate 32 = .ok (.getfield 28, 3) := by decide +kernel
theorem dX2_meetFate_35 : decode cX2_meetFate 35 = .ok (.iconst 2, 1) := by decide +kernel
theorem dX2_meetFate_36 : decode cX2_meetFate 36 = .ok (.iadd, 1) := by decide +kernel
theorem dX2_meetFate_37 : decode cX2_meetFate 37 = .ok (.sipush 512, 3) := by decide +kernel
theorem dX2_meetFate_40 : decode cX2_meetFate 40 = .ok (.if_icmp .gt 33, 3) := by decide +kernel
theorem dX2_meetFate_43 : decode cX2_meetFate 43 = .ok (.aload_n 0, 1) := by decide +kernel
theorem dX2_meetFate_44 : decode cX2_meetFate 44 = .ok (.iload_n 2, 1) := by decide +kernel
theorem dX2_meetFate_45 : decode cX2_meetFate 45 = .ok (.invokevirtual 193, 3) := by decide +kernel
theorem dX2_meetFate_48 : decode cX2_meetFate 48 = .ok (.aload_n 0, 1) := by decide +kernel
theorem dX2_meetFate_49 : decode cX2_meetFate 49 = .ok (.iconst 3, 1) := by decide +kernel
theorem dX2_meetFate_50 : decode cX2_meetFate 50 = .ok (.iload_n 2, 1) := by decide +kernel
theorem dX2_meetFate_51 : decode cX2_meetFate 51 = .ok (.imul, 1) := by decide +kernel
theorem dX2_meetFate_52 : decode cX2_meetFate 52 = .ok (.invokevirtual 193, 3) := by decide +kernel
theorem dX2_meetFate_55 : decode cX2_meetFate 55 = .ok (.goto 18, 3) := by decide +kernel
theorem dX2_meetFate_58 : decode cX2_meetFate 58 = .ok (.aload_n 0, 1) := by decide +kernel
theorem dX2_meetFate_59 : decode cX2_meetFate 59 = .ok (.iconst 4, 1) := by decide +kernel
theorem dX2_meetFate_60 : decode cX2_meetFate 60 = .ok (.iload_n 2, 1) := by decide +kernel
theorem dX2_meetFate_61 : decode cX2_meetFate 61 = .ok (.imul, 1) := by decide +kernel
theorem dX2_meetFate_62 : decode cX2_meetFate 62 = .ok (.invokevirtual 193, 3) := by decide +kernel
theorem dX2_meetFate_65 : decode cX2_meetFate 65 = .ok (.goto 8, 3) := by decide +kernel
theorem dX2_meetFate_68 : decode cX2_meetFate 68 = .ok (.aload_n 0, 1) := by decide +kernel
theorem dX2_meetFate_69 : decode cX2_meetFate 69 = .ok (.iload_n 2, 1) := by decide +kernel
theorem dX2_meetFate_70 : decode cX2_meetFate 70 = .ok (.invokevirtual 193, 3) := by decide +kernel
theorem dX2_meetFate_73 : decode cX2_meetFate 73 = .ok (.return_, 1) := by decide +kernel
theorem dX2_arriveBehind_0 : decode cX2_arriveBehind 0 = .ok (.aload_n 0, 1) := by decide +kernel
theorem dX2_arriveBehind_1 : decode cX2_arriveBehind 1 = .ok (.getfield 28, 3) := by decide +kernel
theorem dX2_arriveBehind_4 : decode cX2_arriveBehind 4 = .ok (.sipush 512, 3) := by decide +kernel
theorem dX2_arriveBehind_7 : decode cX2_arriveBehind 7 = .ok (.if_icmp .lt 4, 3) := by decide +kernel
theorem dX2_arriveBehind_10 : decode cX2_arriveBehind 10 = .ok (.return_, 1) := by decide +kernel
theorem dX2_arriveBehind_11 : decode cX2_arriveBehind 11 = .ok (.aload_n 0, 1) := by decide +kernel
theorem dX2_arriveBehind_12 : decode cX2_arriveBehind 12 = .ok (.getfield 24, 3) := by decide +kernel
theorem dX2_arriveBehind_15 : decode cX2_arriveBehind 15 = .ok (.aload_n 0, 1) := by decide +kernel
theorem dX2_arriveBehind_16 : decode cX2_arriveBehind 16 = .ok (.getfield 28, 3) := by decide +kernel
theorem dX2_arriveBehind_19 : decode cX2_arriveBehind 19 = .ok (.aaload, 1) := by decide +kernel
theorem dX2_arriveBehind_20 : decode cX2_arriveBehind 20 = .ok (.astore_n 2, 1) := by decide +kernel
theorem dX2_arriveBehind_21 : decode cX2_arriveBehind 21 = .ok (.aload_n 2, 1) := by decide +kernel
theorem dX2_arriveBehind_22 : decode cX2_arriveBehind 22 = .ok (.aload_n 0, 1) := by decide +kernel
theorem dX2_arriveBehind_23 : decode cX2_arriveBehind 23 = .ok (.getfield 40, 3) := by decide +kernel
theorem dX2_arriveBehind_26 : decode cX2_arriveBehind 26 = .ok (.invokevirtual 196, 3) := by decide +kernel
theorem dX2_arriveBehind_29 : decode cX2_arriveBehind 29 = .ok (.aload_n 2, 1) := by decide +kernel
theorem dX2_arriveBehind_30 : decode cX2_arriveBehind 30 = .ok (.aload_n 0, 1) := by decide +kernel
theorem dX2_arriveBehind_31 : decode cX2_arriveBehind 31 = .ok (.getfield 19, 3) := by decide +kernel
theorem dX2_arriveBehind_34 : decode cX2_arriveBehind 34 = .ok (.iload_n 1, 1) := by decide +kernel
theorem dX2_arriveBehind_35 : decode cX2_arriveBehind 35 = .ok (.iadd, 1) := by decide +kernel
theorem dX2_arriveBehind_36 : decode cX2_arriveBehind 36 = .ok (.putfield 139, 3) := by decide +kernel
theorem dX2_arriveBehind_39 : decode cX2_arriveBehind 39 = .ok (.aload_n 0, 1) := by decide +kernel
theorem dX2_arriveBehind_40 : decode cX2_arriveBehind 40 = .ok (.getfield 28, 3) := by decide +kernel
theorem dX2_arriveBehind_43 : decode cX2_arriveBehind 43 = .ok (.istore_n 3, 1) := by decide +kernel
theorem dX2_arriveBehind_44 : decode cX2_arriveBehind 44 = .ok (.iload_n 3, 1) := by decide +kernel
theorem dX2_arriveBehind_45 : decode cX2_arriveBehind 45 = .ok (.ifCond .le 41, 3) := by decide +kernel
theorem dX2_arriveBehind_48 : decode cX2_arriveBehind 48 = .ok (.aload_n 0, 1) := by decide +kernel
theorem dX2_arriveBehind_49 : decode cX2_arriveBehind 49 = .ok (.getfield 24, 3) := by decide +kernel
theorem dX2_arriveBehind_52 : decode cX2_arriveBehind 52 = .ok (.iload_n 3, 1) := by decide +kernel
theorem dX2_arriveBehind_53 : decode cX2_arriveBehind 53 = .ok (.iconst 1, 1) := by decide +kernel
theorem dX2_arriveBehind_54 : decode cX2_arriveBehind 54 = .ok (.isub, 1) := by decide +kernel
theorem dX2_arriveBehind_55 : decode cX2_arriveBehind 55 = .ok (.aaload, 1) := by decide +kernel
theorem dX2_arriveBehind_56 : decode cX2_arriveBehind 56 = .ok (.getfield 139, 3) := by decide +kernel
theorem dX2_arriveBehind_59 : decode cX2_arriveBehind 59 = .ok (.aload_n 2, 1) := by decide +kernel
theorem dX2_arriveBehind_60 : decode cX2_arriveBehind 60 = .ok (.getfield 139, 3) := by decide +kernel
theorem dX2_arriveBehind_63 : decode cX2_arriveBehind 63 = .ok (.if_icmp .le 23, 3) := by decide +kernel
theorem dX2_arriveBehind_66 : decode cX2_arriveBehind 66 = .ok (.aload_n 0, 1) := by decide +kernel
theorem dX2_arriveBehind_67 : decode cX2_arriveBehind 67 = .ok (.getfield 24, 3) := by decide +kernel
theorem dX2_arriveBehind_70 : decode cX2_arriveBehind 70 = .ok (.iload_n 3, 1) := by decide +kernel
theorem dX2_arriveBehind_71 : decode cX2_arriveBehind 71 = .ok (.aload_n 0, 1) := by decide +kernel
theorem dX2_arriveBehind_72 : decode cX2_arriveBehind 72 = .ok (.getfield 24, 3) := by decide +kernel
theorem dX2_arriveBehind_75 : decode cX2_arriveBehind 75 = .ok (.iload_n 3, 1) := by decide +kernel
theorem dX2_arriveBehind_76 : decode cX2_arriveBehind 76 = .ok (.iconst 1, 1) := by decide +kernel
theorem dX2_arriveBehind_77 : decode cX2_arriveBehind 77 = .ok (.isub, 1) := by decide +kernel
theorem dX2_arriveBehind_78 : decode cX2_arriveBehind 78 = .ok (.aaload, 1) := by decide +kernel
theorem dX2_arriveBehind_79 : decode cX2_arriveBehind 79 = .ok (.aastore, 1) := by decide +kernel
theorem dX2_arriveBehind_80 : decode cX2_arriveBehind 80 = .ok (.iinc 3 (-1), 3) := by decide +kernel
theorem dX2_arriveBehind_83 : decode cX2_arriveBehind 83 = .ok (.goto (-39), 3) := by decide +kernel
theorem dX2_arriveBehind_86 : decode cX2_arriveBehind 86 = .ok (.aload_n 0, 1) := by decide +kernel
theorem dX2_arriveBehind_87 : decode cX2_arriveBehind 87 = .ok (.getfield 24, 3) := by decide +kernel
theorem dX2_arriveBehind_90 : decode cX2_arriveBehind 90 = .ok (.iload_n 3, 1) := by decide +kernel
theorem dX2_arriveBehind_91 : decode cX2_arriveBehind 91 = .ok (.aload_n 2, 1) := by decide +kernel
theorem dX2_arriveBehind_92 : decode cX2_arriveBehind 92 = .ok (.aastore, 1) := by decide +kernel
theorem dX2_arriveBehind_93 : decode cX2_arriveBehind 93 = .ok (.aload_n 0, 1) := by decide +kernel
theorem dX2_arriveBehind_94 : decode cX2_arriveBehind 94 = .ok (.dup, 1) := by decide +kernel
theorem dX2_arriveBehind_95 : decode cX2_arriveBehind 95 = .ok (.getfield 28, 3) := by decide +kernel
theorem dX2_arriveBehind_98 : decode cX2_arriveBehind 98 = .ok (.iconst 1, 1) := by decide +kernel
theorem dX2_arriveBehind_99 : decode cX2_arriveBehind 99 = .ok (.iadd, 1) := by decide +kernel
theorem dX2_arriveBehind_100 : decode cX2_arriveBehind 100 = .ok (.putfield 28, 3) := by decide +kernel
theorem dX2_arriveBehind_103 : decode cX2_arriveBehind 103 = .ok (.return_, 1) := by decide +kernel
theorem dX0_copyFrom_0 : decode cX0_copyFrom 0 = .ok (.aload_n 0, 1) := by decide +kernel
theorem dX0_copyFrom_1 : decode cX0_copyFrom 1 = .ok (.aload_n 1, 1) := by decide +kernel
theorem dX0_copyFrom_2 : decode cX0_copyFrom 2 = .ok (.getfield 13, 3) := by decide +kernel
theorem dX0_copyFrom_5 : decode cX0_copyFrom 5 = .ok (.putfield 13, 3) := by decide +kernel
theorem dX0_copyFrom_8 : decode cX0_copyFrom 8 = .ok (.aload_n 0, 1) := by decide +kernel
theorem dX0_copyFrom_9 : decode cX0_copyFrom 9 = .ok (.aload_n 1, 1) := by decide +kernel
theorem dX0_copyFrom_10 : decode cX0_copyFrom 10 = .ok (.getfield 16, 3) := by decide +kernel
theorem dX0_copyFrom_13 : decode cX0_copyFrom 13 = .ok (.putfield 16, 3) := by decide +kernel
theorem dX0_copyFrom_16 : decode cX0_copyFrom 16 = .ok (.aload_n 0, 1) := by decide +kernel
theorem dX0_copyFrom_17 : decode cX0_copyFrom 17 = .ok (.aload_n 1, 1) := by decide +kernel
theorem dX0_copyFrom_18 : decode cX0_copyFrom 18 = .ok (.getfield 19, 3) := by decide +kernel
theorem dX0_copyFrom_21 : decode cX0_copyFrom 21 = .ok (.putfield 19, 3) := by decide +kernel
theorem dX0_copyFrom_24 : decode cX0_copyFrom 24 = .ok (.aload_n 0, 1) := by decide +kernel
theorem dX0_copyFrom_25 : decode cX0_copyFrom 25 = .ok (.aload_n 1, 1) := by decide +kernel
theorem dX0_copyFrom_26 : decode cX0_copyFrom 26 = .ok (.getfield 22, 3) := by decide +kernel
theorem dX0_copyFrom_29 : decode cX0_copyFrom 29 = .ok (.putfield 22, 3) := by decide +kernel
theorem dX0_copyFrom_32 : decode cX0_copyFrom 32 = .ok (.aload_n 0, 1) := by decide +kernel
theorem dX0_copyFrom_33 : decode cX0_copyFrom 33 = .ok (.aload_n 1, 1) := by decide +kernel
theorem dX0_copyFrom_34 : decode cX0_copyFrom 34 = .ok (.getfield 25, 3) := by decide +kernel
theorem dX0_copyFrom_37 : decode cX0_copyFrom 37 = .ok (.putfield 25, 3) := by decide +kernel
theorem dX0_copyFrom_40 : decode cX0_copyFrom 40 = .ok (.aload_n 0, 1) := by decide +kernel
theorem dX0_copyFrom_41 : decode cX0_copyFrom 41 = .ok (.aload_n 1, 1) := by decide +kernel
theorem dX0_copyFrom_42 : decode cX0_copyFrom 42 = .ok (.getfield 28, 3) := by decide +kernel
theorem dX0_copyFrom_45 : decode cX0_copyFrom 45 = .ok (.putfield 28, 3) := by decide +kernel
theorem dX0_copyFrom_48 : decode cX0_copyFrom 48 = .ok (.aload_n 0, 1) := by decide +kernel
theorem dX0_copyFrom_49 : decode cX0_copyFrom 49 = .ok (.aload_n 1, 1) := by decide +kernel
theorem dX0_copyFrom_50 : decode cX0_copyFrom 50 = .ok (.getfield 31, 3) := by decide +kernel
theorem dX0_copyFrom_53 : decode cX0_copyFrom 53 = .ok (.putfield 31, 3) := by decide +kernel
theorem dX0_copyFrom_56 : decode cX0_copyFrom 56 = .ok (.aload_n 0, 1) := by decide +kernel
theorem dX0_copyFrom_57 : decode cX0_copyFrom 57 = .ok (.aload_n 1, 1) := by decide +kernel
theorem dX0_copyFrom_58 : decode cX0_copyFrom 58 = .ok (.getfield 34, 3) := by decide +kernel
theorem dX0_copyFrom_61 : decode cX0_copyFrom 61 = .ok (.putfield 34, 3) := by decide +kernel
theorem dX0_copyFrom_64 : decode cX0_copyFrom 64 = .ok (.return_, 1) := by decide +kernel
theorem dX1_pieceSize_0 : decode cX1_pieceSize 0 = .ok (.aload_n 0, 1) := by decide +kernel
theorem dX1_pieceSize_1 : decode cX1_pieceSize 1 = .ok (.getfield 9, 3) := by decide +kernel
theorem dX1_pieceSize_4 : decode cX1_pieceSize 4 = .ok (.bipush 20, 2) := by decide +kernel
theorem dX1_pieceSize_6 : decode cX1_pieceSize 6 = .ok (.isub, 1) := by decide +kernel
theorem dX1_pieceSize_7 : decode cX1_pieceSize 7 = .ok (.bipush (-8), 2) := by decide +kernel
theorem dX1_pieceSize_9 : decode cX1_pieceSize 9 = .ok (.iand, 1) := by decide +kernel
theorem dX1_pieceSize_10 : decode cX1_pieceSize 10 = .ok (.ireturn, 1) := by decide +kernel
theorem dX2_countPieces_0 : decode cX2_countPieces 0 = .ok (.iload_n 1, 1) := by decide +kernel
theorem dX2_countPieces_1 : decode cX2_countPieces 1 = .ok (.iconst 1, 1) := by decide +kernel
theorem dX2_countPieces_2 : decode cX2_countPieces 2 = .ok (.if_icmp .ge 7, 3) := by decide +kernel
theorem dX2_countPieces_5 : decode cX2_countPieces 5 = .ok (.iconst 0, 1) := by decide +kernel
theorem dX2_countPieces_6 : decode cX2_countPieces 6 = .ok (.goto 10, 3) := by decide +kernel
theorem dX2_countPieces_9 : decode cX2_countPieces 9 = .ok (.iload_n 0, 1) := by decide +kernel
theorem dX2_countPieces_10 : decode cX2_countPieces 10 = .ok (.iload_n 1, 1) := by decide +kernel
theorem dX2_countPieces_11 : decode cX2_countPieces 11 = .ok (.iadd, 1) := by decide +kernel
theorem dX2_countPieces_12 : decode cX2_countPieces 12 = .ok (.iconst 1, 1) := by decide +kernel
theorem dX2_countPieces_13 : decode cX2_countPieces 13 = .ok (.isub, 1) := by decide +kernel
theorem dX2_countPieces_14 : decode cX2_countPieces 14 = .ok (.iload_n 1, 1) := by decide +kernel
theorem dX2_countPieces_15 : decode cX2_countPieces 15 = .ok (.idiv, 1) := by decide +kernel
theorem dX2_countPieces_16 : decode cX2_countPieces 16 = .ok (.ireturn, 1) := by decide +kernel
theorem dX2_pass_0 : decode cX2_pass 0 = .ok (.iload_n 1, 1) := by decide +kernel
theorem dX2_pass_1 : decode cX2_pass 1 = .ok (.ifCond .lt 10, 3) := by decide +kernel
theorem dX2_pass_4 : decode cX2_pass 4 = .ok (.iload_n 1, 1) := by decide +kernel
theorem dX2_pass_5 : decode cX2_pass 5 = .ok (.sipush 1000, 3) := by decide +kernel
theorem dX2_pass_8 : decode cX2_pass 8 = .ok (.if_icmp .le 13, 3) := by decide +kernel
theorem dX2_pass_11 : decode cX2_pass 11 = .ok (.new 54, 3) := by decide +kernel
theorem dX2_pass_14 : decode cX2_pass 14 = .ok (.dup, 1) := by decide +kernel
theorem dX2_pass_15 : decode cX2_pass 15 = .ok (.ldc 130, 2) := by decide +kernel
theorem dX2_pass_17 : decode cX2_pass 17 = .ok (.invokespecial 58, 3) := by decide +kernel
theorem dX2_pass_20 : decode cX2_pass 20 = .ok (.athrow, 1) := by decide +kernel
theorem dX2_pass_21 : decode cX2_pass 21 = .ok (.aload_n 0, 1) := by decide +kernel
theorem dX2_pass_22 : decode cX2_pass 22 = .ok (.getfield 19, 3) := by decide +kernel
theorem dX2_pass_25 : decode cX2_pass 25 = .ok (.iload_n 1, 1) := by decide +kernel
theorem dX2_pass_26 : decode cX2_pass 26 = .ok (.iadd, 1) := by decide +kernel
theorem dX2_pass_27 : decode cX2_pass 27 = .ok (.ldc 132, 2) := by decide +kernel
theorem dX2_pass_29 : decode cX2_pass 29 = .ok (.if_icmp .le 13, 3) := by decide +kernel
theorem dX2_pass_32 : decode cX2_pass 32 = .ok (.new 63, 3) := by decide +kernel
theorem dX2_pass_35 : decode cX2_pass 35 = .ok (.dup, 1) := by decide +kernel
theorem dX2_pass_36 : decode cX2_pass 36 = .ok (.ldc 133, 2) := by decide +kernel
theorem dX2_pass_38 : decode cX2_pass 38 = .ok (.invokespecial 67, 3) := by decide +kernel
theorem dX2_pass_41 : decode cX2_pass 41 = .ok (.athrow, 1) := by decide +kernel
theorem dX2_pass_42 : decode cX2_pass 42 = .ok (.aload_n 0, 1) := by decide +kernel
theorem dX2_pass_43 : decode cX2_pass 43 = .ok (.dup, 1) := by decide +kernel
theorem dX2_pass_44 : decode cX2_pass 44 = .ok (.getfield 19, 3) := by decide +kernel
theorem dX2_pass_47 : decode cX2_pass 47 = .ok (.iload_n 1, 1) := by decide +kernel
theorem dX2_pass_48 : decode cX2_pass 48 = .ok (.iadd, 1) := by decide +kernel
theorem dX2_pass_49 : decode cX2_pass 49 = .ok (.putfield 19, 3) := by decide +kernel
theorem dX2_pass_52 : decode cX2_pass 52 = .ok (.aload_n 0, 1) := by decide +kernel
theorem dX2_pass_53 : decode cX2_pass 53 = .ok (.invokevirtual 135, 3) := by decide +kernel
theorem dX2_pass_56 : decode cX2_pass 56 = .ok (.ireturn, 1) := by decide +kernel
theorem dX2_countDue_0 : decode cX2_countDue 0 = .ok (.iconst 0, 1) := by decide +kernel
theorem dX2_countDue_1 : decode cX2_countDue 1 = .ok (.istore_n 1, 1) := by decide +kernel
theorem dX2_countDue_2 : decode cX2_countDue 2 = .ok (.iload_n 1, 1) := by decide +kernel
theorem dX2_countDue_3 : decode cX2_countDue 3 = .ok (.aload_n 0, 1) := by decide +kernel
theorem dX2_countDue_4 : decode cX2_countDue 4 = .ok (.getfield 28, 3) := by decide +kernel
theorem dX2_countDue_7 : decode cX2_countDue 7 = .ok (.if_icmp .ge 25, 3) := by decide +kernel
theorem dX2_countDue_10 : decode cX2_countDue 10 = .ok (.aload_n 0, 1) := by decide +kernel
theorem dX2_countDue_11 : decode cX2_countDue 11 = .ok (.getfield 24, 3) := by decide +kernel
theorem dX2_countDue_14 : decode cX2_countDue 14 = .ok (.iload_n 1, 1) := by decide +kernel
theorem dX2_countDue_15 : decode cX2_countDue 15 = .ok (.aaload, 1) := by decide +kernel
theorem dX2_countDue_16 : decode cX2_countDue 16 = .ok (.getfield 139, 3) := by decide +kernel
theorem dX2_countDue_19 : decode cX2_countDue 19 = .ok (.aload_n 0, 1) := by decide +kernel
theorem dX2_countDue_20 : decode cX2_countDue 20 = .ok (.getfield 19, 3) := by decide +kernel
theorem dX2_countDue_23 : decode cX2_countDue 23 = .ok (.if_icmp .gt 9, 3) := by decide +kernel
theorem dX2_countDue_26 : decode cX2_countDue 26 = .ok (.iinc 1 1, 3) := by decide +kernel
theorem dX2_countDue_29 : decode cX2_countDue 29 = .ok (.goto (-27), 3) := by decide +kernel
theorem dX2_countDue_32 : decode cX2_countDue 32 = .ok (.iload_n 1, 1) := by decide +kernel
theorem dX2_countDue_33 : decode cX2_countDue 33 = .ok (.ireturn, 1) := by decide +kernel
theorem dX2_arrival_0 : decode cX2_arrival 0 = .ok (.iload_n 1, 1) := by decide +kernel
theorem dX2_arrival_1 : decode cX2_arrival 1 = .ok (.ifCond .lt 9, 3) := by decide +kernel
theorem dX2_arrival_4 : decode cX2_arrival 4 = .ok (.iload_n 1, 1) := by decide +kernel
theorem dX2_arrival_5 : decode cX2_arrival 5 = .ok (.bipush 6, 2) := by decide +kernel
theorem dX2_arrival_7 : decode cX2_arrival 7 = .ok (.if_icmp .le 13, 3) := by decide +kernel
theorem dX2_arrival_10 : decode cX2_arrival 10 = .ok (.new 54, 3) := by decide +kernel
theorem dX2_arrival_13 : decode cX2_arrival 13 = .ok (.dup, 1) := by decide +kernel
theorem dX2_arrival_14 : decode cX2_arrival 14 = .ok (.ldc 142, 2) := by decide +kernel
theorem dX2_arrival_16 : decode cX2_arrival 16 = .ok (.invokespecial 58, 3) := by decide +kernel
theorem dX2_arrival_19 : decode cX2_arrival 19 = .ok (.athrow, 1) := by decide +kernel
theorem dX2_arrival_20 : decode cX2_arrival 20 = .ok (.aload_n 0, 1) := by decide +kernel
theorem dX2_arrival_21 : decode cX2_arrival 21 = .ok (.getfield 36, 3) := by decide +kernel
theorem dX2_arrival_24 : decode cX2_arrival 24 = .ok (.ifCond .ne 13, 3) := by decide +kernel
theorem dX2_arrival_27 : decode cX2_arrival 27 = .ok (.new 63, 3) := by decide +kernel
theorem dX2_arrival_30 : decode cX2_arrival 30 = .ok (.dup, 1) := by decide +kernel
theorem dX2_arrival_31 : decode cX2_arrival 31 = .ok (.ldc 144, 2) := by decide +kernel
theorem dX2_arrival_33 : decode cX2_arrival 33 = .ok (.invokespecial 67, 3) := by decide +kernel
theorem dX2_arrival_36 : decode cX2_arrival 36 = .ok (.athrow, 1) := by decide +kernel
theorem dX2_arrival_37 : decode cX2_arrival 37 = .ok (.iload_n 1, 1) := by decide +kernel
theorem dX2_arrival_38 : decode cX2_arrival 38 = .ok (.tableswitch 86 0 5 #[38, 46, 54, 62, 70, 78], 38) := by decide +kernel
theorem dX2_arrival_76 : decode cX2_arrival 76 = .ok (.aload_n 0, 1) := by decide +kernel
theorem dX2_arrival_77 : decode cX2_arrival 77 = .ok (.getfield 32, 3) := by decide +kernel
theorem dX2_arrival_80 : decode cX2_arrival 80 = .ok (.getfield 111, 3) := by decide +kernel
theorem dX2_arrival_83 : decode cX2_arrival 83 = .ok (.ireturn, 1) := by decide +kernel
theorem dX2_arrival_84 : decode cX2_arrival 84 = .ok (.aload_n 0, 1) := by decide +kernel
theorem dX2_arrival_85 : decode cX2_arrival 85 = .ok (.getfield 32, 3) := by decide +kernel
theorem dX2_arrival_88 : decode cX2_arrival 88 = .ok (.getfield 114, 3) := by decide +kernel
theorem dX2_arrival_91 : decode cX2_arrival 91 = .ok (.ireturn, 1) := by decide +kernel
theorem dX2_arrival_92 : decode cX2_arrival 92 = .ok (.aload_n 0, 1) := by decide +kernel
theorem dX2_arrival_93 : decode cX2_arrival 93 = .ok (.getfield 32, 3) := by decide +kernel
theorem dX2_arrival_96 : decode cX2_arrival 96 = .ok (.getfield 117, 3) := by decide +kernel
theorem dX2_arrival_99 : decode cX2_arrival 99 = .ok (.ireturn, 1) := by decide +kernel
theorem dX2_arrival_100 : decode cX2_arrival 100 = .ok (.aload_n 0, 1) := by decide +kernel
theorem dX2_arrival_101 : decode cX2_arrival 101 = .ok (.getfield 32, 3) := by decide +kernel
theorem dX2_arrival_104 : decode cX2_arrival 104 = .ok (.getfield 120, 3) := by decide +kernel
theorem dX2_arrival_107 : decode cX2_arrival 107 = .ok (.ireturn, 1) := by decide +kernel
theorem dX2_arrival_108 : decode cX2_arrival 108 = .ok (.aload_n 0, 1) := by decide +kernel
theorem dX2_arrival_109 : decode cX2_arrival 109 = .ok (.getfield 32, 3) := by decide +kernel
theorem dX2_arrival_112 : decode cX2_arrival 112 = .ok (.getfield 146, 3) := by decide +kernel
theorem dX2_arrival_115 : decode cX2_arrival 115 = .ok (.ireturn, 1) := by decide +kernel
theorem dX2_arrival_116 : decode cX2_arrival 116 = .ok (.aload_n 0, 1) := by decide +kernel
theorem dX2_arrival_117 : decode cX2_arrival 117 = .ok (.getfield 32, 3) := by decide +kernel
theorem dX2_arrival_120 : decode cX2_arrival 120 = .ok (.getfield 123, 3) := by decide +kernel
theorem dX2_arrival_123 : decode cX2_arrival 123 = .ok (.ireturn, 1) := by decide +kernel
theorem dX2_arrival_124 : decode cX2_arrival 124 = .ok (.aload_n 0, 1) := by decide +kernel
theorem dX2_arrival_125 : decode cX2_arrival 125 = .ok (.getfield 32, 3) := by decide +kernel
theorem dX2_arrival_128 : decode cX2_arrival 128 = .ok (.getfield 149, 3) := by decide +kernel
theorem dX2_arrival_131 : decode cX2_arrival 131 = .ok (.ireturn, 1) := by decide +kernel
theorem dX2_byteAt_0 : decode cX2_byteAt 0 = .ok (.aload_n 0, 1) := by decide +kernel
theorem dX2_byteAt_1 : decode cX2_byteAt 1 = .ok (.getfield 36, 3) := by decide +kernel
theorem dX2_byteAt_4 : decode cX2_byteAt 4 = .ok (.ifCond .ne 13, 3) := by decide +kernel
theorem dX2_byteAt_7 : decode cX2_byteAt 7 = .ok (.new 63, 3) := by decide +kernel
theorem dX2_byteAt_10 : decode cX2_byteAt 10 = .ok (.dup, 1) := by decide +kernel
theorem dX2_byteAt_11 : decode cX2_byteAt 11 = .ok (.ldc 144, 2) := by decide +kernel
theorem dX2_byteAt_13 : decode cX2_byteAt 13 = .ok (.invokespecial 67, 3) := by decide +kernel
theorem dX2_byteAt_16 : decode cX2_byteAt 16 = .ok (.athrow, 1) := by decide +kernel
theorem dX2_byteAt_17 : decode cX2_byteAt 17 = .ok (.iload_n 1, 1) := by decide +kernel
theorem dX2_byteAt_18 : decode cX2_byteAt 18 = .ok (.ifCond .lt 14, 3) := by decide +kernel
theorem dX2_byteAt_21 : decode cX2_byteAt 21 = .ok (.iload_n 1, 1) := by decide +kernel
theorem dX2_byteAt_22 : decode cX2_byteAt 22 = .ok (.aload_n 0, 1) := by decide +kernel
theorem dX2_byteAt_23 : decode cX2_byteAt 23 = .ok (.getfield 32, 3) := by decide +kernel
theorem dX2_byteAt_26 : decode cX2_byteAt 26 = .ok (.getfield 149, 3) := by decide +kernel
theorem dX2_byteAt_29 : decode cX2_byteAt 29 = .ok (.if_icmp .lt 13, 3) := by decide +kernel
theorem dX2_byteAt_32 : decode cX2_byteAt 32 = .ok (.new 152, 3) := by decide +kernel
theorem dX2_byteAt_35 : decode cX2_byteAt 35 = .ok (.dup, 1) := by decide +kernel
theorem dX2_byteAt_36 : decode cX2_byteAt 36 = .ok (.ldc 154, 2) := by decide +kernel
theorem dX2_byteAt_38 : decode cX2_byteAt 38 = .ok (.invokespecial 156, 3) := by decide +kernel
theorem dX2_byteAt_41 : decode cX2_byteAt 41 = .ok (.athrow, 1) := by decide +kernel
theorem dX2_byteAt_42 : decode cX2_byteAt 42 = .ok (.aload_n 0, 1) := by decide +kernel
theorem dX2_byteAt_43 : decode cX2_byteAt 43 = .ok (.getfield 43, 3) := by decide +kernel
theorem dX2_byteAt_46 : decode cX2_byteAt 46 = .ok (.aload_n 0, 1) := by decide +kernel
theorem dX2_byteAt_47 : decode cX2_byteAt 47 = .ok (.getfield 32, 3) := by decide +kernel
theorem dX2_byteAt_50 : decode cX2_byteAt 50 = .ok (.getfield 157, 3) := by decide +kernel
theorem dX2_byteAt_53 : decode cX2_byteAt 53 = .ok (.iload_n 1, 1) := by decide +kernel
theorem dX2_byteAt_54 : decode cX2_byteAt 54 = .ok (.iadd, 1) := by decide +kernel
theorem dX2_byteAt_55 : decode cX2_byteAt 55 = .ok (.invokestatic 98, 3) := by decide +kernel
theorem dX2_byteAt_58 : decode cX2_byteAt 58 = .ok (.baload, 1) := by decide +kernel
theorem dX2_byteAt_59 : decode cX2_byteAt 59 = .ok (.sipush 255, 3) := by decide +kernel
theorem dX2_byteAt_62 : decode cX2_byteAt 62 = .ok (.iand, 1) := by decide +kernel
theorem dX2_byteAt_63 : decode cX2_byteAt 63 = .ok (.ireturn, 1) := by decide +kernel
theorem dX2_fated_0 : decode cX2_fated 0 = .ok (.aload_n 0, 1) := by decide +kernel
theorem dX2_fated_1 : decode cX2_fated 1 = .ok (.iload_n 1, 1) := by decide +kernel
theorem dX2_fated_2 : decode cX2_fated 2 = .ok (.invokevirtual 72, 3) := by decide +kernel
theorem dX2_fated_5 : decode cX2_fated 5 = .ok (.getfield 85, 3) := by decide +kernel
theorem dX2_fated_8 : decode cX2_fated 8 = .ok (.ireturn, 1) := by decide +kernel
theorem dX2_puts_0 : decode cX2_puts 0 = .ok (.aload_n 0, 1) := by decide +kernel
theorem dX2_puts_1 : decode cX2_puts 1 = .ok (.iload_n 1, 1) := by decide +kernel
theorem dX2_puts_2 : decode cX2_puts 2 = .ok (.invokevirtual 72, 3) := by decide +kernel
theorem dX2_puts_5 : decode cX2_puts 5 = .ok (.getfield 160, 3) := by decide +kernel
theorem dX2_puts_8 : decode cX2_puts 8 = .ok (.ireturn, 1) := by decide +kernel
end
section
theorem dX3_init_0 : decode cX3_init 0 = .ok (.aload_n 0, 1) := by decide +kernel
theorem dX3_init_1 : decode cX3_init 1 = .ok (.invokespecial 1, 3) := by decide +kernel
theorem dX3_init_4 : decode cX3_init 4 = .ok (.aload_n 0, 1) := by decide +kernel
theorem dX3_init_5 : decode cX3_init 5 = .ok (.bipush 24, 2) := by decide +kernel
theorem dX3_init_7 : decode cX3_init 7 = .ok (.newarray .int, 2) := by decide +kernel
theorem dX3_init_9 : decode cX3_init 9 = .ok (.putfield 7, 3) := by decide +kernel
theorem dX3_init_12 : decode cX3_init 12 = .ok (.aload_n 0, 1) := by decide +kernel
theorem dX3_init_13 : decode cX3_init 13 = .ok (.bipush 24, 2) := by decide +kernel
theorem dX3_init_15 : decode cX3_init 15 = .ok (.newarray .int, 2) := by decide +kernel
theorem dX3_init_17 : decode cX3_init 17 = .ok (.putfield 13, 3) := by decide +kernel
theorem dX3_init_20 : decode cX3_init 20 = .ok (.aload_n 0, 1) := by decide +kernel
theorem dX3_init_21 : decode cX3_init 21 = .ok (.bipush 24, 2) := by decide +kernel
theorem dX3_init_23 : decode cX3_init 23 = .ok (.newarray .boolean, 2) := by decide +kernel
theorem dX3_init_25 : decode cX3_init 25 = .ok (.putfield 16, 3) := by decide +kernel
theorem dX3_init_28 : decode cX3_init 28 = .ok (.aload_n 0, 1) := by decide +kernel
theorem dX3_init_29 : decode cX3_init 29 = .ok (.bipush 24, 2) := by decide +kernel
theorem dX3_init_31 : decode cX3_init 31 = .ok (.newarray .int, 2) := by decide +kernel
theorem dX3_init_33 : decode cX3_init 33 = .ok (.putfield 20, 3) := by decide +kernel
theorem dX3_init_36 : decode cX3_init 36 = .ok (.aload_n 0, 1) := by decide +kernel
theorem dX3_init_37 : decode cX3_init 37 = .ok (.sipush 1536, 3) := by decide +kernel
theorem dX3_init_40 : decode cX3_init 40 = .ok (.newarray .int, 2) := by decide +kernel
theorem dX3_init_42 : decode cX3_init 42 = .ok (.putfield 23, 3) := by decide +kernel
theorem dX3_init_45 : decode cX3_init 45 = .ok (.aload_n 0, 1) := by decide +kernel
theorem dX3_init_46 : decode cX3_init 46 = .ok (.bipush 24, 2) := by decide +kernel
theorem dX3_init_48 : decode cX3_init 48 = .ok (.newarray .int, 2) := by decide +kernel
theorem dX3_init_50 : decode cX3_init 50 = .ok (.putfield 26, 3) := by decide +kernel
theorem dX3_init_53 : decode cX3_init 53 = .ok (.aload_n 0, 1) := by decide +kernel
theorem dX3_init_54 : decode cX3_init 54 = .ok (.sipush 1480, 3) := by decide +kernel
theorem dX3_init_57 : decode cX3_init 57 = .ok (.newarray .int, 2) := by decide +kernel
theorem dX3_init_59 : decode cX3_init 59 = .ok (.putfield 29, 3) := by decide +kernel
theorem dX3_init_62 : decode cX3_init 62 = .ok (.aload_n 0, 1) := by decide +kernel
theorem dX3_init_63 : decode cX3_init 63 = .ok (.sipush 512, 3) := by decide +kernel
theorem dX3_init_66 : decode cX3_init 66 = .ok (.newarray .int, 2) := by decide +kernel
theorem dX3_init_68 : decode cX3_init 68 = .ok (.putfield 32, 3) := by decide +kernel
theorem dX3_init_71 : decode cX3_init 71 = .ok (.aload_n 0, 1) := by decide +kernel
theorem dX3_init_72 : decode cX3_init 72 = .ok (.sipush 512, 3) := by decide +kernel
theorem dX3_init_75 : decode cX3_init 75 = .ok (.newarray .boolean, 2) := by decide +kernel
theorem dX3_init_77 : decode cX3_init 77 = .ok (.putfield 35, 3) := by decide +kernel
theorem dX3_init_80 : decode cX3_init 80 = .ok (.aload_n 0, 1) := by decide +kernel
theorem dX3_init_81 : decode cX3_init 81 = .ok (.sipush 4096, 3) := by decide +kernel
theorem dX3_init_84 : decode cX3_init 84 = .ok (.newarray .int, 2) := by decide +kernel
theorem dX3_init_86 : decode cX3_init 86 = .ok (.putfield 38, 3) := by decide +kernel
theorem dX3_init_89 : decode cX3_init 89 = .ok (.aload_n 0, 1) := by decide +kernel
theorem dX3_init_90 : decode cX3_init 90 = .ok (.ldc 41, 2) := by decide +kernel
theorem dX3_init_92 : decode cX3_init 92 = .ok (.newarray .long, 2) := by decide +kernel
theorem dX3_init_94 : decode cX3_init 94 = .ok (.putfield 42, 3) := by decide +kernel
theorem dX3_init_97 : decode cX3_init 97 = .ok (.aload_n 0, 1) := by decide +kernel
theorem dX3_init_98 : decode cX3_init 98 = .ok (.bipush 7, 2) := by decide +kernel
theorem dX3_init_100 : decode cX3_init 100 = .ok (.newarray .int, 2) := by decide +kernel
theorem dX3_init_102 : decode cX3_init 102 = .ok (.putfield 46, 3) := by decide +kernel
theorem dX3_init_105 : decode cX3_init 105 = .ok (.aload_n 0, 1) := by decide +kernel
theorem dX3_init_106 : decode cX3_init 106 = .ok (.sipush 1480, 3) := by decide +kernel
theorem dX3_init_109 : decode cX3_init 109 = .ok (.newarray .int, 2) := by decide +kernel
theorem dX3_init_111 : decode cX3_init 111 = .ok (.putfield 49, 3) := by decide +kernel
theorem dX3_init_114 : decode cX3_init 114 = .ok (.return_, 1) := by decide +kernel
theorem dX3_thrown_0 : decode cX3_thrown 0 = .ok (.aload_n 0, 1) := by decide +kernel
theorem dX3_thrown_1 : decode cX3_thrown 1 = .ok (.getfield 52, 3) := by decide +kernel
theorem dX3_thrown_4 : decode cX3_thrown 4 = .ok (.ireturn, 1) := by decide +kernel
theorem dX3_net_0 : decode cX3_net 0 = .ok (.aload_n 0, 1) := by decide +kernel
theorem dX3_net_1 : decode cX3_net 1 = .ok (.iload_n 1, 1) := by decide +kernel
theorem dX3_net_2 : decode cX3_net 2 = .ok (.bipush 100, 2) := by decide +kernel
theorem dX3_net_4 : decode cX3_net 4 = .ok (.if_icmp .lt 21, 3) := by decide +kernel
theorem dX3_net_7 : decode cX3_net 7 = .ok (.iload_n 1, 1) := by decide +kernel
theorem dX3_net_8 : decode cX3_net 8 = .ok (.sipush 1500, 3) := by decide +kernel
theorem dX3_net_11 : decode cX3_net 11 = .ok (.if_icmp .gt 14, 3) := by decide +kernel
theorem dX3_net_14 : decode cX3_net 14 = .ok (.iload_n 2, 1) := by decide +kernel
theorem dX3_net_15 : decode cX3_net 15 = .ok (.iconst 1, 1) := by decide +kernel
theorem dX3_net_16 : decode cX3_net 16 = .ok (.if_icmp .lt 9, 3) := by decide +kernel
theorem dX3_net_19 : decode cX3_net 19 = .ok (.iload_n 2, 1) := by decide +kernel
theorem dX3_net_20 : decode cX3_net 20 = .ok (.bipush 50, 2) := by decide +kernel
theorem dX3_net_22 : decode cX3_net 22 = .ok (.if_icmp .le 7, 3) := by decide +kernel
theorem dX3_net_25 : decode cX3_net 25 = .ok (.iconst 1, 1) := by decide +kernel
theorem dX3_net_26 : decode cX3_net 26 = .ok (.goto 17, 3) := by decide +kernel
theorem dX3_net_29 : decode cX3_net 29 = .ok (.aload_n 0, 1) := by decide +kernel
theorem dX3_net_30 : decode cX3_net 30 = .ok (.getfield 56, 3) := by decide +kernel
theorem dX3_net_33 : decode cX3_net 33 = .ok (.bipush 24, 2) := by decide +kernel
theorem dX3_net_35 : decode cX3_net 35 = .ok (.if_icmp .ne 7, 3) := by decide +kernel
theorem dX3_net_38 : decode cX3_net 38 = .ok (.iconst 2, 1) := by decide +kernel
theorem dX3_net_39 : decode cX3_net 39 = .ok (.goto 4, 3) := by decide +kernel
theorem dX3_net_42 : decode cX3_net 42 = .ok (.iconst 0, 1) := by decide +kernel
theorem dX3_net_43 : decode cX3_net 43 = .ok (.putfield 52, 3) := by decide +kernel
theorem dX3_net_46 : decode cX3_net 46 = .ok (.aload_n 0, 1) := by decide +kernel
theorem dX3_net_47 : decode cX3_net 47 = .ok (.getfield 52, 3) := by decide +kernel
theorem dX3_net_50 : decode cX3_net 50 = .ok (.ifCond .le 5, 3) := by decide +kernel
theorem dX3_net_53 : decode cX3_net 53 = .ok (.iconst 0, 1) := by decide +kernel
theorem dX3_net_54 : decode cX3_net 54 = .ok (.ireturn, 1) := by decide +kernel
theorem dX3_net_55 : decode cX3_net 55 = .ok (.aload_n 0, 1) := by decide +kernel
theorem dX3_net_56 : decode cX3_net 56 = .ok (.getfield 7, 3) := by decide +kernel
theorem dX3_net_59 : decode cX3_net 59 = .ok (.aload_n 0, 1) := by decide +kernel
theorem dX3_net_60 : decode cX3_net 60 = .ok (.getfield 56, 3) := by decide +kernel
theorem dX3_net_63 : decode cX3_net 63 = .ok (.iload_n 1, 1) := by decide +kernel
theorem dX3_net_64 : decode cX3_net 64 = .ok (.iastore, 1) := by decide +kernel
theorem dX3_net_65 : decode cX3_net 65 = .ok (.aload_n 0, 1) := by decide +kernel
theorem dX3_net_66 : decode cX3_net 66 = .ok (.getfield 13, 3) := by decide +kernel
theorem dX3_net_69 : decode cX3_net 69 = .ok (.aload_n 0, 1) := by decide +kernel
theorem dX3_net_70 : decode cX3_net 70 = .ok (.getfield 56, 3) := by decide +kernel
theorem dX3_net_73 : decode cX3_net 73 = .ok (.iload_n 2, 1) := by decide +kernel
theorem dX3_net_74 : decode cX3_net 74 = .ok (.iastore, 1) := by decide +kernel
theorem dX3_net_75 : decode cX3_net 75 = .ok (.aload_n 0, 1) := by decide +kernel
theorem dX3_net_76 : decode cX3_net 76 = .ok (.getfield 16, 3) := by decide +kernel
theorem dX3_net_79 : decode cX3_net 79 = .ok (.aload_n 0, 1) := by decide +kernel
theorem dX3_net_80 : decode cX3_net 80 = .ok (.getfield 56, 3) := by decide +kernel
theorem dX3_net_83 : decode cX3_net 83 = .ok (.iconst 1, 1) := by decide +kernel
theorem dX3_net_84 : decode cX3_net 84 = .ok (.bastore, 1) := by decide +kernel
theorem dX3_net_85 : decode cX3_net 85 = .ok (.aload_n 0, 1) := by decide +kernel
theorem dX3_net_86 : decode cX3_net 86 = .ok (.dup, 1) := by decide +kernel
theorem dX3_net_87 : decode cX3_net 87 = .ok (.getfield 56, 3) := by decide +kernel
theorem dX3_net_90 : decode cX3_net 90 = .ok (.iconst 1, 1) := by decide +kernel
theorem dX3_net_91 : decode cX3_net 91 = .ok (.iadd, 1) := by decide +kernel
theorem dX3_net_92 : decode cX3_net 92 = .ok (.putfield 56, 3) := by decide +kernel
theorem dX3_net_95 : decode cX3_net 95 = .ok (.aload_n 0, 1) := by decide +kernel
theorem dX3_net_96 : decode cX3_net 96 = .ok (.getfield 56, 3) := by decide +kernel
theorem dX3_net_99 : decode cX3_net 99 = .ok (.iconst 1, 1) := by decide +kernel
theorem dX3_net_100 : decode cX3_net 100 = .ok (.isub, 1) := by decide +kernel
theorem dX3_net_101 : decode cX3_net 101 = .ok (.ireturn, 1) := by decide +kernel
theorem dX3_link_0 : decode cX3_link 0 = .ok (.aload_n 0, 1) := by decide +kernel
theorem dX3_link_1 : decode cX3_link 1 = .ok (.aload_n 0, 1) := by decide +kernel
theorem dX3_link_2 : decode cX3_link 2 = .ok (.iload_n 1, 1) := by decide +kernel
theorem dX3_link_3 : decode cX3_link 3 = .ok (.invokevirtual 62, 3) := by decide +kernel
theorem dX3_link_6 : decode cX3_link 6 = .ok (.ifCond .eq 7, 3) := by decide +kernel
theorem dX3_link_9 : decode cX3_link 9 = .ok (.iconst 0, 1) := by decide +kernel
theorem dX3_link_10 : decode cX3_link 10 = .ok (.goto 4, 3) := by decide +kernel
theorem dX3_link_13 : decode cX3_link 13 = .ok (.iconst 1, 1) := by decide +kernel
theorem dX3_link_14 : decode cX3_link 14 = .ok (.putfield 52, 3) := by decide +kernel
theorem dX3_link_17 : decode cX3_link 17 = .ok (.aload_n 0, 1) := by decide +kernel
theorem dX3_link_18 : decode cX3_link 18 = .ok (.getfield 52, 3) := by decide +kernel
theorem dX3_link_21 : decode cX3_link 21 = .ok (.ifCond .le 5, 3) := by decide +kernel
theorem dX3_link_24 : decode cX3_link 24 = .ok (.iconst 0, 1) := by decide +kernel
theorem dX3_link_25 : decode cX3_link 25 = .ok (.ireturn, 1) := by decide +kernel
theorem dX3_link_26 : decode cX3_link 26 = .ok (.iconst 0, 1) := by decide +kernel
theorem dX3_link_27 : decode cX3_link 27 = .ok (.istore_n 3, 1) := by decide +kernel
theorem dX3_link_28 : decode cX3_link 28 = .ok (.aload_n 0, 1) := by decide +kernel
theorem dX3_link_29 : decode cX3_link 29 = .ok (.getfield 59, 3) := by decide +kernel
theorem dX3_link_32 : decode cX3_link 32 = .ok (.iconst 1, 1) := by decide +kernel
theorem dX3_link_33 : decode cX3_link 33 = .ok (.isub, 1) := by decide +kernel
theorem dX3_link_34 : decode cX3_link 34 = .ok (.istore 4, 2) := by decide +kernel
theorem dX3_link_36 : decode cX3_link 36 = .ok (.iload 4, 2) := by decide +kernel
theorem dX3_link_38 : decode cX3_link 38 = .ok (.ifCond .lt 50, 3) := by decide +kernel
theorem dX3_link_41 : decode cX3_link 41 = .ok (.aload_n 0, 1) := by decide +kernel
theorem dX3_link_42 : decode cX3_link 42 = .ok (.getfield 16, 3) := by decide +kernel
theorem dX3_link_45 : decode cX3_link 45 = .ok (.iload_n 1, 1) := by decide +kernel
theorem dX3_link_46 : decode cX3_link 46 = .ok (.baload, 1) := by decide +kernel
theorem dX3_link_47 : decode cX3_link 47 = .ok (.ifCond .eq 41, 3) := by decide +kernel
theorem dX3_link_50 : decode cX3_link 50 = .ok (.iload_n 2, 1) := by decide +kernel
theorem dX3_link_51 : decode cX3_link 51 = .ok (.ifCond .ne 37, 3) := by decide +kernel
theorem dX3_link_54 : decode cX3_link 54 = .ok (.aload_n 0, 1) := by decide +kernel
theorem dX3_link_55 : decode cX3_link 55 = .ok (.getfield 38, 3) := by decide +kernel
theorem dX3_link_58 : decode cX3_link 58 = .ok (.bipush 8, 2) := by decide +kernel
theorem dX3_link_60 : decode cX3_link 60 = .ok (.aload_n 0, 1) := by decide +kernel
theorem dX3_link_61 : decode cX3_link 61 = .ok (.getfield 32, 3) := by decide +kernel
theorem dX3_link_64 : decode cX3_link 64 = .ok (.iload 4, 2) := by decide +kernel
theorem dX3_link_66 : decode cX3_link 66 = .ok (.iaload, 1) := by decide +kernel
theorem dX3_link_67 : decode cX3_link 67 = .ok (.imul, 1) := by decide +kernel
theorem dX3_link_68 : decode cX3_link 68 = .ok (.iaload, 1) := by decide +kernel
theorem dX3_link_69 : decode cX3_link 69 = .ok (.iload_n 1, 1) := by decide +kernel
theorem dX3_link_70 : decode cX3_link 70 = .ok (.if_icmp .ne 12, 3) := by decide +kernel
theorem dX3_link_73 : decode cX3_link 73 = .ok (.aload_n 0, 1) := by decide +kernel
theorem dX3_link_74 : decode cX3_link 74 = .ok (.iload 4, 2) := by decide +kernel
theorem dX3_link_76 : decode cX3_link 76 = .ok (.invokevirtual 66, 3) := by decide +kernel
theorem dX3_link_79 : decode cX3_link 79 = .ok (.iinc 3 1, 3) := by decide +kernel
theorem dX3_link_82 : decode cX3_link 82 = .ok (.iinc 4 (-1), 3) := by decide +kernel
theorem dX3_link_85 : decode cX3_link 85 = .ok (.goto (-49), 3) := by decide +kernel
theorem dX3_link_88 : decode cX3_link 88 = .ok (.aload_n 0, 1) := by decide +kernel
theorem dX3_link_89 : decode cX3_link 89 = .ok (.getfield 16, 3) := by decide +kernel
theorem dX3_link_92 : decode cX3_link 92 = .ok (.iload_n 1, 1) := by decide +kernel
theorem dX3_link_93 : decode cX3_link 93 = .ok (.iload_n 2, 1) := by decide +kernel
theorem dX3_link_94 : decode cX3_link 94 = .ok (.bastore, 1) := by decide +kernel
theorem dX3_link_95 : decode cX3_link 95 = .ok (.iload_n 3, 1) := by decide +kernel
theorem dX3_link_96 : decode cX3_link 96 = .ok (.ireturn, 1) := by decide +kernel
theorem dX3_isNet_0 : decode cX3_isNet 0 = .ok (.iload_n 1, 1) := by decide +kernel
theorem dX3_isNet_1 : decode cX3_isNet 1 = .ok (.ifCond .lt 15, 3) := by decide +kernel
theorem dX3_isNet_4 : decode cX3_isNet 4 = .ok (.iload_n 1, 1) := by decide +kernel
theorem dX3_isNet_5 : decode cX3_isNet 5 = .ok (.aload_n 0, 1) := by decide +kernel
theorem dX3_isNet_6 : decode cX3_isNet 6 = .ok (.getfield 56, 3) := by decide +kernel
theorem dX3_isNet_9 : decode cX3_isNet 9 = .ok (.if_icmp .ge 7, 3) := by decide +kernel
theorem dX3_isNet_12 : decode cX3_isNet 12 = .ok (.iconst 1, 1) := by decide +kernel
theorem dX3_isNet_13 : decode cX3_isNet 13 = .ok (.goto 4, 3) := by decide +kernel
theorem dX3_isNet_16 : decode cX3_isNet 16 = .ok (.iconst 0, 1) := by decide +kernel
theorem dX3_isNet_17 : decode cX3_isNet 17 = .ok (.ireturn, 1) := by decide +kernel
theorem dX3_remove_0 : decode cX3_remove 0 = .ok (.aload_n 0, 1) := by decide +kernel
theorem dX3_remove_1 : decode cX3_remove 1 = .ok (.getfield 35, 3) := by decide +kernel
theorem dX3_remove_4 : decode cX3_remove 4 = .ok (.aload_n 0, 1) := by decide +kernel
theorem dX3_remove_5 : decode cX3_remove 5 = .ok (.getfield 32, 3) := by decide +kernel
theorem dX3_remove_8 : decode cX3_remove 8 = .ok (.iload_n 1, 1) := by decide +kernel
theorem dX3_remove_9 : decode cX3_remove 9 = .ok (.iaload, 1) := by decide +kernel
theorem dX3_remove_10 : decode cX3_remove 10 = .ok (.iconst 0, 1) := by decide +kernel
theorem dX3_remove_11 : decode cX3_remove 11 = .ok (.bastore, 1) := by decide +kernel
theorem dX3_remove_12 : decode cX3_remove 12 = .ok (.aload_n 0, 1) := by decide +kernel
theorem dX3_remove_13 : decode cX3_remove 13 = .ok (.dup, 1) := by decide +kernel
theorem dX3_remove_14 : decode cX3_remove 14 = .ok (.getfield 59, 3) := by decide +kernel
theorem dX3_remove_17 : decode cX3_remove 17 = .ok (.iconst 1, 1) := by decide +kernel
theorem dX3_remove_18 : decode cX3_remove 18 = .ok (.isub, 1) := by decide +kernel
theorem dX3_remove_19 : decode cX3_remove 19 = .ok (.putfield 59, 3) := by decide +kernel
theorem dX3_remove_22 : decode cX3_remove 22 = .ok (.iload_n 1, 1) := by decide +kernel
theorem dX3_remove_23 : decode cX3_remove 23 = .ok (.istore_n 2, 1) := by decide +kernel
theorem dX3_remove_24 : decode cX3_remove 24 = .ok (.iload_n 2, 1) := by decide +kernel
theorem dX3_remove_25 : decode cX3_remove 25 = .ok (.aload_n 0, 1) := by decide +kernel
theorem dX3_remove_26 : decode cX3_remove 26 = .ok (.getfield 59, 3) := by decide +kernel
theorem dX3_remove_29 : decode cX3_remove 29 = .ok (.if_icmp .ge 23, 3) := by decide +kernel
theorem dX3_remove_32 : decode cX3_remove 32 = .ok (.aload_n 0, 1) := by decide +kernel
theorem dX3_remove_33 : decode cX3_remove 33 = .ok (.getfield 32, 3) := by decide +kernel
theorem dX3_remove_36 : decode cX3_remove 36 = .ok (.iload_n 2, 1) := by decide +kernel
theorem dX3_remove_37 : decode cX3_remove 37 = .ok (.aload_n 0, 1) := by decide +kernel
theorem dX3_remove_38 : decode cX3_remove 38 = .ok (.getfield 32, 3) := by decide +kernel
theorem dX3_remove_41 : decode cX3_remove 41 = .ok (.iload_n 2, 1) := by decide +kernel
theorem dX3_remove_42 : decode cX3_remove 42 = .ok (.iconst 1, 1) := by decide +kernel
theorem dX3_remove_43 : decode cX3_remove 43 = .ok (.iadd, 1) := by decide +kernel
theorem dX3_remove_44 : decode cX3_remove 44 = .ok (.iaload, 1) := by decide +kernel
theorem dX3_remove_45 : decode cX3_remove 45 = .ok (.iastore, 1) := by decide +kernel
theorem dX3_remove_46 : decode cX3_remove 46 = .ok (.iinc 2 1, 3) := by decide +kernel
theorem dX3_remove_49 : decode cX3_remove 49 = .ok (.goto (-25), 3) := by decide +kernel
theorem dX3_remove_52 : decode cX3_remove 52 = .ok (.return_, 1) := by decide +kernel
theorem dX3_fates_0 : decode cX3_fates 0 = .ok (.aload_n 0, 1) := by decide +kernel
theorem dX3_fates_1 : decode cX3_fates 1 = .ok (.aload_n 0, 1) := by decide +kernel
theorem dX3_fates_2 : decode cX3_fates 2 = .ok (.iload_n 1, 1) := by decide +kernel
theorem dX3_fates_3 : decode cX3_fates 3 = .ok (.invokevirtual 62, 3) := by decide +kernel
theorem dX3_fates_6 : decode cX3_fates 6 = .ok (.ifCond .eq 16, 3) := by decide +kernel
theorem dX3_fates_9 : decode cX3_fates 9 = .ok (.iload 4, 2) := by decide +kernel
theorem dX3_fates_11 : decode cX3_fates 11 = .ok (.iconst 1, 1) := by decide +kernel
theorem dX3_fates_12 : decode cX3_fates 12 = .ok (.if_icmp .lt 10, 3) := by decide +kernel
theorem dX3_fates_15 : decode cX3_fates 15 = .ok (.iload 4, 2) := by decide +kernel
theorem dX3_fates_17 : decode cX3_fates 17 = .ok (.bipush 32, 2) := by decide +kernel
theorem dX3_fates_19 : decode cX3_fates 19 = .ok (.if_icmp .le 7, 3) := by decide +kernel
theorem dX3_fates_22 : decode cX3_fates 22 = .ok (.iconst 1, 1) := by decide +kernel
theorem dX3_fates_23 : decode cX3_fates 23 = .ok (.goto 4, 3) := by decide +kernel
theorem dX3_fates_26 : decode cX3_fates 26 = .ok (.iconst 0, 1) := by decide +kernel
theorem dX3_fates_27 : decode cX3_fates 27 = .ok (.putfield 52, 3) := by decide +kernel
theorem dX3_fates_30 : decode cX3_fates 30 = .ok (.aload_n 0, 1) := by decide +kernel
theorem dX3_fates_31 : decode cX3_fates 31 = .ok (.getfield 52, 3) := by decide +kernel
theorem dX3_fates_34 : decode cX3_fates 34 = .ok (.ifCond .le 5, 3) := by decide +kernel
theorem dX3_fates_37 : decode cX3_fates 37 = .ok (.iconst 0, 1) := by decide +kernel
theorem dX3_fates_38 : decode cX3_fates 38 = .ok (.ireturn, 1) := by decide +kernel
theorem dX3_fates_39 : decode cX3_fates 39 = .ok (.aload_n 0, 1) := by decide +kernel
theorem dX3_fates_40 : decode cX3_fates 40 = .ok (.aload_n 0, 1) := by decide +kernel
theorem dX3_fates_41 : decode cX3_fates 41 = .ok (.getfield 20, 3) := by decide +kernel
theorem dX3_fates_44 : decode cX3_fates 44 = .ok (.iload_n 1, 1) := by decide +kernel
theorem dX3_fates_45 : decode cX3_fates 45 = .ok (.iaload, 1) := by decide +kernel
theorem dX3_fates_46 : decode cX3_fates 46 = .ok (.iload 4, 2) := by decide +kernel
theorem dX3_fates_48 : decode cX3_fates 48 = .ok (.iadd, 1) := by decide +kernel
theorem dX3_fates_49 : decode cX3_fates 49 = .ok (.bipush 64, 2) := by decide +kernel
theorem dX3_fates_51 : decode cX3_fates 51 = .ok (.if_icmp .le 7, 3) := by decide +kernel
theorem dX3_fates_54 : decode cX3_fates 54 = .ok (.iconst 2, 1) := by decide +kernel
theorem dX3_fates_55 : decode cX3_fates 55 = .ok (.goto 4, 3) := by decide +kernel
theorem dX3_fates_58 : decode cX3_fates 58 = .ok (.iconst 0, 1) := by decide +kernel
theorem dX3_fates_59 : decode cX3_fates 59 = .ok (.putfield 52, 3) := by decide +kernel
theorem dX3_fates_62 : decode cX3_fates 62 = .ok (.aload_n 0, 1) := by decide +kernel
theorem dX3_fates_63 : decode cX3_fates 63 = .ok (.getfield 52, 3) := by decide +kernel
theorem dX3_fates_66 : decode cX3_fates 66 = .ok (.ifCond .le 5, 3) := by decide +kernel
theorem dX3_fates_69 : decode cX3_fates 69 = .ok (.iconst 0, 1) := by decide +kernel
theorem dX3_fates_70 : decode cX3_fates 70 = .ok (.ireturn, 1) := by decide +kernel
theorem dX3_fates_71 : decode cX3_fates 71 = .ok (.iconst 0, 1) := by decide +kernel
theorem dX3_fates_72 : decode cX3_fates 72 = .ok (.istore 5, 2) := by decide +kernel
theorem dX3_fates_74 : decode cX3_fates 74 = .ok (.iload 5, 2) := by decide +kernel
theorem dX3_fates_76 : decode cX3_fates 76 = .ok (.iload 4, 2) := by decide +kernel
theorem dX3_fates_78 : decode cX3_fates 78 = .ok (.if_icmp .ge 46, 3) := by decide +kernel
theorem dX3_fates_81 : decode cX3_fates 81 = .ok (.aload_n 0, 1) := by decide +kernel
theorem dX3_fates_82 : decode cX3_fates 82 = .ok (.getfield 23, 3) := by decide +kernel
theorem dX3_fates_85 : decode cX3_fates 85 = .ok (.bipush 64, 2) := by decide +kernel
theorem dX3_fates_87 : decode cX3_fates 87 = .ok (.iload_n 1, 1) := by decide +kernel
theorem dX3_fates_88 : decode cX3_fates 88 = .ok (.imul, 1) := by decide +kernel
theorem dX3_fates_89 : decode cX3_fates 89 = .ok (.aload_n 0, 1) := by decide +kernel
theorem dX3_fates_90 : decode cX3_fates 90 = .ok (.getfield 20, 3) := by decide +kernel
theorem dX3_fates_93 : decode cX3_fates 93 = .ok (.iload_n 1, 1) := by decide +kernel
theorem dX3_fates_94 : decode cX3_fates 94 = .ok (.iaload, 1) := by decide +kernel
theorem dX3_fates_95 : decode cX3_fates 95 = .ok (.iadd, 1) := by decide +kernel
theorem dX3_fates_96 : decode cX3_fates 96 = .ok (.lload_n 2, 1) := by decide +kernel
theorem dX3_fates_97 : decode cX3_fates 97 = .ok (.iconst 2, 1) := by decide +kernel
theorem dX3_fates_98 : decode cX3_fates 98 = .ok (.iload 5, 2) := by decide +kernel
theorem dX3_fates_100 : decode cX3_fates 100 = .ok (.imul, 1) := by decide +kernel
theorem dX3_fates_101 : decode cX3_fates 101 = .ok (.lshr, 1) := by decide +kernel
theorem dX3_fates_102 : decode cX3_fates 102 = .ok (.ldc2_w 70, 3) := by decide +kernel
theorem dX3_fates_105 : decode cX3_fates 105 = .ok (.land, 1) := by decide +kernel
theorem dX3_fates_106 : decode cX3_fates 106 = .ok (.l2i, 1) := by decide +kernel
theorem dX3_fates_107 : decode cX3_fates 107 = .ok (.iastore, 1) := by decide +kernel
theorem dX3_fates_108 : decode cX3_fates 108 = .ok (.aload_n 0, 1) := by decide +kernel
theorem dX3_fates_109 : decode cX3_fates 109 = .ok (.getfield 20, 3) := by decide +kernel
theorem dX3_fates_112 : decode cX3_fates 112 = .ok (.iload_n 1, 1) := by decide +kernel
theorem dX3_fates_113 : decode cX3_fates 113 = .ok (.dup2, 1) := by decide +kernel
theorem dX3_fates_114 : decode cX3_fates 114 = .ok (.iaload, 1) := by decide +kernel
theorem dX3_fates_115 : decode cX3_fates 115 = .ok (.iconst 1, 1) := by decide +kernel
theorem dX3_fates_116 : decode cX3_fates 116 = .ok (.iadd, 1) := by decide +kernel
theorem dX3_fates_117 : decode cX3_fates 117 = .ok (.iastore, 1) := by decide +kernel
theorem dX3_fates_118 : decode cX3_fates 118 = .ok (.iinc 5 1, 3) := by decide +kernel
theorem dX3_fates_121 : decode cX3_fates 121 = .ok (.goto (-47), 3) := by decide +kernel
theorem dX3_fates_124 : decode cX3_fates 124 = .ok (.aload_n 0, 1) := by decide +kernel
theorem dX3_fates_125 : decode cX3_fates 125 = .ok (.getfield 20, 3) := by decide +kernel
theorem dX3_fates_128 : decode cX3_fates 128 = .ok (.iload_n 1, 1) := by decide +kernel
theorem dX3_fates_129 : decode cX3_fates 129 = .ok (.iaload, 1) := by decide +kernel
theorem dX3_fates_130 : decode cX3_fates 130 = .ok (.ireturn, 1) := by decide +kernel
theorem dX3_feed_0 : decode cX3_feed 0 = .ok (.aload_n 0, 1) := by decide +kernel
theorem dX3_feed_1 : decode cX3_feed 1 = .ok (.iload_n 3, 1) := by decide +kernel
theorem dX3_feed_2 : decode cX3_feed 2 = .ok (.iconst 1, 1) := by decide +kernel
theorem dX3_feed_3 : decode cX3_feed 3 = .ok (.if_icmp .lt 9, 3) := by decide +kernel
theorem dX3_feed_6 : decode cX3_feed 6 = .ok (.iload_n 3, 1) := by decide +kernel
theorem dX3_feed_7 : decode cX3_feed 7 = .ok (.bipush 8, 2) := by decide +kernel
theorem dX3_feed_9 : decode cX3_feed 9 = .ok (.if_icmp .le 7, 3) := by decide +kernel
theorem dX3_feed_12 : decode cX3_feed 12 = .ok (.iconst 1, 1) := by decide +kernel
theorem dX3_feed_13 : decode cX3_feed 13 = .ok (.goto 20, 3) := by decide +kernel
theorem dX3_feed_16 : decode cX3_feed 16 = .ok (.aload_n 0, 1) := by decide +kernel
theorem dX3_feed_17 : decode cX3_feed 17 = .ok (.getfield 72, 3) := by decide +kernel
theorem dX3_feed_20 : decode cX3_feed 20 = .ok (.iload_n 3, 1) := by decide +kernel
theorem dX3_feed_21 : decode cX3_feed 21 = .ok (.iadd, 1) := by decide +kernel
theorem dX3_feed_22 : decode cX3_feed 22 = .ok (.sipush 1480, 3) := by decide +kernel
theorem dX3_feed_25 : decode cX3_feed 25 = .ok (.if_icmp .le 7, 3) := by decide +kernel
theorem dX3_feed_28 : decode cX3_feed 28 = .ok (.iconst 2, 1) := by decide +kernel
theorem dX3_feed_29 : decode cX3_feed 29 = .ok (.goto 4, 3) := by decide +kernel
theorem dX3_feed_32 : decode cX3_feed 32 = .ok (.iconst 0, 1) := by decide +kernel
theorem dX3_feed_33 : decode cX3_feed 33 = .ok (.putfield 52, 3) := by decide +kernel
theorem dX3_feed_36 : decode cX3_feed 36 = .ok (.aload_n 0, 1) := by decide +kernel
theorem dX3_feed_37 : decode cX3_feed 37 = .ok (.getfield 52, 3) := by decide +kernel
theorem dX3_feed_40 : decode cX3_feed 40 = .ok (.ifCond .le 5, 3) := by decide +kernel
theorem dX3_feed_43 : decode cX3_feed 43 = .ok (.iconst 0, 1) := by decide +kernel
theorem dX3_feed_44 : decode cX3_feed 44 = .ok (.ireturn, 1) := by decide +kernel
theorem dX3_feed_45 : decode cX3_feed 45 = .ok (.iload_n 3, 1) := by decide +kernel
theorem dX3_feed_46 : decode cX3_feed 46 = .ok (.iconst 1, 1) := by decide +kernel
theorem dX3_feed_47 : decode cX3_feed 47 = .ok (.isub, 1) := by decide +kernel
theorem dX3_feed_48 : decode cX3_feed 48 = .ok (.istore 4, 2) := by decide +kernel
theorem dX3_feed_50 : decode cX3_feed 50 = .ok (.iload 4, 2) := by decide +kernel
theorem dX3_feed_52 : decode cX3_feed 52 = .ok (.ifCond .lt 40, 3) := by decide +kernel
theorem dX3_feed_55 : decode cX3_feed 55 = .ok (.aload_n 0, 1) := by decide +kernel
theorem dX3_feed_56 : decode cX3_feed 56 = .ok (.getfield 29, 3) := by decide +kernel
theorem dX3_feed_59 : decode cX3_feed 59 = .ok (.aload_n 0, 1) := by decide +kernel
theorem dX3_feed_60 : decode cX3_feed 60 = .ok (.getfield 72, 3) := by decide +kernel
theorem dX3_feed_63 : decode cX3_feed 63 = .ok (.lload_n 1, 1) := by decide +kernel
theorem dX3_feed_64 : decode cX3_feed 64 = .ok (.bipush 8, 2) := by decide +kernel
theorem dX3_feed_66 : decode cX3_feed 66 = .ok (.iload 4, 2) := by decide +kernel
theorem dX3_feed_68 : decode cX3_feed 68 = .ok (.imul, 1) := by decide +kernel
theorem dX3_feed_69 : decode cX3_feed 69 = .ok (.lshr, 1) := by decide +kernel
theorem dX3_feed_70 : decode cX3_feed 70 = .ok (.ldc2_w 75, 3) := by decide +kernel
theorem dX3_feed_73 : decode cX3_feed 73 = .ok (.land, 1) := by decide +kernel
theorem dX3_feed_74 : decode cX3_feed 74 = .ok (.l2i, 1) := by decide +kernel
theorem dX3_feed_75 : decode cX3_feed 75 = .ok (.iastore, 1) := by decide +kernel
theorem dX3_feed_76 : decode cX3_feed 76 = .ok (.aload_n 0, 1) := by decide +kernel
theorem dX3_feed_77 : decode cX3_feed 77 = .ok (.dup, 1) := by decide +kernel
theorem dX3_feed_78 : decode cX3_feed 78 = .ok (.getfield 72, 3) := by decide +kernel
theorem dX3_feed_81 : decode cX3_feed 81 = .ok (.iconst 1, 1) := by decide +kernel
theorem dX3_feed_82 : decode cX3_feed 82 = .ok (.iadd, 1) := by decide +kernel
theorem dX3_feed_83 : decode cX3_feed 83 = .ok (.putfield 72, 3) := by decide +kernel
theorem dX3_feed_86 : decode cX3_feed 86 = .ok (.iinc 4 (-1), 3) := by decide +kernel
theorem dX3_feed_89 : decode cX3_feed 89 = .ok (.goto (-39), 3) := by decide +kernel
theorem dX3_feed_92 : decode cX3_feed 92 = .ok (.aload_n 0, 1) := by decide +kernel
theorem dX3_feed_93 : decode cX3_feed 93 = .ok (.getfield 72, 3) := by decide +kernel
theorem dX3_feed_96 : decode cX3_feed 96 = .ok (.ireturn, 1) := by decide +kernel
theorem dX3_put_0 : decode cX3_put 0 = .ok (.aload_n 0, 1) := by decide +kernel
theorem dX3_put_1 : decode cX3_put 1 = .ok (.aload_n 0, 1) := by decide +kernel
theorem dX3_put_2 : decode cX3_put 2 = .ok (.iload_n 1, 1) := by decide +kernel
theorem dX3_put_3 : decode cX3_put 3 = .ok (.invokevirtual 62, 3) := by decide +kernel
theorem dX3_put_6 : decode cX3_put 6 = .ok (.ifCond .eq 29, 3) := by decide +kernel
theorem dX3_put_9 : decode cX3_put 9 = .ok (.iload_n 2, 1) := by decide +kernel
theorem dX3_put_10 : decode cX3_put 10 = .ok (.ifCond .lt 25, 3) := by decide +kernel
theorem dX3_put_13 : decode cX3_put 13 = .ok (.iload_n 2, 1) := by decide +kernel
theorem dX3_put_14 : decode cX3_put 14 = .ok (.bipush 7, 2) := by decide +kernel
theorem dX3_put_16 : decode cX3_put 16 = .ok (.if_icmp .gt 19, 3) := by decide +kernel
theorem dX3_put_19 : decode cX3_put 19 = .ok (.iload_n 3, 1) := by decide +kernel
theorem dX3_put_20 : decode cX3_put 20 = .ok (.iconst (-1), 1) := by decide +kernel
theorem dX3_put_21 : decode cX3_put 21 = .ok (.if_icmp .lt 14, 3) := by decide +kernel
theorem dX3_put_24 : decode cX3_put 24 = .ok (.iload_n 3, 1) := by decide +kernel
theorem dX3_put_25 : decode cX3_put 25 = .ok (.bipush 7, 2) := by decide +kernel
theorem dX3_put_27 : decode cX3_put 27 = .ok (.if_icmp .gt 8, 3) := by decide +kernel
theorem dX3_put_30 : decode cX3_put 30 = .ok (.iload_n 3, 1) := by decide +kernel
theorem dX3_put_31 : decode cX3_put 31 = .ok (.iload_n 2, 1) := by decide +kernel
theorem dX3_put_32 : decode cX3_put 32 = .ok (.if_icmp .ne 7, 3) := by decide +kernel
theorem dX3_put_35 : decode cX3_put 35 = .ok (.iconst 1, 1) := by decide +kernel
theorem dX3_put_36 : decode cX3_put 36 = .ok (.goto 4, 3) := by decide +kernel
theorem dX3_put_39 : decode cX3_put 39 = .ok (.iconst 0, 1) := by decide +kernel
theorem dX3_put_40 : decode cX3_put 40 = .ok (.putfield 52, 3) := by decide +kernel
theorem dX3_put_43 : decode cX3_put 43 = .ok (.aload_n 0, 1) := by decide +kernel
theorem dX3_put_44 : decode cX3_put 44 = .ok (.getfield 52, 3) := by decide +kernel
theorem dX3_put_47 : decode cX3_put 47 = .ok (.ifCond .le 5, 3) := by decide +kernel
theorem dX3_put_50 : decode cX3_put 50 = .ok (.iconst 0, 1) := by decide +kernel
theorem dX3_put_51 : decode cX3_put 51 = .ok (.ireturn, 1) := by decide +kernel
theorem dX3_put_52 : decode cX3_put 52 = .ok (.aload_n 0, 1) := by decide +kernel
theorem dX3_put_53 : decode cX3_put 53 = .ok (.getfield 7, 3) := by decide +kernel
theorem dX3_put_56 : decode cX3_put 56 = .ok (.iload_n 1, 1) := by decide +kernel
theorem dX3_put_57 : decode cX3_put 57 = .ok (.iaload, 1) := by decide +kernel
theorem dX3_put_58 : decode cX3_put 58 = .ok (.bipush 20, 2) := by decide +kernel
theorem dX3_put_60 : decode cX3_put 60 = .ok (.isub, 1) := by decide +kernel
theorem dX3_put_61 : decode cX3_put 61 = .ok (.istore 5, 2) := by decide +kernel
theorem dX3_put_63 : decode cX3_put 63 = .ok (.iconst 0, 1) := by decide +kernel
theorem dX3_put_64 : decode cX3_put 64 = .ok (.istore 6, 2) := by decide +kernel
theorem dX3_put_66 : decode cX3_put 66 = .ok (.aload_n 0, 1) := by decide +kernel
theorem dX3_put_67 : decode cX3_put 67 = .ok (.getfield 72, 3) := by decide +kernel
theorem dX3_put_70 : decode cX3_put 70 = .ok (.iload 5, 2) := by decide +kernel
theorem dX3_put_72 : decode cX3_put 72 = .ok (.if_icmp .gt 20, 3) := by decide +kernel
theorem dX3_put_75 : decode cX3_put 75 = .ok (.aload_n 0, 1) := by decide +kernel
theorem dX3_put_76 : decode cX3_put 76 = .ok (.iload_n 1, 1) := by decide +kernel
theorem dX3_put_77 : decode cX3_put 77 = .ok (.iload_n 2, 1) := by decide +kernel
theorem dX3_put_78 : decode cX3_put 78 = .ok (.iload_n 3, 1) := by decide +kernel
theorem dX3_put_79 : decode cX3_put 79 = .ok (.iload 4, 2) := by decide +kernel
theorem dX3_put_81 : decode cX3_put 81 = .ok (.iconst 0, 1) := by decide +kernel
theorem dX3_put_82 : decode cX3_put 82 = .ok (.aload_n 0, 1) := by decide +kernel
theorem dX3_put_83 : decode cX3_put 83 = .ok (.getfield 72, 3) := by decide +kernel
theorem dX3_put_86 : decode cX3_put 86 = .ok (.invokevirtual 90, 3) := by decide +kernel
theorem dX3_put_89 : decode cX3_put 89 = .ok (.goto 73, 3) := by decide +kernel
theorem dX3_put_92 : decode cX3_put 92 = .ok (.iload 5, 2) := by decide +kernel
theorem dX3_put_94 : decode cX3_put 94 = .ok (.bipush 8, 2) := by decide +kernel
theorem dX3_put_96 : decode cX3_put 96 = .ok (.idiv, 1) := by decide +kernel
theorem dX3_put_97 : decode cX3_put 97 = .ok (.bipush 8, 2) := by decide +kernel
theorem dX3_put_99 : decode cX3_put 99 = .ok (.imul, 1) := by decide +kernel
theorem dX3_put_100 : decode cX3_put 100 = .ok (.istore 7, 2) := by decide +kernel
theorem dX3_put_102 : decode cX3_put 102 = .ok (.iconst 0, 1) := by decide +kernel
theorem dX3_put_103 : decode cX3_put 103 = .ok (.istore 8, 2) := by decide +kernel
theorem dX3_put_105 : decode cX3_put 105 = .ok (.iload 8, 2) := by decide +kernel
theorem dX3_put_107 : decode cX3_put 107 = .ok (.aload_n 0, 1) := by decide +kernel
theorem dX3_put_108 : decode cX3_put 108 = .ok (.getfield 72, 3) := by decide +kernel
theorem dX3_put_111 : decode cX3_put 111 = .ok (.if_icmp .ge 51, 3) := by decide +kernel
theorem dX3_put_114 : decode cX3_put 114 = .ok (.aload_n 0, 1) := by decide +kernel
theorem dX3_put_115 : decode cX3_put 115 = .ok (.iload_n 1, 1) := by decide +kernel
theorem dX3_put_116 : decode cX3_put 116 = .ok (.iload_n 2, 1) := by decide +kernel
theorem dX3_put_117 : decode cX3_put 117 = .ok (.iload_n 3, 1) := by decide +kernel
theorem dX3_put_118 : decode cX3_put 118 = .ok (.iload 4, 2) := by decide +kernel
theorem dX3_put_120 : decode cX3_put 120 = .ok (.iload 8, 2) := by decide +kernel
theorem dX3_put_122 : decode cX3_put 122 = .ok (.aload_n 0, 1) := by decide +kernel
theorem dX3_put_123 : decode cX3_put 123 = .ok (.getfield 72, 3) := by decide +kernel
theorem dX3_put_126 : decode cX3_put 126 = .ok (.iload 8, 2) := by decide +kernel
theorem dX3_put_128 : decode cX3_put 128 = .ok (.isub, 1) := by decide +kernel
theorem dX3_put_129 : decode cX3_put 129 = .ok (.iload 7, 2) := by decide +kernel
theorem dX3_put_131 : decode cX3_put 131 = .ok (.if_icmp .ge 13, 3) := by decide +kernel
theorem dX3_put_134 : decode cX3_put 134 = .ok (.aload_n 0, 1) := by decide +kernel
theorem dX3_put_135 : decode cX3_put 135 = .ok (.getfield 72, 3) := by decide +kernel
theorem dX3_put_138 : decode cX3_put 138 = .ok (.iload 8, 2) := by decide +kernel
theorem dX3_put_140 : decode cX3_put 140 = .ok (.isub, 1) := by decide +kernel
theorem dX3_put_141 : decode cX3_put 141 = .ok (.goto 5, 3) := by decide +kernel
theorem dX3_put_144 : decode cX3_put 144 = .ok (.iload 7, 2) := by decide +kernel
theorem dX3_put_146 : decode cX3_put 146 = .ok (.invokevirtual 90, 3) := by decide +kernel
theorem dX3_put_149 : decode cX3_put 149 = .ok (.iinc 6 1, 3) := by decide +kernel
theorem dX3_put_152 : decode cX3_put 152 = .ok (.iload 8, 2) := by decide +kernel
theorem dX3_put_154 : decode cX3_put 154 = .ok (.iload 7, 2) := by decide +kernel
theorem dX3_put_156 : decode cX3_put 156 = .ok (.iadd, 1) := by decide +kernel
theorem dX3_put_157 : decode cX3_put 157 = .ok (.istore 8, 2) := by decide +kernel
theorem dX3_put_159 : decode cX3_put 159 = .ok (.goto (-54), 3) := by decide +kernel
theorem dX3_put_162 : decode cX3_put 162 = .ok (.aload_n 0, 1) := by decide +kernel
theorem dX3_put_163 : decode cX3_put 163 = .ok (.iconst 0, 1) := by decide +kernel
theorem dX3_put_164 : decode cX3_put 164 = .ok (.putfield 72, 3) := by decide +kernel
theorem dX3_put_167 : decode cX3_put 167 = .ok (.iload 6, 2) := by decide +kernel
theorem dX3_put_169 : decode cX3_put 169 = .ok (.ireturn, 1) := by decide +kernel
theorem dX3_frame_0 : decode cX3_frame 0 = .ok (.aload_n 0, 1) := by decide +kernel
theorem dX3_frame_1 : decode cX3_frame 1 = .ok (.getfield 26, 3) := by decide +kernel
theorem dX3_frame_4 : decode cX3_frame 4 = .ok (.iload_n 1, 1) := by decide +kernel
theorem dX3_frame_5 : decode cX3_frame 5 = .ok (.dup2, 1) := by decide +kernel
theorem dX3_frame_6 : decode cX3_frame 6 = .ok (.iaload, 1) := by decide +kernel
theorem dX3_frame_7 : decode cX3_frame 7 = .ok (.iconst 1, 1) := by decide +kernel
theorem dX3_frame_8 : decode cX3_frame 8 = .ok (.iadd, 1) := by decide +kernel
theorem dX3_frame_9 : decode cX3_frame 9 = .ok (.iastore, 1) := by decide +kernel
theorem dX3_frame_10 : decode cX3_frame 10 = .ok (.aload_n 0, 1) := by decide +kernel
theorem dX3_frame_11 : decode cX3_frame 11 = .ok (.getfield 16, 3) := by decide +kernel
theorem dX3_frame_14 : decode cX3_frame 14 = .ok (.iload_n 1, 1) := by decide +kernel
theorem dX3_frame_15 : decode cX3_frame 15 = .ok (.baload, 1) := by decide +kernel
theorem dX3_frame_16 : decode cX3_frame 16 = .ok (.ifCond .ne 4, 3) := by decide +kernel
theorem dX3_frame_19 : decode cX3_frame 19 = .ok (.return_, 1) := by decide +kernel
theorem dX3_frame_20 : decode cX3_frame 20 = .ok (.aload_n 0, 1) := by decide +kernel
theorem dX3_frame_21 : decode cX3_frame 21 = .ok (.iload_n 1, 1) := by decide +kernel
theorem dX3_frame_22 : decode cX3_frame 22 = .ok (.invokevirtual 79, 3) := by decide +kernel
theorem dX3_frame_25 : decode cX3_frame 25 = .ok (.istore 7, 2) := by decide +kernel
theorem dX3_frame_27 : decode cX3_frame 27 = .ok (.sipush 512, 3) := by decide +kernel
theorem dX3_frame_30 : decode cX3_frame 30 = .ok (.aload_n 0, 1) := by decide +kernel
theorem dX3_frame_31 : decode cX3_frame 31 = .ok (.getfield 59, 3) := by decide +kernel
theorem dX3_frame_34 : decode cX3_frame 34 = .ok (.isub, 1) := by decide +kernel
theorem dX3_frame_35 : decode cX3_frame 35 = .ok (.istore 8, 2) := by decide +kernel
theorem dX3_frame_37 : decode cX3_frame 37 = .ok (.iload 7, 2) := by decide +kernel
theorem dX3_frame_39 : decode cX3_frame 39 = .ok (.iconst 1, 1) := by decide +kernel
theorem dX3_frame_40 : decode cX3_frame 40 = .ok (.if_icmp .eq 19, 3) := by decide +kernel
theorem dX3_frame_43 : decode cX3_frame 43 = .ok (.iload 8, 2) := by decide +kernel
theorem dX3_frame_45 : decode cX3_frame 45 = .ok (.iload 7, 2) := by decide +kernel
theorem dX3_frame_47 : decode cX3_frame 47 = .ok (.iconst 2, 1) := by decide +kernel
theorem dX3_frame_48 : decode cX3_frame 48 = .ok (.if_icmp .ne 7, 3) := by decide +kernel
theorem dX3_frame_51 : decode cX3_frame 51 = .ok (.iconst 2, 1) := by decide +kernel
theorem dX3_frame_52 : decode cX3_frame 52 = .ok (.goto 4, 3) := by decide +kernel
theorem dX3_frame_55 : decode cX3_frame 55 = .ok (.iconst 1, 1) := by decide +kernel
theorem dX3_frame_56 : decode cX3_frame 56 = .ok (.if_icmp .ge 4, 3) := by decide +kernel
theorem dX3_frame_59 : decode cX3_frame 59 = .ok (.return_, 1) := by decide +kernel
theorem dX3_frame_60 : decode cX3_frame 60 = .ok (.aload_n 0, 1) := by decide +kernel
theorem dX3_frame_61 : decode cX3_frame 61 = .ok (.iload_n 1, 1) := by decide +kernel
theorem dX3_frame_62 : decode cX3_frame 62 = .ok (.iload_n 2, 1) := by decide +kernel
theorem dX3_frame_63 : decode cX3_frame 63 = .ok (.iload_n 3, 1) := by decide +kernel
theorem dX3_frame_64 : decode cX3_frame 64 = .ok (.iload 4, 2) := by decide +kernel
theorem dX3_frame_66 : decode cX3_frame 66 = .ok (.iload 5, 2) := by decide +kernel
theorem dX3_frame_68 : decode cX3_frame 68 = .ok (.iload 6, 2) := by decide +kernel
theorem dX3_frame_70 : decode cX3_frame 70 = .ok (.aload_n 0, 1) := by decide +kernel
theorem dX3_frame_71 : decode cX3_frame 71 = .ok (.getfield 83, 3) := by decide +kernel
theorem dX3_frame_74 : decode cX3_frame 74 = .ok (.aload_n 0, 1) := by decide +kernel
theorem dX3_frame_75 : decode cX3_frame 75 = .ok (.getfield 13, 3) := by decide +kernel
theorem dX3_frame_78 : decode cX3_frame 78 = .ok (.iload_n 1, 1) := by decide +kernel
theorem dX3_frame_79 : decode cX3_frame 79 = .ok (.iaload, 1) := by decide +kernel
theorem dX3_frame_80 : decode cX3_frame 80 = .ok (.iload 7, 2) := by decide +kernel
theorem dX3_frame_82 : decode cX3_frame 82 = .ok (.iconst 3, 1) := by decide +kernel
theorem dX3_frame_83 : decode cX3_frame 83 = .ok (.if_icmp .ne 7, 3) := by decide +kernel
theorem dX3_frame_86 : decode cX3_frame 86 = .ok (.iconst 4, 1) := by decide +kernel
theorem dX3_frame_87 : decode cX3_frame 87 = .ok (.goto 4, 3) := by decide +kernel
theorem dX3_frame_90 : decode cX3_frame 90 = .ok (.iconst 1, 1) := by decide +kernel
theorem dX3_frame_91 : decode cX3_frame 91 = .ok (.imul, 1) := by decide +kernel
theorem dX3_frame_92 : decode cX3_frame 92 = .ok (.iadd, 1) := by decide +kernel
theorem dX3_frame_93 : decode cX3_frame 93 = .ok (.invokevirtual 86, 3) := by decide +kernel
theorem dX3_frame_96 : decode cX3_frame 96 = .ok (.iload 7, 2) := by decide +kernel
theorem dX3_frame_98 : decode cX3_frame 98 = .ok (.iconst 2, 1) := by decide +kernel
theorem dX3_frame_99 : decode cX3_frame 99 = .ok (.if_icmp .ne 29, 3) := by decide +kernel
theorem dX3_frame_102 : decode cX3_frame 102 = .ok (.aload_n 0, 1) := by decide +kernel
theorem dX3_frame_103 : decode cX3_frame 103 = .ok (.iload_n 1, 1) := by decide +kernel
theorem dX3_frame_104 : decode cX3_frame 104 = .ok (.iload_n 2, 1) := by decide +kernel
theorem dX3_frame_105 : decode cX3_frame 105 = .ok (.iload_n 3, 1) := by decide +kernel
theorem dX3_frame_106 : decode cX3_frame 106 = .ok (.iload 4, 2) := by decide +kernel
theorem dX3_frame_108 : decode cX3_frame 108 = .ok (.iload 5, 2) := by decide +kernel
theorem dX3_frame_110 : decode cX3_frame 110 = .ok (.iload 6, 2) := by decide +kernel
theorem dX3_frame_112 : decode cX3_frame 112 = .ok (.aload_n 0, 1) := by decide +kernel
theorem dX3_frame_113 : decode cX3_frame 113 = .ok (.getfield 83, 3) := by decide +kernel
theorem dX3_frame_116 : decode cX3_frame 116 = .ok (.aload_n 0, 1) := by decide +kernel
theorem dX3_frame_117 : decode cX3_frame 117 = .ok (.getfield 13, 3) := by decide +kernel
theorem dX3_frame_120 : decode cX3_frame 120 = .ok (.iload_n 1, 1) := by decide +kernel
theorem dX3_frame_121 : decode cX3_frame 121 = .ok (.iaload, 1) := by decide +kernel
theorem dX3_frame_122 : decode cX3_frame 122 = .ok (.iconst 3, 1) := by decide +kernel
theorem dX3_frame_123 : decode cX3_frame 123 = .ok (.imul, 1) := by decide +kernel
theorem dX3_frame_124 : decode cX3_frame 124 = .ok (.iadd, 1) := by decide +kernel
theorem dX3_frame_125 : decode cX3_frame 125 = .ok (.invokevirtual 86, 3) := by decide +kernel
theorem dX3_frame_128 : decode cX3_frame 128 = .ok (.return_, 1) := by decide +kernel
theorem dX3_nextFate_0 : decode cX3_nextFate 0 = .ok (.aload_n 0, 1) := by decide +kernel
theorem dX3_nextFate_1 : decode cX3_nextFate 1 = .ok (.getfield 20, 3) := by decide +kernel
theorem dX3_nextFate_4 : decode cX3_nextFate 4 = .ok (.iload_n 1, 1) := by decide +kernel
theorem dX3_nextFate_5 : decode cX3_nextFate 5 = .ok (.iaload, 1) := by decide +kernel
theorem dX3_nextFate_6 : decode cX3_nextFate 6 = .ok (.ifCond .ne 5, 3) := by decide +kernel
theorem dX3_nextFate_9 : decode cX3_nextFate 9 = .ok (.iconst 0, 1) := by decide +kernel
theorem dX3_nextFate_10 : decode cX3_nextFate 10 = .ok (.ireturn, 1) := by decide +kernel
theorem dX3_nextFate_11 : decode cX3_nextFate 11 = .ok (.aload_n 0, 1) := by decide +kernel
theorem dX3_nextFate_12 : decode cX3_nextFate 12 = .ok (.getfield 23, 3) := by decide +kernel
theorem dX3_nextFate_15 : decode cX3_nextFate 15 = .ok (.bipush 64, 2) := by decide +kernel
theorem dX3_nextFate_17 : decode cX3_nextFate 17 = .ok (.iload_n 1, 1) := by decide +kernel
theorem dX3_nextFate_18 : decode cX3_nextFate 18 = .ok (.imul, 1) := by decide +kernel
theorem dX3_nextFate_19 : decode cX3_nextFate 19 = .ok (.iaload, 1) := by decide +kernel
theorem dX3_nextFate_20 : decode cX3_nextFate 20 = .ok (.istore_n 2, 1) := by decide +kernel
theorem dX3_nextFate_21 : decode cX3_nextFate 21 = .ok (.aload_n 0, 1) := by decide +kernel
theorem dX3_nextFate_22 : decode cX3_nextFate 22 = .ok (.getfield 20, 3) := by decide +kernel
theorem dX3_nextFate_25 : decode cX3_nextFate 25 = .ok (.iload_n 1, 1) := by decide +kernel
theorem dX3_nextFate_26 : decode cX3_nextFate 26 = .ok (.dup2, 1) := by decide +kernel
theorem dX3_nextFate_27 : decode cX3_nextFate 27 = .ok (.iaload, 1) := by decide +kernel
theorem dX3_nextFate_28 : decode cX3_nextFate 28 = .ok (.iconst 1, 1) := by decide +kernel
theorem dX3_nextFate_29 : decode cX3_nextFate 29 = .ok (.isub, 1) := by decide +kernel
theorem dX3_nextFate_30 : decode cX3_nextFate 30 = .ok (.iastore, 1) := by decide +kernel
theorem dX3_nextFate_31 : decode cX3_nextFate 31 = .ok (.bipush 64, 2) := by decide +kernel
theorem dX3_nextFate_33 : decode cX3_nextFate 33 = .ok (.iload_n 1, 1) := by decide +kernel
theorem dX3_nextFate_34 : decode cX3_nextFate 34 = .ok (.imul, 1) := by decide +kernel
theorem dX3_nextFate_35 : decode cX3_nextFate 35 = .ok (.istore_n 3, 1) := by decide +kernel
theorem dX3_nextFate_36 : decode cX3_nextFate 36 = .ok (.iload_n 3, 1) := by decide +kernel
theorem dX3_nextFate_37 : decode cX3_nextFate 37 = .ok (.bipush 64, 2) := by decide +kernel
theorem dX3_nextFate_39 : decode cX3_nextFate 39 = .ok (.iload_n 1, 1) := by decide +kernel
theorem dX3_nextFate_40 : decode cX3_nextFate 40 = .ok (.imul, 1) := by decide +kernel
theorem dX3_nextFate_41 : decode cX3_nextFate 41 = .ok (.aload_n 0, 1) := by decide +kernel
theorem dX3_nextFate_42 : decode cX3_nextFate 42 = .ok (.getfield 20, 3) := by decide +kernel
theorem dX3_nextFate_45 : decode cX3_nextFate 45 = .ok (.iload_n 1, 1) := by decide +kernel
theorem dX3_nextFate_46 : decode cX3_nextFate 46 = .ok (.iaload, 1) := by decide +kernel
theorem dX3_nextFate_47 : decode cX3_nextFate 47 = .ok (.iadd, 1) := by decide +kernel
theorem dX3_nextFate_48 : decode cX3_nextFate 48 = .ok (.if_icmp .ge 23, 3) := by decide +kernel
theorem dX3_nextFate_51 : decode cX3_nextFate 51 = .ok (.aload_n 0, 1) := by decide +kernel
theorem dX3_nextFate_52 : decode cX3_nextFate 52 = .ok (.getfield 23, 3) := by decide +kernel
theorem dX3_nextFate_55 : decode cX3_nextFate 55 = .ok (.iload_n 3, 1) := by decide +kernel
theorem dX3_nextFate_56 : decode cX3_nextFate 56 = .ok (.aload_n 0, 1) := by decide +kernel
theorem dX3_nextFate_57 : decode cX3_nextFate 57 = .ok (.getfield 23, 3) := by decide +kernel
theorem dX3_nextFate_60 : decode cX3_nextFate 60 = .ok (.iload_n 3, 1) := by decide +kernel
theorem dX3_nextFate_61 : decode cX3_nextFate 61 = .ok (.iconst 1, 1) := by decide +kernel
theorem dX3_nextFate_62 : decode cX3_nextFate 62 = .ok (.iadd, 1) := by decide +kernel
theorem dX3_nextFate_63 : decode cX3_nextFate 63 = .ok (.iaload, 1) := by decide +kernel
theorem dX3_nextFate_64 : decode cX3_nextFate 64 = .ok (.iastore, 1) := by decide +kernel
theorem dX3_nextFate_65 : decode cX3_nextFate 65 = .ok (.iinc 3 1, 3) := by decide +kernel
theorem dX3_nextFate_68 : decode cX3_nextFate 68 = .ok (.goto (-32), 3) := by decide +kernel
theorem dX3_nextFate_71 : decode cX3_nextFate 71 = .ok (.iload_n 2, 1) := by decide +kernel
theorem dX3_nextFate_72 : decode cX3_nextFate 72 = .ok (.ireturn, 1) := by decide +kernel
theorem dX3_add_0 : decode cX3_add 0 = .ok (.iconst 0, 1) := by decide +kernel
theorem dX3_add_1 : decode cX3_add 1 = .ok (.istore 8, 2) := by decide +kernel
theorem dX3_add_3 : decode cX3_add 3 = .ok (.aload_n 0, 1) := by decide +kernel
theorem dX3_add_4 : decode cX3_add 4 = .ok (.getfield 35, 3) := by decide +kernel
theorem dX3_add_7 : decode cX3_add 7 = .ok (.iload 8, 2) := by decide +kernel
theorem dX3_add_9 : decode cX3_add 9 = .ok (.baload, 1) := by decide +kernel
theorem dX3_add_10 : decode cX3_add 10 = .ok (.ifCond .eq 9, 3) := by decide +kernel
theorem dX3_add_13 : decode cX3_add 13 = .ok (.iinc 8 1, 3) := by decide +kernel
theorem dX3_add_16 : decode cX3_add 16 = .ok (.goto (-13), 3) := by decide +kernel
theorem dX3_add_19 : decode cX3_add 19 = .ok (.aload_n 0, 1) := by decide +kernel
theorem dX3_add_20 : decode cX3_add 20 = .ok (.getfield 35, 3) := by decide +kernel
theorem dX3_add_23 : decode cX3_add 23 = .ok (.iload 8, 2) := by decide +kernel
theorem dX3_add_25 : decode cX3_add 25 = .ok (.iconst 1, 1) := by decide +kernel
theorem dX3_add_26 : decode cX3_add 26 = .ok (.bastore, 1) := by decide +kernel
theorem dX3_add_27 : decode cX3_add 27 = .ok (.aload_n 0, 1) := by decide +kernel
theorem dX3_add_28 : decode cX3_add 28 = .ok (.getfield 32, 3) := by decide +kernel
theorem dX3_add_31 : decode cX3_add 31 = .ok (.aload_n 0, 1) := by decide +kernel
theorem dX3_add_32 : decode cX3_add 32 = .ok (.getfield 59, 3) := by decide +kernel
theorem dX3_add_35 : decode cX3_add 35 = .ok (.iload 8, 2) := by decide +kernel
theorem dX3_add_37 : decode cX3_add 37 = .ok (.iastore, 1) := by decide +kernel
theorem dX3_add_38 : decode cX3_add 38 = .ok (.aload_n 0, 1) := by decide +kernel
theorem dX3_add_39 : decode cX3_add 39 = .ok (.dup, 1) := by decide +kernel
theorem dX3_add_40 : decode cX3_add 40 = .ok (.getfield 59, 3) := by decide +kernel
theorem dX3_add_43 : decode cX3_add 43 = .ok (.iconst 1, 1) := by decide +kernel
theorem dX3_add_44 : decode cX3_add 44 = .ok (.iadd, 1) := by decide +kernel
theorem dX3_add_45 : decode cX3_add 45 = .ok (.putfield 59, 3) := by decide +kernel
theorem dX3_add_48 : decode cX3_add 48 = .ok (.aload_n 0, 1) := by decide +kernel
theorem dX3_add_49 : decode cX3_add 49 = .ok (.getfield 38, 3) := by decide +kernel
theorem dX3_add_52 : decode cX3_add 52 = .ok (.bipush 8, 2) := by decide +kernel
theorem dX3_add_54 : decode cX3_add 54 = .ok (.iload 8, 2) := by decide +kernel
theorem dX3_add_56 : decode cX3_add 56 = .ok (.imul, 1) := by decide +kernel
theorem dX3_add_57 : decode cX3_add 57 = .ok (.iload_n 1, 1) := by decide +kernel
theorem dX3_add_58 : decode cX3_add 58 = .ok (.iastore, 1) := by decide +kernel
theorem dX3_add_59 : decode cX3_add 59 = .ok (.aload_n 0, 1) := by decide +kernel
theorem dX3_add_60 : decode cX3_add 60 = .ok (.getfield 38, 3) := by decide +kernel
theorem dX3_add_63 : decode cX3_add 63 = .ok (.bipush 8, 2) := by decide +kernel
theorem dX3_add_65 : decode cX3_add 65 = .ok (.iload 8, 2) := by decide +kernel
theorem dX3_add_67 : decode cX3_add 67 = .ok (.imul, 1) := by decide +kernel
theorem dX3_add_68 : decode cX3_add 68 = .ok (.iconst 1, 1) := by decide +kernel
theorem dX3_add_69 : decode cX3_add 69 = .ok (.iadd, 1) := by decide +kernel
theorem dX3_add_70 : decode cX3_add 70 = .ok (.iload_n 2, 1) := by decide +kernel
theorem dX3_add_71 : decode cX3_add 71 = .ok (.iastore, 1) := by decide +kernel
theorem dX3_add_72 : decode cX3_add 72 = .ok (.aload_n 0, 1) := by decide +kernel
theorem dX3_add_73 : decode cX3_add 73 = .ok (.getfield 38, 3) := by decide +kernel
theorem dX3_add_76 : decode cX3_add 76 = .ok (.bipush 8, 2) := by decide +kernel
theorem dX3_add_78 : decode cX3_add 78 = .ok (.iload 8, 2) := by decide +kernel
theorem dX3_add_80 : decode cX3_add 80 = .ok (.imul, 1) := by decide +kernel
theorem dX3_add_81 : decode cX3_add 81 = .ok (.iconst 2, 1) := by decide +kernel
theorem dX3_add_82 : decode cX3_add 82 = .ok (.iadd, 1) := by decide +kernel
theorem dX3_add_83 : decode cX3_add 83 = .ok (.iload_n 3, 1) := by decide +kernel
theorem dX3_add_84 : decode cX3_add 84 = .ok (.iastore, 1) := by decide +kernel
theorem dX3_add_85 : decode cX3_add 85 = .ok (.aload_n 0, 1) := by decide +kernel
theorem dX3_add_86 : decode cX3_add 86 = .ok (.getfield 38, 3) := by decide +kernel
theorem dX3_add_89 : decode cX3_add 89 = .ok (.bipush 8, 2) := by decide +kernel
theorem dX3_add_91 : decode cX3_add 91 = .ok (.iload 8, 2) := by decide +kernel
theorem dX3_add_93 : decode cX3_add 93 = .ok (.imul, 1) := by decide +kernel
theorem dX3_add_94 : decode cX3_add 94 = .ok (.iconst 3, 1) := by decide +kernel
theorem dX3_add_95 : decode cX3_add 95 = .ok (.iadd, 1) := by decide +kernel
theorem dX3_add_96 : decode cX3_add 96 = .ok (.iload 4, 2) := by decide +kernel
theorem dX3_add_98 : decode cX3_add 98 = .ok (.iastore, 1) := by decide +kernel
theorem dX3_add_99 : decode cX3_add 99 = .ok (.aload_n 0, 1) := by decide +kernel
theorem dX3_add_100 : decode cX3_add 100 = .ok (.getfield 38, 3) := by decide +kernel
theorem dX3_add_103 : decode cX3_add 103 = .ok (.bipush 8, 2) := by decide +kernel
theorem dX3_add_105 : decode cX3_add 105 = .ok (.iload 8, 2) := by decide +kernel
theorem dX3_add_107 : decode cX3_add 107 = .ok (.imul, 1) := by decide +kernel
theorem dX3_add_108 : decode cX3_add 108 = .ok (.iconst 4, 1) := by decide +kernel
theorem dX3_add_109 : decode cX3_add 109 = .ok (.iadd, 1) := by decide +kernel
theorem dX3_add_110 : decode cX3_add 110 = .ok (.iload 5, 2) := by decide +kernel
theorem dX3_add_112 : decode cX3_add 112 = .ok (.iastore, 1) := by decide +kernel
theorem dX3_add_113 : decode cX3_add 113 = .ok (.aload_n 0, 1) := by decide +kernel
theorem dX3_add_114 : decode cX3_add 114 = .ok (.getfield 38, 3) := by decide +kernel
theorem dX3_add_117 : decode cX3_add 117 = .ok (.bipush 8, 2) := by decide +kernel
theorem dX3_add_119 : decode cX3_add 119 = .ok (.iload 8, 2) := by decide +kernel
theorem dX3_add_121 : decode cX3_add 121 = .ok (.imul, 1) := by decide +kernel
theorem dX3_add_122 : decode cX3_add 122 = .ok (.iconst 5, 1) := by decide +kernel
theorem dX3_add_123 : decode cX3_add 123 = .ok (.iadd, 1) := by decide +kernel
theorem dX3_add_124 : decode cX3_add 124 = .ok (.aload_n 0, 1) := by decide +kernel
theorem dX3_add_125 : decode cX3_add 125 = .ok (.getfield 72, 3) := by decide +kernel
theorem dX3_add_128 : decode cX3_add 128 = .ok (.iastore, 1) := by decide +kernel
theorem dX3_add_129 : decode cX3_add 129 = .ok (.aload_n 0, 1) := by decide +kernel
theorem dX3_add_130 : decode cX3_add 130 = .ok (.getfield 38, 3) := by decide +kernel
theorem dX3_add_133 : decode cX3_add 133 = .ok (.bipush 8, 2) := by decide +kernel
theorem dX3_add_135 : decode cX3_add 135 = .ok (.iload 8, 2) := by decide +kernel
theorem dX3_add_137 : decode cX3_add 137 = .ok (.imul, 1) := by decide +kernel
theorem dX3_add_138 : decode cX3_add 138 = .ok (.bipush 6, 2) := by decide +kernel
theorem dX3_add_140 : decode cX3_add 140 = .ok (.iadd, 1) := by decide +kernel
theorem dX3_add_141 : decode cX3_add 141 = .ok (.iload 6, 2) := by decide +kernel
theorem dX3_add_143 : decode cX3_add 143 = .ok (.iastore, 1) := by decide +kernel
theorem dX3_add_144 : decode cX3_add 144 = .ok (.aload_n 0, 1) := by decide +kernel
theorem dX3_add_145 : decode cX3_add 145 = .ok (.getfield 38, 3) := by decide +kernel
theorem dX3_add_148 : decode cX3_add 148 = .ok (.bipush 8, 2) := by decide +kernel
theorem dX3_add_150 : decode cX3_add 150 = .ok (.iload 8, 2) := by decide +kernel
theorem dX3_add_152 : decode cX3_add 152 = .ok (.imul, 1) := by decide +kernel
theorem dX3_add_153 : decode cX3_add 153 = .ok (.bipush 7, 2) := by decide +kernel
theorem dX3_add_155 : decode cX3_add 155 = .ok (.iadd, 1) := by decide +kernel
theorem dX3_add_156 : decode cX3_add 156 = .ok (.iload 7, 2) := by decide +kernel
theorem dX3_add_158 : decode cX3_add 158 = .ok (.iastore, 1) := by decide +kernel
theorem dX3_add_159 : decode cX3_add 159 = .ok (.iconst 0, 1) := by decide +kernel
theorem dX3_add_160 : decode cX3_add 160 = .ok (.istore 9, 2) := by decide +kernel
theorem dX3_add_162 : decode cX3_add 162 = .ok (.iload 9, 2) := by decide +kernel
theorem dX3_add_164 : decode cX3_add 164 = .ok (.iload 6, 2) := by decide +kernel
theorem dX3_add_166 : decode cX3_add 166 = .ok (.if_icmp .ge 75, 3) := by decide +kernel
theorem dX3_add_169 : decode cX3_add 169 = .ok (.sipush 185, 3) := by decide +kernel
theorem dX3_add_172 : decode cX3_add 172 = .ok (.iload 8, 2) := by decide +kernel
theorem dX3_add_174 : decode cX3_add 174 = .ok (.imul, 1) := by decide +kernel
theorem dX3_add_175 : decode cX3_add 175 = .ok (.iload 9, 2) := by decide +kernel
theorem dX3_add_177 : decode cX3_add 177 = .ok (.bipush 8, 2) := by decide +kernel
theorem dX3_add_179 : decode cX3_add 179 = .ok (.idiv, 1) := by decide +kernel
theorem dX3_add_180 : decode cX3_add 180 = .ok (.iadd, 1) := by decide +kernel
theorem dX3_add_181 : decode cX3_add 181 = .ok (.istore 10, 2) := by decide +kernel
theorem dX3_add_183 : decode cX3_add 183 = .ok (.aload_n 0, 1) := by decide +kernel
theorem dX3_add_184 : decode cX3_add 184 = .ok (.getfield 42, 3) := by decide +kernel
theorem dX3_add_187 : decode cX3_add 187 = .ok (.iload 10, 2) := by decide +kernel
theorem dX3_add_189 : decode cX3_add 189 = .ok (.aload_n 0, 1) := by decide +kernel
theorem dX3_add_190 : decode cX3_add 190 = .ok (.getfield 42, 3) := by decide +kernel
theorem dX3_add_193 : decode cX3_add 193 = .ok (.iload 10, 2) := by decide +kernel
theorem dX3_add_195 : decode cX3_add 195 = .ok (.laload, 1) := by decide +kernel
theorem dX3_add_196 : decode cX3_add 196 = .ok (.ldc2_w 75, 3) := by decide +kernel
theorem dX3_add_199 : decode cX3_add 199 = .ok (.bipush 8, 2) := by decide +kernel
theorem dX3_add_201 : decode cX3_add 201 = .ok (.iload 9, 2) := by decide +kernel
theorem dX3_add_203 : decode cX3_add 203 = .ok (.bipush 8, 2) := by decide +kernel
theorem dX3_add_205 : decode cX3_add 205 = .ok (.irem, 1) := by decide +kernel
theorem dX3_add_206 : decode cX3_add 206 = .ok (.imul, 1) := by decide +kernel
theorem dX3_add_207 : decode cX3_add 207 = .ok (.lshl, 1) := by decide +kernel
theorem dX3_add_208 : decode cX3_add 208 = .ok (.ldc2_w 77, 3) := by decide +kernel
theorem dX3_add_211 : decode cX3_add 211 = .ok (.lxor, 1) := by decide +kernel
theorem dX3_add_212 : decode cX3_add 212 = .ok (.land, 1) := by decide +kernel
theorem dX3_add_213 : decode cX3_add 213 = .ok (.aload_n 0, 1) := by decide +kernel
theorem dX3_add_214 : decode cX3_add 214 = .ok (.getfield 29, 3) := by decide +kernel
theorem dX3_add_217 : decode cX3_add 217 = .ok (.iload 5, 2) := by decide +kernel
theorem dX3_add_219 : decode cX3_add 219 = .ok (.iload 9, 2) := by decide +kernel
theorem dX3_add_221 : decode cX3_add 221 = .ok (.iadd, 1) := by decide +kernel
theorem dX3_add_222 : decode cX3_add 222 = .ok (.iaload, 1) := by decide +kernel
theorem dX3_add_223 : decode cX3_add 223 = .ok (.i2l, 1) := by decide +kernel
theorem dX3_add_224 : decode cX3_add 224 = .ok (.bipush 8, 2) := by decide +kernel
theorem dX3_add_226 : decode cX3_add 226 = .ok (.iload 9, 2) := by decide +kernel
theorem dX3_add_228 : decode cX3_add 228 = .ok (.bipush 8, 2) := by decide +kernel
theorem dX3_add_230 : decode cX3_add 230 = .ok (.irem, 1) := by decide +kernel
theorem dX3_add_231 : decode cX3_add 231 = .ok (.imul, 1) := by decide +kernel
theorem dX3_add_232 : decode cX3_add 232 = .ok (.lshl, 1) := by decide +kernel
theorem dX3_add_233 : decode cX3_add 233 = .ok (.lor, 1) := by decide +kernel
theorem dX3_add_234 : decode cX3_add 234 = .ok (.lastore, 1) := by decide +kernel
theorem dX3_add_235 : decode cX3_add 235 = .ok (.iinc 9 1, 3) := by decide +kernel
theorem dX3_add_238 : decode cX3_add 238 = .ok (.goto (-76), 3) := by decide +kernel
theorem dX3_add_241 : decode cX3_add 241 = .ok (.return_, 1) := by decide +kernel
theorem dX3_pass_0 : decode cX3_pass 0 = .ok (.aload_n 0, 1) := by decide +kernel
theorem dX3_pass_1 : decode cX3_pass 1 = .ok (.iload_n 1, 1) := by decide +kernel
theorem dX3_pass_2 : decode cX3_pass 2 = .ok (.ifCond .lt 10, 3) := by decide +kernel
theorem dX3_pass_5 : decode cX3_pass 5 = .ok (.iload_n 1, 1) := by decide +kernel
theorem dX3_pass_6 : decode cX3_pass 6 = .ok (.sipush 1000, 3) := by decide +kernel
theorem dX3_pass_9 : decode cX3_pass 9 = .ok (.if_icmp .le 7, 3) := by decide +kernel
theorem dX3_pass_12 : decode cX3_pass 12 = .ok (.iconst 1, 1) := by decide +kernel
theorem dX3_pass_13 : decode cX3_pass 13 = .ok (.goto 19, 3) := by decide +kernel
theorem dX3_pass_16 : decode cX3_pass 16 = .ok (.aload_n 0, 1) := by decide +kernel
theorem dX3_pass_17 : decode cX3_pass 17 = .ok (.getfield 83, 3) := by decide +kernel
theorem dX3_pass_20 : decode cX3_pass 20 = .ok (.iload_n 1, 1) := by decide +kernel
theorem dX3_pass_21 : decode cX3_pass 21 = .ok (.iadd, 1) := by decide +kernel
theorem dX3_pass_22 : decode cX3_pass 22 = .ok (.ldc 94, 2) := by decide +kernel
theorem dX3_pass_24 : decode cX3_pass 24 = .ok (.if_icmp .le 7, 3) := by decide +kernel
theorem dX3_pass_27 : decode cX3_pass 27 = .ok (.iconst 2, 1) := by decide +kernel
theorem dX3_pass_28 : decode cX3_pass 28 = .ok (.goto 4, 3) := by decide +kernel
theorem dX3_pass_31 : decode cX3_pass 31 = .ok (.iconst 0, 1) := by decide +kernel
theorem dX3_pass_32 : decode cX3_pass 32 = .ok (.putfield 52, 3) := by decide +kernel
theorem dX3_pass_35 : decode cX3_pass 35 = .ok (.aload_n 0, 1) := by decide +kernel
theorem dX3_pass_36 : decode cX3_pass 36 = .ok (.getfield 52, 3) := by decide +kernel
theorem dX3_pass_39 : decode cX3_pass 39 = .ok (.ifCond .le 5, 3) := by decide +kernel
theorem dX3_pass_42 : decode cX3_pass 42 = .ok (.iconst 0, 1) := by decide +kernel
theorem dX3_pass_43 : decode cX3_pass 43 = .ok (.ireturn, 1) := by decide +kernel
theorem dX3_pass_44 : decode cX3_pass 44 = .ok (.aload_n 0, 1) := by decide +kernel
theorem dX3_pass_45 : decode cX3_pass 45 = .ok (.dup, 1) := by decide +kernel
theorem dX3_pass_46 : decode cX3_pass 46 = .ok (.getfield 83, 3) := by decide +kernel
theorem dX3_pass_49 : decode cX3_pass 49 = .ok (.iload_n 1, 1) := by decide +kernel
theorem dX3_pass_50 : decode cX3_pass 50 = .ok (.iadd, 1) := by decide +kernel
theorem dX3_pass_51 : decode cX3_pass 51 = .ok (.putfield 83, 3) := by decide +kernel
theorem dX3_pass_54 : decode cX3_pass 54 = .ok (.iconst 0, 1) := by decide +kernel
theorem dX3_pass_55 : decode cX3_pass 55 = .ok (.istore_n 2, 1) := by decide +kernel
theorem dX3_pass_56 : decode cX3_pass 56 = .ok (.iconst 0, 1) := by decide +kernel
theorem dX3_pass_57 : decode cX3_pass 57 = .ok (.istore_n 3, 1) := by decide +kernel
theorem dX3_pass_58 : decode cX3_pass 58 = .ok (.iload_n 3, 1) := by decide +kernel
theorem dX3_pass_59 : decode cX3_pass 59 = .ok (.aload_n 0, 1) := by decide +kernel
theorem dX3_pass_60 : decode cX3_pass 60 = .ok (.getfield 59, 3) := by decide +kernel
theorem dX3_pass_63 : decode cX3_pass 63 = .ok (.if_icmp .ge 29, 3) := by decide +kernel
theorem dX3_pass_66 : decode cX3_pass 66 = .ok (.iload_n 2, 1) := by decide +kernel
theorem dX3_pass_67 : decode cX3_pass 67 = .ok (.aload_n 0, 1) := by decide +kernel
theorem dX3_pass_68 : decode cX3_pass 68 = .ok (.iload_n 3, 1) := by decide +kernel
theorem dX3_pass_69 : decode cX3_pass 69 = .ok (.invokevirtual 95, 3) := by decide +kernel
theorem dX3_pass_72 : decode cX3_pass 72 = .ok (.aload_n 0, 1) := by decide +kernel
theorem dX3_pass_73 : decode cX3_pass 73 = .ok (.getfield 83, 3) := by decide +kernel
theorem dX3_pass_76 : decode cX3_pass 76 = .ok (.if_icmp .gt 7, 3) := by decide +kernel
theorem dX3_pass_79 : decode cX3_pass 79 = .ok (.iconst 1, 1) := by decide +kernel
theorem dX3_pass_80 : decode cX3_pass 80 = .ok (.goto 4, 3) := by decide +kernel
theorem dX3_pass_83 : decode cX3_pass 83 = .ok (.iconst 0, 1) := by decide +kernel
theorem dX3_pass_84 : decode cX3_pass 84 = .ok (.iadd, 1) := by decide +kernel
theorem dX3_pass_85 : decode cX3_pass 85 = .ok (.istore_n 2, 1) := by decide +kernel
theorem dX3_pass_86 : decode cX3_pass 86 = .ok (.iinc 3 1, 3) := by decide +kernel
theorem dX3_pass_89 : decode cX3_pass 89 = .ok (.goto (-31), 3) := by decide +kernel
theorem dX3_pass_92 : decode cX3_pass 92 = .ok (.iload_n 2, 1) := by decide +kernel
theorem dX3_pass_93 : decode cX3_pass 93 = .ok (.ireturn, 1) := by decide +kernel
theorem dX3_due_0 : decode cX3_due 0 = .ok (.aload_n 0, 1) := by decide +kernel
theorem dX3_due_1 : decode cX3_due 1 = .ok (.getfield 38, 3) := by decide +kernel
theorem dX3_due_4 : decode cX3_due 4 = .ok (.bipush 8, 2) := by decide +kernel
theorem dX3_due_6 : decode cX3_due 6 = .ok (.aload_n 0, 1) := by decide +kernel
theorem dX3_due_7 : decode cX3_due 7 = .ok (.getfield 32, 3) := by decide +kernel
theorem dX3_due_10 : decode cX3_due 10 = .ok (.iload_n 1, 1) := by decide +kernel
theorem dX3_due_11 : decode cX3_due 11 = .ok (.iaload, 1) := by decide +kernel
theorem dX3_due_12 : decode cX3_due 12 = .ok (.imul, 1) := by decide +kernel
theorem dX3_due_13 : decode cX3_due 13 = .ok (.bipush 7, 2) := by decide +kernel
theorem dX3_due_15 : decode cX3_due 15 = .ok (.iadd, 1) := by decide +kernel
theorem dX3_due_16 : decode cX3_due 16 = .ok (.iaload, 1) := by decide +kernel
theorem dX3_due_17 : decode cX3_due 17 = .ok (.ireturn, 1) := by decide +kernel
theorem dX3_next_0 : decode cX3_next 0 = .ok (.aload_n 0, 1) := by decide +kernel
theorem dX3_next_1 : decode cX3_next 1 = .ok (.iconst 0, 1) := by decide +kernel
theorem dX3_next_2 : decode cX3_next 2 = .ok (.putfield 52, 3) := by decide +kernel
theorem dX3_next_5 : decode cX3_next 5 = .ok (.iconst (-1), 1) := by decide +kernel
theorem dX3_next_6 : decode cX3_next 6 = .ok (.istore_n 1, 1) := by decide +kernel
theorem dX3_next_7 : decode cX3_next 7 = .ok (.iconst 0, 1) := by decide +kernel
theorem dX3_next_8 : decode cX3_next 8 = .ok (.istore_n 2, 1) := by decide +kernel
theorem dX3_next_9 : decode cX3_next 9 = .ok (.iload_n 2, 1) := by decide +kernel
theorem dX3_next_10 : decode cX3_next 10 = .ok (.aload_n 0, 1) := by decide +kernel
theorem dX3_next_11 : decode cX3_next 11 = .ok (.getfield 59, 3) := by decide +kernel
theorem dX3_next_14 : decode cX3_next 14 = .ok (.if_icmp .ge 44, 3) := by decide +kernel
theorem dX3_next_17 : decode cX3_next 17 = .ok (.aload_n 0, 1) := by decide +kernel
theorem dX3_next_18 : decode cX3_next 18 = .ok (.iload_n 2, 1) := by decide +kernel
theorem dX3_next_19 : decode cX3_next 19 = .ok (.invokevirtual 95, 3) := by decide +kernel
theorem dX3_next_22 : decode cX3_next 22 = .ok (.aload_n 0, 1) := by decide +kernel
theorem dX3_next_23 : decode cX3_next 23 = .ok (.getfield 83, 3) := by decide +kernel
theorem dX3_next_26 : decode cX3_next 26 = .ok (.if_icmp .gt 24, 3) := by decide +kernel
theorem dX3_next_29 : decode cX3_next 29 = .ok (.iload_n 1, 1) := by decide +kernel
theorem dX3_next_30 : decode cX3_next 30 = .ok (.ifCond .lt 16, 3) := by decide +kernel
theorem dX3_next_33 : decode cX3_next 33 = .ok (.aload_n 0, 1) := by decide +kernel
theorem dX3_next_34 : decode cX3_next 34 = .ok (.iload_n 2, 1) := by decide +kernel
theorem dX3_next_35 : decode cX3_next 35 = .ok (.invokevirtual 95, 3) := by decide +kernel
theorem dX3_next_38 : decode cX3_next 38 = .ok (.aload_n 0, 1) := by decide +kernel
theorem dX3_next_39 : decode cX3_next 39 = .ok (.iload_n 1, 1) := by decide +kernel
theorem dX3_next_40 : decode cX3_next 40 = .ok (.invokevirtual 95, 3) := by decide +kernel
theorem dX3_next_43 : decode cX3_next 43 = .ok (.if_icmp .ge 7, 3) := by decide +kernel
theorem dX3_next_46 : decode cX3_next 46 = .ok (.iload_n 2, 1) := by decide +kernel
theorem dX3_next_47 : decode cX3_next 47 = .ok (.goto 4, 3) := by decide +kernel
theorem dX3_next_50 : decode cX3_next 50 = .ok (.iload_n 1, 1) := by decide +kernel
theorem dX3_next_51 : decode cX3_next 51 = .ok (.istore_n 1, 1) := by decide +kernel
theorem dX3_next_52 : decode cX3_next 52 = .ok (.iinc 2 1, 3) := by decide +kernel
theorem dX3_next_55 : decode cX3_next 55 = .ok (.goto (-46), 3) := by decide +kernel
theorem dX3_next_58 : decode cX3_next 58 = .ok (.iload_n 1, 1) := by decide +kernel
theorem dX3_next_59 : decode cX3_next 59 = .ok (.ifCond .ge 5, 3) := by decide +kernel
theorem dX3_next_62 : decode cX3_next 62 = .ok (.iconst 0, 1) := by decide +kernel
theorem dX3_next_63 : decode cX3_next 63 = .ok (.ireturn, 1) := by decide +kernel
theorem dX3_next_64 : decode cX3_next 64 = .ok (.aload_n 0, 1) := by decide +kernel
theorem dX3_next_65 : decode cX3_next 65 = .ok (.getfield 32, 3) := by decide +kernel
theorem dX3_next_68 : decode cX3_next 68 = .ok (.iload_n 1, 1) := by decide +kernel
theorem dX3_next_69 : decode cX3_next 69 = .ok (.iaload, 1) := by decide +kernel
theorem dX3_next_70 : decode cX3_next 70 = .ok (.istore_n 2, 1) := by decide +kernel
theorem dX3_next_71 : decode cX3_next 71 = .ok (.iconst 0, 1) := by decide +kernel
theorem dX3_next_72 : decode cX3_next 72 = .ok (.istore_n 3, 1) := by decide +kernel
theorem dX3_next_73 : decode cX3_next 73 = .ok (.iload_n 3, 1) := by decide +kernel
theorem dX3_next_74 : decode cX3_next 74 = .ok (.bipush 7, 2) := by decide +kernel
theorem dX3_next_76 : decode cX3_next 76 = .ok (.if_icmp .ge 26, 3) := by decide +kernel
theorem dX3_next_79 : decode cX3_next 79 = .ok (.aload_n 0, 1) := by decide +kernel
theorem dX3_next_80 : decode cX3_next 80 = .ok (.getfield 46, 3) := by decide +kernel
theorem dX3_next_83 : decode cX3_next 83 = .ok (.iload_n 3, 1) := by decide +kernel
theorem dX3_next_84 : decode cX3_next 84 = .ok (.aload_n 0, 1) := by decide +kernel
theorem dX3_next_85 : decode cX3_next 85 = .ok (.getfield 38, 3) := by decide +kernel
theorem dX3_next_88 : decode cX3_next 88 = .ok (.bipush 8, 2) := by decide +kernel
theorem dX3_next_90 : decode cX3_next 90 = .ok (.iload_n 2, 1) := by decide +kernel
theorem dX3_next_91 : decode cX3_next 91 = .ok (.imul, 1) := by decide +kernel
theorem dX3_next_92 : decode cX3_next 92 = .ok (.iload_n 3, 1) := by decide +kernel
theorem dX3_next_93 : decode cX3_next 93 = .ok (.iadd, 1) := by decide +kernel
theorem dX3_next_94 : decode cX3_next 94 = .ok (.iaload, 1) := by decide +kernel
theorem dX3_next_95 : decode cX3_next 95 = .ok (.iastore, 1) := by decide +kernel
theorem dX3_next_96 : decode cX3_next 96 = .ok (.iinc 3 1, 3) := by decide +kernel
theorem dX3_next_99 : decode cX3_next 99 = .ok (.goto (-26), 3) := by decide +kernel
theorem dX3_next_102 : decode cX3_next 102 = .ok (.iconst 0, 1) := by decide +kernel
theorem dX3_next_103 : decode cX3_next 103 = .ok (.istore_n 3, 1) := by decide +kernel
theorem dX3_next_104 : decode cX3_next 104 = .ok (.iload_n 3, 1) := by decide +kernel
theorem dX3_next_105 : decode cX3_next 105 = .ok (.aload_n 0, 1) := by decide +kernel
theorem dX3_next_106 : decode cX3_next 106 = .ok (.getfield 46, 3) := by decide +kernel
theorem dX3_next_109 : decode cX3_next 109 = .ok (.bipush 6, 2) := by decide +kernel
theorem dX3_next_111 : decode cX3_next 111 = .ok (.iaload, 1) := by decide +kernel
theorem dX3_next_112 : decode cX3_next 112 = .ok (.if_icmp .ge 43, 3) := by decide +kernel
theorem dX3_next_115 : decode cX3_next 115 = .ok (.aload_n 0, 1) := by decide +kernel
theorem dX3_next_116 : decode cX3_next 116 = .ok (.getfield 49, 3) := by decide +kernel
theorem dX3_next_119 : decode cX3_next 119 = .ok (.iload_n 3, 1) := by decide +kernel
theorem dX3_next_120 : decode cX3_next 120 = .ok (.aload_n 0, 1) := by decide +kernel
theorem dX3_next_121 : decode cX3_next 121 = .ok (.getfield 42, 3) := by decide +kernel
theorem dX3_next_124 : decode cX3_next 124 = .ok (.sipush 185, 3) := by decide +kernel
theorem dX3_next_127 : decode cX3_next 127 = .ok (.iload_n 2, 1) := by decide +kernel
theorem dX3_next_128 : decode cX3_next 128 = .ok (.imul, 1) := by decide +kernel
theorem dX3_next_129 : decode cX3_next 129 = .ok (.iload_n 3, 1) := by decide +kernel
theorem dX3_next_130 : decode cX3_next 130 = .ok (.bipush 8, 2) := by decide +kernel
theorem dX3_next_132 : decode cX3_next 132 = .ok (.idiv, 1) := by decide +kernel
theorem dX3_next_133 : decode cX3_next 133 = .ok (.iadd, 1) := by decide +kernel
theorem dX3_next_134 : decode cX3_next 134 = .ok (.laload, 1) := by decide +kernel
theorem dX3_next_135 : decode cX3_next 135 = .ok (.bipush 8, 2) := by decide +kernel
theorem dX3_next_137 : decode cX3_next 137 = .ok (.iload_n 3, 1) := by decide +kernel
theorem dX3_next_138 : decode cX3_next 138 = .ok (.bipush 8, 2) := by decide +kernel
theorem dX3_next_140 : decode cX3_next 140 = .ok (.irem, 1) := by decide +kernel
theorem dX3_next_141 : decode cX3_next 141 = .ok (.imul, 1) := by decide +kernel
theorem dX3_next_142 : decode cX3_next 142 = .ok (.lshr, 1) := by decide +kernel
theorem dX3_next_143 : decode cX3_next 143 = .ok (.ldc2_w 75, 3) := by decide +kernel
theorem dX3_next_146 : decode cX3_next 146 = .ok (.land, 1) := by decide +kernel
theorem dX3_next_147 : decode cX3_next 147 = .ok (.l2i, 1) := by decide +kernel
theorem dX3_next_148 : decode cX3_next 148 = .ok (.iastore, 1) := by decide +kernel
theorem dX3_next_149 : decode cX3_next 149 = .ok (.iinc 3 1, 3) := by decide +kernel
theorem dX3_next_152 : decode cX3_next 152 = .ok (.goto (-48), 3) := by decide +kernel
theorem dX3_next_155 : decode cX3_next 155 = .ok (.aload_n 0, 1) := by decide +kernel
theorem dX3_next_156 : decode cX3_next 156 = .ok (.iconst 1, 1) := by decide +kernel
theorem dX3_next_157 : decode cX3_next 157 = .ok (.putfield 98, 3) := by decide +kernel
theorem dX3_next_160 : decode cX3_next 160 = .ok (.aload_n 0, 1) := by decide +kernel
theorem dX3_next_161 : decode cX3_next 161 = .ok (.iload_n 1, 1) := by decide +kernel
theorem dX3_next_162 : decode cX3_next 162 = .ok (.invokevirtual 66, 3) := by decide +kernel
theorem dX3_next_165 : decode cX3_next 165 = .ok (.iconst 1, 1) := by decide +kernel
theorem dX3_next_166 : decode cX3_next 166 = .ok (.ireturn, 1) := by decide +kernel
theorem dX3_arrival_0 : decode cX3_arrival 0 = .ok (.aload_n 0, 1) := by decide +kernel
theorem dX3_arrival_1 : decode cX3_arrival 1 = .ok (.iload_n 1, 1) := by decide +kernel
theorem dX3_arrival_2 : decode cX3_arrival 2 = .ok (.ifCond .lt 9, 3) := by decide +kernel
theorem dX3_arrival_5 : decode cX3_arrival 5 = .ok (.iload_n 1, 1) := by decide +kernel
theorem dX3_arrival_6 : decode cX3_arrival 6 = .ok (.bipush 6, 2) := by decide +kernel
theorem dX3_arrival_8 : decode cX3_arrival 8 = .ok (.if_icmp .le 7, 3) := by decide +kernel
theorem dX3_arrival_11 : decode cX3_arrival 11 = .ok (.iconst 1, 1) := by decide +kernel
theorem dX3_arrival_12 : decode cX3_arrival 12 = .ok (.goto 15, 3) := by decide +kernel
theorem dX3_arrival_15 : decode cX3_arrival 15 = .ok (.aload_n 0, 1) := by decide +kernel
theorem dX3_arrival_16 : decode cX3_arrival 16 = .ok (.getfield 98, 3) := by decide +kernel
theorem dX3_arrival_19 : decode cX3_arrival 19 = .ok (.ifCond .ne 7, 3) := by decide +kernel
theorem dX3_arrival_22 : decode cX3_arrival 22 = .ok (.iconst 2, 1) := by decide +kernel
theorem dX3_arrival_23 : decode cX3_arrival 23 = .ok (.goto 4, 3) := by decide +kernel
theorem dX3_arrival_26 : decode cX3_arrival 26 = .ok (.iconst 0, 1) := by decide +kernel
theorem dX3_arrival_27 : decode cX3_arrival 27 = .ok (.putfield 52, 3) := by decide +kernel
theorem dX3_arrival_30 : decode cX3_arrival 30 = .ok (.aload_n 0, 1) := by decide +kernel
theorem dX3_arrival_31 : decode cX3_arrival 31 = .ok (.getfield 52, 3) := by decide +kernel
theorem dX3_arrival_34 : decode cX3_arrival 34 = .ok (.ifCond .le 7, 3) := by decide +kernel
theorem dX3_arrival_37 : decode cX3_arrival 37 = .ok (.iconst 0, 1) := by decide +kernel
theorem dX3_arrival_38 : decode cX3_arrival 38 = .ok (.goto 9, 3) := by decide +kernel
theorem dX3_arrival_41 : decode cX3_arrival 41 = .ok (.aload_n 0, 1) := by decide +kernel
theorem dX3_arrival_42 : decode cX3_arrival 42 = .ok (.getfield 46, 3) := by decide +kernel
theorem dX3_arrival_45 : decode cX3_arrival 45 = .ok (.iload_n 1, 1) := by decide +kernel
theorem dX3_arrival_46 : decode cX3_arrival 46 = .ok (.iaload, 1) := by decide +kernel
theorem dX3_arrival_47 : decode cX3_arrival 47 = .ok (.ireturn, 1) := by decide +kernel
theorem dX3_byteAt_0 : decode cX3_byteAt 0 = .ok (.aload_n 0, 1) := by decide +kernel
theorem dX3_byteAt_1 : decode cX3_byteAt 1 = .ok (.aload_n 0, 1) := by decide +kernel
theorem dX3_byteAt_2 : decode cX3_byteAt 2 = .ok (.getfield 98, 3) := by decide +kernel
theorem dX3_byteAt_5 : decode cX3_byteAt 5 = .ok (.ifCond .ne 7, 3) := by decide +kernel
theorem dX3_byteAt_8 : decode cX3_byteAt 8 = .ok (.iconst 1, 1) := by decide +kernel
theorem dX3_byteAt_9 : decode cX3_byteAt 9 = .ok (.goto 23, 3) := by decide +kernel
theorem dX3_byteAt_12 : decode cX3_byteAt 12 = .ok (.iload_n 1, 1) := by decide +kernel
theorem dX3_byteAt_13 : decode cX3_byteAt 13 = .ok (.ifCond .lt 14, 3) := by decide +kernel
theorem dX3_byteAt_16 : decode cX3_byteAt 16 = .ok (.iload_n 1, 1) := by decide +kernel
theorem dX3_byteAt_17 : decode cX3_byteAt 17 = .ok (.aload_n 0, 1) := by decide +kernel
theorem dX3_byteAt_18 : decode cX3_byteAt 18 = .ok (.getfield 46, 3) := by decide +kernel
theorem dX3_byteAt_21 : decode cX3_byteAt 21 = .ok (.bipush 6, 2) := by decide +kernel
theorem dX3_byteAt_23 : decode cX3_byteAt 23 = .ok (.iaload, 1) := by decide +kernel
theorem dX3_byteAt_24 : decode cX3_byteAt 24 = .ok (.if_icmp .lt 7, 3) := by decide +kernel
theorem dX3_byteAt_27 : decode cX3_byteAt 27 = .ok (.iconst 2, 1) := by decide +kernel
theorem dX3_byteAt_28 : decode cX3_byteAt 28 = .ok (.goto 4, 3) := by decide +kernel
theorem dX3_byteAt_31 : decode cX3_byteAt 31 = .ok (.iconst 0, 1) := by decide +kernel
theorem dX3_byteAt_32 : decode cX3_byteAt 32 = .ok (.putfield 52, 3) := by decide +kernel
theorem dX3_byteAt_35 : decode cX3_byteAt 35 = .ok (.aload_n 0, 1) := by decide +kernel
theorem dX3_byteAt_36 : decode cX3_byteAt 36 = .ok (.getfield 52, 3) := by decide +kernel
theorem dX3_byteAt_39 : decode cX3_byteAt 39 = .ok (.ifCond .le 7, 3) := by decide +kernel
theorem dX3_byteAt_42 : decode cX3_byteAt 42 = .ok (.iconst 0, 1) := by decide +kernel
theorem dX3_byteAt_43 : decode cX3_byteAt 43 = .ok (.goto 9, 3) := by decide +kernel
theorem dX3_byteAt_46 : decode cX3_byteAt 46 = .ok (.aload_n 0, 1) := by decide +kernel
theorem dX3_byteAt_47 : decode cX3_byteAt 47 = .ok (.getfield 49, 3) := by decide +kernel
theorem dX3_byteAt_50 : decode cX3_byteAt 50 = .ok (.iload_n 1, 1) := by decide +kernel
theorem dX3_byteAt_51 : decode cX3_byteAt 51 = .ok (.iaload, 1) := by decide +kernel
theorem dX3_byteAt_52 : decode cX3_byteAt 52 = .ok (.ireturn, 1) := by decide +kernel
theorem dX3_underWay_0 : decode cX3_underWay 0 = .ok (.aload_n 0, 1) := by decide +kernel
theorem dX3_underWay_1 : decode cX3_underWay 1 = .ok (.iconst 0, 1) := by decide +kernel
theorem dX3_underWay_2 : decode cX3_underWay 2 = .ok (.putfield 52, 3) := by decide +kernel
theorem dX3_underWay_5 : decode cX3_underWay 5 = .ok (.aload_n 0, 1) := by decide +kernel
theorem dX3_underWay_6 : decode cX3_underWay 6 = .ok (.getfield 59, 3) := by decide +kernel
theorem dX3_underWay_9 : decode cX3_underWay 9 = .ok (.ireturn, 1) := by decide +kernel
theorem dX3_fated_0 : decode cX3_fated 0 = .ok (.aload_n 0, 1) := by decide +kernel
theorem dX3_fated_1 : decode cX3_fated 1 = .ok (.aload_n 0, 1) := by decide +kernel
theorem dX3_fated_2 : decode cX3_fated 2 = .ok (.iload_n 1, 1) := by decide +kernel
theorem dX3_fated_3 : decode cX3_fated 3 = .ok (.invokevirtual 62, 3) := by decide +kernel
theorem dX3_fated_6 : decode cX3_fated 6 = .ok (.ifCond .eq 7, 3) := by decide +kernel
theorem dX3_fated_9 : decode cX3_fated 9 = .ok (.iconst 0, 1) := by decide +kernel
theorem dX3_fated_10 : decode cX3_fated 10 = .ok (.goto 4, 3) := by decide +kernel
theorem dX3_fated_13 : decode cX3_fated 13 = .ok (.iconst 1, 1) := by decide +kernel
theorem dX3_fated_14 : decode cX3_fated 14 = .ok (.putfield 52, 3) := by decide +kernel
theorem dX3_fated_17 : decode cX3_fated 17 = .ok (.aload_n 0, 1) := by decide +kernel
theorem dX3_fated_18 : decode cX3_fated 18 = .ok (.getfield 52, 3) := by decide +kernel
theorem dX3_fated_21 : decode cX3_fated 21 = .ok (.ifCond .le 7, 3) := by decide +kernel
theorem dX3_fated_24 : decode cX3_fated 24 = .ok (.iconst 0, 1) := by decide +kernel
theorem dX3_fated_25 : decode cX3_fated 25 = .ok (.goto 9, 3) := by decide +kernel
theorem dX3_fated_28 : decode cX3_fated 28 = .ok (.aload_n 0, 1) := by decide +kernel
theorem dX3_fated_29 : decode cX3_fated 29 = .ok (.getfield 20, 3) := by decide +kernel
theorem dX3_fated_32 : decode cX3_fated 32 = .ok (.iload_n 1, 1) := by decide +kernel
theorem dX3_fated_33 : decode cX3_fated 33 = .ok (.iaload, 1) := by decide +kernel
theorem dX3_fated_34 : decode cX3_fated 34 = .ok (.ireturn, 1) := by decide +kernel
theorem dX3_puts_0 : decode cX3_puts 0 = .ok (.aload_n 0, 1) := by decide +kernel
theorem dX3_puts_1 : decode cX3_puts 1 = .ok (.aload_n 0, 1) := by decide +kernel
theorem dX3_puts_2 : decode cX3_puts 2 = .ok (.iload_n 1, 1) := by decide +kernel
theorem dX3_puts_3 : decode cX3_puts 3 = .ok (.invokevirtual 62, 3) := by decide +kernel
theorem dX3_puts_6 : decode cX3_puts 6 = .ok (.ifCond .eq 7, 3) := by decide +kernel
theorem dX3_puts_9 : decode cX3_puts 9 = .ok (.iconst 0, 1) := by decide +kernel
theorem dX3_puts_10 : decode cX3_puts 10 = .ok (.goto 4, 3) := by decide +kernel
theorem dX3_puts_13 : decode cX3_puts 13 = .ok (.iconst 1, 1) := by decide +kernel
theorem dX3_puts_14 : decode cX3_puts 14 = .ok (.putfield 52, 3) := by decide +kernel
theorem dX3_puts_17 : decode cX3_puts 17 = .ok (.aload_n 0, 1) := by decide +kernel
theorem dX3_puts_18 : decode cX3_puts 18 = .ok (.getfield 52, 3) := by decide +kernel
theorem dX3_puts_21 : decode cX3_puts 21 = .ok (.ifCond .le 7, 3) := by decide +kernel
theorem dX3_puts_24 : decode cX3_puts 24 = .ok (.iconst 0, 1) := by decide +kernel
theorem dX3_puts_25 : decode cX3_puts 25 = .ok (.goto 9, 3) := by decide +kernel
theorem dX3_puts_28 : decode cX3_puts 28 = .ok (.aload_n 0, 1) := by decide +kernel
theorem dX3_puts_29 : decode cX3_puts 29 = .ok (.getfield 26, 3) := by decide +kernel
theorem dX3_puts_32 : decode cX3_puts 32 = .ok (.iload_n 1, 1) := by decide +kernel
theorem dX3_puts_33 : decode cX3_puts 33 = .ok (.iaload, 1) := by decide +kernel
theorem dX3_puts_34 : decode cX3_puts 34 = .ok (.ireturn, 1) := by decide +kernel
end
section
theorem dL_net_0 : decode cL_net 0 = .ok (.aload_n 3, 1) := by decide +kernel
theorem dL_net_1 : decode cL_net 1 = .ok (.iconst 0, 1) := by decide +kernel
theorem dL_net_2 : decode cL_net 2 = .ok (.aload_n 0, 1) := by decide +kernel
theorem dL_net_3 : decode cL_net 3 = .ok (.iload_n 1, 1) := by decide +kernel
theorem dL_net_4 : decode cL_net 4 = .ok (.iload_n 2, 1) := by decide +kernel
theorem dL_net_5 : decode cL_net 5 = .ok (.invokevirtual 7, 3) := by decide +kernel
theorem dL_net_8 : decode cL_net 8 = .ok (.i2l, 1) := by decide +kernel
theorem dL_net_9 : decode cL_net 9 = .ok (.lastore, 1) := by decide +kernel
theorem dL_net_10 : decode cL_net 10 = .ok (.goto 11, 3) := by decide +kernel
theorem dL_net_13 : decode cL_net 13 = .ok (.astore 4, 2) := by decide +kernel
theorem dL_net_15 : decode cL_net 15 = .ok (.iconst 1, 1) := by decide +kernel
theorem dL_net_16 : decode cL_net 16 = .ok (.ireturn, 1) := by decide +kernel
theorem dL_net_17 : decode cL_net 17 = .ok (.astore 4, 2) := by decide +kernel
theorem dL_net_19 : decode cL_net 19 = .ok (.iconst 2, 1) := by decide +kernel
theorem dL_net_20 : decode cL_net 20 = .ok (.ireturn, 1) := by decide +kernel
theorem dL_net_21 : decode cL_net 21 = .ok (.iconst 0, 1) := by decide +kernel
theorem dL_net_22 : decode cL_net 22 = .ok (.ireturn, 1) := by decide +kernel
theorem dL_link_0 : decode cL_link 0 = .ok (.aload_n 3, 1) := by decide +kernel
theorem dL_link_1 : decode cL_link 1 = .ok (.iconst 0, 1) := by decide +kernel
theorem dL_link_2 : decode cL_link 2 = .ok (.aload_n 0, 1) := by decide +kernel
theorem dL_link_3 : decode cL_link 3 = .ok (.iload_n 1, 1) := by decide +kernel
theorem dL_link_4 : decode cL_link 4 = .ok (.iload_n 2, 1) := by decide +kernel
theorem dL_link_5 : decode cL_link 5 = .ok (.invokevirtual 17, 3) := by decide +kernel
theorem dL_link_8 : decode cL_link 8 = .ok (.i2l, 1) := by decide +kernel
theorem dL_link_9 : decode cL_link 9 = .ok (.lastore, 1) := by decide +kernel
theorem dL_link_10 : decode cL_link 10 = .ok (.goto 7, 3) := by decide +kernel
theorem dL_link_13 : decode cL_link 13 = .ok (.astore 4, 2) := by decide +kernel
theorem dL_link_15 : decode cL_link 15 = .ok (.iconst 1, 1) := by decide +kernel
theorem dL_link_16 : decode cL_link 16 = .ok (.ireturn, 1) := by decide +kernel
theorem dL_link_17 : decode cL_link 17 = .ok (.iconst 0, 1) := by decide +kernel
theorem dL_link_18 : decode cL_link 18 = .ok (.ireturn, 1) := by decide +kernel
theorem dL_fates_0 : decode cL_fates 0 = .ok (.aload 5, 2) := by decide +kernel
theorem dL_fates_2 : decode cL_fates 2 = .ok (.iconst 0, 1) := by decide +kernel
theorem dL_fates_3 : decode cL_fates 3 = .ok (.aload_n 0, 1) := by decide +kernel
theorem dL_fates_4 : decode cL_fates 4 = .ok (.iload_n 1, 1) := by decide +kernel
theorem dL_fates_5 : decode cL_fates 5 = .ok (.lload_n 2, 1) := by decide +kernel
theorem dL_fates_6 : decode cL_fates 6 = .ok (.iload 4, 2) := by decide +kernel
theorem dL_fates_8 : decode cL_fates 8 = .ok (.invokevirtual 21, 3) := by decide +kernel
theorem dL_fates_11 : decode cL_fates 11 = .ok (.i2l, 1) := by decide +kernel
theorem dL_fates_12 : decode cL_fates 12 = .ok (.lastore, 1) := by decide +kernel
theorem dL_fates_13 : decode cL_fates 13 = .ok (.goto 11, 3) := by decide +kernel
theorem dL_fates_16 : decode cL_fates 16 = .ok (.astore 6, 2) := by decide +kernel
theorem dL_fates_18 : decode cL_fates 18 = .ok (.iconst 1, 1) := by decide +kernel
theorem dL_fates_19 : decode cL_fates 19 = .ok (.ireturn, 1) := by decide +kernel
theorem dL_fates_20 : decode cL_fates 20 = .ok (.astore 6, 2) := by decide +kernel
theorem dL_fates_22 : decode cL_fates 22 = .ok (.iconst 2, 1) := by decide +kernel
theorem dL_fates_23 : decode cL_fates 23 = .ok (.ireturn, 1) := by decide +kernel
theorem dL_fates_24 : decode cL_fates 24 = .ok (.iconst 0, 1) := by decide +kernel
theorem dL_fates_25 : decode cL_fates 25 = .ok (.ireturn, 1) := by decide +kernel
theorem dL_feed_0 : decode cL_feed 0 = .ok (.aload 4, 2) := by decide +kernel
theorem dL_feed_2 : decode cL_feed 2 = .ok (.iconst 0, 1) := by decide +kernel
theorem dL_feed_3 : decode cL_feed 3 = .ok (.aload_n 0, 1) := by decide +kernel
theorem dL_feed_4 : decode cL_feed 4 = .ok (.lload_n 1, 1) := by decide +kernel
theorem dL_feed_5 : decode cL_feed 5 = .ok (.iload_n 3, 1) := by decide +kernel
theorem dL_feed_6 : decode cL_feed 6 = .ok (.invokevirtual 25, 3) := by decide +kernel
theorem dL_feed_9 : decode cL_feed 9 = .ok (.i2l, 1) := by decide +kernel
theorem dL_feed_10 : decode cL_feed 10 = .ok (.lastore, 1) := by decide +kernel
theorem dL_feed_11 : decode cL_feed 11 = .ok (.goto 11, 3) := by decide +kernel
theorem dL_feed_14 : decode cL_feed 14 = .ok (.astore 5, 2) := by decide +kernel
theorem dL_feed_16 : decode cL_feed 16 = .ok (.iconst 1, 1) := by decide +kernel
theorem dL_feed_17 : decode cL_feed 17 = .ok (.ireturn, 1) := by decide +kernel
theorem dL_feed_18 : decode cL_feed 18 = .ok (.astore 5, 2) := by decide +kernel
theorem dL_feed_20 : decode cL_feed 20 = .ok (.iconst 2, 1) := by decide +kernel
theorem dL_feed_21 : decode cL_feed 21 = .ok (.ireturn, 1) := by decide +kernel
theorem dL_feed_22 : decode cL_feed 22 = .ok (.iconst 0, 1) := by decide +kernel
theorem dL_feed_23 : decode cL_feed 23 = .ok (.ireturn, 1) := by decide +kernel
theorem dL_put_0 : decode cL_put 0 = .ok (.aload 5, 2) := by decide +kernel
theorem dL_put_2 : decode cL_put 2 = .ok (.iconst 0, 1) := by decide +kernel
theorem dL_put_3 : decode cL_put 3 = .ok (.aload_n 0, 1) := by decide +kernel
theorem dL_put_4 : decode cL_put 4 = .ok (.iload_n 1, 1) := by decide +kernel
theorem dL_put_5 : decode cL_put 5 = .ok (.iload_n 2, 1) := by decide +kernel
theorem dL_put_6 : decode cL_put 6 = .ok (.iload_n 3, 1) := by decide +kernel
theorem dL_put_7 : decode cL_put 7 = .ok (.iload 4, 2) := by decide +kernel
theorem dL_put_9 : decode cL_put 9 = .ok (.invokevirtual 29, 3) := by decide +kernel
theorem dL_put_12 : decode cL_put 12 = .ok (.i2l, 1) := by decide +kernel
theorem dL_put_13 : decode cL_put 13 = .ok (.lastore, 1) := by decide +kernel
theorem dL_put_14 : decode cL_put 14 = .ok (.goto 7, 3) := by decide +kernel
theorem dL_put_17 : decode cL_put 17 = .ok (.astore 6, 2) := by decide +kernel
theorem dL_put_19 : decode cL_put 19 = .ok (.iconst 1, 1) := by decide +kernel
theorem dL_put_20 : decode cL_put 20 = .ok (.ireturn, 1) := by decide +kernel
theorem dL_put_21 : decode cL_put 21 = .ok (.iconst 0, 1) := by decide +kernel
theorem dL_put_22 : decode cL_put 22 = .ok (.ireturn, 1) := by decide +kernel
theorem dL_pass_0 : decode cL_pass 0 = .ok (.aload_n 2, 1) := by decide +kernel
theorem dL_pass_1 : decode cL_pass 1 = .ok (.iconst 0, 1) := by decide +kernel
theorem dL_pass_2 : decode cL_pass 2 = .ok (.aload_n 0, 1) := by decide +kernel
theorem dL_pass_3 : decode cL_pass 3 = .ok (.iload_n 1, 1) := by decide +kernel
theorem dL_pass_4 : decode cL_pass 4 = .ok (.invokevirtual 33, 3) := by decide +kernel
theorem dL_pass_7 : decode cL_pass 7 = .ok (.i2l, 1) := by decide +kernel
theorem dL_pass_8 : decode cL_pass 8 = .ok (.lastore, 1) := by decide +kernel
theorem dL_pass_9 : decode cL_pass 9 = .ok (.goto 9, 3) := by decide +kernel
theorem dL_pass_12 : decode cL_pass 12 = .ok (.astore_n 3, 1) := by decide +kernel
theorem dL_pass_13 : decode cL_pass 13 = .ok (.iconst 1, 1) := by decide +kernel
theorem dL_pass_14 : decode cL_pass 14 = .ok (.ireturn, 1) := by decide +kernel
theorem dL_pass_15 : decode cL_pass 15 = .ok (.astore_n 3, 1) := by decide +kernel
theorem dL_pass_16 : decode cL_pass 16 = .ok (.iconst 2, 1) := by decide +kernel
theorem dL_pass_17 : decode cL_pass 17 = .ok (.ireturn, 1) := by decide +kernel
theorem dL_pass_18 : decode cL_pass 18 = .ok (.iconst 0, 1) := by decide +kernel
theorem dL_pass_19 : decode cL_pass 19 = .ok (.ireturn, 1) := by decide +kernel
theorem dL_arrival_0 : decode cL_arrival 0 = .ok (.aload_n 2, 1) := by decide +kernel
theorem dL_arrival_1 : decode cL_arrival 1 = .ok (.iconst 0, 1) := by decide +kernel
theorem dL_arrival_2 : decode cL_arrival 2 = .ok (.aload_n 0, 1) := by decide +kernel
theorem dL_arrival_3 : decode cL_arrival 3 = .ok (.iload_n 1, 1) := by decide +kernel
theorem dL_arrival_4 : decode cL_arrival 4 = .ok (.invokevirtual 37, 3) := by decide +kernel
theorem dL_arrival_7 : decode cL_arrival 7 = .ok (.i2l, 1) := by decide +kernel
theorem dL_arrival_8 : decode cL_arrival 8 = .ok (.lastore, 1) := by decide +kernel
theorem dL_arrival_9 : decode cL_arrival 9 = .ok (.goto 9, 3) := by decide +kernel
theorem dL_arrival_12 : decode cL_arrival 12 = .ok (.astore_n 3, 1) := by decide +kernel
theorem dL_arrival_13 : decode cL_arrival 13 = .ok (.iconst 1, 1) := by decide +kernel
theorem dL_arrival_14 : decode cL_arrival 14 = .ok (.ireturn, 1) := by decide +kernel
theorem dL_arrival_15 : decode cL_arrival 15 = .ok (.astore_n 3, 1) := by decide +kernel
theorem dL_arrival_16 : decode cL_arrival 16 = .ok (.iconst 2, 1) := by decide +kernel
theorem dL_arrival_17 : decode cL_arrival 17 = .ok (.ireturn, 1) := by decide +kernel
theorem dL_arrival_18 : decode cL_arrival 18 = .ok (.iconst 0, 1) := by decide +kernel
theorem dL_arrival_19 : decode cL_arrival 19 = .ok (.ireturn, 1) := by decide +kernel
theorem dL_byteAt_0 : decode cL_byteAt 0 = .ok (.aload_n 2, 1) := by decide +kernel
theorem dL_byteAt_1 : decode cL_byteAt 1 = .ok (.iconst 0, 1) := by decide +kernel
theorem dL_byteAt_2 : decode cL_byteAt 2 = .ok (.aload_n 0, 1) := by decide +kernel
theorem dL_byteAt_3 : decode cL_byteAt 3 = .ok (.iload_n 1, 1) := by decide +kernel
theorem dL_byteAt_4 : decode cL_byteAt 4 = .ok (.invokevirtual 40, 3) := by decide +kernel
theorem dL_byteAt_7 : decode cL_byteAt 7 = .ok (.i2l, 1) := by decide +kernel
theorem dL_byteAt_8 : decode cL_byteAt 8 = .ok (.lastore, 1) := by decide +kernel
theorem dL_byteAt_9 : decode cL_byteAt 9 = .ok (.goto 9, 3) := by decide +kernel
theorem dL_byteAt_12 : decode cL_byteAt 12 = .ok (.astore_n 3, 1) := by decide +kernel
theorem dL_byteAt_13 : decode cL_byteAt 13 = .ok (.iconst 1, 1) := by decide +kernel
theorem dL_byteAt_14 : decode cL_byteAt 14 = .ok (.ireturn, 1) := by decide +kernel
theorem dL_byteAt_15 : decode cL_byteAt 15 = .ok (.astore_n 3, 1) := by decide +kernel
theorem dL_byteAt_16 : decode cL_byteAt 16 = .ok (.iconst 2, 1) := by decide +kernel
theorem dL_byteAt_17 : decode cL_byteAt 17 = .ok (.ireturn, 1) := by decide +kernel
theorem dL_byteAt_18 : decode cL_byteAt 18 = .ok (.iconst 0, 1) := by decide +kernel
theorem dL_byteAt_19 : decode cL_byteAt 19 = .ok (.ireturn, 1) := by decide +kernel
theorem dL_fated_0 : decode cL_fated 0 = .ok (.aload_n 2, 1) := by decide +kernel
theorem dL_fated_1 : decode cL_fated 1 = .ok (.iconst 0, 1) := by decide +kernel
theorem dL_fated_2 : decode cL_fated 2 = .ok (.aload_n 0, 1) := by decide +kernel
theorem dL_fated_3 : decode cL_fated 3 = .ok (.iload_n 1, 1) := by decide +kernel
theorem dL_fated_4 : decode cL_fated 4 = .ok (.invokevirtual 45, 3) := by decide +kernel
theorem dL_fated_7 : decode cL_fated 7 = .ok (.i2l, 1) := by decide +kernel
theorem dL_fated_8 : decode cL_fated 8 = .ok (.lastore, 1) := by decide +kernel
theorem dL_fated_9 : decode cL_fated 9 = .ok (.goto 6, 3) := by decide +kernel
theorem dL_fated_12 : decode cL_fated 12 = .ok (.astore_n 3, 1) := by decide +kernel
theorem dL_fated_13 : decode cL_fated 13 = .ok (.iconst 1, 1) := by decide +kernel
theorem dL_fated_14 : decode cL_fated 14 = .ok (.ireturn, 1) := by decide +kernel
theorem dL_fated_15 : decode cL_fated 15 = .ok (.iconst 0, 1) := by decide +kernel
theorem dL_fated_16 : decode cL_fated 16 = .ok (.ireturn, 1) := by decide +kernel
theorem dL_puts_0 : decode cL_puts 0 = .ok (.aload_n 2, 1) := by decide +kernel
theorem dL_puts_1 : decode cL_puts 1 = .ok (.iconst 0, 1) := by decide +kernel
theorem dL_puts_2 : decode cL_puts 2 = .ok (.aload_n 0, 1) := by decide +kernel
theorem dL_puts_3 : decode cL_puts 3 = .ok (.iload_n 1, 1) := by decide +kernel
theorem dL_puts_4 : decode cL_puts 4 = .ok (.invokevirtual 48, 3) := by decide +kernel
theorem dL_puts_7 : decode cL_puts 7 = .ok (.i2l, 1) := by decide +kernel
theorem dL_puts_8 : decode cL_puts 8 = .ok (.lastore, 1) := by decide +kernel
theorem dL_puts_9 : decode cL_puts 9 = .ok (.goto 6, 3) := by decide +kernel
theorem dL_puts_12 : decode cL_puts 12 = .ok (.astore_n 3, 1) := by decide +kernel
theorem dL_puts_13 : decode cL_puts 13 = .ok (.iconst 1, 1) := by decide +kernel
theorem dL_puts_14 : decode cL_puts 14 = .ok (.ireturn, 1) := by decide +kernel
theorem dL_puts_15 : decode cL_puts 15 = .ok (.iconst 0, 1) := by decide +kernel
theorem dL_puts_16 : decode cL_puts 16 = .ok (.ireturn, 1) := by decide +kernel
end
section
def gnF : List (String × Nat × String × String × String × String) := [("WireBench", 139, "WireBench$Arrival", "due", "I", "WireBench"), ("WireBench", 111, "WireBench$Arrival", "net", "I", "WireBench"), ("WireBench", 114, "WireBench$Arrival", "station", "I", "WireBench"), ("WireBench", 117, "WireBench$Arrival", "goal", "I", "WireBench"), ("WireBench", 120, "WireBench$Arrival", "number", "I", "WireBench"), ("WireBench", 146, "WireBench$Arrival", "from", "I", "WireBench"), ("WireBench", 123, "WireBench$Arrival", "whole", "I", "WireBench"), ("WireBench", 149, "WireBench$Arrival", "size", "I", "WireBench"), ("WireBench", 157, "WireBench$Arrival", "start", "I", "WireBench"), ("WireBench", 165, "WireBench$Net", "largest", "I", "WireBench"), ("WireBench", 187, "WireBench$Net", "delay", "I", "WireBench"), ("WireBench", 76, "WireBench$Net", "up", "Z", "WireBench"), ("WireBench", 160, "WireBench$Net", "frameCount", "I", "WireBench"), ("WireBench", 85, "WireBench$Net", "fateCount", "I", "WireBench")]
def gnM : List (String × Nat × MethodName × String) := [("WireBench", 31, yX0_init, "WireBench"), ("WireBench", 53, yX1_init, "WireBench"), ("WireBench", 68, yX1_open, "WireBench"), ("WireBench", 90, yX1_addFate, "WireBench"), ("WireBench", 184, yX1_takeFate, "WireBench"), ("WireBench", 196, yX0_copyFrom, "WireBench"), ("WireBench", 172, yX1_pieceSize, "WireBench")]
def gstr : List (String × Nat × String) := [("WireBench", 56, "largest is not 100 .. 1500"), ("WireBench", 61, "delay is not 1 .. 50"), ("WireBench", 65, "there are 24 nets"), ("WireBench", 163, "there is no such net"), ("WireBench", 83, "n is not 1 .. 32"), ("WireBench", 88, "the schedule would have more than 64 fates"), ("WireBench", 94, "n is not 1 .. 8"), ("WireBench", 96, "the payload would be more than 1480 bytes"), ("WireBench", 105, "from is not 0 .. 7"), ("WireBench", 107, "goal is not -1 .. 7"), ("WireBench", 109, "goal is from itself"), ("WireBench", 130, "n is not 0 .. 1000"), ("WireBench", 133, "the time would be more than 1000000"), ("WireBench", 142, "what is not 0 .. 6"), ("WireBench", 144, "no arrival was taken"), ("WireBench", 154, "there is no such byte")]
def gcst : List (String × String) := [("java/lang/IllegalArgumentException", "java/lang/IllegalArgumentException"), ("java/lang/IllegalStateException", "java/lang/IllegalStateException"), ("java/lang/IndexOutOfBoundsException", "java/lang/IndexOutOfBoundsException")]
def gdcl : List MethodName := [⟨"java/lang/RuntimeException", "<init>", "(Ljava/lang/String;)V"⟩, ⟨"java/lang/Exception", "<init>", "(Ljava/lang/String;)V"⟩, ⟨"java/lang/Throwable", "<init>", "(Ljava/lang/String;)V"⟩]
/-! THE STATE of class, reference and the law's own row, in numbers: all ints by (row, place), the order of the arrivals' objects, the number of the one taken, all longs by (row, place). Cells by number k: 0 the class's object, 1 its nets, 2 its arrivals, 3 its ring; 4 the reference's object, 5 .. 17 its arrays; 18 the law's row; 100 + i the nets, 200 + i their schedules, 1000 + j the arrivals. -/
abbrev gMem : Type := Nat → Nat → Int32
abbrev gS : Type := gMem × (Nat → Nat) × Nat × (Nat → Nat → Int64)
def gu (c : gMem) (r i : Nat) (v : Int32) : gMem := fun r' i' => if r' = r ∧ i' = i then v else c r' i'
def gi (g : gS) (r i : Nat) (v : Int32) : gS := (gu g.1 r i v, g.2)
def gp (g : gS) (i j : Nat) : gS := (g.1, va_up g.2.1 i j, g.2.2)
def gt (g : gS) (j : Nat) : gS := (g.1, g.2.1, j, g.2.2.2)
def gj (g : gS) (r i : Nat) (v : Int64) : gS := (g.1, g.2.1, g.2.2.1, fun r' i' => if r' = r ∧ i' = i then v else g.2.2.2 r' i')
theorem gu_s {c : gMem} {r i : Nat} {v : Int32} : gu c r i v r i = v := by simp [gu]
theorem gu_n {c : gMem} {r i r' i' : Nat} {v : Int32} (h : ¬ (r' = r ∧ i' = i)) : gu c r i v r' i' = c r' i' := by simp [gu, h]
theorem gu_r {c : gMem} {r i r' : Nat} {v : Int32} (h : r' ≠ r) : gu c r i v r' = c r' := by funext x; simp [gu, h]
theorem gu_u {c : gMem} {r i : Nat} {v : Int32} : gu c r i v r = upd (c r) i v := by funext x; simp [gu, upd]
/-- fields in the order of their slots -/
def gfW (ad : Nat → Nat) (g : gS) : List Value := [.ref (ad 1), .int (g.1 0 0), .int (g.1 0 1), .ref (ad 2), .int (g.1 0 2), .ref (ad (1000 + g.2.2.1)), .int (g.1 0 3), .ref (ad 1513), .ref (ad 3), .int (g.1 0 4), .int (g.1 0 5)]
def gfN (ad : Nat → Nat) (g : gS) (i : Nat) : List Value := [.int (g.1 20 i), .int (g.1 21 i), .int (g.1 22 i), .int (g.1 23 i), .ref (ad (200 + i)), .int (g.1 24 i), .int (g.1 25 i)]
def gfA (g : gS) (j : Nat) : List Value := [.int (g.1 30 j), .int (g.1 31 j), .int (g.1 32 j), .int (g.1 33 j), .int (g.1 34 j), .int (g.1 35 j), .int (g.1 36 j), .int (g.1 37 j), .int (g.1 38 j)]
def gfM (ad : Nat → Nat) (g : gS) : List Value := [.int (g.1 4 0), .int (g.1 4 1), .int (g.1 4 2), .ref (ad 5), .ref (ad 6), .ref (ad 7), .ref (ad 8), .ref (ad 9), .ref (ad 10), .int (g.1 4 3), .ref (ad 11), .int (g.1 4 4), .ref (ad 12), .ref (ad 13), .ref (ad 14), .ref (ad 17), .int (g.1 4 5), .ref (ad 15), .ref (ad 16)]
/-- the cells below 100 -/
def gc0 (K : Nat → ClassId) (ad : Nat → Nat) (g : gS) (k : Nat) : va_E := match k with
  | 0 => .inr (2, gfW ad g)
  | 1 => .inl (K 1, 24, .inr (.inr (.inr (.inr (fun i => some (ad (100 + i)))))))
  | 2 => .inl (K 2, 512, .inr (.inr (.inr (.inr (fun i => some (ad (1000 + g.2.1 i)))))))
  | 3 => .inl (K 0, 4096, .inl (g.1 3))
  | 4 => .inr (3, gfM ad g)
  | 5 => .inl (K 3, 24, .inl (g.1 5))
  | 6 => .inl (K 3, 24, .inl (g.1 6))
  | 7 => .inl (K 4, 24, .inl (g.1 7))
  | 8 => .inl (K 3, 24, .inl (g.1 8))
  | 9 => .inl (K 3, 1536, .inl (g.1 9))
  | 10 => .inl (K 3, 24, .inl (g.1 10))
  | 11 => .inl (K 3, 1480, .inl (g.1 11))
  | 12 => .inl (K 3, 512, .inl (g.1 12))
  | 13 => .inl (K 4, 512, .inl (g.1 13))
  | 14 => .inl (K 3, 4096, .inl (g.1 14))
  | 15 => .inl (K 3, 7, .inl (g.1 15))
  | 16 => .inl (K 3, 1480, .inl (g.1 16))
  | 17 => .inl (K 5, 94720, .inr (.inl (g.2.2.2 17)))
  | _ => .inl (K 5, 1, .inr (.inl (g.2.2.2 18)))
def gcont (K : Nat → ClassId) (ad : Nat → Nat) (g : gS) (k : Nat) : va_E :=
  if 1000 ≤ k then .inr (0, gfA g (k - 1000)) else if 200 ≤ k then .inl (K 0, 64, .inl (g.1 k)) else if 100 ≤ k then .inr (1, gfN ad g (k - 100)) else gc0 K ad g k
theorem gc_W {K : Nat → ClassId} {ad : Nat → Nat} {g : gS} : gcont K ad g 0 = .inr (2, gfW ad g) := by simp [gcont, gc0]
theorem gc_M {K : Nat → ClassId} {ad : Nat → Nat} {g : gS} : gcont K ad g 4 = .inr (3, gfM ad g) := by simp [gcont, gc0]
theorem gc_N {K : Nat → ClassId} {ad : Nat → Nat} {g : gS} {i : Nat} (h : i < 24) : gcont K ad g (100 + i) = .inr (1, gfN ad g i) := by
  have h1 : ¬ 1000 ≤ 100 + i := by omega
  have h2 : ¬ 200 ≤ 100 + i := by omega
  have h3 : 100 ≤ 100 + i := by omega
  simp only [gcont, if_neg h1, if_neg h2, if_pos h3, Nat.add_sub_cancel_left]
theorem gc_S {K : Nat → ClassId} {ad : Nat → Nat} {g : gS} {i : Nat} (h : i < 24) : gcont K ad g (200 + i) = .inl (K 0, 64, .inl (g.1 (200 + i))) := by
  have h1 : ¬ 1000 ≤ 200 + i := by omega
  have h2 : 200 ≤ 200 + i := by omega
  simp only [gcont, if_neg h1, if_pos h2]
theorem gc_A {K : Nat → ClassId} {ad : Nat → Nat} {g : gS} {j : Nat} : gcont K ad g (1000 + j) = .inr (0, gfA g j) := by
  have h1 : 1000 ≤ 1000 + j := by omega
  simp only [gcont, if_pos h1, Nat.add_sub_cancel_left]
theorem gc_lo {K : Nat → ClassId} {ad : Nat → Nat} {g : gS} {k : Nat} (h : k < 100) : gcont K ad g k = gc0 K ad g k := by
  have h1 : ¬ 1000 ≤ k := by omega
  have h2 : ¬ 200 ≤ k := by omega
  have h3 : ¬ 100 ≤ k := by omega
  simp only [gcont, if_neg h1, if_neg h2, if_neg h3]
/-- the numbers of the cells -/
def gok (k : Nat) : Prop := k < 19 ∨ (100 ≤ k ∧ k < 124) ∨ (200 ≤ k ∧ k < 224) ∨ (1000 ≤ k ∧ k < 1514)
def gix : List Nat := List.range 19 ++ ((List.range 24).map (fun i => 100 + i) ++ ((List.range 24).map (fun i => 200 + i) ++ (List.range 514).map (fun i => 1000 + i)))
theorem gix_mem {k : Nat} (h : gok k) : k ∈ gix := by
  unfold gix
  rcases h with h | h | h | h
  · exact List.mem_append_left _ (List.mem_range.mpr h)
  · exact List.mem_append_right _ (List.mem_append_left _ (List.mem_map.mpr ⟨k - 100, List.mem_range.mpr (by omega), by omega⟩))
  · exact List.mem_append_right _ (List.mem_append_right _ (List.mem_append_left _ (List.mem_map.mpr ⟨k - 200, List.mem_range.mpr (by omega), by omega⟩)))
  · exact List.mem_append_right _ (List.mem_append_right _ (List.mem_append_right _ (List.mem_map.mpr ⟨k - 1000, List.mem_range.mpr (by omega), by omega⟩)))
theorem gix_ok {k : Nat} (h : k ∈ gix) : gok k := by
  unfold gix at h
  unfold gok
  rcases List.mem_append.mp h with h | h
  · have := List.mem_range.mp h
    omega
  · rcases List.mem_append.mp h with h | h
    · obtain ⟨i, hi, rfl⟩ := List.mem_map.mp h
      have := List.mem_range.mp hi
      omega
    · rcases List.mem_append.mp h with h | h
      · obtain ⟨i, hi, rfl⟩ := List.mem_map.mp h
        have := List.mem_range.mp hi
        omega
      · obtain ⟨i, hi, rfl⟩ := List.mem_map.mp h
        have := List.mem_range.mp hi
        omega
theorem gok_N {i : Nat} (h : i < 24) : gok (100 + i) := by unfold gok; omega
theorem gok_S {i : Nat} (h : i < 24) : gok (200 + i) := by unfold gok; omega
theorem gok_A {j : Nat} (h : j < 514) : gok (1000 + j) := by unfold gok; omega
theorem gok_lo {k : Nat} (h : k < 19) : gok k := Or.inl h
/-- the world -/
def gw (K : Nat → ClassId) (ad : Nat → Nat) (g : gS) : va_W := gix.map (fun k => (ad k, gcont K ad g k))
theorem gw_at {k : Nat} (h : gok k) : ∃ p : Nat, gix[p]? = some k := List.getElem?_of_mem (gix_mem h)
theorem gw_get {K : Nat → ClassId} {ad : Nat → Nat} {g : gS} {p k : Nat} (h : gix[p]? = some k) : (gw K ad g)[p]? = some (ad k, gcont K ad g k) := by
  simp only [gw, List.getElem?_map, h, Option.map_some]
theorem gw_set {K : Nat → ClassId} {ad : Nat → Nat} {g g' : gS} {A : Nat → Prop} {p k : Nat} (hD : va_D A (gw K ad g)) (h : gix[p]? = some k) (ho : ∀ j, j ≠ k → gok j → gcont K ad g' j = gcont K ad g j) :
    (gw K ad g).set p (ad k, gcont K ad g' k) = gw K ad g' := by
  apply List.ext_getElem?
  intro i
  rw [List.getElem?_set]
  by_cases e : p = i
  · subst e
    have hp : p < (gw K ad g).length := (List.getElem?_eq_some_iff.mp (gw_get (K := K) (ad := ad) (g := g) h)).1
    rw [if_pos rfl, if_pos hp, gw_get h]
  · rw [if_neg e]
    simp only [gw, List.getElem?_map]
    cases hi : gix[i]? with
    | none => rfl
    | some j =>
      have hj : j ≠ k := by
        intro ejk
        subst ejk
        exact e (hD.1 p i _ _ (gw_get h) (gw_get hi) rfl)
      simp only [Option.map_some, ho j hj (gix_ok (List.mem_of_getElem? hi))]
/-! what a write leaves of the other cells -/
theorem gho_gen {K : Nat → ClassId} {ad : Nat → Nat} {g g' : gS} (o : Nat) (hA : ∀ j, 1000 + j ≠ o → gfA g' j = gfA g j) (hS : ∀ k, 200 ≤ k → k < 1000 → k ≠ o → g'.1 k = g.1 k) (hN : ∀ i, 100 + i ≠ o → gfN ad g' i = gfN ad g i)
    (h0 : ∀ k, k < 100 → k ≠ o → gc0 K ad g' k = gc0 K ad g k) : ∀ j, j ≠ o → gok j → gcont K ad g' j = gcont K ad g j := by
  intro j hj _
  by_cases h1 : 1000 ≤ j
  · simp only [gcont, if_pos h1]
    rw [hA (j - 1000) (by omega)]
  · by_cases h2 : 200 ≤ j
    · simp only [gcont, if_neg h1, if_pos h2]
      rw [hS j h2 (by omega) hj]
    · by_cases h3 : 100 ≤ j
      · simp only [gcont, if_neg h1, if_neg h2, if_pos h3]
        rw [hN (j - 100) (by omega)]
      · simp only [gcont, if_neg h1, if_neg h2, if_neg h3]
        exact h0 j (by omega) hj
theorem gc0_gi {K : Nat → ClassId} {ad : Nat → Nat} {g : gS} {r i : Nat} {v : Int32} (k : Nat) (h : k < 19 → k ≠ r) : gc0 K ad (gi g r i v) k = gc0 K ad g k := by
  unfold gc0
  split <;> first | rfl | (simp only [gi, gfW, gfM, gu_r (h (by decide))])
theorem gho_lo {K : Nat → ClassId} {ad : Nat → Nat} {g : gS} {r i : Nat} {v : Int32} (hr : r < 20) : ∀ j, j ≠ r → gok j → gcont K ad (gi g r i v) j = gcont K ad g j :=
  gho_gen r
    (fun j _ => by simp only [gfA, gi, gu_r (show 30 ≠ r by omega), gu_r (show 31 ≠ r by omega), gu_r (show 32 ≠ r by omega), gu_r (show 33 ≠ r by omega), gu_r (show 34 ≠ r by omega), gu_r (show 35 ≠ r by omega), gu_r (show 36 ≠ r by omega), gu_r (show 37 ≠ r by omega), gu_r (show 38 ≠ r by omega)])
    (fun k h1 _ _ => gu_r (show k ≠ r by omega))
    (fun i' _ => by simp only [gfN, gi, gu_r (show 20 ≠ r by omega), gu_r (show 21 ≠ r by omega), gu_r (show 22 ≠ r by omega), gu_r (show 23 ≠ r by omega), gu_r (show 24 ≠ r by omega), gu_r (show 25 ≠ r by omega)])
    (fun k _ h => gc0_gi k (fun _ => h))
theorem gho_N {K : Nat → ClassId} {ad : Nat → Nat} {g : gS} {r i : Nat} {v : Int32} (hr : 20 ≤ r ∧ r < 30) : ∀ j, j ≠ 100 + i → gok j → gcont K ad (gi g r i v) j = gcont K ad g j :=
  gho_gen (100 + i)
    (fun j _ => by simp only [gfA, gi, gu_r (show 30 ≠ r by omega), gu_r (show 31 ≠ r by omega), gu_r (show 32 ≠ r by omega), gu_r (show 33 ≠ r by omega), gu_r (show 34 ≠ r by omega), gu_r (show 35 ≠ r by omega), gu_r (show 36 ≠ r by omega), gu_r (show 37 ≠ r by omega), gu_r (show 38 ≠ r by omega)])
    (fun k h1 _ _ => gu_r (show k ≠ r by omega))
    (fun i' h => by
      have hi : ∀ x : Nat, ¬ (x = r ∧ i' = i) := fun x q => by omega
      simp only [gfN, gi, gu_n (hi _)])
    (fun k _ _ => gc0_gi k (fun _ => by omega))
theorem gho_A {K : Nat → ClassId} {ad : Nat → Nat} {g : gS} {r i : Nat} {v : Int32} (hr : 30 ≤ r ∧ r < 100) : ∀ j, j ≠ 1000 + i → gok j → gcont K ad (gi g r i v) j = gcont K ad g j :=
  gho_gen (1000 + i)
    (fun j h => by
      have hi : ∀ x : Nat, ¬ (x = r ∧ j = i) := fun x q => by omega
      simp only [gfA, gi, gu_n (hi _)])
    (fun k h1 _ _ => gu_r (show k ≠ r by omega))
    (fun i' _ => by simp only [gfN, gi, gu_r (show 20 ≠ r by omega), gu_r (show 21 ≠ r by omega), gu_r (show 22 ≠ r by omega), gu_r (show 23 ≠ r by omega), gu_r (show 24 ≠ r by omega), gu_r (show 25 ≠ r by omega)])
    (fun k _ _ => gc0_gi k (fun _ => by omega))
theorem gho_S {K : Nat → ClassId} {ad : Nat → Nat} {g : gS} {r i : Nat} {v : Int32} (hr : 200 ≤ r ∧ r < 1000) : ∀ j, j ≠ r → gok j → gcont K ad (gi g r i v) j = gcont K ad g j :=
  gho_gen r
    (fun j _ => by simp only [gfA, gi, gu_r (show 30 ≠ r by omega), gu_r (show 31 ≠ r by omega), gu_r (show 32 ≠ r by omega), gu_r (show 33 ≠ r by omega), gu_r (show 34 ≠ r by omega), gu_r (show 35 ≠ r by omega), gu_r (show 36 ≠ r by omega), gu_r (show 37 ≠ r by omega), gu_r (show 38 ≠ r by omega)])
    (fun k _ _ h => gu_r h)
    (fun i' _ => by simp only [gfN, gi, gu_r (show 20 ≠ r by omega), gu_r (show 21 ≠ r by omega), gu_r (show 22 ≠ r by omega), gu_r (show 23 ≠ r by omega), gu_r (show 24 ≠ r by omega), gu_r (show 25 ≠ r by omega)])
    (fun k _ h => gc0_gi k (fun _ => h))
theorem gho_p {K : Nat → ClassId} {ad : Nat → Nat} {g : gS} {i q : Nat} : ∀ j, j ≠ 2 → gok j → gcont K ad (gp g i q) j = gcont K ad g j :=
  gho_gen 2 (fun _ _ => rfl) (fun _ _ _ _ => rfl) (fun _ _ => rfl) (fun k _ h => by
    unfold gc0
    split <;> first | rfl | exact absurd rfl h)
theorem gho_t {K : Nat → ClassId} {ad : Nat → Nat} {g : gS} {q : Nat} : ∀ j, j ≠ 0 → gok j → gcont K ad (gt g q) j = gcont K ad g j :=
  gho_gen 0 (fun _ _ => rfl) (fun _ _ _ _ => rfl) (fun _ _ => rfl) (fun k _ h => by
    unfold gc0
    split <;> first | rfl | exact absurd rfl h)
theorem gj_r {g : gS} {r i r' : Nat} {v : Int64} (h : r' ≠ r) : (gj g r i v).2.2.2 r' = g.2.2.2 r' := by funext x; simp [gj, h]
theorem gj_u {g : gS} {r i : Nat} {v : Int64} : (gj g r i v).2.2.2 r = vp_updL (g.2.2.2 r) i v := by funext x; simp [gj, vp_updL]
theorem gho_17 {K : Nat → ClassId} {ad : Nat → Nat} {g : gS} {i : Nat} {v : Int64} : ∀ j, j ≠ 17 → gok j → gcont K ad (gj g 17 i v) j = gcont K ad g j :=
  gho_gen 17 (fun _ _ => rfl) (fun _ _ _ _ => rfl) (fun _ _ => rfl) (fun k _ h => by
    unfold gc0
    split <;> first | rfl | exact absurd rfl h | (rw [gj_r (by decide)]))
theorem gho_18 {K : Nat → ClassId} {ad : Nat → Nat} {g : gS} {i : Nat} {v : Int64} : ∀ j, j ≠ 18 → gok j → gcont K ad (gj g 18 i v) j = gcont K ad g j := by
  intro j hj hk
  by_cases h1 : j < 19
  · rw [gc_lo (by omega), gc_lo (by omega)]
    rcases (show j = 0 ∨ j = 1 ∨ j = 2 ∨ j = 3 ∨ j = 4 ∨ j = 5 ∨ j = 6 ∨ j = 7 ∨ j = 8 ∨ j = 9 ∨ j = 10 ∨ j = 11 ∨ j = 12 ∨ j = 13 ∨ j = 14 ∨ j = 15 ∨ j = 16 ∨ j = 17 by omega) with rfl | rfl | rfl | rfl | rfl | rfl | rfl | rfl | rfl | rfl | rfl | rfl | rfl | rfl | rfl | rfl | rfl | rfl <;> first | rfl | (simp only [gc0]; rw [gj_r (by decide)])
  · simp only [gcont]
    by_cases h2 : 1000 ≤ j
    · simp only [if_pos h2]; rfl
    · by_cases h3 : 200 ≤ j
      · simp only [if_neg h2, if_pos h3]; rfl
      · have h4 : 100 ≤ j := by unfold gok at hk; omega
        simp only [if_neg h2, if_neg h3, if_pos h4]; rfl
theorem gs_W0 {K : Nat → ClassId} {ad : Nat → Nat} {g : gS} {v : Int32} : gcont K ad (gi g 0 0 v) 0 = .inr (2, (gfW ad g).set 1 (.int v)) := by rw [gc_W]; simp [gfW, gi, gu]
theorem gs_W1 {K : Nat → ClassId} {ad : Nat → Nat} {g : gS} {v : Int32} : gcont K ad (gi g 0 1 v) 0 = .inr (2, (gfW ad g).set 2 (.int v)) := by rw [gc_W]; simp [gfW, gi, gu]
theorem gs_W2 {K : Nat → ClassId} {ad : Nat → Nat} {g : gS} {v : Int32} : gcont K ad (gi g 0 2 v) 0 = .inr (2, (gfW ad g).set 4 (.int v)) := by rw [gc_W]; simp [gfW, gi, gu]
theorem gs_W3 {K : Nat → ClassId} {ad : Nat → Nat} {g : gS} {v : Int32} : gcont K ad (gi g 0 3 v) 0 = .inr (2, (gfW ad g).set 6 (.int v)) := by rw [gc_W]; simp [gfW, gi, gu]
theorem gs_W4 {K : Nat → ClassId} {ad : Nat → Nat} {g : gS} {v : Int32} : gcont K ad (gi g 0 4 v) 0 = .inr (2, (gfW ad g).set 9 (.int v)) := by rw [gc_W]; simp [gfW, gi, gu]
theorem gs_W5 {K : Nat → ClassId} {ad : Nat → Nat} {g : gS} {v : Int32} : gcont K ad (gi g 0 5 v) 0 = .inr (2, (gfW ad g).set 10 (.int v)) := by rw [gc_W]; simp [gfW, gi, gu]
theorem gs_Wt {K : Nat → ClassId} {ad : Nat → Nat} {g : gS} {q : Nat} : gcont K ad (gt g q) 0 = .inr (2, (gfW ad g).set 5 (.ref (ad (1000 + q)))) := by rw [gc_W]; rfl
theorem gs_M0 {K : Nat → ClassId} {ad : Nat → Nat} {g : gS} {v : Int32} : gcont K ad (gi g 4 0 v) 4 = .inr (3, (gfM ad g).set 0 (.int v)) := by rw [gc_M]; simp [gfM, gi, gu]
theorem gs_M1 {K : Nat → ClassId} {ad : Nat → Nat} {g : gS} {v : Int32} : gcont K ad (gi g 4 1 v) 4 = .inr (3, (gfM ad g).set 1 (.int v)) := by rw [gc_M]; simp [gfM, gi, gu]
theorem gs_M2 {K : Nat → ClassId} {ad : Nat → Nat} {g : gS} {v : Int32} : gcont K ad (gi g 4 2 v) 4 = .inr (3, (gfM ad g).set 2 (.int v)) := by rw [gc_M]; simp [gfM, gi, gu]
theorem gs_M3 {K : Nat → ClassId} {ad : Nat → Nat} {g : gS} {v : Int32} : gcont K ad (gi g 4 3 v) 4 = .inr (3, (gfM ad g).set 9 (.int v)) := by rw [gc_M]; simp [gfM, gi, gu]
theorem gs_M4 {K : Nat → ClassId} {ad : Nat → Nat} {g : gS} {v : Int32} : gcont K ad (gi g 4 4 v) 4 = .inr (3, (gfM ad g).set 11 (.int v)) := by rw [gc_M]; simp [gfM, gi, gu]
theorem gs_M5 {K : Nat → ClassId} {ad : Nat → Nat} {g : gS} {v : Int32} : gcont K ad (gi g 4 5 v) 4 = .inr (3, (gfM ad g).set 16 (.int v)) := by rw [gc_M]; simp [gfM, gi, gu]
theorem gs_N20 {K : Nat → ClassId} {ad : Nat → Nat} {g : gS} {i : Nat} {v : Int32} (h : i < 24) : gcont K ad (gi g 20 i v) (100 + i) = .inr (1, (gfN ad g i).set 0 (.int v)) := by rw [gc_N h]; simp [gfN, gi, gu]
theorem gs_N21 {K : Nat → ClassId} {ad : Nat → Nat} {g : gS} {i : Nat} {v : Int32} (h : i < 24) : gcont K ad (gi g 21 i v) (100 + i) = .inr (1, (gfN ad g i).set 1 (.int v)) := by rw [gc_N h]; simp [gfN, gi, gu]
theorem gs_N22 {K : Nat → ClassId} {ad : Nat → Nat} {g : gS} {i : Nat} {v : Int32} (h : i < 24) : gcont K ad (gi g 22 i v) (100 + i) = .inr (1, (gfN ad g i).set 2 (.int v)) := by rw [gc_N h]; simp [gfN, gi, gu]
theorem gs_N23 {K : Nat → ClassId} {ad : Nat → Nat} {g : gS} {i : Nat} {v : Int32} (h : i < 24) : gcont K ad (gi g 23 i v) (100 + i) = .inr (1, (gfN ad g i).set 3 (.int v)) := by rw [gc_N h]; simp [gfN, gi, gu]
theorem gs_N24 {K : Nat → ClassId} {ad : Nat → Nat} {g : gS} {i : Nat} {v : Int32} (h : i < 24) : gcont K ad (gi g 24 i v) (100 + i) = .inr (1, (gfN ad g i).set 5 (.int v)) := by rw [gc_N h]; simp [gfN, gi, gu]
theorem gs_N25 {K : Nat → ClassId} {ad : Nat → Nat} {g : gS} {i : Nat} {v : Int32} (h : i < 24) : gcont K ad (gi g 25 i v) (100 + i) = .inr (1, (gfN ad g i).set 6 (.int v)) := by rw [gc_N h]; simp [gfN, gi, gu]
theorem gs_A30 {K : Nat → ClassId} {ad : Nat → Nat} {g : gS} {i : Nat} {v : Int32} : gcont K ad (gi g 30 i v) (1000 + i) = .inr (0, (gfA g i).set 0 (.int v)) := by rw [gc_A]; simp [gfA, gi, gu]
theorem gs_A31 {K : Nat → ClassId} {ad : Nat → Nat} {g : gS} {i : Nat} {v : Int32} : gcont K ad (gi g 31 i v) (1000 + i) = .inr (0, (gfA g i).set 1 (.int v)) := by rw [gc_A]; simp [gfA, gi, gu]
theorem gs_A32 {K : Nat → ClassId} {ad : Nat → Nat} {g : gS} {i : Nat} {v : Int32} : gcont K ad (gi g 32 i v) (1000 + i) = .inr (0, (gfA g i).set 2 (.int v)) := by rw [gc_A]; simp [gfA, gi, gu]
theorem gs_A33 {K : Nat → ClassId} {ad : Nat → Nat} {g : gS} {i : Nat} {v : Int32} : gcont K ad (gi g 33 i v) (1000 + i) = .inr (0, (gfA g i).set 3 (.int v)) := by rw [gc_A]; simp [gfA, gi, gu]
theorem gs_A34 {K : Nat → ClassId} {ad : Nat → Nat} {g : gS} {i : Nat} {v : Int32} : gcont K ad (gi g 34 i v) (1000 + i) = .inr (0, (gfA g i).set 4 (.int v)) := by rw [gc_A]; simp [gfA, gi, gu]
theorem gs_A35 {K : Nat → ClassId} {ad : Nat → Nat} {g : gS} {i : Nat} {v : Int32} : gcont K ad (gi g 35 i v) (1000 + i) = .inr (0, (gfA g i).set 5 (.int v)) := by rw [gc_A]; simp [gfA, gi, gu]
theorem gs_A36 {K : Nat → ClassId} {ad : Nat → Nat} {g : gS} {i : Nat} {v : Int32} : gcont K ad (gi g 36 i v) (1000 + i) = .inr (0, (gfA g i).set 6 (.int v)) := by rw [gc_A]; simp [gfA, gi, gu]
theorem gs_A37 {K : Nat → ClassId} {ad : Nat → Nat} {g : gS} {i : Nat} {v : Int32} : gcont K ad (gi g 37 i v) (1000 + i) = .inr (0, (gfA g i).set 7 (.int v)) := by rw [gc_A]; simp [gfA, gi, gu]
theorem gs_A38 {K : Nat → ClassId} {ad : Nat → Nat} {g : gS} {i : Nat} {v : Int32} : gcont K ad (gi g 38 i v) (1000 + i) = .inr (0, (gfA g i).set 8 (.int v)) := by rw [gc_A]; simp [gfA, gi, gu]
theorem vin_lt {i : Int32} {n : Nat} (h : vp_in i n) : i.toNatClampNeg < n := Nat.not_le.mp fun q => h (Or.inr q)
theorem gc_3 {K : Nat → ClassId} {ad : Nat → Nat} {g : gS} : gcont K ad g 3 = .inl (K 0, 4096, .inl (g.1 3)) := by simp [gcont, gc0]
theorem gc_5 {K : Nat → ClassId} {ad : Nat → Nat} {g : gS} : gcont K ad g 5 = .inl (K 3, 24, .inl (g.1 5)) := by simp [gcont, gc0]
theorem gc_6 {K : Nat → ClassId} {ad : Nat → Nat} {g : gS} : gcont K ad g 6 = .inl (K 3, 24, .inl (g.1 6)) := by simp [gcont, gc0]
theorem gc_7 {K : Nat → ClassId} {ad : Nat → Nat} {g : gS} : gcont K ad g 7 = .inl (K 4, 24, .inl (g.1 7)) := by simp [gcont, gc0]
theorem gc_8 {K : Nat → ClassId} {ad : Nat → Nat} {g : gS} : gcont K ad g 8 = .inl (K 3, 24, .inl (g.1 8)) := by simp [gcont, gc0]
theorem gc_9 {K : Nat → ClassId} {ad : Nat → Nat} {g : gS} : gcont K ad g 9 = .inl (K 3, 1536, .inl (g.1 9)) := by simp [gcont, gc0]
theorem gc_10 {K : Nat → ClassId} {ad : Nat → Nat} {g : gS} : gcont K ad g 10 = .inl (K 3, 24, .inl (g.1 10)) := by simp [gcont, gc0]
theorem gc_11 {K : Nat → ClassId} {ad : Nat → Nat} {g : gS} : gcont K ad g 11 = .inl (K 3, 1480, .inl (g.1 11)) := by simp [gcont, gc0]
theorem gc_12 {K : Nat → ClassId} {ad : Nat → Nat} {g : gS} : gcont K ad g 12 = .inl (K 3, 512, .inl (g.1 12)) := by simp [gcont, gc0]
theorem gc_13 {K : Nat → ClassId} {ad : Nat → Nat} {g : gS} : gcont K ad g 13 = .inl (K 4, 512, .inl (g.1 13)) := by simp [gcont, gc0]
theorem gc_14 {K : Nat → ClassId} {ad : Nat → Nat} {g : gS} : gcont K ad g 14 = .inl (K 3, 4096, .inl (g.1 14)) := by simp [gcont, gc0]
theorem gc_15 {K : Nat → ClassId} {ad : Nat → Nat} {g : gS} : gcont K ad g 15 = .inl (K 3, 7, .inl (g.1 15)) := by simp [gcont, gc0]
theorem gc_16 {K : Nat → ClassId} {ad : Nat → Nat} {g : gS} : gcont K ad g 16 = .inl (K 3, 1480, .inl (g.1 16)) := by simp [gcont, gc0]
theorem gc_17 {K : Nat → ClassId} {ad : Nat → Nat} {g : gS} : gcont K ad g 17 = .inl (K 5, 94720, .inr (.inl (g.2.2.2 17))) := by simp [gcont, gc0]
theorem gc_18 {K : Nat → ClassId} {ad : Nat → Nat} {g : gS} : gcont K ad g 18 = .inl (K 5, 1, .inr (.inl (g.2.2.2 18))) := by simp [gcont, gc0]

/-! the rows: an instruction over this world -/
def gtys (K : Nat → ClassId) : List (ClassId × FieldType) := [(K 0, .byte), (K 1, .object "WireBench$Net"), (K 2, .object "WireBench$Arrival"), (K 3, .int), (K 4, .boolean), (K 5, .long)]
def gX (D : va_G) (K : Nat → ClassId) (ad : Nat → Nat) (A : Nat → Prop) (H0 : Heap) (g : gS) (H : Heap) (locs : List Loc) : Prop := va_P D vwCl (gw K ad g) H ∧ va_D A (gw K ad g) ∧ va_S A H0 H locs
section GROWS
variable {p : Program} {l : Launch} {e : Env} {R : Room} {s : State} {m : MethodId} {args : Array Value} {below : List Frame} {meth : Method} {c : Code} {H : Heap} {locs : List Loc} {cells slots : Nat} {Q : State → Prop}
variable {cc : ByteArray} {pc : Nat} {ls : Array Slot} {rest : List Value} {D : va_G} {K : Nat → ClassId} {ad : Nat → Nat} {A : Nat → Prop} {H0 : Heap} {g : gS}
theorem g_get (hx : p.tables.exec = Jvm.exec) (hb : c.code = cc) {own ref C : String} {T : u_T} {N ci index : Nat} {Ts : List Cond} (hts : ∀ w ∈ Ts, w.before args s = true) (hin : ∀ w ∈ u_ws C T N, w ∈ Ts) (hown : s.vm.findClass own = some m.cls) (hK : va_K D vwCl (gtys K) s) (hG : gX D K ad A H0 g H locs) {k : Nat} (hk : gok k) {fs : List Value} (hc : gcont K ad g k = .inr (ci, fs)) (hcl : vwCl[ci]? = some (C, T, N)) (j : Nat) (hj : j < N) (hlink : (Cond.fieldLink own index ref (T j).2.1 (T j).2.2.1).before args s = true) (href : (T j).1 = ref) {v : Value} (hv : fs[j]? = some v) (hdg : decode cc pc = .ok (.getfield index, 3))
    (kk : W p l e R s m args below meth c H locs cells slots Q (F0 m (pc + 3) ls (v :: rest))) : W p l e R s m args below meth c H locs cells slots Q (F0 m pc ls (.ref (ad k) :: rest)) := by
  obtain ⟨q, hq⟩ := gw_at hk
  subst href
  exact va_get hx hb hts hin hown hK hG.1 q (by rw [gw_get hq, hc]) hcl j hj hlink (fun _ h => h) hv hdg kk
theorem g_getN (hx : p.tables.exec = Jvm.exec) (hb : c.code = cc) {own ref C host : String} {T : u_T} {N ci index : Nat} {Ts : List Cond} (hts : ∀ w ∈ Ts, w.before args s = true) (hin : ∀ w ∈ u_ws C T N, w ∈ Ts) (hown : s.vm.findClass own = some m.cls) (hK : va_K D vwCl (gtys K) s) (hG : gX D K ad A H0 g H locs) {k : Nat} (hk : gok k) {fs : List Value} (hc : gcont K ad g k = .inr (ci, fs)) (hcl : vwCl[ci]? = some (C, T, N)) (j : Nat) (hj : j < N) (hlink : va_Nw (.fieldLinkNest own index ref (T j).2.1 (T j).2.2.1 host) s) (href : (T j).1 = ref) {v : Value} (hv : fs[j]? = some v) (hdg : decode cc pc = .ok (.getfield index, 3))
    (kk : W p l e R s m args below meth c H locs cells slots Q (F0 m (pc + 3) ls (v :: rest))) : W p l e R s m args below meth c H locs cells slots Q (F0 m pc ls (.ref (ad k) :: rest)) := by
  obtain ⟨q, hq⟩ := gw_at hk
  subst href
  exact va_getN hx hb hts hin hown hK hG.1 q (by rw [gw_get hq, hc]) hcl j hj (va_Nw.use rfl hlink) (fun _ h => h) hv hdg kk
theorem g_put (hx : p.tables.exec = Jvm.exec) (hb : c.code = cc) {own ref C : String} {T : u_T} {N ci index : Nat} {Ts : List Cond} (hts : ∀ w ∈ Ts, w.before args s = true) (hin : ∀ w ∈ u_ws C T N, w ∈ Ts) (ty0 : Nat → FieldType) (hty : ∀ k, k < N → parseFieldDescriptor (T k).2.2.1 = some (ty0 k)) (hnm : ∀ a, a < N → ∀ b, b < N → a ≠ b → (T a).2.1 ≠ (T b).2.1) (hown : s.vm.findClass own = some m.cls) (hK : va_K D vwCl (gtys K) s) (hG : gX D K ad A H0 g H locs) {k : Nat} (hk : gok k) {fs : List Value} (hc : gcont K ad g k = .inr (ci, fs)) (hcl : vwCl[ci]? = some (C, T, N)) (j : Nat) (hj : j < N) (hlink : (Cond.fieldLink own index ref (T j).2.1 (T j).2.2.1).before args s = true) (href : (T j).1 = ref) (hfin : (T j).2.2.2 = false) {ty : FieldType} {v : Value} (hd : parseFieldDescriptor (T j).2.2.1 = some ty) (hn : narrow ty v = v) (hfit : fits ty v = true) (hl : j < fs.length) (g' : gS) (hc' : gcont K ad g' k = .inr (ci, fs.set j v)) (ho : ∀ i, i ≠ k → gok i → gcont K ad g' i = gcont K ad g i) (hdg : decode cc pc = .ok (.putfield index, 3))
    (kk : ∀ (H1 : Heap) (locs1 : List Loc), gX D K ad A H0 g' H1 locs1 → W p l e R s m args below meth c H1 locs1 cells slots Q (F0 m (pc + 3) ls rest)) : W p l e R s m args below meth c H locs cells slots Q (F0 m pc ls (v :: .ref (ad k) :: rest)) := by
  obtain ⟨q, hq⟩ := gw_at hk
  subst href
  refine va_put hx hb hts hin ty0 hty hnm hown hK hG.1 hG.2.1 hG.2.2 q (by rw [gw_get hq, hc]) hcl j hj hlink (fun _ h => h) hfin hd hn hfit hl hdg (fun H1 locs1 hP hD hS => ?_)
  rw [← hc', gw_set hG.2.1 hq ho] at hP hD
  exact kk H1 locs1 ⟨hP, hD, hS⟩
theorem g_putN (hx : p.tables.exec = Jvm.exec) (hb : c.code = cc) {own ref C host : String} {T : u_T} {N ci index : Nat} {Ts : List Cond} (hts : ∀ w ∈ Ts, w.before args s = true) (hin : ∀ w ∈ u_ws C T N, w ∈ Ts) (ty0 : Nat → FieldType) (hty : ∀ k, k < N → parseFieldDescriptor (T k).2.2.1 = some (ty0 k)) (hnm : ∀ a, a < N → ∀ b, b < N → a ≠ b → (T a).2.1 ≠ (T b).2.1) (hown : s.vm.findClass own = some m.cls) (hK : va_K D vwCl (gtys K) s) (hG : gX D K ad A H0 g H locs) {k : Nat} (hk : gok k) {fs : List Value} (hc : gcont K ad g k = .inr (ci, fs)) (hcl : vwCl[ci]? = some (C, T, N)) (j : Nat) (hj : j < N) (hlink : va_Nw (.fieldLinkNest own index ref (T j).2.1 (T j).2.2.1 host) s) (href : (T j).1 = ref) (hfin : (T j).2.2.2 = false) {ty : FieldType} {v : Value} (hd : parseFieldDescriptor (T j).2.2.1 = some ty) (hn : narrow ty v = v) (hfit : fits ty v = true) (hl : j < fs.length) (g' : gS) (hc' : gcont K ad g' k = .inr (ci, fs.set j v)) (ho : ∀ i, i ≠ k → gok i → gcont K ad g' i = gcont K ad g i) (hdg : decode cc pc = .ok (.putfield index, 3))
    (kk : ∀ (H1 : Heap) (locs1 : List Loc), gX D K ad A H0 g' H1 locs1 → W p l e R s m args below meth c H1 locs1 cells slots Q (F0 m (pc + 3) ls rest)) : W p l e R s m args below meth c H locs cells slots Q (F0 m pc ls (v :: .ref (ad k) :: rest)) := by
  obtain ⟨q, hq⟩ := gw_at hk
  subst href
  refine va_putN hx hb hts hin ty0 hty hnm hown hK hG.1 hG.2.1 hG.2.2 q (by rw [gw_get hq, hc]) hcl j hj (va_Nw.use rfl hlink) (fun _ h => h) hfin hd hn hfit hl hdg (fun H1 locs1 hP hD hS => ?_)
  rw [← hc', gw_set hG.2.1 hq ho] at hP hD
  exact kk H1 locs1 ⟨hP, hD, hS⟩
theorem g_iald (hx : p.tables.exec = Jvm.exec) (hb : c.code = cc) (hK : va_K D vwCl (gtys K) s) (hG : gX D K ad A H0 g H locs) {k n : Nat} (hk : gok k) (hc : gcont K ad g k = .inl (K 3, n, .inl (g.1 k))) {i : Int32} (hin : vp_in i n) (hdg : decode cc pc = .ok (.iaload, 1))
    (kk : W p l e R s m args below meth c H locs cells slots Q (F0 m (pc + 1) ls (.int (g.1 k i.toNatClampNeg) :: rest))) : W p l e R s m args below meth c H locs cells slots Q (F0 m pc ls (.int i :: .ref (ad k) :: rest)) := by
  obtain ⟨q, hq⟩ := gw_at hk
  exact va_iald hx hb hK hG.1 q 3 (by rw [gw_get hq, hc]) rfl hin hdg kk
theorem g_bald (hx : p.tables.exec = Jvm.exec) (hb : c.code = cc) (hK : va_K D vwCl (gtys K) s) (hG : gX D K ad A H0 g H locs) {k n : Nat} (hk : gok k) (hc : gcont K ad g k = .inl (K 0, n, .inl (g.1 k))) {i : Int32} (hin : vp_in i n) (hdg : decode cc pc = .ok (.baload, 1))
    (kk : W p l e R s m args below meth c H locs cells slots Q (F0 m (pc + 1) ls (.int (g.1 k i.toNatClampNeg) :: rest))) : W p l e R s m args below meth c H locs cells slots Q (F0 m pc ls (.int i :: .ref (ad k) :: rest)) := by
  obtain ⟨q, hq⟩ := gw_at hk
  exact va_bald hx hb hK hG.1 q 0 (by rw [gw_get hq, hc]) rfl hin hdg kk
theorem g_zald (hx : p.tables.exec = Jvm.exec) (hb : c.code = cc) (hK : va_K D vwCl (gtys K) s) (hG : gX D K ad A H0 g H locs) {k n : Nat} (hk : gok k) (hc : gcont K ad g k = .inl (K 4, n, .inl (g.1 k))) {i : Int32} (hin : vp_in i n) (hdg : decode cc pc = .ok (.baload, 1))
    (kk : W p l e R s m args below meth c H locs cells slots Q (F0 m (pc + 1) ls (.int (g.1 k i.toNatClampNeg) :: rest))) : W p l e R s m args below meth c H locs cells slots Q (F0 m pc ls (.int i :: .ref (ad k) :: rest)) := by
  obtain ⟨q, hq⟩ := gw_at hk
  exact va_zald hx hb hK hG.1 q 4 (by rw [gw_get hq, hc]) rfl hin hdg kk
theorem g_iast (hx : p.tables.exec = Jvm.exec) (hb : c.code = cc) (hK : va_K D vwCl (gtys K) s) (hG : gX D K ad A H0 g H locs) {k n : Nat} (hk : gok k) (hc : ∀ g : gS, gcont K ad g k = .inl (K 3, n, .inl (g.1 k))) {i x : Int32} (hin : vp_in i n) (ho : ∀ j, j ≠ k → gok j → gcont K ad (gi g k i.toNatClampNeg x) j = gcont K ad g j) (hdg : decode cc pc = .ok (.iastore, 1))
    (kk : ∀ (H1 : Heap) (locs1 : List Loc), gX D K ad A H0 (gi g k i.toNatClampNeg x) H1 locs1 → W p l e R s m args below meth c H1 locs1 cells slots Q (F0 m (pc + 1) ls rest)) : W p l e R s m args below meth c H locs cells slots Q (F0 m pc ls (.int x :: .int i :: .ref (ad k) :: rest)) := by
  obtain ⟨q, hq⟩ := gw_at hk
  have e1 : gcont K ad (gi g k i.toNatClampNeg x) k = .inl (K 3, n, .inl (upd (g.1 k) i.toNatClampNeg x)) := by
    rw [hc]
    simp only [gi, gu_u]
  refine va_iast hx hb hK hG.1 hG.2.1 hG.2.2 q 3 (by rw [gw_get hq, hc]) rfl hin hdg (fun H1 locs1 hP hD hS => ?_)
  rw [← e1, gw_set hG.2.1 hq ho] at hP hD
  exact kk H1 locs1 ⟨hP, hD, hS⟩
theorem g_bast (hx : p.tables.exec = Jvm.exec) (hb : c.code = cc) (hK : va_K D vwCl (gtys K) s) (hG : gX D K ad A H0 g H locs) {k n : Nat} (hk : gok k) (hc : ∀ g : gS, gcont K ad g k = .inl (K 0, n, .inl (g.1 k))) {i x : Int32} (hin : vp_in i n) (ho : ∀ j, j ≠ k → gok j → gcont K ad (gi g k i.toNatClampNeg (vp_nar .byte x)) j = gcont K ad g j) (hdg : decode cc pc = .ok (.bastore, 1))
    (kk : ∀ (H1 : Heap) (locs1 : List Loc), gX D K ad A H0 (gi g k i.toNatClampNeg (vp_nar .byte x)) H1 locs1 → W p l e R s m args below meth c H1 locs1 cells slots Q (F0 m (pc + 1) ls rest)) : W p l e R s m args below meth c H locs cells slots Q (F0 m pc ls (.int x :: .int i :: .ref (ad k) :: rest)) := by
  obtain ⟨q, hq⟩ := gw_at hk
  have e1 : gcont K ad (gi g k i.toNatClampNeg (vp_nar .byte x)) k = .inl (K 0, n, .inl (upd (g.1 k) i.toNatClampNeg (vp_nar .byte x))) := by
    rw [hc]
    simp only [gi, gu_u]
  refine va_bast hx hb hK hG.1 hG.2.1 hG.2.2 q 0 (by rw [gw_get hq, hc]) rfl hin hdg (fun H1 locs1 hP hD hS => ?_)
  rw [← e1, gw_set hG.2.1 hq ho] at hP hD
  exact kk H1 locs1 ⟨hP, hD, hS⟩
theorem g_zast (hx : p.tables.exec = Jvm.exec) (hb : c.code = cc) (hK : va_K D vwCl (gtys K) s) (hG : gX D K ad A H0 g H locs) {k n : Nat} (hk : gok k) (hc : ∀ g : gS, gcont K ad g k = .inl (K 4, n, .inl (g.1 k))) {i x : Int32} (hin : vp_in i n) (ho : ∀ j, j ≠ k → gok j → gcont K ad (gi g k i.toNatClampNeg (vp_nar .boolean x)) j = gcont K ad g j) (hdg : decode cc pc = .ok (.bastore, 1))
    (kk : ∀ (H1 : Heap) (locs1 : List Loc), gX D K ad A H0 (gi g k i.toNatClampNeg (vp_nar .boolean x)) H1 locs1 → W p l e R s m args below meth c H1 locs1 cells slots Q (F0 m (pc + 1) ls rest)) : W p l e R s m args below meth c H locs cells slots Q (F0 m pc ls (.int x :: .int i :: .ref (ad k) :: rest)) := by
  obtain ⟨q, hq⟩ := gw_at hk
  have e1 : gcont K ad (gi g k i.toNatClampNeg (vp_nar .boolean x)) k = .inl (K 4, n, .inl (upd (g.1 k) i.toNatClampNeg (vp_nar .boolean x))) := by
    rw [hc]
    simp only [gi, gu_u]
  refine va_zast hx hb hK hG.1 hG.2.1 hG.2.2 q 4 (by rw [gw_get hq, hc]) rfl hin hdg (fun H1 locs1 hP hD hS => ?_)
  rw [← e1, gw_set hG.2.1 hq ho] at hP hD
  exact kk H1 locs1 ⟨hP, hD, hS⟩
theorem g_lald (hx : p.tables.exec = Jvm.exec) (hb : c.code = cc) (hK : va_K D vwCl (gtys K) s) (hG : gX D K ad A H0 g H locs) {k n : Nat} (hk : gok k) (hc : gcont K ad g k = .inl (K 5, n, .inr (.inl (g.2.2.2 k)))) {i : Int32} (hin : vp_in i n) (hdg : decode cc pc = .ok (.laload, 1))
    (kk : W p l e R s m args below meth c H locs cells slots Q (F0 m (pc + 1) ls (.long (g.2.2.2 k i.toNatClampNeg) :: rest))) : W p l e R s m args below meth c H locs cells slots Q (F0 m pc ls (.int i :: .ref (ad k) :: rest)) := by
  obtain ⟨q, hq⟩ := gw_at hk
  exact va_lald hx hb hK hG.1 q 5 (by rw [gw_get hq, hc]) rfl hin hdg kk
theorem g_last (hx : p.tables.exec = Jvm.exec) (hb : c.code = cc) (hK : va_K D vwCl (gtys K) s) (hG : gX D K ad A H0 g H locs) {k n : Nat} (hk : gok k) (hc : ∀ g : gS, gcont K ad g k = .inl (K 5, n, .inr (.inl (g.2.2.2 k)))) {i : Int32} {x : Int64} (hin : vp_in i n) (ho : ∀ j, j ≠ k → gok j → gcont K ad (gj g k i.toNatClampNeg x) j = gcont K ad g j) (hdg : decode cc pc = .ok (.lastore, 1))
    (kk : ∀ (H1 : Heap) (locs1 : List Loc), gX D K ad A H0 (gj g k i.toNatClampNeg x) H1 locs1 → W p l e R s m args below meth c H1 locs1 cells slots Q (F0 m (pc + 1) ls rest)) : W p l e R s m args below meth c H locs cells slots Q (F0 m pc ls (.long x :: .int i :: .ref (ad k) :: rest)) := by
  obtain ⟨q, hq⟩ := gw_at hk
  have e1 : gcont K ad (gj g k i.toNatClampNeg x) k = .inl (K 5, n, .inr (.inl (vp_updL (g.2.2.2 k) i.toNatClampNeg x))) := by
    rw [hc, gj_u]
  refine va_last hx hb hK hG.1 hG.2.1 hG.2.2 q 5 (by rw [gw_get hq, hc]) rfl hin hdg (fun H1 locs1 hP hD hS => ?_)
  rw [← e1, gw_set hG.2.1 hq ho] at hP hD
  exact kk H1 locs1 ⟨hP, hD, hS⟩
/-- the nets' row: net i -/
theorem g_aldN (hx : p.tables.exec = Jvm.exec) (hb : c.code = cc) (hK : va_K D vwCl (gtys K) s) (hG : gX D K ad A H0 g H locs) {i : Int32} (hin : vp_in i 24) (hdg : decode cc pc = .ok (.aaload, 1))
    (kk : W p l e R s m args below meth c H locs cells slots Q (F0 m (pc + 1) ls (.ref (ad (100 + i.toNatClampNeg)) :: rest))) : W p l e R s m args below meth c H locs cells slots Q (F0 m pc ls (.int i :: .ref (ad 1) :: rest)) := by
  obtain ⟨q, hq⟩ := gw_at (k := 1) (gok_lo (by decide))
  exact va_aldq (C := "WireBench$Net") hx hb hK hG.1 q 1 (f := fun i => some (ad (100 + i))) (n := 24) (by rw [gw_get hq]; rfl) rfl hin hdg kk
/-- the arrivals' row -/
theorem g_aldA (hx : p.tables.exec = Jvm.exec) (hb : c.code = cc) (hK : va_K D vwCl (gtys K) s) (hG : gX D K ad A H0 g H locs) {i : Int32} (hin : vp_in i 512) (hdg : decode cc pc = .ok (.aaload, 1))
    (kk : W p l e R s m args below meth c H locs cells slots Q (F0 m (pc + 1) ls (.ref (ad (1000 + g.2.1 i.toNatClampNeg)) :: rest))) : W p l e R s m args below meth c H locs cells slots Q (F0 m pc ls (.int i :: .ref (ad 2) :: rest)) := by
  obtain ⟨q, hq⟩ := gw_at (k := 2) (gok_lo (by decide))
  exact va_aldq (C := "WireBench$Arrival") hx hb hK hG.1 q 2 (f := fun i => some (ad (1000 + g.2.1 i))) (n := 512) (by rw [gw_get hq]; rfl) rfl hin hdg kk
theorem g_astA (hx : p.tables.exec = Jvm.exec) (hb : c.code = cc) (hK : va_K D vwCl (gtys K) s) (hG : gX D K ad A H0 g H locs) {i : Int32} {j : Nat} (hj : j < 514) (hin : vp_in i 512) (hdg : decode cc pc = .ok (.aastore, 1))
    (kk : ∀ (H1 : Heap) (locs1 : List Loc), gX D K ad A H0 (gp g i.toNatClampNeg j) H1 locs1 → W p l e R s m args below meth c H1 locs1 cells slots Q (F0 m (pc + 1) ls rest)) : W p l e R s m args below meth c H locs cells slots Q (F0 m pc ls (.ref (ad (1000 + j)) :: .int i :: .ref (ad 2) :: rest)) := by
  obtain ⟨q, hq⟩ := gw_at (k := 2) (gok_lo (by decide))
  obtain ⟨q2, hq2⟩ := gw_at (k := 1000 + j) (gok_A hj)
  have e1 : gcont K ad (gp g i.toNatClampNeg j) 2 = .inl (K 2, 512, .inr (.inr (.inr (.inr (va_up (fun i => some (ad (1000 + g.2.1 i))) i.toNatClampNeg (some (ad (1000 + j)))))))) := by
    rw [gc_lo (by decide)]
    simp only [gc0, gp]
    congr 7
    funext x
    by_cases hx2 : x = i.toNatClampNeg
    · subst hx2; simp [va_up]
    · simp [va_up, hx2]
  refine va_astq hx hb hK hG.1 hG.2.1 hG.2.2 q 2 q2 0 (r := (RX0, TX0, 9)) (f := fun i => some (ad (1000 + g.2.1 i))) (n := 512) (by rw [gw_get hq]; rfl) rfl (by rw [gw_get hq2, gc_A]) rfl hin hdg (fun H1 locs1 hP hD hS => ?_)
  rw [← e1, gw_set hG.2.1 hq gho_p] at hP hD
  exact kk H1 locs1 ⟨hP, hD, hS⟩
end GROWS
/-! what the tables and the heap's other cells give, wherever a method begins -/
def gE (D : va_G) (K : Nat → ClassId) (sa : Nat → Nat) (A : Nat → Prop) (U : State) (H : Heap) : Prop :=
  va_K D vwCl (gtys K) U ∧ (∀ q ∈ gnF, va_Nw (.fieldLinkNest q.1 q.2.1 q.2.2.1 q.2.2.2.1 q.2.2.2.2.1 q.2.2.2.2.2) U) ∧ (∀ q ∈ gnM, va_Nw (.methodLinkNest q.1 q.2.1 q.2.2.1 q.2.2.2) U) ∧ (∀ q ∈ gstr, vk_R q.1 q.2.1 q.2.2 (sa q.2.1) U) ∧ (∀ q ∈ gcst, va_Nw (.castable q.1 q.2) U) ∧ (∀ y ∈ gdcl, va_Nw (.declares y) U) ∧ vx_Zq Bundle.tN "UNASSIGNED_STACK" Bundle.steD A U H ∧ vx_Zq Bundle.tN "SUPPRESSED_SENTINEL" Bundle.listD A U H
theorem gE.at {D : va_G} {K : Nat → ClassId} {sa : Nat → Nat} {A B : Nat → Prop} {s U : State} {H : Heap} {locs : List Loc} (h : gE D K sa A s s.heap) (hS : va_S A s.heap H locs) (hAB : ∀ q, B q → A q) (hU : U.heap = H) (hW : s.WarmedH U.vm) : gE D K sa B U U.heap := by
  obtain ⟨h1, h2, h3, h4, h7, h8, h5, h6⟩ := h
  subst hU
  exact ⟨va_K.moved hW.alike h1, fun q hq => va_Nw.warmF hW (h2 q hq), fun q hq => va_Nw.warmM hW (h3 q hq), fun q hq => vk_R.warm hW (h4 q hq), fun q hq => va_Nw.warmC hW (h7 q hq), fun y hy => va_Nw.warmD hW (h8 y hy), vx_Zq.moved hW.alike ((h5.kept hS.2.1).narrow hAB), vx_Zq.moved hW.alike ((h6.kept hS.2.1).narrow hAB)⟩
def gPc (D : va_G) (K : Nat → ClassId) (sa : Nat → Nat) (ad : Nat → Nat) (sz : Nat) (g : gS) (av : List Value) : Array Value → State → Prop :=
  va_Pc av (fun U => U.heap.size = sz ∧ va_P D vwCl (gw K ad g) U.heap ∧ gE D K sa (va_A (gw K ad g) sz) U U.heap ∧ va_D (fun _ => True) (gw K ad g))
def gB (D : va_G) (K : Nat → ClassId) (ad : Nat → Nat) (A : Nat → Prop) (g : gS) (t : State) : Prop := va_P D vwCl (gw K ad g) t.heap ∧ va_D A (gw K ad g)
def gBX (D : va_G) (K : Nat → ClassId) (ad : Nat → Nat) (A : Nat → Prop) (E : String) (u : String × gS) (t : State) : Prop := u.1 = E ∧ gB D K ad A u.2 t
def gBr (D : va_G) (K : Nat → ClassId) (ad : Nat → Nat) (A : Nat → Prop) (u : Nat × gS) (a : Nat) (t : State) : Prop := a = ad u.1 ∧ gB D K ad A u.2 t
theorem gPc_blind {D : va_G} {K : Nat → ClassId} {sa : Nat → Nat} {ad : Nat → Nat} {sz : Nat} {g : gS} {av : List Value} : FrameBlind (gPc D K sa ad sz g av) := by
  intro a U g1 mk h
  obtain ⟨h0, h1, hP, hE, hD⟩ := h
  exact ⟨h0, h1, hP, hE.at (U := U.calling g1 mk a) va_S.rf (fun _ h => h) rfl (State.WarmedH.refl U), hD⟩
section GCALLS
variable {p : Program} {l : Launch} {e : Env} {R : Room} {s : State} {m : MethodId} {args : Array Value} {below : List Frame} {meth : Method} {c : Code} {H : Heap} {locs : List Loc} {cells slots : Nat} {Q : State → Prop}
variable {cc : ByteArray} {pc : Nat} {ls : Array Slot} {rest st0 : List Value} {D : va_G} {K : Nat → ClassId} {sa ad : Nat → Nat} {A : Nat → Prop} {g : gS} {mc ms : Nat} {a : Array Value}
theorem gfree {H0 : Heap} (hG : gX D K ad A H0 g H locs) (hA : ∀ q, H0.size ≤ q → A q) : ∀ q, va_A (gw K ad g) H.size q → A q := by
  intro q h
  rcases h with ⟨k, x, hk⟩ | h
  · exact hG.2.1.2 k _ hk
  · exact hA q (Nat.le_trans hG.2.2.1 h)
theorem gPc_at {av : List Value} (hE : gE D K sa A s s.heap) (hG : gX D K ad A s.heap g H locs) (hA : ∀ q, s.heap.size ≤ q → A q) : ∀ U : State, U.heap = H → s.WarmedH U.vm → gPc D K sa ad H.size g av av.toArray U := by
  intro U hU hW
  exact ⟨rfl, by rw [hU], by rw [hU]; exact hG.1, by have h := hE.at hG.2.2 (gfree hG hA) hU hW; exact h, hG.2.1.weaken (fun _ _ _ _ => trivial)⟩
theorem g_recv {H0 : Heap} (hK : va_K D vwCl (gtys K) s) (hG : gX D K ad A H0 g H locs) {k ci : Nat} (hk : gok k) {fs : List Value} (hc : gcont K ad g k = .inr (ci, fs)) {q : vw_C} (hcl : vwCl[ci]? = some q) : ∃ cell : Cell, H[ad k]? = some cell ∧ cell.vm.isStatics = false ∧ s.vm.findClass q.1 = some cell.cls := by
  obtain ⟨z, hz⟩ := gw_at hk
  exact va_recv hK hG.1 hcl (q0 := z) (fs := fs) (by rw [gw_get hz, hc])
theorem g_calli {post : Int32 → gS → Prop} (hr : va_Run p l e R s m args below meth c H locs cells slots mc ms (F0 m pc ls st0) rest (va_Qi post (gB D K ad (va_A (gw K ad g) H.size)) (va_A (gw K ad g) H.size) a) (va_A (gw K ad g) H.size)) (hG : gX D K ad A s.heap g H locs) (hA : ∀ q, s.heap.size ≤ q → A q)
    (kk : ∀ (r : Int32) (g1 : gS) (H1 : Heap) (locs1 : List Loc), post r g1 → gX D K ad A s.heap g1 H1 locs1 → W p l e R s m args below meth c H1 locs1 (cells + mc) (slots + ms) Q (F0 m (pc + 3) ls (.int r :: rest))) : W p l e R s m args below meth c H locs cells slots Q (F0 m pc ls st0) := by
  have hF := gfree hG hA
  refine va_calli hr hG.2.2 (fun q _ h => hF q h) hF (fun r u t H1 locs1 ht hvm hp hB hz hk hS => ?_)
  obtain ⟨b1, b2⟩ := hB
  rw [ht] at b1
  exact kk r u H1 locs1 hp ⟨b1, b2.weaken (fun _ _ _ h => hF _ h), hS⟩
theorem g_callv {post : gS → Prop} (hr : va_Run p l e R s m args below meth c H locs cells slots mc ms (F0 m pc ls st0) rest (va_Qv post (gB D K ad (va_A (gw K ad g) H.size)) (va_A (gw K ad g) H.size) a) (va_A (gw K ad g) H.size)) (hG : gX D K ad A s.heap g H locs) (hA : ∀ q, s.heap.size ≤ q → A q)
    (kk : ∀ (g1 : gS) (H1 : Heap) (locs1 : List Loc), post g1 → gX D K ad A s.heap g1 H1 locs1 → W p l e R s m args below meth c H1 locs1 (cells + mc) (slots + ms) Q (F0 m (pc + 3) ls rest)) : W p l e R s m args below meth c H locs cells slots Q (F0 m pc ls st0) := by
  have hF := gfree hG hA
  refine va_callv hr hG.2.2 (fun q _ h => hF q h) hF (fun u t H1 locs1 ht hvm hp hB hz hk hS => ?_)
  obtain ⟨b1, b2⟩ := hB
  rw [ht] at b1
  exact kk u H1 locs1 hp ⟨b1, b2.weaken (fun _ _ _ h => hF _ h), hS⟩
theorem g_xcalli {post : Int32 → gS → Prop} {px : String × gS → Prop} (hr : vx_Run p l e R s m args below meth c H locs cells slots mc ms (F0 m pc ls st0) rest (va_Qi post (gB D K ad (va_A (gw K ad g) H.size)) (va_A (gw K ad g) H.size) a) (vx_X px (gBX D K ad (va_A (gw K ad g) H.size)) (va_A (gw K ad g) H.size)) (va_A (gw K ad g) H.size)) (hG : gX D K ad A s.heap g H locs) (hA : ∀ q, s.heap.size ≤ q → A q)
    (kx : ∀ (E : String) (ce : Cell) (q9 : Addr) (g1 : gS) (H1 : Heap) (locs1 : List Loc), px (E, g1) → gX D K ad A s.heap g1 H1 locs1 → H1[q9]? = some ce → ce.vm = .none → s.vm.findClass E = some ce.cls → vx_W p l e R s m args below meth c H1 locs1 (cells + mc) (slots + ms) Q (F0 m pc ls rest) q9)
    (kk : ∀ (r : Int32) (g1 : gS) (H1 : Heap) (locs1 : List Loc), post r g1 → gX D K ad A s.heap g1 H1 locs1 → W p l e R s m args below meth c H1 locs1 (cells + mc) (slots + ms) Q (F0 m (pc + 3) ls (.int r :: rest))) : W p l e R s m args below meth c H locs cells slots Q (F0 m pc ls st0) := by
  have hF := gfree hG hA
  refine vx_calli hr hG.2.2 (fun q _ h => hF q h) hF (fun q _ h => hF q h) (fun E ce q9 u t H1 locs1 ht hvm hp hB hz hk hS h1 h2 h3 => ?_) (fun r u t H1 locs1 ht hvm hp hB hz hk hS => ?_)
  · obtain ⟨E1, g1⟩ := u
    obtain ⟨b0, b1, b2⟩ := hB
    cases b0
    rw [ht] at b1
    exact kx _ ce q9 g1 H1 locs1 hp ⟨b1, b2.weaken (fun _ _ _ h => hF _ h), hS⟩ h1 h2 h3
  · obtain ⟨b1, b2⟩ := hB
    rw [ht] at b1
    exact kk r u H1 locs1 hp ⟨b1, b2.weaken (fun _ _ _ h => hF _ h), hS⟩
/-- a call that answers a cell of the world, or throws -/
theorem g_xcallr {post : Nat × gS → Prop} {px : String × gS → Prop} (hr : vx_Run p l e R s m args below meth c H locs cells slots mc ms (F0 m pc ls st0) rest (va_Qr post (gBr D K ad (va_A (gw K ad g) H.size)) (va_A (gw K ad g) H.size) a) (vx_X px (gBX D K ad (va_A (gw K ad g) H.size)) (va_A (gw K ad g) H.size)) (va_A (gw K ad g) H.size)) (hG : gX D K ad A s.heap g H locs) (hA : ∀ q, s.heap.size ≤ q → A q)
    (kx : ∀ (E : String) (ce : Cell) (q9 : Addr) (g1 : gS) (H1 : Heap) (locs1 : List Loc), px (E, g1) → gX D K ad A s.heap g1 H1 locs1 → H1[q9]? = some ce → ce.vm = .none → s.vm.findClass E = some ce.cls → vx_W p l e R s m args below meth c H1 locs1 (cells + mc) (slots + ms) Q (F0 m pc ls rest) q9)
    (kk : ∀ (k : Nat) (g1 : gS) (H1 : Heap) (locs1 : List Loc), post (k, g1) → gX D K ad A s.heap g1 H1 locs1 → W p l e R s m args below meth c H1 locs1 (cells + mc) (slots + ms) Q (F0 m (pc + 3) ls (.ref (ad k) :: rest))) : W p l e R s m args below meth c H locs cells slots Q (F0 m pc ls st0) := by
  have hF := gfree hG hA
  have hAA : ∀ q, q < H.size → va_A (gw K ad g) H.size q → A q := fun q _ h => hF q h
  intro T hT X
  rcases hr T hT X with ⟨v, st₀, t, T', L, h0, X', hL, e1, e2, ⟨⟨u, ra, hv, hp, hb⟩, hf2⟩, st⟩ | ⟨q, st₀, t, T', L, E, ce, h0, X', hL, e1, e2, ⟨u, hp, hb, hf2⟩, hce, hcv, hcl, st⟩
  · cases hv
    obtain ⟨k1, k2, k3⟩ := vx_keep h0 e1 hG.2.2 hAA hF hL hf2
    obtain ⟨ku, gu1⟩ := u
    obtain ⟨b0, b1, b2⟩ := hb
    cases b0
    rw [← e1] at b1
    obtain ⟨t2, a1, c1⟩ := kk ku gu1 T'.heap (locs ++ L) hp ⟨b1, b2.weaken (fun _ _ _ h => hF _ h), k3⟩ T' rfl X'
    exact ⟨t2, st t2 a1, c1⟩
  · obtain ⟨k1, k2, k3⟩ := vx_keep h0 e1 hG.2.2 hAA hF hL hf2
    obtain ⟨E1, g1⟩ := u
    obtain ⟨b0, b1, b2⟩ := hb
    cases b0
    rw [← e1] at b1
    obtain ⟨t2, a1, c1⟩ := kx _ ce q g1 T'.heap (locs ++ L) hp ⟨b1, b2.weaken (fun _ _ _ h => hF _ h), k3⟩ (by rw [e1]; exact hce) hcv hcl T' rfl X'
    exact ⟨t2, st.trans a1, c1⟩
/-! ends -/
theorem g_zret {post : Int32 → gS → Prop} {v : Int32} {ty : FieldType} (hx : p.tables.exec = Jvm.exec) (hb : c.code = cc) (hr : meth.sig.returnType = some ty) (hn : narrow ty (.int v) = .int v) (hlocks : meth.locks = false) (hw : post v g) (hG : gX D K ad A s.heap g H locs) (hc : cells ≤ mc) (hs : slots ≤ ms) (hdg : decode cc pc = .ok (.ireturn, 1)) :
    W p l e R s m args below meth c H locs cells slots (MQ below (va_Qi post (gB D K ad A) A) args s mc ms A) (F0 m pc ls [.int v]) :=
  W.widen hc hs (W.zret hx hb hr hn (fun t ht hW => ⟨⟨v, g, rfl, hw, by rw [ht]; exact hG.1, hG.2.1⟩, hG.2.2.F ht⟩) hG.2.2.2.2 hdg hlocks)
theorem g_iret {post : Int32 → gS → Prop} {v : Int32} (hx : p.tables.exec = Jvm.exec) (hb : c.code = cc) (hr : meth.sig.returnType = some .int) (hlocks : meth.locks = false) (hw : post v g) (hG : gX D K ad A s.heap g H locs) (hc : cells ≤ mc) (hs : slots ≤ ms) (hdg : decode cc pc = .ok (.ireturn, 1)) :
    W p l e R s m args below meth c H locs cells slots (MQ below (va_Qi post (gB D K ad A) A) args s mc ms A) (F0 m pc ls [.int v]) :=
  W.widen hc hs (W.iret hx hb hr (fun t ht hW => ⟨⟨v, g, rfl, hw, by rw [ht]; exact hG.1, hG.2.1⟩, hG.2.2.F ht⟩) hG.2.2.2.2 hdg hlocks)
theorem g_vret {post : gS → Prop} (hx : p.tables.exec = Jvm.exec) (hb : c.code = cc) (hr : meth.sig.returnType = none) (hlocks : meth.locks = false) (hw : post g) (hG : gX D K ad A s.heap g H locs) (hc : cells ≤ mc) (hs : slots ≤ ms) (hdg : decode cc pc = .ok (.return_, 1)) :
    W p l e R s m args below meth c H locs cells slots (MQ below (va_Qv post (gB D K ad A) A) args s mc ms A) (F0 m pc ls []) :=
  W.widen hc hs (W.vret hx hb hr (fun t ht hW => ⟨⟨g, rfl, hw, by rw [ht]; exact hG.1, hG.2.1⟩, hG.2.2.F ht⟩) hG.2.2.2.2 hdg hlocks)
theorem g_aret {post : Nat × gS → Prop} {k : Nat} {n : String} (hx : p.tables.exec = Jvm.exec) (hb : c.code = cc) (hr : meth.sig.returnType = some (.object n)) (hlocks : meth.locks = false) (hw : post (k, g)) (hG : gX D K ad A s.heap g H locs) (hc : cells ≤ mc) (hs : slots ≤ ms) (hdg : decode cc pc = .ok (.areturn, 1)) :
    W p l e R s m args below meth c H locs cells slots (MQ below (va_Qr post (gBr D K ad A) A) args s mc ms A) (F0 m pc ls [.ref (ad k)]) :=
  W.widen hc hs (W.aret hx hb hr (Or.inl ⟨n, rfl⟩) (Or.inr ⟨_, rfl⟩) (fun t ht hW => ⟨⟨(k, g), ad k, rfl, hw, rfl, by rw [ht]; exact hG.1, hG.2.1⟩, hG.2.2.F ht⟩) hG.2.2.2.2 hdg hlocks)
/-- an exception of a callee goes on, out of a method without a table -/
theorem g_out {Qc : Array Value → State → Outcome → State → Prop} {px : String × gS → Prop} {E : String} {ce : Cell} {q : Addr} (hN : ∀ x ∈ c.exceptionTable.toList, False) (hlocks : meth.locks = false) (hcell : H[q]? = some ce) (hv : ce.vm = .none) (hcl : s.vm.findClass E = some ce.cls) (hw : px (E, g)) (hG : gX D K ad A s.heap g H locs) (hc : cells ≤ mc) (hs : slots ≤ ms) :
    vx_W p l e R s m args below meth c H locs cells slots (vx_MQ below Qc (vx_X px (gBX D K ad A) A) args s mc ms A) (F0 m pc ls rest) q :=
  vx_out (fun x hx => (hN x hx).elim) hlocks hcell hv hcl (fun t ht ha => ⟨(E, g), hw, ⟨rfl, by rw [ht]; exact hG.1, hG.2.1⟩, hG.2.2.F ht⟩) hG.2.2.2.2 hc hs
/-- 'throw new E("text")' -/
theorem g_throwS {Qc : Array Value → State → Outcome → State → Prop} {px : String × gS → Prop} {own cls text : String} {names : List String} {ik is ic : Nat} (hx : p.tables.exec = Jvm.exec) (hb : c.code = cc) (hl9 : l.stackTraces = false) (hown : s.vm.findClass own = some m.cls) (hcls : Bundle.fit cls = true) (hnames : ∀ n ∈ names, Bundle.fit n = true)
    (hk : (Cond.classLink own ik cls).before args s = true) (hini : (Cond.initialized cls).before args s = true) (hE : gE D K sa A s s.heap) (hstr : (own, is, text) ∈ gstr) (hat : ∀ w ∈ vx_atS own ic cls names, w.before args s = true) (hgood : ∀ w ∈ Cond.classLink own ik cls :: Cond.initialized cls :: vx_atS own ic cls names, vx_ot w = true)
    (hsize : ls.size = c.maxLocals) (hN : ∀ x ∈ c.exceptionTable.toList, False) (hlocks : meth.locks = false) (hw : px (cls, g)) (hG : gX D K ad A s.heap g H locs)
    (d0 : decode cc pc = .ok (.new ik, 3)) (d3 : decode cc (pc + 3) = .ok (.dup, 1)) (d4 : decode cc (pc + 4) = .ok (.ldc is, 2)) (d6 : decode cc (pc + 6) = .ok (.invokespecial ic, 3)) (d9 : decode cc (pc + 9) = .ok (.athrow, 1))
    (hRframes : names.length + 3 < R.frames) (hRlocals : (rest.map fun v => v.category).sum + (13 * (names.length + 1) + 43) ≤ R.locals) (hRcells : cells + 1 ≤ R.cells) (hRslots : slots + 6 ≤ R.slots) (hc : cells + 1 ≤ mc) (hs : slots + 6 ≤ ms) :
    W p l e R s m args below meth c H locs cells slots (vx_MQ below Qc (vx_X px (gBX D K ad A) A) args s mc ms A) (F0 m pc ls rest) :=
  vx_throwS hx hb hl9 hown hcls hnames hk hini (hE.2.2.2.1 _ hstr) hat hgood hE.2.2.2.2.2.2.1 hE.2.2.2.2.2.2.2 hG.2.2 hsize d0 d3 d4 d6 d9 (fun x hx => (hN x hx).elim) hRframes hRlocals hRcells hRslots hlocks
    (fun t ha hz hk => ⟨(cls, g), hw, ⟨rfl, hG.1.kept (fun k q hq => hk q.1 ((hG.1 k q hq).lt)), hG.2.1⟩, ⟨Nat.le_trans hG.2.2.1 hz, fun q h1 h2 => (hk q (Nat.lt_of_lt_of_le h1 hG.2.2.1)).trans (hG.2.2.2.1 q h1 h2)⟩⟩) hG.2.2.2.2 hc hs
end GCALLS
set_option maxRecDepth 20000 in
theorem hatg_IAE_58 : ∀ w ∈ (vx_atS RX2 58 "java/lang/IllegalArgumentException" ["java/lang/RuntimeException", "java/lang/Exception"]).filter goodWord, w ∈ lw_tbl := by decide +kernel
set_option maxRecDepth 20000 in
theorem hat_IAE_58 {D : va_G} {K : Nat → ClassId} {sa : Nat → Nat} {A : Nat → Prop} {args : Array Value} {s : State} {H : Heap} (hq : ∀ w ∈ gW, w.before args s = true) (hE : gE D K sa A s H) : ∀ w ∈ vx_atS RX2 58 "java/lang/IllegalArgumentException" ["java/lang/RuntimeException", "java/lang/Exception"], w.before args s = true :=
  vx_hat (L := vx_atS RX2 58 "java/lang/IllegalArgumentException" ["java/lang/RuntimeException", "java/lang/Exception"]) (B := [.castable "java/lang/IllegalArgumentException" "java/lang/IllegalArgumentException", .declares ⟨"java/lang/RuntimeException", "<init>", "(Ljava/lang/String;)V"⟩, .declares ⟨"java/lang/Exception", "<init>", "(Ljava/lang/String;)V"⟩, .declares ⟨"java/lang/Throwable", "<init>", "(Ljava/lang/String;)V"⟩]) (fun w hw => hq w (gW_of (hatg_IAE_58 w hw) (List.mem_filter.mp hw).2)) (by decide +kernel) (vx_c (va_Nw.use rfl (hE.2.2.2.2.1 ("java/lang/IllegalArgumentException", "java/lang/IllegalArgumentException") (by decide +kernel))) (vx_c (va_Nw.use rfl (hE.2.2.2.2.2.1 ⟨"java/lang/RuntimeException", "<init>", "(Ljava/lang/String;)V"⟩ (by decide +kernel))) (vx_c (va_Nw.use rfl (hE.2.2.2.2.2.1 ⟨"java/lang/Exception", "<init>", "(Ljava/lang/String;)V"⟩ (by decide +kernel))) (vx_c (va_Nw.use rfl (hE.2.2.2.2.2.1 ⟨"java/lang/Throwable", "<init>", "(Ljava/lang/String;)V"⟩ (by decide +kernel))) (vx_n)))))
set_option maxRecDepth 20000 in
theorem hgd_IAE_58 : ∀ w ∈ Cond.classLink RX2 54 "java/lang/IllegalArgumentException" :: Cond.initialized "java/lang/IllegalArgumentException" :: vx_atS RX2 58 "java/lang/IllegalArgumentException" ["java/lang/RuntimeException", "java/lang/Exception"], vx_ot w = true := by decide +kernel
set_option maxRecDepth 20000 in
theorem hatg_ISE_67 : ∀ w ∈ (vx_atS RX2 67 "java/lang/IllegalStateException" ["java/lang/RuntimeException", "java/lang/Exception"]).filter goodWord, w ∈ lw_tbl := by decide +kernel
set_option maxRecDepth 20000 in
theorem hat_ISE_67 {D : va_G} {K : Nat → ClassId} {sa : Nat → Nat} {A : Nat → Prop} {args : Array Value} {s : State} {H : Heap} (hq : ∀ w ∈ gW, w.before args s = true) (hE : gE D K sa A s H) : ∀ w ∈ vx_atS RX2 67 "java/lang/IllegalStateException" ["java/lang/RuntimeException", "java/lang/Exception"], w.before args s = true :=
  vx_hat (L := vx_atS RX2 67 "java/lang/IllegalStateException" ["java/lang/RuntimeException", "java/lang/Exception"]) (B := [.castable "java/lang/IllegalStateException" "java/lang/IllegalStateException", .declares ⟨"java/lang/RuntimeException", "<init>", "(Ljava/lang/String;)V"⟩, .declares ⟨"java/lang/Exception", "<init>", "(Ljava/lang/String;)V"⟩, .declares ⟨"java/lang/Throwable", "<init>", "(Ljava/lang/String;)V"⟩]) (fun w hw => hq w (gW_of (hatg_ISE_67 w hw) (List.mem_filter.mp hw).2)) (by decide +kernel) (vx_c (va_Nw.use rfl (hE.2.2.2.2.1 ("java/lang/IllegalStateException", "java/lang/IllegalStateException") (by decide +kernel))) (vx_c (va_Nw.use rfl (hE.2.2.2.2.2.1 ⟨"java/lang/RuntimeException", "<init>", "(Ljava/lang/String;)V"⟩ (by decide +kernel))) (vx_c (va_Nw.use rfl (hE.2.2.2.2.2.1 ⟨"java/lang/Exception", "<init>", "(Ljava/lang/String;)V"⟩ (by decide +kernel))) (vx_c (va_Nw.use rfl (hE.2.2.2.2.2.1 ⟨"java/lang/Throwable", "<init>", "(Ljava/lang/String;)V"⟩ (by decide +kernel))) (vx_n)))))
set_option maxRecDepth 20000 in
theorem hgd_ISE_67 : ∀ w ∈ Cond.classLink RX2 63 "java/lang/IllegalStateException" :: Cond.initialized "java/lang/IllegalStateException" :: vx_atS RX2 67 "java/lang/IllegalStateException" ["java/lang/RuntimeException", "java/lang/Exception"], vx_ot w = true := by decide +kernel
set_option maxRecDepth 20000 in
theorem hatg_IOB_156 : ∀ w ∈ (vx_atS RX2 156 "java/lang/IndexOutOfBoundsException" ["java/lang/RuntimeException", "java/lang/Exception"]).filter goodWord, w ∈ lw_tbl := by decide +kernel
set_option maxRecDepth 20000 in
theorem hat_IOB_156 {D : va_G} {K : Nat → ClassId} {sa : Nat → Nat} {A : Nat → Prop} {args : Array Value} {s : State} {H : Heap} (hq : ∀ w ∈ gW, w.before args s = true) (hE : gE D K sa A s H) : ∀ w ∈ vx_atS RX2 156 "java/lang/IndexOutOfBoundsException" ["java/lang/RuntimeException", "java/lang/Exception"], w.before args s = true :=
  vx_hat (L := vx_atS RX2 156 "java/lang/IndexOutOfBoundsException" ["java/lang/RuntimeException", "java/lang/Exception"]) (B := [.castable "java/lang/IndexOutOfBoundsException" "java/lang/IndexOutOfBoundsException", .declares ⟨"java/lang/RuntimeException", "<init>", "(Ljava/lang/String;)V"⟩, .declares ⟨"java/lang/Exception", "<init>", "(Ljava/lang/String;)V"⟩, .declares ⟨"java/lang/Throwable", "<init>", "(Ljava/lang/String;)V"⟩]) (fun w hw => hq w (gW_of (hatg_IOB_156 w hw) (List.mem_filter.mp hw).2)) (by decide +kernel) (vx_c (va_Nw.use rfl (hE.2.2.2.2.1 ("java/lang/IndexOutOfBoundsException", "java/lang/IndexOutOfBoundsException") (by decide +kernel))) (vx_c (va_Nw.use rfl (hE.2.2.2.2.2.1 ⟨"java/lang/RuntimeException", "<init>", "(Ljava/lang/String;)V"⟩ (by decide +kernel))) (vx_c (va_Nw.use rfl (hE.2.2.2.2.2.1 ⟨"java/lang/Exception", "<init>", "(Ljava/lang/String;)V"⟩ (by decide +kernel))) (vx_c (va_Nw.use rfl (hE.2.2.2.2.2.1 ⟨"java/lang/Throwable", "<init>", "(Ljava/lang/String;)V"⟩ (by decide +kernel))) (vx_n)))))
set_option maxRecDepth 20000 in
theorem hgd_IOB_156 : ∀ w ∈ Cond.classLink RX2 152 "java/lang/IndexOutOfBoundsException" :: Cond.initialized "java/lang/IndexOutOfBoundsException" :: vx_atS RX2 156 "java/lang/IndexOutOfBoundsException" ["java/lang/RuntimeException", "java/lang/Exception"], vx_ot w = true := by decide +kernel
end
section
def wp_X2_ringPlace (post : Int32 → gS → Prop) (p0 : Int32) (g : gS) : Prop := post (p0 &&& 4095) g
set_option maxHeartbeats 4000000 in
set_option maxRecDepth 100000 in
theorem m_X2_ringPlace {l : Launch} (hl9 : l.stackTraces = false) (D : va_G) (K : Nat → ClassId) (sa ad : Nat → Nat) (sz : Nat) (post : Int32 → gS → Prop) (p0 : Int32) (g : gS) (hw : wp_X2_ringPlace post p0 g) : Met l yX2_ringPlace wsX2_ringPlace ({ frames := 0, cells := 0, slots := 0, locals := 0 } : Room) (gPc D K sa ad sz g [.int p0]) (va_Qi post (gB D K ad (va_A (gw K ad g) sz)) (va_A (gw K ad g) sz)) 0 0 (va_A (gw K ad g) sz) := by
  refine Met.ofW (cc := cX2_ringPlace) (maxL := 1) (ret := (some .int)) (by decide) rfl ?_
  intro p e s m args below meth c s₁ B hml hv
  obtain ⟨rfl, hsz, hP, hE, hD0⟩ := hv
  have hx := B.exec
  have hb := B.bytes
  have hr := B.returns
  have hts := atoms_spec (ws := wsX2_ringPlace) B.pre
  have hq : ∀ w ∈ gW, w.before _ s = true := fun w h => hts w (List.mem_cons_of_mem _ h)
  have hown : s.vm.findClass RX2 = some m.cls := findClass_of_methodNamed B.named
  have hlocks := B.notSynchronized
  subst hsz
  have hD := hD0.self (sz := s.heap.size)
  generalize hAe : va_A (gw K ad g) s.heap.size = A at hD hE ⊢
  have hA : ∀ q : Nat, s.heap.size ≤ q → A q := fun q h => by rw [← hAe]; exact Or.inr h
  have hK := hE.1
  have hG : gX D K ad A s.heap g s.heap [] := ⟨hP, hD, va_S.rf⟩
  have hl := lv_entry ([.int p0]) (n := 1) (Nat.le_of_ble_eq_true rfl)
  rw [lg_entry_eq]
  generalize (lg_sl ([.int p0]) ++ List.replicate (1 - (lg_sl ([.int p0])).length) Slot.unset).toArray = ls at hl ⊢
  have hl : lv_has ls 1 [(0, .int p0)] := hl
  dsimp only [wp_X2_ringPlace] at hw
  refine lv_iload_n hx hb dX2_ringPlace_0 rfl (lv_at hl 0 rfl) ?_
  refine lv_sipush (v := 4095) hx hb dX2_ringPlace_1 (by decide) ?_
  refine lv_iand hx hb dX2_ringPlace_4 ?_
  exact g_iret hx hb hr hlocks hw hG (by decide) (by decide) dX2_ringPlace_5

def wp_X2_isStation (post : Int32 → gS → Prop) (p0 : Int32) (g : gS) : Prop := ((p0 < 0) → (post 0 g)) ∧ ((¬ p0 < 0) → (((8 ≤ p0) → (post 0 g)) ∧ ((¬ 8 ≤ p0) → (post 1 g))))
set_option maxHeartbeats 4000000 in
set_option maxRecDepth 100000 in
theorem m_X2_isStation {l : Launch} (hl9 : l.stackTraces = false) (D : va_G) (K : Nat → ClassId) (sa ad : Nat → Nat) (sz : Nat) (post : Int32 → gS → Prop) (p0 : Int32) (g : gS) (hw : wp_X2_isStation post p0 g) : Met l yX2_isStation wsX2_isStation ({ frames := 0, cells := 0, slots := 0, locals := 0 } : Room) (gPc D K sa ad sz g [.int p0]) (va_Qi post (gB D K ad (va_A (gw K ad g) sz)) (va_A (gw K ad g) sz)) 0 0 (va_A (gw K ad g) sz) := by
  refine Met.ofW (cc := cX2_isStation) (maxL := 1) (ret := (some .boolean)) (by decide) rfl ?_
  intro p e s m args below meth c s₁ B hml hv
  obtain ⟨rfl, hsz, hP, hE, hD0⟩ := hv
  have hx := B.exec
  have hb := B.bytes
  have hr := B.returns
  have hts := atoms_spec (ws := wsX2_isStation) B.pre
  have hq : ∀ w ∈ gW, w.before _ s = true := fun w h => hts w (List.mem_cons_of_mem _ h)
  have hown : s.vm.findClass RX2 = some m.cls := findClass_of_methodNamed B.named
  have hlocks := B.notSynchronized
  subst hsz
  have hD := hD0.self (sz := s.heap.size)
  generalize hAe : va_A (gw K ad g) s.heap.size = A at hD hE ⊢
  have hA : ∀ q : Nat, s.heap.size ≤ q → A q := fun q h => by rw [← hAe]; exact Or.inr h
  have hK := hE.1
  have hG : gX D K ad A s.heap g s.heap [] := ⟨hP, hD, va_S.rf⟩
  have hl := lv_entry ([.int p0]) (n := 1) (Nat.le_of_ble_eq_true rfl)
  rw [lg_entry_eq]
  generalize (lg_sl ([.int p0]) ++ List.replicate (1 - (lg_sl ([.int p0])).length) Slot.unset).toArray = ls at hl ⊢
  have hl : lv_has ls 1 [(0, .int p0)] := hl
  dsimp only [wp_X2_isStation] at hw
  refine lv_iload_n hx hb dX2_isStation_0 rfl (lv_at hl 0 rfl) ?_
  refine lv_if_lt (tgt := 14) hx hb dX2_isStation_1 (by decide) (fun c_1 => ?_) (fun c_1 => ?_)
  · have hw := hw.1 c_1
    refine lv_iconst (v := 0) hx hb dX2_isStation_14 (by decide) ?_
    exact g_zret hx hb hr (by decide) hlocks hw hG (by decide) (by decide) dX2_isStation_15
  · have hw := hw.2 c_1
    refine lv_iload_n hx hb dX2_isStation_4 rfl (lv_at hl 0 rfl) ?_
    refine lv_bipush (v := 8) hx hb dX2_isStation_5 (by decide) ?_
    refine lv_icmp_ge (tgt := 14) hx hb dX2_isStation_7 (by decide) (fun c_2 => ?_) (fun c_2 => ?_)
    · have hw := hw.1 c_2
      refine lv_iconst (v := 0) hx hb dX2_isStation_14 (by decide) ?_
      exact g_zret hx hb hr (by decide) hlocks hw hG (by decide) (by decide) dX2_isStation_15
    · have hw := hw.2 c_2
      refine lv_iconst (v := 1) hx hb dX2_isStation_10 (by decide) ?_
      refine lv_goto (tgt := 15) hx hb dX2_isStation_11 (by decide) ?_
      exact g_zret hx hb hr (by decide) hlocks hw hG (by decide) (by decide) dX2_isStation_15

def wp_X2_underWay (post : Int32 → gS → Prop)  (g : gS) : Prop := post (g.1 0 2) g
set_option maxHeartbeats 4000000 in
set_option maxRecDepth 100000 in
theorem m_X2_underWay {l : Launch} (hl9 : l.stackTraces = false) (D : va_G) (K : Nat → ClassId) (sa ad : Nat → Nat) (sz : Nat) (post : Int32 → gS → Prop)  (g : gS) (hw : wp_X2_underWay post  g) : Met l yX2_underWay wsX2_underWay ({ frames := 0, cells := 0, slots := 0, locals := 0 } : Room) (gPc D K sa ad sz g [.ref (ad 0)]) (va_Qi post (gB D K ad (va_A (gw K ad g) sz)) (va_A (gw K ad g) sz)) 0 0 (va_A (gw K ad g) sz) := by
  refine Met.ofW (cc := cX2_underWay) (maxL := 1) (ret := (some .int)) (by decide) rfl ?_
  intro p e s m args below meth c s₁ B hml hv
  obtain ⟨rfl, hsz, hP, hE, hD0⟩ := hv
  have hx := B.exec
  have hb := B.bytes
  have hr := B.returns
  have hts := atoms_spec (ws := wsX2_underWay) B.pre
  have hq : ∀ w ∈ gW, w.before _ s = true := fun w h => hts w (List.mem_cons_of_mem _ h)
  have hown : s.vm.findClass RX2 = some m.cls := findClass_of_methodNamed B.named
  have hlocks := B.notSynchronized
  subst hsz
  have hD := hD0.self (sz := s.heap.size)
  generalize hAe : va_A (gw K ad g) s.heap.size = A at hD hE ⊢
  have hA : ∀ q : Nat, s.heap.size ≤ q → A q := fun q h => by rw [← hAe]; exact Or.inr h
  have hK := hE.1
  have hG : gX D K ad A s.heap g s.heap [] := ⟨hP, hD, va_S.rf⟩
  have hl := lv_entry ([.ref (ad 0)]) (n := 1) (Nat.le_of_ble_eq_true rfl)
  rw [lg_entry_eq]
  generalize (lg_sl ([.ref (ad 0)]) ++ List.replicate (1 - (lg_sl ([.ref (ad 0)])).length) Slot.unset).toArray = ls at hl ⊢
  have hl : lv_has ls 1 [(0, .ref (ad 0))] := hl
  dsimp only [wp_X2_underWay] at hw
  refine lv_aload_n hx hb dX2_underWay_0 rfl (lv_at hl 0 rfl) ?_
  refine g_get (own := RX2) (C := RX2) (T := TX2) (N := 11) (ci := 2) hx hb hq hin_X2 hown hK hG (k := 0) (gok_lo (by decide)) (gc_W) rfl 4 (by decide) (hq _ q_122) rfl (v := .int (g.1 0 2)) rfl dX2_underWay_1 ?_
  exact g_iret hx hb hr hlocks hw hG (by decide) (by decide) dX2_underWay_4

def wp_X2_netNumbered (post : Nat × gS → Prop) (px : String × gS → Prop) (p1 : Int32) (g : gS) : Prop := ((p1 < 0) → (px ("java/lang/IllegalArgumentException", g))) ∧ ((¬ p1 < 0) → (((p1 < (g.1 0 0)) → (vp_in p1 24 ∧ (post (100 + p1.toNatClampNeg, g)))) ∧ ((¬ p1 < (g.1 0 0)) → (px ("java/lang/IllegalArgumentException", g)))))
set_option maxHeartbeats 4000000 in
set_option maxRecDepth 100000 in
theorem m_X2_netNumbered {l : Launch} (hl9 : l.stackTraces = false) (D : va_G) (K : Nat → ClassId) (sa ad : Nat → Nat) (sz : Nat) (post : Nat × gS → Prop) (px : String × gS → Prop) (p1 : Int32) (g : gS) (hw : wp_X2_netNumbered post px p1 g) : vx_Met l yX2_netNumbered wsX2_netNumbered ({ frames := 6, cells := 1, slots := 6, locals := 91 } : Room) (gPc D K sa ad sz g [.ref (ad 0), .int p1]) (va_Qr post (gBr D K ad (va_A (gw K ad g) sz)) (va_A (gw K ad g) sz)) (vx_X px (gBX D K ad (va_A (gw K ad g) sz)) (va_A (gw K ad g) sz)) 1 6 (va_A (gw K ad g) sz) := by
  refine vx_ofW (cc := cX2_netNumbered) (maxL := 2) (ret := (some (.object "WireBench$Net"))) (by decide) rfl ?_
  intro p e s m args below meth c s₁ B hml hN hv
  obtain ⟨rfl, hsz, hP, hE, hD0⟩ := hv
  have hx := B.exec
  have hb := B.bytes
  have hr := B.returns
  have hts := atoms_spec (ws := wsX2_netNumbered) B.pre
  have hq : ∀ w ∈ gW, w.before _ s = true := fun w h => hts w (List.mem_cons_of_mem _ h)
  have hown : s.vm.findClass RX2 = some m.cls := findClass_of_methodNamed B.named
  have hlocks := B.notSynchronized
  subst hsz
  have hD := hD0.self (sz := s.heap.size)
  generalize hAe : va_A (gw K ad g) s.heap.size = A at hD hE ⊢
  have hA : ∀ q : Nat, s.heap.size ≤ q → A q := fun q h => by rw [← hAe]; exact Or.inr h
  have hK := hE.1
  have hG : gX D K ad A s.heap g s.heap [] := ⟨hP, hD, va_S.rf⟩
  have hl := lv_entry ([.ref (ad 0), .int p1]) (n := 2) (Nat.le_of_ble_eq_true rfl)
  rw [lg_entry_eq]
  generalize (lg_sl ([.ref (ad 0), .int p1]) ++ List.replicate (2 - (lg_sl ([.ref (ad 0), .int p1])).length) Slot.unset).toArray = ls at hl ⊢
  have hl : lv_has ls 2 [(0, .ref (ad 0)), (1, .int p1)] := hl
  dsimp only [wp_X2_netNumbered] at hw
  refine lv_iload_n hx hb dX2_netNumbered_0 rfl (lv_at hl 1 rfl) ?_
  refine lv_if_lt (tgt := 12) hx hb dX2_netNumbered_1 (by decide) (fun c_1 => ?_) (fun c_1 => ?_)
  · have hw := hw.1 c_1
    exact g_throwS (own := RX2) (cls := "java/lang/IllegalArgumentException") (text := "there is no such net") (names := ["java/lang/RuntimeException", "java/lang/Exception"]) hx hb hl9 hown (by decide +kernel) (by decide +kernel) (hq _ q_169) (hq _ q_27) hE (by decide +kernel) (hat_IAE_58 hq hE) hgd_IAE_58 (hl.1.trans hml.symm) hN hlocks hw hG dX2_netNumbered_12 dX2_netNumbered_15 dX2_netNumbered_16 dX2_netNumbered_18 dX2_netNumbered_21 (Nat.le_of_ble_eq_true rfl) (Nat.le_of_ble_eq_true rfl) (Nat.le_of_ble_eq_true rfl) (Nat.le_of_ble_eq_true rfl) (by decide) (by decide)
  · have hw := hw.2 c_1
    refine lv_iload_n hx hb dX2_netNumbered_4 rfl (lv_at hl 1 rfl) ?_
    refine lv_aload_n hx hb dX2_netNumbered_5 rfl (lv_at hl 0 rfl) ?_
    refine g_get (own := RX2) (C := RX2) (T := TX2) (N := 11) (ci := 2) hx hb hq hin_X2 hown hK hG (k := 0) (gok_lo (by decide)) (gc_W) rfl 1 (by decide) (hq _ q_119) rfl (v := .int (g.1 0 0)) rfl dX2_netNumbered_6 ?_
    refine lv_icmp_lt (tgt := 22) hx hb dX2_netNumbered_9 (by decide) (fun c_2 => ?_) (fun c_2 => ?_)
    · have hw := hw.1 c_2
      refine lv_aload_n hx hb dX2_netNumbered_22 rfl (lv_at hl 0 rfl) ?_
      refine g_get (own := RX2) (C := RX2) (T := TX2) (N := 11) (ci := 2) hx hb hq hin_X2 hown hK hG (k := 0) (gok_lo (by decide)) (gc_W) rfl 0 (by decide) (hq _ q_118) rfl (v := .ref (ad 1)) rfl dX2_netNumbered_23 ?_
      refine lv_iload_n hx hb dX2_netNumbered_26 rfl (lv_at hl 1 rfl) ?_
      obtain ⟨hi_3, hw⟩ := hw
      refine g_aldN hx hb hK hG hi_3 dX2_netNumbered_27 ?_
      have hk_4 : p1.toNatClampNeg < 24 := vin_lt hi_3
      exact vx_ret (g_aret hx hb hr hlocks hw hG (by decide) (by decide) dX2_netNumbered_28)
    · have hw := hw.2 c_2
      exact g_throwS (own := RX2) (cls := "java/lang/IllegalArgumentException") (text := "there is no such net") (names := ["java/lang/RuntimeException", "java/lang/Exception"]) hx hb hl9 hown (by decide +kernel) (by decide +kernel) (hq _ q_169) (hq _ q_27) hE (by decide +kernel) (hat_IAE_58 hq hE) hgd_IAE_58 (hl.1.trans hml.symm) hN hlocks hw hG dX2_netNumbered_12 dX2_netNumbered_15 dX2_netNumbered_16 dX2_netNumbered_18 dX2_netNumbered_21 (Nat.le_of_ble_eq_true rfl) (Nat.le_of_ble_eq_true rfl) (Nat.le_of_ble_eq_true rfl) (Nat.le_of_ble_eq_true rfl) (by decide) (by decide)

def wp_X1_open (post : gS → Prop) (p0 : Nat) (p1 : Int32) (p2 : Int32) (g : gS) : Prop := p0 < 24 ∧ (∀ g_1 : gS, g_1 = gi g 20 p0 p1 → (∀ g_2 : gS, g_2 = gi g_1 21 p0 p2 → (∀ g_3 : gS, g_3 = gi g_2 22 p0 (1 : Int32) → (post g_3))))
set_option maxHeartbeats 4000000 in
set_option maxRecDepth 100000 in
theorem m_X1_open {l : Launch} (hl9 : l.stackTraces = false) (D : va_G) (K : Nat → ClassId) (sa ad : Nat → Nat) (sz : Nat) (post : gS → Prop) (p0 : Nat) (p1 : Int32) (p2 : Int32) (g : gS) (hw : wp_X1_open post p0 p1 p2 g) : Met l yX1_open wsX1_open ({ frames := 0, cells := 0, slots := 0, locals := 0 } : Room) (gPc D K sa ad sz g [.ref (ad (100 + p0)), .int p1, .int p2]) (va_Qv post (gB D K ad (va_A (gw K ad g) sz)) (va_A (gw K ad g) sz)) 0 0 (va_A (gw K ad g) sz) := by
  refine Met.ofW (cc := cX1_open) (maxL := 3) (ret := none) (by decide) rfl ?_
  intro p e s m args below meth c s₁ B hml hv
  obtain ⟨rfl, hsz, hP, hE, hD0⟩ := hv
  have hx := B.exec
  have hb := B.bytes
  have hr := B.returns
  have hts := atoms_spec (ws := wsX1_open) B.pre
  have hq : ∀ w ∈ gW, w.before _ s = true := fun w h => hts w (List.mem_cons_of_mem _ h)
  have hown : s.vm.findClass RX1 = some m.cls := findClass_of_methodNamed B.named
  have hlocks := B.notSynchronized
  subst hsz
  have hD := hD0.self (sz := s.heap.size)
  generalize hAe : va_A (gw K ad g) s.heap.size = A at hD hE ⊢
  have hA : ∀ q : Nat, s.heap.size ≤ q → A q := fun q h => by rw [← hAe]; exact Or.inr h
  have hK := hE.1
  have hG : gX D K ad A s.heap g s.heap [] := ⟨hP, hD, va_S.rf⟩
  have hl := lv_entry ([.ref (ad (100 + p0)), .int p1, .int p2]) (n := 3) (Nat.le_of_ble_eq_true rfl)
  rw [lg_entry_eq]
  generalize (lg_sl ([.ref (ad (100 + p0)), .int p1, .int p2]) ++ List.replicate (3 - (lg_sl ([.ref (ad (100 + p0)), .int p1, .int p2])).length) Slot.unset).toArray = ls at hl ⊢
  have hl : lv_has ls 3 [(0, .ref (ad (100 + p0))), (1, .int p1), (2, .int p2)] := hl
  dsimp only [wp_X1_open] at hw
  obtain ⟨hp0, hw⟩ := hw
  refine lv_aload_n hx hb dX1_open_0 rfl (lv_at hl 0 rfl) ?_
  refine lv_iload_n hx hb dX1_open_1 rfl (lv_at hl 1 rfl) ?_
  refine g_put (own := RX1) (C := RX1) (T := TX1) (N := 7) (ci := 1) hx hb hq hin_X1 tyX1 tyX1_ok nmX1 hown hK hG (k := 100 + p0) (gok_N hp0) (gc_N hp0) rfl 0 (by decide) (hq _ q_90) rfl rfl (ty := .int) (v := .int p1) (by decide +kernel) rfl rfl (Nat.le_of_ble_eq_true rfl) (gi g 20 p0 p1) (gs_N20 hp0) (gho_N ⟨by decide, by decide⟩) dX1_open_2 (fun H locs hG => ?_)
  obtain ⟨g_1, eg_1⟩ : ∃ z, z = gi g 20 p0 p1 := ⟨_, rfl⟩
  rw [← eg_1] at hG
  have hw := hw g_1 eg_1
  refine lv_aload_n hx hb dX1_open_5 rfl (lv_at hl 0 rfl) ?_
  refine lv_iload_n hx hb dX1_open_6 rfl (lv_at hl 2 rfl) ?_
  refine g_put (own := RX1) (C := RX1) (T := TX1) (N := 7) (ci := 1) hx hb hq hin_X1 tyX1 tyX1_ok nmX1 hown hK hG (k := 100 + p0) (gok_N hp0) (gc_N hp0) rfl 1 (by decide) (hq _ q_92) rfl rfl (ty := .int) (v := .int p2) (by decide +kernel) rfl rfl (Nat.le_of_ble_eq_true rfl) (gi g_1 21 p0 p2) (gs_N21 hp0) (gho_N ⟨by decide, by decide⟩) dX1_open_7 (fun H locs hG => ?_)
  obtain ⟨g_2, eg_2⟩ : ∃ z, z = gi g_1 21 p0 p2 := ⟨_, rfl⟩
  rw [← eg_2] at hG
  have hw := hw g_2 eg_2
  refine lv_aload_n hx hb dX1_open_10 rfl (lv_at hl 0 rfl) ?_
  refine lv_iconst (v := 1) hx hb dX1_open_11 (by decide) ?_
  refine g_put (own := RX1) (C := RX1) (T := TX1) (N := 7) (ci := 1) hx hb hq hin_X1 tyX1 tyX1_ok nmX1 hown hK hG (k := 100 + p0) (gok_N hp0) (gc_N hp0) rfl 2 (by decide) (hq _ q_94) rfl rfl (ty := .boolean) (v := .int 1) (by decide +kernel) (by decide) (by decide) (Nat.le_of_ble_eq_true rfl) (gi g_2 22 p0 (1 : Int32)) (gs_N22 hp0) (gho_N ⟨by decide, by decide⟩) dX1_open_12 (fun H locs hG => ?_)
  obtain ⟨g_3, eg_3⟩ : ∃ z, z = gi g_2 22 p0 (1 : Int32) := ⟨_, rfl⟩
  rw [← eg_3] at hG
  have hw := hw g_3 eg_3
  exact g_vret hx hb hr hlocks hw hG (by decide) (by decide) dX1_open_15

def wp_X1_pieceSize (post : Int32 → gS → Prop) (p0 : Nat) (g : gS) : Prop := p0 < 24 ∧ (post (((g.1 20 p0) - 20) &&& (-8)) g)
set_option maxHeartbeats 4000000 in
set_option maxRecDepth 100000 in
theorem m_X1_pieceSize {l : Launch} (hl9 : l.stackTraces = false) (D : va_G) (K : Nat → ClassId) (sa ad : Nat → Nat) (sz : Nat) (post : Int32 → gS → Prop) (p0 : Nat) (g : gS) (hw : wp_X1_pieceSize post p0 g) : Met l yX1_pieceSize wsX1_pieceSize ({ frames := 0, cells := 0, slots := 0, locals := 0 } : Room) (gPc D K sa ad sz g [.ref (ad (100 + p0))]) (va_Qi post (gB D K ad (va_A (gw K ad g) sz)) (va_A (gw K ad g) sz)) 0 0 (va_A (gw K ad g) sz) := by
  refine Met.ofW (cc := cX1_pieceSize) (maxL := 1) (ret := (some .int)) (by decide) rfl ?_
  intro p e s m args below meth c s₁ B hml hv
  obtain ⟨rfl, hsz, hP, hE, hD0⟩ := hv
  have hx := B.exec
  have hb := B.bytes
  have hr := B.returns
  have hts := atoms_spec (ws := wsX1_pieceSize) B.pre
  have hq : ∀ w ∈ gW, w.before _ s = true := fun w h => hts w (List.mem_cons_of_mem _ h)
  have hown : s.vm.findClass RX1 = some m.cls := findClass_of_methodNamed B.named
  have hlocks := B.notSynchronized
  subst hsz
  have hD := hD0.self (sz := s.heap.size)
  generalize hAe : va_A (gw K ad g) s.heap.size = A at hD hE ⊢
  have hA : ∀ q : Nat, s.heap.size ≤ q → A q := fun q h => by rw [← hAe]; exact Or.inr h
  have hK := hE.1
  have hG : gX D K ad A s.heap g s.heap [] := ⟨hP, hD, va_S.rf⟩
  have hl := lv_entry ([.ref (ad (100 + p0))]) (n := 1) (Nat.le_of_ble_eq_true rfl)
  rw [lg_entry_eq]
  generalize (lg_sl ([.ref (ad (100 + p0))]) ++ List.replicate (1 - (lg_sl ([.ref (ad (100 + p0))])).length) Slot.unset).toArray = ls at hl ⊢
  have hl : lv_has ls 1 [(0, .ref (ad (100 + p0)))] := hl
  dsimp only [wp_X1_pieceSize] at hw
  obtain ⟨hp0, hw⟩ := hw
  refine lv_aload_n hx hb dX1_pieceSize_0 rfl (lv_at hl 0 rfl) ?_
  refine g_get (own := RX1) (C := RX1) (T := TX1) (N := 7) (ci := 1) hx hb hq hin_X1 hown hK hG (k := 100 + p0) (gok_N hp0) (gc_N hp0) rfl 0 (by decide) (hq _ q_90) rfl (v := .int (g.1 20 p0)) rfl dX1_pieceSize_1 ?_
  refine lv_bipush (v := 20) hx hb dX1_pieceSize_4 (by decide) ?_
  refine lv_isub hx hb dX1_pieceSize_6 ?_
  refine lv_bipush (v := (-8)) hx hb dX1_pieceSize_7 (by decide) ?_
  refine lv_iand hx hb dX1_pieceSize_9 ?_
  exact g_iret hx hb hr hlocks hw hG (by decide) (by decide) dX1_pieceSize_10

def wp_X1_addFate (post : gS → Prop) (p0 : Nat) (p1 : Int32) (g : gS) : Prop := p0 < 24 ∧ (vp_in (((g.1 24 p0) + (g.1 25 p0)) &&& 63) 64 ∧ (∀ g_2 : gS, g_2 = gi g (200 + p0) ((((g.1 24 p0) + (g.1 25 p0)) &&& 63).toNatClampNeg) (vp_nar .byte p1.toInt8.toInt32) → (∀ x_3 : Int32, x_3 = (g_2.1 25 p0) + 1 → (∀ g_4 : gS, g_4 = gi g_2 25 p0 x_3 → (post g_4)))))
set_option maxHeartbeats 4000000 in
set_option maxRecDepth 100000 in
theorem m_X1_addFate {l : Launch} (hl9 : l.stackTraces = false) (D : va_G) (K : Nat → ClassId) (sa ad : Nat → Nat) (sz : Nat) (post : gS → Prop) (p0 : Nat) (p1 : Int32) (g : gS) (hw : wp_X1_addFate post p0 p1 g) : Met l yX1_addFate wsX1_addFate ({ frames := 0, cells := 0, slots := 0, locals := 0 } : Room) (gPc D K sa ad sz g [.ref (ad (100 + p0)), .int p1]) (va_Qv post (gB D K ad (va_A (gw K ad g) sz)) (va_A (gw K ad g) sz)) 0 0 (va_A (gw K ad g) sz) := by
  refine Met.ofW (cc := cX1_addFate) (maxL := 2) (ret := none) (by decide) rfl ?_
  intro p e s m args below meth c s₁ B hml hv
  obtain ⟨rfl, hsz, hP, hE, hD0⟩ := hv
  have hx := B.exec
  have hb := B.bytes
  have hr := B.returns
  have hts := atoms_spec (ws := wsX1_addFate) B.pre
  have hq : ∀ w ∈ gW, w.before _ s = true := fun w h => hts w (List.mem_cons_of_mem _ h)
  have hown : s.vm.findClass RX1 = some m.cls := findClass_of_methodNamed B.named
  have hlocks := B.notSynchronized
  subst hsz
  have hD := hD0.self (sz := s.heap.size)
  generalize hAe : va_A (gw K ad g) s.heap.size = A at hD hE ⊢
  have hA : ∀ q : Nat, s.heap.size ≤ q → A q := fun q h => by rw [← hAe]; exact Or.inr h
  have hK := hE.1
  have hG : gX D K ad A s.heap g s.heap [] := ⟨hP, hD, va_S.rf⟩
  have hl := lv_entry ([.ref (ad (100 + p0)), .int p1]) (n := 2) (Nat.le_of_ble_eq_true rfl)
  rw [lg_entry_eq]
  generalize (lg_sl ([.ref (ad (100 + p0)), .int p1]) ++ List.replicate (2 - (lg_sl ([.ref (ad (100 + p0)), .int p1])).length) Slot.unset).toArray = ls at hl ⊢
  have hl : lv_has ls 2 [(0, .ref (ad (100 + p0))), (1, .int p1)] := hl
  dsimp only [wp_X1_addFate] at hw
  obtain ⟨hp0, hw⟩ := hw
  refine lv_aload_n hx hb dX1_addFate_0 rfl (lv_at hl 0 rfl) ?_
  refine g_get (own := RX1) (C := RX1) (T := TX1) (N := 7) (ci := 1) hx hb hq hin_X1 hown hK hG (k := 100 + p0) (gok_N hp0) (gc_N hp0) rfl 4 (by decide) (hq _ q_98) rfl (v := .ref (ad (200 + p0))) rfl dX1_addFate_1 ?_
  refine lv_aload_n hx hb dX1_addFate_4 rfl (lv_at hl 0 rfl) ?_
  refine g_get (own := RX1) (C := RX1) (T := TX1) (N := 7) (ci := 1) hx hb hq hin_X1 hown hK hG (k := 100 + p0) (gok_N hp0) (gc_N hp0) rfl 5 (by decide) (hq _ q_99) rfl (v := .int (g.1 24 p0)) rfl dX1_addFate_5 ?_
  refine lv_aload_n hx hb dX1_addFate_8 rfl (lv_at hl 0 rfl) ?_
  refine g_get (own := RX1) (C := RX1) (T := TX1) (N := 7) (ci := 1) hx hb hq hin_X1 hown hK hG (k := 100 + p0) (gok_N hp0) (gc_N hp0) rfl 6 (by decide) (hq _ q_100) rfl (v := .int (g.1 25 p0)) rfl dX1_addFate_9 ?_
  refine lv_iadd hx hb dX1_addFate_12 ?_
  refine lv_bipush (v := 63) hx hb dX1_addFate_13 (by decide) ?_
  refine lv_iand hx hb dX1_addFate_15 ?_
  refine lv_iload_n hx hb dX1_addFate_16 rfl (lv_at hl 1 rfl) ?_
  refine lv_i2b hx hb dX1_addFate_17 rfl ?_
  obtain ⟨hi_1, hw⟩ := hw
  refine g_bast hx hb hK hG (k := 200 + p0) (gok_S hp0) (fun g => gc_S hp0) (x := p1.toInt8.toInt32) hi_1 (gho_S ⟨by omega, by omega⟩) dX1_addFate_18 (fun H locs hG => ?_)
  obtain ⟨g_2, eg_2⟩ : ∃ z, z = gi g (200 + p0) ((((g.1 24 p0) + (g.1 25 p0)) &&& 63).toNatClampNeg) (vp_nar .byte p1.toInt8.toInt32) := ⟨_, rfl⟩
  rw [← eg_2] at hG
  have hw := hw g_2 eg_2
  refine lv_aload_n hx hb dX1_addFate_19 rfl (lv_at hl 0 rfl) ?_
  refine lv_dup hx hb dX1_addFate_20 rfl ?_
  refine g_get (own := RX1) (C := RX1) (T := TX1) (N := 7) (ci := 1) hx hb hq hin_X1 hown hK hG (k := 100 + p0) (gok_N hp0) (gc_N hp0) rfl 6 (by decide) (hq _ q_100) rfl (v := .int (g_2.1 25 p0)) rfl dX1_addFate_21 ?_
  refine lv_iconst (v := 1) hx hb dX1_addFate_24 (by decide) ?_
  refine lv_iadd hx hb dX1_addFate_25 ?_
  refine lv_topi (fun x_3 ex_3 => ?_)
  have hw := hw x_3 ex_3
  refine g_put (own := RX1) (C := RX1) (T := TX1) (N := 7) (ci := 1) hx hb hq hin_X1 tyX1 tyX1_ok nmX1 hown hK hG (k := 100 + p0) (gok_N hp0) (gc_N hp0) rfl 6 (by decide) (hq _ q_100) rfl rfl (ty := .int) (v := .int x_3) (by decide +kernel) rfl rfl (Nat.le_of_ble_eq_true rfl) (gi g_2 25 p0 x_3) (gs_N25 hp0) (gho_N ⟨by decide, by decide⟩) dX1_addFate_26 (fun H locs hG => ?_)
  obtain ⟨g_4, eg_4⟩ : ∃ z, z = gi g_2 25 p0 x_3 := ⟨_, rfl⟩
  rw [← eg_4] at hG
  have hw := hw g_4 eg_4
  exact g_vret hx hb hr hlocks hw hG (by decide) (by decide) dX1_addFate_29

def wp_X1_takeFate (post : Int32 → gS → Prop) (p0 : Nat) (g : gS) : Prop := p0 < 24 ∧ (((1 ≤ (g.1 25 p0)) → (∀ i_2 : Int32, i_2 = g.1 24 p0 → (vp_in i_2 64 ∧ (∀ x_4 : Int32, x_4 = g.1 (200 + p0) i_2.toNatClampNeg → (∀ x_5 : Int32, x_5 = ((g.1 24 p0) + 1) &&& 63 → (∀ g_6 : gS, g_6 = gi g 24 p0 x_5 → (∀ x_7 : Int32, x_7 = (g_6.1 25 p0) - 1 → (∀ g_8 : gS, g_8 = gi g_6 25 p0 x_7 → (post x_4 g_8))))))))) ∧ ((¬ 1 ≤ (g.1 25 p0)) → (post 0 g)))
set_option maxHeartbeats 4000000 in
set_option maxRecDepth 100000 in
theorem m_X1_takeFate {l : Launch} (hl9 : l.stackTraces = false) (D : va_G) (K : Nat → ClassId) (sa ad : Nat → Nat) (sz : Nat) (post : Int32 → gS → Prop) (p0 : Nat) (g : gS) (hw : wp_X1_takeFate post p0 g) : Met l yX1_takeFate wsX1_takeFate ({ frames := 0, cells := 0, slots := 0, locals := 0 } : Room) (gPc D K sa ad sz g [.ref (ad (100 + p0))]) (va_Qi post (gB D K ad (va_A (gw K ad g) sz)) (va_A (gw K ad g) sz)) 0 0 (va_A (gw K ad g) sz) := by
  refine Met.ofW (cc := cX1_takeFate) (maxL := 2) (ret := (some .int)) (by decide) rfl ?_
  intro p e s m args below meth c s₁ B hml hv
  obtain ⟨rfl, hsz, hP, hE, hD0⟩ := hv
  have hx := B.exec
  have hb := B.bytes
  have hr := B.returns
  have hts := atoms_spec (ws := wsX1_takeFate) B.pre
  have hq : ∀ w ∈ gW, w.before _ s = true := fun w h => hts w (List.mem_cons_of_mem _ h)
  have hown : s.vm.findClass RX1 = some m.cls := findClass_of_methodNamed B.named
  have hlocks := B.notSynchronized
  subst hsz
  have hD := hD0.self (sz := s.heap.size)
  generalize hAe : va_A (gw K ad g) s.heap.size = A at hD hE ⊢
  have hA : ∀ q : Nat, s.heap.size ≤ q → A q := fun q h => by rw [← hAe]; exact Or.inr h
  have hK := hE.1
  have hG : gX D K ad A s.heap g s.heap [] := ⟨hP, hD, va_S.rf⟩
  have hl := lv_entry ([.ref (ad (100 + p0))]) (n := 2) (Nat.le_of_ble_eq_true rfl)
  rw [lg_entry_eq]
  generalize (lg_sl ([.ref (ad (100 + p0))]) ++ List.replicate (2 - (lg_sl ([.ref (ad (100 + p0))])).length) Slot.unset).toArray = ls at hl ⊢
  have hl : lv_has ls 2 [(0, .ref (ad (100 + p0)))] := hl
  dsimp only [wp_X1_takeFate] at hw
  obtain ⟨hp0, hw⟩ := hw
  refine lv_aload_n hx hb dX1_takeFate_0 rfl (lv_at hl 0 rfl) ?_
  refine g_get (own := RX1) (C := RX1) (T := TX1) (N := 7) (ci := 1) hx hb hq hin_X1 hown hK hG (k := 100 + p0) (gok_N hp0) (gc_N hp0) rfl 6 (by decide) (hq _ q_100) rfl (v := .int (g.1 25 p0)) rfl dX1_takeFate_1 ?_
  refine lv_iconst (v := 1) hx hb dX1_takeFate_4 (by decide) ?_
  refine lv_icmp_ge (tgt := 10) hx hb dX1_takeFate_5 (by decide) (fun c_1 => ?_) (fun c_1 => ?_)
  · have hw := hw.1 c_1
    refine lv_aload_n hx hb dX1_takeFate_10 rfl (lv_at hl 0 rfl) ?_
    refine g_get (own := RX1) (C := RX1) (T := TX1) (N := 7) (ci := 1) hx hb hq hin_X1 hown hK hG (k := 100 + p0) (gok_N hp0) (gc_N hp0) rfl 4 (by decide) (hq _ q_98) rfl (v := .ref (ad (200 + p0))) rfl dX1_takeFate_11 ?_
    refine lv_aload_n hx hb dX1_takeFate_14 rfl (lv_at hl 0 rfl) ?_
    refine g_get (own := RX1) (C := RX1) (T := TX1) (N := 7) (ci := 1) hx hb hq hin_X1 hown hK hG (k := 100 + p0) (gok_N hp0) (gc_N hp0) rfl 5 (by decide) (hq _ q_99) rfl (v := .int (g.1 24 p0)) rfl dX1_takeFate_15 ?_
    refine lv_topi (fun i_2 ei_2 => ?_)
    have hw := hw i_2 ei_2
    obtain ⟨hi_3, hw⟩ := hw
    refine g_bald hx hb hK hG (k := 200 + p0) (gok_S hp0) (gc_S hp0) hi_3 dX1_takeFate_18 ?_
    refine lv_topi (fun x_4 ex_4 => ?_)
    have hw := hw x_4 ex_4
    refine lv_istore_n (lv' := [(1, .int x_4), (0, .ref (ad (100 + p0)))]) hx hb dX1_takeFate_19 rfl hl (by decide) rfl (fun ls hl => ?_)
    refine lv_aload_n hx hb dX1_takeFate_20 rfl (lv_at hl 1 rfl) ?_
    refine lv_aload_n hx hb dX1_takeFate_21 rfl (lv_at hl 1 rfl) ?_
    refine g_get (own := RX1) (C := RX1) (T := TX1) (N := 7) (ci := 1) hx hb hq hin_X1 hown hK hG (k := 100 + p0) (gok_N hp0) (gc_N hp0) rfl 5 (by decide) (hq _ q_99) rfl (v := .int (g.1 24 p0)) rfl dX1_takeFate_22 ?_
    refine lv_iconst (v := 1) hx hb dX1_takeFate_25 (by decide) ?_
    refine lv_iadd hx hb dX1_takeFate_26 ?_
    refine lv_bipush (v := 63) hx hb dX1_takeFate_27 (by decide) ?_
    refine lv_iand hx hb dX1_takeFate_29 ?_
    refine lv_topi (fun x_5 ex_5 => ?_)
    have hw := hw x_5 ex_5
    refine g_put (own := RX1) (C := RX1) (T := TX1) (N := 7) (ci := 1) hx hb hq hin_X1 tyX1 tyX1_ok nmX1 hown hK hG (k := 100 + p0) (gok_N hp0) (gc_N hp0) rfl 5 (by decide) (hq _ q_99) rfl rfl (ty := .int) (v := .int x_5) (by decide +kernel) rfl rfl (Nat.le_of_ble_eq_true rfl) (gi g 24 p0 x_5) (gs_N24 hp0) (gho_N ⟨by decide, by decide⟩) dX1_takeFate_30 (fun H locs hG => ?_)
    obtain ⟨g_6, eg_6⟩ : ∃ z, z = gi g 24 p0 x_5 := ⟨_, rfl⟩
    rw [← eg_6] at hG
    have hw := hw g_6 eg_6
    refine lv_aload_n hx hb dX1_takeFate_33 rfl (lv_at hl 1 rfl) ?_
    refine lv_dup hx hb dX1_takeFate_34 rfl ?_
    refine g_get (own := RX1) (C := RX1) (T := TX1) (N := 7) (ci := 1) hx hb hq hin_X1 hown hK hG (k := 100 + p0) (gok_N hp0) (gc_N hp0) rfl 6 (by decide) (hq _ q_100) rfl (v := .int (g_6.1 25 p0)) rfl dX1_takeFate_35 ?_
    refine lv_iconst (v := 1) hx hb dX1_takeFate_38 (by decide) ?_
    refine lv_isub hx hb dX1_takeFate_39 ?_
    refine lv_topi (fun x_7 ex_7 => ?_)
    have hw := hw x_7 ex_7
    refine g_put (own := RX1) (C := RX1) (T := TX1) (N := 7) (ci := 1) hx hb hq hin_X1 tyX1 tyX1_ok nmX1 hown hK hG (k := 100 + p0) (gok_N hp0) (gc_N hp0) rfl 6 (by decide) (hq _ q_100) rfl rfl (ty := .int) (v := .int x_7) (by decide +kernel) rfl rfl (Nat.le_of_ble_eq_true rfl) (gi g_6 25 p0 x_7) (gs_N25 hp0) (gho_N ⟨by decide, by decide⟩) dX1_takeFate_40 (fun H locs hG => ?_)
    obtain ⟨g_8, eg_8⟩ : ∃ z, z = gi g_6 25 p0 x_7 := ⟨_, rfl⟩
    rw [← eg_8] at hG
    have hw := hw g_8 eg_8
    refine lv_iload_n hx hb dX1_takeFate_43 rfl (lv_at hl 0 rfl) ?_
    exact g_iret hx hb hr hlocks hw hG (by decide) (by decide) dX1_takeFate_44
  · have hw := hw.2 c_1
    refine lv_iconst (v := 0) hx hb dX1_takeFate_8 (by decide) ?_
    exact g_iret hx hb hr hlocks hw hG (by decide) (by decide) dX1_takeFate_9

def wp_X0_copyFrom (post : gS → Prop) (p0 : Nat) (p1 : Nat) (g : gS) : Prop := p0 < 514 ∧ p1 < 514 ∧ (∀ x_1 : Int32, x_1 = g.1 31 p1 → (∀ g_2 : gS, g_2 = gi g 31 p0 x_1 → (∀ x_3 : Int32, x_3 = g_2.1 32 p1 → (∀ g_4 : gS, g_4 = gi g_2 32 p0 x_3 → (∀ x_5 : Int32, x_5 = g_4.1 33 p1 → (∀ g_6 : gS, g_6 = gi g_4 33 p0 x_5 → (∀ x_7 : Int32, x_7 = g_6.1 34 p1 → (∀ g_8 : gS, g_8 = gi g_6 34 p0 x_7 → (∀ x_9 : Int32, x_9 = g_8.1 35 p1 → (∀ g_10 : gS, g_10 = gi g_8 35 p0 x_9 → (∀ x_11 : Int32, x_11 = g_10.1 36 p1 → (∀ g_12 : gS, g_12 = gi g_10 36 p0 x_11 → (∀ x_13 : Int32, x_13 = g_12.1 37 p1 → (∀ g_14 : gS, g_14 = gi g_12 37 p0 x_13 → (∀ x_15 : Int32, x_15 = g_14.1 38 p1 → (∀ g_16 : gS, g_16 = gi g_14 38 p0 x_15 → (post g_16)))))))))))))))))
set_option maxHeartbeats 4000000 in
set_option maxRecDepth 100000 in
theorem m_X0_copyFrom {l : Launch} (hl9 : l.stackTraces = false) (D : va_G) (K : Nat → ClassId) (sa ad : Nat → Nat) (sz : Nat) (post : gS → Prop) (p0 : Nat) (p1 : Nat) (g : gS) (hw : wp_X0_copyFrom post p0 p1 g) : Met l yX0_copyFrom wsX0_copyFrom ({ frames := 0, cells := 0, slots := 0, locals := 0 } : Room) (gPc D K sa ad sz g [.ref (ad (1000 + p0)), .ref (ad (1000 + p1))]) (va_Qv post (gB D K ad (va_A (gw K ad g) sz)) (va_A (gw K ad g) sz)) 0 0 (va_A (gw K ad g) sz) := by
  refine Met.ofW (cc := cX0_copyFrom) (maxL := 2) (ret := none) (by decide) rfl ?_
  intro p e s m args below meth c s₁ B hml hv
  obtain ⟨rfl, hsz, hP, hE, hD0⟩ := hv
  have hx := B.exec
  have hb := B.bytes
  have hr := B.returns
  have hts := atoms_spec (ws := wsX0_copyFrom) B.pre
  have hq : ∀ w ∈ gW, w.before _ s = true := fun w h => hts w (List.mem_cons_of_mem _ h)
  have hown : s.vm.findClass RX0 = some m.cls := findClass_of_methodNamed B.named
  have hlocks := B.notSynchronized
  subst hsz
  have hD := hD0.self (sz := s.heap.size)
  generalize hAe : va_A (gw K ad g) s.heap.size = A at hD hE ⊢
  have hA : ∀ q : Nat, s.heap.size ≤ q → A q := fun q h => by rw [← hAe]; exact Or.inr h
  have hK := hE.1
  have hG : gX D K ad A s.heap g s.heap [] := ⟨hP, hD, va_S.rf⟩
  have hl := lv_entry ([.ref (ad (1000 + p0)), .ref (ad (1000 + p1))]) (n := 2) (Nat.le_of_ble_eq_true rfl)
  rw [lg_entry_eq]
  generalize (lg_sl ([.ref (ad (1000 + p0)), .ref (ad (1000 + p1))]) ++ List.replicate (2 - (lg_sl ([.ref (ad (1000 + p0)), .ref (ad (1000 + p1))])).length) Slot.unset).toArray = ls at hl ⊢
  have hl : lv_has ls 2 [(0, .ref (ad (1000 + p0))), (1, .ref (ad (1000 + p1)))] := hl
  dsimp only [wp_X0_copyFrom] at hw
  obtain ⟨hp0, hw⟩ := hw
  obtain ⟨hp1, hw⟩ := hw
  refine lv_aload_n hx hb dX0_copyFrom_0 rfl (lv_at hl 0 rfl) ?_
  refine lv_aload_n hx hb dX0_copyFrom_1 rfl (lv_at hl 1 rfl) ?_
  refine g_get (own := RX0) (C := RX0) (T := TX0) (N := 9) (ci := 0) hx hb hq hin_X0 hown hK hG (k := 1000 + p1) (gok_A hp1) (gc_A) rfl 1 (by decide) (hq _ q_50) rfl (v := .int (g.1 31 p1)) rfl dX0_copyFrom_2 ?_
  refine lv_topi (fun x_1 ex_1 => ?_)
  have hw := hw x_1 ex_1
  refine g_put (own := RX0) (C := RX0) (T := TX0) (N := 9) (ci := 0) hx hb hq hin_X0 tyX0 tyX0_ok nmX0 hown hK hG (k := 1000 + p0) (gok_A hp0) (gc_A) rfl 1 (by decide) (hq _ q_50) rfl rfl (ty := .int) (v := .int x_1) (by decide +kernel) rfl rfl (Nat.le_of_ble_eq_true rfl) (gi g 31 p0 x_1) (gs_A31) (gho_A ⟨by decide, by decide⟩) dX0_copyFrom_5 (fun H locs hG => ?_)
  obtain ⟨g_2, eg_2⟩ : ∃ z, z = gi g 31 p0 x_1 := ⟨_, rfl⟩
  rw [← eg_2] at hG
  have hw := hw g_2 eg_2
  refine lv_aload_n hx hb dX0_copyFrom_8 rfl (lv_at hl 0 rfl) ?_
  refine lv_aload_n hx hb dX0_copyFrom_9 rfl (lv_at hl 1 rfl) ?_
  refine g_get (own := RX0) (C := RX0) (T := TX0) (N := 9) (ci := 0) hx hb hq hin_X0 hown hK hG (k := 1000 + p1) (gok_A hp1) (gc_A) rfl 2 (by decide) (hq _ q_52) rfl (v := .int (g_2.1 32 p1)) rfl dX0_copyFrom_10 ?_
  refine lv_topi (fun x_3 ex_3 => ?_)
  have hw := hw x_3 ex_3
  refine g_put (own := RX0) (C := RX0) (T := TX0) (N := 9) (ci := 0) hx hb hq hin_X0 tyX0 tyX0_ok nmX0 hown hK hG (k := 1000 + p0) (gok_A hp0) (gc_A) rfl 2 (by decide) (hq _ q_52) rfl rfl (ty := .int) (v := .int x_3) (by decide +kernel) rfl rfl (Nat.le_of_ble_eq_true rfl) (gi g_2 32 p0 x_3) (gs_A32) (gho_A ⟨by decide, by decide⟩) dX0_copyFrom_13 (fun H locs hG => ?_)
  obtain ⟨g_4, eg_4⟩ : ∃ z, z = gi g_2 32 p0 x_3 := ⟨_, rfl⟩
  rw [← eg_4] at hG
  have hw := hw g_4 eg_4
  refine lv_aload_n hx hb dX0_copyFrom_16 rfl (lv_at hl 0 rfl) ?_
  refine lv_aload_n hx hb dX0_copyFrom_17 rfl (lv_at hl 1 rfl) ?_
  refine g_get (own := RX0) (C := RX0) (T := TX0) (N := 9) (ci := 0) hx hb hq hin_X0 hown hK hG (k := 1000 + p1) (gok_A hp1) (gc_A) rfl 3 (by decide) (hq _ q_54) rfl (v := .int (g_4.1 33 p1)) rfl dX0_copyFrom_18 ?_
  refine lv_topi (fun x_5 ex_5 => ?_)
  have hw := hw x_5 ex_5
  refine g_put (own := RX0) (C := RX0) (T := TX0) (N := 9) (ci := 0) hx hb hq hin_X0 tyX0 tyX0_ok nmX0 hown hK hG (k := 1000 + p0) (gok_A hp0) (gc_A) rfl 3 (by decide) (hq _ q_54) rfl rfl (ty := .int) (v := .int x_5) (by decide +kernel) rfl rfl (Nat.le_of_ble_eq_true rfl) (gi g_4 33 p0 x_5) (gs_A33) (gho_A ⟨by decide, by decide⟩) dX0_copyFrom_21 (fun H locs hG => ?_)
  obtain ⟨g_6, eg_6⟩ : ∃ z, z = gi g_4 33 p0 x_5 := ⟨_, rfl⟩
  rw [← eg_6] at hG
  have hw := hw g_6 eg_6
  refine lv_aload_n hx hb dX0_copyFrom_24 rfl (lv_at hl 0 rfl) ?_
  refine lv_aload_n hx hb dX0_copyFrom_25 rfl (lv_at hl 1 rfl) ?_
  refine g_get (own := RX0) (C := RX0) (T := TX0) (N := 9) (ci := 0) hx hb hq hin_X0 hown hK hG (k := 1000 + p1) (gok_A hp1) (gc_A) rfl 4 (by decide) (hq _ q_56) rfl (v := .int (g_6.1 34 p1)) rfl dX0_copyFrom_26 ?_
  refine lv_topi (fun x_7 ex_7 => ?_)
  have hw := hw x_7 ex_7
  refine g_put (own := RX0) (C := RX0) (T := TX0) (N := 9) (ci := 0) hx hb hq hin_X0 tyX0 tyX0_ok nmX0 hown hK hG (k := 1000 + p0) (gok_A hp0) (gc_A) rfl 4 (by decide) (hq _ q_56) rfl rfl (ty := .int) (v := .int x_7) (by decide +kernel) rfl rfl (Nat.le_of_ble_eq_true rfl) (gi g_6 34 p0 x_7) (gs_A34) (gho_A ⟨by decide, by decide⟩) dX0_copyFrom_29 (fun H locs hG => ?_)
  obtain ⟨g_8, eg_8⟩ : ∃ z, z = gi g_6 34 p0 x_7 := ⟨_, rfl⟩
  rw [← eg_8] at hG
  have hw := hw g_8 eg_8
  refine lv_aload_n hx hb dX0_copyFrom_32 rfl (lv_at hl 0 rfl) ?_
  refine lv_aload_n hx hb dX0_copyFrom_33 rfl (lv_at hl 1 rfl) ?_
  refine g_get (own := RX0) (C := RX0) (T := TX0) (N := 9) (ci := 0) hx hb hq hin_X0 hown hK hG (k := 1000 + p1) (gok_A hp1) (gc_A) rfl 5 (by decide) (hq _ q_58) rfl (v := .int (g_8.1 35 p1)) rfl dX0_copyFrom_34 ?_
  refine lv_topi (fun x_9 ex_9 => ?_)
  have hw := hw x_9 ex_9
  refine g_put (own := RX0) (C := RX0) (T := TX0) (N := 9) (ci := 0) hx hb hq hin_X0 tyX0 tyX0_ok nmX0 hown hK hG (k := 1000 + p0) (gok_A hp0) (gc_A) rfl 5 (by decide) (hq _ q_58) rfl rfl (ty := .int) (v := .int x_9) (by decide +kernel) rfl rfl (Nat.le_of_ble_eq_true rfl) (gi g_8 35 p0 x_9) (gs_A35) (gho_A ⟨by decide, by decide⟩) dX0_copyFrom_37 (fun H locs hG => ?_)
  obtain ⟨g_10, eg_10⟩ : ∃ z, z = gi g_8 35 p0 x_9 := ⟨_, rfl⟩
  rw [← eg_10] at hG
  have hw := hw g_10 eg_10
  refine lv_aload_n hx hb dX0_copyFrom_40 rfl (lv_at hl 0 rfl) ?_
  refine lv_aload_n hx hb dX0_copyFrom_41 rfl (lv_at hl 1 rfl) ?_
  refine g_get (own := RX0) (C := RX0) (T := TX0) (N := 9) (ci := 0) hx hb hq hin_X0 hown hK hG (k := 1000 + p1) (gok_A hp1) (gc_A) rfl 6 (by decide) (hq _ q_60) rfl (v := .int (g_10.1 36 p1)) rfl dX0_copyFrom_42 ?_
  refine lv_topi (fun x_11 ex_11 => ?_)
  have hw := hw x_11 ex_11
  refine g_put (own := RX0) (C := RX0) (T := TX0) (N := 9) (ci := 0) hx hb hq hin_X0 tyX0 tyX0_ok nmX0 hown hK hG (k := 1000 + p0) (gok_A hp0) (gc_A) rfl 6 (by decide) (hq _ q_60) rfl rfl (ty := .int) (v := .int x_11) (by decide +kernel) rfl rfl (Nat.le_of_ble_eq_true rfl) (gi g_10 36 p0 x_11) (gs_A36) (gho_A ⟨by decide, by decide⟩) dX0_copyFrom_45 (fun H locs hG => ?_)
  obtain ⟨g_12, eg_12⟩ : ∃ z, z = gi g_10 36 p0 x_11 := ⟨_, rfl⟩
  rw [← eg_12] at hG
  have hw := hw g_12 eg_12
  refine lv_aload_n hx hb dX0_copyFrom_48 rfl (lv_at hl 0 rfl) ?_
  refine lv_aload_n hx hb dX0_copyFrom_49 rfl (lv_at hl 1 rfl) ?_
  refine g_get (own := RX0) (C := RX0) (T := TX0) (N := 9) (ci := 0) hx hb hq hin_X0 hown hK hG (k := 1000 + p1) (gok_A hp1) (gc_A) rfl 7 (by decide) (hq _ q_62) rfl (v := .int (g_12.1 37 p1)) rfl dX0_copyFrom_50 ?_
  refine lv_topi (fun x_13 ex_13 => ?_)
  have hw := hw x_13 ex_13
  refine g_put (own := RX0) (C := RX0) (T := TX0) (N := 9) (ci := 0) hx hb hq hin_X0 tyX0 tyX0_ok nmX0 hown hK hG (k := 1000 + p0) (gok_A hp0) (gc_A) rfl 7 (by decide) (hq _ q_62) rfl rfl (ty := .int) (v := .int x_13) (by decide +kernel) rfl rfl (Nat.le_of_ble_eq_true rfl) (gi g_12 37 p0 x_13) (gs_A37) (gho_A ⟨by decide, by decide⟩) dX0_copyFrom_53 (fun H locs hG => ?_)
  obtain ⟨g_14, eg_14⟩ : ∃ z, z = gi g_12 37 p0 x_13 := ⟨_, rfl⟩
  rw [← eg_14] at hG
  have hw := hw g_14 eg_14
  refine lv_aload_n hx hb dX0_copyFrom_56 rfl (lv_at hl 0 rfl) ?_
  refine lv_aload_n hx hb dX0_copyFrom_57 rfl (lv_at hl 1 rfl) ?_
  refine g_get (own := RX0) (C := RX0) (T := TX0) (N := 9) (ci := 0) hx hb hq hin_X0 hown hK hG (k := 1000 + p1) (gok_A hp1) (gc_A) rfl 8 (by decide) (hq _ q_64) rfl (v := .int (g_14.1 38 p1)) rfl dX0_copyFrom_58 ?_
  refine lv_topi (fun x_15 ex_15 => ?_)
  have hw := hw x_15 ex_15
  refine g_put (own := RX0) (C := RX0) (T := TX0) (N := 9) (ci := 0) hx hb hq hin_X0 tyX0 tyX0_ok nmX0 hown hK hG (k := 1000 + p0) (gok_A hp0) (gc_A) rfl 8 (by decide) (hq _ q_64) rfl rfl (ty := .int) (v := .int x_15) (by decide +kernel) rfl rfl (Nat.le_of_ble_eq_true rfl) (gi g_14 38 p0 x_15) (gs_A38) (gho_A ⟨by decide, by decide⟩) dX0_copyFrom_61 (fun H locs hG => ?_)
  obtain ⟨g_16, eg_16⟩ : ∃ z, z = gi g_14 38 p0 x_15 := ⟨_, rfl⟩
  rw [← eg_16] at hG
  have hw := hw g_16 eg_16
  exact g_vret hx hb hr hlocks hw hG (by decide) (by decide) dX0_copyFrom_64

def wp_X2_countPieces (post : Int32 → gS → Prop) (p0 : Int32) (p1 : Int32) (g : gS) : Prop := ((1 ≤ p1) → (¬ p1 = 0 ∧ (post (((p0 + p1) - 1) / p1) g))) ∧ ((¬ 1 ≤ p1) → (post 0 g))
set_option maxHeartbeats 4000000 in
set_option maxRecDepth 100000 in
theorem m_X2_countPieces {l : Launch} (hl9 : l.stackTraces = false) (D : va_G) (K : Nat → ClassId) (sa ad : Nat → Nat) (sz : Nat) (post : Int32 → gS → Prop) (p0 : Int32) (p1 : Int32) (g : gS) (hw : wp_X2_countPieces post p0 p1 g) : Met l yX2_countPieces wsX2_countPieces ({ frames := 0, cells := 0, slots := 0, locals := 0 } : Room) (gPc D K sa ad sz g [.int p0, .int p1]) (va_Qi post (gB D K ad (va_A (gw K ad g) sz)) (va_A (gw K ad g) sz)) 0 0 (va_A (gw K ad g) sz) := by
  refine Met.ofW (cc := cX2_countPieces) (maxL := 2) (ret := (some .int)) (by decide) rfl ?_
  intro p e s m args below meth c s₁ B hml hv
  obtain ⟨rfl, hsz, hP, hE, hD0⟩ := hv
  have hx := B.exec
  have hb := B.bytes
  have hr := B.returns
  have hts := atoms_spec (ws := wsX2_countPieces) B.pre
  have hq : ∀ w ∈ gW, w.before _ s = true := fun w h => hts w (List.mem_cons_of_mem _ h)
  have hown : s.vm.findClass RX2 = some m.cls := findClass_of_methodNamed B.named
  have hlocks := B.notSynchronized
  subst hsz
  have hD := hD0.self (sz := s.heap.size)
  generalize hAe : va_A (gw K ad g) s.heap.size = A at hD hE ⊢
  have hA : ∀ q : Nat, s.heap.size ≤ q → A q := fun q h => by rw [← hAe]; exact Or.inr h
  have hK := hE.1
  have hG : gX D K ad A s.heap g s.heap [] := ⟨hP, hD, va_S.rf⟩
  have hl := lv_entry ([.int p0, .int p1]) (n := 2) (Nat.le_of_ble_eq_true rfl)
  rw [lg_entry_eq]
  generalize (lg_sl ([.int p0, .int p1]) ++ List.replicate (2 - (lg_sl ([.int p0, .int p1])).length) Slot.unset).toArray = ls at hl ⊢
  have hl : lv_has ls 2 [(0, .int p0), (1, .int p1)] := hl
  dsimp only [wp_X2_countPieces] at hw
  refine lv_iload_n hx hb dX2_countPieces_0 rfl (lv_at hl 1 rfl) ?_
  refine lv_iconst (v := 1) hx hb dX2_countPieces_1 (by decide) ?_
  refine lv_icmp_ge (tgt := 9) hx hb dX2_countPieces_2 (by decide) (fun c_1 => ?_) (fun c_1 => ?_)
  · have hw := hw.1 c_1
    refine lv_iload_n hx hb dX2_countPieces_9 rfl (lv_at hl 0 rfl) ?_
    refine lv_iload_n hx hb dX2_countPieces_10 rfl (lv_at hl 1 rfl) ?_
    refine lv_iadd hx hb dX2_countPieces_11 ?_
    refine lv_iconst (v := 1) hx hb dX2_countPieces_12 (by decide) ?_
    refine lv_isub hx hb dX2_countPieces_13 ?_
    refine lv_iload_n hx hb dX2_countPieces_14 rfl (lv_at hl 1 rfl) ?_
    obtain ⟨h_2, hw⟩ := hw
    refine lv_idiv hx hb dX2_countPieces_15 h_2 ?_
    exact g_iret hx hb hr hlocks hw hG (by decide) (by decide) dX2_countPieces_16
  · have hw := hw.2 c_1
    refine lv_iconst (v := 0) hx hb dX2_countPieces_5 (by decide) ?_
    refine lv_goto (tgt := 16) hx hb dX2_countPieces_6 (by decide) ?_
    exact g_iret hx hb hr hlocks hw hG (by decide) (by decide) dX2_countPieces_16

def wpl_X2_countDue_2 (post : Int32 → gS → Prop) : Nat → Int32 → gS → Prop
  | 0 => fun _ _ => False
  | n + 1 => fun x1 g => (((g.1 0 2) ≤ x1) → (post x1 g)) ∧ ((¬ (g.1 0 2) ≤ x1) → (vp_in x1 512 ∧ (g.2.1 x1.toNatClampNeg < 514 ∧ ((((g.1 0 1) < (g.1 30 (g.2.1 x1.toNatClampNeg))) → (post x1 g)) ∧ ((¬ (g.1 0 1) < (g.1 30 (g.2.1 x1.toNatClampNeg))) → (∀ x_5 : Int32, x_5 = x1 + 1 → (wpl_X2_countDue_2 post n x_5 g)))))))
set_option maxHeartbeats 4000000 in
set_option maxRecDepth 100000 in
theorem L_X2_countDue_2 {p : Program} {l : Launch} {e : Env} {s : State} {m : MethodId} {args : Array Value} {below : List Frame} {meth : Method} {c : Code} {D : va_G} {K : Nat → ClassId} {sa ad : Nat → Nat} {A : Nat → Prop} (post : Int32 → gS → Prop) (hl9 : l.stackTraces = false) (hx : p.tables.exec = Jvm.exec) (hb : c.code = cX2_countDue) (hr : meth.sig.returnType = (some .int)) (hml : c.maxLocals = 2) (hown : s.vm.findClass RX2 = some m.cls) (hts : ∀ w ∈ wsX2_countDue, w.before args s = true) (hlocks : meth.locks = false) (hA : ∀ q, s.heap.size ≤ q → A q) (hE : gE D K sa A s s.heap) : ∀ (n : Nat) (x1 : Int32) (g : gS), wpl_X2_countDue_2 post n x1 g → ∀ (H : Heap) (locs : List Loc) (ls : Array Slot), gX D K ad A s.heap g H locs → lv_has ls 2 [(0, .ref (ad 0)), (1, .int x1)] → W p l e ({ frames := 0, cells := 0, slots := 0, locals := 0 } : Room) s m args below meth c H locs 0 0 (MQ below (va_Qi post (gB D K ad A) A) args s 0 0 A) (F0 m 2 ls []) := by
  have hK := hE.1
  have hq : ∀ w ∈ gW, w.before args s = true := fun w h => hts w (List.mem_cons_of_mem _ h)
  intro n
  induction n with
  | zero =>
    intro x1 g hw
    exact hw.elim
  | succ n ih =>
    intro x1 g hw H locs ls hG hl
    dsimp only [wpl_X2_countDue_2] at hw
    refine lv_iload_n hx hb dX2_countDue_2 rfl (lv_at hl 1 rfl) ?_
    refine lv_aload_n hx hb dX2_countDue_3 rfl (lv_at hl 0 rfl) ?_
    refine g_get (own := RX2) (C := RX2) (T := TX2) (N := 11) (ci := 2) hx hb hq hin_X2 hown hK hG (k := 0) (gok_lo (by decide)) (gc_W) rfl 4 (by decide) (hq _ q_122) rfl (v := .int (g.1 0 2)) rfl dX2_countDue_4 ?_
    refine lv_icmp_ge (tgt := 32) hx hb dX2_countDue_7 (by decide) (fun c_1 => ?_) (fun c_1 => ?_)
    · have hw := hw.1 c_1
      refine lv_iload_n hx hb dX2_countDue_32 rfl (lv_at hl 1 rfl) ?_
      exact g_iret hx hb hr hlocks hw hG (by decide) (by decide) dX2_countDue_33
    · have hw := hw.2 c_1
      refine lv_aload_n hx hb dX2_countDue_10 rfl (lv_at hl 0 rfl) ?_
      refine g_get (own := RX2) (C := RX2) (T := TX2) (N := 11) (ci := 2) hx hb hq hin_X2 hown hK hG (k := 0) (gok_lo (by decide)) (gc_W) rfl 3 (by decide) (hq _ q_121) rfl (v := .ref (ad 2)) rfl dX2_countDue_11 ?_
      refine lv_iload_n hx hb dX2_countDue_14 rfl (lv_at hl 1 rfl) ?_
      obtain ⟨hi_2, hw⟩ := hw
      obtain ⟨hk_3, hw⟩ := hw
      refine g_aldA hx hb hK hG hi_2 dX2_countDue_15 ?_
      refine g_getN (own := RX2) (C := RX0) (T := TX0) (N := 9) (ci := 0) hx hb hq hin_X0 hown hK hG (k := 1000 + (g.2.1 x1.toNatClampNeg)) (gok_A hk_3) (gc_A) rfl 0 (by decide) (hE.2.1 ("WireBench", 139, "WireBench$Arrival", "due", "I", "WireBench") (by decide +kernel)) rfl (v := .int (g.1 30 (g.2.1 x1.toNatClampNeg))) rfl dX2_countDue_16 ?_
      refine lv_aload_n hx hb dX2_countDue_19 rfl (lv_at hl 0 rfl) ?_
      refine g_get (own := RX2) (C := RX2) (T := TX2) (N := 11) (ci := 2) hx hb hq hin_X2 hown hK hG (k := 0) (gok_lo (by decide)) (gc_W) rfl 2 (by decide) (hq _ q_120) rfl (v := .int (g.1 0 1)) rfl dX2_countDue_20 ?_
      refine lv_icmp_gt (tgt := 32) hx hb dX2_countDue_23 (by decide) (fun c_4 => ?_) (fun c_4 => ?_)
      · have hw := hw.1 c_4
        refine lv_iload_n hx hb dX2_countDue_32 rfl (lv_at hl 1 rfl) ?_
        exact g_iret hx hb hr hlocks hw hG (by decide) (by decide) dX2_countDue_33
      · have hw := hw.2 c_4
        obtain ⟨x_5, ex_5⟩ : ∃ y : Int32, y = x1 + 1 := ⟨_, rfl⟩
        have hw := hw x_5 ex_5
        refine lv_iinc (v := x_5) (lv' := [(1, .int x_5), (0, .ref (ad 0))]) hx hb dX2_countDue_26 hl (k := 1) rfl (by rw [ex_5]; rfl) (by decide) rfl (fun ls hl => ?_)
        refine lv_goto (tgt := 2) hx hb dX2_countDue_29 (by decide) ?_
        exact ih x_5 g hw _ _ _ hG (lv_sub hl [1, 0] rfl)
def wp_X2_countDue (post : Int32 → gS → Prop)  (g : gS) : Prop := ∃ n, wpl_X2_countDue_2 post n 0 g
set_option maxHeartbeats 4000000 in
set_option maxRecDepth 100000 in
theorem m_X2_countDue {l : Launch} (hl9 : l.stackTraces = false) (D : va_G) (K : Nat → ClassId) (sa ad : Nat → Nat) (sz : Nat) (post : Int32 → gS → Prop)  (g : gS) (hw : wp_X2_countDue post  g) : Met l yX2_countDue wsX2_countDue ({ frames := 0, cells := 0, slots := 0, locals := 0 } : Room) (gPc D K sa ad sz g [.ref (ad 0)]) (va_Qi post (gB D K ad (va_A (gw K ad g) sz)) (va_A (gw K ad g) sz)) 0 0 (va_A (gw K ad g) sz) := by
  refine Met.ofW (cc := cX2_countDue) (maxL := 2) (ret := (some .int)) (by decide) rfl ?_
  intro p e s m args below meth c s₁ B hml hv
  obtain ⟨rfl, hsz, hP, hE, hD0⟩ := hv
  have hx := B.exec
  have hb := B.bytes
  have hr := B.returns
  have hts := atoms_spec (ws := wsX2_countDue) B.pre
  have hq : ∀ w ∈ gW, w.before _ s = true := fun w h => hts w (List.mem_cons_of_mem _ h)
  have hown : s.vm.findClass RX2 = some m.cls := findClass_of_methodNamed B.named
  have hlocks := B.notSynchronized
  subst hsz
  have hD := hD0.self (sz := s.heap.size)
  generalize hAe : va_A (gw K ad g) s.heap.size = A at hD hE ⊢
  have hA : ∀ q : Nat, s.heap.size ≤ q → A q := fun q h => by rw [← hAe]; exact Or.inr h
  have hK := hE.1
  have hG : gX D K ad A s.heap g s.heap [] := ⟨hP, hD, va_S.rf⟩
  have hl := lv_entry ([.ref (ad 0)]) (n := 2) (Nat.le_of_ble_eq_true rfl)
  rw [lg_entry_eq]
  generalize (lg_sl ([.ref (ad 0)]) ++ List.replicate (2 - (lg_sl ([.ref (ad 0)])).length) Slot.unset).toArray = ls at hl ⊢
  have hl : lv_has ls 2 [(0, .ref (ad 0))] := hl
  dsimp only [wp_X2_countDue] at hw
  refine lv_iconst (v := 0) hx hb dX2_countDue_0 (by decide) ?_
  refine lv_istore_n (lv' := [(1, .int 0), (0, .ref (ad 0))]) hx hb dX2_countDue_1 rfl hl (by decide) rfl (fun ls hl => ?_)
  obtain ⟨n_6, hw⟩ := hw
  exact L_X2_countDue_2 post hl9 hx hb hr hml hown hts hlocks hA hE n_6 0 g hw _ _ _ hG (lv_sub hl [1, 0] rfl)

def wpl_X2_loseArrivalsOf_4 (post : Int32 → gS → Prop) : Nat → Int32 → Int32 → Int32 → gS → Prop
  | 0 => fun _ _ _ _ => False
  | n + 1 => fun x1 x2 x3 g => (((g.1 0 2) ≤ x3) → (∀ x_2 : Int32, x_2 = (g.1 0 2) - x2 → (∀ g_3 : gS, g_3 = gi g 0 2 x2 → (post x_2 g_3)))) ∧ ((¬ (g.1 0 2) ≤ x3) → (vp_in x3 512 ∧ (g.2.1 x3.toNatClampNeg < 514 ∧ ((((g.1 31 (g.2.1 x3.toNatClampNeg)) = x1) → (∀ x_7 : Int32, x_7 = x3 + 1 → (wpl_X2_loseArrivalsOf_4 post n x1 x2 x_7 g))) ∧ ((¬ (g.1 31 (g.2.1 x3.toNatClampNeg)) = x1) → (vp_in x2 512 ∧ (g.2.1 x2.toNatClampNeg < 514 ∧ (vp_in x3 512 ∧ (∀ g_11 : gS, g_11 = gp g x3.toNatClampNeg (g.2.1 x2.toNatClampNeg) → (vp_in x2 512 ∧ (∀ g_13 : gS, g_13 = gp g_11 x2.toNatClampNeg (g.2.1 x3.toNatClampNeg) → (∀ x_14 : Int32, x_14 = x2 + 1 → (∀ x_15 : Int32, x_15 = x3 + 1 → (wpl_X2_loseArrivalsOf_4 post n x1 x_14 x_15 g_13))))))))))))))
set_option maxHeartbeats 4000000 in
set_option maxRecDepth 100000 in
theorem L_X2_loseArrivalsOf_4 {p : Program} {l : Launch} {e : Env} {s : State} {m : MethodId} {args : Array Value} {below : List Frame} {meth : Method} {c : Code} {D : va_G} {K : Nat → ClassId} {sa ad : Nat → Nat} {A : Nat → Prop} (post : Int32 → gS → Prop) (hl9 : l.stackTraces = false) (hx : p.tables.exec = Jvm.exec) (hb : c.code = cX2_loseArrivalsOf) (hr : meth.sig.returnType = (some .int)) (hml : c.maxLocals = 5) (hown : s.vm.findClass RX2 = some m.cls) (hts : ∀ w ∈ wsX2_loseArrivalsOf, w.before args s = true) (hlocks : meth.locks = false) (hA : ∀ q, s.heap.size ≤ q → A q) (hE : gE D K sa A s s.heap) : ∀ (n : Nat) (x1 : Int32) (x2 : Int32) (x3 : Int32) (g : gS), wpl_X2_loseArrivalsOf_4 post n x1 x2 x3 g → ∀ (H : Heap) (locs : List Loc) (ls : Array Slot), gX D K ad A s.heap g H locs → lv_has ls 5 [(0, .ref (ad 0)), (1, .int x1), (2, .int x2), (3, .int x3)] → W p l e ({ frames := 0, cells := 0, slots := 0, locals := 0 } : Room) s m args below meth c H locs 0 0 (MQ below (va_Qi post (gB D K ad A) A) args s 0 0 A) (F0 m 4 ls []) := by
  have hK := hE.1
  have hq : ∀ w ∈ gW, w.before args s = true := fun w h => hts w (List.mem_cons_of_mem _ h)
  intro n
  induction n with
  | zero =>
    intro x1 x2 x3 g hw
    exact hw.elim
  | succ n ih =>
    intro x1 x2 x3 g hw H locs ls hG hl
    dsimp only [wpl_X2_loseArrivalsOf_4] at hw
    refine lv_iload_n hx hb dX2_loseArrivalsOf_4 rfl (lv_at hl 3 rfl) ?_
    refine lv_aload_n hx hb dX2_loseArrivalsOf_5 rfl (lv_at hl 0 rfl) ?_
    refine g_get (own := RX2) (C := RX2) (T := TX2) (N := 11) (ci := 2) hx hb hq hin_X2 hown hK hG (k := 0) (gok_lo (by decide)) (gc_W) rfl 4 (by decide) (hq _ q_122) rfl (v := .int (g.1 0 2)) rfl dX2_loseArrivalsOf_6 ?_
    refine lv_icmp_ge (tgt := 58) hx hb dX2_loseArrivalsOf_9 (by decide) (fun c_1 => ?_) (fun c_1 => ?_)
    · have hw := hw.1 c_1
      refine lv_aload_n hx hb dX2_loseArrivalsOf_58 rfl (lv_at hl 0 rfl) ?_
      refine g_get (own := RX2) (C := RX2) (T := TX2) (N := 11) (ci := 2) hx hb hq hin_X2 hown hK hG (k := 0) (gok_lo (by decide)) (gc_W) rfl 4 (by decide) (hq _ q_122) rfl (v := .int (g.1 0 2)) rfl dX2_loseArrivalsOf_59 ?_
      refine lv_iload_n hx hb dX2_loseArrivalsOf_62 rfl (lv_at hl 2 rfl) ?_
      refine lv_isub hx hb dX2_loseArrivalsOf_63 ?_
      refine lv_topi (fun x_2 ex_2 => ?_)
      have hw := hw x_2 ex_2
      refine lv_istore_n (lv' := [(3, .int x_2), (0, .ref (ad 0)), (1, .int x1), (2, .int x2)]) hx hb dX2_loseArrivalsOf_64 rfl hl (by decide) rfl (fun ls hl => ?_)
      refine lv_aload_n hx hb dX2_loseArrivalsOf_65 rfl (lv_at hl 1 rfl) ?_
      refine lv_iload_n hx hb dX2_loseArrivalsOf_66 rfl (lv_at hl 3 rfl) ?_
      refine g_put (own := RX2) (C := RX2) (T := TX2) (N := 11) (ci := 2) hx hb hq hin_X2 tyX2 tyX2_ok nmX2 hown hK hG (k := 0) (gok_lo (by decide)) (gc_W) rfl 4 (by decide) (hq _ q_122) rfl rfl (ty := .int) (v := .int x2) (by decide +kernel) rfl rfl (Nat.le_of_ble_eq_true rfl) (gi g 0 2 x2) (gs_W2) (gho_lo (by decide)) dX2_loseArrivalsOf_67 (fun H locs hG => ?_)
      obtain ⟨g_3, eg_3⟩ : ∃ z, z = gi g 0 2 x2 := ⟨_, rfl⟩
      rw [← eg_3] at hG
      have hw := hw g_3 eg_3
      refine lv_iload_n hx hb dX2_loseArrivalsOf_70 rfl (lv_at hl 0 rfl) ?_
      exact g_iret hx hb hr hlocks hw hG (by decide) (by decide) dX2_loseArrivalsOf_71
    · have hw := hw.2 c_1
      refine lv_aload_n hx hb dX2_loseArrivalsOf_12 rfl (lv_at hl 0 rfl) ?_
      refine g_get (own := RX2) (C := RX2) (T := TX2) (N := 11) (ci := 2) hx hb hq hin_X2 hown hK hG (k := 0) (gok_lo (by decide)) (gc_W) rfl 3 (by decide) (hq _ q_121) rfl (v := .ref (ad 2)) rfl dX2_loseArrivalsOf_13 ?_
      refine lv_iload_n hx hb dX2_loseArrivalsOf_16 rfl (lv_at hl 3 rfl) ?_
      obtain ⟨hi_4, hw⟩ := hw
      obtain ⟨hk_5, hw⟩ := hw
      refine g_aldA hx hb hK hG hi_4 dX2_loseArrivalsOf_17 ?_
      refine lv_astore (lv' := [(4, .ref (ad (1000 + (g.2.1 x3.toNatClampNeg)))), (0, .ref (ad 0)), (1, .int x1), (2, .int x2), (3, .int x3)]) hx hb dX2_loseArrivalsOf_18 hl (by decide) rfl (fun ls hl => ?_)
      refine lv_aload hx hb dX2_loseArrivalsOf_20 (lv_at hl 0 rfl) ?_
      refine g_getN (own := RX2) (C := RX0) (T := TX0) (N := 9) (ci := 0) hx hb hq hin_X0 hown hK hG (k := 1000 + (g.2.1 x3.toNatClampNeg)) (gok_A hk_5) (gc_A) rfl 1 (by decide) (hE.2.1 ("WireBench", 111, "WireBench$Arrival", "net", "I", "WireBench") (by decide +kernel)) rfl (v := .int (g.1 31 (g.2.1 x3.toNatClampNeg))) rfl dX2_loseArrivalsOf_22 ?_
      refine lv_iload_n hx hb dX2_loseArrivalsOf_25 rfl (lv_at hl 2 rfl) ?_
      refine lv_icmp_eq (tgt := 52) hx hb dX2_loseArrivalsOf_26 (by decide) (fun c_6 => ?_) (fun c_6 => ?_)
      · have hw := hw.1 c_6
        obtain ⟨x_7, ex_7⟩ : ∃ y : Int32, y = x3 + 1 := ⟨_, rfl⟩
        have hw := hw x_7 ex_7
        refine lv_iinc (v := x_7) (lv' := [(3, .int x_7), (4, .ref (ad (1000 + (g.2.1 x3.toNatClampNeg)))), (0, .ref (ad 0)), (1, .int x1), (2, .int x2)]) hx hb dX2_loseArrivalsOf_52 hl (k := 4) rfl (by rw [ex_7]; rfl) (by decide) rfl (fun ls hl => ?_)
        refine lv_goto (tgt := 4) hx hb dX2_loseArrivalsOf_55 (by decide) ?_
        exact ih x1 x2 x_7 g hw _ _ _ hG (lv_sub hl [2, 3, 4, 0] rfl)
      · have hw := hw.2 c_6
        refine lv_aload_n hx hb dX2_loseArrivalsOf_29 rfl (lv_at hl 1 rfl) ?_
        refine g_get (own := RX2) (C := RX2) (T := TX2) (N := 11) (ci := 2) hx hb hq hin_X2 hown hK hG (k := 0) (gok_lo (by decide)) (gc_W) rfl 3 (by decide) (hq _ q_121) rfl (v := .ref (ad 2)) rfl dX2_loseArrivalsOf_30 ?_
        refine lv_iload_n hx hb dX2_loseArrivalsOf_33 rfl (lv_at hl 4 rfl) ?_
        refine lv_aload_n hx hb dX2_loseArrivalsOf_34 rfl (lv_at hl 1 rfl) ?_
        refine g_get (own := RX2) (C := RX2) (T := TX2) (N := 11) (ci := 2) hx hb hq hin_X2 hown hK hG (k := 0) (gok_lo (by decide)) (gc_W) rfl 3 (by decide) (hq _ q_121) rfl (v := .ref (ad 2)) rfl dX2_loseArrivalsOf_35 ?_
        refine lv_iload_n hx hb dX2_loseArrivalsOf_38 rfl (lv_at hl 3 rfl) ?_
        obtain ⟨hi_8, hw⟩ := hw
        obtain ⟨hk_9, hw⟩ := hw
        refine g_aldA hx hb hK hG hi_8 dX2_loseArrivalsOf_39 ?_
        obtain ⟨hi_10, hw⟩ := hw
        refine g_astA hx hb hK hG (j := g.2.1 x2.toNatClampNeg) hk_9 hi_10 dX2_loseArrivalsOf_40 (fun H locs hG => ?_)
        obtain ⟨g_11, eg_11⟩ : ∃ z, z = gp g x3.toNatClampNeg (g.2.1 x2.toNatClampNeg) := ⟨_, rfl⟩
        rw [← eg_11] at hG
        have hw := hw g_11 eg_11
        refine lv_aload_n hx hb dX2_loseArrivalsOf_41 rfl (lv_at hl 1 rfl) ?_
        refine g_get (own := RX2) (C := RX2) (T := TX2) (N := 11) (ci := 2) hx hb hq hin_X2 hown hK hG (k := 0) (gok_lo (by decide)) (gc_W) rfl 3 (by decide) (hq _ q_121) rfl (v := .ref (ad 2)) rfl dX2_loseArrivalsOf_42 ?_
        refine lv_iload_n hx hb dX2_loseArrivalsOf_45 rfl (lv_at hl 3 rfl) ?_
        refine lv_aload hx hb dX2_loseArrivalsOf_46 (lv_at hl 0 rfl) ?_
        obtain ⟨hi_12, hw⟩ := hw
        refine g_astA hx hb hK hG (j := g.2.1 x3.toNatClampNeg) hk_5 hi_12 dX2_loseArrivalsOf_48 (fun H locs hG => ?_)
        obtain ⟨g_13, eg_13⟩ : ∃ z, z = gp g_11 x2.toNatClampNeg (g.2.1 x3.toNatClampNeg) := ⟨_, rfl⟩
        rw [← eg_13] at hG
        have hw := hw g_13 eg_13
        obtain ⟨x_14, ex_14⟩ : ∃ y : Int32, y = x2 + 1 := ⟨_, rfl⟩
        have hw := hw x_14 ex_14
        refine lv_iinc (v := x_14) (lv' := [(2, .int x_14), (4, .ref (ad (1000 + (g.2.1 x3.toNatClampNeg)))), (0, .ref (ad 0)), (1, .int x1), (3, .int x3)]) hx hb dX2_loseArrivalsOf_49 hl (k := 3) rfl (by rw [ex_14]; rfl) (by decide) rfl (fun ls hl => ?_)
        obtain ⟨x_15, ex_15⟩ : ∃ y : Int32, y = x3 + 1 := ⟨_, rfl⟩
        have hw := hw x_15 ex_15
        refine lv_iinc (v := x_15) (lv' := [(3, .int x_15), (2, .int x_14), (4, .ref (ad (1000 + (g.2.1 x3.toNatClampNeg)))), (0, .ref (ad 0)), (1, .int x1)]) hx hb dX2_loseArrivalsOf_52 hl (k := 4) rfl (by rw [ex_15]; rfl) (by decide) rfl (fun ls hl => ?_)
        refine lv_goto (tgt := 4) hx hb dX2_loseArrivalsOf_55 (by decide) ?_
        exact ih x1 x_14 x_15 g_13 hw _ _ _ hG (lv_sub hl [3, 4, 1, 0] rfl)
def wp_X2_loseArrivalsOf (post : Int32 → gS → Prop) (p1 : Int32) (g : gS) : Prop := ∃ n, wpl_X2_loseArrivalsOf_4 post n p1 0 0 g
set_option maxHeartbeats 4000000 in
set_option maxRecDepth 100000 in
theorem m_X2_loseArrivalsOf {l : Launch} (hl9 : l.stackTraces = false) (D : va_G) (K : Nat → ClassId) (sa ad : Nat → Nat) (sz : Nat) (post : Int32 → gS → Prop) (p1 : Int32) (g : gS) (hw : wp_X2_loseArrivalsOf post p1 g) : Met l yX2_loseArrivalsOf wsX2_loseArrivalsOf ({ frames := 0, cells := 0, slots := 0, locals := 0 } : Room) (gPc D K sa ad sz g [.ref (ad 0), .int p1]) (va_Qi post (gB D K ad (va_A (gw K ad g) sz)) (va_A (gw K ad g) sz)) 0 0 (va_A (gw K ad g) sz) := by
  refine Met.ofW (cc := cX2_loseArrivalsOf) (maxL := 5) (ret := (some .int)) (by decide) rfl ?_
  intro p e s m args below meth c s₁ B hml hv
  obtain ⟨rfl, hsz, hP, hE, hD0⟩ := hv
  have hx := B.exec
  have hb := B.bytes
  have hr := B.returns
  have hts := atoms_spec (ws := wsX2_loseArrivalsOf) B.pre
  have hq : ∀ w ∈ gW, w.before _ s = true := fun w h => hts w (List.mem_cons_of_mem _ h)
  have hown : s.vm.findClass RX2 = some m.cls := findClass_of_methodNamed B.named
  have hlocks := B.notSynchronized
  subst hsz
  have hD := hD0.self (sz := s.heap.size)
  generalize hAe : va_A (gw K ad g) s.heap.size = A at hD hE ⊢
  have hA : ∀ q : Nat, s.heap.size ≤ q → A q := fun q h => by rw [← hAe]; exact Or.inr h
  have hK := hE.1
  have hG : gX D K ad A s.heap g s.heap [] := ⟨hP, hD, va_S.rf⟩
  have hl := lv_entry ([.ref (ad 0), .int p1]) (n := 5) (Nat.le_of_ble_eq_true rfl)
  rw [lg_entry_eq]
  generalize (lg_sl ([.ref (ad 0), .int p1]) ++ List.replicate (5 - (lg_sl ([.ref (ad 0), .int p1])).length) Slot.unset).toArray = ls at hl ⊢
  have hl : lv_has ls 5 [(0, .ref (ad 0)), (1, .int p1)] := hl
  dsimp only [wp_X2_loseArrivalsOf] at hw
  refine lv_iconst (v := 0) hx hb dX2_loseArrivalsOf_0 (by decide) ?_
  refine lv_istore_n (lv' := [(2, .int 0), (0, .ref (ad 0)), (1, .int p1)]) hx hb dX2_loseArrivalsOf_1 rfl hl (by decide) rfl (fun ls hl => ?_)
  refine lv_iconst (v := 0) hx hb dX2_loseArrivalsOf_2 (by decide) ?_
  refine lv_istore_n (lv' := [(3, .int 0), (2, .int 0), (0, .ref (ad 0)), (1, .int p1)]) hx hb dX2_loseArrivalsOf_3 rfl hl (by decide) rfl (fun ls hl => ?_)
  obtain ⟨n_16, hw⟩ := hw
  exact L_X2_loseArrivalsOf_4 post hl9 hx hb hr hml hown hts hlocks hA hE n_16 p1 0 0 g hw _ _ _ hG (lv_sub hl [2, 3, 1, 0] rfl)

def wpl_X2_arriveBehind_44 (post : gS → Prop) : Nat → Int32 → Nat → Int32 → gS → Prop
  | 0 => fun _ _ _ _ => False
  | n + 1 => fun x1 x2 x3 g => x2 < 514 ∧ (((x3 ≤ 0) → (vp_in x3 512 ∧ (∀ g_11 : gS, g_11 = gp g x3.toNatClampNeg x2 → (∀ x_12 : Int32, x_12 = (g_11.1 0 2) + 1 → (∀ g_13 : gS, g_13 = gi g_11 0 2 x_12 → (post g_13)))))) ∧ ((¬ x3 ≤ 0) → (∀ i_14 : Int32, i_14 = x3 - 1 → (vp_in i_14 512 ∧ (g.2.1 i_14.toNatClampNeg < 514 ∧ ((((g.1 30 (g.2.1 i_14.toNatClampNeg)) ≤ (g.1 30 x2)) → (vp_in x3 512 ∧ (∀ g_19 : gS, g_19 = gp g x3.toNatClampNeg x2 → (∀ x_20 : Int32, x_20 = (g_19.1 0 2) + 1 → (∀ g_21 : gS, g_21 = gi g_19 0 2 x_20 → (post g_21)))))) ∧ ((¬ (g.1 30 (g.2.1 i_14.toNatClampNeg)) ≤ (g.1 30 x2)) → (∀ i_22 : Int32, i_22 = x3 - 1 → (vp_in i_22 512 ∧ (g.2.1 i_22.toNatClampNeg < 514 ∧ (vp_in x3 512 ∧ (∀ g_26 : gS, g_26 = gp g x3.toNatClampNeg (g.2.1 i_22.toNatClampNeg) → (∀ x_27 : Int32, x_27 = x3 + (-1) → (wpl_X2_arriveBehind_44 post n x1 x2 x_27 g_26))))))))))))))
set_option maxHeartbeats 4000000 in
set_option maxRecDepth 100000 in
theorem L_X2_arriveBehind_44 {p : Program} {l : Launch} {e : Env} {s : State} {m : MethodId} {args : Array Value} {below : List Frame} {meth : Method} {c : Code} {D : va_G} {K : Nat → ClassId} {sa ad : Nat → Nat} {A : Nat → Prop} (post : gS → Prop) (hl9 : l.stackTraces = false) (hx : p.tables.exec = Jvm.exec) (hb : c.code = cX2_arriveBehind) (hr : meth.sig.returnType = none) (hml : c.maxLocals = 4) (hown : s.vm.findClass RX2 = some m.cls) (hts : ∀ w ∈ wsX2_arriveBehind, w.before args s = true) (hlocks : meth.locks = false) (hA : ∀ q, s.heap.size ≤ q → A q) (hE : gE D K sa A s s.heap) : ∀ (n : Nat) (x1 : Int32) (x2 : Nat) (x3 : Int32) (g : gS), wpl_X2_arriveBehind_44 post n x1 x2 x3 g → ∀ (H : Heap) (locs : List Loc) (ls : Array Slot), gX D K ad A s.heap g H locs → lv_has ls 4 [(0, .ref (ad 0)), (1, .int x1), (2, .ref (ad (1000 + x2))), (3, .int x3)] → W p l e ({ frames := 1, cells := 0, slots := 0, locals := 21 } : Room) s m args below meth c H locs 0 0 (MQ below (va_Qv post (gB D K ad A) A) args s 0 0 A) (F0 m 44 ls []) := by
  have hK := hE.1
  have hq : ∀ w ∈ gW, w.before args s = true := fun w h => hts w (List.mem_cons_of_mem _ h)
  intro n
  induction n with
  | zero =>
    intro x1 x2 x3 g hw
    exact hw.elim
  | succ n ih =>
    intro x1 x2 x3 g hw H locs ls hG hl
    dsimp only [wpl_X2_arriveBehind_44] at hw
    obtain ⟨hx2, hw⟩ := hw
    refine lv_iload_n hx hb dX2_arriveBehind_44 rfl (lv_at hl 3 rfl) ?_
    refine lv_if_le (tgt := 86) hx hb dX2_arriveBehind_45 (by decide) (fun c_9 => ?_) (fun c_9 => ?_)
    · have hw := hw.1 c_9
      refine lv_aload_n hx hb dX2_arriveBehind_86 rfl (lv_at hl 0 rfl) ?_
      refine g_get (own := RX2) (C := RX2) (T := TX2) (N := 11) (ci := 2) hx hb hq hin_X2 hown hK hG (k := 0) (gok_lo (by decide)) (gc_W) rfl 3 (by decide) (hq _ q_121) rfl (v := .ref (ad 2)) rfl dX2_arriveBehind_87 ?_
      refine lv_iload_n hx hb dX2_arriveBehind_90 rfl (lv_at hl 3 rfl) ?_
      refine lv_aload_n hx hb dX2_arriveBehind_91 rfl (lv_at hl 2 rfl) ?_
      obtain ⟨hi_10, hw⟩ := hw
      refine g_astA hx hb hK hG (j := x2) hx2 hi_10 dX2_arriveBehind_92 (fun H locs hG => ?_)
      obtain ⟨g_11, eg_11⟩ : ∃ z, z = gp g x3.toNatClampNeg x2 := ⟨_, rfl⟩
      rw [← eg_11] at hG
      have hw := hw g_11 eg_11
      refine lv_aload_n hx hb dX2_arriveBehind_93 rfl (lv_at hl 0 rfl) ?_
      refine lv_dup hx hb dX2_arriveBehind_94 rfl ?_
      refine g_get (own := RX2) (C := RX2) (T := TX2) (N := 11) (ci := 2) hx hb hq hin_X2 hown hK hG (k := 0) (gok_lo (by decide)) (gc_W) rfl 4 (by decide) (hq _ q_122) rfl (v := .int (g_11.1 0 2)) rfl dX2_arriveBehind_95 ?_
      refine lv_iconst (v := 1) hx hb dX2_arriveBehind_98 (by decide) ?_
      refine lv_iadd hx hb dX2_arriveBehind_99 ?_
      refine lv_topi (fun x_12 ex_12 => ?_)
      have hw := hw x_12 ex_12
      refine g_put (own := RX2) (C := RX2) (T := TX2) (N := 11) (ci := 2) hx hb hq hin_X2 tyX2 tyX2_ok nmX2 hown hK hG (k := 0) (gok_lo (by decide)) (gc_W) rfl 4 (by decide) (hq _ q_122) rfl rfl (ty := .int) (v := .int x_12) (by decide +kernel) rfl rfl (Nat.le_of_ble_eq_true rfl) (gi g_11 0 2 x_12) (gs_W2) (gho_lo (by decide)) dX2_arriveBehind_100 (fun H locs hG => ?_)
      obtain ⟨g_13, eg_13⟩ : ∃ z, z = gi g_11 0 2 x_12 := ⟨_, rfl⟩
      rw [← eg_13] at hG
      have hw := hw g_13 eg_13
      exact g_vret hx hb hr hlocks hw hG (by decide) (by decide) dX2_arriveBehind_103
    · have hw := hw.2 c_9
      refine lv_aload_n hx hb dX2_arriveBehind_48 rfl (lv_at hl 0 rfl) ?_
      refine g_get (own := RX2) (C := RX2) (T := TX2) (N := 11) (ci := 2) hx hb hq hin_X2 hown hK hG (k := 0) (gok_lo (by decide)) (gc_W) rfl 3 (by decide) (hq _ q_121) rfl (v := .ref (ad 2)) rfl dX2_arriveBehind_49 ?_
      refine lv_iload_n hx hb dX2_arriveBehind_52 rfl (lv_at hl 3 rfl) ?_
      refine lv_iconst (v := 1) hx hb dX2_arriveBehind_53 (by decide) ?_
      refine lv_isub hx hb dX2_arriveBehind_54 ?_
      refine lv_topi (fun i_14 ei_14 => ?_)
      have hw := hw i_14 ei_14
      obtain ⟨hi_15, hw⟩ := hw
      obtain ⟨hk_16, hw⟩ := hw
      refine g_aldA hx hb hK hG hi_15 dX2_arriveBehind_55 ?_
      refine g_getN (own := RX2) (C := RX0) (T := TX0) (N := 9) (ci := 0) hx hb hq hin_X0 hown hK hG (k := 1000 + (g.2.1 i_14.toNatClampNeg)) (gok_A hk_16) (gc_A) rfl 0 (by decide) (hE.2.1 ("WireBench", 139, "WireBench$Arrival", "due", "I", "WireBench") (by decide +kernel)) rfl (v := .int (g.1 30 (g.2.1 i_14.toNatClampNeg))) rfl dX2_arriveBehind_56 ?_
      refine lv_aload_n hx hb dX2_arriveBehind_59 rfl (lv_at hl 2 rfl) ?_
      refine g_getN (own := RX2) (C := RX0) (T := TX0) (N := 9) (ci := 0) hx hb hq hin_X0 hown hK hG (k := 1000 + x2) (gok_A hx2) (gc_A) rfl 0 (by decide) (hE.2.1 ("WireBench", 139, "WireBench$Arrival", "due", "I", "WireBench") (by decide +kernel)) rfl (v := .int (g.1 30 x2)) rfl dX2_arriveBehind_60 ?_
      refine lv_icmp_le (tgt := 86) hx hb dX2_arriveBehind_63 (by decide) (fun c_17 => ?_) (fun c_17 => ?_)
      · have hw := hw.1 c_17
        refine lv_aload_n hx hb dX2_arriveBehind_86 rfl (lv_at hl 0 rfl) ?_
        refine g_get (own := RX2) (C := RX2) (T := TX2) (N := 11) (ci := 2) hx hb hq hin_X2 hown hK hG (k := 0) (gok_lo (by decide)) (gc_W) rfl 3 (by decide) (hq _ q_121) rfl (v := .ref (ad 2)) rfl dX2_arriveBehind_87 ?_
        refine lv_iload_n hx hb dX2_arriveBehind_90 rfl (lv_at hl 3 rfl) ?_
        refine lv_aload_n hx hb dX2_arriveBehind_91 rfl (lv_at hl 2 rfl) ?_
        obtain ⟨hi_18, hw⟩ := hw
        refine g_astA hx hb hK hG (j := x2) hx2 hi_18 dX2_arriveBehind_92 (fun H locs hG => ?_)
        obtain ⟨g_19, eg_19⟩ : ∃ z, z = gp g x3.toNatClampNeg x2 := ⟨_, rfl⟩
        rw [← eg_19] at hG
        have hw := hw g_19 eg_19
        refine lv_aload_n hx hb dX2_arriveBehind_93 rfl (lv_at hl 0 rfl) ?_
        refine lv_dup hx hb dX2_arriveBehind_94 rfl ?_
        refine g_get (own := RX2) (C := RX2) (T := TX2) (N := 11) (ci := 2) hx hb hq hin_X2 hown hK hG (k := 0) (gok_lo (by decide)) (gc_W) rfl 4 (by decide) (hq _ q_122) rfl (v := .int (g_19.1 0 2)) rfl dX2_arriveBehind_95 ?_
        refine lv_iconst (v := 1) hx hb dX2_arriveBehind_98 (by decide) ?_
        refine lv_iadd hx hb dX2_arriveBehind_99 ?_
        refine lv_topi (fun x_20 ex_20 => ?_)
        have hw := hw x_20 ex_20
        refine g_put (own := RX2) (C := RX2) (T := TX2) (N := 11) (ci := 2) hx hb hq hin_X2 tyX2 tyX2_ok nmX2 hown hK hG (k := 0) (gok_lo (by decide)) (gc_W) rfl 4 (by decide) (hq _ q_122) rfl rfl (ty := .int) (v := .int x_20) (by decide +kernel) rfl rfl (Nat.le_of_ble_eq_true rfl) (gi g_19 0 2 x_20) (gs_W2) (gho_lo (by decide)) dX2_arriveBehind_100 (fun H locs hG => ?_)
        obtain ⟨g_21, eg_21⟩ : ∃ z, z = gi g_19 0 2 x_20 := ⟨_, rfl⟩
        rw [← eg_21] at hG
        have hw := hw g_21 eg_21
        exact g_vret hx hb hr hlocks hw hG (by decide) (by decide) dX2_arriveBehind_103
      · have hw := hw.2 c_17
        refine lv_aload_n hx hb dX2_arriveBehind_66 rfl (lv_at hl 0 rfl) ?_
        refine g_get (own := RX2) (C := RX2) (T := TX2) (N := 11) (ci := 2) hx hb hq hin_X2 hown hK hG (k := 0) (gok_lo (by decide)) (gc_W) rfl 3 (by decide) (hq _ q_121) rfl (v := .ref (ad 2)) rfl dX2_arriveBehind_67 ?_
        refine lv_iload_n hx hb dX2_arriveBehind_70 rfl (lv_at hl 3 rfl) ?_
        refine lv_aload_n hx hb dX2_arriveBehind_71 rfl (lv_at hl 0 rfl) ?_
        refine g_get (own := RX2) (C := RX2) (T := TX2) (N := 11) (ci := 2) hx hb hq hin_X2 hown hK hG (k := 0) (gok_lo (by decide)) (gc_W) rfl 3 (by decide) (hq _ q_121) rfl (v := .ref (ad 2)) rfl dX2_arriveBehind_72 ?_
        refine lv_iload_n hx hb dX2_arriveBehind_75 rfl (lv_at hl 3 rfl) ?_
        refine lv_iconst (v := 1) hx hb dX2_arriveBehind_76 (by decide) ?_
        refine lv_isub hx hb dX2_arriveBehind_77 ?_
        refine lv_topi (fun i_22 ei_22 => ?_)
        have hw := hw i_22 ei_22
        obtain ⟨hi_23, hw⟩ := hw
        obtain ⟨hk_24, hw⟩ := hw
        refine g_aldA hx hb hK hG hi_23 dX2_arriveBehind_78 ?_
        obtain ⟨hi_25, hw⟩ := hw
        refine g_astA hx hb hK hG (j := g.2.1 i_22.toNatClampNeg) hk_24 hi_25 dX2_arriveBehind_79 (fun H locs hG => ?_)
        obtain ⟨g_26, eg_26⟩ : ∃ z, z = gp g x3.toNatClampNeg (g.2.1 i_22.toNatClampNeg) := ⟨_, rfl⟩
        rw [← eg_26] at hG
        have hw := hw g_26 eg_26
        obtain ⟨x_27, ex_27⟩ : ∃ y : Int32, y = x3 + (-1) := ⟨_, rfl⟩
        have hw := hw x_27 ex_27
        refine lv_iinc (v := x_27) (lv' := [(3, .int x_27), (0, .ref (ad 0)), (1, .int x1), (2, .ref (ad (1000 + x2)))]) hx hb dX2_arriveBehind_80 hl (k := 3) rfl (by rw [ex_27]; rfl) (by decide) rfl (fun ls hl => ?_)
        refine lv_goto (tgt := 44) hx hb dX2_arriveBehind_83 (by decide) ?_
        exact ih x1 x2 x_27 g_26 hw _ _ _ hG (lv_sub hl [1, 2, 3, 0] rfl)
def wp_X2_arriveBehind (post : gS → Prop) (p1 : Int32) (g : gS) : Prop := (((g.1 0 2) < 512) → (∀ i_2 : Int32, i_2 = g.1 0 2 → (vp_in i_2 512 ∧ (g.2.1 i_2.toNatClampNeg < 514 ∧ (wp_X0_copyFrom (fun g_5 => (∀ x_6 : Int32, x_6 = (g_5.1 0 1) + p1 → (∀ g_7 : gS, g_7 = gi g_5 30 (g.2.1 i_2.toNatClampNeg) x_6 → (∀ x_8 : Int32, x_8 = g_7.1 0 2 → (∃ n, wpl_X2_arriveBehind_44 post n p1 (g.2.1 i_2.toNatClampNeg) x_8 g_7))))) (g.2.1 i_2.toNatClampNeg) 513 g))))) ∧ ((¬ (g.1 0 2) < 512) → (post g))
set_option maxHeartbeats 4000000 in
set_option maxRecDepth 100000 in
theorem m_X2_arriveBehind {l : Launch} (hl9 : l.stackTraces = false) (D : va_G) (K : Nat → ClassId) (sa ad : Nat → Nat) (sz : Nat) (post : gS → Prop) (p1 : Int32) (g : gS) (hw : wp_X2_arriveBehind post p1 g) : Met l yX2_arriveBehind wsX2_arriveBehind ({ frames := 1, cells := 0, slots := 0, locals := 21 } : Room) (gPc D K sa ad sz g [.ref (ad 0), .int p1]) (va_Qv post (gB D K ad (va_A (gw K ad g) sz)) (va_A (gw K ad g) sz)) 0 0 (va_A (gw K ad g) sz) := by
  refine Met.ofW (cc := cX2_arriveBehind) (maxL := 4) (ret := none) (by decide) rfl ?_
  intro p e s m args below meth c s₁ B hml hv
  obtain ⟨rfl, hsz, hP, hE, hD0⟩ := hv
  have hx := B.exec
  have hb := B.bytes
  have hr := B.returns
  have hts := atoms_spec (ws := wsX2_arriveBehind) B.pre
  have hq : ∀ w ∈ gW, w.before _ s = true := fun w h => hts w (List.mem_cons_of_mem _ h)
  have hown : s.vm.findClass RX2 = some m.cls := findClass_of_methodNamed B.named
  have hlocks := B.notSynchronized
  subst hsz
  have hD := hD0.self (sz := s.heap.size)
  generalize hAe : va_A (gw K ad g) s.heap.size = A at hD hE ⊢
  have hA : ∀ q : Nat, s.heap.size ≤ q → A q := fun q h => by rw [← hAe]; exact Or.inr h
  have hK := hE.1
  have hG : gX D K ad A s.heap g s.heap [] := ⟨hP, hD, va_S.rf⟩
  have hl := lv_entry ([.ref (ad 0), .int p1]) (n := 4) (Nat.le_of_ble_eq_true rfl)
  rw [lg_entry_eq]
  generalize (lg_sl ([.ref (ad 0), .int p1]) ++ List.replicate (4 - (lg_sl ([.ref (ad 0), .int p1])).length) Slot.unset).toArray = ls at hl ⊢
  have hl : lv_has ls 4 [(0, .ref (ad 0)), (1, .int p1)] := hl
  dsimp only [wp_X2_arriveBehind] at hw
  refine lv_aload_n hx hb dX2_arriveBehind_0 rfl (lv_at hl 0 rfl) ?_
  refine g_get (own := RX2) (C := RX2) (T := TX2) (N := 11) (ci := 2) hx hb hq hin_X2 hown hK hG (k := 0) (gok_lo (by decide)) (gc_W) rfl 4 (by decide) (hq _ q_122) rfl (v := .int (g.1 0 2)) rfl dX2_arriveBehind_1 ?_
  refine lv_sipush (v := 512) hx hb dX2_arriveBehind_4 (by decide) ?_
  refine lv_icmp_lt (tgt := 11) hx hb dX2_arriveBehind_7 (by decide) (fun c_1 => ?_) (fun c_1 => ?_)
  · have hw := hw.1 c_1
    refine lv_aload_n hx hb dX2_arriveBehind_11 rfl (lv_at hl 0 rfl) ?_
    refine g_get (own := RX2) (C := RX2) (T := TX2) (N := 11) (ci := 2) hx hb hq hin_X2 hown hK hG (k := 0) (gok_lo (by decide)) (gc_W) rfl 3 (by decide) (hq _ q_121) rfl (v := .ref (ad 2)) rfl dX2_arriveBehind_12 ?_
    refine lv_aload_n hx hb dX2_arriveBehind_15 rfl (lv_at hl 0 rfl) ?_
    refine g_get (own := RX2) (C := RX2) (T := TX2) (N := 11) (ci := 2) hx hb hq hin_X2 hown hK hG (k := 0) (gok_lo (by decide)) (gc_W) rfl 4 (by decide) (hq _ q_122) rfl (v := .int (g.1 0 2)) rfl dX2_arriveBehind_16 ?_
    refine lv_topi (fun i_2 ei_2 => ?_)
    have hw := hw i_2 ei_2
    obtain ⟨hi_3, hw⟩ := hw
    obtain ⟨hk_4, hw⟩ := hw
    refine g_aldA hx hb hK hG hi_3 dX2_arriveBehind_19 ?_
    refine lv_astore_n (lv' := [(2, .ref (ad (1000 + (g.2.1 i_2.toNatClampNeg)))), (0, .ref (ad 0)), (1, .int p1)]) hx hb dX2_arriveBehind_20 rfl hl (by decide) rfl (fun ls hl => ?_)
    refine lv_aload_n hx hb dX2_arriveBehind_21 rfl (lv_at hl 0 rfl) ?_
    refine lv_aload_n hx hb dX2_arriveBehind_22 rfl (lv_at hl 1 rfl) ?_
    refine g_get (own := RX2) (C := RX2) (T := TX2) (N := 11) (ci := 2) hx hb hq hin_X2 hown hK hG (k := 0) (gok_lo (by decide)) (gc_W) rfl 7 (by decide) (hq _ q_125) rfl (v := .ref (ad 1513)) rfl dX2_arriveBehind_23 ?_
    refine g_callv (va_runVN (C := RX0) (As := [.ref (ad (1000 + 513))]) (rest := []) ⟨hx, hb, hml, hown, hts⟩ (m_X0_copyFrom hl9 D K sa ad _ _ (g.2.1 i_2.toNatClampNeg) 513 g hw) ⟨va_cnB 1 hts (gGood gCons (gCode q_334)) rfl rfl rfl (hE.2.2.1 ("WireBench", 196, yX0_copyFrom, "WireBench") (by decide +kernel)) (hq _ q_21) (by decide +kernel) ⟨Nat.le_of_ble_eq_true rfl, Nat.le_of_ble_eq_true rfl⟩, hq _ q_333, hq _ q_10⟩ ⟨gPc_blind, g_recv hK hG (gok_A hk_4) (gc_A) rfl, gPc_at hE hG hA⟩ rfl rfl hl.1 rfl (lv_room (Nat.le_of_ble_eq_true rfl)) dX2_arriveBehind_26 ⟨Nat.le_of_ble_eq_true rfl, Nat.le_of_ble_eq_true rfl⟩) hG hA (fun g_5 H locs hw hG => ?_)
    try dsimp only at hw
    refine lv_aload_n hx hb dX2_arriveBehind_29 rfl (lv_at hl 0 rfl) ?_
    refine lv_aload_n hx hb dX2_arriveBehind_30 rfl (lv_at hl 1 rfl) ?_
    refine g_get (own := RX2) (C := RX2) (T := TX2) (N := 11) (ci := 2) hx hb hq hin_X2 hown hK hG (k := 0) (gok_lo (by decide)) (gc_W) rfl 2 (by decide) (hq _ q_120) rfl (v := .int (g_5.1 0 1)) rfl dX2_arriveBehind_31 ?_
    refine lv_iload_n hx hb dX2_arriveBehind_34 rfl (lv_at hl 2 rfl) ?_
    refine lv_iadd hx hb dX2_arriveBehind_35 ?_
    refine lv_topi (fun x_6 ex_6 => ?_)
    have hw := hw x_6 ex_6
    refine g_putN (own := RX2) (C := RX0) (T := TX0) (N := 9) (ci := 0) hx hb hq hin_X0 tyX0 tyX0_ok nmX0 hown hK hG (k := 1000 + (g.2.1 i_2.toNatClampNeg)) (gok_A hk_4) (gc_A) rfl 0 (by decide) (hE.2.1 ("WireBench", 139, "WireBench$Arrival", "due", "I", "WireBench") (by decide +kernel)) rfl rfl (ty := .int) (v := .int x_6) (by decide +kernel) rfl rfl (Nat.le_of_ble_eq_true rfl) (gi g_5 30 (g.2.1 i_2.toNatClampNeg) x_6) (gs_A30) (gho_A ⟨by decide, by decide⟩) dX2_arriveBehind_36 (fun H locs hG => ?_)
    obtain ⟨g_7, eg_7⟩ : ∃ z, z = gi g_5 30 (g.2.1 i_2.toNatClampNeg) x_6 := ⟨_, rfl⟩
    rw [← eg_7] at hG
    have hw := hw g_7 eg_7
    refine lv_aload_n hx hb dX2_arriveBehind_39 rfl (lv_at hl 1 rfl) ?_
    refine g_get (own := RX2) (C := RX2) (T := TX2) (N := 11) (ci := 2) hx hb hq hin_X2 hown hK hG (k := 0) (gok_lo (by decide)) (gc_W) rfl 4 (by decide) (hq _ q_122) rfl (v := .int (g_7.1 0 2)) rfl dX2_arriveBehind_40 ?_
    refine lv_topi (fun x_8 ex_8 => ?_)
    have hw := hw x_8 ex_8
    refine lv_istore_n (lv' := [(3, .int x_8), (2, .ref (ad (1000 + (g.2.1 i_2.toNatClampNeg)))), (0, .ref (ad 0)), (1, .int p1)]) hx hb dX2_arriveBehind_43 rfl hl (by decide) rfl (fun ls hl => ?_)
    obtain ⟨n_28, hw⟩ := hw
    exact L_X2_arriveBehind_44 post hl9 hx hb hr hml hown hts hlocks hA hE n_28 p1 (g.2.1 i_2.toNatClampNeg) x_8 g_7 hw _ _ _ hG (lv_sub hl [2, 3, 1, 0] rfl)
  · have hw := hw.2 c_1
    exact g_vret hx hb hr hlocks hw hG (by decide) (by decide) dX2_arriveBehind_10

def wp_X2_meetFate (post : gS → Prop) (p1 : Int32) (p2 : Int32) (g : gS) : Prop := ((p1.toInt < 1 ∨ 3 < p1.toInt) → (wp_X2_arriveBehind (fun g_2 => (post g_2)) p2 g)) ∧ (p1.toInt = 1 → (post g)) ∧ (p1.toInt = 2 → (((512 < ((g.1 0 2) + 2)) → (post g)) ∧ ((¬ 512 < ((g.1 0 2) + 2)) → (wp_X2_arriveBehind (fun g_4 => (wp_X2_arriveBehind (fun g_5 => (post g_5)) (3 * p2) g_4)) p2 g)))) ∧ (p1.toInt = 3 → (wp_X2_arriveBehind (fun g_6 => (post g_6)) (4 * p2) g))
set_option maxHeartbeats 4000000 in
set_option maxRecDepth 100000 in
theorem m_X2_meetFate {l : Launch} (hl9 : l.stackTraces = false) (D : va_G) (K : Nat → ClassId) (sa ad : Nat → Nat) (sz : Nat) (post : gS → Prop) (p1 : Int32) (p2 : Int32) (g : gS) (hw : wp_X2_meetFate post p1 p2 g) : Met l yX2_meetFate wsX2_meetFate ({ frames := 2, cells := 0, slots := 0, locals := 44 } : Room) (gPc D K sa ad sz g [.ref (ad 0), .int p1, .int p2]) (va_Qv post (gB D K ad (va_A (gw K ad g) sz)) (va_A (gw K ad g) sz)) 0 0 (va_A (gw K ad g) sz) := by
  refine Met.ofW (cc := cX2_meetFate) (maxL := 3) (ret := none) (by decide) rfl ?_
  intro p e s m args below meth c s₁ B hml hv
  obtain ⟨rfl, hsz, hP, hE, hD0⟩ := hv
  have hx := B.exec
  have hb := B.bytes
  have hr := B.returns
  have hts := atoms_spec (ws := wsX2_meetFate) B.pre
  have hq : ∀ w ∈ gW, w.before _ s = true := fun w h => hts w (List.mem_cons_of_mem _ h)
  have hown : s.vm.findClass RX2 = some m.cls := findClass_of_methodNamed B.named
  have hlocks := B.notSynchronized
  subst hsz
  have hD := hD0.self (sz := s.heap.size)
  generalize hAe : va_A (gw K ad g) s.heap.size = A at hD hE ⊢
  have hA : ∀ q : Nat, s.heap.size ≤ q → A q := fun q h => by rw [← hAe]; exact Or.inr h
  have hK := hE.1
  have hG : gX D K ad A s.heap g s.heap [] := ⟨hP, hD, va_S.rf⟩
  have hl := lv_entry ([.ref (ad 0), .int p1, .int p2]) (n := 3) (Nat.le_of_ble_eq_true rfl)
  rw [lg_entry_eq]
  generalize (lg_sl ([.ref (ad 0), .int p1, .int p2]) ++ List.replicate (3 - (lg_sl ([.ref (ad 0), .int p1, .int p2])).length) Slot.unset).toArray = ls at hl ⊢
  have hl : lv_has ls 3 [(0, .ref (ad 0)), (1, .int p1), (2, .int p2)] := hl
  dsimp only [wp_X2_meetFate] at hw
  refine lv_iload_n hx hb dX2_meetFate_0 rfl (lv_at hl 1 rfl) ?_
  by_cases h_1 : p1.toInt < 1 ∨ 3 < p1.toInt
  · refine lv_tableOut hx hb dX2_meetFate_1 h_1 (tgt := 68) (by decide) ?_
    have hw := hw.1 h_1
    refine lv_aload_n hx hb dX2_meetFate_68 rfl (lv_at hl 0 rfl) ?_
    refine lv_iload_n hx hb dX2_meetFate_69 rfl (lv_at hl 2 rfl) ?_
    refine g_callv (va_runV (As := [.int p2]) (rest := []) ⟨hx, hb, hml, hown, hts⟩ (m_X2_arriveBehind hl9 D K sa ad _ _ p2 g hw) (cwV 1 hts (gGood gCons (gV q_327 q_329 q_9 q_20 q_330)) rfl rfl rfl (by decide +kernel) ⟨Nat.le_of_ble_eq_true rfl, Nat.le_of_ble_eq_true rfl⟩) ⟨gPc_blind, g_recv hK hG (gok_lo (by decide)) (gc_W) rfl, gPc_at hE hG hA⟩ rfl rfl hl.1 rfl (lv_room (Nat.le_of_ble_eq_true rfl)) dX2_meetFate_70 ⟨Nat.le_of_ble_eq_true rfl, Nat.le_of_ble_eq_true rfl⟩) hG hA (fun g_2 H locs hw hG => ?_)
    try dsimp only at hw
    exact g_vret hx hb hr hlocks hw hG (by decide) (by decide) dX2_meetFate_73
  · have hw := hw.2
    rcases (show p1.toInt = 1 ∨ p1.toInt = 2 ∨ p1.toInt = 3 by omega) with h_1 | h_1 | h_1
    · refine lv_tableIn hx hb dX2_meetFate_1 (by omega) (by omega) (by rw [h_1]; rfl) (tgt := 28) (by decide) ?_
      have hw := hw.1 h_1
      refine lv_goto (tgt := 73) hx hb dX2_meetFate_28 (by decide) ?_
      exact g_vret hx hb hr hlocks hw hG (by decide) (by decide) dX2_meetFate_73
    · refine lv_tableIn hx hb dX2_meetFate_1 (by omega) (by omega) (by rw [h_1]; rfl) (tgt := 31) (by decide) ?_
      have hw := hw.2.1 h_1
      refine lv_aload_n hx hb dX2_meetFate_31 rfl (lv_at hl 0 rfl) ?_
      refine g_get (own := RX2) (C := RX2) (T := TX2) (N := 11) (ci := 2) hx hb hq hin_X2 hown hK hG (k := 0) (gok_lo (by decide)) (gc_W) rfl 4 (by decide) (hq _ q_122) rfl (v := .int (g.1 0 2)) rfl dX2_meetFate_32 ?_
      refine lv_iconst (v := 2) hx hb dX2_meetFate_35 (by decide) ?_
      refine lv_iadd hx hb dX2_meetFate_36 ?_
      refine lv_sipush (v := 512) hx hb dX2_meetFate_37 (by decide) ?_
      refine lv_icmp_gt (tgt := 73) hx hb dX2_meetFate_40 (by decide) (fun c_3 => ?_) (fun c_3 => ?_)
      · have hw := hw.1 c_3
        exact g_vret hx hb hr hlocks hw hG (by decide) (by decide) dX2_meetFate_73
      · have hw := hw.2 c_3
        refine lv_aload_n hx hb dX2_meetFate_43 rfl (lv_at hl 0 rfl) ?_
        refine lv_iload_n hx hb dX2_meetFate_44 rfl (lv_at hl 2 rfl) ?_
        refine g_callv (va_runV (As := [.int p2]) (rest := []) ⟨hx, hb, hml, hown, hts⟩ (m_X2_arriveBehind hl9 D K sa ad _ _ p2 g hw) (cwV 1 hts (gGood gCons (gV q_327 q_329 q_9 q_20 q_330)) rfl rfl rfl (by decide +kernel) ⟨Nat.le_of_ble_eq_true rfl, Nat.le_of_ble_eq_true rfl⟩) ⟨gPc_blind, g_recv hK hG (gok_lo (by decide)) (gc_W) rfl, gPc_at hE hG hA⟩ rfl rfl hl.1 rfl (lv_room (Nat.le_of_ble_eq_true rfl)) dX2_meetFate_45 ⟨Nat.le_of_ble_eq_true rfl, Nat.le_of_ble_eq_true rfl⟩) hG hA (fun g_4 H locs hw hG => ?_)
        try dsimp only at hw
        refine lv_aload_n hx hb dX2_meetFate_48 rfl (lv_at hl 0 rfl) ?_
        refine lv_iconst (v := 3) hx hb dX2_meetFate_49 (by decide) ?_
        refine lv_iload_n hx hb dX2_meetFate_50 rfl (lv_at hl 2 rfl) ?_
        refine lv_imul hx hb dX2_meetFate_51 ?_
        refine g_callv (va_runV (As := [.int (3 * p2)]) (rest := []) ⟨hx, hb, hml, hown, hts⟩ (m_X2_arriveBehind hl9 D K sa ad _ _ (3 * p2) g_4 hw) (cwV 1 hts (gGood gCons (gV q_327 q_329 q_9 q_20 q_330)) rfl rfl rfl (by decide +kernel) ⟨Nat.le_of_ble_eq_true rfl, Nat.le_of_ble_eq_true rfl⟩) ⟨gPc_blind, g_recv hK hG (gok_lo (by decide)) (gc_W) rfl, gPc_at hE hG hA⟩ rfl rfl hl.1 rfl (lv_room (Nat.le_of_ble_eq_true rfl)) dX2_meetFate_52 ⟨Nat.le_of_ble_eq_true rfl, Nat.le_of_ble_eq_true rfl⟩) hG hA (fun g_5 H locs hw hG => ?_)
        try dsimp only at hw
        refine lv_goto (tgt := 73) hx hb dX2_meetFate_55 (by decide) ?_
        exact g_vret hx hb hr hlocks hw hG (by decide) (by decide) dX2_meetFate_73
    · refine lv_tableIn hx hb dX2_meetFate_1 (by omega) (by omega) (by rw [h_1]; rfl) (tgt := 58) (by decide) ?_
      have hw := hw.2.2 h_1
      refine lv_aload_n hx hb dX2_meetFate_58 rfl (lv_at hl 0 rfl) ?_
      refine lv_iconst (v := 4) hx hb dX2_meetFate_59 (by decide) ?_
      refine lv_iload_n hx hb dX2_meetFate_60 rfl (lv_at hl 2 rfl) ?_
      refine lv_imul hx hb dX2_meetFate_61 ?_
      refine g_callv (va_runV (As := [.int (4 * p2)]) (rest := []) ⟨hx, hb, hml, hown, hts⟩ (m_X2_arriveBehind hl9 D K sa ad _ _ (4 * p2) g hw) (cwV 1 hts (gGood gCons (gV q_327 q_329 q_9 q_20 q_330)) rfl rfl rfl (by decide +kernel) ⟨Nat.le_of_ble_eq_true rfl, Nat.le_of_ble_eq_true rfl⟩) ⟨gPc_blind, g_recv hK hG (gok_lo (by decide)) (gc_W) rfl, gPc_at hE hG hA⟩ rfl rfl hl.1 rfl (lv_room (Nat.le_of_ble_eq_true rfl)) dX2_meetFate_62 ⟨Nat.le_of_ble_eq_true rfl, Nat.le_of_ble_eq_true rfl⟩) hG hA (fun g_6 H locs hw hG => ?_)
      try dsimp only at hw
      refine lv_goto (tgt := 73) hx hb dX2_meetFate_65 (by decide) ?_
      exact g_vret hx hb hr hlocks hw hG (by decide) (by decide) dX2_meetFate_73

def wp_X2_sendPiece (post : gS → Prop) (p1 : Nat) (p2 : Int32) (p3 : Int32) (g : gS) : Prop := p1 < 24 ∧ (∀ x_1 : Int32, x_1 = (g.1 23 p1) + 1 → (∀ g_2 : gS, g_2 = gi g 23 p1 x_1 → (((¬ (g_2.1 22 p1) = 0) → (∀ g_4 : gS, g_4 = gi g_2 35 513 p2 → (∀ g_5 : gS, g_5 = gi g_4 37 513 p3 → (wp_X2_ringPlace (fun r_7 g_6 => (∀ g_8 : gS, g_8 = gi g_6 38 513 r_7 → (wp_X1_takeFate (fun r_10 g_9 => (wp_X2_meetFate (fun g_11 => (post g_11)) r_10 (g_9.1 21 p1) g_9)) p1 g_8))) ((g_5.1 0 4) + p2) g_5)))) ∧ (((g_2.1 22 p1) = 0) → (post g_2)))))
set_option maxHeartbeats 4000000 in
set_option maxRecDepth 100000 in
theorem m_X2_sendPiece {l : Launch} (hl9 : l.stackTraces = false) (D : va_G) (K : Nat → ClassId) (sa ad : Nat → Nat) (sz : Nat) (post : gS → Prop) (p1 : Nat) (p2 : Int32) (p3 : Int32) (g : gS) (hw : wp_X2_sendPiece post p1 p2 p3 g) : Met l yX2_sendPiece wsX2_sendPiece ({ frames := 3, cells := 0, slots := 0, locals := 66 } : Room) (gPc D K sa ad sz g [.ref (ad 0), .ref (ad (100 + p1)), .int p2, .int p3]) (va_Qv post (gB D K ad (va_A (gw K ad g) sz)) (va_A (gw K ad g) sz)) 0 0 (va_A (gw K ad g) sz) := by
  refine Met.ofW (cc := cX2_sendPiece) (maxL := 4) (ret := none) (by decide) rfl ?_
  intro p e s m args below meth c s₁ B hml hv
  obtain ⟨rfl, hsz, hP, hE, hD0⟩ := hv
  have hx := B.exec
  have hb := B.bytes
  have hr := B.returns
  have hts := atoms_spec (ws := wsX2_sendPiece) B.pre
  have hq : ∀ w ∈ gW, w.before _ s = true := fun w h => hts w (List.mem_cons_of_mem _ h)
  have hown : s.vm.findClass RX2 = some m.cls := findClass_of_methodNamed B.named
  have hlocks := B.notSynchronized
  subst hsz
  have hD := hD0.self (sz := s.heap.size)
  generalize hAe : va_A (gw K ad g) s.heap.size = A at hD hE ⊢
  have hA : ∀ q : Nat, s.heap.size ≤ q → A q := fun q h => by rw [← hAe]; exact Or.inr h
  have hK := hE.1
  have hG : gX D K ad A s.heap g s.heap [] := ⟨hP, hD, va_S.rf⟩
  have hl := lv_entry ([.ref (ad 0), .ref (ad (100 + p1)), .int p2, .int p3]) (n := 4) (Nat.le_of_ble_eq_true rfl)
  rw [lg_entry_eq]
  generalize (lg_sl ([.ref (ad 0), .ref (ad (100 + p1)), .int p2, .int p3]) ++ List.replicate (4 - (lg_sl ([.ref (ad 0), .ref (ad (100 + p1)), .int p2, .int p3])).length) Slot.unset).toArray = ls at hl ⊢
  have hl : lv_has ls 4 [(0, .ref (ad 0)), (1, .ref (ad (100 + p1))), (2, .int p2), (3, .int p3)] := hl
  dsimp only [wp_X2_sendPiece] at hw
  obtain ⟨hp1, hw⟩ := hw
  refine lv_aload_n hx hb dX2_sendPiece_0 rfl (lv_at hl 1 rfl) ?_
  refine lv_dup hx hb dX2_sendPiece_1 rfl ?_
  refine g_getN (own := RX2) (C := RX1) (T := TX1) (N := 7) (ci := 1) hx hb hq hin_X1 hown hK hG (k := 100 + p1) (gok_N hp1) (gc_N hp1) rfl 3 (by decide) (hE.2.1 ("WireBench", 160, "WireBench$Net", "frameCount", "I", "WireBench") (by decide +kernel)) rfl (v := .int (g.1 23 p1)) rfl dX2_sendPiece_2 ?_
  refine lv_iconst (v := 1) hx hb dX2_sendPiece_5 (by decide) ?_
  refine lv_iadd hx hb dX2_sendPiece_6 ?_
  refine lv_topi (fun x_1 ex_1 => ?_)
  have hw := hw x_1 ex_1
  refine g_putN (own := RX2) (C := RX1) (T := TX1) (N := 7) (ci := 1) hx hb hq hin_X1 tyX1 tyX1_ok nmX1 hown hK hG (k := 100 + p1) (gok_N hp1) (gc_N hp1) rfl 3 (by decide) (hE.2.1 ("WireBench", 160, "WireBench$Net", "frameCount", "I", "WireBench") (by decide +kernel)) rfl rfl (ty := .int) (v := .int x_1) (by decide +kernel) rfl rfl (Nat.le_of_ble_eq_true rfl) (gi g 23 p1 x_1) (gs_N23 hp1) (gho_N ⟨by decide, by decide⟩) dX2_sendPiece_7 (fun H locs hG => ?_)
  obtain ⟨g_2, eg_2⟩ : ∃ z, z = gi g 23 p1 x_1 := ⟨_, rfl⟩
  rw [← eg_2] at hG
  have hw := hw g_2 eg_2
  refine lv_aload_n hx hb dX2_sendPiece_10 rfl (lv_at hl 1 rfl) ?_
  refine g_getN (own := RX2) (C := RX1) (T := TX1) (N := 7) (ci := 1) hx hb hq hin_X1 hown hK hG (k := 100 + p1) (gok_N hp1) (gc_N hp1) rfl 2 (by decide) (hE.2.1 ("WireBench", 76, "WireBench$Net", "up", "Z", "WireBench") (by decide +kernel)) rfl (v := .int (g_2.1 22 p1)) rfl dX2_sendPiece_11 ?_
  refine lv_if_ne (tgt := 18) hx hb dX2_sendPiece_14 (by decide) (fun c_3 => ?_) (fun c_3 => ?_)
  · have hw := hw.1 c_3
    refine lv_aload_n hx hb dX2_sendPiece_18 rfl (lv_at hl 0 rfl) ?_
    refine g_get (own := RX2) (C := RX2) (T := TX2) (N := 11) (ci := 2) hx hb hq hin_X2 hown hK hG (k := 0) (gok_lo (by decide)) (gc_W) rfl 7 (by decide) (hq _ q_125) rfl (v := .ref (ad 1513)) rfl dX2_sendPiece_19 ?_
    refine lv_iload_n hx hb dX2_sendPiece_22 rfl (lv_at hl 2 rfl) ?_
    refine g_putN (own := RX2) (C := RX0) (T := TX0) (N := 9) (ci := 0) hx hb hq hin_X0 tyX0 tyX0_ok nmX0 hown hK hG (k := 1000 + 513) (gok_A (by decide)) (gc_A) rfl 5 (by decide) (hE.2.1 ("WireBench", 146, "WireBench$Arrival", "from", "I", "WireBench") (by decide +kernel)) rfl rfl (ty := .int) (v := .int p2) (by decide +kernel) rfl rfl (Nat.le_of_ble_eq_true rfl) (gi g_2 35 513 p2) (gs_A35) (gho_A ⟨by decide, by decide⟩) dX2_sendPiece_23 (fun H locs hG => ?_)
    obtain ⟨g_4, eg_4⟩ : ∃ z, z = gi g_2 35 513 p2 := ⟨_, rfl⟩
    rw [← eg_4] at hG
    have hw := hw g_4 eg_4
    refine lv_aload_n hx hb dX2_sendPiece_26 rfl (lv_at hl 0 rfl) ?_
    refine g_get (own := RX2) (C := RX2) (T := TX2) (N := 11) (ci := 2) hx hb hq hin_X2 hown hK hG (k := 0) (gok_lo (by decide)) (gc_W) rfl 7 (by decide) (hq _ q_125) rfl (v := .ref (ad 1513)) rfl dX2_sendPiece_27 ?_
    refine lv_iload_n hx hb dX2_sendPiece_30 rfl (lv_at hl 3 rfl) ?_
    refine g_putN (own := RX2) (C := RX0) (T := TX0) (N := 9) (ci := 0) hx hb hq hin_X0 tyX0 tyX0_ok nmX0 hown hK hG (k := 1000 + 513) (gok_A (by decide)) (gc_A) rfl 7 (by decide) (hE.2.1 ("WireBench", 149, "WireBench$Arrival", "size", "I", "WireBench") (by decide +kernel)) rfl rfl (ty := .int) (v := .int p3) (by decide +kernel) rfl rfl (Nat.le_of_ble_eq_true rfl) (gi g_4 37 513 p3) (gs_A37) (gho_A ⟨by decide, by decide⟩) dX2_sendPiece_31 (fun H locs hG => ?_)
    obtain ⟨g_5, eg_5⟩ : ∃ z, z = gi g_4 37 513 p3 := ⟨_, rfl⟩
    rw [← eg_5] at hG
    have hw := hw g_5 eg_5
    refine lv_aload_n hx hb dX2_sendPiece_34 rfl (lv_at hl 0 rfl) ?_
    refine g_get (own := RX2) (C := RX2) (T := TX2) (N := 11) (ci := 2) hx hb hq hin_X2 hown hK hG (k := 0) (gok_lo (by decide)) (gc_W) rfl 7 (by decide) (hq _ q_125) rfl (v := .ref (ad 1513)) rfl dX2_sendPiece_35 ?_
    refine lv_aload_n hx hb dX2_sendPiece_38 rfl (lv_at hl 0 rfl) ?_
    refine g_get (own := RX2) (C := RX2) (T := TX2) (N := 11) (ci := 2) hx hb hq hin_X2 hown hK hG (k := 0) (gok_lo (by decide)) (gc_W) rfl 9 (by decide) (hq _ q_127) rfl (v := .int (g_5.1 0 4)) rfl dX2_sendPiece_39 ?_
    refine lv_iload_n hx hb dX2_sendPiece_42 rfl (lv_at hl 2 rfl) ?_
    refine lv_iadd hx hb dX2_sendPiece_43 ?_
    refine g_calli (va_runS (As := [.int ((g_5.1 0 4) + p2)]) (rest := [.ref (ad (1000 + 513))]) ⟨hx, hb, hml, hown, hts⟩ (m_X2_ringPlace hl9 D K sa ad _ _ ((g_5.1 0 4) + p2) g_5 hw) (cwS 1 hts (gGood gCons (gSt q_295 q_296 q_20 q_297)) rfl rfl rfl (by decide +kernel) ⟨Nat.le_of_ble_eq_true rfl, Nat.le_of_ble_eq_true rfl⟩) ⟨gPc_blind, gPc_at hE hG hA⟩ rfl rfl hl.1 rfl (lv_room (Nat.le_of_ble_eq_true rfl)) dX2_sendPiece_44 ⟨Nat.le_of_ble_eq_true rfl, Nat.le_of_ble_eq_true rfl⟩) hG hA (fun r_7 g_6 H locs hw hG => ?_)
    try dsimp only at hw
    refine g_putN (own := RX2) (C := RX0) (T := TX0) (N := 9) (ci := 0) hx hb hq hin_X0 tyX0 tyX0_ok nmX0 hown hK hG (k := 1000 + 513) (gok_A (by decide)) (gc_A) rfl 8 (by decide) (hE.2.1 ("WireBench", 157, "WireBench$Arrival", "start", "I", "WireBench") (by decide +kernel)) rfl rfl (ty := .int) (v := .int r_7) (by decide +kernel) rfl rfl (Nat.le_of_ble_eq_true rfl) (gi g_6 38 513 r_7) (gs_A38) (gho_A ⟨by decide, by decide⟩) dX2_sendPiece_47 (fun H locs hG => ?_)
    obtain ⟨g_8, eg_8⟩ : ∃ z, z = gi g_6 38 513 r_7 := ⟨_, rfl⟩
    rw [← eg_8] at hG
    have hw := hw g_8 eg_8
    refine lv_aload_n hx hb dX2_sendPiece_50 rfl (lv_at hl 0 rfl) ?_
    refine lv_aload_n hx hb dX2_sendPiece_51 rfl (lv_at hl 1 rfl) ?_
    refine g_calli (va_runVN (C := RX1) (As := []) (rest := [.ref (ad 0)]) ⟨hx, hb, hml, hown, hts⟩ (m_X1_takeFate hl9 D K sa ad _ _ p1 g_8 hw) ⟨va_cnB 0 hts (gGood gCons (gCode q_322)) rfl rfl rfl (hE.2.2.1 ("WireBench", 184, yX1_takeFate, "WireBench") (by decide +kernel)) (hq _ q_22) (by decide +kernel) ⟨Nat.le_of_ble_eq_true rfl, Nat.le_of_ble_eq_true rfl⟩, hq _ q_321, hq _ q_7⟩ ⟨gPc_blind, g_recv hK hG (gok_N hp1) (gc_N hp1) rfl, gPc_at hE hG hA⟩ rfl rfl hl.1 rfl (lv_room (Nat.le_of_ble_eq_true rfl)) dX2_sendPiece_52 ⟨Nat.le_of_ble_eq_true rfl, Nat.le_of_ble_eq_true rfl⟩) hG hA (fun r_10 g_9 H locs hw hG => ?_)
    try dsimp only at hw
    refine lv_aload_n hx hb dX2_sendPiece_55 rfl (lv_at hl 1 rfl) ?_
    refine g_getN (own := RX2) (C := RX1) (T := TX1) (N := 7) (ci := 1) hx hb hq hin_X1 hown hK hG (k := 100 + p1) (gok_N hp1) (gc_N hp1) rfl 1 (by decide) (hE.2.1 ("WireBench", 187, "WireBench$Net", "delay", "I", "WireBench") (by decide +kernel)) rfl (v := .int (g_9.1 21 p1)) rfl dX2_sendPiece_56 ?_
    refine g_callv (va_runV (As := [.int r_10, .int (g_9.1 21 p1)]) (rest := []) ⟨hx, hb, hml, hown, hts⟩ (m_X2_meetFate hl9 D K sa ad _ _ r_10 (g_9.1 21 p1) g_9 hw) (cwV 2 hts (gGood gCons (gV q_323 q_325 q_8 q_20 q_326)) rfl rfl rfl (by decide +kernel) ⟨Nat.le_of_ble_eq_true rfl, Nat.le_of_ble_eq_true rfl⟩) ⟨gPc_blind, g_recv hK hG (gok_lo (by decide)) (gc_W) rfl, gPc_at hE hG hA⟩ rfl rfl hl.1 rfl (lv_room (Nat.le_of_ble_eq_true rfl)) dX2_sendPiece_59 ⟨Nat.le_of_ble_eq_true rfl, Nat.le_of_ble_eq_true rfl⟩) hG hA (fun g_11 H locs hw hG => ?_)
    try dsimp only at hw
    exact g_vret hx hb hr hlocks hw hG (by decide) (by decide) dX2_sendPiece_62
  · have hw := hw.2 c_3
    exact g_vret hx hb hr hlocks hw hG (by decide) (by decide) dX2_sendPiece_17

def wpl_X2_sendPayload_40 (post : Int32 → gS → Prop) : Nat → Nat → Int32 → Int32 → Int32 → Int32 → gS → Prop
  | 0 => fun _ _ _ _ _ _ => False
  | n + 1 => fun x1 x2 x3 x4 x5 g => x1 < 24 ∧ (((x4 ≤ x5) → (post x4 g)) ∧ ((¬ x4 ≤ x5) → (∀ x_8 : Int32, x_8 = x5 * x3 → (wp_X2_sendPiece (fun g_9 => (∀ x_10 : Int32, x_10 = x5 + 1 → (wpl_X2_sendPayload_40 post n x1 x2 x3 x4 x_10 g_9))) x1 x_8 (if x2 - x_8 < x3 then x2 - x_8 else x3) g))))
set_option maxHeartbeats 4000000 in
set_option maxRecDepth 100000 in
theorem L_X2_sendPayload_40 {p : Program} {l : Launch} {e : Env} {s : State} {m : MethodId} {args : Array Value} {below : List Frame} {meth : Method} {c : Code} {D : va_G} {K : Nat → ClassId} {sa ad : Nat → Nat} {A : Nat → Prop} (post : Int32 → gS → Prop) (hl9 : l.stackTraces = false) (hx : p.tables.exec = Jvm.exec) (hb : c.code = cX2_sendPayload) (hr : meth.sig.returnType = (some .int)) (hml : c.maxLocals = 7) (hown : s.vm.findClass RX2 = some m.cls) (hts : ∀ w ∈ wsX2_sendPayload, w.before args s = true) (hlocks : meth.locks = false) (hA : ∀ q, s.heap.size ≤ q → A q) (hE : gE D K sa A s s.heap) : ∀ (n : Nat) (x1 : Nat) (x2 : Int32) (x3 : Int32) (x4 : Int32) (x5 : Int32) (g : gS), wpl_X2_sendPayload_40 post n x1 x2 x3 x4 x5 g → ∀ (H : Heap) (locs : List Loc) (ls : Array Slot), gX D K ad A s.heap g H locs → lv_has ls 7 [(0, .ref (ad 0)), (1, .ref (ad (100 + x1))), (2, .int x2), (3, .int x3), (4, .int x4), (5, .int x5)] → W p l e ({ frames := 4, cells := 0, slots := 0, locals := 89 } : Room) s m args below meth c H locs 0 0 (MQ below (va_Qi post (gB D K ad A) A) args s 0 0 A) (F0 m 40 ls []) := by
  have hK := hE.1
  have hq : ∀ w ∈ gW, w.before args s = true := fun w h => hts w (List.mem_cons_of_mem _ h)
  intro n
  induction n with
  | zero =>
    intro x1 x2 x3 x4 x5 g hw
    exact hw.elim
  | succ n ih =>
    intro x1 x2 x3 x4 x5 g hw H locs ls hG hl
    dsimp only [wpl_X2_sendPayload_40] at hw
    obtain ⟨hx1, hw⟩ := hw
    refine lv_iload hx hb dX2_sendPayload_40 (lv_at hl 5 rfl) ?_
    refine lv_iload hx hb dX2_sendPayload_42 (lv_at hl 4 rfl) ?_
    refine lv_icmp_ge (tgt := 74) hx hb dX2_sendPayload_44 (by decide) (fun c_7 => ?_) (fun c_7 => ?_)
    · have hw := hw.1 c_7
      refine lv_iload hx hb dX2_sendPayload_74 (lv_at hl 4 rfl) ?_
      exact g_iret hx hb hr hlocks hw hG (by decide) (by decide) dX2_sendPayload_76
    · have hw := hw.2 c_7
      refine lv_iload hx hb dX2_sendPayload_47 (lv_at hl 5 rfl) ?_
      refine lv_iload_n hx hb dX2_sendPayload_49 rfl (lv_at hl 3 rfl) ?_
      refine lv_imul hx hb dX2_sendPayload_50 ?_
      refine lv_topi (fun x_8 ex_8 => ?_)
      have hw := hw x_8 ex_8
      refine lv_istore (lv' := [(6, .int x_8), (0, .ref (ad 0)), (1, .ref (ad (100 + x1))), (2, .int x2), (3, .int x3), (4, .int x4), (5, .int x5)]) hx hb dX2_sendPayload_51 hl (by decide) rfl (fun ls hl => ?_)
      refine lv_aload_n hx hb dX2_sendPayload_53 rfl (lv_at hl 1 rfl) ?_
      refine lv_aload_n hx hb dX2_sendPayload_54 rfl (lv_at hl 2 rfl) ?_
      refine lv_iload hx hb dX2_sendPayload_55 (lv_at hl 0 rfl) ?_
      refine lv_iload_n hx hb dX2_sendPayload_57 rfl (lv_at hl 4 rfl) ?_
      refine lv_iload_n hx hb dX2_sendPayload_58 rfl (lv_at hl 3 rfl) ?_
      refine lv_iload hx hb dX2_sendPayload_59 (lv_at hl 0 rfl) ?_
      refine lv_isub hx hb dX2_sendPayload_61 ?_
      refine va_mmin hx hb (hml.trans hl.1.symm) hown (hq _ q_342) (hq _ q_343) (hq _ q_29) (hq _ q_344) (Nat.le_of_ble_eq_true rfl) (Nat.le_of_ble_eq_true rfl) (Nat.le_of_ble_eq_true rfl) (Nat.le_of_ble_eq_true rfl) dX2_sendPayload_62 ?_
      refine g_callv (va_runV (As := [.ref (ad (100 + x1)), .int x_8, .int (if x2 - x_8 < x3 then x2 - x_8 else x3)]) (rest := []) ⟨hx, hb, hml, hown, hts⟩ (m_X2_sendPiece hl9 D K sa ad _ _ x1 x_8 (if x2 - x_8 < x3 then x2 - x_8 else x3) g hw) (cwV 3 hts (gGood gCons (gV q_315 q_317 q_6 q_20 q_318)) rfl rfl rfl (by decide +kernel) ⟨Nat.le_of_ble_eq_true rfl, Nat.le_of_ble_eq_true rfl⟩) ⟨gPc_blind, g_recv hK hG (gok_lo (by decide)) (gc_W) rfl, gPc_at hE hG hA⟩ rfl rfl hl.1 rfl (lv_room (Nat.le_of_ble_eq_true rfl)) dX2_sendPayload_65 ⟨Nat.le_of_ble_eq_true rfl, Nat.le_of_ble_eq_true rfl⟩) hG hA (fun g_9 H locs hw hG => ?_)
      try dsimp only at hw
      obtain ⟨x_10, ex_10⟩ : ∃ y : Int32, y = x5 + 1 := ⟨_, rfl⟩
      have hw := hw x_10 ex_10
      refine lv_iinc (v := x_10) (lv' := [(5, .int x_10), (6, .int x_8), (0, .ref (ad 0)), (1, .ref (ad (100 + x1))), (2, .int x2), (3, .int x3), (4, .int x4)]) hx hb dX2_sendPayload_68 hl (k := 6) rfl (by rw [ex_10]; rfl) (by decide) rfl (fun ls hl => ?_)
      refine lv_goto (tgt := 40) hx hb dX2_sendPayload_71 (by decide) ?_
      exact ih x1 x2 x3 x4 x_10 g_9 hw _ _ _ hG (lv_sub hl [2, 3, 4, 5, 6, 0] rfl)
def wp_X2_sendPayload (post : Int32 → gS → Prop) (p1 : Nat) (g : gS) : Prop := p1 < 24 ∧ (∀ x_1 : Int32, x_1 = g.1 0 5 → ((((g.1 20 p1) < (x_1 + 20)) → (wp_X1_pieceSize (fun r_4 g_3 => (wp_X2_countPieces (fun r_6 g_5 => (∃ n, wpl_X2_sendPayload_40 post n p1 x_1 r_4 r_6 0 g_5)) x_1 r_4 g_3)) p1 g)) ∧ ((¬ (g.1 20 p1) < (x_1 + 20)) → (wp_X2_sendPiece (fun g_12 => (post 0 g_12)) p1 0 x_1 g))))
set_option maxHeartbeats 4000000 in
set_option maxRecDepth 100000 in
theorem m_X2_sendPayload {l : Launch} (hl9 : l.stackTraces = false) (D : va_G) (K : Nat → ClassId) (sa ad : Nat → Nat) (sz : Nat) (post : Int32 → gS → Prop) (p1 : Nat) (g : gS) (hw : wp_X2_sendPayload post p1 g) : Met l yX2_sendPayload wsX2_sendPayload ({ frames := 4, cells := 0, slots := 0, locals := 89 } : Room) (gPc D K sa ad sz g [.ref (ad 0), .ref (ad (100 + p1))]) (va_Qi post (gB D K ad (va_A (gw K ad g) sz)) (va_A (gw K ad g) sz)) 0 0 (va_A (gw K ad g) sz) := by
  refine Met.ofW (cc := cX2_sendPayload) (maxL := 7) (ret := (some .int)) (by decide) rfl ?_
  intro p e s m args below meth c s₁ B hml hv
  obtain ⟨rfl, hsz, hP, hE, hD0⟩ := hv
  have hx := B.exec
  have hb := B.bytes
  have hr := B.returns
  have hts := atoms_spec (ws := wsX2_sendPayload) B.pre
  have hq : ∀ w ∈ gW, w.before _ s = true := fun w h => hts w (List.mem_cons_of_mem _ h)
  have hown : s.vm.findClass RX2 = some m.cls := findClass_of_methodNamed B.named
  have hlocks := B.notSynchronized
  subst hsz
  have hD := hD0.self (sz := s.heap.size)
  generalize hAe : va_A (gw K ad g) s.heap.size = A at hD hE ⊢
  have hA : ∀ q : Nat, s.heap.size ≤ q → A q := fun q h => by rw [← hAe]; exact Or.inr h
  have hK := hE.1
  have hG : gX D K ad A s.heap g s.heap [] := ⟨hP, hD, va_S.rf⟩
  have hl := lv_entry ([.ref (ad 0), .ref (ad (100 + p1))]) (n := 7) (Nat.le_of_ble_eq_true rfl)
  rw [lg_entry_eq]
  generalize (lg_sl ([.ref (ad 0), .ref (ad (100 + p1))]) ++ List.replicate (7 - (lg_sl ([.ref (ad 0), .ref (ad (100 + p1))])).length) Slot.unset).toArray = ls at hl ⊢
  have hl : lv_has ls 7 [(0, .ref (ad 0)), (1, .ref (ad (100 + p1)))] := hl
  dsimp only [wp_X2_sendPayload] at hw
  obtain ⟨hp1, hw⟩ := hw
  refine lv_aload_n hx hb dX2_sendPayload_0 rfl (lv_at hl 0 rfl) ?_
  refine g_get (own := RX2) (C := RX2) (T := TX2) (N := 11) (ci := 2) hx hb hq hin_X2 hown hK hG (k := 0) (gok_lo (by decide)) (gc_W) rfl 10 (by decide) (hq _ q_128) rfl (v := .int (g.1 0 5)) rfl dX2_sendPayload_1 ?_
  refine lv_topi (fun x_1 ex_1 => ?_)
  have hw := hw x_1 ex_1
  refine lv_istore_n (lv' := [(2, .int x_1), (0, .ref (ad 0)), (1, .ref (ad (100 + p1)))]) hx hb dX2_sendPayload_4 rfl hl (by decide) rfl (fun ls hl => ?_)
  refine lv_iload_n hx hb dX2_sendPayload_5 rfl (lv_at hl 0 rfl) ?_
  refine lv_bipush (v := 20) hx hb dX2_sendPayload_6 (by decide) ?_
  refine lv_iadd hx hb dX2_sendPayload_8 ?_
  refine lv_aload_n hx hb dX2_sendPayload_9 rfl (lv_at hl 2 rfl) ?_
  refine g_getN (own := RX2) (C := RX1) (T := TX1) (N := 7) (ci := 1) hx hb hq hin_X1 hown hK hG (k := 100 + p1) (gok_N hp1) (gc_N hp1) rfl 0 (by decide) (hE.2.1 ("WireBench", 165, "WireBench$Net", "largest", "I", "WireBench") (by decide +kernel)) rfl (v := .int (g.1 20 p1)) rfl dX2_sendPayload_10 ?_
  refine lv_icmp_gt (tgt := 25) hx hb dX2_sendPayload_13 (by decide) (fun c_2 => ?_) (fun c_2 => ?_)
  · have hw := hw.1 c_2
    refine lv_aload_n hx hb dX2_sendPayload_25 rfl (lv_at hl 2 rfl) ?_
    refine g_calli (va_runVN (C := RX1) (As := []) (rest := []) ⟨hx, hb, hml, hown, hts⟩ (m_X1_pieceSize hl9 D K sa ad _ _ p1 g hw) ⟨va_cnB 0 hts (gGood gCons (gCode q_338)) rfl rfl rfl (hE.2.2.1 ("WireBench", 172, yX1_pieceSize, "WireBench") (by decide +kernel)) (hq _ q_22) (by decide +kernel) ⟨Nat.le_of_ble_eq_true rfl, Nat.le_of_ble_eq_true rfl⟩, hq _ q_337, hq _ q_11⟩ ⟨gPc_blind, g_recv hK hG (gok_N hp1) (gc_N hp1) rfl, gPc_at hE hG hA⟩ rfl rfl hl.1 rfl (lv_room (Nat.le_of_ble_eq_true rfl)) dX2_sendPayload_26 ⟨Nat.le_of_ble_eq_true rfl, Nat.le_of_ble_eq_true rfl⟩) hG hA (fun r_4 g_3 H locs hw hG => ?_)
    try dsimp only at hw
    refine lv_istore_n (lv' := [(3, .int r_4), (2, .int x_1), (0, .ref (ad 0)), (1, .ref (ad (100 + p1)))]) hx hb dX2_sendPayload_29 rfl hl (by decide) rfl (fun ls hl => ?_)
    refine lv_iload_n hx hb dX2_sendPayload_30 rfl (lv_at hl 1 rfl) ?_
    refine lv_iload_n hx hb dX2_sendPayload_31 rfl (lv_at hl 0 rfl) ?_
    refine g_calli (va_runS (As := [.int x_1, .int r_4]) (rest := []) ⟨hx, hb, hml, hown, hts⟩ (m_X2_countPieces hl9 D K sa ad _ _ x_1 r_4 g_3 hw) (cwS 2 hts (gGood gCons (gSt q_339 q_340 q_20 q_341)) rfl rfl rfl (by decide +kernel) ⟨Nat.le_of_ble_eq_true rfl, Nat.le_of_ble_eq_true rfl⟩) ⟨gPc_blind, gPc_at hE hG hA⟩ rfl rfl hl.1 rfl (lv_room (Nat.le_of_ble_eq_true rfl)) dX2_sendPayload_32 ⟨Nat.le_of_ble_eq_true rfl, Nat.le_of_ble_eq_true rfl⟩) hG hA (fun r_6 g_5 H locs hw hG => ?_)
    try dsimp only at hw
    refine lv_istore (lv' := [(4, .int r_6), (3, .int r_4), (2, .int x_1), (0, .ref (ad 0)), (1, .ref (ad (100 + p1)))]) hx hb dX2_sendPayload_35 hl (by decide) rfl (fun ls hl => ?_)
    refine lv_iconst (v := 0) hx hb dX2_sendPayload_37 (by decide) ?_
    refine lv_istore (lv' := [(5, .int 0), (4, .int r_6), (3, .int r_4), (2, .int x_1), (0, .ref (ad 0)), (1, .ref (ad (100 + p1)))]) hx hb dX2_sendPayload_38 hl (by decide) rfl (fun ls hl => ?_)
    obtain ⟨n_11, hw⟩ := hw
    exact L_X2_sendPayload_40 post hl9 hx hb hr hml hown hts hlocks hA hE n_11 p1 x_1 r_4 r_6 0 g_5 hw _ _ _ hG (lv_sub hl [4, 5, 3, 2, 1, 0] rfl)
  · have hw := hw.2 c_2
    refine lv_aload_n hx hb dX2_sendPayload_16 rfl (lv_at hl 1 rfl) ?_
    refine lv_aload_n hx hb dX2_sendPayload_17 rfl (lv_at hl 2 rfl) ?_
    refine lv_iconst (v := 0) hx hb dX2_sendPayload_18 (by decide) ?_
    refine lv_iload_n hx hb dX2_sendPayload_19 rfl (lv_at hl 0 rfl) ?_
    refine g_callv (va_runV (As := [.ref (ad (100 + p1)), .int 0, .int x_1]) (rest := []) ⟨hx, hb, hml, hown, hts⟩ (m_X2_sendPiece hl9 D K sa ad _ _ p1 0 x_1 g hw) (cwV 3 hts (gGood gCons (gV q_315 q_317 q_6 q_20 q_318)) rfl rfl rfl (by decide +kernel) ⟨Nat.le_of_ble_eq_true rfl, Nat.le_of_ble_eq_true rfl⟩) ⟨gPc_blind, g_recv hK hG (gok_lo (by decide)) (gc_W) rfl, gPc_at hE hG hA⟩ rfl rfl hl.1 rfl (lv_room (Nat.le_of_ble_eq_true rfl)) dX2_sendPayload_20 ⟨Nat.le_of_ble_eq_true rfl, Nat.le_of_ble_eq_true rfl⟩) hG hA (fun g_12 H locs hw hG => ?_)
    try dsimp only at hw
    refine lv_iconst (v := 0) hx hb dX2_sendPayload_23 (by decide) ?_
    exact g_iret hx hb hr hlocks hw hG (by decide) (by decide) dX2_sendPayload_24
end
section
def wp_X2_net (post : Int32 → gS → Prop) (px : String × gS → Prop) (p1 : Int32) (p2 : Int32) (g : gS) : Prop := ((p1 < 100) → (px ("java/lang/IllegalArgumentException", g))) ∧ ((¬ p1 < 100) → (((p1 ≤ 1500) → (((p2 < 1) → (px ("java/lang/IllegalArgumentException", g))) ∧ ((¬ p2 < 1) → (((p2 ≤ 50) → ((((g.1 0 0) < 24) → (∀ i_6 : Int32, i_6 = g.1 0 0 → (vp_in i_6 24 ∧ (wp_X1_open (fun g_9 => (∀ x_10 : Int32, x_10 = (g_9.1 0 0) + 1 → (∀ g_11 : gS, g_11 = gi g_9 0 0 x_10 → (post ((g_11.1 0 0) - 1) g_11)))) i_6.toNatClampNeg p1 p2 g)))) ∧ ((¬ (g.1 0 0) < 24) → (px ("java/lang/IllegalStateException", g))))) ∧ ((¬ p2 ≤ 50) → (px ("java/lang/IllegalArgumentException", g))))))) ∧ ((¬ p1 ≤ 1500) → (px ("java/lang/IllegalArgumentException", g)))))
set_option maxHeartbeats 4000000 in
set_option maxRecDepth 100000 in
theorem m_X2_net {l : Launch} (hl9 : l.stackTraces = false) (D : va_G) (K : Nat → ClassId) (sa ad : Nat → Nat) (sz : Nat) (post : Int32 → gS → Prop) (px : String × gS → Prop) (p1 : Int32) (p2 : Int32) (g : gS) (hw : wp_X2_net post px p1 p2 g) : vx_Met l yX2_net wsX2_net ({ frames := 6, cells := 1, slots := 6, locals := 91 } : Room) (gPc D K sa ad sz g [.ref (ad 0), .int p1, .int p2]) (va_Qi post (gB D K ad (va_A (gw K ad g) sz)) (va_A (gw K ad g) sz)) (vx_X px (gBX D K ad (va_A (gw K ad g) sz)) (va_A (gw K ad g) sz)) 1 6 (va_A (gw K ad g) sz) := by
  refine vx_ofW (cc := cX2_net) (maxL := 3) (ret := (some .int)) (by decide) rfl ?_
  intro p e s m args below meth c s₁ B hml hN hv
  obtain ⟨rfl, hsz, hP, hE, hD0⟩ := hv
  have hx := B.exec
  have hb := B.bytes
  have hr := B.returns
  have hts := atoms_spec (ws := wsX2_net) B.pre
  have hq : ∀ w ∈ gW, w.before _ s = true := fun w h => hts w (List.mem_cons_of_mem _ h)
  have hown : s.vm.findClass RX2 = some m.cls := findClass_of_methodNamed B.named
  have hlocks := B.notSynchronized
  subst hsz
  have hD := hD0.self (sz := s.heap.size)
  generalize hAe : va_A (gw K ad g) s.heap.size = A at hD hE ⊢
  have hA : ∀ q : Nat, s.heap.size ≤ q → A q := fun q h => by rw [← hAe]; exact Or.inr h
  have hK := hE.1
  have hG : gX D K ad A s.heap g s.heap [] := ⟨hP, hD, va_S.rf⟩
  have hl := lv_entry ([.ref (ad 0), .int p1, .int p2]) (n := 3) (Nat.le_of_ble_eq_true rfl)
  rw [lg_entry_eq]
  generalize (lg_sl ([.ref (ad 0), .int p1, .int p2]) ++ List.replicate (3 - (lg_sl ([.ref (ad 0), .int p1, .int p2])).length) Slot.unset).toArray = ls at hl ⊢
  have hl : lv_has ls 3 [(0, .ref (ad 0)), (1, .int p1), (2, .int p2)] := hl
  dsimp only [wp_X2_net] at hw
  refine lv_iload_n hx hb dX2_net_0 rfl (lv_at hl 1 rfl) ?_
  refine lv_bipush (v := 100) hx hb dX2_net_1 (by decide) ?_
  refine lv_icmp_lt (tgt := 13) hx hb dX2_net_3 (by decide) (fun c_1 => ?_) (fun c_1 => ?_)
  · have hw := hw.1 c_1
    exact g_throwS (own := RX2) (cls := "java/lang/IllegalArgumentException") (text := "largest is not 100 .. 1500") (names := ["java/lang/RuntimeException", "java/lang/Exception"]) hx hb hl9 hown (by decide +kernel) (by decide +kernel) (hq _ q_169) (hq _ q_27) hE (by decide +kernel) (hat_IAE_58 hq hE) hgd_IAE_58 (hl.1.trans hml.symm) hN hlocks hw hG dX2_net_13 dX2_net_16 dX2_net_17 dX2_net_19 dX2_net_22 (Nat.le_of_ble_eq_true rfl) (Nat.le_of_ble_eq_true rfl) (Nat.le_of_ble_eq_true rfl) (Nat.le_of_ble_eq_true rfl) (by decide) (by decide)
  · have hw := hw.2 c_1
    refine lv_iload_n hx hb dX2_net_6 rfl (lv_at hl 1 rfl) ?_
    refine lv_sipush (v := 1500) hx hb dX2_net_7 (by decide) ?_
    refine lv_icmp_le (tgt := 23) hx hb dX2_net_10 (by decide) (fun c_2 => ?_) (fun c_2 => ?_)
    · have hw := hw.1 c_2
      refine lv_iload_n hx hb dX2_net_23 rfl (lv_at hl 2 rfl) ?_
      refine lv_iconst (v := 1) hx hb dX2_net_24 (by decide) ?_
      refine lv_icmp_lt (tgt := 34) hx hb dX2_net_25 (by decide) (fun c_3 => ?_) (fun c_3 => ?_)
      · have hw := hw.1 c_3
        exact g_throwS (own := RX2) (cls := "java/lang/IllegalArgumentException") (text := "delay is not 1 .. 50") (names := ["java/lang/RuntimeException", "java/lang/Exception"]) hx hb hl9 hown (by decide +kernel) (by decide +kernel) (hq _ q_169) (hq _ q_27) hE (by decide +kernel) (hat_IAE_58 hq hE) hgd_IAE_58 (hl.1.trans hml.symm) hN hlocks hw hG dX2_net_34 dX2_net_37 dX2_net_38 dX2_net_40 dX2_net_43 (Nat.le_of_ble_eq_true rfl) (Nat.le_of_ble_eq_true rfl) (Nat.le_of_ble_eq_true rfl) (Nat.le_of_ble_eq_true rfl) (by decide) (by decide)
      · have hw := hw.2 c_3
        refine lv_iload_n hx hb dX2_net_28 rfl (lv_at hl 2 rfl) ?_
        refine lv_bipush (v := 50) hx hb dX2_net_29 (by decide) ?_
        refine lv_icmp_le (tgt := 44) hx hb dX2_net_31 (by decide) (fun c_4 => ?_) (fun c_4 => ?_)
        · have hw := hw.1 c_4
          refine lv_aload_n hx hb dX2_net_44 rfl (lv_at hl 0 rfl) ?_
          refine g_get (own := RX2) (C := RX2) (T := TX2) (N := 11) (ci := 2) hx hb hq hin_X2 hown hK hG (k := 0) (gok_lo (by decide)) (gc_W) rfl 1 (by decide) (hq _ q_119) rfl (v := .int (g.1 0 0)) rfl dX2_net_45 ?_
          refine lv_bipush (v := 24) hx hb dX2_net_48 (by decide) ?_
          refine lv_icmp_lt (tgt := 63) hx hb dX2_net_50 (by decide) (fun c_5 => ?_) (fun c_5 => ?_)
          · have hw := hw.1 c_5
            refine lv_aload_n hx hb dX2_net_63 rfl (lv_at hl 0 rfl) ?_
            refine g_get (own := RX2) (C := RX2) (T := TX2) (N := 11) (ci := 2) hx hb hq hin_X2 hown hK hG (k := 0) (gok_lo (by decide)) (gc_W) rfl 0 (by decide) (hq _ q_118) rfl (v := .ref (ad 1)) rfl dX2_net_64 ?_
            refine lv_aload_n hx hb dX2_net_67 rfl (lv_at hl 0 rfl) ?_
            refine g_get (own := RX2) (C := RX2) (T := TX2) (N := 11) (ci := 2) hx hb hq hin_X2 hown hK hG (k := 0) (gok_lo (by decide)) (gc_W) rfl 1 (by decide) (hq _ q_119) rfl (v := .int (g.1 0 0)) rfl dX2_net_68 ?_
            refine lv_topi (fun i_6 ei_6 => ?_)
            have hw := hw i_6 ei_6
            obtain ⟨hi_7, hw⟩ := hw
            refine g_aldN hx hb hK hG hi_7 dX2_net_71 ?_
            have hk_8 : i_6.toNatClampNeg < 24 := vin_lt hi_7
            refine lv_iload_n hx hb dX2_net_72 rfl (lv_at hl 1 rfl) ?_
            refine lv_iload_n hx hb dX2_net_73 rfl (lv_at hl 2 rfl) ?_
            refine g_callv (va_runVN (C := RX1) (As := [.int p1, .int p2]) (rest := []) ⟨hx, hb, hml, hown, hts⟩ (m_X1_open hl9 D K sa ad _ _ i_6.toNatClampNeg p1 p2 g hw) ⟨va_cnB 2 hts (gGood gCons (gCode q_256)) rfl rfl rfl (hE.2.2.1 ("WireBench", 68, yX1_open, "WireBench") (by decide +kernel)) (hq _ q_22) (by decide +kernel) ⟨Nat.le_of_ble_eq_true rfl, Nat.le_of_ble_eq_true rfl⟩, hq _ q_255, hq _ q_1⟩ ⟨gPc_blind, g_recv hK hG (gok_N hk_8) (gc_N hk_8) rfl, gPc_at hE hG hA⟩ rfl rfl hl.1 rfl (lv_room (Nat.le_of_ble_eq_true rfl)) dX2_net_74 ⟨Nat.le_of_ble_eq_true rfl, Nat.le_of_ble_eq_true rfl⟩) hG hA (fun g_9 H locs hw hG => ?_)
            try dsimp only at hw
            refine lv_aload_n hx hb dX2_net_77 rfl (lv_at hl 0 rfl) ?_
            refine lv_dup hx hb dX2_net_78 rfl ?_
            refine g_get (own := RX2) (C := RX2) (T := TX2) (N := 11) (ci := 2) hx hb hq hin_X2 hown hK hG (k := 0) (gok_lo (by decide)) (gc_W) rfl 1 (by decide) (hq _ q_119) rfl (v := .int (g_9.1 0 0)) rfl dX2_net_79 ?_
            refine lv_iconst (v := 1) hx hb dX2_net_82 (by decide) ?_
            refine lv_iadd hx hb dX2_net_83 ?_
            refine lv_topi (fun x_10 ex_10 => ?_)
            have hw := hw x_10 ex_10
            refine g_put (own := RX2) (C := RX2) (T := TX2) (N := 11) (ci := 2) hx hb hq hin_X2 tyX2 tyX2_ok nmX2 hown hK hG (k := 0) (gok_lo (by decide)) (gc_W) rfl 1 (by decide) (hq _ q_119) rfl rfl (ty := .int) (v := .int x_10) (by decide +kernel) rfl rfl (Nat.le_of_ble_eq_true rfl) (gi g_9 0 0 x_10) (gs_W0) (gho_lo (by decide)) dX2_net_84 (fun H locs hG => ?_)
            obtain ⟨g_11, eg_11⟩ : ∃ z, z = gi g_9 0 0 x_10 := ⟨_, rfl⟩
            rw [← eg_11] at hG
            have hw := hw g_11 eg_11
            refine lv_aload_n hx hb dX2_net_87 rfl (lv_at hl 0 rfl) ?_
            refine g_get (own := RX2) (C := RX2) (T := TX2) (N := 11) (ci := 2) hx hb hq hin_X2 hown hK hG (k := 0) (gok_lo (by decide)) (gc_W) rfl 1 (by decide) (hq _ q_119) rfl (v := .int (g_11.1 0 0)) rfl dX2_net_88 ?_
            refine lv_iconst (v := 1) hx hb dX2_net_91 (by decide) ?_
            refine lv_isub hx hb dX2_net_92 ?_
            exact vx_ret (g_iret hx hb hr hlocks hw hG (by decide) (by decide) dX2_net_93)
          · have hw := hw.2 c_5
            exact g_throwS (own := RX2) (cls := "java/lang/IllegalStateException") (text := "there are 24 nets") (names := ["java/lang/RuntimeException", "java/lang/Exception"]) hx hb hl9 hown (by decide +kernel) (by decide +kernel) (hq _ q_237) (hq _ q_28) hE (by decide +kernel) (hat_ISE_67 hq hE) hgd_ISE_67 (hl.1.trans hml.symm) hN hlocks hw hG dX2_net_53 dX2_net_56 dX2_net_57 dX2_net_59 dX2_net_62 (Nat.le_of_ble_eq_true rfl) (Nat.le_of_ble_eq_true rfl) (Nat.le_of_ble_eq_true rfl) (Nat.le_of_ble_eq_true rfl) (by decide) (by decide)
        · have hw := hw.2 c_4
          exact g_throwS (own := RX2) (cls := "java/lang/IllegalArgumentException") (text := "delay is not 1 .. 50") (names := ["java/lang/RuntimeException", "java/lang/Exception"]) hx hb hl9 hown (by decide +kernel) (by decide +kernel) (hq _ q_169) (hq _ q_27) hE (by decide +kernel) (hat_IAE_58 hq hE) hgd_IAE_58 (hl.1.trans hml.symm) hN hlocks hw hG dX2_net_34 dX2_net_37 dX2_net_38 dX2_net_40 dX2_net_43 (Nat.le_of_ble_eq_true rfl) (Nat.le_of_ble_eq_true rfl) (Nat.le_of_ble_eq_true rfl) (Nat.le_of_ble_eq_true rfl) (by decide) (by decide)
    · have hw := hw.2 c_2
      exact g_throwS (own := RX2) (cls := "java/lang/IllegalArgumentException") (text := "largest is not 100 .. 1500") (names := ["java/lang/RuntimeException", "java/lang/Exception"]) hx hb hl9 hown (by decide +kernel) (by decide +kernel) (hq _ q_169) (hq _ q_27) hE (by decide +kernel) (hat_IAE_58 hq hE) hgd_IAE_58 (hl.1.trans hml.symm) hN hlocks hw hG dX2_net_13 dX2_net_16 dX2_net_17 dX2_net_19 dX2_net_22 (Nat.le_of_ble_eq_true rfl) (Nat.le_of_ble_eq_true rfl) (Nat.le_of_ble_eq_true rfl) (Nat.le_of_ble_eq_true rfl) (by decide) (by decide)

def wp_X2_link (post : Int32 → gS → Prop) (px : String × gS → Prop) (p1 : Int32) (p2 : Int32) (g : gS) : Prop := wp_X2_netNumbered (fun u_ => ∃ (k_2 : Nat) (g_1 : gS), u_ = (100 + k_2, g_1) ∧ (k_2 < 24 ∧ (narrow .boolean (.int p2) = .int p2 ∧ (fits .boolean (.int p2) = true ∧ (∀ g_6 : gS, g_6 = gi g_1 22 k_2 p2 → (((p2 = 0) → (wp_X2_loseArrivalsOf (fun r_9 g_8 => (post r_9 g_8)) p1 g_6)) ∧ ((¬ p2 = 0) → (post 0 g_6)))))))) px p1 g
set_option maxHeartbeats 4000000 in
set_option maxRecDepth 100000 in
theorem m_X2_link {l : Launch} (hl9 : l.stackTraces = false) (D : va_G) (K : Nat → ClassId) (sa ad : Nat → Nat) (sz : Nat) (post : Int32 → gS → Prop) (px : String × gS → Prop) (p1 : Int32) (p2 : Int32) (g : gS) (hw : wp_X2_link post px p1 p2 g) : vx_Met l yX2_link wsX2_link ({ frames := 7, cells := 1, slots := 6, locals := 112 } : Room) (gPc D K sa ad sz g [.ref (ad 0), .int p1, .int p2]) (va_Qi post (gB D K ad (va_A (gw K ad g) sz)) (va_A (gw K ad g) sz)) (vx_X px (gBX D K ad (va_A (gw K ad g) sz)) (va_A (gw K ad g) sz)) 1 6 (va_A (gw K ad g) sz) := by
  refine vx_ofW (cc := cX2_link) (maxL := 3) (ret := (some .int)) (by decide) rfl ?_
  intro p e s m args below meth c s₁ B hml hN hv
  obtain ⟨rfl, hsz, hP, hE, hD0⟩ := hv
  have hx := B.exec
  have hb := B.bytes
  have hr := B.returns
  have hts := atoms_spec (ws := wsX2_link) B.pre
  have hq : ∀ w ∈ gW, w.before _ s = true := fun w h => hts w (List.mem_cons_of_mem _ h)
  have hown : s.vm.findClass RX2 = some m.cls := findClass_of_methodNamed B.named
  have hlocks := B.notSynchronized
  subst hsz
  have hD := hD0.self (sz := s.heap.size)
  generalize hAe : va_A (gw K ad g) s.heap.size = A at hD hE ⊢
  have hA : ∀ q : Nat, s.heap.size ≤ q → A q := fun q h => by rw [← hAe]; exact Or.inr h
  have hK := hE.1
  have hG : gX D K ad A s.heap g s.heap [] := ⟨hP, hD, va_S.rf⟩
  have hl := lv_entry ([.ref (ad 0), .int p1, .int p2]) (n := 3) (Nat.le_of_ble_eq_true rfl)
  rw [lg_entry_eq]
  generalize (lg_sl ([.ref (ad 0), .int p1, .int p2]) ++ List.replicate (3 - (lg_sl ([.ref (ad 0), .int p1, .int p2])).length) Slot.unset).toArray = ls at hl ⊢
  have hl : lv_has ls 3 [(0, .ref (ad 0)), (1, .int p1), (2, .int p2)] := hl
  dsimp only [wp_X2_link] at hw
  refine lv_aload_n hx hb dX2_link_0 rfl (lv_at hl 0 rfl) ?_
  refine lv_iload_n hx hb dX2_link_1 rfl (lv_at hl 1 rfl) ?_
  refine g_xcallr (vx_runV (As := [.int p1]) (rest := []) ⟨hx, hb, hml, hown, hts⟩ (m_X2_netNumbered hl9 D K sa ad _ _ _ p1 g hw) (cwV 1 hts (gGood gCons (gV q_264 q_266 q_2 q_20 q_267)) rfl rfl rfl (by decide +kernel) ⟨Nat.le_of_ble_eq_true rfl, Nat.le_of_ble_eq_true rfl⟩) ⟨gPc_blind, g_recv hK hG (gok_lo (by decide)) (gc_W) rfl, gPc_at hE hG hA⟩ rfl rfl hl.1 rfl (lv_room (Nat.le_of_ble_eq_true rfl)) dX2_link_2 ⟨Nat.le_of_ble_eq_true rfl, Nat.le_of_ble_eq_true rfl⟩) hG hA (fun E_ ce_ q_ g_1 H locs hw hG h1_ h2_ h3_ => ?_) (fun k_ ga_ H locs hw hG => ?_)
  · exact g_out hN hlocks h1_ h2_ h3_ hw hG (by decide) (by decide)
  try dsimp only at hw
  obtain ⟨k_2, g_1, eu_, hk_3, hw⟩ := hw
  obtain ⟨e1_, e2_⟩ := Prod.mk.inj eu_
  subst e1_
  have e2_ := e2_.symm
  subst e2_
  refine lv_iload_n hx hb dX2_link_5 rfl (lv_at hl 2 rfl) ?_
  obtain ⟨h_4, hw⟩ := hw
  obtain ⟨h_5, hw⟩ := hw
  refine g_putN (own := RX2) (C := RX1) (T := TX1) (N := 7) (ci := 1) hx hb hq hin_X1 tyX1 tyX1_ok nmX1 hown hK hG (k := 100 + k_2) (gok_N hk_3) (gc_N hk_3) rfl 2 (by decide) (hE.2.1 ("WireBench", 76, "WireBench$Net", "up", "Z", "WireBench") (by decide +kernel)) rfl rfl (ty := .boolean) (v := .int p2) (by decide +kernel) h_4 h_5 (Nat.le_of_ble_eq_true rfl) (gi g_1 22 k_2 p2) (gs_N22 hk_3) (gho_N ⟨by decide, by decide⟩) dX2_link_6 (fun H locs hG => ?_)
  obtain ⟨g_6, eg_6⟩ : ∃ z, z = gi g_1 22 k_2 p2 := ⟨_, rfl⟩
  rw [← eg_6] at hG
  have hw := hw g_6 eg_6
  refine lv_iload_n hx hb dX2_link_9 rfl (lv_at hl 2 rfl) ?_
  refine lv_if_eq (tgt := 17) hx hb dX2_link_10 (by decide) (fun c_7 => ?_) (fun c_7 => ?_)
  · have hw := hw.1 c_7
    refine lv_aload_n hx hb dX2_link_17 rfl (lv_at hl 0 rfl) ?_
    refine lv_iload_n hx hb dX2_link_18 rfl (lv_at hl 1 rfl) ?_
    refine g_calli (va_runV (As := [.int p1]) (rest := []) ⟨hx, hb, hml, hown, hts⟩ (m_X2_loseArrivalsOf hl9 D K sa ad _ _ p1 g_6 hw) (cwV 1 hts (gGood gCons (gV q_269 q_271 q_3 q_20 q_272)) rfl rfl rfl (by decide +kernel) ⟨Nat.le_of_ble_eq_true rfl, Nat.le_of_ble_eq_true rfl⟩) ⟨gPc_blind, g_recv hK hG (gok_lo (by decide)) (gc_W) rfl, gPc_at hE hG hA⟩ rfl rfl hl.1 rfl (lv_room (Nat.le_of_ble_eq_true rfl)) dX2_link_19 ⟨Nat.le_of_ble_eq_true rfl, Nat.le_of_ble_eq_true rfl⟩) hG hA (fun r_9 g_8 H locs hw hG => ?_)
    try dsimp only at hw
    exact vx_ret (g_iret hx hb hr hlocks hw hG (by decide) (by decide) dX2_link_22)
  · have hw := hw.2 c_7
    refine lv_iconst (v := 0) hx hb dX2_link_13 (by decide) ?_
    refine lv_goto (tgt := 22) hx hb dX2_link_14 (by decide) ?_
    exact vx_ret (g_iret hx hb hr hlocks hw hG (by decide) (by decide) dX2_link_22)

def wpl_X2_fates_56 (post : Int32 → gS → Prop) (px : String × gS → Prop) : Nat → Int32 → Int64 → Int32 → Nat → Int32 → gS → Prop
  | 0 => fun _ _ _ _ _ _ => False
  | n + 1 => fun x1 x2 x4 x5 x6 g => x5 < 24 ∧ (((x4 ≤ x6) → (post (g.1 25 x5) g)) ∧ ((¬ x4 ≤ x6) → (wp_X1_addFate (fun g_8 => (∀ x_9 : Int32, x_9 = x6 + 1 → (wpl_X2_fates_56 post px n x1 x2 x4 x5 x_9 g_8))) x5 ((((x2.toUInt64 >>> ((2 * x6).toInt64.toUInt64 &&& Int64.toUInt64 63)).toInt64).toInt32) &&& 3) g)))
set_option maxHeartbeats 4000000 in
set_option maxRecDepth 100000 in
theorem L_X2_fates_56 {p : Program} {l : Launch} {e : Env} {s : State} {m : MethodId} {args : Array Value} {below : List Frame} {meth : Method} {c : Code} {D : va_G} {K : Nat → ClassId} {sa ad : Nat → Nat} {A : Nat → Prop} (post : Int32 → gS → Prop) (px : String × gS → Prop) (hl9 : l.stackTraces = false) (hx : p.tables.exec = Jvm.exec) (hb : c.code = cX2_fates) (hr : meth.sig.returnType = (some .int)) (hml : c.maxLocals = 7) (hown : s.vm.findClass RX2 = some m.cls) (hts : ∀ w ∈ wsX2_fates, w.before args s = true) (hlocks : meth.locks = false) (hA : ∀ q, s.heap.size ≤ q → A q) (hE : gE D K sa A s s.heap) (hN : ∀ x ∈ c.exceptionTable.toList, False) : ∀ (n : Nat) (x1 : Int32) (x2 : Int64) (x4 : Int32) (x5 : Nat) (x6 : Int32) (g : gS), wpl_X2_fates_56 post px n x1 x2 x4 x5 x6 g → ∀ (H : Heap) (locs : List Loc) (ls : Array Slot), gX D K ad A s.heap g H locs → lv_has ls 7 [(0, .ref (ad 0)), (1, .int x1), (2, .long x2), (4, .int x4), (5, .ref (ad (100 + x5))), (6, .int x6)] → W p l e ({ frames := 7, cells := 2, slots := 12, locals := 112 } : Room) s m args below meth c H locs 1 6 (vx_MQ below (va_Qi post (gB D K ad A) A) (vx_X px (gBX D K ad A) A) args s 2 12 A) (F0 m 56 ls []) := by
  have hK := hE.1
  have hq : ∀ w ∈ gW, w.before args s = true := fun w h => hts w (List.mem_cons_of_mem _ h)
  intro n
  induction n with
  | zero =>
    intro x1 x2 x4 x5 x6 g hw
    exact hw.elim
  | succ n ih =>
    intro x1 x2 x4 x5 x6 g hw H locs ls hG hl
    dsimp only [wpl_X2_fates_56] at hw
    obtain ⟨hx5, hw⟩ := hw
    refine lv_iload hx hb dX2_fates_56 (lv_at hl 5 rfl) ?_
    refine lv_iload hx hb dX2_fates_58 (lv_at hl 3 rfl) ?_
    refine lv_icmp_ge (tgt := 83) hx hb dX2_fates_60 (by decide) (fun c_7 => ?_) (fun c_7 => ?_)
    · have hw := hw.1 c_7
      refine lv_aload hx hb dX2_fates_83 (lv_at hl 4 rfl) ?_
      refine g_getN (own := RX2) (C := RX1) (T := TX1) (N := 7) (ci := 1) hx hb hq hin_X1 hown hK hG (k := 100 + x5) (gok_N hx5) (gc_N hx5) rfl 6 (by decide) (hE.2.1 ("WireBench", 85, "WireBench$Net", "fateCount", "I", "WireBench") (by decide +kernel)) rfl (v := .int (g.1 25 x5)) rfl dX2_fates_85 ?_
      exact vx_ret (g_iret hx hb hr hlocks hw hG (by decide) (by decide) dX2_fates_88)
    · have hw := hw.2 c_7
      refine lv_aload hx hb dX2_fates_63 (lv_at hl 4 rfl) ?_
      refine lv_lload_n hx hb dX2_fates_65 rfl (lv_at hl 2 rfl) ?_
      refine lv_iconst (v := 2) hx hb dX2_fates_66 (by decide) ?_
      refine lv_iload hx hb dX2_fates_67 (lv_at hl 5 rfl) ?_
      refine lv_imul hx hb dX2_fates_69 ?_
      refine lv_lushr hx hb dX2_fates_70 rfl ?_
      refine lv_l2i hx hb dX2_fates_71 rfl ?_
      refine lv_iconst (v := 3) hx hb dX2_fates_72 (by decide) ?_
      refine lv_iand hx hb dX2_fates_73 ?_
      refine g_callv (va_runVN (C := RX1) (As := [.int ((((x2.toUInt64 >>> ((2 * x6).toInt64.toUInt64 &&& Int64.toUInt64 63)).toInt64).toInt32) &&& 3)]) (rest := []) ⟨hx, hb, hml, hown, hts⟩ (m_X1_addFate hl9 D K sa ad _ _ x5 ((((x2.toUInt64 >>> ((2 * x6).toInt64.toUInt64 &&& Int64.toUInt64 63)).toInt64).toInt32) &&& 3) g hw) ⟨va_cnB 1 hts (gGood gCons (gCode q_285)) rfl rfl rfl (hE.2.2.1 ("WireBench", 90, yX1_addFate, "WireBench") (by decide +kernel)) (hq _ q_22) (by decide +kernel) ⟨Nat.le_of_ble_eq_true rfl, Nat.le_of_ble_eq_true rfl⟩, hq _ q_284, hq _ q_4⟩ ⟨gPc_blind, g_recv hK hG (gok_N hx5) (gc_N hx5) rfl, gPc_at hE hG hA⟩ rfl rfl hl.1 rfl (lv_room (Nat.le_of_ble_eq_true rfl)) dX2_fates_74 ⟨Nat.le_of_ble_eq_true rfl, Nat.le_of_ble_eq_true rfl⟩) hG hA (fun g_8 H locs hw hG => ?_)
      try dsimp only at hw
      obtain ⟨x_9, ex_9⟩ : ∃ y : Int32, y = x6 + 1 := ⟨_, rfl⟩
      have hw := hw x_9 ex_9
      refine lv_iinc (v := x_9) (lv' := [(6, .int x_9), (0, .ref (ad 0)), (1, .int x1), (2, .long x2), (4, .int x4), (5, .ref (ad (100 + x5)))]) hx hb dX2_fates_77 hl (k := 5) rfl (by rw [ex_9]; rfl) (by decide) rfl (fun ls hl => ?_)
      refine lv_goto (tgt := 56) hx hb dX2_fates_80 (by decide) ?_
      exact ih x1 x2 x4 x5 x_9 g_8 hw _ _ _ hG (lv_sub hl [1, 2, 3, 4, 5, 0] rfl)
def wp_X2_fates (post : Int32 → gS → Prop) (px : String × gS → Prop) (p1 : Int32) (p2 : Int64) (p3 : Int32) (g : gS) : Prop := wp_X2_netNumbered (fun u_ => ∃ (k_2 : Nat) (g_1 : gS), u_ = (100 + k_2, g_1) ∧ (k_2 < 24 ∧ (((p3 < 1) → (px ("java/lang/IllegalArgumentException", g_1))) ∧ ((¬ p3 < 1) → (((p3 ≤ 32) → (((((g_1.1 25 k_2) + p3) ≤ 64) → (∃ n, wpl_X2_fates_56 post px n p1 p2 p3 k_2 0 g_1)) ∧ ((¬ ((g_1.1 25 k_2) + p3) ≤ 64) → (px ("java/lang/IllegalStateException", g_1))))) ∧ ((¬ p3 ≤ 32) → (px ("java/lang/IllegalArgumentException", g_1)))))))) px p1 g
set_option maxHeartbeats 4000000 in
set_option maxRecDepth 100000 in
theorem m_X2_fates {l : Launch} (hl9 : l.stackTraces = false) (D : va_G) (K : Nat → ClassId) (sa ad : Nat → Nat) (sz : Nat) (post : Int32 → gS → Prop) (px : String × gS → Prop) (p1 : Int32) (p2 : Int64) (p3 : Int32) (g : gS) (hw : wp_X2_fates post px p1 p2 p3 g) : vx_Met l yX2_fates wsX2_fates ({ frames := 7, cells := 2, slots := 12, locals := 112 } : Room) (gPc D K sa ad sz g [.ref (ad 0), .int p1, .long p2, .int p3]) (va_Qi post (gB D K ad (va_A (gw K ad g) sz)) (va_A (gw K ad g) sz)) (vx_X px (gBX D K ad (va_A (gw K ad g) sz)) (va_A (gw K ad g) sz)) 2 12 (va_A (gw K ad g) sz) := by
  refine vx_ofW (cc := cX2_fates) (maxL := 7) (ret := (some .int)) (by decide) rfl ?_
  intro p e s m args below meth c s₁ B hml hN hv
  obtain ⟨rfl, hsz, hP, hE, hD0⟩ := hv
  have hx := B.exec
  have hb := B.bytes
  have hr := B.returns
  have hts := atoms_spec (ws := wsX2_fates) B.pre
  have hq : ∀ w ∈ gW, w.before _ s = true := fun w h => hts w (List.mem_cons_of_mem _ h)
  have hown : s.vm.findClass RX2 = some m.cls := findClass_of_methodNamed B.named
  have hlocks := B.notSynchronized
  subst hsz
  have hD := hD0.self (sz := s.heap.size)
  generalize hAe : va_A (gw K ad g) s.heap.size = A at hD hE ⊢
  have hA : ∀ q : Nat, s.heap.size ≤ q → A q := fun q h => by rw [← hAe]; exact Or.inr h
  have hK := hE.1
  have hG : gX D K ad A s.heap g s.heap [] := ⟨hP, hD, va_S.rf⟩
  have hl := lv_entry ([.ref (ad 0), .int p1, .long p2, .int p3]) (n := 7) (Nat.le_of_ble_eq_true rfl)
  rw [lg_entry_eq]
  generalize (lg_sl ([.ref (ad 0), .int p1, .long p2, .int p3]) ++ List.replicate (7 - (lg_sl ([.ref (ad 0), .int p1, .long p2, .int p3])).length) Slot.unset).toArray = ls at hl ⊢
  have hl : lv_has ls 7 [(0, .ref (ad 0)), (1, .int p1), (2, .long p2), (4, .int p3)] := hl
  dsimp only [wp_X2_fates] at hw
  refine lv_aload_n hx hb dX2_fates_0 rfl (lv_at hl 0 rfl) ?_
  refine lv_iload_n hx hb dX2_fates_1 rfl (lv_at hl 1 rfl) ?_
  refine g_xcallr (vx_runV (As := [.int p1]) (rest := []) ⟨hx, hb, hml, hown, hts⟩ (m_X2_netNumbered hl9 D K sa ad _ _ _ p1 g hw) (cwV 1 hts (gGood gCons (gV q_264 q_266 q_2 q_20 q_267)) rfl rfl rfl (by decide +kernel) ⟨Nat.le_of_ble_eq_true rfl, Nat.le_of_ble_eq_true rfl⟩) ⟨gPc_blind, g_recv hK hG (gok_lo (by decide)) (gc_W) rfl, gPc_at hE hG hA⟩ rfl rfl hl.1 rfl (lv_room (Nat.le_of_ble_eq_true rfl)) dX2_fates_2 ⟨Nat.le_of_ble_eq_true rfl, Nat.le_of_ble_eq_true rfl⟩) hG hA (fun E_ ce_ q_ g_1 H locs hw hG h1_ h2_ h3_ => ?_) (fun k_ ga_ H locs hw hG => ?_)
  · exact g_out hN hlocks h1_ h2_ h3_ hw hG (by decide) (by decide)
  try dsimp only at hw
  obtain ⟨k_2, g_1, eu_, hk_3, hw⟩ := hw
  obtain ⟨e1_, e2_⟩ := Prod.mk.inj eu_
  subst e1_
  have e2_ := e2_.symm
  subst e2_
  refine lv_astore (lv' := [(5, .ref (ad (100 + k_2))), (0, .ref (ad 0)), (1, .int p1), (2, .long p2), (4, .int p3)]) hx hb dX2_fates_5 hl (by decide) rfl (fun ls hl => ?_)
  refine lv_iload hx hb dX2_fates_7 (lv_at hl 4 rfl) ?_
  refine lv_iconst (v := 1) hx hb dX2_fates_9 (by decide) ?_
  refine lv_icmp_lt (tgt := 20) hx hb dX2_fates_10 (by decide) (fun c_4 => ?_) (fun c_4 => ?_)
  · have hw := hw.1 c_4
    exact g_throwS (own := RX2) (cls := "java/lang/IllegalArgumentException") (text := "n is not 1 .. 32") (names := ["java/lang/RuntimeException", "java/lang/Exception"]) hx hb hl9 hown (by decide +kernel) (by decide +kernel) (hq _ q_169) (hq _ q_27) hE (by decide +kernel) (hat_IAE_58 hq hE) hgd_IAE_58 (hl.1.trans hml.symm) hN hlocks hw hG dX2_fates_20 dX2_fates_23 dX2_fates_24 dX2_fates_26 dX2_fates_29 (Nat.le_of_ble_eq_true rfl) (Nat.le_of_ble_eq_true rfl) (Nat.le_of_ble_eq_true rfl) (Nat.le_of_ble_eq_true rfl) (by decide) (by decide)
  · have hw := hw.2 c_4
    refine lv_iload hx hb dX2_fates_13 (lv_at hl 4 rfl) ?_
    refine lv_bipush (v := 32) hx hb dX2_fates_15 (by decide) ?_
    refine lv_icmp_le (tgt := 30) hx hb dX2_fates_17 (by decide) (fun c_5 => ?_) (fun c_5 => ?_)
    · have hw := hw.1 c_5
      refine lv_aload hx hb dX2_fates_30 (lv_at hl 0 rfl) ?_
      refine g_getN (own := RX2) (C := RX1) (T := TX1) (N := 7) (ci := 1) hx hb hq hin_X1 hown hK hG (k := 100 + k_2) (gok_N hk_3) (gc_N hk_3) rfl 6 (by decide) (hE.2.1 ("WireBench", 85, "WireBench$Net", "fateCount", "I", "WireBench") (by decide +kernel)) rfl (v := .int (g_1.1 25 k_2)) rfl dX2_fates_32 ?_
      refine lv_iload hx hb dX2_fates_35 (lv_at hl 4 rfl) ?_
      refine lv_iadd hx hb dX2_fates_37 ?_
      refine lv_bipush (v := 64) hx hb dX2_fates_38 (by decide) ?_
      refine lv_icmp_le (tgt := 53) hx hb dX2_fates_40 (by decide) (fun c_6 => ?_) (fun c_6 => ?_)
      · have hw := hw.1 c_6
        refine lv_iconst (v := 0) hx hb dX2_fates_53 (by decide) ?_
        refine lv_istore (lv' := [(6, .int 0), (5, .ref (ad (100 + k_2))), (0, .ref (ad 0)), (1, .int p1), (2, .long p2), (4, .int p3)]) hx hb dX2_fates_54 hl (by decide) rfl (fun ls hl => ?_)
        obtain ⟨n_10, hw⟩ := hw
        exact L_X2_fates_56 post px hl9 hx hb hr hml hown hts hlocks hA hE hN n_10 p1 p2 p3 k_2 0 g_1 hw _ _ _ hG (lv_sub hl [2, 3, 4, 5, 1, 0] rfl)
      · have hw := hw.2 c_6
        exact g_throwS (own := RX2) (cls := "java/lang/IllegalStateException") (text := "the schedule would have more than 64 fates") (names := ["java/lang/RuntimeException", "java/lang/Exception"]) hx hb hl9 hown (by decide +kernel) (by decide +kernel) (hq _ q_237) (hq _ q_28) hE (by decide +kernel) (hat_ISE_67 hq hE) hgd_ISE_67 (hl.1.trans hml.symm) hN hlocks hw hG dX2_fates_43 dX2_fates_46 dX2_fates_47 dX2_fates_49 dX2_fates_52 (Nat.le_of_ble_eq_true rfl) (Nat.le_of_ble_eq_true rfl) (Nat.le_of_ble_eq_true rfl) (Nat.le_of_ble_eq_true rfl) (by decide) (by decide)
    · have hw := hw.2 c_5
      exact g_throwS (own := RX2) (cls := "java/lang/IllegalArgumentException") (text := "n is not 1 .. 32") (names := ["java/lang/RuntimeException", "java/lang/Exception"]) hx hb hl9 hown (by decide +kernel) (by decide +kernel) (hq _ q_169) (hq _ q_27) hE (by decide +kernel) (hat_IAE_58 hq hE) hgd_IAE_58 (hl.1.trans hml.symm) hN hlocks hw hG dX2_fates_20 dX2_fates_23 dX2_fates_24 dX2_fates_26 dX2_fates_29 (Nat.le_of_ble_eq_true rfl) (Nat.le_of_ble_eq_true rfl) (Nat.le_of_ble_eq_true rfl) (Nat.le_of_ble_eq_true rfl) (by decide) (by decide)

def wpl_X2_feed_48 (post : Int32 → gS → Prop) (px : String × gS → Prop) : Nat → Int64 → Int32 → Int32 → gS → Prop
  | 0 => fun _ _ _ _ => False
  | n + 1 => fun x1 x3 x4 g => ((x4 < 0) → (post (g.1 0 5) g)) ∧ ((¬ x4 < 0) → (wp_X2_ringPlace (fun r_7 g_6 => (∀ x_8 : Int32, x_8 = (((x1.toUInt64 >>> ((8 * x4).toInt64.toUInt64 &&& Int64.toUInt64 63)).toInt64).toInt32).toInt8.toInt32 → (vp_in r_7 4096 ∧ (∀ g_10 : gS, g_10 = gi g_6 3 r_7.toNatClampNeg (vp_nar .byte x_8) → (∀ x_11 : Int32, x_11 = (g_10.1 0 5) + 1 → (∀ g_12 : gS, g_12 = gi g_10 0 5 x_11 → (∀ x_13 : Int32, x_13 = x4 + (-1) → (wpl_X2_feed_48 post px n x1 x3 x_13 g_12)))))))) ((g.1 0 4) + (g.1 0 5)) g))
set_option maxHeartbeats 4000000 in
set_option maxRecDepth 100000 in
theorem L_X2_feed_48 {p : Program} {l : Launch} {e : Env} {s : State} {m : MethodId} {args : Array Value} {below : List Frame} {meth : Method} {c : Code} {D : va_G} {K : Nat → ClassId} {sa ad : Nat → Nat} {A : Nat → Prop} (post : Int32 → gS → Prop) (px : String × gS → Prop) (hl9 : l.stackTraces = false) (hx : p.tables.exec = Jvm.exec) (hb : c.code = cX2_feed) (hr : meth.sig.returnType = (some .int)) (hml : c.maxLocals = 5) (hown : s.vm.findClass RX2 = some m.cls) (hts : ∀ w ∈ wsX2_feed, w.before args s = true) (hlocks : meth.locks = false) (hA : ∀ q, s.heap.size ≤ q → A q) (hE : gE D K sa A s s.heap) (hN : ∀ x ∈ c.exceptionTable.toList, False) : ∀ (n : Nat) (x1 : Int64) (x3 : Int32) (x4 : Int32) (g : gS), wpl_X2_feed_48 post px n x1 x3 x4 g → ∀ (H : Heap) (locs : List Loc) (ls : Array Slot), gX D K ad A s.heap g H locs → lv_has ls 5 [(0, .ref (ad 0)), (1, .long x1), (3, .int x3), (4, .int x4)] → W p l e ({ frames := 6, cells := 1, slots := 6, locals := 91 } : Room) s m args below meth c H locs 0 0 (vx_MQ below (va_Qi post (gB D K ad A) A) (vx_X px (gBX D K ad A) A) args s 1 6 A) (F0 m 48 ls []) := by
  have hK := hE.1
  have hq : ∀ w ∈ gW, w.before args s = true := fun w h => hts w (List.mem_cons_of_mem _ h)
  intro n
  induction n with
  | zero =>
    intro x1 x3 x4 g hw
    exact hw.elim
  | succ n ih =>
    intro x1 x3 x4 g hw H locs ls hG hl
    dsimp only [wpl_X2_feed_48] at hw
    refine lv_iload hx hb dX2_feed_48 (lv_at hl 3 rfl) ?_
    refine lv_if_lt (tgt := 95) hx hb dX2_feed_50 (by decide) (fun c_5 => ?_) (fun c_5 => ?_)
    · have hw := hw.1 c_5
      refine lv_aload_n hx hb dX2_feed_95 rfl (lv_at hl 0 rfl) ?_
      refine g_get (own := RX2) (C := RX2) (T := TX2) (N := 11) (ci := 2) hx hb hq hin_X2 hown hK hG (k := 0) (gok_lo (by decide)) (gc_W) rfl 10 (by decide) (hq _ q_128) rfl (v := .int (g.1 0 5)) rfl dX2_feed_96 ?_
      exact vx_ret (g_iret hx hb hr hlocks hw hG (by decide) (by decide) dX2_feed_99)
    · have hw := hw.2 c_5
      refine lv_aload_n hx hb dX2_feed_53 rfl (lv_at hl 0 rfl) ?_
      refine g_get (own := RX2) (C := RX2) (T := TX2) (N := 11) (ci := 2) hx hb hq hin_X2 hown hK hG (k := 0) (gok_lo (by decide)) (gc_W) rfl 8 (by decide) (hq _ q_126) rfl (v := .ref (ad 3)) rfl dX2_feed_54 ?_
      refine lv_aload_n hx hb dX2_feed_57 rfl (lv_at hl 0 rfl) ?_
      refine g_get (own := RX2) (C := RX2) (T := TX2) (N := 11) (ci := 2) hx hb hq hin_X2 hown hK hG (k := 0) (gok_lo (by decide)) (gc_W) rfl 9 (by decide) (hq _ q_127) rfl (v := .int (g.1 0 4)) rfl dX2_feed_58 ?_
      refine lv_aload_n hx hb dX2_feed_61 rfl (lv_at hl 0 rfl) ?_
      refine g_get (own := RX2) (C := RX2) (T := TX2) (N := 11) (ci := 2) hx hb hq hin_X2 hown hK hG (k := 0) (gok_lo (by decide)) (gc_W) rfl 10 (by decide) (hq _ q_128) rfl (v := .int (g.1 0 5)) rfl dX2_feed_62 ?_
      refine lv_iadd hx hb dX2_feed_65 ?_
      refine g_calli (va_runS (As := [.int ((g.1 0 4) + (g.1 0 5))]) (rest := [.ref (ad 3)]) ⟨hx, hb, hml, hown, hts⟩ (m_X2_ringPlace hl9 D K sa ad _ _ ((g.1 0 4) + (g.1 0 5)) g hw) (cwS 1 hts (gGood gCons (gSt q_295 q_296 q_20 q_297)) rfl rfl rfl (by decide +kernel) ⟨Nat.le_of_ble_eq_true rfl, Nat.le_of_ble_eq_true rfl⟩) ⟨gPc_blind, gPc_at hE hG hA⟩ rfl rfl hl.1 rfl (lv_room (Nat.le_of_ble_eq_true rfl)) dX2_feed_66 ⟨Nat.le_of_ble_eq_true rfl, Nat.le_of_ble_eq_true rfl⟩) hG hA (fun r_7 g_6 H locs hw hG => ?_)
      try dsimp only at hw
      refine lv_lload_n hx hb dX2_feed_69 rfl (lv_at hl 1 rfl) ?_
      refine lv_bipush (v := 8) hx hb dX2_feed_70 (by decide) ?_
      refine lv_iload hx hb dX2_feed_72 (lv_at hl 3 rfl) ?_
      refine lv_imul hx hb dX2_feed_74 ?_
      refine lv_lushr hx hb dX2_feed_75 rfl ?_
      refine lv_l2i hx hb dX2_feed_76 rfl ?_
      refine lv_i2b hx hb dX2_feed_77 rfl ?_
      refine lv_topi (fun x_8 ex_8 => ?_)
      have hw := hw x_8 ex_8
      obtain ⟨hi_9, hw⟩ := hw
      refine g_bast hx hb hK hG (k := 3) (gok_lo (by decide)) (fun g => gc_3) (x := x_8) hi_9 (gho_lo (by decide)) dX2_feed_78 (fun H locs hG => ?_)
      obtain ⟨g_10, eg_10⟩ : ∃ z, z = gi g_6 3 r_7.toNatClampNeg (vp_nar .byte x_8) := ⟨_, rfl⟩
      rw [← eg_10] at hG
      have hw := hw g_10 eg_10
      refine lv_aload_n hx hb dX2_feed_79 rfl (lv_at hl 0 rfl) ?_
      refine lv_dup hx hb dX2_feed_80 rfl ?_
      refine g_get (own := RX2) (C := RX2) (T := TX2) (N := 11) (ci := 2) hx hb hq hin_X2 hown hK hG (k := 0) (gok_lo (by decide)) (gc_W) rfl 10 (by decide) (hq _ q_128) rfl (v := .int (g_10.1 0 5)) rfl dX2_feed_81 ?_
      refine lv_iconst (v := 1) hx hb dX2_feed_84 (by decide) ?_
      refine lv_iadd hx hb dX2_feed_85 ?_
      refine lv_topi (fun x_11 ex_11 => ?_)
      have hw := hw x_11 ex_11
      refine g_put (own := RX2) (C := RX2) (T := TX2) (N := 11) (ci := 2) hx hb hq hin_X2 tyX2 tyX2_ok nmX2 hown hK hG (k := 0) (gok_lo (by decide)) (gc_W) rfl 10 (by decide) (hq _ q_128) rfl rfl (ty := .int) (v := .int x_11) (by decide +kernel) rfl rfl (Nat.le_of_ble_eq_true rfl) (gi g_10 0 5 x_11) (gs_W5) (gho_lo (by decide)) dX2_feed_86 (fun H locs hG => ?_)
      obtain ⟨g_12, eg_12⟩ : ∃ z, z = gi g_10 0 5 x_11 := ⟨_, rfl⟩
      rw [← eg_12] at hG
      have hw := hw g_12 eg_12
      obtain ⟨x_13, ex_13⟩ : ∃ y : Int32, y = x4 + (-1) := ⟨_, rfl⟩
      have hw := hw x_13 ex_13
      refine lv_iinc (v := x_13) (lv' := [(4, .int x_13), (0, .ref (ad 0)), (1, .long x1), (3, .int x3)]) hx hb dX2_feed_89 hl (k := 3) rfl (by rw [ex_13]; rfl) (by decide) rfl (fun ls hl => ?_)
      refine lv_goto (tgt := 48) hx hb dX2_feed_92 (by decide) ?_
      exact ih x1 x3 x_13 g_12 hw _ _ _ hG (lv_sub hl [1, 2, 3, 0] rfl)
def wp_X2_feed (post : Int32 → gS → Prop) (px : String × gS → Prop) (p1 : Int64) (p2 : Int32) (g : gS) : Prop := ((p2 < 1) → (px ("java/lang/IllegalArgumentException", g))) ∧ ((¬ p2 < 1) → (((p2 ≤ 8) → (((((g.1 0 5) + p2) ≤ 1480) → (∀ x_4 : Int32, x_4 = p2 - 1 → (∃ n, wpl_X2_feed_48 post px n p1 p2 x_4 g))) ∧ ((¬ ((g.1 0 5) + p2) ≤ 1480) → (px ("java/lang/IllegalStateException", g))))) ∧ ((¬ p2 ≤ 8) → (px ("java/lang/IllegalArgumentException", g)))))
set_option maxHeartbeats 4000000 in
set_option maxRecDepth 100000 in
theorem m_X2_feed {l : Launch} (hl9 : l.stackTraces = false) (D : va_G) (K : Nat → ClassId) (sa ad : Nat → Nat) (sz : Nat) (post : Int32 → gS → Prop) (px : String × gS → Prop) (p1 : Int64) (p2 : Int32) (g : gS) (hw : wp_X2_feed post px p1 p2 g) : vx_Met l yX2_feed wsX2_feed ({ frames := 6, cells := 1, slots := 6, locals := 91 } : Room) (gPc D K sa ad sz g [.ref (ad 0), .long p1, .int p2]) (va_Qi post (gB D K ad (va_A (gw K ad g) sz)) (va_A (gw K ad g) sz)) (vx_X px (gBX D K ad (va_A (gw K ad g) sz)) (va_A (gw K ad g) sz)) 1 6 (va_A (gw K ad g) sz) := by
  refine vx_ofW (cc := cX2_feed) (maxL := 5) (ret := (some .int)) (by decide) rfl ?_
  intro p e s m args below meth c s₁ B hml hN hv
  obtain ⟨rfl, hsz, hP, hE, hD0⟩ := hv
  have hx := B.exec
  have hb := B.bytes
  have hr := B.returns
  have hts := atoms_spec (ws := wsX2_feed) B.pre
  have hq : ∀ w ∈ gW, w.before _ s = true := fun w h => hts w (List.mem_cons_of_mem _ h)
  have hown : s.vm.findClass RX2 = some m.cls := findClass_of_methodNamed B.named
  have hlocks := B.notSynchronized
  subst hsz
  have hD := hD0.self (sz := s.heap.size)
  generalize hAe : va_A (gw K ad g) s.heap.size = A at hD hE ⊢
  have hA : ∀ q : Nat, s.heap.size ≤ q → A q := fun q h => by rw [← hAe]; exact Or.inr h
  have hK := hE.1
  have hG : gX D K ad A s.heap g s.heap [] := ⟨hP, hD, va_S.rf⟩
  have hl := lv_entry ([.ref (ad 0), .long p1, .int p2]) (n := 5) (Nat.le_of_ble_eq_true rfl)
  rw [lg_entry_eq]
  generalize (lg_sl ([.ref (ad 0), .long p1, .int p2]) ++ List.replicate (5 - (lg_sl ([.ref (ad 0), .long p1, .int p2])).length) Slot.unset).toArray = ls at hl ⊢
  have hl : lv_has ls 5 [(0, .ref (ad 0)), (1, .long p1), (3, .int p2)] := hl
  dsimp only [wp_X2_feed] at hw
  refine lv_iload_n hx hb dX2_feed_0 rfl (lv_at hl 2 rfl) ?_
  refine lv_iconst (v := 1) hx hb dX2_feed_1 (by decide) ?_
  refine lv_icmp_lt (tgt := 11) hx hb dX2_feed_2 (by decide) (fun c_1 => ?_) (fun c_1 => ?_)
  · have hw := hw.1 c_1
    exact g_throwS (own := RX2) (cls := "java/lang/IllegalArgumentException") (text := "n is not 1 .. 8") (names := ["java/lang/RuntimeException", "java/lang/Exception"]) hx hb hl9 hown (by decide +kernel) (by decide +kernel) (hq _ q_169) (hq _ q_27) hE (by decide +kernel) (hat_IAE_58 hq hE) hgd_IAE_58 (hl.1.trans hml.symm) hN hlocks hw hG dX2_feed_11 dX2_feed_14 dX2_feed_15 dX2_feed_17 dX2_feed_20 (Nat.le_of_ble_eq_true rfl) (Nat.le_of_ble_eq_true rfl) (Nat.le_of_ble_eq_true rfl) (Nat.le_of_ble_eq_true rfl) (by decide) (by decide)
  · have hw := hw.2 c_1
    refine lv_iload_n hx hb dX2_feed_5 rfl (lv_at hl 2 rfl) ?_
    refine lv_bipush (v := 8) hx hb dX2_feed_6 (by decide) ?_
    refine lv_icmp_le (tgt := 21) hx hb dX2_feed_8 (by decide) (fun c_2 => ?_) (fun c_2 => ?_)
    · have hw := hw.1 c_2
      refine lv_aload_n hx hb dX2_feed_21 rfl (lv_at hl 0 rfl) ?_
      refine g_get (own := RX2) (C := RX2) (T := TX2) (N := 11) (ci := 2) hx hb hq hin_X2 hown hK hG (k := 0) (gok_lo (by decide)) (gc_W) rfl 10 (by decide) (hq _ q_128) rfl (v := .int (g.1 0 5)) rfl dX2_feed_22 ?_
      refine lv_iload_n hx hb dX2_feed_25 rfl (lv_at hl 2 rfl) ?_
      refine lv_iadd hx hb dX2_feed_26 ?_
      refine lv_sipush (v := 1480) hx hb dX2_feed_27 (by decide) ?_
      refine lv_icmp_le (tgt := 43) hx hb dX2_feed_30 (by decide) (fun c_3 => ?_) (fun c_3 => ?_)
      · have hw := hw.1 c_3
        refine lv_iload_n hx hb dX2_feed_43 rfl (lv_at hl 2 rfl) ?_
        refine lv_iconst (v := 1) hx hb dX2_feed_44 (by decide) ?_
        refine lv_isub hx hb dX2_feed_45 ?_
        refine lv_topi (fun x_4 ex_4 => ?_)
        have hw := hw x_4 ex_4
        refine lv_istore (lv' := [(4, .int x_4), (0, .ref (ad 0)), (1, .long p1), (3, .int p2)]) hx hb dX2_feed_46 hl (by decide) rfl (fun ls hl => ?_)
        obtain ⟨n_14, hw⟩ := hw
        exact L_X2_feed_48 post px hl9 hx hb hr hml hown hts hlocks hA hE hN n_14 p1 p2 x_4 g hw _ _ _ hG (lv_sub hl [1, 2, 3, 0] rfl)
      · have hw := hw.2 c_3
        exact g_throwS (own := RX2) (cls := "java/lang/IllegalStateException") (text := "the payload would be more than 1480 bytes") (names := ["java/lang/RuntimeException", "java/lang/Exception"]) hx hb hl9 hown (by decide +kernel) (by decide +kernel) (hq _ q_237) (hq _ q_28) hE (by decide +kernel) (hat_ISE_67 hq hE) hgd_ISE_67 (hl.1.trans hml.symm) hN hlocks hw hG dX2_feed_33 dX2_feed_36 dX2_feed_37 dX2_feed_39 dX2_feed_42 (Nat.le_of_ble_eq_true rfl) (Nat.le_of_ble_eq_true rfl) (Nat.le_of_ble_eq_true rfl) (Nat.le_of_ble_eq_true rfl) (by decide) (by decide)
    · have hw := hw.2 c_2
      exact g_throwS (own := RX2) (cls := "java/lang/IllegalArgumentException") (text := "n is not 1 .. 8") (names := ["java/lang/RuntimeException", "java/lang/Exception"]) hx hb hl9 hown (by decide +kernel) (by decide +kernel) (hq _ q_169) (hq _ q_27) hE (by decide +kernel) (hat_IAE_58 hq hE) hgd_IAE_58 (hl.1.trans hml.symm) hN hlocks hw hG dX2_feed_11 dX2_feed_14 dX2_feed_15 dX2_feed_17 dX2_feed_20 (Nat.le_of_ble_eq_true rfl) (Nat.le_of_ble_eq_true rfl) (Nat.le_of_ble_eq_true rfl) (Nat.le_of_ble_eq_true rfl) (by decide) (by decide)

def wp_X2_put (post : Int32 → gS → Prop) (px : String × gS → Prop) (p1 : Int32) (p2 : Int32) (p3 : Int32) (p4 : Int32) (g : gS) : Prop := wp_X2_netNumbered (fun u_ => ∃ (k_2 : Nat) (g_1 : gS), u_ = (100 + k_2, g_1) ∧ (k_2 < 24 ∧ (wp_X2_isStation (fun r_5 g_4 => (((¬ r_5 = 0) → (((p3 = (-1)) → (((¬ p3 = p2) → (∀ g_9 : gS, g_9 = gi g_4 31 513 p1 → (∀ g_10 : gS, g_10 = gi g_9 32 513 p2 → (∀ g_11 : gS, g_11 = gi g_10 33 513 p3 → (∀ g_12 : gS, g_12 = gi g_11 34 513 p4 → (∀ x_13 : Int32, x_13 = g_12.1 0 5 → (∀ g_14 : gS, g_14 = gi g_12 36 513 x_13 → (wp_X2_sendPayload (fun r_16 g_15 => (wp_X2_ringPlace (fun r_18 g_17 => (∀ g_19 : gS, g_19 = gi g_17 0 4 r_18 → (∀ g_20 : gS, g_20 = gi g_19 0 5 (0 : Int32) → (post r_16 g_20)))) ((g_15.1 0 4) + (g_15.1 0 5)) g_15)) k_2 g_14)))))))) ∧ ((p3 = p2) → (px ("java/lang/IllegalArgumentException", g_4))))) ∧ ((¬ p3 = (-1)) → (wp_X2_isStation (fun r_22 g_21 => (((¬ r_22 = 0) → (((¬ p3 = p2) → (∀ g_25 : gS, g_25 = gi g_21 31 513 p1 → (∀ g_26 : gS, g_26 = gi g_25 32 513 p2 → (∀ g_27 : gS, g_27 = gi g_26 33 513 p3 → (∀ g_28 : gS, g_28 = gi g_27 34 513 p4 → (∀ x_29 : Int32, x_29 = g_28.1 0 5 → (∀ g_30 : gS, g_30 = gi g_28 36 513 x_29 → (wp_X2_sendPayload (fun r_32 g_31 => (wp_X2_ringPlace (fun r_34 g_33 => (∀ g_35 : gS, g_35 = gi g_33 0 4 r_34 → (∀ g_36 : gS, g_36 = gi g_35 0 5 (0 : Int32) → (post r_32 g_36)))) ((g_31.1 0 4) + (g_31.1 0 5)) g_31)) k_2 g_30)))))))) ∧ ((p3 = p2) → (px ("java/lang/IllegalArgumentException", g_21))))) ∧ ((r_22 = 0) → (px ("java/lang/IllegalArgumentException", g_21))))) p3 g_4)))) ∧ ((r_5 = 0) → (px ("java/lang/IllegalArgumentException", g_4))))) p2 g_1))) px p1 g
set_option maxHeartbeats 4000000 in
set_option maxRecDepth 100000 in
theorem m_X2_put {l : Launch} (hl9 : l.stackTraces = false) (D : va_G) (K : Nat → ClassId) (sa ad : Nat → Nat) (sz : Nat) (post : Int32 → gS → Prop) (px : String × gS → Prop) (p1 : Int32) (p2 : Int32) (p3 : Int32) (p4 : Int32) (g : gS) (hw : wp_X2_put post px p1 p2 p3 p4 g) : vx_Met l yX2_put wsX2_put ({ frames := 7, cells := 2, slots := 12, locals := 115 } : Room) (gPc D K sa ad sz g [.ref (ad 0), .int p1, .int p2, .int p3, .int p4]) (va_Qi post (gB D K ad (va_A (gw K ad g) sz)) (va_A (gw K ad g) sz)) (vx_X px (gBX D K ad (va_A (gw K ad g) sz)) (va_A (gw K ad g) sz)) 2 12 (va_A (gw K ad g) sz) := by
  refine vx_ofW (cc := cX2_put) (maxL := 7) (ret := (some .int)) (by decide) rfl ?_
  intro p e s m args below meth c s₁ B hml hN hv
  obtain ⟨rfl, hsz, hP, hE, hD0⟩ := hv
  have hx := B.exec
  have hb := B.bytes
  have hr := B.returns
  have hts := atoms_spec (ws := wsX2_put) B.pre
  have hq : ∀ w ∈ gW, w.before _ s = true := fun w h => hts w (List.mem_cons_of_mem _ h)
  have hown : s.vm.findClass RX2 = some m.cls := findClass_of_methodNamed B.named
  have hlocks := B.notSynchronized
  subst hsz
  have hD := hD0.self (sz := s.heap.size)
  generalize hAe : va_A (gw K ad g) s.heap.size = A at hD hE ⊢
  have hA : ∀ q : Nat, s.heap.size ≤ q → A q := fun q h => by rw [← hAe]; exact Or.inr h
  have hK := hE.1
  have hG : gX D K ad A s.heap g s.heap [] := ⟨hP, hD, va_S.rf⟩
  have hl := lv_entry ([.ref (ad 0), .int p1, .int p2, .int p3, .int p4]) (n := 7) (Nat.le_of_ble_eq_true rfl)
  rw [lg_entry_eq]
  generalize (lg_sl ([.ref (ad 0), .int p1, .int p2, .int p3, .int p4]) ++ List.replicate (7 - (lg_sl ([.ref (ad 0), .int p1, .int p2, .int p3, .int p4])).length) Slot.unset).toArray = ls at hl ⊢
  have hl : lv_has ls 7 [(0, .ref (ad 0)), (1, .int p1), (2, .int p2), (3, .int p3), (4, .int p4)] := hl
  dsimp only [wp_X2_put] at hw
  refine lv_aload_n hx hb dX2_put_0 rfl (lv_at hl 0 rfl) ?_
  refine lv_iload_n hx hb dX2_put_1 rfl (lv_at hl 1 rfl) ?_
  refine g_xcallr (vx_runV (As := [.int p1]) (rest := []) ⟨hx, hb, hml, hown, hts⟩ (m_X2_netNumbered hl9 D K sa ad _ _ _ p1 g hw) (cwV 1 hts (gGood gCons (gV q_264 q_266 q_2 q_20 q_267)) rfl rfl rfl (by decide +kernel) ⟨Nat.le_of_ble_eq_true rfl, Nat.le_of_ble_eq_true rfl⟩) ⟨gPc_blind, g_recv hK hG (gok_lo (by decide)) (gc_W) rfl, gPc_at hE hG hA⟩ rfl rfl hl.1 rfl (lv_room (Nat.le_of_ble_eq_true rfl)) dX2_put_2 ⟨Nat.le_of_ble_eq_true rfl, Nat.le_of_ble_eq_true rfl⟩) hG hA (fun E_ ce_ q_ g_1 H locs hw hG h1_ h2_ h3_ => ?_) (fun k_ ga_ H locs hw hG => ?_)
  · exact g_out hN hlocks h1_ h2_ h3_ hw hG (by decide) (by decide)
  try dsimp only at hw
  obtain ⟨k_2, g_1, eu_, hk_3, hw⟩ := hw
  obtain ⟨e1_, e2_⟩ := Prod.mk.inj eu_
  subst e1_
  have e2_ := e2_.symm
  subst e2_
  refine lv_astore (lv' := [(5, .ref (ad (100 + k_2))), (0, .ref (ad 0)), (1, .int p1), (2, .int p2), (3, .int p3), (4, .int p4)]) hx hb dX2_put_5 hl (by decide) rfl (fun ls hl => ?_)
  refine lv_iload_n hx hb dX2_put_7 rfl (lv_at hl 3 rfl) ?_
  refine g_calli (va_runS (As := [.int p2]) (rest := []) ⟨hx, hb, hml, hown, hts⟩ (m_X2_isStation hl9 D K sa ad _ _ p2 g_1 hw) (cwS 1 hts (gGood gCons (gSt q_305 q_306 q_20 q_307)) rfl rfl rfl (by decide +kernel) ⟨Nat.le_of_ble_eq_true rfl, Nat.le_of_ble_eq_true rfl⟩) ⟨gPc_blind, gPc_at hE hG hA⟩ rfl rfl hl.1 rfl (lv_room (Nat.le_of_ble_eq_true rfl)) dX2_put_8 ⟨Nat.le_of_ble_eq_true rfl, Nat.le_of_ble_eq_true rfl⟩) hG hA (fun r_5 g_4 H locs hw hG => ?_)
  try dsimp only at hw
  refine lv_if_ne (tgt := 24) hx hb dX2_put_11 (by decide) (fun c_6 => ?_) (fun c_6 => ?_)
  · have hw := hw.1 c_6
    refine lv_iload_n hx hb dX2_put_24 rfl (lv_at hl 4 rfl) ?_
    refine lv_iconst (v := (-1)) hx hb dX2_put_25 (by decide) ?_
    refine lv_icmp_eq (tgt := 46) hx hb dX2_put_26 (by decide) (fun c_7 => ?_) (fun c_7 => ?_)
    · have hw := hw.1 c_7
      refine lv_iload_n hx hb dX2_put_46 rfl (lv_at hl 4 rfl) ?_
      refine lv_iload_n hx hb dX2_put_47 rfl (lv_at hl 3 rfl) ?_
      refine lv_icmp_ne (tgt := 61) hx hb dX2_put_48 (by decide) (fun c_8 => ?_) (fun c_8 => ?_)
      · have hw := hw.1 c_8
        refine lv_aload_n hx hb dX2_put_61 rfl (lv_at hl 1 rfl) ?_
        refine g_get (own := RX2) (C := RX2) (T := TX2) (N := 11) (ci := 2) hx hb hq hin_X2 hown hK hG (k := 0) (gok_lo (by decide)) (gc_W) rfl 7 (by decide) (hq _ q_125) rfl (v := .ref (ad 1513)) rfl dX2_put_62 ?_
        refine lv_iload_n hx hb dX2_put_65 rfl (lv_at hl 2 rfl) ?_
        refine g_putN (own := RX2) (C := RX0) (T := TX0) (N := 9) (ci := 0) hx hb hq hin_X0 tyX0 tyX0_ok nmX0 hown hK hG (k := 1000 + 513) (gok_A (by decide)) (gc_A) rfl 1 (by decide) (hE.2.1 ("WireBench", 111, "WireBench$Arrival", "net", "I", "WireBench") (by decide +kernel)) rfl rfl (ty := .int) (v := .int p1) (by decide +kernel) rfl rfl (Nat.le_of_ble_eq_true rfl) (gi g_4 31 513 p1) (gs_A31) (gho_A ⟨by decide, by decide⟩) dX2_put_66 (fun H locs hG => ?_)
        obtain ⟨g_9, eg_9⟩ : ∃ z, z = gi g_4 31 513 p1 := ⟨_, rfl⟩
        rw [← eg_9] at hG
        have hw := hw g_9 eg_9
        refine lv_aload_n hx hb dX2_put_69 rfl (lv_at hl 1 rfl) ?_
        refine g_get (own := RX2) (C := RX2) (T := TX2) (N := 11) (ci := 2) hx hb hq hin_X2 hown hK hG (k := 0) (gok_lo (by decide)) (gc_W) rfl 7 (by decide) (hq _ q_125) rfl (v := .ref (ad 1513)) rfl dX2_put_70 ?_
        refine lv_iload_n hx hb dX2_put_73 rfl (lv_at hl 3 rfl) ?_
        refine g_putN (own := RX2) (C := RX0) (T := TX0) (N := 9) (ci := 0) hx hb hq hin_X0 tyX0 tyX0_ok nmX0 hown hK hG (k := 1000 + 513) (gok_A (by decide)) (gc_A) rfl 2 (by decide) (hE.2.1 ("WireBench", 114, "WireBench$Arrival", "station", "I", "WireBench") (by decide +kernel)) rfl rfl (ty := .int) (v := .int p2) (by decide +kernel) rfl rfl (Nat.le_of_ble_eq_true rfl) (gi g_9 32 513 p2) (gs_A32) (gho_A ⟨by decide, by decide⟩) dX2_put_74 (fun H locs hG => ?_)
        obtain ⟨g_10, eg_10⟩ : ∃ z, z = gi g_9 32 513 p2 := ⟨_, rfl⟩
        rw [← eg_10] at hG
        have hw := hw g_10 eg_10
        refine lv_aload_n hx hb dX2_put_77 rfl (lv_at hl 1 rfl) ?_
        refine g_get (own := RX2) (C := RX2) (T := TX2) (N := 11) (ci := 2) hx hb hq hin_X2 hown hK hG (k := 0) (gok_lo (by decide)) (gc_W) rfl 7 (by decide) (hq _ q_125) rfl (v := .ref (ad 1513)) rfl dX2_put_78 ?_
        refine lv_iload_n hx hb dX2_put_81 rfl (lv_at hl 4 rfl) ?_
        refine g_putN (own := RX2) (C := RX0) (T := TX0) (N := 9) (ci := 0) hx hb hq hin_X0 tyX0 tyX0_ok nmX0 hown hK hG (k := 1000 + 513) (gok_A (by decide)) (gc_A) rfl 3 (by decide) (hE.2.1 ("WireBench", 117, "WireBench$Arrival", "goal", "I", "WireBench") (by decide +kernel)) rfl rfl (ty := .int) (v := .int p3) (by decide +kernel) rfl rfl (Nat.le_of_ble_eq_true rfl) (gi g_10 33 513 p3) (gs_A33) (gho_A ⟨by decide, by decide⟩) dX2_put_82 (fun H locs hG => ?_)
        obtain ⟨g_11, eg_11⟩ : ∃ z, z = gi g_10 33 513 p3 := ⟨_, rfl⟩
        rw [← eg_11] at hG
        have hw := hw g_11 eg_11
        refine lv_aload_n hx hb dX2_put_85 rfl (lv_at hl 1 rfl) ?_
        refine g_get (own := RX2) (C := RX2) (T := TX2) (N := 11) (ci := 2) hx hb hq hin_X2 hown hK hG (k := 0) (gok_lo (by decide)) (gc_W) rfl 7 (by decide) (hq _ q_125) rfl (v := .ref (ad 1513)) rfl dX2_put_86 ?_
        refine lv_iload hx hb dX2_put_89 (lv_at hl 5 rfl) ?_
        refine g_putN (own := RX2) (C := RX0) (T := TX0) (N := 9) (ci := 0) hx hb hq hin_X0 tyX0 tyX0_ok nmX0 hown hK hG (k := 1000 + 513) (gok_A (by decide)) (gc_A) rfl 4 (by decide) (hE.2.1 ("WireBench", 120, "WireBench$Arrival", "number", "I", "WireBench") (by decide +kernel)) rfl rfl (ty := .int) (v := .int p4) (by decide +kernel) rfl rfl (Nat.le_of_ble_eq_true rfl) (gi g_11 34 513 p4) (gs_A34) (gho_A ⟨by decide, by decide⟩) dX2_put_91 (fun H locs hG => ?_)
        obtain ⟨g_12, eg_12⟩ : ∃ z, z = gi g_11 34 513 p4 := ⟨_, rfl⟩
        rw [← eg_12] at hG
        have hw := hw g_12 eg_12
        refine lv_aload_n hx hb dX2_put_94 rfl (lv_at hl 1 rfl) ?_
        refine g_get (own := RX2) (C := RX2) (T := TX2) (N := 11) (ci := 2) hx hb hq hin_X2 hown hK hG (k := 0) (gok_lo (by decide)) (gc_W) rfl 7 (by decide) (hq _ q_125) rfl (v := .ref (ad 1513)) rfl dX2_put_95 ?_
        refine lv_aload_n hx hb dX2_put_98 rfl (lv_at hl 1 rfl) ?_
        refine g_get (own := RX2) (C := RX2) (T := TX2) (N := 11) (ci := 2) hx hb hq hin_X2 hown hK hG (k := 0) (gok_lo (by decide)) (gc_W) rfl 10 (by decide) (hq _ q_128) rfl (v := .int (g_12.1 0 5)) rfl dX2_put_99 ?_
        refine lv_topi (fun x_13 ex_13 => ?_)
        have hw := hw x_13 ex_13
        refine g_putN (own := RX2) (C := RX0) (T := TX0) (N := 9) (ci := 0) hx hb hq hin_X0 tyX0 tyX0_ok nmX0 hown hK hG (k := 1000 + 513) (gok_A (by decide)) (gc_A) rfl 6 (by decide) (hE.2.1 ("WireBench", 123, "WireBench$Arrival", "whole", "I", "WireBench") (by decide +kernel)) rfl rfl (ty := .int) (v := .int x_13) (by decide +kernel) rfl rfl (Nat.le_of_ble_eq_true rfl) (gi g_12 36 513 x_13) (gs_A36) (gho_A ⟨by decide, by decide⟩) dX2_put_102 (fun H locs hG => ?_)
        obtain ⟨g_14, eg_14⟩ : ∃ z, z = gi g_12 36 513 x_13 := ⟨_, rfl⟩
        rw [← eg_14] at hG
        have hw := hw g_14 eg_14
        refine lv_aload_n hx hb dX2_put_105 rfl (lv_at hl 1 rfl) ?_
        refine lv_aload hx hb dX2_put_106 (lv_at hl 0 rfl) ?_
        refine g_calli (va_runV (As := [.ref (ad (100 + k_2))]) (rest := []) ⟨hx, hb, hml, hown, hts⟩ (m_X2_sendPayload hl9 D K sa ad _ _ k_2 g_14 hw) (cwV 1 hts (gGood gCons (gV q_311 q_313 q_5 q_20 q_314)) rfl rfl rfl (by decide +kernel) ⟨Nat.le_of_ble_eq_true rfl, Nat.le_of_ble_eq_true rfl⟩) ⟨gPc_blind, g_recv hK hG (gok_lo (by decide)) (gc_W) rfl, gPc_at hE hG hA⟩ rfl rfl hl.1 rfl (lv_room (Nat.le_of_ble_eq_true rfl)) dX2_put_108 ⟨Nat.le_of_ble_eq_true rfl, Nat.le_of_ble_eq_true rfl⟩) hG hA (fun r_16 g_15 H locs hw hG => ?_)
        try dsimp only at hw
        refine lv_istore (lv' := [(6, .int r_16), (5, .ref (ad (100 + k_2))), (0, .ref (ad 0)), (1, .int p1), (2, .int p2), (3, .int p3), (4, .int p4)]) hx hb dX2_put_111 hl (by decide) rfl (fun ls hl => ?_)
        refine lv_aload_n hx hb dX2_put_113 rfl (lv_at hl 2 rfl) ?_
        refine lv_aload_n hx hb dX2_put_114 rfl (lv_at hl 2 rfl) ?_
        refine g_get (own := RX2) (C := RX2) (T := TX2) (N := 11) (ci := 2) hx hb hq hin_X2 hown hK hG (k := 0) (gok_lo (by decide)) (gc_W) rfl 9 (by decide) (hq _ q_127) rfl (v := .int (g_15.1 0 4)) rfl dX2_put_115 ?_
        refine lv_aload_n hx hb dX2_put_118 rfl (lv_at hl 2 rfl) ?_
        refine g_get (own := RX2) (C := RX2) (T := TX2) (N := 11) (ci := 2) hx hb hq hin_X2 hown hK hG (k := 0) (gok_lo (by decide)) (gc_W) rfl 10 (by decide) (hq _ q_128) rfl (v := .int (g_15.1 0 5)) rfl dX2_put_119 ?_
        refine lv_iadd hx hb dX2_put_122 ?_
        refine g_calli (va_runS (As := [.int ((g_15.1 0 4) + (g_15.1 0 5))]) (rest := [.ref (ad 0)]) ⟨hx, hb, hml, hown, hts⟩ (m_X2_ringPlace hl9 D K sa ad _ _ ((g_15.1 0 4) + (g_15.1 0 5)) g_15 hw) (cwS 1 hts (gGood gCons (gSt q_295 q_296 q_20 q_297)) rfl rfl rfl (by decide +kernel) ⟨Nat.le_of_ble_eq_true rfl, Nat.le_of_ble_eq_true rfl⟩) ⟨gPc_blind, gPc_at hE hG hA⟩ rfl rfl hl.1 rfl (lv_room (Nat.le_of_ble_eq_true rfl)) dX2_put_123 ⟨Nat.le_of_ble_eq_true rfl, Nat.le_of_ble_eq_true rfl⟩) hG hA (fun r_18 g_17 H locs hw hG => ?_)
        try dsimp only at hw
        refine g_put (own := RX2) (C := RX2) (T := TX2) (N := 11) (ci := 2) hx hb hq hin_X2 tyX2 tyX2_ok nmX2 hown hK hG (k := 0) (gok_lo (by decide)) (gc_W) rfl 9 (by decide) (hq _ q_127) rfl rfl (ty := .int) (v := .int r_18) (by decide +kernel) rfl rfl (Nat.le_of_ble_eq_true rfl) (gi g_17 0 4 r_18) (gs_W4) (gho_lo (by decide)) dX2_put_126 (fun H locs hG => ?_)
        obtain ⟨g_19, eg_19⟩ : ∃ z, z = gi g_17 0 4 r_18 := ⟨_, rfl⟩
        rw [← eg_19] at hG
        have hw := hw g_19 eg_19
        refine lv_aload_n hx hb dX2_put_129 rfl (lv_at hl 2 rfl) ?_
        refine lv_iconst (v := 0) hx hb dX2_put_130 (by decide) ?_
        refine g_put (own := RX2) (C := RX2) (T := TX2) (N := 11) (ci := 2) hx hb hq hin_X2 tyX2 tyX2_ok nmX2 hown hK hG (k := 0) (gok_lo (by decide)) (gc_W) rfl 10 (by decide) (hq _ q_128) rfl rfl (ty := .int) (v := .int 0) (by decide +kernel) rfl rfl (Nat.le_of_ble_eq_true rfl) (gi g_19 0 5 (0 : Int32)) (gs_W5) (gho_lo (by decide)) dX2_put_131 (fun H locs hG => ?_)
        obtain ⟨g_20, eg_20⟩ : ∃ z, z = gi g_19 0 5 (0 : Int32) := ⟨_, rfl⟩
        rw [← eg_20] at hG
        have hw := hw g_20 eg_20
        refine lv_iload hx hb dX2_put_134 (lv_at hl 0 rfl) ?_
        exact vx_ret (g_iret hx hb hr hlocks hw hG (by decide) (by decide) dX2_put_136)
      · have hw := hw.2 c_8
        exact g_throwS (own := RX2) (cls := "java/lang/IllegalArgumentException") (text := "goal is from itself") (names := ["java/lang/RuntimeException", "java/lang/Exception"]) hx hb hl9 hown (by decide +kernel) (by decide +kernel) (hq _ q_169) (hq _ q_27) hE (by decide +kernel) (hat_IAE_58 hq hE) hgd_IAE_58 (hl.1.trans hml.symm) hN hlocks hw hG dX2_put_51 dX2_put_54 dX2_put_55 dX2_put_57 dX2_put_60 (Nat.le_of_ble_eq_true rfl) (Nat.le_of_ble_eq_true rfl) (Nat.le_of_ble_eq_true rfl) (Nat.le_of_ble_eq_true rfl) (by decide) (by decide)
    · have hw := hw.2 c_7
      refine lv_iload_n hx hb dX2_put_29 rfl (lv_at hl 4 rfl) ?_
      refine g_calli (va_runS (As := [.int p3]) (rest := []) ⟨hx, hb, hml, hown, hts⟩ (m_X2_isStation hl9 D K sa ad _ _ p3 g_4 hw) (cwS 1 hts (gGood gCons (gSt q_305 q_306 q_20 q_307)) rfl rfl rfl (by decide +kernel) ⟨Nat.le_of_ble_eq_true rfl, Nat.le_of_ble_eq_true rfl⟩) ⟨gPc_blind, gPc_at hE hG hA⟩ rfl rfl hl.1 rfl (lv_room (Nat.le_of_ble_eq_true rfl)) dX2_put_30 ⟨Nat.le_of_ble_eq_true rfl, Nat.le_of_ble_eq_true rfl⟩) hG hA (fun r_22 g_21 H locs hw hG => ?_)
      try dsimp only at hw
      refine lv_if_ne (tgt := 46) hx hb dX2_put_33 (by decide) (fun c_23 => ?_) (fun c_23 => ?_)
      · have hw := hw.1 c_23
        refine lv_iload_n hx hb dX2_put_46 rfl (lv_at hl 4 rfl) ?_
        refine lv_iload_n hx hb dX2_put_47 rfl (lv_at hl 3 rfl) ?_
        refine lv_icmp_ne (tgt := 61) hx hb dX2_put_48 (by decide) (fun c_24 => ?_) (fun c_24 => ?_)
        · have hw := hw.1 c_24
          refine lv_aload_n hx hb dX2_put_61 rfl (lv_at hl 1 rfl) ?_
          refine g_get (own := RX2) (C := RX2) (T := TX2) (N := 11) (ci := 2) hx hb hq hin_X2 hown hK hG (k := 0) (gok_lo (by decide)) (gc_W) rfl 7 (by decide) (hq _ q_125) rfl (v := .ref (ad 1513)) rfl dX2_put_62 ?_
          refine lv_iload_n hx hb dX2_put_65 rfl (lv_at hl 2 rfl) ?_
          refine g_putN (own := RX2) (C := RX0) (T := TX0) (N := 9) (ci := 0) hx hb hq hin_X0 tyX0 tyX0_ok nmX0 hown hK hG (k := 1000 + 513) (gok_A (by decide)) (gc_A) rfl 1 (by decide) (hE.2.1 ("WireBench", 111, "WireBench$Arrival", "net", "I", "WireBench") (by decide +kernel)) rfl rfl (ty := .int) (v := .int p1) (by decide +kernel) rfl rfl (Nat.le_of_ble_eq_true rfl) (gi g_21 31 513 p1) (gs_A31) (gho_A ⟨by decide, by decide⟩) dX2_put_66 (fun H locs hG => ?_)
          obtain ⟨g_25, eg_25⟩ : ∃ z, z = gi g_21 31 513 p1 := ⟨_, rfl⟩
          rw [← eg_25] at hG
          have hw := hw g_25 eg_25
          refine lv_aload_n hx hb dX2_put_69 rfl (lv_at hl 1 rfl) ?_
          refine g_get (own := RX2) (C := RX2) (T := TX2) (N := 11) (ci := 2) hx hb hq hin_X2 hown hK hG (k := 0) (gok_lo (by decide)) (gc_W) rfl 7 (by decide) (hq _ q_125) rfl (v := .ref (ad 1513)) rfl dX2_put_70 ?_
          refine lv_iload_n hx hb dX2_put_73 rfl (lv_at hl 3 rfl) ?_
          refine g_putN (own := RX2) (C := RX0) (T := TX0) (N := 9) (ci := 0) hx hb hq hin_X0 tyX0 tyX0_ok nmX0 hown hK hG (k := 1000 + 513) (gok_A (by decide)) (gc_A) rfl 2 (by decide) (hE.2.1 ("WireBench", 114, "WireBench$Arrival", "station", "I", "WireBench") (by decide +kernel)) rfl rfl (ty := .int) (v := .int p2) (by decide +kernel) rfl rfl (Nat.le_of_ble_eq_true rfl) (gi g_25 32 513 p2) (gs_A32) (gho_A ⟨by decide, by decide⟩) dX2_put_74 (fun H locs hG => ?_)
          obtain ⟨g_26, eg_26⟩ : ∃ z, z = gi g_25 32 513 p2 := ⟨_, rfl⟩
          rw [← eg_26] at hG
          have hw := hw g_26 eg_26
          refine lv_aload_n hx hb dX2_put_77 rfl (lv_at hl 1 rfl) ?_
          refine g_get (own := RX2) (C := RX2) (T := TX2) (N := 11) (ci := 2) hx hb hq hin_X2 hown hK hG (k := 0) (gok_lo (by decide)) (gc_W) rfl 7 (by decide) (hq _ q_125) rfl (v := .ref (ad 1513)) rfl dX2_put_78 ?_
          refine lv_iload_n hx hb dX2_put_81 rfl (lv_at hl 4 rfl) ?_
          refine g_putN (own := RX2) (C := RX0) (T := TX0) (N := 9) (ci := 0) hx hb hq hin_X0 tyX0 tyX0_ok nmX0 hown hK hG (k := 1000 + 513) (gok_A (by decide)) (gc_A) rfl 3 (by decide) (hE.2.1 ("WireBench", 117, "WireBench$Arrival", "goal", "I", "WireBench") (by decide +kernel)) rfl rfl (ty := .int) (v := .int p3) (by decide +kernel) rfl rfl (Nat.le_of_ble_eq_true rfl) (gi g_26 33 513 p3) (gs_A33) (gho_A ⟨by decide, by decide⟩) dX2_put_82 (fun H locs hG => ?_)
          obtain ⟨g_27, eg_27⟩ : ∃ z, z = gi g_26 33 513 p3 := ⟨_, rfl⟩
          rw [← eg_27] at hG
          have hw := hw g_27 eg_27
          refine lv_aload_n hx hb dX2_put_85 rfl (lv_at hl 1 rfl) ?_
          refine g_get (own := RX2) (C := RX2) (T := TX2) (N := 11) (ci := 2) hx hb hq hin_X2 hown hK hG (k := 0) (gok_lo (by decide)) (gc_W) rfl 7 (by decide) (hq _ q_125) rfl (v := .ref (ad 1513)) rfl dX2_put_86 ?_
          refine lv_iload hx hb dX2_put_89 (lv_at hl 5 rfl) ?_
          refine g_putN (own := RX2) (C := RX0) (T := TX0) (N := 9) (ci := 0) hx hb hq hin_X0 tyX0 tyX0_ok nmX0 hown hK hG (k := 1000 + 513) (gok_A (by decide)) (gc_A) rfl 4 (by decide) (hE.2.1 ("WireBench", 120, "WireBench$Arrival", "number", "I", "WireBench") (by decide +kernel)) rfl rfl (ty := .int) (v := .int p4) (by decide +kernel) rfl rfl (Nat.le_of_ble_eq_true rfl) (gi g_27 34 513 p4) (gs_A34) (gho_A ⟨by decide, by decide⟩) dX2_put_91 (fun H locs hG => ?_)
          obtain ⟨g_28, eg_28⟩ : ∃ z, z = gi g_27 34 513 p4 := ⟨_, rfl⟩
          rw [← eg_28] at hG
          have hw := hw g_28 eg_28
          refine lv_aload_n hx hb dX2_put_94 rfl (lv_at hl 1 rfl) ?_
          refine g_get (own := RX2) (C := RX2) (T := TX2) (N := 11) (ci := 2) hx hb hq hin_X2 hown hK hG (k := 0) (gok_lo (by decide)) (gc_W) rfl 7 (by decide) (hq _ q_125) rfl (v := .ref (ad 1513)) rfl dX2_put_95 ?_
          refine lv_aload_n hx hb dX2_put_98 rfl (lv_at hl 1 rfl) ?_
          refine g_get (own := RX2) (C := RX2) (T := TX2) (N := 11) (ci := 2) hx hb hq hin_X2 hown hK hG (k := 0) (gok_lo (by decide)) (gc_W) rfl 10 (by decide) (hq _ q_128) rfl (v := .int (g_28.1 0 5)) rfl dX2_put_99 ?_
          refine lv_topi (fun x_29 ex_29 => ?_)
          have hw := hw x_29 ex_29
          refine g_putN (own := RX2) (C := RX0) (T := TX0) (N := 9) (ci := 0) hx hb hq hin_X0 tyX0 tyX0_ok nmX0 hown hK hG (k := 1000 + 513) (gok_A (by decide)) (gc_A) rfl 6 (by decide) (hE.2.1 ("WireBench", 123, "WireBench$Arrival", "whole", "I", "WireBench") (by decide +kernel)) rfl rfl (ty := .int) (v := .int x_29) (by decide +kernel) rfl rfl (Nat.le_of_ble_eq_true rfl) (gi g_28 36 513 x_29) (gs_A36) (gho_A ⟨by decide, by decide⟩) dX2_put_102 (fun H locs hG => ?_)
          obtain ⟨g_30, eg_30⟩ : ∃ z, z = gi g_28 36 513 x_29 := ⟨_, rfl⟩
          rw [← eg_30] at hG
          have hw := hw g_30 eg_30
          refine lv_aload_n hx hb dX2_put_105 rfl (lv_at hl 1 rfl) ?_
          refine lv_aload hx hb dX2_put_106 (lv_at hl 0 rfl) ?_
          refine g_calli (va_runV (As := [.ref (ad (100 + k_2))]) (rest := []) ⟨hx, hb, hml, hown, hts⟩ (m_X2_sendPayload hl9 D K sa ad _ _ k_2 g_30 hw) (cwV 1 hts (gGood gCons (gV q_311 q_313 q_5 q_20 q_314)) rfl rfl rfl (by decide +kernel) ⟨Nat.le_of_ble_eq_true rfl, Nat.le_of_ble_eq_true rfl⟩) ⟨gPc_blind, g_recv hK hG (gok_lo (by decide)) (gc_W) rfl, gPc_at hE hG hA⟩ rfl rfl hl.1 rfl (lv_room (Nat.le_of_ble_eq_true rfl)) dX2_put_108 ⟨Nat.le_of_ble_eq_true rfl, Nat.le_of_ble_eq_true rfl⟩) hG hA (fun r_32 g_31 H locs hw hG => ?_)
          try dsimp only at hw
          refine lv_istore (lv' := [(6, .int r_32), (5, .ref (ad (100 + k_2))), (0, .ref (ad 0)), (1, .int p1), (2, .int p2), (3, .int p3), (4, .int p4)]) hx hb dX2_put_111 hl (by decide) rfl (fun ls hl => ?_)
          refine lv_aload_n hx hb dX2_put_113 rfl (lv_at hl 2 rfl) ?_
          refine lv_aload_n hx hb dX2_put_114 rfl (lv_at hl 2 rfl) ?_
          refine g_get (own := RX2) (C := RX2) (T := TX2) (N := 11) (ci := 2) hx hb hq hin_X2 hown hK hG (k := 0) (gok_lo (by decide)) (gc_W) rfl 9 (by decide) (hq _ q_127) rfl (v := .int (g_31.1 0 4)) rfl dX2_put_115 ?_
          refine lv_aload_n hx hb dX2_put_118 rfl (lv_at hl 2 rfl) ?_
          refine g_get (own := RX2) (C := RX2) (T := TX2) (N := 11) (ci := 2) hx hb hq hin_X2 hown hK hG (k := 0) (gok_lo (by decide)) (gc_W) rfl 10 (by decide) (hq _ q_128) rfl (v := .int (g_31.1 0 5)) rfl dX2_put_119 ?_
          refine lv_iadd hx hb dX2_put_122 ?_
          refine g_calli (va_runS (As := [.int ((g_31.1 0 4) + (g_31.1 0 5))]) (rest := [.ref (ad 0)]) ⟨hx, hb, hml, hown, hts⟩ (m_X2_ringPlace hl9 D K sa ad _ _ ((g_31.1 0 4) + (g_31.1 0 5)) g_31 hw) (cwS 1 hts (gGood gCons (gSt q_295 q_296 q_20 q_297)) rfl rfl rfl (by decide +kernel) ⟨Nat.le_of_ble_eq_true rfl, Nat.le_of_ble_eq_true rfl⟩) ⟨gPc_blind, gPc_at hE hG hA⟩ rfl rfl hl.1 rfl (lv_room (Nat.le_of_ble_eq_true rfl)) dX2_put_123 ⟨Nat.le_of_ble_eq_true rfl, Nat.le_of_ble_eq_true rfl⟩) hG hA (fun r_34 g_33 H locs hw hG => ?_)
          try dsimp only at hw
          refine g_put (own := RX2) (C := RX2) (T := TX2) (N := 11) (ci := 2) hx hb hq hin_X2 tyX2 tyX2_ok nmX2 hown hK hG (k := 0) (gok_lo (by decide)) (gc_W) rfl 9 (by decide) (hq _ q_127) rfl rfl (ty := .int) (v := .int r_34) (by decide +kernel) rfl rfl (Nat.le_of_ble_eq_true rfl) (gi g_33 0 4 r_34) (gs_W4) (gho_lo (by decide)) dX2_put_126 (fun H locs hG => ?_)
          obtain ⟨g_35, eg_35⟩ : ∃ z, z = gi g_33 0 4 r_34 := ⟨_, rfl⟩
          rw [← eg_35] at hG
          have hw := hw g_35 eg_35
          refine lv_aload_n hx hb dX2_put_129 rfl (lv_at hl 2 rfl) ?_
          refine lv_iconst (v := 0) hx hb dX2_put_130 (by decide) ?_
          refine g_put (own := RX2) (C := RX2) (T := TX2) (N := 11) (ci := 2) hx hb hq hin_X2 tyX2 tyX2_ok nmX2 hown hK hG (k := 0) (gok_lo (by decide)) (gc_W) rfl 10 (by decide) (hq _ q_128) rfl rfl (ty := .int) (v := .int 0) (by decide +kernel) rfl rfl (Nat.le_of_ble_eq_true rfl) (gi g_35 0 5 (0 : Int32)) (gs_W5) (gho_lo (by decide)) dX2_put_131 (fun H locs hG => ?_)
          obtain ⟨g_36, eg_36⟩ : ∃ z, z = gi g_35 0 5 (0 : Int32) := ⟨_, rfl⟩
          rw [← eg_36] at hG
          have hw := hw g_36 eg_36
          refine lv_iload hx hb dX2_put_134 (lv_at hl 0 rfl) ?_
          exact vx_ret (g_iret hx hb hr hlocks hw hG (by decide) (by decide) dX2_put_136)
        · have hw := hw.2 c_24
          exact g_throwS (own := RX2) (cls := "java/lang/IllegalArgumentException") (text := "goal is from itself") (names := ["java/lang/RuntimeException", "java/lang/Exception"]) hx hb hl9 hown (by decide +kernel) (by decide +kernel) (hq _ q_169) (hq _ q_27) hE (by decide +kernel) (hat_IAE_58 hq hE) hgd_IAE_58 (hl.1.trans hml.symm) hN hlocks hw hG dX2_put_51 dX2_put_54 dX2_put_55 dX2_put_57 dX2_put_60 (Nat.le_of_ble_eq_true rfl) (Nat.le_of_ble_eq_true rfl) (Nat.le_of_ble_eq_true rfl) (Nat.le_of_ble_eq_true rfl) (by decide) (by decide)
      · have hw := hw.2 c_23
        exact g_throwS (own := RX2) (cls := "java/lang/IllegalArgumentException") (text := "goal is not -1 .. 7") (names := ["java/lang/RuntimeException", "java/lang/Exception"]) hx hb hl9 hown (by decide +kernel) (by decide +kernel) (hq _ q_169) (hq _ q_27) hE (by decide +kernel) (hat_IAE_58 hq hE) hgd_IAE_58 (hl.1.trans hml.symm) hN hlocks hw hG dX2_put_36 dX2_put_39 dX2_put_40 dX2_put_42 dX2_put_45 (Nat.le_of_ble_eq_true rfl) (Nat.le_of_ble_eq_true rfl) (Nat.le_of_ble_eq_true rfl) (Nat.le_of_ble_eq_true rfl) (by decide) (by decide)
  · have hw := hw.2 c_6
    exact g_throwS (own := RX2) (cls := "java/lang/IllegalArgumentException") (text := "from is not 0 .. 7") (names := ["java/lang/RuntimeException", "java/lang/Exception"]) hx hb hl9 hown (by decide +kernel) (by decide +kernel) (hq _ q_169) (hq _ q_27) hE (by decide +kernel) (hat_IAE_58 hq hE) hgd_IAE_58 (hl.1.trans hml.symm) hN hlocks hw hG dX2_put_14 dX2_put_17 dX2_put_18 dX2_put_20 dX2_put_23 (Nat.le_of_ble_eq_true rfl) (Nat.le_of_ble_eq_true rfl) (Nat.le_of_ble_eq_true rfl) (Nat.le_of_ble_eq_true rfl) (by decide) (by decide)

def wp_X2_pass (post : Int32 → gS → Prop) (px : String × gS → Prop) (p1 : Int32) (g : gS) : Prop := ((p1 < 0) → (px ("java/lang/IllegalArgumentException", g))) ∧ ((¬ p1 < 0) → (((p1 ≤ 1000) → (((((g.1 0 1) + p1) ≤ 1000000) → (∀ x_4 : Int32, x_4 = (g.1 0 1) + p1 → (∀ g_5 : gS, g_5 = gi g 0 1 x_4 → (wp_X2_countDue (fun r_7 g_6 => (post r_7 g_6))  g_5)))) ∧ ((¬ ((g.1 0 1) + p1) ≤ 1000000) → (px ("java/lang/IllegalStateException", g))))) ∧ ((¬ p1 ≤ 1000) → (px ("java/lang/IllegalArgumentException", g)))))
set_option maxHeartbeats 4000000 in
set_option maxRecDepth 100000 in
theorem m_X2_pass {l : Launch} (hl9 : l.stackTraces = false) (D : va_G) (K : Nat → ClassId) (sa ad : Nat → Nat) (sz : Nat) (post : Int32 → gS → Prop) (px : String × gS → Prop) (p1 : Int32) (g : gS) (hw : wp_X2_pass post px p1 g) : vx_Met l yX2_pass wsX2_pass ({ frames := 6, cells := 1, slots := 6, locals := 91 } : Room) (gPc D K sa ad sz g [.ref (ad 0), .int p1]) (va_Qi post (gB D K ad (va_A (gw K ad g) sz)) (va_A (gw K ad g) sz)) (vx_X px (gBX D K ad (va_A (gw K ad g) sz)) (va_A (gw K ad g) sz)) 1 6 (va_A (gw K ad g) sz) := by
  refine vx_ofW (cc := cX2_pass) (maxL := 2) (ret := (some .int)) (by decide) rfl ?_
  intro p e s m args below meth c s₁ B hml hN hv
  obtain ⟨rfl, hsz, hP, hE, hD0⟩ := hv
  have hx := B.exec
  have hb := B.bytes
  have hr := B.returns
  have hts := atoms_spec (ws := wsX2_pass) B.pre
  have hq : ∀ w ∈ gW, w.before _ s = true := fun w h => hts w (List.mem_cons_of_mem _ h)
  have hown : s.vm.findClass RX2 = some m.cls := findClass_of_methodNamed B.named
  have hlocks := B.notSynchronized
  subst hsz
  have hD := hD0.self (sz := s.heap.size)
  generalize hAe : va_A (gw K ad g) s.heap.size = A at hD hE ⊢
  have hA : ∀ q : Nat, s.heap.size ≤ q → A q := fun q h => by rw [← hAe]; exact Or.inr h
  have hK := hE.1
  have hG : gX D K ad A s.heap g s.heap [] := ⟨hP, hD, va_S.rf⟩
  have hl := lv_entry ([.ref (ad 0), .int p1]) (n := 2) (Nat.le_of_ble_eq_true rfl)
  rw [lg_entry_eq]
  generalize (lg_sl ([.ref (ad 0), .int p1]) ++ List.replicate (2 - (lg_sl ([.ref (ad 0), .int p1])).length) Slot.unset).toArray = ls at hl ⊢
  have hl : lv_has ls 2 [(0, .ref (ad 0)), (1, .int p1)] := hl
  dsimp only [wp_X2_pass] at hw
  refine lv_iload_n hx hb dX2_pass_0 rfl (lv_at hl 1 rfl) ?_
  refine lv_if_lt (tgt := 11) hx hb dX2_pass_1 (by decide) (fun c_1 => ?_) (fun c_1 => ?_)
  · have hw := hw.1 c_1
    exact g_throwS (own := RX2) (cls := "java/lang/IllegalArgumentException") (text := "n is not 0 .. 1000") (names := ["java/lang/RuntimeException", "java/lang/Exception"]) hx hb hl9 hown (by decide +kernel) (by decide +kernel) (hq _ q_169) (hq _ q_27) hE (by decide +kernel) (hat_IAE_58 hq hE) hgd_IAE_58 (hl.1.trans hml.symm) hN hlocks hw hG dX2_pass_11 dX2_pass_14 dX2_pass_15 dX2_pass_17 dX2_pass_20 (Nat.le_of_ble_eq_true rfl) (Nat.le_of_ble_eq_true rfl) (Nat.le_of_ble_eq_true rfl) (Nat.le_of_ble_eq_true rfl) (by decide) (by decide)
  · have hw := hw.2 c_1
    refine lv_iload_n hx hb dX2_pass_4 rfl (lv_at hl 1 rfl) ?_
    refine lv_sipush (v := 1000) hx hb dX2_pass_5 (by decide) ?_
    refine lv_icmp_le (tgt := 21) hx hb dX2_pass_8 (by decide) (fun c_2 => ?_) (fun c_2 => ?_)
    · have hw := hw.1 c_2
      refine lv_aload_n hx hb dX2_pass_21 rfl (lv_at hl 0 rfl) ?_
      refine g_get (own := RX2) (C := RX2) (T := TX2) (N := 11) (ci := 2) hx hb hq hin_X2 hown hK hG (k := 0) (gok_lo (by decide)) (gc_W) rfl 2 (by decide) (hq _ q_120) rfl (v := .int (g.1 0 1)) rfl dX2_pass_22 ?_
      refine lv_iload_n hx hb dX2_pass_25 rfl (lv_at hl 1 rfl) ?_
      refine lv_iadd hx hb dX2_pass_26 ?_
      refine lv_ldc (own := RX2) (v := 1000000) hx hb hown (hq _ q_353) dX2_pass_27 ?_
      refine lv_icmp_le (tgt := 42) hx hb dX2_pass_29 (by decide) (fun c_3 => ?_) (fun c_3 => ?_)
      · have hw := hw.1 c_3
        refine lv_aload_n hx hb dX2_pass_42 rfl (lv_at hl 0 rfl) ?_
        refine lv_dup hx hb dX2_pass_43 rfl ?_
        refine g_get (own := RX2) (C := RX2) (T := TX2) (N := 11) (ci := 2) hx hb hq hin_X2 hown hK hG (k := 0) (gok_lo (by decide)) (gc_W) rfl 2 (by decide) (hq _ q_120) rfl (v := .int (g.1 0 1)) rfl dX2_pass_44 ?_
        refine lv_iload_n hx hb dX2_pass_47 rfl (lv_at hl 1 rfl) ?_
        refine lv_iadd hx hb dX2_pass_48 ?_
        refine lv_topi (fun x_4 ex_4 => ?_)
        have hw := hw x_4 ex_4
        refine g_put (own := RX2) (C := RX2) (T := TX2) (N := 11) (ci := 2) hx hb hq hin_X2 tyX2 tyX2_ok nmX2 hown hK hG (k := 0) (gok_lo (by decide)) (gc_W) rfl 2 (by decide) (hq _ q_120) rfl rfl (ty := .int) (v := .int x_4) (by decide +kernel) rfl rfl (Nat.le_of_ble_eq_true rfl) (gi g 0 1 x_4) (gs_W1) (gho_lo (by decide)) dX2_pass_49 (fun H locs hG => ?_)
        obtain ⟨g_5, eg_5⟩ : ∃ z, z = gi g 0 1 x_4 := ⟨_, rfl⟩
        rw [← eg_5] at hG
        have hw := hw g_5 eg_5
        refine lv_aload_n hx hb dX2_pass_52 rfl (lv_at hl 0 rfl) ?_
        refine g_calli (va_runV (As := []) (rest := []) ⟨hx, hb, hml, hown, hts⟩ (m_X2_countDue hl9 D K sa ad _ _  g_5 hw) (cwV 0 hts (gGood gCons (gV q_355 q_357 q_12 q_20 q_358)) rfl rfl rfl (by decide +kernel) ⟨Nat.le_of_ble_eq_true rfl, Nat.le_of_ble_eq_true rfl⟩) ⟨gPc_blind, g_recv hK hG (gok_lo (by decide)) (gc_W) rfl, gPc_at hE hG hA⟩ rfl rfl hl.1 rfl (lv_room (Nat.le_of_ble_eq_true rfl)) dX2_pass_53 ⟨Nat.le_of_ble_eq_true rfl, Nat.le_of_ble_eq_true rfl⟩) hG hA (fun r_7 g_6 H locs hw hG => ?_)
        try dsimp only at hw
        exact vx_ret (g_iret hx hb hr hlocks hw hG (by decide) (by decide) dX2_pass_56)
      · have hw := hw.2 c_3
        exact g_throwS (own := RX2) (cls := "java/lang/IllegalStateException") (text := "the time would be more than 1000000") (names := ["java/lang/RuntimeException", "java/lang/Exception"]) hx hb hl9 hown (by decide +kernel) (by decide +kernel) (hq _ q_237) (hq _ q_28) hE (by decide +kernel) (hat_ISE_67 hq hE) hgd_ISE_67 (hl.1.trans hml.symm) hN hlocks hw hG dX2_pass_32 dX2_pass_35 dX2_pass_36 dX2_pass_38 dX2_pass_41 (Nat.le_of_ble_eq_true rfl) (Nat.le_of_ble_eq_true rfl) (Nat.le_of_ble_eq_true rfl) (Nat.le_of_ble_eq_true rfl) (by decide) (by decide)
    · have hw := hw.2 c_2
      exact g_throwS (own := RX2) (cls := "java/lang/IllegalArgumentException") (text := "n is not 0 .. 1000") (names := ["java/lang/RuntimeException", "java/lang/Exception"]) hx hb hl9 hown (by decide +kernel) (by decide +kernel) (hq _ q_169) (hq _ q_27) hE (by decide +kernel) (hat_IAE_58 hq hE) hgd_IAE_58 (hl.1.trans hml.symm) hN hlocks hw hG dX2_pass_11 dX2_pass_14 dX2_pass_15 dX2_pass_17 dX2_pass_20 (Nat.le_of_ble_eq_true rfl) (Nat.le_of_ble_eq_true rfl) (Nat.le_of_ble_eq_true rfl) (Nat.le_of_ble_eq_true rfl) (by decide) (by decide)

def wpl_X2_next_45 (post : Int32 → gS → Prop) : Nat → Nat → Int32 → gS → Prop
  | 0 => fun _ _ _ => False
  | n + 1 => fun x1 x2 g => x1 < 514 ∧ ((((g.1 0 2) ≤ x2) → (g.2.2.1 < 514 ∧ (vp_in (g.1 0 2) 512 ∧ (∀ g_12 : gS, g_12 = gp g ((g.1 0 2).toNatClampNeg) g.2.2.1 → (∀ g_13 : gS, g_13 = gt g_12 x1 → (∀ g_14 : gS, g_14 = gi g_13 0 3 (1 : Int32) → (post 1 g_14))))))) ∧ ((¬ (g.1 0 2) ≤ x2) → (∀ i_15 : Int32, i_15 = x2 + 1 → (vp_in i_15 512 ∧ (g.2.1 i_15.toNatClampNeg < 514 ∧ (vp_in x2 512 ∧ (∀ g_19 : gS, g_19 = gp g x2.toNatClampNeg (g.2.1 i_15.toNatClampNeg) → (∀ x_20 : Int32, x_20 = x2 + 1 → (wpl_X2_next_45 post n x1 x_20 g_19)))))))))
set_option maxHeartbeats 4000000 in
set_option maxRecDepth 100000 in
theorem L_X2_next_45 {p : Program} {l : Launch} {e : Env} {s : State} {m : MethodId} {args : Array Value} {below : List Frame} {meth : Method} {c : Code} {D : va_G} {K : Nat → ClassId} {sa ad : Nat → Nat} {A : Nat → Prop} (post : Int32 → gS → Prop) (hl9 : l.stackTraces = false) (hx : p.tables.exec = Jvm.exec) (hb : c.code = cX2_next) (hr : meth.sig.returnType = (some .boolean)) (hml : c.maxLocals = 3) (hown : s.vm.findClass RX2 = some m.cls) (hts : ∀ w ∈ wsX2_next, w.before args s = true) (hlocks : meth.locks = false) (hA : ∀ q, s.heap.size ≤ q → A q) (hE : gE D K sa A s s.heap) : ∀ (n : Nat) (x1 : Nat) (x2 : Int32) (g : gS), wpl_X2_next_45 post n x1 x2 g → ∀ (H : Heap) (locs : List Loc) (ls : Array Slot), gX D K ad A s.heap g H locs → lv_has ls 3 [(0, .ref (ad 0)), (1, .ref (ad (1000 + x1))), (2, .int x2)] → W p l e ({ frames := 0, cells := 0, slots := 0, locals := 0 } : Room) s m args below meth c H locs 0 0 (MQ below (va_Qi post (gB D K ad A) A) args s 0 0 A) (F0 m 45 ls []) := by
  have hK := hE.1
  have hq : ∀ w ∈ gW, w.before args s = true := fun w h => hts w (List.mem_cons_of_mem _ h)
  intro n
  induction n with
  | zero =>
    intro x1 x2 g hw
    exact hw.elim
  | succ n ih =>
    intro x1 x2 g hw H locs ls hG hl
    dsimp only [wpl_X2_next_45] at hw
    obtain ⟨hx1, hw⟩ := hw
    refine lv_iload_n hx hb dX2_next_45 rfl (lv_at hl 2 rfl) ?_
    refine lv_aload_n hx hb dX2_next_46 rfl (lv_at hl 0 rfl) ?_
    refine g_get (own := RX2) (C := RX2) (T := TX2) (N := 11) (ci := 2) hx hb hq hin_X2 hown hK hG (k := 0) (gok_lo (by decide)) (gc_W) rfl 4 (by decide) (hq _ q_122) rfl (v := .int (g.1 0 2)) rfl dX2_next_47 ?_
    refine lv_icmp_ge (tgt := 73) hx hb dX2_next_50 (by decide) (fun c_9 => ?_) (fun c_9 => ?_)
    · have hw := hw.1 c_9
      refine lv_aload_n hx hb dX2_next_73 rfl (lv_at hl 0 rfl) ?_
      refine g_get (own := RX2) (C := RX2) (T := TX2) (N := 11) (ci := 2) hx hb hq hin_X2 hown hK hG (k := 0) (gok_lo (by decide)) (gc_W) rfl 3 (by decide) (hq _ q_121) rfl (v := .ref (ad 2)) rfl dX2_next_74 ?_
      refine lv_aload_n hx hb dX2_next_77 rfl (lv_at hl 0 rfl) ?_
      refine g_get (own := RX2) (C := RX2) (T := TX2) (N := 11) (ci := 2) hx hb hq hin_X2 hown hK hG (k := 0) (gok_lo (by decide)) (gc_W) rfl 4 (by decide) (hq _ q_122) rfl (v := .int (g.1 0 2)) rfl dX2_next_78 ?_
      refine lv_aload_n hx hb dX2_next_81 rfl (lv_at hl 0 rfl) ?_
      obtain ⟨hk_10, hw⟩ := hw
      refine g_get (own := RX2) (C := RX2) (T := TX2) (N := 11) (ci := 2) hx hb hq hin_X2 hown hK hG (k := 0) (gok_lo (by decide)) (gc_W) rfl 5 (by decide) (hq _ q_123) rfl (v := .ref (ad (1000 + g.2.2.1))) rfl dX2_next_82 ?_
      obtain ⟨hi_11, hw⟩ := hw
      refine g_astA hx hb hK hG (j := g.2.2.1) hk_10 hi_11 dX2_next_85 (fun H locs hG => ?_)
      obtain ⟨g_12, eg_12⟩ : ∃ z, z = gp g ((g.1 0 2).toNatClampNeg) g.2.2.1 := ⟨_, rfl⟩
      rw [← eg_12] at hG
      have hw := hw g_12 eg_12
      refine lv_aload_n hx hb dX2_next_86 rfl (lv_at hl 0 rfl) ?_
      refine lv_aload_n hx hb dX2_next_87 rfl (lv_at hl 1 rfl) ?_
      refine g_put (own := RX2) (C := RX2) (T := TX2) (N := 11) (ci := 2) hx hb hq hin_X2 tyX2 tyX2_ok nmX2 hown hK hG (k := 0) (gok_lo (by decide)) (gc_W) rfl 5 (by decide) (hq _ q_123) rfl rfl (ty := .object "WireBench$Arrival") (v := .ref (ad (1000 + x1))) (by decide +kernel) rfl rfl (Nat.le_of_ble_eq_true rfl) (gt g_12 x1) (gs_Wt) (gho_t) dX2_next_88 (fun H locs hG => ?_)
      obtain ⟨g_13, eg_13⟩ : ∃ z, z = gt g_12 x1 := ⟨_, rfl⟩
      rw [← eg_13] at hG
      have hw := hw g_13 eg_13
      refine lv_aload_n hx hb dX2_next_91 rfl (lv_at hl 0 rfl) ?_
      refine lv_iconst (v := 1) hx hb dX2_next_92 (by decide) ?_
      refine g_put (own := RX2) (C := RX2) (T := TX2) (N := 11) (ci := 2) hx hb hq hin_X2 tyX2 tyX2_ok nmX2 hown hK hG (k := 0) (gok_lo (by decide)) (gc_W) rfl 6 (by decide) (hq _ q_124) rfl rfl (ty := .boolean) (v := .int 1) (by decide +kernel) (by decide) (by decide) (Nat.le_of_ble_eq_true rfl) (gi g_13 0 3 (1 : Int32)) (gs_W3) (gho_lo (by decide)) dX2_next_93 (fun H locs hG => ?_)
      obtain ⟨g_14, eg_14⟩ : ∃ z, z = gi g_13 0 3 (1 : Int32) := ⟨_, rfl⟩
      rw [← eg_14] at hG
      have hw := hw g_14 eg_14
      refine lv_iconst (v := 1) hx hb dX2_next_96 (by decide) ?_
      exact g_zret hx hb hr (by decide) hlocks hw hG (by decide) (by decide) dX2_next_97
    · have hw := hw.2 c_9
      refine lv_aload_n hx hb dX2_next_53 rfl (lv_at hl 0 rfl) ?_
      refine g_get (own := RX2) (C := RX2) (T := TX2) (N := 11) (ci := 2) hx hb hq hin_X2 hown hK hG (k := 0) (gok_lo (by decide)) (gc_W) rfl 3 (by decide) (hq _ q_121) rfl (v := .ref (ad 2)) rfl dX2_next_54 ?_
      refine lv_iload_n hx hb dX2_next_57 rfl (lv_at hl 2 rfl) ?_
      refine lv_aload_n hx hb dX2_next_58 rfl (lv_at hl 0 rfl) ?_
      refine g_get (own := RX2) (C := RX2) (T := TX2) (N := 11) (ci := 2) hx hb hq hin_X2 hown hK hG (k := 0) (gok_lo (by decide)) (gc_W) rfl 3 (by decide) (hq _ q_121) rfl (v := .ref (ad 2)) rfl dX2_next_59 ?_
      refine lv_iload_n hx hb dX2_next_62 rfl (lv_at hl 2 rfl) ?_
      refine lv_iconst (v := 1) hx hb dX2_next_63 (by decide) ?_
      refine lv_iadd hx hb dX2_next_64 ?_
      refine lv_topi (fun i_15 ei_15 => ?_)
      have hw := hw i_15 ei_15
      obtain ⟨hi_16, hw⟩ := hw
      obtain ⟨hk_17, hw⟩ := hw
      refine g_aldA hx hb hK hG hi_16 dX2_next_65 ?_
      obtain ⟨hi_18, hw⟩ := hw
      refine g_astA hx hb hK hG (j := g.2.1 i_15.toNatClampNeg) hk_17 hi_18 dX2_next_66 (fun H locs hG => ?_)
      obtain ⟨g_19, eg_19⟩ : ∃ z, z = gp g x2.toNatClampNeg (g.2.1 i_15.toNatClampNeg) := ⟨_, rfl⟩
      rw [← eg_19] at hG
      have hw := hw g_19 eg_19
      obtain ⟨x_20, ex_20⟩ : ∃ y : Int32, y = x2 + 1 := ⟨_, rfl⟩
      have hw := hw x_20 ex_20
      refine lv_iinc (v := x_20) (lv' := [(2, .int x_20), (0, .ref (ad 0)), (1, .ref (ad (1000 + x1)))]) hx hb dX2_next_67 hl (k := 2) rfl (by rw [ex_20]; rfl) (by decide) rfl (fun ls hl => ?_)
      refine lv_goto (tgt := 45) hx hb dX2_next_70 (by decide) ?_
      exact ih x1 x_20 g_19 hw _ _ _ hG (lv_sub hl [1, 2, 0] rfl)
def wp_X2_next (post : Int32 → gS → Prop)  (g : gS) : Prop := (((g.1 0 2) < 1) → (post 0 g)) ∧ ((¬ (g.1 0 2) < 1) → (vp_in (0 : Int32) 512 ∧ (g.2.1 (0 : Int32).toNatClampNeg < 514 ∧ ((((g.1 30 (g.2.1 (0 : Int32).toNatClampNeg)) ≤ (g.1 0 1)) → (vp_in (0 : Int32) 512 ∧ (g.2.1 (0 : Int32).toNatClampNeg < 514 ∧ (∀ x_7 : Int32, x_7 = (g.1 0 2) - 1 → (∀ g_8 : gS, g_8 = gi g 0 2 x_7 → (∃ n, wpl_X2_next_45 post n (g.2.1 (0 : Int32).toNatClampNeg) 0 g_8)))))) ∧ ((¬ (g.1 30 (g.2.1 (0 : Int32).toNatClampNeg)) ≤ (g.1 0 1)) → (post 0 g))))))
set_option maxHeartbeats 4000000 in
set_option maxRecDepth 100000 in
theorem m_X2_next {l : Launch} (hl9 : l.stackTraces = false) (D : va_G) (K : Nat → ClassId) (sa ad : Nat → Nat) (sz : Nat) (post : Int32 → gS → Prop)  (g : gS) (hw : wp_X2_next post  g) : Met l yX2_next wsX2_next ({ frames := 0, cells := 0, slots := 0, locals := 0 } : Room) (gPc D K sa ad sz g [.ref (ad 0)]) (va_Qi post (gB D K ad (va_A (gw K ad g) sz)) (va_A (gw K ad g) sz)) 0 0 (va_A (gw K ad g) sz) := by
  refine Met.ofW (cc := cX2_next) (maxL := 3) (ret := (some .boolean)) (by decide) rfl ?_
  intro p e s m args below meth c s₁ B hml hv
  obtain ⟨rfl, hsz, hP, hE, hD0⟩ := hv
  have hx := B.exec
  have hb := B.bytes
  have hr := B.returns
  have hts := atoms_spec (ws := wsX2_next) B.pre
  have hq : ∀ w ∈ gW, w.before _ s = true := fun w h => hts w (List.mem_cons_of_mem _ h)
  have hown : s.vm.findClass RX2 = some m.cls := findClass_of_methodNamed B.named
  have hlocks := B.notSynchronized
  subst hsz
  have hD := hD0.self (sz := s.heap.size)
  generalize hAe : va_A (gw K ad g) s.heap.size = A at hD hE ⊢
  have hA : ∀ q : Nat, s.heap.size ≤ q → A q := fun q h => by rw [← hAe]; exact Or.inr h
  have hK := hE.1
  have hG : gX D K ad A s.heap g s.heap [] := ⟨hP, hD, va_S.rf⟩
  have hl := lv_entry ([.ref (ad 0)]) (n := 3) (Nat.le_of_ble_eq_true rfl)
  rw [lg_entry_eq]
  generalize (lg_sl ([.ref (ad 0)]) ++ List.replicate (3 - (lg_sl ([.ref (ad 0)])).length) Slot.unset).toArray = ls at hl ⊢
  have hl : lv_has ls 3 [(0, .ref (ad 0))] := hl
  dsimp only [wp_X2_next] at hw
  refine lv_aload_n hx hb dX2_next_0 rfl (lv_at hl 0 rfl) ?_
  refine g_get (own := RX2) (C := RX2) (T := TX2) (N := 11) (ci := 2) hx hb hq hin_X2 hown hK hG (k := 0) (gok_lo (by decide)) (gc_W) rfl 4 (by decide) (hq _ q_122) rfl (v := .int (g.1 0 2)) rfl dX2_next_1 ?_
  refine lv_iconst (v := 1) hx hb dX2_next_4 (by decide) ?_
  refine lv_icmp_lt (tgt := 24) hx hb dX2_next_5 (by decide) (fun c_1 => ?_) (fun c_1 => ?_)
  · have hw := hw.1 c_1
    refine lv_iconst (v := 0) hx hb dX2_next_24 (by decide) ?_
    exact g_zret hx hb hr (by decide) hlocks hw hG (by decide) (by decide) dX2_next_25
  · have hw := hw.2 c_1
    refine lv_aload_n hx hb dX2_next_8 rfl (lv_at hl 0 rfl) ?_
    refine g_get (own := RX2) (C := RX2) (T := TX2) (N := 11) (ci := 2) hx hb hq hin_X2 hown hK hG (k := 0) (gok_lo (by decide)) (gc_W) rfl 3 (by decide) (hq _ q_121) rfl (v := .ref (ad 2)) rfl dX2_next_9 ?_
    refine lv_iconst (v := 0) hx hb dX2_next_12 (by decide) ?_
    obtain ⟨hi_2, hw⟩ := hw
    obtain ⟨hk_3, hw⟩ := hw
    refine g_aldA hx hb hK hG hi_2 dX2_next_13 ?_
    refine g_getN (own := RX2) (C := RX0) (T := TX0) (N := 9) (ci := 0) hx hb hq hin_X0 hown hK hG (k := 1000 + (g.2.1 (0 : Int32).toNatClampNeg)) (gok_A hk_3) (gc_A) rfl 0 (by decide) (hE.2.1 ("WireBench", 139, "WireBench$Arrival", "due", "I", "WireBench") (by decide +kernel)) rfl (v := .int (g.1 30 (g.2.1 (0 : Int32).toNatClampNeg))) rfl dX2_next_14 ?_
    refine lv_aload_n hx hb dX2_next_17 rfl (lv_at hl 0 rfl) ?_
    refine g_get (own := RX2) (C := RX2) (T := TX2) (N := 11) (ci := 2) hx hb hq hin_X2 hown hK hG (k := 0) (gok_lo (by decide)) (gc_W) rfl 2 (by decide) (hq _ q_120) rfl (v := .int (g.1 0 1)) rfl dX2_next_18 ?_
    refine lv_icmp_le (tgt := 26) hx hb dX2_next_21 (by decide) (fun c_4 => ?_) (fun c_4 => ?_)
    · have hw := hw.1 c_4
      refine lv_aload_n hx hb dX2_next_26 rfl (lv_at hl 0 rfl) ?_
      refine g_get (own := RX2) (C := RX2) (T := TX2) (N := 11) (ci := 2) hx hb hq hin_X2 hown hK hG (k := 0) (gok_lo (by decide)) (gc_W) rfl 3 (by decide) (hq _ q_121) rfl (v := .ref (ad 2)) rfl dX2_next_27 ?_
      refine lv_iconst (v := 0) hx hb dX2_next_30 (by decide) ?_
      obtain ⟨hi_5, hw⟩ := hw
      obtain ⟨hk_6, hw⟩ := hw
      refine g_aldA hx hb hK hG hi_5 dX2_next_31 ?_
      refine lv_astore_n (lv' := [(1, .ref (ad (1000 + (g.2.1 (0 : Int32).toNatClampNeg)))), (0, .ref (ad 0))]) hx hb dX2_next_32 rfl hl (by decide) rfl (fun ls hl => ?_)
      refine lv_aload_n hx hb dX2_next_33 rfl (lv_at hl 1 rfl) ?_
      refine lv_dup hx hb dX2_next_34 rfl ?_
      refine g_get (own := RX2) (C := RX2) (T := TX2) (N := 11) (ci := 2) hx hb hq hin_X2 hown hK hG (k := 0) (gok_lo (by decide)) (gc_W) rfl 4 (by decide) (hq _ q_122) rfl (v := .int (g.1 0 2)) rfl dX2_next_35 ?_
      refine lv_iconst (v := 1) hx hb dX2_next_38 (by decide) ?_
      refine lv_isub hx hb dX2_next_39 ?_
      refine lv_topi (fun x_7 ex_7 => ?_)
      have hw := hw x_7 ex_7
      refine g_put (own := RX2) (C := RX2) (T := TX2) (N := 11) (ci := 2) hx hb hq hin_X2 tyX2 tyX2_ok nmX2 hown hK hG (k := 0) (gok_lo (by decide)) (gc_W) rfl 4 (by decide) (hq _ q_122) rfl rfl (ty := .int) (v := .int x_7) (by decide +kernel) rfl rfl (Nat.le_of_ble_eq_true rfl) (gi g 0 2 x_7) (gs_W2) (gho_lo (by decide)) dX2_next_40 (fun H locs hG => ?_)
      obtain ⟨g_8, eg_8⟩ : ∃ z, z = gi g 0 2 x_7 := ⟨_, rfl⟩
      rw [← eg_8] at hG
      have hw := hw g_8 eg_8
      refine lv_iconst (v := 0) hx hb dX2_next_43 (by decide) ?_
      refine lv_istore_n (lv' := [(2, .int 0), (1, .ref (ad (1000 + (g.2.1 (0 : Int32).toNatClampNeg)))), (0, .ref (ad 0))]) hx hb dX2_next_44 rfl hl (by decide) rfl (fun ls hl => ?_)
      obtain ⟨n_21, hw⟩ := hw
      exact L_X2_next_45 post hl9 hx hb hr hml hown hts hlocks hA hE n_21 (g.2.1 (0 : Int32).toNatClampNeg) 0 g_8 hw _ _ _ hG (lv_sub hl [2, 1, 0] rfl)
    · have hw := hw.2 c_4
      refine lv_iconst (v := 0) hx hb dX2_next_24 (by decide) ?_
      exact g_zret hx hb hr (by decide) hlocks hw hG (by decide) (by decide) dX2_next_25

def wp_X2_arrival (post : Int32 → gS → Prop) (px : String × gS → Prop) (p1 : Int32) (g : gS) : Prop := ((p1 < 0) → (px ("java/lang/IllegalArgumentException", g))) ∧ ((¬ p1 < 0) → (((p1 ≤ 6) → (((¬ (g.1 0 3) = 0) → (((p1.toInt < 0 ∨ 5 < p1.toInt) → (g.2.2.1 < 514 ∧ (post (g.1 37 g.2.2.1) g))) ∧ (p1.toInt = 0 → (g.2.2.1 < 514 ∧ (post (g.1 31 g.2.2.1) g))) ∧ (p1.toInt = 1 → (g.2.2.1 < 514 ∧ (post (g.1 32 g.2.2.1) g))) ∧ (p1.toInt = 2 → (g.2.2.1 < 514 ∧ (post (g.1 33 g.2.2.1) g))) ∧ (p1.toInt = 3 → (g.2.2.1 < 514 ∧ (post (g.1 34 g.2.2.1) g))) ∧ (p1.toInt = 4 → (g.2.2.1 < 514 ∧ (post (g.1 35 g.2.2.1) g))) ∧ (p1.toInt = 5 → (g.2.2.1 < 514 ∧ (post (g.1 36 g.2.2.1) g))))) ∧ (((g.1 0 3) = 0) → (px ("java/lang/IllegalStateException", g))))) ∧ ((¬ p1 ≤ 6) → (px ("java/lang/IllegalArgumentException", g)))))
set_option maxHeartbeats 4000000 in
set_option maxRecDepth 100000 in
theorem m_X2_arrival {l : Launch} (hl9 : l.stackTraces = false) (D : va_G) (K : Nat → ClassId) (sa ad : Nat → Nat) (sz : Nat) (post : Int32 → gS → Prop) (px : String × gS → Prop) (p1 : Int32) (g : gS) (hw : wp_X2_arrival post px p1 g) : vx_Met l yX2_arrival wsX2_arrival ({ frames := 6, cells := 1, slots := 6, locals := 91 } : Room) (gPc D K sa ad sz g [.ref (ad 0), .int p1]) (va_Qi post (gB D K ad (va_A (gw K ad g) sz)) (va_A (gw K ad g) sz)) (vx_X px (gBX D K ad (va_A (gw K ad g) sz)) (va_A (gw K ad g) sz)) 1 6 (va_A (gw K ad g) sz) := by
  refine vx_ofW (cc := cX2_arrival) (maxL := 2) (ret := (some .int)) (by decide) rfl ?_
  intro p e s m args below meth c s₁ B hml hN hv
  obtain ⟨rfl, hsz, hP, hE, hD0⟩ := hv
  have hx := B.exec
  have hb := B.bytes
  have hr := B.returns
  have hts := atoms_spec (ws := wsX2_arrival) B.pre
  have hq : ∀ w ∈ gW, w.before _ s = true := fun w h => hts w (List.mem_cons_of_mem _ h)
  have hown : s.vm.findClass RX2 = some m.cls := findClass_of_methodNamed B.named
  have hlocks := B.notSynchronized
  subst hsz
  have hD := hD0.self (sz := s.heap.size)
  generalize hAe : va_A (gw K ad g) s.heap.size = A at hD hE ⊢
  have hA : ∀ q : Nat, s.heap.size ≤ q → A q := fun q h => by rw [← hAe]; exact Or.inr h
  have hK := hE.1
  have hG : gX D K ad A s.heap g s.heap [] := ⟨hP, hD, va_S.rf⟩
  have hl := lv_entry ([.ref (ad 0), .int p1]) (n := 2) (Nat.le_of_ble_eq_true rfl)
  rw [lg_entry_eq]
  generalize (lg_sl ([.ref (ad 0), .int p1]) ++ List.replicate (2 - (lg_sl ([.ref (ad 0), .int p1])).length) Slot.unset).toArray = ls at hl ⊢
  have hl : lv_has ls 2 [(0, .ref (ad 0)), (1, .int p1)] := hl
  dsimp only [wp_X2_arrival] at hw
  refine lv_iload_n hx hb dX2_arrival_0 rfl (lv_at hl 1 rfl) ?_
  refine lv_if_lt (tgt := 10) hx hb dX2_arrival_1 (by decide) (fun c_1 => ?_) (fun c_1 => ?_)
  · have hw := hw.1 c_1
    exact g_throwS (own := RX2) (cls := "java/lang/IllegalArgumentException") (text := "what is not 0 .. 6") (names := ["java/lang/RuntimeException", "java/lang/Exception"]) hx hb hl9 hown (by decide +kernel) (by decide +kernel) (hq _ q_169) (hq _ q_27) hE (by decide +kernel) (hat_IAE_58 hq hE) hgd_IAE_58 (hl.1.trans hml.symm) hN hlocks hw hG dX2_arrival_10 dX2_arrival_13 dX2_arrival_14 dX2_arrival_16 dX2_arrival_19 (Nat.le_of_ble_eq_true rfl) (Nat.le_of_ble_eq_true rfl) (Nat.le_of_ble_eq_true rfl) (Nat.le_of_ble_eq_true rfl) (by decide) (by decide)
  · have hw := hw.2 c_1
    refine lv_iload_n hx hb dX2_arrival_4 rfl (lv_at hl 1 rfl) ?_
    refine lv_bipush (v := 6) hx hb dX2_arrival_5 (by decide) ?_
    refine lv_icmp_le (tgt := 20) hx hb dX2_arrival_7 (by decide) (fun c_2 => ?_) (fun c_2 => ?_)
    · have hw := hw.1 c_2
      refine lv_aload_n hx hb dX2_arrival_20 rfl (lv_at hl 0 rfl) ?_
      refine g_get (own := RX2) (C := RX2) (T := TX2) (N := 11) (ci := 2) hx hb hq hin_X2 hown hK hG (k := 0) (gok_lo (by decide)) (gc_W) rfl 6 (by decide) (hq _ q_124) rfl (v := .int (g.1 0 3)) rfl dX2_arrival_21 ?_
      refine lv_if_ne (tgt := 37) hx hb dX2_arrival_24 (by decide) (fun c_3 => ?_) (fun c_3 => ?_)
      · have hw := hw.1 c_3
        refine lv_iload_n hx hb dX2_arrival_37 rfl (lv_at hl 1 rfl) ?_
        by_cases h_4 : p1.toInt < 0 ∨ 5 < p1.toInt
        · refine lv_tableOut hx hb dX2_arrival_38 h_4 (tgt := 124) (by decide) ?_
          have hw := hw.1 h_4
          refine lv_aload_n hx hb dX2_arrival_124 rfl (lv_at hl 0 rfl) ?_
          obtain ⟨hk_5, hw⟩ := hw
          refine g_get (own := RX2) (C := RX2) (T := TX2) (N := 11) (ci := 2) hx hb hq hin_X2 hown hK hG (k := 0) (gok_lo (by decide)) (gc_W) rfl 5 (by decide) (hq _ q_123) rfl (v := .ref (ad (1000 + g.2.2.1))) rfl dX2_arrival_125 ?_
          refine g_getN (own := RX2) (C := RX0) (T := TX0) (N := 9) (ci := 0) hx hb hq hin_X0 hown hK hG (k := 1000 + g.2.2.1) (gok_A hk_5) (gc_A) rfl 7 (by decide) (hE.2.1 ("WireBench", 149, "WireBench$Arrival", "size", "I", "WireBench") (by decide +kernel)) rfl (v := .int (g.1 37 g.2.2.1)) rfl dX2_arrival_128 ?_
          exact vx_ret (g_iret hx hb hr hlocks hw hG (by decide) (by decide) dX2_arrival_131)
        · have hw := hw.2
          rcases (show p1.toInt = 0 ∨ p1.toInt = 1 ∨ p1.toInt = 2 ∨ p1.toInt = 3 ∨ p1.toInt = 4 ∨ p1.toInt = 5 by omega) with h_4 | h_4 | h_4 | h_4 | h_4 | h_4
          · refine lv_tableIn hx hb dX2_arrival_38 (by omega) (by omega) (by rw [h_4]; rfl) (tgt := 76) (by decide) ?_
            have hw := hw.1 h_4
            refine lv_aload_n hx hb dX2_arrival_76 rfl (lv_at hl 0 rfl) ?_
            obtain ⟨hk_6, hw⟩ := hw
            refine g_get (own := RX2) (C := RX2) (T := TX2) (N := 11) (ci := 2) hx hb hq hin_X2 hown hK hG (k := 0) (gok_lo (by decide)) (gc_W) rfl 5 (by decide) (hq _ q_123) rfl (v := .ref (ad (1000 + g.2.2.1))) rfl dX2_arrival_77 ?_
            refine g_getN (own := RX2) (C := RX0) (T := TX0) (N := 9) (ci := 0) hx hb hq hin_X0 hown hK hG (k := 1000 + g.2.2.1) (gok_A hk_6) (gc_A) rfl 1 (by decide) (hE.2.1 ("WireBench", 111, "WireBench$Arrival", "net", "I", "WireBench") (by decide +kernel)) rfl (v := .int (g.1 31 g.2.2.1)) rfl dX2_arrival_80 ?_
            exact vx_ret (g_iret hx hb hr hlocks hw hG (by decide) (by decide) dX2_arrival_83)
          · refine lv_tableIn hx hb dX2_arrival_38 (by omega) (by omega) (by rw [h_4]; rfl) (tgt := 84) (by decide) ?_
            have hw := hw.2.1 h_4
            refine lv_aload_n hx hb dX2_arrival_84 rfl (lv_at hl 0 rfl) ?_
            obtain ⟨hk_7, hw⟩ := hw
            refine g_get (own := RX2) (C := RX2) (T := TX2) (N := 11) (ci := 2) hx hb hq hin_X2 hown hK hG (k := 0) (gok_lo (by decide)) (gc_W) rfl 5 (by decide) (hq _ q_123) rfl (v := .ref (ad (1000 + g.2.2.1))) rfl dX2_arrival_85 ?_
            refine g_getN (own := RX2) (C := RX0) (T := TX0) (N := 9) (ci := 0) hx hb hq hin_X0 hown hK hG (k := 1000 + g.2.2.1) (gok_A hk_7) (gc_A) rfl 2 (by decide) (hE.2.1 ("WireBench", 114, "WireBench$Arrival", "station", "I", "WireBench") (by decide +kernel)) rfl (v := .int (g.1 32 g.2.2.1)) rfl dX2_arrival_88 ?_
            exact vx_ret (g_iret hx hb hr hlocks hw hG (by decide) (by decide) dX2_arrival_91)
          · refine lv_tableIn hx hb dX2_arrival_38 (by omega) (by omega) (by rw [h_4]; rfl) (tgt := 92) (by decide) ?_
            have hw := hw.2.2.1 h_4
            refine lv_aload_n hx hb dX2_arrival_92 rfl (lv_at hl 0 rfl) ?_
            obtain ⟨hk_8, hw⟩ := hw
            refine g_get (own := RX2) (C := RX2) (T := TX2) (N := 11) (ci := 2) hx hb hq hin_X2 hown hK hG (k := 0) (gok_lo (by decide)) (gc_W) rfl 5 (by decide) (hq _ q_123) rfl (v := .ref (ad (1000 + g.2.2.1))) rfl dX2_arrival_93 ?_
            refine g_getN (own := RX2) (C := RX0) (T := TX0) (N := 9) (ci := 0) hx hb hq hin_X0 hown hK hG (k := 1000 + g.2.2.1) (gok_A hk_8) (gc_A) rfl 3 (by decide) (hE.2.1 ("WireBench", 117, "WireBench$Arrival", "goal", "I", "WireBench") (by decide +kernel)) rfl (v := .int (g.1 33 g.2.2.1)) rfl dX2_arrival_96 ?_
            exact vx_ret (g_iret hx hb hr hlocks hw hG (by decide) (by decide) dX2_arrival_99)
          · refine lv_tableIn hx hb dX2_arrival_38 (by omega) (by omega) (by rw [h_4]; rfl) (tgt := 100) (by decide) ?_
            have hw := hw.2.2.2.1 h_4
            refine lv_aload_n hx hb dX2_arrival_100 rfl (lv_at hl 0 rfl) ?_
            obtain ⟨hk_9, hw⟩ := hw
            refine g_get (own := RX2) (C := RX2) (T := TX2) (N := 11) (ci := 2) hx hb hq hin_X2 hown hK hG (k := 0) (gok_lo (by decide)) (gc_W) rfl 5 (by decide) (hq _ q_123) rfl (v := .ref (ad (1000 + g.2.2.1))) rfl dX2_arrival_101 ?_
            refine g_getN (own := RX2) (C := RX0) (T := TX0) (N := 9) (ci := 0) hx hb hq hin_X0 hown hK hG (k := 1000 + g.2.2.1) (gok_A hk_9) (gc_A) rfl 4 (by decide) (hE.2.1 ("WireBench", 120, "WireBench$Arrival", "number", "I", "WireBench") (by decide +kernel)) rfl (v := .int (g.1 34 g.2.2.1)) rfl dX2_arrival_104 ?_
            exact vx_ret (g_iret hx hb hr hlocks hw hG (by decide) (by decide) dX2_arrival_107)
          · refine lv_tableIn hx hb dX2_arrival_38 (by omega) (by omega) (by rw [h_4]; rfl) (tgt := 108) (by decide) ?_
            have hw := hw.2.2.2.2.1 h_4
            refine lv_aload_n hx hb dX2_arrival_108 rfl (lv_at hl 0 rfl) ?_
            obtain ⟨hk_10, hw⟩ := hw
            refine g_get (own := RX2) (C := RX2) (T := TX2) (N := 11) (ci := 2) hx hb hq hin_X2 hown hK hG (k := 0) (gok_lo (by decide)) (gc_W) rfl 5 (by decide) (hq _ q_123) rfl (v := .ref (ad (1000 + g.2.2.1))) rfl dX2_arrival_109 ?_
            refine g_getN (own := RX2) (C := RX0) (T := TX0) (N := 9) (ci := 0) hx hb hq hin_X0 hown hK hG (k := 1000 + g.2.2.1) (gok_A hk_10) (gc_A) rfl 5 (by decide) (hE.2.1 ("WireBench", 146, "WireBench$Arrival", "from", "I", "WireBench") (by decide +kernel)) rfl (v := .int (g.1 35 g.2.2.1)) rfl dX2_arrival_112 ?_
            exact vx_ret (g_iret hx hb hr hlocks hw hG (by decide) (by decide) dX2_arrival_115)
          · refine lv_tableIn hx hb dX2_arrival_38 (by omega) (by omega) (by rw [h_4]; rfl) (tgt := 116) (by decide) ?_
            have hw := hw.2.2.2.2.2 h_4
            refine lv_aload_n hx hb dX2_arrival_116 rfl (lv_at hl 0 rfl) ?_
            obtain ⟨hk_11, hw⟩ := hw
            refine g_get (own := RX2) (C := RX2) (T := TX2) (N := 11) (ci := 2) hx hb hq hin_X2 hown hK hG (k := 0) (gok_lo (by decide)) (gc_W) rfl 5 (by decide) (hq _ q_123) rfl (v := .ref (ad (1000 + g.2.2.1))) rfl dX2_arrival_117 ?_
            refine g_getN (own := RX2) (C := RX0) (T := TX0) (N := 9) (ci := 0) hx hb hq hin_X0 hown hK hG (k := 1000 + g.2.2.1) (gok_A hk_11) (gc_A) rfl 6 (by decide) (hE.2.1 ("WireBench", 123, "WireBench$Arrival", "whole", "I", "WireBench") (by decide +kernel)) rfl (v := .int (g.1 36 g.2.2.1)) rfl dX2_arrival_120 ?_
            exact vx_ret (g_iret hx hb hr hlocks hw hG (by decide) (by decide) dX2_arrival_123)
      · have hw := hw.2 c_3
        exact g_throwS (own := RX2) (cls := "java/lang/IllegalStateException") (text := "no arrival was taken") (names := ["java/lang/RuntimeException", "java/lang/Exception"]) hx hb hl9 hown (by decide +kernel) (by decide +kernel) (hq _ q_237) (hq _ q_28) hE (by decide +kernel) (hat_ISE_67 hq hE) hgd_ISE_67 (hl.1.trans hml.symm) hN hlocks hw hG dX2_arrival_27 dX2_arrival_30 dX2_arrival_31 dX2_arrival_33 dX2_arrival_36 (Nat.le_of_ble_eq_true rfl) (Nat.le_of_ble_eq_true rfl) (Nat.le_of_ble_eq_true rfl) (Nat.le_of_ble_eq_true rfl) (by decide) (by decide)
    · have hw := hw.2 c_2
      exact g_throwS (own := RX2) (cls := "java/lang/IllegalArgumentException") (text := "what is not 0 .. 6") (names := ["java/lang/RuntimeException", "java/lang/Exception"]) hx hb hl9 hown (by decide +kernel) (by decide +kernel) (hq _ q_169) (hq _ q_27) hE (by decide +kernel) (hat_IAE_58 hq hE) hgd_IAE_58 (hl.1.trans hml.symm) hN hlocks hw hG dX2_arrival_10 dX2_arrival_13 dX2_arrival_14 dX2_arrival_16 dX2_arrival_19 (Nat.le_of_ble_eq_true rfl) (Nat.le_of_ble_eq_true rfl) (Nat.le_of_ble_eq_true rfl) (Nat.le_of_ble_eq_true rfl) (by decide) (by decide)

def wp_X2_byteAt (post : Int32 → gS → Prop) (px : String × gS → Prop) (p1 : Int32) (g : gS) : Prop := ((¬ (g.1 0 3) = 0) → (((p1 < 0) → (px ("java/lang/IndexOutOfBoundsException", g))) ∧ ((¬ p1 < 0) → (g.2.2.1 < 514 ∧ (((p1 < (g.1 37 g.2.2.1)) → (g.2.2.1 < 514 ∧ (wp_X2_ringPlace (fun r_7 g_6 => (vp_in r_7 4096 ∧ (post ((g_6.1 3 r_7.toNatClampNeg) &&& 255) g_6))) ((g.1 38 g.2.2.1) + p1) g))) ∧ ((¬ p1 < (g.1 37 g.2.2.1)) → (px ("java/lang/IndexOutOfBoundsException", g)))))))) ∧ (((g.1 0 3) = 0) → (px ("java/lang/IllegalStateException", g)))
set_option maxHeartbeats 4000000 in
set_option maxRecDepth 100000 in
theorem m_X2_byteAt {l : Launch} (hl9 : l.stackTraces = false) (D : va_G) (K : Nat → ClassId) (sa ad : Nat → Nat) (sz : Nat) (post : Int32 → gS → Prop) (px : String × gS → Prop) (p1 : Int32) (g : gS) (hw : wp_X2_byteAt post px p1 g) : vx_Met l yX2_byteAt wsX2_byteAt ({ frames := 6, cells := 1, slots := 6, locals := 91 } : Room) (gPc D K sa ad sz g [.ref (ad 0), .int p1]) (va_Qi post (gB D K ad (va_A (gw K ad g) sz)) (va_A (gw K ad g) sz)) (vx_X px (gBX D K ad (va_A (gw K ad g) sz)) (va_A (gw K ad g) sz)) 1 6 (va_A (gw K ad g) sz) := by
  refine vx_ofW (cc := cX2_byteAt) (maxL := 2) (ret := (some .int)) (by decide) rfl ?_
  intro p e s m args below meth c s₁ B hml hN hv
  obtain ⟨rfl, hsz, hP, hE, hD0⟩ := hv
  have hx := B.exec
  have hb := B.bytes
  have hr := B.returns
  have hts := atoms_spec (ws := wsX2_byteAt) B.pre
  have hq : ∀ w ∈ gW, w.before _ s = true := fun w h => hts w (List.mem_cons_of_mem _ h)
  have hown : s.vm.findClass RX2 = some m.cls := findClass_of_methodNamed B.named
  have hlocks := B.notSynchronized
  subst hsz
  have hD := hD0.self (sz := s.heap.size)
  generalize hAe : va_A (gw K ad g) s.heap.size = A at hD hE ⊢
  have hA : ∀ q : Nat, s.heap.size ≤ q → A q := fun q h => by rw [← hAe]; exact Or.inr h
  have hK := hE.1
  have hG : gX D K ad A s.heap g s.heap [] := ⟨hP, hD, va_S.rf⟩
  have hl := lv_entry ([.ref (ad 0), .int p1]) (n := 2) (Nat.le_of_ble_eq_true rfl)
  rw [lg_entry_eq]
  generalize (lg_sl ([.ref (ad 0), .int p1]) ++ List.replicate (2 - (lg_sl ([.ref (ad 0), .int p1])).length) Slot.unset).toArray = ls at hl ⊢
  have hl : lv_has ls 2 [(0, .ref (ad 0)), (1, .int p1)] := hl
  dsimp only [wp_X2_byteAt] at hw
  refine lv_aload_n hx hb dX2_byteAt_0 rfl (lv_at hl 0 rfl) ?_
  refine g_get (own := RX2) (C := RX2) (T := TX2) (N := 11) (ci := 2) hx hb hq hin_X2 hown hK hG (k := 0) (gok_lo (by decide)) (gc_W) rfl 6 (by decide) (hq _ q_124) rfl (v := .int (g.1 0 3)) rfl dX2_byteAt_1 ?_
  refine lv_if_ne (tgt := 17) hx hb dX2_byteAt_4 (by decide) (fun c_1 => ?_) (fun c_1 => ?_)
  · have hw := hw.1 c_1
    refine lv_iload_n hx hb dX2_byteAt_17 rfl (lv_at hl 1 rfl) ?_
    refine lv_if_lt (tgt := 32) hx hb dX2_byteAt_18 (by decide) (fun c_2 => ?_) (fun c_2 => ?_)
    · have hw := hw.1 c_2
      exact g_throwS (own := RX2) (cls := "java/lang/IndexOutOfBoundsException") (text := "there is no such byte") (names := ["java/lang/RuntimeException", "java/lang/Exception"]) hx hb hl9 hown (by decide +kernel) (by decide +kernel) (hq _ q_376) (hq _ q_30) hE (by decide +kernel) (hat_IOB_156 hq hE) hgd_IOB_156 (hl.1.trans hml.symm) hN hlocks hw hG dX2_byteAt_32 dX2_byteAt_35 dX2_byteAt_36 dX2_byteAt_38 dX2_byteAt_41 (Nat.le_of_ble_eq_true rfl) (Nat.le_of_ble_eq_true rfl) (Nat.le_of_ble_eq_true rfl) (Nat.le_of_ble_eq_true rfl) (by decide) (by decide)
    · have hw := hw.2 c_2
      refine lv_iload_n hx hb dX2_byteAt_21 rfl (lv_at hl 1 rfl) ?_
      refine lv_aload_n hx hb dX2_byteAt_22 rfl (lv_at hl 0 rfl) ?_
      obtain ⟨hk_3, hw⟩ := hw
      refine g_get (own := RX2) (C := RX2) (T := TX2) (N := 11) (ci := 2) hx hb hq hin_X2 hown hK hG (k := 0) (gok_lo (by decide)) (gc_W) rfl 5 (by decide) (hq _ q_123) rfl (v := .ref (ad (1000 + g.2.2.1))) rfl dX2_byteAt_23 ?_
      refine g_getN (own := RX2) (C := RX0) (T := TX0) (N := 9) (ci := 0) hx hb hq hin_X0 hown hK hG (k := 1000 + g.2.2.1) (gok_A hk_3) (gc_A) rfl 7 (by decide) (hE.2.1 ("WireBench", 149, "WireBench$Arrival", "size", "I", "WireBench") (by decide +kernel)) rfl (v := .int (g.1 37 g.2.2.1)) rfl dX2_byteAt_26 ?_
      refine lv_icmp_lt (tgt := 42) hx hb dX2_byteAt_29 (by decide) (fun c_4 => ?_) (fun c_4 => ?_)
      · have hw := hw.1 c_4
        refine lv_aload_n hx hb dX2_byteAt_42 rfl (lv_at hl 0 rfl) ?_
        refine g_get (own := RX2) (C := RX2) (T := TX2) (N := 11) (ci := 2) hx hb hq hin_X2 hown hK hG (k := 0) (gok_lo (by decide)) (gc_W) rfl 8 (by decide) (hq _ q_126) rfl (v := .ref (ad 3)) rfl dX2_byteAt_43 ?_
        refine lv_aload_n hx hb dX2_byteAt_46 rfl (lv_at hl 0 rfl) ?_
        obtain ⟨hk_5, hw⟩ := hw
        refine g_get (own := RX2) (C := RX2) (T := TX2) (N := 11) (ci := 2) hx hb hq hin_X2 hown hK hG (k := 0) (gok_lo (by decide)) (gc_W) rfl 5 (by decide) (hq _ q_123) rfl (v := .ref (ad (1000 + g.2.2.1))) rfl dX2_byteAt_47 ?_
        refine g_getN (own := RX2) (C := RX0) (T := TX0) (N := 9) (ci := 0) hx hb hq hin_X0 hown hK hG (k := 1000 + g.2.2.1) (gok_A hk_5) (gc_A) rfl 8 (by decide) (hE.2.1 ("WireBench", 157, "WireBench$Arrival", "start", "I", "WireBench") (by decide +kernel)) rfl (v := .int (g.1 38 g.2.2.1)) rfl dX2_byteAt_50 ?_
        refine lv_iload_n hx hb dX2_byteAt_53 rfl (lv_at hl 1 rfl) ?_
        refine lv_iadd hx hb dX2_byteAt_54 ?_
        refine g_calli (va_runS (As := [.int ((g.1 38 g.2.2.1) + p1)]) (rest := [.ref (ad 3)]) ⟨hx, hb, hml, hown, hts⟩ (m_X2_ringPlace hl9 D K sa ad _ _ ((g.1 38 g.2.2.1) + p1) g hw) (cwS 1 hts (gGood gCons (gSt q_295 q_296 q_20 q_297)) rfl rfl rfl (by decide +kernel) ⟨Nat.le_of_ble_eq_true rfl, Nat.le_of_ble_eq_true rfl⟩) ⟨gPc_blind, gPc_at hE hG hA⟩ rfl rfl hl.1 rfl (lv_room (Nat.le_of_ble_eq_true rfl)) dX2_byteAt_55 ⟨Nat.le_of_ble_eq_true rfl, Nat.le_of_ble_eq_true rfl⟩) hG hA (fun r_7 g_6 H locs hw hG => ?_)
        try dsimp only at hw
        obtain ⟨hi_8, hw⟩ := hw
        refine g_bald hx hb hK hG (k := 3) (gok_lo (by decide)) (gc_3) hi_8 dX2_byteAt_58 ?_
        refine lv_sipush (v := 255) hx hb dX2_byteAt_59 (by decide) ?_
        refine lv_iand hx hb dX2_byteAt_62 ?_
        exact vx_ret (g_iret hx hb hr hlocks hw hG (by decide) (by decide) dX2_byteAt_63)
      · have hw := hw.2 c_4
        exact g_throwS (own := RX2) (cls := "java/lang/IndexOutOfBoundsException") (text := "there is no such byte") (names := ["java/lang/RuntimeException", "java/lang/Exception"]) hx hb hl9 hown (by decide +kernel) (by decide +kernel) (hq _ q_376) (hq _ q_30) hE (by decide +kernel) (hat_IOB_156 hq hE) hgd_IOB_156 (hl.1.trans hml.symm) hN hlocks hw hG dX2_byteAt_32 dX2_byteAt_35 dX2_byteAt_36 dX2_byteAt_38 dX2_byteAt_41 (Nat.le_of_ble_eq_true rfl) (Nat.le_of_ble_eq_true rfl) (Nat.le_of_ble_eq_true rfl) (Nat.le_of_ble_eq_true rfl) (by decide) (by decide)
  · have hw := hw.2 c_1
    exact g_throwS (own := RX2) (cls := "java/lang/IllegalStateException") (text := "no arrival was taken") (names := ["java/lang/RuntimeException", "java/lang/Exception"]) hx hb hl9 hown (by decide +kernel) (by decide +kernel) (hq _ q_237) (hq _ q_28) hE (by decide +kernel) (hat_ISE_67 hq hE) hgd_ISE_67 (hl.1.trans hml.symm) hN hlocks hw hG dX2_byteAt_7 dX2_byteAt_10 dX2_byteAt_11 dX2_byteAt_13 dX2_byteAt_16 (Nat.le_of_ble_eq_true rfl) (Nat.le_of_ble_eq_true rfl) (Nat.le_of_ble_eq_true rfl) (Nat.le_of_ble_eq_true rfl) (by decide) (by decide)

def wp_X2_fated (post : Int32 → gS → Prop) (px : String × gS → Prop) (p1 : Int32) (g : gS) : Prop := wp_X2_netNumbered (fun u_ => ∃ (k_2 : Nat) (g_1 : gS), u_ = (100 + k_2, g_1) ∧ (k_2 < 24 ∧ (post (g_1.1 25 k_2) g_1))) px p1 g
set_option maxHeartbeats 4000000 in
set_option maxRecDepth 100000 in
theorem m_X2_fated {l : Launch} (hl9 : l.stackTraces = false) (D : va_G) (K : Nat → ClassId) (sa ad : Nat → Nat) (sz : Nat) (post : Int32 → gS → Prop) (px : String × gS → Prop) (p1 : Int32) (g : gS) (hw : wp_X2_fated post px p1 g) : vx_Met l yX2_fated wsX2_fated ({ frames := 7, cells := 1, slots := 6, locals := 112 } : Room) (gPc D K sa ad sz g [.ref (ad 0), .int p1]) (va_Qi post (gB D K ad (va_A (gw K ad g) sz)) (va_A (gw K ad g) sz)) (vx_X px (gBX D K ad (va_A (gw K ad g) sz)) (va_A (gw K ad g) sz)) 1 6 (va_A (gw K ad g) sz) := by
  refine vx_ofW (cc := cX2_fated) (maxL := 2) (ret := (some .int)) (by decide) rfl ?_
  intro p e s m args below meth c s₁ B hml hN hv
  obtain ⟨rfl, hsz, hP, hE, hD0⟩ := hv
  have hx := B.exec
  have hb := B.bytes
  have hr := B.returns
  have hts := atoms_spec (ws := wsX2_fated) B.pre
  have hq : ∀ w ∈ gW, w.before _ s = true := fun w h => hts w (List.mem_cons_of_mem _ h)
  have hown : s.vm.findClass RX2 = some m.cls := findClass_of_methodNamed B.named
  have hlocks := B.notSynchronized
  subst hsz
  have hD := hD0.self (sz := s.heap.size)
  generalize hAe : va_A (gw K ad g) s.heap.size = A at hD hE ⊢
  have hA : ∀ q : Nat, s.heap.size ≤ q → A q := fun q h => by rw [← hAe]; exact Or.inr h
  have hK := hE.1
  have hG : gX D K ad A s.heap g s.heap [] := ⟨hP, hD, va_S.rf⟩
  have hl := lv_entry ([.ref (ad 0), .int p1]) (n := 2) (Nat.le_of_ble_eq_true rfl)
  rw [lg_entry_eq]
  generalize (lg_sl ([.ref (ad 0), .int p1]) ++ List.replicate (2 - (lg_sl ([.ref (ad 0), .int p1])).length) Slot.unset).toArray = ls at hl ⊢
  have hl : lv_has ls 2 [(0, .ref (ad 0)), (1, .int p1)] := hl
  dsimp only [wp_X2_fated] at hw
  refine lv_aload_n hx hb dX2_fated_0 rfl (lv_at hl 0 rfl) ?_
  refine lv_iload_n hx hb dX2_fated_1 rfl (lv_at hl 1 rfl) ?_
  refine g_xcallr (vx_runV (As := [.int p1]) (rest := []) ⟨hx, hb, hml, hown, hts⟩ (m_X2_netNumbered hl9 D K sa ad _ _ _ p1 g hw) (cwV 1 hts (gGood gCons (gV q_264 q_266 q_2 q_20 q_267)) rfl rfl rfl (by decide +kernel) ⟨Nat.le_of_ble_eq_true rfl, Nat.le_of_ble_eq_true rfl⟩) ⟨gPc_blind, g_recv hK hG (gok_lo (by decide)) (gc_W) rfl, gPc_at hE hG hA⟩ rfl rfl hl.1 rfl (lv_room (Nat.le_of_ble_eq_true rfl)) dX2_fated_2 ⟨Nat.le_of_ble_eq_true rfl, Nat.le_of_ble_eq_true rfl⟩) hG hA (fun E_ ce_ q_ g_1 H locs hw hG h1_ h2_ h3_ => ?_) (fun k_ ga_ H locs hw hG => ?_)
  · exact g_out hN hlocks h1_ h2_ h3_ hw hG (by decide) (by decide)
  try dsimp only at hw
  obtain ⟨k_2, g_1, eu_, hk_3, hw⟩ := hw
  obtain ⟨e1_, e2_⟩ := Prod.mk.inj eu_
  subst e1_
  have e2_ := e2_.symm
  subst e2_
  refine g_getN (own := RX2) (C := RX1) (T := TX1) (N := 7) (ci := 1) hx hb hq hin_X1 hown hK hG (k := 100 + k_2) (gok_N hk_3) (gc_N hk_3) rfl 6 (by decide) (hE.2.1 ("WireBench", 85, "WireBench$Net", "fateCount", "I", "WireBench") (by decide +kernel)) rfl (v := .int (g_1.1 25 k_2)) rfl dX2_fated_5 ?_
  exact vx_ret (g_iret hx hb hr hlocks hw hG (by decide) (by decide) dX2_fated_8)

def wp_X2_puts (post : Int32 → gS → Prop) (px : String × gS → Prop) (p1 : Int32) (g : gS) : Prop := wp_X2_netNumbered (fun u_ => ∃ (k_2 : Nat) (g_1 : gS), u_ = (100 + k_2, g_1) ∧ (k_2 < 24 ∧ (post (g_1.1 23 k_2) g_1))) px p1 g
set_option maxHeartbeats 4000000 in
set_option maxRecDepth 100000 in
theorem m_X2_puts {l : Launch} (hl9 : l.stackTraces = false) (D : va_G) (K : Nat → ClassId) (sa ad : Nat → Nat) (sz : Nat) (post : Int32 → gS → Prop) (px : String × gS → Prop) (p1 : Int32) (g : gS) (hw : wp_X2_puts post px p1 g) : vx_Met l yX2_puts wsX2_puts ({ frames := 7, cells := 1, slots := 6, locals := 112 } : Room) (gPc D K sa ad sz g [.ref (ad 0), .int p1]) (va_Qi post (gB D K ad (va_A (gw K ad g) sz)) (va_A (gw K ad g) sz)) (vx_X px (gBX D K ad (va_A (gw K ad g) sz)) (va_A (gw K ad g) sz)) 1 6 (va_A (gw K ad g) sz) := by
  refine vx_ofW (cc := cX2_puts) (maxL := 2) (ret := (some .int)) (by decide) rfl ?_
  intro p e s m args below meth c s₁ B hml hN hv
  obtain ⟨rfl, hsz, hP, hE, hD0⟩ := hv
  have hx := B.exec
  have hb := B.bytes
  have hr := B.returns
  have hts := atoms_spec (ws := wsX2_puts) B.pre
  have hq : ∀ w ∈ gW, w.before _ s = true := fun w h => hts w (List.mem_cons_of_mem _ h)
  have hown : s.vm.findClass RX2 = some m.cls := findClass_of_methodNamed B.named
  have hlocks := B.notSynchronized
  subst hsz
  have hD := hD0.self (sz := s.heap.size)
  generalize hAe : va_A (gw K ad g) s.heap.size = A at hD hE ⊢
  have hA : ∀ q : Nat, s.heap.size ≤ q → A q := fun q h => by rw [← hAe]; exact Or.inr h
  have hK := hE.1
  have hG : gX D K ad A s.heap g s.heap [] := ⟨hP, hD, va_S.rf⟩
  have hl := lv_entry ([.ref (ad 0), .int p1]) (n := 2) (Nat.le_of_ble_eq_true rfl)
  rw [lg_entry_eq]
  generalize (lg_sl ([.ref (ad 0), .int p1]) ++ List.replicate (2 - (lg_sl ([.ref (ad 0), .int p1])).length) Slot.unset).toArray = ls at hl ⊢
  have hl : lv_has ls 2 [(0, .ref (ad 0)), (1, .int p1)] := hl
  dsimp only [wp_X2_puts] at hw
  refine lv_aload_n hx hb dX2_puts_0 rfl (lv_at hl 0 rfl) ?_
  refine lv_iload_n hx hb dX2_puts_1 rfl (lv_at hl 1 rfl) ?_
  refine g_xcallr (vx_runV (As := [.int p1]) (rest := []) ⟨hx, hb, hml, hown, hts⟩ (m_X2_netNumbered hl9 D K sa ad _ _ _ p1 g hw) (cwV 1 hts (gGood gCons (gV q_264 q_266 q_2 q_20 q_267)) rfl rfl rfl (by decide +kernel) ⟨Nat.le_of_ble_eq_true rfl, Nat.le_of_ble_eq_true rfl⟩) ⟨gPc_blind, g_recv hK hG (gok_lo (by decide)) (gc_W) rfl, gPc_at hE hG hA⟩ rfl rfl hl.1 rfl (lv_room (Nat.le_of_ble_eq_true rfl)) dX2_puts_2 ⟨Nat.le_of_ble_eq_true rfl, Nat.le_of_ble_eq_true rfl⟩) hG hA (fun E_ ce_ q_ g_1 H locs hw hG h1_ h2_ h3_ => ?_) (fun k_ ga_ H locs hw hG => ?_)
  · exact g_out hN hlocks h1_ h2_ h3_ hw hG (by decide) (by decide)
  try dsimp only at hw
  obtain ⟨k_2, g_1, eu_, hk_3, hw⟩ := hw
  obtain ⟨e1_, e2_⟩ := Prod.mk.inj eu_
  subst e1_
  have e2_ := e2_.symm
  subst e2_
  refine g_getN (own := RX2) (C := RX1) (T := TX1) (N := 7) (ci := 1) hx hb hq hin_X1 hown hK hG (k := 100 + k_2) (gok_N hk_3) (gc_N hk_3) rfl 3 (by decide) (hE.2.1 ("WireBench", 160, "WireBench$Net", "frameCount", "I", "WireBench") (by decide +kernel)) rfl (v := .int (g_1.1 23 k_2)) rfl dX2_puts_5 ?_
  exact vx_ret (g_iret hx hb hr hlocks hw hG (by decide) (by decide) dX2_puts_8)
end
section
def wp_X3_thrown (post : Int32 → gS → Prop)  (g : gS) : Prop := post (g.1 4 0) g
set_option maxHeartbeats 4000000 in
set_option maxRecDepth 100000 in
theorem m_X3_thrown {l : Launch} (hl9 : l.stackTraces = false) (D : va_G) (K : Nat → ClassId) (sa ad : Nat → Nat) (sz : Nat) (post : Int32 → gS → Prop)  (g : gS) (hw : wp_X3_thrown post  g) : Met l yX3_thrown wsX3_thrown ({ frames := 0, cells := 0, slots := 0, locals := 0 } : Room) (gPc D K sa ad sz g [.ref (ad 4)]) (va_Qi post (gB D K ad (va_A (gw K ad g) sz)) (va_A (gw K ad g) sz)) 0 0 (va_A (gw K ad g) sz) := by
  refine Met.ofW (cc := cX3_thrown) (maxL := 1) (ret := (some .int)) (by decide) rfl ?_
  intro p e s m args below meth c s₁ B hml hv
  obtain ⟨rfl, hsz, hP, hE, hD0⟩ := hv
  have hx := B.exec
  have hb := B.bytes
  have hr := B.returns
  have hts := atoms_spec (ws := wsX3_thrown) B.pre
  have hq : ∀ w ∈ gW, w.before _ s = true := fun w h => hts w (List.mem_cons_of_mem _ h)
  have hown : s.vm.findClass RX3 = some m.cls := findClass_of_methodNamed B.named
  have hlocks := B.notSynchronized
  subst hsz
  have hD := hD0.self (sz := s.heap.size)
  generalize hAe : va_A (gw K ad g) s.heap.size = A at hD hE ⊢
  have hA : ∀ q : Nat, s.heap.size ≤ q → A q := fun q h => by rw [← hAe]; exact Or.inr h
  have hK := hE.1
  have hG : gX D K ad A s.heap g s.heap [] := ⟨hP, hD, va_S.rf⟩
  have hl := lv_entry ([.ref (ad 4)]) (n := 1) (Nat.le_of_ble_eq_true rfl)
  rw [lg_entry_eq]
  generalize (lg_sl ([.ref (ad 4)]) ++ List.replicate (1 - (lg_sl ([.ref (ad 4)])).length) Slot.unset).toArray = ls at hl ⊢
  have hl : lv_has ls 1 [(0, .ref (ad 4))] := hl
  dsimp only [wp_X3_thrown] at hw
  refine lv_aload_n hx hb dX3_thrown_0 rfl (lv_at hl 0 rfl) ?_
  refine g_get (own := RX3) (C := RX3) (T := TX3) (N := 19) (ci := 3) hx hb hq hin_X3 hown hK hG (k := 4) (gok_lo (by decide)) (gc_M) rfl 0 (by decide) (hq _ q_413) rfl (v := .int (g.1 4 0)) rfl dX3_thrown_1 ?_
  exact g_iret hx hb hr hlocks hw hG (by decide) (by decide) dX3_thrown_4

def wp_X3_isNet (post : Int32 → gS → Prop) (p1 : Int32) (g : gS) : Prop := ((p1 < 0) → (post 0 g)) ∧ ((¬ p1 < 0) → ((((g.1 4 2) ≤ p1) → (post 0 g)) ∧ ((¬ (g.1 4 2) ≤ p1) → (post 1 g))))
set_option maxHeartbeats 4000000 in
set_option maxRecDepth 100000 in
theorem m_X3_isNet {l : Launch} (hl9 : l.stackTraces = false) (D : va_G) (K : Nat → ClassId) (sa ad : Nat → Nat) (sz : Nat) (post : Int32 → gS → Prop) (p1 : Int32) (g : gS) (hw : wp_X3_isNet post p1 g) : Met l yX3_isNet wsX3_isNet ({ frames := 0, cells := 0, slots := 0, locals := 0 } : Room) (gPc D K sa ad sz g [.ref (ad 4), .int p1]) (va_Qi post (gB D K ad (va_A (gw K ad g) sz)) (va_A (gw K ad g) sz)) 0 0 (va_A (gw K ad g) sz) := by
  refine Met.ofW (cc := cX3_isNet) (maxL := 2) (ret := (some .boolean)) (by decide) rfl ?_
  intro p e s m args below meth c s₁ B hml hv
  obtain ⟨rfl, hsz, hP, hE, hD0⟩ := hv
  have hx := B.exec
  have hb := B.bytes
  have hr := B.returns
  have hts := atoms_spec (ws := wsX3_isNet) B.pre
  have hq : ∀ w ∈ gW, w.before _ s = true := fun w h => hts w (List.mem_cons_of_mem _ h)
  have hown : s.vm.findClass RX3 = some m.cls := findClass_of_methodNamed B.named
  have hlocks := B.notSynchronized
  subst hsz
  have hD := hD0.self (sz := s.heap.size)
  generalize hAe : va_A (gw K ad g) s.heap.size = A at hD hE ⊢
  have hA : ∀ q : Nat, s.heap.size ≤ q → A q := fun q h => by rw [← hAe]; exact Or.inr h
  have hK := hE.1
  have hG : gX D K ad A s.heap g s.heap [] := ⟨hP, hD, va_S.rf⟩
  have hl := lv_entry ([.ref (ad 4), .int p1]) (n := 2) (Nat.le_of_ble_eq_true rfl)
  rw [lg_entry_eq]
  generalize (lg_sl ([.ref (ad 4), .int p1]) ++ List.replicate (2 - (lg_sl ([.ref (ad 4), .int p1])).length) Slot.unset).toArray = ls at hl ⊢
  have hl : lv_has ls 2 [(0, .ref (ad 4)), (1, .int p1)] := hl
  dsimp only [wp_X3_isNet] at hw
  refine lv_iload_n hx hb dX3_isNet_0 rfl (lv_at hl 1 rfl) ?_
  refine lv_if_lt (tgt := 16) hx hb dX3_isNet_1 (by decide) (fun c_1 => ?_) (fun c_1 => ?_)
  · have hw := hw.1 c_1
    refine lv_iconst (v := 0) hx hb dX3_isNet_16 (by decide) ?_
    exact g_zret hx hb hr (by decide) hlocks hw hG (by decide) (by decide) dX3_isNet_17
  · have hw := hw.2 c_1
    refine lv_iload_n hx hb dX3_isNet_4 rfl (lv_at hl 1 rfl) ?_
    refine lv_aload_n hx hb dX3_isNet_5 rfl (lv_at hl 0 rfl) ?_
    refine g_get (own := RX3) (C := RX3) (T := TX3) (N := 19) (ci := 3) hx hb hq hin_X3 hown hK hG (k := 4) (gok_lo (by decide)) (gc_M) rfl 2 (by decide) (hq _ q_415) rfl (v := .int (g.1 4 2)) rfl dX3_isNet_6 ?_
    refine lv_icmp_ge (tgt := 16) hx hb dX3_isNet_9 (by decide) (fun c_2 => ?_) (fun c_2 => ?_)
    · have hw := hw.1 c_2
      refine lv_iconst (v := 0) hx hb dX3_isNet_16 (by decide) ?_
      exact g_zret hx hb hr (by decide) hlocks hw hG (by decide) (by decide) dX3_isNet_17
    · have hw := hw.2 c_2
      refine lv_iconst (v := 1) hx hb dX3_isNet_12 (by decide) ?_
      refine lv_goto (tgt := 17) hx hb dX3_isNet_13 (by decide) ?_
      exact g_zret hx hb hr (by decide) hlocks hw hG (by decide) (by decide) dX3_isNet_17

def wp_X3_net (post : Int32 → gS → Prop) (p1 : Int32) (p2 : Int32) (g : gS) : Prop := ((p1 < 100) → (∀ g_2 : gS, g_2 = gi g 4 0 (1 : Int32) → ((((g_2.1 4 0) ≤ 0) → (vp_in (g_2.1 4 2) 24 ∧ (∀ g_5 : gS, g_5 = gi g_2 5 ((g_2.1 4 2).toNatClampNeg) p1 → (vp_in (g_5.1 4 2) 24 ∧ (∀ g_7 : gS, g_7 = gi g_5 6 ((g_5.1 4 2).toNatClampNeg) p2 → (vp_in (g_7.1 4 2) 24 ∧ (∀ g_9 : gS, g_9 = gi g_7 7 ((g_7.1 4 2).toNatClampNeg) (vp_nar .boolean (1 : Int32)) → (∀ x_10 : Int32, x_10 = (g_9.1 4 2) + 1 → (∀ g_11 : gS, g_11 = gi g_9 4 2 x_10 → (post ((g_11.1 4 2) - 1) g_11)))))))))) ∧ ((¬ (g_2.1 4 0) ≤ 0) → (post 0 g_2))))) ∧ ((¬ p1 < 100) → (((1500 < p1) → (∀ g_13 : gS, g_13 = gi g 4 0 (1 : Int32) → ((((g_13.1 4 0) ≤ 0) → (vp_in (g_13.1 4 2) 24 ∧ (∀ g_16 : gS, g_16 = gi g_13 5 ((g_13.1 4 2).toNatClampNeg) p1 → (vp_in (g_16.1 4 2) 24 ∧ (∀ g_18 : gS, g_18 = gi g_16 6 ((g_16.1 4 2).toNatClampNeg) p2 → (vp_in (g_18.1 4 2) 24 ∧ (∀ g_20 : gS, g_20 = gi g_18 7 ((g_18.1 4 2).toNatClampNeg) (vp_nar .boolean (1 : Int32)) → (∀ x_21 : Int32, x_21 = (g_20.1 4 2) + 1 → (∀ g_22 : gS, g_22 = gi g_20 4 2 x_21 → (post ((g_22.1 4 2) - 1) g_22)))))))))) ∧ ((¬ (g_13.1 4 0) ≤ 0) → (post 0 g_13))))) ∧ ((¬ 1500 < p1) → (((p2 < 1) → (∀ g_24 : gS, g_24 = gi g 4 0 (1 : Int32) → ((((g_24.1 4 0) ≤ 0) → (vp_in (g_24.1 4 2) 24 ∧ (∀ g_27 : gS, g_27 = gi g_24 5 ((g_24.1 4 2).toNatClampNeg) p1 → (vp_in (g_27.1 4 2) 24 ∧ (∀ g_29 : gS, g_29 = gi g_27 6 ((g_27.1 4 2).toNatClampNeg) p2 → (vp_in (g_29.1 4 2) 24 ∧ (∀ g_31 : gS, g_31 = gi g_29 7 ((g_29.1 4 2).toNatClampNeg) (vp_nar .boolean (1 : Int32)) → (∀ x_32 : Int32, x_32 = (g_31.1 4 2) + 1 → (∀ g_33 : gS, g_33 = gi g_31 4 2 x_32 → (post ((g_33.1 4 2) - 1) g_33)))))))))) ∧ ((¬ (g_24.1 4 0) ≤ 0) → (post 0 g_24))))) ∧ ((¬ p2 < 1) → (((p2 ≤ 50) → (((¬ (g.1 4 2) = 24) → (∀ g_36 : gS, g_36 = gi g 4 0 (0 : Int32) → ((((g_36.1 4 0) ≤ 0) → (vp_in (g_36.1 4 2) 24 ∧ (∀ g_39 : gS, g_39 = gi g_36 5 ((g_36.1 4 2).toNatClampNeg) p1 → (vp_in (g_39.1 4 2) 24 ∧ (∀ g_41 : gS, g_41 = gi g_39 6 ((g_39.1 4 2).toNatClampNeg) p2 → (vp_in (g_41.1 4 2) 24 ∧ (∀ g_43 : gS, g_43 = gi g_41 7 ((g_41.1 4 2).toNatClampNeg) (vp_nar .boolean (1 : Int32)) → (∀ x_44 : Int32, x_44 = (g_43.1 4 2) + 1 → (∀ g_45 : gS, g_45 = gi g_43 4 2 x_44 → (post ((g_45.1 4 2) - 1) g_45)))))))))) ∧ ((¬ (g_36.1 4 0) ≤ 0) → (post 0 g_36))))) ∧ (((g.1 4 2) = 24) → (∀ g_46 : gS, g_46 = gi g 4 0 (2 : Int32) → ((((g_46.1 4 0) ≤ 0) → (vp_in (g_46.1 4 2) 24 ∧ (∀ g_49 : gS, g_49 = gi g_46 5 ((g_46.1 4 2).toNatClampNeg) p1 → (vp_in (g_49.1 4 2) 24 ∧ (∀ g_51 : gS, g_51 = gi g_49 6 ((g_49.1 4 2).toNatClampNeg) p2 → (vp_in (g_51.1 4 2) 24 ∧ (∀ g_53 : gS, g_53 = gi g_51 7 ((g_51.1 4 2).toNatClampNeg) (vp_nar .boolean (1 : Int32)) → (∀ x_54 : Int32, x_54 = (g_53.1 4 2) + 1 → (∀ g_55 : gS, g_55 = gi g_53 4 2 x_54 → (post ((g_55.1 4 2) - 1) g_55)))))))))) ∧ ((¬ (g_46.1 4 0) ≤ 0) → (post 0 g_46))))))) ∧ ((¬ p2 ≤ 50) → (∀ g_56 : gS, g_56 = gi g 4 0 (1 : Int32) → ((((g_56.1 4 0) ≤ 0) → (vp_in (g_56.1 4 2) 24 ∧ (∀ g_59 : gS, g_59 = gi g_56 5 ((g_56.1 4 2).toNatClampNeg) p1 → (vp_in (g_59.1 4 2) 24 ∧ (∀ g_61 : gS, g_61 = gi g_59 6 ((g_59.1 4 2).toNatClampNeg) p2 → (vp_in (g_61.1 4 2) 24 ∧ (∀ g_63 : gS, g_63 = gi g_61 7 ((g_61.1 4 2).toNatClampNeg) (vp_nar .boolean (1 : Int32)) → (∀ x_64 : Int32, x_64 = (g_63.1 4 2) + 1 → (∀ g_65 : gS, g_65 = gi g_63 4 2 x_64 → (post ((g_65.1 4 2) - 1) g_65)))))))))) ∧ ((¬ (g_56.1 4 0) ≤ 0) → (post 0 g_56)))))))))))
set_option maxHeartbeats 4000000 in
set_option maxRecDepth 100000 in
theorem m_X3_net {l : Launch} (hl9 : l.stackTraces = false) (D : va_G) (K : Nat → ClassId) (sa ad : Nat → Nat) (sz : Nat) (post : Int32 → gS → Prop) (p1 : Int32) (p2 : Int32) (g : gS) (hw : wp_X3_net post p1 p2 g) : Met l yX3_net wsX3_net ({ frames := 0, cells := 0, slots := 0, locals := 0 } : Room) (gPc D K sa ad sz g [.ref (ad 4), .int p1, .int p2]) (va_Qi post (gB D K ad (va_A (gw K ad g) sz)) (va_A (gw K ad g) sz)) 0 0 (va_A (gw K ad g) sz) := by
  refine Met.ofW (cc := cX3_net) (maxL := 3) (ret := (some .int)) (by decide) rfl ?_
  intro p e s m args below meth c s₁ B hml hv
  obtain ⟨rfl, hsz, hP, hE, hD0⟩ := hv
  have hx := B.exec
  have hb := B.bytes
  have hr := B.returns
  have hts := atoms_spec (ws := wsX3_net) B.pre
  have hq : ∀ w ∈ gW, w.before _ s = true := fun w h => hts w (List.mem_cons_of_mem _ h)
  have hown : s.vm.findClass RX3 = some m.cls := findClass_of_methodNamed B.named
  have hlocks := B.notSynchronized
  subst hsz
  have hD := hD0.self (sz := s.heap.size)
  generalize hAe : va_A (gw K ad g) s.heap.size = A at hD hE ⊢
  have hA : ∀ q : Nat, s.heap.size ≤ q → A q := fun q h => by rw [← hAe]; exact Or.inr h
  have hK := hE.1
  have hG : gX D K ad A s.heap g s.heap [] := ⟨hP, hD, va_S.rf⟩
  have hl := lv_entry ([.ref (ad 4), .int p1, .int p2]) (n := 3) (Nat.le_of_ble_eq_true rfl)
  rw [lg_entry_eq]
  generalize (lg_sl ([.ref (ad 4), .int p1, .int p2]) ++ List.replicate (3 - (lg_sl ([.ref (ad 4), .int p1, .int p2])).length) Slot.unset).toArray = ls at hl ⊢
  have hl : lv_has ls 3 [(0, .ref (ad 4)), (1, .int p1), (2, .int p2)] := hl
  dsimp only [wp_X3_net] at hw
  refine lv_aload_n hx hb dX3_net_0 rfl (lv_at hl 0 rfl) ?_
  refine lv_iload_n hx hb dX3_net_1 rfl (lv_at hl 1 rfl) ?_
  refine lv_bipush (v := 100) hx hb dX3_net_2 (by decide) ?_
  refine lv_icmp_lt (tgt := 25) hx hb dX3_net_4 (by decide) (fun c_1 => ?_) (fun c_1 => ?_)
  · have hw := hw.1 c_1
    refine lv_iconst (v := 1) hx hb dX3_net_25 (by decide) ?_
    refine lv_goto (tgt := 43) hx hb dX3_net_26 (by decide) ?_
    refine g_put (own := RX3) (C := RX3) (T := TX3) (N := 19) (ci := 3) hx hb hq hin_X3 tyX3 tyX3_ok nmX3 hown hK hG (k := 4) (gok_lo (by decide)) (gc_M) rfl 0 (by decide) (hq _ q_413) rfl rfl (ty := .int) (v := .int 1) (by decide +kernel) rfl rfl (Nat.le_of_ble_eq_true rfl) (gi g 4 0 (1 : Int32)) (gs_M0) (gho_lo (by decide)) dX3_net_43 (fun H locs hG => ?_)
    obtain ⟨g_2, eg_2⟩ : ∃ z, z = gi g 4 0 (1 : Int32) := ⟨_, rfl⟩
    rw [← eg_2] at hG
    have hw := hw g_2 eg_2
    refine lv_aload_n hx hb dX3_net_46 rfl (lv_at hl 0 rfl) ?_
    refine g_get (own := RX3) (C := RX3) (T := TX3) (N := 19) (ci := 3) hx hb hq hin_X3 hown hK hG (k := 4) (gok_lo (by decide)) (gc_M) rfl 0 (by decide) (hq _ q_413) rfl (v := .int (g_2.1 4 0)) rfl dX3_net_47 ?_
    refine lv_if_le (tgt := 55) hx hb dX3_net_50 (by decide) (fun c_3 => ?_) (fun c_3 => ?_)
    · have hw := hw.1 c_3
      refine lv_aload_n hx hb dX3_net_55 rfl (lv_at hl 0 rfl) ?_
      refine g_get (own := RX3) (C := RX3) (T := TX3) (N := 19) (ci := 3) hx hb hq hin_X3 hown hK hG (k := 4) (gok_lo (by decide)) (gc_M) rfl 3 (by decide) (hq _ q_416) rfl (v := .ref (ad 5)) rfl dX3_net_56 ?_
      refine lv_aload_n hx hb dX3_net_59 rfl (lv_at hl 0 rfl) ?_
      refine g_get (own := RX3) (C := RX3) (T := TX3) (N := 19) (ci := 3) hx hb hq hin_X3 hown hK hG (k := 4) (gok_lo (by decide)) (gc_M) rfl 2 (by decide) (hq _ q_415) rfl (v := .int (g_2.1 4 2)) rfl dX3_net_60 ?_
      refine lv_iload_n hx hb dX3_net_63 rfl (lv_at hl 1 rfl) ?_
      obtain ⟨hi_4, hw⟩ := hw
      refine g_iast hx hb hK hG (k := 5) (gok_lo (by decide)) (fun g => gc_5) (x := p1) hi_4 (gho_lo (by decide)) dX3_net_64 (fun H locs hG => ?_)
      obtain ⟨g_5, eg_5⟩ : ∃ z, z = gi g_2 5 ((g_2.1 4 2).toNatClampNeg) p1 := ⟨_, rfl⟩
      rw [← eg_5] at hG
      have hw := hw g_5 eg_5
      refine lv_aload_n hx hb dX3_net_65 rfl (lv_at hl 0 rfl) ?_
      refine g_get (own := RX3) (C := RX3) (T := TX3) (N := 19) (ci := 3) hx hb hq hin_X3 hown hK hG (k := 4) (gok_lo (by decide)) (gc_M) rfl 4 (by decide) (hq _ q_417) rfl (v := .ref (ad 6)) rfl dX3_net_66 ?_
      refine lv_aload_n hx hb dX3_net_69 rfl (lv_at hl 0 rfl) ?_
      refine g_get (own := RX3) (C := RX3) (T := TX3) (N := 19) (ci := 3) hx hb hq hin_X3 hown hK hG (k := 4) (gok_lo (by decide)) (gc_M) rfl 2 (by decide) (hq _ q_415) rfl (v := .int (g_5.1 4 2)) rfl dX3_net_70 ?_
      refine lv_iload_n hx hb dX3_net_73 rfl (lv_at hl 2 rfl) ?_
      obtain ⟨hi_6, hw⟩ := hw
      refine g_iast hx hb hK hG (k := 6) (gok_lo (by decide)) (fun g => gc_6) (x := p2) hi_6 (gho_lo (by decide)) dX3_net_74 (fun H locs hG => ?_)
      obtain ⟨g_7, eg_7⟩ : ∃ z, z = gi g_5 6 ((g_5.1 4 2).toNatClampNeg) p2 := ⟨_, rfl⟩
      rw [← eg_7] at hG
      have hw := hw g_7 eg_7
      refine lv_aload_n hx hb dX3_net_75 rfl (lv_at hl 0 rfl) ?_
      refine g_get (own := RX3) (C := RX3) (T := TX3) (N := 19) (ci := 3) hx hb hq hin_X3 hown hK hG (k := 4) (gok_lo (by decide)) (gc_M) rfl 5 (by decide) (hq _ q_418) rfl (v := .ref (ad 7)) rfl dX3_net_76 ?_
      refine lv_aload_n hx hb dX3_net_79 rfl (lv_at hl 0 rfl) ?_
      refine g_get (own := RX3) (C := RX3) (T := TX3) (N := 19) (ci := 3) hx hb hq hin_X3 hown hK hG (k := 4) (gok_lo (by decide)) (gc_M) rfl 2 (by decide) (hq _ q_415) rfl (v := .int (g_7.1 4 2)) rfl dX3_net_80 ?_
      refine lv_iconst (v := 1) hx hb dX3_net_83 (by decide) ?_
      obtain ⟨hi_8, hw⟩ := hw
      refine g_zast hx hb hK hG (k := 7) (gok_lo (by decide)) (fun g => gc_7) (x := (1 : Int32)) hi_8 (gho_lo (by decide)) dX3_net_84 (fun H locs hG => ?_)
      obtain ⟨g_9, eg_9⟩ : ∃ z, z = gi g_7 7 ((g_7.1 4 2).toNatClampNeg) (vp_nar .boolean (1 : Int32)) := ⟨_, rfl⟩
      rw [← eg_9] at hG
      have hw := hw g_9 eg_9
      refine lv_aload_n hx hb dX3_net_85 rfl (lv_at hl 0 rfl) ?_
      refine lv_dup hx hb dX3_net_86 rfl ?_
      refine g_get (own := RX3) (C := RX3) (T := TX3) (N := 19) (ci := 3) hx hb hq hin_X3 hown hK hG (k := 4) (gok_lo (by decide)) (gc_M) rfl 2 (by decide) (hq _ q_415) rfl (v := .int (g_9.1 4 2)) rfl dX3_net_87 ?_
      refine lv_iconst (v := 1) hx hb dX3_net_90 (by decide) ?_
      refine lv_iadd hx hb dX3_net_91 ?_
      refine lv_topi (fun x_10 ex_10 => ?_)
      have hw := hw x_10 ex_10
      refine g_put (own := RX3) (C := RX3) (T := TX3) (N := 19) (ci := 3) hx hb hq hin_X3 tyX3 tyX3_ok nmX3 hown hK hG (k := 4) (gok_lo (by decide)) (gc_M) rfl 2 (by decide) (hq _ q_415) rfl rfl (ty := .int) (v := .int x_10) (by decide +kernel) rfl rfl (Nat.le_of_ble_eq_true rfl) (gi g_9 4 2 x_10) (gs_M2) (gho_lo (by decide)) dX3_net_92 (fun H locs hG => ?_)
      obtain ⟨g_11, eg_11⟩ : ∃ z, z = gi g_9 4 2 x_10 := ⟨_, rfl⟩
      rw [← eg_11] at hG
      have hw := hw g_11 eg_11
      refine lv_aload_n hx hb dX3_net_95 rfl (lv_at hl 0 rfl) ?_
      refine g_get (own := RX3) (C := RX3) (T := TX3) (N := 19) (ci := 3) hx hb hq hin_X3 hown hK hG (k := 4) (gok_lo (by decide)) (gc_M) rfl 2 (by decide) (hq _ q_415) rfl (v := .int (g_11.1 4 2)) rfl dX3_net_96 ?_
      refine lv_iconst (v := 1) hx hb dX3_net_99 (by decide) ?_
      refine lv_isub hx hb dX3_net_100 ?_
      exact g_iret hx hb hr hlocks hw hG (by decide) (by decide) dX3_net_101
    · have hw := hw.2 c_3
      refine lv_iconst (v := 0) hx hb dX3_net_53 (by decide) ?_
      exact g_iret hx hb hr hlocks hw hG (by decide) (by decide) dX3_net_54
  · have hw := hw.2 c_1
    refine lv_iload_n hx hb dX3_net_7 rfl (lv_at hl 1 rfl) ?_
    refine lv_sipush (v := 1500) hx hb dX3_net_8 (by decide) ?_
    refine lv_icmp_gt (tgt := 25) hx hb dX3_net_11 (by decide) (fun c_12 => ?_) (fun c_12 => ?_)
    · have hw := hw.1 c_12
      refine lv_iconst (v := 1) hx hb dX3_net_25 (by decide) ?_
      refine lv_goto (tgt := 43) hx hb dX3_net_26 (by decide) ?_
      refine g_put (own := RX3) (C := RX3) (T := TX3) (N := 19) (ci := 3) hx hb hq hin_X3 tyX3 tyX3_ok nmX3 hown hK hG (k := 4) (gok_lo (by decide)) (gc_M) rfl 0 (by decide) (hq _ q_413) rfl rfl (ty := .int) (v := .int 1) (by decide +kernel) rfl rfl (Nat.le_of_ble_eq_true rfl) (gi g 4 0 (1 : Int32)) (gs_M0) (gho_lo (by decide)) dX3_net_43 (fun H locs hG => ?_)
      obtain ⟨g_13, eg_13⟩ : ∃ z, z = gi g 4 0 (1 : Int32) := ⟨_, rfl⟩
      rw [← eg_13] at hG
      have hw := hw g_13 eg_13
      refine lv_aload_n hx hb dX3_net_46 rfl (lv_at hl 0 rfl) ?_
      refine g_get (own := RX3) (C := RX3) (T := TX3) (N := 19) (ci := 3) hx hb hq hin_X3 hown hK hG (k := 4) (gok_lo (by decide)) (gc_M) rfl 0 (by decide) (hq _ q_413) rfl (v := .int (g_13.1 4 0)) rfl dX3_net_47 ?_
      refine lv_if_le (tgt := 55) hx hb dX3_net_50 (by decide) (fun c_14 => ?_) (fun c_14 => ?_)
      · have hw := hw.1 c_14
        refine lv_aload_n hx hb dX3_net_55 rfl (lv_at hl 0 rfl) ?_
        refine g_get (own := RX3) (C := RX3) (T := TX3) (N := 19) (ci := 3) hx hb hq hin_X3 hown hK hG (k := 4) (gok_lo (by decide)) (gc_M) rfl 3 (by decide) (hq _ q_416) rfl (v := .ref (ad 5)) rfl dX3_net_56 ?_
        refine lv_aload_n hx hb dX3_net_59 rfl (lv_at hl 0 rfl) ?_
        refine g_get (own := RX3) (C := RX3) (T := TX3) (N := 19) (ci := 3) hx hb hq hin_X3 hown hK hG (k := 4) (gok_lo (by decide)) (gc_M) rfl 2 (by decide) (hq _ q_415) rfl (v := .int (g_13.1 4 2)) rfl dX3_net_60 ?_
        refine lv_iload_n hx hb dX3_net_63 rfl (lv_at hl 1 rfl) ?_
        obtain ⟨hi_15, hw⟩ := hw
        refine g_iast hx hb hK hG (k := 5) (gok_lo (by decide)) (fun g => gc_5) (x := p1) hi_15 (gho_lo (by decide)) dX3_net_64 (fun H locs hG => ?_)
        obtain ⟨g_16, eg_16⟩ : ∃ z, z = gi g_13 5 ((g_13.1 4 2).toNatClampNeg) p1 := ⟨_, rfl⟩
        rw [← eg_16] at hG
        have hw := hw g_16 eg_16
        refine lv_aload_n hx hb dX3_net_65 rfl (lv_at hl 0 rfl) ?_
        refine g_get (own := RX3) (C := RX3) (T := TX3) (N := 19) (ci := 3) hx hb hq hin_X3 hown hK hG (k := 4) (gok_lo (by decide)) (gc_M) rfl 4 (by decide) (hq _ q_417) rfl (v := .ref (ad 6)) rfl dX3_net_66 ?_
        refine lv_aload_n hx hb dX3_net_69 rfl (lv_at hl 0 rfl) ?_
        refine g_get (own := RX3) (C := RX3) (T := TX3) (N := 19) (ci := 3) hx hb hq hin_X3 hown hK hG (k := 4) (gok_lo (by decide)) (gc_M) rfl 2 (by decide) (hq _ q_415) rfl (v := .int (g_16.1 4 2)) rfl dX3_net_70 ?_
        refine lv_iload_n hx hb dX3_net_73 rfl (lv_at hl 2 rfl) ?_
        obtain ⟨hi_17, hw⟩ := hw
        refine g_iast hx hb hK hG (k := 6) (gok_lo (by decide)) (fun g => gc_6) (x := p2) hi_17 (gho_lo (by decide)) dX3_net_74 (fun H locs hG => ?_)
        obtain ⟨g_18, eg_18⟩ : ∃ z, z = gi g_16 6 ((g_16.1 4 2).toNatClampNeg) p2 := ⟨_, rfl⟩
        rw [← eg_18] at hG
        have hw := hw g_18 eg_18
        refine lv_aload_n hx hb dX3_net_75 rfl (lv_at hl 0 rfl) ?_
        refine g_get (own := RX3) (C := RX3) (T := TX3) (N := 19) (ci := 3) hx hb hq hin_X3 hown hK hG (k := 4) (gok_lo (by decide)) (gc_M) rfl 5 (by decide) (hq _ q_418) rfl (v := .ref (ad 7)) rfl dX3_net_76 ?_
        refine lv_aload_n hx hb dX3_net_79 rfl (lv_at hl 0 rfl) ?_
        refine g_get (own := RX3) (C := RX3) (T := TX3) (N := 19) (ci := 3) hx hb hq hin_X3 hown hK hG (k := 4) (gok_lo (by decide)) (gc_M) rfl 2 (by decide) (hq _ q_415) rfl (v := .int (g_18.1 4 2)) rfl dX3_net_80 ?_
        refine lv_iconst (v := 1) hx hb dX3_net_83 (by decide) ?_
        obtain ⟨hi_19, hw⟩ := hw
        refine g_zast hx hb hK hG (k := 7) (gok_lo (by decide)) (fun g => gc_7) (x := (1 : Int32)) hi_19 (gho_lo (by decide)) dX3_net_84 (fun H locs hG => ?_)
        obtain ⟨g_20, eg_20⟩ : ∃ z, z = gi g_18 7 ((g_18.1 4 2).toNatClampNeg) (vp_nar .boolean (1 : Int32)) := ⟨_, rfl⟩
        rw [← eg_20] at hG
        have hw := hw g_20 eg_20
        refine lv_aload_n hx hb dX3_net_85 rfl (lv_at hl 0 rfl) ?_
        refine lv_dup hx hb dX3_net_86 rfl ?_
        refine g_get (own := RX3) (C := RX3) (T := TX3) (N := 19) (ci := 3) hx hb hq hin_X3 hown hK hG (k := 4) (gok_lo (by decide)) (gc_M) rfl 2 (by decide) (hq _ q_415) rfl (v := .int (g_20.1 4 2)) rfl dX3_net_87 ?_
        refine lv_iconst (v := 1) hx hb dX3_net_90 (by decide) ?_
        refine lv_iadd hx hb dX3_net_91 ?_
        refine lv_topi (fun x_21 ex_21 => ?_)
        have hw := hw x_21 ex_21
        refine g_put (own := RX3) (C := RX3) (T := TX3) (N := 19) (ci := 3) hx hb hq hin_X3 tyX3 tyX3_ok nmX3 hown hK hG (k := 4) (gok_lo (by decide)) (gc_M) rfl 2 (by decide) (hq _ q_415) rfl rfl (ty := .int) (v := .int x_21) (by decide +kernel) rfl rfl (Nat.le_of_ble_eq_true rfl) (gi g_20 4 2 x_21) (gs_M2) (gho_lo (by decide)) dX3_net_92 (fun H locs hG => ?_)
        obtain ⟨g_22, eg_22⟩ : ∃ z, z = gi g_20 4 2 x_21 := ⟨_, rfl⟩
        rw [← eg_22] at hG
        have hw := hw g_22 eg_22
        refine lv_aload_n hx hb dX3_net_95 rfl (lv_at hl 0 rfl) ?_
        refine g_get (own := RX3) (C := RX3) (T := TX3) (N := 19) (ci := 3) hx hb hq hin_X3 hown hK hG (k := 4) (gok_lo (by decide)) (gc_M) rfl 2 (by decide) (hq _ q_415) rfl (v := .int (g_22.1 4 2)) rfl dX3_net_96 ?_
        refine lv_iconst (v := 1) hx hb dX3_net_99 (by decide) ?_
        refine lv_isub hx hb dX3_net_100 ?_
        exact g_iret hx hb hr hlocks hw hG (by decide) (by decide) dX3_net_101
      · have hw := hw.2 c_14
        refine lv_iconst (v := 0) hx hb dX3_net_53 (by decide) ?_
        exact g_iret hx hb hr hlocks hw hG (by decide) (by decide) dX3_net_54
    · have hw := hw.2 c_12
      refine lv_iload_n hx hb dX3_net_14 rfl (lv_at hl 2 rfl) ?_
      refine lv_iconst (v := 1) hx hb dX3_net_15 (by decide) ?_
      refine lv_icmp_lt (tgt := 25) hx hb dX3_net_16 (by decide) (fun c_23 => ?_) (fun c_23 => ?_)
      · have hw := hw.1 c_23
        refine lv_iconst (v := 1) hx hb dX3_net_25 (by decide) ?_
        refine lv_goto (tgt := 43) hx hb dX3_net_26 (by decide) ?_
        refine g_put (own := RX3) (C := RX3) (T := TX3) (N := 19) (ci := 3) hx hb hq hin_X3 tyX3 tyX3_ok nmX3 hown hK hG (k := 4) (gok_lo (by decide)) (gc_M) rfl 0 (by decide) (hq _ q_413) rfl rfl (ty := .int) (v := .int 1) (by decide +kernel) rfl rfl (Nat.le_of_ble_eq_true rfl) (gi g 4 0 (1 : Int32)) (gs_M0) (gho_lo (by decide)) dX3_net_43 (fun H locs hG => ?_)
        obtain ⟨g_24, eg_24⟩ : ∃ z, z = gi g 4 0 (1 : Int32) := ⟨_, rfl⟩
        rw [← eg_24] at hG
        have hw := hw g_24 eg_24
        refine lv_aload_n hx hb dX3_net_46 rfl (lv_at hl 0 rfl) ?_
        refine g_get (own := RX3) (C := RX3) (T := TX3) (N := 19) (ci := 3) hx hb hq hin_X3 hown hK hG (k := 4) (gok_lo (by decide)) (gc_M) rfl 0 (by decide) (hq _ q_413) rfl (v := .int (g_24.1 4 0)) rfl dX3_net_47 ?_
        refine lv_if_le (tgt := 55) hx hb dX3_net_50 (by decide) (fun c_25 => ?_) (fun c_25 => ?_)
        · have hw := hw.1 c_25
          refine lv_aload_n hx hb dX3_net_55 rfl (lv_at hl 0 rfl) ?_
          refine g_get (own := RX3) (C := RX3) (T := TX3) (N := 19) (ci := 3) hx hb hq hin_X3 hown hK hG (k := 4) (gok_lo (by decide)) (gc_M) rfl 3 (by decide) (hq _ q_416) rfl (v := .ref (ad 5)) rfl dX3_net_56 ?_
          refine lv_aload_n hx hb dX3_net_59 rfl (lv_at hl 0 rfl) ?_
          refine g_get (own := RX3) (C := RX3) (T := TX3) (N := 19) (ci := 3) hx hb hq hin_X3 hown hK hG (k := 4) (gok_lo (by decide)) (gc_M) rfl 2 (by decide) (hq _ q_415) rfl (v := .int (g_24.1 4 2)) rfl dX3_net_60 ?_
          refine lv_iload_n hx hb dX3_net_63 rfl (lv_at hl 1 rfl) ?_
          obtain ⟨hi_26, hw⟩ := hw
          refine g_iast hx hb hK hG (k := 5) (gok_lo (by decide)) (fun g => gc_5) (x := p1) hi_26 (gho_lo (by decide)) dX3_net_64 (fun H locs hG => ?_)
          obtain ⟨g_27, eg_27⟩ : ∃ z, z = gi g_24 5 ((g_24.1 4 2).toNatClampNeg) p1 := ⟨_, rfl⟩
          rw [← eg_27] at hG
          have hw := hw g_27 eg_27
          refine lv_aload_n hx hb dX3_net_65 rfl (lv_at hl 0 rfl) ?_
          refine g_get (own := RX3) (C := RX3) (T := TX3) (N := 19) (ci := 3) hx hb hq hin_X3 hown hK hG (k := 4) (gok_lo (by decide)) (gc_M) rfl 4 (by decide) (hq _ q_417) rfl (v := .ref (ad 6)) rfl dX3_net_66 ?_
          refine lv_aload_n hx hb dX3_net_69 rfl (lv_at hl 0 rfl) ?_
          refine g_get (own := RX3) (C := RX3) (T := TX3) (N := 19) (ci := 3) hx hb hq hin_X3 hown hK hG (k := 4) (gok_lo (by decide)) (gc_M) rfl 2 (by decide) (hq _ q_415) rfl (v := .int (g_27.1 4 2)) rfl dX3_net_70 ?_
          refine lv_iload_n hx hb dX3_net_73 rfl (lv_at hl 2 rfl) ?_
          obtain ⟨hi_28, hw⟩ := hw
          refine g_iast hx hb hK hG (k := 6) (gok_lo (by decide)) (fun g => gc_6) (x := p2) hi_28 (gho_lo (by decide)) dX3_net_74 (fun H locs hG => ?_)
          obtain ⟨g_29, eg_29⟩ : ∃ z, z = gi g_27 6 ((g_27.1 4 2).toNatClampNeg) p2 := ⟨_, rfl⟩
          rw [← eg_29] at hG
          have hw := hw g_29 eg_29
          refine lv_aload_n hx hb dX3_net_75 rfl (lv_at hl 0 rfl) ?_
          refine g_get (own := RX3) (C := RX3) (T := TX3) (N := 19) (ci := 3) hx hb hq hin_X3 hown hK hG (k := 4) (gok_lo (by decide)) (gc_M) rfl 5 (by decide) (hq _ q_418) rfl (v := .ref (ad 7)) rfl dX3_net_76 ?_
          refine lv_aload_n hx hb dX3_net_79 rfl (lv_at hl 0 rfl) ?_
          refine g_get (own := RX3) (C := RX3) (T := TX3) (N := 19) (ci := 3) hx hb hq hin_X3 hown hK hG (k := 4) (gok_lo (by decide)) (gc_M) rfl 2 (by decide) (hq _ q_415) rfl (v := .int (g_29.1 4 2)) rfl dX3_net_80 ?_
          refine lv_iconst (v := 1) hx hb dX3_net_83 (by decide) ?_
          obtain ⟨hi_30, hw⟩ := hw
          refine g_zast hx hb hK hG (k := 7) (gok_lo (by decide)) (fun g => gc_7) (x := (1 : Int32)) hi_30 (gho_lo (by decide)) dX3_net_84 (fun H locs hG => ?_)
          obtain ⟨g_31, eg_31⟩ : ∃ z, z = gi g_29 7 ((g_29.1 4 2).toNatClampNeg) (vp_nar .boolean (1 : Int32)) := ⟨_, rfl⟩
          rw [← eg_31] at hG
          have hw := hw g_31 eg_31
          refine lv_aload_n hx hb dX3_net_85 rfl (lv_at hl 0 rfl) ?_
          refine lv_dup hx hb dX3_net_86 rfl ?_
          refine g_get (own := RX3) (C := RX3) (T := TX3) (N := 19) (ci := 3) hx hb hq hin_X3 hown hK hG (k := 4) (gok_lo (by decide)) (gc_M) rfl 2 (by decide) (hq _ q_415) rfl (v := .int (g_31.1 4 2)) rfl dX3_net_87 ?_
          refine lv_iconst (v := 1) hx hb dX3_net_90 (by decide) ?_
          refine lv_iadd hx hb dX3_net_91 ?_
          refine lv_topi (fun x_32 ex_32 => ?_)
          have hw := hw x_32 ex_32
          refine g_put (own := RX3) (C := RX3) (T := TX3) (N := 19) (ci := 3) hx hb hq hin_X3 tyX3 tyX3_ok nmX3 hown hK hG (k := 4) (gok_lo (by decide)) (gc_M) rfl 2 (by decide) (hq _ q_415) rfl rfl (ty := .int) (v := .int x_32) (by decide +kernel) rfl rfl (Nat.le_of_ble_eq_true rfl) (gi g_31 4 2 x_32) (gs_M2) (gho_lo (by decide)) dX3_net_92 (fun H locs hG => ?_)
          obtain ⟨g_33, eg_33⟩ : ∃ z, z = gi g_31 4 2 x_32 := ⟨_, rfl⟩
          rw [← eg_33] at hG
          have hw := hw g_33 eg_33
          refine lv_aload_n hx hb dX3_net_95 rfl (lv_at hl 0 rfl) ?_
          refine g_get (own := RX3) (C := RX3) (T := TX3) (N := 19) (ci := 3) hx hb hq hin_X3 hown hK hG (k := 4) (gok_lo (by decide)) (gc_M) rfl 2 (by decide) (hq _ q_415) rfl (v := .int (g_33.1 4 2)) rfl dX3_net_96 ?_
          refine lv_iconst (v := 1) hx hb dX3_net_99 (by decide) ?_
          refine lv_isub hx hb dX3_net_100 ?_
          exact g_iret hx hb hr hlocks hw hG (by decide) (by decide) dX3_net_101
        · have hw := hw.2 c_25
          refine lv_iconst (v := 0) hx hb dX3_net_53 (by decide) ?_
          exact g_iret hx hb hr hlocks hw hG (by decide) (by decide) dX3_net_54
      · have hw := hw.2 c_23
        refine lv_iload_n hx hb dX3_net_19 rfl (lv_at hl 2 rfl) ?_
        refine lv_bipush (v := 50) hx hb dX3_net_20 (by decide) ?_
        refine lv_icmp_le (tgt := 29) hx hb dX3_net_22 (by decide) (fun c_34 => ?_) (fun c_34 => ?_)
        · have hw := hw.1 c_34
          refine lv_aload_n hx hb dX3_net_29 rfl (lv_at hl 0 rfl) ?_
          refine g_get (own := RX3) (C := RX3) (T := TX3) (N := 19) (ci := 3) hx hb hq hin_X3 hown hK hG (k := 4) (gok_lo (by decide)) (gc_M) rfl 2 (by decide) (hq _ q_415) rfl (v := .int (g.1 4 2)) rfl dX3_net_30 ?_
          refine lv_bipush (v := 24) hx hb dX3_net_33 (by decide) ?_
          refine lv_icmp_ne (tgt := 42) hx hb dX3_net_35 (by decide) (fun c_35 => ?_) (fun c_35 => ?_)
          · have hw := hw.1 c_35
            refine lv_iconst (v := 0) hx hb dX3_net_42 (by decide) ?_
            refine g_put (own := RX3) (C := RX3) (T := TX3) (N := 19) (ci := 3) hx hb hq hin_X3 tyX3 tyX3_ok nmX3 hown hK hG (k := 4) (gok_lo (by decide)) (gc_M) rfl 0 (by decide) (hq _ q_413) rfl rfl (ty := .int) (v := .int 0) (by decide +kernel) rfl rfl (Nat.le_of_ble_eq_true rfl) (gi g 4 0 (0 : Int32)) (gs_M0) (gho_lo (by decide)) dX3_net_43 (fun H locs hG => ?_)
            obtain ⟨g_36, eg_36⟩ : ∃ z, z = gi g 4 0 (0 : Int32) := ⟨_, rfl⟩
            rw [← eg_36] at hG
            have hw := hw g_36 eg_36
            refine lv_aload_n hx hb dX3_net_46 rfl (lv_at hl 0 rfl) ?_
            refine g_get (own := RX3) (C := RX3) (T := TX3) (N := 19) (ci := 3) hx hb hq hin_X3 hown hK hG (k := 4) (gok_lo (by decide)) (gc_M) rfl 0 (by decide) (hq _ q_413) rfl (v := .int (g_36.1 4 0)) rfl dX3_net_47 ?_
            refine lv_if_le (tgt := 55) hx hb dX3_net_50 (by decide) (fun c_37 => ?_) (fun c_37 => ?_)
            · have hw := hw.1 c_37
              refine lv_aload_n hx hb dX3_net_55 rfl (lv_at hl 0 rfl) ?_
              refine g_get (own := RX3) (C := RX3) (T := TX3) (N := 19) (ci := 3) hx hb hq hin_X3 hown hK hG (k := 4) (gok_lo (by decide)) (gc_M) rfl 3 (by decide) (hq _ q_416) rfl (v := .ref (ad 5)) rfl dX3_net_56 ?_
              refine lv_aload_n hx hb dX3_net_59 rfl (lv_at hl 0 rfl) ?_
              refine g_get (own := RX3) (C := RX3) (T := TX3) (N := 19) (ci := 3) hx hb hq hin_X3 hown hK hG (k := 4) (gok_lo (by decide)) (gc_M) rfl 2 (by decide) (hq _ q_415) rfl (v := .int (g_36.1 4 2)) rfl dX3_net_60 ?_
              refine lv_iload_n hx hb dX3_net_63 rfl (lv_at hl 1 rfl) ?_
              obtain ⟨hi_38, hw⟩ := hw
              refine g_iast hx hb hK hG (k := 5) (gok_lo (by decide)) (fun g => gc_5) (x := p1) hi_38 (gho_lo (by decide)) dX3_net_64 (fun H locs hG => ?_)
              obtain ⟨g_39, eg_39⟩ : ∃ z, z = gi g_36 5 ((g_36.1 4 2).toNatClampNeg) p1 := ⟨_, rfl⟩
              rw [← eg_39] at hG
              have hw := hw g_39 eg_39
              refine lv_aload_n hx hb dX3_net_65 rfl (lv_at hl 0 rfl) ?_
              refine g_get (own := RX3) (C := RX3) (T := TX3) (N := 19) (ci := 3) hx hb hq hin_X3 hown hK hG (k := 4) (gok_lo (by decide)) (gc_M) rfl 4 (by decide) (hq _ q_417) rfl (v := .ref (ad 6)) rfl dX3_net_66 ?_
              refine lv_aload_n hx hb dX3_net_69 rfl (lv_at hl 0 rfl) ?_
              refine g_get (own := RX3) (C := RX3) (T := TX3) (N := 19) (ci := 3) hx hb hq hin_X3 hown hK hG (k := 4) (gok_lo (by decide)) (gc_M) rfl 2 (by decide) (hq _ q_415) rfl (v := .int (g_39.1 4 2)) rfl dX3_net_70 ?_
              refine lv_iload_n hx hb dX3_net_73 rfl (lv_at hl 2 rfl) ?_
              obtain ⟨hi_40, hw⟩ := hw
              refine g_iast hx hb hK hG (k := 6) (gok_lo (by decide)) (fun g => gc_6) (x := p2) hi_40 (gho_lo (by decide)) dX3_net_74 (fun H locs hG => ?_)
              obtain ⟨g_41, eg_41⟩ : ∃ z, z = gi g_39 6 ((g_39.1 4 2).toNatClampNeg) p2 := ⟨_, rfl⟩
              rw [← eg_41] at hG
              have hw := hw g_41 eg_41
              refine lv_aload_n hx hb dX3_net_75 rfl (lv_at hl 0 rfl) ?_
              refine g_get (own := RX3) (C := RX3) (T := TX3) (N := 19) (ci := 3) hx hb hq hin_X3 hown hK hG (k := 4) (gok_lo (by decide)) (gc_M) rfl 5 (by decide) (hq _ q_418) rfl (v := .ref (ad 7)) rfl dX3_net_76 ?_
              refine lv_aload_n hx hb dX3_net_79 rfl (lv_at hl 0 rfl) ?_
              refine g_get (own := RX3) (C := RX3) (T := TX3) (N := 19) (ci := 3) hx hb hq hin_X3 hown hK hG (k := 4) (gok_lo (by decide)) (gc_M) rfl 2 (by decide) (hq _ q_415) rfl (v := .int (g_41.1 4 2)) rfl dX3_net_80 ?_
              refine lv_iconst (v := 1) hx hb dX3_net_83 (by decide) ?_
              obtain ⟨hi_42, hw⟩ := hw
              refine g_zast hx hb hK hG (k := 7) (gok_lo (by decide)) (fun g => gc_7) (x := (1 : Int32)) hi_42 (gho_lo (by decide)) dX3_net_84 (fun H locs hG => ?_)
              obtain ⟨g_43, eg_43⟩ : ∃ z, z = gi g_41 7 ((g_41.1 4 2).toNatClampNeg) (vp_nar .boolean (1 : Int32)) := ⟨_, rfl⟩
              rw [← eg_43] at hG
              have hw := hw g_43 eg_43
              refine lv_aload_n hx hb dX3_net_85 rfl (lv_at hl 0 rfl) ?_
              refine lv_dup hx hb dX3_net_86 rfl ?_
              refine g_get (own := RX3) (C := RX3) (T := TX3) (N := 19) (ci := 3) hx hb hq hin_X3 hown hK hG (k := 4) (gok_lo (by decide)) (gc_M) rfl 2 (by decide) (hq _ q_415) rfl (v := .int (g_43.1 4 2)) rfl dX3_net_87 ?_
              refine lv_iconst (v := 1) hx hb dX3_net_90 (by decide) ?_
              refine lv_iadd hx hb dX3_net_91 ?_
              refine lv_topi (fun x_44 ex_44 => ?_)
              have hw := hw x_44 ex_44
              refine g_put (own := RX3) (C := RX3) (T := TX3) (N := 19) (ci := 3) hx hb hq hin_X3 tyX3 tyX3_ok nmX3 hown hK hG (k := 4) (gok_lo (by decide)) (gc_M) rfl 2 (by decide) (hq _ q_415) rfl rfl (ty := .int) (v := .int x_44) (by decide +kernel) rfl rfl (Nat.le_of_ble_eq_true rfl) (gi g_43 4 2 x_44) (gs_M2) (gho_lo (by decide)) dX3_net_92 (fun H locs hG => ?_)
              obtain ⟨g_45, eg_45⟩ : ∃ z, z = gi g_43 4 2 x_44 := ⟨_, rfl⟩
              rw [← eg_45] at hG
              have hw := hw g_45 eg_45
              refine lv_aload_n hx hb dX3_net_95 rfl (lv_at hl 0 rfl) ?_
              refine g_get (own := RX3) (C := RX3) (T := TX3) (N := 19) (ci := 3) hx hb hq hin_X3 hown hK hG (k := 4) (gok_lo (by decide)) (gc_M) rfl 2 (by decide) (hq _ q_415) rfl (v := .int (g_45.1 4 2)) rfl dX3_net_96 ?_
              refine lv_iconst (v := 1) hx hb dX3_net_99 (by decide) ?_
              refine lv_isub hx hb dX3_net_100 ?_
              exact g_iret hx hb hr hlocks hw hG (by decide) (by decide) dX3_net_101
            · have hw := hw.2 c_37
              refine lv_iconst (v := 0) hx hb dX3_net_53 (by decide) ?_
              exact g_iret hx hb hr hlocks hw hG (by decide) (by decide) dX3_net_54
          · have hw := hw.2 c_35
            refine lv_iconst (v := 2) hx hb dX3_net_38 (by decide) ?_
            refine lv_goto (tgt := 43) hx hb dX3_net_39 (by decide) ?_
            refine g_put (own := RX3) (C := RX3) (T := TX3) (N := 19) (ci := 3) hx hb hq hin_X3 tyX3 tyX3_ok nmX3 hown hK hG (k := 4) (gok_lo (by decide)) (gc_M) rfl 0 (by decide) (hq _ q_413) rfl rfl (ty := .int) (v := .int 2) (by decide +kernel) rfl rfl (Nat.le_of_ble_eq_true rfl) (gi g 4 0 (2 : Int32)) (gs_M0) (gho_lo (by decide)) dX3_net_43 (fun H locs hG => ?_)
            obtain ⟨g_46, eg_46⟩ : ∃ z, z = gi g 4 0 (2 : Int32) := ⟨_, rfl⟩
            rw [← eg_46] at hG
            have hw := hw g_46 eg_46
            refine lv_aload_n hx hb dX3_net_46 rfl (lv_at hl 0 rfl) ?_
            refine g_get (own := RX3) (C := RX3) (T := TX3) (N := 19) (ci := 3) hx hb hq hin_X3 hown hK hG (k := 4) (gok_lo (by decide)) (gc_M) rfl 0 (by decide) (hq _ q_413) rfl (v := .int (g_46.1 4 0)) rfl dX3_net_47 ?_
            refine lv_if_le (tgt := 55) hx hb dX3_net_50 (by decide) (fun c_47 => ?_) (fun c_47 => ?_)
            · have hw := hw.1 c_47
              refine lv_aload_n hx hb dX3_net_55 rfl (lv_at hl 0 rfl) ?_
              refine g_get (own := RX3) (C := RX3) (T := TX3) (N := 19) (ci := 3) hx hb hq hin_X3 hown hK hG (k := 4) (gok_lo (by decide)) (gc_M) rfl 3 (by decide) (hq _ q_416) rfl (v := .ref (ad 5)) rfl dX3_net_56 ?_
              refine lv_aload_n hx hb dX3_net_59 rfl (lv_at hl 0 rfl) ?_
              refine g_get (own := RX3) (C := RX3) (T := TX3) (N := 19) (ci := 3) hx hb hq hin_X3 hown hK hG (k := 4) (gok_lo (by decide)) (gc_M) rfl 2 (by decide) (hq _ q_415) rfl (v := .int (g_46.1 4 2)) rfl dX3_net_60 ?_
              refine lv_iload_n hx hb dX3_net_63 rfl (lv_at hl 1 rfl) ?_
              obtain ⟨hi_48, hw⟩ := hw
              refine g_iast hx hb hK hG (k := 5) (gok_lo (by decide)) (fun g => gc_5) (x := p1) hi_48 (gho_lo (by decide)) dX3_net_64 (fun H locs hG => ?_)
              obtain ⟨g_49, eg_49⟩ : ∃ z, z = gi g_46 5 ((g_46.1 4 2).toNatClampNeg) p1 := ⟨_, rfl⟩
              rw [← eg_49] at hG
              have hw := hw g_49 eg_49
              refine lv_aload_n hx hb dX3_net_65 rfl (lv_at hl 0 rfl) ?_
              refine g_get (own := RX3) (C := RX3) (T := TX3) (N := 19) (ci := 3) hx hb hq hin_X3 hown hK hG (k := 4) (gok_lo (by decide)) (gc_M) rfl 4 (by decide) (hq _ q_417) rfl (v := .ref (ad 6)) rfl dX3_net_66 ?_
              refine lv_aload_n hx hb dX3_net_69 rfl (lv_at hl 0 rfl) ?_
              refine g_get (own := RX3) (C := RX3) (T := TX3) (N := 19) (ci := 3) hx hb hq hin_X3 hown hK hG (k := 4) (gok_lo (by decide)) (gc_M) rfl 2 (by decide) (hq _ q_415) rfl (v := .int (g_49.1 4 2)) rfl dX3_net_70 ?_
              refine lv_iload_n hx hb dX3_net_73 rfl (lv_at hl 2 rfl) ?_
              obtain ⟨hi_50, hw⟩ := hw
              refine g_iast hx hb hK hG (k := 6) (gok_lo (by decide)) (fun g => gc_6) (x := p2) hi_50 (gho_lo (by decide)) dX3_net_74 (fun H locs hG => ?_)
              obtain ⟨g_51, eg_51⟩ : ∃ z, z = gi g_49 6 ((g_49.1 4 2).toNatClampNeg) p2 := ⟨_, rfl⟩
              rw [← eg_51] at hG
              have hw := hw g_51 eg_51
              refine lv_aload_n hx hb dX3_net_75 rfl (lv_at hl 0 rfl) ?_
              refine g_get (own := RX3) (C := RX3) (T := TX3) (N := 19) (ci := 3) hx hb hq hin_X3 hown hK hG (k := 4) (gok_lo (by decide)) (gc_M) rfl 5 (by decide) (hq _ q_418) rfl (v := .ref (ad 7)) rfl dX3_net_76 ?_
              refine lv_aload_n hx hb dX3_net_79 rfl (lv_at hl 0 rfl) ?_
              refine g_get (own := RX3) (C := RX3) (T := TX3) (N := 19) (ci := 3) hx hb hq hin_X3 hown hK hG (k := 4) (gok_lo (by decide)) (gc_M) rfl 2 (by decide) (hq _ q_415) rfl (v := .int (g_51.1 4 2)) rfl dX3_net_80 ?_
              refine lv_iconst (v := 1) hx hb dX3_net_83 (by decide) ?_
              obtain ⟨hi_52, hw⟩ := hw
              refine g_zast hx hb hK hG (k := 7) (gok_lo (by decide)) (fun g => gc_7) (x := (1 : Int32)) hi_52 (gho_lo (by decide)) dX3_net_84 (fun H locs hG => ?_)
              obtain ⟨g_53, eg_53⟩ : ∃ z, z = gi g_51 7 ((g_51.1 4 2).toNatClampNeg) (vp_nar .boolean (1 : Int32)) := ⟨_, rfl⟩
              rw [← eg_53] at hG
              have hw := hw g_53 eg_53
              refine lv_aload_n hx hb dX3_net_85 rfl (lv_at hl 0 rfl) ?_
              refine lv_dup hx hb dX3_net_86 rfl ?_
              refine g_get (own := RX3) (C := RX3) (T := TX3) (N := 19) (ci := 3) hx hb hq hin_X3 hown hK hG (k := 4) (gok_lo (by decide)) (gc_M) rfl 2 (by decide) (hq _ q_415) rfl (v := .int (g_53.1 4 2)) rfl dX3_net_87 ?_
              refine lv_iconst (v := 1) hx hb dX3_net_90 (by decide) ?_
              refine lv_iadd hx hb dX3_net_91 ?_
              refine lv_topi (fun x_54 ex_54 => ?_)
              have hw := hw x_54 ex_54
              refine g_put (own := RX3) (C := RX3) (T := TX3) (N := 19) (ci := 3) hx hb hq hin_X3 tyX3 tyX3_ok nmX3 hown hK hG (k := 4) (gok_lo (by decide)) (gc_M) rfl 2 (by decide) (hq _ q_415) rfl rfl (ty := .int) (v := .int x_54) (by decide +kernel) rfl rfl (Nat.le_of_ble_eq_true rfl) (gi g_53 4 2 x_54) (gs_M2) (gho_lo (by decide)) dX3_net_92 (fun H locs hG => ?_)
              obtain ⟨g_55, eg_55⟩ : ∃ z, z = gi g_53 4 2 x_54 := ⟨_, rfl⟩
              rw [← eg_55] at hG
              have hw := hw g_55 eg_55
              refine lv_aload_n hx hb dX3_net_95 rfl (lv_at hl 0 rfl) ?_
              refine g_get (own := RX3) (C := RX3) (T := TX3) (N := 19) (ci := 3) hx hb hq hin_X3 hown hK hG (k := 4) (gok_lo (by decide)) (gc_M) rfl 2 (by decide) (hq _ q_415) rfl (v := .int (g_55.1 4 2)) rfl dX3_net_96 ?_
              refine lv_iconst (v := 1) hx hb dX3_net_99 (by decide) ?_
              refine lv_isub hx hb dX3_net_100 ?_
              exact g_iret hx hb hr hlocks hw hG (by decide) (by decide) dX3_net_101
            · have hw := hw.2 c_47
              refine lv_iconst (v := 0) hx hb dX3_net_53 (by decide) ?_
              exact g_iret hx hb hr hlocks hw hG (by decide) (by decide) dX3_net_54
        · have hw := hw.2 c_34
          refine lv_iconst (v := 1) hx hb dX3_net_25 (by decide) ?_
          refine lv_goto (tgt := 43) hx hb dX3_net_26 (by decide) ?_
          refine g_put (own := RX3) (C := RX3) (T := TX3) (N := 19) (ci := 3) hx hb hq hin_X3 tyX3 tyX3_ok nmX3 hown hK hG (k := 4) (gok_lo (by decide)) (gc_M) rfl 0 (by decide) (hq _ q_413) rfl rfl (ty := .int) (v := .int 1) (by decide +kernel) rfl rfl (Nat.le_of_ble_eq_true rfl) (gi g 4 0 (1 : Int32)) (gs_M0) (gho_lo (by decide)) dX3_net_43 (fun H locs hG => ?_)
          obtain ⟨g_56, eg_56⟩ : ∃ z, z = gi g 4 0 (1 : Int32) := ⟨_, rfl⟩
          rw [← eg_56] at hG
          have hw := hw g_56 eg_56
          refine lv_aload_n hx hb dX3_net_46 rfl (lv_at hl 0 rfl) ?_
          refine g_get (own := RX3) (C := RX3) (T := TX3) (N := 19) (ci := 3) hx hb hq hin_X3 hown hK hG (k := 4) (gok_lo (by decide)) (gc_M) rfl 0 (by decide) (hq _ q_413) rfl (v := .int (g_56.1 4 0)) rfl dX3_net_47 ?_
          refine lv_if_le (tgt := 55) hx hb dX3_net_50 (by decide) (fun c_57 => ?_) (fun c_57 => ?_)
          · have hw := hw.1 c_57
            refine lv_aload_n hx hb dX3_net_55 rfl (lv_at hl 0 rfl) ?_
            refine g_get (own := RX3) (C := RX3) (T := TX3) (N := 19) (ci := 3) hx hb hq hin_X3 hown hK hG (k := 4) (gok_lo (by decide)) (gc_M) rfl 3 (by decide) (hq _ q_416) rfl (v := .ref (ad 5)) rfl dX3_net_56 ?_
            refine lv_aload_n hx hb dX3_net_59 rfl (lv_at hl 0 rfl) ?_
            refine g_get (own := RX3) (C := RX3) (T := TX3) (N := 19) (ci := 3) hx hb hq hin_X3 hown hK hG (k := 4) (gok_lo (by decide)) (gc_M) rfl 2 (by decide) (hq _ q_415) rfl (v := .int (g_56.1 4 2)) rfl dX3_net_60 ?_
            refine lv_iload_n hx hb dX3_net_63 rfl (lv_at hl 1 rfl) ?_
            obtain ⟨hi_58, hw⟩ := hw
            refine g_iast hx hb hK hG (k := 5) (gok_lo (by decide)) (fun g => gc_5) (x := p1) hi_58 (gho_lo (by decide)) dX3_net_64 (fun H locs hG => ?_)
            obtain ⟨g_59, eg_59⟩ : ∃ z, z = gi g_56 5 ((g_56.1 4 2).toNatClampNeg) p1 := ⟨_, rfl⟩
            rw [← eg_59] at hG
            have hw := hw g_59 eg_59
            refine lv_aload_n hx hb dX3_net_65 rfl (lv_at hl 0 rfl) ?_
            refine g_get (own := RX3) (C := RX3) (T := TX3) (N := 19) (ci := 3) hx hb hq hin_X3 hown hK hG (k := 4) (gok_lo (by decide)) (gc_M) rfl 4 (by decide) (hq _ q_417) rfl (v := .ref (ad 6)) rfl dX3_net_66 ?_
            refine lv_aload_n hx hb dX3_net_69 rfl (lv_at hl 0 rfl) ?_
            refine g_get (own := RX3) (C := RX3) (T := TX3) (N := 19) (ci := 3) hx hb hq hin_X3 hown hK hG (k := 4) (gok_lo (by decide)) (gc_M) rfl 2 (by decide) (hq _ q_415) rfl (v := .int (g_59.1 4 2)) rfl dX3_net_70 ?_
            refine lv_iload_n hx hb dX3_net_73 rfl (lv_at hl 2 rfl) ?_
            obtain ⟨hi_60, hw⟩ := hw
            refine g_iast hx hb hK hG (k := 6) (gok_lo (by decide)) (fun g => gc_6) (x := p2) hi_60 (gho_lo (by decide)) dX3_net_74 (fun H locs hG => ?_)
            obtain ⟨g_61, eg_61⟩ : ∃ z, z = gi g_59 6 ((g_59.1 4 2).toNatClampNeg) p2 := ⟨_, rfl⟩
            rw [← eg_61] at hG
            have hw := hw g_61 eg_61
            refine lv_aload_n hx hb dX3_net_75 rfl (lv_at hl 0 rfl) ?_
            refine g_get (own := RX3) (C := RX3) (T := TX3) (N := 19) (ci := 3) hx hb hq hin_X3 hown hK hG (k := 4) (gok_lo (by decide)) (gc_M) rfl 5 (by decide) (hq _ q_418) rfl (v := .ref (ad 7)) rfl dX3_net_76 ?_
            refine lv_aload_n hx hb dX3_net_79 rfl (lv_at hl 0 rfl) ?_
            refine g_get (own := RX3) (C := RX3) (T := TX3) (N := 19) (ci := 3) hx hb hq hin_X3 hown hK hG (k := 4) (gok_lo (by decide)) (gc_M) rfl 2 (by decide) (hq _ q_415) rfl (v := .int (g_61.1 4 2)) rfl dX3_net_80 ?_
            refine lv_iconst (v := 1) hx hb dX3_net_83 (by decide) ?_
            obtain ⟨hi_62, hw⟩ := hw
            refine g_zast hx hb hK hG (k := 7) (gok_lo (by decide)) (fun g => gc_7) (x := (1 : Int32)) hi_62 (gho_lo (by decide)) dX3_net_84 (fun H locs hG => ?_)
            obtain ⟨g_63, eg_63⟩ : ∃ z, z = gi g_61 7 ((g_61.1 4 2).toNatClampNeg) (vp_nar .boolean (1 : Int32)) := ⟨_, rfl⟩
            rw [← eg_63] at hG
            have hw := hw g_63 eg_63
            refine lv_aload_n hx hb dX3_net_85 rfl (lv_at hl 0 rfl) ?_
            refine lv_dup hx hb dX3_net_86 rfl ?_
            refine g_get (own := RX3) (C := RX3) (T := TX3) (N := 19) (ci := 3) hx hb hq hin_X3 hown hK hG (k := 4) (gok_lo (by decide)) (gc_M) rfl 2 (by decide) (hq _ q_415) rfl (v := .int (g_63.1 4 2)) rfl dX3_net_87 ?_
            refine lv_iconst (v := 1) hx hb dX3_net_90 (by decide) ?_
            refine lv_iadd hx hb dX3_net_91 ?_
            refine lv_topi (fun x_64 ex_64 => ?_)
            have hw := hw x_64 ex_64
            refine g_put (own := RX3) (C := RX3) (T := TX3) (N := 19) (ci := 3) hx hb hq hin_X3 tyX3 tyX3_ok nmX3 hown hK hG (k := 4) (gok_lo (by decide)) (gc_M) rfl 2 (by decide) (hq _ q_415) rfl rfl (ty := .int) (v := .int x_64) (by decide +kernel) rfl rfl (Nat.le_of_ble_eq_true rfl) (gi g_63 4 2 x_64) (gs_M2) (gho_lo (by decide)) dX3_net_92 (fun H locs hG => ?_)
            obtain ⟨g_65, eg_65⟩ : ∃ z, z = gi g_63 4 2 x_64 := ⟨_, rfl⟩
            rw [← eg_65] at hG
            have hw := hw g_65 eg_65
            refine lv_aload_n hx hb dX3_net_95 rfl (lv_at hl 0 rfl) ?_
            refine g_get (own := RX3) (C := RX3) (T := TX3) (N := 19) (ci := 3) hx hb hq hin_X3 hown hK hG (k := 4) (gok_lo (by decide)) (gc_M) rfl 2 (by decide) (hq _ q_415) rfl (v := .int (g_65.1 4 2)) rfl dX3_net_96 ?_
            refine lv_iconst (v := 1) hx hb dX3_net_99 (by decide) ?_
            refine lv_isub hx hb dX3_net_100 ?_
            exact g_iret hx hb hr hlocks hw hG (by decide) (by decide) dX3_net_101
          · have hw := hw.2 c_57
            refine lv_iconst (v := 0) hx hb dX3_net_53 (by decide) ?_
            exact g_iret hx hb hr hlocks hw hG (by decide) (by decide) dX3_net_54

def wpl_X3_remove_24 (post : gS → Prop) : Nat → Int32 → Int32 → gS → Prop
  | 0 => fun _ _ _ => False
  | n + 1 => fun x1 x2 g => (((g.1 4 4) ≤ x2) → (post g)) ∧ ((¬ (g.1 4 4) ≤ x2) → (∀ i_7 : Int32, i_7 = x2 + 1 → (vp_in i_7 512 ∧ (∀ x_9 : Int32, x_9 = g.1 12 i_7.toNatClampNeg → (vp_in x2 512 ∧ (∀ g_11 : gS, g_11 = gi g 12 x2.toNatClampNeg x_9 → (∀ x_12 : Int32, x_12 = x2 + 1 → (wpl_X3_remove_24 post n x1 x_12 g_11))))))))
set_option maxHeartbeats 4000000 in
set_option maxRecDepth 100000 in
theorem L_X3_remove_24 {p : Program} {l : Launch} {e : Env} {s : State} {m : MethodId} {args : Array Value} {below : List Frame} {meth : Method} {c : Code} {D : va_G} {K : Nat → ClassId} {sa ad : Nat → Nat} {A : Nat → Prop} (post : gS → Prop) (hl9 : l.stackTraces = false) (hx : p.tables.exec = Jvm.exec) (hb : c.code = cX3_remove) (hr : meth.sig.returnType = none) (hml : c.maxLocals = 3) (hown : s.vm.findClass RX3 = some m.cls) (hts : ∀ w ∈ wsX3_remove, w.before args s = true) (hlocks : meth.locks = false) (hA : ∀ q, s.heap.size ≤ q → A q) (hE : gE D K sa A s s.heap) : ∀ (n : Nat) (x1 : Int32) (x2 : Int32) (g : gS), wpl_X3_remove_24 post n x1 x2 g → ∀ (H : Heap) (locs : List Loc) (ls : Array Slot), gX D K ad A s.heap g H locs → lv_has ls 3 [(0, .ref (ad 4)), (1, .int x1), (2, .int x2)] → W p l e ({ frames := 0, cells := 0, slots := 0, locals := 0 } : Room) s m args below meth c H locs 0 0 (MQ below (va_Qv post (gB D K ad A) A) args s 0 0 A) (F0 m 24 ls []) := by
  have hK := hE.1
  have hq : ∀ w ∈ gW, w.before args s = true := fun w h => hts w (List.mem_cons_of_mem _ h)
  intro n
  induction n with
  | zero =>
    intro x1 x2 g hw
    exact hw.elim
  | succ n ih =>
    intro x1 x2 g hw H locs ls hG hl
    dsimp only [wpl_X3_remove_24] at hw
    refine lv_iload_n hx hb dX3_remove_24 rfl (lv_at hl 2 rfl) ?_
    refine lv_aload_n hx hb dX3_remove_25 rfl (lv_at hl 0 rfl) ?_
    refine g_get (own := RX3) (C := RX3) (T := TX3) (N := 19) (ci := 3) hx hb hq hin_X3 hown hK hG (k := 4) (gok_lo (by decide)) (gc_M) rfl 11 (by decide) (hq _ q_424) rfl (v := .int (g.1 4 4)) rfl dX3_remove_26 ?_
    refine lv_icmp_ge (tgt := 52) hx hb dX3_remove_29 (by decide) (fun c_6 => ?_) (fun c_6 => ?_)
    · have hw := hw.1 c_6
      exact g_vret hx hb hr hlocks hw hG (by decide) (by decide) dX3_remove_52
    · have hw := hw.2 c_6
      refine lv_aload_n hx hb dX3_remove_32 rfl (lv_at hl 0 rfl) ?_
      refine g_get (own := RX3) (C := RX3) (T := TX3) (N := 19) (ci := 3) hx hb hq hin_X3 hown hK hG (k := 4) (gok_lo (by decide)) (gc_M) rfl 12 (by decide) (hq _ q_425) rfl (v := .ref (ad 12)) rfl dX3_remove_33 ?_
      refine lv_iload_n hx hb dX3_remove_36 rfl (lv_at hl 2 rfl) ?_
      refine lv_aload_n hx hb dX3_remove_37 rfl (lv_at hl 0 rfl) ?_
      refine g_get (own := RX3) (C := RX3) (T := TX3) (N := 19) (ci := 3) hx hb hq hin_X3 hown hK hG (k := 4) (gok_lo (by decide)) (gc_M) rfl 12 (by decide) (hq _ q_425) rfl (v := .ref (ad 12)) rfl dX3_remove_38 ?_
      refine lv_iload_n hx hb dX3_remove_41 rfl (lv_at hl 2 rfl) ?_
      refine lv_iconst (v := 1) hx hb dX3_remove_42 (by decide) ?_
      refine lv_iadd hx hb dX3_remove_43 ?_
      refine lv_topi (fun i_7 ei_7 => ?_)
      have hw := hw i_7 ei_7
      obtain ⟨hi_8, hw⟩ := hw
      refine g_iald hx hb hK hG (k := 12) (gok_lo (by decide)) (gc_12) hi_8 dX3_remove_44 ?_
      refine lv_topi (fun x_9 ex_9 => ?_)
      have hw := hw x_9 ex_9
      obtain ⟨hi_10, hw⟩ := hw
      refine g_iast hx hb hK hG (k := 12) (gok_lo (by decide)) (fun g => gc_12) (x := x_9) hi_10 (gho_lo (by decide)) dX3_remove_45 (fun H locs hG => ?_)
      obtain ⟨g_11, eg_11⟩ : ∃ z, z = gi g 12 x2.toNatClampNeg x_9 := ⟨_, rfl⟩
      rw [← eg_11] at hG
      have hw := hw g_11 eg_11
      obtain ⟨x_12, ex_12⟩ : ∃ y : Int32, y = x2 + 1 := ⟨_, rfl⟩
      have hw := hw x_12 ex_12
      refine lv_iinc (v := x_12) (lv' := [(2, .int x_12), (0, .ref (ad 4)), (1, .int x1)]) hx hb dX3_remove_46 hl (k := 2) rfl (by rw [ex_12]; rfl) (by decide) rfl (fun ls hl => ?_)
      refine lv_goto (tgt := 24) hx hb dX3_remove_49 (by decide) ?_
      exact ih x1 x_12 g_11 hw _ _ _ hG (lv_sub hl [1, 2, 0] rfl)
def wp_X3_remove (post : gS → Prop) (p1 : Int32) (g : gS) : Prop := vp_in p1 512 ∧ (vp_in (g.1 12 p1.toNatClampNeg) 512 ∧ (∀ g_3 : gS, g_3 = gi g 13 ((g.1 12 p1.toNatClampNeg).toNatClampNeg) (vp_nar .boolean (0 : Int32)) → (∀ x_4 : Int32, x_4 = (g_3.1 4 4) - 1 → (∀ g_5 : gS, g_5 = gi g_3 4 4 x_4 → (∃ n, wpl_X3_remove_24 post n p1 p1 g_5)))))
set_option maxHeartbeats 4000000 in
set_option maxRecDepth 100000 in
theorem m_X3_remove {l : Launch} (hl9 : l.stackTraces = false) (D : va_G) (K : Nat → ClassId) (sa ad : Nat → Nat) (sz : Nat) (post : gS → Prop) (p1 : Int32) (g : gS) (hw : wp_X3_remove post p1 g) : Met l yX3_remove wsX3_remove ({ frames := 0, cells := 0, slots := 0, locals := 0 } : Room) (gPc D K sa ad sz g [.ref (ad 4), .int p1]) (va_Qv post (gB D K ad (va_A (gw K ad g) sz)) (va_A (gw K ad g) sz)) 0 0 (va_A (gw K ad g) sz) := by
  refine Met.ofW (cc := cX3_remove) (maxL := 3) (ret := none) (by decide) rfl ?_
  intro p e s m args below meth c s₁ B hml hv
  obtain ⟨rfl, hsz, hP, hE, hD0⟩ := hv
  have hx := B.exec
  have hb := B.bytes
  have hr := B.returns
  have hts := atoms_spec (ws := wsX3_remove) B.pre
  have hq : ∀ w ∈ gW, w.before _ s = true := fun w h => hts w (List.mem_cons_of_mem _ h)
  have hown : s.vm.findClass RX3 = some m.cls := findClass_of_methodNamed B.named
  have hlocks := B.notSynchronized
  subst hsz
  have hD := hD0.self (sz := s.heap.size)
  generalize hAe : va_A (gw K ad g) s.heap.size = A at hD hE ⊢
  have hA : ∀ q : Nat, s.heap.size ≤ q → A q := fun q h => by rw [← hAe]; exact Or.inr h
  have hK := hE.1
  have hG : gX D K ad A s.heap g s.heap [] := ⟨hP, hD, va_S.rf⟩
  have hl := lv_entry ([.ref (ad 4), .int p1]) (n := 3) (Nat.le_of_ble_eq_true rfl)
  rw [lg_entry_eq]
  generalize (lg_sl ([.ref (ad 4), .int p1]) ++ List.replicate (3 - (lg_sl ([.ref (ad 4), .int p1])).length) Slot.unset).toArray = ls at hl ⊢
  have hl : lv_has ls 3 [(0, .ref (ad 4)), (1, .int p1)] := hl
  dsimp only [wp_X3_remove] at hw
  refine lv_aload_n hx hb dX3_remove_0 rfl (lv_at hl 0 rfl) ?_
  refine g_get (own := RX3) (C := RX3) (T := TX3) (N := 19) (ci := 3) hx hb hq hin_X3 hown hK hG (k := 4) (gok_lo (by decide)) (gc_M) rfl 13 (by decide) (hq _ q_426) rfl (v := .ref (ad 13)) rfl dX3_remove_1 ?_
  refine lv_aload_n hx hb dX3_remove_4 rfl (lv_at hl 0 rfl) ?_
  refine g_get (own := RX3) (C := RX3) (T := TX3) (N := 19) (ci := 3) hx hb hq hin_X3 hown hK hG (k := 4) (gok_lo (by decide)) (gc_M) rfl 12 (by decide) (hq _ q_425) rfl (v := .ref (ad 12)) rfl dX3_remove_5 ?_
  refine lv_iload_n hx hb dX3_remove_8 rfl (lv_at hl 1 rfl) ?_
  obtain ⟨hi_1, hw⟩ := hw
  refine g_iald hx hb hK hG (k := 12) (gok_lo (by decide)) (gc_12) hi_1 dX3_remove_9 ?_
  refine lv_iconst (v := 0) hx hb dX3_remove_10 (by decide) ?_
  obtain ⟨hi_2, hw⟩ := hw
  refine g_zast hx hb hK hG (k := 13) (gok_lo (by decide)) (fun g => gc_13) (x := (0 : Int32)) hi_2 (gho_lo (by decide)) dX3_remove_11 (fun H locs hG => ?_)
  obtain ⟨g_3, eg_3⟩ : ∃ z, z = gi g 13 ((g.1 12 p1.toNatClampNeg).toNatClampNeg) (vp_nar .boolean (0 : Int32)) := ⟨_, rfl⟩
  rw [← eg_3] at hG
  have hw := hw g_3 eg_3
  refine lv_aload_n hx hb dX3_remove_12 rfl (lv_at hl 0 rfl) ?_
  refine lv_dup hx hb dX3_remove_13 rfl ?_
  refine g_get (own := RX3) (C := RX3) (T := TX3) (N := 19) (ci := 3) hx hb hq hin_X3 hown hK hG (k := 4) (gok_lo (by decide)) (gc_M) rfl 11 (by decide) (hq _ q_424) rfl (v := .int (g_3.1 4 4)) rfl dX3_remove_14 ?_
  refine lv_iconst (v := 1) hx hb dX3_remove_17 (by decide) ?_
  refine lv_isub hx hb dX3_remove_18 ?_
  refine lv_topi (fun x_4 ex_4 => ?_)
  have hw := hw x_4 ex_4
  refine g_put (own := RX3) (C := RX3) (T := TX3) (N := 19) (ci := 3) hx hb hq hin_X3 tyX3 tyX3_ok nmX3 hown hK hG (k := 4) (gok_lo (by decide)) (gc_M) rfl 11 (by decide) (hq _ q_424) rfl rfl (ty := .int) (v := .int x_4) (by decide +kernel) rfl rfl (Nat.le_of_ble_eq_true rfl) (gi g_3 4 4 x_4) (gs_M4) (gho_lo (by decide)) dX3_remove_19 (fun H locs hG => ?_)
  obtain ⟨g_5, eg_5⟩ : ∃ z, z = gi g_3 4 4 x_4 := ⟨_, rfl⟩
  rw [← eg_5] at hG
  have hw := hw g_5 eg_5
  refine lv_iload_n hx hb dX3_remove_22 rfl (lv_at hl 1 rfl) ?_
  refine lv_istore_n (lv' := [(2, .int p1), (0, .ref (ad 4)), (1, .int p1)]) hx hb dX3_remove_23 rfl hl (by decide) rfl (fun ls hl => ?_)
  obtain ⟨n_13, hw⟩ := hw
  exact L_X3_remove_24 post hl9 hx hb hr hml hown hts hlocks hA hE n_13 p1 p1 g_5 hw _ _ _ hG (lv_sub hl [1, 2, 0] rfl)

def wpl_X3_link_36 (post : Int32 → gS → Prop) : Nat → Int32 → Int32 → Int32 → Int32 → gS → Prop
  | 0 => fun _ _ _ _ _ => False
  | n + 1 => fun x1 x2 x3 x4 g => ((x4 < 0) → (vp_in x1 24 ∧ (∀ g_9 : gS, g_9 = gi g 7 x1.toNatClampNeg (vp_nar .boolean x2) → (post x3 g_9)))) ∧ ((¬ x4 < 0) → (vp_in x1 24 ∧ ((((g.1 7 x1.toNatClampNeg) = 0) → (vp_in x1 24 ∧ (∀ g_13 : gS, g_13 = gi g 7 x1.toNatClampNeg (vp_nar .boolean x2) → (post x3 g_13)))) ∧ ((¬ (g.1 7 x1.toNatClampNeg) = 0) → (((¬ x2 = 0) → (vp_in x1 24 ∧ (∀ g_16 : gS, g_16 = gi g 7 x1.toNatClampNeg (vp_nar .boolean x2) → (post x3 g_16)))) ∧ ((x2 = 0) → (vp_in x4 512 ∧ (∀ i_18 : Int32, i_18 = 8 * (g.1 12 x4.toNatClampNeg) → (vp_in i_18 4096 ∧ (((¬ (g.1 14 i_18.toNatClampNeg) = x1) → (∀ x_21 : Int32, x_21 = x4 + (-1) → (wpl_X3_link_36 post n x1 x2 x3 x_21 g))) ∧ (((g.1 14 i_18.toNatClampNeg) = x1) → (wp_X3_remove (fun g_22 => (∀ x_23 : Int32, x_23 = x3 + 1 → (∀ x_24 : Int32, x_24 = x4 + (-1) → (wpl_X3_link_36 post n x1 x2 x_23 x_24 g_22)))) x4 g))))))))))))
set_option maxHeartbeats 4000000 in
set_option maxRecDepth 100000 in
theorem L_X3_link_36 {p : Program} {l : Launch} {e : Env} {s : State} {m : MethodId} {args : Array Value} {below : List Frame} {meth : Method} {c : Code} {D : va_G} {K : Nat → ClassId} {sa ad : Nat → Nat} {A : Nat → Prop} (post : Int32 → gS → Prop) (hl9 : l.stackTraces = false) (hx : p.tables.exec = Jvm.exec) (hb : c.code = cX3_link) (hr : meth.sig.returnType = (some .int)) (hml : c.maxLocals = 5) (hown : s.vm.findClass RX3 = some m.cls) (hts : ∀ w ∈ wsX3_link, w.before args s = true) (hlocks : meth.locks = false) (hA : ∀ q, s.heap.size ≤ q → A q) (hE : gE D K sa A s s.heap) : ∀ (n : Nat) (x1 : Int32) (x2 : Int32) (x3 : Int32) (x4 : Int32) (g : gS), wpl_X3_link_36 post n x1 x2 x3 x4 g → ∀ (H : Heap) (locs : List Loc) (ls : Array Slot), gX D K ad A s.heap g H locs → lv_has ls 5 [(0, .ref (ad 4)), (1, .int x1), (2, .int x2), (3, .int x3), (4, .int x4)] → W p l e ({ frames := 1, cells := 0, slots := 0, locals := 22 } : Room) s m args below meth c H locs 0 0 (MQ below (va_Qi post (gB D K ad A) A) args s 0 0 A) (F0 m 36 ls []) := by
  have hK := hE.1
  have hq : ∀ w ∈ gW, w.before args s = true := fun w h => hts w (List.mem_cons_of_mem _ h)
  intro n
  induction n with
  | zero =>
    intro x1 x2 x3 x4 g hw
    exact hw.elim
  | succ n ih =>
    intro x1 x2 x3 x4 g hw H locs ls hG hl
    dsimp only [wpl_X3_link_36] at hw
    refine lv_iload hx hb dX3_link_36 (lv_at hl 4 rfl) ?_
    refine lv_if_lt (tgt := 88) hx hb dX3_link_38 (by decide) (fun c_7 => ?_) (fun c_7 => ?_)
    · have hw := hw.1 c_7
      refine lv_aload_n hx hb dX3_link_88 rfl (lv_at hl 0 rfl) ?_
      refine g_get (own := RX3) (C := RX3) (T := TX3) (N := 19) (ci := 3) hx hb hq hin_X3 hown hK hG (k := 4) (gok_lo (by decide)) (gc_M) rfl 5 (by decide) (hq _ q_418) rfl (v := .ref (ad 7)) rfl dX3_link_89 ?_
      refine lv_iload_n hx hb dX3_link_92 rfl (lv_at hl 1 rfl) ?_
      refine lv_iload_n hx hb dX3_link_93 rfl (lv_at hl 2 rfl) ?_
      obtain ⟨hi_8, hw⟩ := hw
      refine g_zast hx hb hK hG (k := 7) (gok_lo (by decide)) (fun g => gc_7) (x := x2) hi_8 (gho_lo (by decide)) dX3_link_94 (fun H locs hG => ?_)
      obtain ⟨g_9, eg_9⟩ : ∃ z, z = gi g 7 x1.toNatClampNeg (vp_nar .boolean x2) := ⟨_, rfl⟩
      rw [← eg_9] at hG
      have hw := hw g_9 eg_9
      refine lv_iload_n hx hb dX3_link_95 rfl (lv_at hl 3 rfl) ?_
      exact g_iret hx hb hr hlocks hw hG (by decide) (by decide) dX3_link_96
    · have hw := hw.2 c_7
      refine lv_aload_n hx hb dX3_link_41 rfl (lv_at hl 0 rfl) ?_
      refine g_get (own := RX3) (C := RX3) (T := TX3) (N := 19) (ci := 3) hx hb hq hin_X3 hown hK hG (k := 4) (gok_lo (by decide)) (gc_M) rfl 5 (by decide) (hq _ q_418) rfl (v := .ref (ad 7)) rfl dX3_link_42 ?_
      refine lv_iload_n hx hb dX3_link_45 rfl (lv_at hl 1 rfl) ?_
      obtain ⟨hi_10, hw⟩ := hw
      refine g_zald hx hb hK hG (k := 7) (gok_lo (by decide)) (gc_7) hi_10 dX3_link_46 ?_
      refine lv_if_eq (tgt := 88) hx hb dX3_link_47 (by decide) (fun c_11 => ?_) (fun c_11 => ?_)
      · have hw := hw.1 c_11
        refine lv_aload_n hx hb dX3_link_88 rfl (lv_at hl 0 rfl) ?_
        refine g_get (own := RX3) (C := RX3) (T := TX3) (N := 19) (ci := 3) hx hb hq hin_X3 hown hK hG (k := 4) (gok_lo (by decide)) (gc_M) rfl 5 (by decide) (hq _ q_418) rfl (v := .ref (ad 7)) rfl dX3_link_89 ?_
        refine lv_iload_n hx hb dX3_link_92 rfl (lv_at hl 1 rfl) ?_
        refine lv_iload_n hx hb dX3_link_93 rfl (lv_at hl 2 rfl) ?_
        obtain ⟨hi_12, hw⟩ := hw
        refine g_zast hx hb hK hG (k := 7) (gok_lo (by decide)) (fun g => gc_7) (x := x2) hi_12 (gho_lo (by decide)) dX3_link_94 (fun H locs hG => ?_)
        obtain ⟨g_13, eg_13⟩ : ∃ z, z = gi g 7 x1.toNatClampNeg (vp_nar .boolean x2) := ⟨_, rfl⟩
        rw [← eg_13] at hG
        have hw := hw g_13 eg_13
        refine lv_iload_n hx hb dX3_link_95 rfl (lv_at hl 3 rfl) ?_
        exact g_iret hx hb hr hlocks hw hG (by decide) (by decide) dX3_link_96
      · have hw := hw.2 c_11
        refine lv_iload_n hx hb dX3_link_50 rfl (lv_at hl 2 rfl) ?_
        refine lv_if_ne (tgt := 88) hx hb dX3_link_51 (by decide) (fun c_14 => ?_) (fun c_14 => ?_)
        · have hw := hw.1 c_14
          refine lv_aload_n hx hb dX3_link_88 rfl (lv_at hl 0 rfl) ?_
          refine g_get (own := RX3) (C := RX3) (T := TX3) (N := 19) (ci := 3) hx hb hq hin_X3 hown hK hG (k := 4) (gok_lo (by decide)) (gc_M) rfl 5 (by decide) (hq _ q_418) rfl (v := .ref (ad 7)) rfl dX3_link_89 ?_
          refine lv_iload_n hx hb dX3_link_92 rfl (lv_at hl 1 rfl) ?_
          refine lv_iload_n hx hb dX3_link_93 rfl (lv_at hl 2 rfl) ?_
          obtain ⟨hi_15, hw⟩ := hw
          refine g_zast hx hb hK hG (k := 7) (gok_lo (by decide)) (fun g => gc_7) (x := x2) hi_15 (gho_lo (by decide)) dX3_link_94 (fun H locs hG => ?_)
          obtain ⟨g_16, eg_16⟩ : ∃ z, z = gi g 7 x1.toNatClampNeg (vp_nar .boolean x2) := ⟨_, rfl⟩
          rw [← eg_16] at hG
          have hw := hw g_16 eg_16
          refine lv_iload_n hx hb dX3_link_95 rfl (lv_at hl 3 rfl) ?_
          exact g_iret hx hb hr hlocks hw hG (by decide) (by decide) dX3_link_96
        · have hw := hw.2 c_14
          refine lv_aload_n hx hb dX3_link_54 rfl (lv_at hl 0 rfl) ?_
          refine g_get (own := RX3) (C := RX3) (T := TX3) (N := 19) (ci := 3) hx hb hq hin_X3 hown hK hG (k := 4) (gok_lo (by decide)) (gc_M) rfl 14 (by decide) (hq _ q_427) rfl (v := .ref (ad 14)) rfl dX3_link_55 ?_
          refine lv_bipush (v := 8) hx hb dX3_link_58 (by decide) ?_
          refine lv_aload_n hx hb dX3_link_60 rfl (lv_at hl 0 rfl) ?_
          refine g_get (own := RX3) (C := RX3) (T := TX3) (N := 19) (ci := 3) hx hb hq hin_X3 hown hK hG (k := 4) (gok_lo (by decide)) (gc_M) rfl 12 (by decide) (hq _ q_425) rfl (v := .ref (ad 12)) rfl dX3_link_61 ?_
          refine lv_iload hx hb dX3_link_64 (lv_at hl 4 rfl) ?_
          obtain ⟨hi_17, hw⟩ := hw
          refine g_iald hx hb hK hG (k := 12) (gok_lo (by decide)) (gc_12) hi_17 dX3_link_66 ?_
          refine lv_imul hx hb dX3_link_67 ?_
          refine lv_topi (fun i_18 ei_18 => ?_)
          have hw := hw i_18 ei_18
          obtain ⟨hi_19, hw⟩ := hw
          refine g_iald hx hb hK hG (k := 14) (gok_lo (by decide)) (gc_14) hi_19 dX3_link_68 ?_
          refine lv_iload_n hx hb dX3_link_69 rfl (lv_at hl 1 rfl) ?_
          refine lv_icmp_ne (tgt := 82) hx hb dX3_link_70 (by decide) (fun c_20 => ?_) (fun c_20 => ?_)
          · have hw := hw.1 c_20
            obtain ⟨x_21, ex_21⟩ : ∃ y : Int32, y = x4 + (-1) := ⟨_, rfl⟩
            have hw := hw x_21 ex_21
            refine lv_iinc (v := x_21) (lv' := [(4, .int x_21), (0, .ref (ad 4)), (1, .int x1), (2, .int x2), (3, .int x3)]) hx hb dX3_link_82 hl (k := 4) rfl (by rw [ex_21]; rfl) (by decide) rfl (fun ls hl => ?_)
            refine lv_goto (tgt := 36) hx hb dX3_link_85 (by decide) ?_
            exact ih x1 x2 x3 x_21 g hw _ _ _ hG (lv_sub hl [1, 2, 3, 4, 0] rfl)
          · have hw := hw.2 c_20
            refine lv_aload_n hx hb dX3_link_73 rfl (lv_at hl 0 rfl) ?_
            refine lv_iload hx hb dX3_link_74 (lv_at hl 4 rfl) ?_
            refine g_callv (va_runV (As := [.int x4]) (rest := []) ⟨hx, hb, hml, hown, hts⟩ (m_X3_remove hl9 D K sa ad _ _ x4 g hw) (cwV 1 hts (gGood gCons (gV q_490 q_492 q_14 q_23 q_493)) rfl rfl rfl (by decide +kernel) ⟨Nat.le_of_ble_eq_true rfl, Nat.le_of_ble_eq_true rfl⟩) ⟨gPc_blind, g_recv hK hG (gok_lo (by decide)) (gc_M) rfl, gPc_at hE hG hA⟩ rfl rfl hl.1 rfl (lv_room (Nat.le_of_ble_eq_true rfl)) dX3_link_76 ⟨Nat.le_of_ble_eq_true rfl, Nat.le_of_ble_eq_true rfl⟩) hG hA (fun g_22 H locs hw hG => ?_)
            try dsimp only at hw
            obtain ⟨x_23, ex_23⟩ : ∃ y : Int32, y = x3 + 1 := ⟨_, rfl⟩
            have hw := hw x_23 ex_23
            refine lv_iinc (v := x_23) (lv' := [(3, .int x_23), (0, .ref (ad 4)), (1, .int x1), (2, .int x2), (4, .int x4)]) hx hb dX3_link_79 hl (k := 3) rfl (by rw [ex_23]; rfl) (by decide) rfl (fun ls hl => ?_)
            obtain ⟨x_24, ex_24⟩ : ∃ y : Int32, y = x4 + (-1) := ⟨_, rfl⟩
            have hw := hw x_24 ex_24
            refine lv_iinc (v := x_24) (lv' := [(4, .int x_24), (3, .int x_23), (0, .ref (ad 4)), (1, .int x1), (2, .int x2)]) hx hb dX3_link_82 hl (k := 4) rfl (by rw [ex_24]; rfl) (by decide) rfl (fun ls hl => ?_)
            refine lv_goto (tgt := 36) hx hb dX3_link_85 (by decide) ?_
            exact ih x1 x2 x_23 x_24 g_22 hw _ _ _ hG (lv_sub hl [2, 3, 4, 1, 0] rfl)
def wp_X3_link (post : Int32 → gS → Prop) (p1 : Int32) (p2 : Int32) (g : gS) : Prop := wp_X3_isNet (fun r_2 g_1 => (((r_2 = 0) → (∀ g_4 : gS, g_4 = gi g_1 4 0 (1 : Int32) → ((((g_4.1 4 0) ≤ 0) → (∀ x_6 : Int32, x_6 = (g_4.1 4 4) - 1 → (∃ n, wpl_X3_link_36 post n p1 p2 0 x_6 g_4))) ∧ ((¬ (g_4.1 4 0) ≤ 0) → (post 0 g_4))))) ∧ ((¬ r_2 = 0) → (∀ g_26 : gS, g_26 = gi g_1 4 0 (0 : Int32) → ((((g_26.1 4 0) ≤ 0) → (∀ x_28 : Int32, x_28 = (g_26.1 4 4) - 1 → (∃ n, wpl_X3_link_36 post n p1 p2 0 x_28 g_26))) ∧ ((¬ (g_26.1 4 0) ≤ 0) → (post 0 g_26))))))) p1 g
set_option maxHeartbeats 4000000 in
set_option maxRecDepth 100000 in
theorem m_X3_link {l : Launch} (hl9 : l.stackTraces = false) (D : va_G) (K : Nat → ClassId) (sa ad : Nat → Nat) (sz : Nat) (post : Int32 → gS → Prop) (p1 : Int32) (p2 : Int32) (g : gS) (hw : wp_X3_link post p1 p2 g) : Met l yX3_link wsX3_link ({ frames := 1, cells := 0, slots := 0, locals := 22 } : Room) (gPc D K sa ad sz g [.ref (ad 4), .int p1, .int p2]) (va_Qi post (gB D K ad (va_A (gw K ad g) sz)) (va_A (gw K ad g) sz)) 0 0 (va_A (gw K ad g) sz) := by
  refine Met.ofW (cc := cX3_link) (maxL := 5) (ret := (some .int)) (by decide) rfl ?_
  intro p e s m args below meth c s₁ B hml hv
  obtain ⟨rfl, hsz, hP, hE, hD0⟩ := hv
  have hx := B.exec
  have hb := B.bytes
  have hr := B.returns
  have hts := atoms_spec (ws := wsX3_link) B.pre
  have hq : ∀ w ∈ gW, w.before _ s = true := fun w h => hts w (List.mem_cons_of_mem _ h)
  have hown : s.vm.findClass RX3 = some m.cls := findClass_of_methodNamed B.named
  have hlocks := B.notSynchronized
  subst hsz
  have hD := hD0.self (sz := s.heap.size)
  generalize hAe : va_A (gw K ad g) s.heap.size = A at hD hE ⊢
  have hA : ∀ q : Nat, s.heap.size ≤ q → A q := fun q h => by rw [← hAe]; exact Or.inr h
  have hK := hE.1
  have hG : gX D K ad A s.heap g s.heap [] := ⟨hP, hD, va_S.rf⟩
  have hl := lv_entry ([.ref (ad 4), .int p1, .int p2]) (n := 5) (Nat.le_of_ble_eq_true rfl)
  rw [lg_entry_eq]
  generalize (lg_sl ([.ref (ad 4), .int p1, .int p2]) ++ List.replicate (5 - (lg_sl ([.ref (ad 4), .int p1, .int p2])).length) Slot.unset).toArray = ls at hl ⊢
  have hl : lv_has ls 5 [(0, .ref (ad 4)), (1, .int p1), (2, .int p2)] := hl
  dsimp only [wp_X3_link] at hw
  refine lv_aload_n hx hb dX3_link_0 rfl (lv_at hl 0 rfl) ?_
  refine lv_aload_n hx hb dX3_link_1 rfl (lv_at hl 0 rfl) ?_
  refine lv_iload_n hx hb dX3_link_2 rfl (lv_at hl 1 rfl) ?_
  refine g_calli (va_runV (As := [.int p1]) (rest := [.ref (ad 4)]) ⟨hx, hb, hml, hown, hts⟩ (m_X3_isNet hl9 D K sa ad _ _ p1 g hw) (cwV 1 hts (gGood gCons (gV q_486 q_488 q_13 q_23 q_489)) rfl rfl rfl (by decide +kernel) ⟨Nat.le_of_ble_eq_true rfl, Nat.le_of_ble_eq_true rfl⟩) ⟨gPc_blind, g_recv hK hG (gok_lo (by decide)) (gc_M) rfl, gPc_at hE hG hA⟩ rfl rfl hl.1 rfl (lv_room (Nat.le_of_ble_eq_true rfl)) dX3_link_3 ⟨Nat.le_of_ble_eq_true rfl, Nat.le_of_ble_eq_true rfl⟩) hG hA (fun r_2 g_1 H locs hw hG => ?_)
  try dsimp only at hw
  refine lv_if_eq (tgt := 13) hx hb dX3_link_6 (by decide) (fun c_3 => ?_) (fun c_3 => ?_)
  · have hw := hw.1 c_3
    refine lv_iconst (v := 1) hx hb dX3_link_13 (by decide) ?_
    refine g_put (own := RX3) (C := RX3) (T := TX3) (N := 19) (ci := 3) hx hb hq hin_X3 tyX3 tyX3_ok nmX3 hown hK hG (k := 4) (gok_lo (by decide)) (gc_M) rfl 0 (by decide) (hq _ q_413) rfl rfl (ty := .int) (v := .int 1) (by decide +kernel) rfl rfl (Nat.le_of_ble_eq_true rfl) (gi g_1 4 0 (1 : Int32)) (gs_M0) (gho_lo (by decide)) dX3_link_14 (fun H locs hG => ?_)
    obtain ⟨g_4, eg_4⟩ : ∃ z, z = gi g_1 4 0 (1 : Int32) := ⟨_, rfl⟩
    rw [← eg_4] at hG
    have hw := hw g_4 eg_4
    refine lv_aload_n hx hb dX3_link_17 rfl (lv_at hl 0 rfl) ?_
    refine g_get (own := RX3) (C := RX3) (T := TX3) (N := 19) (ci := 3) hx hb hq hin_X3 hown hK hG (k := 4) (gok_lo (by decide)) (gc_M) rfl 0 (by decide) (hq _ q_413) rfl (v := .int (g_4.1 4 0)) rfl dX3_link_18 ?_
    refine lv_if_le (tgt := 26) hx hb dX3_link_21 (by decide) (fun c_5 => ?_) (fun c_5 => ?_)
    · have hw := hw.1 c_5
      refine lv_iconst (v := 0) hx hb dX3_link_26 (by decide) ?_
      refine lv_istore_n (lv' := [(3, .int 0), (0, .ref (ad 4)), (1, .int p1), (2, .int p2)]) hx hb dX3_link_27 rfl hl (by decide) rfl (fun ls hl => ?_)
      refine lv_aload_n hx hb dX3_link_28 rfl (lv_at hl 1 rfl) ?_
      refine g_get (own := RX3) (C := RX3) (T := TX3) (N := 19) (ci := 3) hx hb hq hin_X3 hown hK hG (k := 4) (gok_lo (by decide)) (gc_M) rfl 11 (by decide) (hq _ q_424) rfl (v := .int (g_4.1 4 4)) rfl dX3_link_29 ?_
      refine lv_iconst (v := 1) hx hb dX3_link_32 (by decide) ?_
      refine lv_isub hx hb dX3_link_33 ?_
      refine lv_topi (fun x_6 ex_6 => ?_)
      have hw := hw x_6 ex_6
      refine lv_istore (lv' := [(4, .int x_6), (3, .int 0), (0, .ref (ad 4)), (1, .int p1), (2, .int p2)]) hx hb dX3_link_34 hl (by decide) rfl (fun ls hl => ?_)
      obtain ⟨n_25, hw⟩ := hw
      exact L_X3_link_36 post hl9 hx hb hr hml hown hts hlocks hA hE n_25 p1 p2 0 x_6 g_4 hw _ _ _ hG (lv_sub hl [2, 3, 4, 1, 0] rfl)
    · have hw := hw.2 c_5
      refine lv_iconst (v := 0) hx hb dX3_link_24 (by decide) ?_
      exact g_iret hx hb hr hlocks hw hG (by decide) (by decide) dX3_link_25
  · have hw := hw.2 c_3
    refine lv_iconst (v := 0) hx hb dX3_link_9 (by decide) ?_
    refine lv_goto (tgt := 14) hx hb dX3_link_10 (by decide) ?_
    refine g_put (own := RX3) (C := RX3) (T := TX3) (N := 19) (ci := 3) hx hb hq hin_X3 tyX3 tyX3_ok nmX3 hown hK hG (k := 4) (gok_lo (by decide)) (gc_M) rfl 0 (by decide) (hq _ q_413) rfl rfl (ty := .int) (v := .int 0) (by decide +kernel) rfl rfl (Nat.le_of_ble_eq_true rfl) (gi g_1 4 0 (0 : Int32)) (gs_M0) (gho_lo (by decide)) dX3_link_14 (fun H locs hG => ?_)
    obtain ⟨g_26, eg_26⟩ : ∃ z, z = gi g_1 4 0 (0 : Int32) := ⟨_, rfl⟩
    rw [← eg_26] at hG
    have hw := hw g_26 eg_26
    refine lv_aload_n hx hb dX3_link_17 rfl (lv_at hl 0 rfl) ?_
    refine g_get (own := RX3) (C := RX3) (T := TX3) (N := 19) (ci := 3) hx hb hq hin_X3 hown hK hG (k := 4) (gok_lo (by decide)) (gc_M) rfl 0 (by decide) (hq _ q_413) rfl (v := .int (g_26.1 4 0)) rfl dX3_link_18 ?_
    refine lv_if_le (tgt := 26) hx hb dX3_link_21 (by decide) (fun c_27 => ?_) (fun c_27 => ?_)
    · have hw := hw.1 c_27
      refine lv_iconst (v := 0) hx hb dX3_link_26 (by decide) ?_
      refine lv_istore_n (lv' := [(3, .int 0), (0, .ref (ad 4)), (1, .int p1), (2, .int p2)]) hx hb dX3_link_27 rfl hl (by decide) rfl (fun ls hl => ?_)
      refine lv_aload_n hx hb dX3_link_28 rfl (lv_at hl 1 rfl) ?_
      refine g_get (own := RX3) (C := RX3) (T := TX3) (N := 19) (ci := 3) hx hb hq hin_X3 hown hK hG (k := 4) (gok_lo (by decide)) (gc_M) rfl 11 (by decide) (hq _ q_424) rfl (v := .int (g_26.1 4 4)) rfl dX3_link_29 ?_
      refine lv_iconst (v := 1) hx hb dX3_link_32 (by decide) ?_
      refine lv_isub hx hb dX3_link_33 ?_
      refine lv_topi (fun x_28 ex_28 => ?_)
      have hw := hw x_28 ex_28
      refine lv_istore (lv' := [(4, .int x_28), (3, .int 0), (0, .ref (ad 4)), (1, .int p1), (2, .int p2)]) hx hb dX3_link_34 hl (by decide) rfl (fun ls hl => ?_)
      obtain ⟨n_29, hw⟩ := hw
      exact L_X3_link_36 post hl9 hx hb hr hml hown hts hlocks hA hE n_29 p1 p2 0 x_28 g_26 hw _ _ _ hG (lv_sub hl [2, 3, 4, 1, 0] rfl)
    · have hw := hw.2 c_27
      refine lv_iconst (v := 0) hx hb dX3_link_24 (by decide) ?_
      exact g_iret hx hb hr hlocks hw hG (by decide) (by decide) dX3_link_25

def wpl_X3_fates_74 (post : Int32 → gS → Prop) : Nat → Int32 → Int64 → Int32 → Int32 → gS → Prop
  | 0 => fun _ _ _ _ _ => False
  | n + 1 => fun x1 x2 x4 x5 g => ((x4 ≤ x5) → (vp_in x1 24 ∧ (post (g.1 8 x1.toNatClampNeg) g))) ∧ ((¬ x4 ≤ x5) → (vp_in x1 24 ∧ (∀ x_13 : Int32, x_13 = ((x2 >>> ((2 * x5).toInt64 &&& 63)) &&& 3).toInt32 → (vp_in ((64 * x1) + (g.1 8 x1.toNatClampNeg)) 1536 ∧ (∀ g_15 : gS, g_15 = gi g 9 (((64 * x1) + (g.1 8 x1.toNatClampNeg)).toNatClampNeg) x_13 → (vp_in x1 24 ∧ (∀ x_17 : Int32, x_17 = (g_15.1 8 x1.toNatClampNeg) + 1 → (vp_in x1 24 ∧ (∀ g_19 : gS, g_19 = gi g_15 8 x1.toNatClampNeg x_17 → (∀ x_20 : Int32, x_20 = x5 + 1 → (wpl_X3_fates_74 post n x1 x2 x4 x_20 g_19)))))))))))
set_option maxHeartbeats 4000000 in
set_option maxRecDepth 100000 in
theorem L_X3_fates_74 {p : Program} {l : Launch} {e : Env} {s : State} {m : MethodId} {args : Array Value} {below : List Frame} {meth : Method} {c : Code} {D : va_G} {K : Nat → ClassId} {sa ad : Nat → Nat} {A : Nat → Prop} (post : Int32 → gS → Prop) (hl9 : l.stackTraces = false) (hx : p.tables.exec = Jvm.exec) (hb : c.code = cX3_fates) (hr : meth.sig.returnType = (some .int)) (hml : c.maxLocals = 6) (hown : s.vm.findClass RX3 = some m.cls) (hts : ∀ w ∈ wsX3_fates, w.before args s = true) (hlocks : meth.locks = false) (hA : ∀ q, s.heap.size ≤ q → A q) (hE : gE D K sa A s s.heap) : ∀ (n : Nat) (x1 : Int32) (x2 : Int64) (x4 : Int32) (x5 : Int32) (g : gS), wpl_X3_fates_74 post n x1 x2 x4 x5 g → ∀ (H : Heap) (locs : List Loc) (ls : Array Slot), gX D K ad A s.heap g H locs → lv_has ls 6 [(0, .ref (ad 4)), (1, .int x1), (2, .long x2), (4, .int x4), (5, .int x5)] → W p l e ({ frames := 1, cells := 0, slots := 0, locals := 21 } : Room) s m args below meth c H locs 0 0 (MQ below (va_Qi post (gB D K ad A) A) args s 0 0 A) (F0 m 74 ls []) := by
  have hK := hE.1
  have hq : ∀ w ∈ gW, w.before args s = true := fun w h => hts w (List.mem_cons_of_mem _ h)
  intro n
  induction n with
  | zero =>
    intro x1 x2 x4 x5 g hw
    exact hw.elim
  | succ n ih =>
    intro x1 x2 x4 x5 g hw H locs ls hG hl
    dsimp only [wpl_X3_fates_74] at hw
    refine lv_iload hx hb dX3_fates_74 (lv_at hl 4 rfl) ?_
    refine lv_iload hx hb dX3_fates_76 (lv_at hl 3 rfl) ?_
    refine lv_icmp_ge (tgt := 124) hx hb dX3_fates_78 (by decide) (fun c_10 => ?_) (fun c_10 => ?_)
    · have hw := hw.1 c_10
      refine lv_aload_n hx hb dX3_fates_124 rfl (lv_at hl 0 rfl) ?_
      refine g_get (own := RX3) (C := RX3) (T := TX3) (N := 19) (ci := 3) hx hb hq hin_X3 hown hK hG (k := 4) (gok_lo (by decide)) (gc_M) rfl 6 (by decide) (hq _ q_419) rfl (v := .ref (ad 8)) rfl dX3_fates_125 ?_
      refine lv_iload_n hx hb dX3_fates_128 rfl (lv_at hl 1 rfl) ?_
      obtain ⟨hi_11, hw⟩ := hw
      refine g_iald hx hb hK hG (k := 8) (gok_lo (by decide)) (gc_8) hi_11 dX3_fates_129 ?_
      exact g_iret hx hb hr hlocks hw hG (by decide) (by decide) dX3_fates_130
    · have hw := hw.2 c_10
      refine lv_aload_n hx hb dX3_fates_81 rfl (lv_at hl 0 rfl) ?_
      refine g_get (own := RX3) (C := RX3) (T := TX3) (N := 19) (ci := 3) hx hb hq hin_X3 hown hK hG (k := 4) (gok_lo (by decide)) (gc_M) rfl 7 (by decide) (hq _ q_420) rfl (v := .ref (ad 9)) rfl dX3_fates_82 ?_
      refine lv_bipush (v := 64) hx hb dX3_fates_85 (by decide) ?_
      refine lv_iload_n hx hb dX3_fates_87 rfl (lv_at hl 1 rfl) ?_
      refine lv_imul hx hb dX3_fates_88 ?_
      refine lv_aload_n hx hb dX3_fates_89 rfl (lv_at hl 0 rfl) ?_
      refine g_get (own := RX3) (C := RX3) (T := TX3) (N := 19) (ci := 3) hx hb hq hin_X3 hown hK hG (k := 4) (gok_lo (by decide)) (gc_M) rfl 6 (by decide) (hq _ q_419) rfl (v := .ref (ad 8)) rfl dX3_fates_90 ?_
      refine lv_iload_n hx hb dX3_fates_93 rfl (lv_at hl 1 rfl) ?_
      obtain ⟨hi_12, hw⟩ := hw
      refine g_iald hx hb hK hG (k := 8) (gok_lo (by decide)) (gc_8) hi_12 dX3_fates_94 ?_
      refine lv_iadd hx hb dX3_fates_95 ?_
      refine lv_lload_n hx hb dX3_fates_96 rfl (lv_at hl 2 rfl) ?_
      refine lv_iconst (v := 2) hx hb dX3_fates_97 (by decide) ?_
      refine lv_iload hx hb dX3_fates_98 (lv_at hl 4 rfl) ?_
      refine lv_imul hx hb dX3_fates_100 ?_
      refine lv_lshr hx hb dX3_fates_101 rfl ?_
      refine lv_ldc2 (own := RX3) (v := 3) hx hb hown (hq _ q_498) dX3_fates_102 ?_
      refine lv_land hx hb dX3_fates_105 ?_
      refine lv_l2i hx hb dX3_fates_106 rfl ?_
      refine lv_topi (fun x_13 ex_13 => ?_)
      have hw := hw x_13 ex_13
      obtain ⟨hi_14, hw⟩ := hw
      refine g_iast hx hb hK hG (k := 9) (gok_lo (by decide)) (fun g => gc_9) (x := x_13) hi_14 (gho_lo (by decide)) dX3_fates_107 (fun H locs hG => ?_)
      obtain ⟨g_15, eg_15⟩ : ∃ z, z = gi g 9 (((64 * x1) + (g.1 8 x1.toNatClampNeg)).toNatClampNeg) x_13 := ⟨_, rfl⟩
      rw [← eg_15] at hG
      have hw := hw g_15 eg_15
      refine lv_aload_n hx hb dX3_fates_108 rfl (lv_at hl 0 rfl) ?_
      refine g_get (own := RX3) (C := RX3) (T := TX3) (N := 19) (ci := 3) hx hb hq hin_X3 hown hK hG (k := 4) (gok_lo (by decide)) (gc_M) rfl 6 (by decide) (hq _ q_419) rfl (v := .ref (ad 8)) rfl dX3_fates_109 ?_
      refine lv_iload_n hx hb dX3_fates_112 rfl (lv_at hl 1 rfl) ?_
      refine lv_dup2_11 hx hb dX3_fates_113 rfl rfl ?_
      obtain ⟨hi_16, hw⟩ := hw
      refine g_iald hx hb hK hG (k := 8) (gok_lo (by decide)) (gc_8) hi_16 dX3_fates_114 ?_
      refine lv_iconst (v := 1) hx hb dX3_fates_115 (by decide) ?_
      refine lv_iadd hx hb dX3_fates_116 ?_
      refine lv_topi (fun x_17 ex_17 => ?_)
      have hw := hw x_17 ex_17
      obtain ⟨hi_18, hw⟩ := hw
      refine g_iast hx hb hK hG (k := 8) (gok_lo (by decide)) (fun g => gc_8) (x := x_17) hi_18 (gho_lo (by decide)) dX3_fates_117 (fun H locs hG => ?_)
      obtain ⟨g_19, eg_19⟩ : ∃ z, z = gi g_15 8 x1.toNatClampNeg x_17 := ⟨_, rfl⟩
      rw [← eg_19] at hG
      have hw := hw g_19 eg_19
      obtain ⟨x_20, ex_20⟩ : ∃ y : Int32, y = x5 + 1 := ⟨_, rfl⟩
      have hw := hw x_20 ex_20
      refine lv_iinc (v := x_20) (lv' := [(5, .int x_20), (0, .ref (ad 4)), (1, .int x1), (2, .long x2), (4, .int x4)]) hx hb dX3_fates_118 hl (k := 4) rfl (by rw [ex_20]; rfl) (by decide) rfl (fun ls hl => ?_)
      refine lv_goto (tgt := 74) hx hb dX3_fates_121 (by decide) ?_
      exact ih x1 x2 x4 x_20 g_19 hw _ _ _ hG (lv_sub hl [1, 2, 3, 4, 0] rfl)
def wp_X3_fates (post : Int32 → gS → Prop) (p1 : Int32) (p2 : Int64) (p3 : Int32) (g : gS) : Prop := wp_X3_isNet (fun r_2 g_1 => (((r_2 = 0) → (∀ g_4 : gS, g_4 = gi g_1 4 0 (1 : Int32) → ((((g_4.1 4 0) ≤ 0) → (vp_in p1 24 ∧ (((((g_4.1 8 p1.toNatClampNeg) + p3) ≤ 64) → (∀ g_8 : gS, g_8 = gi g_4 4 0 (0 : Int32) → ((((g_8.1 4 0) ≤ 0) → (∃ n, wpl_X3_fates_74 post n p1 p2 p3 0 g_8)) ∧ ((¬ (g_8.1 4 0) ≤ 0) → (post 0 g_8))))) ∧ ((¬ ((g_4.1 8 p1.toNatClampNeg) + p3) ≤ 64) → (∀ g_22 : gS, g_22 = gi g_4 4 0 (2 : Int32) → ((((g_22.1 4 0) ≤ 0) → (∃ n, wpl_X3_fates_74 post n p1 p2 p3 0 g_22)) ∧ ((¬ (g_22.1 4 0) ≤ 0) → (post 0 g_22)))))))) ∧ ((¬ (g_4.1 4 0) ≤ 0) → (post 0 g_4))))) ∧ ((¬ r_2 = 0) → (((p3 < 1) → (∀ g_26 : gS, g_26 = gi g_1 4 0 (1 : Int32) → ((((g_26.1 4 0) ≤ 0) → (vp_in p1 24 ∧ (((((g_26.1 8 p1.toNatClampNeg) + p3) ≤ 64) → (∀ g_30 : gS, g_30 = gi g_26 4 0 (0 : Int32) → ((((g_30.1 4 0) ≤ 0) → (∃ n, wpl_X3_fates_74 post n p1 p2 p3 0 g_30)) ∧ ((¬ (g_30.1 4 0) ≤ 0) → (post 0 g_30))))) ∧ ((¬ ((g_26.1 8 p1.toNatClampNeg) + p3) ≤ 64) → (∀ g_33 : gS, g_33 = gi g_26 4 0 (2 : Int32) → ((((g_33.1 4 0) ≤ 0) → (∃ n, wpl_X3_fates_74 post n p1 p2 p3 0 g_33)) ∧ ((¬ (g_33.1 4 0) ≤ 0) → (post 0 g_33)))))))) ∧ ((¬ (g_26.1 4 0) ≤ 0) → (post 0 g_26))))) ∧ ((¬ p3 < 1) → (((p3 ≤ 32) → (∀ g_37 : gS, g_37 = gi g_1 4 0 (0 : Int32) → ((((g_37.1 4 0) ≤ 0) → (vp_in p1 24 ∧ (((((g_37.1 8 p1.toNatClampNeg) + p3) ≤ 64) → (∀ g_41 : gS, g_41 = gi g_37 4 0 (0 : Int32) → ((((g_41.1 4 0) ≤ 0) → (∃ n, wpl_X3_fates_74 post n p1 p2 p3 0 g_41)) ∧ ((¬ (g_41.1 4 0) ≤ 0) → (post 0 g_41))))) ∧ ((¬ ((g_37.1 8 p1.toNatClampNeg) + p3) ≤ 64) → (∀ g_44 : gS, g_44 = gi g_37 4 0 (2 : Int32) → ((((g_44.1 4 0) ≤ 0) → (∃ n, wpl_X3_fates_74 post n p1 p2 p3 0 g_44)) ∧ ((¬ (g_44.1 4 0) ≤ 0) → (post 0 g_44)))))))) ∧ ((¬ (g_37.1 4 0) ≤ 0) → (post 0 g_37))))) ∧ ((¬ p3 ≤ 32) → (∀ g_47 : gS, g_47 = gi g_1 4 0 (1 : Int32) → ((((g_47.1 4 0) ≤ 0) → (vp_in p1 24 ∧ (((((g_47.1 8 p1.toNatClampNeg) + p3) ≤ 64) → (∀ g_51 : gS, g_51 = gi g_47 4 0 (0 : Int32) → ((((g_51.1 4 0) ≤ 0) → (∃ n, wpl_X3_fates_74 post n p1 p2 p3 0 g_51)) ∧ ((¬ (g_51.1 4 0) ≤ 0) → (post 0 g_51))))) ∧ ((¬ ((g_47.1 8 p1.toNatClampNeg) + p3) ≤ 64) → (∀ g_54 : gS, g_54 = gi g_47 4 0 (2 : Int32) → ((((g_54.1 4 0) ≤ 0) → (∃ n, wpl_X3_fates_74 post n p1 p2 p3 0 g_54)) ∧ ((¬ (g_54.1 4 0) ≤ 0) → (post 0 g_54)))))))) ∧ ((¬ (g_47.1 4 0) ≤ 0) → (post 0 g_47))))))))))) p1 g
set_option maxHeartbeats 4000000 in
set_option maxRecDepth 100000 in
theorem m_X3_fates {l : Launch} (hl9 : l.stackTraces = false) (D : va_G) (K : Nat → ClassId) (sa ad : Nat → Nat) (sz : Nat) (post : Int32 → gS → Prop) (p1 : Int32) (p2 : Int64) (p3 : Int32) (g : gS) (hw : wp_X3_fates post p1 p2 p3 g) : Met l yX3_fates wsX3_fates ({ frames := 1, cells := 0, slots := 0, locals := 21 } : Room) (gPc D K sa ad sz g [.ref (ad 4), .int p1, .long p2, .int p3]) (va_Qi post (gB D K ad (va_A (gw K ad g) sz)) (va_A (gw K ad g) sz)) 0 0 (va_A (gw K ad g) sz) := by
  refine Met.ofW (cc := cX3_fates) (maxL := 6) (ret := (some .int)) (by decide) rfl ?_
  intro p e s m args below meth c s₁ B hml hv
  obtain ⟨rfl, hsz, hP, hE, hD0⟩ := hv
  have hx := B.exec
  have hb := B.bytes
  have hr := B.returns
  have hts := atoms_spec (ws := wsX3_fates) B.pre
  have hq : ∀ w ∈ gW, w.before _ s = true := fun w h => hts w (List.mem_cons_of_mem _ h)
  have hown : s.vm.findClass RX3 = some m.cls := findClass_of_methodNamed B.named
  have hlocks := B.notSynchronized
  subst hsz
  have hD := hD0.self (sz := s.heap.size)
  generalize hAe : va_A (gw K ad g) s.heap.size = A at hD hE ⊢
  have hA : ∀ q : Nat, s.heap.size ≤ q → A q := fun q h => by rw [← hAe]; exact Or.inr h
  have hK := hE.1
  have hG : gX D K ad A s.heap g s.heap [] := ⟨hP, hD, va_S.rf⟩
  have hl := lv_entry ([.ref (ad 4), .int p1, .long p2, .int p3]) (n := 6) (Nat.le_of_ble_eq_true rfl)
  rw [lg_entry_eq]
  generalize (lg_sl ([.ref (ad 4), .int p1, .long p2, .int p3]) ++ List.replicate (6 - (lg_sl ([.ref (ad 4), .int p1, .long p2, .int p3])).length) Slot.unset).toArray = ls at hl ⊢
  have hl : lv_has ls 6 [(0, .ref (ad 4)), (1, .int p1), (2, .long p2), (4, .int p3)] := hl
  dsimp only [wp_X3_fates] at hw
  refine lv_aload_n hx hb dX3_fates_0 rfl (lv_at hl 0 rfl) ?_
  refine lv_aload_n hx hb dX3_fates_1 rfl (lv_at hl 0 rfl) ?_
  refine lv_iload_n hx hb dX3_fates_2 rfl (lv_at hl 1 rfl) ?_
  refine g_calli (va_runV (As := [.int p1]) (rest := [.ref (ad 4)]) ⟨hx, hb, hml, hown, hts⟩ (m_X3_isNet hl9 D K sa ad _ _ p1 g hw) (cwV 1 hts (gGood gCons (gV q_486 q_488 q_13 q_23 q_489)) rfl rfl rfl (by decide +kernel) ⟨Nat.le_of_ble_eq_true rfl, Nat.le_of_ble_eq_true rfl⟩) ⟨gPc_blind, g_recv hK hG (gok_lo (by decide)) (gc_M) rfl, gPc_at hE hG hA⟩ rfl rfl hl.1 rfl (lv_room (Nat.le_of_ble_eq_true rfl)) dX3_fates_3 ⟨Nat.le_of_ble_eq_true rfl, Nat.le_of_ble_eq_true rfl⟩) hG hA (fun r_2 g_1 H locs hw hG => ?_)
  try dsimp only at hw
  refine lv_if_eq (tgt := 22) hx hb dX3_fates_6 (by decide) (fun c_3 => ?_) (fun c_3 => ?_)
  · have hw := hw.1 c_3
    refine lv_iconst (v := 1) hx hb dX3_fates_22 (by decide) ?_
    refine lv_goto (tgt := 27) hx hb dX3_fates_23 (by decide) ?_
    refine g_put (own := RX3) (C := RX3) (T := TX3) (N := 19) (ci := 3) hx hb hq hin_X3 tyX3 tyX3_ok nmX3 hown hK hG (k := 4) (gok_lo (by decide)) (gc_M) rfl 0 (by decide) (hq _ q_413) rfl rfl (ty := .int) (v := .int 1) (by decide +kernel) rfl rfl (Nat.le_of_ble_eq_true rfl) (gi g_1 4 0 (1 : Int32)) (gs_M0) (gho_lo (by decide)) dX3_fates_27 (fun H locs hG => ?_)
    obtain ⟨g_4, eg_4⟩ : ∃ z, z = gi g_1 4 0 (1 : Int32) := ⟨_, rfl⟩
    rw [← eg_4] at hG
    have hw := hw g_4 eg_4
    refine lv_aload_n hx hb dX3_fates_30 rfl (lv_at hl 0 rfl) ?_
    refine g_get (own := RX3) (C := RX3) (T := TX3) (N := 19) (ci := 3) hx hb hq hin_X3 hown hK hG (k := 4) (gok_lo (by decide)) (gc_M) rfl 0 (by decide) (hq _ q_413) rfl (v := .int (g_4.1 4 0)) rfl dX3_fates_31 ?_
    refine lv_if_le (tgt := 39) hx hb dX3_fates_34 (by decide) (fun c_5 => ?_) (fun c_5 => ?_)
    · have hw := hw.1 c_5
      refine lv_aload_n hx hb dX3_fates_39 rfl (lv_at hl 0 rfl) ?_
      refine lv_aload_n hx hb dX3_fates_40 rfl (lv_at hl 0 rfl) ?_
      refine g_get (own := RX3) (C := RX3) (T := TX3) (N := 19) (ci := 3) hx hb hq hin_X3 hown hK hG (k := 4) (gok_lo (by decide)) (gc_M) rfl 6 (by decide) (hq _ q_419) rfl (v := .ref (ad 8)) rfl dX3_fates_41 ?_
      refine lv_iload_n hx hb dX3_fates_44 rfl (lv_at hl 1 rfl) ?_
      obtain ⟨hi_6, hw⟩ := hw
      refine g_iald hx hb hK hG (k := 8) (gok_lo (by decide)) (gc_8) hi_6 dX3_fates_45 ?_
      refine lv_iload hx hb dX3_fates_46 (lv_at hl 3 rfl) ?_
      refine lv_iadd hx hb dX3_fates_48 ?_
      refine lv_bipush (v := 64) hx hb dX3_fates_49 (by decide) ?_
      refine lv_icmp_le (tgt := 58) hx hb dX3_fates_51 (by decide) (fun c_7 => ?_) (fun c_7 => ?_)
      · have hw := hw.1 c_7
        refine lv_iconst (v := 0) hx hb dX3_fates_58 (by decide) ?_
        refine g_put (own := RX3) (C := RX3) (T := TX3) (N := 19) (ci := 3) hx hb hq hin_X3 tyX3 tyX3_ok nmX3 hown hK hG (k := 4) (gok_lo (by decide)) (gc_M) rfl 0 (by decide) (hq _ q_413) rfl rfl (ty := .int) (v := .int 0) (by decide +kernel) rfl rfl (Nat.le_of_ble_eq_true rfl) (gi g_4 4 0 (0 : Int32)) (gs_M0) (gho_lo (by decide)) dX3_fates_59 (fun H locs hG => ?_)
        obtain ⟨g_8, eg_8⟩ : ∃ z, z = gi g_4 4 0 (0 : Int32) := ⟨_, rfl⟩
        rw [← eg_8] at hG
        have hw := hw g_8 eg_8
        refine lv_aload_n hx hb dX3_fates_62 rfl (lv_at hl 0 rfl) ?_
        refine g_get (own := RX3) (C := RX3) (T := TX3) (N := 19) (ci := 3) hx hb hq hin_X3 hown hK hG (k := 4) (gok_lo (by decide)) (gc_M) rfl 0 (by decide) (hq _ q_413) rfl (v := .int (g_8.1 4 0)) rfl dX3_fates_63 ?_
        refine lv_if_le (tgt := 71) hx hb dX3_fates_66 (by decide) (fun c_9 => ?_) (fun c_9 => ?_)
        · have hw := hw.1 c_9
          refine lv_iconst (v := 0) hx hb dX3_fates_71 (by decide) ?_
          refine lv_istore (lv' := [(5, .int 0), (0, .ref (ad 4)), (1, .int p1), (2, .long p2), (4, .int p3)]) hx hb dX3_fates_72 hl (by decide) rfl (fun ls hl => ?_)
          obtain ⟨n_21, hw⟩ := hw
          exact L_X3_fates_74 post hl9 hx hb hr hml hown hts hlocks hA hE n_21 p1 p2 p3 0 g_8 hw _ _ _ hG (lv_sub hl [1, 2, 3, 4, 0] rfl)
        · have hw := hw.2 c_9
          refine lv_iconst (v := 0) hx hb dX3_fates_69 (by decide) ?_
          exact g_iret hx hb hr hlocks hw hG (by decide) (by decide) dX3_fates_70
      · have hw := hw.2 c_7
        refine lv_iconst (v := 2) hx hb dX3_fates_54 (by decide) ?_
        refine lv_goto (tgt := 59) hx hb dX3_fates_55 (by decide) ?_
        refine g_put (own := RX3) (C := RX3) (T := TX3) (N := 19) (ci := 3) hx hb hq hin_X3 tyX3 tyX3_ok nmX3 hown hK hG (k := 4) (gok_lo (by decide)) (gc_M) rfl 0 (by decide) (hq _ q_413) rfl rfl (ty := .int) (v := .int 2) (by decide +kernel) rfl rfl (Nat.le_of_ble_eq_true rfl) (gi g_4 4 0 (2 : Int32)) (gs_M0) (gho_lo (by decide)) dX3_fates_59 (fun H locs hG => ?_)
        obtain ⟨g_22, eg_22⟩ : ∃ z, z = gi g_4 4 0 (2 : Int32) := ⟨_, rfl⟩
        rw [← eg_22] at hG
        have hw := hw g_22 eg_22
        refine lv_aload_n hx hb dX3_fates_62 rfl (lv_at hl 0 rfl) ?_
        refine g_get (own := RX3) (C := RX3) (T := TX3) (N := 19) (ci := 3) hx hb hq hin_X3 hown hK hG (k := 4) (gok_lo (by decide)) (gc_M) rfl 0 (by decide) (hq _ q_413) rfl (v := .int (g_22.1 4 0)) rfl dX3_fates_63 ?_
        refine lv_if_le (tgt := 71) hx hb dX3_fates_66 (by decide) (fun c_23 => ?_) (fun c_23 => ?_)
        · have hw := hw.1 c_23
          refine lv_iconst (v := 0) hx hb dX3_fates_71 (by decide) ?_
          refine lv_istore (lv' := [(5, .int 0), (0, .ref (ad 4)), (1, .int p1), (2, .long p2), (4, .int p3)]) hx hb dX3_fates_72 hl (by decide) rfl (fun ls hl => ?_)
          obtain ⟨n_24, hw⟩ := hw
          exact L_X3_fates_74 post hl9 hx hb hr hml hown hts hlocks hA hE n_24 p1 p2 p3 0 g_22 hw _ _ _ hG (lv_sub hl [1, 2, 3, 4, 0] rfl)
        · have hw := hw.2 c_23
          refine lv_iconst (v := 0) hx hb dX3_fates_69 (by decide) ?_
          exact g_iret hx hb hr hlocks hw hG (by decide) (by decide) dX3_fates_70
    · have hw := hw.2 c_5
      refine lv_iconst (v := 0) hx hb dX3_fates_37 (by decide) ?_
      exact g_iret hx hb hr hlocks hw hG (by decide) (by decide) dX3_fates_38
  · have hw := hw.2 c_3
    refine lv_iload hx hb dX3_fates_9 (lv_at hl 3 rfl) ?_
    refine lv_iconst (v := 1) hx hb dX3_fates_11 (by decide) ?_
    refine lv_icmp_lt (tgt := 22) hx hb dX3_fates_12 (by decide) (fun c_25 => ?_) (fun c_25 => ?_)
    · have hw := hw.1 c_25
      refine lv_iconst (v := 1) hx hb dX3_fates_22 (by decide) ?_
      refine lv_goto (tgt := 27) hx hb dX3_fates_23 (by decide) ?_
      refine g_put (own := RX3) (C := RX3) (T := TX3) (N := 19) (ci := 3) hx hb hq hin_X3 tyX3 tyX3_ok nmX3 hown hK hG (k := 4) (gok_lo (by decide)) (gc_M) rfl 0 (by decide) (hq _ q_413) rfl rfl (ty := .int) (v := .int 1) (by decide +kernel) rfl rfl (Nat.le_of_ble_eq_true rfl) (gi g_1 4 0 (1 : Int32)) (gs_M0) (gho_lo (by decide)) dX3_fates_27 (fun H locs hG => ?_)
      obtain ⟨g_26, eg_26⟩ : ∃ z, z = gi g_1 4 0 (1 : Int32) := ⟨_, rfl⟩
      rw [← eg_26] at hG
      have hw := hw g_26 eg_26
      refine lv_aload_n hx hb dX3_fates_30 rfl (lv_at hl 0 rfl) ?_
      refine g_get (own := RX3) (C := RX3) (T := TX3) (N := 19) (ci := 3) hx hb hq hin_X3 hown hK hG (k := 4) (gok_lo (by decide)) (gc_M) rfl 0 (by decide) (hq _ q_413) rfl (v := .int (g_26.1 4 0)) rfl dX3_fates_31 ?_
      refine lv_if_le (tgt := 39) hx hb dX3_fates_34 (by decide) (fun c_27 => ?_) (fun c_27 => ?_)
      · have hw := hw.1 c_27
        refine lv_aload_n hx hb dX3_fates_39 rfl (lv_at hl 0 rfl) ?_
        refine lv_aload_n hx hb dX3_fates_40 rfl (lv_at hl 0 rfl) ?_
        refine g_get (own := RX3) (C := RX3) (T := TX3) (N := 19) (ci := 3) hx hb hq hin_X3 hown hK hG (k := 4) (gok_lo (by decide)) (gc_M) rfl 6 (by decide) (hq _ q_419) rfl (v := .ref (ad 8)) rfl dX3_fates_41 ?_
        refine lv_iload_n hx hb dX3_fates_44 rfl (lv_at hl 1 rfl) ?_
        obtain ⟨hi_28, hw⟩ := hw
        refine g_iald hx hb hK hG (k := 8) (gok_lo (by decide)) (gc_8) hi_28 dX3_fates_45 ?_
        refine lv_iload hx hb dX3_fates_46 (lv_at hl 3 rfl) ?_
        refine lv_iadd hx hb dX3_fates_48 ?_
        refine lv_bipush (v := 64) hx hb dX3_fates_49 (by decide) ?_
        refine lv_icmp_le (tgt := 58) hx hb dX3_fates_51 (by decide) (fun c_29 => ?_) (fun c_29 => ?_)
        · have hw := hw.1 c_29
          refine lv_iconst (v := 0) hx hb dX3_fates_58 (by decide) ?_
          refine g_put (own := RX3) (C := RX3) (T := TX3) (N := 19) (ci := 3) hx hb hq hin_X3 tyX3 tyX3_ok nmX3 hown hK hG (k := 4) (gok_lo (by decide)) (gc_M) rfl 0 (by decide) (hq _ q_413) rfl rfl (ty := .int) (v := .int 0) (by decide +kernel) rfl rfl (Nat.le_of_ble_eq_true rfl) (gi g_26 4 0 (0 : Int32)) (gs_M0) (gho_lo (by decide)) dX3_fates_59 (fun H locs hG => ?_)
          obtain ⟨g_30, eg_30⟩ : ∃ z, z = gi g_26 4 0 (0 : Int32) := ⟨_, rfl⟩
          rw [← eg_30] at hG
          have hw := hw g_30 eg_30
          refine lv_aload_n hx hb dX3_fates_62 rfl (lv_at hl 0 rfl) ?_
          refine g_get (own := RX3) (C := RX3) (T := TX3) (N := 19) (ci := 3) hx hb hq hin_X3 hown hK hG (k := 4) (gok_lo (by decide)) (gc_M) rfl 0 (by decide) (hq _ q_413) rfl (v := .int (g_30.1 4 0)) rfl dX3_fates_63 ?_
          refine lv_if_le (tgt := 71) hx hb dX3_fates_66 (by decide) (fun c_31 => ?_) (fun c_31 => ?_)
          · have hw := hw.1 c_31
            refine lv_iconst (v := 0) hx hb dX3_fates_71 (by decide) ?_
            refine lv_istore (lv' := [(5, .int 0), (0, .ref (ad 4)), (1, .int p1), (2, .long p2), (4, .int p3)]) hx hb dX3_fates_72 hl (by decide) rfl (fun ls hl => ?_)
            obtain ⟨n_32, hw⟩ := hw
            exact L_X3_fates_74 post hl9 hx hb hr hml hown hts hlocks hA hE n_32 p1 p2 p3 0 g_30 hw _ _ _ hG (lv_sub hl [1, 2, 3, 4, 0] rfl)
          · have hw := hw.2 c_31
            refine lv_iconst (v := 0) hx hb dX3_fates_69 (by decide) ?_
            exact g_iret hx hb hr hlocks hw hG (by decide) (by decide) dX3_fates_70
        · have hw := hw.2 c_29
          refine lv_iconst (v := 2) hx hb dX3_fates_54 (by decide) ?_
          refine lv_goto (tgt := 59) hx hb dX3_fates_55 (by decide) ?_
          refine g_put (own := RX3) (C := RX3) (T := TX3) (N := 19) (ci := 3) hx hb hq hin_X3 tyX3 tyX3_ok nmX3 hown hK hG (k := 4) (gok_lo (by decide)) (gc_M) rfl 0 (by decide) (hq _ q_413) rfl rfl (ty := .int) (v := .int 2) (by decide +kernel) rfl rfl (Nat.le_of_ble_eq_true rfl) (gi g_26 4 0 (2 : Int32)) (gs_M0) (gho_lo (by decide)) dX3_fates_59 (fun H locs hG => ?_)
          obtain ⟨g_33, eg_33⟩ : ∃ z, z = gi g_26 4 0 (2 : Int32) := ⟨_, rfl⟩
          rw [← eg_33] at hG
          have hw := hw g_33 eg_33
          refine lv_aload_n hx hb dX3_fates_62 rfl (lv_at hl 0 rfl) ?_
          refine g_get (own := RX3) (C := RX3) (T := TX3) (N := 19) (ci := 3) hx hb hq hin_X3 hown hK hG (k := 4) (gok_lo (by decide)) (gc_M) rfl 0 (by decide) (hq _ q_413) rfl (v := .int (g_33.1 4 0)) rfl dX3_fates_63 ?_
          refine lv_if_le (tgt := 71) hx hb dX3_fates_66 (by decide) (fun c_34 => ?_) (fun c_34 => ?_)
          · have hw := hw.1 c_34
            refine lv_iconst (v := 0) hx hb dX3_fates_71 (by decide) ?_
            refine lv_istore (lv' := [(5, .int 0), (0, .ref (ad 4)), (1, .int p1), (2, .long p2), (4, .int p3)]) hx hb dX3_fates_72 hl (by decide) rfl (fun ls hl => ?_)
            obtain ⟨n_35, hw⟩ := hw
            exact L_X3_fates_74 post hl9 hx hb hr hml hown hts hlocks hA hE n_35 p1 p2 p3 0 g_33 hw _ _ _ hG (lv_sub hl [1, 2, 3, 4, 0] rfl)
          · have hw := hw.2 c_34
            refine lv_iconst (v := 0) hx hb dX3_fates_69 (by decide) ?_
            exact g_iret hx hb hr hlocks hw hG (by decide) (by decide) dX3_fates_70
      · have hw := hw.2 c_27
        refine lv_iconst (v := 0) hx hb dX3_fates_37 (by decide) ?_
        exact g_iret hx hb hr hlocks hw hG (by decide) (by decide) dX3_fates_38
    · have hw := hw.2 c_25
      refine lv_iload hx hb dX3_fates_15 (lv_at hl 3 rfl) ?_
      refine lv_bipush (v := 32) hx hb dX3_fates_17 (by decide) ?_
      refine lv_icmp_le (tgt := 26) hx hb dX3_fates_19 (by decide) (fun c_36 => ?_) (fun c_36 => ?_)
      · have hw := hw.1 c_36
        refine lv_iconst (v := 0) hx hb dX3_fates_26 (by decide) ?_
        refine g_put (own := RX3) (C := RX3) (T := TX3) (N := 19) (ci := 3) hx hb hq hin_X3 tyX3 tyX3_ok nmX3 hown hK hG (k := 4) (gok_lo (by decide)) (gc_M) rfl 0 (by decide) (hq _ q_413) rfl rfl (ty := .int) (v := .int 0) (by decide +kernel) rfl rfl (Nat.le_of_ble_eq_true rfl) (gi g_1 4 0 (0 : Int32)) (gs_M0) (gho_lo (by decide)) dX3_fates_27 (fun H locs hG => ?_)
        obtain ⟨g_37, eg_37⟩ : ∃ z, z = gi g_1 4 0 (0 : Int32) := ⟨_, rfl⟩
        rw [← eg_37] at hG
        have hw := hw g_37 eg_37
        refine lv_aload_n hx hb dX3_fates_30 rfl (lv_at hl 0 rfl) ?_
        refine g_get (own := RX3) (C := RX3) (T := TX3) (N := 19) (ci := 3) hx hb hq hin_X3 hown hK hG (k := 4) (gok_lo (by decide)) (gc_M) rfl 0 (by decide) (hq _ q_413) rfl (v := .int (g_37.1 4 0)) rfl dX3_fates_31 ?_
        refine lv_if_le (tgt := 39) hx hb dX3_fates_34 (by decide) (fun c_38 => ?_) (fun c_38 => ?_)
        · have hw := hw.1 c_38
          refine lv_aload_n hx hb dX3_fates_39 rfl (lv_at hl 0 rfl) ?_
          refine lv_aload_n hx hb dX3_fates_40 rfl (lv_at hl 0 rfl) ?_
          refine g_get (own := RX3) (C := RX3) (T := TX3) (N := 19) (ci := 3) hx hb hq hin_X3 hown hK hG (k := 4) (gok_lo (by decide)) (gc_M) rfl 6 (by decide) (hq _ q_419) rfl (v := .ref (ad 8)) rfl dX3_fates_41 ?_
          refine lv_iload_n hx hb dX3_fates_44 rfl (lv_at hl 1 rfl) ?_
          obtain ⟨hi_39, hw⟩ := hw
          refine g_iald hx hb hK hG (k := 8) (gok_lo (by decide)) (gc_8) hi_39 dX3_fates_45 ?_
          refine lv_iload hx hb dX3_fates_46 (lv_at hl 3 rfl) ?_
          refine lv_iadd hx hb dX3_fates_48 ?_
          refine lv_bipush (v := 64) hx hb dX3_fates_49 (by decide) ?_
          refine lv_icmp_le (tgt := 58) hx hb dX3_fates_51 (by decide) (fun c_40 => ?_) (fun c_40 => ?_)
          · have hw := hw.1 c_40
            refine lv_iconst (v := 0) hx hb dX3_fates_58 (by decide) ?_
            refine g_put (own := RX3) (C := RX3) (T := TX3) (N := 19) (ci := 3) hx hb hq hin_X3 tyX3 tyX3_ok nmX3 hown hK hG (k := 4) (gok_lo (by decide)) (gc_M) rfl 0 (by decide) (hq _ q_413) rfl rfl (ty := .int) (v := .int 0) (by decide +kernel) rfl rfl (Nat.le_of_ble_eq_true rfl) (gi g_37 4 0 (0 : Int32)) (gs_M0) (gho_lo (by decide)) dX3_fates_59 (fun H locs hG => ?_)
            obtain ⟨g_41, eg_41⟩ : ∃ z, z = gi g_37 4 0 (0 : Int32) := ⟨_, rfl⟩
            rw [← eg_41] at hG
            have hw := hw g_41 eg_41
            refine lv_aload_n hx hb dX3_fates_62 rfl (lv_at hl 0 rfl) ?_
            refine g_get (own := RX3) (C := RX3) (T := TX3) (N := 19) (ci := 3) hx hb hq hin_X3 hown hK hG (k := 4) (gok_lo (by decide)) (gc_M) rfl 0 (by decide) (hq _ q_413) rfl (v := .int (g_41.1 4 0)) rfl dX3_fates_63 ?_
            refine lv_if_le (tgt := 71) hx hb dX3_fates_66 (by decide) (fun c_42 => ?_) (fun c_42 => ?_)
            · have hw := hw.1 c_42
              refine lv_iconst (v := 0) hx hb dX3_fates_71 (by decide) ?_
              refine lv_istore (lv' := [(5, .int 0), (0, .ref (ad 4)), (1, .int p1), (2, .long p2), (4, .int p3)]) hx hb dX3_fates_72 hl (by decide) rfl (fun ls hl => ?_)
              obtain ⟨n_43, hw⟩ := hw
              exact L_X3_fates_74 post hl9 hx hb hr hml hown hts hlocks hA hE n_43 p1 p2 p3 0 g_41 hw _ _ _ hG (lv_sub hl [1, 2, 3, 4, 0] rfl)
            · have hw := hw.2 c_42
              refine lv_iconst (v := 0) hx hb dX3_fates_69 (by decide) ?_
              exact g_iret hx hb hr hlocks hw hG (by decide) (by decide) dX3_fates_70
          · have hw := hw.2 c_40
            refine lv_iconst (v := 2) hx hb dX3_fates_54 (by decide) ?_
            refine lv_goto (tgt := 59) hx hb dX3_fates_55 (by decide) ?_
            refine g_put (own := RX3) (C := RX3) (T := TX3) (N := 19) (ci := 3) hx hb hq hin_X3 tyX3 tyX3_ok nmX3 hown hK hG (k := 4) (gok_lo (by decide)) (gc_M) rfl 0 (by decide) (hq _ q_413) rfl rfl (ty := .int) (v := .int 2) (by decide +kernel) rfl rfl (Nat.le_of_ble_eq_true rfl) (gi g_37 4 0 (2 : Int32)) (gs_M0) (gho_lo (by decide)) dX3_fates_59 (fun H locs hG => ?_)
            obtain ⟨g_44, eg_44⟩ : ∃ z, z = gi g_37 4 0 (2 : Int32) := ⟨_, rfl⟩
            rw [← eg_44] at hG
            have hw := hw g_44 eg_44
            refine lv_aload_n hx hb dX3_fates_62 rfl (lv_at hl 0 rfl) ?_
            refine g_get (own := RX3) (C := RX3) (T := TX3) (N := 19) (ci := 3) hx hb hq hin_X3 hown hK hG (k := 4) (gok_lo (by decide)) (gc_M) rfl 0 (by decide) (hq _ q_413) rfl (v := .int (g_44.1 4 0)) rfl dX3_fates_63 ?_
            refine lv_if_le (tgt := 71) hx hb dX3_fates_66 (by decide) (fun c_45 => ?_) (fun c_45 => ?_)
            · have hw := hw.1 c_45
              refine lv_iconst (v := 0) hx hb dX3_fates_71 (by decide) ?_
              refine lv_istore (lv' := [(5, .int 0), (0, .ref (ad 4)), (1, .int p1), (2, .long p2), (4, .int p3)]) hx hb dX3_fates_72 hl (by decide) rfl (fun ls hl => ?_)
              obtain ⟨n_46, hw⟩ := hw
              exact L_X3_fates_74 post hl9 hx hb hr hml hown hts hlocks hA hE n_46 p1 p2 p3 0 g_44 hw _ _ _ hG (lv_sub hl [1, 2, 3, 4, 0] rfl)
            · have hw := hw.2 c_45
              refine lv_iconst (v := 0) hx hb dX3_fates_69 (by decide) ?_
              exact g_iret hx hb hr hlocks hw hG (by decide) (by decide) dX3_fates_70
        · have hw := hw.2 c_38
          refine lv_iconst (v := 0) hx hb dX3_fates_37 (by decide) ?_
          exact g_iret hx hb hr hlocks hw hG (by decide) (by decide) dX3_fates_38
      · have hw := hw.2 c_36
        refine lv_iconst (v := 1) hx hb dX3_fates_22 (by decide) ?_
        refine lv_goto (tgt := 27) hx hb dX3_fates_23 (by decide) ?_
        refine g_put (own := RX3) (C := RX3) (T := TX3) (N := 19) (ci := 3) hx hb hq hin_X3 tyX3 tyX3_ok nmX3 hown hK hG (k := 4) (gok_lo (by decide)) (gc_M) rfl 0 (by decide) (hq _ q_413) rfl rfl (ty := .int) (v := .int 1) (by decide +kernel) rfl rfl (Nat.le_of_ble_eq_true rfl) (gi g_1 4 0 (1 : Int32)) (gs_M0) (gho_lo (by decide)) dX3_fates_27 (fun H locs hG => ?_)
        obtain ⟨g_47, eg_47⟩ : ∃ z, z = gi g_1 4 0 (1 : Int32) := ⟨_, rfl⟩
        rw [← eg_47] at hG
        have hw := hw g_47 eg_47
        refine lv_aload_n hx hb dX3_fates_30 rfl (lv_at hl 0 rfl) ?_
        refine g_get (own := RX3) (C := RX3) (T := TX3) (N := 19) (ci := 3) hx hb hq hin_X3 hown hK hG (k := 4) (gok_lo (by decide)) (gc_M) rfl 0 (by decide) (hq _ q_413) rfl (v := .int (g_47.1 4 0)) rfl dX3_fates_31 ?_
        refine lv_if_le (tgt := 39) hx hb dX3_fates_34 (by decide) (fun c_48 => ?_) (fun c_48 => ?_)
        · have hw := hw.1 c_48
          refine lv_aload_n hx hb dX3_fates_39 rfl (lv_at hl 0 rfl) ?_
          refine lv_aload_n hx hb dX3_fates_40 rfl (lv_at hl 0 rfl) ?_
          refine g_get (own := RX3) (C := RX3) (T := TX3) (N := 19) (ci := 3) hx hb hq hin_X3 hown hK hG (k := 4) (gok_lo (by decide)) (gc_M) rfl 6 (by decide) (hq _ q_419) rfl (v := .ref (ad 8)) rfl dX3_fates_41 ?_
          refine lv_iload_n hx hb dX3_fates_44 rfl (lv_at hl 1 rfl) ?_
          obtain ⟨hi_49, hw⟩ := hw
          refine g_iald hx hb hK hG (k := 8) (gok_lo (by decide)) (gc_8) hi_49 dX3_fates_45 ?_
          refine lv_iload hx hb dX3_fates_46 (lv_at hl 3 rfl) ?_
          refine lv_iadd hx hb dX3_fates_48 ?_
          refine lv_bipush (v := 64) hx hb dX3_fates_49 (by decide) ?_
          refine lv_icmp_le (tgt := 58) hx hb dX3_fates_51 (by decide) (fun c_50 => ?_) (fun c_50 => ?_)
          · have hw := hw.1 c_50
            refine lv_iconst (v := 0) hx hb dX3_fates_58 (by decide) ?_
            refine g_put (own := RX3) (C := RX3) (T := TX3) (N := 19) (ci := 3) hx hb hq hin_X3 tyX3 tyX3_ok nmX3 hown hK hG (k := 4) (gok_lo (by decide)) (gc_M) rfl 0 (by decide) (hq _ q_413) rfl rfl (ty := .int) (v := .int 0) (by decide +kernel) rfl rfl (Nat.le_of_ble_eq_true rfl) (gi g_47 4 0 (0 : Int32)) (gs_M0) (gho_lo (by decide)) dX3_fates_59 (fun H locs hG => ?_)
            obtain ⟨g_51, eg_51⟩ : ∃ z, z = gi g_47 4 0 (0 : Int32) := ⟨_, rfl⟩
            rw [← eg_51] at hG
            have hw := hw g_51 eg_51
            refine lv_aload_n hx hb dX3_fates_62 rfl (lv_at hl 0 rfl) ?_
            refine g_get (own := RX3) (C := RX3) (T := TX3) (N := 19) (ci := 3) hx hb hq hin_X3 hown hK hG (k := 4) (gok_lo (by decide)) (gc_M) rfl 0 (by decide) (hq _ q_413) rfl (v := .int (g_51.1 4 0)) rfl dX3_fates_63 ?_
            refine lv_if_le (tgt := 71) hx hb dX3_fates_66 (by decide) (fun c_52 => ?_) (fun c_52 => ?_)
            · have hw := hw.1 c_52
              refine lv_iconst (v := 0) hx hb dX3_fates_71 (by decide) ?_
              refine lv_istore (lv' := [(5, .int 0), (0, .ref (ad 4)), (1, .int p1), (2, .long p2), (4, .int p3)]) hx hb dX3_fates_72 hl (by decide) rfl (fun ls hl => ?_)
              obtain ⟨n_53, hw⟩ := hw
              exact L_X3_fates_74 post hl9 hx hb hr hml hown hts hlocks hA hE n_53 p1 p2 p3 0 g_51 hw _ _ _ hG (lv_sub hl [1, 2, 3, 4, 0] rfl)
            · have hw := hw.2 c_52
              refine lv_iconst (v := 0) hx hb dX3_fates_69 (by decide) ?_
              exact g_iret hx hb hr hlocks hw hG (by decide) (by decide) dX3_fates_70
          · have hw := hw.2 c_50
            refine lv_iconst (v := 2) hx hb dX3_fates_54 (by decide) ?_
            refine lv_goto (tgt := 59) hx hb dX3_fates_55 (by decide) ?_
            refine g_put (own := RX3) (C := RX3) (T := TX3) (N := 19) (ci := 3) hx hb hq hin_X3 tyX3 tyX3_ok nmX3 hown hK hG (k := 4) (gok_lo (by decide)) (gc_M) rfl 0 (by decide) (hq _ q_413) rfl rfl (ty := .int) (v := .int 2) (by decide +kernel) rfl rfl (Nat.le_of_ble_eq_true rfl) (gi g_47 4 0 (2 : Int32)) (gs_M0) (gho_lo (by decide)) dX3_fates_59 (fun H locs hG => ?_)
            obtain ⟨g_54, eg_54⟩ : ∃ z, z = gi g_47 4 0 (2 : Int32) := ⟨_, rfl⟩
            rw [← eg_54] at hG
            have hw := hw g_54 eg_54
            refine lv_aload_n hx hb dX3_fates_62 rfl (lv_at hl 0 rfl) ?_
            refine g_get (own := RX3) (C := RX3) (T := TX3) (N := 19) (ci := 3) hx hb hq hin_X3 hown hK hG (k := 4) (gok_lo (by decide)) (gc_M) rfl 0 (by decide) (hq _ q_413) rfl (v := .int (g_54.1 4 0)) rfl dX3_fates_63 ?_
            refine lv_if_le (tgt := 71) hx hb dX3_fates_66 (by decide) (fun c_55 => ?_) (fun c_55 => ?_)
            · have hw := hw.1 c_55
              refine lv_iconst (v := 0) hx hb dX3_fates_71 (by decide) ?_
              refine lv_istore (lv' := [(5, .int 0), (0, .ref (ad 4)), (1, .int p1), (2, .long p2), (4, .int p3)]) hx hb dX3_fates_72 hl (by decide) rfl (fun ls hl => ?_)
              obtain ⟨n_56, hw⟩ := hw
              exact L_X3_fates_74 post hl9 hx hb hr hml hown hts hlocks hA hE n_56 p1 p2 p3 0 g_54 hw _ _ _ hG (lv_sub hl [1, 2, 3, 4, 0] rfl)
            · have hw := hw.2 c_55
              refine lv_iconst (v := 0) hx hb dX3_fates_69 (by decide) ?_
              exact g_iret hx hb hr hlocks hw hG (by decide) (by decide) dX3_fates_70
        · have hw := hw.2 c_48
          refine lv_iconst (v := 0) hx hb dX3_fates_37 (by decide) ?_
          exact g_iret hx hb hr hlocks hw hG (by decide) (by decide) dX3_fates_38

def wpl_X3_feed_50 (post : Int32 → gS → Prop) : Nat → Int64 → Int32 → Int32 → gS → Prop
  | 0 => fun _ _ _ _ => False
  | n + 1 => fun x1 x3 x4 g => ((x4 < 0) → (post (g.1 4 3) g)) ∧ ((¬ x4 < 0) → (∀ x_6 : Int32, x_6 = ((x1 >>> ((8 * x4).toInt64 &&& 63)) &&& 255).toInt32 → (vp_in (g.1 4 3) 1480 ∧ (∀ g_8 : gS, g_8 = gi g 11 ((g.1 4 3).toNatClampNeg) x_6 → (∀ x_9 : Int32, x_9 = (g_8.1 4 3) + 1 → (∀ g_10 : gS, g_10 = gi g_8 4 3 x_9 → (∀ x_11 : Int32, x_11 = x4 + (-1) → (wpl_X3_feed_50 post n x1 x3 x_11 g_10))))))))
set_option maxHeartbeats 4000000 in
set_option maxRecDepth 100000 in
theorem L_X3_feed_50 {p : Program} {l : Launch} {e : Env} {s : State} {m : MethodId} {args : Array Value} {below : List Frame} {meth : Method} {c : Code} {D : va_G} {K : Nat → ClassId} {sa ad : Nat → Nat} {A : Nat → Prop} (post : Int32 → gS → Prop) (hl9 : l.stackTraces = false) (hx : p.tables.exec = Jvm.exec) (hb : c.code = cX3_feed) (hr : meth.sig.returnType = (some .int)) (hml : c.maxLocals = 5) (hown : s.vm.findClass RX3 = some m.cls) (hts : ∀ w ∈ wsX3_feed, w.before args s = true) (hlocks : meth.locks = false) (hA : ∀ q, s.heap.size ≤ q → A q) (hE : gE D K sa A s s.heap) : ∀ (n : Nat) (x1 : Int64) (x3 : Int32) (x4 : Int32) (g : gS), wpl_X3_feed_50 post n x1 x3 x4 g → ∀ (H : Heap) (locs : List Loc) (ls : Array Slot), gX D K ad A s.heap g H locs → lv_has ls 5 [(0, .ref (ad 4)), (1, .long x1), (3, .int x3), (4, .int x4)] → W p l e ({ frames := 0, cells := 0, slots := 0, locals := 0 } : Room) s m args below meth c H locs 0 0 (MQ below (va_Qi post (gB D K ad A) A) args s 0 0 A) (F0 m 50 ls []) := by
  have hK := hE.1
  have hq : ∀ w ∈ gW, w.before args s = true := fun w h => hts w (List.mem_cons_of_mem _ h)
  intro n
  induction n with
  | zero =>
    intro x1 x3 x4 g hw
    exact hw.elim
  | succ n ih =>
    intro x1 x3 x4 g hw H locs ls hG hl
    dsimp only [wpl_X3_feed_50] at hw
    refine lv_iload hx hb dX3_feed_50 (lv_at hl 3 rfl) ?_
    refine lv_if_lt (tgt := 92) hx hb dX3_feed_52 (by decide) (fun c_5 => ?_) (fun c_5 => ?_)
    · have hw := hw.1 c_5
      refine lv_aload_n hx hb dX3_feed_92 rfl (lv_at hl 0 rfl) ?_
      refine g_get (own := RX3) (C := RX3) (T := TX3) (N := 19) (ci := 3) hx hb hq hin_X3 hown hK hG (k := 4) (gok_lo (by decide)) (gc_M) rfl 9 (by decide) (hq _ q_422) rfl (v := .int (g.1 4 3)) rfl dX3_feed_93 ?_
      exact g_iret hx hb hr hlocks hw hG (by decide) (by decide) dX3_feed_96
    · have hw := hw.2 c_5
      refine lv_aload_n hx hb dX3_feed_55 rfl (lv_at hl 0 rfl) ?_
      refine g_get (own := RX3) (C := RX3) (T := TX3) (N := 19) (ci := 3) hx hb hq hin_X3 hown hK hG (k := 4) (gok_lo (by decide)) (gc_M) rfl 10 (by decide) (hq _ q_423) rfl (v := .ref (ad 11)) rfl dX3_feed_56 ?_
      refine lv_aload_n hx hb dX3_feed_59 rfl (lv_at hl 0 rfl) ?_
      refine g_get (own := RX3) (C := RX3) (T := TX3) (N := 19) (ci := 3) hx hb hq hin_X3 hown hK hG (k := 4) (gok_lo (by decide)) (gc_M) rfl 9 (by decide) (hq _ q_422) rfl (v := .int (g.1 4 3)) rfl dX3_feed_60 ?_
      refine lv_lload_n hx hb dX3_feed_63 rfl (lv_at hl 1 rfl) ?_
      refine lv_bipush (v := 8) hx hb dX3_feed_64 (by decide) ?_
      refine lv_iload hx hb dX3_feed_66 (lv_at hl 3 rfl) ?_
      refine lv_imul hx hb dX3_feed_68 ?_
      refine lv_lshr hx hb dX3_feed_69 rfl ?_
      refine lv_ldc2 (own := RX3) (v := 255) hx hb hown (hq _ q_503) dX3_feed_70 ?_
      refine lv_land hx hb dX3_feed_73 ?_
      refine lv_l2i hx hb dX3_feed_74 rfl ?_
      refine lv_topi (fun x_6 ex_6 => ?_)
      have hw := hw x_6 ex_6
      obtain ⟨hi_7, hw⟩ := hw
      refine g_iast hx hb hK hG (k := 11) (gok_lo (by decide)) (fun g => gc_11) (x := x_6) hi_7 (gho_lo (by decide)) dX3_feed_75 (fun H locs hG => ?_)
      obtain ⟨g_8, eg_8⟩ : ∃ z, z = gi g 11 ((g.1 4 3).toNatClampNeg) x_6 := ⟨_, rfl⟩
      rw [← eg_8] at hG
      have hw := hw g_8 eg_8
      refine lv_aload_n hx hb dX3_feed_76 rfl (lv_at hl 0 rfl) ?_
      refine lv_dup hx hb dX3_feed_77 rfl ?_
      refine g_get (own := RX3) (C := RX3) (T := TX3) (N := 19) (ci := 3) hx hb hq hin_X3 hown hK hG (k := 4) (gok_lo (by decide)) (gc_M) rfl 9 (by decide) (hq _ q_422) rfl (v := .int (g_8.1 4 3)) rfl dX3_feed_78 ?_
      refine lv_iconst (v := 1) hx hb dX3_feed_81 (by decide) ?_
      refine lv_iadd hx hb dX3_feed_82 ?_
      refine lv_topi (fun x_9 ex_9 => ?_)
      have hw := hw x_9 ex_9
      refine g_put (own := RX3) (C := RX3) (T := TX3) (N := 19) (ci := 3) hx hb hq hin_X3 tyX3 tyX3_ok nmX3 hown hK hG (k := 4) (gok_lo (by decide)) (gc_M) rfl 9 (by decide) (hq _ q_422) rfl rfl (ty := .int) (v := .int x_9) (by decide +kernel) rfl rfl (Nat.le_of_ble_eq_true rfl) (gi g_8 4 3 x_9) (gs_M3) (gho_lo (by decide)) dX3_feed_83 (fun H locs hG => ?_)
      obtain ⟨g_10, eg_10⟩ : ∃ z, z = gi g_8 4 3 x_9 := ⟨_, rfl⟩
      rw [← eg_10] at hG
      have hw := hw g_10 eg_10
      obtain ⟨x_11, ex_11⟩ : ∃ y : Int32, y = x4 + (-1) := ⟨_, rfl⟩
      have hw := hw x_11 ex_11
      refine lv_iinc (v := x_11) (lv' := [(4, .int x_11), (0, .ref (ad 4)), (1, .long x1), (3, .int x3)]) hx hb dX3_feed_86 hl (k := 3) rfl (by rw [ex_11]; rfl) (by decide) rfl (fun ls hl => ?_)
      refine lv_goto (tgt := 50) hx hb dX3_feed_89 (by decide) ?_
      exact ih x1 x3 x_11 g_10 hw _ _ _ hG (lv_sub hl [1, 2, 3, 0] rfl)
def wp_X3_feed (post : Int32 → gS → Prop) (p1 : Int64) (p2 : Int32) (g : gS) : Prop := ((p2 < 1) → (∀ g_2 : gS, g_2 = gi g 4 0 (1 : Int32) → ((((g_2.1 4 0) ≤ 0) → (∀ x_4 : Int32, x_4 = p2 - 1 → (∃ n, wpl_X3_feed_50 post n p1 p2 x_4 g_2))) ∧ ((¬ (g_2.1 4 0) ≤ 0) → (post 0 g_2))))) ∧ ((¬ p2 < 1) → (((p2 ≤ 8) → (((((g.1 4 3) + p2) ≤ 1480) → (∀ g_15 : gS, g_15 = gi g 4 0 (0 : Int32) → ((((g_15.1 4 0) ≤ 0) → (∀ x_17 : Int32, x_17 = p2 - 1 → (∃ n, wpl_X3_feed_50 post n p1 p2 x_17 g_15))) ∧ ((¬ (g_15.1 4 0) ≤ 0) → (post 0 g_15))))) ∧ ((¬ ((g.1 4 3) + p2) ≤ 1480) → (∀ g_19 : gS, g_19 = gi g 4 0 (2 : Int32) → ((((g_19.1 4 0) ≤ 0) → (∀ x_21 : Int32, x_21 = p2 - 1 → (∃ n, wpl_X3_feed_50 post n p1 p2 x_21 g_19))) ∧ ((¬ (g_19.1 4 0) ≤ 0) → (post 0 g_19))))))) ∧ ((¬ p2 ≤ 8) → (∀ g_23 : gS, g_23 = gi g 4 0 (1 : Int32) → ((((g_23.1 4 0) ≤ 0) → (∀ x_25 : Int32, x_25 = p2 - 1 → (∃ n, wpl_X3_feed_50 post n p1 p2 x_25 g_23))) ∧ ((¬ (g_23.1 4 0) ≤ 0) → (post 0 g_23)))))))
set_option maxHeartbeats 4000000 in
set_option maxRecDepth 100000 in
theorem m_X3_feed {l : Launch} (hl9 : l.stackTraces = false) (D : va_G) (K : Nat → ClassId) (sa ad : Nat → Nat) (sz : Nat) (post : Int32 → gS → Prop) (p1 : Int64) (p2 : Int32) (g : gS) (hw : wp_X3_feed post p1 p2 g) : Met l yX3_feed wsX3_feed ({ frames := 0, cells := 0, slots := 0, locals := 0 } : Room) (gPc D K sa ad sz g [.ref (ad 4), .long p1, .int p2]) (va_Qi post (gB D K ad (va_A (gw K ad g) sz)) (va_A (gw K ad g) sz)) 0 0 (va_A (gw K ad g) sz) := by
  refine Met.ofW (cc := cX3_feed) (maxL := 5) (ret := (some .int)) (by decide) rfl ?_
  intro p e s m args below meth c s₁ B hml hv
  obtain ⟨rfl, hsz, hP, hE, hD0⟩ := hv
  have hx := B.exec
  have hb := B.bytes
  have hr := B.returns
  have hts := atoms_spec (ws := wsX3_feed) B.pre
  have hq : ∀ w ∈ gW, w.before _ s = true := fun w h => hts w (List.mem_cons_of_mem _ h)
  have hown : s.vm.findClass RX3 = some m.cls := findClass_of_methodNamed B.named
  have hlocks := B.notSynchronized
  subst hsz
  have hD := hD0.self (sz := s.heap.size)
  generalize hAe : va_A (gw K ad g) s.heap.size = A at hD hE ⊢
  have hA : ∀ q : Nat, s.heap.size ≤ q → A q := fun q h => by rw [← hAe]; exact Or.inr h
  have hK := hE.1
  have hG : gX D K ad A s.heap g s.heap [] := ⟨hP, hD, va_S.rf⟩
  have hl := lv_entry ([.ref (ad 4), .long p1, .int p2]) (n := 5) (Nat.le_of_ble_eq_true rfl)
  rw [lg_entry_eq]
  generalize (lg_sl ([.ref (ad 4), .long p1, .int p2]) ++ List.replicate (5 - (lg_sl ([.ref (ad 4), .long p1, .int p2])).length) Slot.unset).toArray = ls at hl ⊢
  have hl : lv_has ls 5 [(0, .ref (ad 4)), (1, .long p1), (3, .int p2)] := hl
  dsimp only [wp_X3_feed] at hw
  refine lv_aload_n hx hb dX3_feed_0 rfl (lv_at hl 0 rfl) ?_
  refine lv_iload_n hx hb dX3_feed_1 rfl (lv_at hl 2 rfl) ?_
  refine lv_iconst (v := 1) hx hb dX3_feed_2 (by decide) ?_
  refine lv_icmp_lt (tgt := 12) hx hb dX3_feed_3 (by decide) (fun c_1 => ?_) (fun c_1 => ?_)
  · have hw := hw.1 c_1
    refine lv_iconst (v := 1) hx hb dX3_feed_12 (by decide) ?_
    refine lv_goto (tgt := 33) hx hb dX3_feed_13 (by decide) ?_
    refine g_put (own := RX3) (C := RX3) (T := TX3) (N := 19) (ci := 3) hx hb hq hin_X3 tyX3 tyX3_ok nmX3 hown hK hG (k := 4) (gok_lo (by decide)) (gc_M) rfl 0 (by decide) (hq _ q_413) rfl rfl (ty := .int) (v := .int 1) (by decide +kernel) rfl rfl (Nat.le_of_ble_eq_true rfl) (gi g 4 0 (1 : Int32)) (gs_M0) (gho_lo (by decide)) dX3_feed_33 (fun H locs hG => ?_)
    obtain ⟨g_2, eg_2⟩ : ∃ z, z = gi g 4 0 (1 : Int32) := ⟨_, rfl⟩
    rw [← eg_2] at hG
    have hw := hw g_2 eg_2
    refine lv_aload_n hx hb dX3_feed_36 rfl (lv_at hl 0 rfl) ?_
    refine g_get (own := RX3) (C := RX3) (T := TX3) (N := 19) (ci := 3) hx hb hq hin_X3 hown hK hG (k := 4) (gok_lo (by decide)) (gc_M) rfl 0 (by decide) (hq _ q_413) rfl (v := .int (g_2.1 4 0)) rfl dX3_feed_37 ?_
    refine lv_if_le (tgt := 45) hx hb dX3_feed_40 (by decide) (fun c_3 => ?_) (fun c_3 => ?_)
    · have hw := hw.1 c_3
      refine lv_iload_n hx hb dX3_feed_45 rfl (lv_at hl 2 rfl) ?_
      refine lv_iconst (v := 1) hx hb dX3_feed_46 (by decide) ?_
      refine lv_isub hx hb dX3_feed_47 ?_
      refine lv_topi (fun x_4 ex_4 => ?_)
      have hw := hw x_4 ex_4
      refine lv_istore (lv' := [(4, .int x_4), (0, .ref (ad 4)), (1, .long p1), (3, .int p2)]) hx hb dX3_feed_48 hl (by decide) rfl (fun ls hl => ?_)
      obtain ⟨n_12, hw⟩ := hw
      exact L_X3_feed_50 post hl9 hx hb hr hml hown hts hlocks hA hE n_12 p1 p2 x_4 g_2 hw _ _ _ hG (lv_sub hl [1, 2, 3, 0] rfl)
    · have hw := hw.2 c_3
      refine lv_iconst (v := 0) hx hb dX3_feed_43 (by decide) ?_
      exact g_iret hx hb hr hlocks hw hG (by decide) (by decide) dX3_feed_44
  · have hw := hw.2 c_1
    refine lv_iload_n hx hb dX3_feed_6 rfl (lv_at hl 2 rfl) ?_
    refine lv_bipush (v := 8) hx hb dX3_feed_7 (by decide) ?_
    refine lv_icmp_le (tgt := 16) hx hb dX3_feed_9 (by decide) (fun c_13 => ?_) (fun c_13 => ?_)
    · have hw := hw.1 c_13
      refine lv_aload_n hx hb dX3_feed_16 rfl (lv_at hl 0 rfl) ?_
      refine g_get (own := RX3) (C := RX3) (T := TX3) (N := 19) (ci := 3) hx hb hq hin_X3 hown hK hG (k := 4) (gok_lo (by decide)) (gc_M) rfl 9 (by decide) (hq _ q_422) rfl (v := .int (g.1 4 3)) rfl dX3_feed_17 ?_
      refine lv_iload_n hx hb dX3_feed_20 rfl (lv_at hl 2 rfl) ?_
      refine lv_iadd hx hb dX3_feed_21 ?_
      refine lv_sipush (v := 1480) hx hb dX3_feed_22 (by decide) ?_
      refine lv_icmp_le (tgt := 32) hx hb dX3_feed_25 (by decide) (fun c_14 => ?_) (fun c_14 => ?_)
      · have hw := hw.1 c_14
        refine lv_iconst (v := 0) hx hb dX3_feed_32 (by decide) ?_
        refine g_put (own := RX3) (C := RX3) (T := TX3) (N := 19) (ci := 3) hx hb hq hin_X3 tyX3 tyX3_ok nmX3 hown hK hG (k := 4) (gok_lo (by decide)) (gc_M) rfl 0 (by decide) (hq _ q_413) rfl rfl (ty := .int) (v := .int 0) (by decide +kernel) rfl rfl (Nat.le_of_ble_eq_true rfl) (gi g 4 0 (0 : Int32)) (gs_M0) (gho_lo (by decide)) dX3_feed_33 (fun H locs hG => ?_)
        obtain ⟨g_15, eg_15⟩ : ∃ z, z = gi g 4 0 (0 : Int32) := ⟨_, rfl⟩
        rw [← eg_15] at hG
        have hw := hw g_15 eg_15
        refine lv_aload_n hx hb dX3_feed_36 rfl (lv_at hl 0 rfl) ?_
        refine g_get (own := RX3) (C := RX3) (T := TX3) (N := 19) (ci := 3) hx hb hq hin_X3 hown hK hG (k := 4) (gok_lo (by decide)) (gc_M) rfl 0 (by decide) (hq _ q_413) rfl (v := .int (g_15.1 4 0)) rfl dX3_feed_37 ?_
        refine lv_if_le (tgt := 45) hx hb dX3_feed_40 (by decide) (fun c_16 => ?_) (fun c_16 => ?_)
        · have hw := hw.1 c_16
          refine lv_iload_n hx hb dX3_feed_45 rfl (lv_at hl 2 rfl) ?_
          refine lv_iconst (v := 1) hx hb dX3_feed_46 (by decide) ?_
          refine lv_isub hx hb dX3_feed_47 ?_
          refine lv_topi (fun x_17 ex_17 => ?_)
          have hw := hw x_17 ex_17
          refine lv_istore (lv' := [(4, .int x_17), (0, .ref (ad 4)), (1, .long p1), (3, .int p2)]) hx hb dX3_feed_48 hl (by decide) rfl (fun ls hl => ?_)
          obtain ⟨n_18, hw⟩ := hw
          exact L_X3_feed_50 post hl9 hx hb hr hml hown hts hlocks hA hE n_18 p1 p2 x_17 g_15 hw _ _ _ hG (lv_sub hl [1, 2, 3, 0] rfl)
        · have hw := hw.2 c_16
          refine lv_iconst (v := 0) hx hb dX3_feed_43 (by decide) ?_
          exact g_iret hx hb hr hlocks hw hG (by decide) (by decide) dX3_feed_44
      · have hw := hw.2 c_14
        refine lv_iconst (v := 2) hx hb dX3_feed_28 (by decide) ?_
        refine lv_goto (tgt := 33) hx hb dX3_feed_29 (by decide) ?_
        refine g_put (own := RX3) (C := RX3) (T := TX3) (N := 19) (ci := 3) hx hb hq hin_X3 tyX3 tyX3_ok nmX3 hown hK hG (k := 4) (gok_lo (by decide)) (gc_M) rfl 0 (by decide) (hq _ q_413) rfl rfl (ty := .int) (v := .int 2) (by decide +kernel) rfl rfl (Nat.le_of_ble_eq_true rfl) (gi g 4 0 (2 : Int32)) (gs_M0) (gho_lo (by decide)) dX3_feed_33 (fun H locs hG => ?_)
        obtain ⟨g_19, eg_19⟩ : ∃ z, z = gi g 4 0 (2 : Int32) := ⟨_, rfl⟩
        rw [← eg_19] at hG
        have hw := hw g_19 eg_19
        refine lv_aload_n hx hb dX3_feed_36 rfl (lv_at hl 0 rfl) ?_
        refine g_get (own := RX3) (C := RX3) (T := TX3) (N := 19) (ci := 3) hx hb hq hin_X3 hown hK hG (k := 4) (gok_lo (by decide)) (gc_M) rfl 0 (by decide) (hq _ q_413) rfl (v := .int (g_19.1 4 0)) rfl dX3_feed_37 ?_
        refine lv_if_le (tgt := 45) hx hb dX3_feed_40 (by decide) (fun c_20 => ?_) (fun c_20 => ?_)
        · have hw := hw.1 c_20
          refine lv_iload_n hx hb dX3_feed_45 rfl (lv_at hl 2 rfl) ?_
          refine lv_iconst (v := 1) hx hb dX3_feed_46 (by decide) ?_
          refine lv_isub hx hb dX3_feed_47 ?_
          refine lv_topi (fun x_21 ex_21 => ?_)
          have hw := hw x_21 ex_21
          refine lv_istore (lv' := [(4, .int x_21), (0, .ref (ad 4)), (1, .long p1), (3, .int p2)]) hx hb dX3_feed_48 hl (by decide) rfl (fun ls hl => ?_)
          obtain ⟨n_22, hw⟩ := hw
          exact L_X3_feed_50 post hl9 hx hb hr hml hown hts hlocks hA hE n_22 p1 p2 x_21 g_19 hw _ _ _ hG (lv_sub hl [1, 2, 3, 0] rfl)
        · have hw := hw.2 c_20
          refine lv_iconst (v := 0) hx hb dX3_feed_43 (by decide) ?_
          exact g_iret hx hb hr hlocks hw hG (by decide) (by decide) dX3_feed_44
    · have hw := hw.2 c_13
      refine lv_iconst (v := 1) hx hb dX3_feed_12 (by decide) ?_
      refine lv_goto (tgt := 33) hx hb dX3_feed_13 (by decide) ?_
      refine g_put (own := RX3) (C := RX3) (T := TX3) (N := 19) (ci := 3) hx hb hq hin_X3 tyX3 tyX3_ok nmX3 hown hK hG (k := 4) (gok_lo (by decide)) (gc_M) rfl 0 (by decide) (hq _ q_413) rfl rfl (ty := .int) (v := .int 1) (by decide +kernel) rfl rfl (Nat.le_of_ble_eq_true rfl) (gi g 4 0 (1 : Int32)) (gs_M0) (gho_lo (by decide)) dX3_feed_33 (fun H locs hG => ?_)
      obtain ⟨g_23, eg_23⟩ : ∃ z, z = gi g 4 0 (1 : Int32) := ⟨_, rfl⟩
      rw [← eg_23] at hG
      have hw := hw g_23 eg_23
      refine lv_aload_n hx hb dX3_feed_36 rfl (lv_at hl 0 rfl) ?_
      refine g_get (own := RX3) (C := RX3) (T := TX3) (N := 19) (ci := 3) hx hb hq hin_X3 hown hK hG (k := 4) (gok_lo (by decide)) (gc_M) rfl 0 (by decide) (hq _ q_413) rfl (v := .int (g_23.1 4 0)) rfl dX3_feed_37 ?_
      refine lv_if_le (tgt := 45) hx hb dX3_feed_40 (by decide) (fun c_24 => ?_) (fun c_24 => ?_)
      · have hw := hw.1 c_24
        refine lv_iload_n hx hb dX3_feed_45 rfl (lv_at hl 2 rfl) ?_
        refine lv_iconst (v := 1) hx hb dX3_feed_46 (by decide) ?_
        refine lv_isub hx hb dX3_feed_47 ?_
        refine lv_topi (fun x_25 ex_25 => ?_)
        have hw := hw x_25 ex_25
        refine lv_istore (lv' := [(4, .int x_25), (0, .ref (ad 4)), (1, .long p1), (3, .int p2)]) hx hb dX3_feed_48 hl (by decide) rfl (fun ls hl => ?_)
        obtain ⟨n_26, hw⟩ := hw
        exact L_X3_feed_50 post hl9 hx hb hr hml hown hts hlocks hA hE n_26 p1 p2 x_25 g_23 hw _ _ _ hG (lv_sub hl [1, 2, 3, 0] rfl)
      · have hw := hw.2 c_24
        refine lv_iconst (v := 0) hx hb dX3_feed_43 (by decide) ?_
        exact g_iret hx hb hr hlocks hw hG (by decide) (by decide) dX3_feed_44

def wpl_X3_nextFate_36 (post : Int32 → gS → Prop) : Nat → Int32 → Int32 → Int32 → gS → Prop
  | 0 => fun _ _ _ _ => False
  | n + 1 => fun x1 x2 x3 g => vp_in x1 24 ∧ (((((64 * x1) + (g.1 8 x1.toNatClampNeg)) ≤ x3) → (post x2 g)) ∧ ((¬ ((64 * x1) + (g.1 8 x1.toNatClampNeg)) ≤ x3) → (∀ i_13 : Int32, i_13 = x3 + 1 → (vp_in i_13 1536 ∧ (∀ x_15 : Int32, x_15 = g.1 9 i_13.toNatClampNeg → (vp_in x3 1536 ∧ (∀ g_17 : gS, g_17 = gi g 9 x3.toNatClampNeg x_15 → (∀ x_18 : Int32, x_18 = x3 + 1 → (wpl_X3_nextFate_36 post n x1 x2 x_18 g_17)))))))))
set_option maxHeartbeats 4000000 in
set_option maxRecDepth 100000 in
theorem L_X3_nextFate_36 {p : Program} {l : Launch} {e : Env} {s : State} {m : MethodId} {args : Array Value} {below : List Frame} {meth : Method} {c : Code} {D : va_G} {K : Nat → ClassId} {sa ad : Nat → Nat} {A : Nat → Prop} (post : Int32 → gS → Prop) (hl9 : l.stackTraces = false) (hx : p.tables.exec = Jvm.exec) (hb : c.code = cX3_nextFate) (hr : meth.sig.returnType = (some .int)) (hml : c.maxLocals = 4) (hown : s.vm.findClass RX3 = some m.cls) (hts : ∀ w ∈ wsX3_nextFate, w.before args s = true) (hlocks : meth.locks = false) (hA : ∀ q, s.heap.size ≤ q → A q) (hE : gE D K sa A s s.heap) : ∀ (n : Nat) (x1 : Int32) (x2 : Int32) (x3 : Int32) (g : gS), wpl_X3_nextFate_36 post n x1 x2 x3 g → ∀ (H : Heap) (locs : List Loc) (ls : Array Slot), gX D K ad A s.heap g H locs → lv_has ls 4 [(0, .ref (ad 4)), (1, .int x1), (2, .int x2), (3, .int x3)] → W p l e ({ frames := 0, cells := 0, slots := 0, locals := 0 } : Room) s m args below meth c H locs 0 0 (MQ below (va_Qi post (gB D K ad A) A) args s 0 0 A) (F0 m 36 ls []) := by
  have hK := hE.1
  have hq : ∀ w ∈ gW, w.before args s = true := fun w h => hts w (List.mem_cons_of_mem _ h)
  intro n
  induction n with
  | zero =>
    intro x1 x2 x3 g hw
    exact hw.elim
  | succ n ih =>
    intro x1 x2 x3 g hw H locs ls hG hl
    dsimp only [wpl_X3_nextFate_36] at hw
    refine lv_iload_n hx hb dX3_nextFate_36 rfl (lv_at hl 3 rfl) ?_
    refine lv_bipush (v := 64) hx hb dX3_nextFate_37 (by decide) ?_
    refine lv_iload_n hx hb dX3_nextFate_39 rfl (lv_at hl 1 rfl) ?_
    refine lv_imul hx hb dX3_nextFate_40 ?_
    refine lv_aload_n hx hb dX3_nextFate_41 rfl (lv_at hl 0 rfl) ?_
    refine g_get (own := RX3) (C := RX3) (T := TX3) (N := 19) (ci := 3) hx hb hq hin_X3 hown hK hG (k := 4) (gok_lo (by decide)) (gc_M) rfl 6 (by decide) (hq _ q_419) rfl (v := .ref (ad 8)) rfl dX3_nextFate_42 ?_
    refine lv_iload_n hx hb dX3_nextFate_45 rfl (lv_at hl 1 rfl) ?_
    obtain ⟨hi_11, hw⟩ := hw
    refine g_iald hx hb hK hG (k := 8) (gok_lo (by decide)) (gc_8) hi_11 dX3_nextFate_46 ?_
    refine lv_iadd hx hb dX3_nextFate_47 ?_
    refine lv_icmp_ge (tgt := 71) hx hb dX3_nextFate_48 (by decide) (fun c_12 => ?_) (fun c_12 => ?_)
    · have hw := hw.1 c_12
      refine lv_iload_n hx hb dX3_nextFate_71 rfl (lv_at hl 2 rfl) ?_
      exact g_iret hx hb hr hlocks hw hG (by decide) (by decide) dX3_nextFate_72
    · have hw := hw.2 c_12
      refine lv_aload_n hx hb dX3_nextFate_51 rfl (lv_at hl 0 rfl) ?_
      refine g_get (own := RX3) (C := RX3) (T := TX3) (N := 19) (ci := 3) hx hb hq hin_X3 hown hK hG (k := 4) (gok_lo (by decide)) (gc_M) rfl 7 (by decide) (hq _ q_420) rfl (v := .ref (ad 9)) rfl dX3_nextFate_52 ?_
      refine lv_iload_n hx hb dX3_nextFate_55 rfl (lv_at hl 3 rfl) ?_
      refine lv_aload_n hx hb dX3_nextFate_56 rfl (lv_at hl 0 rfl) ?_
      refine g_get (own := RX3) (C := RX3) (T := TX3) (N := 19) (ci := 3) hx hb hq hin_X3 hown hK hG (k := 4) (gok_lo (by decide)) (gc_M) rfl 7 (by decide) (hq _ q_420) rfl (v := .ref (ad 9)) rfl dX3_nextFate_57 ?_
      refine lv_iload_n hx hb dX3_nextFate_60 rfl (lv_at hl 3 rfl) ?_
      refine lv_iconst (v := 1) hx hb dX3_nextFate_61 (by decide) ?_
      refine lv_iadd hx hb dX3_nextFate_62 ?_
      refine lv_topi (fun i_13 ei_13 => ?_)
      have hw := hw i_13 ei_13
      obtain ⟨hi_14, hw⟩ := hw
      refine g_iald hx hb hK hG (k := 9) (gok_lo (by decide)) (gc_9) hi_14 dX3_nextFate_63 ?_
      refine lv_topi (fun x_15 ex_15 => ?_)
      have hw := hw x_15 ex_15
      obtain ⟨hi_16, hw⟩ := hw
      refine g_iast hx hb hK hG (k := 9) (gok_lo (by decide)) (fun g => gc_9) (x := x_15) hi_16 (gho_lo (by decide)) dX3_nextFate_64 (fun H locs hG => ?_)
      obtain ⟨g_17, eg_17⟩ : ∃ z, z = gi g 9 x3.toNatClampNeg x_15 := ⟨_, rfl⟩
      rw [← eg_17] at hG
      have hw := hw g_17 eg_17
      obtain ⟨x_18, ex_18⟩ : ∃ y : Int32, y = x3 + 1 := ⟨_, rfl⟩
      have hw := hw x_18 ex_18
      refine lv_iinc (v := x_18) (lv' := [(3, .int x_18), (0, .ref (ad 4)), (1, .int x1), (2, .int x2)]) hx hb dX3_nextFate_65 hl (k := 3) rfl (by rw [ex_18]; rfl) (by decide) rfl (fun ls hl => ?_)
      refine lv_goto (tgt := 36) hx hb dX3_nextFate_68 (by decide) ?_
      exact ih x1 x2 x_18 g_17 hw _ _ _ hG (lv_sub hl [1, 2, 3, 0] rfl)
def wp_X3_nextFate (post : Int32 → gS → Prop) (p1 : Int32) (g : gS) : Prop := vp_in p1 24 ∧ (((¬ (g.1 8 p1.toNatClampNeg) = 0) → (∀ i_3 : Int32, i_3 = 64 * p1 → (vp_in i_3 1536 ∧ (∀ x_5 : Int32, x_5 = g.1 9 i_3.toNatClampNeg → (vp_in p1 24 ∧ (∀ x_7 : Int32, x_7 = (g.1 8 p1.toNatClampNeg) - 1 → (vp_in p1 24 ∧ (∀ g_9 : gS, g_9 = gi g 8 p1.toNatClampNeg x_7 → (∀ x_10 : Int32, x_10 = 64 * p1 → (∃ n, wpl_X3_nextFate_36 post n p1 x_5 x_10 g_9)))))))))) ∧ (((g.1 8 p1.toNatClampNeg) = 0) → (post 0 g)))
set_option maxHeartbeats 4000000 in
set_option maxRecDepth 100000 in
theorem m_X3_nextFate {l : Launch} (hl9 : l.stackTraces = false) (D : va_G) (K : Nat → ClassId) (sa ad : Nat → Nat) (sz : Nat) (post : Int32 → gS → Prop) (p1 : Int32) (g : gS) (hw : wp_X3_nextFate post p1 g) : Met l yX3_nextFate wsX3_nextFate ({ frames := 0, cells := 0, slots := 0, locals := 0 } : Room) (gPc D K sa ad sz g [.ref (ad 4), .int p1]) (va_Qi post (gB D K ad (va_A (gw K ad g) sz)) (va_A (gw K ad g) sz)) 0 0 (va_A (gw K ad g) sz) := by
  refine Met.ofW (cc := cX3_nextFate) (maxL := 4) (ret := (some .int)) (by decide) rfl ?_
  intro p e s m args below meth c s₁ B hml hv
  obtain ⟨rfl, hsz, hP, hE, hD0⟩ := hv
  have hx := B.exec
  have hb := B.bytes
  have hr := B.returns
  have hts := atoms_spec (ws := wsX3_nextFate) B.pre
  have hq : ∀ w ∈ gW, w.before _ s = true := fun w h => hts w (List.mem_cons_of_mem _ h)
  have hown : s.vm.findClass RX3 = some m.cls := findClass_of_methodNamed B.named
  have hlocks := B.notSynchronized
  subst hsz
  have hD := hD0.self (sz := s.heap.size)
  generalize hAe : va_A (gw K ad g) s.heap.size = A at hD hE ⊢
  have hA : ∀ q : Nat, s.heap.size ≤ q → A q := fun q h => by rw [← hAe]; exact Or.inr h
  have hK := hE.1
  have hG : gX D K ad A s.heap g s.heap [] := ⟨hP, hD, va_S.rf⟩
  have hl := lv_entry ([.ref (ad 4), .int p1]) (n := 4) (Nat.le_of_ble_eq_true rfl)
  rw [lg_entry_eq]
  generalize (lg_sl ([.ref (ad 4), .int p1]) ++ List.replicate (4 - (lg_sl ([.ref (ad 4), .int p1])).length) Slot.unset).toArray = ls at hl ⊢
  have hl : lv_has ls 4 [(0, .ref (ad 4)), (1, .int p1)] := hl
  dsimp only [wp_X3_nextFate] at hw
  refine lv_aload_n hx hb dX3_nextFate_0 rfl (lv_at hl 0 rfl) ?_
  refine g_get (own := RX3) (C := RX3) (T := TX3) (N := 19) (ci := 3) hx hb hq hin_X3 hown hK hG (k := 4) (gok_lo (by decide)) (gc_M) rfl 6 (by decide) (hq _ q_419) rfl (v := .ref (ad 8)) rfl dX3_nextFate_1 ?_
  refine lv_iload_n hx hb dX3_nextFate_4 rfl (lv_at hl 1 rfl) ?_
  obtain ⟨hi_1, hw⟩ := hw
  refine g_iald hx hb hK hG (k := 8) (gok_lo (by decide)) (gc_8) hi_1 dX3_nextFate_5 ?_
  refine lv_if_ne (tgt := 11) hx hb dX3_nextFate_6 (by decide) (fun c_2 => ?_) (fun c_2 => ?_)
  · have hw := hw.1 c_2
    refine lv_aload_n hx hb dX3_nextFate_11 rfl (lv_at hl 0 rfl) ?_
    refine g_get (own := RX3) (C := RX3) (T := TX3) (N := 19) (ci := 3) hx hb hq hin_X3 hown hK hG (k := 4) (gok_lo (by decide)) (gc_M) rfl 7 (by decide) (hq _ q_420) rfl (v := .ref (ad 9)) rfl dX3_nextFate_12 ?_
    refine lv_bipush (v := 64) hx hb dX3_nextFate_15 (by decide) ?_
    refine lv_iload_n hx hb dX3_nextFate_17 rfl (lv_at hl 1 rfl) ?_
    refine lv_imul hx hb dX3_nextFate_18 ?_
    refine lv_topi (fun i_3 ei_3 => ?_)
    have hw := hw i_3 ei_3
    obtain ⟨hi_4, hw⟩ := hw
    refine g_iald hx hb hK hG (k := 9) (gok_lo (by decide)) (gc_9) hi_4 dX3_nextFate_19 ?_
    refine lv_topi (fun x_5 ex_5 => ?_)
    have hw := hw x_5 ex_5
    refine lv_istore_n (lv' := [(2, .int x_5), (0, .ref (ad 4)), (1, .int p1)]) hx hb dX3_nextFate_20 rfl hl (by decide) rfl (fun ls hl => ?_)
    refine lv_aload_n hx hb dX3_nextFate_21 rfl (lv_at hl 1 rfl) ?_
    refine g_get (own := RX3) (C := RX3) (T := TX3) (N := 19) (ci := 3) hx hb hq hin_X3 hown hK hG (k := 4) (gok_lo (by decide)) (gc_M) rfl 6 (by decide) (hq _ q_419) rfl (v := .ref (ad 8)) rfl dX3_nextFate_22 ?_
    refine lv_iload_n hx hb dX3_nextFate_25 rfl (lv_at hl 2 rfl) ?_
    refine lv_dup2_11 hx hb dX3_nextFate_26 rfl rfl ?_
    obtain ⟨hi_6, hw⟩ := hw
    refine g_iald hx hb hK hG (k := 8) (gok_lo (by decide)) (gc_8) hi_6 dX3_nextFate_27 ?_
    refine lv_iconst (v := 1) hx hb dX3_nextFate_28 (by decide) ?_
    refine lv_isub hx hb dX3_nextFate_29 ?_
    refine lv_topi (fun x_7 ex_7 => ?_)
    have hw := hw x_7 ex_7
    obtain ⟨hi_8, hw⟩ := hw
    refine g_iast hx hb hK hG (k := 8) (gok_lo (by decide)) (fun g => gc_8) (x := x_7) hi_8 (gho_lo (by decide)) dX3_nextFate_30 (fun H locs hG => ?_)
    obtain ⟨g_9, eg_9⟩ : ∃ z, z = gi g 8 p1.toNatClampNeg x_7 := ⟨_, rfl⟩
    rw [← eg_9] at hG
    have hw := hw g_9 eg_9
    refine lv_bipush (v := 64) hx hb dX3_nextFate_31 (by decide) ?_
    refine lv_iload_n hx hb dX3_nextFate_33 rfl (lv_at hl 2 rfl) ?_
    refine lv_imul hx hb dX3_nextFate_34 ?_
    refine lv_topi (fun x_10 ex_10 => ?_)
    have hw := hw x_10 ex_10
    refine lv_istore_n (lv' := [(3, .int x_10), (2, .int x_5), (0, .ref (ad 4)), (1, .int p1)]) hx hb dX3_nextFate_35 rfl hl (by decide) rfl (fun ls hl => ?_)
    obtain ⟨n_19, hw⟩ := hw
    exact L_X3_nextFate_36 post hl9 hx hb hr hml hown hts hlocks hA hE n_19 p1 x_5 x_10 g_9 hw _ _ _ hG (lv_sub hl [2, 3, 1, 0] rfl)
  · have hw := hw.2 c_2
    refine lv_iconst (v := 0) hx hb dX3_nextFate_9 (by decide) ?_
    exact g_iret hx hb hr hlocks hw hG (by decide) (by decide) dX3_nextFate_10

def wp_X3_due (post : Int32 → gS → Prop) (p1 : Int32) (g : gS) : Prop := vp_in p1 512 ∧ (∀ i_2 : Int32, i_2 = (8 * (g.1 12 p1.toNatClampNeg)) + 7 → (vp_in i_2 4096 ∧ (post (g.1 14 i_2.toNatClampNeg) g)))
set_option maxHeartbeats 4000000 in
set_option maxRecDepth 100000 in
theorem m_X3_due {l : Launch} (hl9 : l.stackTraces = false) (D : va_G) (K : Nat → ClassId) (sa ad : Nat → Nat) (sz : Nat) (post : Int32 → gS → Prop) (p1 : Int32) (g : gS) (hw : wp_X3_due post p1 g) : Met l yX3_due wsX3_due ({ frames := 0, cells := 0, slots := 0, locals := 0 } : Room) (gPc D K sa ad sz g [.ref (ad 4), .int p1]) (va_Qi post (gB D K ad (va_A (gw K ad g) sz)) (va_A (gw K ad g) sz)) 0 0 (va_A (gw K ad g) sz) := by
  refine Met.ofW (cc := cX3_due) (maxL := 2) (ret := (some .int)) (by decide) rfl ?_
  intro p e s m args below meth c s₁ B hml hv
  obtain ⟨rfl, hsz, hP, hE, hD0⟩ := hv
  have hx := B.exec
  have hb := B.bytes
  have hr := B.returns
  have hts := atoms_spec (ws := wsX3_due) B.pre
  have hq : ∀ w ∈ gW, w.before _ s = true := fun w h => hts w (List.mem_cons_of_mem _ h)
  have hown : s.vm.findClass RX3 = some m.cls := findClass_of_methodNamed B.named
  have hlocks := B.notSynchronized
  subst hsz
  have hD := hD0.self (sz := s.heap.size)
  generalize hAe : va_A (gw K ad g) s.heap.size = A at hD hE ⊢
  have hA : ∀ q : Nat, s.heap.size ≤ q → A q := fun q h => by rw [← hAe]; exact Or.inr h
  have hK := hE.1
  have hG : gX D K ad A s.heap g s.heap [] := ⟨hP, hD, va_S.rf⟩
  have hl := lv_entry ([.ref (ad 4), .int p1]) (n := 2) (Nat.le_of_ble_eq_true rfl)
  rw [lg_entry_eq]
  generalize (lg_sl ([.ref (ad 4), .int p1]) ++ List.replicate (2 - (lg_sl ([.ref (ad 4), .int p1])).length) Slot.unset).toArray = ls at hl ⊢
  have hl : lv_has ls 2 [(0, .ref (ad 4)), (1, .int p1)] := hl
  dsimp only [wp_X3_due] at hw
  refine lv_aload_n hx hb dX3_due_0 rfl (lv_at hl 0 rfl) ?_
  refine g_get (own := RX3) (C := RX3) (T := TX3) (N := 19) (ci := 3) hx hb hq hin_X3 hown hK hG (k := 4) (gok_lo (by decide)) (gc_M) rfl 14 (by decide) (hq _ q_427) rfl (v := .ref (ad 14)) rfl dX3_due_1 ?_
  refine lv_bipush (v := 8) hx hb dX3_due_4 (by decide) ?_
  refine lv_aload_n hx hb dX3_due_6 rfl (lv_at hl 0 rfl) ?_
  refine g_get (own := RX3) (C := RX3) (T := TX3) (N := 19) (ci := 3) hx hb hq hin_X3 hown hK hG (k := 4) (gok_lo (by decide)) (gc_M) rfl 12 (by decide) (hq _ q_425) rfl (v := .ref (ad 12)) rfl dX3_due_7 ?_
  refine lv_iload_n hx hb dX3_due_10 rfl (lv_at hl 1 rfl) ?_
  obtain ⟨hi_1, hw⟩ := hw
  refine g_iald hx hb hK hG (k := 12) (gok_lo (by decide)) (gc_12) hi_1 dX3_due_11 ?_
  refine lv_imul hx hb dX3_due_12 ?_
  refine lv_bipush (v := 7) hx hb dX3_due_13 (by decide) ?_
  refine lv_iadd hx hb dX3_due_15 ?_
  refine lv_topi (fun i_2 ei_2 => ?_)
  have hw := hw i_2 ei_2
  obtain ⟨hi_3, hw⟩ := hw
  refine g_iald hx hb hK hG (k := 14) (gok_lo (by decide)) (gc_14) hi_3 dX3_due_16 ?_
  exact g_iret hx hb hr hlocks hw hG (by decide) (by decide) dX3_due_17

def wpl_X3_pass_58 (post : Int32 → gS → Prop) : Nat → Int32 → Int32 → Int32 → gS → Prop
  | 0 => fun _ _ _ _ => False
  | n + 1 => fun x1 x2 x3 g => (((g.1 4 4) ≤ x3) → (post x2 g)) ∧ ((¬ (g.1 4 4) ≤ x3) → (wp_X3_due (fun r_8 g_7 => ((((g_7.1 4 1) < r_8) → (∀ x_10 : Int32, x_10 = x2 + 0 → (∀ x_11 : Int32, x_11 = x3 + 1 → (wpl_X3_pass_58 post n x1 x_10 x_11 g_7)))) ∧ ((¬ (g_7.1 4 1) < r_8) → (∀ x_12 : Int32, x_12 = x2 + 1 → (∀ x_13 : Int32, x_13 = x3 + 1 → (wpl_X3_pass_58 post n x1 x_12 x_13 g_7)))))) x3 g))
set_option maxHeartbeats 4000000 in
set_option maxRecDepth 100000 in
theorem L_X3_pass_58 {p : Program} {l : Launch} {e : Env} {s : State} {m : MethodId} {args : Array Value} {below : List Frame} {meth : Method} {c : Code} {D : va_G} {K : Nat → ClassId} {sa ad : Nat → Nat} {A : Nat → Prop} (post : Int32 → gS → Prop) (hl9 : l.stackTraces = false) (hx : p.tables.exec = Jvm.exec) (hb : c.code = cX3_pass) (hr : meth.sig.returnType = (some .int)) (hml : c.maxLocals = 4) (hown : s.vm.findClass RX3 = some m.cls) (hts : ∀ w ∈ wsX3_pass, w.before args s = true) (hlocks : meth.locks = false) (hA : ∀ q, s.heap.size ≤ q → A q) (hE : gE D K sa A s s.heap) : ∀ (n : Nat) (x1 : Int32) (x2 : Int32) (x3 : Int32) (g : gS), wpl_X3_pass_58 post n x1 x2 x3 g → ∀ (H : Heap) (locs : List Loc) (ls : Array Slot), gX D K ad A s.heap g H locs → lv_has ls 4 [(0, .ref (ad 4)), (1, .int x1), (2, .int x2), (3, .int x3)] → W p l e ({ frames := 1, cells := 0, slots := 0, locals := 21 } : Room) s m args below meth c H locs 0 0 (MQ below (va_Qi post (gB D K ad A) A) args s 0 0 A) (F0 m 58 ls []) := by
  have hK := hE.1
  have hq : ∀ w ∈ gW, w.before args s = true := fun w h => hts w (List.mem_cons_of_mem _ h)
  intro n
  induction n with
  | zero =>
    intro x1 x2 x3 g hw
    exact hw.elim
  | succ n ih =>
    intro x1 x2 x3 g hw H locs ls hG hl
    dsimp only [wpl_X3_pass_58] at hw
    refine lv_iload_n hx hb dX3_pass_58 rfl (lv_at hl 3 rfl) ?_
    refine lv_aload_n hx hb dX3_pass_59 rfl (lv_at hl 0 rfl) ?_
    refine g_get (own := RX3) (C := RX3) (T := TX3) (N := 19) (ci := 3) hx hb hq hin_X3 hown hK hG (k := 4) (gok_lo (by decide)) (gc_M) rfl 11 (by decide) (hq _ q_424) rfl (v := .int (g.1 4 4)) rfl dX3_pass_60 ?_
    refine lv_icmp_ge (tgt := 92) hx hb dX3_pass_63 (by decide) (fun c_6 => ?_) (fun c_6 => ?_)
    · have hw := hw.1 c_6
      refine lv_iload_n hx hb dX3_pass_92 rfl (lv_at hl 2 rfl) ?_
      exact g_iret hx hb hr hlocks hw hG (by decide) (by decide) dX3_pass_93
    · have hw := hw.2 c_6
      refine lv_iload_n hx hb dX3_pass_66 rfl (lv_at hl 2 rfl) ?_
      refine lv_aload_n hx hb dX3_pass_67 rfl (lv_at hl 0 rfl) ?_
      refine lv_iload_n hx hb dX3_pass_68 rfl (lv_at hl 3 rfl) ?_
      refine g_calli (va_runV (As := [.int x3]) (rest := [.int x2]) ⟨hx, hb, hml, hown, hts⟩ (m_X3_due hl9 D K sa ad _ _ x3 g hw) (cwV 1 hts (gGood gCons (gV q_526 q_528 q_18 q_23 q_529)) rfl rfl rfl (by decide +kernel) ⟨Nat.le_of_ble_eq_true rfl, Nat.le_of_ble_eq_true rfl⟩) ⟨gPc_blind, g_recv hK hG (gok_lo (by decide)) (gc_M) rfl, gPc_at hE hG hA⟩ rfl rfl hl.1 rfl (lv_room (Nat.le_of_ble_eq_true rfl)) dX3_pass_69 ⟨Nat.le_of_ble_eq_true rfl, Nat.le_of_ble_eq_true rfl⟩) hG hA (fun r_8 g_7 H locs hw hG => ?_)
      try dsimp only at hw
      refine lv_aload_n hx hb dX3_pass_72 rfl (lv_at hl 0 rfl) ?_
      refine g_get (own := RX3) (C := RX3) (T := TX3) (N := 19) (ci := 3) hx hb hq hin_X3 hown hK hG (k := 4) (gok_lo (by decide)) (gc_M) rfl 1 (by decide) (hq _ q_414) rfl (v := .int (g_7.1 4 1)) rfl dX3_pass_73 ?_
      refine lv_icmp_gt (tgt := 83) hx hb dX3_pass_76 (by decide) (fun c_9 => ?_) (fun c_9 => ?_)
      · have hw := hw.1 c_9
        refine lv_iconst (v := 0) hx hb dX3_pass_83 (by decide) ?_
        refine lv_iadd hx hb dX3_pass_84 ?_
        refine lv_topi (fun x_10 ex_10 => ?_)
        have hw := hw x_10 ex_10
        refine lv_istore_n (lv' := [(2, .int x_10), (0, .ref (ad 4)), (1, .int x1), (3, .int x3)]) hx hb dX3_pass_85 rfl hl (by decide) rfl (fun ls hl => ?_)
        obtain ⟨x_11, ex_11⟩ : ∃ y : Int32, y = x3 + 1 := ⟨_, rfl⟩
        have hw := hw x_11 ex_11
        refine lv_iinc (v := x_11) (lv' := [(3, .int x_11), (2, .int x_10), (0, .ref (ad 4)), (1, .int x1)]) hx hb dX3_pass_86 hl (k := 3) rfl (by rw [ex_11]; rfl) (by decide) rfl (fun ls hl => ?_)
        refine lv_goto (tgt := 58) hx hb dX3_pass_89 (by decide) ?_
        exact ih x1 x_10 x_11 g_7 hw _ _ _ hG (lv_sub hl [2, 3, 1, 0] rfl)
      · have hw := hw.2 c_9
        refine lv_iconst (v := 1) hx hb dX3_pass_79 (by decide) ?_
        refine lv_goto (tgt := 84) hx hb dX3_pass_80 (by decide) ?_
        refine lv_iadd hx hb dX3_pass_84 ?_
        refine lv_topi (fun x_12 ex_12 => ?_)
        have hw := hw x_12 ex_12
        refine lv_istore_n (lv' := [(2, .int x_12), (0, .ref (ad 4)), (1, .int x1), (3, .int x3)]) hx hb dX3_pass_85 rfl hl (by decide) rfl (fun ls hl => ?_)
        obtain ⟨x_13, ex_13⟩ : ∃ y : Int32, y = x3 + 1 := ⟨_, rfl⟩
        have hw := hw x_13 ex_13
        refine lv_iinc (v := x_13) (lv' := [(3, .int x_13), (2, .int x_12), (0, .ref (ad 4)), (1, .int x1)]) hx hb dX3_pass_86 hl (k := 3) rfl (by rw [ex_13]; rfl) (by decide) rfl (fun ls hl => ?_)
        refine lv_goto (tgt := 58) hx hb dX3_pass_89 (by decide) ?_
        exact ih x1 x_12 x_13 g_7 hw _ _ _ hG (lv_sub hl [2, 3, 1, 0] rfl)
def wp_X3_pass (post : Int32 → gS → Prop) (p1 : Int32) (g : gS) : Prop := ((p1 < 0) → (∀ g_2 : gS, g_2 = gi g 4 0 (1 : Int32) → ((((g_2.1 4 0) ≤ 0) → (∀ x_4 : Int32, x_4 = (g_2.1 4 1) + p1 → (∀ g_5 : gS, g_5 = gi g_2 4 1 x_4 → (∃ n, wpl_X3_pass_58 post n p1 0 0 g_5)))) ∧ ((¬ (g_2.1 4 0) ≤ 0) → (post 0 g_2))))) ∧ ((¬ p1 < 0) → (((p1 ≤ 1000) → (((((g.1 4 1) + p1) ≤ 1000000) → (∀ g_17 : gS, g_17 = gi g 4 0 (0 : Int32) → ((((g_17.1 4 0) ≤ 0) → (∀ x_19 : Int32, x_19 = (g_17.1 4 1) + p1 → (∀ g_20 : gS, g_20 = gi g_17 4 1 x_19 → (∃ n, wpl_X3_pass_58 post n p1 0 0 g_20)))) ∧ ((¬ (g_17.1 4 0) ≤ 0) → (post 0 g_17))))) ∧ ((¬ ((g.1 4 1) + p1) ≤ 1000000) → (∀ g_22 : gS, g_22 = gi g 4 0 (2 : Int32) → ((((g_22.1 4 0) ≤ 0) → (∀ x_24 : Int32, x_24 = (g_22.1 4 1) + p1 → (∀ g_25 : gS, g_25 = gi g_22 4 1 x_24 → (∃ n, wpl_X3_pass_58 post n p1 0 0 g_25)))) ∧ ((¬ (g_22.1 4 0) ≤ 0) → (post 0 g_22))))))) ∧ ((¬ p1 ≤ 1000) → (∀ g_27 : gS, g_27 = gi g 4 0 (1 : Int32) → ((((g_27.1 4 0) ≤ 0) → (∀ x_29 : Int32, x_29 = (g_27.1 4 1) + p1 → (∀ g_30 : gS, g_30 = gi g_27 4 1 x_29 → (∃ n, wpl_X3_pass_58 post n p1 0 0 g_30)))) ∧ ((¬ (g_27.1 4 0) ≤ 0) → (post 0 g_27)))))))
set_option maxHeartbeats 4000000 in
set_option maxRecDepth 100000 in
theorem m_X3_pass {l : Launch} (hl9 : l.stackTraces = false) (D : va_G) (K : Nat → ClassId) (sa ad : Nat → Nat) (sz : Nat) (post : Int32 → gS → Prop) (p1 : Int32) (g : gS) (hw : wp_X3_pass post p1 g) : Met l yX3_pass wsX3_pass ({ frames := 1, cells := 0, slots := 0, locals := 21 } : Room) (gPc D K sa ad sz g [.ref (ad 4), .int p1]) (va_Qi post (gB D K ad (va_A (gw K ad g) sz)) (va_A (gw K ad g) sz)) 0 0 (va_A (gw K ad g) sz) := by
  refine Met.ofW (cc := cX3_pass) (maxL := 4) (ret := (some .int)) (by decide) rfl ?_
  intro p e s m args below meth c s₁ B hml hv
  obtain ⟨rfl, hsz, hP, hE, hD0⟩ := hv
  have hx := B.exec
  have hb := B.bytes
  have hr := B.returns
  have hts := atoms_spec (ws := wsX3_pass) B.pre
  have hq : ∀ w ∈ gW, w.before _ s = true := fun w h => hts w (List.mem_cons_of_mem _ h)
  have hown : s.vm.findClass RX3 = some m.cls := findClass_of_methodNamed B.named
  have hlocks := B.notSynchronized
  subst hsz
  have hD := hD0.self (sz := s.heap.size)
  generalize hAe : va_A (gw K ad g) s.heap.size = A at hD hE ⊢
  have hA : ∀ q : Nat, s.heap.size ≤ q → A q := fun q h => by rw [← hAe]; exact Or.inr h
  have hK := hE.1
  have hG : gX D K ad A s.heap g s.heap [] := ⟨hP, hD, va_S.rf⟩
  have hl := lv_entry ([.ref (ad 4), .int p1]) (n := 4) (Nat.le_of_ble_eq_true rfl)
  rw [lg_entry_eq]
  generalize (lg_sl ([.ref (ad 4), .int p1]) ++ List.replicate (4 - (lg_sl ([.ref (ad 4), .int p1])).length) Slot.unset).toArray = ls at hl ⊢
  have hl : lv_has ls 4 [(0, .ref (ad 4)), (1, .int p1)] := hl
  dsimp only [wp_X3_pass] at hw
  refine lv_aload_n hx hb dX3_pass_0 rfl (lv_at hl 0 rfl) ?_
  refine lv_iload_n hx hb dX3_pass_1 rfl (lv_at hl 1 rfl) ?_
  refine lv_if_lt (tgt := 12) hx hb dX3_pass_2 (by decide) (fun c_1 => ?_) (fun c_1 => ?_)
  · have hw := hw.1 c_1
    refine lv_iconst (v := 1) hx hb dX3_pass_12 (by decide) ?_
    refine lv_goto (tgt := 32) hx hb dX3_pass_13 (by decide) ?_
    refine g_put (own := RX3) (C := RX3) (T := TX3) (N := 19) (ci := 3) hx hb hq hin_X3 tyX3 tyX3_ok nmX3 hown hK hG (k := 4) (gok_lo (by decide)) (gc_M) rfl 0 (by decide) (hq _ q_413) rfl rfl (ty := .int) (v := .int 1) (by decide +kernel) rfl rfl (Nat.le_of_ble_eq_true rfl) (gi g 4 0 (1 : Int32)) (gs_M0) (gho_lo (by decide)) dX3_pass_32 (fun H locs hG => ?_)
    obtain ⟨g_2, eg_2⟩ : ∃ z, z = gi g 4 0 (1 : Int32) := ⟨_, rfl⟩
    rw [← eg_2] at hG
    have hw := hw g_2 eg_2
    refine lv_aload_n hx hb dX3_pass_35 rfl (lv_at hl 0 rfl) ?_
    refine g_get (own := RX3) (C := RX3) (T := TX3) (N := 19) (ci := 3) hx hb hq hin_X3 hown hK hG (k := 4) (gok_lo (by decide)) (gc_M) rfl 0 (by decide) (hq _ q_413) rfl (v := .int (g_2.1 4 0)) rfl dX3_pass_36 ?_
    refine lv_if_le (tgt := 44) hx hb dX3_pass_39 (by decide) (fun c_3 => ?_) (fun c_3 => ?_)
    · have hw := hw.1 c_3
      refine lv_aload_n hx hb dX3_pass_44 rfl (lv_at hl 0 rfl) ?_
      refine lv_dup hx hb dX3_pass_45 rfl ?_
      refine g_get (own := RX3) (C := RX3) (T := TX3) (N := 19) (ci := 3) hx hb hq hin_X3 hown hK hG (k := 4) (gok_lo (by decide)) (gc_M) rfl 1 (by decide) (hq _ q_414) rfl (v := .int (g_2.1 4 1)) rfl dX3_pass_46 ?_
      refine lv_iload_n hx hb dX3_pass_49 rfl (lv_at hl 1 rfl) ?_
      refine lv_iadd hx hb dX3_pass_50 ?_
      refine lv_topi (fun x_4 ex_4 => ?_)
      have hw := hw x_4 ex_4
      refine g_put (own := RX3) (C := RX3) (T := TX3) (N := 19) (ci := 3) hx hb hq hin_X3 tyX3 tyX3_ok nmX3 hown hK hG (k := 4) (gok_lo (by decide)) (gc_M) rfl 1 (by decide) (hq _ q_414) rfl rfl (ty := .int) (v := .int x_4) (by decide +kernel) rfl rfl (Nat.le_of_ble_eq_true rfl) (gi g_2 4 1 x_4) (gs_M1) (gho_lo (by decide)) dX3_pass_51 (fun H locs hG => ?_)
      obtain ⟨g_5, eg_5⟩ : ∃ z, z = gi g_2 4 1 x_4 := ⟨_, rfl⟩
      rw [← eg_5] at hG
      have hw := hw g_5 eg_5
      refine lv_iconst (v := 0) hx hb dX3_pass_54 (by decide) ?_
      refine lv_istore_n (lv' := [(2, .int 0), (0, .ref (ad 4)), (1, .int p1)]) hx hb dX3_pass_55 rfl hl (by decide) rfl (fun ls hl => ?_)
      refine lv_iconst (v := 0) hx hb dX3_pass_56 (by decide) ?_
      refine lv_istore_n (lv' := [(3, .int 0), (2, .int 0), (0, .ref (ad 4)), (1, .int p1)]) hx hb dX3_pass_57 rfl hl (by decide) rfl (fun ls hl => ?_)
      obtain ⟨n_14, hw⟩ := hw
      exact L_X3_pass_58 post hl9 hx hb hr hml hown hts hlocks hA hE n_14 p1 0 0 g_5 hw _ _ _ hG (lv_sub hl [2, 3, 1, 0] rfl)
    · have hw := hw.2 c_3
      refine lv_iconst (v := 0) hx hb dX3_pass_42 (by decide) ?_
      exact g_iret hx hb hr hlocks hw hG (by decide) (by decide) dX3_pass_43
  · have hw := hw.2 c_1
    refine lv_iload_n hx hb dX3_pass_5 rfl (lv_at hl 1 rfl) ?_
    refine lv_sipush (v := 1000) hx hb dX3_pass_6 (by decide) ?_
    refine lv_icmp_le (tgt := 16) hx hb dX3_pass_9 (by decide) (fun c_15 => ?_) (fun c_15 => ?_)
    · have hw := hw.1 c_15
      refine lv_aload_n hx hb dX3_pass_16 rfl (lv_at hl 0 rfl) ?_
      refine g_get (own := RX3) (C := RX3) (T := TX3) (N := 19) (ci := 3) hx hb hq hin_X3 hown hK hG (k := 4) (gok_lo (by decide)) (gc_M) rfl 1 (by decide) (hq _ q_414) rfl (v := .int (g.1 4 1)) rfl dX3_pass_17 ?_
      refine lv_iload_n hx hb dX3_pass_20 rfl (lv_at hl 1 rfl) ?_
      refine lv_iadd hx hb dX3_pass_21 ?_
      refine lv_ldc (own := RX3) (v := 1000000) hx hb hown (hq _ q_525) dX3_pass_22 ?_
      refine lv_icmp_le (tgt := 31) hx hb dX3_pass_24 (by decide) (fun c_16 => ?_) (fun c_16 => ?_)
      · have hw := hw.1 c_16
        refine lv_iconst (v := 0) hx hb dX3_pass_31 (by decide) ?_
        refine g_put (own := RX3) (C := RX3) (T := TX3) (N := 19) (ci := 3) hx hb hq hin_X3 tyX3 tyX3_ok nmX3 hown hK hG (k := 4) (gok_lo (by decide)) (gc_M) rfl 0 (by decide) (hq _ q_413) rfl rfl (ty := .int) (v := .int 0) (by decide +kernel) rfl rfl (Nat.le_of_ble_eq_true rfl) (gi g 4 0 (0 : Int32)) (gs_M0) (gho_lo (by decide)) dX3_pass_32 (fun H locs hG => ?_)
        obtain ⟨g_17, eg_17⟩ : ∃ z, z = gi g 4 0 (0 : Int32) := ⟨_, rfl⟩
        rw [← eg_17] at hG
        have hw := hw g_17 eg_17
        refine lv_aload_n hx hb dX3_pass_35 rfl (lv_at hl 0 rfl) ?_
        refine g_get (own := RX3) (C := RX3) (T := TX3) (N := 19) (ci := 3) hx hb hq hin_X3 hown hK hG (k := 4) (gok_lo (by decide)) (gc_M) rfl 0 (by decide) (hq _ q_413) rfl (v := .int (g_17.1 4 0)) rfl dX3_pass_36 ?_
        refine lv_if_le (tgt := 44) hx hb dX3_pass_39 (by decide) (fun c_18 => ?_) (fun c_18 => ?_)
        · have hw := hw.1 c_18
          refine lv_aload_n hx hb dX3_pass_44 rfl (lv_at hl 0 rfl) ?_
          refine lv_dup hx hb dX3_pass_45 rfl ?_
          refine g_get (own := RX3) (C := RX3) (T := TX3) (N := 19) (ci := 3) hx hb hq hin_X3 hown hK hG (k := 4) (gok_lo (by decide)) (gc_M) rfl 1 (by decide) (hq _ q_414) rfl (v := .int (g_17.1 4 1)) rfl dX3_pass_46 ?_
          refine lv_iload_n hx hb dX3_pass_49 rfl (lv_at hl 1 rfl) ?_
          refine lv_iadd hx hb dX3_pass_50 ?_
          refine lv_topi (fun x_19 ex_19 => ?_)
          have hw := hw x_19 ex_19
          refine g_put (own := RX3) (C := RX3) (T := TX3) (N := 19) (ci := 3) hx hb hq hin_X3 tyX3 tyX3_ok nmX3 hown hK hG (k := 4) (gok_lo (by decide)) (gc_M) rfl 1 (by decide) (hq _ q_414) rfl rfl (ty := .int) (v := .int x_19) (by decide +kernel) rfl rfl (Nat.le_of_ble_eq_true rfl) (gi g_17 4 1 x_19) (gs_M1) (gho_lo (by decide)) dX3_pass_51 (fun H locs hG => ?_)
          obtain ⟨g_20, eg_20⟩ : ∃ z, z = gi g_17 4 1 x_19 := ⟨_, rfl⟩
          rw [← eg_20] at hG
          have hw := hw g_20 eg_20
          refine lv_iconst (v := 0) hx hb dX3_pass_54 (by decide) ?_
          refine lv_istore_n (lv' := [(2, .int 0), (0, .ref (ad 4)), (1, .int p1)]) hx hb dX3_pass_55 rfl hl (by decide) rfl (fun ls hl => ?_)
          refine lv_iconst (v := 0) hx hb dX3_pass_56 (by decide) ?_
          refine lv_istore_n (lv' := [(3, .int 0), (2, .int 0), (0, .ref (ad 4)), (1, .int p1)]) hx hb dX3_pass_57 rfl hl (by decide) rfl (fun ls hl => ?_)
          obtain ⟨n_21, hw⟩ := hw
          exact L_X3_pass_58 post hl9 hx hb hr hml hown hts hlocks hA hE n_21 p1 0 0 g_20 hw _ _ _ hG (lv_sub hl [2, 3, 1, 0] rfl)
        · have hw := hw.2 c_18
          refine lv_iconst (v := 0) hx hb dX3_pass_42 (by decide) ?_
          exact g_iret hx hb hr hlocks hw hG (by decide) (by decide) dX3_pass_43
      · have hw := hw.2 c_16
        refine lv_iconst (v := 2) hx hb dX3_pass_27 (by decide) ?_
        refine lv_goto (tgt := 32) hx hb dX3_pass_28 (by decide) ?_
        refine g_put (own := RX3) (C := RX3) (T := TX3) (N := 19) (ci := 3) hx hb hq hin_X3 tyX3 tyX3_ok nmX3 hown hK hG (k := 4) (gok_lo (by decide)) (gc_M) rfl 0 (by decide) (hq _ q_413) rfl rfl (ty := .int) (v := .int 2) (by decide +kernel) rfl rfl (Nat.le_of_ble_eq_true rfl) (gi g 4 0 (2 : Int32)) (gs_M0) (gho_lo (by decide)) dX3_pass_32 (fun H locs hG => ?_)
        obtain ⟨g_22, eg_22⟩ : ∃ z, z = gi g 4 0 (2 : Int32) := ⟨_, rfl⟩
        rw [← eg_22] at hG
        have hw := hw g_22 eg_22
        refine lv_aload_n hx hb dX3_pass_35 rfl (lv_at hl 0 rfl) ?_
        refine g_get (own := RX3) (C := RX3) (T := TX3) (N := 19) (ci := 3) hx hb hq hin_X3 hown hK hG (k := 4) (gok_lo (by decide)) (gc_M) rfl 0 (by decide) (hq _ q_413) rfl (v := .int (g_22.1 4 0)) rfl dX3_pass_36 ?_
        refine lv_if_le (tgt := 44) hx hb dX3_pass_39 (by decide) (fun c_23 => ?_) (fun c_23 => ?_)
        · have hw := hw.1 c_23
          refine lv_aload_n hx hb dX3_pass_44 rfl (lv_at hl 0 rfl) ?_
          refine lv_dup hx hb dX3_pass_45 rfl ?_
          refine g_get (own := RX3) (C := RX3) (T := TX3) (N := 19) (ci := 3) hx hb hq hin_X3 hown hK hG (k := 4) (gok_lo (by decide)) (gc_M) rfl 1 (by decide) (hq _ q_414) rfl (v := .int (g_22.1 4 1)) rfl dX3_pass_46 ?_
          refine lv_iload_n hx hb dX3_pass_49 rfl (lv_at hl 1 rfl) ?_
          refine lv_iadd hx hb dX3_pass_50 ?_
          refine lv_topi (fun x_24 ex_24 => ?_)
          have hw := hw x_24 ex_24
          refine g_put (own := RX3) (C := RX3) (T := TX3) (N := 19) (ci := 3) hx hb hq hin_X3 tyX3 tyX3_ok nmX3 hown hK hG (k := 4) (gok_lo (by decide)) (gc_M) rfl 1 (by decide) (hq _ q_414) rfl rfl (ty := .int) (v := .int x_24) (by decide +kernel) rfl rfl (Nat.le_of_ble_eq_true rfl) (gi g_22 4 1 x_24) (gs_M1) (gho_lo (by decide)) dX3_pass_51 (fun H locs hG => ?_)
          obtain ⟨g_25, eg_25⟩ : ∃ z, z = gi g_22 4 1 x_24 := ⟨_, rfl⟩
          rw [← eg_25] at hG
          have hw := hw g_25 eg_25
          refine lv_iconst (v := 0) hx hb dX3_pass_54 (by decide) ?_
          refine lv_istore_n (lv' := [(2, .int 0), (0, .ref (ad 4)), (1, .int p1)]) hx hb dX3_pass_55 rfl hl (by decide) rfl (fun ls hl => ?_)
          refine lv_iconst (v := 0) hx hb dX3_pass_56 (by decide) ?_
          refine lv_istore_n (lv' := [(3, .int 0), (2, .int 0), (0, .ref (ad 4)), (1, .int p1)]) hx hb dX3_pass_57 rfl hl (by decide) rfl (fun ls hl => ?_)
          obtain ⟨n_26, hw⟩ := hw
          exact L_X3_pass_58 post hl9 hx hb hr hml hown hts hlocks hA hE n_26 p1 0 0 g_25 hw _ _ _ hG (lv_sub hl [2, 3, 1, 0] rfl)
        · have hw := hw.2 c_23
          refine lv_iconst (v := 0) hx hb dX3_pass_42 (by decide) ?_
          exact g_iret hx hb hr hlocks hw hG (by decide) (by decide) dX3_pass_43
    · have hw := hw.2 c_15
      refine lv_iconst (v := 1) hx hb dX3_pass_12 (by decide) ?_
      refine lv_goto (tgt := 32) hx hb dX3_pass_13 (by decide) ?_
      refine g_put (own := RX3) (C := RX3) (T := TX3) (N := 19) (ci := 3) hx hb hq hin_X3 tyX3 tyX3_ok nmX3 hown hK hG (k := 4) (gok_lo (by decide)) (gc_M) rfl 0 (by decide) (hq _ q_413) rfl rfl (ty := .int) (v := .int 1) (by decide +kernel) rfl rfl (Nat.le_of_ble_eq_true rfl) (gi g 4 0 (1 : Int32)) (gs_M0) (gho_lo (by decide)) dX3_pass_32 (fun H locs hG => ?_)
      obtain ⟨g_27, eg_27⟩ : ∃ z, z = gi g 4 0 (1 : Int32) := ⟨_, rfl⟩
      rw [← eg_27] at hG
      have hw := hw g_27 eg_27
      refine lv_aload_n hx hb dX3_pass_35 rfl (lv_at hl 0 rfl) ?_
      refine g_get (own := RX3) (C := RX3) (T := TX3) (N := 19) (ci := 3) hx hb hq hin_X3 hown hK hG (k := 4) (gok_lo (by decide)) (gc_M) rfl 0 (by decide) (hq _ q_413) rfl (v := .int (g_27.1 4 0)) rfl dX3_pass_36 ?_
      refine lv_if_le (tgt := 44) hx hb dX3_pass_39 (by decide) (fun c_28 => ?_) (fun c_28 => ?_)
      · have hw := hw.1 c_28
        refine lv_aload_n hx hb dX3_pass_44 rfl (lv_at hl 0 rfl) ?_
        refine lv_dup hx hb dX3_pass_45 rfl ?_
        refine g_get (own := RX3) (C := RX3) (T := TX3) (N := 19) (ci := 3) hx hb hq hin_X3 hown hK hG (k := 4) (gok_lo (by decide)) (gc_M) rfl 1 (by decide) (hq _ q_414) rfl (v := .int (g_27.1 4 1)) rfl dX3_pass_46 ?_
        refine lv_iload_n hx hb dX3_pass_49 rfl (lv_at hl 1 rfl) ?_
        refine lv_iadd hx hb dX3_pass_50 ?_
        refine lv_topi (fun x_29 ex_29 => ?_)
        have hw := hw x_29 ex_29
        refine g_put (own := RX3) (C := RX3) (T := TX3) (N := 19) (ci := 3) hx hb hq hin_X3 tyX3 tyX3_ok nmX3 hown hK hG (k := 4) (gok_lo (by decide)) (gc_M) rfl 1 (by decide) (hq _ q_414) rfl rfl (ty := .int) (v := .int x_29) (by decide +kernel) rfl rfl (Nat.le_of_ble_eq_true rfl) (gi g_27 4 1 x_29) (gs_M1) (gho_lo (by decide)) dX3_pass_51 (fun H locs hG => ?_)
        obtain ⟨g_30, eg_30⟩ : ∃ z, z = gi g_27 4 1 x_29 := ⟨_, rfl⟩
        rw [← eg_30] at hG
        have hw := hw g_30 eg_30
        refine lv_iconst (v := 0) hx hb dX3_pass_54 (by decide) ?_
        refine lv_istore_n (lv' := [(2, .int 0), (0, .ref (ad 4)), (1, .int p1)]) hx hb dX3_pass_55 rfl hl (by decide) rfl (fun ls hl => ?_)
        refine lv_iconst (v := 0) hx hb dX3_pass_56 (by decide) ?_
        refine lv_istore_n (lv' := [(3, .int 0), (2, .int 0), (0, .ref (ad 4)), (1, .int p1)]) hx hb dX3_pass_57 rfl hl (by decide) rfl (fun ls hl => ?_)
        obtain ⟨n_31, hw⟩ := hw
        exact L_X3_pass_58 post hl9 hx hb hr hml hown hts hlocks hA hE n_31 p1 0 0 g_30 hw _ _ _ hG (lv_sub hl [2, 3, 1, 0] rfl)
      · have hw := hw.2 c_28
        refine lv_iconst (v := 0) hx hb dX3_pass_42 (by decide) ?_
        exact g_iret hx hb hr hlocks hw hG (by decide) (by decide) dX3_pass_43

def wp_X3_arrival (post : Int32 → gS → Prop) (p1 : Int32) (g : gS) : Prop := ((p1 < 0) → (∀ g_2 : gS, g_2 = gi g 4 0 (1 : Int32) → ((((g_2.1 4 0) ≤ 0) → (vp_in p1 7 ∧ (post (g_2.1 15 p1.toNatClampNeg) g_2))) ∧ ((¬ (g_2.1 4 0) ≤ 0) → (post 0 g_2))))) ∧ ((¬ p1 < 0) → (((p1 ≤ 6) → (((¬ (g.1 4 5) = 0) → (∀ g_7 : gS, g_7 = gi g 4 0 (0 : Int32) → ((((g_7.1 4 0) ≤ 0) → (vp_in p1 7 ∧ (post (g_7.1 15 p1.toNatClampNeg) g_7))) ∧ ((¬ (g_7.1 4 0) ≤ 0) → (post 0 g_7))))) ∧ (((g.1 4 5) = 0) → (∀ g_10 : gS, g_10 = gi g 4 0 (2 : Int32) → ((((g_10.1 4 0) ≤ 0) → (vp_in p1 7 ∧ (post (g_10.1 15 p1.toNatClampNeg) g_10))) ∧ ((¬ (g_10.1 4 0) ≤ 0) → (post 0 g_10))))))) ∧ ((¬ p1 ≤ 6) → (∀ g_13 : gS, g_13 = gi g 4 0 (1 : Int32) → ((((g_13.1 4 0) ≤ 0) → (vp_in p1 7 ∧ (post (g_13.1 15 p1.toNatClampNeg) g_13))) ∧ ((¬ (g_13.1 4 0) ≤ 0) → (post 0 g_13)))))))
set_option maxHeartbeats 4000000 in
set_option maxRecDepth 100000 in
theorem m_X3_arrival {l : Launch} (hl9 : l.stackTraces = false) (D : va_G) (K : Nat → ClassId) (sa ad : Nat → Nat) (sz : Nat) (post : Int32 → gS → Prop) (p1 : Int32) (g : gS) (hw : wp_X3_arrival post p1 g) : Met l yX3_arrival wsX3_arrival ({ frames := 0, cells := 0, slots := 0, locals := 0 } : Room) (gPc D K sa ad sz g [.ref (ad 4), .int p1]) (va_Qi post (gB D K ad (va_A (gw K ad g) sz)) (va_A (gw K ad g) sz)) 0 0 (va_A (gw K ad g) sz) := by
  refine Met.ofW (cc := cX3_arrival) (maxL := 2) (ret := (some .int)) (by decide) rfl ?_
  intro p e s m args below meth c s₁ B hml hv
  obtain ⟨rfl, hsz, hP, hE, hD0⟩ := hv
  have hx := B.exec
  have hb := B.bytes
  have hr := B.returns
  have hts := atoms_spec (ws := wsX3_arrival) B.pre
  have hq : ∀ w ∈ gW, w.before _ s = true := fun w h => hts w (List.mem_cons_of_mem _ h)
  have hown : s.vm.findClass RX3 = some m.cls := findClass_of_methodNamed B.named
  have hlocks := B.notSynchronized
  subst hsz
  have hD := hD0.self (sz := s.heap.size)
  generalize hAe : va_A (gw K ad g) s.heap.size = A at hD hE ⊢
  have hA : ∀ q : Nat, s.heap.size ≤ q → A q := fun q h => by rw [← hAe]; exact Or.inr h
  have hK := hE.1
  have hG : gX D K ad A s.heap g s.heap [] := ⟨hP, hD, va_S.rf⟩
  have hl := lv_entry ([.ref (ad 4), .int p1]) (n := 2) (Nat.le_of_ble_eq_true rfl)
  rw [lg_entry_eq]
  generalize (lg_sl ([.ref (ad 4), .int p1]) ++ List.replicate (2 - (lg_sl ([.ref (ad 4), .int p1])).length) Slot.unset).toArray = ls at hl ⊢
  have hl : lv_has ls 2 [(0, .ref (ad 4)), (1, .int p1)] := hl
  dsimp only [wp_X3_arrival] at hw
  refine lv_aload_n hx hb dX3_arrival_0 rfl (lv_at hl 0 rfl) ?_
  refine lv_iload_n hx hb dX3_arrival_1 rfl (lv_at hl 1 rfl) ?_
  refine lv_if_lt (tgt := 11) hx hb dX3_arrival_2 (by decide) (fun c_1 => ?_) (fun c_1 => ?_)
  · have hw := hw.1 c_1
    refine lv_iconst (v := 1) hx hb dX3_arrival_11 (by decide) ?_
    refine lv_goto (tgt := 27) hx hb dX3_arrival_12 (by decide) ?_
    refine g_put (own := RX3) (C := RX3) (T := TX3) (N := 19) (ci := 3) hx hb hq hin_X3 tyX3 tyX3_ok nmX3 hown hK hG (k := 4) (gok_lo (by decide)) (gc_M) rfl 0 (by decide) (hq _ q_413) rfl rfl (ty := .int) (v := .int 1) (by decide +kernel) rfl rfl (Nat.le_of_ble_eq_true rfl) (gi g 4 0 (1 : Int32)) (gs_M0) (gho_lo (by decide)) dX3_arrival_27 (fun H locs hG => ?_)
    obtain ⟨g_2, eg_2⟩ : ∃ z, z = gi g 4 0 (1 : Int32) := ⟨_, rfl⟩
    rw [← eg_2] at hG
    have hw := hw g_2 eg_2
    refine lv_aload_n hx hb dX3_arrival_30 rfl (lv_at hl 0 rfl) ?_
    refine g_get (own := RX3) (C := RX3) (T := TX3) (N := 19) (ci := 3) hx hb hq hin_X3 hown hK hG (k := 4) (gok_lo (by decide)) (gc_M) rfl 0 (by decide) (hq _ q_413) rfl (v := .int (g_2.1 4 0)) rfl dX3_arrival_31 ?_
    refine lv_if_le (tgt := 41) hx hb dX3_arrival_34 (by decide) (fun c_3 => ?_) (fun c_3 => ?_)
    · have hw := hw.1 c_3
      refine lv_aload_n hx hb dX3_arrival_41 rfl (lv_at hl 0 rfl) ?_
      refine g_get (own := RX3) (C := RX3) (T := TX3) (N := 19) (ci := 3) hx hb hq hin_X3 hown hK hG (k := 4) (gok_lo (by decide)) (gc_M) rfl 17 (by decide) (hq _ q_430) rfl (v := .ref (ad 15)) rfl dX3_arrival_42 ?_
      refine lv_iload_n hx hb dX3_arrival_45 rfl (lv_at hl 1 rfl) ?_
      obtain ⟨hi_4, hw⟩ := hw
      refine g_iald hx hb hK hG (k := 15) (gok_lo (by decide)) (gc_15) hi_4 dX3_arrival_46 ?_
      exact g_iret hx hb hr hlocks hw hG (by decide) (by decide) dX3_arrival_47
    · have hw := hw.2 c_3
      refine lv_iconst (v := 0) hx hb dX3_arrival_37 (by decide) ?_
      refine lv_goto (tgt := 47) hx hb dX3_arrival_38 (by decide) ?_
      exact g_iret hx hb hr hlocks hw hG (by decide) (by decide) dX3_arrival_47
  · have hw := hw.2 c_1
    refine lv_iload_n hx hb dX3_arrival_5 rfl (lv_at hl 1 rfl) ?_
    refine lv_bipush (v := 6) hx hb dX3_arrival_6 (by decide) ?_
    refine lv_icmp_le (tgt := 15) hx hb dX3_arrival_8 (by decide) (fun c_5 => ?_) (fun c_5 => ?_)
    · have hw := hw.1 c_5
      refine lv_aload_n hx hb dX3_arrival_15 rfl (lv_at hl 0 rfl) ?_
      refine g_get (own := RX3) (C := RX3) (T := TX3) (N := 19) (ci := 3) hx hb hq hin_X3 hown hK hG (k := 4) (gok_lo (by decide)) (gc_M) rfl 16 (by decide) (hq _ q_429) rfl (v := .int (g.1 4 5)) rfl dX3_arrival_16 ?_
      refine lv_if_ne (tgt := 26) hx hb dX3_arrival_19 (by decide) (fun c_6 => ?_) (fun c_6 => ?_)
      · have hw := hw.1 c_6
        refine lv_iconst (v := 0) hx hb dX3_arrival_26 (by decide) ?_
        refine g_put (own := RX3) (C := RX3) (T := TX3) (N := 19) (ci := 3) hx hb hq hin_X3 tyX3 tyX3_ok nmX3 hown hK hG (k := 4) (gok_lo (by decide)) (gc_M) rfl 0 (by decide) (hq _ q_413) rfl rfl (ty := .int) (v := .int 0) (by decide +kernel) rfl rfl (Nat.le_of_ble_eq_true rfl) (gi g 4 0 (0 : Int32)) (gs_M0) (gho_lo (by decide)) dX3_arrival_27 (fun H locs hG => ?_)
        obtain ⟨g_7, eg_7⟩ : ∃ z, z = gi g 4 0 (0 : Int32) := ⟨_, rfl⟩
        rw [← eg_7] at hG
        have hw := hw g_7 eg_7
        refine lv_aload_n hx hb dX3_arrival_30 rfl (lv_at hl 0 rfl) ?_
        refine g_get (own := RX3) (C := RX3) (T := TX3) (N := 19) (ci := 3) hx hb hq hin_X3 hown hK hG (k := 4) (gok_lo (by decide)) (gc_M) rfl 0 (by decide) (hq _ q_413) rfl (v := .int (g_7.1 4 0)) rfl dX3_arrival_31 ?_
        refine lv_if_le (tgt := 41) hx hb dX3_arrival_34 (by decide) (fun c_8 => ?_) (fun c_8 => ?_)
        · have hw := hw.1 c_8
          refine lv_aload_n hx hb dX3_arrival_41 rfl (lv_at hl 0 rfl) ?_
          refine g_get (own := RX3) (C := RX3) (T := TX3) (N := 19) (ci := 3) hx hb hq hin_X3 hown hK hG (k := 4) (gok_lo (by decide)) (gc_M) rfl 17 (by decide) (hq _ q_430) rfl (v := .ref (ad 15)) rfl dX3_arrival_42 ?_
          refine lv_iload_n hx hb dX3_arrival_45 rfl (lv_at hl 1 rfl) ?_
          obtain ⟨hi_9, hw⟩ := hw
          refine g_iald hx hb hK hG (k := 15) (gok_lo (by decide)) (gc_15) hi_9 dX3_arrival_46 ?_
          exact g_iret hx hb hr hlocks hw hG (by decide) (by decide) dX3_arrival_47
        · have hw := hw.2 c_8
          refine lv_iconst (v := 0) hx hb dX3_arrival_37 (by decide) ?_
          refine lv_goto (tgt := 47) hx hb dX3_arrival_38 (by decide) ?_
          exact g_iret hx hb hr hlocks hw hG (by decide) (by decide) dX3_arrival_47
      · have hw := hw.2 c_6
        refine lv_iconst (v := 2) hx hb dX3_arrival_22 (by decide) ?_
        refine lv_goto (tgt := 27) hx hb dX3_arrival_23 (by decide) ?_
        refine g_put (own := RX3) (C := RX3) (T := TX3) (N := 19) (ci := 3) hx hb hq hin_X3 tyX3 tyX3_ok nmX3 hown hK hG (k := 4) (gok_lo (by decide)) (gc_M) rfl 0 (by decide) (hq _ q_413) rfl rfl (ty := .int) (v := .int 2) (by decide +kernel) rfl rfl (Nat.le_of_ble_eq_true rfl) (gi g 4 0 (2 : Int32)) (gs_M0) (gho_lo (by decide)) dX3_arrival_27 (fun H locs hG => ?_)
        obtain ⟨g_10, eg_10⟩ : ∃ z, z = gi g 4 0 (2 : Int32) := ⟨_, rfl⟩
        rw [← eg_10] at hG
        have hw := hw g_10 eg_10
        refine lv_aload_n hx hb dX3_arrival_30 rfl (lv_at hl 0 rfl) ?_
        refine g_get (own := RX3) (C := RX3) (T := TX3) (N := 19) (ci := 3) hx hb hq hin_X3 hown hK hG (k := 4) (gok_lo (by decide)) (gc_M) rfl 0 (by decide) (hq _ q_413) rfl (v := .int (g_10.1 4 0)) rfl dX3_arrival_31 ?_
        refine lv_if_le (tgt := 41) hx hb dX3_arrival_34 (by decide) (fun c_11 => ?_) (fun c_11 => ?_)
        · have hw := hw.1 c_11
          refine lv_aload_n hx hb dX3_arrival_41 rfl (lv_at hl 0 rfl) ?_
          refine g_get (own := RX3) (C := RX3) (T := TX3) (N := 19) (ci := 3) hx hb hq hin_X3 hown hK hG (k := 4) (gok_lo (by decide)) (gc_M) rfl 17 (by decide) (hq _ q_430) rfl (v := .ref (ad 15)) rfl dX3_arrival_42 ?_
          refine lv_iload_n hx hb dX3_arrival_45 rfl (lv_at hl 1 rfl) ?_
          obtain ⟨hi_12, hw⟩ := hw
          refine g_iald hx hb hK hG (k := 15) (gok_lo (by decide)) (gc_15) hi_12 dX3_arrival_46 ?_
          exact g_iret hx hb hr hlocks hw hG (by decide) (by decide) dX3_arrival_47
        · have hw := hw.2 c_11
          refine lv_iconst (v := 0) hx hb dX3_arrival_37 (by decide) ?_
          refine lv_goto (tgt := 47) hx hb dX3_arrival_38 (by decide) ?_
          exact g_iret hx hb hr hlocks hw hG (by decide) (by decide) dX3_arrival_47
    · have hw := hw.2 c_5
      refine lv_iconst (v := 1) hx hb dX3_arrival_11 (by decide) ?_
      refine lv_goto (tgt := 27) hx hb dX3_arrival_12 (by decide) ?_
      refine g_put (own := RX3) (C := RX3) (T := TX3) (N := 19) (ci := 3) hx hb hq hin_X3 tyX3 tyX3_ok nmX3 hown hK hG (k := 4) (gok_lo (by decide)) (gc_M) rfl 0 (by decide) (hq _ q_413) rfl rfl (ty := .int) (v := .int 1) (by decide +kernel) rfl rfl (Nat.le_of_ble_eq_true rfl) (gi g 4 0 (1 : Int32)) (gs_M0) (gho_lo (by decide)) dX3_arrival_27 (fun H locs hG => ?_)
      obtain ⟨g_13, eg_13⟩ : ∃ z, z = gi g 4 0 (1 : Int32) := ⟨_, rfl⟩
      rw [← eg_13] at hG
      have hw := hw g_13 eg_13
      refine lv_aload_n hx hb dX3_arrival_30 rfl (lv_at hl 0 rfl) ?_
      refine g_get (own := RX3) (C := RX3) (T := TX3) (N := 19) (ci := 3) hx hb hq hin_X3 hown hK hG (k := 4) (gok_lo (by decide)) (gc_M) rfl 0 (by decide) (hq _ q_413) rfl (v := .int (g_13.1 4 0)) rfl dX3_arrival_31 ?_
      refine lv_if_le (tgt := 41) hx hb dX3_arrival_34 (by decide) (fun c_14 => ?_) (fun c_14 => ?_)
      · have hw := hw.1 c_14
        refine lv_aload_n hx hb dX3_arrival_41 rfl (lv_at hl 0 rfl) ?_
        refine g_get (own := RX3) (C := RX3) (T := TX3) (N := 19) (ci := 3) hx hb hq hin_X3 hown hK hG (k := 4) (gok_lo (by decide)) (gc_M) rfl 17 (by decide) (hq _ q_430) rfl (v := .ref (ad 15)) rfl dX3_arrival_42 ?_
        refine lv_iload_n hx hb dX3_arrival_45 rfl (lv_at hl 1 rfl) ?_
        obtain ⟨hi_15, hw⟩ := hw
        refine g_iald hx hb hK hG (k := 15) (gok_lo (by decide)) (gc_15) hi_15 dX3_arrival_46 ?_
        exact g_iret hx hb hr hlocks hw hG (by decide) (by decide) dX3_arrival_47
      · have hw := hw.2 c_14
        refine lv_iconst (v := 0) hx hb dX3_arrival_37 (by decide) ?_
        refine lv_goto (tgt := 47) hx hb dX3_arrival_38 (by decide) ?_
        exact g_iret hx hb hr hlocks hw hG (by decide) (by decide) dX3_arrival_47

def wp_X3_byteAt (post : Int32 → gS → Prop) (p1 : Int32) (g : gS) : Prop := ((¬ (g.1 4 5) = 0) → (((p1 < 0) → (∀ g_3 : gS, g_3 = gi g 4 0 (2 : Int32) → ((((g_3.1 4 0) ≤ 0) → (vp_in p1 1480 ∧ (post (g_3.1 16 p1.toNatClampNeg) g_3))) ∧ ((¬ (g_3.1 4 0) ≤ 0) → (post 0 g_3))))) ∧ ((¬ p1 < 0) → (vp_in (6 : Int32) 7 ∧ (((p1 < (g.1 15 (6 : Int32).toNatClampNeg)) → (∀ g_8 : gS, g_8 = gi g 4 0 (0 : Int32) → ((((g_8.1 4 0) ≤ 0) → (vp_in p1 1480 ∧ (post (g_8.1 16 p1.toNatClampNeg) g_8))) ∧ ((¬ (g_8.1 4 0) ≤ 0) → (post 0 g_8))))) ∧ ((¬ p1 < (g.1 15 (6 : Int32).toNatClampNeg)) → (∀ g_11 : gS, g_11 = gi g 4 0 (2 : Int32) → ((((g_11.1 4 0) ≤ 0) → (vp_in p1 1480 ∧ (post (g_11.1 16 p1.toNatClampNeg) g_11))) ∧ ((¬ (g_11.1 4 0) ≤ 0) → (post 0 g_11)))))))))) ∧ (((g.1 4 5) = 0) → (∀ g_14 : gS, g_14 = gi g 4 0 (1 : Int32) → ((((g_14.1 4 0) ≤ 0) → (vp_in p1 1480 ∧ (post (g_14.1 16 p1.toNatClampNeg) g_14))) ∧ ((¬ (g_14.1 4 0) ≤ 0) → (post 0 g_14)))))
set_option maxHeartbeats 4000000 in
set_option maxRecDepth 100000 in
theorem m_X3_byteAt {l : Launch} (hl9 : l.stackTraces = false) (D : va_G) (K : Nat → ClassId) (sa ad : Nat → Nat) (sz : Nat) (post : Int32 → gS → Prop) (p1 : Int32) (g : gS) (hw : wp_X3_byteAt post p1 g) : Met l yX3_byteAt wsX3_byteAt ({ frames := 0, cells := 0, slots := 0, locals := 0 } : Room) (gPc D K sa ad sz g [.ref (ad 4), .int p1]) (va_Qi post (gB D K ad (va_A (gw K ad g) sz)) (va_A (gw K ad g) sz)) 0 0 (va_A (gw K ad g) sz) := by
  refine Met.ofW (cc := cX3_byteAt) (maxL := 2) (ret := (some .int)) (by decide) rfl ?_
  intro p e s m args below meth c s₁ B hml hv
  obtain ⟨rfl, hsz, hP, hE, hD0⟩ := hv
  have hx := B.exec
  have hb := B.bytes
  have hr := B.returns
  have hts := atoms_spec (ws := wsX3_byteAt) B.pre
  have hq : ∀ w ∈ gW, w.before _ s = true := fun w h => hts w (List.mem_cons_of_mem _ h)
  have hown : s.vm.findClass RX3 = some m.cls := findClass_of_methodNamed B.named
  have hlocks := B.notSynchronized
  subst hsz
  have hD := hD0.self (sz := s.heap.size)
  generalize hAe : va_A (gw K ad g) s.heap.size = A at hD hE ⊢
  have hA : ∀ q : Nat, s.heap.size ≤ q → A q := fun q h => by rw [← hAe]; exact Or.inr h
  have hK := hE.1
  have hG : gX D K ad A s.heap g s.heap [] := ⟨hP, hD, va_S.rf⟩
  have hl := lv_entry ([.ref (ad 4), .int p1]) (n := 2) (Nat.le_of_ble_eq_true rfl)
  rw [lg_entry_eq]
  generalize (lg_sl ([.ref (ad 4), .int p1]) ++ List.replicate (2 - (lg_sl ([.ref (ad 4), .int p1])).length) Slot.unset).toArray = ls at hl ⊢
  have hl : lv_has ls 2 [(0, .ref (ad 4)), (1, .int p1)] := hl
  dsimp only [wp_X3_byteAt] at hw
  refine lv_aload_n hx hb dX3_byteAt_0 rfl (lv_at hl 0 rfl) ?_
  refine lv_aload_n hx hb dX3_byteAt_1 rfl (lv_at hl 0 rfl) ?_
  refine g_get (own := RX3) (C := RX3) (T := TX3) (N := 19) (ci := 3) hx hb hq hin_X3 hown hK hG (k := 4) (gok_lo (by decide)) (gc_M) rfl 16 (by decide) (hq _ q_429) rfl (v := .int (g.1 4 5)) rfl dX3_byteAt_2 ?_
  refine lv_if_ne (tgt := 12) hx hb dX3_byteAt_5 (by decide) (fun c_1 => ?_) (fun c_1 => ?_)
  · have hw := hw.1 c_1
    refine lv_iload_n hx hb dX3_byteAt_12 rfl (lv_at hl 1 rfl) ?_
    refine lv_if_lt (tgt := 27) hx hb dX3_byteAt_13 (by decide) (fun c_2 => ?_) (fun c_2 => ?_)
    · have hw := hw.1 c_2
      refine lv_iconst (v := 2) hx hb dX3_byteAt_27 (by decide) ?_
      refine lv_goto (tgt := 32) hx hb dX3_byteAt_28 (by decide) ?_
      refine g_put (own := RX3) (C := RX3) (T := TX3) (N := 19) (ci := 3) hx hb hq hin_X3 tyX3 tyX3_ok nmX3 hown hK hG (k := 4) (gok_lo (by decide)) (gc_M) rfl 0 (by decide) (hq _ q_413) rfl rfl (ty := .int) (v := .int 2) (by decide +kernel) rfl rfl (Nat.le_of_ble_eq_true rfl) (gi g 4 0 (2 : Int32)) (gs_M0) (gho_lo (by decide)) dX3_byteAt_32 (fun H locs hG => ?_)
      obtain ⟨g_3, eg_3⟩ : ∃ z, z = gi g 4 0 (2 : Int32) := ⟨_, rfl⟩
      rw [← eg_3] at hG
      have hw := hw g_3 eg_3
      refine lv_aload_n hx hb dX3_byteAt_35 rfl (lv_at hl 0 rfl) ?_
      refine g_get (own := RX3) (C := RX3) (T := TX3) (N := 19) (ci := 3) hx hb hq hin_X3 hown hK hG (k := 4) (gok_lo (by decide)) (gc_M) rfl 0 (by decide) (hq _ q_413) rfl (v := .int (g_3.1 4 0)) rfl dX3_byteAt_36 ?_
      refine lv_if_le (tgt := 46) hx hb dX3_byteAt_39 (by decide) (fun c_4 => ?_) (fun c_4 => ?_)
      · have hw := hw.1 c_4
        refine lv_aload_n hx hb dX3_byteAt_46 rfl (lv_at hl 0 rfl) ?_
        refine g_get (own := RX3) (C := RX3) (T := TX3) (N := 19) (ci := 3) hx hb hq hin_X3 hown hK hG (k := 4) (gok_lo (by decide)) (gc_M) rfl 18 (by decide) (hq _ q_431) rfl (v := .ref (ad 16)) rfl dX3_byteAt_47 ?_
        refine lv_iload_n hx hb dX3_byteAt_50 rfl (lv_at hl 1 rfl) ?_
        obtain ⟨hi_5, hw⟩ := hw
        refine g_iald hx hb hK hG (k := 16) (gok_lo (by decide)) (gc_16) hi_5 dX3_byteAt_51 ?_
        exact g_iret hx hb hr hlocks hw hG (by decide) (by decide) dX3_byteAt_52
      · have hw := hw.2 c_4
        refine lv_iconst (v := 0) hx hb dX3_byteAt_42 (by decide) ?_
        refine lv_goto (tgt := 52) hx hb dX3_byteAt_43 (by decide) ?_
        exact g_iret hx hb hr hlocks hw hG (by decide) (by decide) dX3_byteAt_52
    · have hw := hw.2 c_2
      refine lv_iload_n hx hb dX3_byteAt_16 rfl (lv_at hl 1 rfl) ?_
      refine lv_aload_n hx hb dX3_byteAt_17 rfl (lv_at hl 0 rfl) ?_
      refine g_get (own := RX3) (C := RX3) (T := TX3) (N := 19) (ci := 3) hx hb hq hin_X3 hown hK hG (k := 4) (gok_lo (by decide)) (gc_M) rfl 17 (by decide) (hq _ q_430) rfl (v := .ref (ad 15)) rfl dX3_byteAt_18 ?_
      refine lv_bipush (v := 6) hx hb dX3_byteAt_21 (by decide) ?_
      obtain ⟨hi_6, hw⟩ := hw
      refine g_iald hx hb hK hG (k := 15) (gok_lo (by decide)) (gc_15) hi_6 dX3_byteAt_23 ?_
      refine lv_icmp_lt (tgt := 31) hx hb dX3_byteAt_24 (by decide) (fun c_7 => ?_) (fun c_7 => ?_)
      · have hw := hw.1 c_7
        refine lv_iconst (v := 0) hx hb dX3_byteAt_31 (by decide) ?_
        refine g_put (own := RX3) (C := RX3) (T := TX3) (N := 19) (ci := 3) hx hb hq hin_X3 tyX3 tyX3_ok nmX3 hown hK hG (k := 4) (gok_lo (by decide)) (gc_M) rfl 0 (by decide) (hq _ q_413) rfl rfl (ty := .int) (v := .int 0) (by decide +kernel) rfl rfl (Nat.le_of_ble_eq_true rfl) (gi g 4 0 (0 : Int32)) (gs_M0) (gho_lo (by decide)) dX3_byteAt_32 (fun H locs hG => ?_)
        obtain ⟨g_8, eg_8⟩ : ∃ z, z = gi g 4 0 (0 : Int32) := ⟨_, rfl⟩
        rw [← eg_8] at hG
        have hw := hw g_8 eg_8
        refine lv_aload_n hx hb dX3_byteAt_35 rfl (lv_at hl 0 rfl) ?_
        refine g_get (own := RX3) (C := RX3) (T := TX3) (N := 19) (ci := 3) hx hb hq hin_X3 hown hK hG (k := 4) (gok_lo (by decide)) (gc_M) rfl 0 (by decide) (hq _ q_413) rfl (v := .int (g_8.1 4 0)) rfl dX3_byteAt_36 ?_
        refine lv_if_le (tgt := 46) hx hb dX3_byteAt_39 (by decide) (fun c_9 => ?_) (fun c_9 => ?_)
        · have hw := hw.1 c_9
          refine lv_aload_n hx hb dX3_byteAt_46 rfl (lv_at hl 0 rfl) ?_
          refine g_get (own := RX3) (C := RX3) (T := TX3) (N := 19) (ci := 3) hx hb hq hin_X3 hown hK hG (k := 4) (gok_lo (by decide)) (gc_M) rfl 18 (by decide) (hq _ q_431) rfl (v := .ref (ad 16)) rfl dX3_byteAt_47 ?_
          refine lv_iload_n hx hb dX3_byteAt_50 rfl (lv_at hl 1 rfl) ?_
          obtain ⟨hi_10, hw⟩ := hw
          refine g_iald hx hb hK hG (k := 16) (gok_lo (by decide)) (gc_16) hi_10 dX3_byteAt_51 ?_
          exact g_iret hx hb hr hlocks hw hG (by decide) (by decide) dX3_byteAt_52
        · have hw := hw.2 c_9
          refine lv_iconst (v := 0) hx hb dX3_byteAt_42 (by decide) ?_
          refine lv_goto (tgt := 52) hx hb dX3_byteAt_43 (by decide) ?_
          exact g_iret hx hb hr hlocks hw hG (by decide) (by decide) dX3_byteAt_52
      · have hw := hw.2 c_7
        refine lv_iconst (v := 2) hx hb dX3_byteAt_27 (by decide) ?_
        refine lv_goto (tgt := 32) hx hb dX3_byteAt_28 (by decide) ?_
        refine g_put (own := RX3) (C := RX3) (T := TX3) (N := 19) (ci := 3) hx hb hq hin_X3 tyX3 tyX3_ok nmX3 hown hK hG (k := 4) (gok_lo (by decide)) (gc_M) rfl 0 (by decide) (hq _ q_413) rfl rfl (ty := .int) (v := .int 2) (by decide +kernel) rfl rfl (Nat.le_of_ble_eq_true rfl) (gi g 4 0 (2 : Int32)) (gs_M0) (gho_lo (by decide)) dX3_byteAt_32 (fun H locs hG => ?_)
        obtain ⟨g_11, eg_11⟩ : ∃ z, z = gi g 4 0 (2 : Int32) := ⟨_, rfl⟩
        rw [← eg_11] at hG
        have hw := hw g_11 eg_11
        refine lv_aload_n hx hb dX3_byteAt_35 rfl (lv_at hl 0 rfl) ?_
        refine g_get (own := RX3) (C := RX3) (T := TX3) (N := 19) (ci := 3) hx hb hq hin_X3 hown hK hG (k := 4) (gok_lo (by decide)) (gc_M) rfl 0 (by decide) (hq _ q_413) rfl (v := .int (g_11.1 4 0)) rfl dX3_byteAt_36 ?_
        refine lv_if_le (tgt := 46) hx hb dX3_byteAt_39 (by decide) (fun c_12 => ?_) (fun c_12 => ?_)
        · have hw := hw.1 c_12
          refine lv_aload_n hx hb dX3_byteAt_46 rfl (lv_at hl 0 rfl) ?_
          refine g_get (own := RX3) (C := RX3) (T := TX3) (N := 19) (ci := 3) hx hb hq hin_X3 hown hK hG (k := 4) (gok_lo (by decide)) (gc_M) rfl 18 (by decide) (hq _ q_431) rfl (v := .ref (ad 16)) rfl dX3_byteAt_47 ?_
          refine lv_iload_n hx hb dX3_byteAt_50 rfl (lv_at hl 1 rfl) ?_
          obtain ⟨hi_13, hw⟩ := hw
          refine g_iald hx hb hK hG (k := 16) (gok_lo (by decide)) (gc_16) hi_13 dX3_byteAt_51 ?_
          exact g_iret hx hb hr hlocks hw hG (by decide) (by decide) dX3_byteAt_52
        · have hw := hw.2 c_12
          refine lv_iconst (v := 0) hx hb dX3_byteAt_42 (by decide) ?_
          refine lv_goto (tgt := 52) hx hb dX3_byteAt_43 (by decide) ?_
          exact g_iret hx hb hr hlocks hw hG (by decide) (by decide) dX3_byteAt_52
  · have hw := hw.2 c_1
    refine lv_iconst (v := 1) hx hb dX3_byteAt_8 (by decide) ?_
    refine lv_goto (tgt := 32) hx hb dX3_byteAt_9 (by decide) ?_
    refine g_put (own := RX3) (C := RX3) (T := TX3) (N := 19) (ci := 3) hx hb hq hin_X3 tyX3 tyX3_ok nmX3 hown hK hG (k := 4) (gok_lo (by decide)) (gc_M) rfl 0 (by decide) (hq _ q_413) rfl rfl (ty := .int) (v := .int 1) (by decide +kernel) rfl rfl (Nat.le_of_ble_eq_true rfl) (gi g 4 0 (1 : Int32)) (gs_M0) (gho_lo (by decide)) dX3_byteAt_32 (fun H locs hG => ?_)
    obtain ⟨g_14, eg_14⟩ : ∃ z, z = gi g 4 0 (1 : Int32) := ⟨_, rfl⟩
    rw [← eg_14] at hG
    have hw := hw g_14 eg_14
    refine lv_aload_n hx hb dX3_byteAt_35 rfl (lv_at hl 0 rfl) ?_
    refine g_get (own := RX3) (C := RX3) (T := TX3) (N := 19) (ci := 3) hx hb hq hin_X3 hown hK hG (k := 4) (gok_lo (by decide)) (gc_M) rfl 0 (by decide) (hq _ q_413) rfl (v := .int (g_14.1 4 0)) rfl dX3_byteAt_36 ?_
    refine lv_if_le (tgt := 46) hx hb dX3_byteAt_39 (by decide) (fun c_15 => ?_) (fun c_15 => ?_)
    · have hw := hw.1 c_15
      refine lv_aload_n hx hb dX3_byteAt_46 rfl (lv_at hl 0 rfl) ?_
      refine g_get (own := RX3) (C := RX3) (T := TX3) (N := 19) (ci := 3) hx hb hq hin_X3 hown hK hG (k := 4) (gok_lo (by decide)) (gc_M) rfl 18 (by decide) (hq _ q_431) rfl (v := .ref (ad 16)) rfl dX3_byteAt_47 ?_
      refine lv_iload_n hx hb dX3_byteAt_50 rfl (lv_at hl 1 rfl) ?_
      obtain ⟨hi_16, hw⟩ := hw
      refine g_iald hx hb hK hG (k := 16) (gok_lo (by decide)) (gc_16) hi_16 dX3_byteAt_51 ?_
      exact g_iret hx hb hr hlocks hw hG (by decide) (by decide) dX3_byteAt_52
    · have hw := hw.2 c_15
      refine lv_iconst (v := 0) hx hb dX3_byteAt_42 (by decide) ?_
      refine lv_goto (tgt := 52) hx hb dX3_byteAt_43 (by decide) ?_
      exact g_iret hx hb hr hlocks hw hG (by decide) (by decide) dX3_byteAt_52

def wp_X3_underWay (post : Int32 → gS → Prop)  (g : gS) : Prop := ∀ g_1 : gS, g_1 = gi g 4 0 (0 : Int32) → (post (g_1.1 4 4) g_1)
set_option maxHeartbeats 4000000 in
set_option maxRecDepth 100000 in
theorem m_X3_underWay {l : Launch} (hl9 : l.stackTraces = false) (D : va_G) (K : Nat → ClassId) (sa ad : Nat → Nat) (sz : Nat) (post : Int32 → gS → Prop)  (g : gS) (hw : wp_X3_underWay post  g) : Met l yX3_underWay wsX3_underWay ({ frames := 0, cells := 0, slots := 0, locals := 0 } : Room) (gPc D K sa ad sz g [.ref (ad 4)]) (va_Qi post (gB D K ad (va_A (gw K ad g) sz)) (va_A (gw K ad g) sz)) 0 0 (va_A (gw K ad g) sz) := by
  refine Met.ofW (cc := cX3_underWay) (maxL := 1) (ret := (some .int)) (by decide) rfl ?_
  intro p e s m args below meth c s₁ B hml hv
  obtain ⟨rfl, hsz, hP, hE, hD0⟩ := hv
  have hx := B.exec
  have hb := B.bytes
  have hr := B.returns
  have hts := atoms_spec (ws := wsX3_underWay) B.pre
  have hq : ∀ w ∈ gW, w.before _ s = true := fun w h => hts w (List.mem_cons_of_mem _ h)
  have hown : s.vm.findClass RX3 = some m.cls := findClass_of_methodNamed B.named
  have hlocks := B.notSynchronized
  subst hsz
  have hD := hD0.self (sz := s.heap.size)
  generalize hAe : va_A (gw K ad g) s.heap.size = A at hD hE ⊢
  have hA : ∀ q : Nat, s.heap.size ≤ q → A q := fun q h => by rw [← hAe]; exact Or.inr h
  have hK := hE.1
  have hG : gX D K ad A s.heap g s.heap [] := ⟨hP, hD, va_S.rf⟩
  have hl := lv_entry ([.ref (ad 4)]) (n := 1) (Nat.le_of_ble_eq_true rfl)
  rw [lg_entry_eq]
  generalize (lg_sl ([.ref (ad 4)]) ++ List.replicate (1 - (lg_sl ([.ref (ad 4)])).length) Slot.unset).toArray = ls at hl ⊢
  have hl : lv_has ls 1 [(0, .ref (ad 4))] := hl
  dsimp only [wp_X3_underWay] at hw
  refine lv_aload_n hx hb dX3_underWay_0 rfl (lv_at hl 0 rfl) ?_
  refine lv_iconst (v := 0) hx hb dX3_underWay_1 (by decide) ?_
  refine g_put (own := RX3) (C := RX3) (T := TX3) (N := 19) (ci := 3) hx hb hq hin_X3 tyX3 tyX3_ok nmX3 hown hK hG (k := 4) (gok_lo (by decide)) (gc_M) rfl 0 (by decide) (hq _ q_413) rfl rfl (ty := .int) (v := .int 0) (by decide +kernel) rfl rfl (Nat.le_of_ble_eq_true rfl) (gi g 4 0 (0 : Int32)) (gs_M0) (gho_lo (by decide)) dX3_underWay_2 (fun H locs hG => ?_)
  obtain ⟨g_1, eg_1⟩ : ∃ z, z = gi g 4 0 (0 : Int32) := ⟨_, rfl⟩
  rw [← eg_1] at hG
  have hw := hw g_1 eg_1
  refine lv_aload_n hx hb dX3_underWay_5 rfl (lv_at hl 0 rfl) ?_
  refine g_get (own := RX3) (C := RX3) (T := TX3) (N := 19) (ci := 3) hx hb hq hin_X3 hown hK hG (k := 4) (gok_lo (by decide)) (gc_M) rfl 11 (by decide) (hq _ q_424) rfl (v := .int (g_1.1 4 4)) rfl dX3_underWay_6 ?_
  exact g_iret hx hb hr hlocks hw hG (by decide) (by decide) dX3_underWay_9

def wp_X3_fated (post : Int32 → gS → Prop) (p1 : Int32) (g : gS) : Prop := wp_X3_isNet (fun r_2 g_1 => (((r_2 = 0) → (∀ g_4 : gS, g_4 = gi g_1 4 0 (1 : Int32) → ((((g_4.1 4 0) ≤ 0) → (vp_in p1 24 ∧ (post (g_4.1 8 p1.toNatClampNeg) g_4))) ∧ ((¬ (g_4.1 4 0) ≤ 0) → (post 0 g_4))))) ∧ ((¬ r_2 = 0) → (∀ g_7 : gS, g_7 = gi g_1 4 0 (0 : Int32) → ((((g_7.1 4 0) ≤ 0) → (vp_in p1 24 ∧ (post (g_7.1 8 p1.toNatClampNeg) g_7))) ∧ ((¬ (g_7.1 4 0) ≤ 0) → (post 0 g_7))))))) p1 g
set_option maxHeartbeats 4000000 in
set_option maxRecDepth 100000 in
theorem m_X3_fated {l : Launch} (hl9 : l.stackTraces = false) (D : va_G) (K : Nat → ClassId) (sa ad : Nat → Nat) (sz : Nat) (post : Int32 → gS → Prop) (p1 : Int32) (g : gS) (hw : wp_X3_fated post p1 g) : Met l yX3_fated wsX3_fated ({ frames := 1, cells := 0, slots := 0, locals := 21 } : Room) (gPc D K sa ad sz g [.ref (ad 4), .int p1]) (va_Qi post (gB D K ad (va_A (gw K ad g) sz)) (va_A (gw K ad g) sz)) 0 0 (va_A (gw K ad g) sz) := by
  refine Met.ofW (cc := cX3_fated) (maxL := 2) (ret := (some .int)) (by decide) rfl ?_
  intro p e s m args below meth c s₁ B hml hv
  obtain ⟨rfl, hsz, hP, hE, hD0⟩ := hv
  have hx := B.exec
  have hb := B.bytes
  have hr := B.returns
  have hts := atoms_spec (ws := wsX3_fated) B.pre
  have hq : ∀ w ∈ gW, w.before _ s = true := fun w h => hts w (List.mem_cons_of_mem _ h)
  have hown : s.vm.findClass RX3 = some m.cls := findClass_of_methodNamed B.named
  have hlocks := B.notSynchronized
  subst hsz
  have hD := hD0.self (sz := s.heap.size)
  generalize hAe : va_A (gw K ad g) s.heap.size = A at hD hE ⊢
  have hA : ∀ q : Nat, s.heap.size ≤ q → A q := fun q h => by rw [← hAe]; exact Or.inr h
  have hK := hE.1
  have hG : gX D K ad A s.heap g s.heap [] := ⟨hP, hD, va_S.rf⟩
  have hl := lv_entry ([.ref (ad 4), .int p1]) (n := 2) (Nat.le_of_ble_eq_true rfl)
  rw [lg_entry_eq]
  generalize (lg_sl ([.ref (ad 4), .int p1]) ++ List.replicate (2 - (lg_sl ([.ref (ad 4), .int p1])).length) Slot.unset).toArray = ls at hl ⊢
  have hl : lv_has ls 2 [(0, .ref (ad 4)), (1, .int p1)] := hl
  dsimp only [wp_X3_fated] at hw
  refine lv_aload_n hx hb dX3_fated_0 rfl (lv_at hl 0 rfl) ?_
  refine lv_aload_n hx hb dX3_fated_1 rfl (lv_at hl 0 rfl) ?_
  refine lv_iload_n hx hb dX3_fated_2 rfl (lv_at hl 1 rfl) ?_
  refine g_calli (va_runV (As := [.int p1]) (rest := [.ref (ad 4)]) ⟨hx, hb, hml, hown, hts⟩ (m_X3_isNet hl9 D K sa ad _ _ p1 g hw) (cwV 1 hts (gGood gCons (gV q_486 q_488 q_13 q_23 q_489)) rfl rfl rfl (by decide +kernel) ⟨Nat.le_of_ble_eq_true rfl, Nat.le_of_ble_eq_true rfl⟩) ⟨gPc_blind, g_recv hK hG (gok_lo (by decide)) (gc_M) rfl, gPc_at hE hG hA⟩ rfl rfl hl.1 rfl (lv_room (Nat.le_of_ble_eq_true rfl)) dX3_fated_3 ⟨Nat.le_of_ble_eq_true rfl, Nat.le_of_ble_eq_true rfl⟩) hG hA (fun r_2 g_1 H locs hw hG => ?_)
  try dsimp only at hw
  refine lv_if_eq (tgt := 13) hx hb dX3_fated_6 (by decide) (fun c_3 => ?_) (fun c_3 => ?_)
  · have hw := hw.1 c_3
    refine lv_iconst (v := 1) hx hb dX3_fated_13 (by decide) ?_
    refine g_put (own := RX3) (C := RX3) (T := TX3) (N := 19) (ci := 3) hx hb hq hin_X3 tyX3 tyX3_ok nmX3 hown hK hG (k := 4) (gok_lo (by decide)) (gc_M) rfl 0 (by decide) (hq _ q_413) rfl rfl (ty := .int) (v := .int 1) (by decide +kernel) rfl rfl (Nat.le_of_ble_eq_true rfl) (gi g_1 4 0 (1 : Int32)) (gs_M0) (gho_lo (by decide)) dX3_fated_14 (fun H locs hG => ?_)
    obtain ⟨g_4, eg_4⟩ : ∃ z, z = gi g_1 4 0 (1 : Int32) := ⟨_, rfl⟩
    rw [← eg_4] at hG
    have hw := hw g_4 eg_4
    refine lv_aload_n hx hb dX3_fated_17 rfl (lv_at hl 0 rfl) ?_
    refine g_get (own := RX3) (C := RX3) (T := TX3) (N := 19) (ci := 3) hx hb hq hin_X3 hown hK hG (k := 4) (gok_lo (by decide)) (gc_M) rfl 0 (by decide) (hq _ q_413) rfl (v := .int (g_4.1 4 0)) rfl dX3_fated_18 ?_
    refine lv_if_le (tgt := 28) hx hb dX3_fated_21 (by decide) (fun c_5 => ?_) (fun c_5 => ?_)
    · have hw := hw.1 c_5
      refine lv_aload_n hx hb dX3_fated_28 rfl (lv_at hl 0 rfl) ?_
      refine g_get (own := RX3) (C := RX3) (T := TX3) (N := 19) (ci := 3) hx hb hq hin_X3 hown hK hG (k := 4) (gok_lo (by decide)) (gc_M) rfl 6 (by decide) (hq _ q_419) rfl (v := .ref (ad 8)) rfl dX3_fated_29 ?_
      refine lv_iload_n hx hb dX3_fated_32 rfl (lv_at hl 1 rfl) ?_
      obtain ⟨hi_6, hw⟩ := hw
      refine g_iald hx hb hK hG (k := 8) (gok_lo (by decide)) (gc_8) hi_6 dX3_fated_33 ?_
      exact g_iret hx hb hr hlocks hw hG (by decide) (by decide) dX3_fated_34
    · have hw := hw.2 c_5
      refine lv_iconst (v := 0) hx hb dX3_fated_24 (by decide) ?_
      refine lv_goto (tgt := 34) hx hb dX3_fated_25 (by decide) ?_
      exact g_iret hx hb hr hlocks hw hG (by decide) (by decide) dX3_fated_34
  · have hw := hw.2 c_3
    refine lv_iconst (v := 0) hx hb dX3_fated_9 (by decide) ?_
    refine lv_goto (tgt := 14) hx hb dX3_fated_10 (by decide) ?_
    refine g_put (own := RX3) (C := RX3) (T := TX3) (N := 19) (ci := 3) hx hb hq hin_X3 tyX3 tyX3_ok nmX3 hown hK hG (k := 4) (gok_lo (by decide)) (gc_M) rfl 0 (by decide) (hq _ q_413) rfl rfl (ty := .int) (v := .int 0) (by decide +kernel) rfl rfl (Nat.le_of_ble_eq_true rfl) (gi g_1 4 0 (0 : Int32)) (gs_M0) (gho_lo (by decide)) dX3_fated_14 (fun H locs hG => ?_)
    obtain ⟨g_7, eg_7⟩ : ∃ z, z = gi g_1 4 0 (0 : Int32) := ⟨_, rfl⟩
    rw [← eg_7] at hG
    have hw := hw g_7 eg_7
    refine lv_aload_n hx hb dX3_fated_17 rfl (lv_at hl 0 rfl) ?_
    refine g_get (own := RX3) (C := RX3) (T := TX3) (N := 19) (ci := 3) hx hb hq hin_X3 hown hK hG (k := 4) (gok_lo (by decide)) (gc_M) rfl 0 (by decide) (hq _ q_413) rfl (v := .int (g_7.1 4 0)) rfl dX3_fated_18 ?_
    refine lv_if_le (tgt := 28) hx hb dX3_fated_21 (by decide) (fun c_8 => ?_) (fun c_8 => ?_)
    · have hw := hw.1 c_8
      refine lv_aload_n hx hb dX3_fated_28 rfl (lv_at hl 0 rfl) ?_
      refine g_get (own := RX3) (C := RX3) (T := TX3) (N := 19) (ci := 3) hx hb hq hin_X3 hown hK hG (k := 4) (gok_lo (by decide)) (gc_M) rfl 6 (by decide) (hq _ q_419) rfl (v := .ref (ad 8)) rfl dX3_fated_29 ?_
      refine lv_iload_n hx hb dX3_fated_32 rfl (lv_at hl 1 rfl) ?_
      obtain ⟨hi_9, hw⟩ := hw
      refine g_iald hx hb hK hG (k := 8) (gok_lo (by decide)) (gc_8) hi_9 dX3_fated_33 ?_
      exact g_iret hx hb hr hlocks hw hG (by decide) (by decide) dX3_fated_34
    · have hw := hw.2 c_8
      refine lv_iconst (v := 0) hx hb dX3_fated_24 (by decide) ?_
      refine lv_goto (tgt := 34) hx hb dX3_fated_25 (by decide) ?_
      exact g_iret hx hb hr hlocks hw hG (by decide) (by decide) dX3_fated_34

def wp_X3_puts (post : Int32 → gS → Prop) (p1 : Int32) (g : gS) : Prop := wp_X3_isNet (fun r_2 g_1 => (((r_2 = 0) → (∀ g_4 : gS, g_4 = gi g_1 4 0 (1 : Int32) → ((((g_4.1 4 0) ≤ 0) → (vp_in p1 24 ∧ (post (g_4.1 10 p1.toNatClampNeg) g_4))) ∧ ((¬ (g_4.1 4 0) ≤ 0) → (post 0 g_4))))) ∧ ((¬ r_2 = 0) → (∀ g_7 : gS, g_7 = gi g_1 4 0 (0 : Int32) → ((((g_7.1 4 0) ≤ 0) → (vp_in p1 24 ∧ (post (g_7.1 10 p1.toNatClampNeg) g_7))) ∧ ((¬ (g_7.1 4 0) ≤ 0) → (post 0 g_7))))))) p1 g
set_option maxHeartbeats 4000000 in
set_option maxRecDepth 100000 in
theorem m_X3_puts {l : Launch} (hl9 : l.stackTraces = false) (D : va_G) (K : Nat → ClassId) (sa ad : Nat → Nat) (sz : Nat) (post : Int32 → gS → Prop) (p1 : Int32) (g : gS) (hw : wp_X3_puts post p1 g) : Met l yX3_puts wsX3_puts ({ frames := 1, cells := 0, slots := 0, locals := 21 } : Room) (gPc D K sa ad sz g [.ref (ad 4), .int p1]) (va_Qi post (gB D K ad (va_A (gw K ad g) sz)) (va_A (gw K ad g) sz)) 0 0 (va_A (gw K ad g) sz) := by
  refine Met.ofW (cc := cX3_puts) (maxL := 2) (ret := (some .int)) (by decide) rfl ?_
  intro p e s m args below meth c s₁ B hml hv
  obtain ⟨rfl, hsz, hP, hE, hD0⟩ := hv
  have hx := B.exec
  have hb := B.bytes
  have hr := B.returns
  have hts := atoms_spec (ws := wsX3_puts) B.pre
  have hq : ∀ w ∈ gW, w.before _ s = true := fun w h => hts w (List.mem_cons_of_mem _ h)
  have hown : s.vm.findClass RX3 = some m.cls := findClass_of_methodNamed B.named
  have hlocks := B.notSynchronized
  subst hsz
  have hD := hD0.self (sz := s.heap.size)
  generalize hAe : va_A (gw K ad g) s.heap.size = A at hD hE ⊢
  have hA : ∀ q : Nat, s.heap.size ≤ q → A q := fun q h => by rw [← hAe]; exact Or.inr h
  have hK := hE.1
  have hG : gX D K ad A s.heap g s.heap [] := ⟨hP, hD, va_S.rf⟩
  have hl := lv_entry ([.ref (ad 4), .int p1]) (n := 2) (Nat.le_of_ble_eq_true rfl)
  rw [lg_entry_eq]
  generalize (lg_sl ([.ref (ad 4), .int p1]) ++ List.replicate (2 - (lg_sl ([.ref (ad 4), .int p1])).length) Slot.unset).toArray = ls at hl ⊢
  have hl : lv_has ls 2 [(0, .ref (ad 4)), (1, .int p1)] := hl
  dsimp only [wp_X3_puts] at hw
  refine lv_aload_n hx hb dX3_puts_0 rfl (lv_at hl 0 rfl) ?_
  refine lv_aload_n hx hb dX3_puts_1 rfl (lv_at hl 0 rfl) ?_
  refine lv_iload_n hx hb dX3_puts_2 rfl (lv_at hl 1 rfl) ?_
  refine g_calli (va_runV (As := [.int p1]) (rest := [.ref (ad 4)]) ⟨hx, hb, hml, hown, hts⟩ (m_X3_isNet hl9 D K sa ad _ _ p1 g hw) (cwV 1 hts (gGood gCons (gV q_486 q_488 q_13 q_23 q_489)) rfl rfl rfl (by decide +kernel) ⟨Nat.le_of_ble_eq_true rfl, Nat.le_of_ble_eq_true rfl⟩) ⟨gPc_blind, g_recv hK hG (gok_lo (by decide)) (gc_M) rfl, gPc_at hE hG hA⟩ rfl rfl hl.1 rfl (lv_room (Nat.le_of_ble_eq_true rfl)) dX3_puts_3 ⟨Nat.le_of_ble_eq_true rfl, Nat.le_of_ble_eq_true rfl⟩) hG hA (fun r_2 g_1 H locs hw hG => ?_)
  try dsimp only at hw
  refine lv_if_eq (tgt := 13) hx hb dX3_puts_6 (by decide) (fun c_3 => ?_) (fun c_3 => ?_)
  · have hw := hw.1 c_3
    refine lv_iconst (v := 1) hx hb dX3_puts_13 (by decide) ?_
    refine g_put (own := RX3) (C := RX3) (T := TX3) (N := 19) (ci := 3) hx hb hq hin_X3 tyX3 tyX3_ok nmX3 hown hK hG (k := 4) (gok_lo (by decide)) (gc_M) rfl 0 (by decide) (hq _ q_413) rfl rfl (ty := .int) (v := .int 1) (by decide +kernel) rfl rfl (Nat.le_of_ble_eq_true rfl) (gi g_1 4 0 (1 : Int32)) (gs_M0) (gho_lo (by decide)) dX3_puts_14 (fun H locs hG => ?_)
    obtain ⟨g_4, eg_4⟩ : ∃ z, z = gi g_1 4 0 (1 : Int32) := ⟨_, rfl⟩
    rw [← eg_4] at hG
    have hw := hw g_4 eg_4
    refine lv_aload_n hx hb dX3_puts_17 rfl (lv_at hl 0 rfl) ?_
    refine g_get (own := RX3) (C := RX3) (T := TX3) (N := 19) (ci := 3) hx hb hq hin_X3 hown hK hG (k := 4) (gok_lo (by decide)) (gc_M) rfl 0 (by decide) (hq _ q_413) rfl (v := .int (g_4.1 4 0)) rfl dX3_puts_18 ?_
    refine lv_if_le (tgt := 28) hx hb dX3_puts_21 (by decide) (fun c_5 => ?_) (fun c_5 => ?_)
    · have hw := hw.1 c_5
      refine lv_aload_n hx hb dX3_puts_28 rfl (lv_at hl 0 rfl) ?_
      refine g_get (own := RX3) (C := RX3) (T := TX3) (N := 19) (ci := 3) hx hb hq hin_X3 hown hK hG (k := 4) (gok_lo (by decide)) (gc_M) rfl 8 (by decide) (hq _ q_421) rfl (v := .ref (ad 10)) rfl dX3_puts_29 ?_
      refine lv_iload_n hx hb dX3_puts_32 rfl (lv_at hl 1 rfl) ?_
      obtain ⟨hi_6, hw⟩ := hw
      refine g_iald hx hb hK hG (k := 10) (gok_lo (by decide)) (gc_10) hi_6 dX3_puts_33 ?_
      exact g_iret hx hb hr hlocks hw hG (by decide) (by decide) dX3_puts_34
    · have hw := hw.2 c_5
      refine lv_iconst (v := 0) hx hb dX3_puts_24 (by decide) ?_
      refine lv_goto (tgt := 34) hx hb dX3_puts_25 (by decide) ?_
      exact g_iret hx hb hr hlocks hw hG (by decide) (by decide) dX3_puts_34
  · have hw := hw.2 c_3
    refine lv_iconst (v := 0) hx hb dX3_puts_9 (by decide) ?_
    refine lv_goto (tgt := 14) hx hb dX3_puts_10 (by decide) ?_
    refine g_put (own := RX3) (C := RX3) (T := TX3) (N := 19) (ci := 3) hx hb hq hin_X3 tyX3 tyX3_ok nmX3 hown hK hG (k := 4) (gok_lo (by decide)) (gc_M) rfl 0 (by decide) (hq _ q_413) rfl rfl (ty := .int) (v := .int 0) (by decide +kernel) rfl rfl (Nat.le_of_ble_eq_true rfl) (gi g_1 4 0 (0 : Int32)) (gs_M0) (gho_lo (by decide)) dX3_puts_14 (fun H locs hG => ?_)
    obtain ⟨g_7, eg_7⟩ : ∃ z, z = gi g_1 4 0 (0 : Int32) := ⟨_, rfl⟩
    rw [← eg_7] at hG
    have hw := hw g_7 eg_7
    refine lv_aload_n hx hb dX3_puts_17 rfl (lv_at hl 0 rfl) ?_
    refine g_get (own := RX3) (C := RX3) (T := TX3) (N := 19) (ci := 3) hx hb hq hin_X3 hown hK hG (k := 4) (gok_lo (by decide)) (gc_M) rfl 0 (by decide) (hq _ q_413) rfl (v := .int (g_7.1 4 0)) rfl dX3_puts_18 ?_
    refine lv_if_le (tgt := 28) hx hb dX3_puts_21 (by decide) (fun c_8 => ?_) (fun c_8 => ?_)
    · have hw := hw.1 c_8
      refine lv_aload_n hx hb dX3_puts_28 rfl (lv_at hl 0 rfl) ?_
      refine g_get (own := RX3) (C := RX3) (T := TX3) (N := 19) (ci := 3) hx hb hq hin_X3 hown hK hG (k := 4) (gok_lo (by decide)) (gc_M) rfl 8 (by decide) (hq _ q_421) rfl (v := .ref (ad 10)) rfl dX3_puts_29 ?_
      refine lv_iload_n hx hb dX3_puts_32 rfl (lv_at hl 1 rfl) ?_
      obtain ⟨hi_9, hw⟩ := hw
      refine g_iald hx hb hK hG (k := 10) (gok_lo (by decide)) (gc_10) hi_9 dX3_puts_33 ?_
      exact g_iret hx hb hr hlocks hw hG (by decide) (by decide) dX3_puts_34
    · have hw := hw.2 c_8
      refine lv_iconst (v := 0) hx hb dX3_puts_24 (by decide) ?_
      refine lv_goto (tgt := 34) hx hb dX3_puts_25 (by decide) ?_
      exact g_iret hx hb hr hlocks hw hG (by decide) (by decide) dX3_puts_34
end
section
def wpl_X3_add_162 (post : gS → Prop) : Nat → Int32 → Int32 → Int32 → Int32 → Int32 → Int32 → Int32 → Int32 → Int32 → gS → Prop
  | 0 => fun _ _ _ _ _ _ _ _ _ _ => False
  | n + 1 => fun x1 x2 x3 x4 x5 x6 x7 x8 x9 g => ((x6 ≤ x9) → (post g)) ∧ ((¬ x6 ≤ x9) → (∀ x_27 : Int32, x_27 = (185 * x8) + (x9 / 8) → (vp_in x_27 94720 ∧ (∀ i_29 : Int32, i_29 = x5 + x9 → (vp_in i_29 1480 ∧ (∀ x_31 : Int64, x_31 = ((g.2.2.2 17 x_27.toNatClampNeg) &&& (((255 : Int64) <<< ((8 * (x9 - x9 / 8 * 8)).toInt64 &&& 63)) ^^^ (-1))) ||| (((g.1 11 i_29.toNatClampNeg).toInt64) <<< ((8 * (x9 - x9 / 8 * 8)).toInt64 &&& 63)) → (vp_in x_27 94720 ∧ (∀ g_33 : gS, g_33 = gj g 17 x_27.toNatClampNeg x_31 → (∀ x_34 : Int32, x_34 = x9 + 1 → (wpl_X3_add_162 post n x1 x2 x3 x4 x5 x6 x7 x8 x_34 g_33))))))))))
set_option maxHeartbeats 4000000 in
set_option maxRecDepth 100000 in
theorem L_X3_add_162 {p : Program} {l : Launch} {e : Env} {s : State} {m : MethodId} {args : Array Value} {below : List Frame} {meth : Method} {c : Code} {D : va_G} {K : Nat → ClassId} {sa ad : Nat → Nat} {A : Nat → Prop} (post : gS → Prop) (hl9 : l.stackTraces = false) (hx : p.tables.exec = Jvm.exec) (hb : c.code = cX3_add) (hr : meth.sig.returnType = none) (hml : c.maxLocals = 11) (hown : s.vm.findClass RX3 = some m.cls) (hts : ∀ w ∈ wsX3_add, w.before args s = true) (hlocks : meth.locks = false) (hA : ∀ q, s.heap.size ≤ q → A q) (hE : gE D K sa A s s.heap) : ∀ (n : Nat) (x1 : Int32) (x2 : Int32) (x3 : Int32) (x4 : Int32) (x5 : Int32) (x6 : Int32) (x7 : Int32) (x8 : Int32) (x9 : Int32) (g : gS), wpl_X3_add_162 post n x1 x2 x3 x4 x5 x6 x7 x8 x9 g → ∀ (H : Heap) (locs : List Loc) (ls : Array Slot), gX D K ad A s.heap g H locs → lv_has ls 11 [(0, .ref (ad 4)), (1, .int x1), (2, .int x2), (3, .int x3), (4, .int x4), (5, .int x5), (6, .int x6), (7, .int x7), (8, .int x8), (9, .int x9)] → W p l e ({ frames := 0, cells := 0, slots := 0, locals := 0 } : Room) s m args below meth c H locs 0 0 (MQ below (va_Qv post (gB D K ad A) A) args s 0 0 A) (F0 m 162 ls []) := by
  have hK := hE.1
  have hq : ∀ w ∈ gW, w.before args s = true := fun w h => hts w (List.mem_cons_of_mem _ h)
  intro n
  induction n with
  | zero =>
    intro x1 x2 x3 x4 x5 x6 x7 x8 x9 g hw
    exact hw.elim
  | succ n ih =>
    intro x1 x2 x3 x4 x5 x6 x7 x8 x9 g hw H locs ls hG hl
    dsimp only [wpl_X3_add_162] at hw
    refine lv_iload hx hb dX3_add_162 (lv_at hl 9 rfl) ?_
    refine lv_iload hx hb dX3_add_164 (lv_at hl 6 rfl) ?_
    refine lv_icmp_ge (tgt := 241) hx hb dX3_add_166 (by decide) (fun c_26 => ?_) (fun c_26 => ?_)
    · have hw := hw.1 c_26
      exact g_vret hx hb hr hlocks hw hG (by decide) (by decide) dX3_add_241
    · have hw := hw.2 c_26
      refine lv_sipush (v := 185) hx hb dX3_add_169 (by decide) ?_
      refine lv_iload hx hb dX3_add_172 (lv_at hl 8 rfl) ?_
      refine lv_imul hx hb dX3_add_174 ?_
      refine lv_iload hx hb dX3_add_175 (lv_at hl 9 rfl) ?_
      refine lv_bipush (v := 8) hx hb dX3_add_177 (by decide) ?_
      refine lv_idiv hx hb dX3_add_179 (by decide) ?_
      refine lv_iadd hx hb dX3_add_180 ?_
      refine lv_topi (fun x_27 ex_27 => ?_)
      have hw := hw x_27 ex_27
      refine lv_istore (lv' := [(10, .int x_27), (0, .ref (ad 4)), (1, .int x1), (2, .int x2), (3, .int x3), (4, .int x4), (5, .int x5), (6, .int x6), (7, .int x7), (8, .int x8), (9, .int x9)]) hx hb dX3_add_181 hl (by decide) rfl (fun ls hl => ?_)
      refine lv_aload_n hx hb dX3_add_183 rfl (lv_at hl 1 rfl) ?_
      refine g_get (own := RX3) (C := RX3) (T := TX3) (N := 19) (ci := 3) hx hb hq hin_X3 hown hK hG (k := 4) (gok_lo (by decide)) (gc_M) rfl 15 (by decide) (hq _ q_428) rfl (v := .ref (ad 17)) rfl dX3_add_184 ?_
      refine lv_iload hx hb dX3_add_187 (lv_at hl 0 rfl) ?_
      refine lv_aload_n hx hb dX3_add_189 rfl (lv_at hl 1 rfl) ?_
      refine g_get (own := RX3) (C := RX3) (T := TX3) (N := 19) (ci := 3) hx hb hq hin_X3 hown hK hG (k := 4) (gok_lo (by decide)) (gc_M) rfl 15 (by decide) (hq _ q_428) rfl (v := .ref (ad 17)) rfl dX3_add_190 ?_
      refine lv_iload hx hb dX3_add_193 (lv_at hl 0 rfl) ?_
      obtain ⟨hi_28, hw⟩ := hw
      refine g_lald hx hb hK hG (k := 17) (gok_lo (by decide)) (gc_17) hi_28 dX3_add_195 ?_
      refine lv_ldc2 (own := RX3) (v := 255) hx hb hown (hq _ q_503) dX3_add_196 ?_
      refine lv_bipush (v := 8) hx hb dX3_add_199 (by decide) ?_
      refine lv_iload hx hb dX3_add_201 (lv_at hl 10 rfl) ?_
      refine lv_bipush (v := 8) hx hb dX3_add_203 (by decide) ?_
      refine lv_irem hx hb dX3_add_205 (by decide) ?_
      refine lv_imul hx hb dX3_add_206 ?_
      refine lv_lshl hx hb dX3_add_207 rfl ?_
      refine lv_ldc2 (own := RX3) (v := (-1)) hx hb hown (hq _ q_520) dX3_add_208 ?_
      refine lv_lxor hx hb dX3_add_211 ?_
      refine lv_land hx hb dX3_add_212 ?_
      refine lv_aload_n hx hb dX3_add_213 rfl (lv_at hl 1 rfl) ?_
      refine g_get (own := RX3) (C := RX3) (T := TX3) (N := 19) (ci := 3) hx hb hq hin_X3 hown hK hG (k := 4) (gok_lo (by decide)) (gc_M) rfl 10 (by decide) (hq _ q_423) rfl (v := .ref (ad 11)) rfl dX3_add_214 ?_
      refine lv_iload hx hb dX3_add_217 (lv_at hl 6 rfl) ?_
      refine lv_iload hx hb dX3_add_219 (lv_at hl 10 rfl) ?_
      refine lv_iadd hx hb dX3_add_221 ?_
      refine lv_topi (fun i_29 ei_29 => ?_)
      have hw := hw i_29 ei_29
      obtain ⟨hi_30, hw⟩ := hw
      refine g_iald hx hb hK hG (k := 11) (gok_lo (by decide)) (gc_11) hi_30 dX3_add_222 ?_
      refine lv_i2l hx hb dX3_add_223 rfl ?_
      refine lv_bipush (v := 8) hx hb dX3_add_224 (by decide) ?_
      refine lv_iload hx hb dX3_add_226 (lv_at hl 10 rfl) ?_
      refine lv_bipush (v := 8) hx hb dX3_add_228 (by decide) ?_
      refine lv_irem hx hb dX3_add_230 (by decide) ?_
      refine lv_imul hx hb dX3_add_231 ?_
      refine lv_lshl hx hb dX3_add_232 rfl ?_
      refine lv_lor hx hb dX3_add_233 ?_
      refine lv_topl (fun x_31 ex_31 => ?_)
      have hw := hw x_31 ex_31
      obtain ⟨hi_32, hw⟩ := hw
      refine g_last hx hb hK hG (k := 17) (gok_lo (by decide)) (fun g => gc_17) (x := x_31) hi_32 (gho_17) dX3_add_234 (fun H locs hG => ?_)
      obtain ⟨g_33, eg_33⟩ : ∃ z, z = gj g 17 x_27.toNatClampNeg x_31 := ⟨_, rfl⟩
      rw [← eg_33] at hG
      have hw := hw g_33 eg_33
      obtain ⟨x_34, ex_34⟩ : ∃ y : Int32, y = x9 + 1 := ⟨_, rfl⟩
      have hw := hw x_34 ex_34
      refine lv_iinc (v := x_34) (lv' := [(9, .int x_34), (10, .int x_27), (0, .ref (ad 4)), (1, .int x1), (2, .int x2), (3, .int x3), (4, .int x4), (5, .int x5), (6, .int x6), (7, .int x7), (8, .int x8)]) hx hb dX3_add_235 hl (k := 10) rfl (by rw [ex_34]; rfl) (by decide) rfl (fun ls hl => ?_)
      refine lv_goto (tgt := 162) hx hb dX3_add_238 (by decide) ?_
      exact ih x1 x2 x3 x4 x5 x6 x7 x8 x_34 g_33 hw _ _ _ hG (lv_sub hl [2, 3, 4, 5, 6, 7, 8, 9, 10, 0] rfl)
def wpl_X3_add_3 (post : gS → Prop) : Nat → Int32 → Int32 → Int32 → Int32 → Int32 → Int32 → Int32 → Int32 → gS → Prop
  | 0 => fun _ _ _ _ _ _ _ _ _ => False
  | n + 1 => fun x1 x2 x3 x4 x5 x6 x7 x8 g => vp_in x8 512 ∧ ((((g.1 13 x8.toNatClampNeg) = 0) → (vp_in x8 512 ∧ (∀ g_4 : gS, g_4 = gi g 13 x8.toNatClampNeg (vp_nar .boolean (1 : Int32)) → (vp_in (g_4.1 4 4) 512 ∧ (∀ g_6 : gS, g_6 = gi g_4 12 ((g_4.1 4 4).toNatClampNeg) x8 → (∀ x_7 : Int32, x_7 = (g_6.1 4 4) + 1 → (∀ g_8 : gS, g_8 = gi g_6 4 4 x_7 → (vp_in (8 * x8) 4096 ∧ (∀ g_10 : gS, g_10 = gi g_8 14 ((8 * x8).toNatClampNeg) x1 → (vp_in ((8 * x8) + 1) 4096 ∧ (∀ g_12 : gS, g_12 = gi g_10 14 (((8 * x8) + 1).toNatClampNeg) x2 → (vp_in ((8 * x8) + 2) 4096 ∧ (∀ g_14 : gS, g_14 = gi g_12 14 (((8 * x8) + 2).toNatClampNeg) x3 → (vp_in ((8 * x8) + 3) 4096 ∧ (∀ g_16 : gS, g_16 = gi g_14 14 (((8 * x8) + 3).toNatClampNeg) x4 → (vp_in ((8 * x8) + 4) 4096 ∧ (∀ g_18 : gS, g_18 = gi g_16 14 (((8 * x8) + 4).toNatClampNeg) x5 → (∀ x_19 : Int32, x_19 = g_18.1 4 3 → (vp_in ((8 * x8) + 5) 4096 ∧ (∀ g_21 : gS, g_21 = gi g_18 14 (((8 * x8) + 5).toNatClampNeg) x_19 → (vp_in ((8 * x8) + 6) 4096 ∧ (∀ g_23 : gS, g_23 = gi g_21 14 (((8 * x8) + 6).toNatClampNeg) x6 → (vp_in ((8 * x8) + 7) 4096 ∧ (∀ g_25 : gS, g_25 = gi g_23 14 (((8 * x8) + 7).toNatClampNeg) x7 → (∃ n, wpl_X3_add_162 post n x1 x2 x3 x4 x5 x6 x7 x8 0 g_25))))))))))))))))))))))))) ∧ ((¬ (g.1 13 x8.toNatClampNeg) = 0) → (∀ x_36 : Int32, x_36 = x8 + 1 → (wpl_X3_add_3 post n x1 x2 x3 x4 x5 x6 x7 x_36 g))))
set_option maxHeartbeats 4000000 in
set_option maxRecDepth 100000 in
theorem L_X3_add_3 {p : Program} {l : Launch} {e : Env} {s : State} {m : MethodId} {args : Array Value} {below : List Frame} {meth : Method} {c : Code} {D : va_G} {K : Nat → ClassId} {sa ad : Nat → Nat} {A : Nat → Prop} (post : gS → Prop) (hl9 : l.stackTraces = false) (hx : p.tables.exec = Jvm.exec) (hb : c.code = cX3_add) (hr : meth.sig.returnType = none) (hml : c.maxLocals = 11) (hown : s.vm.findClass RX3 = some m.cls) (hts : ∀ w ∈ wsX3_add, w.before args s = true) (hlocks : meth.locks = false) (hA : ∀ q, s.heap.size ≤ q → A q) (hE : gE D K sa A s s.heap) : ∀ (n : Nat) (x1 : Int32) (x2 : Int32) (x3 : Int32) (x4 : Int32) (x5 : Int32) (x6 : Int32) (x7 : Int32) (x8 : Int32) (g : gS), wpl_X3_add_3 post n x1 x2 x3 x4 x5 x6 x7 x8 g → ∀ (H : Heap) (locs : List Loc) (ls : Array Slot), gX D K ad A s.heap g H locs → lv_has ls 11 [(0, .ref (ad 4)), (1, .int x1), (2, .int x2), (3, .int x3), (4, .int x4), (5, .int x5), (6, .int x6), (7, .int x7), (8, .int x8)] → W p l e ({ frames := 0, cells := 0, slots := 0, locals := 0 } : Room) s m args below meth c H locs 0 0 (MQ below (va_Qv post (gB D K ad A) A) args s 0 0 A) (F0 m 3 ls []) := by
  have hK := hE.1
  have hq : ∀ w ∈ gW, w.before args s = true := fun w h => hts w (List.mem_cons_of_mem _ h)
  intro n
  induction n with
  | zero =>
    intro x1 x2 x3 x4 x5 x6 x7 x8 g hw
    exact hw.elim
  | succ n ih =>
    intro x1 x2 x3 x4 x5 x6 x7 x8 g hw H locs ls hG hl
    dsimp only [wpl_X3_add_3] at hw
    refine lv_aload_n hx hb dX3_add_3 rfl (lv_at hl 0 rfl) ?_
    refine g_get (own := RX3) (C := RX3) (T := TX3) (N := 19) (ci := 3) hx hb hq hin_X3 hown hK hG (k := 4) (gok_lo (by decide)) (gc_M) rfl 13 (by decide) (hq _ q_426) rfl (v := .ref (ad 13)) rfl dX3_add_4 ?_
    refine lv_iload hx hb dX3_add_7 (lv_at hl 8 rfl) ?_
    obtain ⟨hi_1, hw⟩ := hw
    refine g_zald hx hb hK hG (k := 13) (gok_lo (by decide)) (gc_13) hi_1 dX3_add_9 ?_
    refine lv_if_eq (tgt := 19) hx hb dX3_add_10 (by decide) (fun c_2 => ?_) (fun c_2 => ?_)
    · have hw := hw.1 c_2
      refine lv_aload_n hx hb dX3_add_19 rfl (lv_at hl 0 rfl) ?_
      refine g_get (own := RX3) (C := RX3) (T := TX3) (N := 19) (ci := 3) hx hb hq hin_X3 hown hK hG (k := 4) (gok_lo (by decide)) (gc_M) rfl 13 (by decide) (hq _ q_426) rfl (v := .ref (ad 13)) rfl dX3_add_20 ?_
      refine lv_iload hx hb dX3_add_23 (lv_at hl 8 rfl) ?_
      refine lv_iconst (v := 1) hx hb dX3_add_25 (by decide) ?_
      obtain ⟨hi_3, hw⟩ := hw
      refine g_zast hx hb hK hG (k := 13) (gok_lo (by decide)) (fun g => gc_13) (x := (1 : Int32)) hi_3 (gho_lo (by decide)) dX3_add_26 (fun H locs hG => ?_)
      obtain ⟨g_4, eg_4⟩ : ∃ z, z = gi g 13 x8.toNatClampNeg (vp_nar .boolean (1 : Int32)) := ⟨_, rfl⟩
      rw [← eg_4] at hG
      have hw := hw g_4 eg_4
      refine lv_aload_n hx hb dX3_add_27 rfl (lv_at hl 0 rfl) ?_
      refine g_get (own := RX3) (C := RX3) (T := TX3) (N := 19) (ci := 3) hx hb hq hin_X3 hown hK hG (k := 4) (gok_lo (by decide)) (gc_M) rfl 12 (by decide) (hq _ q_425) rfl (v := .ref (ad 12)) rfl dX3_add_28 ?_
      refine lv_aload_n hx hb dX3_add_31 rfl (lv_at hl 0 rfl) ?_
      refine g_get (own := RX3) (C := RX3) (T := TX3) (N := 19) (ci := 3) hx hb hq hin_X3 hown hK hG (k := 4) (gok_lo (by decide)) (gc_M) rfl 11 (by decide) (hq _ q_424) rfl (v := .int (g_4.1 4 4)) rfl dX3_add_32 ?_
      refine lv_iload hx hb dX3_add_35 (lv_at hl 8 rfl) ?_
      obtain ⟨hi_5, hw⟩ := hw
      refine g_iast hx hb hK hG (k := 12) (gok_lo (by decide)) (fun g => gc_12) (x := x8) hi_5 (gho_lo (by decide)) dX3_add_37 (fun H locs hG => ?_)
      obtain ⟨g_6, eg_6⟩ : ∃ z, z = gi g_4 12 ((g_4.1 4 4).toNatClampNeg) x8 := ⟨_, rfl⟩
      rw [← eg_6] at hG
      have hw := hw g_6 eg_6
      refine lv_aload_n hx hb dX3_add_38 rfl (lv_at hl 0 rfl) ?_
      refine lv_dup hx hb dX3_add_39 rfl ?_
      refine g_get (own := RX3) (C := RX3) (T := TX3) (N := 19) (ci := 3) hx hb hq hin_X3 hown hK hG (k := 4) (gok_lo (by decide)) (gc_M) rfl 11 (by decide) (hq _ q_424) rfl (v := .int (g_6.1 4 4)) rfl dX3_add_40 ?_
      refine lv_iconst (v := 1) hx hb dX3_add_43 (by decide) ?_
      refine lv_iadd hx hb dX3_add_44 ?_
      refine lv_topi (fun x_7 ex_7 => ?_)
      have hw := hw x_7 ex_7
      refine g_put (own := RX3) (C := RX3) (T := TX3) (N := 19) (ci := 3) hx hb hq hin_X3 tyX3 tyX3_ok nmX3 hown hK hG (k := 4) (gok_lo (by decide)) (gc_M) rfl 11 (by decide) (hq _ q_424) rfl rfl (ty := .int) (v := .int x_7) (by decide +kernel) rfl rfl (Nat.le_of_ble_eq_true rfl) (gi g_6 4 4 x_7) (gs_M4) (gho_lo (by decide)) dX3_add_45 (fun H locs hG => ?_)
      obtain ⟨g_8, eg_8⟩ : ∃ z, z = gi g_6 4 4 x_7 := ⟨_, rfl⟩
      rw [← eg_8] at hG
      have hw := hw g_8 eg_8
      refine lv_aload_n hx hb dX3_add_48 rfl (lv_at hl 0 rfl) ?_
      refine g_get (own := RX3) (C := RX3) (T := TX3) (N := 19) (ci := 3) hx hb hq hin_X3 hown hK hG (k := 4) (gok_lo (by decide)) (gc_M) rfl 14 (by decide) (hq _ q_427) rfl (v := .ref (ad 14)) rfl dX3_add_49 ?_
      refine lv_bipush (v := 8) hx hb dX3_add_52 (by decide) ?_
      refine lv_iload hx hb dX3_add_54 (lv_at hl 8 rfl) ?_
      refine lv_imul hx hb dX3_add_56 ?_
      refine lv_iload_n hx hb dX3_add_57 rfl (lv_at hl 1 rfl) ?_
      obtain ⟨hi_9, hw⟩ := hw
      refine g_iast hx hb hK hG (k := 14) (gok_lo (by decide)) (fun g => gc_14) (x := x1) hi_9 (gho_lo (by decide)) dX3_add_58 (fun H locs hG => ?_)
      obtain ⟨g_10, eg_10⟩ : ∃ z, z = gi g_8 14 ((8 * x8).toNatClampNeg) x1 := ⟨_, rfl⟩
      rw [← eg_10] at hG
      have hw := hw g_10 eg_10
      refine lv_aload_n hx hb dX3_add_59 rfl (lv_at hl 0 rfl) ?_
      refine g_get (own := RX3) (C := RX3) (T := TX3) (N := 19) (ci := 3) hx hb hq hin_X3 hown hK hG (k := 4) (gok_lo (by decide)) (gc_M) rfl 14 (by decide) (hq _ q_427) rfl (v := .ref (ad 14)) rfl dX3_add_60 ?_
      refine lv_bipush (v := 8) hx hb dX3_add_63 (by decide) ?_
      refine lv_iload hx hb dX3_add_65 (lv_at hl 8 rfl) ?_
      refine lv_imul hx hb dX3_add_67 ?_
      refine lv_iconst (v := 1) hx hb dX3_add_68 (by decide) ?_
      refine lv_iadd hx hb dX3_add_69 ?_
      refine lv_iload_n hx hb dX3_add_70 rfl (lv_at hl 2 rfl) ?_
      obtain ⟨hi_11, hw⟩ := hw
      refine g_iast hx hb hK hG (k := 14) (gok_lo (by decide)) (fun g => gc_14) (x := x2) hi_11 (gho_lo (by decide)) dX3_add_71 (fun H locs hG => ?_)
      obtain ⟨g_12, eg_12⟩ : ∃ z, z = gi g_10 14 (((8 * x8) + 1).toNatClampNeg) x2 := ⟨_, rfl⟩
      rw [← eg_12] at hG
      have hw := hw g_12 eg_12
      refine lv_aload_n hx hb dX3_add_72 rfl (lv_at hl 0 rfl) ?_
      refine g_get (own := RX3) (C := RX3) (T := TX3) (N := 19) (ci := 3) hx hb hq hin_X3 hown hK hG (k := 4) (gok_lo (by decide)) (gc_M) rfl 14 (by decide) (hq _ q_427) rfl (v := .ref (ad 14)) rfl dX3_add_73 ?_
      refine lv_bipush (v := 8) hx hb dX3_add_76 (by decide) ?_
      refine lv_iload hx hb dX3_add_78 (lv_at hl 8 rfl) ?_
      refine lv_imul hx hb dX3_add_80 ?_
      refine lv_iconst (v := 2) hx hb dX3_add_81 (by decide) ?_
      refine lv_iadd hx hb dX3_add_82 ?_
      refine lv_iload_n hx hb dX3_add_83 rfl (lv_at hl 3 rfl) ?_
      obtain ⟨hi_13, hw⟩ := hw
      refine g_iast hx hb hK hG (k := 14) (gok_lo (by decide)) (fun g => gc_14) (x := x3) hi_13 (gho_lo (by decide)) dX3_add_84 (fun H locs hG => ?_)
      obtain ⟨g_14, eg_14⟩ : ∃ z, z = gi g_12 14 (((8 * x8) + 2).toNatClampNeg) x3 := ⟨_, rfl⟩
      rw [← eg_14] at hG
      have hw := hw g_14 eg_14
      refine lv_aload_n hx hb dX3_add_85 rfl (lv_at hl 0 rfl) ?_
      refine g_get (own := RX3) (C := RX3) (T := TX3) (N := 19) (ci := 3) hx hb hq hin_X3 hown hK hG (k := 4) (gok_lo (by decide)) (gc_M) rfl 14 (by decide) (hq _ q_427) rfl (v := .ref (ad 14)) rfl dX3_add_86 ?_
      refine lv_bipush (v := 8) hx hb dX3_add_89 (by decide) ?_
      refine lv_iload hx hb dX3_add_91 (lv_at hl 8 rfl) ?_
      refine lv_imul hx hb dX3_add_93 ?_
      refine lv_iconst (v := 3) hx hb dX3_add_94 (by decide) ?_
      refine lv_iadd hx hb dX3_add_95 ?_
      refine lv_iload hx hb dX3_add_96 (lv_at hl 4 rfl) ?_
      obtain ⟨hi_15, hw⟩ := hw
      refine g_iast hx hb hK hG (k := 14) (gok_lo (by decide)) (fun g => gc_14) (x := x4) hi_15 (gho_lo (by decide)) dX3_add_98 (fun H locs hG => ?_)
      obtain ⟨g_16, eg_16⟩ : ∃ z, z = gi g_14 14 (((8 * x8) + 3).toNatClampNeg) x4 := ⟨_, rfl⟩
      rw [← eg_16] at hG
      have hw := hw g_16 eg_16
      refine lv_aload_n hx hb dX3_add_99 rfl (lv_at hl 0 rfl) ?_
      refine g_get (own := RX3) (C := RX3) (T := TX3) (N := 19) (ci := 3) hx hb hq hin_X3 hown hK hG (k := 4) (gok_lo (by decide)) (gc_M) rfl 14 (by decide) (hq _ q_427) rfl (v := .ref (ad 14)) rfl dX3_add_100 ?_
      refine lv_bipush (v := 8) hx hb dX3_add_103 (by decide) ?_
      refine lv_iload hx hb dX3_add_105 (lv_at hl 8 rfl) ?_
      refine lv_imul hx hb dX3_add_107 ?_
      refine lv_iconst (v := 4) hx hb dX3_add_108 (by decide) ?_
      refine lv_iadd hx hb dX3_add_109 ?_
      refine lv_iload hx hb dX3_add_110 (lv_at hl 5 rfl) ?_
      obtain ⟨hi_17, hw⟩ := hw
      refine g_iast hx hb hK hG (k := 14) (gok_lo (by decide)) (fun g => gc_14) (x := x5) hi_17 (gho_lo (by decide)) dX3_add_112 (fun H locs hG => ?_)
      obtain ⟨g_18, eg_18⟩ : ∃ z, z = gi g_16 14 (((8 * x8) + 4).toNatClampNeg) x5 := ⟨_, rfl⟩
      rw [← eg_18] at hG
      have hw := hw g_18 eg_18
      refine lv_aload_n hx hb dX3_add_113 rfl (lv_at hl 0 rfl) ?_
      refine g_get (own := RX3) (C := RX3) (T := TX3) (N := 19) (ci := 3) hx hb hq hin_X3 hown hK hG (k := 4) (gok_lo (by decide)) (gc_M) rfl 14 (by decide) (hq _ q_427) rfl (v := .ref (ad 14)) rfl dX3_add_114 ?_
      refine lv_bipush (v := 8) hx hb dX3_add_117 (by decide) ?_
      refine lv_iload hx hb dX3_add_119 (lv_at hl 8 rfl) ?_
      refine lv_imul hx hb dX3_add_121 ?_
      refine lv_iconst (v := 5) hx hb dX3_add_122 (by decide) ?_
      refine lv_iadd hx hb dX3_add_123 ?_
      refine lv_aload_n hx hb dX3_add_124 rfl (lv_at hl 0 rfl) ?_
      refine g_get (own := RX3) (C := RX3) (T := TX3) (N := 19) (ci := 3) hx hb hq hin_X3 hown hK hG (k := 4) (gok_lo (by decide)) (gc_M) rfl 9 (by decide) (hq _ q_422) rfl (v := .int (g_18.1 4 3)) rfl dX3_add_125 ?_
      refine lv_topi (fun x_19 ex_19 => ?_)
      have hw := hw x_19 ex_19
      obtain ⟨hi_20, hw⟩ := hw
      refine g_iast hx hb hK hG (k := 14) (gok_lo (by decide)) (fun g => gc_14) (x := x_19) hi_20 (gho_lo (by decide)) dX3_add_128 (fun H locs hG => ?_)
      obtain ⟨g_21, eg_21⟩ : ∃ z, z = gi g_18 14 (((8 * x8) + 5).toNatClampNeg) x_19 := ⟨_, rfl⟩
      rw [← eg_21] at hG
      have hw := hw g_21 eg_21
      refine lv_aload_n hx hb dX3_add_129 rfl (lv_at hl 0 rfl) ?_
      refine g_get (own := RX3) (C := RX3) (T := TX3) (N := 19) (ci := 3) hx hb hq hin_X3 hown hK hG (k := 4) (gok_lo (by decide)) (gc_M) rfl 14 (by decide) (hq _ q_427) rfl (v := .ref (ad 14)) rfl dX3_add_130 ?_
      refine lv_bipush (v := 8) hx hb dX3_add_133 (by decide) ?_
      refine lv_iload hx hb dX3_add_135 (lv_at hl 8 rfl) ?_
      refine lv_imul hx hb dX3_add_137 ?_
      refine lv_bipush (v := 6) hx hb dX3_add_138 (by decide) ?_
      refine lv_iadd hx hb dX3_add_140 ?_
      refine lv_iload hx hb dX3_add_141 (lv_at hl 6 rfl) ?_
      obtain ⟨hi_22, hw⟩ := hw
      refine g_iast hx hb hK hG (k := 14) (gok_lo (by decide)) (fun g => gc_14) (x := x6) hi_22 (gho_lo (by decide)) dX3_add_143 (fun H locs hG => ?_)
      obtain ⟨g_23, eg_23⟩ : ∃ z, z = gi g_21 14 (((8 * x8) + 6).toNatClampNeg) x6 := ⟨_, rfl⟩
      rw [← eg_23] at hG
      have hw := hw g_23 eg_23
      refine lv_aload_n hx hb dX3_add_144 rfl (lv_at hl 0 rfl) ?_
      refine g_get (own := RX3) (C := RX3) (T := TX3) (N := 19) (ci := 3) hx hb hq hin_X3 hown hK hG (k := 4) (gok_lo (by decide)) (gc_M) rfl 14 (by decide) (hq _ q_427) rfl (v := .ref (ad 14)) rfl dX3_add_145 ?_
      refine lv_bipush (v := 8) hx hb dX3_add_148 (by decide) ?_
      refine lv_iload hx hb dX3_add_150 (lv_at hl 8 rfl) ?_
      refine lv_imul hx hb dX3_add_152 ?_
      refine lv_bipush (v := 7) hx hb dX3_add_153 (by decide) ?_
      refine lv_iadd hx hb dX3_add_155 ?_
      refine lv_iload hx hb dX3_add_156 (lv_at hl 7 rfl) ?_
      obtain ⟨hi_24, hw⟩ := hw
      refine g_iast hx hb hK hG (k := 14) (gok_lo (by decide)) (fun g => gc_14) (x := x7) hi_24 (gho_lo (by decide)) dX3_add_158 (fun H locs hG => ?_)
      obtain ⟨g_25, eg_25⟩ : ∃ z, z = gi g_23 14 (((8 * x8) + 7).toNatClampNeg) x7 := ⟨_, rfl⟩
      rw [← eg_25] at hG
      have hw := hw g_25 eg_25
      refine lv_iconst (v := 0) hx hb dX3_add_159 (by decide) ?_
      refine lv_istore (lv' := [(9, .int 0), (0, .ref (ad 4)), (1, .int x1), (2, .int x2), (3, .int x3), (4, .int x4), (5, .int x5), (6, .int x6), (7, .int x7), (8, .int x8)]) hx hb dX3_add_160 hl (by decide) rfl (fun ls hl => ?_)
      obtain ⟨n_35, hw⟩ := hw
      exact L_X3_add_162 post hl9 hx hb hr hml hown hts hlocks hA hE n_35 x1 x2 x3 x4 x5 x6 x7 x8 0 g_25 hw _ _ _ hG (lv_sub hl [1, 2, 3, 4, 5, 6, 7, 8, 9, 0] rfl)
    · have hw := hw.2 c_2
      obtain ⟨x_36, ex_36⟩ : ∃ y : Int32, y = x8 + 1 := ⟨_, rfl⟩
      have hw := hw x_36 ex_36
      refine lv_iinc (v := x_36) (lv' := [(8, .int x_36), (0, .ref (ad 4)), (1, .int x1), (2, .int x2), (3, .int x3), (4, .int x4), (5, .int x5), (6, .int x6), (7, .int x7)]) hx hb dX3_add_13 hl (k := 8) rfl (by rw [ex_36]; rfl) (by decide) rfl (fun ls hl => ?_)
      refine lv_goto (tgt := 3) hx hb dX3_add_16 (by decide) ?_
      exact ih x1 x2 x3 x4 x5 x6 x7 x_36 g hw _ _ _ hG (lv_sub hl [1, 2, 3, 4, 5, 6, 7, 8, 0] rfl)
def wp_X3_add (post : gS → Prop) (p1 : Int32) (p2 : Int32) (p3 : Int32) (p4 : Int32) (p5 : Int32) (p6 : Int32) (p7 : Int32) (g : gS) : Prop := ∃ n, wpl_X3_add_3 post n p1 p2 p3 p4 p5 p6 p7 0 g
set_option maxHeartbeats 4000000 in
set_option maxRecDepth 100000 in
theorem m_X3_add {l : Launch} (hl9 : l.stackTraces = false) (D : va_G) (K : Nat → ClassId) (sa ad : Nat → Nat) (sz : Nat) (post : gS → Prop) (p1 : Int32) (p2 : Int32) (p3 : Int32) (p4 : Int32) (p5 : Int32) (p6 : Int32) (p7 : Int32) (g : gS) (hw : wp_X3_add post p1 p2 p3 p4 p5 p6 p7 g) : Met l yX3_add wsX3_add ({ frames := 0, cells := 0, slots := 0, locals := 0 } : Room) (gPc D K sa ad sz g [.ref (ad 4), .int p1, .int p2, .int p3, .int p4, .int p5, .int p6, .int p7]) (va_Qv post (gB D K ad (va_A (gw K ad g) sz)) (va_A (gw K ad g) sz)) 0 0 (va_A (gw K ad g) sz) := by
  refine Met.ofW (cc := cX3_add) (maxL := 11) (ret := none) (by decide) rfl ?_
  intro p e s m args below meth c s₁ B hml hv
  obtain ⟨rfl, hsz, hP, hE, hD0⟩ := hv
  have hx := B.exec
  have hb := B.bytes
  have hr := B.returns
  have hts := atoms_spec (ws := wsX3_add) B.pre
  have hq : ∀ w ∈ gW, w.before _ s = true := fun w h => hts w (List.mem_cons_of_mem _ h)
  have hown : s.vm.findClass RX3 = some m.cls := findClass_of_methodNamed B.named
  have hlocks := B.notSynchronized
  subst hsz
  have hD := hD0.self (sz := s.heap.size)
  generalize hAe : va_A (gw K ad g) s.heap.size = A at hD hE ⊢
  have hA : ∀ q : Nat, s.heap.size ≤ q → A q := fun q h => by rw [← hAe]; exact Or.inr h
  have hK := hE.1
  have hG : gX D K ad A s.heap g s.heap [] := ⟨hP, hD, va_S.rf⟩
  have hl := lv_entry ([.ref (ad 4), .int p1, .int p2, .int p3, .int p4, .int p5, .int p6, .int p7]) (n := 11) (Nat.le_of_ble_eq_true rfl)
  rw [lg_entry_eq]
  generalize (lg_sl ([.ref (ad 4), .int p1, .int p2, .int p3, .int p4, .int p5, .int p6, .int p7]) ++ List.replicate (11 - (lg_sl ([.ref (ad 4), .int p1, .int p2, .int p3, .int p4, .int p5, .int p6, .int p7])).length) Slot.unset).toArray = ls at hl ⊢
  have hl : lv_has ls 11 [(0, .ref (ad 4)), (1, .int p1), (2, .int p2), (3, .int p3), (4, .int p4), (5, .int p5), (6, .int p6), (7, .int p7)] := hl
  dsimp only [wp_X3_add] at hw
  refine lv_iconst (v := 0) hx hb dX3_add_0 (by decide) ?_
  refine lv_istore (lv' := [(8, .int 0), (0, .ref (ad 4)), (1, .int p1), (2, .int p2), (3, .int p3), (4, .int p4), (5, .int p5), (6, .int p6), (7, .int p7)]) hx hb dX3_add_1 hl (by decide) rfl (fun ls hl => ?_)
  obtain ⟨n_37, hw⟩ := hw
  exact L_X3_add_3 post hl9 hx hb hr hml hown hts hlocks hA hE n_37 p1 p2 p3 p4 p5 p6 p7 0 g hw _ _ _ hG (lv_sub hl [1, 2, 3, 4, 5, 6, 7, 8, 0] rfl)

def wp_X3_frame (post : gS → Prop) (p1 : Int32) (p2 : Int32) (p3 : Int32) (p4 : Int32) (p5 : Int32) (p6 : Int32) (g : gS) : Prop := vp_in p1 24 ∧ (∀ x_2 : Int32, x_2 = (g.1 10 p1.toNatClampNeg) + 1 → (vp_in p1 24 ∧ (∀ g_4 : gS, g_4 = gi g 10 p1.toNatClampNeg x_2 → (vp_in p1 24 ∧ (((¬ (g_4.1 7 p1.toNatClampNeg) = 0) → (wp_X3_nextFate (fun r_8 g_7 => (∀ x_9 : Int32, x_9 = 512 - (g_7.1 4 4) → (((r_8 = 1) → (post g_7)) ∧ ((¬ r_8 = 1) → (((¬ r_8 = 2) → (((1 ≤ x_9) → (vp_in p1 24 ∧ (((¬ r_8 = 3) → (wp_X3_add (fun g_15 => (((¬ r_8 = 2) → (post g_15)) ∧ ((r_8 = 2) → (vp_in p1 24 ∧ (wp_X3_add (fun g_18 => (post g_18)) p1 p2 p3 p4 p5 p6 ((g_15.1 4 1) + ((g_15.1 6 p1.toNatClampNeg) * 3)) g_15))))) p1 p2 p3 p4 p5 p6 ((g_7.1 4 1) + ((g_7.1 6 p1.toNatClampNeg) * 1)) g_7)) ∧ ((r_8 = 3) → (wp_X3_add (fun g_19 => (((¬ r_8 = 2) → (post g_19)) ∧ ((r_8 = 2) → (vp_in p1 24 ∧ (wp_X3_add (fun g_22 => (post g_22)) p1 p2 p3 p4 p5 p6 ((g_19.1 4 1) + ((g_19.1 6 p1.toNatClampNeg) * 3)) g_19))))) p1 p2 p3 p4 p5 p6 ((g_7.1 4 1) + ((g_7.1 6 p1.toNatClampNeg) * 4)) g_7))))) ∧ ((¬ 1 ≤ x_9) → (post g_7)))) ∧ ((r_8 = 2) → (((2 ≤ x_9) → (vp_in p1 24 ∧ (((¬ r_8 = 3) → (wp_X3_add (fun g_26 => (((¬ r_8 = 2) → (post g_26)) ∧ ((r_8 = 2) → (vp_in p1 24 ∧ (wp_X3_add (fun g_29 => (post g_29)) p1 p2 p3 p4 p5 p6 ((g_26.1 4 1) + ((g_26.1 6 p1.toNatClampNeg) * 3)) g_26))))) p1 p2 p3 p4 p5 p6 ((g_7.1 4 1) + ((g_7.1 6 p1.toNatClampNeg) * 1)) g_7)) ∧ ((r_8 = 3) → (wp_X3_add (fun g_30 => (((¬ r_8 = 2) → (post g_30)) ∧ ((r_8 = 2) → (vp_in p1 24 ∧ (wp_X3_add (fun g_33 => (post g_33)) p1 p2 p3 p4 p5 p6 ((g_30.1 4 1) + ((g_30.1 6 p1.toNatClampNeg) * 3)) g_30))))) p1 p2 p3 p4 p5 p6 ((g_7.1 4 1) + ((g_7.1 6 p1.toNatClampNeg) * 4)) g_7))))) ∧ ((¬ 2 ≤ x_9) → (post g_7))))))))) p1 g_4)) ∧ (((g_4.1 7 p1.toNatClampNeg) = 0) → (post g_4)))))))
set_option maxHeartbeats 4000000 in
set_option maxRecDepth 100000 in
theorem m_X3_frame {l : Launch} (hl9 : l.stackTraces = false) (D : va_G) (K : Nat → ClassId) (sa ad : Nat → Nat) (sz : Nat) (post : gS → Prop) (p1 : Int32) (p2 : Int32) (p3 : Int32) (p4 : Int32) (p5 : Int32) (p6 : Int32) (g : gS) (hw : wp_X3_frame post p1 p2 p3 p4 p5 p6 g) : Met l yX3_frame wsX3_frame ({ frames := 1, cells := 0, slots := 0, locals := 30 } : Room) (gPc D K sa ad sz g [.ref (ad 4), .int p1, .int p2, .int p3, .int p4, .int p5, .int p6]) (va_Qv post (gB D K ad (va_A (gw K ad g) sz)) (va_A (gw K ad g) sz)) 0 0 (va_A (gw K ad g) sz) := by
  refine Met.ofW (cc := cX3_frame) (maxL := 9) (ret := none) (by decide) rfl ?_
  intro p e s m args below meth c s₁ B hml hv
  obtain ⟨rfl, hsz, hP, hE, hD0⟩ := hv
  have hx := B.exec
  have hb := B.bytes
  have hr := B.returns
  have hts := atoms_spec (ws := wsX3_frame) B.pre
  have hq : ∀ w ∈ gW, w.before _ s = true := fun w h => hts w (List.mem_cons_of_mem _ h)
  have hown : s.vm.findClass RX3 = some m.cls := findClass_of_methodNamed B.named
  have hlocks := B.notSynchronized
  subst hsz
  have hD := hD0.self (sz := s.heap.size)
  generalize hAe : va_A (gw K ad g) s.heap.size = A at hD hE ⊢
  have hA : ∀ q : Nat, s.heap.size ≤ q → A q := fun q h => by rw [← hAe]; exact Or.inr h
  have hK := hE.1
  have hG : gX D K ad A s.heap g s.heap [] := ⟨hP, hD, va_S.rf⟩
  have hl := lv_entry ([.ref (ad 4), .int p1, .int p2, .int p3, .int p4, .int p5, .int p6]) (n := 9) (Nat.le_of_ble_eq_true rfl)
  rw [lg_entry_eq]
  generalize (lg_sl ([.ref (ad 4), .int p1, .int p2, .int p3, .int p4, .int p5, .int p6]) ++ List.replicate (9 - (lg_sl ([.ref (ad 4), .int p1, .int p2, .int p3, .int p4, .int p5, .int p6])).length) Slot.unset).toArray = ls at hl ⊢
  have hl : lv_has ls 9 [(0, .ref (ad 4)), (1, .int p1), (2, .int p2), (3, .int p3), (4, .int p4), (5, .int p5), (6, .int p6)] := hl
  dsimp only [wp_X3_frame] at hw
  refine lv_aload_n hx hb dX3_frame_0 rfl (lv_at hl 0 rfl) ?_
  refine g_get (own := RX3) (C := RX3) (T := TX3) (N := 19) (ci := 3) hx hb hq hin_X3 hown hK hG (k := 4) (gok_lo (by decide)) (gc_M) rfl 8 (by decide) (hq _ q_421) rfl (v := .ref (ad 10)) rfl dX3_frame_1 ?_
  refine lv_iload_n hx hb dX3_frame_4 rfl (lv_at hl 1 rfl) ?_
  refine lv_dup2_11 hx hb dX3_frame_5 rfl rfl ?_
  obtain ⟨hi_1, hw⟩ := hw
  refine g_iald hx hb hK hG (k := 10) (gok_lo (by decide)) (gc_10) hi_1 dX3_frame_6 ?_
  refine lv_iconst (v := 1) hx hb dX3_frame_7 (by decide) ?_
  refine lv_iadd hx hb dX3_frame_8 ?_
  refine lv_topi (fun x_2 ex_2 => ?_)
  have hw := hw x_2 ex_2
  obtain ⟨hi_3, hw⟩ := hw
  refine g_iast hx hb hK hG (k := 10) (gok_lo (by decide)) (fun g => gc_10) (x := x_2) hi_3 (gho_lo (by decide)) dX3_frame_9 (fun H locs hG => ?_)
  obtain ⟨g_4, eg_4⟩ : ∃ z, z = gi g 10 p1.toNatClampNeg x_2 := ⟨_, rfl⟩
  rw [← eg_4] at hG
  have hw := hw g_4 eg_4
  refine lv_aload_n hx hb dX3_frame_10 rfl (lv_at hl 0 rfl) ?_
  refine g_get (own := RX3) (C := RX3) (T := TX3) (N := 19) (ci := 3) hx hb hq hin_X3 hown hK hG (k := 4) (gok_lo (by decide)) (gc_M) rfl 5 (by decide) (hq _ q_418) rfl (v := .ref (ad 7)) rfl dX3_frame_11 ?_
  refine lv_iload_n hx hb dX3_frame_14 rfl (lv_at hl 1 rfl) ?_
  obtain ⟨hi_5, hw⟩ := hw
  refine g_zald hx hb hK hG (k := 7) (gok_lo (by decide)) (gc_7) hi_5 dX3_frame_15 ?_
  refine lv_if_ne (tgt := 20) hx hb dX3_frame_16 (by decide) (fun c_6 => ?_) (fun c_6 => ?_)
  · have hw := hw.1 c_6
    refine lv_aload_n hx hb dX3_frame_20 rfl (lv_at hl 0 rfl) ?_
    refine lv_iload_n hx hb dX3_frame_21 rfl (lv_at hl 1 rfl) ?_
    refine g_calli (va_runV (As := [.int p1]) (rest := []) ⟨hx, hb, hml, hown, hts⟩ (m_X3_nextFate hl9 D K sa ad _ _ p1 g_4 hw) (cwV 1 hts (gGood gCons (gV q_512 q_514 q_16 q_23 q_515)) rfl rfl rfl (by decide +kernel) ⟨Nat.le_of_ble_eq_true rfl, Nat.le_of_ble_eq_true rfl⟩) ⟨gPc_blind, g_recv hK hG (gok_lo (by decide)) (gc_M) rfl, gPc_at hE hG hA⟩ rfl rfl hl.1 rfl (lv_room (Nat.le_of_ble_eq_true rfl)) dX3_frame_22 ⟨Nat.le_of_ble_eq_true rfl, Nat.le_of_ble_eq_true rfl⟩) hG hA (fun r_8 g_7 H locs hw hG => ?_)
    try dsimp only at hw
    refine lv_istore (lv' := [(7, .int r_8), (0, .ref (ad 4)), (1, .int p1), (2, .int p2), (3, .int p3), (4, .int p4), (5, .int p5), (6, .int p6)]) hx hb dX3_frame_25 hl (by decide) rfl (fun ls hl => ?_)
    refine lv_sipush (v := 512) hx hb dX3_frame_27 (by decide) ?_
    refine lv_aload_n hx hb dX3_frame_30 rfl (lv_at hl 1 rfl) ?_
    refine g_get (own := RX3) (C := RX3) (T := TX3) (N := 19) (ci := 3) hx hb hq hin_X3 hown hK hG (k := 4) (gok_lo (by decide)) (gc_M) rfl 11 (by decide) (hq _ q_424) rfl (v := .int (g_7.1 4 4)) rfl dX3_frame_31 ?_
    refine lv_isub hx hb dX3_frame_34 ?_
    refine lv_topi (fun x_9 ex_9 => ?_)
    have hw := hw x_9 ex_9
    refine lv_istore (lv' := [(8, .int x_9), (7, .int r_8), (0, .ref (ad 4)), (1, .int p1), (2, .int p2), (3, .int p3), (4, .int p4), (5, .int p5), (6, .int p6)]) hx hb dX3_frame_35 hl (by decide) rfl (fun ls hl => ?_)
    refine lv_iload hx hb dX3_frame_37 (lv_at hl 1 rfl) ?_
    refine lv_iconst (v := 1) hx hb dX3_frame_39 (by decide) ?_
    refine lv_icmp_eq (tgt := 59) hx hb dX3_frame_40 (by decide) (fun c_10 => ?_) (fun c_10 => ?_)
    · have hw := hw.1 c_10
      exact g_vret hx hb hr hlocks hw hG (by decide) (by decide) dX3_frame_59
    · have hw := hw.2 c_10
      refine lv_iload hx hb dX3_frame_43 (lv_at hl 0 rfl) ?_
      refine lv_iload hx hb dX3_frame_45 (lv_at hl 1 rfl) ?_
      refine lv_iconst (v := 2) hx hb dX3_frame_47 (by decide) ?_
      refine lv_icmp_ne (tgt := 55) hx hb dX3_frame_48 (by decide) (fun c_11 => ?_) (fun c_11 => ?_)
      · have hw := hw.1 c_11
        refine lv_iconst (v := 1) hx hb dX3_frame_55 (by decide) ?_
        refine lv_icmp_ge (tgt := 60) hx hb dX3_frame_56 (by decide) (fun c_12 => ?_) (fun c_12 => ?_)
        · have hw := hw.1 c_12
          refine lv_aload_n hx hb dX3_frame_60 rfl (lv_at hl 2 rfl) ?_
          refine lv_iload_n hx hb dX3_frame_61 rfl (lv_at hl 3 rfl) ?_
          refine lv_iload_n hx hb dX3_frame_62 rfl (lv_at hl 4 rfl) ?_
          refine lv_iload_n hx hb dX3_frame_63 rfl (lv_at hl 5 rfl) ?_
          refine lv_iload hx hb dX3_frame_64 (lv_at hl 6 rfl) ?_
          refine lv_iload hx hb dX3_frame_66 (lv_at hl 7 rfl) ?_
          refine lv_iload hx hb dX3_frame_68 (lv_at hl 8 rfl) ?_
          refine lv_aload_n hx hb dX3_frame_70 rfl (lv_at hl 2 rfl) ?_
          refine g_get (own := RX3) (C := RX3) (T := TX3) (N := 19) (ci := 3) hx hb hq hin_X3 hown hK hG (k := 4) (gok_lo (by decide)) (gc_M) rfl 1 (by decide) (hq _ q_414) rfl (v := .int (g_7.1 4 1)) rfl dX3_frame_71 ?_
          refine lv_aload_n hx hb dX3_frame_74 rfl (lv_at hl 2 rfl) ?_
          refine g_get (own := RX3) (C := RX3) (T := TX3) (N := 19) (ci := 3) hx hb hq hin_X3 hown hK hG (k := 4) (gok_lo (by decide)) (gc_M) rfl 4 (by decide) (hq _ q_417) rfl (v := .ref (ad 6)) rfl dX3_frame_75 ?_
          refine lv_iload_n hx hb dX3_frame_78 rfl (lv_at hl 3 rfl) ?_
          obtain ⟨hi_13, hw⟩ := hw
          refine g_iald hx hb hK hG (k := 6) (gok_lo (by decide)) (gc_6) hi_13 dX3_frame_79 ?_
          refine lv_iload hx hb dX3_frame_80 (lv_at hl 1 rfl) ?_
          refine lv_iconst (v := 3) hx hb dX3_frame_82 (by decide) ?_
          refine lv_icmp_ne (tgt := 90) hx hb dX3_frame_83 (by decide) (fun c_14 => ?_) (fun c_14 => ?_)
          · have hw := hw.1 c_14
            refine lv_iconst (v := 1) hx hb dX3_frame_90 (by decide) ?_
            refine lv_imul hx hb dX3_frame_91 ?_
            refine lv_iadd hx hb dX3_frame_92 ?_
            refine g_callv (va_runV (As := [.int p1, .int p2, .int p3, .int p4, .int p5, .int p6, .int ((g_7.1 4 1) + ((g_7.1 6 p1.toNatClampNeg) * 1))]) (rest := []) ⟨hx, hb, hml, hown, hts⟩ (m_X3_add hl9 D K sa ad _ _ p1 p2 p3 p4 p5 p6 ((g_7.1 4 1) + ((g_7.1 6 p1.toNatClampNeg) * 1)) g_7 hw) (cwV 7 hts (gGood gCons (gV q_516 q_518 q_17 q_23 q_519)) rfl rfl rfl (by decide +kernel) ⟨Nat.le_of_ble_eq_true rfl, Nat.le_of_ble_eq_true rfl⟩) ⟨gPc_blind, g_recv hK hG (gok_lo (by decide)) (gc_M) rfl, gPc_at hE hG hA⟩ rfl rfl hl.1 rfl (lv_room (Nat.le_of_ble_eq_true rfl)) dX3_frame_93 ⟨Nat.le_of_ble_eq_true rfl, Nat.le_of_ble_eq_true rfl⟩) hG hA (fun g_15 H locs hw hG => ?_)
            try dsimp only at hw
            refine lv_iload hx hb dX3_frame_96 (lv_at hl 1 rfl) ?_
            refine lv_iconst (v := 2) hx hb dX3_frame_98 (by decide) ?_
            refine lv_icmp_ne (tgt := 128) hx hb dX3_frame_99 (by decide) (fun c_16 => ?_) (fun c_16 => ?_)
            · have hw := hw.1 c_16
              exact g_vret hx hb hr hlocks hw hG (by decide) (by decide) dX3_frame_128
            · have hw := hw.2 c_16
              refine lv_aload_n hx hb dX3_frame_102 rfl (lv_at hl 2 rfl) ?_
              refine lv_iload_n hx hb dX3_frame_103 rfl (lv_at hl 3 rfl) ?_
              refine lv_iload_n hx hb dX3_frame_104 rfl (lv_at hl 4 rfl) ?_
              refine lv_iload_n hx hb dX3_frame_105 rfl (lv_at hl 5 rfl) ?_
              refine lv_iload hx hb dX3_frame_106 (lv_at hl 6 rfl) ?_
              refine lv_iload hx hb dX3_frame_108 (lv_at hl 7 rfl) ?_
              refine lv_iload hx hb dX3_frame_110 (lv_at hl 8 rfl) ?_
              refine lv_aload_n hx hb dX3_frame_112 rfl (lv_at hl 2 rfl) ?_
              refine g_get (own := RX3) (C := RX3) (T := TX3) (N := 19) (ci := 3) hx hb hq hin_X3 hown hK hG (k := 4) (gok_lo (by decide)) (gc_M) rfl 1 (by decide) (hq _ q_414) rfl (v := .int (g_15.1 4 1)) rfl dX3_frame_113 ?_
              refine lv_aload_n hx hb dX3_frame_116 rfl (lv_at hl 2 rfl) ?_
              refine g_get (own := RX3) (C := RX3) (T := TX3) (N := 19) (ci := 3) hx hb hq hin_X3 hown hK hG (k := 4) (gok_lo (by decide)) (gc_M) rfl 4 (by decide) (hq _ q_417) rfl (v := .ref (ad 6)) rfl dX3_frame_117 ?_
              refine lv_iload_n hx hb dX3_frame_120 rfl (lv_at hl 3 rfl) ?_
              obtain ⟨hi_17, hw⟩ := hw
              refine g_iald hx hb hK hG (k := 6) (gok_lo (by decide)) (gc_6) hi_17 dX3_frame_121 ?_
              refine lv_iconst (v := 3) hx hb dX3_frame_122 (by decide) ?_
              refine lv_imul hx hb dX3_frame_123 ?_
              refine lv_iadd hx hb dX3_frame_124 ?_
              refine g_callv (va_runV (As := [.int p1, .int p2, .int p3, .int p4, .int p5, .int p6, .int ((g_15.1 4 1) + ((g_15.1 6 p1.toNatClampNeg) * 3))]) (rest := []) ⟨hx, hb, hml, hown, hts⟩ (m_X3_add hl9 D K sa ad _ _ p1 p2 p3 p4 p5 p6 ((g_15.1 4 1) + ((g_15.1 6 p1.toNatClampNeg) * 3)) g_15 hw) (cwV 7 hts (gGood gCons (gV q_516 q_518 q_17 q_23 q_519)) rfl rfl rfl (by decide +kernel) ⟨Nat.le_of_ble_eq_true rfl, Nat.le_of_ble_eq_true rfl⟩) ⟨gPc_blind, g_recv hK hG (gok_lo (by decide)) (gc_M) rfl, gPc_at hE hG hA⟩ rfl rfl hl.1 rfl (lv_room (Nat.le_of_ble_eq_true rfl)) dX3_frame_125 ⟨Nat.le_of_ble_eq_true rfl, Nat.le_of_ble_eq_true rfl⟩) hG hA (fun g_18 H locs hw hG => ?_)
              try dsimp only at hw
              exact g_vret hx hb hr hlocks hw hG (by decide) (by decide) dX3_frame_128
          · have hw := hw.2 c_14
            refine lv_iconst (v := 4) hx hb dX3_frame_86 (by decide) ?_
            refine lv_goto (tgt := 91) hx hb dX3_frame_87 (by decide) ?_
            refine lv_imul hx hb dX3_frame_91 ?_
            refine lv_iadd hx hb dX3_frame_92 ?_
            refine g_callv (va_runV (As := [.int p1, .int p2, .int p3, .int p4, .int p5, .int p6, .int ((g_7.1 4 1) + ((g_7.1 6 p1.toNatClampNeg) * 4))]) (rest := []) ⟨hx, hb, hml, hown, hts⟩ (m_X3_add hl9 D K sa ad _ _ p1 p2 p3 p4 p5 p6 ((g_7.1 4 1) + ((g_7.1 6 p1.toNatClampNeg) * 4)) g_7 hw) (cwV 7 hts (gGood gCons (gV q_516 q_518 q_17 q_23 q_519)) rfl rfl rfl (by decide +kernel) ⟨Nat.le_of_ble_eq_true rfl, Nat.le_of_ble_eq_true rfl⟩) ⟨gPc_blind, g_recv hK hG (gok_lo (by decide)) (gc_M) rfl, gPc_at hE hG hA⟩ rfl rfl hl.1 rfl (lv_room (Nat.le_of_ble_eq_true rfl)) dX3_frame_93 ⟨Nat.le_of_ble_eq_true rfl, Nat.le_of_ble_eq_true rfl⟩) hG hA (fun g_19 H locs hw hG => ?_)
            try dsimp only at hw
            refine lv_iload hx hb dX3_frame_96 (lv_at hl 1 rfl) ?_
            refine lv_iconst (v := 2) hx hb dX3_frame_98 (by decide) ?_
            refine lv_icmp_ne (tgt := 128) hx hb dX3_frame_99 (by decide) (fun c_20 => ?_) (fun c_20 => ?_)
            · have hw := hw.1 c_20
              exact g_vret hx hb hr hlocks hw hG (by decide) (by decide) dX3_frame_128
            · have hw := hw.2 c_20
              refine lv_aload_n hx hb dX3_frame_102 rfl (lv_at hl 2 rfl) ?_
              refine lv_iload_n hx hb dX3_frame_103 rfl (lv_at hl 3 rfl) ?_
              refine lv_iload_n hx hb dX3_frame_104 rfl (lv_at hl 4 rfl) ?_
              refine lv_iload_n hx hb dX3_frame_105 rfl (lv_at hl 5 rfl) ?_
              refine lv_iload hx hb dX3_frame_106 (lv_at hl 6 rfl) ?_
              refine lv_iload hx hb dX3_frame_108 (lv_at hl 7 rfl) ?_
              refine lv_iload hx hb dX3_frame_110 (lv_at hl 8 rfl) ?_
              refine lv_aload_n hx hb dX3_frame_112 rfl (lv_at hl 2 rfl) ?_
              refine g_get (own := RX3) (C := RX3) (T := TX3) (N := 19) (ci := 3) hx hb hq hin_X3 hown hK hG (k := 4) (gok_lo (by decide)) (gc_M) rfl 1 (by decide) (hq _ q_414) rfl (v := .int (g_19.1 4 1)) rfl dX3_frame_113 ?_
              refine lv_aload_n hx hb dX3_frame_116 rfl (lv_at hl 2 rfl) ?_
              refine g_get (own := RX3) (C := RX3) (T := TX3) (N := 19) (ci := 3) hx hb hq hin_X3 hown hK hG (k := 4) (gok_lo (by decide)) (gc_M) rfl 4 (by decide) (hq _ q_417) rfl (v := .ref (ad 6)) rfl dX3_frame_117 ?_
              refine lv_iload_n hx hb dX3_frame_120 rfl (lv_at hl 3 rfl) ?_
              obtain ⟨hi_21, hw⟩ := hw
              refine g_iald hx hb hK hG (k := 6) (gok_lo (by decide)) (gc_6) hi_21 dX3_frame_121 ?_
              refine lv_iconst (v := 3) hx hb dX3_frame_122 (by decide) ?_
              refine lv_imul hx hb dX3_frame_123 ?_
              refine lv_iadd hx hb dX3_frame_124 ?_
              refine g_callv (va_runV (As := [.int p1, .int p2, .int p3, .int p4, .int p5, .int p6, .int ((g_19.1 4 1) + ((g_19.1 6 p1.toNatClampNeg) * 3))]) (rest := []) ⟨hx, hb, hml, hown, hts⟩ (m_X3_add hl9 D K sa ad _ _ p1 p2 p3 p4 p5 p6 ((g_19.1 4 1) + ((g_19.1 6 p1.toNatClampNeg) * 3)) g_19 hw) (cwV 7 hts (gGood gCons (gV q_516 q_518 q_17 q_23 q_519)) rfl rfl rfl (by decide +kernel) ⟨Nat.le_of_ble_eq_true rfl, Nat.le_of_ble_eq_true rfl⟩) ⟨gPc_blind, g_recv hK hG (gok_lo (by decide)) (gc_M) rfl, gPc_at hE hG hA⟩ rfl rfl hl.1 rfl (lv_room (Nat.le_of_ble_eq_true rfl)) dX3_frame_125 ⟨Nat.le_of_ble_eq_true rfl, Nat.le_of_ble_eq_true rfl⟩) hG hA (fun g_22 H locs hw hG => ?_)
              try dsimp only at hw
              exact g_vret hx hb hr hlocks hw hG (by decide) (by decide) dX3_frame_128
        · have hw := hw.2 c_12
          exact g_vret hx hb hr hlocks hw hG (by decide) (by decide) dX3_frame_59
      · have hw := hw.2 c_11
        refine lv_iconst (v := 2) hx hb dX3_frame_51 (by decide) ?_
        refine lv_goto (tgt := 56) hx hb dX3_frame_52 (by decide) ?_
        refine lv_icmp_ge (tgt := 60) hx hb dX3_frame_56 (by decide) (fun c_23 => ?_) (fun c_23 => ?_)
        · have hw := hw.1 c_23
          refine lv_aload_n hx hb dX3_frame_60 rfl (lv_at hl 2 rfl) ?_
          refine lv_iload_n hx hb dX3_frame_61 rfl (lv_at hl 3 rfl) ?_
          refine lv_iload_n hx hb dX3_frame_62 rfl (lv_at hl 4 rfl) ?_
          refine lv_iload_n hx hb dX3_frame_63 rfl (lv_at hl 5 rfl) ?_
          refine lv_iload hx hb dX3_frame_64 (lv_at hl 6 rfl) ?_
          refine lv_iload hx hb dX3_frame_66 (lv_at hl 7 rfl) ?_
          refine lv_iload hx hb dX3_frame_68 (lv_at hl 8 rfl) ?_
          refine lv_aload_n hx hb dX3_frame_70 rfl (lv_at hl 2 rfl) ?_
          refine g_get (own := RX3) (C := RX3) (T := TX3) (N := 19) (ci := 3) hx hb hq hin_X3 hown hK hG (k := 4) (gok_lo (by decide)) (gc_M) rfl 1 (by decide) (hq _ q_414) rfl (v := .int (g_7.1 4 1)) rfl dX3_frame_71 ?_
          refine lv_aload_n hx hb dX3_frame_74 rfl (lv_at hl 2 rfl) ?_
          refine g_get (own := RX3) (C := RX3) (T := TX3) (N := 19) (ci := 3) hx hb hq hin_X3 hown hK hG (k := 4) (gok_lo (by decide)) (gc_M) rfl 4 (by decide) (hq _ q_417) rfl (v := .ref (ad 6)) rfl dX3_frame_75 ?_
          refine lv_iload_n hx hb dX3_frame_78 rfl (lv_at hl 3 rfl) ?_
          obtain ⟨hi_24, hw⟩ := hw
          refine g_iald hx hb hK hG (k := 6) (gok_lo (by decide)) (gc_6) hi_24 dX3_frame_79 ?_
          refine lv_iload hx hb dX3_frame_80 (lv_at hl 1 rfl) ?_
          refine lv_iconst (v := 3) hx hb dX3_frame_82 (by decide) ?_
          refine lv_icmp_ne (tgt := 90) hx hb dX3_frame_83 (by decide) (fun c_25 => ?_) (fun c_25 => ?_)
          · have hw := hw.1 c_25
            refine lv_iconst (v := 1) hx hb dX3_frame_90 (by decide) ?_
            refine lv_imul hx hb dX3_frame_91 ?_
            refine lv_iadd hx hb dX3_frame_92 ?_
            refine g_callv (va_runV (As := [.int p1, .int p2, .int p3, .int p4, .int p5, .int p6, .int ((g_7.1 4 1) + ((g_7.1 6 p1.toNatClampNeg) * 1))]) (rest := []) ⟨hx, hb, hml, hown, hts⟩ (m_X3_add hl9 D K sa ad _ _ p1 p2 p3 p4 p5 p6 ((g_7.1 4 1) + ((g_7.1 6 p1.toNatClampNeg) * 1)) g_7 hw) (cwV 7 hts (gGood gCons (gV q_516 q_518 q_17 q_23 q_519)) rfl rfl rfl (by decide +kernel) ⟨Nat.le_of_ble_eq_true rfl, Nat.le_of_ble_eq_true rfl⟩) ⟨gPc_blind, g_recv hK hG (gok_lo (by decide)) (gc_M) rfl, gPc_at hE hG hA⟩ rfl rfl hl.1 rfl (lv_room (Nat.le_of_ble_eq_true rfl)) dX3_frame_93 ⟨Nat.le_of_ble_eq_true rfl, Nat.le_of_ble_eq_true rfl⟩) hG hA (fun g_26 H locs hw hG => ?_)
            try dsimp only at hw
            refine lv_iload hx hb dX3_frame_96 (lv_at hl 1 rfl) ?_
            refine lv_iconst (v := 2) hx hb dX3_frame_98 (by decide) ?_
            refine lv_icmp_ne (tgt := 128) hx hb dX3_frame_99 (by decide) (fun c_27 => ?_) (fun c_27 => ?_)
            · have hw := hw.1 c_27
              exact g_vret hx hb hr hlocks hw hG (by decide) (by decide) dX3_frame_128
            · have hw := hw.2 c_27
              refine lv_aload_n hx hb dX3_frame_102 rfl (lv_at hl 2 rfl) ?_
              refine lv_iload_n hx hb dX3_frame_103 rfl (lv_at hl 3 rfl) ?_
              refine lv_iload_n hx hb dX3_frame_104 rfl (lv_at hl 4 rfl) ?_
              refine lv_iload_n hx hb dX3_frame_105 rfl (lv_at hl 5 rfl) ?_
              refine lv_iload hx hb dX3_frame_106 (lv_at hl 6 rfl) ?_
              refine lv_iload hx hb dX3_frame_108 (lv_at hl 7 rfl) ?_
              refine lv_iload hx hb dX3_frame_110 (lv_at hl 8 rfl) ?_
              refine lv_aload_n hx hb dX3_frame_112 rfl (lv_at hl 2 rfl) ?_
              refine g_get (own := RX3) (C := RX3) (T := TX3) (N := 19) (ci := 3) hx hb hq hin_X3 hown hK hG (k := 4) (gok_lo (by decide)) (gc_M) rfl 1 (by decide) (hq _ q_414) rfl (v := .int (g_26.1 4 1)) rfl dX3_frame_113 ?_
              refine lv_aload_n hx hb dX3_frame_116 rfl (lv_at hl 2 rfl) ?_
              refine g_get (own := RX3) (C := RX3) (T := TX3) (N := 19) (ci := 3) hx hb hq hin_X3 hown hK hG (k := 4) (gok_lo (by decide)) (gc_M) rfl 4 (by decide) (hq _ q_417) rfl (v := .ref (ad 6)) rfl dX3_frame_117 ?_
              refine lv_iload_n hx hb dX3_frame_120 rfl (lv_at hl 3 rfl) ?_
              obtain ⟨hi_28, hw⟩ := hw
              refine g_iald hx hb hK hG (k := 6) (gok_lo (by decide)) (gc_6) hi_28 dX3_frame_121 ?_
              refine lv_iconst (v := 3) hx hb dX3_frame_122 (by decide) ?_
              refine lv_imul hx hb dX3_frame_123 ?_
              refine lv_iadd hx hb dX3_frame_124 ?_
              refine g_callv (va_runV (As := [.int p1, .int p2, .int p3, .int p4, .int p5, .int p6, .int ((g_26.1 4 1) + ((g_26.1 6 p1.toNatClampNeg) * 3))]) (rest := []) ⟨hx, hb, hml, hown, hts⟩ (m_X3_add hl9 D K sa ad _ _ p1 p2 p3 p4 p5 p6 ((g_26.1 4 1) + ((g_26.1 6 p1.toNatClampNeg) * 3)) g_26 hw) (cwV 7 hts (gGood gCons (gV q_516 q_518 q_17 q_23 q_519)) rfl rfl rfl (by decide +kernel) ⟨Nat.le_of_ble_eq_true rfl, Nat.le_of_ble_eq_true rfl⟩) ⟨gPc_blind, g_recv hK hG (gok_lo (by decide)) (gc_M) rfl, gPc_at hE hG hA⟩ rfl rfl hl.1 rfl (lv_room (Nat.le_of_ble_eq_true rfl)) dX3_frame_125 ⟨Nat.le_of_ble_eq_true rfl, Nat.le_of_ble_eq_true rfl⟩) hG hA (fun g_29 H locs hw hG => ?_)
              try dsimp only at hw
              exact g_vret hx hb hr hlocks hw hG (by decide) (by decide) dX3_frame_128
          · have hw := hw.2 c_25
            refine lv_iconst (v := 4) hx hb dX3_frame_86 (by decide) ?_
            refine lv_goto (tgt := 91) hx hb dX3_frame_87 (by decide) ?_
            refine lv_imul hx hb dX3_frame_91 ?_
            refine lv_iadd hx hb dX3_frame_92 ?_
            refine g_callv (va_runV (As := [.int p1, .int p2, .int p3, .int p4, .int p5, .int p6, .int ((g_7.1 4 1) + ((g_7.1 6 p1.toNatClampNeg) * 4))]) (rest := []) ⟨hx, hb, hml, hown, hts⟩ (m_X3_add hl9 D K sa ad _ _ p1 p2 p3 p4 p5 p6 ((g_7.1 4 1) + ((g_7.1 6 p1.toNatClampNeg) * 4)) g_7 hw) (cwV 7 hts (gGood gCons (gV q_516 q_518 q_17 q_23 q_519)) rfl rfl rfl (by decide +kernel) ⟨Nat.le_of_ble_eq_true rfl, Nat.le_of_ble_eq_true rfl⟩) ⟨gPc_blind, g_recv hK hG (gok_lo (by decide)) (gc_M) rfl, gPc_at hE hG hA⟩ rfl rfl hl.1 rfl (lv_room (Nat.le_of_ble_eq_true rfl)) dX3_frame_93 ⟨Nat.le_of_ble_eq_true rfl, Nat.le_of_ble_eq_true rfl⟩) hG hA (fun g_30 H locs hw hG => ?_)
            try dsimp only at hw
            refine lv_iload hx hb dX3_frame_96 (lv_at hl 1 rfl) ?_
            refine lv_iconst (v := 2) hx hb dX3_frame_98 (by decide) ?_
            refine lv_icmp_ne (tgt := 128) hx hb dX3_frame_99 (by decide) (fun c_31 => ?_) (fun c_31 => ?_)
            · have hw := hw.1 c_31
              exact g_vret hx hb hr hlocks hw hG (by decide) (by decide) dX3_frame_128
            · have hw := hw.2 c_31
              refine lv_aload_n hx hb dX3_frame_102 rfl (lv_at hl 2 rfl) ?_
              refine lv_iload_n hx hb dX3_frame_103 rfl (lv_at hl 3 rfl) ?_
              refine lv_iload_n hx hb dX3_frame_104 rfl (lv_at hl 4 rfl) ?_
              refine lv_iload_n hx hb dX3_frame_105 rfl (lv_at hl 5 rfl) ?_
              refine lv_iload hx hb dX3_frame_106 (lv_at hl 6 rfl) ?_
              refine lv_iload hx hb dX3_frame_108 (lv_at hl 7 rfl) ?_
              refine lv_iload hx hb dX3_frame_110 (lv_at hl 8 rfl) ?_
              refine lv_aload_n hx hb dX3_frame_112 rfl (lv_at hl 2 rfl) ?_
              refine g_get (own := RX3) (C := RX3) (T := TX3) (N := 19) (ci := 3) hx hb hq hin_X3 hown hK hG (k := 4) (gok_lo (by decide)) (gc_M) rfl 1 (by decide) (hq _ q_414) rfl (v := .int (g_30.1 4 1)) rfl dX3_frame_113 ?_
              refine lv_aload_n hx hb dX3_frame_116 rfl (lv_at hl 2 rfl) ?_
              refine g_get (own := RX3) (C := RX3) (T := TX3) (N := 19) (ci := 3) hx hb hq hin_X3 hown hK hG (k := 4) (gok_lo (by decide)) (gc_M) rfl 4 (by decide) (hq _ q_417) rfl (v := .ref (ad 6)) rfl dX3_frame_117 ?_
              refine lv_iload_n hx hb dX3_frame_120 rfl (lv_at hl 3 rfl) ?_
              obtain ⟨hi_32, hw⟩ := hw
              refine g_iald hx hb hK hG (k := 6) (gok_lo (by decide)) (gc_6) hi_32 dX3_frame_121 ?_
              refine lv_iconst (v := 3) hx hb dX3_frame_122 (by decide) ?_
              refine lv_imul hx hb dX3_frame_123 ?_
              refine lv_iadd hx hb dX3_frame_124 ?_
              refine g_callv (va_runV (As := [.int p1, .int p2, .int p3, .int p4, .int p5, .int p6, .int ((g_30.1 4 1) + ((g_30.1 6 p1.toNatClampNeg) * 3))]) (rest := []) ⟨hx, hb, hml, hown, hts⟩ (m_X3_add hl9 D K sa ad _ _ p1 p2 p3 p4 p5 p6 ((g_30.1 4 1) + ((g_30.1 6 p1.toNatClampNeg) * 3)) g_30 hw) (cwV 7 hts (gGood gCons (gV q_516 q_518 q_17 q_23 q_519)) rfl rfl rfl (by decide +kernel) ⟨Nat.le_of_ble_eq_true rfl, Nat.le_of_ble_eq_true rfl⟩) ⟨gPc_blind, g_recv hK hG (gok_lo (by decide)) (gc_M) rfl, gPc_at hE hG hA⟩ rfl rfl hl.1 rfl (lv_room (Nat.le_of_ble_eq_true rfl)) dX3_frame_125 ⟨Nat.le_of_ble_eq_true rfl, Nat.le_of_ble_eq_true rfl⟩) hG hA (fun g_33 H locs hw hG => ?_)
              try dsimp only at hw
              exact g_vret hx hb hr hlocks hw hG (by decide) (by decide) dX3_frame_128
        · have hw := hw.2 c_23
          exact g_vret hx hb hr hlocks hw hG (by decide) (by decide) dX3_frame_59
  · have hw := hw.2 c_6
    exact g_vret hx hb hr hlocks hw hG (by decide) (by decide) dX3_frame_19

def wpl_X3_put_105 (post : Int32 → gS → Prop) : Nat → Int32 → Int32 → Int32 → Int32 → Int32 → Int32 → Int32 → Int32 → gS → Prop
  | 0 => fun _ _ _ _ _ _ _ _ _ => False
  | n + 1 => fun x1 x2 x3 x4 x5 x6 x7 x8 g => (((g.1 4 3) ≤ x8) → (∀ g_11 : gS, g_11 = gi g 4 3 (0 : Int32) → (post x6 g_11))) ∧ ((¬ (g.1 4 3) ≤ x8) → (((x7 ≤ ((g.1 4 3) - x8)) → (wp_X3_frame (fun g_13 => (∀ x_14 : Int32, x_14 = x6 + 1 → (∀ x_15 : Int32, x_15 = x8 + x7 → (wpl_X3_put_105 post n x1 x2 x3 x4 x5 x_14 x7 x_15 g_13)))) x1 x2 x3 x4 x8 x7 g)) ∧ ((¬ x7 ≤ ((g.1 4 3) - x8)) → (wp_X3_frame (fun g_16 => (∀ x_17 : Int32, x_17 = x6 + 1 → (∀ x_18 : Int32, x_18 = x8 + x7 → (wpl_X3_put_105 post n x1 x2 x3 x4 x5 x_17 x7 x_18 g_16)))) x1 x2 x3 x4 x8 ((g.1 4 3) - x8) g))))
set_option maxHeartbeats 4000000 in
set_option maxRecDepth 100000 in
theorem L_X3_put_105 {p : Program} {l : Launch} {e : Env} {s : State} {m : MethodId} {args : Array Value} {below : List Frame} {meth : Method} {c : Code} {D : va_G} {K : Nat → ClassId} {sa ad : Nat → Nat} {A : Nat → Prop} (post : Int32 → gS → Prop) (hl9 : l.stackTraces = false) (hx : p.tables.exec = Jvm.exec) (hb : c.code = cX3_put) (hr : meth.sig.returnType = (some .int)) (hml : c.maxLocals = 9) (hown : s.vm.findClass RX3 = some m.cls) (hts : ∀ w ∈ wsX3_put, w.before args s = true) (hlocks : meth.locks = false) (hA : ∀ q, s.heap.size ≤ q → A q) (hE : gE D K sa A s s.heap) : ∀ (n : Nat) (x1 : Int32) (x2 : Int32) (x3 : Int32) (x4 : Int32) (x5 : Int32) (x6 : Int32) (x7 : Int32) (x8 : Int32) (g : gS), wpl_X3_put_105 post n x1 x2 x3 x4 x5 x6 x7 x8 g → ∀ (H : Heap) (locs : List Loc) (ls : Array Slot), gX D K ad A s.heap g H locs → lv_has ls 9 [(0, .ref (ad 4)), (1, .int x1), (2, .int x2), (3, .int x3), (4, .int x4), (5, .int x5), (6, .int x6), (7, .int x7), (8, .int x8)] → W p l e ({ frames := 2, cells := 0, slots := 0, locals := 58 } : Room) s m args below meth c H locs 0 0 (MQ below (va_Qi post (gB D K ad A) A) args s 0 0 A) (F0 m 105 ls []) := by
  have hK := hE.1
  have hq : ∀ w ∈ gW, w.before args s = true := fun w h => hts w (List.mem_cons_of_mem _ h)
  intro n
  induction n with
  | zero =>
    intro x1 x2 x3 x4 x5 x6 x7 x8 g hw
    exact hw.elim
  | succ n ih =>
    intro x1 x2 x3 x4 x5 x6 x7 x8 g hw H locs ls hG hl
    dsimp only [wpl_X3_put_105] at hw
    refine lv_iload hx hb dX3_put_105 (lv_at hl 8 rfl) ?_
    refine lv_aload_n hx hb dX3_put_107 rfl (lv_at hl 0 rfl) ?_
    refine g_get (own := RX3) (C := RX3) (T := TX3) (N := 19) (ci := 3) hx hb hq hin_X3 hown hK hG (k := 4) (gok_lo (by decide)) (gc_M) rfl 9 (by decide) (hq _ q_422) rfl (v := .int (g.1 4 3)) rfl dX3_put_108 ?_
    refine lv_icmp_ge (tgt := 162) hx hb dX3_put_111 (by decide) (fun c_10 => ?_) (fun c_10 => ?_)
    · have hw := hw.1 c_10
      refine lv_aload_n hx hb dX3_put_162 rfl (lv_at hl 0 rfl) ?_
      refine lv_iconst (v := 0) hx hb dX3_put_163 (by decide) ?_
      refine g_put (own := RX3) (C := RX3) (T := TX3) (N := 19) (ci := 3) hx hb hq hin_X3 tyX3 tyX3_ok nmX3 hown hK hG (k := 4) (gok_lo (by decide)) (gc_M) rfl 9 (by decide) (hq _ q_422) rfl rfl (ty := .int) (v := .int 0) (by decide +kernel) rfl rfl (Nat.le_of_ble_eq_true rfl) (gi g 4 3 (0 : Int32)) (gs_M3) (gho_lo (by decide)) dX3_put_164 (fun H locs hG => ?_)
      obtain ⟨g_11, eg_11⟩ : ∃ z, z = gi g 4 3 (0 : Int32) := ⟨_, rfl⟩
      rw [← eg_11] at hG
      have hw := hw g_11 eg_11
      refine lv_iload hx hb dX3_put_167 (lv_at hl 6 rfl) ?_
      exact g_iret hx hb hr hlocks hw hG (by decide) (by decide) dX3_put_169
    · have hw := hw.2 c_10
      refine lv_aload_n hx hb dX3_put_114 rfl (lv_at hl 0 rfl) ?_
      refine lv_iload_n hx hb dX3_put_115 rfl (lv_at hl 1 rfl) ?_
      refine lv_iload_n hx hb dX3_put_116 rfl (lv_at hl 2 rfl) ?_
      refine lv_iload_n hx hb dX3_put_117 rfl (lv_at hl 3 rfl) ?_
      refine lv_iload hx hb dX3_put_118 (lv_at hl 4 rfl) ?_
      refine lv_iload hx hb dX3_put_120 (lv_at hl 8 rfl) ?_
      refine lv_aload_n hx hb dX3_put_122 rfl (lv_at hl 0 rfl) ?_
      refine g_get (own := RX3) (C := RX3) (T := TX3) (N := 19) (ci := 3) hx hb hq hin_X3 hown hK hG (k := 4) (gok_lo (by decide)) (gc_M) rfl 9 (by decide) (hq _ q_422) rfl (v := .int (g.1 4 3)) rfl dX3_put_123 ?_
      refine lv_iload hx hb dX3_put_126 (lv_at hl 8 rfl) ?_
      refine lv_isub hx hb dX3_put_128 ?_
      refine lv_iload hx hb dX3_put_129 (lv_at hl 7 rfl) ?_
      refine lv_icmp_ge (tgt := 144) hx hb dX3_put_131 (by decide) (fun c_12 => ?_) (fun c_12 => ?_)
      · have hw := hw.1 c_12
        refine lv_iload hx hb dX3_put_144 (lv_at hl 7 rfl) ?_
        refine g_callv (va_runV (As := [.int x1, .int x2, .int x3, .int x4, .int x8, .int x7]) (rest := []) ⟨hx, hb, hml, hown, hts⟩ (m_X3_frame hl9 D K sa ad _ _ x1 x2 x3 x4 x8 x7 g hw) (cwV 6 hts (gGood gCons (gV q_508 q_510 q_15 q_23 q_511)) rfl rfl rfl (by decide +kernel) ⟨Nat.le_of_ble_eq_true rfl, Nat.le_of_ble_eq_true rfl⟩) ⟨gPc_blind, g_recv hK hG (gok_lo (by decide)) (gc_M) rfl, gPc_at hE hG hA⟩ rfl rfl hl.1 rfl (lv_room (Nat.le_of_ble_eq_true rfl)) dX3_put_146 ⟨Nat.le_of_ble_eq_true rfl, Nat.le_of_ble_eq_true rfl⟩) hG hA (fun g_13 H locs hw hG => ?_)
        try dsimp only at hw
        obtain ⟨x_14, ex_14⟩ : ∃ y : Int32, y = x6 + 1 := ⟨_, rfl⟩
        have hw := hw x_14 ex_14
        refine lv_iinc (v := x_14) (lv' := [(6, .int x_14), (0, .ref (ad 4)), (1, .int x1), (2, .int x2), (3, .int x3), (4, .int x4), (5, .int x5), (7, .int x7), (8, .int x8)]) hx hb dX3_put_149 hl (k := 6) rfl (by rw [ex_14]; rfl) (by decide) rfl (fun ls hl => ?_)
        refine lv_iload hx hb dX3_put_152 (lv_at hl 8 rfl) ?_
        refine lv_iload hx hb dX3_put_154 (lv_at hl 7 rfl) ?_
        refine lv_iadd hx hb dX3_put_156 ?_
        refine lv_topi (fun x_15 ex_15 => ?_)
        have hw := hw x_15 ex_15
        refine lv_istore (lv' := [(8, .int x_15), (6, .int x_14), (0, .ref (ad 4)), (1, .int x1), (2, .int x2), (3, .int x3), (4, .int x4), (5, .int x5), (7, .int x7)]) hx hb dX3_put_157 hl (by decide) rfl (fun ls hl => ?_)
        refine lv_goto (tgt := 105) hx hb dX3_put_159 (by decide) ?_
        exact ih x1 x2 x3 x4 x5 x_14 x7 x_15 g_13 hw _ _ _ hG (lv_sub hl [2, 3, 4, 5, 6, 7, 1, 8, 0] rfl)
      · have hw := hw.2 c_12
        refine lv_aload_n hx hb dX3_put_134 rfl (lv_at hl 0 rfl) ?_
        refine g_get (own := RX3) (C := RX3) (T := TX3) (N := 19) (ci := 3) hx hb hq hin_X3 hown hK hG (k := 4) (gok_lo (by decide)) (gc_M) rfl 9 (by decide) (hq _ q_422) rfl (v := .int (g.1 4 3)) rfl dX3_put_135 ?_
        refine lv_iload hx hb dX3_put_138 (lv_at hl 8 rfl) ?_
        refine lv_isub hx hb dX3_put_140 ?_
        refine lv_goto (tgt := 146) hx hb dX3_put_141 (by decide) ?_
        refine g_callv (va_runV (As := [.int x1, .int x2, .int x3, .int x4, .int x8, .int ((g.1 4 3) - x8)]) (rest := []) ⟨hx, hb, hml, hown, hts⟩ (m_X3_frame hl9 D K sa ad _ _ x1 x2 x3 x4 x8 ((g.1 4 3) - x8) g hw) (cwV 6 hts (gGood gCons (gV q_508 q_510 q_15 q_23 q_511)) rfl rfl rfl (by decide +kernel) ⟨Nat.le_of_ble_eq_true rfl, Nat.le_of_ble_eq_true rfl⟩) ⟨gPc_blind, g_recv hK hG (gok_lo (by decide)) (gc_M) rfl, gPc_at hE hG hA⟩ rfl rfl hl.1 rfl (lv_room (Nat.le_of_ble_eq_true rfl)) dX3_put_146 ⟨Nat.le_of_ble_eq_true rfl, Nat.le_of_ble_eq_true rfl⟩) hG hA (fun g_16 H locs hw hG => ?_)
        try dsimp only at hw
        obtain ⟨x_17, ex_17⟩ : ∃ y : Int32, y = x6 + 1 := ⟨_, rfl⟩
        have hw := hw x_17 ex_17
        refine lv_iinc (v := x_17) (lv' := [(6, .int x_17), (0, .ref (ad 4)), (1, .int x1), (2, .int x2), (3, .int x3), (4, .int x4), (5, .int x5), (7, .int x7), (8, .int x8)]) hx hb dX3_put_149 hl (k := 6) rfl (by rw [ex_17]; rfl) (by decide) rfl (fun ls hl => ?_)
        refine lv_iload hx hb dX3_put_152 (lv_at hl 8 rfl) ?_
        refine lv_iload hx hb dX3_put_154 (lv_at hl 7 rfl) ?_
        refine lv_iadd hx hb dX3_put_156 ?_
        refine lv_topi (fun x_18 ex_18 => ?_)
        have hw := hw x_18 ex_18
        refine lv_istore (lv' := [(8, .int x_18), (6, .int x_17), (0, .ref (ad 4)), (1, .int x1), (2, .int x2), (3, .int x3), (4, .int x4), (5, .int x5), (7, .int x7)]) hx hb dX3_put_157 hl (by decide) rfl (fun ls hl => ?_)
        refine lv_goto (tgt := 105) hx hb dX3_put_159 (by decide) ?_
        exact ih x1 x2 x3 x4 x5 x_17 x7 x_18 g_16 hw _ _ _ hG (lv_sub hl [2, 3, 4, 5, 6, 7, 1, 8, 0] rfl)
def wp_X3_put (post : Int32 → gS → Prop) (p1 : Int32) (p2 : Int32) (p3 : Int32) (p4 : Int32) (g : gS) : Prop := wp_X3_isNet (fun r_2 g_1 => (((r_2 = 0) → (∀ g_4 : gS, g_4 = gi g_1 4 0 (1 : Int32) → ((((g_4.1 4 0) ≤ 0) → (vp_in p1 24 ∧ (∀ x_7 : Int32, x_7 = (g_4.1 5 p1.toNatClampNeg) - 20 → (((x_7 < (g_4.1 4 3)) → (∀ x_9 : Int32, x_9 = (x_7 / 8) * 8 → (∃ n, wpl_X3_put_105 post n p1 p2 p3 p4 x_7 0 x_9 0 g_4))) ∧ ((¬ x_7 < (g_4.1 4 3)) → (wp_X3_frame (fun g_20 => (∀ g_21 : gS, g_21 = gi g_20 4 3 (0 : Int32) → (post 0 g_21))) p1 p2 p3 p4 0 (g_4.1 4 3) g_4)))))) ∧ ((¬ (g_4.1 4 0) ≤ 0) → (post 0 g_4))))) ∧ ((¬ r_2 = 0) → (((p2 < 0) → (∀ g_23 : gS, g_23 = gi g_1 4 0 (1 : Int32) → ((((g_23.1 4 0) ≤ 0) → (vp_in p1 24 ∧ (∀ x_26 : Int32, x_26 = (g_23.1 5 p1.toNatClampNeg) - 20 → (((x_26 < (g_23.1 4 3)) → (∀ x_28 : Int32, x_28 = (x_26 / 8) * 8 → (∃ n, wpl_X3_put_105 post n p1 p2 p3 p4 x_26 0 x_28 0 g_23))) ∧ ((¬ x_26 < (g_23.1 4 3)) → (wp_X3_frame (fun g_30 => (∀ g_31 : gS, g_31 = gi g_30 4 3 (0 : Int32) → (post 0 g_31))) p1 p2 p3 p4 0 (g_23.1 4 3) g_23)))))) ∧ ((¬ (g_23.1 4 0) ≤ 0) → (post 0 g_23))))) ∧ ((¬ p2 < 0) → (((7 < p2) → (∀ g_33 : gS, g_33 = gi g_1 4 0 (1 : Int32) → ((((g_33.1 4 0) ≤ 0) → (vp_in p1 24 ∧ (∀ x_36 : Int32, x_36 = (g_33.1 5 p1.toNatClampNeg) - 20 → (((x_36 < (g_33.1 4 3)) → (∀ x_38 : Int32, x_38 = (x_36 / 8) * 8 → (∃ n, wpl_X3_put_105 post n p1 p2 p3 p4 x_36 0 x_38 0 g_33))) ∧ ((¬ x_36 < (g_33.1 4 3)) → (wp_X3_frame (fun g_40 => (∀ g_41 : gS, g_41 = gi g_40 4 3 (0 : Int32) → (post 0 g_41))) p1 p2 p3 p4 0 (g_33.1 4 3) g_33)))))) ∧ ((¬ (g_33.1 4 0) ≤ 0) → (post 0 g_33))))) ∧ ((¬ 7 < p2) → (((p3 < (-1)) → (∀ g_43 : gS, g_43 = gi g_1 4 0 (1 : Int32) → ((((g_43.1 4 0) ≤ 0) → (vp_in p1 24 ∧ (∀ x_46 : Int32, x_46 = (g_43.1 5 p1.toNatClampNeg) - 20 → (((x_46 < (g_43.1 4 3)) → (∀ x_48 : Int32, x_48 = (x_46 / 8) * 8 → (∃ n, wpl_X3_put_105 post n p1 p2 p3 p4 x_46 0 x_48 0 g_43))) ∧ ((¬ x_46 < (g_43.1 4 3)) → (wp_X3_frame (fun g_50 => (∀ g_51 : gS, g_51 = gi g_50 4 3 (0 : Int32) → (post 0 g_51))) p1 p2 p3 p4 0 (g_43.1 4 3) g_43)))))) ∧ ((¬ (g_43.1 4 0) ≤ 0) → (post 0 g_43))))) ∧ ((¬ p3 < (-1)) → (((7 < p3) → (∀ g_53 : gS, g_53 = gi g_1 4 0 (1 : Int32) → ((((g_53.1 4 0) ≤ 0) → (vp_in p1 24 ∧ (∀ x_56 : Int32, x_56 = (g_53.1 5 p1.toNatClampNeg) - 20 → (((x_56 < (g_53.1 4 3)) → (∀ x_58 : Int32, x_58 = (x_56 / 8) * 8 → (∃ n, wpl_X3_put_105 post n p1 p2 p3 p4 x_56 0 x_58 0 g_53))) ∧ ((¬ x_56 < (g_53.1 4 3)) → (wp_X3_frame (fun g_60 => (∀ g_61 : gS, g_61 = gi g_60 4 3 (0 : Int32) → (post 0 g_61))) p1 p2 p3 p4 0 (g_53.1 4 3) g_53)))))) ∧ ((¬ (g_53.1 4 0) ≤ 0) → (post 0 g_53))))) ∧ ((¬ 7 < p3) → (((¬ p3 = p2) → (∀ g_63 : gS, g_63 = gi g_1 4 0 (0 : Int32) → ((((g_63.1 4 0) ≤ 0) → (vp_in p1 24 ∧ (∀ x_66 : Int32, x_66 = (g_63.1 5 p1.toNatClampNeg) - 20 → (((x_66 < (g_63.1 4 3)) → (∀ x_68 : Int32, x_68 = (x_66 / 8) * 8 → (∃ n, wpl_X3_put_105 post n p1 p2 p3 p4 x_66 0 x_68 0 g_63))) ∧ ((¬ x_66 < (g_63.1 4 3)) → (wp_X3_frame (fun g_70 => (∀ g_71 : gS, g_71 = gi g_70 4 3 (0 : Int32) → (post 0 g_71))) p1 p2 p3 p4 0 (g_63.1 4 3) g_63)))))) ∧ ((¬ (g_63.1 4 0) ≤ 0) → (post 0 g_63))))) ∧ ((p3 = p2) → (∀ g_72 : gS, g_72 = gi g_1 4 0 (1 : Int32) → ((((g_72.1 4 0) ≤ 0) → (vp_in p1 24 ∧ (∀ x_75 : Int32, x_75 = (g_72.1 5 p1.toNatClampNeg) - 20 → (((x_75 < (g_72.1 4 3)) → (∀ x_77 : Int32, x_77 = (x_75 / 8) * 8 → (∃ n, wpl_X3_put_105 post n p1 p2 p3 p4 x_75 0 x_77 0 g_72))) ∧ ((¬ x_75 < (g_72.1 4 3)) → (wp_X3_frame (fun g_79 => (∀ g_80 : gS, g_80 = gi g_79 4 3 (0 : Int32) → (post 0 g_80))) p1 p2 p3 p4 0 (g_72.1 4 3) g_72)))))) ∧ ((¬ (g_72.1 4 0) ≤ 0) → (post 0 g_72))))))))))))))))) p1 g
set_option maxHeartbeats 4000000 in
set_option maxRecDepth 100000 in
theorem m_X3_put {l : Launch} (hl9 : l.stackTraces = false) (D : va_G) (K : Nat → ClassId) (sa ad : Nat → Nat) (sz : Nat) (post : Int32 → gS → Prop) (p1 : Int32) (p2 : Int32) (p3 : Int32) (p4 : Int32) (g : gS) (hw : wp_X3_put post p1 p2 p3 p4 g) : Met l yX3_put wsX3_put ({ frames := 2, cells := 0, slots := 0, locals := 58 } : Room) (gPc D K sa ad sz g [.ref (ad 4), .int p1, .int p2, .int p3, .int p4]) (va_Qi post (gB D K ad (va_A (gw K ad g) sz)) (va_A (gw K ad g) sz)) 0 0 (va_A (gw K ad g) sz) := by
  refine Met.ofW (cc := cX3_put) (maxL := 9) (ret := (some .int)) (by decide) rfl ?_
  intro p e s m args below meth c s₁ B hml hv
  obtain ⟨rfl, hsz, hP, hE, hD0⟩ := hv
  have hx := B.exec
  have hb := B.bytes
  have hr := B.returns
  have hts := atoms_spec (ws := wsX3_put) B.pre
  have hq : ∀ w ∈ gW, w.before _ s = true := fun w h => hts w (List.mem_cons_of_mem _ h)
  have hown : s.vm.findClass RX3 = some m.cls := findClass_of_methodNamed B.named
  have hlocks := B.notSynchronized
  subst hsz
  have hD := hD0.self (sz := s.heap.size)
  generalize hAe : va_A (gw K ad g) s.heap.size = A at hD hE ⊢
  have hA : ∀ q : Nat, s.heap.size ≤ q → A q := fun q h => by rw [← hAe]; exact Or.inr h
  have hK := hE.1
  have hG : gX D K ad A s.heap g s.heap [] := ⟨hP, hD, va_S.rf⟩
  have hl := lv_entry ([.ref (ad 4), .int p1, .int p2, .int p3, .int p4]) (n := 9) (Nat.le_of_ble_eq_true rfl)
  rw [lg_entry_eq]
  generalize (lg_sl ([.ref (ad 4), .int p1, .int p2, .int p3, .int p4]) ++ List.replicate (9 - (lg_sl ([.ref (ad 4), .int p1, .int p2, .int p3, .int p4])).length) Slot.unset).toArray = ls at hl ⊢
  have hl : lv_has ls 9 [(0, .ref (ad 4)), (1, .int p1), (2, .int p2), (3, .int p3), (4, .int p4)] := hl
  dsimp only [wp_X3_put] at hw
  refine lv_aload_n hx hb dX3_put_0 rfl (lv_at hl 0 rfl) ?_
  refine lv_aload_n hx hb dX3_put_1 rfl (lv_at hl 0 rfl) ?_
  refine lv_iload_n hx hb dX3_put_2 rfl (lv_at hl 1 rfl) ?_
  refine g_calli (va_runV (As := [.int p1]) (rest := [.ref (ad 4)]) ⟨hx, hb, hml, hown, hts⟩ (m_X3_isNet hl9 D K sa ad _ _ p1 g hw) (cwV 1 hts (gGood gCons (gV q_486 q_488 q_13 q_23 q_489)) rfl rfl rfl (by decide +kernel) ⟨Nat.le_of_ble_eq_true rfl, Nat.le_of_ble_eq_true rfl⟩) ⟨gPc_blind, g_recv hK hG (gok_lo (by decide)) (gc_M) rfl, gPc_at hE hG hA⟩ rfl rfl hl.1 rfl (lv_room (Nat.le_of_ble_eq_true rfl)) dX3_put_3 ⟨Nat.le_of_ble_eq_true rfl, Nat.le_of_ble_eq_true rfl⟩) hG hA (fun r_2 g_1 H locs hw hG => ?_)
  try dsimp only at hw
  refine lv_if_eq (tgt := 35) hx hb dX3_put_6 (by decide) (fun c_3 => ?_) (fun c_3 => ?_)
  · have hw := hw.1 c_3
    refine lv_iconst (v := 1) hx hb dX3_put_35 (by decide) ?_
    refine lv_goto (tgt := 40) hx hb dX3_put_36 (by decide) ?_
    refine g_put (own := RX3) (C := RX3) (T := TX3) (N := 19) (ci := 3) hx hb hq hin_X3 tyX3 tyX3_ok nmX3 hown hK hG (k := 4) (gok_lo (by decide)) (gc_M) rfl 0 (by decide) (hq _ q_413) rfl rfl (ty := .int) (v := .int 1) (by decide +kernel) rfl rfl (Nat.le_of_ble_eq_true rfl) (gi g_1 4 0 (1 : Int32)) (gs_M0) (gho_lo (by decide)) dX3_put_40 (fun H locs hG => ?_)
    obtain ⟨g_4, eg_4⟩ : ∃ z, z = gi g_1 4 0 (1 : Int32) := ⟨_, rfl⟩
    rw [← eg_4] at hG
    have hw := hw g_4 eg_4
    refine lv_aload_n hx hb dX3_put_43 rfl (lv_at hl 0 rfl) ?_
    refine g_get (own := RX3) (C := RX3) (T := TX3) (N := 19) (ci := 3) hx hb hq hin_X3 hown hK hG (k := 4) (gok_lo (by decide)) (gc_M) rfl 0 (by decide) (hq _ q_413) rfl (v := .int (g_4.1 4 0)) rfl dX3_put_44 ?_
    refine lv_if_le (tgt := 52) hx hb dX3_put_47 (by decide) (fun c_5 => ?_) (fun c_5 => ?_)
    · have hw := hw.1 c_5
      refine lv_aload_n hx hb dX3_put_52 rfl (lv_at hl 0 rfl) ?_
      refine g_get (own := RX3) (C := RX3) (T := TX3) (N := 19) (ci := 3) hx hb hq hin_X3 hown hK hG (k := 4) (gok_lo (by decide)) (gc_M) rfl 3 (by decide) (hq _ q_416) rfl (v := .ref (ad 5)) rfl dX3_put_53 ?_
      refine lv_iload_n hx hb dX3_put_56 rfl (lv_at hl 1 rfl) ?_
      obtain ⟨hi_6, hw⟩ := hw
      refine g_iald hx hb hK hG (k := 5) (gok_lo (by decide)) (gc_5) hi_6 dX3_put_57 ?_
      refine lv_bipush (v := 20) hx hb dX3_put_58 (by decide) ?_
      refine lv_isub hx hb dX3_put_60 ?_
      refine lv_topi (fun x_7 ex_7 => ?_)
      have hw := hw x_7 ex_7
      refine lv_istore (lv' := [(5, .int x_7), (0, .ref (ad 4)), (1, .int p1), (2, .int p2), (3, .int p3), (4, .int p4)]) hx hb dX3_put_61 hl (by decide) rfl (fun ls hl => ?_)
      refine lv_iconst (v := 0) hx hb dX3_put_63 (by decide) ?_
      refine lv_istore (lv' := [(6, .int 0), (5, .int x_7), (0, .ref (ad 4)), (1, .int p1), (2, .int p2), (3, .int p3), (4, .int p4)]) hx hb dX3_put_64 hl (by decide) rfl (fun ls hl => ?_)
      refine lv_aload_n hx hb dX3_put_66 rfl (lv_at hl 2 rfl) ?_
      refine g_get (own := RX3) (C := RX3) (T := TX3) (N := 19) (ci := 3) hx hb hq hin_X3 hown hK hG (k := 4) (gok_lo (by decide)) (gc_M) rfl 9 (by decide) (hq _ q_422) rfl (v := .int (g_4.1 4 3)) rfl dX3_put_67 ?_
      refine lv_iload hx hb dX3_put_70 (lv_at hl 1 rfl) ?_
      refine lv_icmp_gt (tgt := 92) hx hb dX3_put_72 (by decide) (fun c_8 => ?_) (fun c_8 => ?_)
      · have hw := hw.1 c_8
        refine lv_iload hx hb dX3_put_92 (lv_at hl 1 rfl) ?_
        refine lv_bipush (v := 8) hx hb dX3_put_94 (by decide) ?_
        refine lv_idiv hx hb dX3_put_96 (by decide) ?_
        refine lv_bipush (v := 8) hx hb dX3_put_97 (by decide) ?_
        refine lv_imul hx hb dX3_put_99 ?_
        refine lv_topi (fun x_9 ex_9 => ?_)
        have hw := hw x_9 ex_9
        refine lv_istore (lv' := [(7, .int x_9), (6, .int 0), (5, .int x_7), (0, .ref (ad 4)), (1, .int p1), (2, .int p2), (3, .int p3), (4, .int p4)]) hx hb dX3_put_100 hl (by decide) rfl (fun ls hl => ?_)
        refine lv_iconst (v := 0) hx hb dX3_put_102 (by decide) ?_
        refine lv_istore (lv' := [(8, .int 0), (7, .int x_9), (6, .int 0), (5, .int x_7), (0, .ref (ad 4)), (1, .int p1), (2, .int p2), (3, .int p3), (4, .int p4)]) hx hb dX3_put_103 hl (by decide) rfl (fun ls hl => ?_)
        obtain ⟨n_19, hw⟩ := hw
        exact L_X3_put_105 post hl9 hx hb hr hml hown hts hlocks hA hE n_19 p1 p2 p3 p4 x_7 0 x_9 0 g_4 hw _ _ _ hG (lv_sub hl [4, 5, 6, 7, 8, 3, 2, 1, 0] rfl)
      · have hw := hw.2 c_8
        refine lv_aload_n hx hb dX3_put_75 rfl (lv_at hl 2 rfl) ?_
        refine lv_iload_n hx hb dX3_put_76 rfl (lv_at hl 3 rfl) ?_
        refine lv_iload_n hx hb dX3_put_77 rfl (lv_at hl 4 rfl) ?_
        refine lv_iload_n hx hb dX3_put_78 rfl (lv_at hl 5 rfl) ?_
        refine lv_iload hx hb dX3_put_79 (lv_at hl 6 rfl) ?_
        refine lv_iconst (v := 0) hx hb dX3_put_81 (by decide) ?_
        refine lv_aload_n hx hb dX3_put_82 rfl (lv_at hl 2 rfl) ?_
        refine g_get (own := RX3) (C := RX3) (T := TX3) (N := 19) (ci := 3) hx hb hq hin_X3 hown hK hG (k := 4) (gok_lo (by decide)) (gc_M) rfl 9 (by decide) (hq _ q_422) rfl (v := .int (g_4.1 4 3)) rfl dX3_put_83 ?_
        refine g_callv (va_runV (As := [.int p1, .int p2, .int p3, .int p4, .int 0, .int (g_4.1 4 3)]) (rest := []) ⟨hx, hb, hml, hown, hts⟩ (m_X3_frame hl9 D K sa ad _ _ p1 p2 p3 p4 0 (g_4.1 4 3) g_4 hw) (cwV 6 hts (gGood gCons (gV q_508 q_510 q_15 q_23 q_511)) rfl rfl rfl (by decide +kernel) ⟨Nat.le_of_ble_eq_true rfl, Nat.le_of_ble_eq_true rfl⟩) ⟨gPc_blind, g_recv hK hG (gok_lo (by decide)) (gc_M) rfl, gPc_at hE hG hA⟩ rfl rfl hl.1 rfl (lv_room (Nat.le_of_ble_eq_true rfl)) dX3_put_86 ⟨Nat.le_of_ble_eq_true rfl, Nat.le_of_ble_eq_true rfl⟩) hG hA (fun g_20 H locs hw hG => ?_)
        try dsimp only at hw
        refine lv_goto (tgt := 162) hx hb dX3_put_89 (by decide) ?_
        refine lv_aload_n hx hb dX3_put_162 rfl (lv_at hl 2 rfl) ?_
        refine lv_iconst (v := 0) hx hb dX3_put_163 (by decide) ?_
        refine g_put (own := RX3) (C := RX3) (T := TX3) (N := 19) (ci := 3) hx hb hq hin_X3 tyX3 tyX3_ok nmX3 hown hK hG (k := 4) (gok_lo (by decide)) (gc_M) rfl 9 (by decide) (hq _ q_422) rfl rfl (ty := .int) (v := .int 0) (by decide +kernel) rfl rfl (Nat.le_of_ble_eq_true rfl) (gi g_20 4 3 (0 : Int32)) (gs_M3) (gho_lo (by decide)) dX3_put_164 (fun H locs hG => ?_)
        obtain ⟨g_21, eg_21⟩ : ∃ z, z = gi g_20 4 3 (0 : Int32) := ⟨_, rfl⟩
        rw [← eg_21] at hG
        have hw := hw g_21 eg_21
        refine lv_iload hx hb dX3_put_167 (lv_at hl 0 rfl) ?_
        exact g_iret hx hb hr hlocks hw hG (by decide) (by decide) dX3_put_169
    · have hw := hw.2 c_5
      refine lv_iconst (v := 0) hx hb dX3_put_50 (by decide) ?_
      exact g_iret hx hb hr hlocks hw hG (by decide) (by decide) dX3_put_51
  · have hw := hw.2 c_3
    refine lv_iload_n hx hb dX3_put_9 rfl (lv_at hl 2 rfl) ?_
    refine lv_if_lt (tgt := 35) hx hb dX3_put_10 (by decide) (fun c_22 => ?_) (fun c_22 => ?_)
    · have hw := hw.1 c_22
      refine lv_iconst (v := 1) hx hb dX3_put_35 (by decide) ?_
      refine lv_goto (tgt := 40) hx hb dX3_put_36 (by decide) ?_
      refine g_put (own := RX3) (C := RX3) (T := TX3) (N := 19) (ci := 3) hx hb hq hin_X3 tyX3 tyX3_ok nmX3 hown hK hG (k := 4) (gok_lo (by decide)) (gc_M) rfl 0 (by decide) (hq _ q_413) rfl rfl (ty := .int) (v := .int 1) (by decide +kernel) rfl rfl (Nat.le_of_ble_eq_true rfl) (gi g_1 4 0 (1 : Int32)) (gs_M0) (gho_lo (by decide)) dX3_put_40 (fun H locs hG => ?_)
      obtain ⟨g_23, eg_23⟩ : ∃ z, z = gi g_1 4 0 (1 : Int32) := ⟨_, rfl⟩
      rw [← eg_23] at hG
      have hw := hw g_23 eg_23
      refine lv_aload_n hx hb dX3_put_43 rfl (lv_at hl 0 rfl) ?_
      refine g_get (own := RX3) (C := RX3) (T := TX3) (N := 19) (ci := 3) hx hb hq hin_X3 hown hK hG (k := 4) (gok_lo (by decide)) (gc_M) rfl 0 (by decide) (hq _ q_413) rfl (v := .int (g_23.1 4 0)) rfl dX3_put_44 ?_
      refine lv_if_le (tgt := 52) hx hb dX3_put_47 (by decide) (fun c_24 => ?_) (fun c_24 => ?_)
      · have hw := hw.1 c_24
        refine lv_aload_n hx hb dX3_put_52 rfl (lv_at hl 0 rfl) ?_
        refine g_get (own := RX3) (C := RX3) (T := TX3) (N := 19) (ci := 3) hx hb hq hin_X3 hown hK hG (k := 4) (gok_lo (by decide)) (gc_M) rfl 3 (by decide) (hq _ q_416) rfl (v := .ref (ad 5)) rfl dX3_put_53 ?_
        refine lv_iload_n hx hb dX3_put_56 rfl (lv_at hl 1 rfl) ?_
        obtain ⟨hi_25, hw⟩ := hw
        refine g_iald hx hb hK hG (k := 5) (gok_lo (by decide)) (gc_5) hi_25 dX3_put_57 ?_
        refine lv_bipush (v := 20) hx hb dX3_put_58 (by decide) ?_
        refine lv_isub hx hb dX3_put_60 ?_
        refine lv_topi (fun x_26 ex_26 => ?_)
        have hw := hw x_26 ex_26
        refine lv_istore (lv' := [(5, .int x_26), (0, .ref (ad 4)), (1, .int p1), (2, .int p2), (3, .int p3), (4, .int p4)]) hx hb dX3_put_61 hl (by decide) rfl (fun ls hl => ?_)
        refine lv_iconst (v := 0) hx hb dX3_put_63 (by decide) ?_
        refine lv_istore (lv' := [(6, .int 0), (5, .int x_26), (0, .ref (ad 4)), (1, .int p1), (2, .int p2), (3, .int p3), (4, .int p4)]) hx hb dX3_put_64 hl (by decide) rfl (fun ls hl => ?_)
        refine lv_aload_n hx hb dX3_put_66 rfl (lv_at hl 2 rfl) ?_
        refine g_get (own := RX3) (C := RX3) (T := TX3) (N := 19) (ci := 3) hx hb hq hin_X3 hown hK hG (k := 4) (gok_lo (by decide)) (gc_M) rfl 9 (by decide) (hq _ q_422) rfl (v := .int (g_23.1 4 3)) rfl dX3_put_67 ?_
        refine lv_iload hx hb dX3_put_70 (lv_at hl 1 rfl) ?_
        refine lv_icmp_gt (tgt := 92) hx hb dX3_put_72 (by decide) (fun c_27 => ?_) (fun c_27 => ?_)
        · have hw := hw.1 c_27
          refine lv_iload hx hb dX3_put_92 (lv_at hl 1 rfl) ?_
          refine lv_bipush (v := 8) hx hb dX3_put_94 (by decide) ?_
          refine lv_idiv hx hb dX3_put_96 (by decide) ?_
          refine lv_bipush (v := 8) hx hb dX3_put_97 (by decide) ?_
          refine lv_imul hx hb dX3_put_99 ?_
          refine lv_topi (fun x_28 ex_28 => ?_)
          have hw := hw x_28 ex_28
          refine lv_istore (lv' := [(7, .int x_28), (6, .int 0), (5, .int x_26), (0, .ref (ad 4)), (1, .int p1), (2, .int p2), (3, .int p3), (4, .int p4)]) hx hb dX3_put_100 hl (by decide) rfl (fun ls hl => ?_)
          refine lv_iconst (v := 0) hx hb dX3_put_102 (by decide) ?_
          refine lv_istore (lv' := [(8, .int 0), (7, .int x_28), (6, .int 0), (5, .int x_26), (0, .ref (ad 4)), (1, .int p1), (2, .int p2), (3, .int p3), (4, .int p4)]) hx hb dX3_put_103 hl (by decide) rfl (fun ls hl => ?_)
          obtain ⟨n_29, hw⟩ := hw
          exact L_X3_put_105 post hl9 hx hb hr hml hown hts hlocks hA hE n_29 p1 p2 p3 p4 x_26 0 x_28 0 g_23 hw _ _ _ hG (lv_sub hl [4, 5, 6, 7, 8, 3, 2, 1, 0] rfl)
        · have hw := hw.2 c_27
          refine lv_aload_n hx hb dX3_put_75 rfl (lv_at hl 2 rfl) ?_
          refine lv_iload_n hx hb dX3_put_76 rfl (lv_at hl 3 rfl) ?_
          refine lv_iload_n hx hb dX3_put_77 rfl (lv_at hl 4 rfl) ?_
          refine lv_iload_n hx hb dX3_put_78 rfl (lv_at hl 5 rfl) ?_
          refine lv_iload hx hb dX3_put_79 (lv_at hl 6 rfl) ?_
          refine lv_iconst (v := 0) hx hb dX3_put_81 (by decide) ?_
          refine lv_aload_n hx hb dX3_put_82 rfl (lv_at hl 2 rfl) ?_
          refine g_get (own := RX3) (C := RX3) (T := TX3) (N := 19) (ci := 3) hx hb hq hin_X3 hown hK hG (k := 4) (gok_lo (by decide)) (gc_M) rfl 9 (by decide) (hq _ q_422) rfl (v := .int (g_23.1 4 3)) rfl dX3_put_83 ?_
          refine g_callv (va_runV (As := [.int p1, .int p2, .int p3, .int p4, .int 0, .int (g_23.1 4 3)]) (rest := []) ⟨hx, hb, hml, hown, hts⟩ (m_X3_frame hl9 D K sa ad _ _ p1 p2 p3 p4 0 (g_23.1 4 3) g_23 hw) (cwV 6 hts (gGood gCons (gV q_508 q_510 q_15 q_23 q_511)) rfl rfl rfl (by decide +kernel) ⟨Nat.le_of_ble_eq_true rfl, Nat.le_of_ble_eq_true rfl⟩) ⟨gPc_blind, g_recv hK hG (gok_lo (by decide)) (gc_M) rfl, gPc_at hE hG hA⟩ rfl rfl hl.1 rfl (lv_room (Nat.le_of_ble_eq_true rfl)) dX3_put_86 ⟨Nat.le_of_ble_eq_true rfl, Nat.le_of_ble_eq_true rfl⟩) hG hA (fun g_30 H locs hw hG => ?_)
          try dsimp only at hw
          refine lv_goto (tgt := 162) hx hb dX3_put_89 (by decide) ?_
          refine lv_aload_n hx hb dX3_put_162 rfl (lv_at hl 2 rfl) ?_
          refine lv_iconst (v := 0) hx hb dX3_put_163 (by decide) ?_
          refine g_put (own := RX3) (C := RX3) (T := TX3) (N := 19) (ci := 3) hx hb hq hin_X3 tyX3 tyX3_ok nmX3 hown hK hG (k := 4) (gok_lo (by decide)) (gc_M) rfl 9 (by decide) (hq _ q_422) rfl rfl (ty := .int) (v := .int 0) (by decide +kernel) rfl rfl (Nat.le_of_ble_eq_true rfl) (gi g_30 4 3 (0 : Int32)) (gs_M3) (gho_lo (by decide)) dX3_put_164 (fun H locs hG => ?_)
          obtain ⟨g_31, eg_31⟩ : ∃ z, z = gi g_30 4 3 (0 : Int32) := ⟨_, rfl⟩
          rw [← eg_31] at hG
          have hw := hw g_31 eg_31
          refine lv_iload hx hb dX3_put_167 (lv_at hl 0 rfl) ?_
          exact g_iret hx hb hr hlocks hw hG (by decide) (by decide) dX3_put_169
      · have hw := hw.2 c_24
        refine lv_iconst (v := 0) hx hb dX3_put_50 (by decide) ?_
        exact g_iret hx hb hr hlocks hw hG (by decide) (by decide) dX3_put_51
    · have hw := hw.2 c_22
      refine lv_iload_n hx hb dX3_put_13 rfl (lv_at hl 2 rfl) ?_
      refine lv_bipush (v := 7) hx hb dX3_put_14 (by decide) ?_
      refine lv_icmp_gt (tgt := 35) hx hb dX3_put_16 (by decide) (fun c_32 => ?_) (fun c_32 => ?_)
      · have hw := hw.1 c_32
        refine lv_iconst (v := 1) hx hb dX3_put_35 (by decide) ?_
        refine lv_goto (tgt := 40) hx hb dX3_put_36 (by decide) ?_
        refine g_put (own := RX3) (C := RX3) (T := TX3) (N := 19) (ci := 3) hx hb hq hin_X3 tyX3 tyX3_ok nmX3 hown hK hG (k := 4) (gok_lo (by decide)) (gc_M) rfl 0 (by decide) (hq _ q_413) rfl rfl (ty := .int) (v := .int 1) (by decide +kernel) rfl rfl (Nat.le_of_ble_eq_true rfl) (gi g_1 4 0 (1 : Int32)) (gs_M0) (gho_lo (by decide)) dX3_put_40 (fun H locs hG => ?_)
        obtain ⟨g_33, eg_33⟩ : ∃ z, z = gi g_1 4 0 (1 : Int32) := ⟨_, rfl⟩
        rw [← eg_33] at hG
        have hw := hw g_33 eg_33
        refine lv_aload_n hx hb dX3_put_43 rfl (lv_at hl 0 rfl) ?_
        refine g_get (own := RX3) (C := RX3) (T := TX3) (N := 19) (ci := 3) hx hb hq hin_X3 hown hK hG (k := 4) (gok_lo (by decide)) (gc_M) rfl 0 (by decide) (hq _ q_413) rfl (v := .int (g_33.1 4 0)) rfl dX3_put_44 ?_
        refine lv_if_le (tgt := 52) hx hb dX3_put_47 (by decide) (fun c_34 => ?_) (fun c_34 => ?_)
        · have hw := hw.1 c_34
          refine lv_aload_n hx hb dX3_put_52 rfl (lv_at hl 0 rfl) ?_
          refine g_get (own := RX3) (C := RX3) (T := TX3) (N := 19) (ci := 3) hx hb hq hin_X3 hown hK hG (k := 4) (gok_lo (by decide)) (gc_M) rfl 3 (by decide) (hq _ q_416) rfl (v := .ref (ad 5)) rfl dX3_put_53 ?_
          refine lv_iload_n hx hb dX3_put_56 rfl (lv_at hl 1 rfl) ?_
          obtain ⟨hi_35, hw⟩ := hw
          refine g_iald hx hb hK hG (k := 5) (gok_lo (by decide)) (gc_5) hi_35 dX3_put_57 ?_
          refine lv_bipush (v := 20) hx hb dX3_put_58 (by decide) ?_
          refine lv_isub hx hb dX3_put_60 ?_
          refine lv_topi (fun x_36 ex_36 => ?_)
          have hw := hw x_36 ex_36
          refine lv_istore (lv' := [(5, .int x_36), (0, .ref (ad 4)), (1, .int p1), (2, .int p2), (3, .int p3), (4, .int p4)]) hx hb dX3_put_61 hl (by decide) rfl (fun ls hl => ?_)
          refine lv_iconst (v := 0) hx hb dX3_put_63 (by decide) ?_
          refine lv_istore (lv' := [(6, .int 0), (5, .int x_36), (0, .ref (ad 4)), (1, .int p1), (2, .int p2), (3, .int p3), (4, .int p4)]) hx hb dX3_put_64 hl (by decide) rfl (fun ls hl => ?_)
          refine lv_aload_n hx hb dX3_put_66 rfl (lv_at hl 2 rfl) ?_
          refine g_get (own := RX3) (C := RX3) (T := TX3) (N := 19) (ci := 3) hx hb hq hin_X3 hown hK hG (k := 4) (gok_lo (by decide)) (gc_M) rfl 9 (by decide) (hq _ q_422) rfl (v := .int (g_33.1 4 3)) rfl dX3_put_67 ?_
          refine lv_iload hx hb dX3_put_70 (lv_at hl 1 rfl) ?_
          refine lv_icmp_gt (tgt := 92) hx hb dX3_put_72 (by decide) (fun c_37 => ?_) (fun c_37 => ?_)
          · have hw := hw.1 c_37
            refine lv_iload hx hb dX3_put_92 (lv_at hl 1 rfl) ?_
            refine lv_bipush (v := 8) hx hb dX3_put_94 (by decide) ?_
            refine lv_idiv hx hb dX3_put_96 (by decide) ?_
            refine lv_bipush (v := 8) hx hb dX3_put_97 (by decide) ?_
            refine lv_imul hx hb dX3_put_99 ?_
            refine lv_topi (fun x_38 ex_38 => ?_)
            have hw := hw x_38 ex_38
            refine lv_istore (lv' := [(7, .int x_38), (6, .int 0), (5, .int x_36), (0, .ref (ad 4)), (1, .int p1), (2, .int p2), (3, .int p3), (4, .int p4)]) hx hb dX3_put_100 hl (by decide) rfl (fun ls hl => ?_)
            refine lv_iconst (v := 0) hx hb dX3_put_102 (by decide) ?_
            refine lv_istore (lv' := [(8, .int 0), (7, .int x_38), (6, .int 0), (5, .int x_36), (0, .ref (ad 4)), (1, .int p1), (2, .int p2), (3, .int p3), (4, .int p4)]) hx hb dX3_put_103 hl (by decide) rfl (fun ls hl => ?_)
            obtain ⟨n_39, hw⟩ := hw
            exact L_X3_put_105 post hl9 hx hb hr hml hown hts hlocks hA hE n_39 p1 p2 p3 p4 x_36 0 x_38 0 g_33 hw _ _ _ hG (lv_sub hl [4, 5, 6, 7, 8, 3, 2, 1, 0] rfl)
          · have hw := hw.2 c_37
            refine lv_aload_n hx hb dX3_put_75 rfl (lv_at hl 2 rfl) ?_
            refine lv_iload_n hx hb dX3_put_76 rfl (lv_at hl 3 rfl) ?_
            refine lv_iload_n hx hb dX3_put_77 rfl (lv_at hl 4 rfl) ?_
            refine lv_iload_n hx hb dX3_put_78 rfl (lv_at hl 5 rfl) ?_
            refine lv_iload hx hb dX3_put_79 (lv_at hl 6 rfl) ?_
            refine lv_iconst (v := 0) hx hb dX3_put_81 (by decide) ?_
            refine lv_aload_n hx hb dX3_put_82 rfl (lv_at hl 2 rfl) ?_
            refine g_get (own := RX3) (C := RX3) (T := TX3) (N := 19) (ci := 3) hx hb hq hin_X3 hown hK hG (k := 4) (gok_lo (by decide)) (gc_M) rfl 9 (by decide) (hq _ q_422) rfl (v := .int (g_33.1 4 3)) rfl dX3_put_83 ?_
            refine g_callv (va_runV (As := [.int p1, .int p2, .int p3, .int p4, .int 0, .int (g_33.1 4 3)]) (rest := []) ⟨hx, hb, hml, hown, hts⟩ (m_X3_frame hl9 D K sa ad _ _ p1 p2 p3 p4 0 (g_33.1 4 3) g_33 hw) (cwV 6 hts (gGood gCons (gV q_508 q_510 q_15 q_23 q_511)) rfl rfl rfl (by decide +kernel) ⟨Nat.le_of_ble_eq_true rfl, Nat.le_of_ble_eq_true rfl⟩) ⟨gPc_blind, g_recv hK hG (gok_lo (by decide)) (gc_M) rfl, gPc_at hE hG hA⟩ rfl rfl hl.1 rfl (lv_room (Nat.le_of_ble_eq_true rfl)) dX3_put_86 ⟨Nat.le_of_ble_eq_true rfl, Nat.le_of_ble_eq_true rfl⟩) hG hA (fun g_40 H locs hw hG => ?_)
            try dsimp only at hw
            refine lv_goto (tgt := 162) hx hb dX3_put_89 (by decide) ?_
            refine lv_aload_n hx hb dX3_put_162 rfl (lv_at hl 2 rfl) ?_
            refine lv_iconst (v := 0) hx hb dX3_put_163 (by decide) ?_
            refine g_put (own := RX3) (C := RX3) (T := TX3) (N := 19) (ci := 3) hx hb hq hin_X3 tyX3 tyX3_ok nmX3 hown hK hG (k := 4) (gok_lo (by decide)) (gc_M) rfl 9 (by decide) (hq _ q_422) rfl rfl (ty := .int) (v := .int 0) (by decide +kernel) rfl rfl (Nat.le_of_ble_eq_true rfl) (gi g_40 4 3 (0 : Int32)) (gs_M3) (gho_lo (by decide)) dX3_put_164 (fun H locs hG => ?_)
            obtain ⟨g_41, eg_41⟩ : ∃ z, z = gi g_40 4 3 (0 : Int32) := ⟨_, rfl⟩
            rw [← eg_41] at hG
            have hw := hw g_41 eg_41
            refine lv_iload hx hb dX3_put_167 (lv_at hl 0 rfl) ?_
            exact g_iret hx hb hr hlocks hw hG (by decide) (by decide) dX3_put_169
        · have hw := hw.2 c_34
          refine lv_iconst (v := 0) hx hb dX3_put_50 (by decide) ?_
          exact g_iret hx hb hr hlocks hw hG (by decide) (by decide) dX3_put_51
      · have hw := hw.2 c_32
        refine lv_iload_n hx hb dX3_put_19 rfl (lv_at hl 3 rfl) ?_
        refine lv_iconst (v := (-1)) hx hb dX3_put_20 (by decide) ?_
        refine lv_icmp_lt (tgt := 35) hx hb dX3_put_21 (by decide) (fun c_42 => ?_) (fun c_42 => ?_)
        · have hw := hw.1 c_42
          refine lv_iconst (v := 1) hx hb dX3_put_35 (by decide) ?_
          refine lv_goto (tgt := 40) hx hb dX3_put_36 (by decide) ?_
          refine g_put (own := RX3) (C := RX3) (T := TX3) (N := 19) (ci := 3) hx hb hq hin_X3 tyX3 tyX3_ok nmX3 hown hK hG (k := 4) (gok_lo (by decide)) (gc_M) rfl 0 (by decide) (hq _ q_413) rfl rfl (ty := .int) (v := .int 1) (by decide +kernel) rfl rfl (Nat.le_of_ble_eq_true rfl) (gi g_1 4 0 (1 : Int32)) (gs_M0) (gho_lo (by decide)) dX3_put_40 (fun H locs hG => ?_)
          obtain ⟨g_43, eg_43⟩ : ∃ z, z = gi g_1 4 0 (1 : Int32) := ⟨_, rfl⟩
          rw [← eg_43] at hG
          have hw := hw g_43 eg_43
          refine lv_aload_n hx hb dX3_put_43 rfl (lv_at hl 0 rfl) ?_
          refine g_get (own := RX3) (C := RX3) (T := TX3) (N := 19) (ci := 3) hx hb hq hin_X3 hown hK hG (k := 4) (gok_lo (by decide)) (gc_M) rfl 0 (by decide) (hq _ q_413) rfl (v := .int (g_43.1 4 0)) rfl dX3_put_44 ?_
          refine lv_if_le (tgt := 52) hx hb dX3_put_47 (by decide) (fun c_44 => ?_) (fun c_44 => ?_)
          · have hw := hw.1 c_44
            refine lv_aload_n hx hb dX3_put_52 rfl (lv_at hl 0 rfl) ?_
            refine g_get (own := RX3) (C := RX3) (T := TX3) (N := 19) (ci := 3) hx hb hq hin_X3 hown hK hG (k := 4) (gok_lo (by decide)) (gc_M) rfl 3 (by decide) (hq _ q_416) rfl (v := .ref (ad 5)) rfl dX3_put_53 ?_
            refine lv_iload_n hx hb dX3_put_56 rfl (lv_at hl 1 rfl) ?_
            obtain ⟨hi_45, hw⟩ := hw
            refine g_iald hx hb hK hG (k := 5) (gok_lo (by decide)) (gc_5) hi_45 dX3_put_57 ?_
            refine lv_bipush (v := 20) hx hb dX3_put_58 (by decide) ?_
            refine lv_isub hx hb dX3_put_60 ?_
            refine lv_topi (fun x_46 ex_46 => ?_)
            have hw := hw x_46 ex_46
            refine lv_istore (lv' := [(5, .int x_46), (0, .ref (ad 4)), (1, .int p1), (2, .int p2), (3, .int p3), (4, .int p4)]) hx hb dX3_put_61 hl (by decide) rfl (fun ls hl => ?_)
            refine lv_iconst (v := 0) hx hb dX3_put_63 (by decide) ?_
            refine lv_istore (lv' := [(6, .int 0), (5, .int x_46), (0, .ref (ad 4)), (1, .int p1), (2, .int p2), (3, .int p3), (4, .int p4)]) hx hb dX3_put_64 hl (by decide) rfl (fun ls hl => ?_)
            refine lv_aload_n hx hb dX3_put_66 rfl (lv_at hl 2 rfl) ?_
            refine g_get (own := RX3) (C := RX3) (T := TX3) (N := 19) (ci := 3) hx hb hq hin_X3 hown hK hG (k := 4) (gok_lo (by decide)) (gc_M) rfl 9 (by decide) (hq _ q_422) rfl (v := .int (g_43.1 4 3)) rfl dX3_put_67 ?_
            refine lv_iload hx hb dX3_put_70 (lv_at hl 1 rfl) ?_
            refine lv_icmp_gt (tgt := 92) hx hb dX3_put_72 (by decide) (fun c_47 => ?_) (fun c_47 => ?_)
            · have hw := hw.1 c_47
              refine lv_iload hx hb dX3_put_92 (lv_at hl 1 rfl) ?_
              refine lv_bipush (v := 8) hx hb dX3_put_94 (by decide) ?_
              refine lv_idiv hx hb dX3_put_96 (by decide) ?_
              refine lv_bipush (v := 8) hx hb dX3_put_97 (by decide) ?_
              refine lv_imul hx hb dX3_put_99 ?_
              refine lv_topi (fun x_48 ex_48 => ?_)
              have hw := hw x_48 ex_48
              refine lv_istore (lv' := [(7, .int x_48), (6, .int 0), (5, .int x_46), (0, .ref (ad 4)), (1, .int p1), (2, .int p2), (3, .int p3), (4, .int p4)]) hx hb dX3_put_100 hl (by decide) rfl (fun ls hl => ?_)
              refine lv_iconst (v := 0) hx hb dX3_put_102 (by decide) ?_
              refine lv_istore (lv' := [(8, .int 0), (7, .int x_48), (6, .int 0), (5, .int x_46), (0, .ref (ad 4)), (1, .int p1), (2, .int p2), (3, .int p3), (4, .int p4)]) hx hb dX3_put_103 hl (by decide) rfl (fun ls hl => ?_)
              obtain ⟨n_49, hw⟩ := hw
              exact L_X3_put_105 post hl9 hx hb hr hml hown hts hlocks hA hE n_49 p1 p2 p3 p4 x_46 0 x_48 0 g_43 hw _ _ _ hG (lv_sub hl [4, 5, 6, 7, 8, 3, 2, 1, 0] rfl)
            · have hw := hw.2 c_47
              refine lv_aload_n hx hb dX3_put_75 rfl (lv_at hl 2 rfl) ?_
              refine lv_iload_n hx hb dX3_put_76 rfl (lv_at hl 3 rfl) ?_
              refine lv_iload_n hx hb dX3_put_77 rfl (lv_at hl 4 rfl) ?_
              refine lv_iload_n hx hb dX3_put_78 rfl (lv_at hl 5 rfl) ?_
              refine lv_iload hx hb dX3_put_79 (lv_at hl 6 rfl) ?_
              refine lv_iconst (v := 0) hx hb dX3_put_81 (by decide) ?_
              refine lv_aload_n hx hb dX3_put_82 rfl (lv_at hl 2 rfl) ?_
              refine g_get (own := RX3) (C := RX3) (T := TX3) (N := 19) (ci := 3) hx hb hq hin_X3 hown hK hG (k := 4) (gok_lo (by decide)) (gc_M) rfl 9 (by decide) (hq _ q_422) rfl (v := .int (g_43.1 4 3)) rfl dX3_put_83 ?_
              refine g_callv (va_runV (As := [.int p1, .int p2, .int p3, .int p4, .int 0, .int (g_43.1 4 3)]) (rest := []) ⟨hx, hb, hml, hown, hts⟩ (m_X3_frame hl9 D K sa ad _ _ p1 p2 p3 p4 0 (g_43.1 4 3) g_43 hw) (cwV 6 hts (gGood gCons (gV q_508 q_510 q_15 q_23 q_511)) rfl rfl rfl (by decide +kernel) ⟨Nat.le_of_ble_eq_true rfl, Nat.le_of_ble_eq_true rfl⟩) ⟨gPc_blind, g_recv hK hG (gok_lo (by decide)) (gc_M) rfl, gPc_at hE hG hA⟩ rfl rfl hl.1 rfl (lv_room (Nat.le_of_ble_eq_true rfl)) dX3_put_86 ⟨Nat.le_of_ble_eq_true rfl, Nat.le_of_ble_eq_true rfl⟩) hG hA (fun g_50 H locs hw hG => ?_)
              try dsimp only at hw
              refine lv_goto (tgt := 162) hx hb dX3_put_89 (by decide) ?_
              refine lv_aload_n hx hb dX3_put_162 rfl (lv_at hl 2 rfl) ?_
              refine lv_iconst (v := 0) hx hb dX3_put_163 (by decide) ?_
              refine g_put (own := RX3) (C := RX3) (T := TX3) (N := 19) (ci := 3) hx hb hq hin_X3 tyX3 tyX3_ok nmX3 hown hK hG (k := 4) (gok_lo (by decide)) (gc_M) rfl 9 (by decide) (hq _ q_422) rfl rfl (ty := .int) (v := .int 0) (by decide +kernel) rfl rfl (Nat.le_of_ble_eq_true rfl) (gi g_50 4 3 (0 : Int32)) (gs_M3) (gho_lo (by decide)) dX3_put_164 (fun H locs hG => ?_)
              obtain ⟨g_51, eg_51⟩ : ∃ z, z = gi g_50 4 3 (0 : Int32) := ⟨_, rfl⟩
              rw [← eg_51] at hG
              have hw := hw g_51 eg_51
              refine lv_iload hx hb dX3_put_167 (lv_at hl 0 rfl) ?_
              exact g_iret hx hb hr hlocks hw hG (by decide) (by decide) dX3_put_169
          · have hw := hw.2 c_44
            refine lv_iconst (v := 0) hx hb dX3_put_50 (by decide) ?_
            exact g_iret hx hb hr hlocks hw hG (by decide) (by decide) dX3_put_51
        · have hw := hw.2 c_42
          refine lv_iload_n hx hb dX3_put_24 rfl (lv_at hl 3 rfl) ?_
          refine lv_bipush (v := 7) hx hb dX3_put_25 (by decide) ?_
          refine lv_icmp_gt (tgt := 35) hx hb dX3_put_27 (by decide) (fun c_52 => ?_) (fun c_52 => ?_)
          · have hw := hw.1 c_52
            refine lv_iconst (v := 1) hx hb dX3_put_35 (by decide) ?_
            refine lv_goto (tgt := 40) hx hb dX3_put_36 (by decide) ?_
            refine g_put (own := RX3) (C := RX3) (T := TX3) (N := 19) (ci := 3) hx hb hq hin_X3 tyX3 tyX3_ok nmX3 hown hK hG (k := 4) (gok_lo (by decide)) (gc_M) rfl 0 (by decide) (hq _ q_413) rfl rfl (ty := .int) (v := .int 1) (by decide +kernel) rfl rfl (Nat.le_of_ble_eq_true rfl) (gi g_1 4 0 (1 : Int32)) (gs_M0) (gho_lo (by decide)) dX3_put_40 (fun H locs hG => ?_)
            obtain ⟨g_53, eg_53⟩ : ∃ z, z = gi g_1 4 0 (1 : Int32) := ⟨_, rfl⟩
            rw [← eg_53] at hG
            have hw := hw g_53 eg_53
            refine lv_aload_n hx hb dX3_put_43 rfl (lv_at hl 0 rfl) ?_
            refine g_get (own := RX3) (C := RX3) (T := TX3) (N := 19) (ci := 3) hx hb hq hin_X3 hown hK hG (k := 4) (gok_lo (by decide)) (gc_M) rfl 0 (by decide) (hq _ q_413) rfl (v := .int (g_53.1 4 0)) rfl dX3_put_44 ?_
            refine lv_if_le (tgt := 52) hx hb dX3_put_47 (by decide) (fun c_54 => ?_) (fun c_54 => ?_)
            · have hw := hw.1 c_54
              refine lv_aload_n hx hb dX3_put_52 rfl (lv_at hl 0 rfl) ?_
              refine g_get (own := RX3) (C := RX3) (T := TX3) (N := 19) (ci := 3) hx hb hq hin_X3 hown hK hG (k := 4) (gok_lo (by decide)) (gc_M) rfl 3 (by decide) (hq _ q_416) rfl (v := .ref (ad 5)) rfl dX3_put_53 ?_
              refine lv_iload_n hx hb dX3_put_56 rfl (lv_at hl 1 rfl) ?_
              obtain ⟨hi_55, hw⟩ := hw
              refine g_iald hx hb hK hG (k := 5) (gok_lo (by decide)) (gc_5) hi_55 dX3_put_57 ?_
              refine lv_bipush (v := 20) hx hb dX3_put_58 (by decide) ?_
              refine lv_isub hx hb dX3_put_60 ?_
              refine lv_topi (fun x_56 ex_56 => ?_)
              have hw := hw x_56 ex_56
              refine lv_istore (lv' := [(5, .int x_56), (0, .ref (ad 4)), (1, .int p1), (2, .int p2), (3, .int p3), (4, .int p4)]) hx hb dX3_put_61 hl (by decide) rfl (fun ls hl => ?_)
              refine lv_iconst (v := 0) hx hb dX3_put_63 (by decide) ?_
              refine lv_istore (lv' := [(6, .int 0), (5, .int x_56), (0, .ref (ad 4)), (1, .int p1), (2, .int p2), (3, .int p3), (4, .int p4)]) hx hb dX3_put_64 hl (by decide) rfl (fun ls hl => ?_)
              refine lv_aload_n hx hb dX3_put_66 rfl (lv_at hl 2 rfl) ?_
              refine g_get (own := RX3) (C := RX3) (T := TX3) (N := 19) (ci := 3) hx hb hq hin_X3 hown hK hG (k := 4) (gok_lo (by decide)) (gc_M) rfl 9 (by decide) (hq _ q_422) rfl (v := .int (g_53.1 4 3)) rfl dX3_put_67 ?_
              refine lv_iload hx hb dX3_put_70 (lv_at hl 1 rfl) ?_
              refine lv_icmp_gt (tgt := 92) hx hb dX3_put_72 (by decide) (fun c_57 => ?_) (fun c_57 => ?_)
              · have hw := hw.1 c_57
                refine lv_iload hx hb dX3_put_92 (lv_at hl 1 rfl) ?_
                refine lv_bipush (v := 8) hx hb dX3_put_94 (by decide) ?_
                refine lv_idiv hx hb dX3_put_96 (by decide) ?_
                refine lv_bipush (v := 8) hx hb dX3_put_97 (by decide) ?_
                refine lv_imul hx hb dX3_put_99 ?_
                refine lv_topi (fun x_58 ex_58 => ?_)
                have hw := hw x_58 ex_58
                refine lv_istore (lv' := [(7, .int x_58), (6, .int 0), (5, .int x_56), (0, .ref (ad 4)), (1, .int p1), (2, .int p2), (3, .int p3), (4, .int p4)]) hx hb dX3_put_100 hl (by decide) rfl (fun ls hl => ?_)
                refine lv_iconst (v := 0) hx hb dX3_put_102 (by decide) ?_
                refine lv_istore (lv' := [(8, .int 0), (7, .int x_58), (6, .int 0), (5, .int x_56), (0, .ref (ad 4)), (1, .int p1), (2, .int p2), (3, .int p3), (4, .int p4)]) hx hb dX3_put_103 hl (by decide) rfl (fun ls hl => ?_)
                obtain ⟨n_59, hw⟩ := hw
                exact L_X3_put_105 post hl9 hx hb hr hml hown hts hlocks hA hE n_59 p1 p2 p3 p4 x_56 0 x_58 0 g_53 hw _ _ _ hG (lv_sub hl [4, 5, 6, 7, 8, 3, 2, 1, 0] rfl)
              · have hw := hw.2 c_57
                refine lv_aload_n hx hb dX3_put_75 rfl (lv_at hl 2 rfl) ?_
                refine lv_iload_n hx hb dX3_put_76 rfl (lv_at hl 3 rfl) ?_
                refine lv_iload_n hx hb dX3_put_77 rfl (lv_at hl 4 rfl) ?_
                refine lv_iload_n hx hb dX3_put_78 rfl (lv_at hl 5 rfl) ?_
                refine lv_iload hx hb dX3_put_79 (lv_at hl 6 rfl) ?_
                refine lv_iconst (v := 0) hx hb dX3_put_81 (by decide) ?_
                refine lv_aload_n hx hb dX3_put_82 rfl (lv_at hl 2 rfl) ?_
                refine g_get (own := RX3) (C := RX3) (T := TX3) (N := 19) (ci := 3) hx hb hq hin_X3 hown hK hG (k := 4) (gok_lo (by decide)) (gc_M) rfl 9 (by decide) (hq _ q_422) rfl (v := .int (g_53.1 4 3)) rfl dX3_put_83 ?_
                refine g_callv (va_runV (As := [.int p1, .int p2, .int p3, .int p4, .int 0, .int (g_53.1 4 3)]) (rest := []) ⟨hx, hb, hml, hown, hts⟩ (m_X3_frame hl9 D K sa ad _ _ p1 p2 p3 p4 0 (g_53.1 4 3) g_53 hw) (cwV 6 hts (gGood gCons (gV q_508 q_510 q_15 q_23 q_511)) rfl rfl rfl (by decide +kernel) ⟨Nat.le_of_ble_eq_true rfl, Nat.le_of_ble_eq_true rfl⟩) ⟨gPc_blind, g_recv hK hG (gok_lo (by decide)) (gc_M) rfl, gPc_at hE hG hA⟩ rfl rfl hl.1 rfl (lv_room (Nat.le_of_ble_eq_true rfl)) dX3_put_86 ⟨Nat.le_of_ble_eq_true rfl, Nat.le_of_ble_eq_true rfl⟩) hG hA (fun g_60 H locs hw hG => ?_)
                try dsimp only at hw
                refine lv_goto (tgt := 162) hx hb dX3_put_89 (by decide) ?_
                refine lv_aload_n hx hb dX3_put_162 rfl (lv_at hl 2 rfl) ?_
                refine lv_iconst (v := 0) hx hb dX3_put_163 (by decide) ?_
                refine g_put (own := RX3) (C := RX3) (T := TX3) (N := 19) (ci := 3) hx hb hq hin_X3 tyX3 tyX3_ok nmX3 hown hK hG (k := 4) (gok_lo (by decide)) (gc_M) rfl 9 (by decide) (hq _ q_422) rfl rfl (ty := .int) (v := .int 0) (by decide +kernel) rfl rfl (Nat.le_of_ble_eq_true rfl) (gi g_60 4 3 (0 : Int32)) (gs_M3) (gho_lo (by decide)) dX3_put_164 (fun H locs hG => ?_)
                obtain ⟨g_61, eg_61⟩ : ∃ z, z = gi g_60 4 3 (0 : Int32) := ⟨_, rfl⟩
                rw [← eg_61] at hG
                have hw := hw g_61 eg_61
                refine lv_iload hx hb dX3_put_167 (lv_at hl 0 rfl) ?_
                exact g_iret hx hb hr hlocks hw hG (by decide) (by decide) dX3_put_169
            · have hw := hw.2 c_54
              refine lv_iconst (v := 0) hx hb dX3_put_50 (by decide) ?_
              exact g_iret hx hb hr hlocks hw hG (by decide) (by decide) dX3_put_51
          · have hw := hw.2 c_52
            refine lv_iload_n hx hb dX3_put_30 rfl (lv_at hl 3 rfl) ?_
            refine lv_iload_n hx hb dX3_put_31 rfl (lv_at hl 2 rfl) ?_
            refine lv_icmp_ne (tgt := 39) hx hb dX3_put_32 (by decide) (fun c_62 => ?_) (fun c_62 => ?_)
            · have hw := hw.1 c_62
              refine lv_iconst (v := 0) hx hb dX3_put_39 (by decide) ?_
              refine g_put (own := RX3) (C := RX3) (T := TX3) (N := 19) (ci := 3) hx hb hq hin_X3 tyX3 tyX3_ok nmX3 hown hK hG (k := 4) (gok_lo (by decide)) (gc_M) rfl 0 (by decide) (hq _ q_413) rfl rfl (ty := .int) (v := .int 0) (by decide +kernel) rfl rfl (Nat.le_of_ble_eq_true rfl) (gi g_1 4 0 (0 : Int32)) (gs_M0) (gho_lo (by decide)) dX3_put_40 (fun H locs hG => ?_)
              obtain ⟨g_63, eg_63⟩ : ∃ z, z = gi g_1 4 0 (0 : Int32) := ⟨_, rfl⟩
              rw [← eg_63] at hG
              have hw := hw g_63 eg_63
              refine lv_aload_n hx hb dX3_put_43 rfl (lv_at hl 0 rfl) ?_
              refine g_get (own := RX3) (C := RX3) (T := TX3) (N := 19) (ci := 3) hx hb hq hin_X3 hown hK hG (k := 4) (gok_lo (by decide)) (gc_M) rfl 0 (by decide) (hq _ q_413) rfl (v := .int (g_63.1 4 0)) rfl dX3_put_44 ?_
              refine lv_if_le (tgt := 52) hx hb dX3_put_47 (by decide) (fun c_64 => ?_) (fun c_64 => ?_)
              · have hw := hw.1 c_64
                refine lv_aload_n hx hb dX3_put_52 rfl (lv_at hl 0 rfl) ?_
                refine g_get (own := RX3) (C := RX3) (T := TX3) (N := 19) (ci := 3) hx hb hq hin_X3 hown hK hG (k := 4) (gok_lo (by decide)) (gc_M) rfl 3 (by decide) (hq _ q_416) rfl (v := .ref (ad 5)) rfl dX3_put_53 ?_
                refine lv_iload_n hx hb dX3_put_56 rfl (lv_at hl 1 rfl) ?_
                obtain ⟨hi_65, hw⟩ := hw
                refine g_iald hx hb hK hG (k := 5) (gok_lo (by decide)) (gc_5) hi_65 dX3_put_57 ?_
                refine lv_bipush (v := 20) hx hb dX3_put_58 (by decide) ?_
                refine lv_isub hx hb dX3_put_60 ?_
                refine lv_topi (fun x_66 ex_66 => ?_)
                have hw := hw x_66 ex_66
                refine lv_istore (lv' := [(5, .int x_66), (0, .ref (ad 4)), (1, .int p1), (2, .int p2), (3, .int p3), (4, .int p4)]) hx hb dX3_put_61 hl (by decide) rfl (fun ls hl => ?_)
                refine lv_iconst (v := 0) hx hb dX3_put_63 (by decide) ?_
                refine lv_istore (lv' := [(6, .int 0), (5, .int x_66), (0, .ref (ad 4)), (1, .int p1), (2, .int p2), (3, .int p3), (4, .int p4)]) hx hb dX3_put_64 hl (by decide) rfl (fun ls hl => ?_)
                refine lv_aload_n hx hb dX3_put_66 rfl (lv_at hl 2 rfl) ?_
                refine g_get (own := RX3) (C := RX3) (T := TX3) (N := 19) (ci := 3) hx hb hq hin_X3 hown hK hG (k := 4) (gok_lo (by decide)) (gc_M) rfl 9 (by decide) (hq _ q_422) rfl (v := .int (g_63.1 4 3)) rfl dX3_put_67 ?_
                refine lv_iload hx hb dX3_put_70 (lv_at hl 1 rfl) ?_
                refine lv_icmp_gt (tgt := 92) hx hb dX3_put_72 (by decide) (fun c_67 => ?_) (fun c_67 => ?_)
                · have hw := hw.1 c_67
                  refine lv_iload hx hb dX3_put_92 (lv_at hl 1 rfl) ?_
                  refine lv_bipush (v := 8) hx hb dX3_put_94 (by decide) ?_
                  refine lv_idiv hx hb dX3_put_96 (by decide) ?_
                  refine lv_bipush (v := 8) hx hb dX3_put_97 (by decide) ?_
                  refine lv_imul hx hb dX3_put_99 ?_
                  refine lv_topi (fun x_68 ex_68 => ?_)
                  have hw := hw x_68 ex_68
                  refine lv_istore (lv' := [(7, .int x_68), (6, .int 0), (5, .int x_66), (0, .ref (ad 4)), (1, .int p1), (2, .int p2), (3, .int p3), (4, .int p4)]) hx hb dX3_put_100 hl (by decide) rfl (fun ls hl => ?_)
                  refine lv_iconst (v := 0) hx hb dX3_put_102 (by decide) ?_
                  refine lv_istore (lv' := [(8, .int 0), (7, .int x_68), (6, .int 0), (5, .int x_66), (0, .ref (ad 4)), (1, .int p1), (2, .int p2), (3, .int p3), (4, .int p4)]) hx hb dX3_put_103 hl (by decide) rfl (fun ls hl => ?_)
                  obtain ⟨n_69, hw⟩ := hw
                  exact L_X3_put_105 post hl9 hx hb hr hml hown hts hlocks hA hE n_69 p1 p2 p3 p4 x_66 0 x_68 0 g_63 hw _ _ _ hG (lv_sub hl [4, 5, 6, 7, 8, 3, 2, 1, 0] rfl)
                · have hw := hw.2 c_67
                  refine lv_aload_n hx hb dX3_put_75 rfl (lv_at hl 2 rfl) ?_
                  refine lv_iload_n hx hb dX3_put_76 rfl (lv_at hl 3 rfl) ?_
                  refine lv_iload_n hx hb dX3_put_77 rfl (lv_at hl 4 rfl) ?_
                  refine lv_iload_n hx hb dX3_put_78 rfl (lv_at hl 5 rfl) ?_
                  refine lv_iload hx hb dX3_put_79 (lv_at hl 6 rfl) ?_
                  refine lv_iconst (v := 0) hx hb dX3_put_81 (by decide) ?_
                  refine lv_aload_n hx hb dX3_put_82 rfl (lv_at hl 2 rfl) ?_
                  refine g_get (own := RX3) (C := RX3) (T := TX3) (N := 19) (ci := 3) hx hb hq hin_X3 hown hK hG (k := 4) (gok_lo (by decide)) (gc_M) rfl 9 (by decide) (hq _ q_422) rfl (v := .int (g_63.1 4 3)) rfl dX3_put_83 ?_
                  refine g_callv (va_runV (As := [.int p1, .int p2, .int p3, .int p4, .int 0, .int (g_63.1 4 3)]) (rest := []) ⟨hx, hb, hml, hown, hts⟩ (m_X3_frame hl9 D K sa ad _ _ p1 p2 p3 p4 0 (g_63.1 4 3) g_63 hw) (cwV 6 hts (gGood gCons (gV q_508 q_510 q_15 q_23 q_511)) rfl rfl rfl (by decide +kernel) ⟨Nat.le_of_ble_eq_true rfl, Nat.le_of_ble_eq_true rfl⟩) ⟨gPc_blind, g_recv hK hG (gok_lo (by decide)) (gc_M) rfl, gPc_at hE hG hA⟩ rfl rfl hl.1 rfl (lv_room (Nat.le_of_ble_eq_true rfl)) dX3_put_86 ⟨Nat.le_of_ble_eq_true rfl, Nat.le_of_ble_eq_true rfl⟩) hG hA (fun g_70 H locs hw hG => ?_)
                  try dsimp only at hw
                  refine lv_goto (tgt := 162) hx hb dX3_put_89 (by decide) ?_
                  refine lv_aload_n hx hb dX3_put_162 rfl (lv_at hl 2 rfl) ?_
                  refine lv_iconst (v := 0) hx hb dX3_put_163 (by decide) ?_
                  refine g_put (own := RX3) (C := RX3) (T := TX3) (N := 19) (ci := 3) hx hb hq hin_X3 tyX3 tyX3_ok nmX3 hown hK hG (k := 4) (gok_lo (by decide)) (gc_M) rfl 9 (by decide) (hq _ q_422) rfl rfl (ty := .int) (v := .int 0) (by decide +kernel) rfl rfl (Nat.le_of_ble_eq_true rfl) (gi g_70 4 3 (0 : Int32)) (gs_M3) (gho_lo (by decide)) dX3_put_164 (fun H locs hG => ?_)
                  obtain ⟨g_71, eg_71⟩ : ∃ z, z = gi g_70 4 3 (0 : Int32) := ⟨_, rfl⟩
                  rw [← eg_71] at hG
                  have hw := hw g_71 eg_71
                  refine lv_iload hx hb dX3_put_167 (lv_at hl 0 rfl) ?_
                  exact g_iret hx hb hr hlocks hw hG (by decide) (by decide) dX3_put_169
              · have hw := hw.2 c_64
                refine lv_iconst (v := 0) hx hb dX3_put_50 (by decide) ?_
                exact g_iret hx hb hr hlocks hw hG (by decide) (by decide) dX3_put_51
            · have hw := hw.2 c_62
              refine lv_iconst (v := 1) hx hb dX3_put_35 (by decide) ?_
              refine lv_goto (tgt := 40) hx hb dX3_put_36 (by decide) ?_
              refine g_put (own := RX3) (C := RX3) (T := TX3) (N := 19) (ci := 3) hx hb hq hin_X3 tyX3 tyX3_ok nmX3 hown hK hG (k := 4) (gok_lo (by decide)) (gc_M) rfl 0 (by decide) (hq _ q_413) rfl rfl (ty := .int) (v := .int 1) (by decide +kernel) rfl rfl (Nat.le_of_ble_eq_true rfl) (gi g_1 4 0 (1 : Int32)) (gs_M0) (gho_lo (by decide)) dX3_put_40 (fun H locs hG => ?_)
              obtain ⟨g_72, eg_72⟩ : ∃ z, z = gi g_1 4 0 (1 : Int32) := ⟨_, rfl⟩
              rw [← eg_72] at hG
              have hw := hw g_72 eg_72
              refine lv_aload_n hx hb dX3_put_43 rfl (lv_at hl 0 rfl) ?_
              refine g_get (own := RX3) (C := RX3) (T := TX3) (N := 19) (ci := 3) hx hb hq hin_X3 hown hK hG (k := 4) (gok_lo (by decide)) (gc_M) rfl 0 (by decide) (hq _ q_413) rfl (v := .int (g_72.1 4 0)) rfl dX3_put_44 ?_
              refine lv_if_le (tgt := 52) hx hb dX3_put_47 (by decide) (fun c_73 => ?_) (fun c_73 => ?_)
              · have hw := hw.1 c_73
                refine lv_aload_n hx hb dX3_put_52 rfl (lv_at hl 0 rfl) ?_
                refine g_get (own := RX3) (C := RX3) (T := TX3) (N := 19) (ci := 3) hx hb hq hin_X3 hown hK hG (k := 4) (gok_lo (by decide)) (gc_M) rfl 3 (by decide) (hq _ q_416) rfl (v := .ref (ad 5)) rfl dX3_put_53 ?_
                refine lv_iload_n hx hb dX3_put_56 rfl (lv_at hl 1 rfl) ?_
                obtain ⟨hi_74, hw⟩ := hw
                refine g_iald hx hb hK hG (k := 5) (gok_lo (by decide)) (gc_5) hi_74 dX3_put_57 ?_
                refine lv_bipush (v := 20) hx hb dX3_put_58 (by decide) ?_
                refine lv_isub hx hb dX3_put_60 ?_
                refine lv_topi (fun x_75 ex_75 => ?_)
                have hw := hw x_75 ex_75
                refine lv_istore (lv' := [(5, .int x_75), (0, .ref (ad 4)), (1, .int p1), (2, .int p2), (3, .int p3), (4, .int p4)]) hx hb dX3_put_61 hl (by decide) rfl (fun ls hl => ?_)
                refine lv_iconst (v := 0) hx hb dX3_put_63 (by decide) ?_
                refine lv_istore (lv' := [(6, .int 0), (5, .int x_75), (0, .ref (ad 4)), (1, .int p1), (2, .int p2), (3, .int p3), (4, .int p4)]) hx hb dX3_put_64 hl (by decide) rfl (fun ls hl => ?_)
                refine lv_aload_n hx hb dX3_put_66 rfl (lv_at hl 2 rfl) ?_
                refine g_get (own := RX3) (C := RX3) (T := TX3) (N := 19) (ci := 3) hx hb hq hin_X3 hown hK hG (k := 4) (gok_lo (by decide)) (gc_M) rfl 9 (by decide) (hq _ q_422) rfl (v := .int (g_72.1 4 3)) rfl dX3_put_67 ?_
                refine lv_iload hx hb dX3_put_70 (lv_at hl 1 rfl) ?_
                refine lv_icmp_gt (tgt := 92) hx hb dX3_put_72 (by decide) (fun c_76 => ?_) (fun c_76 => ?_)
                · have hw := hw.1 c_76
                  refine lv_iload hx hb dX3_put_92 (lv_at hl 1 rfl) ?_
                  refine lv_bipush (v := 8) hx hb dX3_put_94 (by decide) ?_
                  refine lv_idiv hx hb dX3_put_96 (by decide) ?_
                  refine lv_bipush (v := 8) hx hb dX3_put_97 (by decide) ?_
                  refine lv_imul hx hb dX3_put_99 ?_
                  refine lv_topi (fun x_77 ex_77 => ?_)
                  have hw := hw x_77 ex_77
                  refine lv_istore (lv' := [(7, .int x_77), (6, .int 0), (5, .int x_75), (0, .ref (ad 4)), (1, .int p1), (2, .int p2), (3, .int p3), (4, .int p4)]) hx hb dX3_put_100 hl (by decide) rfl (fun ls hl => ?_)
                  refine lv_iconst (v := 0) hx hb dX3_put_102 (by decide) ?_
                  refine lv_istore (lv' := [(8, .int 0), (7, .int x_77), (6, .int 0), (5, .int x_75), (0, .ref (ad 4)), (1, .int p1), (2, .int p2), (3, .int p3), (4, .int p4)]) hx hb dX3_put_103 hl (by decide) rfl (fun ls hl => ?_)
                  obtain ⟨n_78, hw⟩ := hw
                  exact L_X3_put_105 post hl9 hx hb hr hml hown hts hlocks hA hE n_78 p1 p2 p3 p4 x_75 0 x_77 0 g_72 hw _ _ _ hG (lv_sub hl [4, 5, 6, 7, 8, 3, 2, 1, 0] rfl)
                · have hw := hw.2 c_76
                  refine lv_aload_n hx hb dX3_put_75 rfl (lv_at hl 2 rfl) ?_
                  refine lv_iload_n hx hb dX3_put_76 rfl (lv_at hl 3 rfl) ?_
                  refine lv_iload_n hx hb dX3_put_77 rfl (lv_at hl 4 rfl) ?_
                  refine lv_iload_n hx hb dX3_put_78 rfl (lv_at hl 5 rfl) ?_
                  refine lv_iload hx hb dX3_put_79 (lv_at hl 6 rfl) ?_
                  refine lv_iconst (v := 0) hx hb dX3_put_81 (by decide) ?_
                  refine lv_aload_n hx hb dX3_put_82 rfl (lv_at hl 2 rfl) ?_
                  refine g_get (own := RX3) (C := RX3) (T := TX3) (N := 19) (ci := 3) hx hb hq hin_X3 hown hK hG (k := 4) (gok_lo (by decide)) (gc_M) rfl 9 (by decide) (hq _ q_422) rfl (v := .int (g_72.1 4 3)) rfl dX3_put_83 ?_
                  refine g_callv (va_runV (As := [.int p1, .int p2, .int p3, .int p4, .int 0, .int (g_72.1 4 3)]) (rest := []) ⟨hx, hb, hml, hown, hts⟩ (m_X3_frame hl9 D K sa ad _ _ p1 p2 p3 p4 0 (g_72.1 4 3) g_72 hw) (cwV 6 hts (gGood gCons (gV q_508 q_510 q_15 q_23 q_511)) rfl rfl rfl (by decide +kernel) ⟨Nat.le_of_ble_eq_true rfl, Nat.le_of_ble_eq_true rfl⟩) ⟨gPc_blind, g_recv hK hG (gok_lo (by decide)) (gc_M) rfl, gPc_at hE hG hA⟩ rfl rfl hl.1 rfl (lv_room (Nat.le_of_ble_eq_true rfl)) dX3_put_86 ⟨Nat.le_of_ble_eq_true rfl, Nat.le_of_ble_eq_true rfl⟩) hG hA (fun g_79 H locs hw hG => ?_)
                  try dsimp only at hw
                  refine lv_goto (tgt := 162) hx hb dX3_put_89 (by decide) ?_
                  refine lv_aload_n hx hb dX3_put_162 rfl (lv_at hl 2 rfl) ?_
                  refine lv_iconst (v := 0) hx hb dX3_put_163 (by decide) ?_
                  refine g_put (own := RX3) (C := RX3) (T := TX3) (N := 19) (ci := 3) hx hb hq hin_X3 tyX3 tyX3_ok nmX3 hown hK hG (k := 4) (gok_lo (by decide)) (gc_M) rfl 9 (by decide) (hq _ q_422) rfl rfl (ty := .int) (v := .int 0) (by decide +kernel) rfl rfl (Nat.le_of_ble_eq_true rfl) (gi g_79 4 3 (0 : Int32)) (gs_M3) (gho_lo (by decide)) dX3_put_164 (fun H locs hG => ?_)
                  obtain ⟨g_80, eg_80⟩ : ∃ z, z = gi g_79 4 3 (0 : Int32) := ⟨_, rfl⟩
                  rw [← eg_80] at hG
                  have hw := hw g_80 eg_80
                  refine lv_iload hx hb dX3_put_167 (lv_at hl 0 rfl) ?_
                  exact g_iret hx hb hr hlocks hw hG (by decide) (by decide) dX3_put_169
              · have hw := hw.2 c_73
                refine lv_iconst (v := 0) hx hb dX3_put_50 (by decide) ?_
                exact g_iret hx hb hr hlocks hw hG (by decide) (by decide) dX3_put_51

def wpl_X3_next_104 (post : Int32 → gS → Prop) : Nat → Int32 → Int32 → Int32 → gS → Prop
  | 0 => fun _ _ _ _ => False
  | n + 1 => fun x1 x2 x3 g => vp_in (6 : Int32) 7 ∧ ((((g.1 15 (6 : Int32).toNatClampNeg) ≤ x3) → (∀ g_9 : gS, g_9 = gi g 4 5 (1 : Int32) → (wp_X3_remove (fun g_10 => (post 1 g_10)) x1 g_9))) ∧ ((¬ (g.1 15 (6 : Int32).toNatClampNeg) ≤ x3) → (∀ i_11 : Int32, i_11 = (185 * x2) + (x3 / 8) → (vp_in i_11 94720 ∧ (∀ x_13 : Int32, x_13 = (((g.2.2.2 17 i_11.toNatClampNeg) >>> ((8 * (x3 - x3 / 8 * 8)).toInt64 &&& 63)) &&& 255).toInt32 → (vp_in x3 1480 ∧ (∀ g_15 : gS, g_15 = gi g 16 x3.toNatClampNeg x_13 → (∀ x_16 : Int32, x_16 = x3 + 1 → (wpl_X3_next_104 post n x1 x2 x_16 g_15)))))))))
set_option maxHeartbeats 4000000 in
set_option maxRecDepth 100000 in
theorem L_X3_next_104 {p : Program} {l : Launch} {e : Env} {s : State} {m : MethodId} {args : Array Value} {below : List Frame} {meth : Method} {c : Code} {D : va_G} {K : Nat → ClassId} {sa ad : Nat → Nat} {A : Nat → Prop} (post : Int32 → gS → Prop) (hl9 : l.stackTraces = false) (hx : p.tables.exec = Jvm.exec) (hb : c.code = cX3_next) (hr : meth.sig.returnType = (some .boolean)) (hml : c.maxLocals = 4) (hown : s.vm.findClass RX3 = some m.cls) (hts : ∀ w ∈ wsX3_next, w.before args s = true) (hlocks : meth.locks = false) (hA : ∀ q, s.heap.size ≤ q → A q) (hE : gE D K sa A s s.heap) : ∀ (n : Nat) (x1 : Int32) (x2 : Int32) (x3 : Int32) (g : gS), wpl_X3_next_104 post n x1 x2 x3 g → ∀ (H : Heap) (locs : List Loc) (ls : Array Slot), gX D K ad A s.heap g H locs → lv_has ls 4 [(0, .ref (ad 4)), (1, .int x1), (2, .int x2), (3, .int x3)] → W p l e ({ frames := 1, cells := 0, slots := 0, locals := 22 } : Room) s m args below meth c H locs 0 0 (MQ below (va_Qi post (gB D K ad A) A) args s 0 0 A) (F0 m 104 ls []) := by
  have hK := hE.1
  have hq : ∀ w ∈ gW, w.before args s = true := fun w h => hts w (List.mem_cons_of_mem _ h)
  intro n
  induction n with
  | zero =>
    intro x1 x2 x3 g hw
    exact hw.elim
  | succ n ih =>
    intro x1 x2 x3 g hw H locs ls hG hl
    dsimp only [wpl_X3_next_104] at hw
    refine lv_iload_n hx hb dX3_next_104 rfl (lv_at hl 3 rfl) ?_
    refine lv_aload_n hx hb dX3_next_105 rfl (lv_at hl 0 rfl) ?_
    refine g_get (own := RX3) (C := RX3) (T := TX3) (N := 19) (ci := 3) hx hb hq hin_X3 hown hK hG (k := 4) (gok_lo (by decide)) (gc_M) rfl 17 (by decide) (hq _ q_430) rfl (v := .ref (ad 15)) rfl dX3_next_106 ?_
    refine lv_bipush (v := 6) hx hb dX3_next_109 (by decide) ?_
    obtain ⟨hi_7, hw⟩ := hw
    refine g_iald hx hb hK hG (k := 15) (gok_lo (by decide)) (gc_15) hi_7 dX3_next_111 ?_
    refine lv_icmp_ge (tgt := 155) hx hb dX3_next_112 (by decide) (fun c_8 => ?_) (fun c_8 => ?_)
    · have hw := hw.1 c_8
      refine lv_aload_n hx hb dX3_next_155 rfl (lv_at hl 0 rfl) ?_
      refine lv_iconst (v := 1) hx hb dX3_next_156 (by decide) ?_
      refine g_put (own := RX3) (C := RX3) (T := TX3) (N := 19) (ci := 3) hx hb hq hin_X3 tyX3 tyX3_ok nmX3 hown hK hG (k := 4) (gok_lo (by decide)) (gc_M) rfl 16 (by decide) (hq _ q_429) rfl rfl (ty := .boolean) (v := .int 1) (by decide +kernel) (by decide) (by decide) (Nat.le_of_ble_eq_true rfl) (gi g 4 5 (1 : Int32)) (gs_M5) (gho_lo (by decide)) dX3_next_157 (fun H locs hG => ?_)
      obtain ⟨g_9, eg_9⟩ : ∃ z, z = gi g 4 5 (1 : Int32) := ⟨_, rfl⟩
      rw [← eg_9] at hG
      have hw := hw g_9 eg_9
      refine lv_aload_n hx hb dX3_next_160 rfl (lv_at hl 0 rfl) ?_
      refine lv_iload_n hx hb dX3_next_161 rfl (lv_at hl 1 rfl) ?_
      refine g_callv (va_runV (As := [.int x1]) (rest := []) ⟨hx, hb, hml, hown, hts⟩ (m_X3_remove hl9 D K sa ad _ _ x1 g_9 hw) (cwV 1 hts (gGood gCons (gV q_490 q_492 q_14 q_23 q_493)) rfl rfl rfl (by decide +kernel) ⟨Nat.le_of_ble_eq_true rfl, Nat.le_of_ble_eq_true rfl⟩) ⟨gPc_blind, g_recv hK hG (gok_lo (by decide)) (gc_M) rfl, gPc_at hE hG hA⟩ rfl rfl hl.1 rfl (lv_room (Nat.le_of_ble_eq_true rfl)) dX3_next_162 ⟨Nat.le_of_ble_eq_true rfl, Nat.le_of_ble_eq_true rfl⟩) hG hA (fun g_10 H locs hw hG => ?_)
      try dsimp only at hw
      refine lv_iconst (v := 1) hx hb dX3_next_165 (by decide) ?_
      exact g_zret hx hb hr (by decide) hlocks hw hG (by decide) (by decide) dX3_next_166
    · have hw := hw.2 c_8
      refine lv_aload_n hx hb dX3_next_115 rfl (lv_at hl 0 rfl) ?_
      refine g_get (own := RX3) (C := RX3) (T := TX3) (N := 19) (ci := 3) hx hb hq hin_X3 hown hK hG (k := 4) (gok_lo (by decide)) (gc_M) rfl 18 (by decide) (hq _ q_431) rfl (v := .ref (ad 16)) rfl dX3_next_116 ?_
      refine lv_iload_n hx hb dX3_next_119 rfl (lv_at hl 3 rfl) ?_
      refine lv_aload_n hx hb dX3_next_120 rfl (lv_at hl 0 rfl) ?_
      refine g_get (own := RX3) (C := RX3) (T := TX3) (N := 19) (ci := 3) hx hb hq hin_X3 hown hK hG (k := 4) (gok_lo (by decide)) (gc_M) rfl 15 (by decide) (hq _ q_428) rfl (v := .ref (ad 17)) rfl dX3_next_121 ?_
      refine lv_sipush (v := 185) hx hb dX3_next_124 (by decide) ?_
      refine lv_iload_n hx hb dX3_next_127 rfl (lv_at hl 2 rfl) ?_
      refine lv_imul hx hb dX3_next_128 ?_
      refine lv_iload_n hx hb dX3_next_129 rfl (lv_at hl 3 rfl) ?_
      refine lv_bipush (v := 8) hx hb dX3_next_130 (by decide) ?_
      refine lv_idiv hx hb dX3_next_132 (by decide) ?_
      refine lv_iadd hx hb dX3_next_133 ?_
      refine lv_topi (fun i_11 ei_11 => ?_)
      have hw := hw i_11 ei_11
      obtain ⟨hi_12, hw⟩ := hw
      refine g_lald hx hb hK hG (k := 17) (gok_lo (by decide)) (gc_17) hi_12 dX3_next_134 ?_
      refine lv_bipush (v := 8) hx hb dX3_next_135 (by decide) ?_
      refine lv_iload_n hx hb dX3_next_137 rfl (lv_at hl 3 rfl) ?_
      refine lv_bipush (v := 8) hx hb dX3_next_138 (by decide) ?_
      refine lv_irem hx hb dX3_next_140 (by decide) ?_
      refine lv_imul hx hb dX3_next_141 ?_
      refine lv_lshr hx hb dX3_next_142 rfl ?_
      refine lv_ldc2 (own := RX3) (v := 255) hx hb hown (hq _ q_503) dX3_next_143 ?_
      refine lv_land hx hb dX3_next_146 ?_
      refine lv_l2i hx hb dX3_next_147 rfl ?_
      refine lv_topi (fun x_13 ex_13 => ?_)
      have hw := hw x_13 ex_13
      obtain ⟨hi_14, hw⟩ := hw
      refine g_iast hx hb hK hG (k := 16) (gok_lo (by decide)) (fun g => gc_16) (x := x_13) hi_14 (gho_lo (by decide)) dX3_next_148 (fun H locs hG => ?_)
      obtain ⟨g_15, eg_15⟩ : ∃ z, z = gi g 16 x3.toNatClampNeg x_13 := ⟨_, rfl⟩
      rw [← eg_15] at hG
      have hw := hw g_15 eg_15
      obtain ⟨x_16, ex_16⟩ : ∃ y : Int32, y = x3 + 1 := ⟨_, rfl⟩
      have hw := hw x_16 ex_16
      refine lv_iinc (v := x_16) (lv' := [(3, .int x_16), (0, .ref (ad 4)), (1, .int x1), (2, .int x2)]) hx hb dX3_next_149 hl (k := 3) rfl (by rw [ex_16]; rfl) (by decide) rfl (fun ls hl => ?_)
      refine lv_goto (tgt := 104) hx hb dX3_next_152 (by decide) ?_
      exact ih x1 x2 x_16 g_15 hw _ _ _ hG (lv_sub hl [1, 2, 3, 0] rfl)
def wpl_X3_next_73 (post : Int32 → gS → Prop) : Nat → Int32 → Int32 → Int32 → gS → Prop
  | 0 => fun _ _ _ _ => False
  | n + 1 => fun x1 x2 x3 g => ((7 ≤ x3) → (∃ n, wpl_X3_next_104 post n x1 x2 0 g)) ∧ ((¬ 7 ≤ x3) → (∀ i_18 : Int32, i_18 = (8 * x2) + x3 → (vp_in i_18 4096 ∧ (∀ x_20 : Int32, x_20 = g.1 14 i_18.toNatClampNeg → (vp_in x3 7 ∧ (∀ g_22 : gS, g_22 = gi g 15 x3.toNatClampNeg x_20 → (∀ x_23 : Int32, x_23 = x3 + 1 → (wpl_X3_next_73 post n x1 x2 x_23 g_22))))))))
set_option maxHeartbeats 4000000 in
set_option maxRecDepth 100000 in
theorem L_X3_next_73 {p : Program} {l : Launch} {e : Env} {s : State} {m : MethodId} {args : Array Value} {below : List Frame} {meth : Method} {c : Code} {D : va_G} {K : Nat → ClassId} {sa ad : Nat → Nat} {A : Nat → Prop} (post : Int32 → gS → Prop) (hl9 : l.stackTraces = false) (hx : p.tables.exec = Jvm.exec) (hb : c.code = cX3_next) (hr : meth.sig.returnType = (some .boolean)) (hml : c.maxLocals = 4) (hown : s.vm.findClass RX3 = some m.cls) (hts : ∀ w ∈ wsX3_next, w.before args s = true) (hlocks : meth.locks = false) (hA : ∀ q, s.heap.size ≤ q → A q) (hE : gE D K sa A s s.heap) : ∀ (n : Nat) (x1 : Int32) (x2 : Int32) (x3 : Int32) (g : gS), wpl_X3_next_73 post n x1 x2 x3 g → ∀ (H : Heap) (locs : List Loc) (ls : Array Slot), gX D K ad A s.heap g H locs → lv_has ls 4 [(0, .ref (ad 4)), (1, .int x1), (2, .int x2), (3, .int x3)] → W p l e ({ frames := 1, cells := 0, slots := 0, locals := 22 } : Room) s m args below meth c H locs 0 0 (MQ below (va_Qi post (gB D K ad A) A) args s 0 0 A) (F0 m 73 ls []) := by
  have hK := hE.1
  have hq : ∀ w ∈ gW, w.before args s = true := fun w h => hts w (List.mem_cons_of_mem _ h)
  intro n
  induction n with
  | zero =>
    intro x1 x2 x3 g hw
    exact hw.elim
  | succ n ih =>
    intro x1 x2 x3 g hw H locs ls hG hl
    dsimp only [wpl_X3_next_73] at hw
    refine lv_iload_n hx hb dX3_next_73 rfl (lv_at hl 3 rfl) ?_
    refine lv_bipush (v := 7) hx hb dX3_next_74 (by decide) ?_
    refine lv_icmp_ge (tgt := 102) hx hb dX3_next_76 (by decide) (fun c_6 => ?_) (fun c_6 => ?_)
    · have hw := hw.1 c_6
      refine lv_iconst (v := 0) hx hb dX3_next_102 (by decide) ?_
      refine lv_istore_n (lv' := [(3, .int 0), (0, .ref (ad 4)), (1, .int x1), (2, .int x2)]) hx hb dX3_next_103 rfl hl (by decide) rfl (fun ls hl => ?_)
      obtain ⟨n_17, hw⟩ := hw
      exact L_X3_next_104 post hl9 hx hb hr hml hown hts hlocks hA hE n_17 x1 x2 0 g hw _ _ _ hG (lv_sub hl [1, 2, 3, 0] rfl)
    · have hw := hw.2 c_6
      refine lv_aload_n hx hb dX3_next_79 rfl (lv_at hl 0 rfl) ?_
      refine g_get (own := RX3) (C := RX3) (T := TX3) (N := 19) (ci := 3) hx hb hq hin_X3 hown hK hG (k := 4) (gok_lo (by decide)) (gc_M) rfl 17 (by decide) (hq _ q_430) rfl (v := .ref (ad 15)) rfl dX3_next_80 ?_
      refine lv_iload_n hx hb dX3_next_83 rfl (lv_at hl 3 rfl) ?_
      refine lv_aload_n hx hb dX3_next_84 rfl (lv_at hl 0 rfl) ?_
      refine g_get (own := RX3) (C := RX3) (T := TX3) (N := 19) (ci := 3) hx hb hq hin_X3 hown hK hG (k := 4) (gok_lo (by decide)) (gc_M) rfl 14 (by decide) (hq _ q_427) rfl (v := .ref (ad 14)) rfl dX3_next_85 ?_
      refine lv_bipush (v := 8) hx hb dX3_next_88 (by decide) ?_
      refine lv_iload_n hx hb dX3_next_90 rfl (lv_at hl 2 rfl) ?_
      refine lv_imul hx hb dX3_next_91 ?_
      refine lv_iload_n hx hb dX3_next_92 rfl (lv_at hl 3 rfl) ?_
      refine lv_iadd hx hb dX3_next_93 ?_
      refine lv_topi (fun i_18 ei_18 => ?_)
      have hw := hw i_18 ei_18
      obtain ⟨hi_19, hw⟩ := hw
      refine g_iald hx hb hK hG (k := 14) (gok_lo (by decide)) (gc_14) hi_19 dX3_next_94 ?_
      refine lv_topi (fun x_20 ex_20 => ?_)
      have hw := hw x_20 ex_20
      obtain ⟨hi_21, hw⟩ := hw
      refine g_iast hx hb hK hG (k := 15) (gok_lo (by decide)) (fun g => gc_15) (x := x_20) hi_21 (gho_lo (by decide)) dX3_next_95 (fun H locs hG => ?_)
      obtain ⟨g_22, eg_22⟩ : ∃ z, z = gi g 15 x3.toNatClampNeg x_20 := ⟨_, rfl⟩
      rw [← eg_22] at hG
      have hw := hw g_22 eg_22
      obtain ⟨x_23, ex_23⟩ : ∃ y : Int32, y = x3 + 1 := ⟨_, rfl⟩
      have hw := hw x_23 ex_23
      refine lv_iinc (v := x_23) (lv' := [(3, .int x_23), (0, .ref (ad 4)), (1, .int x1), (2, .int x2)]) hx hb dX3_next_96 hl (k := 3) rfl (by rw [ex_23]; rfl) (by decide) rfl (fun ls hl => ?_)
      refine lv_goto (tgt := 73) hx hb dX3_next_99 (by decide) ?_
      exact ih x1 x2 x_23 g_22 hw _ _ _ hG (lv_sub hl [1, 2, 3, 0] rfl)
def wpl_X3_next_9 (post : Int32 → gS → Prop) : Nat → Int32 → Int32 → gS → Prop
  | 0 => fun _ _ _ => False
  | n + 1 => fun x1 x2 g => (((g.1 4 4) ≤ x2) → (((0 ≤ x1) → (vp_in x1 512 ∧ (∀ x_5 : Int32, x_5 = g.1 12 x1.toNatClampNeg → (∃ n, wpl_X3_next_73 post n x1 x_5 0 g)))) ∧ ((¬ 0 ≤ x1) → (post 0 g)))) ∧ ((¬ (g.1 4 4) ≤ x2) → (wp_X3_due (fun r_26 g_25 => ((((g_25.1 4 1) < r_26) → (∀ x_28 : Int32, x_28 = x2 + 1 → (wpl_X3_next_9 post n x1 x_28 g_25))) ∧ ((¬ (g_25.1 4 1) < r_26) → (((x1 < 0) → (∀ x_30 : Int32, x_30 = x2 + 1 → (wpl_X3_next_9 post n x2 x_30 g_25))) ∧ ((¬ x1 < 0) → (wp_X3_due (fun r_32 g_31 => (wp_X3_due (fun r_34 g_33 => (((r_34 ≤ r_32) → (∀ x_36 : Int32, x_36 = x2 + 1 → (wpl_X3_next_9 post n x1 x_36 g_33))) ∧ ((¬ r_34 ≤ r_32) → (∀ x_37 : Int32, x_37 = x2 + 1 → (wpl_X3_next_9 post n x2 x_37 g_33))))) x1 g_31)) x2 g_25)))))) x2 g))
set_option maxHeartbeats 4000000 in
set_option maxRecDepth 100000 in
theorem L_X3_next_9 {p : Program} {l : Launch} {e : Env} {s : State} {m : MethodId} {args : Array Value} {below : List Frame} {meth : Method} {c : Code} {D : va_G} {K : Nat → ClassId} {sa ad : Nat → Nat} {A : Nat → Prop} (post : Int32 → gS → Prop) (hl9 : l.stackTraces = false) (hx : p.tables.exec = Jvm.exec) (hb : c.code = cX3_next) (hr : meth.sig.returnType = (some .boolean)) (hml : c.maxLocals = 4) (hown : s.vm.findClass RX3 = some m.cls) (hts : ∀ w ∈ wsX3_next, w.before args s = true) (hlocks : meth.locks = false) (hA : ∀ q, s.heap.size ≤ q → A q) (hE : gE D K sa A s s.heap) : ∀ (n : Nat) (x1 : Int32) (x2 : Int32) (g : gS), wpl_X3_next_9 post n x1 x2 g → ∀ (H : Heap) (locs : List Loc) (ls : Array Slot), gX D K ad A s.heap g H locs → lv_has ls 4 [(0, .ref (ad 4)), (1, .int x1), (2, .int x2)] → W p l e ({ frames := 1, cells := 0, slots := 0, locals := 22 } : Room) s m args below meth c H locs 0 0 (MQ below (va_Qi post (gB D K ad A) A) args s 0 0 A) (F0 m 9 ls []) := by
  have hK := hE.1
  have hq : ∀ w ∈ gW, w.before args s = true := fun w h => hts w (List.mem_cons_of_mem _ h)
  intro n
  induction n with
  | zero =>
    intro x1 x2 g hw
    exact hw.elim
  | succ n ih =>
    intro x1 x2 g hw H locs ls hG hl
    dsimp only [wpl_X3_next_9] at hw
    refine lv_iload_n hx hb dX3_next_9 rfl (lv_at hl 2 rfl) ?_
    refine lv_aload_n hx hb dX3_next_10 rfl (lv_at hl 0 rfl) ?_
    refine g_get (own := RX3) (C := RX3) (T := TX3) (N := 19) (ci := 3) hx hb hq hin_X3 hown hK hG (k := 4) (gok_lo (by decide)) (gc_M) rfl 11 (by decide) (hq _ q_424) rfl (v := .int (g.1 4 4)) rfl dX3_next_11 ?_
    refine lv_icmp_ge (tgt := 58) hx hb dX3_next_14 (by decide) (fun c_2 => ?_) (fun c_2 => ?_)
    · have hw := hw.1 c_2
      refine lv_iload_n hx hb dX3_next_58 rfl (lv_at hl 1 rfl) ?_
      refine lv_if_ge (tgt := 64) hx hb dX3_next_59 (by decide) (fun c_3 => ?_) (fun c_3 => ?_)
      · have hw := hw.1 c_3
        refine lv_aload_n hx hb dX3_next_64 rfl (lv_at hl 0 rfl) ?_
        refine g_get (own := RX3) (C := RX3) (T := TX3) (N := 19) (ci := 3) hx hb hq hin_X3 hown hK hG (k := 4) (gok_lo (by decide)) (gc_M) rfl 12 (by decide) (hq _ q_425) rfl (v := .ref (ad 12)) rfl dX3_next_65 ?_
        refine lv_iload_n hx hb dX3_next_68 rfl (lv_at hl 1 rfl) ?_
        obtain ⟨hi_4, hw⟩ := hw
        refine g_iald hx hb hK hG (k := 12) (gok_lo (by decide)) (gc_12) hi_4 dX3_next_69 ?_
        refine lv_topi (fun x_5 ex_5 => ?_)
        have hw := hw x_5 ex_5
        refine lv_istore_n (lv' := [(2, .int x_5), (0, .ref (ad 4)), (1, .int x1)]) hx hb dX3_next_70 rfl hl (by decide) rfl (fun ls hl => ?_)
        refine lv_iconst (v := 0) hx hb dX3_next_71 (by decide) ?_
        refine lv_istore_n (lv' := [(3, .int 0), (2, .int x_5), (0, .ref (ad 4)), (1, .int x1)]) hx hb dX3_next_72 rfl hl (by decide) rfl (fun ls hl => ?_)
        obtain ⟨n_24, hw⟩ := hw
        exact L_X3_next_73 post hl9 hx hb hr hml hown hts hlocks hA hE n_24 x1 x_5 0 g hw _ _ _ hG (lv_sub hl [2, 3, 1, 0] rfl)
      · have hw := hw.2 c_3
        refine lv_iconst (v := 0) hx hb dX3_next_62 (by decide) ?_
        exact g_zret hx hb hr (by decide) hlocks hw hG (by decide) (by decide) dX3_next_63
    · have hw := hw.2 c_2
      refine lv_aload_n hx hb dX3_next_17 rfl (lv_at hl 0 rfl) ?_
      refine lv_iload_n hx hb dX3_next_18 rfl (lv_at hl 2 rfl) ?_
      refine g_calli (va_runV (As := [.int x2]) (rest := []) ⟨hx, hb, hml, hown, hts⟩ (m_X3_due hl9 D K sa ad _ _ x2 g hw) (cwV 1 hts (gGood gCons (gV q_526 q_528 q_18 q_23 q_529)) rfl rfl rfl (by decide +kernel) ⟨Nat.le_of_ble_eq_true rfl, Nat.le_of_ble_eq_true rfl⟩) ⟨gPc_blind, g_recv hK hG (gok_lo (by decide)) (gc_M) rfl, gPc_at hE hG hA⟩ rfl rfl hl.1 rfl (lv_room (Nat.le_of_ble_eq_true rfl)) dX3_next_19 ⟨Nat.le_of_ble_eq_true rfl, Nat.le_of_ble_eq_true rfl⟩) hG hA (fun r_26 g_25 H locs hw hG => ?_)
      try dsimp only at hw
      refine lv_aload_n hx hb dX3_next_22 rfl (lv_at hl 0 rfl) ?_
      refine g_get (own := RX3) (C := RX3) (T := TX3) (N := 19) (ci := 3) hx hb hq hin_X3 hown hK hG (k := 4) (gok_lo (by decide)) (gc_M) rfl 1 (by decide) (hq _ q_414) rfl (v := .int (g_25.1 4 1)) rfl dX3_next_23 ?_
      refine lv_icmp_gt (tgt := 50) hx hb dX3_next_26 (by decide) (fun c_27 => ?_) (fun c_27 => ?_)
      · have hw := hw.1 c_27
        refine lv_iload_n hx hb dX3_next_50 rfl (lv_at hl 1 rfl) ?_
        refine lv_istore_n (lv' := [(1, .int x1), (0, .ref (ad 4)), (2, .int x2)]) hx hb dX3_next_51 rfl hl (by decide) rfl (fun ls hl => ?_)
        obtain ⟨x_28, ex_28⟩ : ∃ y : Int32, y = x2 + 1 := ⟨_, rfl⟩
        have hw := hw x_28 ex_28
        refine lv_iinc (v := x_28) (lv' := [(2, .int x_28), (1, .int x1), (0, .ref (ad 4))]) hx hb dX3_next_52 hl (k := 2) rfl (by rw [ex_28]; rfl) (by decide) rfl (fun ls hl => ?_)
        refine lv_goto (tgt := 9) hx hb dX3_next_55 (by decide) ?_
        exact ih x1 x_28 g_25 hw _ _ _ hG (lv_sub hl [2, 1, 0] rfl)
      · have hw := hw.2 c_27
        refine lv_iload_n hx hb dX3_next_29 rfl (lv_at hl 1 rfl) ?_
        refine lv_if_lt (tgt := 46) hx hb dX3_next_30 (by decide) (fun c_29 => ?_) (fun c_29 => ?_)
        · have hw := hw.1 c_29
          refine lv_iload_n hx hb dX3_next_46 rfl (lv_at hl 2 rfl) ?_
          refine lv_goto (tgt := 51) hx hb dX3_next_47 (by decide) ?_
          refine lv_istore_n (lv' := [(1, .int x2), (0, .ref (ad 4)), (2, .int x2)]) hx hb dX3_next_51 rfl hl (by decide) rfl (fun ls hl => ?_)
          obtain ⟨x_30, ex_30⟩ : ∃ y : Int32, y = x2 + 1 := ⟨_, rfl⟩
          have hw := hw x_30 ex_30
          refine lv_iinc (v := x_30) (lv' := [(2, .int x_30), (1, .int x2), (0, .ref (ad 4))]) hx hb dX3_next_52 hl (k := 2) rfl (by rw [ex_30]; rfl) (by decide) rfl (fun ls hl => ?_)
          refine lv_goto (tgt := 9) hx hb dX3_next_55 (by decide) ?_
          exact ih x2 x_30 g_25 hw _ _ _ hG (lv_sub hl [2, 1, 0] rfl)
        · have hw := hw.2 c_29
          refine lv_aload_n hx hb dX3_next_33 rfl (lv_at hl 0 rfl) ?_
          refine lv_iload_n hx hb dX3_next_34 rfl (lv_at hl 2 rfl) ?_
          refine g_calli (va_runV (As := [.int x2]) (rest := []) ⟨hx, hb, hml, hown, hts⟩ (m_X3_due hl9 D K sa ad _ _ x2 g_25 hw) (cwV 1 hts (gGood gCons (gV q_526 q_528 q_18 q_23 q_529)) rfl rfl rfl (by decide +kernel) ⟨Nat.le_of_ble_eq_true rfl, Nat.le_of_ble_eq_true rfl⟩) ⟨gPc_blind, g_recv hK hG (gok_lo (by decide)) (gc_M) rfl, gPc_at hE hG hA⟩ rfl rfl hl.1 rfl (lv_room (Nat.le_of_ble_eq_true rfl)) dX3_next_35 ⟨Nat.le_of_ble_eq_true rfl, Nat.le_of_ble_eq_true rfl⟩) hG hA (fun r_32 g_31 H locs hw hG => ?_)
          try dsimp only at hw
          refine lv_aload_n hx hb dX3_next_38 rfl (lv_at hl 0 rfl) ?_
          refine lv_iload_n hx hb dX3_next_39 rfl (lv_at hl 1 rfl) ?_
          refine g_calli (va_runV (As := [.int x1]) (rest := [.int r_32]) ⟨hx, hb, hml, hown, hts⟩ (m_X3_due hl9 D K sa ad _ _ x1 g_31 hw) (cwV 1 hts (gGood gCons (gV q_526 q_528 q_18 q_23 q_529)) rfl rfl rfl (by decide +kernel) ⟨Nat.le_of_ble_eq_true rfl, Nat.le_of_ble_eq_true rfl⟩) ⟨gPc_blind, g_recv hK hG (gok_lo (by decide)) (gc_M) rfl, gPc_at hE hG hA⟩ rfl rfl hl.1 rfl (lv_room (Nat.le_of_ble_eq_true rfl)) dX3_next_40 ⟨Nat.le_of_ble_eq_true rfl, Nat.le_of_ble_eq_true rfl⟩) hG hA (fun r_34 g_33 H locs hw hG => ?_)
          try dsimp only at hw
          refine lv_icmp_ge (tgt := 50) hx hb dX3_next_43 (by decide) (fun c_35 => ?_) (fun c_35 => ?_)
          · have hw := hw.1 c_35
            refine lv_iload_n hx hb dX3_next_50 rfl (lv_at hl 1 rfl) ?_
            refine lv_istore_n (lv' := [(1, .int x1), (0, .ref (ad 4)), (2, .int x2)]) hx hb dX3_next_51 rfl hl (by decide) rfl (fun ls hl => ?_)
            obtain ⟨x_36, ex_36⟩ : ∃ y : Int32, y = x2 + 1 := ⟨_, rfl⟩
            have hw := hw x_36 ex_36
            refine lv_iinc (v := x_36) (lv' := [(2, .int x_36), (1, .int x1), (0, .ref (ad 4))]) hx hb dX3_next_52 hl (k := 2) rfl (by rw [ex_36]; rfl) (by decide) rfl (fun ls hl => ?_)
            refine lv_goto (tgt := 9) hx hb dX3_next_55 (by decide) ?_
            exact ih x1 x_36 g_33 hw _ _ _ hG (lv_sub hl [2, 1, 0] rfl)
          · have hw := hw.2 c_35
            refine lv_iload_n hx hb dX3_next_46 rfl (lv_at hl 2 rfl) ?_
            refine lv_goto (tgt := 51) hx hb dX3_next_47 (by decide) ?_
            refine lv_istore_n (lv' := [(1, .int x2), (0, .ref (ad 4)), (2, .int x2)]) hx hb dX3_next_51 rfl hl (by decide) rfl (fun ls hl => ?_)
            obtain ⟨x_37, ex_37⟩ : ∃ y : Int32, y = x2 + 1 := ⟨_, rfl⟩
            have hw := hw x_37 ex_37
            refine lv_iinc (v := x_37) (lv' := [(2, .int x_37), (1, .int x2), (0, .ref (ad 4))]) hx hb dX3_next_52 hl (k := 2) rfl (by rw [ex_37]; rfl) (by decide) rfl (fun ls hl => ?_)
            refine lv_goto (tgt := 9) hx hb dX3_next_55 (by decide) ?_
            exact ih x2 x_37 g_33 hw _ _ _ hG (lv_sub hl [2, 1, 0] rfl)
def wp_X3_next (post : Int32 → gS → Prop)  (g : gS) : Prop := ∀ g_1 : gS, g_1 = gi g 4 0 (0 : Int32) → (∃ n, wpl_X3_next_9 post n (-1) 0 g_1)
set_option maxHeartbeats 4000000 in
set_option maxRecDepth 100000 in
theorem m_X3_next {l : Launch} (hl9 : l.stackTraces = false) (D : va_G) (K : Nat → ClassId) (sa ad : Nat → Nat) (sz : Nat) (post : Int32 → gS → Prop)  (g : gS) (hw : wp_X3_next post  g) : Met l yX3_next wsX3_next ({ frames := 1, cells := 0, slots := 0, locals := 22 } : Room) (gPc D K sa ad sz g [.ref (ad 4)]) (va_Qi post (gB D K ad (va_A (gw K ad g) sz)) (va_A (gw K ad g) sz)) 0 0 (va_A (gw K ad g) sz) := by
  refine Met.ofW (cc := cX3_next) (maxL := 4) (ret := (some .boolean)) (by decide) rfl ?_
  intro p e s m args below meth c s₁ B hml hv
  obtain ⟨rfl, hsz, hP, hE, hD0⟩ := hv
  have hx := B.exec
  have hb := B.bytes
  have hr := B.returns
  have hts := atoms_spec (ws := wsX3_next) B.pre
  have hq : ∀ w ∈ gW, w.before _ s = true := fun w h => hts w (List.mem_cons_of_mem _ h)
  have hown : s.vm.findClass RX3 = some m.cls := findClass_of_methodNamed B.named
  have hlocks := B.notSynchronized
  subst hsz
  have hD := hD0.self (sz := s.heap.size)
  generalize hAe : va_A (gw K ad g) s.heap.size = A at hD hE ⊢
  have hA : ∀ q : Nat, s.heap.size ≤ q → A q := fun q h => by rw [← hAe]; exact Or.inr h
  have hK := hE.1
  have hG : gX D K ad A s.heap g s.heap [] := ⟨hP, hD, va_S.rf⟩
  have hl := lv_entry ([.ref (ad 4)]) (n := 4) (Nat.le_of_ble_eq_true rfl)
  rw [lg_entry_eq]
  generalize (lg_sl ([.ref (ad 4)]) ++ List.replicate (4 - (lg_sl ([.ref (ad 4)])).length) Slot.unset).toArray = ls at hl ⊢
  have hl : lv_has ls 4 [(0, .ref (ad 4))] := hl
  dsimp only [wp_X3_next] at hw
  refine lv_aload_n hx hb dX3_next_0 rfl (lv_at hl 0 rfl) ?_
  refine lv_iconst (v := 0) hx hb dX3_next_1 (by decide) ?_
  refine g_put (own := RX3) (C := RX3) (T := TX3) (N := 19) (ci := 3) hx hb hq hin_X3 tyX3 tyX3_ok nmX3 hown hK hG (k := 4) (gok_lo (by decide)) (gc_M) rfl 0 (by decide) (hq _ q_413) rfl rfl (ty := .int) (v := .int 0) (by decide +kernel) rfl rfl (Nat.le_of_ble_eq_true rfl) (gi g 4 0 (0 : Int32)) (gs_M0) (gho_lo (by decide)) dX3_next_2 (fun H locs hG => ?_)
  obtain ⟨g_1, eg_1⟩ : ∃ z, z = gi g 4 0 (0 : Int32) := ⟨_, rfl⟩
  rw [← eg_1] at hG
  have hw := hw g_1 eg_1
  refine lv_iconst (v := (-1)) hx hb dX3_next_5 (by decide) ?_
  refine lv_istore_n (lv' := [(1, .int (-1)), (0, .ref (ad 4))]) hx hb dX3_next_6 rfl hl (by decide) rfl (fun ls hl => ?_)
  refine lv_iconst (v := 0) hx hb dX3_next_7 (by decide) ?_
  refine lv_istore_n (lv' := [(2, .int 0), (1, .int (-1)), (0, .ref (ad 4))]) hx hb dX3_next_8 rfl hl (by decide) rfl (fun ls hl => ?_)
  obtain ⟨n_38, hw⟩ := hw
  exact L_X3_next_9 post hl9 hx hb hr hml hown hts hlocks hA hE n_38 (-1) 0 g_1 hw _ _ _ hG (lv_sub hl [2, 1, 0] rfl)
end

def R_law : String := "WireBenchLaw"
def lw_P (b : Addr) (xs : List Int32) (args : Array Value) (s : State) : Prop := args = #[.ref b] ∧ s.IntsAt b xs ∧ xs.length ≤ 2560 ∧ (Jvm.Cond.and given_1 narrow_1).before args s = true
def lw_Q (_ : Array Value) (s : State) (o : Outcome) (t : State) : Prop := o = .returned (some (.int 1)) ∧ Framed s o t [] 601024 7293034
def lw_Z (below : List Frame) (a : Array Value) (s : State) : State → Prop := fun t => ∃ o, t.status = .running ∧ Ended t below o ∧ lw_Q a s o t
/-- the law's own end, with 1 on the stack, nothing written that was there before, its room as the claim has it -/
theorem lw_ret {p : Program} {l : Launch} {e : Env} {s : State} {m : MethodId} {below : List Frame} {meth : Method} {c : Code} {b : Nat} (hx : p.tables.exec = Jvm.exec) (hb : c.code = code) (hr : meth.sig.returnType = ret) (hlocks : meth.locks = false) {pc : Nat} {H : Heap} {ls : Array Slot} (hdg : decode code pc = .ok (.ireturn, 1)) : W p l e room_1 s m #[Value.ref b] below meth c H [] 601024 7293034 (lw_Z below #[Value.ref b] s) (F0 m pc ls [.int 1]) := by
  intro T hT X
  obtain ⟨fs, hret, hrun, hended, hW, hframe⟩ := X.leave (v := some (.int 1)) (hlocks := hlocks) (fun h => by rw [hr] at h; cases h)
  have hmeth' : T.vm.method? m = some meth := X.method'
  refine ⟨T.setFrames fs, ?_, .returned (some (.int 1)), hrun, hended, rfl, ⟨_, rfl⟩, hW, hframe⟩
  jvm_step X.here [X.here.top, hx, hb, hdg, hmeth', hr, ret, narrow_b1]
  (try refine ⟨rfl, ?_⟩); (try refine ⟨rfl, ?_⟩)
  first | (intro acts; rw [hret _ acts rfl rfl rfl]) | rw [hret _ _ rfl rfl rfl]
  exact Steps.refl _
/-- what holds at the law's entry: the machine, the code, the tables' words (any of lw_tbl by 'hts w (by decide +kernel)'), the script of L ints xs at the cell b, what the Statement gives of the start (any of its parts by flat_of_before) -/
def lw_At (p : Program) (s : State) (m : MethodId) (meth : Method) (c : Code) (b L : Nat) (xs : Nat → Int32) : Prop :=
  p.tables.exec = Jvm.exec ∧ c.code = code ∧ meth.sig.returnType = ret ∧ c.maxLocals = 7 ∧ s.vm.findClass R_law = some m.cls ∧ (∀ w ∈ lw_tbl, w.before #[Value.ref b] s = true) ∧ va_X b L xs s s.heap ∧ b < s.heap.size ∧ meth.locks = false ∧ (Jvm.Cond.and given_1 narrow_1).before #[Value.ref b] s = true
def wpl_L_law (L : Nat) (xs : Nat → Int32) : Nat → Int32 → gS → Prop
  | 0 => fun _ _ => False
  | n + 1 => fun x4 g => ((((Int32.ofNat L) - 5) < x4) → (True)) ∧ ((¬ ((Int32.ofNat L) - 5) < x4) → (vp_in x4 L ∧ (((((xs x4.toNatClampNeg) &&& 15).toInt < 0 ∨ 11 < ((xs x4.toNatClampNeg) &&& 15).toInt) → (∀ x_4 : Int32, x_4 = x4 + 5 → (wpl_L_law L xs n x_4 g))) ∧ (((xs x4.toNatClampNeg) &&& 15).toInt = 0 → (∀ i_5 : Int32, i_5 = x4 + 1 → (vp_in i_5 L ∧ (∀ i_7 : Int32, i_7 = x4 + 2 → (vp_in i_7 L ∧ (wp_L_net (fun r_10 g_9 => (∀ i_11 : Int32, i_11 = x4 + 1 → (vp_in i_11 L ∧ (∀ i_13 : Int32, i_13 = x4 + 2 → (vp_in i_13 L ∧ (wp_X3_net (fun r_16 g_15 => (wp_X3_thrown (fun r_18 g_17 => (((r_18 = r_10) → (((¬ r_10 = 0) → (∀ x_21 : Int32, x_21 = x4 + 5 → (wpl_L_law L xs n x_21 g_17))) ∧ ((r_10 = 0) → (vp_in (0 : Int32) 1 ∧ ((((lg_cmp (g_17.2.2.2 18 (0 : Int32).toNatClampNeg) r_16.toInt64) = 0) → (∀ x_24 : Int32, x_24 = x4 + 5 → (wpl_L_law L xs n x_24 g_17))) ∧ ((¬ (lg_cmp (g_17.2.2.2 18 (0 : Int32).toNatClampNeg) r_16.toInt64) = 0) → (False))))))) ∧ ((¬ r_18 = r_10) → (False))))  g_15)) (xs i_11.toNatClampNeg) (xs i_13.toNatClampNeg) g_9)))))) (xs i_5.toNatClampNeg) (xs i_7.toNatClampNeg) g)))))) ∧ (((xs x4.toNatClampNeg) &&& 15).toInt = 1 → (∀ i_25 : Int32, i_25 = x4 + 1 → (vp_in i_25 L ∧ (∀ i_27 : Int32, i_27 = x4 + 2 → (vp_in i_27 L ∧ ((((xs i_27.toNatClampNeg) = 0) → (wp_L_link (fun r_31 g_30 => (∀ i_32 : Int32, i_32 = x4 + 1 → (vp_in i_32 L ∧ (∀ i_34 : Int32, i_34 = x4 + 2 → (vp_in i_34 L ∧ ((((xs i_34.toNatClampNeg) = 0) → (wp_X3_link (fun r_38 g_37 => (wp_X3_thrown (fun r_40 g_39 => (((r_40 = r_31) → (((¬ r_31 = 0) → (∀ x_43 : Int32, x_43 = x4 + 5 → (wpl_L_law L xs n x_43 g_39))) ∧ ((r_31 = 0) → (vp_in (0 : Int32) 1 ∧ ((((lg_cmp (g_39.2.2.2 18 (0 : Int32).toNatClampNeg) r_38.toInt64) = 0) → (∀ x_46 : Int32, x_46 = x4 + 5 → (wpl_L_law L xs n x_46 g_39))) ∧ ((¬ (lg_cmp (g_39.2.2.2 18 (0 : Int32).toNatClampNeg) r_38.toInt64) = 0) → (False))))))) ∧ ((¬ r_40 = r_31) → (False))))  g_37)) (xs i_32.toNatClampNeg) 0 g_30)) ∧ ((¬ (xs i_34.toNatClampNeg) = 0) → (wp_X3_link (fun r_48 g_47 => (wp_X3_thrown (fun r_50 g_49 => (((r_50 = r_31) → (((¬ r_31 = 0) → (∀ x_53 : Int32, x_53 = x4 + 5 → (wpl_L_law L xs n x_53 g_49))) ∧ ((r_31 = 0) → (vp_in (0 : Int32) 1 ∧ ((((lg_cmp (g_49.2.2.2 18 (0 : Int32).toNatClampNeg) r_48.toInt64) = 0) → (∀ x_56 : Int32, x_56 = x4 + 5 → (wpl_L_law L xs n x_56 g_49))) ∧ ((¬ (lg_cmp (g_49.2.2.2 18 (0 : Int32).toNatClampNeg) r_48.toInt64) = 0) → (False))))))) ∧ ((¬ r_50 = r_31) → (False))))  g_47)) (xs i_32.toNatClampNeg) 1 g_30)))))))) (xs i_25.toNatClampNeg) 0 g)) ∧ ((¬ (xs i_27.toNatClampNeg) = 0) → (wp_L_link (fun r_58 g_57 => (∀ i_59 : Int32, i_59 = x4 + 1 → (vp_in i_59 L ∧ (∀ i_61 : Int32, i_61 = x4 + 2 → (vp_in i_61 L ∧ ((((xs i_61.toNatClampNeg) = 0) → (wp_X3_link (fun r_65 g_64 => (wp_X3_thrown (fun r_67 g_66 => (((r_67 = r_58) → (((¬ r_58 = 0) → (∀ x_70 : Int32, x_70 = x4 + 5 → (wpl_L_law L xs n x_70 g_66))) ∧ ((r_58 = 0) → (vp_in (0 : Int32) 1 ∧ ((((lg_cmp (g_66.2.2.2 18 (0 : Int32).toNatClampNeg) r_65.toInt64) = 0) → (∀ x_73 : Int32, x_73 = x4 + 5 → (wpl_L_law L xs n x_73 g_66))) ∧ ((¬ (lg_cmp (g_66.2.2.2 18 (0 : Int32).toNatClampNeg) r_65.toInt64) = 0) → (False))))))) ∧ ((¬ r_67 = r_58) → (False))))  g_64)) (xs i_59.toNatClampNeg) 0 g_57)) ∧ ((¬ (xs i_61.toNatClampNeg) = 0) → (wp_X3_link (fun r_75 g_74 => (wp_X3_thrown (fun r_77 g_76 => (((r_77 = r_58) → (((¬ r_58 = 0) → (∀ x_80 : Int32, x_80 = x4 + 5 → (wpl_L_law L xs n x_80 g_76))) ∧ ((r_58 = 0) → (vp_in (0 : Int32) 1 ∧ ((((lg_cmp (g_76.2.2.2 18 (0 : Int32).toNatClampNeg) r_75.toInt64) = 0) → (∀ x_83 : Int32, x_83 = x4 + 5 → (wpl_L_law L xs n x_83 g_76))) ∧ ((¬ (lg_cmp (g_76.2.2.2 18 (0 : Int32).toNatClampNeg) r_75.toInt64) = 0) → (False))))))) ∧ ((¬ r_77 = r_58) → (False))))  g_74)) (xs i_59.toNatClampNeg) 1 g_57)))))))) (xs i_25.toNatClampNeg) 1 g)))))))) ∧ (((xs x4.toNatClampNeg) &&& 15).toInt = 2 → (∀ i_84 : Int32, i_84 = x4 + 1 → (vp_in i_84 L ∧ (∀ i_86 : Int32, i_86 = x4 + 2 → (vp_in i_86 L ∧ (∀ i_88 : Int32, i_88 = x4 + 3 → (vp_in i_88 L ∧ (∀ i_90 : Int32, i_90 = x4 + 4 → (vp_in i_90 L ∧ (wp_L_fates (fun r_93 g_92 => (∀ i_94 : Int32, i_94 = x4 + 1 → (vp_in i_94 L ∧ (∀ i_96 : Int32, i_96 = x4 + 2 → (vp_in i_96 L ∧ (∀ i_98 : Int32, i_98 = x4 + 3 → (vp_in i_98 L ∧ (∀ i_100 : Int32, i_100 = x4 + 4 → (vp_in i_100 L ∧ (wp_X3_fates (fun r_103 g_102 => (wp_X3_thrown (fun r_105 g_104 => (((r_105 = r_93) → (((¬ r_93 = 0) → (∀ x_108 : Int32, x_108 = x4 + 5 → (wpl_L_law L xs n x_108 g_104))) ∧ ((r_93 = 0) → (vp_in (0 : Int32) 1 ∧ ((((lg_cmp (g_104.2.2.2 18 (0 : Int32).toNatClampNeg) r_103.toInt64) = 0) → (∀ x_111 : Int32, x_111 = x4 + 5 → (wpl_L_law L xs n x_111 g_104))) ∧ ((¬ (lg_cmp (g_104.2.2.2 18 (0 : Int32).toNatClampNeg) r_103.toInt64) = 0) → (False))))))) ∧ ((¬ r_105 = r_93) → (False))))  g_102)) (xs i_94.toNatClampNeg) ((((xs i_96.toNatClampNeg).toInt64) <<< ((32 : Int32).toInt64 &&& 63)) ||| (((xs i_98.toNatClampNeg).toInt64) &&& 4294967295)) (xs i_100.toNatClampNeg) g_92)))))))))) (xs i_84.toNatClampNeg) ((((xs i_86.toNatClampNeg).toInt64) <<< ((32 : Int32).toInt64 &&& 63)) ||| (((xs i_88.toNatClampNeg).toInt64) &&& 4294967295)) (xs i_90.toNatClampNeg) g)))))))))) ∧ (((xs x4.toNatClampNeg) &&& 15).toInt = 3 → (∀ i_112 : Int32, i_112 = x4 + 1 → (vp_in i_112 L ∧ (∀ i_114 : Int32, i_114 = x4 + 2 → (vp_in i_114 L ∧ (∀ i_116 : Int32, i_116 = x4 + 3 → (vp_in i_116 L ∧ (wp_L_feed (fun r_119 g_118 => (∀ i_120 : Int32, i_120 = x4 + 1 → (vp_in i_120 L ∧ (∀ i_122 : Int32, i_122 = x4 + 2 → (vp_in i_122 L ∧ (∀ i_124 : Int32, i_124 = x4 + 3 → (vp_in i_124 L ∧ (wp_X3_feed (fun r_127 g_126 => (wp_X3_thrown (fun r_129 g_128 => (((r_129 = r_119) → (((¬ r_119 = 0) → (∀ x_132 : Int32, x_132 = x4 + 5 → (wpl_L_law L xs n x_132 g_128))) ∧ ((r_119 = 0) → (vp_in (0 : Int32) 1 ∧ ((((lg_cmp (g_128.2.2.2 18 (0 : Int32).toNatClampNeg) r_127.toInt64) = 0) → (∀ x_135 : Int32, x_135 = x4 + 5 → (wpl_L_law L xs n x_135 g_128))) ∧ ((¬ (lg_cmp (g_128.2.2.2 18 (0 : Int32).toNatClampNeg) r_127.toInt64) = 0) → (False))))))) ∧ ((¬ r_129 = r_119) → (False))))  g_126)) ((((xs i_120.toNatClampNeg).toInt64) <<< ((32 : Int32).toInt64 &&& 63)) ||| (((xs i_122.toNatClampNeg).toInt64) &&& 4294967295)) (xs i_124.toNatClampNeg) g_118)))))))) ((((xs i_112.toNatClampNeg).toInt64) <<< ((32 : Int32).toInt64 &&& 63)) ||| (((xs i_114.toNatClampNeg).toInt64) &&& 4294967295)) (xs i_116.toNatClampNeg) g)))))))) ∧ (((xs x4.toNatClampNeg) &&& 15).toInt = 4 → (∀ i_136 : Int32, i_136 = x4 + 1 → (vp_in i_136 L ∧ (∀ i_138 : Int32, i_138 = x4 + 2 → (vp_in i_138 L ∧ (∀ i_140 : Int32, i_140 = x4 + 3 → (vp_in i_140 L ∧ (∀ i_142 : Int32, i_142 = x4 + 4 → (vp_in i_142 L ∧ (wp_L_put (fun r_145 g_144 => (∀ i_146 : Int32, i_146 = x4 + 1 → (vp_in i_146 L ∧ (∀ i_148 : Int32, i_148 = x4 + 2 → (vp_in i_148 L ∧ (∀ i_150 : Int32, i_150 = x4 + 3 → (vp_in i_150 L ∧ (∀ i_152 : Int32, i_152 = x4 + 4 → (vp_in i_152 L ∧ (wp_X3_put (fun r_155 g_154 => (wp_X3_thrown (fun r_157 g_156 => (((r_157 = r_145) → (((¬ r_145 = 0) → (∀ x_160 : Int32, x_160 = x4 + 5 → (wpl_L_law L xs n x_160 g_156))) ∧ ((r_145 = 0) → (vp_in (0 : Int32) 1 ∧ ((((lg_cmp (g_156.2.2.2 18 (0 : Int32).toNatClampNeg) r_155.toInt64) = 0) → (∀ x_163 : Int32, x_163 = x4 + 5 → (wpl_L_law L xs n x_163 g_156))) ∧ ((¬ (lg_cmp (g_156.2.2.2 18 (0 : Int32).toNatClampNeg) r_155.toInt64) = 0) → (False))))))) ∧ ((¬ r_157 = r_145) → (False))))  g_154)) (xs i_146.toNatClampNeg) (xs i_148.toNatClampNeg) (xs i_150.toNatClampNeg) (xs i_152.toNatClampNeg) g_144)))))))))) (xs i_136.toNatClampNeg) (xs i_138.toNatClampNeg) (xs i_140.toNatClampNeg) (xs i_142.toNatClampNeg) g)))))))))) ∧ (((xs x4.toNatClampNeg) &&& 15).toInt = 5 → (∀ i_164 : Int32, i_164 = x4 + 1 → (vp_in i_164 L ∧ (wp_L_pass (fun r_167 g_166 => (∀ i_168 : Int32, i_168 = x4 + 1 → (vp_in i_168 L ∧ (wp_X3_pass (fun r_171 g_170 => (wp_X3_thrown (fun r_173 g_172 => (((r_173 = r_167) → (((¬ r_167 = 0) → (∀ x_176 : Int32, x_176 = x4 + 5 → (wpl_L_law L xs n x_176 g_172))) ∧ ((r_167 = 0) → (vp_in (0 : Int32) 1 ∧ ((((lg_cmp (g_172.2.2.2 18 (0 : Int32).toNatClampNeg) r_171.toInt64) = 0) → (∀ x_179 : Int32, x_179 = x4 + 5 → (wpl_L_law L xs n x_179 g_172))) ∧ ((¬ (lg_cmp (g_172.2.2.2 18 (0 : Int32).toNatClampNeg) r_171.toInt64) = 0) → (False))))))) ∧ ((¬ r_173 = r_167) → (False))))  g_170)) (xs i_168.toNatClampNeg) g_166)))) (xs i_164.toNatClampNeg) g)))) ∧ (((xs x4.toNatClampNeg) &&& 15).toInt = 6 → (wp_X2_next (fun r_181 g_180 => (wp_X3_next (fun r_183 g_182 => (((r_181 = r_183) → (∀ x_185 : Int32, x_185 = x4 + 5 → (wpl_L_law L xs n x_185 g_182))) ∧ ((¬ r_181 = r_183) → (False))))  g_180))  g)) ∧ (((xs x4.toNatClampNeg) &&& 15).toInt = 7 → (∀ i_186 : Int32, i_186 = x4 + 1 → (vp_in i_186 L ∧ (wp_L_arrival (fun r_189 g_188 => (∀ i_190 : Int32, i_190 = x4 + 1 → (vp_in i_190 L ∧ (wp_X3_arrival (fun r_193 g_192 => (wp_X3_thrown (fun r_195 g_194 => (((r_195 = r_189) → (((¬ r_189 = 0) → (∀ x_198 : Int32, x_198 = x4 + 5 → (wpl_L_law L xs n x_198 g_194))) ∧ ((r_189 = 0) → (vp_in (0 : Int32) 1 ∧ ((((lg_cmp (g_194.2.2.2 18 (0 : Int32).toNatClampNeg) r_193.toInt64) = 0) → (∀ x_201 : Int32, x_201 = x4 + 5 → (wpl_L_law L xs n x_201 g_194))) ∧ ((¬ (lg_cmp (g_194.2.2.2 18 (0 : Int32).toNatClampNeg) r_193.toInt64) = 0) → (False))))))) ∧ ((¬ r_195 = r_189) → (False))))  g_192)) (xs i_190.toNatClampNeg) g_188)))) (xs i_186.toNatClampNeg) g)))) ∧ (((xs x4.toNatClampNeg) &&& 15).toInt = 8 → (∀ i_202 : Int32, i_202 = x4 + 1 → (vp_in i_202 L ∧ (wp_L_byteAt (fun r_205 g_204 => (∀ i_206 : Int32, i_206 = x4 + 1 → (vp_in i_206 L ∧ (wp_X3_byteAt (fun r_209 g_208 => (wp_X3_thrown (fun r_211 g_210 => (((r_211 = r_205) → (((¬ r_205 = 0) → (∀ x_214 : Int32, x_214 = x4 + 5 → (wpl_L_law L xs n x_214 g_210))) ∧ ((r_205 = 0) → (vp_in (0 : Int32) 1 ∧ ((((lg_cmp (g_210.2.2.2 18 (0 : Int32).toNatClampNeg) r_209.toInt64) = 0) → (∀ x_217 : Int32, x_217 = x4 + 5 → (wpl_L_law L xs n x_217 g_210))) ∧ ((¬ (lg_cmp (g_210.2.2.2 18 (0 : Int32).toNatClampNeg) r_209.toInt64) = 0) → (False))))))) ∧ ((¬ r_211 = r_205) → (False))))  g_208)) (xs i_206.toNatClampNeg) g_204)))) (xs i_202.toNatClampNeg) g)))) ∧ (((xs x4.toNatClampNeg) &&& 15).toInt = 9 → (wp_X2_underWay (fun r_219 g_218 => (wp_X3_underWay (fun r_221 g_220 => (((r_219 = r_221) → (∀ x_223 : Int32, x_223 = x4 + 5 → (wpl_L_law L xs n x_223 g_220))) ∧ ((¬ r_219 = r_221) → (False))))  g_218))  g)) ∧ (((xs x4.toNatClampNeg) &&& 15).toInt = 10 → (∀ i_224 : Int32, i_224 = x4 + 1 → (vp_in i_224 L ∧ (wp_L_fated (fun r_227 g_226 => (∀ i_228 : Int32, i_228 = x4 + 1 → (vp_in i_228 L ∧ (wp_X3_fated (fun r_231 g_230 => (wp_X3_thrown (fun r_233 g_232 => (((r_233 = r_227) → (((¬ r_227 = 0) → (∀ x_236 : Int32, x_236 = x4 + 5 → (wpl_L_law L xs n x_236 g_232))) ∧ ((r_227 = 0) → (vp_in (0 : Int32) 1 ∧ ((((lg_cmp (g_232.2.2.2 18 (0 : Int32).toNatClampNeg) r_231.toInt64) = 0) → (∀ x_239 : Int32, x_239 = x4 + 5 → (wpl_L_law L xs n x_239 g_232))) ∧ ((¬ (lg_cmp (g_232.2.2.2 18 (0 : Int32).toNatClampNeg) r_231.toInt64) = 0) → (False))))))) ∧ ((¬ r_233 = r_227) → (False))))  g_230)) (xs i_228.toNatClampNeg) g_226)))) (xs i_224.toNatClampNeg) g)))) ∧ (((xs x4.toNatClampNeg) &&& 15).toInt = 11 → (∀ i_240 : Int32, i_240 = x4 + 1 → (vp_in i_240 L ∧ (wp_L_puts (fun r_243 g_242 => (∀ i_244 : Int32, i_244 = x4 + 1 → (vp_in i_244 L ∧ (wp_X3_puts (fun r_247 g_246 => (wp_X3_thrown (fun r_249 g_248 => (((r_249 = r_243) → (((¬ r_243 = 0) → (∀ x_252 : Int32, x_252 = x4 + 5 → (wpl_L_law L xs n x_252 g_248))) ∧ ((r_243 = 0) → (vp_in (0 : Int32) 1 ∧ ((((lg_cmp (g_248.2.2.2 18 (0 : Int32).toNatClampNeg) r_247.toInt64) = 0) → (∀ x_255 : Int32, x_255 = x4 + 5 → (wpl_L_law L xs n x_255 g_248))) ∧ ((¬ (lg_cmp (g_248.2.2.2 18 (0 : Int32).toNatClampNeg) r_247.toInt64) = 0) → (False))))))) ∧ ((¬ r_249 = r_243) → (False))))  g_246)) (xs i_244.toNatClampNeg) g_242)))) (xs i_240.toNatClampNeg) g)))))))
set_option maxHeartbeats 8000000 in
set_option maxRecDepth 100000 in
theorem L_law_loop {p : Program} {l : Launch} {e : Env} {s : State} {m : MethodId} {below : List Frame} {meth : Method} {c : Code} {D : va_G} {K : Nat → ClassId} {sa ad : Nat → Nat} {b L : Nat} {xs : Nat → Int32} (hl9 : l.stackTraces = false) (C0 : lw_At p s m meth c b L xs) (hE : gE D K sa (fun q : Nat => s.heap.size ≤ q) s s.heap) :
    ∀ (n kc ks : Nat), kc + 2 * n ≤ 601024 → ks + 12 * n ≤ 7293034 → ∀ (x4 : Int32) (g : gS), wpl_L_law L xs n x4 g → ∀ (H : Heap) (locs : List Loc) (ls : Array Slot), gX D K ad (fun q : Nat => s.heap.size ≤ q) s.heap g H locs → lv_has ls 7 [(0, .ref b), (1, .ref (ad 0)), (2, .ref (ad 4)), (3, .ref (ad 18)), (4, .int x4)] → W p l e room_1 s m #[Value.ref b] below meth c H locs kc ks (lw_Z below #[Value.ref b] s) (F0 m 23 ls []) := by
  obtain ⟨hx, hb, hr, hml, hown, hts, hX, hbl, hlocks, hgv⟩ := C0
  have hA : ∀ q : Nat, s.heap.size ≤ q → (fun q : Nat => s.heap.size ≤ q) q := fun _ h => h
  have hbA : ¬ (fun q : Nat => s.heap.size ≤ q) b := Nat.not_le.mpr hbl
  have hK := hE.1
  have hq : ∀ w ∈ gW, w.before #[Value.ref b] s = true := fun w h => hts w (gW_in h)
  intro n
  induction n with
  | zero =>
    intro kc ks h1 h2 x4 g hw
    exact hw.elim
  | succ n ih =>
    intro kc ks hkc hks x4 g hw H locs ls hG hl
    dsimp only [wpl_L_law] at hw
    refine lv_iload hx hb dL_law_23 (lv_at hl 4 rfl) ?_
    refine lv_aload_n hx hb dL_law_25 rfl (lv_at hl 0 rfl) ?_
    refine va_slen hx hb hX hbl hbA hG.2.2 dL_law_26 ?_
    refine lv_iconst (v := 5) hx hb dL_law_27 (by decide) ?_
    refine lv_isub hx hb dL_law_28 ?_
    refine lv_icmp_gt (tgt := 868) hx hb dL_law_29 (by decide) (fun c_1 => ?_) (fun c_1 => ?_)
    · have hw := hw.1 c_1
      refine lv_iconst (v := 1) hx hb dL_law_868 (by decide) ?_
      refine va_forget (fun q hq => hG.2.2.2.2 q hq) ?_
      refine W.widen (k := 601024) (n := 7293034) (by omega) (by omega) ?_
      exact lw_ret hx hb hr hlocks dL_law_869
    · have hw := hw.2 c_1
      refine lv_aload_n hx hb dL_law_32 rfl (lv_at hl 0 rfl) ?_
      refine lv_iload hx hb dL_law_33 (lv_at hl 4 rfl) ?_
      obtain ⟨hi_2, hw⟩ := hw
      refine va_sld hx hb hX hbl hbA hG.2.2 hi_2 dL_law_35 ?_
      refine lv_bipush (v := 15) hx hb dL_law_36 (by decide) ?_
      refine lv_iand hx hb dL_law_38 ?_
      by_cases h_3 : ((xs x4.toNatClampNeg) &&& 15).toInt < 0 ∨ 11 < ((xs x4.toNatClampNeg) &&& 15).toInt
      · refine lv_tableOut hx hb dL_law_39 h_3 (tgt := 862) (by decide) ?_
        have hw := hw.1 h_3
        obtain ⟨x_4, ex_4⟩ : ∃ y : Int32, y = x4 + 5 := ⟨_, rfl⟩
        have hw := hw x_4 ex_4
        refine lv_iinc (v := x_4) (lv' := [(4, .int x_4), (0, .ref b), (1, .ref (ad 0)), (2, .ref (ad 4)), (3, .ref (ad 18))]) hx hb dL_law_862 hl (k := 4) rfl (by rw [ex_4]; rfl) (by decide) rfl (fun ls hl => ?_)
        refine lv_goto (tgt := 23) hx hb dL_law_865 (by decide) ?_
        refine W.widen (k := kc + 2) (n := ks + 12) (by omega) (by omega) ?_
        exact ih (kc + 2) (ks + 12) (by omega) (by omega) x_4 g hw _ _ _ hG (lv_sub hl [1, 2, 3, 4, 0] rfl)
      · have hw := hw.2
        rcases (show ((xs x4.toNatClampNeg) &&& 15).toInt = 0 ∨ ((xs x4.toNatClampNeg) &&& 15).toInt = 1 ∨ ((xs x4.toNatClampNeg) &&& 15).toInt = 2 ∨ ((xs x4.toNatClampNeg) &&& 15).toInt = 3 ∨ ((xs x4.toNatClampNeg) &&& 15).toInt = 4 ∨ ((xs x4.toNatClampNeg) &&& 15).toInt = 5 ∨ ((xs x4.toNatClampNeg) &&& 15).toInt = 6 ∨ ((xs x4.toNatClampNeg) &&& 15).toInt = 7 ∨ ((xs x4.toNatClampNeg) &&& 15).toInt = 8 ∨ ((xs x4.toNatClampNeg) &&& 15).toInt = 9 ∨ ((xs x4.toNatClampNeg) &&& 15).toInt = 10 ∨ ((xs x4.toNatClampNeg) &&& 15).toInt = 11 by omega) with h_3 | h_3 | h_3 | h_3 | h_3 | h_3 | h_3 | h_3 | h_3 | h_3 | h_3 | h_3
        · refine lv_tableIn hx hb dL_law_39 (by omega) (by omega) (by rw [h_3]; rfl) (tgt := 100) (by decide) ?_
          have hw := hw.1 h_3
          refine lv_aload_n hx hb dL_law_100 rfl (lv_at hl 1 rfl) ?_
          refine lv_aload_n hx hb dL_law_101 rfl (lv_at hl 0 rfl) ?_
          refine lv_iload hx hb dL_law_102 (lv_at hl 4 rfl) ?_
          refine lv_iconst (v := 1) hx hb dL_law_104 (by decide) ?_
          refine lv_iadd hx hb dL_law_105 ?_
          refine lv_topi (fun i_5 ei_5 => ?_)
          have hw := hw i_5 ei_5
          obtain ⟨hi_6, hw⟩ := hw
          refine va_sld hx hb hX hbl hbA hG.2.2 hi_6 dL_law_106 ?_
          refine lv_aload_n hx hb dL_law_107 rfl (lv_at hl 0 rfl) ?_
          refine lv_iload hx hb dL_law_108 (lv_at hl 4 rfl) ?_
          refine lv_iconst (v := 2) hx hb dL_law_110 (by decide) ?_
          refine lv_iadd hx hb dL_law_111 ?_
          refine lv_topi (fun i_7 ei_7 => ?_)
          have hw := hw i_7 ei_7
          obtain ⟨hi_8, hw⟩ := hw
          refine va_sld hx hb hX hbl hbA hG.2.2 hi_8 dL_law_112 ?_
          refine lv_aload_n hx hb dL_law_113 rfl (lv_at hl 3 rfl) ?_
          refine g_calli (vx_runSW (hh := [(0, 10, 13, 13), (0, 10, 17, 15)]) (As := [.ref (ad 0), .int (xs i_5.toNatClampNeg), .int (xs i_7.toNatClampNeg), .ref (ad 18)]) (rest := []) ⟨hx, hb, hml, hown, hts⟩ (m_L_net hl9 D K sa ad _ _ (xs i_5.toNatClampNeg) (xs i_7.toNatClampNeg) g hw) (vx_cwSW 4 hts (gGood (fun w h => gW_in h) (gSw q_160 q_161 q_19 q_162)) rfl rfl rfl (by decide +kernel) ⟨Nat.le_of_ble_eq_true rfl, Nat.le_of_ble_eq_true rfl⟩) ⟨gPc_blind, gPc_at hE hG hA⟩ rfl rfl hl.1 rfl (lv_room (Nat.le_of_ble_eq_true rfl)) dL_law_114 ⟨by show _ ≤ 601024; omega, by show _ ≤ 7293034; omega⟩) hG hA (fun r_10 g_9 H locs hw hG => ?_)
          try dsimp only at hw
          refine lv_istore (lv' := [(5, .int r_10), (0, .ref b), (1, .ref (ad 0)), (2, .ref (ad 4)), (3, .ref (ad 18)), (4, .int x4)]) hx hb dL_law_117 hl (by decide) rfl (fun ls hl => ?_)
          refine lv_aload_n hx hb dL_law_119 rfl (lv_at hl 3 rfl) ?_
          refine lv_aload_n hx hb dL_law_120 rfl (lv_at hl 1 rfl) ?_
          refine lv_iload hx hb dL_law_121 (lv_at hl 5 rfl) ?_
          refine lv_iconst (v := 1) hx hb dL_law_123 (by decide) ?_
          refine lv_iadd hx hb dL_law_124 ?_
          refine lv_topi (fun i_11 ei_11 => ?_)
          have hw := hw i_11 ei_11
          obtain ⟨hi_12, hw⟩ := hw
          refine va_sld hx hb hX hbl hbA hG.2.2 hi_12 dL_law_125 ?_
          refine lv_aload_n hx hb dL_law_126 rfl (lv_at hl 1 rfl) ?_
          refine lv_iload hx hb dL_law_127 (lv_at hl 5 rfl) ?_
          refine lv_iconst (v := 2) hx hb dL_law_129 (by decide) ?_
          refine lv_iadd hx hb dL_law_130 ?_
          refine lv_topi (fun i_13 ei_13 => ?_)
          have hw := hw i_13 ei_13
          obtain ⟨hi_14, hw⟩ := hw
          refine va_sld hx hb hX hbl hbA hG.2.2 hi_14 dL_law_131 ?_
          refine g_calli (va_runV (As := [.int (xs i_11.toNatClampNeg), .int (xs i_13.toNatClampNeg)]) (rest := []) ⟨hx, hb, hml, hown, hts⟩ (m_X3_net hl9 D K sa ad _ _ (xs i_11.toNatClampNeg) (xs i_13.toNatClampNeg) g_9 hw) (cwV 2 hts (gGood (fun w h => gW_in h) (gV q_478 q_479 q_480 q_23 q_481)) rfl rfl rfl (by decide +kernel) ⟨Nat.le_of_ble_eq_true rfl, Nat.le_of_ble_eq_true rfl⟩) ⟨gPc_blind, g_recv hK hG (gok_lo (by decide)) (gc_M) rfl, gPc_at hE hG hA⟩ rfl rfl hl.1 rfl (lv_room (Nat.le_of_ble_eq_true rfl)) dL_law_132 ⟨by show _ ≤ 601024; omega, by show _ ≤ 7293034; omega⟩) hG hA (fun r_16 g_15 H locs hw hG => ?_)
          try dsimp only at hw
          refine lv_istore (lv' := [(6, .int r_16), (5, .int r_10), (0, .ref b), (1, .ref (ad 0)), (2, .ref (ad 4)), (3, .ref (ad 18)), (4, .int x4)]) hx hb dL_law_135 hl (by decide) rfl (fun ls hl => ?_)
          refine lv_aload_n hx hb dL_law_137 rfl (lv_at hl 4 rfl) ?_
          refine g_calli (va_runV (As := []) (rest := []) ⟨hx, hb, hml, hown, hts⟩ (m_X3_thrown hl9 D K sa ad _ _  g_15 hw) (cwV 0 hts (gGood (fun w h => gW_in h) (gV q_474 q_475 q_476 q_23 q_477)) rfl rfl rfl (by decide +kernel) ⟨Nat.le_of_ble_eq_true rfl, Nat.le_of_ble_eq_true rfl⟩) ⟨gPc_blind, g_recv hK hG (gok_lo (by decide)) (gc_M) rfl, gPc_at hE hG hA⟩ rfl rfl hl.1 rfl (lv_room (Nat.le_of_ble_eq_true rfl)) dL_law_138 ⟨by show _ ≤ 601024; omega, by show _ ≤ 7293034; omega⟩) hG hA (fun r_18 g_17 H locs hw hG => ?_)
          try dsimp only at hw
          refine lv_iload hx hb dL_law_141 (lv_at hl 1 rfl) ?_
          refine lv_icmp_eq (tgt := 148) hx hb dL_law_143 (by decide) (fun c_19 => ?_) (fun c_19 => ?_)
          · have hw := hw.1 c_19
            refine lv_iload hx hb dL_law_148 (lv_at hl 1 rfl) ?_
            refine lv_if_ne (tgt := 165) hx hb dL_law_150 (by decide) (fun c_20 => ?_) (fun c_20 => ?_)
            · have hw := hw.1 c_20
              refine lv_goto (tgt := 862) hx hb dL_law_165 (by decide) ?_
              obtain ⟨x_21, ex_21⟩ : ∃ y : Int32, y = x4 + 5 := ⟨_, rfl⟩
              have hw := hw x_21 ex_21
              refine lv_iinc (v := x_21) (lv' := [(4, .int x_21), (6, .int r_16), (5, .int r_10), (0, .ref b), (1, .ref (ad 0)), (2, .ref (ad 4)), (3, .ref (ad 18))]) hx hb dL_law_862 hl (k := 6) rfl (by rw [ex_21]; rfl) (by decide) rfl (fun ls hl => ?_)
              refine lv_goto (tgt := 23) hx hb dL_law_865 (by decide) ?_
              refine W.widen (k := kc + 2) (n := ks + 12) (by omega) (by omega) ?_
              exact ih (kc + 2) (ks + 12) (by omega) (by omega) x_21 g_17 hw _ _ _ hG (lv_sub hl [3, 4, 5, 6, 0] rfl)
            · have hw := hw.2 c_20
              refine lv_aload_n hx hb dL_law_153 rfl (lv_at hl 5 rfl) ?_
              refine lv_iconst (v := 0) hx hb dL_law_154 (by decide) ?_
              obtain ⟨hi_22, hw⟩ := hw
              refine g_lald hx hb hK hG (k := 18) (gok_lo (by decide)) (gc_18) hi_22 dL_law_155 ?_
              refine lv_iload hx hb dL_law_156 (lv_at hl 0 rfl) ?_
              refine lv_i2l hx hb dL_law_158 rfl ?_
              refine W.lcmp hx hb dL_law_159 ?_
              refine lv_if_eq (tgt := 165) hx hb dL_law_160 (by decide) (fun c_23 => ?_) (fun c_23 => ?_)
              · have hw := hw.1 c_23
                refine lv_goto (tgt := 862) hx hb dL_law_165 (by decide) ?_
                obtain ⟨x_24, ex_24⟩ : ∃ y : Int32, y = x4 + 5 := ⟨_, rfl⟩
                have hw := hw x_24 ex_24
                refine lv_iinc (v := x_24) (lv' := [(4, .int x_24), (6, .int r_16), (5, .int r_10), (0, .ref b), (1, .ref (ad 0)), (2, .ref (ad 4)), (3, .ref (ad 18))]) hx hb dL_law_862 hl (k := 6) rfl (by rw [ex_24]; rfl) (by decide) rfl (fun ls hl => ?_)
                refine lv_goto (tgt := 23) hx hb dL_law_865 (by decide) ?_
                refine W.widen (k := kc + 2) (n := ks + 12) (by omega) (by omega) ?_
                exact ih (kc + 2) (ks + 12) (by omega) (by omega) x_24 g_17 hw _ _ _ hG (lv_sub hl [3, 4, 5, 6, 0] rfl)
              · have hw := hw.2 c_23
                refine lv_iconst (v := 0) hx hb dL_law_163 (by decide) ?_
                exact hw.elim
          · have hw := hw.2 c_19
            refine lv_iconst (v := 0) hx hb dL_law_146 (by decide) ?_
            exact hw.elim
        · refine lv_tableIn hx hb dL_law_39 (by omega) (by omega) (by rw [h_3]; rfl) (tgt := 168) (by decide) ?_
          have hw := hw.2.1 h_3
          refine lv_aload_n hx hb dL_law_168 rfl (lv_at hl 1 rfl) ?_
          refine lv_aload_n hx hb dL_law_169 rfl (lv_at hl 0 rfl) ?_
          refine lv_iload hx hb dL_law_170 (lv_at hl 4 rfl) ?_
          refine lv_iconst (v := 1) hx hb dL_law_172 (by decide) ?_
          refine lv_iadd hx hb dL_law_173 ?_
          refine lv_topi (fun i_25 ei_25 => ?_)
          have hw := hw i_25 ei_25
          obtain ⟨hi_26, hw⟩ := hw
          refine va_sld hx hb hX hbl hbA hG.2.2 hi_26 dL_law_174 ?_
          refine lv_aload_n hx hb dL_law_175 rfl (lv_at hl 0 rfl) ?_
          refine lv_iload hx hb dL_law_176 (lv_at hl 4 rfl) ?_
          refine lv_iconst (v := 2) hx hb dL_law_178 (by decide) ?_
          refine lv_iadd hx hb dL_law_179 ?_
          refine lv_topi (fun i_27 ei_27 => ?_)
          have hw := hw i_27 ei_27
          obtain ⟨hi_28, hw⟩ := hw
          refine va_sld hx hb hX hbl hbA hG.2.2 hi_28 dL_law_180 ?_
          refine lv_if_eq (tgt := 188) hx hb dL_law_181 (by decide) (fun c_29 => ?_) (fun c_29 => ?_)
          · have hw := hw.1 c_29
            refine lv_iconst (v := 0) hx hb dL_law_188 (by decide) ?_
            refine lv_aload_n hx hb dL_law_189 rfl (lv_at hl 3 rfl) ?_
            refine g_calli (vx_runSW (hh := [(0, 10, 13, 13)]) (As := [.ref (ad 0), .int (xs i_25.toNatClampNeg), .int 0, .ref (ad 18)]) (rest := []) ⟨hx, hb, hml, hown, hts⟩ (m_L_link hl9 D K sa ad _ _ (xs i_25.toNatClampNeg) 0 g hw) (vx_cwSW 4 hts (gGood (fun w h => gW_in h) (gSw q_257 q_258 q_19 q_259)) rfl rfl rfl (by decide +kernel) ⟨Nat.le_of_ble_eq_true rfl, Nat.le_of_ble_eq_true rfl⟩) ⟨gPc_blind, gPc_at hE hG hA⟩ rfl rfl hl.1 rfl (lv_room (Nat.le_of_ble_eq_true rfl)) dL_law_190 ⟨by show _ ≤ 601024; omega, by show _ ≤ 7293034; omega⟩) hG hA (fun r_31 g_30 H locs hw hG => ?_)
            try dsimp only at hw
            refine lv_istore (lv' := [(5, .int r_31), (0, .ref b), (1, .ref (ad 0)), (2, .ref (ad 4)), (3, .ref (ad 18)), (4, .int x4)]) hx hb dL_law_193 hl (by decide) rfl (fun ls hl => ?_)
            refine lv_aload_n hx hb dL_law_195 rfl (lv_at hl 3 rfl) ?_
            refine lv_aload_n hx hb dL_law_196 rfl (lv_at hl 1 rfl) ?_
            refine lv_iload hx hb dL_law_197 (lv_at hl 5 rfl) ?_
            refine lv_iconst (v := 1) hx hb dL_law_199 (by decide) ?_
            refine lv_iadd hx hb dL_law_200 ?_
            refine lv_topi (fun i_32 ei_32 => ?_)
            have hw := hw i_32 ei_32
            obtain ⟨hi_33, hw⟩ := hw
            refine va_sld hx hb hX hbl hbA hG.2.2 hi_33 dL_law_201 ?_
            refine lv_aload_n hx hb dL_law_202 rfl (lv_at hl 1 rfl) ?_
            refine lv_iload hx hb dL_law_203 (lv_at hl 5 rfl) ?_
            refine lv_iconst (v := 2) hx hb dL_law_205 (by decide) ?_
            refine lv_iadd hx hb dL_law_206 ?_
            refine lv_topi (fun i_34 ei_34 => ?_)
            have hw := hw i_34 ei_34
            obtain ⟨hi_35, hw⟩ := hw
            refine va_sld hx hb hX hbl hbA hG.2.2 hi_35 dL_law_207 ?_
            refine lv_if_eq (tgt := 215) hx hb dL_law_208 (by decide) (fun c_36 => ?_) (fun c_36 => ?_)
            · have hw := hw.1 c_36
              refine lv_iconst (v := 0) hx hb dL_law_215 (by decide) ?_
              refine g_calli (va_runV (As := [.int (xs i_32.toNatClampNeg), .int 0]) (rest := []) ⟨hx, hb, hml, hown, hts⟩ (m_X3_link hl9 D K sa ad _ _ (xs i_32.toNatClampNeg) 0 g_30 hw) (cwV 2 hts (gGood (fun w h => gW_in h) (gV q_482 q_483 q_484 q_23 q_485)) rfl rfl rfl (by decide +kernel) ⟨Nat.le_of_ble_eq_true rfl, Nat.le_of_ble_eq_true rfl⟩) ⟨gPc_blind, g_recv hK hG (gok_lo (by decide)) (gc_M) rfl, gPc_at hE hG hA⟩ rfl rfl hl.1 rfl (lv_room (Nat.le_of_ble_eq_true rfl)) dL_law_216 ⟨by show _ ≤ 601024; omega, by show _ ≤ 7293034; omega⟩) hG hA (fun r_38 g_37 H locs hw hG => ?_)
              try dsimp only at hw
              refine lv_istore (lv' := [(6, .int r_38), (5, .int r_31), (0, .ref b), (1, .ref (ad 0)), (2, .ref (ad 4)), (3, .ref (ad 18)), (4, .int x4)]) hx hb dL_law_219 hl (by decide) rfl (fun ls hl => ?_)
              refine lv_aload_n hx hb dL_law_221 rfl (lv_at hl 4 rfl) ?_
              refine g_calli (va_runV (As := []) (rest := []) ⟨hx, hb, hml, hown, hts⟩ (m_X3_thrown hl9 D K sa ad _ _  g_37 hw) (cwV 0 hts (gGood (fun w h => gW_in h) (gV q_474 q_475 q_476 q_23 q_477)) rfl rfl rfl (by decide +kernel) ⟨Nat.le_of_ble_eq_true rfl, Nat.le_of_ble_eq_true rfl⟩) ⟨gPc_blind, g_recv hK hG (gok_lo (by decide)) (gc_M) rfl, gPc_at hE hG hA⟩ rfl rfl hl.1 rfl (lv_room (Nat.le_of_ble_eq_true rfl)) dL_law_222 ⟨by show _ ≤ 601024; omega, by show _ ≤ 7293034; omega⟩) hG hA (fun r_40 g_39 H locs hw hG => ?_)
              try dsimp only at hw
              refine lv_iload hx hb dL_law_225 (lv_at hl 1 rfl) ?_
              refine lv_icmp_eq (tgt := 232) hx hb dL_law_227 (by decide) (fun c_41 => ?_) (fun c_41 => ?_)
              · have hw := hw.1 c_41
                refine lv_iload hx hb dL_law_232 (lv_at hl 1 rfl) ?_
                refine lv_if_ne (tgt := 249) hx hb dL_law_234 (by decide) (fun c_42 => ?_) (fun c_42 => ?_)
                · have hw := hw.1 c_42
                  refine lv_goto (tgt := 862) hx hb dL_law_249 (by decide) ?_
                  obtain ⟨x_43, ex_43⟩ : ∃ y : Int32, y = x4 + 5 := ⟨_, rfl⟩
                  have hw := hw x_43 ex_43
                  refine lv_iinc (v := x_43) (lv' := [(4, .int x_43), (6, .int r_38), (5, .int r_31), (0, .ref b), (1, .ref (ad 0)), (2, .ref (ad 4)), (3, .ref (ad 18))]) hx hb dL_law_862 hl (k := 6) rfl (by rw [ex_43]; rfl) (by decide) rfl (fun ls hl => ?_)
                  refine lv_goto (tgt := 23) hx hb dL_law_865 (by decide) ?_
                  refine W.widen (k := kc + 2) (n := ks + 12) (by omega) (by omega) ?_
                  exact ih (kc + 2) (ks + 12) (by omega) (by omega) x_43 g_39 hw _ _ _ hG (lv_sub hl [3, 4, 5, 6, 0] rfl)
                · have hw := hw.2 c_42
                  refine lv_aload_n hx hb dL_law_237 rfl (lv_at hl 5 rfl) ?_
                  refine lv_iconst (v := 0) hx hb dL_law_238 (by decide) ?_
                  obtain ⟨hi_44, hw⟩ := hw
                  refine g_lald hx hb hK hG (k := 18) (gok_lo (by decide)) (gc_18) hi_44 dL_law_239 ?_
                  refine lv_iload hx hb dL_law_240 (lv_at hl 0 rfl) ?_
                  refine lv_i2l hx hb dL_law_242 rfl ?_
                  refine W.lcmp hx hb dL_law_243 ?_
                  refine lv_if_eq (tgt := 249) hx hb dL_law_244 (by decide) (fun c_45 => ?_) (fun c_45 => ?_)
                  · have hw := hw.1 c_45
                    refine lv_goto (tgt := 862) hx hb dL_law_249 (by decide) ?_
                    obtain ⟨x_46, ex_46⟩ : ∃ y : Int32, y = x4 + 5 := ⟨_, rfl⟩
                    have hw := hw x_46 ex_46
                    refine lv_iinc (v := x_46) (lv' := [(4, .int x_46), (6, .int r_38), (5, .int r_31), (0, .ref b), (1, .ref (ad 0)), (2, .ref (ad 4)), (3, .ref (ad 18))]) hx hb dL_law_862 hl (k := 6) rfl (by rw [ex_46]; rfl) (by decide) rfl (fun ls hl => ?_)
                    refine lv_goto (tgt := 23) hx hb dL_law_865 (by decide) ?_
                    refine W.widen (k := kc + 2) (n := ks + 12) (by omega) (by omega) ?_
                    exact ih (kc + 2) (ks + 12) (by omega) (by omega) x_46 g_39 hw _ _ _ hG (lv_sub hl [3, 4, 5, 6, 0] rfl)
                  · have hw := hw.2 c_45
                    refine lv_iconst (v := 0) hx hb dL_law_247 (by decide) ?_
                    exact hw.elim
              · have hw := hw.2 c_41
                refine lv_iconst (v := 0) hx hb dL_law_230 (by decide) ?_
                exact hw.elim
            · have hw := hw.2 c_36
              refine lv_iconst (v := 1) hx hb dL_law_211 (by decide) ?_
              refine lv_goto (tgt := 216) hx hb dL_law_212 (by decide) ?_
              refine g_calli (va_runV (As := [.int (xs i_32.toNatClampNeg), .int 1]) (rest := []) ⟨hx, hb, hml, hown, hts⟩ (m_X3_link hl9 D K sa ad _ _ (xs i_32.toNatClampNeg) 1 g_30 hw) (cwV 2 hts (gGood (fun w h => gW_in h) (gV q_482 q_483 q_484 q_23 q_485)) rfl rfl rfl (by decide +kernel) ⟨Nat.le_of_ble_eq_true rfl, Nat.le_of_ble_eq_true rfl⟩) ⟨gPc_blind, g_recv hK hG (gok_lo (by decide)) (gc_M) rfl, gPc_at hE hG hA⟩ rfl rfl hl.1 rfl (lv_room (Nat.le_of_ble_eq_true rfl)) dL_law_216 ⟨by show _ ≤ 601024; omega, by show _ ≤ 7293034; omega⟩) hG hA (fun r_48 g_47 H locs hw hG => ?_)
              try dsimp only at hw
              refine lv_istore (lv' := [(6, .int r_48), (5, .int r_31), (0, .ref b), (1, .ref (ad 0)), (2, .ref (ad 4)), (3, .ref (ad 18)), (4, .int x4)]) hx hb dL_law_219 hl (by decide) rfl (fun ls hl => ?_)
              refine lv_aload_n hx hb dL_law_221 rfl (lv_at hl 4 rfl) ?_
              refine g_calli (va_runV (As := []) (rest := []) ⟨hx, hb, hml, hown, hts⟩ (m_X3_thrown hl9 D K sa ad _ _  g_47 hw) (cwV 0 hts (gGood (fun w h => gW_in h) (gV q_474 q_475 q_476 q_23 q_477)) rfl rfl rfl (by decide +kernel) ⟨Nat.le_of_ble_eq_true rfl, Nat.le_of_ble_eq_true rfl⟩) ⟨gPc_blind, g_recv hK hG (gok_lo (by decide)) (gc_M) rfl, gPc_at hE hG hA⟩ rfl rfl hl.1 rfl (lv_room (Nat.le_of_ble_eq_true rfl)) dL_law_222 ⟨by show _ ≤ 601024; omega, by show _ ≤ 7293034; omega⟩) hG hA (fun r_50 g_49 H locs hw hG => ?_)
              try dsimp only at hw
              refine lv_iload hx hb dL_law_225 (lv_at hl 1 rfl) ?_
              refine lv_icmp_eq (tgt := 232) hx hb dL_law_227 (by decide) (fun c_51 => ?_) (fun c_51 => ?_)
              · have hw := hw.1 c_51
                refine lv_iload hx hb dL_law_232 (lv_at hl 1 rfl) ?_
                refine lv_if_ne (tgt := 249) hx hb dL_law_234 (by decide) (fun c_52 => ?_) (fun c_52 => ?_)
                · have hw := hw.1 c_52
                  refine lv_goto (tgt := 862) hx hb dL_law_249 (by decide) ?_
                  obtain ⟨x_53, ex_53⟩ : ∃ y : Int32, y = x4 + 5 := ⟨_, rfl⟩
                  have hw := hw x_53 ex_53
                  refine lv_iinc (v := x_53) (lv' := [(4, .int x_53), (6, .int r_48), (5, .int r_31), (0, .ref b), (1, .ref (ad 0)), (2, .ref (ad 4)), (3, .ref (ad 18))]) hx hb dL_law_862 hl (k := 6) rfl (by rw [ex_53]; rfl) (by decide) rfl (fun ls hl => ?_)
                  refine lv_goto (tgt := 23) hx hb dL_law_865 (by decide) ?_
                  refine W.widen (k := kc + 2) (n := ks + 12) (by omega) (by omega) ?_
                  exact ih (kc + 2) (ks + 12) (by omega) (by omega) x_53 g_49 hw _ _ _ hG (lv_sub hl [3, 4, 5, 6, 0] rfl)
                · have hw := hw.2 c_52
                  refine lv_aload_n hx hb dL_law_237 rfl (lv_at hl 5 rfl) ?_
                  refine lv_iconst (v := 0) hx hb dL_law_238 (by decide) ?_
                  obtain ⟨hi_54, hw⟩ := hw
                  refine g_lald hx hb hK hG (k := 18) (gok_lo (by decide)) (gc_18) hi_54 dL_law_239 ?_
                  refine lv_iload hx hb dL_law_240 (lv_at hl 0 rfl) ?_
                  refine lv_i2l hx hb dL_law_242 rfl ?_
                  refine W.lcmp hx hb dL_law_243 ?_
                  refine lv_if_eq (tgt := 249) hx hb dL_law_244 (by decide) (fun c_55 => ?_) (fun c_55 => ?_)
                  · have hw := hw.1 c_55
                    refine lv_goto (tgt := 862) hx hb dL_law_249 (by decide) ?_
                    obtain ⟨x_56, ex_56⟩ : ∃ y : Int32, y = x4 + 5 := ⟨_, rfl⟩
                    have hw := hw x_56 ex_56
                    refine lv_iinc (v := x_56) (lv' := [(4, .int x_56), (6, .int r_48), (5, .int r_31), (0, .ref b), (1, .ref (ad 0)), (2, .ref (ad 4)), (3, .ref (ad 18))]) hx hb dL_law_862 hl (k := 6) rfl (by rw [ex_56]; rfl) (by decide) rfl (fun ls hl => ?_)
                    refine lv_goto (tgt := 23) hx hb dL_law_865 (by decide) ?_
                    refine W.widen (k := kc + 2) (n := ks + 12) (by omega) (by omega) ?_
                    exact ih (kc + 2) (ks + 12) (by omega) (by omega) x_56 g_49 hw _ _ _ hG (lv_sub hl [3, 4, 5, 6, 0] rfl)
                  · have hw := hw.2 c_55
                    refine lv_iconst (v := 0) hx hb dL_law_247 (by decide) ?_
                    exact hw.elim
              · have hw := hw.2 c_51
                refine lv_iconst (v := 0) hx hb dL_law_230 (by decide) ?_
                exact hw.elim
          · have hw := hw.2 c_29
            refine lv_iconst (v := 1) hx hb dL_law_184 (by decide) ?_
            refine lv_goto (tgt := 189) hx hb dL_law_185 (by decide) ?_
            refine lv_aload_n hx hb dL_law_189 rfl (lv_at hl 3 rfl) ?_
            refine g_calli (vx_runSW (hh := [(0, 10, 13, 13)]) (As := [.ref (ad 0), .int (xs i_25.toNatClampNeg), .int 1, .ref (ad 18)]) (rest := []) ⟨hx, hb, hml, hown, hts⟩ (m_L_link hl9 D K sa ad _ _ (xs i_25.toNatClampNeg) 1 g hw) (vx_cwSW 4 hts (gGood (fun w h => gW_in h) (gSw q_257 q_258 q_19 q_259)) rfl rfl rfl (by decide +kernel) ⟨Nat.le_of_ble_eq_true rfl, Nat.le_of_ble_eq_true rfl⟩) ⟨gPc_blind, gPc_at hE hG hA⟩ rfl rfl hl.1 rfl (lv_room (Nat.le_of_ble_eq_true rfl)) dL_law_190 ⟨by show _ ≤ 601024; omega, by show _ ≤ 7293034; omega⟩) hG hA (fun r_58 g_57 H locs hw hG => ?_)
            try dsimp only at hw
            refine lv_istore (lv' := [(5, .int r_58), (0, .ref b), (1, .ref (ad 0)), (2, .ref (ad 4)), (3, .ref (ad 18)), (4, .int x4)]) hx hb dL_law_193 hl (by decide) rfl (fun ls hl => ?_)
            refine lv_aload_n hx hb dL_law_195 rfl (lv_at hl 3 rfl) ?_
            refine lv_aload_n hx hb dL_law_196 rfl (lv_at hl 1 rfl) ?_
            refine lv_iload hx hb dL_law_197 (lv_at hl 5 rfl) ?_
            refine lv_iconst (v := 1) hx hb dL_law_199 (by decide) ?_
            refine lv_iadd hx hb dL_law_200 ?_
            refine lv_topi (fun i_59 ei_59 => ?_)
            have hw := hw i_59 ei_59
            obtain ⟨hi_60, hw⟩ := hw
            refine va_sld hx hb hX hbl hbA hG.2.2 hi_60 dL_law_201 ?_
            refine lv_aload_n hx hb dL_law_202 rfl (lv_at hl 1 rfl) ?_
            refine lv_iload hx hb dL_law_203 (lv_at hl 5 rfl) ?_
            refine lv_iconst (v := 2) hx hb dL_law_205 (by decide) ?_
            refine lv_iadd hx hb dL_law_206 ?_
            refine lv_topi (fun i_61 ei_61 => ?_)
            have hw := hw i_61 ei_61
            obtain ⟨hi_62, hw⟩ := hw
            refine va_sld hx hb hX hbl hbA hG.2.2 hi_62 dL_law_207 ?_
            refine lv_if_eq (tgt := 215) hx hb dL_law_208 (by decide) (fun c_63 => ?_) (fun c_63 => ?_)
            · have hw := hw.1 c_63
              refine lv_iconst (v := 0) hx hb dL_law_215 (by decide) ?_
              refine g_calli (va_runV (As := [.int (xs i_59.toNatClampNeg), .int 0]) (rest := []) ⟨hx, hb, hml, hown, hts⟩ (m_X3_link hl9 D K sa ad _ _ (xs i_59.toNatClampNeg) 0 g_57 hw) (cwV 2 hts (gGood (fun w h => gW_in h) (gV q_482 q_483 q_484 q_23 q_485)) rfl rfl rfl (by decide +kernel) ⟨Nat.le_of_ble_eq_true rfl, Nat.le_of_ble_eq_true rfl⟩) ⟨gPc_blind, g_recv hK hG (gok_lo (by decide)) (gc_M) rfl, gPc_at hE hG hA⟩ rfl rfl hl.1 rfl (lv_room (Nat.le_of_ble_eq_true rfl)) dL_law_216 ⟨by show _ ≤ 601024; omega, by show _ ≤ 7293034; omega⟩) hG hA (fun r_65 g_64 H locs hw hG => ?_)
              try dsimp only at hw
              refine lv_istore (lv' := [(6, .int r_65), (5, .int r_58), (0, .ref b), (1, .ref (ad 0)), (2, .ref (ad 4)), (3, .ref (ad 18)), (4, .int x4)]) hx hb dL_law_219 hl (by decide) rfl (fun ls hl => ?_)
              refine lv_aload_n hx hb dL_law_221 rfl (lv_at hl 4 rfl) ?_
              refine g_calli (va_runV (As := []) (rest := []) ⟨hx, hb, hml, hown, hts⟩ (m_X3_thrown hl9 D K sa ad _ _  g_64 hw) (cwV 0 hts (gGood (fun w h => gW_in h) (gV q_474 q_475 q_476 q_23 q_477)) rfl rfl rfl (by decide +kernel) ⟨Nat.le_of_ble_eq_true rfl, Nat.le_of_ble_eq_true rfl⟩) ⟨gPc_blind, g_recv hK hG (gok_lo (by decide)) (gc_M) rfl, gPc_at hE hG hA⟩ rfl rfl hl.1 rfl (lv_room (Nat.le_of_ble_eq_true rfl)) dL_law_222 ⟨by show _ ≤ 601024; omega, by show _ ≤ 7293034; omega⟩) hG hA (fun r_67 g_66 H locs hw hG => ?_)
              try dsimp only at hw
              refine lv_iload hx hb dL_law_225 (lv_at hl 1 rfl) ?_
              refine lv_icmp_eq (tgt := 232) hx hb dL_law_227 (by decide) (fun c_68 => ?_) (fun c_68 => ?_)
              · have hw := hw.1 c_68
                refine lv_iload hx hb dL_law_232 (lv_at hl 1 rfl) ?_
                refine lv_if_ne (tgt := 249) hx hb dL_law_234 (by decide) (fun c_69 => ?_) (fun c_69 => ?_)
                · have hw := hw.1 c_69
                  refine lv_goto (tgt := 862) hx hb dL_law_249 (by decide) ?_
                  obtain ⟨x_70, ex_70⟩ : ∃ y : Int32, y = x4 + 5 := ⟨_, rfl⟩
                  have hw := hw x_70 ex_70
                  refine lv_iinc (v := x_70) (lv' := [(4, .int x_70), (6, .int r_65), (5, .int r_58), (0, .ref b), (1, .ref (ad 0)), (2, .ref (ad 4)), (3, .ref (ad 18))]) hx hb dL_law_862 hl (k := 6) rfl (by rw [ex_70]; rfl) (by decide) rfl (fun ls hl => ?_)
                  refine lv_goto (tgt := 23) hx hb dL_law_865 (by decide) ?_
                  refine W.widen (k := kc + 2) (n := ks + 12) (by omega) (by omega) ?_
                  exact ih (kc + 2) (ks + 12) (by omega) (by omega) x_70 g_66 hw _ _ _ hG (lv_sub hl [3, 4, 5, 6, 0] rfl)
                · have hw := hw.2 c_69
                  refine lv_aload_n hx hb dL_law_237 rfl (lv_at hl 5 rfl) ?_
                  refine lv_iconst (v := 0) hx hb dL_law_238 (by decide) ?_
                  obtain ⟨hi_71, hw⟩ := hw
                  refine g_lald hx hb hK hG (k := 18) (gok_lo (by decide)) (gc_18) hi_71 dL_law_239 ?_
                  refine lv_iload hx hb dL_law_240 (lv_at hl 0 rfl) ?_
                  refine lv_i2l hx hb dL_law_242 rfl ?_
                  refine W.lcmp hx hb dL_law_243 ?_
                  refine lv_if_eq (tgt := 249) hx hb dL_law_244 (by decide) (fun c_72 => ?_) (fun c_72 => ?_)
                  · have hw := hw.1 c_72
                    refine lv_goto (tgt := 862) hx hb dL_law_249 (by decide) ?_
                    obtain ⟨x_73, ex_73⟩ : ∃ y : Int32, y = x4 + 5 := ⟨_, rfl⟩
                    have hw := hw x_73 ex_73
                    refine lv_iinc (v := x_73) (lv' := [(4, .int x_73), (6, .int r_65), (5, .int r_58), (0, .ref b), (1, .ref (ad 0)), (2, .ref (ad 4)), (3, .ref (ad 18))]) hx hb dL_law_862 hl (k := 6) rfl (by rw [ex_73]; rfl) (by decide) rfl (fun ls hl => ?_)
                    refine lv_goto (tgt := 23) hx hb dL_law_865 (by decide) ?_
                    refine W.widen (k := kc + 2) (n := ks + 12) (by omega) (by omega) ?_
                    exact ih (kc + 2) (ks + 12) (by omega) (by omega) x_73 g_66 hw _ _ _ hG (lv_sub hl [3, 4, 5, 6, 0] rfl)
                  · have hw := hw.2 c_72
                    refine lv_iconst (v := 0) hx hb dL_law_247 (by decide) ?_
                    exact hw.elim
              · have hw := hw.2 c_68
                refine lv_iconst (v := 0) hx hb dL_law_230 (by decide) ?_
                exact hw.elim
            · have hw := hw.2 c_63
              refine lv_iconst (v := 1) hx hb dL_law_211 (by decide) ?_
              refine lv_goto (tgt := 216) hx hb dL_law_212 (by decide) ?_
              refine g_calli (va_runV (As := [.int (xs i_59.toNatClampNeg), .int 1]) (rest := []) ⟨hx, hb, hml, hown, hts⟩ (m_X3_link hl9 D K sa ad _ _ (xs i_59.toNatClampNeg) 1 g_57 hw) (cwV 2 hts (gGood (fun w h => gW_in h) (gV q_482 q_483 q_484 q_23 q_485)) rfl rfl rfl (by decide +kernel) ⟨Nat.le_of_ble_eq_true rfl, Nat.le_of_ble_eq_true rfl⟩) ⟨gPc_blind, g_recv hK hG (gok_lo (by decide)) (gc_M) rfl, gPc_at hE hG hA⟩ rfl rfl hl.1 rfl (lv_room (Nat.le_of_ble_eq_true rfl)) dL_law_216 ⟨by show _ ≤ 601024; omega, by show _ ≤ 7293034; omega⟩) hG hA (fun r_75 g_74 H locs hw hG => ?_)
              try dsimp only at hw
              refine lv_istore (lv' := [(6, .int r_75), (5, .int r_58), (0, .ref b), (1, .ref (ad 0)), (2, .ref (ad 4)), (3, .ref (ad 18)), (4, .int x4)]) hx hb dL_law_219 hl (by decide) rfl (fun ls hl => ?_)
              refine lv_aload_n hx hb dL_law_221 rfl (lv_at hl 4 rfl) ?_
              refine g_calli (va_runV (As := []) (rest := []) ⟨hx, hb, hml, hown, hts⟩ (m_X3_thrown hl9 D K sa ad _ _  g_74 hw) (cwV 0 hts (gGood (fun w h => gW_in h) (gV q_474 q_475 q_476 q_23 q_477)) rfl rfl rfl (by decide +kernel) ⟨Nat.le_of_ble_eq_true rfl, Nat.le_of_ble_eq_true rfl⟩) ⟨gPc_blind, g_recv hK hG (gok_lo (by decide)) (gc_M) rfl, gPc_at hE hG hA⟩ rfl rfl hl.1 rfl (lv_room (Nat.le_of_ble_eq_true rfl)) dL_law_222 ⟨by show _ ≤ 601024; omega, by show _ ≤ 7293034; omega⟩) hG hA (fun r_77 g_76 H locs hw hG => ?_)
              try dsimp only at hw
              refine lv_iload hx hb dL_law_225 (lv_at hl 1 rfl) ?_
              refine lv_icmp_eq (tgt := 232) hx hb dL_law_227 (by decide) (fun c_78 => ?_) (fun c_78 => ?_)
              · have hw := hw.1 c_78
                refine lv_iload hx hb dL_law_232 (lv_at hl 1 rfl) ?_
                refine lv_if_ne (tgt := 249) hx hb dL_law_234 (by decide) (fun c_79 => ?_) (fun c_79 => ?_)
                · have hw := hw.1 c_79
                  refine lv_goto (tgt := 862) hx hb dL_law_249 (by decide) ?_
                  obtain ⟨x_80, ex_80⟩ : ∃ y : Int32, y = x4 + 5 := ⟨_, rfl⟩
                  have hw := hw x_80 ex_80
                  refine lv_iinc (v := x_80) (lv' := [(4, .int x_80), (6, .int r_75), (5, .int r_58), (0, .ref b), (1, .ref (ad 0)), (2, .ref (ad 4)), (3, .ref (ad 18))]) hx hb dL_law_862 hl (k := 6) rfl (by rw [ex_80]; rfl) (by decide) rfl (fun ls hl => ?_)
                  refine lv_goto (tgt := 23) hx hb dL_law_865 (by decide) ?_
                  refine W.widen (k := kc + 2) (n := ks + 12) (by omega) (by omega) ?_
                  exact ih (kc + 2) (ks + 12) (by omega) (by omega) x_80 g_76 hw _ _ _ hG (lv_sub hl [3, 4, 5, 6, 0] rfl)
                · have hw := hw.2 c_79
                  refine lv_aload_n hx hb dL_law_237 rfl (lv_at hl 5 rfl) ?_
                  refine lv_iconst (v := 0) hx hb dL_law_238 (by decide) ?_
                  obtain ⟨hi_81, hw⟩ := hw
                  refine g_lald hx hb hK hG (k := 18) (gok_lo (by decide)) (gc_18) hi_81 dL_law_239 ?_
                  refine lv_iload hx hb dL_law_240 (lv_at hl 0 rfl) ?_
                  refine lv_i2l hx hb dL_law_242 rfl ?_
                  refine W.lcmp hx hb dL_law_243 ?_
                  refine lv_if_eq (tgt := 249) hx hb dL_law_244 (by decide) (fun c_82 => ?_) (fun c_82 => ?_)
                  · have hw := hw.1 c_82
                    refine lv_goto (tgt := 862) hx hb dL_law_249 (by decide) ?_
                    obtain ⟨x_83, ex_83⟩ : ∃ y : Int32, y = x4 + 5 := ⟨_, rfl⟩
                    have hw := hw x_83 ex_83
                    refine lv_iinc (v := x_83) (lv' := [(4, .int x_83), (6, .int r_75), (5, .int r_58), (0, .ref b), (1, .ref (ad 0)), (2, .ref (ad 4)), (3, .ref (ad 18))]) hx hb dL_law_862 hl (k := 6) rfl (by rw [ex_83]; rfl) (by decide) rfl (fun ls hl => ?_)
                    refine lv_goto (tgt := 23) hx hb dL_law_865 (by decide) ?_
                    refine W.widen (k := kc + 2) (n := ks + 12) (by omega) (by omega) ?_
                    exact ih (kc + 2) (ks + 12) (by omega) (by omega) x_83 g_76 hw _ _ _ hG (lv_sub hl [3, 4, 5, 6, 0] rfl)
                  · have hw := hw.2 c_82
                    refine lv_iconst (v := 0) hx hb dL_law_247 (by decide) ?_
                    exact hw.elim
              · have hw := hw.2 c_78
                refine lv_iconst (v := 0) hx hb dL_law_230 (by decide) ?_
                exact hw.elim
        · refine lv_tableIn hx hb dL_law_39 (by omega) (by omega) (by rw [h_3]; rfl) (tgt := 252) (by decide) ?_
          have hw := hw.2.2.1 h_3
          refine lv_aload_n hx hb dL_law_252 rfl (lv_at hl 1 rfl) ?_
          refine lv_aload_n hx hb dL_law_253 rfl (lv_at hl 0 rfl) ?_
          refine lv_iload hx hb dL_law_254 (lv_at hl 4 rfl) ?_
          refine lv_iconst (v := 1) hx hb dL_law_256 (by decide) ?_
          refine lv_iadd hx hb dL_law_257 ?_
          refine lv_topi (fun i_84 ei_84 => ?_)
          have hw := hw i_84 ei_84
          obtain ⟨hi_85, hw⟩ := hw
          refine va_sld hx hb hX hbl hbA hG.2.2 hi_85 dL_law_258 ?_
          refine lv_aload_n hx hb dL_law_259 rfl (lv_at hl 0 rfl) ?_
          refine lv_iload hx hb dL_law_260 (lv_at hl 4 rfl) ?_
          refine lv_iconst (v := 2) hx hb dL_law_262 (by decide) ?_
          refine lv_iadd hx hb dL_law_263 ?_
          refine lv_topi (fun i_86 ei_86 => ?_)
          have hw := hw i_86 ei_86
          obtain ⟨hi_87, hw⟩ := hw
          refine va_sld hx hb hX hbl hbA hG.2.2 hi_87 dL_law_264 ?_
          refine lv_i2l hx hb dL_law_265 rfl ?_
          refine lv_bipush (v := 32) hx hb dL_law_266 (by decide) ?_
          refine lv_lshl hx hb dL_law_268 rfl ?_
          refine lv_aload_n hx hb dL_law_269 rfl (lv_at hl 0 rfl) ?_
          refine lv_iload hx hb dL_law_270 (lv_at hl 4 rfl) ?_
          refine lv_iconst (v := 3) hx hb dL_law_272 (by decide) ?_
          refine lv_iadd hx hb dL_law_273 ?_
          refine lv_topi (fun i_88 ei_88 => ?_)
          have hw := hw i_88 ei_88
          obtain ⟨hi_89, hw⟩ := hw
          refine va_sld hx hb hX hbl hbA hG.2.2 hi_89 dL_law_274 ?_
          refine lv_i2l hx hb dL_law_275 rfl ?_
          refine lv_ldc2 (own := RL) (v := 4294967295) hx hb hown (hq _ q_554) dL_law_276 ?_
          refine lv_land hx hb dL_law_279 ?_
          refine lv_lor hx hb dL_law_280 ?_
          refine lv_aload_n hx hb dL_law_281 rfl (lv_at hl 0 rfl) ?_
          refine lv_iload hx hb dL_law_282 (lv_at hl 4 rfl) ?_
          refine lv_iconst (v := 4) hx hb dL_law_284 (by decide) ?_
          refine lv_iadd hx hb dL_law_285 ?_
          refine lv_topi (fun i_90 ei_90 => ?_)
          have hw := hw i_90 ei_90
          obtain ⟨hi_91, hw⟩ := hw
          refine va_sld hx hb hX hbl hbA hG.2.2 hi_91 dL_law_286 ?_
          refine lv_aload_n hx hb dL_law_287 rfl (lv_at hl 3 rfl) ?_
          refine g_calli (vx_runSW (hh := [(0, 13, 16, 13), (0, 13, 20, 15)]) (As := [.ref (ad 0), .int (xs i_84.toNatClampNeg), .long ((((xs i_86.toNatClampNeg).toInt64) <<< ((32 : Int32).toInt64 &&& 63)) ||| (((xs i_88.toNatClampNeg).toInt64) &&& 4294967295)), .int (xs i_90.toNatClampNeg), .ref (ad 18)]) (rest := []) ⟨hx, hb, hml, hown, hts⟩ (m_L_fates hl9 D K sa ad _ _ (xs i_84.toNatClampNeg) ((((xs i_86.toNatClampNeg).toInt64) <<< ((32 : Int32).toInt64 &&& 63)) ||| (((xs i_88.toNatClampNeg).toInt64) &&& 4294967295)) (xs i_90.toNatClampNeg) g hw) (vx_cwSW 5 hts (gGood (fun w h => gW_in h) (gSw q_273 q_274 q_19 q_275)) rfl rfl rfl (by decide +kernel) ⟨Nat.le_of_ble_eq_true rfl, Nat.le_of_ble_eq_true rfl⟩) ⟨gPc_blind, gPc_at hE hG hA⟩ rfl rfl hl.1 rfl (lv_room (Nat.le_of_ble_eq_true rfl)) dL_law_288 ⟨by show _ ≤ 601024; omega, by show _ ≤ 7293034; omega⟩) hG hA (fun r_93 g_92 H locs hw hG => ?_)
          try dsimp only at hw
          refine lv_istore (lv' := [(5, .int r_93), (0, .ref b), (1, .ref (ad 0)), (2, .ref (ad 4)), (3, .ref (ad 18)), (4, .int x4)]) hx hb dL_law_291 hl (by decide) rfl (fun ls hl => ?_)
          refine lv_aload_n hx hb dL_law_293 rfl (lv_at hl 3 rfl) ?_
          refine lv_aload_n hx hb dL_law_294 rfl (lv_at hl 1 rfl) ?_
          refine lv_iload hx hb dL_law_295 (lv_at hl 5 rfl) ?_
          refine lv_iconst (v := 1) hx hb dL_law_297 (by decide) ?_
          refine lv_iadd hx hb dL_law_298 ?_
          refine lv_topi (fun i_94 ei_94 => ?_)
          have hw := hw i_94 ei_94
          obtain ⟨hi_95, hw⟩ := hw
          refine va_sld hx hb hX hbl hbA hG.2.2 hi_95 dL_law_299 ?_
          refine lv_aload_n hx hb dL_law_300 rfl (lv_at hl 1 rfl) ?_
          refine lv_iload hx hb dL_law_301 (lv_at hl 5 rfl) ?_
          refine lv_iconst (v := 2) hx hb dL_law_303 (by decide) ?_
          refine lv_iadd hx hb dL_law_304 ?_
          refine lv_topi (fun i_96 ei_96 => ?_)
          have hw := hw i_96 ei_96
          obtain ⟨hi_97, hw⟩ := hw
          refine va_sld hx hb hX hbl hbA hG.2.2 hi_97 dL_law_305 ?_
          refine lv_i2l hx hb dL_law_306 rfl ?_
          refine lv_bipush (v := 32) hx hb dL_law_307 (by decide) ?_
          refine lv_lshl hx hb dL_law_309 rfl ?_
          refine lv_aload_n hx hb dL_law_310 rfl (lv_at hl 1 rfl) ?_
          refine lv_iload hx hb dL_law_311 (lv_at hl 5 rfl) ?_
          refine lv_iconst (v := 3) hx hb dL_law_313 (by decide) ?_
          refine lv_iadd hx hb dL_law_314 ?_
          refine lv_topi (fun i_98 ei_98 => ?_)
          have hw := hw i_98 ei_98
          obtain ⟨hi_99, hw⟩ := hw
          refine va_sld hx hb hX hbl hbA hG.2.2 hi_99 dL_law_315 ?_
          refine lv_i2l hx hb dL_law_316 rfl ?_
          refine lv_ldc2 (own := RL) (v := 4294967295) hx hb hown (hq _ q_554) dL_law_317 ?_
          refine lv_land hx hb dL_law_320 ?_
          refine lv_lor hx hb dL_law_321 ?_
          refine lv_aload_n hx hb dL_law_322 rfl (lv_at hl 1 rfl) ?_
          refine lv_iload hx hb dL_law_323 (lv_at hl 5 rfl) ?_
          refine lv_iconst (v := 4) hx hb dL_law_325 (by decide) ?_
          refine lv_iadd hx hb dL_law_326 ?_
          refine lv_topi (fun i_100 ei_100 => ?_)
          have hw := hw i_100 ei_100
          obtain ⟨hi_101, hw⟩ := hw
          refine va_sld hx hb hX hbl hbA hG.2.2 hi_101 dL_law_327 ?_
          refine g_calli (va_runV (As := [.int (xs i_94.toNatClampNeg), .long ((((xs i_96.toNatClampNeg).toInt64) <<< ((32 : Int32).toInt64 &&& 63)) ||| (((xs i_98.toNatClampNeg).toInt64) &&& 4294967295)), .int (xs i_100.toNatClampNeg)]) (rest := []) ⟨hx, hb, hml, hown, hts⟩ (m_X3_fates hl9 D K sa ad _ _ (xs i_94.toNatClampNeg) ((((xs i_96.toNatClampNeg).toInt64) <<< ((32 : Int32).toInt64 &&& 63)) ||| (((xs i_98.toNatClampNeg).toInt64) &&& 4294967295)) (xs i_100.toNatClampNeg) g_92 hw) (cwV 3 hts (gGood (fun w h => gW_in h) (gV q_494 q_495 q_496 q_23 q_497)) rfl rfl rfl (by decide +kernel) ⟨Nat.le_of_ble_eq_true rfl, Nat.le_of_ble_eq_true rfl⟩) ⟨gPc_blind, g_recv hK hG (gok_lo (by decide)) (gc_M) rfl, gPc_at hE hG hA⟩ rfl rfl hl.1 rfl (lv_room (Nat.le_of_ble_eq_true rfl)) dL_law_328 ⟨by show _ ≤ 601024; omega, by show _ ≤ 7293034; omega⟩) hG hA (fun r_103 g_102 H locs hw hG => ?_)
          try dsimp only at hw
          refine lv_istore (lv' := [(6, .int r_103), (5, .int r_93), (0, .ref b), (1, .ref (ad 0)), (2, .ref (ad 4)), (3, .ref (ad 18)), (4, .int x4)]) hx hb dL_law_331 hl (by decide) rfl (fun ls hl => ?_)
          refine lv_aload_n hx hb dL_law_333 rfl (lv_at hl 4 rfl) ?_
          refine g_calli (va_runV (As := []) (rest := []) ⟨hx, hb, hml, hown, hts⟩ (m_X3_thrown hl9 D K sa ad _ _  g_102 hw) (cwV 0 hts (gGood (fun w h => gW_in h) (gV q_474 q_475 q_476 q_23 q_477)) rfl rfl rfl (by decide +kernel) ⟨Nat.le_of_ble_eq_true rfl, Nat.le_of_ble_eq_true rfl⟩) ⟨gPc_blind, g_recv hK hG (gok_lo (by decide)) (gc_M) rfl, gPc_at hE hG hA⟩ rfl rfl hl.1 rfl (lv_room (Nat.le_of_ble_eq_true rfl)) dL_law_334 ⟨by show _ ≤ 601024; omega, by show _ ≤ 7293034; omega⟩) hG hA (fun r_105 g_104 H locs hw hG => ?_)
          try dsimp only at hw
          refine lv_iload hx hb dL_law_337 (lv_at hl 1 rfl) ?_
          refine lv_icmp_eq (tgt := 344) hx hb dL_law_339 (by decide) (fun c_106 => ?_) (fun c_106 => ?_)
          · have hw := hw.1 c_106
            refine lv_iload hx hb dL_law_344 (lv_at hl 1 rfl) ?_
            refine lv_if_ne (tgt := 361) hx hb dL_law_346 (by decide) (fun c_107 => ?_) (fun c_107 => ?_)
            · have hw := hw.1 c_107
              refine lv_goto (tgt := 862) hx hb dL_law_361 (by decide) ?_
              obtain ⟨x_108, ex_108⟩ : ∃ y : Int32, y = x4 + 5 := ⟨_, rfl⟩
              have hw := hw x_108 ex_108
              refine lv_iinc (v := x_108) (lv' := [(4, .int x_108), (6, .int r_103), (5, .int r_93), (0, .ref b), (1, .ref (ad 0)), (2, .ref (ad 4)), (3, .ref (ad 18))]) hx hb dL_law_862 hl (k := 6) rfl (by rw [ex_108]; rfl) (by decide) rfl (fun ls hl => ?_)
              refine lv_goto (tgt := 23) hx hb dL_law_865 (by decide) ?_
              refine W.widen (k := kc + 2) (n := ks + 12) (by omega) (by omega) ?_
              exact ih (kc + 2) (ks + 12) (by omega) (by omega) x_108 g_104 hw _ _ _ hG (lv_sub hl [3, 4, 5, 6, 0] rfl)
            · have hw := hw.2 c_107
              refine lv_aload_n hx hb dL_law_349 rfl (lv_at hl 5 rfl) ?_
              refine lv_iconst (v := 0) hx hb dL_law_350 (by decide) ?_
              obtain ⟨hi_109, hw⟩ := hw
              refine g_lald hx hb hK hG (k := 18) (gok_lo (by decide)) (gc_18) hi_109 dL_law_351 ?_
              refine lv_iload hx hb dL_law_352 (lv_at hl 0 rfl) ?_
              refine lv_i2l hx hb dL_law_354 rfl ?_
              refine W.lcmp hx hb dL_law_355 ?_
              refine lv_if_eq (tgt := 361) hx hb dL_law_356 (by decide) (fun c_110 => ?_) (fun c_110 => ?_)
              · have hw := hw.1 c_110
                refine lv_goto (tgt := 862) hx hb dL_law_361 (by decide) ?_
                obtain ⟨x_111, ex_111⟩ : ∃ y : Int32, y = x4 + 5 := ⟨_, rfl⟩
                have hw := hw x_111 ex_111
                refine lv_iinc (v := x_111) (lv' := [(4, .int x_111), (6, .int r_103), (5, .int r_93), (0, .ref b), (1, .ref (ad 0)), (2, .ref (ad 4)), (3, .ref (ad 18))]) hx hb dL_law_862 hl (k := 6) rfl (by rw [ex_111]; rfl) (by decide) rfl (fun ls hl => ?_)
                refine lv_goto (tgt := 23) hx hb dL_law_865 (by decide) ?_
                refine W.widen (k := kc + 2) (n := ks + 12) (by omega) (by omega) ?_
                exact ih (kc + 2) (ks + 12) (by omega) (by omega) x_111 g_104 hw _ _ _ hG (lv_sub hl [3, 4, 5, 6, 0] rfl)
              · have hw := hw.2 c_110
                refine lv_iconst (v := 0) hx hb dL_law_359 (by decide) ?_
                exact hw.elim
          · have hw := hw.2 c_106
            refine lv_iconst (v := 0) hx hb dL_law_342 (by decide) ?_
            exact hw.elim
        · refine lv_tableIn hx hb dL_law_39 (by omega) (by omega) (by rw [h_3]; rfl) (tgt := 364) (by decide) ?_
          have hw := hw.2.2.2.1 h_3
          refine lv_aload_n hx hb dL_law_364 rfl (lv_at hl 1 rfl) ?_
          refine lv_aload_n hx hb dL_law_365 rfl (lv_at hl 0 rfl) ?_
          refine lv_iload hx hb dL_law_366 (lv_at hl 4 rfl) ?_
          refine lv_iconst (v := 1) hx hb dL_law_368 (by decide) ?_
          refine lv_iadd hx hb dL_law_369 ?_
          refine lv_topi (fun i_112 ei_112 => ?_)
          have hw := hw i_112 ei_112
          obtain ⟨hi_113, hw⟩ := hw
          refine va_sld hx hb hX hbl hbA hG.2.2 hi_113 dL_law_370 ?_
          refine lv_i2l hx hb dL_law_371 rfl ?_
          refine lv_bipush (v := 32) hx hb dL_law_372 (by decide) ?_
          refine lv_lshl hx hb dL_law_374 rfl ?_
          refine lv_aload_n hx hb dL_law_375 rfl (lv_at hl 0 rfl) ?_
          refine lv_iload hx hb dL_law_376 (lv_at hl 4 rfl) ?_
          refine lv_iconst (v := 2) hx hb dL_law_378 (by decide) ?_
          refine lv_iadd hx hb dL_law_379 ?_
          refine lv_topi (fun i_114 ei_114 => ?_)
          have hw := hw i_114 ei_114
          obtain ⟨hi_115, hw⟩ := hw
          refine va_sld hx hb hX hbl hbA hG.2.2 hi_115 dL_law_380 ?_
          refine lv_i2l hx hb dL_law_381 rfl ?_
          refine lv_ldc2 (own := RL) (v := 4294967295) hx hb hown (hq _ q_554) dL_law_382 ?_
          refine lv_land hx hb dL_law_385 ?_
          refine lv_lor hx hb dL_law_386 ?_
          refine lv_aload_n hx hb dL_law_387 rfl (lv_at hl 0 rfl) ?_
          refine lv_iload hx hb dL_law_388 (lv_at hl 4 rfl) ?_
          refine lv_iconst (v := 3) hx hb dL_law_390 (by decide) ?_
          refine lv_iadd hx hb dL_law_391 ?_
          refine lv_topi (fun i_116 ei_116 => ?_)
          have hw := hw i_116 ei_116
          obtain ⟨hi_117, hw⟩ := hw
          refine va_sld hx hb hX hbl hbA hG.2.2 hi_117 dL_law_392 ?_
          refine lv_aload_n hx hb dL_law_393 rfl (lv_at hl 3 rfl) ?_
          refine g_calli (vx_runSW (hh := [(0, 11, 14, 13), (0, 11, 18, 15)]) (As := [.ref (ad 0), .long ((((xs i_112.toNatClampNeg).toInt64) <<< ((32 : Int32).toInt64 &&& 63)) ||| (((xs i_114.toNatClampNeg).toInt64) &&& 4294967295)), .int (xs i_116.toNatClampNeg), .ref (ad 18)]) (rest := []) ⟨hx, hb, hml, hown, hts⟩ (m_L_feed hl9 D K sa ad _ _ ((((xs i_112.toNatClampNeg).toInt64) <<< ((32 : Int32).toInt64 &&& 63)) ||| (((xs i_114.toNatClampNeg).toInt64) &&& 4294967295)) (xs i_116.toNatClampNeg) g hw) (vx_cwSW 4 hts (gGood (fun w h => gW_in h) (gSw q_286 q_287 q_19 q_288)) rfl rfl rfl (by decide +kernel) ⟨Nat.le_of_ble_eq_true rfl, Nat.le_of_ble_eq_true rfl⟩) ⟨gPc_blind, gPc_at hE hG hA⟩ rfl rfl hl.1 rfl (lv_room (Nat.le_of_ble_eq_true rfl)) dL_law_394 ⟨by show _ ≤ 601024; omega, by show _ ≤ 7293034; omega⟩) hG hA (fun r_119 g_118 H locs hw hG => ?_)
          try dsimp only at hw
          refine lv_istore (lv' := [(5, .int r_119), (0, .ref b), (1, .ref (ad 0)), (2, .ref (ad 4)), (3, .ref (ad 18)), (4, .int x4)]) hx hb dL_law_397 hl (by decide) rfl (fun ls hl => ?_)
          refine lv_aload_n hx hb dL_law_399 rfl (lv_at hl 3 rfl) ?_
          refine lv_aload_n hx hb dL_law_400 rfl (lv_at hl 1 rfl) ?_
          refine lv_iload hx hb dL_law_401 (lv_at hl 5 rfl) ?_
          refine lv_iconst (v := 1) hx hb dL_law_403 (by decide) ?_
          refine lv_iadd hx hb dL_law_404 ?_
          refine lv_topi (fun i_120 ei_120 => ?_)
          have hw := hw i_120 ei_120
          obtain ⟨hi_121, hw⟩ := hw
          refine va_sld hx hb hX hbl hbA hG.2.2 hi_121 dL_law_405 ?_
          refine lv_i2l hx hb dL_law_406 rfl ?_
          refine lv_bipush (v := 32) hx hb dL_law_407 (by decide) ?_
          refine lv_lshl hx hb dL_law_409 rfl ?_
          refine lv_aload_n hx hb dL_law_410 rfl (lv_at hl 1 rfl) ?_
          refine lv_iload hx hb dL_law_411 (lv_at hl 5 rfl) ?_
          refine lv_iconst (v := 2) hx hb dL_law_413 (by decide) ?_
          refine lv_iadd hx hb dL_law_414 ?_
          refine lv_topi (fun i_122 ei_122 => ?_)
          have hw := hw i_122 ei_122
          obtain ⟨hi_123, hw⟩ := hw
          refine va_sld hx hb hX hbl hbA hG.2.2 hi_123 dL_law_415 ?_
          refine lv_i2l hx hb dL_law_416 rfl ?_
          refine lv_ldc2 (own := RL) (v := 4294967295) hx hb hown (hq _ q_554) dL_law_417 ?_
          refine lv_land hx hb dL_law_420 ?_
          refine lv_lor hx hb dL_law_421 ?_
          refine lv_aload_n hx hb dL_law_422 rfl (lv_at hl 1 rfl) ?_
          refine lv_iload hx hb dL_law_423 (lv_at hl 5 rfl) ?_
          refine lv_iconst (v := 3) hx hb dL_law_425 (by decide) ?_
          refine lv_iadd hx hb dL_law_426 ?_
          refine lv_topi (fun i_124 ei_124 => ?_)
          have hw := hw i_124 ei_124
          obtain ⟨hi_125, hw⟩ := hw
          refine va_sld hx hb hX hbl hbA hG.2.2 hi_125 dL_law_427 ?_
          refine g_calli (va_runV (As := [.long ((((xs i_120.toNatClampNeg).toInt64) <<< ((32 : Int32).toInt64 &&& 63)) ||| (((xs i_122.toNatClampNeg).toInt64) &&& 4294967295)), .int (xs i_124.toNatClampNeg)]) (rest := []) ⟨hx, hb, hml, hown, hts⟩ (m_X3_feed hl9 D K sa ad _ _ ((((xs i_120.toNatClampNeg).toInt64) <<< ((32 : Int32).toInt64 &&& 63)) ||| (((xs i_122.toNatClampNeg).toInt64) &&& 4294967295)) (xs i_124.toNatClampNeg) g_118 hw) (cwV 2 hts (gGood (fun w h => gW_in h) (gV q_499 q_500 q_501 q_23 q_502)) rfl rfl rfl (by decide +kernel) ⟨Nat.le_of_ble_eq_true rfl, Nat.le_of_ble_eq_true rfl⟩) ⟨gPc_blind, g_recv hK hG (gok_lo (by decide)) (gc_M) rfl, gPc_at hE hG hA⟩ rfl rfl hl.1 rfl (lv_room (Nat.le_of_ble_eq_true rfl)) dL_law_428 ⟨by show _ ≤ 601024; omega, by show _ ≤ 7293034; omega⟩) hG hA (fun r_127 g_126 H locs hw hG => ?_)
          try dsimp only at hw
          refine lv_istore (lv' := [(6, .int r_127), (5, .int r_119), (0, .ref b), (1, .ref (ad 0)), (2, .ref (ad 4)), (3, .ref (ad 18)), (4, .int x4)]) hx hb dL_law_431 hl (by decide) rfl (fun ls hl => ?_)
          refine lv_aload_n hx hb dL_law_433 rfl (lv_at hl 4 rfl) ?_
          refine g_calli (va_runV (As := []) (rest := []) ⟨hx, hb, hml, hown, hts⟩ (m_X3_thrown hl9 D K sa ad _ _  g_126 hw) (cwV 0 hts (gGood (fun w h => gW_in h) (gV q_474 q_475 q_476 q_23 q_477)) rfl rfl rfl (by decide +kernel) ⟨Nat.le_of_ble_eq_true rfl, Nat.le_of_ble_eq_true rfl⟩) ⟨gPc_blind, g_recv hK hG (gok_lo (by decide)) (gc_M) rfl, gPc_at hE hG hA⟩ rfl rfl hl.1 rfl (lv_room (Nat.le_of_ble_eq_true rfl)) dL_law_434 ⟨by show _ ≤ 601024; omega, by show _ ≤ 7293034; omega⟩) hG hA (fun r_129 g_128 H locs hw hG => ?_)
          try dsimp only at hw
          refine lv_iload hx hb dL_law_437 (lv_at hl 1 rfl) ?_
          refine lv_icmp_eq (tgt := 444) hx hb dL_law_439 (by decide) (fun c_130 => ?_) (fun c_130 => ?_)
          · have hw := hw.1 c_130
            refine lv_iload hx hb dL_law_444 (lv_at hl 1 rfl) ?_
            refine lv_if_ne (tgt := 461) hx hb dL_law_446 (by decide) (fun c_131 => ?_) (fun c_131 => ?_)
            · have hw := hw.1 c_131
              refine lv_goto (tgt := 862) hx hb dL_law_461 (by decide) ?_
              obtain ⟨x_132, ex_132⟩ : ∃ y : Int32, y = x4 + 5 := ⟨_, rfl⟩
              have hw := hw x_132 ex_132
              refine lv_iinc (v := x_132) (lv' := [(4, .int x_132), (6, .int r_127), (5, .int r_119), (0, .ref b), (1, .ref (ad 0)), (2, .ref (ad 4)), (3, .ref (ad 18))]) hx hb dL_law_862 hl (k := 6) rfl (by rw [ex_132]; rfl) (by decide) rfl (fun ls hl => ?_)
              refine lv_goto (tgt := 23) hx hb dL_law_865 (by decide) ?_
              refine W.widen (k := kc + 2) (n := ks + 12) (by omega) (by omega) ?_
              exact ih (kc + 2) (ks + 12) (by omega) (by omega) x_132 g_128 hw _ _ _ hG (lv_sub hl [3, 4, 5, 6, 0] rfl)
            · have hw := hw.2 c_131
              refine lv_aload_n hx hb dL_law_449 rfl (lv_at hl 5 rfl) ?_
              refine lv_iconst (v := 0) hx hb dL_law_450 (by decide) ?_
              obtain ⟨hi_133, hw⟩ := hw
              refine g_lald hx hb hK hG (k := 18) (gok_lo (by decide)) (gc_18) hi_133 dL_law_451 ?_
              refine lv_iload hx hb dL_law_452 (lv_at hl 0 rfl) ?_
              refine lv_i2l hx hb dL_law_454 rfl ?_
              refine W.lcmp hx hb dL_law_455 ?_
              refine lv_if_eq (tgt := 461) hx hb dL_law_456 (by decide) (fun c_134 => ?_) (fun c_134 => ?_)
              · have hw := hw.1 c_134
                refine lv_goto (tgt := 862) hx hb dL_law_461 (by decide) ?_
                obtain ⟨x_135, ex_135⟩ : ∃ y : Int32, y = x4 + 5 := ⟨_, rfl⟩
                have hw := hw x_135 ex_135
                refine lv_iinc (v := x_135) (lv' := [(4, .int x_135), (6, .int r_127), (5, .int r_119), (0, .ref b), (1, .ref (ad 0)), (2, .ref (ad 4)), (3, .ref (ad 18))]) hx hb dL_law_862 hl (k := 6) rfl (by rw [ex_135]; rfl) (by decide) rfl (fun ls hl => ?_)
                refine lv_goto (tgt := 23) hx hb dL_law_865 (by decide) ?_
                refine W.widen (k := kc + 2) (n := ks + 12) (by omega) (by omega) ?_
                exact ih (kc + 2) (ks + 12) (by omega) (by omega) x_135 g_128 hw _ _ _ hG (lv_sub hl [3, 4, 5, 6, 0] rfl)
              · have hw := hw.2 c_134
                refine lv_iconst (v := 0) hx hb dL_law_459 (by decide) ?_
                exact hw.elim
          · have hw := hw.2 c_130
            refine lv_iconst (v := 0) hx hb dL_law_442 (by decide) ?_
            exact hw.elim
        · refine lv_tableIn hx hb dL_law_39 (by omega) (by omega) (by rw [h_3]; rfl) (tgt := 464) (by decide) ?_
          have hw := hw.2.2.2.2.1 h_3
          refine lv_aload_n hx hb dL_law_464 rfl (lv_at hl 1 rfl) ?_
          refine lv_aload_n hx hb dL_law_465 rfl (lv_at hl 0 rfl) ?_
          refine lv_iload hx hb dL_law_466 (lv_at hl 4 rfl) ?_
          refine lv_iconst (v := 1) hx hb dL_law_468 (by decide) ?_
          refine lv_iadd hx hb dL_law_469 ?_
          refine lv_topi (fun i_136 ei_136 => ?_)
          have hw := hw i_136 ei_136
          obtain ⟨hi_137, hw⟩ := hw
          refine va_sld hx hb hX hbl hbA hG.2.2 hi_137 dL_law_470 ?_
          refine lv_aload_n hx hb dL_law_471 rfl (lv_at hl 0 rfl) ?_
          refine lv_iload hx hb dL_law_472 (lv_at hl 4 rfl) ?_
          refine lv_iconst (v := 2) hx hb dL_law_474 (by decide) ?_
          refine lv_iadd hx hb dL_law_475 ?_
          refine lv_topi (fun i_138 ei_138 => ?_)
          have hw := hw i_138 ei_138
          obtain ⟨hi_139, hw⟩ := hw
          refine va_sld hx hb hX hbl hbA hG.2.2 hi_139 dL_law_476 ?_
          refine lv_aload_n hx hb dL_law_477 rfl (lv_at hl 0 rfl) ?_
          refine lv_iload hx hb dL_law_478 (lv_at hl 4 rfl) ?_
          refine lv_iconst (v := 3) hx hb dL_law_480 (by decide) ?_
          refine lv_iadd hx hb dL_law_481 ?_
          refine lv_topi (fun i_140 ei_140 => ?_)
          have hw := hw i_140 ei_140
          obtain ⟨hi_141, hw⟩ := hw
          refine va_sld hx hb hX hbl hbA hG.2.2 hi_141 dL_law_482 ?_
          refine lv_aload_n hx hb dL_law_483 rfl (lv_at hl 0 rfl) ?_
          refine lv_iload hx hb dL_law_484 (lv_at hl 4 rfl) ?_
          refine lv_iconst (v := 4) hx hb dL_law_486 (by decide) ?_
          refine lv_iadd hx hb dL_law_487 ?_
          refine lv_topi (fun i_142 ei_142 => ?_)
          have hw := hw i_142 ei_142
          obtain ⟨hi_143, hw⟩ := hw
          refine va_sld hx hb hX hbl hbA hG.2.2 hi_143 dL_law_488 ?_
          refine lv_aload_n hx hb dL_law_489 rfl (lv_at hl 3 rfl) ?_
          refine g_calli (vx_runSW (hh := [(0, 14, 17, 13)]) (As := [.ref (ad 0), .int (xs i_136.toNatClampNeg), .int (xs i_138.toNatClampNeg), .int (xs i_140.toNatClampNeg), .int (xs i_142.toNatClampNeg), .ref (ad 18)]) (rest := []) ⟨hx, hb, hml, hown, hts⟩ (m_L_put hl9 D K sa ad _ _ (xs i_136.toNatClampNeg) (xs i_138.toNatClampNeg) (xs i_140.toNatClampNeg) (xs i_142.toNatClampNeg) g hw) (vx_cwSW 6 hts (gGood (fun w h => gW_in h) (gSw q_298 q_299 q_19 q_300)) rfl rfl rfl (by decide +kernel) ⟨Nat.le_of_ble_eq_true rfl, Nat.le_of_ble_eq_true rfl⟩) ⟨gPc_blind, gPc_at hE hG hA⟩ rfl rfl hl.1 rfl (lv_room (Nat.le_of_ble_eq_true rfl)) dL_law_490 ⟨by show _ ≤ 601024; omega, by show _ ≤ 7293034; omega⟩) hG hA (fun r_145 g_144 H locs hw hG => ?_)
          try dsimp only at hw
          refine lv_istore (lv' := [(5, .int r_145), (0, .ref b), (1, .ref (ad 0)), (2, .ref (ad 4)), (3, .ref (ad 18)), (4, .int x4)]) hx hb dL_law_493 hl (by decide) rfl (fun ls hl => ?_)
          refine lv_aload_n hx hb dL_law_495 rfl (lv_at hl 3 rfl) ?_
          refine lv_aload_n hx hb dL_law_496 rfl (lv_at hl 1 rfl) ?_
          refine lv_iload hx hb dL_law_497 (lv_at hl 5 rfl) ?_
          refine lv_iconst (v := 1) hx hb dL_law_499 (by decide) ?_
          refine lv_iadd hx hb dL_law_500 ?_
          refine lv_topi (fun i_146 ei_146 => ?_)
          have hw := hw i_146 ei_146
          obtain ⟨hi_147, hw⟩ := hw
          refine va_sld hx hb hX hbl hbA hG.2.2 hi_147 dL_law_501 ?_
          refine lv_aload_n hx hb dL_law_502 rfl (lv_at hl 1 rfl) ?_
          refine lv_iload hx hb dL_law_503 (lv_at hl 5 rfl) ?_
          refine lv_iconst (v := 2) hx hb dL_law_505 (by decide) ?_
          refine lv_iadd hx hb dL_law_506 ?_
          refine lv_topi (fun i_148 ei_148 => ?_)
          have hw := hw i_148 ei_148
          obtain ⟨hi_149, hw⟩ := hw
          refine va_sld hx hb hX hbl hbA hG.2.2 hi_149 dL_law_507 ?_
          refine lv_aload_n hx hb dL_law_508 rfl (lv_at hl 1 rfl) ?_
          refine lv_iload hx hb dL_law_509 (lv_at hl 5 rfl) ?_
          refine lv_iconst (v := 3) hx hb dL_law_511 (by decide) ?_
          refine lv_iadd hx hb dL_law_512 ?_
          refine lv_topi (fun i_150 ei_150 => ?_)
          have hw := hw i_150 ei_150
          obtain ⟨hi_151, hw⟩ := hw
          refine va_sld hx hb hX hbl hbA hG.2.2 hi_151 dL_law_513 ?_
          refine lv_aload_n hx hb dL_law_514 rfl (lv_at hl 1 rfl) ?_
          refine lv_iload hx hb dL_law_515 (lv_at hl 5 rfl) ?_
          refine lv_iconst (v := 4) hx hb dL_law_517 (by decide) ?_
          refine lv_iadd hx hb dL_law_518 ?_
          refine lv_topi (fun i_152 ei_152 => ?_)
          have hw := hw i_152 ei_152
          obtain ⟨hi_153, hw⟩ := hw
          refine va_sld hx hb hX hbl hbA hG.2.2 hi_153 dL_law_519 ?_
          refine g_calli (va_runV (As := [.int (xs i_146.toNatClampNeg), .int (xs i_148.toNatClampNeg), .int (xs i_150.toNatClampNeg), .int (xs i_152.toNatClampNeg)]) (rest := []) ⟨hx, hb, hml, hown, hts⟩ (m_X3_put hl9 D K sa ad _ _ (xs i_146.toNatClampNeg) (xs i_148.toNatClampNeg) (xs i_150.toNatClampNeg) (xs i_152.toNatClampNeg) g_144 hw) (cwV 4 hts (gGood (fun w h => gW_in h) (gV q_504 q_505 q_506 q_23 q_507)) rfl rfl rfl (by decide +kernel) ⟨Nat.le_of_ble_eq_true rfl, Nat.le_of_ble_eq_true rfl⟩) ⟨gPc_blind, g_recv hK hG (gok_lo (by decide)) (gc_M) rfl, gPc_at hE hG hA⟩ rfl rfl hl.1 rfl (lv_room (Nat.le_of_ble_eq_true rfl)) dL_law_520 ⟨by show _ ≤ 601024; omega, by show _ ≤ 7293034; omega⟩) hG hA (fun r_155 g_154 H locs hw hG => ?_)
          try dsimp only at hw
          refine lv_istore (lv' := [(6, .int r_155), (5, .int r_145), (0, .ref b), (1, .ref (ad 0)), (2, .ref (ad 4)), (3, .ref (ad 18)), (4, .int x4)]) hx hb dL_law_523 hl (by decide) rfl (fun ls hl => ?_)
          refine lv_aload_n hx hb dL_law_525 rfl (lv_at hl 4 rfl) ?_
          refine g_calli (va_runV (As := []) (rest := []) ⟨hx, hb, hml, hown, hts⟩ (m_X3_thrown hl9 D K sa ad _ _  g_154 hw) (cwV 0 hts (gGood (fun w h => gW_in h) (gV q_474 q_475 q_476 q_23 q_477)) rfl rfl rfl (by decide +kernel) ⟨Nat.le_of_ble_eq_true rfl, Nat.le_of_ble_eq_true rfl⟩) ⟨gPc_blind, g_recv hK hG (gok_lo (by decide)) (gc_M) rfl, gPc_at hE hG hA⟩ rfl rfl hl.1 rfl (lv_room (Nat.le_of_ble_eq_true rfl)) dL_law_526 ⟨by show _ ≤ 601024; omega, by show _ ≤ 7293034; omega⟩) hG hA (fun r_157 g_156 H locs hw hG => ?_)
          try dsimp only at hw
          refine lv_iload hx hb dL_law_529 (lv_at hl 1 rfl) ?_
          refine lv_icmp_eq (tgt := 536) hx hb dL_law_531 (by decide) (fun c_158 => ?_) (fun c_158 => ?_)
          · have hw := hw.1 c_158
            refine lv_iload hx hb dL_law_536 (lv_at hl 1 rfl) ?_
            refine lv_if_ne (tgt := 553) hx hb dL_law_538 (by decide) (fun c_159 => ?_) (fun c_159 => ?_)
            · have hw := hw.1 c_159
              refine lv_goto (tgt := 862) hx hb dL_law_553 (by decide) ?_
              obtain ⟨x_160, ex_160⟩ : ∃ y : Int32, y = x4 + 5 := ⟨_, rfl⟩
              have hw := hw x_160 ex_160
              refine lv_iinc (v := x_160) (lv' := [(4, .int x_160), (6, .int r_155), (5, .int r_145), (0, .ref b), (1, .ref (ad 0)), (2, .ref (ad 4)), (3, .ref (ad 18))]) hx hb dL_law_862 hl (k := 6) rfl (by rw [ex_160]; rfl) (by decide) rfl (fun ls hl => ?_)
              refine lv_goto (tgt := 23) hx hb dL_law_865 (by decide) ?_
              refine W.widen (k := kc + 2) (n := ks + 12) (by omega) (by omega) ?_
              exact ih (kc + 2) (ks + 12) (by omega) (by omega) x_160 g_156 hw _ _ _ hG (lv_sub hl [3, 4, 5, 6, 0] rfl)
            · have hw := hw.2 c_159
              refine lv_aload_n hx hb dL_law_541 rfl (lv_at hl 5 rfl) ?_
              refine lv_iconst (v := 0) hx hb dL_law_542 (by decide) ?_
              obtain ⟨hi_161, hw⟩ := hw
              refine g_lald hx hb hK hG (k := 18) (gok_lo (by decide)) (gc_18) hi_161 dL_law_543 ?_
              refine lv_iload hx hb dL_law_544 (lv_at hl 0 rfl) ?_
              refine lv_i2l hx hb dL_law_546 rfl ?_
              refine W.lcmp hx hb dL_law_547 ?_
              refine lv_if_eq (tgt := 553) hx hb dL_law_548 (by decide) (fun c_162 => ?_) (fun c_162 => ?_)
              · have hw := hw.1 c_162
                refine lv_goto (tgt := 862) hx hb dL_law_553 (by decide) ?_
                obtain ⟨x_163, ex_163⟩ : ∃ y : Int32, y = x4 + 5 := ⟨_, rfl⟩
                have hw := hw x_163 ex_163
                refine lv_iinc (v := x_163) (lv' := [(4, .int x_163), (6, .int r_155), (5, .int r_145), (0, .ref b), (1, .ref (ad 0)), (2, .ref (ad 4)), (3, .ref (ad 18))]) hx hb dL_law_862 hl (k := 6) rfl (by rw [ex_163]; rfl) (by decide) rfl (fun ls hl => ?_)
                refine lv_goto (tgt := 23) hx hb dL_law_865 (by decide) ?_
                refine W.widen (k := kc + 2) (n := ks + 12) (by omega) (by omega) ?_
                exact ih (kc + 2) (ks + 12) (by omega) (by omega) x_163 g_156 hw _ _ _ hG (lv_sub hl [3, 4, 5, 6, 0] rfl)
              · have hw := hw.2 c_162
                refine lv_iconst (v := 0) hx hb dL_law_551 (by decide) ?_
                exact hw.elim
          · have hw := hw.2 c_158
            refine lv_iconst (v := 0) hx hb dL_law_534 (by decide) ?_
            exact hw.elim
        · refine lv_tableIn hx hb dL_law_39 (by omega) (by omega) (by rw [h_3]; rfl) (tgt := 556) (by decide) ?_
          have hw := hw.2.2.2.2.2.1 h_3
          refine lv_aload_n hx hb dL_law_556 rfl (lv_at hl 1 rfl) ?_
          refine lv_aload_n hx hb dL_law_557 rfl (lv_at hl 0 rfl) ?_
          refine lv_iload hx hb dL_law_558 (lv_at hl 4 rfl) ?_
          refine lv_iconst (v := 1) hx hb dL_law_560 (by decide) ?_
          refine lv_iadd hx hb dL_law_561 ?_
          refine lv_topi (fun i_164 ei_164 => ?_)
          have hw := hw i_164 ei_164
          obtain ⟨hi_165, hw⟩ := hw
          refine va_sld hx hb hX hbl hbA hG.2.2 hi_165 dL_law_562 ?_
          refine lv_aload_n hx hb dL_law_563 rfl (lv_at hl 3 rfl) ?_
          refine g_calli (vx_runSW (hh := [(0, 9, 12, 13), (0, 9, 15, 15)]) (As := [.ref (ad 0), .int (xs i_164.toNatClampNeg), .ref (ad 18)]) (rest := []) ⟨hx, hb, hml, hown, hts⟩ (m_L_pass hl9 D K sa ad _ _ (xs i_164.toNatClampNeg) g hw) (vx_cwSW 3 hts (gGood (fun w h => gW_in h) (gSw q_345 q_346 q_19 q_347)) rfl rfl rfl (by decide +kernel) ⟨Nat.le_of_ble_eq_true rfl, Nat.le_of_ble_eq_true rfl⟩) ⟨gPc_blind, gPc_at hE hG hA⟩ rfl rfl hl.1 rfl (lv_room (Nat.le_of_ble_eq_true rfl)) dL_law_564 ⟨by show _ ≤ 601024; omega, by show _ ≤ 7293034; omega⟩) hG hA (fun r_167 g_166 H locs hw hG => ?_)
          try dsimp only at hw
          refine lv_istore (lv' := [(5, .int r_167), (0, .ref b), (1, .ref (ad 0)), (2, .ref (ad 4)), (3, .ref (ad 18)), (4, .int x4)]) hx hb dL_law_567 hl (by decide) rfl (fun ls hl => ?_)
          refine lv_aload_n hx hb dL_law_569 rfl (lv_at hl 3 rfl) ?_
          refine lv_aload_n hx hb dL_law_570 rfl (lv_at hl 1 rfl) ?_
          refine lv_iload hx hb dL_law_571 (lv_at hl 5 rfl) ?_
          refine lv_iconst (v := 1) hx hb dL_law_573 (by decide) ?_
          refine lv_iadd hx hb dL_law_574 ?_
          refine lv_topi (fun i_168 ei_168 => ?_)
          have hw := hw i_168 ei_168
          obtain ⟨hi_169, hw⟩ := hw
          refine va_sld hx hb hX hbl hbA hG.2.2 hi_169 dL_law_575 ?_
          refine g_calli (va_runV (As := [.int (xs i_168.toNatClampNeg)]) (rest := []) ⟨hx, hb, hml, hown, hts⟩ (m_X3_pass hl9 D K sa ad _ _ (xs i_168.toNatClampNeg) g_166 hw) (cwV 1 hts (gGood (fun w h => gW_in h) (gV q_521 q_522 q_523 q_23 q_524)) rfl rfl rfl (by decide +kernel) ⟨Nat.le_of_ble_eq_true rfl, Nat.le_of_ble_eq_true rfl⟩) ⟨gPc_blind, g_recv hK hG (gok_lo (by decide)) (gc_M) rfl, gPc_at hE hG hA⟩ rfl rfl hl.1 rfl (lv_room (Nat.le_of_ble_eq_true rfl)) dL_law_576 ⟨by show _ ≤ 601024; omega, by show _ ≤ 7293034; omega⟩) hG hA (fun r_171 g_170 H locs hw hG => ?_)
          try dsimp only at hw
          refine lv_istore (lv' := [(6, .int r_171), (5, .int r_167), (0, .ref b), (1, .ref (ad 0)), (2, .ref (ad 4)), (3, .ref (ad 18)), (4, .int x4)]) hx hb dL_law_579 hl (by decide) rfl (fun ls hl => ?_)
          refine lv_aload_n hx hb dL_law_581 rfl (lv_at hl 4 rfl) ?_
          refine g_calli (va_runV (As := []) (rest := []) ⟨hx, hb, hml, hown, hts⟩ (m_X3_thrown hl9 D K sa ad _ _  g_170 hw) (cwV 0 hts (gGood (fun w h => gW_in h) (gV q_474 q_475 q_476 q_23 q_477)) rfl rfl rfl (by decide +kernel) ⟨Nat.le_of_ble_eq_true rfl, Nat.le_of_ble_eq_true rfl⟩) ⟨gPc_blind, g_recv hK hG (gok_lo (by decide)) (gc_M) rfl, gPc_at hE hG hA⟩ rfl rfl hl.1 rfl (lv_room (Nat.le_of_ble_eq_true rfl)) dL_law_582 ⟨by show _ ≤ 601024; omega, by show _ ≤ 7293034; omega⟩) hG hA (fun r_173 g_172 H locs hw hG => ?_)
          try dsimp only at hw
          refine lv_iload hx hb dL_law_585 (lv_at hl 1 rfl) ?_
          refine lv_icmp_eq (tgt := 592) hx hb dL_law_587 (by decide) (fun c_174 => ?_) (fun c_174 => ?_)
          · have hw := hw.1 c_174
            refine lv_iload hx hb dL_law_592 (lv_at hl 1 rfl) ?_
            refine lv_if_ne (tgt := 609) hx hb dL_law_594 (by decide) (fun c_175 => ?_) (fun c_175 => ?_)
            · have hw := hw.1 c_175
              refine lv_goto (tgt := 862) hx hb dL_law_609 (by decide) ?_
              obtain ⟨x_176, ex_176⟩ : ∃ y : Int32, y = x4 + 5 := ⟨_, rfl⟩
              have hw := hw x_176 ex_176
              refine lv_iinc (v := x_176) (lv' := [(4, .int x_176), (6, .int r_171), (5, .int r_167), (0, .ref b), (1, .ref (ad 0)), (2, .ref (ad 4)), (3, .ref (ad 18))]) hx hb dL_law_862 hl (k := 6) rfl (by rw [ex_176]; rfl) (by decide) rfl (fun ls hl => ?_)
              refine lv_goto (tgt := 23) hx hb dL_law_865 (by decide) ?_
              refine W.widen (k := kc + 2) (n := ks + 12) (by omega) (by omega) ?_
              exact ih (kc + 2) (ks + 12) (by omega) (by omega) x_176 g_172 hw _ _ _ hG (lv_sub hl [3, 4, 5, 6, 0] rfl)
            · have hw := hw.2 c_175
              refine lv_aload_n hx hb dL_law_597 rfl (lv_at hl 5 rfl) ?_
              refine lv_iconst (v := 0) hx hb dL_law_598 (by decide) ?_
              obtain ⟨hi_177, hw⟩ := hw
              refine g_lald hx hb hK hG (k := 18) (gok_lo (by decide)) (gc_18) hi_177 dL_law_599 ?_
              refine lv_iload hx hb dL_law_600 (lv_at hl 0 rfl) ?_
              refine lv_i2l hx hb dL_law_602 rfl ?_
              refine W.lcmp hx hb dL_law_603 ?_
              refine lv_if_eq (tgt := 609) hx hb dL_law_604 (by decide) (fun c_178 => ?_) (fun c_178 => ?_)
              · have hw := hw.1 c_178
                refine lv_goto (tgt := 862) hx hb dL_law_609 (by decide) ?_
                obtain ⟨x_179, ex_179⟩ : ∃ y : Int32, y = x4 + 5 := ⟨_, rfl⟩
                have hw := hw x_179 ex_179
                refine lv_iinc (v := x_179) (lv' := [(4, .int x_179), (6, .int r_171), (5, .int r_167), (0, .ref b), (1, .ref (ad 0)), (2, .ref (ad 4)), (3, .ref (ad 18))]) hx hb dL_law_862 hl (k := 6) rfl (by rw [ex_179]; rfl) (by decide) rfl (fun ls hl => ?_)
                refine lv_goto (tgt := 23) hx hb dL_law_865 (by decide) ?_
                refine W.widen (k := kc + 2) (n := ks + 12) (by omega) (by omega) ?_
                exact ih (kc + 2) (ks + 12) (by omega) (by omega) x_179 g_172 hw _ _ _ hG (lv_sub hl [3, 4, 5, 6, 0] rfl)
              · have hw := hw.2 c_178
                refine lv_iconst (v := 0) hx hb dL_law_607 (by decide) ?_
                exact hw.elim
          · have hw := hw.2 c_174
            refine lv_iconst (v := 0) hx hb dL_law_590 (by decide) ?_
            exact hw.elim
        · refine lv_tableIn hx hb dL_law_39 (by omega) (by omega) (by rw [h_3]; rfl) (tgt := 612) (by decide) ?_
          have hw := hw.2.2.2.2.2.2.1 h_3
          refine lv_aload_n hx hb dL_law_612 rfl (lv_at hl 1 rfl) ?_
          refine g_calli (va_runV (As := []) (rest := []) ⟨hx, hb, hml, hown, hts⟩ (m_X2_next hl9 D K sa ad _ _  g hw) (cwV 0 hts (gGood (fun w h => gW_in h) (gV q_152 q_153 q_154 q_20 q_155)) rfl rfl rfl (by decide +kernel) ⟨Nat.le_of_ble_eq_true rfl, Nat.le_of_ble_eq_true rfl⟩) ⟨gPc_blind, g_recv hK hG (gok_lo (by decide)) (gc_W) rfl, gPc_at hE hG hA⟩ rfl rfl hl.1 rfl (lv_room (Nat.le_of_ble_eq_true rfl)) dL_law_613 ⟨by show _ ≤ 601024; omega, by show _ ≤ 7293034; omega⟩) hG hA (fun r_181 g_180 H locs hw hG => ?_)
          try dsimp only at hw
          refine lv_aload_n hx hb dL_law_616 rfl (lv_at hl 2 rfl) ?_
          refine g_calli (va_runV (As := []) (rest := [.int r_181]) ⟨hx, hb, hml, hown, hts⟩ (m_X3_next hl9 D K sa ad _ _  g_180 hw) (cwV 0 hts (gGood (fun w h => gW_in h) (gV q_530 q_531 q_532 q_23 q_533)) rfl rfl rfl (by decide +kernel) ⟨Nat.le_of_ble_eq_true rfl, Nat.le_of_ble_eq_true rfl⟩) ⟨gPc_blind, g_recv hK hG (gok_lo (by decide)) (gc_M) rfl, gPc_at hE hG hA⟩ rfl rfl hl.1 rfl (lv_room (Nat.le_of_ble_eq_true rfl)) dL_law_617 ⟨by show _ ≤ 601024; omega, by show _ ≤ 7293034; omega⟩) hG hA (fun r_183 g_182 H locs hw hG => ?_)
          try dsimp only at hw
          refine lv_icmp_eq (tgt := 862) hx hb dL_law_620 (by decide) (fun c_184 => ?_) (fun c_184 => ?_)
          · have hw := hw.1 c_184
            obtain ⟨x_185, ex_185⟩ : ∃ y : Int32, y = x4 + 5 := ⟨_, rfl⟩
            have hw := hw x_185 ex_185
            refine lv_iinc (v := x_185) (lv' := [(4, .int x_185), (0, .ref b), (1, .ref (ad 0)), (2, .ref (ad 4)), (3, .ref (ad 18))]) hx hb dL_law_862 hl (k := 4) rfl (by rw [ex_185]; rfl) (by decide) rfl (fun ls hl => ?_)
            refine lv_goto (tgt := 23) hx hb dL_law_865 (by decide) ?_
            refine W.widen (k := kc + 2) (n := ks + 12) (by omega) (by omega) ?_
            exact ih (kc + 2) (ks + 12) (by omega) (by omega) x_185 g_182 hw _ _ _ hG (lv_sub hl [1, 2, 3, 4, 0] rfl)
          · have hw := hw.2 c_184
            refine lv_iconst (v := 0) hx hb dL_law_623 (by decide) ?_
            exact hw.elim
        · refine lv_tableIn hx hb dL_law_39 (by omega) (by omega) (by rw [h_3]; rfl) (tgt := 625) (by decide) ?_
          have hw := hw.2.2.2.2.2.2.2.1 h_3
          refine lv_aload_n hx hb dL_law_625 rfl (lv_at hl 1 rfl) ?_
          refine lv_aload_n hx hb dL_law_626 rfl (lv_at hl 0 rfl) ?_
          refine lv_iload hx hb dL_law_627 (lv_at hl 4 rfl) ?_
          refine lv_iconst (v := 1) hx hb dL_law_629 (by decide) ?_
          refine lv_iadd hx hb dL_law_630 ?_
          refine lv_topi (fun i_186 ei_186 => ?_)
          have hw := hw i_186 ei_186
          obtain ⟨hi_187, hw⟩ := hw
          refine va_sld hx hb hX hbl hbA hG.2.2 hi_187 dL_law_631 ?_
          refine lv_aload_n hx hb dL_law_632 rfl (lv_at hl 3 rfl) ?_
          refine g_calli (vx_runSW (hh := [(0, 9, 12, 13), (0, 9, 15, 15)]) (As := [.ref (ad 0), .int (xs i_186.toNatClampNeg), .ref (ad 18)]) (rest := []) ⟨hx, hb, hml, hown, hts⟩ (m_L_arrival hl9 D K sa ad _ _ (xs i_186.toNatClampNeg) g hw) (vx_cwSW 3 hts (gGood (fun w h => gW_in h) (gSw q_359 q_360 q_19 q_361)) rfl rfl rfl (by decide +kernel) ⟨Nat.le_of_ble_eq_true rfl, Nat.le_of_ble_eq_true rfl⟩) ⟨gPc_blind, gPc_at hE hG hA⟩ rfl rfl hl.1 rfl (lv_room (Nat.le_of_ble_eq_true rfl)) dL_law_633 ⟨by show _ ≤ 601024; omega, by show _ ≤ 7293034; omega⟩) hG hA (fun r_189 g_188 H locs hw hG => ?_)
          try dsimp only at hw
          refine lv_istore (lv' := [(5, .int r_189), (0, .ref b), (1, .ref (ad 0)), (2, .ref (ad 4)), (3, .ref (ad 18)), (4, .int x4)]) hx hb dL_law_636 hl (by decide) rfl (fun ls hl => ?_)
          refine lv_aload_n hx hb dL_law_638 rfl (lv_at hl 3 rfl) ?_
          refine lv_aload_n hx hb dL_law_639 rfl (lv_at hl 1 rfl) ?_
          refine lv_iload hx hb dL_law_640 (lv_at hl 5 rfl) ?_
          refine lv_iconst (v := 1) hx hb dL_law_642 (by decide) ?_
          refine lv_iadd hx hb dL_law_643 ?_
          refine lv_topi (fun i_190 ei_190 => ?_)
          have hw := hw i_190 ei_190
          obtain ⟨hi_191, hw⟩ := hw
          refine va_sld hx hb hX hbl hbA hG.2.2 hi_191 dL_law_644 ?_
          refine g_calli (va_runV (As := [.int (xs i_190.toNatClampNeg)]) (rest := []) ⟨hx, hb, hml, hown, hts⟩ (m_X3_arrival hl9 D K sa ad _ _ (xs i_190.toNatClampNeg) g_188 hw) (cwV 1 hts (gGood (fun w h => gW_in h) (gV q_534 q_535 q_536 q_23 q_537)) rfl rfl rfl (by decide +kernel) ⟨Nat.le_of_ble_eq_true rfl, Nat.le_of_ble_eq_true rfl⟩) ⟨gPc_blind, g_recv hK hG (gok_lo (by decide)) (gc_M) rfl, gPc_at hE hG hA⟩ rfl rfl hl.1 rfl (lv_room (Nat.le_of_ble_eq_true rfl)) dL_law_645 ⟨by show _ ≤ 601024; omega, by show _ ≤ 7293034; omega⟩) hG hA (fun r_193 g_192 H locs hw hG => ?_)
          try dsimp only at hw
          refine lv_istore (lv' := [(6, .int r_193), (5, .int r_189), (0, .ref b), (1, .ref (ad 0)), (2, .ref (ad 4)), (3, .ref (ad 18)), (4, .int x4)]) hx hb dL_law_648 hl (by decide) rfl (fun ls hl => ?_)
          refine lv_aload_n hx hb dL_law_650 rfl (lv_at hl 4 rfl) ?_
          refine g_calli (va_runV (As := []) (rest := []) ⟨hx, hb, hml, hown, hts⟩ (m_X3_thrown hl9 D K sa ad _ _  g_192 hw) (cwV 0 hts (gGood (fun w h => gW_in h) (gV q_474 q_475 q_476 q_23 q_477)) rfl rfl rfl (by decide +kernel) ⟨Nat.le_of_ble_eq_true rfl, Nat.le_of_ble_eq_true rfl⟩) ⟨gPc_blind, g_recv hK hG (gok_lo (by decide)) (gc_M) rfl, gPc_at hE hG hA⟩ rfl rfl hl.1 rfl (lv_room (Nat.le_of_ble_eq_true rfl)) dL_law_651 ⟨by show _ ≤ 601024; omega, by show _ ≤ 7293034; omega⟩) hG hA (fun r_195 g_194 H locs hw hG => ?_)
          try dsimp only at hw
          refine lv_iload hx hb dL_law_654 (lv_at hl 1 rfl) ?_
          refine lv_icmp_eq (tgt := 661) hx hb dL_law_656 (by decide) (fun c_196 => ?_) (fun c_196 => ?_)
          · have hw := hw.1 c_196
            refine lv_iload hx hb dL_law_661 (lv_at hl 1 rfl) ?_
            refine lv_if_ne (tgt := 678) hx hb dL_law_663 (by decide) (fun c_197 => ?_) (fun c_197 => ?_)
            · have hw := hw.1 c_197
              refine lv_goto (tgt := 862) hx hb dL_law_678 (by decide) ?_
              obtain ⟨x_198, ex_198⟩ : ∃ y : Int32, y = x4 + 5 := ⟨_, rfl⟩
              have hw := hw x_198 ex_198
              refine lv_iinc (v := x_198) (lv' := [(4, .int x_198), (6, .int r_193), (5, .int r_189), (0, .ref b), (1, .ref (ad 0)), (2, .ref (ad 4)), (3, .ref (ad 18))]) hx hb dL_law_862 hl (k := 6) rfl (by rw [ex_198]; rfl) (by decide) rfl (fun ls hl => ?_)
              refine lv_goto (tgt := 23) hx hb dL_law_865 (by decide) ?_
              refine W.widen (k := kc + 2) (n := ks + 12) (by omega) (by omega) ?_
              exact ih (kc + 2) (ks + 12) (by omega) (by omega) x_198 g_194 hw _ _ _ hG (lv_sub hl [3, 4, 5, 6, 0] rfl)
            · have hw := hw.2 c_197
              refine lv_aload_n hx hb dL_law_666 rfl (lv_at hl 5 rfl) ?_
              refine lv_iconst (v := 0) hx hb dL_law_667 (by decide) ?_
              obtain ⟨hi_199, hw⟩ := hw
              refine g_lald hx hb hK hG (k := 18) (gok_lo (by decide)) (gc_18) hi_199 dL_law_668 ?_
              refine lv_iload hx hb dL_law_669 (lv_at hl 0 rfl) ?_
              refine lv_i2l hx hb dL_law_671 rfl ?_
              refine W.lcmp hx hb dL_law_672 ?_
              refine lv_if_eq (tgt := 678) hx hb dL_law_673 (by decide) (fun c_200 => ?_) (fun c_200 => ?_)
              · have hw := hw.1 c_200
                refine lv_goto (tgt := 862) hx hb dL_law_678 (by decide) ?_
                obtain ⟨x_201, ex_201⟩ : ∃ y : Int32, y = x4 + 5 := ⟨_, rfl⟩
                have hw := hw x_201 ex_201
                refine lv_iinc (v := x_201) (lv' := [(4, .int x_201), (6, .int r_193), (5, .int r_189), (0, .ref b), (1, .ref (ad 0)), (2, .ref (ad 4)), (3, .ref (ad 18))]) hx hb dL_law_862 hl (k := 6) rfl (by rw [ex_201]; rfl) (by decide) rfl (fun ls hl => ?_)
                refine lv_goto (tgt := 23) hx hb dL_law_865 (by decide) ?_
                refine W.widen (k := kc + 2) (n := ks + 12) (by omega) (by omega) ?_
                exact ih (kc + 2) (ks + 12) (by omega) (by omega) x_201 g_194 hw _ _ _ hG (lv_sub hl [3, 4, 5, 6, 0] rfl)
              · have hw := hw.2 c_200
                refine lv_iconst (v := 0) hx hb dL_law_676 (by decide) ?_
                exact hw.elim
          · have hw := hw.2 c_196
            refine lv_iconst (v := 0) hx hb dL_law_659 (by decide) ?_
            exact hw.elim
        · refine lv_tableIn hx hb dL_law_39 (by omega) (by omega) (by rw [h_3]; rfl) (tgt := 681) (by decide) ?_
          have hw := hw.2.2.2.2.2.2.2.2.1 h_3
          refine lv_aload_n hx hb dL_law_681 rfl (lv_at hl 1 rfl) ?_
          refine lv_aload_n hx hb dL_law_682 rfl (lv_at hl 0 rfl) ?_
          refine lv_iload hx hb dL_law_683 (lv_at hl 4 rfl) ?_
          refine lv_iconst (v := 1) hx hb dL_law_685 (by decide) ?_
          refine lv_iadd hx hb dL_law_686 ?_
          refine lv_topi (fun i_202 ei_202 => ?_)
          have hw := hw i_202 ei_202
          obtain ⟨hi_203, hw⟩ := hw
          refine va_sld hx hb hX hbl hbA hG.2.2 hi_203 dL_law_687 ?_
          refine lv_aload_n hx hb dL_law_688 rfl (lv_at hl 3 rfl) ?_
          refine g_calli (vx_runSW (hh := [(0, 9, 12, 15), (0, 9, 15, 43)]) (As := [.ref (ad 0), .int (xs i_202.toNatClampNeg), .ref (ad 18)]) (rest := []) ⟨hx, hb, hml, hown, hts⟩ (m_L_byteAt hl9 D K sa ad _ _ (xs i_202.toNatClampNeg) g hw) (vx_cwSW 3 hts (gGood (fun w h => gW_in h) (gSw q_368 q_369 q_19 q_370)) rfl rfl rfl (by decide +kernel) ⟨Nat.le_of_ble_eq_true rfl, Nat.le_of_ble_eq_true rfl⟩) ⟨gPc_blind, gPc_at hE hG hA⟩ rfl rfl hl.1 rfl (lv_room (Nat.le_of_ble_eq_true rfl)) dL_law_689 ⟨by show _ ≤ 601024; omega, by show _ ≤ 7293034; omega⟩) hG hA (fun r_205 g_204 H locs hw hG => ?_)
          try dsimp only at hw
          refine lv_istore (lv' := [(5, .int r_205), (0, .ref b), (1, .ref (ad 0)), (2, .ref (ad 4)), (3, .ref (ad 18)), (4, .int x4)]) hx hb dL_law_692 hl (by decide) rfl (fun ls hl => ?_)
          refine lv_aload_n hx hb dL_law_694 rfl (lv_at hl 3 rfl) ?_
          refine lv_aload_n hx hb dL_law_695 rfl (lv_at hl 1 rfl) ?_
          refine lv_iload hx hb dL_law_696 (lv_at hl 5 rfl) ?_
          refine lv_iconst (v := 1) hx hb dL_law_698 (by decide) ?_
          refine lv_iadd hx hb dL_law_699 ?_
          refine lv_topi (fun i_206 ei_206 => ?_)
          have hw := hw i_206 ei_206
          obtain ⟨hi_207, hw⟩ := hw
          refine va_sld hx hb hX hbl hbA hG.2.2 hi_207 dL_law_700 ?_
          refine g_calli (va_runV (As := [.int (xs i_206.toNatClampNeg)]) (rest := []) ⟨hx, hb, hml, hown, hts⟩ (m_X3_byteAt hl9 D K sa ad _ _ (xs i_206.toNatClampNeg) g_204 hw) (cwV 1 hts (gGood (fun w h => gW_in h) (gV q_538 q_539 q_540 q_23 q_541)) rfl rfl rfl (by decide +kernel) ⟨Nat.le_of_ble_eq_true rfl, Nat.le_of_ble_eq_true rfl⟩) ⟨gPc_blind, g_recv hK hG (gok_lo (by decide)) (gc_M) rfl, gPc_at hE hG hA⟩ rfl rfl hl.1 rfl (lv_room (Nat.le_of_ble_eq_true rfl)) dL_law_701 ⟨by show _ ≤ 601024; omega, by show _ ≤ 7293034; omega⟩) hG hA (fun r_209 g_208 H locs hw hG => ?_)
          try dsimp only at hw
          refine lv_istore (lv' := [(6, .int r_209), (5, .int r_205), (0, .ref b), (1, .ref (ad 0)), (2, .ref (ad 4)), (3, .ref (ad 18)), (4, .int x4)]) hx hb dL_law_704 hl (by decide) rfl (fun ls hl => ?_)
          refine lv_aload_n hx hb dL_law_706 rfl (lv_at hl 4 rfl) ?_
          refine g_calli (va_runV (As := []) (rest := []) ⟨hx, hb, hml, hown, hts⟩ (m_X3_thrown hl9 D K sa ad _ _  g_208 hw) (cwV 0 hts (gGood (fun w h => gW_in h) (gV q_474 q_475 q_476 q_23 q_477)) rfl rfl rfl (by decide +kernel) ⟨Nat.le_of_ble_eq_true rfl, Nat.le_of_ble_eq_true rfl⟩) ⟨gPc_blind, g_recv hK hG (gok_lo (by decide)) (gc_M) rfl, gPc_at hE hG hA⟩ rfl rfl hl.1 rfl (lv_room (Nat.le_of_ble_eq_true rfl)) dL_law_707 ⟨by show _ ≤ 601024; omega, by show _ ≤ 7293034; omega⟩) hG hA (fun r_211 g_210 H locs hw hG => ?_)
          try dsimp only at hw
          refine lv_iload hx hb dL_law_710 (lv_at hl 1 rfl) ?_
          refine lv_icmp_eq (tgt := 717) hx hb dL_law_712 (by decide) (fun c_212 => ?_) (fun c_212 => ?_)
          · have hw := hw.1 c_212
            refine lv_iload hx hb dL_law_717 (lv_at hl 1 rfl) ?_
            refine lv_if_ne (tgt := 734) hx hb dL_law_719 (by decide) (fun c_213 => ?_) (fun c_213 => ?_)
            · have hw := hw.1 c_213
              refine lv_goto (tgt := 862) hx hb dL_law_734 (by decide) ?_
              obtain ⟨x_214, ex_214⟩ : ∃ y : Int32, y = x4 + 5 := ⟨_, rfl⟩
              have hw := hw x_214 ex_214
              refine lv_iinc (v := x_214) (lv' := [(4, .int x_214), (6, .int r_209), (5, .int r_205), (0, .ref b), (1, .ref (ad 0)), (2, .ref (ad 4)), (3, .ref (ad 18))]) hx hb dL_law_862 hl (k := 6) rfl (by rw [ex_214]; rfl) (by decide) rfl (fun ls hl => ?_)
              refine lv_goto (tgt := 23) hx hb dL_law_865 (by decide) ?_
              refine W.widen (k := kc + 2) (n := ks + 12) (by omega) (by omega) ?_
              exact ih (kc + 2) (ks + 12) (by omega) (by omega) x_214 g_210 hw _ _ _ hG (lv_sub hl [3, 4, 5, 6, 0] rfl)
            · have hw := hw.2 c_213
              refine lv_aload_n hx hb dL_law_722 rfl (lv_at hl 5 rfl) ?_
              refine lv_iconst (v := 0) hx hb dL_law_723 (by decide) ?_
              obtain ⟨hi_215, hw⟩ := hw
              refine g_lald hx hb hK hG (k := 18) (gok_lo (by decide)) (gc_18) hi_215 dL_law_724 ?_
              refine lv_iload hx hb dL_law_725 (lv_at hl 0 rfl) ?_
              refine lv_i2l hx hb dL_law_727 rfl ?_
              refine W.lcmp hx hb dL_law_728 ?_
              refine lv_if_eq (tgt := 734) hx hb dL_law_729 (by decide) (fun c_216 => ?_) (fun c_216 => ?_)
              · have hw := hw.1 c_216
                refine lv_goto (tgt := 862) hx hb dL_law_734 (by decide) ?_
                obtain ⟨x_217, ex_217⟩ : ∃ y : Int32, y = x4 + 5 := ⟨_, rfl⟩
                have hw := hw x_217 ex_217
                refine lv_iinc (v := x_217) (lv' := [(4, .int x_217), (6, .int r_209), (5, .int r_205), (0, .ref b), (1, .ref (ad 0)), (2, .ref (ad 4)), (3, .ref (ad 18))]) hx hb dL_law_862 hl (k := 6) rfl (by rw [ex_217]; rfl) (by decide) rfl (fun ls hl => ?_)
                refine lv_goto (tgt := 23) hx hb dL_law_865 (by decide) ?_
                refine W.widen (k := kc + 2) (n := ks + 12) (by omega) (by omega) ?_
                exact ih (kc + 2) (ks + 12) (by omega) (by omega) x_217 g_210 hw _ _ _ hG (lv_sub hl [3, 4, 5, 6, 0] rfl)
              · have hw := hw.2 c_216
                refine lv_iconst (v := 0) hx hb dL_law_732 (by decide) ?_
                exact hw.elim
          · have hw := hw.2 c_212
            refine lv_iconst (v := 0) hx hb dL_law_715 (by decide) ?_
            exact hw.elim
        · refine lv_tableIn hx hb dL_law_39 (by omega) (by omega) (by rw [h_3]; rfl) (tgt := 737) (by decide) ?_
          have hw := hw.2.2.2.2.2.2.2.2.2.1 h_3
          refine lv_aload_n hx hb dL_law_737 rfl (lv_at hl 1 rfl) ?_
          refine g_calli (va_runV (As := []) (rest := []) ⟨hx, hb, hml, hown, hts⟩ (m_X2_underWay hl9 D K sa ad _ _  g hw) (cwV 0 hts (gGood (fun w h => gW_in h) (gV q_156 q_157 q_158 q_20 q_159)) rfl rfl rfl (by decide +kernel) ⟨Nat.le_of_ble_eq_true rfl, Nat.le_of_ble_eq_true rfl⟩) ⟨gPc_blind, g_recv hK hG (gok_lo (by decide)) (gc_W) rfl, gPc_at hE hG hA⟩ rfl rfl hl.1 rfl (lv_room (Nat.le_of_ble_eq_true rfl)) dL_law_738 ⟨by show _ ≤ 601024; omega, by show _ ≤ 7293034; omega⟩) hG hA (fun r_219 g_218 H locs hw hG => ?_)
          try dsimp only at hw
          refine lv_aload_n hx hb dL_law_741 rfl (lv_at hl 2 rfl) ?_
          refine g_calli (va_runV (As := []) (rest := [.int r_219]) ⟨hx, hb, hml, hown, hts⟩ (m_X3_underWay hl9 D K sa ad _ _  g_218 hw) (cwV 0 hts (gGood (fun w h => gW_in h) (gV q_542 q_543 q_544 q_23 q_545)) rfl rfl rfl (by decide +kernel) ⟨Nat.le_of_ble_eq_true rfl, Nat.le_of_ble_eq_true rfl⟩) ⟨gPc_blind, g_recv hK hG (gok_lo (by decide)) (gc_M) rfl, gPc_at hE hG hA⟩ rfl rfl hl.1 rfl (lv_room (Nat.le_of_ble_eq_true rfl)) dL_law_742 ⟨by show _ ≤ 601024; omega, by show _ ≤ 7293034; omega⟩) hG hA (fun r_221 g_220 H locs hw hG => ?_)
          try dsimp only at hw
          refine lv_icmp_eq (tgt := 862) hx hb dL_law_745 (by decide) (fun c_222 => ?_) (fun c_222 => ?_)
          · have hw := hw.1 c_222
            obtain ⟨x_223, ex_223⟩ : ∃ y : Int32, y = x4 + 5 := ⟨_, rfl⟩
            have hw := hw x_223 ex_223
            refine lv_iinc (v := x_223) (lv' := [(4, .int x_223), (0, .ref b), (1, .ref (ad 0)), (2, .ref (ad 4)), (3, .ref (ad 18))]) hx hb dL_law_862 hl (k := 4) rfl (by rw [ex_223]; rfl) (by decide) rfl (fun ls hl => ?_)
            refine lv_goto (tgt := 23) hx hb dL_law_865 (by decide) ?_
            refine W.widen (k := kc + 2) (n := ks + 12) (by omega) (by omega) ?_
            exact ih (kc + 2) (ks + 12) (by omega) (by omega) x_223 g_220 hw _ _ _ hG (lv_sub hl [1, 2, 3, 4, 0] rfl)
          · have hw := hw.2 c_222
            refine lv_iconst (v := 0) hx hb dL_law_748 (by decide) ?_
            exact hw.elim
        · refine lv_tableIn hx hb dL_law_39 (by omega) (by omega) (by rw [h_3]; rfl) (tgt := 750) (by decide) ?_
          have hw := hw.2.2.2.2.2.2.2.2.2.2.1 h_3
          refine lv_aload_n hx hb dL_law_750 rfl (lv_at hl 1 rfl) ?_
          refine lv_aload_n hx hb dL_law_751 rfl (lv_at hl 0 rfl) ?_
          refine lv_iload hx hb dL_law_752 (lv_at hl 4 rfl) ?_
          refine lv_iconst (v := 1) hx hb dL_law_754 (by decide) ?_
          refine lv_iadd hx hb dL_law_755 ?_
          refine lv_topi (fun i_224 ei_224 => ?_)
          have hw := hw i_224 ei_224
          obtain ⟨hi_225, hw⟩ := hw
          refine va_sld hx hb hX hbl hbA hG.2.2 hi_225 dL_law_756 ?_
          refine lv_aload_n hx hb dL_law_757 rfl (lv_at hl 3 rfl) ?_
          refine g_calli (vx_runSW (hh := [(0, 9, 12, 13)]) (As := [.ref (ad 0), .int (xs i_224.toNatClampNeg), .ref (ad 18)]) (rest := []) ⟨hx, hb, hml, hown, hts⟩ (m_L_fated hl9 D K sa ad _ _ (xs i_224.toNatClampNeg) g hw) (vx_cwSW 3 hts (gGood (fun w h => gW_in h) (gSw q_392 q_393 q_19 q_394)) rfl rfl rfl (by decide +kernel) ⟨Nat.le_of_ble_eq_true rfl, Nat.le_of_ble_eq_true rfl⟩) ⟨gPc_blind, gPc_at hE hG hA⟩ rfl rfl hl.1 rfl (lv_room (Nat.le_of_ble_eq_true rfl)) dL_law_758 ⟨by show _ ≤ 601024; omega, by show _ ≤ 7293034; omega⟩) hG hA (fun r_227 g_226 H locs hw hG => ?_)
          try dsimp only at hw
          refine lv_istore (lv' := [(5, .int r_227), (0, .ref b), (1, .ref (ad 0)), (2, .ref (ad 4)), (3, .ref (ad 18)), (4, .int x4)]) hx hb dL_law_761 hl (by decide) rfl (fun ls hl => ?_)
          refine lv_aload_n hx hb dL_law_763 rfl (lv_at hl 3 rfl) ?_
          refine lv_aload_n hx hb dL_law_764 rfl (lv_at hl 1 rfl) ?_
          refine lv_iload hx hb dL_law_765 (lv_at hl 5 rfl) ?_
          refine lv_iconst (v := 1) hx hb dL_law_767 (by decide) ?_
          refine lv_iadd hx hb dL_law_768 ?_
          refine lv_topi (fun i_228 ei_228 => ?_)
          have hw := hw i_228 ei_228
          obtain ⟨hi_229, hw⟩ := hw
          refine va_sld hx hb hX hbl hbA hG.2.2 hi_229 dL_law_769 ?_
          refine g_calli (va_runV (As := [.int (xs i_228.toNatClampNeg)]) (rest := []) ⟨hx, hb, hml, hown, hts⟩ (m_X3_fated hl9 D K sa ad _ _ (xs i_228.toNatClampNeg) g_226 hw) (cwV 1 hts (gGood (fun w h => gW_in h) (gV q_546 q_547 q_548 q_23 q_549)) rfl rfl rfl (by decide +kernel) ⟨Nat.le_of_ble_eq_true rfl, Nat.le_of_ble_eq_true rfl⟩) ⟨gPc_blind, g_recv hK hG (gok_lo (by decide)) (gc_M) rfl, gPc_at hE hG hA⟩ rfl rfl hl.1 rfl (lv_room (Nat.le_of_ble_eq_true rfl)) dL_law_770 ⟨by show _ ≤ 601024; omega, by show _ ≤ 7293034; omega⟩) hG hA (fun r_231 g_230 H locs hw hG => ?_)
          try dsimp only at hw
          refine lv_istore (lv' := [(6, .int r_231), (5, .int r_227), (0, .ref b), (1, .ref (ad 0)), (2, .ref (ad 4)), (3, .ref (ad 18)), (4, .int x4)]) hx hb dL_law_773 hl (by decide) rfl (fun ls hl => ?_)
          refine lv_aload_n hx hb dL_law_775 rfl (lv_at hl 4 rfl) ?_
          refine g_calli (va_runV (As := []) (rest := []) ⟨hx, hb, hml, hown, hts⟩ (m_X3_thrown hl9 D K sa ad _ _  g_230 hw) (cwV 0 hts (gGood (fun w h => gW_in h) (gV q_474 q_475 q_476 q_23 q_477)) rfl rfl rfl (by decide +kernel) ⟨Nat.le_of_ble_eq_true rfl, Nat.le_of_ble_eq_true rfl⟩) ⟨gPc_blind, g_recv hK hG (gok_lo (by decide)) (gc_M) rfl, gPc_at hE hG hA⟩ rfl rfl hl.1 rfl (lv_room (Nat.le_of_ble_eq_true rfl)) dL_law_776 ⟨by show _ ≤ 601024; omega, by show _ ≤ 7293034; omega⟩) hG hA (fun r_233 g_232 H locs hw hG => ?_)
          try dsimp only at hw
          refine lv_iload hx hb dL_law_779 (lv_at hl 1 rfl) ?_
          refine lv_icmp_eq (tgt := 786) hx hb dL_law_781 (by decide) (fun c_234 => ?_) (fun c_234 => ?_)
          · have hw := hw.1 c_234
            refine lv_iload hx hb dL_law_786 (lv_at hl 1 rfl) ?_
            refine lv_if_ne (tgt := 803) hx hb dL_law_788 (by decide) (fun c_235 => ?_) (fun c_235 => ?_)
            · have hw := hw.1 c_235
              refine lv_goto (tgt := 862) hx hb dL_law_803 (by decide) ?_
              obtain ⟨x_236, ex_236⟩ : ∃ y : Int32, y = x4 + 5 := ⟨_, rfl⟩
              have hw := hw x_236 ex_236
              refine lv_iinc (v := x_236) (lv' := [(4, .int x_236), (6, .int r_231), (5, .int r_227), (0, .ref b), (1, .ref (ad 0)), (2, .ref (ad 4)), (3, .ref (ad 18))]) hx hb dL_law_862 hl (k := 6) rfl (by rw [ex_236]; rfl) (by decide) rfl (fun ls hl => ?_)
              refine lv_goto (tgt := 23) hx hb dL_law_865 (by decide) ?_
              refine W.widen (k := kc + 2) (n := ks + 12) (by omega) (by omega) ?_
              exact ih (kc + 2) (ks + 12) (by omega) (by omega) x_236 g_232 hw _ _ _ hG (lv_sub hl [3, 4, 5, 6, 0] rfl)
            · have hw := hw.2 c_235
              refine lv_aload_n hx hb dL_law_791 rfl (lv_at hl 5 rfl) ?_
              refine lv_iconst (v := 0) hx hb dL_law_792 (by decide) ?_
              obtain ⟨hi_237, hw⟩ := hw
              refine g_lald hx hb hK hG (k := 18) (gok_lo (by decide)) (gc_18) hi_237 dL_law_793 ?_
              refine lv_iload hx hb dL_law_794 (lv_at hl 0 rfl) ?_
              refine lv_i2l hx hb dL_law_796 rfl ?_
              refine W.lcmp hx hb dL_law_797 ?_
              refine lv_if_eq (tgt := 803) hx hb dL_law_798 (by decide) (fun c_238 => ?_) (fun c_238 => ?_)
              · have hw := hw.1 c_238
                refine lv_goto (tgt := 862) hx hb dL_law_803 (by decide) ?_
                obtain ⟨x_239, ex_239⟩ : ∃ y : Int32, y = x4 + 5 := ⟨_, rfl⟩
                have hw := hw x_239 ex_239
                refine lv_iinc (v := x_239) (lv' := [(4, .int x_239), (6, .int r_231), (5, .int r_227), (0, .ref b), (1, .ref (ad 0)), (2, .ref (ad 4)), (3, .ref (ad 18))]) hx hb dL_law_862 hl (k := 6) rfl (by rw [ex_239]; rfl) (by decide) rfl (fun ls hl => ?_)
                refine lv_goto (tgt := 23) hx hb dL_law_865 (by decide) ?_
                refine W.widen (k := kc + 2) (n := ks + 12) (by omega) (by omega) ?_
                exact ih (kc + 2) (ks + 12) (by omega) (by omega) x_239 g_232 hw _ _ _ hG (lv_sub hl [3, 4, 5, 6, 0] rfl)
              · have hw := hw.2 c_238
                refine lv_iconst (v := 0) hx hb dL_law_801 (by decide) ?_
                exact hw.elim
          · have hw := hw.2 c_234
            refine lv_iconst (v := 0) hx hb dL_law_784 (by decide) ?_
            exact hw.elim
        · refine lv_tableIn hx hb dL_law_39 (by omega) (by omega) (by rw [h_3]; rfl) (tgt := 806) (by decide) ?_
          have hw := hw.2.2.2.2.2.2.2.2.2.2.2 h_3
          refine lv_aload_n hx hb dL_law_806 rfl (lv_at hl 1 rfl) ?_
          refine lv_aload_n hx hb dL_law_807 rfl (lv_at hl 0 rfl) ?_
          refine lv_iload hx hb dL_law_808 (lv_at hl 4 rfl) ?_
          refine lv_iconst (v := 1) hx hb dL_law_810 (by decide) ?_
          refine lv_iadd hx hb dL_law_811 ?_
          refine lv_topi (fun i_240 ei_240 => ?_)
          have hw := hw i_240 ei_240
          obtain ⟨hi_241, hw⟩ := hw
          refine va_sld hx hb hX hbl hbA hG.2.2 hi_241 dL_law_812 ?_
          refine lv_aload_n hx hb dL_law_813 rfl (lv_at hl 3 rfl) ?_
          refine g_calli (vx_runSW (hh := [(0, 9, 12, 13)]) (As := [.ref (ad 0), .int (xs i_240.toNatClampNeg), .ref (ad 18)]) (rest := []) ⟨hx, hb, hml, hown, hts⟩ (m_L_puts hl9 D K sa ad _ _ (xs i_240.toNatClampNeg) g hw) (vx_cwSW 3 hts (gGood (fun w h => gW_in h) (gSw q_399 q_400 q_19 q_401)) rfl rfl rfl (by decide +kernel) ⟨Nat.le_of_ble_eq_true rfl, Nat.le_of_ble_eq_true rfl⟩) ⟨gPc_blind, gPc_at hE hG hA⟩ rfl rfl hl.1 rfl (lv_room (Nat.le_of_ble_eq_true rfl)) dL_law_814 ⟨by show _ ≤ 601024; omega, by show _ ≤ 7293034; omega⟩) hG hA (fun r_243 g_242 H locs hw hG => ?_)
          try dsimp only at hw
          refine lv_istore (lv' := [(5, .int r_243), (0, .ref b), (1, .ref (ad 0)), (2, .ref (ad 4)), (3, .ref (ad 18)), (4, .int x4)]) hx hb dL_law_817 hl (by decide) rfl (fun ls hl => ?_)
          refine lv_aload_n hx hb dL_law_819 rfl (lv_at hl 3 rfl) ?_
          refine lv_aload_n hx hb dL_law_820 rfl (lv_at hl 1 rfl) ?_
          refine lv_iload hx hb dL_law_821 (lv_at hl 5 rfl) ?_
          refine lv_iconst (v := 1) hx hb dL_law_823 (by decide) ?_
          refine lv_iadd hx hb dL_law_824 ?_
          refine lv_topi (fun i_244 ei_244 => ?_)
          have hw := hw i_244 ei_244
          obtain ⟨hi_245, hw⟩ := hw
          refine va_sld hx hb hX hbl hbA hG.2.2 hi_245 dL_law_825 ?_
          refine g_calli (va_runV (As := [.int (xs i_244.toNatClampNeg)]) (rest := []) ⟨hx, hb, hml, hown, hts⟩ (m_X3_puts hl9 D K sa ad _ _ (xs i_244.toNatClampNeg) g_242 hw) (cwV 1 hts (gGood (fun w h => gW_in h) (gV q_550 q_551 q_552 q_23 q_553)) rfl rfl rfl (by decide +kernel) ⟨Nat.le_of_ble_eq_true rfl, Nat.le_of_ble_eq_true rfl⟩) ⟨gPc_blind, g_recv hK hG (gok_lo (by decide)) (gc_M) rfl, gPc_at hE hG hA⟩ rfl rfl hl.1 rfl (lv_room (Nat.le_of_ble_eq_true rfl)) dL_law_826 ⟨by show _ ≤ 601024; omega, by show _ ≤ 7293034; omega⟩) hG hA (fun r_247 g_246 H locs hw hG => ?_)
          try dsimp only at hw
          refine lv_istore (lv' := [(6, .int r_247), (5, .int r_243), (0, .ref b), (1, .ref (ad 0)), (2, .ref (ad 4)), (3, .ref (ad 18)), (4, .int x4)]) hx hb dL_law_829 hl (by decide) rfl (fun ls hl => ?_)
          refine lv_aload_n hx hb dL_law_831 rfl (lv_at hl 4 rfl) ?_
          refine g_calli (va_runV (As := []) (rest := []) ⟨hx, hb, hml, hown, hts⟩ (m_X3_thrown hl9 D K sa ad _ _  g_246 hw) (cwV 0 hts (gGood (fun w h => gW_in h) (gV q_474 q_475 q_476 q_23 q_477)) rfl rfl rfl (by decide +kernel) ⟨Nat.le_of_ble_eq_true rfl, Nat.le_of_ble_eq_true rfl⟩) ⟨gPc_blind, g_recv hK hG (gok_lo (by decide)) (gc_M) rfl, gPc_at hE hG hA⟩ rfl rfl hl.1 rfl (lv_room (Nat.le_of_ble_eq_true rfl)) dL_law_832 ⟨by show _ ≤ 601024; omega, by show _ ≤ 7293034; omega⟩) hG hA (fun r_249 g_248 H locs hw hG => ?_)
          try dsimp only at hw
          refine lv_iload hx hb dL_law_835 (lv_at hl 1 rfl) ?_
          refine lv_icmp_eq (tgt := 842) hx hb dL_law_837 (by decide) (fun c_250 => ?_) (fun c_250 => ?_)
          · have hw := hw.1 c_250
            refine lv_iload hx hb dL_law_842 (lv_at hl 1 rfl) ?_
            refine lv_if_ne (tgt := 859) hx hb dL_law_844 (by decide) (fun c_251 => ?_) (fun c_251 => ?_)
            · have hw := hw.1 c_251
              refine lv_goto (tgt := 862) hx hb dL_law_859 (by decide) ?_
              obtain ⟨x_252, ex_252⟩ : ∃ y : Int32, y = x4 + 5 := ⟨_, rfl⟩
              have hw := hw x_252 ex_252
              refine lv_iinc (v := x_252) (lv' := [(4, .int x_252), (6, .int r_247), (5, .int r_243), (0, .ref b), (1, .ref (ad 0)), (2, .ref (ad 4)), (3, .ref (ad 18))]) hx hb dL_law_862 hl (k := 6) rfl (by rw [ex_252]; rfl) (by decide) rfl (fun ls hl => ?_)
              refine lv_goto (tgt := 23) hx hb dL_law_865 (by decide) ?_
              refine W.widen (k := kc + 2) (n := ks + 12) (by omega) (by omega) ?_
              exact ih (kc + 2) (ks + 12) (by omega) (by omega) x_252 g_248 hw _ _ _ hG (lv_sub hl [3, 4, 5, 6, 0] rfl)
            · have hw := hw.2 c_251
              refine lv_aload_n hx hb dL_law_847 rfl (lv_at hl 5 rfl) ?_
              refine lv_iconst (v := 0) hx hb dL_law_848 (by decide) ?_
              obtain ⟨hi_253, hw⟩ := hw
              refine g_lald hx hb hK hG (k := 18) (gok_lo (by decide)) (gc_18) hi_253 dL_law_849 ?_
              refine lv_iload hx hb dL_law_850 (lv_at hl 0 rfl) ?_
              refine lv_i2l hx hb dL_law_852 rfl ?_
              refine W.lcmp hx hb dL_law_853 ?_
              refine lv_if_eq (tgt := 859) hx hb dL_law_854 (by decide) (fun c_254 => ?_) (fun c_254 => ?_)
              · have hw := hw.1 c_254
                refine lv_goto (tgt := 862) hx hb dL_law_859 (by decide) ?_
                obtain ⟨x_255, ex_255⟩ : ∃ y : Int32, y = x4 + 5 := ⟨_, rfl⟩
                have hw := hw x_255 ex_255
                refine lv_iinc (v := x_255) (lv' := [(4, .int x_255), (6, .int r_247), (5, .int r_243), (0, .ref b), (1, .ref (ad 0)), (2, .ref (ad 4)), (3, .ref (ad 18))]) hx hb dL_law_862 hl (k := 6) rfl (by rw [ex_255]; rfl) (by decide) rfl (fun ls hl => ?_)
                refine lv_goto (tgt := 23) hx hb dL_law_865 (by decide) ?_
                refine W.widen (k := kc + 2) (n := ks + 12) (by omega) (by omega) ?_
                exact ih (kc + 2) (ks + 12) (by omega) (by omega) x_255 g_248 hw _ _ _ hG (lv_sub hl [3, 4, 5, 6, 0] rfl)
              · have hw := hw.2 c_254
                refine lv_iconst (v := 0) hx hb dL_law_857 (by decide) ?_
                exact hw.elim
          · have hw := hw.2 c_250
            refine lv_iconst (v := 0) hx hb dL_law_840 (by decide) ?_
            exact hw.elim

/-! ===== the law: its end (the skeleton's, a starting text), rows that read the script, its cases, its loop ===== -/
def R_law : String := "BlockRanksLaw"
def lw_P (b : Addr) (xs : List Int32) (args : Array Value) (s : State) : Prop := args = #[.ref b] ∧ s.IntsAt b xs ∧ xs.length ≤ 2560 ∧ (Jvm.Cond.and given_1 narrow_1).before args s = true
def lw_Q (_ : Array Value) (s : State) (o : Outcome) (t : State) : Prop := o = .returned (some (.int 1)) ∧ Framed s o t [] 600000 7302250
def lw_Z (below : List Frame) (a : Array Value) (s : State) : State → Prop := fun t => ∃ o, t.status = .running ∧ Ended t below o ∧ lw_Q a s o t
/-- the law's own end, with 1 on the stack, nothing written that was there before, its room as the claim has it -/
theorem lw_ret {p : Program} {l : Launch} {e : Env} {s : State} {m : MethodId} {below : List Frame} {meth : Method} {c : Code} {b : Nat} (hx : p.tables.exec = Jvm.exec) (hb : c.code = code) (hr : meth.sig.returnType = ret) (hlocks : meth.locks = false) {pc : Nat} {H : Heap} {ls : Array Slot} (hdg : decode code pc = .ok (.ireturn, 1)) : W p l e room_1 s m #[Value.ref b] below meth c H [] 600000 7302250 (lw_Z below #[Value.ref b] s) (F0 m pc ls [.int 1]) := by
  intro T hT X
  obtain ⟨fs, hret, hrun, hended, hW, hframe⟩ := X.leave (v := some (.int 1)) (hlocks := hlocks) (fun h => by rw [hr] at h; cases h)
  have hmeth' : T.vm.method? m = some meth := X.method'
  refine ⟨T.setFrames fs, ?_, .returned (some (.int 1)), hrun, hended, rfl, ⟨_, rfl⟩, hW, hframe⟩
  jvm_step X.here [X.here.top, hx, hb, hdg, hmeth', hr, ret, narrow_b1]
  (try refine ⟨rfl, ?_⟩); (try refine ⟨rfl, ?_⟩)
  first | (intro acts; rw [hret _ acts rfl rfl rfl]) | rw [hret _ _ rfl rfl rfl]
  exact Steps.refl _
/-- what holds at the law's entry: the machine, the code, the tables' words (any of lw_tbl by 'hts w (by decide +kernel)'), the script of L ints xs at the cell b, what the Statement gives of the start (any of its parts by flat_of_before) -/
def lw_At (p : Program) (s : State) (m : MethodId) (meth : Method) (c : Code) (b L : Nat) (xs : Nat → Int32) : Prop :=
  p.tables.exec = Jvm.exec ∧ c.code = code ∧ meth.sig.returnType = ret ∧ c.maxLocals = 4 ∧ s.vm.findClass R_law = some m.cls ∧ (∀ w ∈ lw_tbl, w.before #[Value.ref b] s = true) ∧ va_X b L xs s s.heap ∧ b < s.heap.size ∧ meth.locks = false ∧ (Jvm.Cond.and given_1 narrow_1).before #[Value.ref b] s = true
def LawP (b Ls : Nat) (xs : Nat → Int32) (args : Array Value) (s : State) : Prop := args = #[Value.ref b] ∧ va_X b Ls xs s s.heap ∧ b < s.heap.size
/-- the end of the law, for a start with this script -/
def QEL (b Ls : Nat) (xs : Nat → Int32) : List Frame → Array Value → State → State → Prop := fun below args s t => LawP b Ls xs args s → lw_Z below args s t
theorem RS.own {D : gD} {w : Wd} {m n tn : Nat} {S SN : MS} {hs : Int} {H : Nat → MS} {ch : Nat → Int} (h : RS D w m S SN hs n H tn ch) : ∃ fs : List Value, w m = some (.inr (7, fs)) := by
  obtain ⟨_, _, _, _, _, _, _, _, _, _, ⟨q, -⟩, -⟩ := h
  exact ⟨_, q⟩
section JLaw
variable {l : Launch} {D : gD} {y : MethodName} {cc : ByteArray} {nL : Nat} {rt : Option FieldType} {R : Room} {sz b Ls : Nat} {xs : Nat → Int32} {k n pc : Nat} {L L' : List (Option Value)} {st : List Value} {σ σ0 : Wd}
theorem j_triv {p : Program} {e : Env} {s : State} {m : MethodId} {args : Array Value} {below : List Frame} {meth : Method} {c : Code} {H : Heap} {locs : List Loc} {g : JFrame} (h : ¬ LawP b Ls xs args s) : W p l e R s m args below meth c H locs k n (QEL b Ls xs below args s) g := fun T hT X => ⟨_, Steps.refl _, fun q => absurd q h⟩
theorem j_sld {z : Int} (hdg : decode cc pc = .ok (.iaload, 1)) (h0 : 0 ≤ z) (h1 : z < Ls) (hz : R32 z) (kk : J l D y cc nL rt R sz (fun q => sz ≤ q) (QEL b Ls xs) k n (pc + 1) L (vi (xs z.toNat).toInt :: st) σ) : J l D y cc nL rt R sz (fun q => sz ≤ q) (QEL b Ls xs) k n pc L (vi z :: .ref b :: st) σ := by
  intro p e s m args below meth c Cx H locs ls hl hW hd hq hS
  by_cases hp : LawP b Ls xs args s
  · have hsz := Cx.2.2.2.2.2.2.2.2.2
    refine va_sld Cx.1 Cx.2.1 hp.2.1 hp.2.2 (fun q => ?_) hS (iI_vin h0 h1 hz) hdg ?_
    · have h2 := hp.2.2
      have h3 : sz ≤ b := q
      omega
    · have K := kk p e s m args below meth c Cx H locs ls hl hW hd hq hS
      rw [show vi (xs z.toNat).toInt = Value.int (xs z.toNat) from congrArg Value.int (iI_of _)] at K
      rw [iI_cl hz]
      exact K
  · exact j_triv hp
theorem j_slen (hdg : decode cc pc = .ok (.arraylength, 1)) (kk : J l D y cc nL rt R sz (fun q => sz ≤ q) (QEL b Ls xs) k n (pc + 1) L (vi Ls :: st) σ) : J l D y cc nL rt R sz (fun q => sz ≤ q) (QEL b Ls xs) k n pc L (.ref b :: st) σ := by
  intro p e s m args below meth c Cx H locs ls hl hW hd hq hS
  by_cases hp : LawP b Ls xs args s
  · have hsz := Cx.2.2.2.2.2.2.2.2.2
    refine va_slen Cx.1 Cx.2.1 hp.2.1 hp.2.2 (fun q => ?_) hS hdg ?_
    · have h2 := hp.2.2
      have h3 : sz ≤ b := q
      omega
    · rw [iI_nat]
      exact kk p e s m args below meth c Cx H locs ls hl hW hd hq hS
  · exact j_triv hp
theorem j_icmpS {a : Int} {off : Int} {tgt : Nat} {A : Nat → Prop} {QE : List Frame → Array Value → State → State → Prop} (hdg : decode cc pc = .ok (.if_icmp .eq off, 3)) (ht : (pc : Int) + off = (tgt : Int)) (kt : J l D y cc nL rt R sz A QE k n tgt L st σ) : J l D y cc nL rt R sz A QE k n pc L (vi a :: vi a :: st) σ :=
  fun p e s m args below meth c C H locs ls hl hW hd hq hS => lv_icmp_eq C.1 C.2.1 hdg ht (fun _ => kt p e s m args below meth c C H locs ls hl hW hd hq hS) (fun h => absurd rfl h)
theorem j_lret (hdg : decode code pc = .ok (.ireturn, 1)) (h1 : k ≤ 600000) (h2 : n ≤ 7302250) : J l D y code 4 ret room_1 sz (fun q => sz ≤ q) (QEL b Ls xs) k n pc L [vi 1] σ := by
  intro p e s m args below meth c Cx H locs ls hl hW hd hq hS
  by_cases hp : LawP b Ls xs args s
  · obtain ⟨rfl, hX, hb⟩ := id hp
    have hsz := Cx.2.2.2.2.2.2.2.2.2
    refine va_forget (fun q hq2 => by
      have h3 : sz ≤ q.base := hS.2.2 q hq2
      omega) (W.widen h1 h2 (fun T hT X => ?_))
    obtain ⟨t, a1, a2⟩ := lw_ret (l := l) (e := e) (s := s) (m := m) (below := below) (b := b) (H := H) (ls := ls) Cx.1 Cx.2.1 Cx.2.2.2.1 Cx.2.2.2.2.2.1 hdg T hT X
    exact ⟨t, a1, fun _ => a2⟩
  · exact j_triv hp
end JLaw
set_option maxRecDepth 100000 in
set_option maxHeartbeats 4000000 in
theorem lc_0 {l : Launch} {D : gD} {y : MethodName} {rt : Option FieldType} {sz b Ls o k n : Nat} {xs : Nat → Int32} {i : Int} {σ : Wd} (hy : y.cls = RL) (h : IV D σ o) (hi : 0 ≤ i) (hi5 : i + 5 ≤ Ls) (hLs : Ls ≤ 2560) (hf : k ≤ room_1.cells ∧ n ≤ room_1.slots) (kk : ∀ w : Wd, IV D w o → J l D y cL_law 4 rt room_1 sz (fun q => sz ≤ q) (QEL b Ls xs) k n 747 [some (.ref b), some (.ref o), some (.ref (o + 128)), some (vi i)] [] w) : J l D y cL_law 4 rt room_1 sz (fun q => sz ≤ q) (QEL b Ls xs) k n 132 [some (.ref b), some (.ref o), some (.ref (o + 128)), some (vi i)] [] σ := by
  obtain ⟨S, SN, hs, n1, H, tn, ch, hL⟩ := h
  have hWS := hL.2.1.ws hL.2.2.1
  have hn := hL.2.1.le4
  refine j_aload_n dL_law_132 rfl ?_
  refine j_aload_n dL_law_133 rfl ?_
  refine j_iload_n dL_law_134 rfl ?_
  refine j_iconst dL_law_135 ?_
  refine j_iadd dL_law_136 ?_
  refine j_sld dL_law_137 (by omega) (by omega) ⟨by omega, by omega⟩ ?_
  refine cl_L_13 (As := [_]) hy dL_law_138 (c_X6_setPrime hL.1 hWS (R32_toInt _)) hL.1.1 rfl ⟨by decide, (Nat.le_of_ble_eq_true rfl)⟩ (Nat.le_of_ble_eq_true rfl) hf (fun z1 w1 hz1 => ?_)
  obtain ⟨e1, g1, hC⟩ := hz1
  refine j_aload_n dL_law_141 rfl ?_
  refine j_aload_n dL_law_142 rfl ?_
  refine j_iload_n dL_law_143 rfl ?_
  refine j_iconst dL_law_144 ?_
  refine j_iadd dL_law_145 ?_
  refine j_sld dL_law_146 (by omega) (by omega) ⟨by omega, by omega⟩ ?_
  have hR := hL.mid g1
  obtain ⟨fs2, hb2⟩ := hR.own
  refine cl_L_17 (As := [_]) hy dL_law_147 (c_X7_setPrime hR hWS (R32_toInt _)) hb2 rfl ⟨by decide, (Nat.le_of_ble_eq_true rfl)⟩ (Nat.le_of_ble_eq_true rfl) hf (fun z2 w2 hz2 => ?_)
  obtain ⟨e2, g2, hR2⟩ := hz2
  have e3 : z2 = z1 := e2.trans e1.symm
  subst e3
  refine j_icmpS (tgt := 747) dL_law_150 (by decide) ?_
  exact kk _ (LW.fin hC g2 hR2 (LG_act hL.2.2 hn (fun q => WP.prime q.1)))
set_option maxRecDepth 100000 in
set_option maxHeartbeats 4000000 in
theorem lc_1 {l : Launch} {D : gD} {y : MethodName} {rt : Option FieldType} {sz b Ls o k n : Nat} {xs : Nat → Int32} {i : Int} {σ : Wd} (hy : y.cls = RL) (h : IV D σ o) (hi : 0 ≤ i) (hi5 : i + 5 ≤ Ls) (hLs : Ls ≤ 2560) (hf : k ≤ room_1.cells ∧ n ≤ room_1.slots) (kk : ∀ w : Wd, IV D w o → J l D y cL_law 4 rt room_1 sz (fun q => sz ≤ q) (QEL b Ls xs) k n 747 [some (.ref b), some (.ref o), some (.ref (o + 128)), some (vi i)] [] w) : J l D y cL_law 4 rt room_1 sz (fun q => sz ≤ q) (QEL b Ls xs) k n 155 [some (.ref b), some (.ref o), some (.ref (o + 128)), some (vi i)] [] σ := by
  obtain ⟨S, SN, hs, n1, H, tn, ch, hL⟩ := h
  have hWS := hL.2.1.ws hL.2.2.1
  have hn := hL.2.1.le4
  refine j_aload_n dL_law_155 rfl ?_
  refine j_aload_n dL_law_156 rfl ?_
  refine j_iload_n dL_law_157 rfl ?_
  refine j_iconst dL_law_158 ?_
  refine j_iadd dL_law_159 ?_
  refine j_sld dL_law_160 (by omega) (by omega) ⟨by omega, by omega⟩ ?_
  refine j_aload_n dL_law_161 rfl ?_
  refine j_iload_n dL_law_162 rfl ?_
  refine j_iconst dL_law_163 ?_
  refine j_iadd dL_law_164 ?_
  refine j_sld dL_law_165 (by omega) (by omega) ⟨by omega, by omega⟩ ?_
  refine j_aload_n dL_law_166 rfl ?_
  refine j_iload_n dL_law_167 rfl ?_
  refine j_iconst dL_law_168 ?_
  refine j_iadd dL_law_169 ?_
  refine j_sld dL_law_170 (by omega) (by omega) ⟨by omega, by omega⟩ ?_
  refine j_aload_n dL_law_171 rfl ?_
  refine j_iload_n dL_law_172 rfl ?_
  refine j_iconst dL_law_173 ?_
  refine j_iadd dL_law_174 ?_
  refine j_sld dL_law_175 (by omega) (by omega) ⟨by omega, by omega⟩ ?_
  refine cl_L_18 (As := [_, _, _, _]) hy dL_law_176 (c_X6_set hL.1 hWS (R32_toInt _) (R32_toInt _) (R32_toInt _) (R32_toInt _)) hL.1.1 rfl ⟨by decide, (Nat.le_of_ble_eq_true rfl)⟩ (Nat.le_of_ble_eq_true rfl) hf (fun z1 w1 hz1 => ?_)
  obtain ⟨e1, g1, hC⟩ := hz1
  refine j_aload_n dL_law_179 rfl ?_
  refine j_aload_n dL_law_180 rfl ?_
  refine j_iload_n dL_law_181 rfl ?_
  refine j_iconst dL_law_182 ?_
  refine j_iadd dL_law_183 ?_
  refine j_sld dL_law_184 (by omega) (by omega) ⟨by omega, by omega⟩ ?_
  refine j_aload_n dL_law_185 rfl ?_
  refine j_iload_n dL_law_186 rfl ?_
  refine j_iconst dL_law_187 ?_
  refine j_iadd dL_law_188 ?_
  refine j_sld dL_law_189 (by omega) (by omega) ⟨by omega, by omega⟩ ?_
  refine j_aload_n dL_law_190 rfl ?_
  refine j_iload_n dL_law_191 rfl ?_
  refine j_iconst dL_law_192 ?_
  refine j_iadd dL_law_193 ?_
  refine j_sld dL_law_194 (by omega) (by omega) ⟨by omega, by omega⟩ ?_
  refine j_aload_n dL_law_195 rfl ?_
  refine j_iload_n dL_law_196 rfl ?_
  refine j_iconst dL_law_197 ?_
  refine j_iadd dL_law_198 ?_
  refine j_sld dL_law_199 (by omega) (by omega) ⟨by omega, by omega⟩ ?_
  have hR := hL.mid g1
  obtain ⟨fs2, hb2⟩ := hR.own
  refine cl_L_22 (As := [_, _, _, _]) hy dL_law_200 (c_X7_set hR hWS (R32_toInt _) (R32_toInt _) (R32_toInt _) (R32_toInt _)) hb2 rfl ⟨by decide, (Nat.le_of_ble_eq_true rfl)⟩ (Nat.le_of_ble_eq_true rfl) hf (fun z2 w2 hz2 => ?_)
  obtain ⟨e2, g2, hR2⟩ := hz2
  have e3 : z2 = z1 := e2.trans e1.symm
  subst e3
  refine j_icmpS (tgt := 747) dL_law_203 (by decide) ?_
  exact kk _ (LW.fin hC g2 hR2 (LG_act hL.2.2 hn (fun q => hL.2.2.1.set q.2.1)))
set_option maxRecDepth 100000 in
set_option maxHeartbeats 4000000 in
theorem lc_2 {l : Launch} {D : gD} {y : MethodName} {rt : Option FieldType} {sz b Ls o k n : Nat} {xs : Nat → Int32} {i : Int} {σ : Wd} (hy : y.cls = RL) (h : IV D σ o) (hi : 0 ≤ i) (hi5 : i + 5 ≤ Ls) (hLs : Ls ≤ 2560) (hf : k ≤ room_1.cells ∧ n ≤ room_1.slots) (kk : ∀ w : Wd, IV D w o → J l D y cL_law 4 rt room_1 sz (fun q => sz ≤ q) (QEL b Ls xs) k n 747 [some (.ref b), some (.ref o), some (.ref (o + 128)), some (vi i)] [] w) : J l D y cL_law 4 rt room_1 sz (fun q => sz ≤ q) (QEL b Ls xs) k n 208 [some (.ref b), some (.ref o), some (.ref (o + 128)), some (vi i)] [] σ := by
  obtain ⟨S, SN, hs, n1, H, tn, ch, hL⟩ := h
  have hWS := hL.2.1.ws hL.2.2.1
  have hn := hL.2.1.le4
  refine j_aload_n dL_law_208 rfl ?_
  refine j_aload_n dL_law_209 rfl ?_
  refine j_iload_n dL_law_210 rfl ?_
  refine j_iconst dL_law_211 ?_
  refine j_iadd dL_law_212 ?_
  refine j_sld dL_law_213 (by omega) (by omega) ⟨by omega, by omega⟩ ?_
  refine j_aload_n dL_law_214 rfl ?_
  refine j_iload_n dL_law_215 rfl ?_
  refine j_iconst dL_law_216 ?_
  refine j_iadd dL_law_217 ?_
  refine j_sld dL_law_218 (by omega) (by omega) ⟨by omega, by omega⟩ ?_
  refine cl_L_23 (As := [_, _]) hy dL_law_219 (c_X6_addProduct hL.1 hWS (R32_toInt _) (R32_toInt _)) hL.1.1 rfl ⟨by decide, (Nat.le_of_ble_eq_true rfl)⟩ (Nat.le_of_ble_eq_true rfl) hf (fun z1 w1 hz1 => ?_)
  obtain ⟨e1, g1, hC⟩ := hz1
  refine j_aload_n dL_law_222 rfl ?_
  refine j_aload_n dL_law_223 rfl ?_
  refine j_iload_n dL_law_224 rfl ?_
  refine j_iconst dL_law_225 ?_
  refine j_iadd dL_law_226 ?_
  refine j_sld dL_law_227 (by omega) (by omega) ⟨by omega, by omega⟩ ?_
  refine j_aload_n dL_law_228 rfl ?_
  refine j_iload_n dL_law_229 rfl ?_
  refine j_iconst dL_law_230 ?_
  refine j_iadd dL_law_231 ?_
  refine j_sld dL_law_232 (by omega) (by omega) ⟨by omega, by omega⟩ ?_
  have hR := hL.mid g1
  obtain ⟨fs2, hb2⟩ := hR.own
  refine cl_L_27 (As := [_, _]) hy dL_law_233 (c_X7_addProduct hR hWS (R32_toInt _) (R32_toInt _)) hb2 rfl ⟨by decide, (Nat.le_of_ble_eq_true rfl)⟩ (Nat.le_of_ble_eq_true rfl) hf (fun z2 w2 hz2 => ?_)
  obtain ⟨e2, g2, hR2⟩ := hz2
  have e3 : z2 = z1 := e2.trans e1.symm
  subst e3
  refine j_icmpS (tgt := 747) dL_law_236 (by decide) ?_
  exact kk _ (LW.fin hC g2 hR2 (LG_next hL.2.2 hn (fun S1 q => hL.2.2.1.ap q)))
set_option maxRecDepth 100000 in
set_option maxHeartbeats 4000000 in
theorem lc_3 {l : Launch} {D : gD} {y : MethodName} {rt : Option FieldType} {sz b Ls o k n : Nat} {xs : Nat → Int32} {i : Int} {σ : Wd} (hy : y.cls = RL) (h : IV D σ o) (hi : 0 ≤ i) (hi5 : i + 5 ≤ Ls) (hLs : Ls ≤ 2560) (hf : k ≤ room_1.cells ∧ n ≤ room_1.slots) (kk : ∀ w : Wd, IV D w o → J l D y cL_law 4 rt room_1 sz (fun q => sz ≤ q) (QEL b Ls xs) k n 747 [some (.ref b), some (.ref o), some (.ref (o + 128)), some (vi i)] [] w) : J l D y cL_law 4 rt room_1 sz (fun q => sz ≤ q) (QEL b Ls xs) k n 241 [some (.ref b), some (.ref o), some (.ref (o + 128)), some (vi i)] [] σ := by
  obtain ⟨S, SN, hs, n1, H, tn, ch, hL⟩ := h
  have hWS := hL.2.1.ws hL.2.2.1
  have hn := hL.2.1.le4
  refine j_aload_n dL_law_241 rfl ?_
  refine cl_L_28 (As := []) hy dL_law_242 (c_X6_work hL.1 hWS) hL.1.1 rfl ⟨by decide, (Nat.le_of_ble_eq_true rfl)⟩ (Nat.le_of_ble_eq_true rfl) hf (fun z1 w1 hz1 => ?_)
  obtain ⟨e1, g1, hC⟩ := hz1
  refine j_aload_n dL_law_245 rfl ?_
  have hR := hL.mid g1
  obtain ⟨fs2, hb2⟩ := hR.own
  refine cl_L_32 (As := []) hy dL_law_246 (c_X7_work hR hWS) hb2 rfl ⟨by decide, (Nat.le_of_ble_eq_true rfl)⟩ (Nat.le_of_ble_eq_true rfl) hf (fun z2 w2 hz2 => ?_)
  obtain ⟨e2, g2, hR2⟩ := hz2
  have e3 : z2 = z1 := e2.trans e1.symm
  subst e3
  refine j_icmpS (tgt := 747) dL_law_249 (by decide) ?_
  exact kk _ (LW.fin hC g2 hR2 (LG_next hL.2.2 hn (fun S1 q => hL.2.2.1.wk q)))
set_option maxRecDepth 100000 in
set_option maxHeartbeats 4000000 in
theorem lc_4 {l : Launch} {D : gD} {y : MethodName} {rt : Option FieldType} {sz b Ls o k n : Nat} {xs : Nat → Int32} {i : Int} {σ : Wd} (hy : y.cls = RL) (h : IV D σ o) (hi : 0 ≤ i) (hi5 : i + 5 ≤ Ls) (hLs : Ls ≤ 2560) (hf : k ≤ room_1.cells ∧ n ≤ room_1.slots) (kk : ∀ w : Wd, IV D w o → J l D y cL_law 4 rt room_1 sz (fun q => sz ≤ q) (QEL b Ls xs) k n 747 [some (.ref b), some (.ref o), some (.ref (o + 128)), some (vi i)] [] w) : J l D y cL_law 4 rt room_1 sz (fun q => sz ≤ q) (QEL b Ls xs) k n 254 [some (.ref b), some (.ref o), some (.ref (o + 128)), some (vi i)] [] σ := by
  obtain ⟨S, SN, hs, n1, H, tn, ch, hL⟩ := h
  have hWS := hL.2.1.ws hL.2.2.1
  have hn := hL.2.1.le4
  refine j_aload_n dL_law_254 rfl ?_
  refine j_aload_n dL_law_255 rfl ?_
  refine j_iload_n dL_law_256 rfl ?_
  refine j_iconst dL_law_257 ?_
  refine j_iadd dL_law_258 ?_
  refine j_sld dL_law_259 (by omega) (by omega) ⟨by omega, by omega⟩ ?_
  refine j_aload_n dL_law_260 rfl ?_
  refine j_iload_n dL_law_261 rfl ?_
  refine j_iconst dL_law_262 ?_
  refine j_iadd dL_law_263 ?_
  refine j_sld dL_law_264 (by omega) (by omega) ⟨by omega, by omega⟩ ?_
  refine j_aload_n dL_law_265 rfl ?_
  refine j_iload_n dL_law_266 rfl ?_
  refine j_iconst dL_law_267 ?_
  refine j_iadd dL_law_268 ?_
  refine j_sld dL_law_269 (by omega) (by omega) ⟨by omega, by omega⟩ ?_
  refine cl_L_33 (As := [_, _, _]) hy dL_law_270 (c_X6_factor hL.1 hWS (R32_toInt _) (R32_toInt _) (R32_toInt _)) hL.1.1 rfl ⟨by decide, (Nat.le_of_ble_eq_true rfl)⟩ (Nat.le_of_ble_eq_true rfl) hf (fun z1 w1 hz1 => ?_)
  obtain ⟨e1, g1, hC⟩ := hz1
  refine j_aload_n dL_law_273 rfl ?_
  refine j_aload_n dL_law_274 rfl ?_
  refine j_iload_n dL_law_275 rfl ?_
  refine j_iconst dL_law_276 ?_
  refine j_iadd dL_law_277 ?_
  refine j_sld dL_law_278 (by omega) (by omega) ⟨by omega, by omega⟩ ?_
  refine j_aload_n dL_law_279 rfl ?_
  refine j_iload_n dL_law_280 rfl ?_
  refine j_iconst dL_law_281 ?_
  refine j_iadd dL_law_282 ?_
  refine j_sld dL_law_283 (by omega) (by omega) ⟨by omega, by omega⟩ ?_
  refine j_aload_n dL_law_284 rfl ?_
  refine j_iload_n dL_law_285 rfl ?_
  refine j_iconst dL_law_286 ?_
  refine j_iadd dL_law_287 ?_
  refine j_sld dL_law_288 (by omega) (by omega) ⟨by omega, by omega⟩ ?_
  have hR := hL.mid g1
  obtain ⟨fs2, hb2⟩ := hR.own
  refine cl_L_37 (As := [_, _, _]) hy dL_law_289 (c_X7_factor hR hWS (R32_toInt _) (R32_toInt _) (R32_toInt _)) hb2 rfl ⟨by decide, (Nat.le_of_ble_eq_true rfl)⟩ (Nat.le_of_ble_eq_true rfl) hf (fun z2 w2 hz2 => ?_)
  obtain ⟨e2, g2, hR2⟩ := hz2
  have e3 : z2 = z1 := e2.trans e1.symm
  subst e3
  refine j_icmpS (tgt := 747) dL_law_292 (by decide) ?_
  exact kk _ (LW.fin hC g2 hR2 (LG_next hL.2.2 hn (fun S1 q => hL.2.2.1.fc q)))
set_option maxRecDepth 100000 in
set_option maxHeartbeats 4000000 in
theorem lc_5 {l : Launch} {D : gD} {y : MethodName} {rt : Option FieldType} {sz b Ls o k n : Nat} {xs : Nat → Int32} {i : Int} {σ : Wd} (hy : y.cls = RL) (h : IV D σ o) (hi : 0 ≤ i) (hi5 : i + 5 ≤ Ls) (hLs : Ls ≤ 2560) (hf : k ≤ room_1.cells ∧ n ≤ room_1.slots) (kk : ∀ w : Wd, IV D w o → J l D y cL_law 4 rt room_1 sz (fun q => sz ≤ q) (QEL b Ls xs) k n 747 [some (.ref b), some (.ref o), some (.ref (o + 128)), some (vi i)] [] w) : J l D y cL_law 4 rt room_1 sz (fun q => sz ≤ q) (QEL b Ls xs) k n 297 [some (.ref b), some (.ref o), some (.ref (o + 128)), some (vi i)] [] σ := by
  obtain ⟨S, SN, hs, n1, H, tn, ch, hL⟩ := h
  have hWS := hL.2.1.ws hL.2.2.1
  have hn := hL.2.1.le4
  refine j_aload_n dL_law_297 rfl ?_
  refine j_aload_n dL_law_298 rfl ?_
  refine j_iload_n dL_law_299 rfl ?_
  refine j_iconst dL_law_300 ?_
  refine j_iadd dL_law_301 ?_
  refine j_sld dL_law_302 (by omega) (by omega) ⟨by omega, by omega⟩ ?_
  refine j_aload_n dL_law_303 rfl ?_
  refine j_iload_n dL_law_304 rfl ?_
  refine j_iconst dL_law_305 ?_
  refine j_iadd dL_law_306 ?_
  refine j_sld dL_law_307 (by omega) (by omega) ⟨by omega, by omega⟩ ?_
  refine cl_L_38 (As := [_, _]) hy dL_law_308 (c_X6_split hL.1 hWS (R32_toInt _) (R32_toInt _)) hL.1.1 rfl ⟨by decide, (Nat.le_of_ble_eq_true rfl)⟩ (Nat.le_of_ble_eq_true rfl) hf (fun z1 w1 hz1 => ?_)
  obtain ⟨e1, g1, hC⟩ := hz1
  refine j_aload_n dL_law_311 rfl ?_
  refine j_aload_n dL_law_312 rfl ?_
  refine j_iload_n dL_law_313 rfl ?_
  refine j_iconst dL_law_314 ?_
  refine j_iadd dL_law_315 ?_
  refine j_sld dL_law_316 (by omega) (by omega) ⟨by omega, by omega⟩ ?_
  refine j_aload_n dL_law_317 rfl ?_
  refine j_iload_n dL_law_318 rfl ?_
  refine j_iconst dL_law_319 ?_
  refine j_iadd dL_law_320 ?_
  refine j_sld dL_law_321 (by omega) (by omega) ⟨by omega, by omega⟩ ?_
  have hR := hL.mid g1
  obtain ⟨fs2, hb2⟩ := hR.own
  refine cl_L_41 (As := [_, _]) hy dL_law_322 (c_X7_split hR hWS (R32_toInt _) (R32_toInt _)) hb2 rfl ⟨by decide, (Nat.le_of_ble_eq_true rfl)⟩ (Nat.le_of_ble_eq_true rfl) hf (fun z2 w2 hz2 => ?_)
  obtain ⟨e2, g2, hR2⟩ := hz2
  have e3 : z2 = z1 := e2.trans e1.symm
  subst e3
  refine j_icmpS (tgt := 747) dL_law_325 (by decide) ?_
  exact kk _ (LW.fin hC g2 hR2 (LG_next hL.2.2 hn (fun S1 q => hL.2.2.1.sp q)))
set_option maxRecDepth 100000 in
set_option maxHeartbeats 4000000 in
theorem lc_6 {l : Launch} {D : gD} {y : MethodName} {rt : Option FieldType} {sz b Ls o k n : Nat} {xs : Nat → Int32} {i : Int} {σ : Wd} (hy : y.cls = RL) (h : IV D σ o) (hi : 0 ≤ i) (hi5 : i + 5 ≤ Ls) (hLs : Ls ≤ 2560) (hf : k ≤ room_1.cells ∧ n ≤ room_1.slots) (kk : ∀ w : Wd, IV D w o → J l D y cL_law 4 rt room_1 sz (fun q => sz ≤ q) (QEL b Ls xs) k n 747 [some (.ref b), some (.ref o), some (.ref (o + 128)), some (vi i)] [] w) : J l D y cL_law 4 rt room_1 sz (fun q => sz ≤ q) (QEL b Ls xs) k n 330 [some (.ref b), some (.ref o), some (.ref (o + 128)), some (vi i)] [] σ := by
  obtain ⟨S, SN, hs, n1, H, tn, ch, hL⟩ := h
  have hWS := hL.2.1.ws hL.2.2.1
  have hn := hL.2.1.le4
  refine j_aload_n dL_law_330 rfl ?_
  refine j_aload_n dL_law_331 rfl ?_
  refine j_iload_n dL_law_332 rfl ?_
  refine j_iconst dL_law_333 ?_
  refine j_iadd dL_law_334 ?_
  refine j_sld dL_law_335 (by omega) (by omega) ⟨by omega, by omega⟩ ?_
  refine j_aload_n dL_law_336 rfl ?_
  refine j_iload_n dL_law_337 rfl ?_
  refine j_iconst dL_law_338 ?_
  refine j_iadd dL_law_339 ?_
  refine j_sld dL_law_340 (by omega) (by omega) ⟨by omega, by omega⟩ ?_
  refine cl_L_42 (As := [_, _]) hy dL_law_341 (c_X6_join hL.1 hWS (R32_toInt _) (R32_toInt _)) hL.1.1 rfl ⟨by decide, (Nat.le_of_ble_eq_true rfl)⟩ (Nat.le_of_ble_eq_true rfl) hf (fun z1 w1 hz1 => ?_)
  obtain ⟨e1, g1, hC⟩ := hz1
  refine j_aload_n dL_law_344 rfl ?_
  refine j_aload_n dL_law_345 rfl ?_
  refine j_iload_n dL_law_346 rfl ?_
  refine j_iconst dL_law_347 ?_
  refine j_iadd dL_law_348 ?_
  refine j_sld dL_law_349 (by omega) (by omega) ⟨by omega, by omega⟩ ?_
  refine j_aload_n dL_law_350 rfl ?_
  refine j_iload_n dL_law_351 rfl ?_
  refine j_iconst dL_law_352 ?_
  refine j_iadd dL_law_353 ?_
  refine j_sld dL_law_354 (by omega) (by omega) ⟨by omega, by omega⟩ ?_
  have hR := hL.mid g1
  obtain ⟨fs2, hb2⟩ := hR.own
  refine cl_L_45 (As := [_, _]) hy dL_law_355 (c_X7_join hR hWS (R32_toInt _) (R32_toInt _)) hb2 rfl ⟨by decide, (Nat.le_of_ble_eq_true rfl)⟩ (Nat.le_of_ble_eq_true rfl) hf (fun z2 w2 hz2 => ?_)
  obtain ⟨e2, g2, hR2⟩ := hz2
  have e3 : z2 = z1 := e2.trans e1.symm
  subst e3
  refine j_icmpS (tgt := 747) dL_law_358 (by decide) ?_
  exact kk _ (LW.fin hC g2 hR2 (LG_next hL.2.2 hn (fun S1 q => hL.2.2.1.jn q)))
set_option maxRecDepth 100000 in
set_option maxHeartbeats 4000000 in
theorem lc_7 {l : Launch} {D : gD} {y : MethodName} {rt : Option FieldType} {sz b Ls o k n : Nat} {xs : Nat → Int32} {i : Int} {σ : Wd} (hy : y.cls = RL) (h : IV D σ o) (hi : 0 ≤ i) (hi5 : i + 5 ≤ Ls) (hLs : Ls ≤ 2560) (hf : k ≤ room_1.cells ∧ n ≤ room_1.slots) (kk : ∀ w : Wd, IV D w o → J l D y cL_law 4 rt room_1 sz (fun q => sz ≤ q) (QEL b Ls xs) k n 747 [some (.ref b), some (.ref o), some (.ref (o + 128)), some (vi i)] [] w) : J l D y cL_law 4 rt room_1 sz (fun q => sz ≤ q) (QEL b Ls xs) k n 363 [some (.ref b), some (.ref o), some (.ref (o + 128)), some (vi i)] [] σ := by
  obtain ⟨S, SN, hs, n1, H, tn, ch, hL⟩ := h
  have hWS := hL.2.1.ws hL.2.2.1
  have hn := hL.2.1.le4
  refine j_aload_n dL_law_363 rfl ?_
  refine j_aload_n dL_law_364 rfl ?_
  refine j_iload_n dL_law_365 rfl ?_
  refine j_iconst dL_law_366 ?_
  refine j_iadd dL_law_367 ?_
  refine j_sld dL_law_368 (by omega) (by omega) ⟨by omega, by omega⟩ ?_
  refine cl_L_46 (As := [_]) hy dL_law_369 (c_X6_recompress hL.1 hWS (R32_toInt _)) hL.1.1 rfl ⟨by decide, (Nat.le_of_ble_eq_true rfl)⟩ (Nat.le_of_ble_eq_true rfl) hf (fun z1 w1 hz1 => ?_)
  obtain ⟨e1, g1, hC⟩ := hz1
  refine j_aload_n dL_law_372 rfl ?_
  refine j_aload_n dL_law_373 rfl ?_
  refine j_iload_n dL_law_374 rfl ?_
  refine j_iconst dL_law_375 ?_
  refine j_iadd dL_law_376 ?_
  refine j_sld dL_law_377 (by omega) (by omega) ⟨by omega, by omega⟩ ?_
  have hR := hL.mid g1
  obtain ⟨fs2, hb2⟩ := hR.own
  refine cl_L_49 (As := [_]) hy dL_law_378 (c_X7_recompress hR hWS (R32_toInt _)) hb2 rfl ⟨by decide, (Nat.le_of_ble_eq_true rfl)⟩ (Nat.le_of_ble_eq_true rfl) hf (fun z2 w2 hz2 => ?_)
  obtain ⟨e2, g2, hR2⟩ := hz2
  have e3 : z2 = z1 := e2.trans e1.symm
  subst e3
  refine j_icmpS (tgt := 747) dL_law_381 (by decide) ?_
  exact kk _ (LW.fin hC g2 hR2 (LG_next hL.2.2 hn (fun S1 q => hL.2.2.1.rc q)))
set_option maxRecDepth 100000 in
set_option maxHeartbeats 4000000 in
theorem lc_8 {l : Launch} {D : gD} {y : MethodName} {rt : Option FieldType} {sz b Ls o k n : Nat} {xs : Nat → Int32} {i : Int} {σ : Wd} (hy : y.cls = RL) (h : IV D σ o) (hi : 0 ≤ i) (hi5 : i + 5 ≤ Ls) (hLs : Ls ≤ 2560) (hf : k ≤ room_1.cells ∧ n ≤ room_1.slots) (kk : ∀ w : Wd, IV D w o → J l D y cL_law 4 rt room_1 sz (fun q => sz ≤ q) (QEL b Ls xs) k n 747 [some (.ref b), some (.ref o), some (.ref (o + 128)), some (vi i)] [] w) : J l D y cL_law 4 rt room_1 sz (fun q => sz ≤ q) (QEL b Ls xs) k n 386 [some (.ref b), some (.ref o), some (.ref (o + 128)), some (vi i)] [] σ := by
  obtain ⟨S, SN, hs, n1, H, tn, ch, hL⟩ := h
  have hWS := hL.2.1.ws hL.2.2.1
  have hn := hL.2.1.le4
  refine j_aload_n dL_law_386 rfl ?_
  refine j_aload_n dL_law_387 rfl ?_
  refine j_iload_n dL_law_388 rfl ?_
  refine j_iconst dL_law_389 ?_
  refine j_iadd dL_law_390 ?_
  refine j_sld dL_law_391 (by omega) (by omega) ⟨by omega, by omega⟩ ?_
  refine j_i2c dL_law_392 ?_
  refine j_top ((pk_char _).trans (iI_nat _)) ?_
  refine cl_L_50 (As := [_]) hy dL_law_393 (c_X6_type hL.1 (by omega) (by omega)) hL.1.1 rfl ⟨by decide, (Nat.le_of_ble_eq_true rfl)⟩ (Nat.le_of_ble_eq_true rfl) hf (fun z1 w1 hz1 => ?_)
  obtain ⟨e1, g1, hC⟩ := hz1
  refine j_aload_n dL_law_396 rfl ?_
  refine j_aload_n dL_law_397 rfl ?_
  refine j_iload_n dL_law_398 rfl ?_
  refine j_iconst dL_law_399 ?_
  refine j_iadd dL_law_400 ?_
  refine j_sld dL_law_401 (by omega) (by omega) ⟨by omega, by omega⟩ ?_
  refine j_i2c dL_law_402 ?_
  refine j_top ((pk_char _).trans (iI_nat _)) ?_
  have hR := hL.mid g1
  obtain ⟨fs2, hb2⟩ := hR.own
  refine cl_L_54 (As := [_]) hy dL_law_403 (c_X7_type hR (by omega) (by omega)) hb2 rfl ⟨by decide, (Nat.le_of_ble_eq_true rfl)⟩ (Nat.le_of_ble_eq_true rfl) hf (fun z2 w2 hz2 => ?_)
  obtain ⟨e2, g2, hR2⟩ := hz2
  have e3 : z2 = z1 := e2.trans e1.symm
  subst e3
  refine j_icmpS (tgt := 747) dL_law_406 (by decide) ?_
  exact kk _ (LW.fin hC g2 hR2 (hL.2.2))
set_option maxRecDepth 100000 in
set_option maxHeartbeats 4000000 in
theorem lc_9 {l : Launch} {D : gD} {y : MethodName} {rt : Option FieldType} {sz b Ls o k n : Nat} {xs : Nat → Int32} {i : Int} {σ : Wd} (hy : y.cls = RL) (h : IV D σ o) (hi : 0 ≤ i) (hi5 : i + 5 ≤ Ls) (hLs : Ls ≤ 2560) (hf : k ≤ room_1.cells ∧ n ≤ room_1.slots) (kk : ∀ w : Wd, IV D w o → J l D y cL_law 4 rt room_1 sz (fun q => sz ≤ q) (QEL b Ls xs) k n 747 [some (.ref b), some (.ref o), some (.ref (o + 128)), some (vi i)] [] w) : J l D y cL_law 4 rt room_1 sz (fun q => sz ≤ q) (QEL b Ls xs) k n 411 [some (.ref b), some (.ref o), some (.ref (o + 128)), some (vi i)] [] σ := by
  obtain ⟨S, SN, hs, n1, H, tn, ch, hL⟩ := h
  have hWS := hL.2.1.ws hL.2.2.1
  have hn := hL.2.1.le4
  refine j_aload_n dL_law_411 rfl ?_
  refine cl_L_55 (As := []) hy dL_law_412 (c_X6_clearText hL.1) hL.1.1 rfl ⟨by decide, (Nat.le_of_ble_eq_true rfl)⟩ (Nat.le_of_ble_eq_true rfl) hf (fun z1 w1 hz1 => ?_)
  obtain ⟨e1, g1, hC⟩ := hz1
  refine j_aload_n dL_law_415 rfl ?_
  have hR := hL.mid g1
  obtain ⟨fs2, hb2⟩ := hR.own
  refine cl_L_58 (As := []) hy dL_law_416 (c_X7_clearText hR) hb2 rfl ⟨by decide, (Nat.le_of_ble_eq_true rfl)⟩ (Nat.le_of_ble_eq_true rfl) hf (fun z2 w2 hz2 => ?_)
  obtain ⟨e2, g2, hR2⟩ := hz2
  have e3 : z2 = z1 := e2.trans e1.symm
  subst e3
  refine j_icmpS (tgt := 747) dL_law_419 (by decide) ?_
  exact kk _ (LW.fin hC g2 hR2 (hL.2.2))
set_option maxRecDepth 100000 in
set_option maxHeartbeats 4000000 in
theorem lc_10 {l : Launch} {D : gD} {y : MethodName} {rt : Option FieldType} {sz b Ls o k n : Nat} {xs : Nat → Int32} {i : Int} {σ : Wd} (hy : y.cls = RL) (h : IV D σ o) (hi : 0 ≤ i) (hi5 : i + 5 ≤ Ls) (hLs : Ls ≤ 2560) (hf : k ≤ room_1.cells ∧ n ≤ room_1.slots) (kk : ∀ w : Wd, IV D w o → J l D y cL_law 4 rt room_1 sz (fun q => sz ≤ q) (QEL b Ls xs) k n 747 [some (.ref b), some (.ref o), some (.ref (o + 128)), some (vi i)] [] w) : J l D y cL_law 4 rt room_1 sz (fun q => sz ≤ q) (QEL b Ls xs) k n 424 [some (.ref b), some (.ref o), some (.ref (o + 128)), some (vi i)] [] σ := by
  obtain ⟨S, SN, hs, n1, H, tn, ch, hL⟩ := h
  have hWS := hL.2.1.ws hL.2.2.1
  have hn := hL.2.1.le4
  refine j_aload_n dL_law_424 rfl ?_
  refine cl_L_59 (As := []) hy dL_law_425 (c_X6_undo hL.1) hL.1.1 rfl ⟨by decide, (Nat.le_of_ble_eq_true rfl)⟩ (Nat.le_of_ble_eq_true rfl) hf (fun z1 w1 hz1 => ?_)
  obtain ⟨e1, g1, hC⟩ := hz1
  refine j_aload_n dL_law_428 rfl ?_
  have hR := hL.mid g1
  obtain ⟨fs2, hb2⟩ := hR.own
  refine cl_L_62 (As := []) hy dL_law_429 (c_X7_undo hR) hb2 rfl ⟨by decide, (Nat.le_of_ble_eq_true rfl)⟩ (Nat.le_of_ble_eq_true rfl) hf (fun z2 w2 hz2 => ?_)
  obtain ⟨e2, g2, hR2⟩ := hz2
  have e3 : z2 = z1 := e2.trans e1.symm
  subst e3
  refine j_icmpS (tgt := 747) dL_law_432 (by decide) ?_
  exact kk _ (LW.fin hC g2 hR2 (LG_undo hL.2.2))
set_option maxRecDepth 100000 in
set_option maxHeartbeats 4000000 in
theorem lc_11 {l : Launch} {D : gD} {y : MethodName} {rt : Option FieldType} {sz b Ls o k n : Nat} {xs : Nat → Int32} {i : Int} {σ : Wd} (hy : y.cls = RL) (h : IV D σ o) (hi : 0 ≤ i) (hi5 : i + 5 ≤ Ls) (hLs : Ls ≤ 2560) (hf : k ≤ room_1.cells ∧ n ≤ room_1.slots) (kk : ∀ w : Wd, IV D w o → J l D y cL_law 4 rt room_1 sz (fun q => sz ≤ q) (QEL b Ls xs) k n 747 [some (.ref b), some (.ref o), some (.ref (o + 128)), some (vi i)] [] w) : J l D y cL_law 4 rt room_1 sz (fun q => sz ≤ q) (QEL b Ls xs) k n 437 [some (.ref b), some (.ref o), some (.ref (o + 128)), some (vi i)] [] σ := by
  obtain ⟨S, SN, hs, n1, H, tn, ch, hL⟩ := h
  have hWS := hL.2.1.ws hL.2.2.1
  have hn := hL.2.1.le4
  refine j_aload_n dL_law_437 rfl ?_
  refine cl_L_63 (As := []) hy dL_law_438 (c_X6_keep hL.1) hL.1.1 rfl ⟨by decide, (Nat.le_of_ble_eq_true rfl)⟩ (Nat.le_of_ble_eq_true rfl) hf (fun z1 w1 hz1 => ?_)
  obtain ⟨e1, g1, hC⟩ := hz1
  refine j_aload_n dL_law_441 rfl ?_
  have hR := hL.mid g1
  obtain ⟨fs2, hb2⟩ := hR.own
  refine cl_L_66 (As := []) hy dL_law_442 (c_X7_keep hR) hb2 rfl ⟨by decide, (Nat.le_of_ble_eq_true rfl)⟩ (Nat.le_of_ble_eq_true rfl) hf (fun z2 w2 hz2 => ?_)
  obtain ⟨e2, g2, hR2⟩ := hz2
  have e3 : z2 = z1 := e2.trans e1.symm
  subst e3
  refine j_icmpS (tgt := 747) dL_law_445 (by decide) ?_
  exact kk _ (LW.fin hC g2 hR2 (LG_keep hL.2.2))
set_option maxRecDepth 100000 in
set_option maxHeartbeats 4000000 in
theorem lc_12 {l : Launch} {D : gD} {y : MethodName} {rt : Option FieldType} {sz b Ls o k n : Nat} {xs : Nat → Int32} {i : Int} {σ : Wd} (hy : y.cls = RL) (h : IV D σ o) (hi : 0 ≤ i) (hi5 : i + 5 ≤ Ls) (hLs : Ls ≤ 2560) (hf : k ≤ room_1.cells ∧ n ≤ room_1.slots) (kk : ∀ w : Wd, IV D w o → J l D y cL_law 4 rt room_1 sz (fun q => sz ≤ q) (QEL b Ls xs) k n 747 [some (.ref b), some (.ref o), some (.ref (o + 128)), some (vi i)] [] w) : J l D y cL_law 4 rt room_1 sz (fun q => sz ≤ q) (QEL b Ls xs) k n 450 [some (.ref b), some (.ref o), some (.ref (o + 128)), some (vi i)] [] σ := by
  obtain ⟨S, SN, hs, n1, H, tn, ch, hL⟩ := h
  have hWS := hL.2.1.ws hL.2.2.1
  have hn := hL.2.1.le4
  refine j_aload_n dL_law_450 rfl ?_
  refine cl_L_67 (As := []) hy dL_law_451 (c_X6_restore hL.1 hL.2.2.2.1) hL.1.1 rfl ⟨by decide, (Nat.le_of_ble_eq_true rfl)⟩ (Nat.le_of_ble_eq_true rfl) hf (fun z1 w1 hz1 => ?_)
  obtain ⟨e1, g1, hC⟩ := hz1
  refine j_aload_n dL_law_454 rfl ?_
  have hR := hL.mid g1
  obtain ⟨fs2, hb2⟩ := hR.own
  refine cl_L_70 (As := []) hy dL_law_455 (c_X7_restore hR hL.2.2.2.1) hb2 rfl ⟨by decide, (Nat.le_of_ble_eq_true rfl)⟩ (Nat.le_of_ble_eq_true rfl) hf (fun z2 w2 hz2 => ?_)
  obtain ⟨e2, g2, hR2⟩ := hz2
  have e3 : z2 = z1 := e2.trans e1.symm
  subst e3
  refine j_icmpS (tgt := 747) dL_law_458 (by decide) ?_
  exact kk _ (LW.fin hC g2 hR2 (LG_restore hL.2.2 hn))
set_option maxRecDepth 100000 in
set_option maxHeartbeats 4000000 in
theorem lc_13 {l : Launch} {D : gD} {y : MethodName} {rt : Option FieldType} {sz b Ls o k n : Nat} {xs : Nat → Int32} {i : Int} {σ : Wd} (hy : y.cls = RL) (h : IV D σ o) (hi : 0 ≤ i) (hi5 : i + 5 ≤ Ls) (hLs : Ls ≤ 2560) (hf : k ≤ room_1.cells ∧ n ≤ room_1.slots) (kk : ∀ w : Wd, IV D w o → J l D y cL_law 4 rt room_1 sz (fun q => sz ≤ q) (QEL b Ls xs) k n 747 [some (.ref b), some (.ref o), some (.ref (o + 128)), some (vi i)] [] w) : J l D y cL_law 4 rt room_1 sz (fun q => sz ≤ q) (QEL b Ls xs) k n 463 [some (.ref b), some (.ref o), some (.ref (o + 128)), some (vi i)] [] σ := by
  obtain ⟨S, SN, hs, n1, H, tn, ch, hL⟩ := h
  have hWS := hL.2.1.ws hL.2.2.1
  have hn := hL.2.1.le4
  refine j_aload_n dL_law_463 rfl ?_
  refine j_aload_n dL_law_464 rfl ?_
  refine j_iload_n dL_law_465 rfl ?_
  refine j_iconst dL_law_466 ?_
  refine j_iadd dL_law_467 ?_
  refine j_sld dL_law_468 (by omega) (by omega) ⟨by omega, by omega⟩ ?_
  refine j_aload_n dL_law_469 rfl ?_
  refine j_iload_n dL_law_470 rfl ?_
  refine j_iconst dL_law_471 ?_
  refine j_iadd dL_law_472 ?_
  refine j_sld dL_law_473 (by omega) (by omega) ⟨by omega, by omega⟩ ?_
  refine j_aload_n dL_law_474 rfl ?_
  refine j_iload_n dL_law_475 rfl ?_
  refine j_iconst dL_law_476 ?_
  refine j_iadd dL_law_477 ?_
  refine j_sld dL_law_478 (by omega) (by omega) ⟨by omega, by omega⟩ ?_
  refine cl_L_71 (As := [_, _, _]) hy dL_law_479 (c_X6_cell hL.1 hWS (R32_toInt _) (R32_toInt _) (R32_toInt _)) hL.1.1 rfl ⟨by decide, (Nat.le_of_ble_eq_true rfl)⟩ (Nat.le_of_ble_eq_true rfl) hf (fun z1 w1 hz1 => ?_)
  obtain ⟨e1, v1⟩ := hz1
  subst v1
  refine j_aload_n dL_law_482 rfl ?_
  refine j_aload_n dL_law_483 rfl ?_
  refine j_iload_n dL_law_484 rfl ?_
  refine j_iconst dL_law_485 ?_
  refine j_iadd dL_law_486 ?_
  refine j_sld dL_law_487 (by omega) (by omega) ⟨by omega, by omega⟩ ?_
  refine j_aload_n dL_law_488 rfl ?_
  refine j_iload_n dL_law_489 rfl ?_
  refine j_iconst dL_law_490 ?_
  refine j_iadd dL_law_491 ?_
  refine j_sld dL_law_492 (by omega) (by omega) ⟨by omega, by omega⟩ ?_
  refine j_aload_n dL_law_493 rfl ?_
  refine j_iload_n dL_law_494 rfl ?_
  refine j_iconst dL_law_495 ?_
  refine j_iadd dL_law_496 ?_
  refine j_sld dL_law_497 (by omega) (by omega) ⟨by omega, by omega⟩ ?_
  obtain ⟨fs2, hb2⟩ := hL.2.1.own
  refine cl_L_74 (As := [_, _, _]) hy dL_law_498 (c_X7_cell hL.2.1 (R32_toInt _) (R32_toInt _) (R32_toInt _)) hb2 rfl ⟨by decide, (Nat.le_of_ble_eq_true rfl)⟩ (Nat.le_of_ble_eq_true rfl) hf (fun z2 w2 hz2 => ?_)
  obtain ⟨e2, v2⟩ := hz2
  subst v2
  have e3 : z2 = z1 := e2.trans e1.symm
  subst e3
  refine j_icmpS (tgt := 747) dL_law_501 (by decide) ?_
  exact kk _ ⟨S, SN, hs, n1, H, tn, ch, hL⟩
set_option maxRecDepth 100000 in
set_option maxHeartbeats 4000000 in
theorem lc_14 {l : Launch} {D : gD} {y : MethodName} {rt : Option FieldType} {sz b Ls o k n : Nat} {xs : Nat → Int32} {i : Int} {σ : Wd} (hy : y.cls = RL) (h : IV D σ o) (hi : 0 ≤ i) (hi5 : i + 5 ≤ Ls) (hLs : Ls ≤ 2560) (hf : k ≤ room_1.cells ∧ n ≤ room_1.slots) (kk : ∀ w : Wd, IV D w o → J l D y cL_law 4 rt room_1 sz (fun q => sz ≤ q) (QEL b Ls xs) k n 747 [some (.ref b), some (.ref o), some (.ref (o + 128)), some (vi i)] [] w) : J l D y cL_law 4 rt room_1 sz (fun q => sz ≤ q) (QEL b Ls xs) k n 506 [some (.ref b), some (.ref o), some (.ref (o + 128)), some (vi i)] [] σ := by
  obtain ⟨S, SN, hs, n1, H, tn, ch, hL⟩ := h
  have hWS := hL.2.1.ws hL.2.2.1
  have hn := hL.2.1.le4
  refine j_aload_n dL_law_506 rfl ?_
  refine j_aload_n dL_law_507 rfl ?_
  refine j_iload_n dL_law_508 rfl ?_
  refine j_iconst dL_law_509 ?_
  refine j_iadd dL_law_510 ?_
  refine j_sld dL_law_511 (by omega) (by omega) ⟨by omega, by omega⟩ ?_
  refine j_aload_n dL_law_512 rfl ?_
  refine j_iload_n dL_law_513 rfl ?_
  refine j_iconst dL_law_514 ?_
  refine j_iadd dL_law_515 ?_
  refine j_sld dL_law_516 (by omega) (by omega) ⟨by omega, by omega⟩ ?_
  refine cl_L_75 (As := [_, _]) hy dL_law_517 (c_X6_table hL.1 hWS (R32_toInt _) (R32_toInt _)) hL.1.1 rfl ⟨by decide, (Nat.le_of_ble_eq_true rfl)⟩ (Nat.le_of_ble_eq_true rfl) hf (fun z1 w1 hz1 => ?_)
  obtain ⟨e1, g1, hC⟩ := hz1
  refine j_aload_n dL_law_520 rfl ?_
  refine j_aload_n dL_law_521 rfl ?_
  refine j_iload_n dL_law_522 rfl ?_
  refine j_iconst dL_law_523 ?_
  refine j_iadd dL_law_524 ?_
  refine j_sld dL_law_525 (by omega) (by omega) ⟨by omega, by omega⟩ ?_
  refine j_aload_n dL_law_526 rfl ?_
  refine j_iload_n dL_law_527 rfl ?_
  refine j_iconst dL_law_528 ?_
  refine j_iadd dL_law_529 ?_
  refine j_sld dL_law_530 (by omega) (by omega) ⟨by omega, by omega⟩ ?_
  have hR := hL.mid g1
  obtain ⟨fs2, hb2⟩ := hR.own
  refine cl_L_78 (As := [_, _]) hy dL_law_531 (c_X7_table hR hWS (R32_toInt _) (R32_toInt _)) hb2 rfl ⟨by decide, (Nat.le_of_ble_eq_true rfl)⟩ (Nat.le_of_ble_eq_true rfl) hf (fun z2 w2 hz2 => ?_)
  obtain ⟨e2, g2, hR2⟩ := hz2
  have e3 : z2 = z1 := e2.trans e1.symm
  subst e3
  refine j_icmpS (tgt := 747) dL_law_534 (by decide) ?_
  exact kk _ (LW.fin hC g2 hR2 (hL.2.2))
set_option maxRecDepth 100000 in
set_option maxHeartbeats 4000000 in
theorem lc_15 {l : Launch} {D : gD} {y : MethodName} {rt : Option FieldType} {sz b Ls o k n : Nat} {xs : Nat → Int32} {i : Int} {σ : Wd} (hy : y.cls = RL) (h : IV D σ o) (hi : 0 ≤ i) (hi5 : i + 5 ≤ Ls) (hLs : Ls ≤ 2560) (hf : k ≤ room_1.cells ∧ n ≤ room_1.slots) (kk : ∀ w : Wd, IV D w o → J l D y cL_law 4 rt room_1 sz (fun q => sz ≤ q) (QEL b Ls xs) k n 747 [some (.ref b), some (.ref o), some (.ref (o + 128)), some (vi i)] [] w) : J l D y cL_law 4 rt room_1 sz (fun q => sz ≤ q) (QEL b Ls xs) k n 539 [some (.ref b), some (.ref o), some (.ref (o + 128)), some (vi i)] [] σ := by
  obtain ⟨S, SN, hs, n1, H, tn, ch, hL⟩ := h
  have hWS := hL.2.1.ws hL.2.2.1
  have hn := hL.2.1.le4
  refine j_aload_n dL_law_539 rfl ?_
  refine j_aload_n dL_law_540 rfl ?_
  refine j_iload_n dL_law_541 rfl ?_
  refine j_iconst dL_law_542 ?_
  refine j_iadd dL_law_543 ?_
  refine j_sld dL_law_544 (by omega) (by omega) ⟨by omega, by omega⟩ ?_
  refine j_aload_n dL_law_545 rfl ?_
  refine j_iload_n dL_law_546 rfl ?_
  refine j_iconst dL_law_547 ?_
  refine j_iadd dL_law_548 ?_
  refine j_sld dL_law_549 (by omega) (by omega) ⟨by omega, by omega⟩ ?_
  refine j_aload_n dL_law_550 rfl ?_
  refine j_iload_n dL_law_551 rfl ?_
  refine j_iconst dL_law_552 ?_
  refine j_iadd dL_law_553 ?_
  refine j_sld dL_law_554 (by omega) (by omega) ⟨by omega, by omega⟩ ?_
  refine cl_L_79 (As := [_, _, _]) hy dL_law_555 (c_X6_leaf hL.1 hWS (R32_toInt _) (R32_toInt _) (R32_toInt _)) hL.1.1 rfl ⟨by decide, (Nat.le_of_ble_eq_true rfl)⟩ (Nat.le_of_ble_eq_true rfl) hf (fun z1 w1 hz1 => ?_)
  obtain ⟨e1, g1, hC⟩ := hz1
  refine j_aload_n dL_law_558 rfl ?_
  refine j_aload_n dL_law_559 rfl ?_
  refine j_iload_n dL_law_560 rfl ?_
  refine j_iconst dL_law_561 ?_
  refine j_iadd dL_law_562 ?_
  refine j_sld dL_law_563 (by omega) (by omega) ⟨by omega, by omega⟩ ?_
  refine j_aload_n dL_law_564 rfl ?_
  refine j_iload_n dL_law_565 rfl ?_
  refine j_iconst dL_law_566 ?_
  refine j_iadd dL_law_567 ?_
  refine j_sld dL_law_568 (by omega) (by omega) ⟨by omega, by omega⟩ ?_
  refine j_aload_n dL_law_569 rfl ?_
  refine j_iload_n dL_law_570 rfl ?_
  refine j_iconst dL_law_571 ?_
  refine j_iadd dL_law_572 ?_
  refine j_sld dL_law_573 (by omega) (by omega) ⟨by omega, by omega⟩ ?_
  have hR := hL.mid g1
  obtain ⟨fs2, hb2⟩ := hR.own
  refine cl_L_82 (As := [_, _, _]) hy dL_law_574 (c_X7_leaf hR hWS (R32_toInt _) (R32_toInt _) (R32_toInt _)) hb2 rfl ⟨by decide, (Nat.le_of_ble_eq_true rfl)⟩ (Nat.le_of_ble_eq_true rfl) hf (fun z2 w2 hz2 => ?_)
  obtain ⟨e2, g2, hR2⟩ := hz2
  have e3 : z2 = z1 := e2.trans e1.symm
  subst e3
  refine j_icmpS (tgt := 747) dL_law_577 (by decide) ?_
  exact kk _ (LW.fin hC g2 hR2 (hL.2.2))
set_option maxRecDepth 100000 in
set_option maxHeartbeats 4000000 in
theorem lc_16 {l : Launch} {D : gD} {y : MethodName} {rt : Option FieldType} {sz b Ls o k n : Nat} {xs : Nat → Int32} {i : Int} {σ : Wd} (hy : y.cls = RL) (h : IV D σ o) (hi : 0 ≤ i) (hi5 : i + 5 ≤ Ls) (hLs : Ls ≤ 2560) (hf : k ≤ room_1.cells ∧ n ≤ room_1.slots) (kk : ∀ w : Wd, IV D w o → J l D y cL_law 4 rt room_1 sz (fun q => sz ≤ q) (QEL b Ls xs) k n 747 [some (.ref b), some (.ref o), some (.ref (o + 128)), some (vi i)] [] w) : J l D y cL_law 4 rt room_1 sz (fun q => sz ≤ q) (QEL b Ls xs) k n 582 [some (.ref b), some (.ref o), some (.ref (o + 128)), some (vi i)] [] σ := by
  obtain ⟨S, SN, hs, n1, H, tn, ch, hL⟩ := h
  have hWS := hL.2.1.ws hL.2.2.1
  have hn := hL.2.1.le4
  refine j_aload_n dL_law_582 rfl ?_
  refine j_aload_n dL_law_583 rfl ?_
  refine j_iload_n dL_law_584 rfl ?_
  refine j_iconst dL_law_585 ?_
  refine j_iadd dL_law_586 ?_
  refine j_sld dL_law_587 (by omega) (by omega) ⟨by omega, by omega⟩ ?_
  refine j_aload_n dL_law_588 rfl ?_
  refine j_iload_n dL_law_589 rfl ?_
  refine j_iconst dL_law_590 ?_
  refine j_iadd dL_law_591 ?_
  refine j_sld dL_law_592 (by omega) (by omega) ⟨by omega, by omega⟩ ?_
  refine j_aload_n dL_law_593 rfl ?_
  refine j_iload_n dL_law_594 rfl ?_
  refine j_iconst dL_law_595 ?_
  refine j_iadd dL_law_596 ?_
  refine j_sld dL_law_597 (by omega) (by omega) ⟨by omega, by omega⟩ ?_
  refine cl_L_83 (As := [_, _, _]) hy dL_law_598 (c_X6_leafAt hL.1 hWS (R32_toInt _) (R32_toInt _) (R32_toInt _)) hL.1.1 rfl ⟨by decide, (Nat.le_of_ble_eq_true rfl)⟩ (Nat.le_of_ble_eq_true rfl) hf (fun z1 w1 hz1 => ?_)
  obtain ⟨e1, v1⟩ := hz1
  subst v1
  refine j_aload_n dL_law_601 rfl ?_
  refine j_aload_n dL_law_602 rfl ?_
  refine j_iload_n dL_law_603 rfl ?_
  refine j_iconst dL_law_604 ?_
  refine j_iadd dL_law_605 ?_
  refine j_sld dL_law_606 (by omega) (by omega) ⟨by omega, by omega⟩ ?_
  refine j_aload_n dL_law_607 rfl ?_
  refine j_iload_n dL_law_608 rfl ?_
  refine j_iconst dL_law_609 ?_
  refine j_iadd dL_law_610 ?_
  refine j_sld dL_law_611 (by omega) (by omega) ⟨by omega, by omega⟩ ?_
  refine j_aload_n dL_law_612 rfl ?_
  refine j_iload_n dL_law_613 rfl ?_
  refine j_iconst dL_law_614 ?_
  refine j_iadd dL_law_615 ?_
  refine j_sld dL_law_616 (by omega) (by omega) ⟨by omega, by omega⟩ ?_
  obtain ⟨fs2, hb2⟩ := hL.2.1.own
  refine cl_L_86 (As := [_, _, _]) hy dL_law_617 (c_X7_leafAt hL.2.1 hWS (R32_toInt _) (R32_toInt _) (R32_toInt _)) hb2 rfl ⟨by decide, (Nat.le_of_ble_eq_true rfl)⟩ (Nat.le_of_ble_eq_true rfl) hf (fun z2 w2 hz2 => ?_)
  obtain ⟨e2, v2⟩ := hz2
  subst v2
  have e3 : z2 = z1 := e2.trans e1.symm
  subst e3
  refine j_icmpS (tgt := 747) dL_law_620 (by decide) ?_
  exact kk _ ⟨S, SN, hs, n1, H, tn, ch, hL⟩
set_option maxRecDepth 100000 in
set_option maxHeartbeats 4000000 in
theorem lc_17 {l : Launch} {D : gD} {y : MethodName} {rt : Option FieldType} {sz b Ls o k n : Nat} {xs : Nat → Int32} {i : Int} {σ : Wd} (hy : y.cls = RL) (h : IV D σ o) (hi : 0 ≤ i) (hi5 : i + 5 ≤ Ls) (hLs : Ls ≤ 2560) (hf : k ≤ room_1.cells ∧ n ≤ room_1.slots) (kk : ∀ w : Wd, IV D w o → J l D y cL_law 4 rt room_1 sz (fun q => sz ≤ q) (QEL b Ls xs) k n 747 [some (.ref b), some (.ref o), some (.ref (o + 128)), some (vi i)] [] w) : J l D y cL_law 4 rt room_1 sz (fun q => sz ≤ q) (QEL b Ls xs) k n 625 [some (.ref b), some (.ref o), some (.ref (o + 128)), some (vi i)] [] σ := by
  obtain ⟨S, SN, hs, n1, H, tn, ch, hL⟩ := h
  have hWS := hL.2.1.ws hL.2.2.1
  have hn := hL.2.1.le4
  refine j_aload_n dL_law_625 rfl ?_
  refine j_aload_n dL_law_626 rfl ?_
  refine j_iload_n dL_law_627 rfl ?_
  refine j_iconst dL_law_628 ?_
  refine j_iadd dL_law_629 ?_
  refine j_sld dL_law_630 (by omega) (by omega) ⟨by omega, by omega⟩ ?_
  refine j_aload_n dL_law_631 rfl ?_
  refine j_iload_n dL_law_632 rfl ?_
  refine j_iconst dL_law_633 ?_
  refine j_iadd dL_law_634 ?_
  refine j_sld dL_law_635 (by omega) (by omega) ⟨by omega, by omega⟩ ?_
  refine cl_L_87 (As := [_, _]) hy dL_law_636 (c_X6_differ hL.1 hWS (R32_toInt _) (R32_toInt _)) hL.1.1 rfl ⟨by decide, (Nat.le_of_ble_eq_true rfl)⟩ (Nat.le_of_ble_eq_true rfl) hf (fun z1 w1 hz1 => ?_)
  obtain ⟨e1, v1⟩ := hz1
  subst v1
  refine j_aload_n dL_law_639 rfl ?_
  refine j_aload_n dL_law_640 rfl ?_
  refine j_iload_n dL_law_641 rfl ?_
  refine j_iconst dL_law_642 ?_
  refine j_iadd dL_law_643 ?_
  refine j_sld dL_law_644 (by omega) (by omega) ⟨by omega, by omega⟩ ?_
  refine j_aload_n dL_law_645 rfl ?_
  refine j_iload_n dL_law_646 rfl ?_
  refine j_iconst dL_law_647 ?_
  refine j_iadd dL_law_648 ?_
  refine j_sld dL_law_649 (by omega) (by omega) ⟨by omega, by omega⟩ ?_
  obtain ⟨fs2, hb2⟩ := hL.2.1.own
  refine cl_L_90 (As := [_, _]) hy dL_law_650 (c_X7_differ hL.2.1 hWS (R32_toInt _) (R32_toInt _)) hb2 rfl ⟨by decide, (Nat.le_of_ble_eq_true rfl)⟩ (Nat.le_of_ble_eq_true rfl) hf (fun z2 w2 hz2 => ?_)
  obtain ⟨e2, v2⟩ := hz2
  subst v2
  have e3 : z2 = z1 := e2.trans e1.symm
  subst e3
  refine j_icmpS (tgt := 747) dL_law_653 (by decide) ?_
  exact kk _ ⟨S, SN, hs, n1, H, tn, ch, hL⟩
set_option maxRecDepth 100000 in
set_option maxHeartbeats 4000000 in
theorem lc_18 {l : Launch} {D : gD} {y : MethodName} {rt : Option FieldType} {sz b Ls o k n : Nat} {xs : Nat → Int32} {i : Int} {σ : Wd} (hy : y.cls = RL) (h : IV D σ o) (hi : 0 ≤ i) (hi5 : i + 5 ≤ Ls) (hLs : Ls ≤ 2560) (hf : k ≤ room_1.cells ∧ n ≤ room_1.slots) (kk : ∀ w : Wd, IV D w o → J l D y cL_law 4 rt room_1 sz (fun q => sz ≤ q) (QEL b Ls xs) k n 747 [some (.ref b), some (.ref o), some (.ref (o + 128)), some (vi i)] [] w) : J l D y cL_law 4 rt room_1 sz (fun q => sz ≤ q) (QEL b Ls xs) k n 658 [some (.ref b), some (.ref o), some (.ref (o + 128)), some (vi i)] [] σ := by
  obtain ⟨S, SN, hs, n1, H, tn, ch, hL⟩ := h
  have hWS := hL.2.1.ws hL.2.2.1
  have hn := hL.2.1.le4
  refine j_aload_n dL_law_658 rfl ?_
  refine j_aload_n dL_law_659 rfl ?_
  refine j_iload_n dL_law_660 rfl ?_
  refine j_iconst dL_law_661 ?_
  refine j_iadd dL_law_662 ?_
  refine j_sld dL_law_663 (by omega) (by omega) ⟨by omega, by omega⟩ ?_
  refine j_aload_n dL_law_664 rfl ?_
  refine j_iload_n dL_law_665 rfl ?_
  refine j_iconst dL_law_666 ?_
  refine j_iadd dL_law_667 ?_
  refine j_sld dL_law_668 (by omega) (by omega) ⟨by omega, by omega⟩ ?_
  refine cl_L_91 (As := [_, _]) hy dL_law_669 (c_X6_times hL.1 hWS (R32_toInt _) (R32_toInt _)) hL.1.1 rfl ⟨by decide, (Nat.le_of_ble_eq_true rfl)⟩ (Nat.le_of_ble_eq_true rfl) hf (fun z1 w1 hz1 => ?_)
  obtain ⟨e1, g1, hC⟩ := hz1
  refine j_aload_n dL_law_672 rfl ?_
  refine j_aload_n dL_law_673 rfl ?_
  refine j_iload_n dL_law_674 rfl ?_
  refine j_iconst dL_law_675 ?_
  refine j_iadd dL_law_676 ?_
  refine j_sld dL_law_677 (by omega) (by omega) ⟨by omega, by omega⟩ ?_
  refine j_aload_n dL_law_678 rfl ?_
  refine j_iload_n dL_law_679 rfl ?_
  refine j_iconst dL_law_680 ?_
  refine j_iadd dL_law_681 ?_
  refine j_sld dL_law_682 (by omega) (by omega) ⟨by omega, by omega⟩ ?_
  have hR := hL.mid g1
  obtain ⟨fs2, hb2⟩ := hR.own
  refine cl_L_94 (As := [_, _]) hy dL_law_683 (c_X7_times hR hWS (R32_toInt _) (R32_toInt _)) hb2 rfl ⟨by decide, (Nat.le_of_ble_eq_true rfl)⟩ (Nat.le_of_ble_eq_true rfl) hf (fun z2 w2 hz2 => ?_)
  obtain ⟨e2, g2, hR2⟩ := hz2
  have e3 : z2 = z1 := e2.trans e1.symm
  subst e3
  refine j_icmpS (tgt := 747) dL_law_686 (by decide) ?_
  exact kk _ (LW.fin hC g2 hR2 (hL.2.2))
set_option maxRecDepth 100000 in
set_option maxHeartbeats 4000000 in
theorem lc_19 {l : Launch} {D : gD} {y : MethodName} {rt : Option FieldType} {sz b Ls o k n : Nat} {xs : Nat → Int32} {i : Int} {σ : Wd} (hy : y.cls = RL) (h : IV D σ o) (hi : 0 ≤ i) (hi5 : i + 5 ≤ Ls) (hLs : Ls ≤ 2560) (hf : k ≤ room_1.cells ∧ n ≤ room_1.slots) (kk : ∀ w : Wd, IV D w o → J l D y cL_law 4 rt room_1 sz (fun q => sz ≤ q) (QEL b Ls xs) k n 747 [some (.ref b), some (.ref o), some (.ref (o + 128)), some (vi i)] [] w) : J l D y cL_law 4 rt room_1 sz (fun q => sz ≤ q) (QEL b Ls xs) k n 691 [some (.ref b), some (.ref o), some (.ref (o + 128)), some (vi i)] [] σ := by
  obtain ⟨S, SN, hs, n1, H, tn, ch, hL⟩ := h
  have hWS := hL.2.1.ws hL.2.2.1
  have hn := hL.2.1.le4
  refine j_aload_n dL_law_691 rfl ?_
  refine j_aload_n dL_law_692 rfl ?_
  refine j_iload_n dL_law_693 rfl ?_
  refine j_iconst dL_law_694 ?_
  refine j_iadd dL_law_695 ?_
  refine j_sld dL_law_696 (by omega) (by omega) ⟨by omega, by omega⟩ ?_
  refine j_aload_n dL_law_697 rfl ?_
  refine j_iload_n dL_law_698 rfl ?_
  refine j_iconst dL_law_699 ?_
  refine j_iadd dL_law_700 ?_
  refine j_sld dL_law_701 (by omega) (by omega) ⟨by omega, by omega⟩ ?_
  refine cl_L_95 (As := [_, _]) hy dL_law_702 (c_X6_solve hL.1 hWS (R32_toInt _) (R32_toInt _)) hL.1.1 rfl ⟨by decide, (Nat.le_of_ble_eq_true rfl)⟩ (Nat.le_of_ble_eq_true rfl) hf (fun z1 w1 hz1 => ?_)
  obtain ⟨e1, g1, hC⟩ := hz1
  refine j_aload_n dL_law_705 rfl ?_
  refine j_aload_n dL_law_706 rfl ?_
  refine j_iload_n dL_law_707 rfl ?_
  refine j_iconst dL_law_708 ?_
  refine j_iadd dL_law_709 ?_
  refine j_sld dL_law_710 (by omega) (by omega) ⟨by omega, by omega⟩ ?_
  refine j_aload_n dL_law_711 rfl ?_
  refine j_iload_n dL_law_712 rfl ?_
  refine j_iconst dL_law_713 ?_
  refine j_iadd dL_law_714 ?_
  refine j_sld dL_law_715 (by omega) (by omega) ⟨by omega, by omega⟩ ?_
  have hR := hL.mid g1
  obtain ⟨fs2, hb2⟩ := hR.own
  refine cl_L_98 (As := [_, _]) hy dL_law_716 (c_X7_solve hR hWS (R32_toInt _) (R32_toInt _)) hb2 rfl ⟨by decide, (Nat.le_of_ble_eq_true rfl)⟩ (Nat.le_of_ble_eq_true rfl) hf (fun z2 w2 hz2 => ?_)
  obtain ⟨e2, g2, hR2⟩ := hz2
  have e3 : z2 = z1 := e2.trans e1.symm
  subst e3
  refine j_icmpS (tgt := 747) dL_law_719 (by decide) ?_
  exact kk _ (LW.fin hC g2 hR2 (hL.2.2))
set_option maxRecDepth 100000 in
set_option maxHeartbeats 4000000 in
theorem lc_20 {l : Launch} {D : gD} {y : MethodName} {rt : Option FieldType} {sz b Ls o k n : Nat} {xs : Nat → Int32} {i : Int} {σ : Wd} (hy : y.cls = RL) (h : IV D σ o) (hi : 0 ≤ i) (hi5 : i + 5 ≤ Ls) (hLs : Ls ≤ 2560) (hf : k ≤ room_1.cells ∧ n ≤ room_1.slots) (kk : ∀ w : Wd, IV D w o → J l D y cL_law 4 rt room_1 sz (fun q => sz ≤ q) (QEL b Ls xs) k n 747 [some (.ref b), some (.ref o), some (.ref (o + 128)), some (vi i)] [] w) : J l D y cL_law 4 rt room_1 sz (fun q => sz ≤ q) (QEL b Ls xs) k n 724 [some (.ref b), some (.ref o), some (.ref (o + 128)), some (vi i)] [] σ := by
  obtain ⟨S, SN, hs, n1, H, tn, ch, hL⟩ := h
  have hWS := hL.2.1.ws hL.2.2.1
  have hn := hL.2.1.le4
  refine j_aload_n dL_law_724 rfl ?_
  refine j_aload_n dL_law_725 rfl ?_
  refine j_iload_n dL_law_726 rfl ?_
  refine j_iconst dL_law_727 ?_
  refine j_iadd dL_law_728 ?_
  refine j_sld dL_law_729 (by omega) (by omega) ⟨by omega, by omega⟩ ?_
  refine cl_L_99 (As := [_]) hy dL_law_730 (c_X6_count hL.1 hWS (R32_toInt _)) hL.1.1 rfl ⟨by decide, (Nat.le_of_ble_eq_true rfl)⟩ (Nat.le_of_ble_eq_true rfl) hf (fun z1 w1 hz1 => ?_)
  obtain ⟨e1, g1, hC⟩ := hz1
  refine j_aload_n dL_law_733 rfl ?_
  refine j_aload_n dL_law_734 rfl ?_
  refine j_iload_n dL_law_735 rfl ?_
  refine j_iconst dL_law_736 ?_
  refine j_iadd dL_law_737 ?_
  refine j_sld dL_law_738 (by omega) (by omega) ⟨by omega, by omega⟩ ?_
  have hR := hL.mid g1
  obtain ⟨fs2, hb2⟩ := hR.own
  refine cl_L_102 (As := [_]) hy dL_law_739 (c_X7_count hR hWS (R32_toInt _)) hb2 rfl ⟨by decide, (Nat.le_of_ble_eq_true rfl)⟩ (Nat.le_of_ble_eq_true rfl) hf (fun z2 w2 hz2 => ?_)
  obtain ⟨e2, g2, hR2⟩ := hz2
  have e3 : z2 = z1 := e2.trans e1.symm
  subst e3
  refine j_icmpS (tgt := 747) dL_law_742 (by decide) ?_
  exact kk _ (LW.fin hC g2 hR2 (hL.2.2))
set_option maxRecDepth 100000 in
set_option maxHeartbeats 4000000 in
theorem law_loop {l : Launch} {D : gD} {y : MethodName} {sz b Ls o : Nat} {xs : Nat → Int32} (hy : y.cls = RL) (hLs : Ls ≤ 2560) : ∀ (nn : Nat) (i : Int) (w : Wd), (Ls : Int) + 1 - i < nn → 0 ≤ i → i ≤ Ls → IV D w o → J l D y cL_law 4 ret room_1 sz (fun q => sz ≤ q) (QEL b Ls xs) 138 5872 18 [some (.ref b), some (.ref o), some (.ref (o + 128)), some (vi i)] [] w := by
  intro nn
  induction nn with
  | zero =>
    intro i w hnn h0 h1 hw
    exfalso
    omega
  | succ nn ih =>
    intro i w hnn h0 h1 hw
    refine j_iload_n dL_law_18 rfl ?_
    refine j_aload_n dL_law_19 rfl ?_
    refine j_slen dL_law_20 ?_
    refine j_iconst dL_law_21 ?_
    refine j_isub dL_law_22 ?_
    refine j_icmp_gt (tgt := 753) dL_law_23 (by decide) ⟨by omega, by omega⟩ ⟨by omega, by omega⟩ (fun h23 => ?_) (fun h23 => ?_)
    · refine j_iconst dL_law_753 ?_
      exact j_lret dL_law_754 (Nat.le_of_ble_eq_true rfl) (Nat.le_of_ble_eq_true rfl)
    · have K : ∀ w : Wd, IV D w o → J l D y cL_law 4 ret room_1 sz (fun q => sz ≤ q) (QEL b Ls xs) 138 5872 747 [some (.ref b), some (.ref o), some (.ref (o + 128)), some (vi i)] [] w := by
        intro u hu
        refine j_iinc dL_law_747 rfl (by decide) (by dsimp only [List.set] <;> rfl) ?_
        refine j_goto (tgt := 18) dL_law_750 (by decide) ?_
        exact ih (i + 5) u (by omega) (by omega) (by omega) hu
      refine j_aload_n dL_law_26 rfl ?_
      refine j_iload_n dL_law_27 rfl ?_
      refine j_sld dL_law_28 h0 (by omega) ⟨by omega, by omega⟩ ?_
      refine j_bipush dL_law_29 (by decide) ?_
      refine j_iand dL_law_31 ?_
      refine j_top (iI_of _).symm ?_
      have hvr := R32_toInt (iI (xs i.toNat).toInt &&& iI 31)
      revert hvr
      generalize (iI (xs i.toNat).toInt &&& iI 31).toInt = v
      intro hvr
      rcases Classical.em (v = 0) with hs | hs0
      · subst hs
        exact j_tsIn (tgt := 132) dL_law_32 ⟨by omega, by omega⟩ (by omega) (by omega) rfl (by decide) (lc_0 hy hw (by omega) (by omega) hLs ⟨(Nat.le_of_ble_eq_true rfl), (Nat.le_of_ble_eq_true rfl)⟩ K)
      rcases Classical.em (v = 1) with hs | hs1
      · subst hs
        exact j_tsIn (tgt := 155) dL_law_32 ⟨by omega, by omega⟩ (by omega) (by omega) rfl (by decide) (lc_1 hy hw (by omega) (by omega) hLs ⟨(Nat.le_of_ble_eq_true rfl), (Nat.le_of_ble_eq_true rfl)⟩ K)
      rcases Classical.em (v = 2) with hs | hs2
      · subst hs
        exact j_tsIn (tgt := 208) dL_law_32 ⟨by omega, by omega⟩ (by omega) (by omega) rfl (by decide) (lc_2 hy hw (by omega) (by omega) hLs ⟨(Nat.le_of_ble_eq_true rfl), (Nat.le_of_ble_eq_true rfl)⟩ K)
      rcases Classical.em (v = 3) with hs | hs3
      · subst hs
        exact j_tsIn (tgt := 241) dL_law_32 ⟨by omega, by omega⟩ (by omega) (by omega) rfl (by decide) (lc_3 hy hw (by omega) (by omega) hLs ⟨(Nat.le_of_ble_eq_true rfl), (Nat.le_of_ble_eq_true rfl)⟩ K)
      rcases Classical.em (v = 4) with hs | hs4
      · subst hs
        exact j_tsIn (tgt := 254) dL_law_32 ⟨by omega, by omega⟩ (by omega) (by omega) rfl (by decide) (lc_4 hy hw (by omega) (by omega) hLs ⟨(Nat.le_of_ble_eq_true rfl), (Nat.le_of_ble_eq_true rfl)⟩ K)
      rcases Classical.em (v = 5) with hs | hs5
      · subst hs
        exact j_tsIn (tgt := 297) dL_law_32 ⟨by omega, by omega⟩ (by omega) (by omega) rfl (by decide) (lc_5 hy hw (by omega) (by omega) hLs ⟨(Nat.le_of_ble_eq_true rfl), (Nat.le_of_ble_eq_true rfl)⟩ K)
      rcases Classical.em (v = 6) with hs | hs6
      · subst hs
        exact j_tsIn (tgt := 330) dL_law_32 ⟨by omega, by omega⟩ (by omega) (by omega) rfl (by decide) (lc_6 hy hw (by omega) (by omega) hLs ⟨(Nat.le_of_ble_eq_true rfl), (Nat.le_of_ble_eq_true rfl)⟩ K)
      rcases Classical.em (v = 7) with hs | hs7
      · subst hs
        exact j_tsIn (tgt := 363) dL_law_32 ⟨by omega, by omega⟩ (by omega) (by omega) rfl (by decide) (lc_7 hy hw (by omega) (by omega) hLs ⟨(Nat.le_of_ble_eq_true rfl), (Nat.le_of_ble_eq_true rfl)⟩ K)
      rcases Classical.em (v = 8) with hs | hs8
      · subst hs
        exact j_tsIn (tgt := 386) dL_law_32 ⟨by omega, by omega⟩ (by omega) (by omega) rfl (by decide) (lc_8 hy hw (by omega) (by omega) hLs ⟨(Nat.le_of_ble_eq_true rfl), (Nat.le_of_ble_eq_true rfl)⟩ K)
      rcases Classical.em (v = 9) with hs | hs9
      · subst hs
        exact j_tsIn (tgt := 411) dL_law_32 ⟨by omega, by omega⟩ (by omega) (by omega) rfl (by decide) (lc_9 hy hw (by omega) (by omega) hLs ⟨(Nat.le_of_ble_eq_true rfl), (Nat.le_of_ble_eq_true rfl)⟩ K)
      rcases Classical.em (v = 10) with hs | hs10
      · subst hs
        exact j_tsIn (tgt := 424) dL_law_32 ⟨by omega, by omega⟩ (by omega) (by omega) rfl (by decide) (lc_10 hy hw (by omega) (by omega) hLs ⟨(Nat.le_of_ble_eq_true rfl), (Nat.le_of_ble_eq_true rfl)⟩ K)
      rcases Classical.em (v = 11) with hs | hs11
      · subst hs
        exact j_tsIn (tgt := 437) dL_law_32 ⟨by omega, by omega⟩ (by omega) (by omega) rfl (by decide) (lc_11 hy hw (by omega) (by omega) hLs ⟨(Nat.le_of_ble_eq_true rfl), (Nat.le_of_ble_eq_true rfl)⟩ K)
      rcases Classical.em (v = 12) with hs | hs12
      · subst hs
        exact j_tsIn (tgt := 450) dL_law_32 ⟨by omega, by omega⟩ (by omega) (by omega) rfl (by decide) (lc_12 hy hw (by omega) (by omega) hLs ⟨(Nat.le_of_ble_eq_true rfl), (Nat.le_of_ble_eq_true rfl)⟩ K)
      rcases Classical.em (v = 13) with hs | hs13
      · subst hs
        exact j_tsIn (tgt := 463) dL_law_32 ⟨by omega, by omega⟩ (by omega) (by omega) rfl (by decide) (lc_13 hy hw (by omega) (by omega) hLs ⟨(Nat.le_of_ble_eq_true rfl), (Nat.le_of_ble_eq_true rfl)⟩ K)
      rcases Classical.em (v = 14) with hs | hs14
      · subst hs
        exact j_tsIn (tgt := 506) dL_law_32 ⟨by omega, by omega⟩ (by omega) (by omega) rfl (by decide) (lc_14 hy hw (by omega) (by omega) hLs ⟨(Nat.le_of_ble_eq_true rfl), (Nat.le_of_ble_eq_true rfl)⟩ K)
      rcases Classical.em (v = 15) with hs | hs15
      · subst hs
        exact j_tsIn (tgt := 539) dL_law_32 ⟨by omega, by omega⟩ (by omega) (by omega) rfl (by decide) (lc_15 hy hw (by omega) (by omega) hLs ⟨(Nat.le_of_ble_eq_true rfl), (Nat.le_of_ble_eq_true rfl)⟩ K)
      rcases Classical.em (v = 16) with hs | hs16
      · subst hs
        exact j_tsIn (tgt := 582) dL_law_32 ⟨by omega, by omega⟩ (by omega) (by omega) rfl (by decide) (lc_16 hy hw (by omega) (by omega) hLs ⟨(Nat.le_of_ble_eq_true rfl), (Nat.le_of_ble_eq_true rfl)⟩ K)
      rcases Classical.em (v = 17) with hs | hs17
      · subst hs
        exact j_tsIn (tgt := 625) dL_law_32 ⟨by omega, by omega⟩ (by omega) (by omega) rfl (by decide) (lc_17 hy hw (by omega) (by omega) hLs ⟨(Nat.le_of_ble_eq_true rfl), (Nat.le_of_ble_eq_true rfl)⟩ K)
      rcases Classical.em (v = 18) with hs | hs18
      · subst hs
        exact j_tsIn (tgt := 658) dL_law_32 ⟨by omega, by omega⟩ (by omega) (by omega) rfl (by decide) (lc_18 hy hw (by omega) (by omega) hLs ⟨(Nat.le_of_ble_eq_true rfl), (Nat.le_of_ble_eq_true rfl)⟩ K)
      rcases Classical.em (v = 19) with hs | hs19
      · subst hs
        exact j_tsIn (tgt := 691) dL_law_32 ⟨by omega, by omega⟩ (by omega) (by omega) rfl (by decide) (lc_19 hy hw (by omega) (by omega) hLs ⟨(Nat.le_of_ble_eq_true rfl), (Nat.le_of_ble_eq_true rfl)⟩ K)
      rcases Classical.em (v = 20) with hs | hs20
      · subst hs
        exact j_tsIn (tgt := 724) dL_law_32 ⟨by omega, by omega⟩ (by omega) (by omega) rfl (by decide) (lc_20 hy hw (by omega) (by omega) hLs ⟨(Nat.le_of_ble_eq_true rfl), (Nat.le_of_ble_eq_true rfl)⟩ K)
      exact j_tsOut (tgt := 747) dL_law_32 hvr (by omega) (by decide) (K w hw)

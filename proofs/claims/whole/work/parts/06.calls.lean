/-! ===== calls ===== -/
def revOn : List Value → List Value → List Value
  | [], r => r
  | a :: as, r => revOn as (a :: r)
theorem revOn_eq : ∀ (as r : List Value), revOn as r = as.reverse ++ r
  | [], r => rfl
  | a :: as, r => by
    show revOn as (a :: r) = _
    rw [revOn_eq as (a :: r)]
    simp
theorem W_size {p : Program} {l : Launch} {e : Env} {R : Room} {s : State} {m : MethodId} {args : Array Value} {below : List Frame} {meth : Method} {c : Code} {H : Heap} {locs : List Loc} {cells slots : Nat} {Q : State → Prop} {g : JFrame}
    (h : H.size ≤ s.heap.size + cells → W p l e R s m args below meth c H locs cells slots Q g) : W p l e R s m args below meth c H locs cells slots Q g := by
  intro T hT X
  have h3 := X.same.2.2.1
  refine h ?_ T hT X
  rw [← hT]
  exact h3
theorem TB_calling {U : State} {g : JFrame} {mk : MethodId} {a : Array Value} (h : TB U) : TB (U.calling g mk a) := h.warm (State.WarmedH.refl U)
theorem pre_blind {D : gD} {as : List Value} {σ : Wd} {sz : Nat} : FrameBlind (va_Pc as (fun U => U.heap.size = sz ∧ HW D σ U.heap ∧ KK D U ∧ TB U)) := by
  rintro a U g mk ⟨h1, h2, h3, h4, h5⟩
  exact ⟨h1, h2, h3, KK.moved (U := U.calling g mk a) (Vm.Alike.refl U.vm) h4, TB_calling h5⟩
def wCallB (own : String) (idx : Nat) (y : MethodName) (b : ByteArray) (nL : Nat) (rt : Option FieldType) (ar : Nat) : Prop :=
  plainName y.cls = true ∧ Cond.code y b nL rt ∈ TBl ∧ Cond.initialized y.cls ∈ TBl ∧ (y.cls ≠ "java/lang/invoke/MethodHandle" ∧ y.cls ≠ "java/lang/invoke/VarHandle") ∧ (parseMethodDescriptor y.desc).map (fun d => d.parameters.length) = some ar
theorem callB_mk {R : Room} {s : State} {args : Array Value} {own : String} {idx : Nat} {y : MethodName} {b : ByteArray} {nL : Nat} {rt : Option FieldType} {ar : Nat} {rm : Room} {mc ms : Nat} (hT : TB s) (w : wCallB own idx y b nL rt ar) (hrc : rm.cells = mc) (hrs : rm.slots = ms) (hR : rm.frames + 1 ≤ R.frames ∧ 8 + (nL + 11) + rm.locals ≤ R.locals) :
    (rm.cells = mc ∧ rm.slots = ms ∧ rm.frames + 1 ≤ R.frames ∧ 8 + (nL + 11) + rm.locals ≤ R.locals ∧ (∀ w ∈ [Cond.code y b nL rt], ∀ (a' : Array Value) (U : State), s.WarmedH U.vm → w.before a' U = true) ∧ Cond.code y b nL rt ∈ [Cond.code y b nL rt]) ∧
    (Cond.code y b nL rt).before args s = true ∧ (Cond.initialized y.cls).before args s = true ∧ (y.cls ≠ "java/lang/invoke/MethodHandle" ∧ y.cls ≠ "java/lang/invoke/VarHandle") ∧ (∀ sig, parseMethodDescriptor y.desc = some sig → ar = sig.parameters.length) := by
  obtain ⟨-, w1, w2, w3, w4⟩ := w
  refine ⟨⟨hrc, hrs, hR.1, hR.2, fun w hw a' U hW => ?_, List.mem_singleton.mpr rfl⟩, hT _ w1 args, hT _ w2 args, w3, fun sig h => ?_⟩
  · rw [List.mem_singleton.mp hw]
    exact hT.warm hW _ w1 a'
  · rw [h] at w4
    exact (Option.some.inj w4).symm
section JCall
variable {l : Launch} {D : gD} {y : MethodName} {cc : ByteArray} {nL : Nat} {rt : Option FieldType} {R : Room} {sz : Nat} {A : Nat → Prop} {QE : List Frame → Array Value → State → State → Prop} {k n pc : Nat} {L L' : List (Option Value)} {st : List Value} {σ σ0 : Wd}
theorem j_ofRun {mc ms sz' : Nat} {rest st0 : List Value} {p : Program} {e : Env} {s : State} {m : MethodId} {args : Array Value} {below : List Frame} {meth : Method} {c : Code} {H : Heap} {locs : List Loc} {ls : Array Slot} {P : Option Value → Wd → Prop} {a : Array Value}
    (hr : va_Run p l e R s m args below meth c H locs k n mc ms (F0 m pc ls st0) rest (Qc0 D σ sz' P a) (AA σ sz')) (hsz : H.size = sz') (C : JC D y cc nL rt sz p s m meth c) (hl : LH ls nL L) (hd : ∀ a e, σ a = some e → A a) (hq : ∀ q, sz ≤ q → A q) (hS : va_S A s.heap H locs)
    (kk : ∀ (r : Option Value) (σ1 : Wd), P r σ1 → J l D y cc nL rt R sz A QE (k + mc) (n + ms) (pc + 3) L (r.toList ++ rest) σ1) : W p l e R s m args below meth c H locs k n (QE below args s) (F0 m pc ls st0) := by
  have hAA : ∀ q, AA σ sz' q → A q := by
    intro q h
    rcases h with h | h
    · cases hσ : σ q with
      | none => exact absurd hσ h
      | some e => exact hd q e hσ
    · exact hq q (by have h1 := hS.1; have h2 := C.2.2.2.2.2.2.2.2.2; omega)
  intro T hT X
  obtain ⟨v, st₀, t, T', Lc, h0, X', hL, e1, e2, ⟨⟨r, σ1, hv, hP, hW1, hd1⟩, hz, hk⟩, st⟩ := hr T hT X
  cases hv
  rw [h0] at hz hk
  obtain ⟨t2, a1, b1⟩ := kk v σ1 hP p e s m args below meth c C T'.heap (locs ++ Lc) ls hl (by rw [e1]; exact hW1) (fun a e h => hAA a (hd1 a e h)) hq
    ⟨Nat.le_trans hS.1 (by rw [e1]; exact hz), fun q h1 h2 => by rw [e1, hk q (Nat.lt_of_lt_of_le h1 hS.1) (fun z => h2 (hAA q z))]; exact hS.2.1 q h1 h2, fun q hq => by
      rcases List.mem_append.mp hq with h | h
      · exact hS.2.2 q h
      · exact hAA _ (hL q h)⟩ T' rfl X'
  exact ⟨t2, st t2 a1, b1⟩
theorem j_pre {as : List Value} {s : State} {H : Heap} (hT : TB s) (hK : KK D s) (hW : HW D σ H) : ∀ U : State, U.heap = H → s.WarmedH U.vm → va_Pc as (fun U => U.heap.size = H.size ∧ HW D σ U.heap ∧ KK D U ∧ TB U) as.toArray U :=
  fun U hU hw => ⟨rfl, by rw [hU], by rw [hU]; exact hW, hK.moved hw.alike, hT.warm hw⟩
theorem j_recv {s : State} {H : Heap} {b ci : Nat} {fs : List Value} {r : vw_C} (hK : KK D s) (hW : HW D σ H) (hb : σ b = some (.inr (ci, fs))) (hc : vwCl[ci]? = some r) : ∃ cell : Cell, H[b]? = some cell ∧ cell.vm.isStatics = false ∧ s.vm.findClass r.1 = some cell.cls := by
  obtain ⟨ws, hP, hD, hs⟩ := hW
  obtain ⟨q0, hq0⟩ := (hs b _).mp hb
  exact va_recv hK.1 hP hc hq0
theorem j_callV {yM : MethodName} {bM : ByteArray} {nLM : Nat} {rtM : Option FieldType} {rm : Room} {mc ms b ci idx ar : Nat} {fs : List Value} {r : vw_C} {As rest : List Value} {P : Nat → Option Value → Wd → Prop} (w : wCallB y.cls idx yM bM nLM rtM ar) (hlink : Cond.methodLink y.cls idx yM ∈ TBl) (hinst : Cond.instanceMethod yM ∈ TBl) (hsel : Cond.selects yM.cls yM yM ∈ TBl) (hc : vwCl[ci]? = some r) (hcn : r.1 = yM.cls)
    (hdg : decode cc pc = .ok (.invokevirtual idx, 3)) (hM : SP l D yM bM nLM rtM rm (.ref b :: As) σ mc ms P) (hb : σ b = some (.inr (ci, fs))) (har : As.length = ar) (hrm : rm.cells = mc ∧ rm.slots = ms) (hR : rm.frames + 1 ≤ R.frames ∧ 8 + (nLM + 11) + rm.locals ≤ R.locals) (hcat : (rest.map fun v => v.category).sum ≤ 8) (hf : k + mc ≤ R.cells ∧ n + ms ≤ R.slots)
    (kk : ∀ (sz' : Nat) (r : Option Value) (σ1 : Wd), (sz ≤ sz' ∧ sz' ≤ sz + k ∧ ∀ a e, σ a = some e → a < sz') → P sz' r σ1 → J l D y cc nL rt R sz A QE (k + mc) (n + ms) (pc + 3) L (r.toList ++ rest) σ1) : J l D y cc nL rt R sz A QE k n pc L (revOn As (.ref b :: rest)) σ := by
  intro p e s m args below meth c C H locs ls hl hW hd hq hS
  obtain ⟨hx, hbc, hml, hrt, hown, hlk, hnm, hT, hK, hsz⟩ := id C
  obtain ⟨g1, g2, g3, g4, g5⟩ := callB_mk (args := args) (R := R) (rm := rm) (mc := mc) (ms := ms) hT w hrm.1 hrm.2 hR
  refine W_size (fun hsz1 => ?_)
  refine j_ofRun (va_runV (As := As) (rest := rest) (b := b) (C := r.1) (n := ar) (ws := [Cond.code yM bM nLM rtM]) (bytes := bM) (maxL := nLM) (ret := rtM) (Ts := TBl) ⟨hx, hbc, hml, hown, fun w hw => hT w hw args⟩ (hM H.size) ⟨⟨g1.1, g1.2.1, g1.2.2.1, g1.2.2.2.1, g1.2.2.2.2.1, g1.2.2.2.2.2, g2, g3, g4, g5, hT _ hlink args⟩, hT _ hinst args, by rw [hcn]; exact hT _ hsel args⟩ ⟨pre_blind, j_recv hK hW hb hc, j_pre hT hK hW⟩ rfl har hl.1.1 (by rw [revOn_eq]) (lv_room hcat) hdg hf) rfl C hl hd hq hS (fun r1 σ1 h => kk H.size r1 σ1 ⟨by rw [← hsz]; exact hS.1, by rw [← hsz]; exact hsz1, fun a e h => hW.lt h⟩ h)
theorem j_callS {yM : MethodName} {bM : ByteArray} {nLM : Nat} {rtM : Option FieldType} {rm : Room} {mc ms idx ar : Nat} {As rest : List Value} {P : Nat → Option Value → Wd → Prop} (w : wCallB y.cls idx yM bM nLM rtM ar) (hlink : Cond.methodLink y.cls idx yM ∈ TBl) (hst : Cond.static yM ∈ TBl)
    (hdg : decode cc pc = .ok (.invokestatic idx, 3)) (hM : SP l D yM bM nLM rtM rm As σ mc ms P) (har : As.length = ar) (hrm : rm.cells = mc ∧ rm.slots = ms) (hR : rm.frames + 1 ≤ R.frames ∧ 8 + (nLM + 11) + rm.locals ≤ R.locals) (hcat : (rest.map fun v => v.category).sum ≤ 8) (hf : k + mc ≤ R.cells ∧ n + ms ≤ R.slots)
    (kk : ∀ (sz' : Nat) (r : Option Value) (σ1 : Wd), (sz ≤ sz' ∧ sz' ≤ sz + k ∧ ∀ a e, σ a = some e → a < sz') → P sz' r σ1 → J l D y cc nL rt R sz A QE (k + mc) (n + ms) (pc + 3) L (r.toList ++ rest) σ1) : J l D y cc nL rt R sz A QE k n pc L (revOn As rest) σ := by
  intro p e s m args below meth c C H locs ls hl hW hd hq hS
  obtain ⟨hx, hbc, hml, hrt, hown, hlk, hnm, hT, hK, hsz⟩ := id C
  obtain ⟨g1, g2, g3, g4, g5⟩ := callB_mk (args := args) (R := R) (rm := rm) (mc := mc) (ms := ms) hT w hrm.1 hrm.2 hR
  refine W_size (fun hsz1 => ?_)
  refine j_ofRun (va_runS (As := As) (rest := rest) (n := ar) (ws := [Cond.code yM bM nLM rtM]) (bytes := bM) (maxL := nLM) (ret := rtM) (Ts := TBl) ⟨hx, hbc, hml, hown, fun w hw => hT w hw args⟩ (hM H.size) ⟨⟨g1.1, g1.2.1, g1.2.2.1, g1.2.2.2.1, g1.2.2.2.2.1, g1.2.2.2.2.2, g2, g3, g4, g5, hT _ hlink args⟩, hT _ hst args⟩ ⟨pre_blind, j_pre hT hK hW⟩ rfl har hl.1.1 (by rw [revOn_eq]) (lv_room hcat) hdg hf) rfl C hl hd hq hS (fun r1 σ1 h => kk H.size r1 σ1 ⟨by rw [← hsz]; exact hS.1, by rw [← hsz]; exact hsz1, fun a e h => hW.lt h⟩ h)
theorem j_callSN {yM : MethodName} {host : String} {bM : ByteArray} {nLM : Nat} {rtM : Option FieldType} {rm : Room} {mc ms idx ar : Nat} {As rest : List Value} {P : Nat → Option Value → Wd → Prop} (w : wCallB y.cls idx yM bM nLM rtM ar) (hlink : Cond.methodLinkNest y.cls idx yM host ∈ TBl) (hst : Cond.static yM ∈ TBl)
    (hdg : decode cc pc = .ok (.invokestatic idx, 3)) (hM : SP l D yM bM nLM rtM rm As σ mc ms P) (har : As.length = ar) (hrm : rm.cells = mc ∧ rm.slots = ms) (hR : rm.frames + 1 ≤ R.frames ∧ 8 + (nLM + 11) + rm.locals ≤ R.locals) (hcat : (rest.map fun v => v.category).sum ≤ 8) (hf : k + mc ≤ R.cells ∧ n + ms ≤ R.slots)
    (kk : ∀ (sz' : Nat) (r : Option Value) (σ1 : Wd), (sz ≤ sz' ∧ sz' ≤ sz + k ∧ ∀ a e, σ a = some e → a < sz') → P sz' r σ1 → J l D y cc nL rt R sz A QE (k + mc) (n + ms) (pc + 3) L (r.toList ++ rest) σ1) : J l D y cc nL rt R sz A QE k n pc L (revOn As rest) σ := by
  intro p e s m args below meth c C H locs ls hl hW hd hq hS
  obtain ⟨hx, hbc, hml, hrt, hown, hlk, hnm, hT, hK, hsz⟩ := id C
  obtain ⟨g1, g2, g3, g4, g5⟩ := callB_mk (args := args) (R := R) (rm := rm) (mc := mc) (ms := ms) hT w hrm.1 hrm.2 hR
  refine W_size (fun hsz1 => ?_)
  refine j_ofRun (va_runSN (As := As) (rest := rest) (n := ar) (ws := [Cond.code yM bM nLM rtM]) (bytes := bM) (maxL := nLM) (ret := rtM) (Ts := TBl) ⟨hx, hbc, hml, hown, fun w hw => hT w hw args⟩ (hM H.size) ⟨⟨g1, g2, g3, g4, g5, hT _ hlink args⟩, hT _ hst args, trivial⟩ ⟨pre_blind, j_pre hT hK hW⟩ rfl har hl.1.1 (by rw [revOn_eq]) (lv_room hcat) hdg hf) rfl C hl hd hq hS (fun r1 σ1 h => kk H.size r1 σ1 ⟨by rw [← hsz]; exact hS.1, by rw [← hsz]; exact hsz1, fun a e h => hW.lt h⟩ h)
theorem j_callI {yM : MethodName} {bM : ByteArray} {nLM : Nat} {rm : Room} {mc ms b idx ar : Nat} {As rest : List Value} {P : Nat → Option Value → Wd → Prop} (w : wCallB y.cls idx yM bM nLM none ar) (hlink : Cond.methodLink y.cls idx yM ∈ TBl) (hinst : Cond.instanceMethod yM ∈ TBl) (hini : yM.name = "<init>")
    (hdg : decode cc pc = .ok (.invokespecial idx, 3)) (hM : SP l D yM bM nLM none rm (.ref b :: As) σ mc ms P) (har : As.length = ar) (hrm : rm.cells = mc ∧ rm.slots = ms) (hR : rm.frames + 1 ≤ R.frames ∧ 8 + (nLM + 11) + rm.locals ≤ R.locals) (hcat : (rest.map fun v => v.category).sum ≤ 8) (hf : k + mc ≤ R.cells ∧ n + ms ≤ R.slots)
    (kk : ∀ (sz' : Nat) (r : Option Value) (σ1 : Wd), (sz ≤ sz' ∧ sz' ≤ sz + k ∧ ∀ a e, σ a = some e → a < sz') → P sz' r σ1 → J l D y cc nL rt R sz A QE (k + mc) (n + ms) (pc + 3) L (r.toList ++ rest) σ1) : J l D y cc nL rt R sz A QE k n pc L (revOn As (.ref b :: rest)) σ := by
  intro p e s m args below meth c C H locs ls hl hW hd hq hS
  obtain ⟨hx, hbc, hml, hrt, hown, hlk, hnm, hT, hK, hsz⟩ := id C
  obtain ⟨g1, g2, g3, g4, g5⟩ := callB_mk (args := args) (R := R) (rm := rm) (mc := mc) (ms := ms) hT w hrm.1 hrm.2 hR
  refine W_size (fun hsz1 => ?_)
  refine j_ofRun (va_runI (As := As) (rest := rest) (b := b) (n := ar) (ws := [Cond.code yM bM nLM none]) (bytes := bM) (maxL := nLM) (Ts := TBl) ⟨hx, hbc, hml, hown, fun w hw => hT w hw args⟩ (hM H.size) ⟨⟨g1.1, g1.2.1, g1.2.2.1, g1.2.2.2.1, g1.2.2.2.2.1, g1.2.2.2.2.2, g2, g3, g4, g5, hT _ hlink args⟩, hini, hT _ hinst args⟩ ⟨pre_blind, j_pre hT hK hW⟩ rfl har hl.1.1 (by rw [revOn_eq]) (lv_room hcat) hdg hf) rfl C hl hd hq hS (fun r1 σ1 h => kk H.size r1 σ1 ⟨by rw [← hsz]; exact hS.1, by rw [← hsz]; exact hsz1, fun a e h => hW.lt h⟩ h)
theorem j_callIN {yM : MethodName} {host : String} {bM : ByteArray} {nLM : Nat} {rm : Room} {mc ms b idx ar : Nat} {As rest : List Value} {P : Nat → Option Value → Wd → Prop} (w : wCallB y.cls idx yM bM nLM none ar) (hlink : Cond.methodLinkNest y.cls idx yM host ∈ TBl) (hinst : Cond.instanceMethod yM ∈ TBl) (hini : yM.name = "<init>")
    (hdg : decode cc pc = .ok (.invokespecial idx, 3)) (hM : SP l D yM bM nLM none rm (.ref b :: As) σ mc ms P) (har : As.length = ar) (hrm : rm.cells = mc ∧ rm.slots = ms) (hR : rm.frames + 1 ≤ R.frames ∧ 8 + (nLM + 11) + rm.locals ≤ R.locals) (hcat : (rest.map fun v => v.category).sum ≤ 8) (hf : k + mc ≤ R.cells ∧ n + ms ≤ R.slots)
    (kk : ∀ (sz' : Nat) (r : Option Value) (σ1 : Wd), (sz ≤ sz' ∧ sz' ≤ sz + k ∧ ∀ a e, σ a = some e → a < sz') → P sz' r σ1 → J l D y cc nL rt R sz A QE (k + mc) (n + ms) (pc + 3) L (r.toList ++ rest) σ1) : J l D y cc nL rt R sz A QE k n pc L (revOn As (.ref b :: rest)) σ := by
  intro p e s m args below meth c C H locs ls hl hW hd hq hS
  obtain ⟨hx, hbc, hml, hrt, hown, hlk, hnm, hT, hK, hsz⟩ := id C
  obtain ⟨g1, g2, g3, g4, g5⟩ := callB_mk (args := args) (R := R) (rm := rm) (mc := mc) (ms := ms) hT w hrm.1 hrm.2 hR
  refine W_size (fun hsz1 => ?_)
  refine j_ofRun (va_runIN (As := As) (rest := rest) (b := b) (n := ar) (ws := [Cond.code yM bM nLM none]) (bytes := bM) (maxL := nLM) (Ts := TBl) ⟨hx, hbc, hml, hown, fun w hw => hT w hw args⟩ (hM H.size) ⟨⟨g1, g2, g3, g4, g5, hT _ hlink args⟩, hini, hT _ hinst args⟩ ⟨pre_blind, j_pre hT hK hW⟩ rfl har hl.1.1 (by rw [revOn_eq]) (lv_room hcat) hdg hf) rfl C hl hd hq hS (fun r1 σ1 h => kk H.size r1 σ1 ⟨by rw [← hsz]; exact hS.1, by rw [← hsz]; exact hsz1, fun a e h => hW.lt h⟩ h)
end JCall

/-! ===== making: objects, rows, rows of references, a row of rows; Object.<init> ===== -/
theorem HW.kept {D : gD} {σ : Wd} {H H1 : Heap} (h : HW D σ H) (hq : ∀ a e, σ a = some e → H1[a]? = H[a]?) : HW D σ H1 := by
  obtain ⟨ws, hP, hD, hs⟩ := h
  exact ⟨ws, hP.kept (fun k x hx => hq x.1 x.2 ((hs x.1 x.2).mpr ⟨k, hx⟩)), hD, hs⟩
theorem HW.add {D : gD} {σ : Wd} {H : Heap} {a : Nat} {e : va_E} (h : HW D σ H) (hn : σ a = none) (hat : va_at D.1 vwCl (a, e) H) : HW D (wup σ a e) H := by
  obtain ⟨ws, hP, hD, hs⟩ := h
  have hP1 : va_P D.1 vwCl (ws ++ [(a, e)]) H := hP.app (fun k x hx => by
    have hz : k < 1 := (List.getElem?_eq_some_iff.mp hx).1
    rw [show k = 0 by omega] at hx
    cases hx
    exact hat)
  have key : ∀ (k : Nat) (q : Nat × va_E), (ws ++ [(a, e)])[k]? = some q → (ws[k]? = some q ∧ q.1 ≠ a) ∨ (k = ws.length ∧ q.1 = a) := by
    intro k q hk
    by_cases hl : k < ws.length
    · rw [List.getElem?_append_left hl] at hk
      refine Or.inl ⟨hk, fun z => ?_⟩
      have h1 := (hs a q.2).mpr ⟨k, by rw [hk, ← z]⟩
      rw [hn] at h1
      cases h1
    · rw [List.getElem?_append_right (by omega)] at hk
      have h1 : k - ws.length < 1 := (List.getElem?_eq_some_iff.mp hk).1
      rw [show k - ws.length = 0 by omega] at hk
      cases hk
      exact Or.inr ⟨by omega, rfl⟩
  have hD1 : va_D (fun _ => True) (ws ++ [(a, e)]) := by
    refine ⟨fun i j p q hi hj he => ?_, fun _ _ _ => trivial⟩
    rcases key i p hi with ⟨a2, a3⟩ | ⟨a1, a2⟩ <;> rcases key j q hj with ⟨b2, b3⟩ | ⟨b1, b2⟩
    · exact hD.1 i j p q a2 b2 he
    · exact absurd (he.trans b2) a3
    · exact absurd (he.symm.trans a2) b3
    · omega
  exact HW.push hs hP1 hD1
theorem HW.none {D : gD} {σ : Wd} {H : Heap} (h : HW D σ H) {a : Nat} (ha : H.size ≤ a) : σ a = none := by
  cases hσ : σ a with
  | none => rfl
  | some e => exact absurd (h.lt hσ) (by omega)
theorem pd_dom {A : Nat → Prop} {σ : Wd} {a : Nat} {e : va_E} (hd : ∀ a e, σ a = some e → A a) (ha : A a) : ∀ b x, wup σ a e b = some x → A b := by
  intro b x hb
  by_cases h : b = a
  · rw [h]
    exact ha
  · rw [wup_n h] at hb
    exact hd b x hb
/-- one cell more -/
theorem j_push {D : gD} {σ : Wd} {A : Nat → Prop} {s : State} {H H1 : Heap} {locs : List Loc} {sz : Nat} (e : va_E) (hW : HW D σ H) (hd : ∀ a e, σ a = some e → A a) (hq : ∀ q, sz ≤ q → A q) (hsz : s.heap.size = sz) (hS : va_S A s.heap H locs) (z1 : H1.size = H.size + 1) (o1 : ∀ q : Nat, q < H.size → H1[q]? = H[q]?) (hat : va_at D.1 vwCl (H.size, e) H1) : HW D (wup σ H.size e) H1 ∧ (∀ a x, wup σ H.size e a = some x → A a) ∧ va_S A s.heap H1 locs := by
  have hA : A H.size := hq _ (by rw [← hsz]; exact hS.1)
  exact ⟨(hW.kept (fun a x hx => o1 a (hW.lt hx))).add (hW.none (Nat.le_refl _)) hat, pd_dom hd hA, Nat.le_trans hS.1 (by omega), fun x h1 h2 => (o1 x (Nat.lt_of_lt_of_le h1 hS.1)).trans (hS.2.1 x h1 h2), hS.2.2⟩
theorem wob_i : Cond.instanceMethod objectInit ∈ TBl := TB_in 74 (by decide +kernel) rfl
theorem wob_c : Cond.code objectInit ⟨#[0xb1]⟩ 1 none ∈ TBl := TB_in 75 (by decide +kernel) rfl
theorem acl_int : Cond.arrayClass .int ∈ TBl := TB_in 99 (by decide +kernel) rfl
theorem acl_char : Cond.arrayClass .char ∈ TBl := TB_in 669 (by decide +kernel) rfl
theorem acl_bool : Cond.arrayClass .boolean ∈ TBl := TB_in 670 (by decide +kernel) rfl
theorem cln_mult : Cond.classLink RX0 9 "[[I" ∈ TBl := TB_in 178 (by decide +kernel) rfl
section JM
variable {l : Launch} {D : gD} {y : MethodName} {cc : ByteArray} {nL : Nat} {rt : Option FieldType} {R : Room} {sz : Nat} {A : Nat → Prop} {QE : List Frame → Array Value → State → State → Prop} {k n pc : Nat} {L L' : List (Option Value)} {st : List Value} {σ σ0 : Wd}
theorem j_objInit {idx : Nat} {a : Nat} (hlink : Cond.methodLink y.cls idx objectInit ∈ TBl) (hdg : decode cc pc = .ok (.invokespecial idx, 3)) (hfr : 1 ≤ R.frames) (hlo : 2 * 0 + (st.map fun v => v.category).sum + 12 ≤ R.locals) (kk : J l D y cc nL rt R sz A QE k n (pc + 3) L st σ) : J l D y cc nL rt R sz A QE k n pc L (.ref a :: st) σ := by
  intro p e s m args below meth c Cx H locs ls hl hW hd hq hS
  have hts : ∀ w ∈ TBl, w.before args s = true := fun w hw => Cx.2.2.2.2.2.2.2.1 w hw args
  exact W.objInit Cx.1 Cx.2.1 Cx.2.2.2.2.1 (hts _ hlink) (hts _ wob_i) (hts _ wob_c) rfl (hl.1.1.trans Cx.2.2.1.symm) rfl hdg hfr hlo (kk p e s m args below meth c Cx H locs ls hl hW hd hq hS)
theorem j_new {C : String} {T : u_T} {N ci index : Nat} {fs : List Value} (hin : ∀ w ∈ u_ws C T N, w ∈ TBl) (ty : Nat → FieldType) (hty : ∀ k, k < N → parseFieldDescriptor (T k).2.2.1 = some (ty k)) (hcl : Cond.classLink y.cls index C ∈ TBl) (hinst : Cond.instantiable C N ∈ TBl) (hini : Cond.initialized C ∈ TBl) (hc : vwCl[ci]? = some (C, T, N)) (hfs : ∀ j, j < N → defaultValue (ty j) = vp_V fs j) (hdg : decode cc pc = .ok (.new index, 3)) (hcells : k + 1 ≤ R.cells) (hslots : n + N ≤ R.slots)
    (kk : ∀ a : Nat, sz ≤ a → a ≤ sz + k → (∀ b e, σ b = some e → b < a) → J l D y cc nL rt R sz A QE (k + 1) (n + N) (pc + 3) L (.ref a :: st) (wup σ a (.inr (ci, fs)))) : J l D y cc nL rt R sz A QE k n pc L st σ := by
  intro p e s m args below meth c Cx H locs ls hl hW hd hq hS
  obtain ⟨hx, hbc, hml, hrt, hown, hlk, hnm, hT, hK, hsz⟩ := id Cx
  have hts : ∀ w ∈ TBl, w.before args s = true := fun w hw => hT w hw args
  have hKn := hK.1.1 ci _ hc
  refine W_size (fun hsz1 => ?_)
  refine W.newcK hx hbc hown (hts _ hcl) (hts _ hinst) (hts _ hini) rfl hdg hcells hslots hKn.2.1 rfl fun H1 kC hkC e1 z1 o1 => ?_
  obtain ⟨w1, w2, w3⟩ := j_push (H1 := H1) (.inr (ci, fs)) hW hd hq hsz hS z1 o1 ⟨_, hc, (u_born ty hts hin hKn hkC e1 hty).to hfs⟩
  exact kk H.size (by rw [← hsz]; exact hS.1) (by rw [← hsz]; exact hsz1) (fun b e h => hW.lt h) p e s m args below meth c Cx H1 locs ls hl w1 w2 hq w3
theorem j_newa {atype : ArrayType} {i N : Nat} {z : Int} (harr : Cond.arrayClass (newarray.typeOf atype) ∈ TBl) (hi : (tysOf D)[i]? = some (D.2 i, newarray.typeOf atype)) (hra : ∀ (U : State) (cA : ClassId), va_RA U cA (newarray.typeOf atype) → U.vm.findClass ("[" ++ (newarray.typeOf atype).toString) = some cA) (hdv : defaultValue (newarray.typeOf atype) = .int 0) (hdg : decode cc pc = .ok (.newarray atype, 2)) (hN : z = N) (hz : R32 z) (hby : N * componentBytes (newarray.typeOf atype) ≤ 536870912) (hcells : k + 1 ≤ R.cells) (hslots : n + N ≤ R.slots)
    (kk : ∀ a : Nat, sz ≤ a → a ≤ sz + k → (∀ b e, σ b = some e → b < a) → J l D y cc nL rt R sz A QE (k + 1) (n + N) (pc + 2) L (.ref a :: st) (wup σ a (.inl (D.2 i, N, .inl (fun _ => iI 0))))) : J l D y cc nL rt R sz A QE k n pc L (vi z :: st) σ := by
  intro p e s m args below meth c Cx H locs ls hl hW hd hq hS
  obtain ⟨hx, hbc, hml, hrt, hown, hlk, hnm, hT, hK, hsz⟩ := id Cx
  refine W_size (fun hsz1 => ?_)
  refine va_newaK hx hbc (hT _ harr args) rfl hdg rfl (iI_nneg hz (by omega)) (N := N) (by rw [iI_cl hz]; omega) hby hcells hslots rfl fun H1 cA e1 z1 o1 hAr hNm => ?_
  have hcA : cA = D.2 i := Option.some.inj (hNm.symm.trans (hra s _ (hK.1.2 i _ hi).2))
  subst hcA
  obtain ⟨w1, w2, w3⟩ := j_push (H1 := H1) (.inl (D.2 i, N, .inl (fun _ => iI 0))) hW hd hq hsz hS z1 o1 (by
    show H1[H.size]? = some (vp_cell (D.2 i) (N, .inl (fun _ => iI 0)))
    rw [e1, vp_cell_i, hdv]
    rfl)
  exact kk H.size (by rw [← hsz]; exact hS.1) (by rw [← hsz]; exact hsz1) (fun b e h => hW.lt h) p e s m args below meth c Cx H1 locs ls hl w1 w2 hq w3
theorem j_newI {N : Nat} {z : Int} (hdg : decode cc pc = .ok (.newarray .int, 2)) (hN : z = N) (hz : R32 z) (hby : N * 4 ≤ 536870912) (hcells : k + 1 ≤ R.cells) (hslots : n + N ≤ R.slots)
    (kk : ∀ a : Nat, sz ≤ a → a ≤ sz + k → (∀ b e, σ b = some e → b < a) → J l D y cc nL rt R sz A QE (k + 1) (n + N) (pc + 2) L (.ref a :: st) (wup σ a (ia D N (fun _ => 0)))) : J l D y cc nL rt R sz A QE k n pc L (vi z :: st) σ :=
  j_newa (atype := .int) (i := 0) acl_int rfl (fun _ _ h => h) rfl hdg hN hz hby hcells hslots kk
theorem j_newC {N : Nat} {z : Int} (hdg : decode cc pc = .ok (.newarray .char, 2)) (hN : z = N) (hz : R32 z) (hby : N * 2 ≤ 536870912) (hcells : k + 1 ≤ R.cells) (hslots : n + N ≤ R.slots)
    (kk : ∀ a : Nat, sz ≤ a → a ≤ sz + k → (∀ b e, σ b = some e → b < a) → J l D y cc nL rt R sz A QE (k + 1) (n + N) (pc + 2) L (.ref a :: st) (wup σ a (ca D N (fun _ => 0)))) : J l D y cc nL rt R sz A QE k n pc L (vi z :: st) σ :=
  j_newa (atype := .char) (i := 1) acl_char rfl (fun _ _ h => h) rfl hdg hN hz hby hcells hslots kk
theorem j_newZ {N : Nat} {z : Int} (hdg : decode cc pc = .ok (.newarray .boolean, 2)) (hN : z = N) (hz : R32 z) (hby : N * 1 ≤ 536870912) (hcells : k + 1 ≤ R.cells) (hslots : n + N ≤ R.slots)
    (kk : ∀ a : Nat, sz ≤ a → a ≤ sz + k → (∀ b e, σ b = some e → b < a) → J l D y cc nL rt R sz A QE (k + 1) (n + N) (pc + 2) L (.ref a :: st) (wup σ a (za D N (fun _ => 0)))) : J l D y cc nL rt R sz A QE k n pc L (vi z :: st) σ :=
  j_newa (atype := .boolean) (i := 2) acl_bool rfl (fun _ _ h => h) rfl hdg hN hz hby hcells hslots kk
theorem j_newq {C : String} {i index N : Nat} {z : Int} (hcl : Cond.classLink y.cls index C ∈ TBl) (hi : (tysOf D)[i]? = some (D.2 i, .object C)) (hao : ∀ U : State, XR D U → va_AO C U) (hdg : decode cc pc = .ok (.anewarray index, 3)) (hN : z = N) (hz : R32 z) (hby : N * 4 ≤ 536870912) (hcells : k + 1 ≤ R.cells) (hslots : n + N ≤ R.slots)
    (kk : ∀ a : Nat, sz ≤ a → a ≤ sz + k → (∀ b e, σ b = some e → b < a) → J l D y cc nL rt R sz A QE (k + 1) (n + N) (pc + 3) L (.ref a :: st) (wup σ a (qa D i N (fun _ => none)))) : J l D y cc nL rt R sz A QE k n pc L (vi z :: st) σ := by
  intro p e s m args below meth c Cx H locs ls hl hW hd hq hS
  obtain ⟨hx, hbc, hml, hrt, hown, hlk, hnm, hT, hK, hsz⟩ := id Cx
  have hNN : (iI z).toNatClampNeg = N := by rw [iI_cl hz]; omega
  refine W_size (fun hsz1 => ?_)
  refine W.anew hx hbc hown (hT _ hcl args) (va_AO.use (hao s hK.2)) rfl hdg rfl (iI_nneg hz (by omega)) (by rw [hNN]; exact hby) hcells (by rw [hNN]; exact hslots) fun cA kA comp f1 f2 f3 f4 => ?_
  obtain ⟨kB, cB, -, -, -, g4⟩ := (hK.1.2 i _ hi).2
  have hcA : cA = D.2 i := Option.some.inj (f1.symm.trans g4)
  subst hcA
  rw [hNN]
  generalize hH1 : H.push ({ cls := D.2 i, slots := Array.replicate N .null, vm := .none } : Cell) = H1
  have z1 : H1.size = H.size + 1 := by rw [← hH1, Array.size_push]
  have e1 : H1[H.size]? = some (arrV (D.2 i) N (fun _ => .null)) := by rw [← hH1, Array.getElem?_push_size, ← arrV_new]
  have o1 : ∀ q : Nat, q < H.size → H1[q]? = H[q]? := fun q hq => by rw [← hH1, Array.getElem?_push, if_neg (Nat.ne_of_lt hq)]
  obtain ⟨w1, w2, w3⟩ := j_push (H1 := H1) (qa D i N (fun _ => none)) hW hd hq hsz hS z1 o1 (by
    show H1[H.size]? = some (vp_cell (D.2 i) _)
    rw [e1, vp_cell_q]
    rfl)
  exact kk H.size (by rw [← hsz]; exact hS.1) (by rw [← hsz]; exact hsz1) (fun b e h => hW.lt h) p e s m args below meth c Cx H1 locs ls hl w1 w2 hq w3
end JM
/-! ===== a row of rows ===== -/
def mk_out (cA : ClassId) (N b i : Nat) : Cell := arrV cA N (fun j => if j < i then .ref (b + 1 + j) else .null)
def mk_in (cI : ClassId) (M : Nat) : Cell := arrV cI M (fun _ => .int 0)
def mk_st (T : State) (cA cI : ClassId) (N M : Nat) : Nat → State
  | 0 => T.pushCell (mk_out cA N T.heap.size 0)
  | i + 1 => ((mk_st T cA cI N M i).pushCell (mk_in cI M)).setCell T.heap.size (mk_out cA N T.heap.size (i + 1))
theorem mk_out_s (cA : ClassId) (N b i : Nat) : (mk_out cA N b i).setSlot i (.ref (b + 1 + i)) = mk_out cA N b (i + 1) := by
  unfold mk_out
  rw [arrV_store]
  congr 1
  funext j
  unfold updV
  by_cases h : j = i
  · subst h
    rw [if_pos rfl, if_pos (by omega)]
  · rw [if_neg h]
    show (if j < i then Value.ref (b + 1 + j) else Value.null) = _
    by_cases q : j < i
    · rw [if_pos q, if_pos (by omega)]
    · rw [if_neg q, if_neg (by omega)]
theorem mk_facts (T : State) (cA cI : ClassId) (N M : Nat) : ∀ i : Nat, (mk_st T cA cI N M i).heap.size = T.heap.size + 1 + i ∧ (mk_st T cA cI N M i).heap[T.heap.size]? = some (mk_out cA N T.heap.size i) ∧ (mk_st T cA cI N M i).vm = T.vm ∧ (mk_st T cA cI N M i).slotsUsed = T.slotsUsed + N + i * M ∧ (∀ q : Nat, q < T.heap.size → (mk_st T cA cI N M i).heap[q]? = T.heap[q]?) ∧ ∀ j : Nat, j < i → (mk_st T cA cI N M i).heap[T.heap.size + 1 + j]? = some (mk_in cI M)
  | 0 => by
    refine ⟨by simp [mk_st], by simp [mk_st], rfl, ?_, fun q hq => State.heap_pushCell_of_lt _ _ hq, fun j hj => absurd hj (Nat.not_lt_zero _)⟩
    show T.slotsUsed + (mk_out cA N T.heap.size 0).slots.size = _
    rw [show (mk_out cA N T.heap.size 0).slots.size = N from arrV_size _ _ _, Nat.zero_mul, Nat.add_zero]
  | i + 1 => by
    obtain ⟨h1, h2, h3, h4, h5, h6⟩ := mk_facts T cA cI N M i
    have g : ∀ q : Nat, q < (mk_st T cA cI N M i).heap.size → ((mk_st T cA cI N M i).pushCell (mk_in cI M)).heap[q]? = (mk_st T cA cI N M i).heap[q]? := fun q hq => State.heap_pushCell_of_lt _ _ hq
    refine ⟨?_, State.heap_setCell_self ((g _ (by omega)).trans h2), h3, ?_, fun q hq => ?_, fun j hj => ?_⟩
    · show (((mk_st T cA cI N M i).pushCell (mk_in cI M)).setCell T.heap.size (mk_out cA N T.heap.size (i + 1))).heap.size = _
      simp [State.setCell, h1]
      omega
    · show (mk_st T cA cI N M i).slotsUsed + (mk_in cI M).slots.size = _
      rw [show (mk_in cI M).slots.size = M from arrV_size _ _ _, h4, Nat.add_mul i 1 M, Nat.one_mul]
      omega
    · show (((mk_st T cA cI N M i).pushCell (mk_in cI M)).setCell T.heap.size (mk_out cA N T.heap.size (i + 1))).heap[q]? = _
      rw [State.heap_setCell_other (Nat.ne_of_gt hq), g q (by omega)]
      exact h5 q hq
    · show (((mk_st T cA cI N M i).pushCell (mk_in cI M)).setCell T.heap.size (mk_out cA N T.heap.size (i + 1))).heap[T.heap.size + 1 + j]? = _
      rw [State.heap_setCell_other (show T.heap.size ≠ T.heap.size + 1 + j by omega)]
      rcases Nat.lt_or_ge j i with q | q
      · rw [g _ (by omega)]
        exact h6 j q
      · rw [show j = i by omega, ← h1]
        exact State.heap_pushCell_size _ _
theorem mk_setTop (T : State) (f : JFrame) (cA cI : ClassId) (N M : Nat) : ∀ i : Nat, mk_st (T.setTop f) cA cI N M i = (mk_st T cA cI N M i).setTop f
  | 0 => rfl
  | i + 1 => by simp only [mk_st, mk_setTop T f cA cI N M i, State.heap_setTop, State.pushCell_setTop, State.setCell_setTop]
theorem mk_stand {p : Program} {l : Launch} {e : Env} {R : Room} {s : State} {m : MethodId} {args : Array Value} {below : List Frame} {meth : Method} {c : Code} {T : State} {locs : List Loc} {cells slots : Nat} (X : Stand p l e R s m args below meth c T locs cells slots) (cA cI : ClassId) (N M : Nat) : ∀ i : Nat, ∃ l1 : List Loc, (∀ q ∈ l1, q ∈ locs ∨ q.base = T.heap.size) ∧ Stand p l e R s m args below meth c (mk_st T cA cI N M i) l1 (cells + 1 + i) (slots + N + i * M)
  | 0 => by
    have h := X.pushed (mk_out cA N T.heap.size 0)
    rw [show (mk_out cA N T.heap.size 0).slots.size = N from arrV_size _ _ _] at h
    refine ⟨locs, fun q hq => Or.inl hq, ?_⟩
    rw [Nat.zero_mul]
    exact h
  | i + 1 => by
    obtain ⟨l1, hl, Xi⟩ := mk_stand X cA cI N M i
    obtain ⟨h1, h2, -⟩ := mk_facts T cA cI N M i
    have hc : ((mk_st T cA cI N M i).pushCell (mk_in cI M)).heap[T.heap.size]? = some (mk_out cA N T.heap.size i) := (State.heap_pushCell_of_lt _ _ (show T.heap.size < (mk_st T cA cI N M i).heap.size by omega)).trans h2
    have h := (Xi.pushed (mk_in cI M)).stored hc i (.ref (T.heap.size + 1 + i))
    rw [mk_out_s, show (mk_in cI M).slots.size = M from arrV_size _ _ _] at h
    refine ⟨l1 ++ [⟨T.heap.size, i⟩], fun q hq => ?_, ?_⟩
    · rcases List.mem_append.mp hq with a | a
      · exact hl q a
      · rw [List.mem_singleton.mp a]
        exact Or.inr rfl
    · rw [Nat.add_mul i 1 M, Nat.one_mul, ← Nat.add_assoc (slots + N)]
      exact h
section MK
variable {E : CtlPost} {e : Env} {d : Bool} {acts : List Action} {s : State}
theorem mk_newArray {c comp : ClassId} {k : Class} {type : FieldType} {len : Nat} {v : Value} (hk : s.vm.classes[c]? = some k) (hkind : k.kind = .array comp type) (hl : ¬ len > e.platform.arrayLengthLimit) (hh : ¬ len * componentBytes type > e.platform.maxHeapBytes) (hfit : fits type v = true) (hdef : v.isDefault = true) (h1 : s.heap.size < e.platform.maxCells) (h2 : s.slotsUsed + len ≤ e.platform.maxSlots) {Q : Addr → Pre}
    (hq : Q s.heap.size d acts (s.pushCell (arrV c len (fun _ => v)))) : wp (Jvm.newArray c len v) Q E e d acts s := by
  rw [← arrV_new] at hq
  have hfits : ∀ i w, (Array.replicate len v)[i]? = some w → s.fitsSlot c .none i w = true := by
    intro i w hw
    rw [Array.getElem?_replicate] at hw
    split at hw
    · cases hw
      simp [State.fitsSlot, State.slotType?, hk, hkind, hfit]
    · cases hw
  have ha : allocActs (Array.replicate len v) s.heap.size acts = acts := by
    have hall : ((Array.replicate len v).all (·.isDefault)) = true := by
      rw [Array.all_replicate]
      split <;> simp [hdef]
    unfold allocActs
    rw [if_pos hall]
  simp only [Jvm.newArray, Jvm.arrayFits, wp_bind', W.ask, W.ite, hl, if_false, wp_pure', W.theClass, hk, hkind, hh, W.alloc, W.stop, Option.some.injEq, exists_eq_left', Array.size_replicate, ha]
  rw [if_neg (by omega)]
  exact ⟨h1, h2, hfits, hq⟩
theorem mk_make {cA cI cc : ClassId} {k ki : Class} {n m : Int32} {N M : Nat} (hk : s.vm.classes[cA]? = some k) (hkind : k.kind = .array cI (.array .int)) (hki : s.vm.classes[cI]? = some ki) (hkindi : ki.kind = .array cc .int) (hn : ¬ n < 0) (hm : ¬ m < 0) (hN : n.toNatClampNeg = N) (hM : m.toNatClampNeg = M)
    (hl1 : ¬ N > e.platform.arrayLengthLimit) (hh1 : ¬ N * componentBytes (.array .int) > e.platform.maxHeapBytes) (hl2 : ¬ M > e.platform.arrayLengthLimit) (hh2 : ¬ M * componentBytes .int > e.platform.maxHeapBytes) (hc : s.heap.size + 1 + N ≤ e.platform.maxCells) (hs : s.slotsUsed + N + N * M ≤ e.platform.maxSlots) {Q : Addr → Pre}
    (hq : ∀ d' acts', Q s.heap.size d' acts' (mk_st s cA cI N M N)) : wp (multianewarray.make cA [n, m]) Q E e d acts s := by
  have hfind : ([m].find? (· < 0)) = none := by simp [hm]
  rw [multianewarray.make]
  simp only [wp_bind', W.ite, hn, if_false, wp_pure', W.theClass, hk, hkind, Option.some.injEq, exists_eq_left', hN]
  refine mk_newArray hk hkind hl1 hh1 rfl rfl (by omega) (by have := Nat.zero_le (N * M); omega) ?_
  simp only [hfind]
  rw [ite_self, wp_bind', Std.Legacy.Range.forIn_eq_forIn_range']
  have hsz : ([:N] : Std.Legacy.Range).size = N := by simp [Std.Legacy.Range.size]
  rw [hsz]
  show wp (forIn (List.range' 0 N 1) PUnit.unit _) _ E e d acts _
  refine wp_forIn_inv (fun rest s' => ∃ i, i ≤ N ∧ rest = List.range' i (N - i) ∧ s' = mk_st s cA cI N M i) _ _ ⟨0, Nat.zero_le _, rfl, ?_⟩ ?_ ?_
  · show s.pushCell _ = s.pushCell _
    congr 1
  · rintro x rest s' d' acts' Q' ⟨i, hi, hl, rfl⟩ hnext
    have hlt : i < N := by
      rcases Nat.lt_or_ge i N with h | h
      · exact h
      · rw [show N - i = 0 by omega] at hl
        cases hl
    rw [show N - i = (N - (i + 1)) + 1 by omega, List.range'_succ] at hl
    obtain ⟨rfl, hrest⟩ := List.cons.inj hl
    obtain ⟨f1, f2, f3, f4, -⟩ := mk_facts s cA cI N M x
    have hmul : x * M + M ≤ N * M := by
      have h := Nat.mul_le_mul_right M (show x + 1 ≤ N from hlt)
      rw [Nat.add_mul, Nat.one_mul] at h
      exact h
    simp only [wp_bind']
    rw [multianewarray.make]
    simp only [wp_bind', W.ite, hm, if_false, wp_pure', W.theClass, f3, hki, hkindi, Option.some.injEq, exists_eq_left', hM]
    refine mk_newArray (by rw [f3]; exact hki) hkindi hl2 hh2 rfl rfl (by omega) (by omega) ?_
    have hlt0 : s.heap.size < (mk_st s cA cI N M x).heap.size := by omega
    simp only [wp_bind', W.writeLoc, wp_pure']
    refine ⟨mk_out cA N s.heap.size x, (State.heap_pushCell_of_lt _ _ hlt0).trans f2, (fun h => by cases h), ?_, ?_, hnext _ _ _ ⟨x + 1, hlt, hrest, ?_⟩⟩
    · rw [show (mk_out cA N s.heap.size x).slots.size = N from arrV_size _ _ _]
      exact hlt
    · show State.fitsSlot _ cA .none x _ = true
      simp [State.fitsSlot, State.slotType?, f3, hk, hkind]
      rfl
    · rw [f1, mk_out_s]
      rfl
  · rintro s' d' acts' ⟨i, hi, hl, rfl⟩
    have hiN : i = N := by
      rcases Nat.lt_or_ge i N with h | h
      · rw [show N - i = (N - (i + 1)) + 1 by omega, List.range'_succ] at hl
        cases hl
      · omega
    subst hiN
    simp only [wp_pure']
    exact hq _ _
end MK
theorem mk_multi {p : Program} {l : Launch} {e : Env} {R : Room} {s : State} {m : MethodId} {args : Array Value} {below : List Frame} {meth : Method} {c : Code} {H : Heap} {locs : List Loc} {cells slots : Nat} {Q : State → Prop} {cc : ByteArray} {own : String} {index N M : Nat} {cA cI cc0 : ClassId} {kA kI : Class} {n k : Int32} {rest : List Value} {g : JFrame} (hexec : p.tables.exec = Jvm.exec) (hb : c.code = cc) (hown : s.vm.findClass own = some m.cls) (hclink : (Cond.classLink own index "[[I").before args s = true) (hfA : s.vm.findClass "[[I" = some cA) (hkA : s.vm.classes[cA]? = some kA) (hkindA : kA.kind = .array cI (.array .int)) (hkI : s.vm.classes[cI]? = some kI) (hkindI : kI.kind = .array cc0 .int)
    (hg : g.method = m) (hdg : decode cc g.pc = .ok (.multianewarray index 2, 4)) (hstack : g.stack = .int k :: .int n :: rest) (hn : ¬ n < 0) (hk : ¬ k < 0) (hN : n.toNatClampNeg = N) (hM : k.toNatClampNeg = M) (hb1 : N * 4 ≤ 536870912) (hb2 : M * 4 ≤ 536870912) (hcells : cells + (1 + N) ≤ R.cells) (hslots : slots + (N + N * M) ≤ R.slots)
    (kk : ∀ (H1 : Heap) (l1 : List Loc), (∀ q ∈ l1, q ∈ locs ∨ q.base = H.size) → H1.size = H.size + 1 + N → H1[H.size]? = some (mk_out cA N H.size N) → (∀ q : Nat, q < H.size → H1[q]? = H[q]?) → (∀ j : Nat, j < N → H1[H.size + 1 + j]? = some (mk_in cI M)) → W p l e R s m args below meth c H1 l1 (cells + (1 + N)) (slots + (N + N * M)) Q { g with pc := g.pc + 4, stack := .ref H.size :: rest }) : W p l e R s m args below meth c H locs cells slots Q g := by
  intro T hT X
  subst hT; subst hb; subst hg
  have hpl : e.platform.magicAccessors = ({} : Platform).magicAccessors := by rw [X.admits.platform]
  obtain ⟨c0, hfc0, hcl⟩ := Cond.classLink_spec hown hclink e.platform hpl
  have hc0 : c0 = cA := Option.some.inj (hfc0.symm.trans hfA)
  subst hc0
  obtain ⟨hg₁, hwarm₁, hready₁⟩ := State.classEntry (e := e) X.warmed hcl
  generalize T.vm.noted g.method.cls index (.cls c0) = vm₁ at hg₁ hwarm₁ hready₁
  have hal : s.vm.Alike vm₁ := hwarm₁.alike
  obtain ⟨kA₁, hkA₁, heA⟩ := hal.2.2 _ _ hkA
  obtain ⟨kI₁, hkI₁, heI⟩ := hal.2.2 _ _ hkI
  have X₁ := X.noted hwarm₁
  obtain ⟨l1, hl1, XF⟩ := mk_stand X₁ c0 cI N M N
  obtain ⟨f1, f2, f3, f4, f5, f6⟩ := mk_facts (T.setVm vm₁) c0 cI N M N
  obtain ⟨hr1, hr2⟩ := X.roomAbove hcells hslots
  rw [Nat.add_assoc cells, Nat.add_assoc slots] at XF
  obtain ⟨t', a1, b1⟩ := kk _ l1 hl1 f1 f2 f5 f6 (mk_st (T.setVm vm₁) c0 cI N M N) rfl XF
  refine ⟨t', ?_, b1⟩
  have hL1 : ¬ N > e.platform.arrayLengthLimit := by rw [Launch.admits_arrayLengthLimit X.admits]; omega
  have hH1 : ¬ N * componentBytes (.array .int) > e.platform.maxHeapBytes := by
    rw [Launch.admits_maxHeapBytes X.admits]
    show ¬ N * 4 > 536870912
    omega
  have hL2 : ¬ M > e.platform.arrayLengthLimit := by rw [Launch.admits_arrayLengthLimit X.admits]; omega
  have hH2 : ¬ M * componentBytes .int > e.platform.maxHeapBytes := by
    rw [Launch.admits_maxHeapBytes X.admits]
    show ¬ M * 4 > 536870912
    omega
  jvm_step X.here [hexec, hdg]
  simp only [multianewarray.sem, wp_bind', W.resolveClassAt_links (State.method?_setTop g X.here.top) hg₁]
  rw [W.popN, if_neg (by decide)]
  refine ⟨g, State.topJava?_setTop' (s := T.setVm vm₁) g X.here.top, [.int n, .int k], rest, rfl, hstack, ?_⟩
  simp only [List.mapM_cons, List.mapM_nil, wp_bind', wp_pure']
  refine mk_make (k := kA₁) (ki := kI₁) (cI := cI) (cc := cc0) (N := N) (M := M) hkA₁ (by rw [heA]; exact hkindA) hkI₁ (by rw [heI]; exact hkindI) hn hk hN hM hL1 hH1 hL2 hH2 (by show T.heap.size + 1 + _ ≤ _; omega) (by show T.slotsUsed + _ + _ ≤ _; omega) (fun d' acts' => ?_)
  have eS : ((T.setTop g).setVm vm₁).setTop { g with stack := rest } = (T.setVm vm₁).setTop { g with stack := rest } := by
    show ((T.setVm vm₁).setTop g).setTop _ = _
    rw [State.setTop_setTop]
  rw [eS, mk_setTop]
  simp only [wp_bind', W.mark, W.pushRef, State.topJava?_setTop' _ XF.here.top, Option.some.injEq, exists_eq_left', State.setTop_setTop, State.heap_setTop]
  intro acts
  simp [jvm, XF.here.top]
  exact a1
def mk_w (D : gD) (σ : Wd) (b N M : Nat) : Nat → Wd
  | 0 => wup σ b (qa D 5 N (fun j => if j < N then some (b + 1 + j) else none))
  | i + 1 => wup (mk_w D σ b N M i) (b + 1 + i) (ia D M (fun _ => 0))
theorem mk_w_facts (D : gD) (σ : Wd) (b N M : Nat) : ∀ i : Nat, (∀ q, q < b ∨ b + 1 + i ≤ q → mk_w D σ b N M i q = σ q) ∧ mk_w D σ b N M i b = some (qa D 5 N (fun j => if j < N then some (b + 1 + j) else none)) ∧ ∀ j, j < i → mk_w D σ b N M i (b + 1 + j) = some (ia D M (fun _ => 0))
  | 0 => ⟨fun q hq => wup_n (by omega), wup_s _ _ _, fun j hj => absurd hj (Nat.not_lt_zero _)⟩
  | i + 1 => by
    obtain ⟨h1, h2, h3⟩ := mk_w_facts D σ b N M i
    refine ⟨fun q hq => (wup_n (by omega)).trans (h1 q (by omega)), (wup_n (by omega)).trans h2, fun j hj => ?_⟩
    by_cases q : j = i
    · rw [q]
      exact wup_s _ _ _
    · exact (wup_n (by omega)).trans (h3 j (by omega))
section JM2
variable {l : Launch} {D : gD} {y : MethodName} {cc : ByteArray} {nL : Nat} {rt : Option FieldType} {R : Room} {sz : Nat} {A : Nat → Prop} {QE : List Frame → Array Value → State → State → Prop} {k n pc : Nat} {L L' : List (Option Value)} {st : List Value} {σ σ0 : Wd}
theorem j_multi {idx N M : Nat} {a b : Int} (hcl : Cond.classLink y.cls idx "[[I" ∈ TBl) (hdg : decode cc pc = .ok (.multianewarray idx 2, 4)) (ha : a = N) (hb : b = M) (hra : R32 a) (hrb : R32 b) (h1 : N * 4 ≤ 536870912) (h2 : M * 4 ≤ 536870912) (hcells : k + (1 + N) ≤ R.cells) (hslots : n + (N + N * M) ≤ R.slots)
    (kk : ∀ q : Nat, sz ≤ q → q ≤ sz + k → (∀ b e, σ b = some e → b < q) → J l D y cc nL rt R sz A QE (k + (1 + N)) (n + (N + N * M)) (pc + 4) L (.ref q :: st) (mk_w D σ q N M N)) : J l D y cc nL rt R sz A QE k n pc L (vi b :: vi a :: st) σ := by
  intro p e s m args below meth c Cx H locs ls hl hW hd hq hS
  obtain ⟨hx, hbc, hml, hrt, hown, hlk, hnm, hT, hK, hsz⟩ := id Cx
  obtain ⟨kR, kI, x1, x2, x3, x4, x5, -⟩ := hK.2
  obtain ⟨-, kI2, y1, c2, y2⟩ := (hK.1.2 0 _ rfl).1 0 (fun _ => .null)
  refine W_size (fun hsz1 => ?_)
  refine mk_multi (N := N) (M := M) hx hbc hown (hT _ hcl args) x5 x1 x2 y1 y2 rfl hdg rfl (iI_nneg hra (by omega)) (iI_nneg hrb (by omega)) (by rw [iI_cl hra]; omega) (by rw [iI_cl hrb]; omega) h1 h2 hcells hslots fun H1 l1 hl1 z1 e1 o1 i1 => ?_
  have hA : ∀ i : Nat, A (H.size + i) := fun i => hq _ (by have := hS.1; omega)
  have hW0 : HW D σ H1 := hW.kept (fun a x hx => o1 a (hW.lt hx))
  have hw : ∀ i : Nat, i ≤ N → HW D (mk_w D σ H.size N M i) H1 ∧ ∀ a x, mk_w D σ H.size N M i a = some x → A a := by
    intro i
    induction i with
    | zero =>
      intro _
      refine ⟨hW0.add (hW.none (Nat.le_refl _)) ?_, pd_dom hd (hA 0)⟩
      show H1[H.size]? = some (vp_cell (D.2 5) _)
      rw [e1, vp_cell_q]
      unfold mk_out
      congr 2
      funext j
      by_cases q : j < N
      · rw [if_pos q, if_pos q]
        rfl
      · rw [if_neg q, if_neg q]
        rfl
    | succ i ih =>
      intro hi
      obtain ⟨w1, w2⟩ := ih (by omega)
      obtain ⟨g1, g2, g3⟩ := mk_w_facts D σ H.size N M i
      refine ⟨w1.add ((g1 _ (Or.inr (Nat.le_refl _))).trans (hW.none (by omega))) ?_, pd_dom w2 (by rw [Nat.add_assoc]; exact hA _)⟩
      exact i1 i (by omega)
  obtain ⟨w1, w2⟩ := hw N (Nat.le_refl _)
  refine kk H.size (by rw [← hsz]; exact hS.1) (by rw [← hsz]; exact hsz1) (fun b e h => hW.lt h) p e s m args below meth c Cx H1 l1 ls hl w1 w2 hq ⟨Nat.le_trans hS.1 (by omega), fun x q1 q2 => (o1 x (Nat.lt_of_lt_of_le q1 hS.1)).trans (hS.2.1 x q1 q2), fun q hq2 => ?_⟩
  rcases hl1 q hq2 with a | a
  · exact hS.2.2 q a
  · rw [a]
    exact hA 0
end JM2
/-! ===== a row a place where an object is made (by program) ===== -/
theorem ins_X0 : Cond.instantiable RX0 5 ∈ TBl := TB_in 173 (by decide +kernel) rfl
theorem ini_X0 : Cond.initialized RX0 ∈ TBl := TB_in 64 (by decide +kernel) rfl
abbrev f0_X0 : List Value := [.null, vi 0, vi 0, vi 0, vi 0]
theorem df_X0 : ∀ j, j < 5 → defaultValue (tyX0 j) = vp_V f0_X0 j := fun j hj => match j, hj with
  | 0, _ => rfl
  | 1, _ => rfl
  | 2, _ => rfl
  | 3, _ => rfl
  | 4, _ => rfl
  | j + 5, h => absurd h (by omega)
theorem ins_X1 : Cond.instantiable RX1 2 ∈ TBl := TB_in 117 (by decide +kernel) rfl
theorem ini_X1 : Cond.initialized RX1 ∈ TBl := TB_in 62 (by decide +kernel) rfl
abbrev f0_X1 : List Value := [.null, vi 0]
theorem df_X1 : ∀ j, j < 2 → defaultValue (tyX1 j) = vp_V f0_X1 j := fun j hj => match j, hj with
  | 0, _ => rfl
  | 1, _ => rfl
  | j + 2, h => absurd h (by omega)
theorem ins_X2 : Cond.instantiable RX2 2 ∈ TBl := TB_in 77 (by decide +kernel) rfl
theorem ini_X2 : Cond.initialized RX2 ∈ TBl := TB_in 59 (by decide +kernel) rfl
abbrev f0_X2 : List Value := [vi 0, .null]
theorem df_X2 : ∀ j, j < 2 → defaultValue (tyX2 j) = vp_V f0_X2 j := fun j hj => match j, hj with
  | 0, _ => rfl
  | 1, _ => rfl
  | j + 2, h => absurd h (by omega)
theorem ins_X3 : Cond.instantiable RX3 2 ∈ TBl := TB_in 84 (by decide +kernel) rfl
theorem ini_X3 : Cond.initialized RX3 ∈ TBl := TB_in 60 (by decide +kernel) rfl
abbrev f0_X3 : List Value := [.null, .null]
theorem df_X3 : ∀ j, j < 2 → defaultValue (tyX3 j) = vp_V f0_X3 j := fun j hj => match j, hj with
  | 0, _ => rfl
  | 1, _ => rfl
  | j + 2, h => absurd h (by omega)
theorem ins_X4 : Cond.instantiable RX4 9 ∈ TBl := TB_in 134 (by decide +kernel) rfl
theorem ini_X4 : Cond.initialized RX4 ∈ TBl := TB_in 63 (by decide +kernel) rfl
abbrev f0_X4 : List Value := [.null, .null, vi 0, vi 0, vi 0, vi 0, vi 0, vi 0, vi 0]
theorem df_X4 : ∀ j, j < 9 → defaultValue (tyX4 j) = vp_V f0_X4 j := fun j hj => match j, hj with
  | 0, _ => rfl
  | 1, _ => rfl
  | 2, _ => rfl
  | 3, _ => rfl
  | 4, _ => rfl
  | 5, _ => rfl
  | 6, _ => rfl
  | 7, _ => rfl
  | 8, _ => rfl
  | j + 9, h => absurd h (by omega)
theorem ins_X5 : Cond.instantiable RX5 1 ∈ TBl := TB_in 90 (by decide +kernel) rfl
theorem ini_X5 : Cond.initialized RX5 ∈ TBl := TB_in 61 (by decide +kernel) rfl
abbrev f0_X5 : List Value := [.null]
theorem df_X5 : ∀ j, j < 1 → defaultValue (tyX5 j) = vp_V f0_X5 j := fun j hj => match j, hj with
  | 0, _ => rfl
  | j + 1, h => absurd h (by omega)
theorem ins_X6 : Cond.instantiable RX6 9 ∈ TBl := TB_in 69 (by decide +kernel) rfl
theorem ini_X6 : Cond.initialized RX6 ∈ TBl := TB_in 58 (by decide +kernel) rfl
abbrev f0_X6 : List Value := [.null, .null, vi 0, .null, .null, .null, .null, .null, .null]
theorem df_X6 : ∀ j, j < 9 → defaultValue (tyX6 j) = vp_V f0_X6 j := fun j hj => match j, hj with
  | 0, _ => rfl
  | 1, _ => rfl
  | 2, _ => rfl
  | 3, _ => rfl
  | 4, _ => rfl
  | 5, _ => rfl
  | 6, _ => rfl
  | 7, _ => rfl
  | 8, _ => rfl
  | j + 9, h => absurd h (by omega)
theorem ins_X7 : Cond.instantiable RX7 14 ∈ TBl := TB_in 621 (by decide +kernel) rfl
theorem ini_X7 : Cond.initialized RX7 ∈ TBl := TB_in 65 (by decide +kernel) rfl
abbrev f0_X7 : List Value := [.null, .null, .null, vi 0, vi 0, .null, vi 0, vi 0, .null, .null, .null, .null, .null, vi 0]
theorem df_X7 : ∀ j, j < 14 → defaultValue (tyX7 j) = vp_V f0_X7 j := fun j hj => match j, hj with
  | 0, _ => rfl
  | 1, _ => rfl
  | 2, _ => rfl
  | 3, _ => rfl
  | 4, _ => rfl
  | 5, _ => rfl
  | 6, _ => rfl
  | 7, _ => rfl
  | 8, _ => rfl
  | 9, _ => rfl
  | 10, _ => rfl
  | 11, _ => rfl
  | 12, _ => rfl
  | 13, _ => rfl
  | j + 14, h => absurd h (by omega)
theorem cln_X6_9 : Cond.classLink RX6 9 RX2 ∈ TBl := TB_in 76 (by decide +kernel) rfl
theorem nw_X6_9 {l : Launch} {D : gD} {y : MethodName} {cc : ByteArray} {nL : Nat} {rt : Option FieldType} {R : Room} {sz : Nat} {A : Nat → Prop} {QE : List Frame → Array Value → State → State → Prop} {k n pc : Nat} {L : List (Option Value)} {st : List Value} {σ : Wd} (hy : y.cls = RX6) (hdg : decode cc pc = .ok (.new 9, 3)) (hcells : k + 1 ≤ R.cells) (hslots : n + 2 ≤ R.slots) (kk : ∀ a : Nat, sz ≤ a → a ≤ sz + k → (∀ b e, σ b = some e → b < a) → J l D y cc nL rt R sz A QE (k + 1) (n + 2) (pc + 3) L (.ref a :: st) (wup σ a (.inr (2, f0_X2)))) : J l D y cc nL rt R sz A QE k n pc L st σ :=
  j_new (C := RX2) (T := TX2) (N := 2) inTX2 tyX2 tyX2_ok (by rw [hy]; exact cln_X6_9) ins_X2 ini_X2 rfl df_X2 hdg hcells hslots kk
theorem cln_X6_19 : Cond.classLink RX6 19 RX1 ∈ TBl := TB_in 116 (by decide +kernel) rfl
theorem nw_X6_19 {l : Launch} {D : gD} {y : MethodName} {cc : ByteArray} {nL : Nat} {rt : Option FieldType} {R : Room} {sz : Nat} {A : Nat → Prop} {QE : List Frame → Array Value → State → State → Prop} {k n pc : Nat} {L : List (Option Value)} {st : List Value} {σ : Wd} (hy : y.cls = RX6) (hdg : decode cc pc = .ok (.new 19, 3)) (hcells : k + 1 ≤ R.cells) (hslots : n + 2 ≤ R.slots) (kk : ∀ a : Nat, sz ≤ a → a ≤ sz + k → (∀ b e, σ b = some e → b < a) → J l D y cc nL rt R sz A QE (k + 1) (n + 2) (pc + 3) L (.ref a :: st) (wup σ a (.inr (1, f0_X1)))) : J l D y cc nL rt R sz A QE k n pc L st σ :=
  j_new (C := RX1) (T := TX1) (N := 2) inTX1 tyX1 tyX1_ok (by rw [hy]; exact cln_X6_19) ins_X1 ini_X1 rfl df_X1 hdg hcells hslots kk
theorem cln_X6_26 : Cond.classLink RX6 26 RX4 ∈ TBl := TB_in 133 (by decide +kernel) rfl
theorem nw_X6_26 {l : Launch} {D : gD} {y : MethodName} {cc : ByteArray} {nL : Nat} {rt : Option FieldType} {R : Room} {sz : Nat} {A : Nat → Prop} {QE : List Frame → Array Value → State → State → Prop} {k n pc : Nat} {L : List (Option Value)} {st : List Value} {σ : Wd} (hy : y.cls = RX6) (hdg : decode cc pc = .ok (.new 26, 3)) (hcells : k + 1 ≤ R.cells) (hslots : n + 9 ≤ R.slots) (kk : ∀ a : Nat, sz ≤ a → a ≤ sz + k → (∀ b e, σ b = some e → b < a) → J l D y cc nL rt R sz A QE (k + 1) (n + 9) (pc + 3) L (.ref a :: st) (wup σ a (.inr (4, f0_X4)))) : J l D y cc nL rt R sz A QE k n pc L st σ :=
  j_new (C := RX4) (T := TX4) (N := 9) inTX4 tyX4 tyX4_ok (by rw [hy]; exact cln_X6_26) ins_X4 ini_X4 rfl df_X4 hdg hcells hslots kk
theorem cln_X6_33 : Cond.classLink RX6 33 RX0 ∈ TBl := TB_in 172 (by decide +kernel) rfl
theorem nw_X6_33 {l : Launch} {D : gD} {y : MethodName} {cc : ByteArray} {nL : Nat} {rt : Option FieldType} {R : Room} {sz : Nat} {A : Nat → Prop} {QE : List Frame → Array Value → State → State → Prop} {k n pc : Nat} {L : List (Option Value)} {st : List Value} {σ : Wd} (hy : y.cls = RX6) (hdg : decode cc pc = .ok (.new 33, 3)) (hcells : k + 1 ≤ R.cells) (hslots : n + 5 ≤ R.slots) (kk : ∀ a : Nat, sz ≤ a → a ≤ sz + k → (∀ b e, σ b = some e → b < a) → J l D y cc nL rt R sz A QE (k + 1) (n + 5) (pc + 3) L (.ref a :: st) (wup σ a (.inr (0, f0_X0)))) : J l D y cc nL rt R sz A QE k n pc L st σ :=
  j_new (C := RX0) (T := TX0) (N := 5) inTX0 tyX0 tyX0_ok (by rw [hy]; exact cln_X6_33) ins_X0 ini_X0 rfl df_X0 hdg hcells hslots kk
theorem cln_X6_40 : Cond.classLink RX6 40 RX5 ∈ TBl := TB_in 198 (by decide +kernel) rfl
theorem nw_X6_40 {l : Launch} {D : gD} {y : MethodName} {cc : ByteArray} {nL : Nat} {rt : Option FieldType} {R : Room} {sz : Nat} {A : Nat → Prop} {QE : List Frame → Array Value → State → State → Prop} {k n pc : Nat} {L : List (Option Value)} {st : List Value} {σ : Wd} (hy : y.cls = RX6) (hdg : decode cc pc = .ok (.new 40, 3)) (hcells : k + 1 ≤ R.cells) (hslots : n + 1 ≤ R.slots) (kk : ∀ a : Nat, sz ≤ a → a ≤ sz + k → (∀ b e, σ b = some e → b < a) → J l D y cc nL rt R sz A QE (k + 1) (n + 1) (pc + 3) L (.ref a :: st) (wup σ a (.inr (5, f0_X5)))) : J l D y cc nL rt R sz A QE k n pc L st σ :=
  j_new (C := RX5) (T := TX5) (N := 1) inTX5 tyX5 tyX5_ok (by rw [hy]; exact cln_X6_40) ins_X5 ini_X5 rfl df_X5 hdg hcells hslots kk
theorem cln_X1_9 : Cond.classLink RX1 9 RX2 ∈ TBl := TB_in 122 (by decide +kernel) rfl
theorem nq_X1_9 {l : Launch} {D : gD} {y : MethodName} {cc : ByteArray} {nL : Nat} {rt : Option FieldType} {R : Room} {sz : Nat} {A : Nat → Prop} {QE : List Frame → Array Value → State → State → Prop} {k n pc : Nat} {L : List (Option Value)} {st : List Value} {σ : Wd} {N : Nat} {z : Int} (hy : y.cls = RX1) (hdg : decode cc pc = .ok (.anewarray 9, 3)) (hN : z = N) (hz : R32 z) (hby : N * 4 ≤ 536870912) (hcells : k + 1 ≤ R.cells) (hslots : n + N ≤ R.slots) (kk : ∀ a : Nat, sz ≤ a → a ≤ sz + k → (∀ b e, σ b = some e → b < a) → J l D y cc nL rt R sz A QE (k + 1) (n + N) (pc + 3) L (.ref a :: st) (wup σ a (qa D 4 N (fun _ => none)))) : J l D y cc nL rt R sz A QE k n pc L (vi z :: st) σ :=
  j_newq (C := RX2) (i := 4) (by rw [hy]; exact cln_X1_9) rfl (fun U h => h.choose_spec.choose_spec.2.2.2.2.2.2) hdg hN hz hby hcells hslots kk
theorem nw_X1_9 {l : Launch} {D : gD} {y : MethodName} {cc : ByteArray} {nL : Nat} {rt : Option FieldType} {R : Room} {sz : Nat} {A : Nat → Prop} {QE : List Frame → Array Value → State → State → Prop} {k n pc : Nat} {L : List (Option Value)} {st : List Value} {σ : Wd} (hy : y.cls = RX1) (hdg : decode cc pc = .ok (.new 9, 3)) (hcells : k + 1 ≤ R.cells) (hslots : n + 2 ≤ R.slots) (kk : ∀ a : Nat, sz ≤ a → a ≤ sz + k → (∀ b e, σ b = some e → b < a) → J l D y cc nL rt R sz A QE (k + 1) (n + 2) (pc + 3) L (.ref a :: st) (wup σ a (.inr (2, f0_X2)))) : J l D y cc nL rt R sz A QE k n pc L st σ :=
  j_new (C := RX2) (T := TX2) (N := 2) inTX2 tyX2 tyX2_ok (by rw [hy]; exact cln_X1_9) ins_X2 ini_X2 rfl df_X2 hdg hcells hslots kk
theorem cln_X2_15 : Cond.classLink RX2 15 RX3 ∈ TBl := TB_in 82 (by decide +kernel) rfl
theorem nq_X2_15 {l : Launch} {D : gD} {y : MethodName} {cc : ByteArray} {nL : Nat} {rt : Option FieldType} {R : Room} {sz : Nat} {A : Nat → Prop} {QE : List Frame → Array Value → State → State → Prop} {k n pc : Nat} {L : List (Option Value)} {st : List Value} {σ : Wd} {N : Nat} {z : Int} (hy : y.cls = RX2) (hdg : decode cc pc = .ok (.anewarray 15, 3)) (hN : z = N) (hz : R32 z) (hby : N * 4 ≤ 536870912) (hcells : k + 1 ≤ R.cells) (hslots : n + N ≤ R.slots) (kk : ∀ a : Nat, sz ≤ a → a ≤ sz + k → (∀ b e, σ b = some e → b < a) → J l D y cc nL rt R sz A QE (k + 1) (n + N) (pc + 3) L (.ref a :: st) (wup σ a (qa D 3 N (fun _ => none)))) : J l D y cc nL rt R sz A QE k n pc L (vi z :: st) σ :=
  j_newq (C := RX3) (i := 3) (by rw [hy]; exact cln_X2_15) rfl (fun U h => h.choose_spec.choose_spec.2.2.2.2.2.1) hdg hN hz hby hcells hslots kk
theorem nw_X2_15 {l : Launch} {D : gD} {y : MethodName} {cc : ByteArray} {nL : Nat} {rt : Option FieldType} {R : Room} {sz : Nat} {A : Nat → Prop} {QE : List Frame → Array Value → State → State → Prop} {k n pc : Nat} {L : List (Option Value)} {st : List Value} {σ : Wd} (hy : y.cls = RX2) (hdg : decode cc pc = .ok (.new 15, 3)) (hcells : k + 1 ≤ R.cells) (hslots : n + 2 ≤ R.slots) (kk : ∀ a : Nat, sz ≤ a → a ≤ sz + k → (∀ b e, σ b = some e → b < a) → J l D y cc nL rt R sz A QE (k + 1) (n + 2) (pc + 3) L (.ref a :: st) (wup σ a (.inr (3, f0_X3)))) : J l D y cc nL rt R sz A QE k n pc L st σ :=
  j_new (C := RX3) (T := TX3) (N := 2) inTX3 tyX3 tyX3_ok (by rw [hy]; exact cln_X2_15) ins_X3 ini_X3 rfl df_X3 hdg hcells hslots kk
theorem cln_X3_15 : Cond.classLink RX3 15 RX5 ∈ TBl := TB_in 89 (by decide +kernel) rfl
theorem nw_X3_15 {l : Launch} {D : gD} {y : MethodName} {cc : ByteArray} {nL : Nat} {rt : Option FieldType} {R : Room} {sz : Nat} {A : Nat → Prop} {QE : List Frame → Array Value → State → State → Prop} {k n pc : Nat} {L : List (Option Value)} {st : List Value} {σ : Wd} (hy : y.cls = RX3) (hdg : decode cc pc = .ok (.new 15, 3)) (hcells : k + 1 ≤ R.cells) (hslots : n + 1 ≤ R.slots) (kk : ∀ a : Nat, sz ≤ a → a ≤ sz + k → (∀ b e, σ b = some e → b < a) → J l D y cc nL rt R sz A QE (k + 1) (n + 1) (pc + 3) L (.ref a :: st) (wup σ a (.inr (5, f0_X5)))) : J l D y cc nL rt R sz A QE k n pc L st σ :=
  j_new (C := RX5) (T := TX5) (N := 1) inTX5 tyX5 tyX5_ok (by rw [hy]; exact cln_X3_15) ins_X5 ini_X5 rfl df_X5 hdg hcells hslots kk
theorem cln_L_7 : Cond.classLink RL 7 RX6 ∈ TBl := TB_in 68 (by decide +kernel) rfl
theorem nw_L_7 {l : Launch} {D : gD} {y : MethodName} {cc : ByteArray} {nL : Nat} {rt : Option FieldType} {R : Room} {sz : Nat} {A : Nat → Prop} {QE : List Frame → Array Value → State → State → Prop} {k n pc : Nat} {L : List (Option Value)} {st : List Value} {σ : Wd} (hy : y.cls = RL) (hdg : decode cc pc = .ok (.new 7, 3)) (hcells : k + 1 ≤ R.cells) (hslots : n + 9 ≤ R.slots) (kk : ∀ a : Nat, sz ≤ a → a ≤ sz + k → (∀ b e, σ b = some e → b < a) → J l D y cc nL rt R sz A QE (k + 1) (n + 9) (pc + 3) L (.ref a :: st) (wup σ a (.inr (6, f0_X6)))) : J l D y cc nL rt R sz A QE k n pc L st σ :=
  j_new (C := RX6) (T := TX6) (N := 9) inTX6 tyX6 tyX6_ok (by rw [hy]; exact cln_L_7) ins_X6 ini_X6 rfl df_X6 hdg hcells hslots kk
theorem cln_L_10 : Cond.classLink RL 10 RX7 ∈ TBl := TB_in 620 (by decide +kernel) rfl
theorem nw_L_10 {l : Launch} {D : gD} {y : MethodName} {cc : ByteArray} {nL : Nat} {rt : Option FieldType} {R : Room} {sz : Nat} {A : Nat → Prop} {QE : List Frame → Array Value → State → State → Prop} {k n pc : Nat} {L : List (Option Value)} {st : List Value} {σ : Wd} (hy : y.cls = RL) (hdg : decode cc pc = .ok (.new 10, 3)) (hcells : k + 1 ≤ R.cells) (hslots : n + 14 ≤ R.slots) (kk : ∀ a : Nat, sz ≤ a → a ≤ sz + k → (∀ b e, σ b = some e → b < a) → J l D y cc nL rt R sz A QE (k + 1) (n + 14) (pc + 3) L (.ref a :: st) (wup σ a (.inr (7, f0_X7)))) : J l D y cc nL rt R sz A QE k n pc L st σ :=
  j_new (C := RX7) (T := TX7) (N := 14) inTX7 tyX7 tyX7_ok (by rw [hy]; exact cln_L_10) ins_X7 ini_X7 rfl df_X7 hdg hcells hslots kk

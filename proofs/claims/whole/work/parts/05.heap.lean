/-! ===== rows over the world ===== -/
def AA (σ0 : Wd) (sz : Nat) : Nat → Prop := fun q => σ0 q ≠ none ∨ sz ≤ q
def Qc0 (D : gD) (σ0 : Wd) (sz : Nat) (P : Option Value → Wd → Prop) : Array Value → State → Outcome → State → Prop := fun _ st o t =>
  (∃ (r : Option Value) (σ' : Wd), o = .returned r ∧ P r σ' ∧ HW D σ' t.heap ∧ ∀ a e, σ' a = some e → AA σ0 sz a) ∧ va_F (AA σ0 sz) st t
def QN (D : gD) (σ0 : Wd) (sz : Nat) (P : Option Value → Wd → Prop) (mc ms : Nat) : List Frame → Array Value → State → State → Prop := fun below args s => MQ below (Qc0 D σ0 sz P) args s mc ms (AA σ0 sz)
/-- a method's contract: from the world σ with the arguments as it returns, its answer and world have P -/
def SP (l : Launch) (D : gD) (y : MethodName) (b : ByteArray) (nL : Nat) (rt : Option FieldType) (rm : Room) (as : List Value) (σ : Wd) (mc ms : Nat) (P : Nat → Option Value → Wd → Prop) : Prop :=
  ∀ sz : Nat, Met l y [Cond.code y b nL rt] rm (va_Pc as (fun U => U.heap.size = sz ∧ HW D σ U.heap ∧ KK D U ∧ TB U)) (Qc0 D σ sz (P sz)) mc ms (AA σ sz)
theorem SP.mono {l : Launch} {D : gD} {y : MethodName} {b : ByteArray} {nL : Nat} {rt : Option FieldType} {rm : Room} {as : List Value} {σ : Wd} {mc ms : Nat} {P P' : Nat → Option Value → Wd → Prop} (h : SP l D y b nL rt rm as σ mc ms P) (hp : ∀ sz r σ', P sz r σ' → P' sz r σ') : SP l D y b nL rt rm as σ mc ms P' := by
  intro sz
  have h1 := h sz
  unfold Met at h1 ⊢
  intro p e ha hc hk s m args below hf hP hK _
  obtain ⟨t, o, q1, q2, q3, ⟨⟨⟨r, σ', e1, e2, e3⟩, hF⟩, hL⟩⟩ := h1 p e ha hc hk s m args below hf hP hK trivial
  exact ⟨t, o, q1, q2, q3, ⟨⟨⟨r, σ', e1, hp sz r σ' e2, e3⟩, hF⟩, hL⟩⟩
theorem posl_args : ∀ (as : List Value) (m k : Nat), (∀ v ∈ as, v.category = 1) → posl k (as.map some ++ List.replicate m none) = lv_args k as
  | [], m, k, _ => by
    show posl k (List.replicate m none) = []
    induction m generalizing k with
    | zero => rfl
    | succ m ih => exact ih (k + 1)
  | v :: as, m, k, h => by
    have hv : v.category = 1 := h v List.mem_cons_self
    show (k, v) :: posl (k + 1) (as.map some ++ List.replicate m none) = (k, v) :: lv_args (if v.category = 2 then k + 2 else k + 1) as
    rw [posl_args as m (k + 1) (fun w hw => h w (List.mem_cons_of_mem _ hw)), if_neg (by omega)]
theorem lg_sl_len : ∀ (as : List Value), (∀ v ∈ as, v.category = 1) → (lg_sl as).length = as.length
  | [], _ => rfl
  | v :: as, h => by
    have hv : v.category = 1 := h v List.mem_cons_self
    have := lg_sl_len as (fun w hw => h w (List.mem_cons_of_mem _ hw))
    unfold lg_sl at this ⊢
    rw [List.flatMap_cons, List.length_append, this, if_neg (by omega)]
    simp
    omega
theorem sp_of {l : Launch} {D : gD} {y : MethodName} {b : ByteArray} {nL : Nat} {rt : Option FieldType} {rm : Room} {as : List Value} {σ : Wd} {mc ms : Nat} {P : Nat → Option Value → Wd → Prop} (hy : plainName y.cls = true) (hcat : ∀ v ∈ as, v.category = 1) (hlen : as.length ≤ nL) (L : List (Option Value)) (hL : L = as.map some ++ List.replicate (nL - as.length) none)
    (h : ∀ sz, J l D y b nL rt rm sz (AA σ sz) (QN D σ sz (P sz) mc ms) 0 0 0 L [] σ) : SP l D y b nL rt rm as σ mc ms P := by
  intro sz
  refine Met.ofW (cc := b) (maxL := nL) (ret := rt) hy rfl ?_
  intro p e s m args below meth c s₁ B hml hv
  obtain ⟨rfl, hsz, hW, hK, hT⟩ := hv
  rw [lg_entry_eq]
  have hc : ∀ v ∈ as, v.category = 1 := hcat
  have he := lv_entry as (n := nL) (by rw [lg_sl_len as hc]; exact hlen)
  refine h sz p e s m _ below meth c ⟨B.exec, B.bytes, hml, B.returns, findClass_of_methodNamed B.named, B.notSynchronized, (name_of_methodNamed B.named B.method).1, hT, hK, hsz⟩ s.heap [] _ ⟨?_, ?_⟩ hW (fun a e h => Or.inl (by rw [h]; simp)) (fun q h => Or.inr h) va_S.rf
  · rw [hL, posl_args as _ 0 hc]
    exact he
  · intro i v hv
    rw [hL] at hv
    have hm := List.mem_of_getElem? hv
    rcases List.mem_append.mp hm with q | q
    · obtain ⟨w, hw, hw2⟩ := List.mem_map.mp q
      cases hw2
      exact hc _ hw
    · have := List.eq_of_mem_replicate q
      cases this
section JH
variable {l : Launch} {D : gD} {y : MethodName} {cc : ByteArray} {nL : Nat} {rt : Option FieldType} {R : Room} {sz : Nat} {A : Nat → Prop} {QE : List Frame → Array Value → State → State → Prop} {k n pc : Nat} {L L' : List (Option Value)} {st : List Value} {σ σ0 : Wd} {P : Option Value → Wd → Prop}
theorem j_iret {z : Int} (hdg : decode cc pc = .ok (.ireturn, 1)) (h : P (some (vi z)) σ) : J l D y cc nL (some .int) R sz (AA σ0 sz) (QN D σ0 sz P k n) k n pc L [vi z] σ :=
  fun p e s m args below meth c C H locs ls hl hW hd hq hS => W.iret C.1 C.2.1 C.2.2.2.1 (fun t ht _ => ⟨⟨_, σ, rfl, h, by rw [ht]; exact hW, hd⟩, hS.F ht⟩) hS.2.2 hdg C.2.2.2.2.2.1
theorem j_zret {z : Int} (hdg : decode cc pc = .ok (.ireturn, 1)) (hz : z = 0 ∨ z = 1) (h : P (some (vi z)) σ) : J l D y cc nL (some .boolean) R sz (AA σ0 sz) (QN D σ0 sz P k n) k n pc L [vi z] σ :=
  fun p e s m args below meth c C H locs ls hl hW hd hq hS => W.zret C.1 C.2.1 C.2.2.2.1 (by rcases hz with rfl | rfl <;> decide) (fun t ht _ => ⟨⟨_, σ, rfl, h, by rw [ht]; exact hW, hd⟩, hS.F ht⟩) hS.2.2 hdg C.2.2.2.2.2.1
theorem j_vret (hdg : decode cc pc = .ok (.return_, 1)) (h : P none σ) : J l D y cc nL none R sz (AA σ0 sz) (QN D σ0 sz P k n) k n pc L [] σ :=
  fun p e s m args below meth c C H locs ls hl hW hd hq hS => W.vret C.1 C.2.1 C.2.2.2.1 (fun t ht _ => ⟨⟨_, σ, rfl, h, by rw [ht]; exact hW, hd⟩, hS.F ht⟩) hS.2.2 hdg C.2.2.2.2.2.1
theorem j_aret {a : Nat} {cn : String} (hdg : decode cc pc = .ok (.areturn, 1)) (h : P (some (.ref a)) σ) : J l D y cc nL (some (.object cn)) R sz (AA σ0 sz) (QN D σ0 sz P k n) k n pc L [.ref a] σ :=
  fun p e s m args below meth c C H locs ls hl hW hd hq hS => W.aret C.1 C.2.1 C.2.2.2.1 (Or.inl ⟨_, rfl⟩) (Or.inr ⟨_, rfl⟩) (fun t ht _ => ⟨⟨_, σ, rfl, h, by rw [ht]; exact hW, hd⟩, hS.F ht⟩) hS.2.2 hdg C.2.2.2.2.2.1
theorem va_DA {ws : va_W} (hD : va_D (fun _ => True) ws) (hs : ∀ (a : Nat) (e : va_E), σ a = some e ↔ ∃ k : Nat, ws[k]? = some (a, e)) (hd : ∀ a e, σ a = some e → A a) : va_D A ws :=
  hD.weaken (fun k q hk _ => hd q.1 q.2 ((hs q.1 q.2).mpr ⟨k, hk⟩))
theorem wup_dom {a : Nat} {e0 e : va_E} (hd : ∀ a e, σ a = some e → A a) (h0 : σ a = some e0) : ∀ b x, wup σ a e b = some x → A b := by
  intro b x hb
  by_cases h : b = a
  · rw [h]
    exact hd a e0 h0
  · rw [wup_n h] at hb
    exact hd b x hb
theorem j_get {C : String} {T : u_T} {N ci idx a : Nat} {fs : List Value} {v : Value} (hin : ∀ w ∈ u_ws C T N, w ∈ TBl) (hc : vwCl[ci]? = some (C, T, N)) (f : Nat) (hf : f < N) (hlink : Cond.fieldLink y.cls idx (T f).1 (T f).2.1 (T f).2.2.1 ∈ TBl) (hdg : decode cc pc = .ok (.getfield idx, 3)) (hσ : σ a = some (.inr (ci, fs))) (hv : fs[f]? = some v)
    (kk : J l D y cc nL rt R sz A QE k n (pc + 3) L (v :: st) σ) : J l D y cc nL rt R sz A QE k n pc L (.ref a :: st) σ := by
  intro p e s m args below meth c Cx H locs ls hl hW hd hq hS
  obtain ⟨ws, hP, hD, hs⟩ := id hW
  obtain ⟨q0, hq0⟩ := (hs a _).mp hσ
  exact va_get Cx.1 Cx.2.1 (fun w hw => Cx.2.2.2.2.2.2.2.1 w hw args) hin Cx.2.2.2.2.1 Cx.2.2.2.2.2.2.2.2.1.1 hP q0 hq0 hc f hf (Cx.2.2.2.2.2.2.2.1 _ hlink args) (fun _ h => h) hv hdg (kk p e s m args below meth c Cx H locs ls hl hW hd hq hS)
theorem j_getN {C host : String} {T : u_T} {N ci idx a : Nat} {fs : List Value} {v : Value} (hin : ∀ w ∈ u_ws C T N, w ∈ TBl) (hc : vwCl[ci]? = some (C, T, N)) (f : Nat) (hf : f < N) (hlink : Cond.fieldLinkNest y.cls idx (T f).1 (T f).2.1 (T f).2.2.1 host ∈ TBl) (hdg : decode cc pc = .ok (.getfield idx, 3)) (hσ : σ a = some (.inr (ci, fs))) (hv : fs[f]? = some v)
    (kk : J l D y cc nL rt R sz A QE k n (pc + 3) L (v :: st) σ) : J l D y cc nL rt R sz A QE k n pc L (.ref a :: st) σ := by
  intro p e s m args below meth c Cx H locs ls hl hW hd hq hS
  obtain ⟨ws, hP, hD, hs⟩ := id hW
  obtain ⟨q0, hq0⟩ := (hs a _).mp hσ
  exact va_getN Cx.1 Cx.2.1 (fun w hw => Cx.2.2.2.2.2.2.2.1 w hw args) hin Cx.2.2.2.2.1 Cx.2.2.2.2.2.2.2.2.1.1 hP q0 hq0 hc f hf (Cx.2.2.2.2.2.2.2.1 _ hlink args) (fun _ h => h) hv hdg (kk p e s m args below meth c Cx H locs ls hl hW hd hq hS)
theorem j_put {C : String} {T : u_T} {N ci idx a : Nat} {fs : List Value} {v : Value} {ty : FieldType} (hin : ∀ w ∈ u_ws C T N, w ∈ TBl) (ty0 : Nat → FieldType) (hty : ∀ k, k < N → parseFieldDescriptor (T k).2.2.1 = some (ty0 k)) (hnm : ∀ a, a < N → ∀ b, b < N → a ≠ b → (T a).2.1 ≠ (T b).2.1) (hc : vwCl[ci]? = some (C, T, N)) (f : Nat) (hf : f < N) (hlink : Cond.fieldLink y.cls idx (T f).1 (T f).2.1 (T f).2.2.1 ∈ TBl) (hfin : (T f).2.2.2 = false) (hpd : parseFieldDescriptor (T f).2.2.1 = some ty) (hdg : decode cc pc = .ok (.putfield idx, 3)) (hσ : σ a = some (.inr (ci, fs))) (hn : narrow ty v = v) (hfit : fits ty v = true) (hl0 : f < fs.length)
    (kk : J l D y cc nL rt R sz A QE k n (pc + 3) L st (wup σ a (.inr (ci, fs.set f v)))) : J l D y cc nL rt R sz A QE k n pc L (v :: .ref a :: st) σ := by
  intro p e s m args below meth c Cx H locs ls hl hW hd hq hS
  obtain ⟨ws, hP, hD, hs⟩ := id hW
  obtain ⟨q0, hq0⟩ := (hs a _).mp hσ
  exact va_put Cx.1 Cx.2.1 (fun w hw => Cx.2.2.2.2.2.2.2.1 w hw args) hin ty0 hty hnm Cx.2.2.2.2.1 Cx.2.2.2.2.2.2.2.2.1.1 hP (va_DA hD hs hd) hS q0 hq0 hc f hf (Cx.2.2.2.2.2.2.2.1 _ hlink args) (fun _ h => h) hfin hpd hn hfit hl0 hdg
    (fun H1 locs1 hP1 hD1 hS1 => kk p e s m args below meth c Cx H1 locs1 ls hl (HW.set' hs hq0 hP1 hD1) (wup_dom hd hσ) hq hS1)
theorem j_putF {C : String} {T : u_T} {N ci idx a : Nat} {fs : List Value} {v : Value} {ty : FieldType} (hin : ∀ w ∈ u_ws C T N, w ∈ TBl) (ty0 : Nat → FieldType) (hty : ∀ k, k < N → parseFieldDescriptor (T k).2.2.1 = some (ty0 k)) (hnm : ∀ a, a < N → ∀ b, b < N → a ≠ b → (T a).2.1 ≠ (T b).2.1) (hc : vwCl[ci]? = some (C, T, N)) (f : Nat) (hf : f < N) (hlink : Cond.fieldLink y.cls idx (T f).1 (T f).2.1 (T f).2.2.1 ∈ TBl) (hfin : (T f).2.2.2 = true) (hpd : parseFieldDescriptor (T f).2.2.1 = some ty) (hini : y.name = "<init>") (hdecl : (T f).1 = y.cls) (hdg : decode cc pc = .ok (.putfield idx, 3)) (hσ : σ a = some (.inr (ci, fs))) (hn : narrow ty v = v) (hfit : fits ty v = true) (hl0 : f < fs.length)
    (kk : J l D y cc nL rt R sz A QE k n (pc + 3) L st (wup σ a (.inr (ci, fs.set f v)))) : J l D y cc nL rt R sz A QE k n pc L (v :: .ref a :: st) σ := by
  intro p e s m args below meth c Cx H locs ls hl hW hd hq hS
  obtain ⟨ws, hP, hD, hs⟩ := id hW
  obtain ⟨q0, hq0⟩ := (hs a _).mp hσ
  exact va_putF Cx.1 Cx.2.1 (fun w hw => Cx.2.2.2.2.2.2.2.1 w hw args) hin ty0 hty hnm Cx.2.2.2.2.1 Cx.2.2.2.2.2.2.2.2.1.1 hP (va_DA hD hs hd) hS q0 hq0 hc f hf (Cx.2.2.2.2.2.2.2.1 _ hlink args) (fun _ h => h) hfin (Cx.2.2.2.2.2.2.1.trans hini) hdecl hpd hn hfit hl0 hdg
    (fun H1 locs1 hP1 hD1 hS1 => kk p e s m args below meth c Cx H1 locs1 ls hl (HW.set' hs hq0 hP1 hD1) (wup_dom hd hσ) hq hS1)
theorem j_iald {a N : Nat} {f : Nat → Int} {z : Int} (hdg : decode cc pc = .ok (.iaload, 1)) (hσ : σ a = some (ia D N f)) (h0 : 0 ≤ z) (h1 : z < N) (hz : R32 z) (kk : J l D y cc nL rt R sz A QE k n (pc + 1) L (vi (f z.toNat) :: st) σ) : J l D y cc nL rt R sz A QE k n pc L (vi z :: .ref a :: st) σ := by
  intro p e s m args below meth c Cx H locs ls hl hW hd hq hS
  obtain ⟨ws, hP, hD, hs⟩ := id hW
  obtain ⟨q0, hq0⟩ := (hs a _).mp hσ
  exact va_iald Cx.1 Cx.2.1 Cx.2.2.2.2.2.2.2.2.1.1 hP q0 0 hq0 rfl (iI_vin h0 h1 hz) hdg (by rw [iI_cl hz]; exact kk p e s m args below meth c Cx H locs ls hl hW hd hq hS)
theorem j_cald {a N : Nat} {f : Nat → Int} {z : Int} (hdg : decode cc pc = .ok (.caload, 1)) (hσ : σ a = some (ca D N f)) (h0 : 0 ≤ z) (h1 : z < N) (hz : R32 z) (kk : J l D y cc nL rt R sz A QE k n (pc + 1) L (vi (f z.toNat) :: st) σ) : J l D y cc nL rt R sz A QE k n pc L (vi z :: .ref a :: st) σ := by
  intro p e s m args below meth c Cx H locs ls hl hW hd hq hS
  obtain ⟨ws, hP, hD, hs⟩ := id hW
  obtain ⟨q0, hq0⟩ := (hs a _).mp hσ
  exact va_cald Cx.1 Cx.2.1 Cx.2.2.2.2.2.2.2.2.1.1 hP q0 1 hq0 rfl (iI_vin h0 h1 hz) hdg (by rw [iI_cl hz]; exact kk p e s m args below meth c Cx H locs ls hl hW hd hq hS)
theorem j_zald {a N : Nat} {f : Nat → Int} {z : Int} (hdg : decode cc pc = .ok (.baload, 1)) (hσ : σ a = some (za D N f)) (h0 : 0 ≤ z) (h1 : z < N) (hz : R32 z) (kk : J l D y cc nL rt R sz A QE k n (pc + 1) L (vi (f z.toNat) :: st) σ) : J l D y cc nL rt R sz A QE k n pc L (vi z :: .ref a :: st) σ := by
  intro p e s m args below meth c Cx H locs ls hl hW hd hq hS
  obtain ⟨ws, hP, hD, hs⟩ := id hW
  obtain ⟨q0, hq0⟩ := (hs a _).mp hσ
  exact va_zald Cx.1 Cx.2.1 Cx.2.2.2.2.2.2.2.2.1.1 hP q0 2 hq0 rfl (iI_vin h0 h1 hz) hdg (by rw [iI_cl hz]; exact kk p e s m args below meth c Cx H locs ls hl hW hd hq hS)
theorem j_aaldO {a N t : Nat} {f : Nat → Option Nat} {z : Int} {C : String} (ht : (tysOf D)[t]? = some (D.2 t, .object C)) (hdg : decode cc pc = .ok (.aaload, 1)) (hσ : σ a = some (qa D t N f)) (h0 : 0 ≤ z) (h1 : z < N) (hz : R32 z) (kk : J l D y cc nL rt R sz A QE k n (pc + 1) L (va_rf (f z.toNat) :: st) σ) : J l D y cc nL rt R sz A QE k n pc L (vi z :: .ref a :: st) σ := by
  intro p e s m args below meth c Cx H locs ls hl hW hd hq hS
  obtain ⟨ws, hP, hD, hs⟩ := id hW
  obtain ⟨q0, hq0⟩ := (hs a _).mp hσ
  exact va_aldq Cx.1 Cx.2.1 Cx.2.2.2.2.2.2.2.2.1.1 hP q0 t hq0 ht (iI_vin h0 h1 hz) hdg (by rw [iI_cl hz]; exact kk p e s m args below meth c Cx H locs ls hl hW hd hq hS)
theorem j_aaldA {a N : Nat} {f : Nat → Option Nat} {z : Int} (hdg : decode cc pc = .ok (.aaload, 1)) (hσ : σ a = some (qa D 5 N f)) (h0 : 0 ≤ z) (h1 : z < N) (hz : R32 z) (kk : J l D y cc nL rt R sz A QE k n (pc + 1) L (va_rf (f z.toNat) :: st) σ) : J l D y cc nL rt R sz A QE k n pc L (vi z :: .ref a :: st) σ := by
  intro p e s m args below meth c Cx H locs ls hl hW hd hq hS
  obtain ⟨ws, hP, hD, hs⟩ := id hW
  obtain ⟨q0, hq0⟩ := (hs a _).mp hσ
  have hin := iI_vin h0 h1 hz
  have hlt : (iI z).toNatClampNeg < N := Nat.not_le.mp fun q => hin (Or.inr q)
  have hK := Cx.2.2.2.2.2.2.2.2.1.1
  exact W.aald (v := va_rf (f (iI z).toNatClampNeg)) (ty := .array .int) Cx.1 Cx.2.1 (hP q0 _ hq0) ((hK.2 5 _ rfl).1 N (fun j => va_rf (f j))) rfl (fun q => by cases q) (by show ¬ (iI z < 0 ∨ (arrV _ _ _).slots.size ≤ _); rw [arrV_size]; exact hin) (by show (arrV _ _ _).slots[_]? = _; rw [arrV_read _ _ hlt]) rfl rfl hdg (by rw [iI_cl hz]; exact kk p e s m args below meth c Cx H locs ls hl hW hd hq hS)
theorem j_iast {a N : Nat} {f : Nat → Int} {z x : Int} (hdg : decode cc pc = .ok (.iastore, 1)) (hσ : σ a = some (ia D N f)) (h0 : 0 ≤ z) (h1 : z < N) (hz : R32 z) (kk : J l D y cc nL rt R sz A QE k n (pc + 1) L st (wup σ a (ia D N (fup f z.toNat x)))) : J l D y cc nL rt R sz A QE k n pc L (vi x :: vi z :: .ref a :: st) σ := by
  intro p e s m args below meth c Cx H locs ls hl hW hd hq hS
  obtain ⟨ws, hP, hD, hs⟩ := id hW
  obtain ⟨q0, hq0⟩ := (hs a _).mp hσ
  exact va_iast Cx.1 Cx.2.1 Cx.2.2.2.2.2.2.2.2.1.1 hP (va_DA hD hs hd) hS q0 0 hq0 rfl (iI_vin h0 h1 hz) hdg (fun H1 locs1 hP1 hD1 hS1 => by
    rw [iI_cl hz, fup_upd] at hP1 hD1
    exact kk p e s m args below meth c Cx H1 locs1 ls hl (HW.set' hs hq0 hP1 hD1) (wup_dom hd hσ) hq hS1)
theorem j_cast {a N : Nat} {f : Nat → Int} {z x : Int} (hdg : decode cc pc = .ok (.castore, 1)) (hσ : σ a = some (ca D N f)) (h0 : 0 ≤ z) (h1 : z < N) (hz : R32 z) (hx : vp_nar .char (iI x) = iI x) (kk : J l D y cc nL rt R sz A QE k n (pc + 1) L st (wup σ a (ca D N (fup f z.toNat x)))) : J l D y cc nL rt R sz A QE k n pc L (vi x :: vi z :: .ref a :: st) σ := by
  intro p e s m args below meth c Cx H locs ls hl hW hd hq hS
  obtain ⟨ws, hP, hD, hs⟩ := id hW
  obtain ⟨q0, hq0⟩ := (hs a _).mp hσ
  exact va_cast Cx.1 Cx.2.1 Cx.2.2.2.2.2.2.2.2.1.1 hP (va_DA hD hs hd) hS q0 1 hq0 rfl (iI_vin h0 h1 hz) hdg (fun H1 locs1 hP1 hD1 hS1 => by
    rw [iI_cl hz, hx, fup_upd] at hP1 hD1
    exact kk p e s m args below meth c Cx H1 locs1 ls hl (HW.set' hs hq0 hP1 hD1) (wup_dom hd hσ) hq hS1)
theorem nar_bool {x : Int} (hx : x = 0 ∨ x = 1) : vp_nar .boolean (iI x) = iI x := by rcases hx with rfl | rfl <;> decide
theorem j_zast {a N : Nat} {f : Nat → Int} {z x : Int} (hdg : decode cc pc = .ok (.bastore, 1)) (hσ : σ a = some (za D N f)) (h0 : 0 ≤ z) (h1 : z < N) (hz : R32 z) (hx : x = 0 ∨ x = 1) (kk : J l D y cc nL rt R sz A QE k n (pc + 1) L st (wup σ a (za D N (fup f z.toNat x)))) : J l D y cc nL rt R sz A QE k n pc L (vi x :: vi z :: .ref a :: st) σ := by
  intro p e s m args below meth c Cx H locs ls hl hW hd hq hS
  obtain ⟨ws, hP, hD, hs⟩ := id hW
  obtain ⟨q0, hq0⟩ := (hs a _).mp hσ
  exact va_zast Cx.1 Cx.2.1 Cx.2.2.2.2.2.2.2.2.1.1 hP (va_DA hD hs hd) hS q0 2 hq0 rfl (iI_vin h0 h1 hz) hdg (fun H1 locs1 hP1 hD1 hS1 => by
    rw [iI_cl hz, nar_bool hx, fup_upd] at hP1 hD1
    exact kk p e s m args below meth c Cx H1 locs1 ls hl (HW.set' hs hq0 hP1 hD1) (wup_dom hd hσ) hq hS1)
theorem va_up_fup (f : Nat → Option Nat) (i : Nat) (v : Option Nat) : va_up f i v = fup f i v := rfl
theorem j_aastO {a N t v ci : Nat} {f : Nat → Option Nat} {z : Int} {r : vw_C} {vs : List Value} (ht : (tysOf D)[t]? = some (D.2 t, .object r.1)) (hc : vwCl[ci]? = some r) (hdg : decode cc pc = .ok (.aastore, 1)) (hσ : σ a = some (qa D t N f)) (hv : σ v = some (.inr (ci, vs))) (h0 : 0 ≤ z) (h1 : z < N) (hz : R32 z) (kk : J l D y cc nL rt R sz A QE k n (pc + 1) L st (wup σ a (qa D t N (fup f z.toNat (some v))))) : J l D y cc nL rt R sz A QE k n pc L (.ref v :: vi z :: .ref a :: st) σ := by
  intro p e s m args below meth c Cx H locs ls hl hW hd hq hS
  obtain ⟨ws, hP, hD, hs⟩ := id hW
  obtain ⟨q0, hq0⟩ := (hs a _).mp hσ
  obtain ⟨q1, hq1⟩ := (hs v _).mp hv
  exact va_astq Cx.1 Cx.2.1 Cx.2.2.2.2.2.2.2.2.1.1 hP (va_DA hD hs hd) hS q0 t q1 ci hq0 ht hq1 hc (iI_vin h0 h1 hz) hdg (fun H1 locs1 hP1 hD1 hS1 => by
    rw [iI_cl hz, va_up_fup] at hP1 hD1
    exact kk p e s m args below meth c Cx H1 locs1 ls hl (HW.set' hs hq0 hP1 hD1) (wup_dom hd hσ) hq hS1)
theorem j_alen {a N : Nat} {f : Nat → Int} (hdg : decode cc pc = .ok (.arraylength, 1)) (hσ : σ a = some (ia D N f)) (kk : J l D y cc nL rt R sz A QE k n (pc + 1) L (vi N :: st) σ) : J l D y cc nL rt R sz A QE k n pc L (.ref a :: st) σ := by
  intro p e s m args below meth c Cx H locs ls hl hW hd hq hS
  obtain ⟨ws, hP, hD, hs⟩ := id hW
  obtain ⟨q0, hq0⟩ := (hs a _).mp hσ
  exact va_alen Cx.1 Cx.2.1 Cx.2.2.2.2.2.2.2.2.1.1 hP q0 0 hq0 rfl (iI_nat N) hdg (kk p e s m args below meth c Cx H locs ls hl hW hd hq hS)
end JH

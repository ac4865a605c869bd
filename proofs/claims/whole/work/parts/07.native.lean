/-! ===== Math.min, Math.max, System.arraycopy; making ===== -/
theorem va_cpy_iI (f g : Nat → Int) (a b c : Nat) : va_cpy (fun j => iI (f j)) (fun j => iI (g j)) a b c = fun j => iI (va_cpy f g a b c j) := by
  funext j
  unfold va_cpy
  split <;> rfl
section JN
variable {l : Launch} {D : gD} {y : MethodName} {cc : ByteArray} {nL : Nat} {rt : Option FieldType} {R : Room} {sz : Nat} {A : Nat → Prop} {QE : List Frame → Array Value → State → State → Prop} {k n pc : Nat} {L L' : List (Option Value)} {st : List Value} {σ σ0 : Wd}
theorem j_mmin {idx : Nat} {a b : Int} (hlink : Cond.methodLink y.cls idx Lib.Math.min.name ∈ TBl) (hst : Cond.static Lib.Math.min.name ∈ TBl) (hini : Cond.initialized "java/lang/Math" ∈ TBl) (hcode : Cond.code Lib.Math.min.name Lib.Math.min.code 2 (some .int) ∈ TBl) (hdg : decode cc pc = .ok (.invokestatic idx, 3)) (ha : R32 a) (hb : R32 b) (hfr : 1 ≤ R.frames) (hlo : (st.map fun v => v.category).sum + 13 ≤ R.locals) (hk : k ≤ R.cells ∧ n ≤ R.slots)
    (kk : J l D y cc nL rt R sz A QE k n (pc + 3) L (vi (if b < a then b else a) :: st) σ) : J l D y cc nL rt R sz A QE k n pc L (vi b :: vi a :: st) σ := by
  intro p e s m args below meth c C H locs ls hl hW hd hq hS
  refine va_mmin C.1 C.2.1 (C.2.2.1.trans hl.1.1.symm) C.2.2.2.2.1 (C.2.2.2.2.2.2.2.1 _ hlink args) (C.2.2.2.2.2.2.2.1 _ hst args) (C.2.2.2.2.2.2.2.1 _ hini args) (C.2.2.2.2.2.2.2.1 _ hcode args) hfr hlo hk.1 hk.2 hdg ?_
  have e1 : (if iI b < iI a then iI b else iI a) = iI (if b < a then b else a) := by
    by_cases h : b < a
    · rw [if_pos h, if_pos ((iI_lt hb ha).mpr h)]
    · rw [if_neg h, if_neg (fun q => h ((iI_lt hb ha).mp q))]
  rw [e1]
  exact kk p e s m args below meth c C H locs ls hl hW hd hq hS
theorem j_mmax {idx : Nat} {a b : Int} (hlink : Cond.methodLink y.cls idx Lib.Math.max.name ∈ TBl) (hst : Cond.static Lib.Math.max.name ∈ TBl) (hini : Cond.initialized "java/lang/Math" ∈ TBl) (hcode : Cond.code Lib.Math.max.name Lib.Math.max.code 2 (some .int) ∈ TBl) (hdg : decode cc pc = .ok (.invokestatic idx, 3)) (ha : R32 a) (hb : R32 b) (hfr : 1 ≤ R.frames) (hlo : (st.map fun v => v.category).sum + 13 ≤ R.locals) (hk : k ≤ R.cells ∧ n ≤ R.slots)
    (kk : J l D y cc nL rt R sz A QE k n (pc + 3) L (vi (if a < b then b else a) :: st) σ) : J l D y cc nL rt R sz A QE k n pc L (vi b :: vi a :: st) σ := by
  intro p e s m args below meth c C H locs ls hl hW hd hq hS
  refine va_mmax C.1 C.2.1 (C.2.2.1.trans hl.1.1.symm) C.2.2.2.2.1 (C.2.2.2.2.2.2.2.1 _ hlink args) (C.2.2.2.2.2.2.2.1 _ hst args) (C.2.2.2.2.2.2.2.1 _ hini args) (C.2.2.2.2.2.2.2.1 _ hcode args) hfr hlo hk.1 hk.2 hdg ?_
  have e1 : (if iI a < iI b then iI b else iI a) = iI (if a < b then b else a) := by
    by_cases h : a < b
    · rw [if_pos h, if_pos ((iI_lt ha hb).mpr h)]
    · rw [if_neg h, if_neg (fun q => h ((iI_lt ha hb).mp q))]
  rw [e1]
  exact kk p e s m args below meth c C H locs ls hl hW hd hq hS
theorem iI_nneg {z : Int} (hz : R32 z) (h : 0 ≤ z) : ¬ iI z < 0 := fun q => by
  have := (iI_lt hz R32_0).mp q
  omega
theorem j_copy {idx a0 a N0 N1 : Nat} {f g : Nat → Int} {sp dp m0 : Int} (hlink : Cond.methodLink y.cls idx arraycopyName ∈ TBl) (hnat : Cond.native arraycopyName ∈ TBl) (hst : Cond.static arraycopyName ∈ TBl) (hini : Cond.initialized "java/lang/System" ∈ TBl) (hdg : decode cc pc = .ok (.invokestatic idx, 3)) (h0 : σ a0 = some (ia D N0 f)) (h1 : σ a = some (ia D N1 g)) (r1 : R32 sp) (r2 : R32 dp) (r3 : R32 m0) (p1 : 0 ≤ sp) (p2 : 0 ≤ dp) (p3 : 0 ≤ m0) (b1 : sp + m0 ≤ N0) (b2 : dp + m0 ≤ N1)
    (hfr : 1 ≤ R.frames) (hlo : (st.map fun v => v.category).sum + 20 ≤ R.locals)
    (kk : J l D y cc nL rt R sz A QE k n (pc + 3) L st (wup σ a (ia D N1 (va_cpy f g sp.toNat dp.toNat m0.toNat)))) : J l D y cc nL rt R sz A QE k n pc L (vi m0 :: vi dp :: .ref a :: vi sp :: .ref a0 :: st) σ := by
  intro p e s m args below meth c C H locs ls hl hW hd hq hS
  obtain ⟨ws, hP, hD, hs⟩ := id hW
  obtain ⟨q0, hq0⟩ := (hs a0 _).mp h0
  obtain ⟨q1, hq1⟩ := (hs a _).mp h1
  have hnw : nativeFrameWords "java/lang/System" "arraycopy" 5 + 11 ≤ 20 := by decide
  refine va_copyi C.1 C.2.1 (C.2.2.1.trans hl.1.1.symm) C.2.2.2.2.1 (C.2.2.2.2.2.2.2.1 _ hlink args) (C.2.2.2.2.2.2.2.1 _ hnat args) (C.2.2.2.2.2.2.2.1 _ hst args) (C.2.2.2.2.2.2.2.1 _ hini args) C.2.2.2.2.2.2.2.2.1.1 hP (va_DA hD hs hd) hS q0 q1 0 0 hq0 hq1 rfl rfl rfl (iI_nneg r1 p1) (iI_nneg r2 p2) (iI_nneg r3 p3) (by rw [iI_cl r1, iI_cl r3]; omega) (by rw [iI_cl r2, iI_cl r3]; omega) (fun _ _ => rfl) hfr (by omega) hdg (fun H1 locs1 hP1 hD1 hS1 => ?_)
  rw [iI_cl r1, iI_cl r2, iI_cl r3, va_cpy_iI] at hP1 hD1
  exact kk p e s m args below meth c C H1 locs1 ls hl (HW.set' hs hq1 hP1 hD1) (wup_dom hd h1) hq hS1
theorem j_putN {C host : String} {T : u_T} {N ci idx a : Nat} {fs : List Value} {v : Value} {ty : FieldType} (hin : ∀ w ∈ u_ws C T N, w ∈ TBl) (ty0 : Nat → FieldType) (hty : ∀ k, k < N → parseFieldDescriptor (T k).2.2.1 = some (ty0 k)) (hnm : ∀ a, a < N → ∀ b, b < N → a ≠ b → (T a).2.1 ≠ (T b).2.1) (hc : vwCl[ci]? = some (C, T, N)) (f : Nat) (hf : f < N) (hlink : Cond.fieldLinkNest y.cls idx (T f).1 (T f).2.1 (T f).2.2.1 host ∈ TBl) (hfin : (T f).2.2.2 = false) (hpd : parseFieldDescriptor (T f).2.2.1 = some ty) (hdg : decode cc pc = .ok (.putfield idx, 3)) (hσ : σ a = some (.inr (ci, fs))) (hn : narrow ty v = v) (hfit : fits ty v = true) (hl0 : f < fs.length)
    (kk : J l D y cc nL rt R sz A QE k n (pc + 3) L st (wup σ a (.inr (ci, fs.set f v)))) : J l D y cc nL rt R sz A QE k n pc L (v :: .ref a :: st) σ := by
  intro p e s m args below meth c Cx H locs ls hl hW hd hq hS
  obtain ⟨ws, hP, hD, hs⟩ := id hW
  obtain ⟨q0, hq0⟩ := (hs a _).mp hσ
  exact va_putN Cx.1 Cx.2.1 (fun w hw => Cx.2.2.2.2.2.2.2.1 w hw args) hin ty0 hty hnm Cx.2.2.2.2.1 Cx.2.2.2.2.2.2.2.2.1.1 hP (va_DA hD hs hd) hS q0 hq0 hc f hf (Cx.2.2.2.2.2.2.2.1 _ hlink args) (fun _ h => h) hfin hpd hn hfit hl0 hdg
    (fun H1 locs1 hP1 hD1 hS1 => kk p e s m args below meth c Cx H1 locs1 ls hl (HW.set' hs hq0 hP1 hD1) (wup_dom hd hσ) hq hS1)
end JN

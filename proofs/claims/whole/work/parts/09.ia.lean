/-! ===== arrays by their values, worlds that differ at some addresses ===== -/
theorem cat1 {as : List Value} (h : as.all (fun v => decide (v.category = 1)) = true) : ∀ v ∈ as, v.category = 1 := fun v hv => by simpa using List.all_eq_true.mp h v hv
abbrev QI (D : gD) (σ : Wd) (sz : Nat) (P : Int → Wd → Prop) := QN D σ sz (fun r σ' => ∃ z, r = some (vi z) ∧ P z σ') 0 0
abbrev QV (D : gD) (σ : Wd) (sz : Nat) (P : Wd → Prop) := QN D σ sz (fun r σ' => r = none ∧ P σ') 0 0
abbrev QR (D : gD) (σ : Wd) (sz : Nat) (P : Nat → Wd → Prop) := QN D σ sz (fun r σ' => ∃ a, r = some (.ref a) ∧ P a σ') 0 0
/-- the int array of N numbers f at a -/
def IA (D : gD) (σ : Wd) (a N : Nat) (f : Nat → Int) : Prop := ∃ F, σ a = some (ia D N F) ∧ ∀ j, j < N → F j = f j
def CA (D : gD) (σ : Wd) (a N : Nat) (f : Nat → Int) : Prop := ∃ F, σ a = some (ca D N F) ∧ ∀ j, j < N → F j = f j
def ZA (D : gD) (σ : Wd) (a N : Nat) (f : Nat → Int) : Prop := ∃ F, σ a = some (za D N F) ∧ ∀ j, j < N → F j = f j
def QA (D : gD) (t : Nat) (σ : Wd) (a N : Nat) (f : Nat → Nat) : Prop := ∃ F, σ a = some (qa D t N F) ∧ ∀ j, j < N → F j = some (f j)
theorem IA.ext {D : gD} {σ : Wd} {a N : Nat} {f g : Nat → Int} (h : IA D σ a N f) (e : ∀ j, j < N → f j = g j) : IA D σ a N g := by
  obtain ⟨F, h1, h2⟩ := h
  exact ⟨F, h1, fun j hj => (h2 j hj).trans (e j hj)⟩
theorem CA.ext {D : gD} {σ : Wd} {a N : Nat} {f g : Nat → Int} (h : CA D σ a N f) (e : ∀ j, j < N → f j = g j) : CA D σ a N g := by
  obtain ⟨F, h1, h2⟩ := h
  exact ⟨F, h1, fun j hj => (h2 j hj).trans (e j hj)⟩
theorem ZA.ext {D : gD} {σ : Wd} {a N : Nat} {f g : Nat → Int} (h : ZA D σ a N f) (e : ∀ j, j < N → f j = g j) : ZA D σ a N g := by
  obtain ⟨F, h1, h2⟩ := h
  exact ⟨F, h1, fun j hj => (h2 j hj).trans (e j hj)⟩
/-- σ' is σ but at the addresses S -/
def Off (S : List Nat) (σ σ' : Wd) : Prop := ∀ q, q ∉ S → σ' q = σ q
theorem Off.rf {S : List Nat} {σ : Wd} : Off S σ σ := fun _ _ => rfl
theorem Off.up {S : List Nat} {σ w : Wd} {a : Nat} {e : va_E} (h : Off S σ w) (ha : a ∈ S) : Off S σ (wup w a e) := fun q hq => (wup_n (fun z => hq (by rw [z]; exact ha))).trans (h q hq)
theorem Off.tr {S : List Nat} {σ w u : Wd} (h : Off S σ w) (h' : Off S w u) : Off S σ u := fun q hq => (h' q hq).trans (h q hq)
theorem Off.mono {S S' : List Nat} {σ w : Wd} (h : Off S σ w) (hs : ∀ q ∈ S, q ∈ S') : Off S' σ w := fun q hq => h q (fun z => hq (hs q z))
theorem Off.get {S : List Nat} {σ w : Wd} {a : Nat} {e : Option va_E} (h : Off S σ w) (ha : σ a = e) (hn : a ∉ S) : w a = e := (h a hn).trans ha
theorem Off.ia {D : gD} {S : List Nat} {σ w : Wd} {a N : Nat} {f : Nat → Int} (h : Off S σ w) (ha : IA D σ a N f) (hn : a ∉ S) : IA D w a N f := by
  obtain ⟨F, h1, h2⟩ := ha
  exact ⟨F, h.get h1 hn, h2⟩
theorem Off.ca {D : gD} {S : List Nat} {σ w : Wd} {a N : Nat} {f : Nat → Int} (h : Off S σ w) (ha : CA D σ a N f) (hn : a ∉ S) : CA D w a N f := by
  obtain ⟨F, h1, h2⟩ := ha
  exact ⟨F, h.get h1 hn, h2⟩
theorem Off.za {D : gD} {S : List Nat} {σ w : Wd} {a N : Nat} {f : Nat → Int} (h : Off S σ w) (ha : ZA D σ a N f) (hn : a ∉ S) : ZA D w a N f := by
  obtain ⟨F, h1, h2⟩ := ha
  exact ⟨F, h.get h1 hn, h2⟩
theorem Off.qa {D : gD} {t : Nat} {S : List Nat} {σ w : Wd} {a N : Nat} {f : Nat → Nat} (h : Off S σ w) (ha : QA D t σ a N f) (hn : a ∉ S) : QA D t w a N f := by
  obtain ⟨F, h1, h2⟩ := ha
  exact ⟨F, h.get h1 hn, h2⟩
theorem wup_off {S : List Nat} {σ : Wd} {a : Nat} {e : va_E} (ha : a ∈ S) : Off S σ (wup σ a e) := Off.rf.up ha
theorem IA.up {D : gD} {σ : Wd} {a b N : Nat} {f : Nat → Int} {e : va_E} (h : IA D σ b N f) (hn : b ≠ a) : IA D (wup σ a e) b N f := by
  obtain ⟨F, h1, h2⟩ := h
  exact ⟨F, wup_of h1 hn, h2⟩
theorem CA.up {D : gD} {σ : Wd} {a b N : Nat} {f : Nat → Int} {e : va_E} (h : CA D σ b N f) (hn : b ≠ a) : CA D (wup σ a e) b N f := by
  obtain ⟨F, h1, h2⟩ := h
  exact ⟨F, wup_of h1 hn, h2⟩
theorem ZA.up {D : gD} {σ : Wd} {a b N : Nat} {f : Nat → Int} {e : va_E} (h : ZA D σ b N f) (hn : b ≠ a) : ZA D (wup σ a e) b N f := by
  obtain ⟨F, h1, h2⟩ := h
  exact ⟨F, wup_of h1 hn, h2⟩
theorem QA.up {D : gD} {t : Nat} {σ : Wd} {a b N : Nat} {f : Nat → Nat} {e : va_E} (h : QA D t σ b N f) (hn : b ≠ a) : QA D t (wup σ a e) b N f := by
  obtain ⟨F, h1, h2⟩ := h
  exact ⟨F, wup_of h1 hn, h2⟩
section JA
variable {l : Launch} {D : gD} {y : MethodName} {cc : ByteArray} {nL : Nat} {rt : Option FieldType} {R : Room} {sz : Nat} {A : Nat → Prop} {QE : List Frame → Array Value → State → State → Prop} {k n pc : Nat} {L L' : List (Option Value)} {st : List Value} {σ : Wd}
theorem jj_iald {a N : Nat} {f : Nat → Int} {z : Int} (hdg : decode cc pc = .ok (.iaload, 1)) (hσ : IA D σ a N f) (h0 : 0 ≤ z) (h1 : z < N) (hz : R32 z) (kk : J l D y cc nL rt R sz A QE k n (pc + 1) L (vi (f z.toNat) :: st) σ) : J l D y cc nL rt R sz A QE k n pc L (vi z :: .ref a :: st) σ := by
  obtain ⟨F, q1, q2⟩ := hσ
  refine j_iald hdg q1 h0 h1 hz ?_
  rw [q2 _ (by omega)]
  exact kk
theorem jj_cald {a N : Nat} {f : Nat → Int} {z : Int} (hdg : decode cc pc = .ok (.caload, 1)) (hσ : CA D σ a N f) (h0 : 0 ≤ z) (h1 : z < N) (hz : R32 z) (kk : J l D y cc nL rt R sz A QE k n (pc + 1) L (vi (f z.toNat) :: st) σ) : J l D y cc nL rt R sz A QE k n pc L (vi z :: .ref a :: st) σ := by
  obtain ⟨F, q1, q2⟩ := hσ
  refine j_cald hdg q1 h0 h1 hz ?_
  rw [q2 _ (by omega)]
  exact kk
theorem jj_zald {a N : Nat} {f : Nat → Int} {z : Int} (hdg : decode cc pc = .ok (.baload, 1)) (hσ : ZA D σ a N f) (h0 : 0 ≤ z) (h1 : z < N) (hz : R32 z) (kk : J l D y cc nL rt R sz A QE k n (pc + 1) L (vi (f z.toNat) :: st) σ) : J l D y cc nL rt R sz A QE k n pc L (vi z :: .ref a :: st) σ := by
  obtain ⟨F, q1, q2⟩ := hσ
  refine j_zald hdg q1 h0 h1 hz ?_
  rw [q2 _ (by omega)]
  exact kk
theorem jj_aaldO {a N t : Nat} {f : Nat → Nat} {z : Int} {C : String} (ht : (tysOf D)[t]? = some (D.2 t, .object C)) (hdg : decode cc pc = .ok (.aaload, 1)) (hσ : QA D t σ a N f) (h0 : 0 ≤ z) (h1 : z < N) (hz : R32 z) (kk : J l D y cc nL rt R sz A QE k n (pc + 1) L (.ref (f z.toNat) :: st) σ) : J l D y cc nL rt R sz A QE k n pc L (vi z :: .ref a :: st) σ := by
  obtain ⟨F, q1, q2⟩ := hσ
  refine j_aaldO ht hdg q1 h0 h1 hz ?_
  rw [q2 _ (by omega)]
  exact kk
theorem jj_aaldA {a N : Nat} {f : Nat → Nat} {z : Int} (hdg : decode cc pc = .ok (.aaload, 1)) (hσ : QA D 5 σ a N f) (h0 : 0 ≤ z) (h1 : z < N) (hz : R32 z) (kk : J l D y cc nL rt R sz A QE k n (pc + 1) L (.ref (f z.toNat) :: st) σ) : J l D y cc nL rt R sz A QE k n pc L (vi z :: .ref a :: st) σ := by
  obtain ⟨F, q1, q2⟩ := hσ
  refine j_aaldA hdg q1 h0 h1 hz ?_
  rw [q2 _ (by omega)]
  exact kk
theorem jj_iast {a N : Nat} {f : Nat → Int} {z x : Int} (hdg : decode cc pc = .ok (.iastore, 1)) (hσ : IA D σ a N f) (h0 : 0 ≤ z) (h1 : z < N) (hz : R32 z) (kk : ∀ e : va_E, IA D (wup σ a e) a N (fup f z.toNat x) → J l D y cc nL rt R sz A QE k n (pc + 1) L st (wup σ a e)) : J l D y cc nL rt R sz A QE k n pc L (vi x :: vi z :: .ref a :: st) σ := by
  obtain ⟨F, q1, q2⟩ := hσ
  refine j_iast hdg q1 h0 h1 hz (kk _ ⟨_, wup_s _ _ _, fun j hj => ?_⟩)
  unfold fup
  split
  · rfl
  · exact q2 j hj
theorem jj_cast {a N : Nat} {f : Nat → Int} {z x : Int} (hdg : decode cc pc = .ok (.castore, 1)) (hσ : CA D σ a N f) (h0 : 0 ≤ z) (h1 : z < N) (hz : R32 z) (hx : vp_nar .char (iI x) = iI x) (kk : ∀ e : va_E, CA D (wup σ a e) a N (fup f z.toNat x) → J l D y cc nL rt R sz A QE k n (pc + 1) L st (wup σ a e)) : J l D y cc nL rt R sz A QE k n pc L (vi x :: vi z :: .ref a :: st) σ := by
  obtain ⟨F, q1, q2⟩ := hσ
  refine j_cast hdg q1 h0 h1 hz hx (kk _ ⟨_, wup_s _ _ _, fun j hj => ?_⟩)
  unfold fup
  split
  · rfl
  · exact q2 j hj
theorem jj_zast {a N : Nat} {f : Nat → Int} {z x : Int} (hdg : decode cc pc = .ok (.bastore, 1)) (hσ : ZA D σ a N f) (h0 : 0 ≤ z) (h1 : z < N) (hz : R32 z) (hx : x = 0 ∨ x = 1) (kk : ∀ e : va_E, ZA D (wup σ a e) a N (fup f z.toNat x) → J l D y cc nL rt R sz A QE k n (pc + 1) L st (wup σ a e)) : J l D y cc nL rt R sz A QE k n pc L (vi x :: vi z :: .ref a :: st) σ := by
  obtain ⟨F, q1, q2⟩ := hσ
  refine j_zast hdg q1 h0 h1 hz hx (kk _ ⟨_, wup_s _ _ _, fun j hj => ?_⟩)
  unfold fup
  split
  · rfl
  · exact q2 j hj
theorem jj_aastO {a N t v ci : Nat} {f : Nat → Nat} {z : Int} {r : vw_C} {vs : List Value} (ht : (tysOf D)[t]? = some (D.2 t, .object r.1)) (hc : vwCl[ci]? = some r) (hdg : decode cc pc = .ok (.aastore, 1)) (hσ : QA D t σ a N f) (hv : σ v = some (.inr (ci, vs))) (h0 : 0 ≤ z) (h1 : z < N) (hz : R32 z) (kk : ∀ e : va_E, QA D t (wup σ a e) a N (fup f z.toNat v) → J l D y cc nL rt R sz A QE k n (pc + 1) L st (wup σ a e)) : J l D y cc nL rt R sz A QE k n pc L (.ref v :: vi z :: .ref a :: st) σ := by
  obtain ⟨F, q1, q2⟩ := hσ
  refine j_aastO ht hc hdg q1 hv h0 h1 hz (kk _ ⟨_, wup_s _ _ _, fun j hj => ?_⟩)
  unfold fup
  split
  · rfl
  · exact q2 j hj
theorem jj_alen {a N : Nat} {f : Nat → Int} (hdg : decode cc pc = .ok (.arraylength, 1)) (hσ : IA D σ a N f) (kk : J l D y cc nL rt R sz A QE k n (pc + 1) L (vi N :: st) σ) : J l D y cc nL rt R sz A QE k n pc L (.ref a :: st) σ := by
  obtain ⟨F, q1, q2⟩ := hσ
  exact j_alen hdg q1 kk
theorem jj_copy {idx a0 a N0 N1 : Nat} {f g : Nat → Int} {sp dp m0 : Int} (hlink : Cond.methodLink y.cls idx arraycopyName ∈ TBl) (hdg : decode cc pc = .ok (.invokestatic idx, 3)) (h0 : IA D σ a0 N0 f) (h1 : IA D σ a N1 g) (r1 : R32 sp) (r2 : R32 dp) (r3 : R32 m0) (p1 : 0 ≤ sp) (p2 : 0 ≤ dp) (p3 : 0 ≤ m0) (b1 : sp + m0 ≤ N0) (b2 : dp + m0 ≤ N1)
    (hfr : 1 ≤ R.frames) (hlo : (st.map fun v => v.category).sum + 20 ≤ R.locals)
    (kk : ∀ e : va_E, IA D (wup σ a e) a N1 (va_cpy f g sp.toNat dp.toNat m0.toNat) → J l D y cc nL rt R sz A QE k n (pc + 3) L st (wup σ a e)) : J l D y cc nL rt R sz A QE k n pc L (vi m0 :: vi dp :: .ref a :: vi sp :: .ref a0 :: st) σ := by
  obtain ⟨F, q1, q2⟩ := h0
  obtain ⟨G, q3, q4⟩ := h1
  refine j_copy hlink wnt_copy wst_copy wini_system hdg q1 q3 r1 r2 r3 p1 p2 p3 b1 b2 hfr hlo (kk _ ⟨_, wup_s _ _ _, fun j hj => ?_⟩)
  unfold va_cpy
  split
  · exact q2 _ (by omega)
  · exact q4 j hj
end JA

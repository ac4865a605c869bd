/-! ===== ints as integers ===== -/
def iI (z : Int) : Int32 := Int32.ofInt z
abbrev vi (z : Int) : Value := .int (iI z)
def R32 (z : Int) : Prop := -2147483648 ≤ z ∧ z < 2147483648
theorem iI_add (a b : Int) : iI a + iI b = iI (a + b) := (Int32.ofInt_add a b).symm
theorem iI_sub (a b : Int) : iI a - iI b = iI (a - b) := (Int32.ofInt_sub a b).symm
theorem iI_mul (a b : Int) : iI a * iI b = iI (a * b) := (Int32.ofInt_mul a b).symm
theorem iI_neg (a : Int) : - iI a = iI (- a) := (Int32.ofInt_neg a).symm
theorem iI_toInt {z : Int} (h : R32 z) : (iI z).toInt = z := Int32.toInt_ofInt_of_le (by have := h.1; omega) (by have := h.2; omega)
theorem iI_of (x : Int32) : iI x.toInt = x := Int32.ofInt_toInt x
theorem R32_toInt (x : Int32) : R32 x.toInt := ⟨by have := Int32.le_toInt x; omega, by have := Int32.toInt_lt x; omega⟩
theorem iI_inj {a b : Int} (ha : R32 a) (hb : R32 b) : iI a = iI b ↔ a = b := ⟨fun h => by rw [← iI_toInt ha, ← iI_toInt hb, h], fun h => by rw [h]⟩
theorem iI_lt {a b : Int} (ha : R32 a) (hb : R32 b) : iI a < iI b ↔ a < b := by rw [Int32.lt_iff_toInt_lt, iI_toInt ha, iI_toInt hb]
theorem iI_le {a b : Int} (ha : R32 a) (hb : R32 b) : iI a ≤ iI b ↔ a ≤ b := by rw [Int32.le_iff_toInt_le, iI_toInt ha, iI_toInt hb]
theorem iI_0 : iI 0 = 0 := rfl
theorem R32_0 : R32 0 := ⟨by omega, by omega⟩
theorem iI_cl {z : Int} (h : R32 z) : (iI z).toNatClampNeg = z.toNat := by
  show (iI z).toInt.toNat = _
  rw [iI_toInt h]
theorem iI_vin {z : Int} {n : Nat} (h0 : 0 ≤ z) (h : z < n) (hr : R32 z) : vp_in (iI z) n := vp_in_iff.mpr ⟨by rw [iI_toInt hr]; exact h0, by rw [iI_toInt hr]; exact h⟩
theorem iI_nat (n : Nat) : Int32.ofNat n = iI n := by
  show _ = Int32.ofInt n
  exact (Int32.ofInt_eq_ofNat ).symm
theorem tdiv_R32 {a b : Int} (ha : R32 a) (hb : 0 < b) (hb2 : R32 b) : R32 (a.tdiv b) := by
  obtain ⟨h1, h2⟩ := ha
  have h := Int.natAbs_tdiv a b
  have h3 : (a.tdiv b).natAbs ≤ a.natAbs := by rw [h]; exact Nat.div_le_self _ _
  constructor
  · omega
  · rcases (show a < 0 ∨ 0 ≤ a by omega) with q | q
    · have : a.tdiv b ≤ 0 := by
        have h5 := Int.tdiv_nonneg (a := -a) (b := b) (by omega) (by omega)
        rw [Int.neg_tdiv] at h5
        omega
      omega
    · omega
theorem iI_div {a b : Int} (ha : R32 a) (hb : R32 b) (h0 : 0 < b) : iI a / iI b = iI (a.tdiv b) := by
  apply Int32.toInt_inj.mp
  rw [iI_toInt (tdiv_R32 ha h0 hb), Int32.toInt_div, iI_toInt ha, iI_toInt hb]
  have h := tdiv_R32 ha h0 hb
  rw [Int.bmod_eq_of_le] <;> (unfold R32 at h; omega)
theorem iI_rem {a b : Int} (ha : R32 a) (hb : R32 b) (h0 : 0 < b) : iI a - iI a / iI b * iI b = iI (a.tmod b) := by
  rw [iI_div ha hb h0, iI_mul, iI_sub]
  congr 1
  have := Int.tmod_add_mul_tdiv a b
  rw [Int.mul_comm b] at this
  omega
theorem iI_ne0 {b : Int} (hb : R32 b) (h0 : b ≠ 0) : ¬ iI b = 0 := fun h => h0 ((iI_inj hb R32_0).mp (h.trans iI_0.symm))
/-- f, but v at k -/
def fup {α : Type} (f : Nat → α) (k : Nat) (v : α) : Nat → α := fun j => if j = k then v else f j
theorem fup_upd (f : Nat → Int) (k : Nat) (x : Int) : upd (fun j => iI (f j)) k (iI x) = fun j => iI (fup f k x j) := by
  funext j
  unfold upd fup
  split <;> rfl
/-! ===== worlds by address ===== -/
abbrev Wd : Type := Nat → Option va_E
def wup (σ : Wd) (a : Nat) (e : va_E) : Wd := fun q => if q = a then some e else σ q
theorem wup_s (σ : Wd) (a : Nat) (e : va_E) : wup σ a e a = some e := if_pos rfl
theorem wup_n {σ : Wd} {a b : Nat} {e : va_E} (h : b ≠ a) : wup σ a e b = σ b := if_neg h
theorem wup_of {σ : Wd} {a b : Nat} {e x : va_E} (h : σ b = some x) (hn : b ≠ a) : wup σ a e b = some x := by rw [wup_n hn]; exact h
theorem wup_wup (σ : Wd) (a : Nat) (e e' : va_E) : wup (wup σ a e) a e' = wup σ a e' := by
  funext q
  unfold wup
  split <;> rfl
theorem wup_id {σ : Wd} {a : Nat} {e : va_E} (h : σ a = some e) : wup σ a e = σ := by
  funext q
  unfold wup
  split
  · next h1 => rw [h1, h]
  · rfl
theorem wup_swap {σ : Wd} {a b : Nat} {e e' : va_E} (h : a ≠ b) : wup (wup σ a e) b e' = wup (wup σ b e') a e := by
  funext q
  unfold wup
  by_cases h1 : q = a
  · by_cases h2 : q = b
    · exact absurd (h1.symm.trans h2) h
    · simp [h1, h]
  · by_cases h2 : q = b <;> simp [h1, h2, Ne.symm h]
/-- D: class ids and slots; the ids of the arrays' classes: 0 int, 1 char, 2 boolean, 3 Table, 4 State, 5 int[] -/
abbrev gD : Type := va_G × (Nat → ClassId)
abbrev tysOf (D : gD) : List (ClassId × FieldType) := [(D.2 0, .int), (D.2 1, .char), (D.2 2, .boolean), (D.2 3, .object "BlockRanks$Table"), (D.2 4, .object "BlockRanks$State"), (D.2 5, .array .int)]
abbrev ia (D : gD) (n : Nat) (f : Nat → Int) : va_E := .inl (D.2 0, n, .inl (fun j => iI (f j)))
abbrev ca (D : gD) (n : Nat) (f : Nat → Int) : va_E := .inl (D.2 1, n, .inl (fun j => iI (f j)))
abbrev za (D : gD) (n : Nat) (f : Nat → Int) : va_E := .inl (D.2 2, n, .inl (fun j => iI (f j)))
abbrev qa (D : gD) (k n : Nat) (f : Nat → Option Nat) : va_E := .inl (D.2 k, n, .inr (.inr (.inr (.inr f))))
def XR (D : gD) (U : State) : Prop := ∃ (kR kI : Class), U.vm.classes[D.2 5]? = some kR ∧ kR.kind = .array (D.2 0) (.array .int) ∧ U.vm.classes[D.2 0]? = some kI ∧ U.vm.assignable (D.2 0) (D.2 0) = true ∧ U.vm.findClass "[[I" = some (D.2 5) ∧ va_AO "BlockRanks$Table" U ∧ va_AO "BlockRanks$State" U
theorem XR.moved {D : gD} {u U : State} (hvm : u.vm.Alike U.vm) (h : XR D u) : XR D U := by
  obtain ⟨kR, kI, h1, h2, h3, h4, h5, h6, h7⟩ := h
  obtain ⟨kR', q1, q2⟩ := hvm.2.2 _ _ h1
  obtain ⟨kI', q3, q4⟩ := hvm.2.2 _ _ h3
  exact ⟨kR', kI', q1, by rw [q2]; exact h2, q3, by rw [hvm.assignable]; exact h4, by rw [hvm.findClass]; exact h5, h6.moved hvm, h7.moved hvm⟩
def KK (D : gD) (U : State) : Prop := va_K D.1 vwCl (tysOf D) U ∧ XR D U
theorem KK.moved {D : gD} {u U : State} (hvm : u.vm.Alike U.vm) (h : KK D u) : KK D U := ⟨va_K.moved hvm h.1, h.2.moved hvm⟩
def isNest : Cond → Bool
  | .methodLinkNest .. => true
  | .fieldLinkNest .. => true
  | _ => false
def TBl : List Cond := lw_tbl.filter (fun w => goodWord w || isNest w)
def TB (U : State) : Prop := ∀ w ∈ TBl, ∀ a : Array Value, w.before a U = true
theorem TB.warm {s U : State} (hW : s.WarmedH U.vm) (h : TB s) : TB U := by
  intro w hw a
  have hg := (List.mem_filter.mp hw).2
  rw [Bool.or_eq_true] at hg
  rcases hg with hg | hg
  · exact word_at hW (good_of_word hg) (h w hw #[])
  · cases w <;> first | (simp [isNest] at hg; done) | skip
    · exact va_Nw.use rfl (va_Nw.warmM hW (va_Nw.of rfl (h _ hw #[])))
    · exact va_Nw.use rfl (va_Nw.warmF hW (va_Nw.of rfl (h _ hw #[])))
theorem TB_in {w : Cond} (n : Nat) (h : lw_tbl[n]? = some w) (hg : (goodWord w || isNest w) = true) : w ∈ TBl := List.mem_filter.mpr ⟨List.mem_of_getElem? h, hg⟩
def HW (D : gD) (σ : Wd) (H : Heap) : Prop := ∃ ws : va_W, va_P D.1 vwCl ws H ∧ va_D (fun _ => True) ws ∧ ∀ (a : Nat) (e : va_E), σ a = some e ↔ ∃ k : Nat, ws[k]? = some (a, e)
theorem HW.lt {D : gD} {σ : Wd} {H : Heap} (h : HW D σ H) {a : Nat} {e : va_E} (ha : σ a = some e) : a < H.size := by
  obtain ⟨ws, hP, -, hs⟩ := h
  obtain ⟨k, hk⟩ := (hs a e).mp ha
  exact (hP k _ hk).lt
theorem HW.set' {D : gD} {σ : Wd} {H1 : Heap} {A : Nat → Prop} {ws : va_W} {q0 a : Nat} {e0 e : va_E} (hs : ∀ (a : Nat) (e : va_E), σ a = some e ↔ ∃ k : Nat, ws[k]? = some (a, e)) (h0 : ws[q0]? = some (a, e0))
    (hP1 : va_P D.1 vwCl (ws.set q0 (a, e)) H1) (hD1 : va_D A (ws.set q0 (a, e))) : HW D (wup σ a e) H1 := by
  have hl := (List.getElem?_eq_some_iff.mp h0).1
  refine ⟨_, hP1, hD1.weaken (fun _ _ _ _ => trivial), fun b x => ?_⟩
  by_cases hb : b = a
  · subst hb
    rw [wup_s]
    constructor
    · intro h
      cases h
      exact ⟨q0, List.getElem?_set_self hl⟩
    · rintro ⟨k, hk⟩
      have h1 : (ws.set q0 (b, e))[q0]? = some (b, e) := List.getElem?_set_self hl
      have := hD1.1 k q0 _ _ hk h1 rfl
      subst this
      rw [hk] at h1
      cases h1
      rfl
  · rw [wup_n hb, hs]
    constructor
    · rintro ⟨k, hk⟩
      have hne : q0 ≠ k := fun z => hb (by subst z; rw [hk] at h0; cases h0; rfl)
      exact ⟨k, by rw [List.getElem?_set_ne hne]; exact hk⟩
    · rintro ⟨k, hk⟩
      by_cases hne : q0 = k
      · subst hne
        rw [List.getElem?_set_self hl] at hk
        cases hk
        exact absurd rfl hb
      · rw [List.getElem?_set_ne hne] at hk
        exact ⟨k, hk⟩
theorem HW.push {D : gD} {σ : Wd} {H1 : Heap} {A : Nat → Prop} {ws : va_W} {a : Nat} {e : va_E} (hs : ∀ (a : Nat) (e : va_E), σ a = some e ↔ ∃ k : Nat, ws[k]? = some (a, e))
    (hP1 : va_P D.1 vwCl (ws ++ [(a, e)]) H1) (hD1 : va_D A (ws ++ [(a, e)])) : HW D (wup σ a e) H1 := by
  refine ⟨_, hP1, hD1.weaken (fun _ _ _ _ => trivial), fun b x => ?_⟩
  have hlast : (ws ++ [(a, e)])[ws.length]? = some (a, e) := by simp
  by_cases hb : b = a
  · subst hb
    rw [wup_s]
    constructor
    · intro h
      cases h
      exact ⟨ws.length, hlast⟩
    · rintro ⟨k, hk⟩
      have := hD1.1 k ws.length _ _ hk hlast rfl
      subst this
      rw [hk] at hlast
      cases hlast
      rfl
  · rw [wup_n hb, hs]
    constructor
    · rintro ⟨k, hk⟩
      exact ⟨k, by rw [List.getElem?_append_left (List.getElem?_eq_some_iff.mp hk).1]; exact hk⟩
    · rintro ⟨k, hk⟩
      by_cases hl : k < ws.length
      · rw [List.getElem?_append_left hl] at hk
        exact ⟨k, hk⟩
      · have : k < (ws ++ [(a, e)]).length := (List.getElem?_eq_some_iff.mp hk).1
        have hkl : k = ws.length := by simp at this; omega
        subst hkl
        rw [hlast] at hk
        cases hk
        exact absurd rfl hb
/-! ===== locals by place ===== -/
def posl : Nat → List (Option Value) → List (Nat × Value)
  | _, [] => []
  | k, none :: L => posl (k + 1) L
  | k, some v :: L => (k, v) :: posl (k + 1) L
theorem posl_mem : ∀ (L : List (Option Value)) (k : Nat) (q : Nat × Value), q ∈ posl k L ↔ ∃ j : Nat, q.1 = k + j ∧ L[j]? = some (some q.2)
  | [], k, q => by simp [posl]
  | none :: L, k, q => by
    show q ∈ posl (k + 1) L ↔ _
    rw [posl_mem L (k + 1) q]
    constructor
    · rintro ⟨j, h1, h2⟩
      exact ⟨j + 1, by omega, by simpa using h2⟩
    · rintro ⟨j, h1, h2⟩
      cases j with
      | zero => simp at h2
      | succ j => exact ⟨j, by omega, by simpa using h2⟩
  | some v :: L, k, q => by
    show q ∈ (k, v) :: posl (k + 1) L ↔ _
    rw [List.mem_cons, posl_mem L (k + 1) q]
    constructor
    · rintro (h | ⟨j, h1, h2⟩)
      · subst h
        exact ⟨0, rfl, rfl⟩
      · exact ⟨j + 1, by omega, by simpa using h2⟩
    · rintro ⟨j, h1, h2⟩
      cases j with
      | zero =>
        left
        simp at h2
        obtain ⟨q1, q2⟩ := q
        simp at h1 h2
        rw [h1, h2]
      | succ j => exact Or.inr ⟨j, by omega, by simpa using h2⟩
def LH (ls : Array Slot) (nL : Nat) (L : List (Option Value)) : Prop := lv_has ls nL (posl 0 L) ∧ ∀ (i : Nat) (v : Value), L[i]? = some (some v) → v.category = 1
theorem LH.at {ls : Array Slot} {nL : Nat} {L : List (Option Value)} (h : LH ls nL L) {i : Nat} {v : Value} (hi : L[i]? = some (some v)) : ls[i]? = some (.val v) :=
  h.1.2.2 (i, v) ((posl_mem L 0 (i, v)).mpr ⟨i, by simp, hi⟩)
theorem LH.put {ls : Array Slot} {nL : Nat} {L : List (Option Value)} (h : LH ls nL L) (i : Nat) {v : Value} (hv : v.category = 1) {ls' : Array Slot} (h' : lv_has ls' nL ((i, v) :: (posl 0 L).filter (fun q => !(q.1 == i) && !(q.1 + 1 == i && q.2.category == 2)))) : LH ls' nL (L.set i (some v)) := by
  refine ⟨⟨h'.1, h'.2.1, fun q hq => h'.2.2 q ?_⟩, fun j w hw => ?_⟩
  · obtain ⟨j, h1, h2⟩ := (posl_mem _ 0 q).mp hq
    by_cases hj : j = i
    · subst hj
      obtain ⟨q1, q2⟩ := q
      have hlt : j < L.length := by
        have := (List.getElem?_eq_some_iff.mp h2).1
        simpa using this
      rw [List.getElem?_set_self hlt] at h2
      simp at h1 h2
      subst h1
      subst h2
      exact List.mem_cons_self
    · rw [List.getElem?_set_ne (Ne.symm hj)] at h2
      refine List.mem_cons_of_mem _ (List.mem_filter.mpr ⟨(posl_mem L 0 q).mpr ⟨j, h1, h2⟩, ?_⟩)
      have hc := h.2 j q.2 h2
      have : q.1 ≠ i := by omega
      simp [this, hc]
  · by_cases hj : j = i
    · subst hj
      have hlt : j < L.length := by
        have := (List.getElem?_eq_some_iff.mp hw).1
        simpa using this
      rw [List.getElem?_set_self hlt] at hw
      simp at hw
      rw [← hw]
      exact hv
    · rw [List.getElem?_set_ne (Ne.symm hj)] at hw
      exact h.2 j w hw
/-- fewer locals -/
def LLe : List (Option Value) → List (Option Value) → Prop
  | [], _ => True
  | none :: L, _ :: M => LLe L M
  | some v :: L, x :: M => x = some v ∧ LLe L M
  | none :: L, [] => LLe L []
  | some _ :: _, [] => False
theorem LLe.get : ∀ {L M : List (Option Value)}, LLe L M → ∀ {i : Nat} {v : Value}, L[i]? = some (some v) → M[i]? = some (some v)
  | [], M, _, i, v, h => by simp at h
  | none :: L, x :: M, h, i, v, hi => by
    cases i with
    | zero => simp at hi
    | succ i =>
      have h' : LLe L M := h
      have := h'.get (i := i) (v := v) (by simpa using hi)
      simpa using this
  | some w :: L, x :: M, h, i, v, hi => by
    obtain ⟨h1, h2⟩ := h
    cases i with
    | zero =>
      simp at hi
      simp [h1, hi]
    | succ i =>
      have := h2.get (i := i) (v := v) (by simpa using hi)
      simpa using this
  | none :: L, [], h, i, v, hi => by
    cases i with
    | zero => simp at hi
    | succ i =>
      have h' : LLe L [] := h
      have := h'.get (i := i) (v := v) (by simpa using hi)
      simp at this
  | some _ :: _, [], h, _, _, _ => h.elim
theorem LH.le {ls : Array Slot} {nL : Nat} {L M : List (Option Value)} (h : LH ls nL M) (hl : LLe L M) : LH ls nL L :=
  ⟨⟨h.1.1, h.1.2.1, fun q hq => by
    obtain ⟨j, h1, h2⟩ := (posl_mem L 0 q).mp hq
    exact h.1.2.2 q ((posl_mem M 0 q).mpr ⟨j, h1, hl.get h2⟩)⟩, fun i v hi => h.2 i v (hl.get hi)⟩

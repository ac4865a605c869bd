/-! ===== the judgement: a method's frame at pc, over a world ===== -/
def JC (D : gD) (y : MethodName) (cc : ByteArray) (nL : Nat) (rt : Option FieldType) (sz : Nat) (p : Program) (s : State) (m : MethodId) (meth : Method) (c : Code) : Prop :=
  p.tables.exec = Jvm.exec ∧ c.code = cc ∧ c.maxLocals = nL ∧ meth.sig.returnType = rt ∧ s.vm.findClass y.cls = some m.cls ∧ meth.locks = false ∧ meth.name = y.name ∧ TB s ∧ KK D s ∧ s.heap.size = sz
/-- at pc, with the locals L, the stack st and the world σ, k cells of n slots made: it comes to its end -/
def J (l : Launch) (D : gD) (y : MethodName) (cc : ByteArray) (nL : Nat) (rt : Option FieldType) (R : Room) (sz : Nat) (A : Nat → Prop) (QE : List Frame → Array Value → State → State → Prop) (k n pc : Nat) (L : List (Option Value)) (st : List Value) (σ : Wd) : Prop :=
  ∀ (p : Program) (e : Env) (s : State) (m : MethodId) (args : Array Value) (below : List Frame) (meth : Method) (c : Code), JC D y cc nL rt sz p s m meth c →
    ∀ (H : Heap) (locs : List Loc) (ls : Array Slot), LH ls nL L → HW D σ H → (∀ a e, σ a = some e → A a) → (∀ q, sz ≤ q → A q) → va_S A s.heap H locs → W p l e R s m args below meth c H locs k n (QE below args s) (F0 m pc ls st)
section JR
variable {l : Launch} {D : gD} {y : MethodName} {cc : ByteArray} {nL : Nat} {rt : Option FieldType} {R : Room} {sz : Nat} {A : Nat → Prop} {QE : List Frame → Array Value → State → State → Prop} {k n pc : Nat} {L L' : List (Option Value)} {st : List Value} {σ : Wd}
theorem j_go {pc' : Nat} {st st' : List Value}
    (step : ∀ (p : Program) (e : Env) (s : State) (m : MethodId) (args : Array Value) (below : List Frame) (meth : Method) (c : Code), JC D y cc nL rt sz p s m meth c → ∀ (ls : Array Slot), LH ls nL L → ∀ (H : Heap) (locs : List Loc) (Q : State → Prop), W p l e R s m args below meth c H locs k n Q (F0 m pc' ls st') → W p l e R s m args below meth c H locs k n Q (F0 m pc ls st))
    (kk : J l D y cc nL rt R sz A QE k n pc' L st' σ) : J l D y cc nL rt R sz A QE k n pc L st σ :=
  fun p e s m args below meth c C H locs ls hl hW hd hq hS => step p e s m args below meth c C ls hl H locs _ (kk p e s m args below meth c C H locs ls hl hW hd hq hS)
theorem j_weak {M : List (Option Value)} (hl : LLe L M) (kk : J l D y cc nL rt R sz A QE k n pc L st σ) : J l D y cc nL rt R sz A QE k n pc M st σ :=
  fun p e s m args below meth c C H locs ls h hW hd hq hS => kk p e s m args below meth c C H locs ls (h.le hl) hW hd hq hS
theorem j_eqw {σ' : Wd} (h : σ' = σ) (kk : J l D y cc nL rt R sz A QE k n pc L st σ') : J l D y cc nL rt R sz A QE k n pc L st σ := h ▸ kk
theorem j_iconst {z : Int} (hdg : decode cc pc = .ok (.iconst z, 1)) (kk : J l D y cc nL rt R sz A QE k n (pc + 1) L (vi z :: st) σ) : J l D y cc nL rt R sz A QE k n pc L st σ :=
  j_go (fun _ _ _ _ _ _ _ _ C _ _ _ _ _ h => lv_iconst C.1 C.2.1 hdg rfl h) kk
theorem j_bipush {z : Int} (hdg : decode cc pc = .ok (.bipush z, 2)) (hv : (Int8.ofInt z).toInt32 = iI z) (kk : J l D y cc nL rt R sz A QE k n (pc + 2) L (vi z :: st) σ) : J l D y cc nL rt R sz A QE k n pc L st σ :=
  j_go (fun _ _ _ _ _ _ _ _ C _ _ _ _ _ h => lv_bipush C.1 C.2.1 hdg hv h) kk
theorem j_sipush {z : Int} (hdg : decode cc pc = .ok (.sipush z, 3)) (hv : (Int16.ofInt z).toInt32 = iI z) (kk : J l D y cc nL rt R sz A QE k n (pc + 3) L (vi z :: st) σ) : J l D y cc nL rt R sz A QE k n pc L st σ :=
  j_go (fun _ _ _ _ _ _ _ _ C _ _ _ _ _ h => lv_sipush C.1 C.2.1 hdg hv h) kk
theorem j_iload_n {i : Fin 4} {x : Int32} (hdg : decode cc pc = .ok (.iload_n i, 1)) (hl : L[(i : Nat)]? = some (some (.int x))) (kk : J l D y cc nL rt R sz A QE k n (pc + 1) L (.int x :: st) σ) : J l D y cc nL rt R sz A QE k n pc L st σ :=
  j_go (fun _ _ _ _ _ _ _ _ C _ h0 _ _ _ h => lv_iload_n C.1 C.2.1 hdg rfl (h0.at hl) h) kk
theorem j_iload {i : Nat} {x : Int32} (hdg : decode cc pc = .ok (.iload i, 2)) (hl : L[i]? = some (some (.int x))) (kk : J l D y cc nL rt R sz A QE k n (pc + 2) L (.int x :: st) σ) : J l D y cc nL rt R sz A QE k n pc L st σ :=
  j_go (fun _ _ _ _ _ _ _ _ C _ h0 _ _ _ h => lv_iload C.1 C.2.1 hdg (h0.at hl) h) kk
theorem j_aload_n {i : Fin 4} {x : Nat} (hdg : decode cc pc = .ok (.aload_n i, 1)) (hl : L[(i : Nat)]? = some (some (.ref x))) (kk : J l D y cc nL rt R sz A QE k n (pc + 1) L (.ref x :: st) σ) : J l D y cc nL rt R sz A QE k n pc L st σ :=
  j_go (fun _ _ _ _ _ _ _ _ C _ h0 _ _ _ h => lv_aload_n C.1 C.2.1 hdg rfl (h0.at hl) h) kk
theorem j_aload {i : Nat} {x : Nat} (hdg : decode cc pc = .ok (.aload i, 2)) (hl : L[i]? = some (some (.ref x))) (kk : J l D y cc nL rt R sz A QE k n (pc + 2) L (.ref x :: st) σ) : J l D y cc nL rt R sz A QE k n pc L st σ :=
  j_go (fun _ _ _ _ _ _ _ _ C _ h0 _ _ _ h => lv_aload C.1 C.2.1 hdg (h0.at hl) h) kk
theorem j_istore_n {i : Fin 4} {x : Int32} (hdg : decode cc pc = .ok (.istore_n i, 1)) (hn : (i : Nat) < nL) (hL : L.set i (some (.int x)) = L') (kk : J l D y cc nL rt R sz A QE k n (pc + 1) L' st σ) : J l D y cc nL rt R sz A QE k n pc L (.int x :: st) σ :=
  fun p e s m args below meth c C H locs ls hl hW hd hq hS => lv_istore_n C.1 C.2.1 hdg rfl hl.1 hn rfl (fun ls' h' => kk p e s m args below meth c C H locs ls' (hL ▸ hl.put i rfl h') hW hd hq hS)
theorem j_istore {i : Nat} {x : Int32} (hdg : decode cc pc = .ok (.istore i, 2)) (hn : i < nL) (hL : L.set i (some (.int x)) = L') (kk : J l D y cc nL rt R sz A QE k n (pc + 2) L' st σ) : J l D y cc nL rt R sz A QE k n pc L (.int x :: st) σ :=
  fun p e s m args below meth c C H locs ls hl hW hd hq hS => lv_istore C.1 C.2.1 hdg hl.1 hn rfl (fun ls' h' => kk p e s m args below meth c C H locs ls' (hL ▸ hl.put i rfl h') hW hd hq hS)
theorem j_astore_n {i : Fin 4} {x : Nat} (hdg : decode cc pc = .ok (.astore_n i, 1)) (hn : (i : Nat) < nL) (hL : L.set i (some (.ref x)) = L') (kk : J l D y cc nL rt R sz A QE k n (pc + 1) L' st σ) : J l D y cc nL rt R sz A QE k n pc L (.ref x :: st) σ :=
  fun p e s m args below meth c C H locs ls hl hW hd hq hS => lv_astore_n C.1 C.2.1 hdg rfl hl.1 hn rfl (fun ls' h' => kk p e s m args below meth c C H locs ls' (hL ▸ hl.put i rfl h') hW hd hq hS)
theorem j_astore {i : Nat} {x : Nat} (hdg : decode cc pc = .ok (.astore i, 2)) (hn : i < nL) (hL : L.set i (some (.ref x)) = L') (kk : J l D y cc nL rt R sz A QE k n (pc + 2) L' st σ) : J l D y cc nL rt R sz A QE k n pc L (.ref x :: st) σ :=
  fun p e s m args below meth c C H locs ls hl hW hd hq hS => lv_astore C.1 C.2.1 hdg hl.1 hn rfl (fun ls' h' => kk p e s m args below meth c C H locs ls' (hL ▸ hl.put i rfl h') hW hd hq hS)
theorem j_iinc {i : Nat} {z x : Int} (hdg : decode cc pc = .ok (.iinc i z, 3)) (hl0 : L[i]? = some (some (vi x))) (hn : i < nL) (hL : L.set i (some (vi (x + z))) = L') (kk : J l D y cc nL rt R sz A QE k n (pc + 3) L' st σ) : J l D y cc nL rt R sz A QE k n pc L st σ :=
  fun p e s m args below meth c C H locs ls hl hW hd hq hS => by
    have hmem : (i, vi x) ∈ posl 0 L := (posl_mem L 0 (i, vi x)).mpr ⟨i, by simp, hl0⟩
    obtain ⟨kx, hkx⟩ := List.getElem?_of_mem hmem
    exact lv_iinc (v := iI (x + z)) C.1 C.2.1 hdg hl.1 hkx (iI_add x z) hn rfl (fun ls' h' => kk p e s m args below meth c C H locs ls' (hL ▸ hl.put i rfl h') hW hd hq hS)
theorem j_iadd {a b : Int} (hdg : decode cc pc = .ok (.iadd, 1)) (kk : J l D y cc nL rt R sz A QE k n (pc + 1) L (vi (a + b) :: st) σ) : J l D y cc nL rt R sz A QE k n pc L (vi b :: vi a :: st) σ :=
  j_go (fun _ _ _ _ _ _ _ _ C _ _ _ _ _ h => lv_iadd C.1 C.2.1 hdg (by rw [iI_add]; exact h)) kk
theorem j_isub {a b : Int} (hdg : decode cc pc = .ok (.isub, 1)) (kk : J l D y cc nL rt R sz A QE k n (pc + 1) L (vi (a - b) :: st) σ) : J l D y cc nL rt R sz A QE k n pc L (vi b :: vi a :: st) σ :=
  j_go (fun _ _ _ _ _ _ _ _ C _ _ _ _ _ h => lv_isub C.1 C.2.1 hdg (by rw [iI_sub]; exact h)) kk
theorem j_imul {a b : Int} (hdg : decode cc pc = .ok (.imul, 1)) (kk : J l D y cc nL rt R sz A QE k n (pc + 1) L (vi (a * b) :: st) σ) : J l D y cc nL rt R sz A QE k n pc L (vi b :: vi a :: st) σ :=
  j_go (fun _ _ _ _ _ _ _ _ C _ _ _ _ _ h => lv_imul C.1 C.2.1 hdg (by rw [iI_mul]; exact h)) kk
theorem j_ineg {a : Int} (hdg : decode cc pc = .ok (.ineg, 1)) (kk : J l D y cc nL rt R sz A QE k n (pc + 1) L (vi (- a) :: st) σ) : J l D y cc nL rt R sz A QE k n pc L (vi a :: st) σ :=
  j_go (fun _ _ _ _ _ _ _ _ C _ _ _ _ _ h => lv_ineg C.1 C.2.1 hdg (by rw [iI_neg]; exact h)) kk
theorem j_idiv {a b : Int} (hdg : decode cc pc = .ok (.idiv, 1)) (ha : R32 a) (hb : R32 b) (h0 : 0 < b) (kk : J l D y cc nL rt R sz A QE k n (pc + 1) L (vi (a.tdiv b) :: st) σ) : J l D y cc nL rt R sz A QE k n pc L (vi b :: vi a :: st) σ :=
  j_go (fun _ _ _ _ _ _ _ _ C _ _ _ _ _ h => lv_idiv C.1 C.2.1 hdg (iI_ne0 hb (by omega)) (by rw [iI_div ha hb h0]; exact h)) kk
theorem j_irem {a b : Int} (hdg : decode cc pc = .ok (.irem, 1)) (ha : R32 a) (hb : R32 b) (h0 : 0 < b) (kk : J l D y cc nL rt R sz A QE k n (pc + 1) L (vi (a.tmod b) :: st) σ) : J l D y cc nL rt R sz A QE k n pc L (vi b :: vi a :: st) σ :=
  j_go (fun _ _ _ _ _ _ _ _ C _ _ _ _ _ h => lv_irem C.1 C.2.1 hdg (iI_ne0 hb (by omega)) (by rw [iI_rem ha hb h0]; exact h)) kk
theorem j_iand {a b : Int32} (hdg : decode cc pc = .ok (.iand, 1)) (kk : J l D y cc nL rt R sz A QE k n (pc + 1) L (.int (a &&& b) :: st) σ) : J l D y cc nL rt R sz A QE k n pc L (.int b :: .int a :: st) σ :=
  j_go (fun _ _ _ _ _ _ _ _ C _ _ _ _ _ h => lv_iand C.1 C.2.1 hdg h) kk
theorem j_ior {a b : Int32} (hdg : decode cc pc = .ok (.ior, 1)) (kk : J l D y cc nL rt R sz A QE k n (pc + 1) L (.int (a ||| b) :: st) σ) : J l D y cc nL rt R sz A QE k n pc L (.int b :: .int a :: st) σ :=
  j_go (fun _ _ _ _ _ _ _ _ C _ _ _ _ _ h => lv_ior C.1 C.2.1 hdg h) kk
theorem j_ishl {a b : Int32} (hdg : decode cc pc = .ok (.ishl, 1)) (kk : J l D y cc nL rt R sz A QE k n (pc + 1) L (.int (a <<< (b &&& 31)) :: st) σ) : J l D y cc nL rt R sz A QE k n pc L (.int b :: .int a :: st) σ :=
  j_go (fun _ _ _ _ _ _ _ _ C _ _ _ _ _ h => lv_ishl C.1 C.2.1 hdg h) kk
theorem j_ishr {a b : Int32} (hdg : decode cc pc = .ok (.ishr, 1)) (kk : J l D y cc nL rt R sz A QE k n (pc + 1) L (.int (a >>> (b &&& 31)) :: st) σ) : J l D y cc nL rt R sz A QE k n pc L (.int b :: .int a :: st) σ :=
  j_go (fun _ _ _ _ _ _ _ _ C _ _ _ _ _ h => lv_ishr C.1 C.2.1 hdg h) kk
theorem j_i2c {a : Int32} (hdg : decode cc pc = .ok (.i2c, 1)) (kk : J l D y cc nL rt R sz A QE k n (pc + 1) L (.int (a.toUInt32 % 65536).toInt32 :: st) σ) : J l D y cc nL rt R sz A QE k n pc L (.int a :: st) σ :=
  j_go (fun _ _ _ _ _ _ _ _ C _ _ _ _ _ h => lv_i2c C.1 C.2.1 hdg rfl h) kk
/-- another name of the number on top -/
theorem j_top {x x' : Int32} (h : x = x') (kk : J l D y cc nL rt R sz A QE k n pc L (.int x' :: st) σ) : J l D y cc nL rt R sz A QE k n pc L (.int x :: st) σ := h ▸ kk
theorem j_tops {a a' : Int} (h : a = a') (kk : J l D y cc nL rt R sz A QE k n pc L (vi a' :: st) σ) : J l D y cc nL rt R sz A QE k n pc L (vi a :: st) σ := h ▸ kk
theorem j_dup {v : Value} (hdg : decode cc pc = .ok (.dup, 1)) (hv : v.category = 1) (kk : J l D y cc nL rt R sz A QE k n (pc + 1) L (v :: v :: st) σ) : J l D y cc nL rt R sz A QE k n pc L (v :: st) σ :=
  j_go (fun _ _ _ _ _ _ _ _ C _ _ _ _ _ h => lv_dup C.1 C.2.1 hdg hv h) kk
theorem j_pop {v : Value} (hdg : decode cc pc = .ok (.pop, 1)) (hv : v.category = 1) (kk : J l D y cc nL rt R sz A QE k n (pc + 1) L st σ) : J l D y cc nL rt R sz A QE k n pc L (v :: st) σ :=
  j_go (fun _ _ _ _ _ _ _ _ C _ _ _ _ _ h => lv_pop C.1 C.2.1 hdg hv h) kk
theorem j_dup2 {v w : Value} (hdg : decode cc pc = .ok (.dup2, 1)) (hv : v.category = 1) (hw : w.category = 1) (kk : J l D y cc nL rt R sz A QE k n (pc + 1) L (v :: w :: v :: w :: st) σ) : J l D y cc nL rt R sz A QE k n pc L (v :: w :: st) σ :=
  j_go (fun _ _ _ _ _ _ _ _ C _ _ _ _ _ h => lv_dup2_11 C.1 C.2.1 hdg hv hw h) kk
theorem j_goto {off : Int} {tgt : Nat} (hdg : decode cc pc = .ok (.goto off, 3)) (ht : (pc : Int) + off = (tgt : Int)) (kk : J l D y cc nL rt R sz A QE k n tgt L st σ) : J l D y cc nL rt R sz A QE k n pc L st σ :=
  j_go (fun _ _ _ _ _ _ _ _ C _ _ _ _ _ h => lv_goto C.1 C.2.1 hdg ht h) kk
theorem j_icmp_eq {a b : Int} {off : Int} {tgt : Nat} (hdg : decode cc pc = .ok (.if_icmp .eq off, 3)) (ht : (pc : Int) + off = (tgt : Int)) (ha : R32 a) (hb : R32 b)
    (kt : a = b → J l D y cc nL rt R sz A QE k n tgt L st σ) (kf : ¬ a = b → J l D y cc nL rt R sz A QE k n (pc + 3) L st σ) : J l D y cc nL rt R sz A QE k n pc L (vi b :: vi a :: st) σ := by
  have I := (iI_inj ha hb)
  intro p e s m args below meth c C H locs ls hl hW hd hq hS
  exact lv_icmp_eq C.1 C.2.1 hdg ht (fun h => kt (I.mp h) p e s m args below meth c C H locs ls hl hW hd hq hS) (fun h => kf (fun q => h (I.mpr q)) p e s m args below meth c C H locs ls hl hW hd hq hS)
theorem j_icmp_ne {a b : Int} {off : Int} {tgt : Nat} (hdg : decode cc pc = .ok (.if_icmp .ne off, 3)) (ht : (pc : Int) + off = (tgt : Int)) (ha : R32 a) (hb : R32 b)
    (kt : ¬ a = b → J l D y cc nL rt R sz A QE k n tgt L st σ) (kf : a = b → J l D y cc nL rt R sz A QE k n (pc + 3) L st σ) : J l D y cc nL rt R sz A QE k n pc L (vi b :: vi a :: st) σ := by
  have I := (iI_inj ha hb)
  intro p e s m args below meth c C H locs ls hl hW hd hq hS
  exact lv_icmp_ne C.1 C.2.1 hdg ht (fun h => kt (fun q => h (I.mpr q)) p e s m args below meth c C H locs ls hl hW hd hq hS) (fun h => kf (I.mp h) p e s m args below meth c C H locs ls hl hW hd hq hS)
theorem j_icmp_lt {a b : Int} {off : Int} {tgt : Nat} (hdg : decode cc pc = .ok (.if_icmp .lt off, 3)) (ht : (pc : Int) + off = (tgt : Int)) (ha : R32 a) (hb : R32 b)
    (kt : a < b → J l D y cc nL rt R sz A QE k n tgt L st σ) (kf : b ≤ a → J l D y cc nL rt R sz A QE k n (pc + 3) L st σ) : J l D y cc nL rt R sz A QE k n pc L (vi b :: vi a :: st) σ := by
  have I := (iI_lt ha hb)
  intro p e s m args below meth c C H locs ls hl hW hd hq hS
  exact lv_icmp_lt C.1 C.2.1 hdg ht (fun h => kt (I.mp h) p e s m args below meth c C H locs ls hl hW hd hq hS) (fun h => kf (by have w : ¬ (a < b) := fun q => h (I.mpr q); omega) p e s m args below meth c C H locs ls hl hW hd hq hS)
theorem j_icmp_ge {a b : Int} {off : Int} {tgt : Nat} (hdg : decode cc pc = .ok (.if_icmp .ge off, 3)) (ht : (pc : Int) + off = (tgt : Int)) (ha : R32 a) (hb : R32 b)
    (kt : b ≤ a → J l D y cc nL rt R sz A QE k n tgt L st σ) (kf : a < b → J l D y cc nL rt R sz A QE k n (pc + 3) L st σ) : J l D y cc nL rt R sz A QE k n pc L (vi b :: vi a :: st) σ := by
  have I := (iI_le hb ha)
  intro p e s m args below meth c C H locs ls hl hW hd hq hS
  exact lv_icmp_ge C.1 C.2.1 hdg ht (fun h => kt (I.mp h) p e s m args below meth c C H locs ls hl hW hd hq hS) (fun h => kf (by have w : ¬ (b ≤ a) := fun q => h (I.mpr q); omega) p e s m args below meth c C H locs ls hl hW hd hq hS)
theorem j_icmp_gt {a b : Int} {off : Int} {tgt : Nat} (hdg : decode cc pc = .ok (.if_icmp .gt off, 3)) (ht : (pc : Int) + off = (tgt : Int)) (ha : R32 a) (hb : R32 b)
    (kt : b < a → J l D y cc nL rt R sz A QE k n tgt L st σ) (kf : a ≤ b → J l D y cc nL rt R sz A QE k n (pc + 3) L st σ) : J l D y cc nL rt R sz A QE k n pc L (vi b :: vi a :: st) σ := by
  have I := (iI_lt hb ha)
  intro p e s m args below meth c C H locs ls hl hW hd hq hS
  exact lv_icmp_gt C.1 C.2.1 hdg ht (fun h => kt (I.mp h) p e s m args below meth c C H locs ls hl hW hd hq hS) (fun h => kf (by have w : ¬ (b < a) := fun q => h (I.mpr q); omega) p e s m args below meth c C H locs ls hl hW hd hq hS)
theorem j_icmp_le {a b : Int} {off : Int} {tgt : Nat} (hdg : decode cc pc = .ok (.if_icmp .le off, 3)) (ht : (pc : Int) + off = (tgt : Int)) (ha : R32 a) (hb : R32 b)
    (kt : a ≤ b → J l D y cc nL rt R sz A QE k n tgt L st σ) (kf : b < a → J l D y cc nL rt R sz A QE k n (pc + 3) L st σ) : J l D y cc nL rt R sz A QE k n pc L (vi b :: vi a :: st) σ := by
  have I := (iI_le ha hb)
  intro p e s m args below meth c C H locs ls hl hW hd hq hS
  exact lv_icmp_le C.1 C.2.1 hdg ht (fun h => kt (I.mp h) p e s m args below meth c C H locs ls hl hW hd hq hS) (fun h => kf (by have w : ¬ (a ≤ b) := fun q => h (I.mpr q); omega) p e s m args below meth c C H locs ls hl hW hd hq hS)
theorem j_if_eq {a : Int} {off : Int} {tgt : Nat} (hdg : decode cc pc = .ok (.ifCond .eq off, 3)) (ht : (pc : Int) + off = (tgt : Int)) (ha : R32 a)
    (kt : a = 0 → J l D y cc nL rt R sz A QE k n tgt L st σ) (kf : ¬ a = 0 → J l D y cc nL rt R sz A QE k n (pc + 3) L st σ) : J l D y cc nL rt R sz A QE k n pc L (vi a :: st) σ := by
  have I := (iI_inj ha R32_0)
  intro p e s m args below meth c C H locs ls hl hW hd hq hS
  exact lv_if_eq C.1 C.2.1 hdg ht (fun h => kt (I.mp h) p e s m args below meth c C H locs ls hl hW hd hq hS) (fun h => kf (fun q => h (I.mpr q)) p e s m args below meth c C H locs ls hl hW hd hq hS)
theorem j_if_ne {a : Int} {off : Int} {tgt : Nat} (hdg : decode cc pc = .ok (.ifCond .ne off, 3)) (ht : (pc : Int) + off = (tgt : Int)) (ha : R32 a)
    (kt : ¬ a = 0 → J l D y cc nL rt R sz A QE k n tgt L st σ) (kf : a = 0 → J l D y cc nL rt R sz A QE k n (pc + 3) L st σ) : J l D y cc nL rt R sz A QE k n pc L (vi a :: st) σ := by
  have I := (iI_inj ha R32_0)
  intro p e s m args below meth c C H locs ls hl hW hd hq hS
  exact lv_if_ne C.1 C.2.1 hdg ht (fun h => kt (fun q => h (I.mpr q)) p e s m args below meth c C H locs ls hl hW hd hq hS) (fun h => kf (I.mp h) p e s m args below meth c C H locs ls hl hW hd hq hS)
theorem j_if_lt {a : Int} {off : Int} {tgt : Nat} (hdg : decode cc pc = .ok (.ifCond .lt off, 3)) (ht : (pc : Int) + off = (tgt : Int)) (ha : R32 a)
    (kt : a < 0 → J l D y cc nL rt R sz A QE k n tgt L st σ) (kf : 0 ≤ a → J l D y cc nL rt R sz A QE k n (pc + 3) L st σ) : J l D y cc nL rt R sz A QE k n pc L (vi a :: st) σ := by
  have I := (iI_lt ha R32_0)
  intro p e s m args below meth c C H locs ls hl hW hd hq hS
  exact lv_if_lt C.1 C.2.1 hdg ht (fun h => kt (I.mp h) p e s m args below meth c C H locs ls hl hW hd hq hS) (fun h => kf (by have w : ¬ (a < 0) := fun q => h (I.mpr q); omega) p e s m args below meth c C H locs ls hl hW hd hq hS)
theorem j_if_ge {a : Int} {off : Int} {tgt : Nat} (hdg : decode cc pc = .ok (.ifCond .ge off, 3)) (ht : (pc : Int) + off = (tgt : Int)) (ha : R32 a)
    (kt : 0 ≤ a → J l D y cc nL rt R sz A QE k n tgt L st σ) (kf : a < 0 → J l D y cc nL rt R sz A QE k n (pc + 3) L st σ) : J l D y cc nL rt R sz A QE k n pc L (vi a :: st) σ := by
  have I := (iI_le R32_0 ha)
  intro p e s m args below meth c C H locs ls hl hW hd hq hS
  exact lv_if_ge C.1 C.2.1 hdg ht (fun h => kt (I.mp h) p e s m args below meth c C H locs ls hl hW hd hq hS) (fun h => kf (by have w : ¬ (0 ≤ a) := fun q => h (I.mpr q); omega) p e s m args below meth c C H locs ls hl hW hd hq hS)
theorem j_if_gt {a : Int} {off : Int} {tgt : Nat} (hdg : decode cc pc = .ok (.ifCond .gt off, 3)) (ht : (pc : Int) + off = (tgt : Int)) (ha : R32 a)
    (kt : 0 < a → J l D y cc nL rt R sz A QE k n tgt L st σ) (kf : a ≤ 0 → J l D y cc nL rt R sz A QE k n (pc + 3) L st σ) : J l D y cc nL rt R sz A QE k n pc L (vi a :: st) σ := by
  have I := (iI_lt R32_0 ha)
  intro p e s m args below meth c C H locs ls hl hW hd hq hS
  exact lv_if_gt C.1 C.2.1 hdg ht (fun h => kt (I.mp h) p e s m args below meth c C H locs ls hl hW hd hq hS) (fun h => kf (by have w : ¬ (0 < a) := fun q => h (I.mpr q); omega) p e s m args below meth c C H locs ls hl hW hd hq hS)
theorem j_if_le {a : Int} {off : Int} {tgt : Nat} (hdg : decode cc pc = .ok (.ifCond .le off, 3)) (ht : (pc : Int) + off = (tgt : Int)) (ha : R32 a)
    (kt : a ≤ 0 → J l D y cc nL rt R sz A QE k n tgt L st σ) (kf : 0 < a → J l D y cc nL rt R sz A QE k n (pc + 3) L st σ) : J l D y cc nL rt R sz A QE k n pc L (vi a :: st) σ := by
  have I := (iI_le ha R32_0)
  intro p e s m args below meth c C H locs ls hl hW hd hq hS
  exact lv_if_le C.1 C.2.1 hdg ht (fun h => kt (I.mp h) p e s m args below meth c C H locs ls hl hW hd hq hS) (fun h => kf (by have w : ¬ (a ≤ 0) := fun q => h (I.mpr q); omega) p e s m args below meth c C H locs ls hl hW hd hq hS)
theorem j_tsOut {dflt lo hi : Int} {offs : Array Int} {len : Nat} {a : Int} {tgt : Nat} (hdg : decode cc pc = .ok (.tableswitch dflt lo hi offs, len)) (ha : R32 a) (h : a < lo ∨ hi < a) (ht : (pc : Int) + dflt = (tgt : Int)) (kk : J l D y cc nL rt R sz A QE k n tgt L st σ) : J l D y cc nL rt R sz A QE k n pc L (vi a :: st) σ :=
  j_go (fun _ _ _ _ _ _ _ _ C _ _ _ _ _ q => lv_tableOut C.1 C.2.1 hdg (by rw [iI_toInt ha]; exact h) ht q) kk
theorem j_tsIn {dflt lo hi : Int} {offs : Array Int} {len : Nat} {a off : Int} {tgt : Nat} (hdg : decode cc pc = .ok (.tableswitch dflt lo hi offs, len)) (ha : R32 a) (h1 : lo ≤ a) (h2 : a ≤ hi) (ho : offs[(a - lo).toNat]? = some off) (ht : (pc : Int) + off = (tgt : Int)) (kk : J l D y cc nL rt R sz A QE k n tgt L st σ) : J l D y cc nL rt R sz A QE k n pc L (vi a :: st) σ :=
  j_go (fun _ _ _ _ _ _ _ _ C _ _ _ _ _ q => lv_tableIn C.1 C.2.1 hdg (by rw [iI_toInt ha]; omega) (by rw [iI_toInt ha]; omega) (by rw [iI_toInt ha]; exact ho) ht q) kk
end JR

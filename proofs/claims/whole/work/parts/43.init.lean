/-! ===== the constructors ===== -/
/-- w is σ but at o and at the c addresses from sz on -/
def OffN (o sz c : Nat) (σ w : Wd) : Prop := ∀ q, q ≠ o → (q < sz ∨ sz + c ≤ q) → w q = σ q
theorem OffN.toR {a c : Nat} {σ w : Wd} {e : va_E} (h : OffN a (a + 1) c (wup σ a e) w) : OffR a (a + 1 + c) σ w := fun q hq => (h q (by omega) (by omega)).trans (wup_n (by omega))
theorem IA.eqv {D : gD} {σ w : Wd} {a N : Nat} {f : Nat → Int} (h : IA D σ a N f) (e : w a = σ a) : IA D w a N f := by
  obtain ⟨F, h1, h2⟩ := h
  exact ⟨F, e.trans h1, h2⟩
theorem QA.eqv {D : gD} {t : Nat} {σ w : Wd} {a N : Nat} {f : Nat → Nat} (h : QA D t σ a N f) (e : w a = σ a) : QA D t w a N f := by
  obtain ⟨F, h1, h2⟩ := h
  exact ⟨F, e.trans h1, h2⟩
def g0T : Nat → Int := fun j => if j = 0 then 8 else 0
abbrev S0 : MS := (101, fun _ _ => 0, fun _ => g0T)
def TAt (D : gD) (w : Wd) (t : Nat) : Prop := w t = some (.inr (3, [.ref (t + 1), .ref (t + 2)])) ∧ IA D w (t + 1) 64 (fun _ => 0) ∧ w (t + 2) = some (.inr (5, [.ref (t + 3)])) ∧ IA D w (t + 3) 64 g0T
theorem TAt.eqv {D : gD} {σ w : Wd} {t : Nat} (h : TAt D σ t) (e : ∀ q, t ≤ q → q < t + 4 → w q = σ q) : TAt D w t :=
  ⟨(e _ (by omega) (by omega)).trans h.1, h.2.1.eqv (e _ (by omega) (by omega)), (e _ (by omega) (by omega)).trans h.2.2.1, h.2.2.2.eqv (e _ (by omega) (by omega))⟩
theorem SA.eqv {D : gD} {σ w : Wd} {b : Nat} {S : MS} (h : SA D σ b S) (e : ∀ q, b ≤ q → q < b + 18 → w q = σ q) : SA D w b S :=
  ⟨(e _ (by omega) (by omega)).trans h.1, h.2.1.eqv (e _ (by omega) (by omega)), fun t ht => ⟨(e _ (by omega) (by omega)).trans (h.2.2 t ht).1, (h.2.2 t ht).2.1.eqv (e _ (by omega) (by omega)), (e _ (by omega) (by omega)).trans (h.2.2 t ht).2.2.1, (h.2.2 t ht).2.2.2.eqv (e _ (by omega) (by omega))⟩⟩
/-- the row at sz and its first i objects -/
def SI (D : gD) (σ w : Wd) (o sz i : Nat) (e0 : va_E) : Prop := w o = some e0 ∧ (∃ F : Nat → Option Nat, w sz = some (qa D 3 4 F) ∧ ∀ j, j < i → F j = some (sz + 1 + 4 * j)) ∧ (∀ j, j < i → TAt D w (sz + 1 + 4 * j)) ∧ ∀ q, q ≠ o → (q < sz ∨ sz + 1 + 4 * i ≤ q) → w q = σ q
theorem SI.step {D : gD} {σ w σ1 : Wd} {o sz i : Nat} {e0 e : va_E} (h : SI D σ w o sz i e0) (ho : o < sz) (hoff : OffN (sz + 1 + 4 * i) (sz + 1 + 4 * i + 1) 3 (wup w (sz + 1 + 4 * i) e) σ1) (hT : TAt D σ1 (sz + 1 + 4 * i)) : ∃ (F : Nat → Option Nat) (w' : Wd), σ1 sz = some (qa D 3 4 F) ∧ w' = wup σ1 sz (qa D 3 4 (fup F i (some (sz + 1 + 4 * i)))) ∧ SI D σ w' o sz (i + 1) e0 := by
  obtain ⟨h1, ⟨F, h2, h3⟩, h4, h5⟩ := h
  have g : ∀ q, q < sz + 1 + 4 * i → σ1 q = w q := fun q hq => (hoff q (by omega) (by omega)).trans (wup_n (by omega))
  refine ⟨F, _, (g sz (by omega)).trans h2, rfl, (wup_n (by omega)).trans ((g o (by omega)).trans h1), ⟨_, wup_s _ _ _, fun j hj => ?_⟩, fun j hj => ?_, fun q q1 q2 => ?_⟩
  · show fup F i _ j = _
    by_cases a : j = i
    · rw [a, fup_s]
    · rw [fup_n a]
      exact h3 j (by omega)
  · by_cases a : j = i
    · rw [a]
      exact hT.eqv (fun q q1 q2 => wup_n (by omega))
    · exact (h4 j (by omega)).eqv (fun q q1 q2 => (wup_n (by omega)).trans (g q (by omega)))
  · exact (wup_n (by omega)).trans ((hoff q (by omega) (by omega)).trans ((wup_n (by omega)).trans (h5 q q1 (by omega))))
/-- the row at sz and its first i objects -/
def HI (D : gD) (σ w : Wd) (o sz i : Nat) (e0 : va_E) : Prop := w o = some e0 ∧ (∃ F : Nat → Option Nat, w sz = some (qa D 4 4 F) ∧ ∀ j, j < i → F j = some (sz + 1 + 18 * j)) ∧ (∀ j, j < i → SA D w (sz + 1 + 18 * j) S0) ∧ ∀ q, q ≠ o → (q < sz ∨ sz + 1 + 18 * i ≤ q) → w q = σ q
theorem HI.step {D : gD} {σ w σ1 : Wd} {o sz i : Nat} {e0 e : va_E} (h : HI D σ w o sz i e0) (ho : o < sz) (hoff : OffN (sz + 1 + 18 * i) (sz + 1 + 18 * i + 1) 17 (wup w (sz + 1 + 18 * i) e) σ1) (hT : SA D σ1 (sz + 1 + 18 * i) S0) : ∃ (F : Nat → Option Nat) (w' : Wd), σ1 sz = some (qa D 4 4 F) ∧ w' = wup σ1 sz (qa D 4 4 (fup F i (some (sz + 1 + 18 * i)))) ∧ HI D σ w' o sz (i + 1) e0 := by
  obtain ⟨h1, ⟨F, h2, h3⟩, h4, h5⟩ := h
  have g : ∀ q, q < sz + 1 + 18 * i → σ1 q = w q := fun q hq => (hoff q (by omega) (by omega)).trans (wup_n (by omega))
  refine ⟨F, _, (g sz (by omega)).trans h2, rfl, (wup_n (by omega)).trans ((g o (by omega)).trans h1), ⟨_, wup_s _ _ _, fun j hj => ?_⟩, fun j hj => ?_, fun q q1 q2 => ?_⟩
  · show fup F i _ j = _
    by_cases a : j = i
    · rw [a, fup_s]
    · rw [fup_n a]
      exact h3 j (by omega)
  · by_cases a : j = i
    · rw [a]
      exact hT.eqv (fun q q1 q2 => wup_n (by omega))
    · exact (h4 j (by omega)).eqv (fun q q1 q2 => (wup_n (by omega)).trans (g q (by omega)))
  · exact (wup_n (by omega)).trans ((hoff q (by omega) (by omega)).trans ((wup_n (by omega)).trans (h5 q q1 (by omega))))
abbrev rmX5_init : Room := { frames := 1, cells := 1, slots := 64, locals := 20 }
abbrev KX5_init (l : Launch) (D : gD) (o : Nat) (σ : Wd) (P : Nat → Wd → Prop) : Prop := SP l D yX5_init cX5_init 1 none rmX5_init [.ref o] σ 1 64 (fun sz r σ' => r = none ∧ P sz σ')
abbrev rmX3_init : Room := { frames := 2, cells := 3, slots := 129, locals := 40 }
abbrev KX3_init (l : Launch) (D : gD) (o : Nat) (σ : Wd) (P : Nat → Wd → Prop) : Prop := SP l D yX3_init cX3_init 1 none rmX3_init [.ref o] σ 3 129 (fun sz r σ' => r = none ∧ P sz σ')
abbrev rmX2_init : Room := { frames := 3, cells := 17, slots := 528, locals := 60 }
abbrev KX2_init (l : Launch) (D : gD) (o : Nat) (σ : Wd) (P : Nat → Wd → Prop) : Prop := SP l D yX2_init cX2_init 1 none rmX2_init [.ref o] σ 17 528 (fun sz r σ' => r = none ∧ P sz σ')
abbrev rmX1_init : Room := { frames := 4, cells := 73, slots := 2124, locals := 80 }
abbrev KX1_init (l : Launch) (D : gD) (o : Nat) (σ : Wd) (P : Nat → Wd → Prop) : Prop := SP l D yX1_init cX1_init 1 none rmX1_init [.ref o] σ 73 2124 (fun sz r σ' => r = none ∧ P sz σ')
abbrev rmX4_init : Room := { frames := 1, cells := 2, slots := 76, locals := 20 }
abbrev KX4_init (l : Launch) (D : gD) (o : Nat) (σ : Wd) (P : Nat → Wd → Prop) : Prop := SP l D yX4_init cX4_init 1 none rmX4_init [.ref o] σ 2 76 (fun sz r σ' => r = none ∧ P sz σ')
abbrev rmX0_init : Room := { frames := 1, cells := 9, slots := 80, locals := 20 }
abbrev KX0_init (l : Launch) (D : gD) (o : Nat) (σ : Wd) (P : Nat → Wd → Prop) : Prop := SP l D yX0_init cX0_init 1 none rmX0_init [.ref o] σ 9 80 (fun sz r σ' => r = none ∧ P sz σ')
abbrev rmX6_init : Room := { frames := 5, cells := 127, slots := 3549, locals := 100 }
abbrev KX6_init (l : Launch) (D : gD) (o : Nat) (σ : Wd) (P : Nat → Wd → Prop) : Prop := SP l D yX6_init cX6_init 1 none rmX6_init [.ref o] σ 127 3549 (fun sz r σ' => r = none ∧ P sz σ')
abbrev rmX7_init : Room := { frames := 1, cells := 9, slots := 2300, locals := 20 }
abbrev KX7_init (l : Launch) (D : gD) (o : Nat) (σ : Wd) (P : Nat → Wd → Prop) : Prop := SP l D yX7_init cX7_init 1 none rmX7_init [.ref o] σ 9 2300 (fun sz r σ' => r = none ∧ P sz σ')
set_option maxRecDepth 100000 in
set_option maxHeartbeats 4000000 in
theorem c_X5_init {l : Launch} {D : gD} {σ : Wd} {o : Nat} (h0 : σ o = some (.inr (5, f0_X5))) : KX5_init l D o σ (fun sz w => OffN o sz 1 σ w ∧ w o = some (.inr (5, [.ref sz])) ∧ IA D w sz 64 g0T) := by
  refine sp_of (by decide +kernel) (cat1 rfl) (Nat.le_of_ble_eq_true rfl) [some (.ref o)] rfl (fun sz => ?_)
  refine j_aload_n dX5_init_0 rfl ?_
  refine j_objInit lk_X5_3 dX5_init_1 (by decide) (by decide) ?_
  refine j_aload_n dX5_init_4 rfl ?_
  refine j_bipush dX5_init_5 (by decide) ?_
  refine j_newI (N := 64) dX5_init_7 rfl ⟨by omega, by omega⟩ (Nat.le_of_ble_eq_true rfl) (Nat.le_of_ble_eq_true rfl) (Nat.le_of_ble_eq_true rfl) (fun a a1 a2 a3 => ?_)
  have ho := a3 o _ h0
  have ha : sz = a := by omega
  subst ha
  refine pf_X5_9 rfl rfl dX5_init_9 (wup_of h0 (by omega)) rfl rfl (Nat.le_of_ble_eq_true rfl) ?_
  dsimp only [f0_X5, List.set]
  refine j_aload_n dX5_init_12 rfl ?_
  refine gf_X5_9 rfl dX5_init_13 (wup_s _ _ _) rfl ?_
  refine j_iconst dX5_init_16 ?_
  refine j_bipush dX5_init_17 (by decide) ?_
  refine j_iast dX5_init_19 (wup_of (wup_s _ _ _) (by omega)) (by omega) (by omega) ⟨by omega, by omega⟩ ?_
  exact j_vret dX5_init_20 ⟨rfl, (fun q q1 q2 => by rw [wup_n (by omega), wup_n (by omega), wup_n (by omega)]), wup_of (wup_s _ _ _) (by omega), ⟨_, wup_s _ _ _, fun j hj => rfl⟩⟩
set_option maxRecDepth 100000 in
set_option maxHeartbeats 4000000 in
theorem c_X3_init {l : Launch} {D : gD} {σ : Wd} {o : Nat} (h0 : σ o = some (.inr (3, f0_X3))) : KX3_init l D o σ (fun sz w => OffN o sz 3 σ w ∧ w o = some (.inr (3, [.ref sz, .ref (sz + 1)])) ∧ IA D w sz 64 (fun _ => 0) ∧ w (sz + 1) = some (.inr (5, [.ref (sz + 2)])) ∧ IA D w (sz + 2) 64 g0T) := by
  refine sp_of (by decide +kernel) (cat1 rfl) (Nat.le_of_ble_eq_true rfl) [some (.ref o)] rfl (fun sz => ?_)
  refine j_aload_n dX3_init_0 rfl ?_
  refine j_objInit lk_X3_3 dX3_init_1 (by decide) (by decide) ?_
  refine j_aload_n dX3_init_4 rfl ?_
  refine j_bipush dX3_init_5 (by decide) ?_
  refine j_newI (N := 64) dX3_init_7 rfl ⟨by omega, by omega⟩ (Nat.le_of_ble_eq_true rfl) (Nat.le_of_ble_eq_true rfl) (Nat.le_of_ble_eq_true rfl) (fun a a1 a2 a3 => ?_)
  have ho := a3 o _ h0
  have ha : sz = a := by omega
  subst ha
  refine pf_X3_9 rfl rfl dX3_init_9 (wup_of h0 (by omega)) rfl rfl (Nat.le_of_ble_eq_true rfl) ?_
  dsimp only [f0_X3, List.set]
  refine j_aload_n dX3_init_12 rfl ?_
  refine nw_X3_15 rfl dX3_init_13 (Nat.le_of_ble_eq_true rfl) (Nat.le_of_ble_eq_true rfl) (fun b b1 b2 b3 => ?_)
  have hb := b3 sz _ (wup_of (wup_s _ _ _) (by omega))
  have hb : sz + 1 = b := by omega
  subst hb
  refine j_dup dX3_init_16 rfl ?_
  refine j_callI (As := []) (wc_X5_init _ _) lk_X3_17 wi_X5_init rfl dX3_init_17 (c_X5_init (wup_s _ _ _)) rfl ⟨rfl, rfl⟩ ⟨by decide, (Nat.le_of_ble_eq_true rfl)⟩ (Nat.le_of_ble_eq_true rfl) ⟨(Nat.le_of_ble_eq_true rfl), (Nat.le_of_ble_eq_true rfl)⟩ (fun sz1 r1 w hz hP => ?_)
  obtain ⟨z1, z2, z3⟩ := hz
  obtain ⟨hr, hP⟩ := hP
  subst hr
  have z4 := z3 (sz + 1) _ (wup_s _ _ _)
  have z5 : sz1 = sz + 1 + 1 := by omega
  subst z5
  obtain ⟨p1, p2, p3⟩ := hP
  have po : w o = some (.inr (3, [.ref sz, .null])) := (p1 o (by omega) (by omega)).trans (wup_of (wup_s _ _ _) (by omega))
  have pc : w sz = some (ia D 64 (fun _ => 0)) := (p1 sz (by omega) (by omega)).trans (wup_of (wup_of (wup_s _ _ _) (by omega)) (by omega))
  refine pf_X3_18 rfl rfl dX3_init_20 po rfl rfl (Nat.le_of_ble_eq_true rfl) ?_
  dsimp only [f0_X3, List.set]
  exact j_vret dX3_init_23 ⟨rfl, (fun q q1 q2 => (wup_n (by omega)).trans ((p1 q (by omega) (by omega)).trans (by rw [wup_n (by omega), wup_n (by omega), wup_n (by omega)]))), wup_s _ _ _, ⟨_, (wup_n (by omega)).trans pc, fun j hj => rfl⟩, (wup_n (by omega)).trans p2, p3.eqv (wup_n (by omega))⟩
set_option maxRecDepth 100000 in
set_option maxHeartbeats 4000000 in
theorem c_X2_init {l : Launch} {D : gD} {σ : Wd} {o : Nat} (h0 : σ o = some (.inr (2, f0_X2))) : KX2_init l D o σ (fun sz w => OffN o sz 17 σ w ∧ (sz = o + 1 → SA D w o S0)) := by
  refine sp_of (by decide +kernel) (cat1 rfl) (Nat.le_of_ble_eq_true rfl) [some (.ref o)] rfl (fun sz => ?_)
  refine j_aload_n dX2_init_0 rfl ?_
  refine j_objInit lk_X2_3 dX2_init_1 (by decide) (by decide) ?_
  refine j_aload_n dX2_init_4 rfl ?_
  refine j_bipush dX2_init_5 (by decide) ?_
  refine pf_X2_9 rfl dX2_init_7 h0 rfl rfl (Nat.le_of_ble_eq_true rfl) ?_
  dsimp only [f0_X2, List.set]
  refine j_aload_n dX2_init_10 rfl ?_
  refine j_iconst dX2_init_11 ?_
  refine nq_X2_15 (N := 4) rfl dX2_init_12 rfl ⟨by omega, by omega⟩ (Nat.le_of_ble_eq_true rfl) (Nat.le_of_ble_eq_true rfl) (Nat.le_of_ble_eq_true rfl) (fun a a1 a2 a3 => ?_)
  have ho := a3 o _ (wup_s _ _ _)
  have ha : sz = a := by omega
  subst ha
  obtain ⟨w0, hw0, i0⟩ : ∃ w0, w0 = wup (wup σ o (.inr (2, [vi 101, .null]))) sz (qa D 3 4 (fun _ => none)) ∧ SI D σ w0 o sz 0 (.inr (2, [vi 101, .null])) := ⟨_, rfl, (wup_n (by omega)).trans (wup_s _ _ _), ⟨_, wup_s _ _ _, fun j hj => absurd hj (by omega)⟩, fun j hj => absurd hj (by omega), fun q q1 q2 => (wup_n (by omega)).trans (wup_n (by omega))⟩
  refine j_eqw hw0 ?_
  refine j_dup dX2_init_15 rfl ?_
  refine j_iconst dX2_init_16 ?_
  refine nw_X2_15 rfl dX2_init_17 (Nat.le_of_ble_eq_true rfl) (Nat.le_of_ble_eq_true rfl) (fun b b1 b2 b3 => ?_)
  obtain ⟨F0, hF0, -⟩ := i0.2.1
  have hb := b3 sz _ hF0
  have hb : sz + 1 + 4 * 0 = b := by omega
  subst hb
  refine j_dup dX2_init_20 rfl ?_
  refine j_callIN (As := []) (wc_X3_init _ _) lk_X2_17 wi_X3_init rfl dX2_init_21 (c_X3_init (wup_s _ _ _)) rfl ⟨rfl, rfl⟩ ⟨by decide, (Nat.le_of_ble_eq_true rfl)⟩ (Nat.le_of_ble_eq_true rfl) ⟨(Nat.le_of_ble_eq_true rfl), (Nat.le_of_ble_eq_true rfl)⟩ (fun sz1 r1 v0 hz hP => ?_)
  obtain ⟨z1, z2, z3⟩ := hz
  obtain ⟨hr, hP⟩ := hP
  subst hr
  have z4 := z3 (sz + 1 + 4 * 0) _ (wup_s _ _ _)
  have z5 : sz1 = sz + 1 + 4 * 0 + 1 := by omega
  subst z5
  obtain ⟨p1, p2⟩ := hP
  obtain ⟨F, w1, hF, hw1, i1⟩ := i0.step ho p1 p2
  refine j_aastO (t := 3) (ci := 3) rfl rfl dX2_init_24 hF p2.1 (by omega) (by omega) ⟨by omega, by omega⟩ (j_eqw hw1 ?_)
  refine j_dup dX2_init_25 rfl ?_
  refine j_iconst dX2_init_26 ?_
  refine nw_X2_15 rfl dX2_init_27 (Nat.le_of_ble_eq_true rfl) (Nat.le_of_ble_eq_true rfl) (fun b b1 b2 b3 => ?_)
  obtain ⟨Fl, hFl, -⟩ := (i1.2.2.1 0 (by omega)).2.2.2
  have hb := b3 _ _ hFl
  have hb : sz + 1 + 4 * 1 = b := by omega
  subst hb
  refine j_dup dX2_init_30 rfl ?_
  refine j_callIN (As := []) (wc_X3_init _ _) lk_X2_17 wi_X3_init rfl dX2_init_31 (c_X3_init (wup_s _ _ _)) rfl ⟨rfl, rfl⟩ ⟨by decide, (Nat.le_of_ble_eq_true rfl)⟩ (Nat.le_of_ble_eq_true rfl) ⟨(Nat.le_of_ble_eq_true rfl), (Nat.le_of_ble_eq_true rfl)⟩ (fun sz1 r1 v1 hz hP => ?_)
  obtain ⟨z1, z2, z3⟩ := hz
  obtain ⟨hr, hP⟩ := hP
  subst hr
  have z4 := z3 (sz + 1 + 4 * 1) _ (wup_s _ _ _)
  have z5 : sz1 = sz + 1 + 4 * 1 + 1 := by omega
  subst z5
  obtain ⟨p1, p2⟩ := hP
  obtain ⟨F, w2, hF, hw2, i2⟩ := i1.step ho p1 p2
  refine j_aastO (t := 3) (ci := 3) rfl rfl dX2_init_34 hF p2.1 (by omega) (by omega) ⟨by omega, by omega⟩ (j_eqw hw2 ?_)
  refine j_dup dX2_init_35 rfl ?_
  refine j_iconst dX2_init_36 ?_
  refine nw_X2_15 rfl dX2_init_37 (Nat.le_of_ble_eq_true rfl) (Nat.le_of_ble_eq_true rfl) (fun b b1 b2 b3 => ?_)
  obtain ⟨Fl, hFl, -⟩ := (i2.2.2.1 1 (by omega)).2.2.2
  have hb := b3 _ _ hFl
  have hb : sz + 1 + 4 * 2 = b := by omega
  subst hb
  refine j_dup dX2_init_40 rfl ?_
  refine j_callIN (As := []) (wc_X3_init _ _) lk_X2_17 wi_X3_init rfl dX2_init_41 (c_X3_init (wup_s _ _ _)) rfl ⟨rfl, rfl⟩ ⟨by decide, (Nat.le_of_ble_eq_true rfl)⟩ (Nat.le_of_ble_eq_true rfl) ⟨(Nat.le_of_ble_eq_true rfl), (Nat.le_of_ble_eq_true rfl)⟩ (fun sz1 r1 v2 hz hP => ?_)
  obtain ⟨z1, z2, z3⟩ := hz
  obtain ⟨hr, hP⟩ := hP
  subst hr
  have z4 := z3 (sz + 1 + 4 * 2) _ (wup_s _ _ _)
  have z5 : sz1 = sz + 1 + 4 * 2 + 1 := by omega
  subst z5
  obtain ⟨p1, p2⟩ := hP
  obtain ⟨F, w3, hF, hw3, i3⟩ := i2.step ho p1 p2
  refine j_aastO (t := 3) (ci := 3) rfl rfl dX2_init_44 hF p2.1 (by omega) (by omega) ⟨by omega, by omega⟩ (j_eqw hw3 ?_)
  refine j_dup dX2_init_45 rfl ?_
  refine j_iconst dX2_init_46 ?_
  refine nw_X2_15 rfl dX2_init_47 (Nat.le_of_ble_eq_true rfl) (Nat.le_of_ble_eq_true rfl) (fun b b1 b2 b3 => ?_)
  obtain ⟨Fl, hFl, -⟩ := (i3.2.2.1 2 (by omega)).2.2.2
  have hb := b3 _ _ hFl
  have hb : sz + 1 + 4 * 3 = b := by omega
  subst hb
  refine j_dup dX2_init_50 rfl ?_
  refine j_callIN (As := []) (wc_X3_init _ _) lk_X2_17 wi_X3_init rfl dX2_init_51 (c_X3_init (wup_s _ _ _)) rfl ⟨rfl, rfl⟩ ⟨by decide, (Nat.le_of_ble_eq_true rfl)⟩ (Nat.le_of_ble_eq_true rfl) ⟨(Nat.le_of_ble_eq_true rfl), (Nat.le_of_ble_eq_true rfl)⟩ (fun sz1 r1 v3 hz hP => ?_)
  obtain ⟨z1, z2, z3⟩ := hz
  obtain ⟨hr, hP⟩ := hP
  subst hr
  have z4 := z3 (sz + 1 + 4 * 3) _ (wup_s _ _ _)
  have z5 : sz1 = sz + 1 + 4 * 3 + 1 := by omega
  subst z5
  obtain ⟨p1, p2⟩ := hP
  obtain ⟨F, w4, hF, hw4, i4⟩ := i3.step ho p1 p2
  refine j_aastO (t := 3) (ci := 3) rfl rfl dX2_init_54 hF p2.1 (by omega) (by omega) ⟨by omega, by omega⟩ (j_eqw hw4 ?_)
  refine pf_X2_18 rfl rfl dX2_init_55 i4.1 rfl rfl (Nat.le_of_ble_eq_true rfl) ?_
  dsimp only [f0_X2, List.set]
  refine j_vret dX2_init_58 ⟨rfl, (fun q q1 q2 => (wup_n (by omega)).trans (i4.2.2.2 q (by omega) (by omega))), fun hso => ?_⟩
  subst hso
  obtain ⟨-, ⟨F, f1, f2⟩, f3, -⟩ := i4
  refine ⟨wup_s _ _ _, ⟨F, (wup_n (by omega)).trans f1, fun j hj => (f2 j hj).trans (by rw [show o + 1 + 1 + 4 * j = o + 2 + 4 * j by omega])⟩, fun t ht => ?_⟩
  have h := (f3 t ht).eqv (w := wup w4 o (.inr (2, [vi 101, .ref (o + 1)]))) (fun q q1 q2 => wup_n (by omega))
  unfold TAt at h
  rw [show o + 1 + 1 + 4 * t = o + 2 + 4 * t by omega, show o + 2 + 4 * t + 1 = o + 3 + 4 * t by omega, show o + 2 + 4 * t + 2 = o + 4 + 4 * t by omega, show o + 2 + 4 * t + 3 = o + 5 + 4 * t by omega] at h
  exact h
set_option maxRecDepth 100000 in
set_option maxHeartbeats 4000000 in
theorem c_X1_init {l : Launch} {D : gD} {σ : Wd} {o : Nat} (h0 : σ o = some (.inr (1, f0_X1))) : KX1_init l D o σ (fun sz w => OffN o sz 73 σ w ∧ (sz = o + 1 → ∃ f, HA D w o 0 f (fun _ => S0))) := by
  refine sp_of (by decide +kernel) (cat1 rfl) (Nat.le_of_ble_eq_true rfl) [some (.ref o)] rfl (fun sz => ?_)
  refine j_aload_n dX1_init_0 rfl ?_
  refine j_objInit lk_X1_3 dX1_init_1 (by decide) (by decide) ?_
  refine j_aload_n dX1_init_4 rfl ?_
  refine j_iconst dX1_init_5 ?_
  refine nq_X1_9 (N := 4) rfl dX1_init_6 rfl ⟨by omega, by omega⟩ (Nat.le_of_ble_eq_true rfl) (Nat.le_of_ble_eq_true rfl) (Nat.le_of_ble_eq_true rfl) (fun a a1 a2 a3 => ?_)
  have ho := a3 o _ h0
  have ha : sz = a := by omega
  subst ha
  obtain ⟨w0, hw0, i0⟩ : ∃ w0, w0 = wup σ sz (qa D 4 4 (fun _ => none)) ∧ HI D σ w0 o sz 0 (.inr (1, f0_X1)) := ⟨_, rfl, (wup_n (by omega)).trans h0, ⟨_, wup_s _ _ _, fun j hj => absurd hj (by omega)⟩, fun j hj => absurd hj (by omega), fun q q1 q2 => wup_n (by omega)⟩
  refine j_eqw hw0 ?_
  refine j_dup dX1_init_9 rfl ?_
  refine j_iconst dX1_init_10 ?_
  refine nw_X1_9 rfl dX1_init_11 (Nat.le_of_ble_eq_true rfl) (Nat.le_of_ble_eq_true rfl) (fun b b1 b2 b3 => ?_)
  obtain ⟨F0, hF0, -⟩ := i0.2.1
  have hb := b3 sz _ hF0
  have hb : sz + 1 + 18 * 0 = b := by omega
  subst hb
  refine j_dup dX1_init_14 rfl ?_
  refine j_callIN (As := []) (wc_X2_init _ _) lk_X1_11 wi_X2_init rfl dX1_init_15 (c_X2_init (wup_s _ _ _)) rfl ⟨rfl, rfl⟩ ⟨by decide, (Nat.le_of_ble_eq_true rfl)⟩ (Nat.le_of_ble_eq_true rfl) ⟨(Nat.le_of_ble_eq_true rfl), (Nat.le_of_ble_eq_true rfl)⟩ (fun sz1 r1 v0 hz hP => ?_)
  obtain ⟨z1, z2, z3⟩ := hz
  obtain ⟨hr, hP⟩ := hP
  subst hr
  have z4 := z3 (sz + 1 + 18 * 0) _ (wup_s _ _ _)
  have z5 : sz1 = sz + 1 + 18 * 0 + 1 := by omega
  subst z5
  obtain ⟨p1, p2⟩ := hP
  have p2 := p2 rfl
  obtain ⟨F, w1, hF, hw1, i1⟩ := i0.step ho p1 p2
  refine j_aastO (t := 4) (ci := 2) rfl rfl dX1_init_18 hF p2.1 (by omega) (by omega) ⟨by omega, by omega⟩ (j_eqw hw1 ?_)
  refine j_dup dX1_init_19 rfl ?_
  refine j_iconst dX1_init_20 ?_
  refine nw_X1_9 rfl dX1_init_21 (Nat.le_of_ble_eq_true rfl) (Nat.le_of_ble_eq_true rfl) (fun b b1 b2 b3 => ?_)
  obtain ⟨Fl, hFl, -⟩ := ((i1.2.2.1 0 (by omega)).2.2 3 (by omega)).2.2.2
  have hb := b3 _ _ hFl
  have hb : sz + 1 + 18 * 1 = b := by omega
  subst hb
  refine j_dup dX1_init_24 rfl ?_
  refine j_callIN (As := []) (wc_X2_init _ _) lk_X1_11 wi_X2_init rfl dX1_init_25 (c_X2_init (wup_s _ _ _)) rfl ⟨rfl, rfl⟩ ⟨by decide, (Nat.le_of_ble_eq_true rfl)⟩ (Nat.le_of_ble_eq_true rfl) ⟨(Nat.le_of_ble_eq_true rfl), (Nat.le_of_ble_eq_true rfl)⟩ (fun sz1 r1 v1 hz hP => ?_)
  obtain ⟨z1, z2, z3⟩ := hz
  obtain ⟨hr, hP⟩ := hP
  subst hr
  have z4 := z3 (sz + 1 + 18 * 1) _ (wup_s _ _ _)
  have z5 : sz1 = sz + 1 + 18 * 1 + 1 := by omega
  subst z5
  obtain ⟨p1, p2⟩ := hP
  have p2 := p2 rfl
  obtain ⟨F, w2, hF, hw2, i2⟩ := i1.step ho p1 p2
  refine j_aastO (t := 4) (ci := 2) rfl rfl dX1_init_28 hF p2.1 (by omega) (by omega) ⟨by omega, by omega⟩ (j_eqw hw2 ?_)
  refine j_dup dX1_init_29 rfl ?_
  refine j_iconst dX1_init_30 ?_
  refine nw_X1_9 rfl dX1_init_31 (Nat.le_of_ble_eq_true rfl) (Nat.le_of_ble_eq_true rfl) (fun b b1 b2 b3 => ?_)
  obtain ⟨Fl, hFl, -⟩ := ((i2.2.2.1 1 (by omega)).2.2 3 (by omega)).2.2.2
  have hb := b3 _ _ hFl
  have hb : sz + 1 + 18 * 2 = b := by omega
  subst hb
  refine j_dup dX1_init_34 rfl ?_
  refine j_callIN (As := []) (wc_X2_init _ _) lk_X1_11 wi_X2_init rfl dX1_init_35 (c_X2_init (wup_s _ _ _)) rfl ⟨rfl, rfl⟩ ⟨by decide, (Nat.le_of_ble_eq_true rfl)⟩ (Nat.le_of_ble_eq_true rfl) ⟨(Nat.le_of_ble_eq_true rfl), (Nat.le_of_ble_eq_true rfl)⟩ (fun sz1 r1 v2 hz hP => ?_)
  obtain ⟨z1, z2, z3⟩ := hz
  obtain ⟨hr, hP⟩ := hP
  subst hr
  have z4 := z3 (sz + 1 + 18 * 2) _ (wup_s _ _ _)
  have z5 : sz1 = sz + 1 + 18 * 2 + 1 := by omega
  subst z5
  obtain ⟨p1, p2⟩ := hP
  have p2 := p2 rfl
  obtain ⟨F, w3, hF, hw3, i3⟩ := i2.step ho p1 p2
  refine j_aastO (t := 4) (ci := 2) rfl rfl dX1_init_38 hF p2.1 (by omega) (by omega) ⟨by omega, by omega⟩ (j_eqw hw3 ?_)
  refine j_dup dX1_init_39 rfl ?_
  refine j_iconst dX1_init_40 ?_
  refine nw_X1_9 rfl dX1_init_41 (Nat.le_of_ble_eq_true rfl) (Nat.le_of_ble_eq_true rfl) (fun b b1 b2 b3 => ?_)
  obtain ⟨Fl, hFl, -⟩ := ((i3.2.2.1 2 (by omega)).2.2 3 (by omega)).2.2.2
  have hb := b3 _ _ hFl
  have hb : sz + 1 + 18 * 3 = b := by omega
  subst hb
  refine j_dup dX1_init_44 rfl ?_
  refine j_callIN (As := []) (wc_X2_init _ _) lk_X1_11 wi_X2_init rfl dX1_init_45 (c_X2_init (wup_s _ _ _)) rfl ⟨rfl, rfl⟩ ⟨by decide, (Nat.le_of_ble_eq_true rfl)⟩ (Nat.le_of_ble_eq_true rfl) ⟨(Nat.le_of_ble_eq_true rfl), (Nat.le_of_ble_eq_true rfl)⟩ (fun sz1 r1 v3 hz hP => ?_)
  obtain ⟨z1, z2, z3⟩ := hz
  obtain ⟨hr, hP⟩ := hP
  subst hr
  have z4 := z3 (sz + 1 + 18 * 3) _ (wup_s _ _ _)
  have z5 : sz1 = sz + 1 + 18 * 3 + 1 := by omega
  subst z5
  obtain ⟨p1, p2⟩ := hP
  have p2 := p2 rfl
  obtain ⟨F, w4, hF, hw4, i4⟩ := i3.step ho p1 p2
  refine j_aastO (t := 4) (ci := 2) rfl rfl dX1_init_48 hF p2.1 (by omega) (by omega) ⟨by omega, by omega⟩ (j_eqw hw4 ?_)
  refine pf_X1_12 rfl rfl dX1_init_49 i4.1 rfl rfl (Nat.le_of_ble_eq_true rfl) ?_
  dsimp only [f0_X1, List.set]
  refine j_vret dX1_init_52 ⟨rfl, (fun q q1 q2 => (wup_n (by omega)).trans (i4.2.2.2 q (by omega) (by omega))), fun hso => ?_⟩
  subst hso
  obtain ⟨-, ⟨F, f1, f2⟩, f3, -⟩ := i4
  refine ⟨fun j => o + 2 + 18 * j, wup_s _ _ _, by omega, ⟨F, (wup_n (by omega)).trans f1, fun j hj => (f2 j hj).trans (by rw [show o + 1 + 1 + 18 * j = o + 2 + 18 * j by omega])⟩, ⟨fun j hj => ⟨j, hj, rfl⟩, fun i j hi hj e => ?_⟩, fun j hj => ?_⟩
  · dsimp only at e
    omega
  · have h := (f3 j hj).eqv (w := wup w4 o (.inr (1, [.ref (o + 1), vi 0]))) (fun q q1 q2 => wup_n (by omega))
    rw [show o + 1 + 1 + 18 * j = o + 2 + 18 * j by omega] at h
    exact h
set_option maxRecDepth 100000 in
set_option maxHeartbeats 4000000 in
theorem c_X4_init {l : Launch} {D : gD} {σ : Wd} {o : Nat} (h0 : σ o = some (.inr (4, f0_X4))) : KX4_init l D o σ (fun sz w => OffN o sz 2 σ w ∧ (sz = o + 1 → TXE D w o 0 (fun _ => 0))) := by
  refine sp_of (by decide +kernel) (cat1 rfl) (Nat.le_of_ble_eq_true rfl) [some (.ref o)] rfl (fun sz => ?_)
  refine j_aload_n dX4_init_0 rfl ?_
  refine j_objInit lk_X4_3 dX4_init_1 (by decide) (by decide) ?_
  refine j_aload_n dX4_init_4 rfl ?_
  refine j_bipush dX4_init_5 (by decide) ?_
  refine j_newI (N := 60) dX4_init_7 rfl ⟨by omega, by omega⟩ (Nat.le_of_ble_eq_true rfl) (Nat.le_of_ble_eq_true rfl) (Nat.le_of_ble_eq_true rfl) (fun a a1 a2 a3 => ?_)
  have ho := a3 o _ h0
  have ha : sz = a := by omega
  subst ha
  refine pf_X4_9 rfl rfl dX4_init_9 (wup_of h0 (by omega)) rfl rfl (Nat.le_of_ble_eq_true rfl) ?_
  dsimp only [f0_X4, List.set]
  refine j_aload_n dX4_init_12 rfl ?_
  refine j_bipush dX4_init_13 (by decide) ?_
  refine j_newI (N := 16) dX4_init_15 rfl ⟨by omega, by omega⟩ (Nat.le_of_ble_eq_true rfl) (Nat.le_of_ble_eq_true rfl) (Nat.le_of_ble_eq_true rfl) (fun b b1 b2 b3 => ?_)
  have hb := b3 sz _ (wup_of (wup_s _ _ _) (by omega))
  have hb : sz + 1 = b := by omega
  subst hb
  refine pf_X4_15 rfl rfl dX4_init_17 (wup_of (wup_s _ _ _) (by omega)) rfl rfl (Nat.le_of_ble_eq_true rfl) ?_
  dsimp only [f0_X4, List.set]
  refine j_aload_n dX4_init_20 rfl ?_
  refine j_iconst dX4_init_21 ?_
  refine pf_X4_18 rfl dX4_init_22 (wup_s _ _ _) rfl rfl (Nat.le_of_ble_eq_true rfl) ?_
  dsimp only [f0_X4, List.set]
  refine j_vret dX4_init_25 ⟨rfl, (fun q q1 q2 => by rw [wup_n (by omega), wup_n (by omega), wup_n (by omega), wup_n (by omega), wup_n (by omega)]), fun hso => ?_⟩
  subst hso
  exact ⟨0, 0, 0, 0, 0, -1, fun _ => 0, wup_s _ _ _, by omega, fun j hj => absurd hj (by omega), ⟨_, by rw [wup_n (by omega), wup_n (by omega), wup_n (by omega), wup_n (by omega), wup_s], fun j hj => rfl⟩, ⟨_, by rw [wup_n (by omega), wup_n (by omega), wup_s], fun j hj => rfl⟩⟩
set_option maxRecDepth 100000 in
set_option maxHeartbeats 4000000 in
theorem c_X0_init {l : Launch} {D : gD} {σ : Wd} {o : Nat} (h0 : σ o = some (.inr (0, f0_X0))) : KX0_init l D o σ (fun sz w => OffN o sz 9 σ w ∧ (∃ x, w (sz + 8) = some x) ∧ (sz = o + 1 → EX D w o)) := by
  refine sp_of (by decide +kernel) (cat1 rfl) (Nat.le_of_ble_eq_true rfl) [some (.ref o)] rfl (fun sz => ?_)
  refine j_aload_n dX0_init_0 rfl ?_
  refine j_objInit lk_X0_3 dX0_init_1 (by decide) (by decide) ?_
  refine j_aload_n dX0_init_4 rfl ?_
  refine j_bipush dX0_init_5 (by decide) ?_
  refine j_bipush dX0_init_7 (by decide) ?_
  refine j_multi (N := 8) (M := 9) cln_mult dX0_init_9 rfl rfl ⟨by omega, by omega⟩ ⟨by omega, by omega⟩ (Nat.le_of_ble_eq_true rfl) (Nat.le_of_ble_eq_true rfl) (Nat.le_of_ble_eq_true rfl) (Nat.le_of_ble_eq_true rfl) (fun a a1 a2 a3 => ?_)
  have ho := a3 o _ h0
  have ha : sz = a := by omega
  subst ha
  obtain ⟨m1, m2, m3⟩ := mk_w_facts D σ sz 8 9 8
  revert m1 m2 m3
  generalize mk_w D σ sz 8 9 8 = w0
  intro m1 m2 m3
  refine pf_X0_11 rfl rfl dX0_init_13 ((m1 o (by omega)).trans h0) rfl rfl (Nat.le_of_ble_eq_true rfl) ?_
  dsimp only [f0_X0, List.set]
  refine j_aload_n dX0_init_16 rfl ?_
  refine j_bipush dX0_init_17 (by decide) ?_
  refine pf_X0_16 rfl dX0_init_19 (wup_s _ _ _) rfl rfl (Nat.le_of_ble_eq_true rfl) ?_
  dsimp only [f0_X0, List.set]
  refine j_vret dX0_init_22 ⟨rfl, (fun q q1 q2 => by rw [wup_n (by omega), wup_n (by omega)]; exact m1 q (by omega)), ⟨_, by rw [wup_n (by omega), wup_n (by omega)]; exact m3 7 (by omega)⟩, fun hso => ?_⟩
  subst hso
  refine ⟨101, 0, 0, 0, fun j => o + 2 + j, fun _ _ => 0, wup_s _ _ _, ⟨_, by rw [wup_n (by omega), wup_n (by omega)]; exact m2, fun j hj => ?_⟩, ⟨fun j hj => ?_, fun i j hi hj e => ?_⟩, fun j hj => ⟨_, ?_, fun _ _ => rfl⟩⟩
  · show (if j < 8 then some (o + 1 + 1 + j) else none) = _
    rw [if_pos hj, show o + 1 + 1 + j = o + 2 + j by omega]
  · dsimp only
    omega
  · dsimp only at e
    omega
  · dsimp only
    rw [wup_n (by omega), wup_n (by omega), show o + 2 + j = o + 1 + 1 + j by omega]
    exact m3 j hj
theorem perm_last {h : Nat} {f : Nat → Nat} (p : PermH h f) : ∃ j, j < 4 ∧ f j = h + 56 := by
  obtain ⟨i0, a0, b0⟩ := p.1 0 (by omega)
  obtain ⟨i1, a1, b1⟩ := p.1 1 (by omega)
  obtain ⟨i2, a2, b2⟩ := p.1 2 (by omega)
  obtain ⟨i3, a3, b3⟩ := p.1 3 (by omega)
  have n : ∀ i j, i < 4 → j < 4 → i ≠ j → f i ≠ f j := fun i j hi hj q e => q (p.2 i j hi hj e)
  have n1 := n 0 1 (by omega) (by omega) (by omega)
  have n2 := n 0 2 (by omega) (by omega) (by omega)
  have n3 := n 0 3 (by omega) (by omega) (by omega)
  have n4 := n 1 2 (by omega) (by omega) (by omega)
  have n5 := n 1 3 (by omega) (by omega) (by omega)
  have n6 := n 2 3 (by omega) (by omega) (by omega)
  rcases (show i0 = 3 ∨ i1 = 3 ∨ i2 = 3 ∨ i3 = 3 by omega) with q | q | q | q
  · exact ⟨0, by omega, by omega⟩
  · exact ⟨1, by omega, by omega⟩
  · exact ⟨2, by omega, by omega⟩
  · exact ⟨3, by omega, by omega⟩
set_option maxRecDepth 100000 in
set_option maxHeartbeats 4000000 in
theorem c_X6_init {l : Launch} {D : gD} {σ : Wd} {o : Nat} (h0 : σ o = some (.inr (6, f0_X6))) : KX6_init l D o σ (fun sz w => OffN o sz 127 σ w ∧ (sz = o + 1 → CS D w o S0 S0 0 0 (fun _ => S0) 0 (fun _ => 0))) := by
  refine sp_of (by decide +kernel) (cat1 rfl) (Nat.le_of_ble_eq_true rfl) [some (.ref o)] rfl (fun sz => ?_)
  refine j_aload_n dX6_init_0 rfl ?_
  refine j_objInit lk_X6_3 dX6_init_1 (by decide) (by decide) ?_
  refine j_aload_n dX6_init_4 rfl ?_
  refine nw_X6_9 rfl dX6_init_5 (Nat.le_of_ble_eq_true rfl) (Nat.le_of_ble_eq_true rfl) (fun b b1 b2 b3 => ?_)
  have ho := b3 o _ h0
  have hb : sz = b := by omega
  subst hb
  refine j_dup dX6_init_8 rfl ?_
  refine j_callIN (As := []) (wc_X2_init _ _) lk_X6_11 wi_X2_init rfl dX6_init_9 (c_X2_init (wup_s _ _ _)) rfl ⟨rfl, rfl⟩ ⟨by decide, (Nat.le_of_ble_eq_true rfl)⟩ (Nat.le_of_ble_eq_true rfl) ⟨(Nat.le_of_ble_eq_true rfl), (Nat.le_of_ble_eq_true rfl)⟩ (fun sz1 r1 v0 hz hP => ?_)
  obtain ⟨z1, z2, z3⟩ := hz
  obtain ⟨hr, hP⟩ := hP
  subst hr
  have z4 := z3 (sz) _ (wup_s _ _ _)
  have z5 : sz1 = sz + 1 := by omega
  subst z5
  obtain ⟨p1, p2⟩ := hP
  have p2 := p2 rfl
  have po : v0 o = some (.inr (6, [.null, .null, vi 0, .null, .null, .null, .null, .null, .null])) := (p1 o (by omega) (by omega)).trans ((wup_n (by omega)).trans h0)
  refine pf_X6_12 rfl rfl dX6_init_12 po rfl rfl (Nat.le_of_ble_eq_true rfl) ?_
  dsimp only [f0_X6, List.set]
  have pr := p1.toR
  have q0 : wup v0 o (.inr (6, [.ref sz, .null, vi 0, .null, .null, .null, .null, .null, .null])) o = some (.inr (6, [.ref sz, .null, vi 0, .null, .null, .null, .null, .null, .null])) := wup_s _ _ _
  have og0 : ∀ q, q ≠ o → (q < sz ∨ sz + 18 ≤ q) → wup v0 o (.inr (6, [.ref sz, .null, vi 0, .null, .null, .null, .null, .null, .null])) q = σ q := fun q q1 q2 => (wup_n (by omega)).trans ((pr q (by omega)).trans rfl)
  have h_0 := p2.eqv (w := wup v0 o (.inr (6, [.ref sz, .null, vi 0, .null, .null, .null, .null, .null, .null]))) (fun q q1 q2 => wup_n (by omega))
  revert q0 og0 h_0
  generalize wup v0 o (.inr (6, [.ref sz, .null, vi 0, .null, .null, .null, .null, .null, .null])) = w0
  intro q0 og0 h_0
  refine j_aload_n dX6_init_15 rfl ?_
  refine nw_X6_9 rfl dX6_init_16 (Nat.le_of_ble_eq_true rfl) (Nat.le_of_ble_eq_true rfl) (fun b b1 b2 b3 => ?_)
  obtain ⟨Fl, hFl, -⟩ := (h_0.2.2 3 (by omega)).2.2.2
  have hb := b3 _ _ hFl
  have hb : sz + 18 = b := by omega
  subst hb
  refine j_dup dX6_init_19 rfl ?_
  refine j_callIN (As := []) (wc_X2_init _ _) lk_X6_11 wi_X2_init rfl dX6_init_20 (c_X2_init (wup_s _ _ _)) rfl ⟨rfl, rfl⟩ ⟨by decide, (Nat.le_of_ble_eq_true rfl)⟩ (Nat.le_of_ble_eq_true rfl) ⟨(Nat.le_of_ble_eq_true rfl), (Nat.le_of_ble_eq_true rfl)⟩ (fun sz1 r1 v1 hz hP => ?_)
  obtain ⟨z1, z2, z3⟩ := hz
  obtain ⟨hr, hP⟩ := hP
  subst hr
  have z4 := z3 (sz + 18) _ (wup_s _ _ _)
  have z5 : sz1 = sz + 18 + 1 := by omega
  subst z5
  obtain ⟨p1, p2⟩ := hP
  have p2 := p2 rfl
  have po : v1 o = some (.inr (6, [.ref sz, .null, vi 0, .null, .null, .null, .null, .null, .null])) := (p1 o (by omega) (by omega)).trans ((wup_n (by omega)).trans q0)
  refine pf_X6_16 rfl rfl dX6_init_23 po rfl rfl (Nat.le_of_ble_eq_true rfl) ?_
  dsimp only [f0_X6, List.set]
  have pr := p1.toR
  have q1 : wup v1 o (.inr (6, [.ref sz, .ref (sz + 18), vi 0, .null, .null, .null, .null, .null, .null])) o = some (.inr (6, [.ref sz, .ref (sz + 18), vi 0, .null, .null, .null, .null, .null, .null])) := wup_s _ _ _
  have og1 : ∀ q, q ≠ o → (q < sz ∨ sz + 36 ≤ q) → wup v1 o (.inr (6, [.ref sz, .ref (sz + 18), vi 0, .null, .null, .null, .null, .null, .null])) q = σ q := fun q q1 q2 => (wup_n (by omega)).trans ((pr q (by omega)).trans (og0 q q1 (by omega)))
  have h_0 := h_0.eqv (w := wup v1 o (.inr (6, [.ref sz, .ref (sz + 18), vi 0, .null, .null, .null, .null, .null, .null]))) (fun q q1 q2 => (wup_n (by omega)).trans (pr q (by omega)))
  have h_1 := p2.eqv (w := wup v1 o (.inr (6, [.ref sz, .ref (sz + 18), vi 0, .null, .null, .null, .null, .null, .null]))) (fun q q1 q2 => wup_n (by omega))
  revert q1 og1 h_0 h_1
  generalize wup v1 o (.inr (6, [.ref sz, .ref (sz + 18), vi 0, .null, .null, .null, .null, .null, .null])) = w1
  intro q1 og1 h_0 h_1
  refine j_aload_n dX6_init_26 rfl ?_
  refine nw_X6_19 rfl dX6_init_27 (Nat.le_of_ble_eq_true rfl) (Nat.le_of_ble_eq_true rfl) (fun b b1 b2 b3 => ?_)
  obtain ⟨Fl, hFl, -⟩ := (h_1.2.2 3 (by omega)).2.2.2
  have hb := b3 _ _ hFl
  have hb : sz + 36 = b := by omega
  subst hb
  refine j_dup dX6_init_30 rfl ?_
  refine j_callIN (As := []) (wc_X1_init _ _) lk_X6_21 wi_X1_init rfl dX6_init_31 (c_X1_init (wup_s _ _ _)) rfl ⟨rfl, rfl⟩ ⟨by decide, (Nat.le_of_ble_eq_true rfl)⟩ (Nat.le_of_ble_eq_true rfl) ⟨(Nat.le_of_ble_eq_true rfl), (Nat.le_of_ble_eq_true rfl)⟩ (fun sz1 r1 v2 hz hP => ?_)
  obtain ⟨z1, z2, z3⟩ := hz
  obtain ⟨hr, hP⟩ := hP
  subst hr
  have z4 := z3 (sz + 36) _ (wup_s _ _ _)
  have z5 : sz1 = sz + 36 + 1 := by omega
  subst z5
  obtain ⟨p1, p2⟩ := hP
  have p2 := p2 rfl
  have po : v2 o = some (.inr (6, [.ref sz, .ref (sz + 18), vi 0, .null, .null, .null, .null, .null, .null])) := (p1 o (by omega) (by omega)).trans ((wup_n (by omega)).trans q1)
  refine pf_X6_22 rfl rfl dX6_init_34 po rfl rfl (Nat.le_of_ble_eq_true rfl) ?_
  dsimp only [f0_X6, List.set]
  have pr := p1.toR
  have q2 : wup v2 o (.inr (6, [.ref sz, .ref (sz + 18), vi 0, .ref (sz + 36), .null, .null, .null, .null, .null])) o = some (.inr (6, [.ref sz, .ref (sz + 18), vi 0, .ref (sz + 36), .null, .null, .null, .null, .null])) := wup_s _ _ _
  have og2 : ∀ q, q ≠ o → (q < sz ∨ sz + 110 ≤ q) → wup v2 o (.inr (6, [.ref sz, .ref (sz + 18), vi 0, .ref (sz + 36), .null, .null, .null, .null, .null])) q = σ q := fun q q1 q2 => (wup_n (by omega)).trans ((pr q (by omega)).trans (og1 q q1 (by omega)))
  have h_0 := h_0.eqv (w := wup v2 o (.inr (6, [.ref sz, .ref (sz + 18), vi 0, .ref (sz + 36), .null, .null, .null, .null, .null]))) (fun q q1 q2 => (wup_n (by omega)).trans (pr q (by omega)))
  have h_1 := h_1.eqv (w := wup v2 o (.inr (6, [.ref sz, .ref (sz + 18), vi 0, .ref (sz + 36), .null, .null, .null, .null, .null]))) (fun q q1 q2 => (wup_n (by omega)).trans (pr q (by omega)))
  have h_2 : ∃ f, HA D (wup v2 o (.inr (6, [.ref sz, .ref (sz + 18), vi 0, .ref (sz + 36), .null, .null, .null, .null, .null]))) (sz + 36) 0 f (fun _ => S0) := by
    obtain ⟨f, hh⟩ := p2
    exact ⟨f, hh.moved (wup_offR ⟨Nat.le_refl o, Nat.lt_succ_self o⟩) (by omega)⟩
  have ll3 : ∃ e, (wup v2 o (.inr (6, [.ref sz, .ref (sz + 18), vi 0, .ref (sz + 36), .null, .null, .null, .null, .null]))) (sz + 109) = some e := by
    obtain ⟨f, hh⟩ := h_2
    have hx : ∃ j, j < 4 ∧ f j = sz + 92 := perm_last hh.2.2.2.1
    obtain ⟨j, hj, ej⟩ := hx
    obtain ⟨Fl, hFl, -⟩ := ((hh.2.2.2.2 j hj).2.2 3 (by omega)).2.2.2
    exact ⟨_, by rw [show sz + 109 = f j + 5 + 4 * 3 by omega]; exact hFl⟩
  revert q2 og2 h_0 h_1 h_2 ll3
  generalize wup v2 o (.inr (6, [.ref sz, .ref (sz + 18), vi 0, .ref (sz + 36), .null, .null, .null, .null, .null])) = w2
  intro q2 og2 h_0 h_1 h_2 ll3
  refine j_aload_n dX6_init_37 rfl ?_
  refine nw_X6_26 rfl dX6_init_38 (Nat.le_of_ble_eq_true rfl) (Nat.le_of_ble_eq_true rfl) (fun b b1 b2 b3 => ?_)
  obtain ⟨fh, hh⟩ := id h_2
  have hfj : fh 0 = sz + 38 ∨ fh 0 = sz + 56 ∨ fh 0 = sz + 74 ∨ fh 0 = sz + 92 := by
    obtain ⟨i, hi, e⟩ := hh.2.2.2.1.1 0 (by omega)
    omega
  have hl3 := ll3
  obtain ⟨el, hl3⟩ := hl3
  have hb := b3 _ _ hl3
  have hb : sz + 110 = b := by omega
  subst hb
  refine j_dup dX6_init_41 rfl ?_
  refine j_callIN (As := []) (wc_X4_init _ _) lk_X6_28 wi_X4_init rfl dX6_init_42 (c_X4_init (wup_s _ _ _)) rfl ⟨rfl, rfl⟩ ⟨by decide, (Nat.le_of_ble_eq_true rfl)⟩ (Nat.le_of_ble_eq_true rfl) ⟨(Nat.le_of_ble_eq_true rfl), (Nat.le_of_ble_eq_true rfl)⟩ (fun sz1 r1 v3 hz hP => ?_)
  obtain ⟨z1, z2, z3⟩ := hz
  obtain ⟨hr, hP⟩ := hP
  subst hr
  have z4 := z3 (sz + 110) _ (wup_s _ _ _)
  have z5 : sz1 = sz + 110 + 1 := by omega
  subst z5
  obtain ⟨p1, p2⟩ := hP
  have p2 := p2 rfl
  have po : v3 o = some (.inr (6, [.ref sz, .ref (sz + 18), vi 0, .ref (sz + 36), .null, .null, .null, .null, .null])) := (p1 o (by omega) (by omega)).trans ((wup_n (by omega)).trans q2)
  refine pf_X6_29 rfl rfl dX6_init_45 po rfl rfl (Nat.le_of_ble_eq_true rfl) ?_
  dsimp only [f0_X6, List.set]
  have pr := p1.toR
  have q3 : wup v3 o (.inr (6, [.ref sz, .ref (sz + 18), vi 0, .ref (sz + 36), .ref (sz + 110), .null, .null, .null, .null])) o = some (.inr (6, [.ref sz, .ref (sz + 18), vi 0, .ref (sz + 36), .ref (sz + 110), .null, .null, .null, .null])) := wup_s _ _ _
  have og3 : ∀ q, q ≠ o → (q < sz ∨ sz + 113 ≤ q) → wup v3 o (.inr (6, [.ref sz, .ref (sz + 18), vi 0, .ref (sz + 36), .ref (sz + 110), .null, .null, .null, .null])) q = σ q := fun q q1 q2 => (wup_n (by omega)).trans ((pr q (by omega)).trans (og2 q q1 (by omega)))
  have h_0 := h_0.eqv (w := wup v3 o (.inr (6, [.ref sz, .ref (sz + 18), vi 0, .ref (sz + 36), .ref (sz + 110), .null, .null, .null, .null]))) (fun q q1 q2 => (wup_n (by omega)).trans (pr q (by omega)))
  have h_1 := h_1.eqv (w := wup v3 o (.inr (6, [.ref sz, .ref (sz + 18), vi 0, .ref (sz + 36), .ref (sz + 110), .null, .null, .null, .null]))) (fun q q1 q2 => (wup_n (by omega)).trans (pr q (by omega)))
  have h_2 : ∃ f, HA D (wup v3 o (.inr (6, [.ref sz, .ref (sz + 18), vi 0, .ref (sz + 36), .ref (sz + 110), .null, .null, .null, .null]))) (sz + 36) 0 f (fun _ => S0) := by
    obtain ⟨f, hh⟩ := h_2
    exact ⟨f, (hh.moved pr (by omega)).moved (wup_offR ⟨Nat.le_refl o, Nat.lt_succ_self o⟩) (by omega)⟩
  have h_3 := p2.moved (wup_offR (e := .inr (6, [.ref sz, .ref (sz + 18), vi 0, .ref (sz + 36), .ref (sz + 110), .null, .null, .null, .null])) ⟨Nat.le_refl o, Nat.lt_succ_self o⟩) (by omega)
  have ll4 : ∃ e, (wup v3 o (.inr (6, [.ref sz, .ref (sz + 18), vi 0, .ref (sz + 36), .ref (sz + 110), .null, .null, .null, .null]))) (sz + 112) = some e := by
    obtain ⟨_, _, _, _, _, _, _, -, -, -, -, ⟨Fl, hFl, -⟩⟩ := h_3
    exact ⟨_, hFl⟩
  revert q3 og3 h_0 h_1 h_2 h_3 ll4
  generalize wup v3 o (.inr (6, [.ref sz, .ref (sz + 18), vi 0, .ref (sz + 36), .ref (sz + 110), .null, .null, .null, .null])) = w3
  intro q3 og3 h_0 h_1 h_2 h_3 ll4
  refine j_aload_n dX6_init_48 rfl ?_
  refine nw_X6_33 rfl dX6_init_49 (Nat.le_of_ble_eq_true rfl) (Nat.le_of_ble_eq_true rfl) (fun b b1 b2 b3 => ?_)
  obtain ⟨el, hl4⟩ := ll4
  have hb := b3 _ _ hl4
  have hb : sz + 113 = b := by omega
  subst hb
  refine j_dup dX6_init_52 rfl ?_
  refine j_callIN (As := []) (wc_X0_init _ _) lk_X6_35 wi_X0_init rfl dX6_init_53 (c_X0_init (wup_s _ _ _)) rfl ⟨rfl, rfl⟩ ⟨by decide, (Nat.le_of_ble_eq_true rfl)⟩ (Nat.le_of_ble_eq_true rfl) ⟨(Nat.le_of_ble_eq_true rfl), (Nat.le_of_ble_eq_true rfl)⟩ (fun sz1 r1 v4 hz hP => ?_)
  obtain ⟨z1, z2, z3⟩ := hz
  obtain ⟨hr, hP⟩ := hP
  subst hr
  have z4 := z3 (sz + 113) _ (wup_s _ _ _)
  have z5 : sz1 = sz + 113 + 1 := by omega
  subst z5
  obtain ⟨p1, px, p2⟩ := hP
  have p2 := p2 rfl
  have po : v4 o = some (.inr (6, [.ref sz, .ref (sz + 18), vi 0, .ref (sz + 36), .ref (sz + 110), .null, .null, .null, .null])) := (p1 o (by omega) (by omega)).trans ((wup_n (by omega)).trans q3)
  refine pf_X6_36 rfl rfl dX6_init_56 po rfl rfl (Nat.le_of_ble_eq_true rfl) ?_
  dsimp only [f0_X6, List.set]
  have pr := p1.toR
  have q4 : wup v4 o (.inr (6, [.ref sz, .ref (sz + 18), vi 0, .ref (sz + 36), .ref (sz + 110), .ref (sz + 113), .null, .null, .null])) o = some (.inr (6, [.ref sz, .ref (sz + 18), vi 0, .ref (sz + 36), .ref (sz + 110), .ref (sz + 113), .null, .null, .null])) := wup_s _ _ _
  have og4 : ∀ q, q ≠ o → (q < sz ∨ sz + 123 ≤ q) → wup v4 o (.inr (6, [.ref sz, .ref (sz + 18), vi 0, .ref (sz + 36), .ref (sz + 110), .ref (sz + 113), .null, .null, .null])) q = σ q := fun q q1 q2 => (wup_n (by omega)).trans ((pr q (by omega)).trans (og3 q q1 (by omega)))
  have h_0 := h_0.eqv (w := wup v4 o (.inr (6, [.ref sz, .ref (sz + 18), vi 0, .ref (sz + 36), .ref (sz + 110), .ref (sz + 113), .null, .null, .null]))) (fun q q1 q2 => (wup_n (by omega)).trans (pr q (by omega)))
  have h_1 := h_1.eqv (w := wup v4 o (.inr (6, [.ref sz, .ref (sz + 18), vi 0, .ref (sz + 36), .ref (sz + 110), .ref (sz + 113), .null, .null, .null]))) (fun q q1 q2 => (wup_n (by omega)).trans (pr q (by omega)))
  have h_2 : ∃ f, HA D (wup v4 o (.inr (6, [.ref sz, .ref (sz + 18), vi 0, .ref (sz + 36), .ref (sz + 110), .ref (sz + 113), .null, .null, .null]))) (sz + 36) 0 f (fun _ => S0) := by
    obtain ⟨f, hh⟩ := h_2
    exact ⟨f, (hh.moved pr (by omega)).moved (wup_offR ⟨Nat.le_refl o, Nat.lt_succ_self o⟩) (by omega)⟩
  have h_3 := (h_3.moved pr (by omega)).moved (wup_offR (e := .inr (6, [.ref sz, .ref (sz + 18), vi 0, .ref (sz + 36), .ref (sz + 110), .ref (sz + 113), .null, .null, .null])) ⟨Nat.le_refl o, Nat.lt_succ_self o⟩) (by omega)
  have h_4 := p2.moved (wup_offR (e := .inr (6, [.ref sz, .ref (sz + 18), vi 0, .ref (sz + 36), .ref (sz + 110), .ref (sz + 113), .null, .null, .null])) ⟨Nat.le_refl o, Nat.lt_succ_self o⟩) (by omega)
  have ll5 : ∃ e, (wup v4 o (.inr (6, [.ref sz, .ref (sz + 18), vi 0, .ref (sz + 36), .ref (sz + 110), .ref (sz + 113), .null, .null, .null]))) (sz + 122) = some e := by
    obtain ⟨x, hx⟩ := px
    exact ⟨x, (wup_n (by omega)).trans hx⟩
  revert q4 og4 h_0 h_1 h_2 h_3 h_4 ll5
  generalize wup v4 o (.inr (6, [.ref sz, .ref (sz + 18), vi 0, .ref (sz + 36), .ref (sz + 110), .ref (sz + 113), .null, .null, .null])) = w4
  intro q4 og4 h_0 h_1 h_2 h_3 h_4 ll5
  refine j_aload_n dX6_init_59 rfl ?_
  refine nw_X6_40 rfl dX6_init_60 (Nat.le_of_ble_eq_true rfl) (Nat.le_of_ble_eq_true rfl) (fun b b1 b2 b3 => ?_)
  obtain ⟨el, hl5⟩ := ll5
  have hb := b3 _ _ hl5
  have hb : sz + 123 = b := by omega
  subst hb
  refine j_dup dX6_init_63 rfl ?_
  refine j_callI (As := []) (wc_X5_init _ _) lk_X6_42 wi_X5_init rfl dX6_init_64 (c_X5_init (wup_s _ _ _)) rfl ⟨rfl, rfl⟩ ⟨by decide, (Nat.le_of_ble_eq_true rfl)⟩ (Nat.le_of_ble_eq_true rfl) ⟨(Nat.le_of_ble_eq_true rfl), (Nat.le_of_ble_eq_true rfl)⟩ (fun sz1 r1 v5 hz hP => ?_)
  obtain ⟨z1, z2, z3⟩ := hz
  obtain ⟨hr, hP⟩ := hP
  subst hr
  have z4 := z3 (sz + 123) _ (wup_s _ _ _)
  have z5 : sz1 = sz + 123 + 1 := by omega
  subst z5
  obtain ⟨p1, p2, p3⟩ := hP
  have po : v5 o = some (.inr (6, [.ref sz, .ref (sz + 18), vi 0, .ref (sz + 36), .ref (sz + 110), .ref (sz + 113), .null, .null, .null])) := (p1 o (by omega) (by omega)).trans ((wup_n (by omega)).trans q4)
  refine pf_X6_43 rfl rfl dX6_init_67 po rfl rfl (Nat.le_of_ble_eq_true rfl) ?_
  dsimp only [f0_X6, List.set]
  have pr := p1.toR
  have q5 : wup v5 o (.inr (6, [.ref sz, .ref (sz + 18), vi 0, .ref (sz + 36), .ref (sz + 110), .ref (sz + 113), .ref (sz + 123), .null, .null])) o = some (.inr (6, [.ref sz, .ref (sz + 18), vi 0, .ref (sz + 36), .ref (sz + 110), .ref (sz + 113), .ref (sz + 123), .null, .null])) := wup_s _ _ _
  have og5 : ∀ q, q ≠ o → (q < sz ∨ sz + 125 ≤ q) → wup v5 o (.inr (6, [.ref sz, .ref (sz + 18), vi 0, .ref (sz + 36), .ref (sz + 110), .ref (sz + 113), .ref (sz + 123), .null, .null])) q = σ q := fun q q1 q2 => (wup_n (by omega)).trans ((pr q (by omega)).trans (og4 q q1 (by omega)))
  have h_0 := h_0.eqv (w := wup v5 o (.inr (6, [.ref sz, .ref (sz + 18), vi 0, .ref (sz + 36), .ref (sz + 110), .ref (sz + 113), .ref (sz + 123), .null, .null]))) (fun q q1 q2 => (wup_n (by omega)).trans (pr q (by omega)))
  have h_1 := h_1.eqv (w := wup v5 o (.inr (6, [.ref sz, .ref (sz + 18), vi 0, .ref (sz + 36), .ref (sz + 110), .ref (sz + 113), .ref (sz + 123), .null, .null]))) (fun q q1 q2 => (wup_n (by omega)).trans (pr q (by omega)))
  have h_2 : ∃ f, HA D (wup v5 o (.inr (6, [.ref sz, .ref (sz + 18), vi 0, .ref (sz + 36), .ref (sz + 110), .ref (sz + 113), .ref (sz + 123), .null, .null]))) (sz + 36) 0 f (fun _ => S0) := by
    obtain ⟨f, hh⟩ := h_2
    exact ⟨f, (hh.moved pr (by omega)).moved (wup_offR ⟨Nat.le_refl o, Nat.lt_succ_self o⟩) (by omega)⟩
  have h_3 := (h_3.moved pr (by omega)).moved (wup_offR (e := .inr (6, [.ref sz, .ref (sz + 18), vi 0, .ref (sz + 36), .ref (sz + 110), .ref (sz + 113), .ref (sz + 123), .null, .null])) ⟨Nat.le_refl o, Nat.lt_succ_self o⟩) (by omega)
  have h_4 := (h_4.moved pr (by omega)).moved (wup_offR (e := .inr (6, [.ref sz, .ref (sz + 18), vi 0, .ref (sz + 36), .ref (sz + 110), .ref (sz + 113), .ref (sz + 123), .null, .null])) ⟨Nat.le_refl o, Nat.lt_succ_self o⟩) (by omega)
  have h_5 : (wup v5 o (.inr (6, [.ref sz, .ref (sz + 18), vi 0, .ref (sz + 36), .ref (sz + 110), .ref (sz + 113), .ref (sz + 123), .null, .null]))) (sz + 123) = some (.inr (5, [.ref (sz + 124)])) := (wup_n (by omega)).trans p2
  have h_6 := p3.eqv (w := (wup v5 o (.inr (6, [.ref sz, .ref (sz + 18), vi 0, .ref (sz + 36), .ref (sz + 110), .ref (sz + 113), .ref (sz + 123), .null, .null])))) (wup_n (by omega))
  have ll6 : ∃ e, (wup v5 o (.inr (6, [.ref sz, .ref (sz + 18), vi 0, .ref (sz + 36), .ref (sz + 110), .ref (sz + 113), .ref (sz + 123), .null, .null]))) (sz + 124) = some e := by
    obtain ⟨Fl, hFl, -⟩ := h_6
    exact ⟨_, hFl⟩
  revert q5 og5 h_0 h_1 h_2 h_3 h_4 h_5 h_6 ll6
  generalize wup v5 o (.inr (6, [.ref sz, .ref (sz + 18), vi 0, .ref (sz + 36), .ref (sz + 110), .ref (sz + 113), .ref (sz + 123), .null, .null])) = w5
  intro q5 og5 h_0 h_1 h_2 h_3 h_4 h_5 h_6 ll6
  refine j_aload_n dX6_init_70 rfl ?_
  refine j_bipush dX6_init_71 (by decide) ?_
  refine j_newI (N := 64) dX6_init_73 rfl ⟨by omega, by omega⟩ (Nat.le_of_ble_eq_true rfl) (Nat.le_of_ble_eq_true rfl) (Nat.le_of_ble_eq_true rfl) (fun b b1 b2 b3 => ?_)
  obtain ⟨el, hl6⟩ := ll6
  have hb := b3 _ _ hl6
  have hb : sz + 125 = b := by omega
  subst hb
  refine pf_X6_47 rfl rfl dX6_init_75 ((wup_n (by omega)).trans q5) rfl rfl (Nat.le_of_ble_eq_true rfl) ?_
  dsimp only [f0_X6, List.set]
  refine j_aload_n dX6_init_78 rfl ?_
  refine j_bipush dX6_init_79 (by decide) ?_
  refine j_newI (N := 64) dX6_init_81 rfl ⟨by omega, by omega⟩ (Nat.le_of_ble_eq_true rfl) (Nat.le_of_ble_eq_true rfl) (Nat.le_of_ble_eq_true rfl) (fun b b1 b2 b3 => ?_)
  have hb := b3 _ _ (wup_of (wup_s _ _ _) (show sz + 125 ≠ o by omega))
  have hb : sz + 126 = b := by omega
  subst hb
  refine pf_X6_51 rfl rfl dX6_init_83 ((wup_n (by omega)).trans (wup_s _ _ _)) rfl rfl (Nat.le_of_ble_eq_true rfl) ?_
  dsimp only [f0_X6, List.set]
  refine j_vret dX6_init_86 ⟨rfl, (fun q q1 q2 => by rw [wup_n (by omega), wup_n (by omega), wup_n (by omega), wup_n (by omega)]; exact og5 q q1 (by omega)), fun hso => ?_⟩
  have E : OffN o (sz + 125) 2 w5 (wup (wup (wup (wup w5 (sz + 125) (ia D 64 (fun _ => 0))) o (.inr (6, [.ref sz, .ref (sz + 18), vi 0, .ref (sz + 36), .ref (sz + 110), .ref (sz + 113), .ref (sz + 123), .ref (sz + 125), .null]))) (sz + 126) (ia D 64 (fun _ => 0))) o (.inr (6, [.ref sz, .ref (sz + 18), vi 0, .ref (sz + 36), .ref (sz + 110), .ref (sz + 113), .ref (sz + 123), .ref (sz + 125), .ref (sz + 126)]))) := fun q q1 q2 => by rw [wup_n (by omega), wup_n (by omega), wup_n (by omega), wup_n (by omega)]
  have e1 : (wup (wup (wup (wup w5 (sz + 125) (ia D 64 (fun _ => 0))) o (.inr (6, [.ref sz, .ref (sz + 18), vi 0, .ref (sz + 36), .ref (sz + 110), .ref (sz + 113), .ref (sz + 123), .ref (sz + 125), .null]))) (sz + 126) (ia D 64 (fun _ => 0))) o (.inr (6, [.ref sz, .ref (sz + 18), vi 0, .ref (sz + 36), .ref (sz + 110), .ref (sz + 113), .ref (sz + 123), .ref (sz + 125), .ref (sz + 126)]))) o = some (.inr (6, [.ref sz, .ref (sz + 18), vi 0, .ref (sz + 36), .ref (sz + 110), .ref (sz + 113), .ref (sz + 123), .ref (sz + 125), .ref (sz + 126)])) := wup_s _ _ _
  have e2 : (wup (wup (wup (wup w5 (sz + 125) (ia D 64 (fun _ => 0))) o (.inr (6, [.ref sz, .ref (sz + 18), vi 0, .ref (sz + 36), .ref (sz + 110), .ref (sz + 113), .ref (sz + 123), .ref (sz + 125), .null]))) (sz + 126) (ia D 64 (fun _ => 0))) o (.inr (6, [.ref sz, .ref (sz + 18), vi 0, .ref (sz + 36), .ref (sz + 110), .ref (sz + 113), .ref (sz + 123), .ref (sz + 125), .ref (sz + 126)]))) (sz + 125) = some (ia D 64 (fun _ => 0)) := by rw [wup_n (by omega), wup_n (by omega), wup_n (by omega), wup_s]
  have e3 : (wup (wup (wup (wup w5 (sz + 125) (ia D 64 (fun _ => 0))) o (.inr (6, [.ref sz, .ref (sz + 18), vi 0, .ref (sz + 36), .ref (sz + 110), .ref (sz + 113), .ref (sz + 123), .ref (sz + 125), .null]))) (sz + 126) (ia D 64 (fun _ => 0))) o (.inr (6, [.ref sz, .ref (sz + 18), vi 0, .ref (sz + 36), .ref (sz + 110), .ref (sz + 113), .ref (sz + 123), .ref (sz + 125), .ref (sz + 126)]))) (sz + 126) = some (ia D 64 (fun _ => 0)) := by rw [wup_n (by omega), wup_s]
  revert E e1 e2 e3
  generalize (wup (wup (wup (wup w5 (sz + 125) (ia D 64 (fun _ => 0))) o (.inr (6, [.ref sz, .ref (sz + 18), vi 0, .ref (sz + 36), .ref (sz + 110), .ref (sz + 113), .ref (sz + 123), .ref (sz + 125), .null]))) (sz + 126) (ia D 64 (fun _ => 0))) o (.inr (6, [.ref sz, .ref (sz + 18), vi 0, .ref (sz + 36), .ref (sz + 110), .ref (sz + 113), .ref (sz + 123), .ref (sz + 125), .ref (sz + 126)]))) = wt
  intro E e1 e2 e3
  subst hso
  have ER : OffR (o + 126) (o + 128) w5 (fun q => if q = o then w5 o else wt q) := fun q hq => by
    dsimp only
    by_cases a : q = o
    · rw [if_pos a, a]
    · rw [if_neg a]
      exact E q a (by omega)
  have EO : OffR o (o + 1) (fun q => if q = o then w5 o else wt q) wt := fun q hq => by
    dsimp only
    rw [if_neg (by omega)]
  refine ⟨e1, h_0.eqv (fun q q1 q2 => E q (by omega) (by omega)), h_1.eqv (fun q q1 q2 => E q (by omega) (by omega)), ?_, (h_3.moved ER (by omega)).moved EO (by omega), (h_4.moved ER (by omega)).moved EO (by omega), ⟨g0T, (E _ (by omega) (by omega)).trans h_5, h_6.eqv (E _ (by omega) (by omega))⟩, ⟨_, _, e2, fun _ _ => rfl⟩, ⟨_, _, e3, fun _ _ => rfl⟩⟩
  obtain ⟨f, hh⟩ := h_2
  exact ⟨f, (hh.moved ER (by omega)).moved EO (by omega)⟩

/-! ===== contracts: State and History ===== -/
abbrev MS : Type := Int × (Nat → Nat → Int) × (Nat → Nat → Int)
/-- σ' is σ outside lo..hi -/
def OffR (lo hi : Nat) (σ σ' : Wd) : Prop := ∀ q, (q < lo ∨ hi ≤ q) → σ' q = σ q
theorem OffR.rf {lo hi : Nat} {σ : Wd} : OffR lo hi σ σ := fun _ _ => rfl
theorem OffR.tr {lo hi : Nat} {σ w u : Wd} (h : OffR lo hi σ w) (h' : OffR lo hi w u) : OffR lo hi σ u := fun q hq => (h' q hq).trans (h q hq)
theorem OffR.mono {lo hi lo' hi' : Nat} {σ w : Wd} (h : OffR lo hi σ w) (h1 : lo' ≤ lo) (h2 : hi ≤ hi') : OffR lo' hi' σ w := fun q hq => h q (by omega)
theorem Off.toR {S : List Nat} {lo hi : Nat} {σ w : Wd} (h : Off S σ w) (hs : ∀ q ∈ S, lo ≤ q ∧ q < hi) : OffR lo hi σ w := fun q hq => h q (fun z => by have := hs q z; omega)
theorem OffR.get {lo hi : Nat} {σ w : Wd} {a : Nat} {e : Option va_E} (h : OffR lo hi σ w) (ha : σ a = e) (hn : a < lo ∨ hi ≤ a) : w a = e := (h a hn).trans ha
theorem OffR.ia {D : gD} {lo hi : Nat} {σ w : Wd} {a N : Nat} {f : Nat → Int} (h : OffR lo hi σ w) (ha : IA D σ a N f) (hn : a < lo ∨ hi ≤ a) : IA D w a N f := by
  obtain ⟨F, h1, h2⟩ := ha
  exact ⟨F, h.get h1 hn, h2⟩
theorem OffR.qa {D : gD} {t : Nat} {lo hi : Nat} {σ w : Wd} {a N : Nat} {f : Nat → Nat} (h : OffR lo hi σ w) (ha : QA D t σ a N f) (hn : a < lo ∨ hi ≤ a) : QA D t w a N f := by
  obtain ⟨F, h1, h2⟩ := ha
  exact ⟨F, h.get h1 hn, h2⟩
theorem wup_offR {lo hi : Nat} {σ : Wd} {a : Nat} {e : va_E} (h : lo ≤ a ∧ a < hi) : OffR lo hi σ (wup σ a e) := fun q hq => wup_n (by omega)
/-- a State at b, its tables behind it -/
def SA (D : gD) (w : Wd) (b : Nat) (S : MS) : Prop := w b = some (.inr (2, [vi S.1, .ref (b + 1)])) ∧ QA D 3 w (b + 1) 4 (fun t => b + 2 + 4 * t) ∧
  ∀ t, t < 4 → w (b + 2 + 4 * t) = some (.inr (3, [.ref (b + 3 + 4 * t), .ref (b + 4 + 4 * t)])) ∧ IA D w (b + 3 + 4 * t) 64 (S.2.1 t) ∧ w (b + 4 + 4 * t) = some (.inr (5, [.ref (b + 5 + 4 * t)])) ∧ IA D w (b + 5 + 4 * t) 64 (S.2.2 t)
theorem SA.moved {D : gD} {lo hi : Nat} {σ w : Wd} {b : Nat} {S : MS} (h : SA D σ b S) (ho : OffR lo hi σ w) (hn : b + 18 ≤ lo ∨ hi ≤ b) : SA D w b S :=
  ⟨ho.get h.1 (by omega), ho.qa h.2.1 (by omega), fun t ht => ⟨ho.get (h.2.2 t ht).1 (by omega), ho.ia (h.2.2 t ht).2.1 (by omega), ho.get (h.2.2 t ht).2.2.1 (by omega), ho.ia (h.2.2 t ht).2.2.2 (by omega)⟩⟩
theorem SA.ext {D : gD} {w : Wd} {b : Nat} {S S' : MS} (h : SA D w b S) (h1 : S.1 = S'.1) (h2 : ∀ t, t < 4 → ∀ j, j < 64 → S.2.1 t j = S'.2.1 t j ∧ S.2.2 t j = S'.2.2 t j) : SA D w b S' :=
  ⟨h1 ▸ h.1, h.2.1, fun t ht => ⟨(h.2.2 t ht).1, (h.2.2 t ht).2.1.ext (fun j hj => (h2 t ht j hj).1), (h.2.2 t ht).2.2.1, (h.2.2 t ht).2.2.2.ext (fun j hj => (h2 t ht j hj).2)⟩⟩
theorem SA.prime {D : gD} {w : Wd} {b : Nat} {S : MS} {p : Int} (h : SA D w b S) : SA D (wup w b (.inr (2, [vi p, .ref (b + 1)]))) b (p, S.2) := by
  have ho : Off [b] w (wup w b (.inr (2, [vi p, .ref (b + 1)]))) := wup_off (by simp)
  exact ⟨wup_s _ _ _, ho.qa h.2.1 (by simp), fun t ht => ⟨ho.get (h.2.2 t ht).1 (by simp; omega), ho.ia (h.2.2 t ht).2.1 (by simp; omega), ho.get (h.2.2 t ht).2.2.1 (by simp; omega), ho.ia (h.2.2 t ht).2.2.2 (by simp; omega)⟩⟩
/-- cells and sizes of the table t anew -/
theorem SA.table {D : gD} {w w' : Wd} {b t : Nat} {S : MS} {f g : Nat → Int} (h : SA D w b S) (ht : t < 4) (ho : Off [b + 3 + 4 * t, b + 5 + 4 * t] w w') (hf : IA D w' (b + 3 + 4 * t) 64 f) (hg : IA D w' (b + 5 + 4 * t) 64 g) : SA D w' b (S.1, fup S.2.1 t f, fup S.2.2 t g) := by
  refine ⟨ho.get h.1 (by simp; omega), ho.qa h.2.1 (by simp; omega), fun u hu => ⟨ho.get (h.2.2 u hu).1 (by simp; omega), ?_, ho.get (h.2.2 u hu).2.2.1 (by simp; omega), ?_⟩⟩
  · by_cases q : u = t
    · subst q
      show IA D w' _ 64 (fup S.2.1 u f u)
      rw [fup_s]
      exact hf
    · show IA D w' _ 64 (fup S.2.1 t f u)
      rw [fup_n q]
      exact ho.ia (h.2.2 u hu).2.1 (by simp; omega)
  · by_cases q : u = t
    · subst q
      show IA D w' _ 64 (fup S.2.2 u g u)
      rw [fup_s]
      exact hg
    · show IA D w' _ 64 (fup S.2.2 t g u)
      rw [fup_n q]
      exact ho.ia (h.2.2 u hu).2.2.2 (by simp; omega)
theorem SA.cells {D : gD} {w w' : Wd} {b t : Nat} {S : MS} {f : Nat → Int} (h : SA D w b S) (ht : t < 4) (ho : Off [b + 3 + 4 * t] w w') (hf : IA D w' (b + 3 + 4 * t) 64 f) : SA D w' b (S.1, fup S.2.1 t f, S.2.2) :=
  (h.table ht (ho.mono (by simp)) hf (ho.ia (h.2.2 t ht).2.2.2 (by simp))).ext rfl (fun u hu j hj => ⟨rfl, by
    show fup S.2.2 t (S.2.2 t) u j = S.2.2 u j
    by_cases q : u = t
    · subst q
      rw [fup_s]
    · rw [fup_n q]⟩)
theorem SA.sizes {D : gD} {w w' : Wd} {b t : Nat} {S : MS} {g : Nat → Int} (h : SA D w b S) (ht : t < 4) (ho : Off [b + 5 + 4 * t] w w') (hg : IA D w' (b + 5 + 4 * t) 64 g) : SA D w' b (S.1, S.2.1, fup S.2.2 t g) :=
  (h.table ht (ho.mono (by simp)) (ho.ia (h.2.2 t ht).2.1 (by simp)) hg).ext rfl (fun u hu j hj => ⟨by
    show fup S.2.1 t (S.2.1 t) u j = S.2.1 u j
    by_cases q : u = t
    · subst q
      rw [fup_s]
    · rw [fup_n q], rfl⟩)
/-- a History at h, its four States behind it in any order -/
def PermH (h : Nat) (f : Nat → Nat) : Prop := (∀ j, j < 4 → ∃ i, i < 4 ∧ f j = h + 2 + 18 * i) ∧ ∀ i j, i < 4 → j < 4 → f i = f j → i = j
def HA (D : gD) (w : Wd) (h n : Nat) (f : Nat → Nat) (H : Nat → MS) : Prop := w h = some (.inr (1, [.ref (h + 1), vi n])) ∧ n ≤ 4 ∧ QA D 4 w (h + 1) 4 f ∧ PermH h f ∧ ∀ j, j < 4 → SA D w (f j) (H j)
theorem PermH.in {h : Nat} {f : Nat → Nat} (p : PermH h f) {j : Nat} (hj : j < 4) : h + 2 ≤ f j ∧ f j + 18 ≤ h + 74 := by
  obtain ⟨i, hi, e⟩ := p.1 j hj
  omega
theorem PermH.ap {h : Nat} {f : Nat → Nat} (p : PermH h f) {i j : Nat} (hi : i < 4) (hj : j < 4) (hn : i ≠ j) : f i + 18 ≤ f j ∨ f j + 18 ≤ f i := by
  obtain ⟨a, ha, e1⟩ := p.1 i hi
  obtain ⟨b, hb, e2⟩ := p.1 j hj
  have : f i ≠ f j := fun q => hn (p.2 i j hi hj q)
  omega
theorem PermH.rot {h : Nat} {f : Nat → Nat} (p : PermH h f) : PermH h (fun j => if j = 3 then f 0 else f (j + 1)) := by
  refine ⟨fun j hj => ?_, fun i j hi hj e => ?_⟩
  · dsimp only
    split
    · exact p.1 0 (by omega)
    · exact p.1 (j + 1) (by omega)
  · dsimp only at e
    split at e <;> split at e
    · omega
    · have := p.2 _ _ (by omega) (by omega) e
      omega
    · have := p.2 _ _ (by omega) (by omega) e
      omega
    · have := p.2 _ _ (by omega) (by omega) e
      omega
theorem HA.moved {D : gD} {lo hi : Nat} {σ w : Wd} {h n : Nat} {f : Nat → Nat} {H : Nat → MS} (q : HA D σ h n f H) (ho : OffR lo hi σ w) (hn : h + 74 ≤ lo ∨ hi ≤ h) : HA D w h n f H :=
  ⟨ho.get q.1 (by omega), q.2.1, ho.qa q.2.2.1 (by omega), q.2.2.2.1, fun j hj => (q.2.2.2.2 j hj).moved ho (by have := q.2.2.2.1.in hj; omega)⟩
def recN (n : Nat) : Nat := if n < 4 then n + 1 else 4
def recH (n : Nat) (H : Nat → MS) (S : MS) : Nat → MS := if n < 4 then fup H n S else fun j => if j = 3 then S else H (j + 1)
theorem rec_lt {n : Nat} {H : Nat → MS} {S : MS} (h : n < 4) : n + 1 = recN n ∧ ∀ j, j < 4 → (if j = n then S else H j) = recH n H S j := by
  unfold recN recH
  rw [if_pos h, if_pos h]
  exact ⟨rfl, fun _ _ => rfl⟩
theorem rec_ge {n : Nat} {H : Nat → MS} {S : MS} (h : n = 4) : 3 + 1 = recN n ∧ ∀ j, j < 4 → (if j = 3 then S else (fun j => if j = 3 then H 0 else H (j + 1)) j) = recH n H S j := by
  unfold recN recH
  rw [if_neg (by omega), if_neg (by omega)]
  refine ⟨rfl, fun j _ => ?_⟩
  dsimp only
  split
  · rfl
  · rfl
theorem ne_oq {D : gD} {t : Nat} {σ : Wd} {a b N : Nat} {x : Nat × List Value} {f : Nat → Nat} (h : σ a = some (.inr x)) (h2 : QA D t σ b N f) : a ≠ b := by
  rintro rfl
  obtain ⟨F, h3, -⟩ := h2
  rw [h] at h3
  cases h3

set_option maxRecDepth 100000 in
set_option maxHeartbeats 4000000 in
theorem c_X2_changePrime {l : Launch} {D : gD} {σ : Wd} {b : Nat} {S : MS} {p : Int} (h1 : SA D σ b S) (hcR : ∀ t, t < 4 → ∀ j, j < 64 → R32 (S.2.1 t j)) (hp : 2 ≤ p) (hp2 : p < 2147483648) : KX2_changePrime l D [.ref b, vi p] σ (fun σ' => OffR b (b + 18) σ σ' ∧ SA D σ' b (p, (fun t j => S.2.1 t j % p), S.2.2)) := by
  refine sp_of (by decide +kernel) (cat1 rfl) (Nat.le_of_ble_eq_true rfl) [some (.ref b), some (vi p), none] rfl (fun sz => ?_)
  refine j_aload_n dX2_changePrime_0 rfl ?_
  refine j_iload_n dX2_changePrime_1 rfl ?_
  refine pf_X2_9 rfl dX2_changePrime_2 h1.1 rfl rfl (Nat.le_of_ble_eq_true rfl) ?_
  dsimp only [List.set]
  have hs0 := h1.prime (p := p)
  refine j_iconst dX2_changePrime_5 ?_
  refine j_istore_n dX2_changePrime_6 (by decide) (by dsimp only [List.set] <;> rfl) ?_
  have lp7 : ∀ (nn : Nat) (i : Int) (w : Wd), 0 ≤ i → i ≤ 4 → 4 - i < nn → OffR b (b + 18) σ w → SA D w b (p, (fun t j => if (t : Int) < i then S.2.1 t j % p else S.2.1 t j), S.2.2) → J l D yX2_changePrime cX2_changePrime 3 none rmX2_changePrime sz (AA σ sz) (QV D σ sz (fun σ' => OffR b (b + 18) σ σ' ∧ SA D σ' b (p, (fun t j => S.2.1 t j % p), S.2.2))) 0 0 7 [some (.ref b), some (vi p), some (vi i)] [] w := by
    intro nn
    induction nn with
    | zero =>
      intro i w hi0 hi1 hnn ho hw
      exact absurd (by assumption) (by omega)
    | succ nn ih7 =>
      intro i w hi0 hi1 hnn ho hw
      refine j_iload_n dX2_changePrime_7 rfl ?_
      refine j_iconst dX2_changePrime_8 ?_
      refine j_icmp_ge (tgt := 27) dX2_changePrime_9 (by decide) ⟨by omega, by omega⟩ ⟨by omega, by omega⟩ (fun h9 => ?_) (fun h9 => ?_)
      · skip
        exact j_vret dX2_changePrime_27 ⟨rfl, ho, hw.ext rfl (fun t ht j hj => ⟨by dsimp only; rw [if_pos (by omega)], rfl⟩)⟩
      · skip
        refine j_aload_n dX2_changePrime_12 rfl ?_
        refine j_iload_n dX2_changePrime_13 rfl ?_
        refine cl_X2_22 (As := [_]) rfl dX2_changePrime_14 (c_X2_tableOf hw.1 hw.2.1 (by omega) (by omega)) hw.1 rfl ⟨by decide, by decide⟩ (Nat.le_of_ble_eq_true rfl) ⟨Nat.zero_le _, Nat.zero_le _⟩ (fun z14 σ14 hz14 => ?_)
        obtain ⟨hr14, hs14⟩ := hz14
        have hr14 := Eq.symm hr14
        have hs14 := Eq.symm hs14
        subst hr14
        subst hs14
        have hw1 := hw.2.2 i.toNat (by omega)
        refine j_iload_n dX2_changePrime_17 rfl ?_
        refine cl_X2_26 (As := [_]) rfl dX2_changePrime_18 (c_X3_reduceCells hw1.1 hw1.2.1 (fun j hj => by dsimp only; rw [if_neg (by omega)]; exact hcR _ (by omega) j hj) hp hp2) hw1.1 rfl ⟨by decide, by decide⟩ (Nat.le_of_ble_eq_true rfl) ⟨Nat.zero_le _, Nat.zero_le _⟩ (fun σ18 hz18 => ?_)
        refine j_iinc dX2_changePrime_21 rfl (by decide) (by dsimp only [List.set] <;> rfl) ?_
        refine j_goto (tgt := 7) dX2_changePrime_24 (by decide) ?_
        exact ih7 _ _ (by omega) (by omega) (by omega) (ho.tr (hz18.1.toR (by simp; omega))) ((hw.cells (by omega) hz18.1 hz18.2).ext rfl (fun t ht j hj => ⟨by
          dsimp only
          by_cases q : t = i.toNat
          · rw [q, fup_s, if_neg (by omega), if_pos (by omega)]
          · rw [fup_n q]
            by_cases q2 : (t : Int) < i
            · rw [if_pos q2, if_pos (by omega)]
            · rw [if_neg q2, if_neg (by omega)], rfl⟩))
  exact lp7 6 0 _ (by omega) (by omega) (by omega) (wup_offR (by omega)) (hs0.ext rfl (fun t ht j hj => ⟨by dsimp only; rw [if_neg (by omega)], rfl⟩))
set_option maxRecDepth 100000 in
set_option maxHeartbeats 4000000 in
theorem c_X2_copyFrom {l : Launch} {D : gD} {σ : Wd} {b c : Nat} {S S2 : MS} (h1 : SA D σ b S) (h2 : SA D σ c S2) (hn : b + 18 ≤ c ∨ c + 18 ≤ b) : KX2_copyFrom l D [.ref b, .ref c] σ (fun σ' => OffR b (b + 18) σ σ' ∧ SA D σ' b S2) := by
  refine sp_of (by decide +kernel) (cat1 rfl) (Nat.le_of_ble_eq_true rfl) [some (.ref b), some (.ref c), none] rfl (fun sz => ?_)
  refine j_aload_n dX2_copyFrom_0 rfl ?_
  refine j_aload_n dX2_copyFrom_1 rfl ?_
  refine gf_X2_9 rfl dX2_copyFrom_2 h2.1 rfl ?_
  refine pf_X2_9 rfl dX2_copyFrom_5 h1.1 rfl rfl (Nat.le_of_ble_eq_true rfl) ?_
  dsimp only [List.set]
  have hs0 := h1.prime (p := S2.1)
  refine j_iconst dX2_copyFrom_8 ?_
  refine j_istore_n dX2_copyFrom_9 (by decide) (by dsimp only [List.set] <;> rfl) ?_
  have lp10 : ∀ (nn : Nat) (i : Int) (w : Wd), 0 ≤ i → i ≤ 4 → 4 - i < nn → OffR b (b + 18) σ w → SA D w b (S2.1, (fun t j => if (t : Int) < i then S2.2.1 t j else S.2.1 t j), (fun t j => if (t : Int) < i then S2.2.2 t j else S.2.2 t j)) → J l D yX2_copyFrom cX2_copyFrom 3 none rmX2_copyFrom sz (AA σ sz) (QV D σ sz (fun σ' => OffR b (b + 18) σ σ' ∧ SA D σ' b S2)) 0 0 10 [some (.ref b), some (.ref c), some (vi i)] [] w := by
    intro nn
    induction nn with
    | zero =>
      intro i w hi0 hi1 hnn ho hw
      exact absurd (by assumption) (by omega)
    | succ nn ih10 =>
      intro i w hi0 hi1 hnn ho hw
      refine j_iload_n dX2_copyFrom_10 rfl ?_
      refine j_iconst dX2_copyFrom_11 ?_
      refine j_icmp_ge (tgt := 34) dX2_copyFrom_12 (by decide) ⟨by omega, by omega⟩ ⟨by omega, by omega⟩ (fun h12 => ?_) (fun h12 => ?_)
      · skip
        exact j_vret dX2_copyFrom_34 ⟨rfl, ho, hw.ext rfl (fun t ht j hj => ⟨by dsimp only; rw [if_pos (by omega)], by dsimp only; rw [if_pos (by omega)]⟩)⟩
      · skip
        refine j_aload_n dX2_copyFrom_15 rfl ?_
        refine j_iload_n dX2_copyFrom_16 rfl ?_
        refine cl_X2_22 (As := [_]) rfl dX2_copyFrom_17 (c_X2_tableOf hw.1 hw.2.1 (by omega) (by omega)) hw.1 rfl ⟨by decide, by decide⟩ (Nat.le_of_ble_eq_true rfl) ⟨Nat.zero_le _, Nat.zero_le _⟩ (fun z17 σ17 hz17 => ?_)
        obtain ⟨hr17, hs17⟩ := hz17
        have hr17 := Eq.symm hr17
        have hs17 := Eq.symm hs17
        subst hr17
        subst hs17
        have hw1 := hw.2.2 i.toNat (by omega)
        have hc := h2.moved ho (by omega)
        have hc1 := hc.2.2 i.toNat (by omega)
        refine j_aload_n dX2_copyFrom_20 rfl ?_
        refine j_iload_n dX2_copyFrom_21 rfl ?_
        refine cl_X2_22 (As := [_]) rfl dX2_copyFrom_22 (c_X2_tableOf hc.1 hc.2.1 (by omega) (by omega)) hc.1 rfl ⟨by decide, by decide⟩ (Nat.le_of_ble_eq_true rfl) ⟨Nat.zero_le _, Nat.zero_le _⟩ (fun z22 σ22 hz22 => ?_)
        obtain ⟨hr22, hs22⟩ := hz22
        have hr22 := Eq.symm hr22
        have hs22 := Eq.symm hs22
        subst hr22
        subst hs22
        refine cl_X2_30 (As := [_]) rfl dX2_copyFrom_25 (c_X3_copyFrom hw1.1 hw1.2.1 hw1.2.2.1 hw1.2.2.2 hc1.1 hc1.2.1 hc1.2.2.1 hc1.2.2.2 (by omega) (by omega)) hw1.1 rfl ⟨by decide, by decide⟩ (Nat.le_of_ble_eq_true rfl) ⟨Nat.zero_le _, Nat.zero_le _⟩ (fun σ25 hz25 => ?_)
        refine j_iinc dX2_copyFrom_28 rfl (by decide) (by dsimp only [List.set] <;> rfl) ?_
        refine j_goto (tgt := 10) dX2_copyFrom_31 (by decide) ?_
        exact ih10 _ _ (by omega) (by omega) (by omega) (ho.tr (hz25.1.toR (by simp; omega))) ((hw.table (by omega) hz25.1 hz25.2.1 hz25.2.2).ext rfl (fun t ht j hj => by
          dsimp only
          by_cases q : t = i.toNat
          · rw [q, fup_s, fup_s, if_pos (by omega), if_pos (by omega)]
            exact ⟨rfl, rfl⟩
          · rw [fup_n q, fup_n q]
            by_cases q2 : (t : Int) < i
            · rw [if_pos q2, if_pos (by omega), if_pos q2, if_pos (by omega)]
              exact ⟨rfl, rfl⟩
            · rw [if_neg q2, if_neg (by omega), if_neg q2, if_neg (by omega)]
              exact ⟨rfl, rfl⟩))
  exact lp10 6 0 _ (by omega) (by omega) (by omega) (wup_offR (by omega)) (hs0.ext rfl (fun t ht j hj => ⟨by dsimp only; rw [if_neg (by omega)], by dsimp only; rw [if_neg (by omega)]⟩))
set_option maxRecDepth 100000 in
set_option maxHeartbeats 4000000 in
theorem c_X1_dropOldest {l : Launch} {D : gD} {σ : Wd} {h n : Nat} {f : Nat → Nat} {H : Nat → MS} (h1 : HA D σ h n f H) : KX1_dropOldest l D [.ref h] σ (fun σ' => OffR h (h + 74) σ σ' ∧ HA D σ' h 3 (fun j => if j = 3 then f 0 else f (j + 1)) (fun j => if j = 3 then H 0 else H (j + 1))) := by
  refine sp_of (by decide +kernel) (cat1 rfl) (Nat.le_of_ble_eq_true rfl) [some (.ref h), none, none] rfl (fun sz => ?_)
  refine j_aload_n dX1_dropOldest_0 rfl ?_
  refine gf_X1_12 rfl dX1_dropOldest_1 h1.1 rfl ?_
  refine j_iconst dX1_dropOldest_4 ?_
  refine jj_aaldO (t := 4) rfl dX1_dropOldest_5 h1.2.2.1 (by omega) (by omega) ⟨by omega, by omega⟩ ?_
  refine j_astore_n dX1_dropOldest_6 (by decide) (by dsimp only [List.set] <;> rfl) ?_
  refine j_iconst dX1_dropOldest_7 ?_
  refine j_istore_n dX1_dropOldest_8 (by decide) (by dsimp only [List.set] <;> rfl) ?_
  have lp9 : ∀ (nn : Nat) (i : Int) (w : Wd), 1 ≤ i → i ≤ 4 → 4 - i < nn → Off [h + 1] σ w → QA D 4 w (h + 1) 4 (fun j => if (j : Int) + 1 < i then f (j + 1) else f j) → J l D yX1_dropOldest cX1_dropOldest 3 none rmX1_dropOldest sz (AA σ sz) (QV D σ sz (fun σ' => OffR h (h + 74) σ σ' ∧ HA D σ' h 3 (fun j => if j = 3 then f 0 else f (j + 1)) (fun j => if j = 3 then H 0 else H (j + 1)))) 0 0 9 [some (.ref h), some (.ref (f 0)), some (vi i)] [] w := by
    intro nn
    induction nn with
    | zero =>
      intro i w hi0 hi1 hnn ho hw
      exact absurd (by assumption) (by omega)
    | succ nn ih9 =>
      intro i w hi0 hi1 hnn ho hw
      have hw0 := ho.get h1.1 (by simp)
      refine j_iload_n dX1_dropOldest_9 rfl ?_
      refine j_iconst dX1_dropOldest_10 ?_
      refine j_icmp_ge (tgt := 34) dX1_dropOldest_11 (by decide) ⟨by omega, by omega⟩ ⟨by omega, by omega⟩ (fun h11 => ?_) (fun h11 => ?_)
      · skip
        refine j_aload_n dX1_dropOldest_34 rfl ?_
        refine gf_X1_12 rfl dX1_dropOldest_35 hw0 rfl ?_
        refine j_iconst dX1_dropOldest_38 ?_
        refine j_aload_n dX1_dropOldest_39 rfl ?_
        refine jj_aastO (t := 4) (ci := 2) rfl rfl dX1_dropOldest_40 hw (ho.get (h1.2.2.2.2 0 (by omega)).1 (by have := h1.2.2.2.1.in (j := 0) (by omega); simp; omega)) (by omega) (by omega) ⟨by omega, by omega⟩ (fun e40 q40 => ?_)
        refine j_aload_n dX1_dropOldest_41 rfl ?_
        refine j_iconst dX1_dropOldest_42 ?_
        refine pf_X1_18 rfl dX1_dropOldest_43 (wup_of hw0 (by omega)) rfl rfl (Nat.le_of_ble_eq_true rfl) ?_
        dsimp only [List.set]
        exact j_vret dX1_dropOldest_46 ⟨rfl, by
          have hperm := h1.2.2.2.1
          have ho2 : OffR h (h + 74) σ (wup (wup w (h + 1) e40) h (.inr (1, [.ref (h + 1), vi 3]))) := (ho.toR (by simp <;> omega)).tr ((wup_offR (by omega)).tr (wup_offR (by omega)))
          have ho3 : OffR h (h + 2) σ (wup (wup w (h + 1) e40) h (.inr (1, [.ref (h + 1), vi 3]))) := (ho.toR (by simp)).tr ((wup_offR (by omega)).tr (wup_offR (by omega)))
          refine ⟨ho2, wup_s _ _ _, by omega, ?_, hperm.rot, fun j hj => ?_⟩
          · obtain ⟨F, a1, a2⟩ := q40.up (a := h) (e := .inr (1, [.ref (h + 1), vi 3])) (by omega)
            refine ⟨F, a1, fun j hj => ?_⟩
            rw [a2 j hj]
            congr 1
            unfold fup
            rw [show Int.toNat 3 = 3 from rfl]
            dsimp only
            by_cases q : j = 3
            · rw [if_pos q, if_pos q]
            · rw [if_neg q, if_neg q, if_pos (by omega)]
          · dsimp only
            split
            · exact (h1.2.2.2.2 0 (by omega)).moved ho3 (by have := hperm.in (j := 0) (by omega); omega)
            · exact (h1.2.2.2.2 (j + 1) (by omega)).moved ho3 (by have := hperm.in (j := j + 1) (by omega); omega)⟩
      · skip
        refine j_aload_n dX1_dropOldest_14 rfl ?_
        refine gf_X1_12 rfl dX1_dropOldest_15 hw0 rfl ?_
        refine j_iload_n dX1_dropOldest_18 rfl ?_
        refine j_iconst dX1_dropOldest_19 ?_
        refine j_isub dX1_dropOldest_20 ?_
        refine j_aload_n dX1_dropOldest_21 rfl ?_
        refine gf_X1_12 rfl dX1_dropOldest_22 hw0 rfl ?_
        refine j_iload_n dX1_dropOldest_25 rfl ?_
        refine jj_aaldO (t := 4) rfl dX1_dropOldest_26 hw (by omega) (by omega) ⟨by omega, by omega⟩ ?_
        refine j_weak (L := [some (.ref h), some (.ref (f 0)), some (vi i)]) ⟨rfl, rfl, rfl, trivial⟩ ?_
        refine jj_aastO (t := 4) (ci := 2) rfl rfl dX1_dropOldest_27 hw (by rw [if_neg (by omega)]; exact (ho.get (h1.2.2.2.2 i.toNat (by omega)).1 (by have := h1.2.2.2.1.in (j := i.toNat) (by omega); simp; omega))) (by omega) (by omega) ⟨by omega, by omega⟩ (fun e27 q27 => ?_)
        refine j_iinc dX1_dropOldest_28 rfl (by decide) (by dsimp only [List.set] <;> rfl) ?_
        refine j_goto (tgt := 9) dX1_dropOldest_31 (by decide) ?_
        exact ih9 _ _ (by omega) (by omega) (by omega) (ho.up (by simp)) (by
          obtain ⟨F, a1, a2⟩ := q27
          refine ⟨F, a1, fun j hj => ?_⟩
          rw [a2 j hj]
          congr 1
          unfold fup
          by_cases q : j = (i - 1).toNat
          · rw [if_pos q, if_neg (by omega)]
            dsimp only
            rw [if_pos (by omega)]
            congr 1
            omega
          · rw [if_neg q]
            dsimp only
            by_cases q2 : (j : Int) + 1 < i
            · rw [if_pos q2, if_pos (by omega)]
            · rw [if_neg q2, if_neg (by omega)])
  exact lp9 6 1 _ (by omega) (by omega) (by omega) Off.rf (by obtain ⟨F, a1, a2⟩ := h1.2.2.1; exact ⟨F, a1, fun j hj => by rw [a2 j hj]; dsimp only; rw [if_neg (by omega)]⟩)
set_option maxRecDepth 100000 in
set_option maxHeartbeats 4000000 in
theorem c_X1_record {l : Launch} {D : gD} {σ : Wd} {h n b : Nat} {f : Nat → Nat} {H : Nat → MS} {S : MS} (h1 : HA D σ h n f H) (h2 : SA D σ b S) (hb : b + 18 ≤ h ∨ h + 74 ≤ b) : KX1_record l D [.ref h, .ref b] σ (fun σ' => OffR h (h + 74) σ σ' ∧ ∃ f', HA D σ' h (recN n) f' (recH n H S)) := by
  have hn4 := h1.2.1
  refine sp_of (by decide +kernel) (cat1 rfl) (Nat.le_of_ble_eq_true rfl) [some (.ref h), some (.ref b)] rfl (fun sz => ?_)
  refine j_aload_n dX1_record_0 rfl ?_
  have lp12 : ∀ (w : Wd) (m : Nat) (f2 : Nat → Nat) (H2 : Nat → MS), m < 4 → OffR h (h + 74) σ w → HA D w h m f2 H2 → (m + 1 = recN n ∧ ∀ j, j < 4 → (if j = m then S else H2 j) = recH n H S j) → J l D yX1_record cX1_record 2 none rmX1_record sz (AA σ sz) (QV D σ sz (fun σ' => OffR h (h + 74) σ σ' ∧ ∃ f', HA D σ' h (recN n) f' (recH n H S))) 0 0 12 [some (.ref h), some (.ref b)] [] w := by
    intro w m f2 H2 hm ho hv hH
    have hs := h2.moved ho (by omega)
    refine j_aload_n dX1_record_12 rfl ?_
    refine gf_X1_18 rfl dX1_record_13 hv.1 rfl ?_
    refine j_if_lt (tgt := 50) dX1_record_16 (by decide) ⟨by omega, by omega⟩ (fun h16 => ?_) (fun h16 => ?_)
    · skip
      exact absurd h16 (by omega)
    · skip
      refine j_aload_n dX1_record_19 rfl ?_
      refine gf_X1_18 rfl dX1_record_20 hv.1 rfl ?_
      refine j_iconst dX1_record_23 ?_
      refine j_icmp_ge (tgt := 50) dX1_record_24 (by decide) ⟨by omega, by omega⟩ ⟨by omega, by omega⟩ (fun h24 => ?_) (fun h24 => ?_)
      · skip
        exact absurd h24 (by omega)
      · skip
        refine j_aload_n dX1_record_27 rfl ?_
        refine gf_X1_12 rfl dX1_record_28 hv.1 rfl ?_
        refine j_aload_n dX1_record_31 rfl ?_
        refine gf_X1_18 rfl dX1_record_32 hv.1 rfl ?_
        refine jj_aaldO (t := 4) rfl dX1_record_35 hv.2.2.1 (by omega) (by omega) ⟨by omega, by omega⟩ ?_
        rw [show ((m : Int)).toNat = m from rfl]
        have hin := hv.2.2.2.1.in (j := m) (by omega)
        refine j_aload_n dX1_record_36 rfl ?_
        refine cl_X1_25 (As := [_]) rfl dX1_record_37 (c_X2_copyFrom (hv.2.2.2.2 m (by omega)) hs (by omega)) (hv.2.2.2.2 m (by omega)).1 rfl ⟨by decide, by decide⟩ (Nat.le_of_ble_eq_true rfl) ⟨Nat.zero_le _, Nat.zero_le _⟩ (fun σ37 hz37 => ?_)
        refine j_aload_n dX1_record_40 rfl ?_
        refine j_dup dX1_record_41 rfl ?_
        refine gf_X1_18 rfl dX1_record_42 (hz37.1.get hv.1 (by omega)) rfl ?_
        refine j_iconst dX1_record_45 ?_
        refine j_iadd dX1_record_46 ?_
        refine pf_X1_18 rfl dX1_record_47 (hz37.1.get hv.1 (by omega)) rfl rfl (Nat.le_of_ble_eq_true rfl) ?_
        dsimp only [List.set]
        exact j_vret dX1_record_50 ⟨rfl, by
          have hperm := hv.2.2.2.1
          have ho2 : OffR (f2 m) (f2 m + 18) w σ37 := hz37.1
          refine ⟨ho.tr ((ho2.mono (by omega) (by omega)).tr (wup_offR (by omega))), f2, ?_, ?_, ?_, hperm, fun j hj => ?_⟩
          · rw [wup_s, ← hH.1]
            rfl
          · omega
          · exact (ho2.qa hv.2.2.1 (by omega)).up (by omega)
          · have hw3 : OffR h (h + 1) σ37 (wup σ37 h (.inr (1, [.ref (h + 1), vi ((m : Int) + 1)]))) := wup_offR (by omega)
            rw [← hH.2 j hj]
            have hj2 := hperm.in hj
            by_cases q : j = m
            · rw [if_pos q, q]
              exact hz37.2.moved hw3 (by omega)
            · rw [if_neg q]
              exact ((hv.2.2.2.2 j hj).moved ho2 (by have := hperm.ap hj hm q; omega)).moved hw3 (by omega)⟩
  refine gf_X1_18 rfl dX1_record_1 h1.1 rfl ?_
  refine j_iconst dX1_record_4 ?_
  refine j_icmp_lt (tgt := 12) dX1_record_5 (by decide) ⟨by omega, by omega⟩ ⟨by omega, by omega⟩ (fun h5 => ?_) (fun h5 => ?_)
  · skip
    first | exact lp12 _ n f H (by omega) OffR.rf h1 (rec_lt (by omega)) | exact lp12 _ 3 _ _ (by omega) hz9.1 hz9.2 (rec_ge (by have := h1.2.1; omega))
  · skip
    refine j_aload_n dX1_record_8 rfl ?_
    refine cl_X1_22 (As := []) rfl dX1_record_9 (c_X1_dropOldest h1) h1.1 rfl ⟨by decide, by decide⟩ (Nat.le_of_ble_eq_true rfl) ⟨Nat.zero_le _, Nat.zero_le _⟩ (fun σ9 hz9 => ?_)
    first | exact lp12 _ n f H (by omega) OffR.rf h1 (rec_lt (by omega)) | exact lp12 _ 3 _ _ (by omega) hz9.1 hz9.2 (rec_ge (by have := h1.2.1; omega))
set_option maxRecDepth 100000 in
set_option maxHeartbeats 4000000 in
theorem c_X1_takeLatest {l : Launch} {D : gD} {σ : Wd} {h n b : Nat} {f : Nat → Nat} {H : Nat → MS} {S : MS} (h1 : HA D σ h n f H) (h2 : SA D σ b S) (hb : b + 18 ≤ h ∨ h + 74 ≤ b) : KX1_takeLatest l D [.ref h, .ref b] σ (fun r σ' => (n = 0 ∧ r = 0 ∧ σ' = σ) ∨ (0 < n ∧ r = 1 ∧ (∀ q, (q < b ∨ b + 18 ≤ q) → (q < h ∨ h + 74 ≤ q) → σ' q = σ q) ∧ HA D σ' h (n - 1) f H ∧ SA D σ' b (H (n - 1)))) := by
  have hn4 := h1.2.1
  have hin := h1.2.2.2.1.in (j := n - 1)
  refine sp_of (by decide +kernel) (cat1 rfl) (Nat.le_of_ble_eq_true rfl) [some (.ref h), some (.ref b)] rfl (fun sz => ?_)
  refine j_aload_n dX1_takeLatest_0 rfl ?_
  refine gf_X1_18 rfl dX1_takeLatest_1 h1.1 rfl ?_
  refine j_iconst dX1_takeLatest_4 ?_
  refine j_icmp_lt (tgt := 16) dX1_takeLatest_5 (by decide) ⟨by omega, by omega⟩ ⟨by omega, by omega⟩ (fun h5 => ?_) (fun h5 => ?_)
  · skip
    refine j_iconst dX1_takeLatest_16 ?_
    exact j_zret dX1_takeLatest_17 (by omega) ⟨_, rfl, Or.inl ⟨by omega, rfl, rfl⟩⟩
  · skip
    refine j_aload_n dX1_takeLatest_8 rfl ?_
    refine gf_X1_18 rfl dX1_takeLatest_9 h1.1 rfl ?_
    refine j_iconst dX1_takeLatest_12 ?_
    refine j_icmp_le (tgt := 18) dX1_takeLatest_13 (by decide) ⟨by omega, by omega⟩ ⟨by omega, by omega⟩ (fun h13 => ?_) (fun h13 => ?_)
    · skip
      refine j_aload_n dX1_takeLatest_18 rfl ?_
      refine j_dup dX1_takeLatest_19 rfl ?_
      refine gf_X1_18 rfl dX1_takeLatest_20 h1.1 rfl ?_
      refine j_iconst dX1_takeLatest_23 ?_
      refine j_isub dX1_takeLatest_24 ?_
      refine pf_X1_18 rfl dX1_takeLatest_25 h1.1 rfl rfl (Nat.le_of_ble_eq_true rfl) ?_
      dsimp only [List.set]
      refine j_eqw (σ' := wup σ h (.inr (1, [.ref (h + 1), vi ((n - 1 : Nat) : Int)]))) (by congr 6; omega) ?_
      have hz := wup_offR (lo := h) (hi := h + 1) (σ := σ) (a := h) (e := .inr (1, [.ref (h + 1), vi ((n - 1 : Nat) : Int)])) (by omega)
      have hv : HA D (wup σ h (.inr (1, [.ref (h + 1), vi ((n - 1 : Nat) : Int)]))) h (n - 1) f H := ⟨wup_s _ _ _, by omega, h1.2.2.1.up (by omega), h1.2.2.2.1, fun j hj => (h1.2.2.2.2 j hj).moved hz (by have := h1.2.2.2.1.in hj; omega)⟩
      refine j_aload_n dX1_takeLatest_28 rfl ?_
      refine j_aload_n dX1_takeLatest_29 rfl ?_
      refine gf_X1_12 rfl dX1_takeLatest_30 hv.1 rfl ?_
      refine j_aload_n dX1_takeLatest_33 rfl ?_
      refine gf_X1_18 rfl dX1_takeLatest_34 hv.1 rfl ?_
      refine jj_aaldO (t := 4) rfl dX1_takeLatest_37 hv.2.2.1 (by omega) (by omega) ⟨by omega, by omega⟩ ?_
      rw [show (((n - 1 : Nat) : Int)).toNat = n - 1 from rfl]
      refine cl_X1_25 (As := [_]) rfl dX1_takeLatest_38 (c_X2_copyFrom (h2.moved hz (by omega)) (hv.2.2.2.2 (n - 1) (by omega)) (by omega)) (h2.moved hz (by omega)).1 rfl ⟨by decide, by decide⟩ (Nat.le_of_ble_eq_true rfl) ⟨Nat.zero_le _, Nat.zero_le _⟩ (fun σ38 hz38 => ?_)
      refine j_iconst dX1_takeLatest_41 ?_
      exact j_zret dX1_takeLatest_42 (by omega) ⟨_, rfl, Or.inr ⟨by omega, rfl, fun q q1 q2 => (hz38.1 q q1).trans (hz q (by omega)), hv.moved hz38.1 (by omega), hz38.2⟩⟩
    · skip
      exact absurd h13 (by omega)

/-! ===== the reference: its picture, small methods ===== -/
abbrev mF (m n : Nat) (hs : Int) (tn pl : Nat) (de : Int) : List Value := [.ref (m + 1), .ref (m + 2), .ref (m + 3), vi n, vi hs, .ref (m + 4), vi tn, vi pl, .ref (m + 5), .ref (m + 6), .ref (m + 7), .ref (m + 8), .ref (m + 9), vi de]
def RM (D : gD) (w : Wd) (m n : Nat) (hs : Int) (tn pl : Nat) (de : Int) (R P A ch rv W mk ls sp : Nat → Int) : Prop :=
  w m = some (.inr (7, mF m n hs tn pl de)) ∧ IA D w (m + 1) 341 R ∧ IA D w (m + 2) 1364 P ∧ IA D w (m + 3) 341 A ∧ CA D w (m + 4) 60 ch ∧ IA D w (m + 5) 16 rv ∧ IA D w (m + 6) 72 W ∧ IA D w (m + 7) 64 mk ∧ IA D w (m + 8) 21 ls ∧ ZA D w (m + 9) 21 sp
def RQ (D : gD) (σ w : Wd) (m n : Nat) (hs : Int) (tn pl : Nat) (de : Int) (R P A ch rv W mk ls sp : Nat → Int) : Prop := OffR m (m + 10) σ w ∧ RM D w m n hs tn pl de R P A ch rv W mk ls sp
theorem OffR.ca {D : gD} {lo hi : Nat} {σ w : Wd} {a N : Nat} {f : Nat → Int} (h : OffR lo hi σ w) (ha : CA D σ a N f) (hn : a < lo ∨ hi ≤ a) : CA D w a N f := by
  obtain ⟨F, q1, q2⟩ := ha
  exact ⟨F, h.get q1 hn, q2⟩
theorem OffR.za {D : gD} {lo hi : Nat} {σ w : Wd} {a N : Nat} {f : Nat → Int} (h : OffR lo hi σ w) (ha : ZA D σ a N f) (hn : a < lo ∨ hi ≤ a) : ZA D w a N f := by
  obtain ⟨F, q1, q2⟩ := ha
  exact ⟨F, h.get q1 hn, q2⟩
theorem RM.rq {D : gD} {σ : Wd} {m n : Nat} {hs : Int} {tn pl : Nat} {de : Int} {R P A ch rv W mk ls sp : Nat → Int} (h : RM D σ m n hs tn pl de R P A ch rv W mk ls sp) : RQ D σ σ m n hs tn pl de R P A ch rv W mk ls sp := ⟨OffR.rf, h⟩
theorem RQ.tr {D : gD} {σ w : Wd} {m n : Nat} {hs : Int} {tn pl : Nat} {de : Int} {R P A ch rv W mk ls sp : Nat → Int} {u : Wd} {n2 : Nat} {hs2 : Int} {tn2 pl2 : Nat} {de2 : Int} {R2 P2 A2 ch2 rv2 W2 mk2 ls2 sp2 : Nat → Int} (h : RQ D σ w m n hs tn pl de R P A ch rv W mk ls sp) (q : RQ D w u m n2 hs2 tn2 pl2 de2 R2 P2 A2 ch2 rv2 W2 mk2 ls2 sp2) : RQ D σ u m n2 hs2 tn2 pl2 de2 R2 P2 A2 ch2 rv2 W2 mk2 ls2 sp2 := ⟨h.1.tr q.1, q.2⟩
theorem RQ.own {D : gD} {σ w : Wd} {m n : Nat} {hs : Int} {tn pl : Nat} {de : Int} {R P A ch rv W mk ls sp : Nat → Int} {n2 : Nat} {hs2 : Int} {tn2 pl2 : Nat} {de2 : Int} (h : RQ D σ w m n hs tn pl de R P A ch rv W mk ls sp) : RQ D σ (wup w m (.inr (7, mF m n2 hs2 tn2 pl2 de2))) m n2 hs2 tn2 pl2 de2 R P A ch rv W mk ls sp := by
  obtain ⟨h0, h1, h2, h3, h4, h5, h6, h7, h8, h9, h10⟩ := h
  exact ⟨h0.tr (wup_offR (by omega)), wup_s _ _ _, h2.up (by omega), h3.up (by omega), h4.up (by omega), h5.up (by omega), h6.up (by omega), h7.up (by omega), h8.up (by omega), h9.up (by omega), h10.up (by omega)⟩
theorem RQ.row {D : gD} {σ w : Wd} {m n : Nat} {hs : Int} {tn pl : Nat} {de : Int} {R P A ch rv W mk ls sp : Nat → Int} {e : va_E} {Z : Nat → Int} (h : RQ D σ w m n hs tn pl de R P A ch rv W mk ls sp) (q : IA D (wup w (m + 1) e) (m + 1) 341 Z) : RQ D σ (wup w (m + 1) e) m n hs tn pl de Z P A ch rv W mk ls sp := by
  obtain ⟨h0, h1, h2, h3, h4, h5, h6, h7, h8, h9, h10⟩ := h
  exact ⟨h0.tr (wup_offR (by omega)), wup_of h1 (by omega), q, h3.up (by omega), h4.up (by omega), h5.up (by omega), h6.up (by omega), h7.up (by omega), h8.up (by omega), h9.up (by omega), h10.up (by omega)⟩
theorem RQ.rowE {D : gD} {σ w : Wd} {m n : Nat} {hs : Int} {tn pl : Nat} {de : Int} {R P A ch rv W mk ls sp : Nat → Int} {Z : Nat → Int} (h : RQ D σ w m n hs tn pl de R P A ch rv W mk ls sp) (e : ∀ j, j < 341 → R j = Z j) : RQ D σ w m n hs tn pl de Z P A ch rv W mk ls sp := by
  obtain ⟨h0, h1, h2, h3, h4, h5, h6, h7, h8, h9, h10⟩ := h
  exact ⟨h0, h1, h2.ext e, h3, h4, h5, h6, h7, h8, h9, h10⟩
theorem RQ.past {D : gD} {σ w : Wd} {m n : Nat} {hs : Int} {tn pl : Nat} {de : Int} {R P A ch rv W mk ls sp : Nat → Int} {e : va_E} {Z : Nat → Int} (h : RQ D σ w m n hs tn pl de R P A ch rv W mk ls sp) (q : IA D (wup w (m + 2) e) (m + 2) 1364 Z) : RQ D σ (wup w (m + 2) e) m n hs tn pl de R Z A ch rv W mk ls sp := by
  obtain ⟨h0, h1, h2, h3, h4, h5, h6, h7, h8, h9, h10⟩ := h
  exact ⟨h0.tr (wup_offR (by omega)), wup_of h1 (by omega), h2.up (by omega), q, h4.up (by omega), h5.up (by omega), h6.up (by omega), h7.up (by omega), h8.up (by omega), h9.up (by omega), h10.up (by omega)⟩
theorem RQ.pastE {D : gD} {σ w : Wd} {m n : Nat} {hs : Int} {tn pl : Nat} {de : Int} {R P A ch rv W mk ls sp : Nat → Int} {Z : Nat → Int} (h : RQ D σ w m n hs tn pl de R P A ch rv W mk ls sp) (e : ∀ j, j < 1364 → P j = Z j) : RQ D σ w m n hs tn pl de R Z A ch rv W mk ls sp := by
  obtain ⟨h0, h1, h2, h3, h4, h5, h6, h7, h8, h9, h10⟩ := h
  exact ⟨h0, h1, h2, h3.ext e, h4, h5, h6, h7, h8, h9, h10⟩
theorem RQ.aside {D : gD} {σ w : Wd} {m n : Nat} {hs : Int} {tn pl : Nat} {de : Int} {R P A ch rv W mk ls sp : Nat → Int} {e : va_E} {Z : Nat → Int} (h : RQ D σ w m n hs tn pl de R P A ch rv W mk ls sp) (q : IA D (wup w (m + 3) e) (m + 3) 341 Z) : RQ D σ (wup w (m + 3) e) m n hs tn pl de R P Z ch rv W mk ls sp := by
  obtain ⟨h0, h1, h2, h3, h4, h5, h6, h7, h8, h9, h10⟩ := h
  exact ⟨h0.tr (wup_offR (by omega)), wup_of h1 (by omega), h2.up (by omega), h3.up (by omega), q, h5.up (by omega), h6.up (by omega), h7.up (by omega), h8.up (by omega), h9.up (by omega), h10.up (by omega)⟩
theorem RQ.asideE {D : gD} {σ w : Wd} {m n : Nat} {hs : Int} {tn pl : Nat} {de : Int} {R P A ch rv W mk ls sp : Nat → Int} {Z : Nat → Int} (h : RQ D σ w m n hs tn pl de R P A ch rv W mk ls sp) (e : ∀ j, j < 341 → A j = Z j) : RQ D σ w m n hs tn pl de R P Z ch rv W mk ls sp := by
  obtain ⟨h0, h1, h2, h3, h4, h5, h6, h7, h8, h9, h10⟩ := h
  exact ⟨h0, h1, h2, h3, h4.ext e, h5, h6, h7, h8, h9, h10⟩
theorem RQ.text {D : gD} {σ w : Wd} {m n : Nat} {hs : Int} {tn pl : Nat} {de : Int} {R P A ch rv W mk ls sp : Nat → Int} {e : va_E} {Z : Nat → Int} (h : RQ D σ w m n hs tn pl de R P A ch rv W mk ls sp) (q : CA D (wup w (m + 4) e) (m + 4) 60 Z) : RQ D σ (wup w (m + 4) e) m n hs tn pl de R P A Z rv W mk ls sp := by
  obtain ⟨h0, h1, h2, h3, h4, h5, h6, h7, h8, h9, h10⟩ := h
  exact ⟨h0.tr (wup_offR (by omega)), wup_of h1 (by omega), h2.up (by omega), h3.up (by omega), h4.up (by omega), q, h6.up (by omega), h7.up (by omega), h8.up (by omega), h9.up (by omega), h10.up (by omega)⟩
theorem RQ.textE {D : gD} {σ w : Wd} {m n : Nat} {hs : Int} {tn pl : Nat} {de : Int} {R P A ch rv W mk ls sp : Nat → Int} {Z : Nat → Int} (h : RQ D σ w m n hs tn pl de R P A ch rv W mk ls sp) (e : ∀ j, j < 60 → ch j = Z j) : RQ D σ w m n hs tn pl de R P A Z rv W mk ls sp := by
  obtain ⟨h0, h1, h2, h3, h4, h5, h6, h7, h8, h9, h10⟩ := h
  exact ⟨h0, h1, h2, h3, h4, h5.ext e, h6, h7, h8, h9, h10⟩
theorem RQ.read {D : gD} {σ w : Wd} {m n : Nat} {hs : Int} {tn pl : Nat} {de : Int} {R P A ch rv W mk ls sp : Nat → Int} {e : va_E} {Z : Nat → Int} (h : RQ D σ w m n hs tn pl de R P A ch rv W mk ls sp) (q : IA D (wup w (m + 5) e) (m + 5) 16 Z) : RQ D σ (wup w (m + 5) e) m n hs tn pl de R P A ch Z W mk ls sp := by
  obtain ⟨h0, h1, h2, h3, h4, h5, h6, h7, h8, h9, h10⟩ := h
  exact ⟨h0.tr (wup_offR (by omega)), wup_of h1 (by omega), h2.up (by omega), h3.up (by omega), h4.up (by omega), h5.up (by omega), q, h7.up (by omega), h8.up (by omega), h9.up (by omega), h10.up (by omega)⟩
theorem RQ.readE {D : gD} {σ w : Wd} {m n : Nat} {hs : Int} {tn pl : Nat} {de : Int} {R P A ch rv W mk ls sp : Nat → Int} {Z : Nat → Int} (h : RQ D σ w m n hs tn pl de R P A ch rv W mk ls sp) (e : ∀ j, j < 16 → rv j = Z j) : RQ D σ w m n hs tn pl de R P A ch Z W mk ls sp := by
  obtain ⟨h0, h1, h2, h3, h4, h5, h6, h7, h8, h9, h10⟩ := h
  exact ⟨h0, h1, h2, h3, h4, h5, h6.ext e, h7, h8, h9, h10⟩
theorem RQ.work {D : gD} {σ w : Wd} {m n : Nat} {hs : Int} {tn pl : Nat} {de : Int} {R P A ch rv W mk ls sp : Nat → Int} {e : va_E} {Z : Nat → Int} (h : RQ D σ w m n hs tn pl de R P A ch rv W mk ls sp) (q : IA D (wup w (m + 6) e) (m + 6) 72 Z) : RQ D σ (wup w (m + 6) e) m n hs tn pl de R P A ch rv Z mk ls sp := by
  obtain ⟨h0, h1, h2, h3, h4, h5, h6, h7, h8, h9, h10⟩ := h
  exact ⟨h0.tr (wup_offR (by omega)), wup_of h1 (by omega), h2.up (by omega), h3.up (by omega), h4.up (by omega), h5.up (by omega), h6.up (by omega), q, h8.up (by omega), h9.up (by omega), h10.up (by omega)⟩
theorem RQ.workE {D : gD} {σ w : Wd} {m n : Nat} {hs : Int} {tn pl : Nat} {de : Int} {R P A ch rv W mk ls sp : Nat → Int} {Z : Nat → Int} (h : RQ D σ w m n hs tn pl de R P A ch rv W mk ls sp) (e : ∀ j, j < 72 → W j = Z j) : RQ D σ w m n hs tn pl de R P A ch rv Z mk ls sp := by
  obtain ⟨h0, h1, h2, h3, h4, h5, h6, h7, h8, h9, h10⟩ := h
  exact ⟨h0, h1, h2, h3, h4, h5, h6, h7.ext e, h8, h9, h10⟩
theorem RQ.made {D : gD} {σ w : Wd} {m n : Nat} {hs : Int} {tn pl : Nat} {de : Int} {R P A ch rv W mk ls sp : Nat → Int} {e : va_E} {Z : Nat → Int} (h : RQ D σ w m n hs tn pl de R P A ch rv W mk ls sp) (q : IA D (wup w (m + 7) e) (m + 7) 64 Z) : RQ D σ (wup w (m + 7) e) m n hs tn pl de R P A ch rv W Z ls sp := by
  obtain ⟨h0, h1, h2, h3, h4, h5, h6, h7, h8, h9, h10⟩ := h
  exact ⟨h0.tr (wup_offR (by omega)), wup_of h1 (by omega), h2.up (by omega), h3.up (by omega), h4.up (by omega), h5.up (by omega), h6.up (by omega), h7.up (by omega), q, h9.up (by omega), h10.up (by omega)⟩
theorem RQ.madeE {D : gD} {σ w : Wd} {m n : Nat} {hs : Int} {tn pl : Nat} {de : Int} {R P A ch rv W mk ls sp : Nat → Int} {Z : Nat → Int} (h : RQ D σ w m n hs tn pl de R P A ch rv W mk ls sp) (e : ∀ j, j < 64 → mk j = Z j) : RQ D σ w m n hs tn pl de R P A ch rv W Z ls sp := by
  obtain ⟨h0, h1, h2, h3, h4, h5, h6, h7, h8, h9, h10⟩ := h
  exact ⟨h0, h1, h2, h3, h4, h5, h6, h7, h8.ext e, h9, h10⟩
theorem RQ.least {D : gD} {σ w : Wd} {m n : Nat} {hs : Int} {tn pl : Nat} {de : Int} {R P A ch rv W mk ls sp : Nat → Int} {e : va_E} {Z : Nat → Int} (h : RQ D σ w m n hs tn pl de R P A ch rv W mk ls sp) (q : IA D (wup w (m + 8) e) (m + 8) 21 Z) : RQ D σ (wup w (m + 8) e) m n hs tn pl de R P A ch rv W mk Z sp := by
  obtain ⟨h0, h1, h2, h3, h4, h5, h6, h7, h8, h9, h10⟩ := h
  exact ⟨h0.tr (wup_offR (by omega)), wup_of h1 (by omega), h2.up (by omega), h3.up (by omega), h4.up (by omega), h5.up (by omega), h6.up (by omega), h7.up (by omega), h8.up (by omega), q, h10.up (by omega)⟩
theorem RQ.leastE {D : gD} {σ w : Wd} {m n : Nat} {hs : Int} {tn pl : Nat} {de : Int} {R P A ch rv W mk ls sp : Nat → Int} {Z : Nat → Int} (h : RQ D σ w m n hs tn pl de R P A ch rv W mk ls sp) (e : ∀ j, j < 21 → ls j = Z j) : RQ D σ w m n hs tn pl de R P A ch rv W mk Z sp := by
  obtain ⟨h0, h1, h2, h3, h4, h5, h6, h7, h8, h9, h10⟩ := h
  exact ⟨h0, h1, h2, h3, h4, h5, h6, h7, h8, h9.ext e, h10⟩
theorem RQ.cut {D : gD} {σ w : Wd} {m n : Nat} {hs : Int} {tn pl : Nat} {de : Int} {R P A ch rv W mk ls sp : Nat → Int} {e : va_E} {Z : Nat → Int} (h : RQ D σ w m n hs tn pl de R P A ch rv W mk ls sp) (q : ZA D (wup w (m + 9) e) (m + 9) 21 Z) : RQ D σ (wup w (m + 9) e) m n hs tn pl de R P A ch rv W mk ls Z := by
  obtain ⟨h0, h1, h2, h3, h4, h5, h6, h7, h8, h9, h10⟩ := h
  exact ⟨h0.tr (wup_offR (by omega)), wup_of h1 (by omega), h2.up (by omega), h3.up (by omega), h4.up (by omega), h5.up (by omega), h6.up (by omega), h7.up (by omega), h8.up (by omega), h9.up (by omega), q⟩
theorem RQ.cutE {D : gD} {σ w : Wd} {m n : Nat} {hs : Int} {tn pl : Nat} {de : Int} {R P A ch rv W mk ls sp : Nat → Int} {Z : Nat → Int} (h : RQ D σ w m n hs tn pl de R P A ch rv W mk ls sp) (e : ∀ j, j < 21 → sp j = Z j) : RQ D σ w m n hs tn pl de R P A ch rv W mk ls Z := by
  obtain ⟨h0, h1, h2, h3, h4, h5, h6, h7, h8, h9, h10⟩ := h
  exact ⟨h0, h1, h2, h3, h4, h5, h6, h7, h8, h9, h10.ext e⟩
/-- sizes out of flags -/
def szF (fl : Nat → Int) (w : Nat) : Nat := if fl 0 ≠ 1 then 8 else if fl (1 + w / 16) ≠ 1 then 4 else if fl (5 + w / 4) = 1 then 1 else 2
def TR (fl g : Nat → Int) : Prop := (∀ d, d < 21 → fl d = 0 ∨ fl d = 1) ∧ (∀ d, 1 ≤ d → d < 21 → fl d = 1 → fl ((d - 1) / 4) = 1) ∧ ∀ w, w < 64 → g w = if w % (szF fl w * szF fl w) = 0 then ((szF fl w : Nat) : Int) else 0
def RO (R : Nat → Int) (S : MS) : Prop := R 0 = S.1 ∧ (∀ t, t < 4 → ∀ k, k < 64 → R (1 + 64 * t + k) = S.2.1 t k) ∧ ∀ t, t < 4 → TR (fun d => R (257 + 21 * t + d)) (S.2.2 t)
theorem nt0 {c : Prop} [Decidable c] (h : (if c then (0 : Int) else 1) = 0) : c := Classical.byContradiction fun q => by rw [if_neg q] at h; omega
theorem nt1 {c : Prop} [Decidable c] (h : ¬ (if c then (0 : Int) else 1) = 0) : ¬ c := fun q => h (if_pos q)
theorem R_ite0 {c : Prop} [Decidable c] : R32 (if c then (0 : Int) else 1) := by split <;> exact rs (by omega) (by omega)
theorem Z_ite {c : Prop} [Decidable c] : (if c then (1 : Int) else 0) = 0 ∨ (if c then (1 : Int) else 0) = 1 := by split <;> omega
theorem tmod_fix2 {v p : Int} (hp : 0 < p) : (v.tmod p < 0 → v.tmod p + p = v % p) ∧ (¬ v.tmod p < 0 → v.tmod p = v % p) := by
  have h := tmod_fix (v := v) hp
  constructor
  · intro q
    rw [if_pos q] at h
    exact h
  · intro q
    rw [if_neg q] at h
    exact h
theorem quo_uniq {p a b q : Int} (hp : primeB p = true) (hb0 : 0 < b) (hb1 : b < p) (hq0 : 0 ≤ q) (hq1 : q < p) (h : (q * b) % p = a) : q = (a * inv p b) % p := by
  have hi := inv_mul hp hb0 hb1
  have h1 : (a * inv p b) % p = (q * (b * inv p b)) % p := by
    rw [← h, Int.mul_emod, Int.emod_emod_of_dvd _ (Int.dvd_refl p), ← Int.mul_emod, Int.mul_assoc]
  rw [h1, Int.mul_emod, hi, Int.mul_one, Int.emod_emod_of_dvd _ (Int.dvd_refl p)]
  exact (emod_id hq0 hq1).symm
theorem quo_ok {p a b : Int} (hp : primeB p = true) (hb0 : 0 < b) (hb1 : b < p) (ha0 : 0 ≤ a) (ha1 : a < p) : (((a * inv p b) % p) * b) % p = a := by
  have hi := inv_mul hp hb0 hb1
  have h1 : (((a * inv p b) % p) * b) % p = (a * (b * inv p b)) % p := by
    rw [Int.mul_emod, Int.emod_emod_of_dvd _ (Int.dvd_refl p), ← Int.mul_emod, Int.mul_assoc, Int.mul_comm (inv p b) b]
  rw [h1, Int.mul_emod, hi, Int.mul_one, Int.emod_emod_of_dvd _ (Int.dvd_refl p)]
  exact emod_id ha0 ha1
def recP (n : Nat) (P R : Nat → Int) : Nat → Int := fun k => if n = 4 then (if k < 1023 then P (341 + k) else R (k - 1023)) else if 341 * n ≤ k ∧ k < 341 * n + 341 then R (k - 341 * n) else P k
theorem bit_row7 : ∀ s : Nat, s < 64 → (iI 4 * ((iI s >>> (iI 5 &&& 31)) &&& iI 1)) + (iI 2 * ((iI s >>> (iI 3 &&& 31)) &&& iI 1)) + ((iI s >>> (iI 1 &&& 31)) &&& iI 1) = iI (rowN s) := by decide +kernel
theorem bit_col7 : ∀ s : Nat, s < 64 → (iI 4 * ((iI s >>> (iI 4 &&& 31)) &&& iI 1)) + (iI 2 * ((iI s >>> (iI 2 &&& 31)) &&& iI 1)) + (iI s &&& iI 1) = iI (colN s) := by decide +kernel

set_option maxRecDepth 100000 in
set_option maxHeartbeats 4000000 in
theorem c_X7_in {l : Launch} {D : gD} {σ : Wd} {v a b : Int} (hv : R32 v) (ha : R32 a) (hb : R32 b) : KX7_in l D [vi v, vi a, vi b] σ (fun x σ' => x = (if a ≤ v ∧ v ≤ b then 1 else 0) ∧ σ' = σ) := by
  refine sp_of (by decide +kernel) (cat1 rfl) (Nat.le_of_ble_eq_true rfl) [some (vi v), some (vi a), some (vi b)] rfl (fun sz => ?_)
  refine j_iload_n dX7_in_0 rfl ?_
  refine j_iload_n dX7_in_1 rfl ?_
  refine j_icmp_lt (tgt := 14) dX7_in_2 (by decide) hv ha (fun h2 => ?_) (fun h2 => ?_)
  · skip
    refine j_iconst dX7_in_14 ?_
    exact j_zret dX7_in_15 (by omega) ⟨_, rfl, (by first | rw [if_pos (by omega)] | rw [if_neg (by omega)]), rfl⟩
  · skip
    refine j_iload_n dX7_in_5 rfl ?_
    refine j_iload_n dX7_in_6 rfl ?_
    refine j_icmp_gt (tgt := 14) dX7_in_7 (by decide) hv hb (fun h7 => ?_) (fun h7 => ?_)
    · skip
      refine j_iconst dX7_in_14 ?_
      exact j_zret dX7_in_15 (by omega) ⟨_, rfl, (by first | rw [if_pos (by omega)] | rw [if_neg (by omega)]), rfl⟩
    · skip
      refine j_iconst dX7_in_10 ?_
      refine j_goto (tgt := 15) dX7_in_11 (by decide) ?_
      exact j_zret dX7_in_15 (by omega) ⟨_, rfl, (by first | rw [if_pos (by omega)] | rw [if_neg (by omega)]), rfl⟩
set_option maxRecDepth 100000 in
set_option maxHeartbeats 4000000 in
theorem c_X7_noTable {l : Launch} {D : gD} {σ : Wd} {v : Int} (hv : R32 v) : KX7_noTable l D [vi v] σ (fun x σ' => x = (if 0 ≤ v ∧ v < 4 then 0 else 1) ∧ σ' = σ) := by
  refine sp_of (by decide +kernel) (cat1 rfl) (Nat.le_of_ble_eq_true rfl) [some (vi v)] rfl (fun sz => ?_)
  refine j_iload_n dX7_noTable_0 rfl ?_
  refine j_iconst dX7_noTable_1 ?_
  refine j_iconst dX7_noTable_2 ?_
  refine cl_X7_50 (As := [_, _, _]) rfl dX7_noTable_3 (c_X7_in hv (rs (by omega) (by omega)) (rs (by omega) (by omega))) rfl ⟨by decide, by decide⟩ (Nat.le_of_ble_eq_true rfl) ⟨Nat.zero_le _, Nat.zero_le _⟩ (fun z3 σ3 hz3 => ?_)
  obtain ⟨hr3, hs3⟩ := hz3
  have hr3 := Eq.symm hr3
  have hs3 := Eq.symm hs3
  subst hr3
  subst hs3
  refine j_if_ne (tgt := 13) dX7_noTable_6 (by decide) R_ite (fun q6 => ?_) (fun q6 => ?_)
  · skip
    have a6 := nz1 q6
    refine j_iconst dX7_noTable_13 ?_
    exact j_zret dX7_noTable_14 (by omega) ⟨_, rfl, (by first | rw [if_pos (by omega)] | rw [if_neg (by omega)]), rfl⟩
  · skip
    have a6 := ne1 q6
    refine j_iconst dX7_noTable_9 ?_
    refine j_goto (tgt := 14) dX7_noTable_10 (by decide) ?_
    exact j_zret dX7_noTable_14 (by omega) ⟨_, rfl, (by first | rw [if_pos (by omega)] | rw [if_neg (by omega)]), rfl⟩
set_option maxRecDepth 100000 in
set_option maxHeartbeats 4000000 in
theorem c_X7_noPlace {l : Launch} {D : gD} {σ : Wd} {v : Int} (hv : R32 v) : KX7_noPlace l D [vi v] σ (fun x σ' => x = (if 0 ≤ v ∧ v < 8 then 0 else 1) ∧ σ' = σ) := by
  refine sp_of (by decide +kernel) (cat1 rfl) (Nat.le_of_ble_eq_true rfl) [some (vi v)] rfl (fun sz => ?_)
  refine j_iload_n dX7_noPlace_0 rfl ?_
  refine j_iconst dX7_noPlace_1 ?_
  refine j_bipush dX7_noPlace_2 (by decide) ?_
  refine cl_X7_50 (As := [_, _, _]) rfl dX7_noPlace_4 (c_X7_in hv (rs (by omega) (by omega)) (rs (by omega) (by omega))) rfl ⟨by decide, by decide⟩ (Nat.le_of_ble_eq_true rfl) ⟨Nat.zero_le _, Nat.zero_le _⟩ (fun z4 σ4 hz4 => ?_)
  obtain ⟨hr4, hs4⟩ := hz4
  have hr4 := Eq.symm hr4
  have hs4 := Eq.symm hs4
  subst hr4
  subst hs4
  refine j_if_ne (tgt := 14) dX7_noPlace_7 (by decide) R_ite (fun q7 => ?_) (fun q7 => ?_)
  · skip
    have a6 := nz1 q7
    refine j_iconst dX7_noPlace_14 ?_
    exact j_zret dX7_noPlace_15 (by omega) ⟨_, rfl, (by first | rw [if_pos (by omega)] | rw [if_neg (by omega)]), rfl⟩
  · skip
    have a6 := ne1 q7
    refine j_iconst dX7_noPlace_10 ?_
    refine j_goto (tgt := 15) dX7_noPlace_11 (by decide) ?_
    exact j_zret dX7_noPlace_15 (by omega) ⟨_, rfl, (by first | rw [if_pos (by omega)] | rw [if_neg (by omega)]), rfl⟩
set_option maxRecDepth 100000 in
set_option maxHeartbeats 4000000 in
theorem c_X7_cellAt {l : Launch} {D : gD} {σ : Wd} {t r c : Int}  : KX7_cellAt l D [vi t, vi r, vi c] σ (fun x σ' => x = 1 + 64 * t + 8 * r + c ∧ σ' = σ) := by
  refine sp_of (by decide +kernel) (cat1 rfl) (Nat.le_of_ble_eq_true rfl) [some (vi t), some (vi r), some (vi c)] rfl (fun sz => ?_)
  refine j_iconst dX7_cellAt_0 ?_
  refine j_bipush dX7_cellAt_1 (by decide) ?_
  refine j_iload_n dX7_cellAt_3 rfl ?_
  refine j_imul dX7_cellAt_4 ?_
  refine j_iadd dX7_cellAt_5 ?_
  refine j_bipush dX7_cellAt_6 (by decide) ?_
  refine j_iload_n dX7_cellAt_8 rfl ?_
  refine j_imul dX7_cellAt_9 ?_
  refine j_iadd dX7_cellAt_10 ?_
  refine j_iload_n dX7_cellAt_11 rfl ?_
  refine j_iadd dX7_cellAt_12 ?_
  exact j_iret dX7_cellAt_13 ⟨_, rfl, rfl, rfl⟩
set_option maxRecDepth 100000 in
set_option maxHeartbeats 4000000 in
theorem c_X7_mod {l : Launch} {D : gD} {σ : Wd} {m n tn pl : Nat} {hs de : Int} {R P A ch rv W mk ls sp : Nat → Int} {v p : Int} (h : RM D σ m n hs tn pl de R P A ch rv W mk ls sp) (hR : R 0 = p) (hp : 2 ≤ p) (hp2 : p < 2147483648) (hv : R32 v) : KX7_mod l D [.ref m, vi v] σ (fun x σ' => x = v % p ∧ σ' = σ) := by
  have htm := tmod_fix2 (v := v) (p := p) (by omega)
  have htR : R32 (v.tmod p) := by
    have := emod_R (v := v) (p := p) (by omega)
    obtain ⟨a1, a2⟩ := hv
    rcases Classical.em (v.tmod p < 0) with q | q
    · have := htm.1 q
      exact ⟨by omega, by omega⟩
    · have := htm.2 q
      exact ⟨by omega, by omega⟩
  refine sp_of (by decide +kernel) (cat1 rfl) (Nat.le_of_ble_eq_true rfl) [some (.ref m), some (vi v), none] rfl (fun sz => ?_)
  refine j_iload_n dX7_mod_0 rfl ?_
  refine j_aload_n dX7_mod_1 rfl ?_
  refine gf_X7_7 rfl dX7_mod_2 h.1 rfl ?_
  refine j_iconst dX7_mod_5 ?_
  refine jj_iald dX7_mod_6 h.2.1 (by omega) (by omega) ⟨by omega, by omega⟩ ?_
  refine j_tops (show R (0 : Int).toNat = p from hR) ?_
  refine j_irem dX7_mod_7 hv ⟨by omega, by omega⟩ (by omega) ?_
  refine j_istore_n dX7_mod_8 (by decide) (by dsimp only [List.set] <;> rfl) ?_
  refine j_iload_n dX7_mod_9 rfl ?_
  refine j_if_ge (tgt := 24) dX7_mod_10 (by decide) htR (fun h10 => ?_) (fun h10 => ?_)
  · skip
    refine j_iload_n dX7_mod_24 rfl ?_
    exact j_iret dX7_mod_25 ⟨_, rfl, (htm.2 (by omega)), rfl⟩
  · skip
    refine j_iload_n dX7_mod_13 rfl ?_
    refine j_aload_n dX7_mod_14 rfl ?_
    refine gf_X7_7 rfl dX7_mod_15 h.1 rfl ?_
    refine j_iconst dX7_mod_18 ?_
    refine jj_iald dX7_mod_19 h.2.1 (by omega) (by omega) ⟨by omega, by omega⟩ ?_
    refine j_tops (show R (0 : Int).toNat = p from hR) ?_
    refine j_iadd dX7_mod_20 ?_
    refine j_goto (tgt := 25) dX7_mod_21 (by decide) ?_
    exact j_iret dX7_mod_25 ⟨_, rfl, (htm.1 (by omega)), rfl⟩
set_option maxRecDepth 100000 in
set_option maxHeartbeats 4000000 in
theorem c_X7_quotient {l : Launch} {D : gD} {σ : Wd} {m n tn pl : Nat} {hs de : Int} {R P A ch rv W mk ls sp : Nat → Int} {a b p : Int} (h : RM D σ m n hs tn pl de R P A ch rv W mk ls sp) (hR : R 0 = p) (hp : primeB p = true) (ha0 : 0 ≤ a) (ha1 : a < p) (hb0 : 0 < b) (hb1 : b < p) : KX7_quotient l D [.ref m, vi a, vi b] σ (fun x σ' => x = (a * inv p b) % p ∧ σ' = σ) := by
  have hlo := primeB_lo hp
  have hQ := emod_R (v := a * inv p b) (p := p) (by omega)
  refine sp_of (by decide +kernel) (cat1 rfl) (Nat.le_of_ble_eq_true rfl) [some (.ref m), some (vi a), some (vi b), none] rfl (fun sz => ?_)
  refine j_iconst dX7_quotient_0 ?_
  refine j_istore_n dX7_quotient_1 (by decide) (by dsimp only [List.set] <;> rfl) ?_
  have lp2 : ∀ (nn q : Nat), 300 - q < nn → (q : Int) ≤ (a * inv p b) % p → J l D yX7_quotient cX7_quotient 4 (some .int) rmX7_quotient sz (AA σ sz) (QI D σ sz (fun x σ' => x = (a * inv p b) % p ∧ σ' = σ)) 0 0 2 [some (.ref m), some (vi a), some (vi b), some (vi q)] [] σ := by
    intro nn
    induction nn with
    | zero =>
      intro q hnn hq
      exfalso
      omega
    | succ nn ih2 =>
      intro q hnn hq
      have hqb := mul_R (a := (q : Int)) (b := b) (m := 251) (n := 251) (by omega) (by omega) (by omega) (by omega) (by omega)
      have hmR := emod_R (v := (q : Int) * b) (p := p) (by omega)
      refine j_aload_n dX7_quotient_2 rfl ?_
      refine j_iload_n dX7_quotient_3 rfl ?_
      refine j_iload_n dX7_quotient_4 rfl ?_
      refine j_imul dX7_quotient_5 ?_
      refine cl_X7_54 (As := [_]) rfl dX7_quotient_6 (c_X7_mod h hR (by omega) (by omega) (rs (by omega) (by omega))) h.1 rfl ⟨by decide, by decide⟩ (Nat.le_of_ble_eq_true rfl) ⟨Nat.zero_le _, Nat.zero_le _⟩ (fun z6 σ6 hz6 => ?_)
      obtain ⟨hr6, hs6⟩ := hz6
      have hr6 := Eq.symm hr6
      have hs6 := Eq.symm hs6
      subst hr6
      subst hs6
      refine j_iload_n dX7_quotient_9 rfl ?_
      refine j_icmp_eq (tgt := 19) dX7_quotient_10 (by decide) (rs (by omega) (by omega)) (rs (by omega) (by omega)) (fun h10 => ?_) (fun h10 => ?_)
      · skip
        have hu := quo_uniq hp hb0 hb1 (q := (q : Int)) (by omega) (by omega) h10
        refine j_iload_n dX7_quotient_19 rfl ?_
        exact j_iret dX7_quotient_20 ⟨_, rfl, hu, rfl⟩
      · skip
        have hne : (q : Int) ≠ (a * inv p b) % p := fun z => h10 (by rw [z]; exact quo_ok hp hb0 hb1 ha0 ha1)
        refine j_iinc dX7_quotient_13 rfl (by decide) (by dsimp only [List.set] <;> rfl) ?_
        refine j_goto (tgt := 2) dX7_quotient_16 (by decide) ?_
        refine j_weak (L := [some (.ref m), some (vi a), some (vi b), some (vi ((q + 1 : Nat) : Int))]) ⟨rfl, rfl, rfl, rfl, trivial⟩ ?_
        exact ih2 (q + 1) (by omega) (by omega)
  exact lp2 400 0 (by omega) (by omega)
set_option maxRecDepth 100000 in
set_option maxHeartbeats 4000000 in
theorem c_X7_isPrime {l : Launch} {D : gD} {σ : Wd} {v : Int} (hv0 : 2 ≤ v) (hv1 : v ≤ 251) : KX7_isPrime l D [vi v] σ (fun x σ' => x = (if primeB v = true then 1 else 0) ∧ σ' = σ) := by
  refine sp_of (by decide +kernel) (cat1 rfl) (Nat.le_of_ble_eq_true rfl) [some (vi v), none, none] rfl (fun sz => ?_)
  refine j_iload_n dX7_isPrime_0 rfl ?_
  refine j_iconst dX7_isPrime_1 ?_
  refine j_icmp_le (tgt := 9) dX7_isPrime_2 (by decide) ⟨by omega, by omega⟩ ⟨by omega, by omega⟩ (fun h2 => ?_) (fun h2 => ?_)
  · skip
    exact absurd h2 (by omega)
  · skip
    refine j_iconst dX7_isPrime_5 ?_
    refine j_goto (tgt := 10) dX7_isPrime_6 (by decide) ?_
    refine j_istore_n dX7_isPrime_10 (by decide) (by dsimp only [List.set] <;> rfl) ?_
    refine j_iconst dX7_isPrime_11 ?_
    refine j_istore_n dX7_isPrime_12 (by decide) (by dsimp only [List.set] <;> rfl) ?_
    have lp13 : ∀ (nn k : Nat) (x : Int), 300 - k < nn → 2 ≤ k → (k : Int) ≤ v → ((x = 1 ∧ ∀ d : Int, 2 ≤ d → d < k → v % d ≠ 0) ∨ (x = 0 ∧ ∃ d : Int, 2 ≤ d ∧ d < k ∧ v % d = 0)) → J l D yX7_isPrime cX7_isPrime 3 (some .boolean) rmX7_isPrime sz (AA σ sz) (QI D σ sz (fun x σ' => x = (if primeB v = true then 1 else 0) ∧ σ' = σ)) 0 0 13 [some (vi v), some (vi x), some (vi k)] [] σ := by
      intro nn
      induction nn with
      | zero =>
        intro k x hnn hk2 hk hx
        exfalso
        omega
      | succ nn ih13 =>
        intro k x hnn hk2 hk hx
        refine j_iload_n dX7_isPrime_13 rfl ?_
        refine j_iload_n dX7_isPrime_14 rfl ?_
        refine j_icmp_ge (tgt := 40) dX7_isPrime_15 (by decide) ⟨by omega, by omega⟩ ⟨by omega, by omega⟩ (fun h15 => ?_) (fun h15 => ?_)
        · skip
          refine j_iload_n dX7_isPrime_40 rfl ?_
          have hans : x = if primeB v = true then 1 else 0 := by
            rcases hx with q | q
            · rw [q.1, if_pos (primeB_all hv0 hv1 (fun d a b => q.2 d a (by omega)))]
            · obtain ⟨q0, d, d1, d2, d3⟩ := q
              rw [q0, primeB_not d1 (by omega) d3]
              rfl
          exact j_zret dX7_isPrime_41 (by rcases hx with q | q <;> omega) ⟨_, rfl, hans, rfl⟩
        · skip
          refine j_iload_n dX7_isPrime_18 rfl ?_
          refine j_if_eq (tgt := 32) dX7_isPrime_19 (by decide) (by rcases hx with q | q <;> exact rs (by omega) (by omega)) (fun h19 => ?_) (fun h19 => ?_)
          · skip
            have hx0 : ∃ d : Int, 2 ≤ d ∧ d < k ∧ v % d = 0 := by
              rcases hx with q | q
              · omega
              · exact q.2
            refine j_iconst dX7_isPrime_32 ?_
            refine j_istore_n dX7_isPrime_33 (by decide) (by dsimp only [List.set] <;> rfl) ?_
            refine j_iinc dX7_isPrime_34 rfl (by decide) (by dsimp only [List.set] <;> rfl) ?_
            refine j_goto (tgt := 13) dX7_isPrime_37 (by decide) ?_
            refine j_weak (L := [some (vi v), some (vi 0), some (vi ((k + 1 : Nat) : Int))]) ⟨rfl, rfl, rfl, trivial⟩ ?_
            exact ih13 (k + 1) _ (by omega) (by omega) (by omega) (Or.inr ⟨rfl, by obtain ⟨d, a, b, c⟩ := hx0; exact ⟨d, a, by omega, c⟩⟩)
          · skip
            have hx1 : ∀ d : Int, 2 ≤ d → d < k → v % d ≠ 0 := by
              rcases hx with q | q
              · exact q.2
              · exact absurd q.1 h19
            refine j_iload_n dX7_isPrime_22 rfl ?_
            refine j_iload_n dX7_isPrime_23 rfl ?_
            refine j_irem dX7_isPrime_24 ⟨by omega, by omega⟩ ⟨by omega, by omega⟩ (by omega) ?_
            rw [tmod_pos (by omega)]
            have hm := emod_R (v := v) (p := (k : Int)) (by omega)
            refine j_if_eq (tgt := 32) dX7_isPrime_25 (by decide) ⟨by omega, by omega⟩ (fun h25 => ?_) (fun h25 => ?_)
            · skip
              refine j_iconst dX7_isPrime_32 ?_
              refine j_istore_n dX7_isPrime_33 (by decide) (by dsimp only [List.set] <;> rfl) ?_
              refine j_iinc dX7_isPrime_34 rfl (by decide) (by dsimp only [List.set] <;> rfl) ?_
              refine j_goto (tgt := 13) dX7_isPrime_37 (by decide) ?_
              refine j_weak (L := [some (vi v), some (vi 0), some (vi ((k + 1 : Nat) : Int))]) ⟨rfl, rfl, rfl, trivial⟩ ?_
              exact ih13 (k + 1) _ (by omega) (by omega) (by omega) (Or.inr ⟨rfl, k, by omega, by omega, h25⟩)
            · skip
              refine j_iconst dX7_isPrime_28 ?_
              refine j_goto (tgt := 33) dX7_isPrime_29 (by decide) ?_
              refine j_istore_n dX7_isPrime_33 (by decide) (by dsimp only [List.set] <;> rfl) ?_
              refine j_iinc dX7_isPrime_34 rfl (by decide) (by dsimp only [List.set] <;> rfl) ?_
              refine j_goto (tgt := 13) dX7_isPrime_37 (by decide) ?_
              refine j_weak (L := [some (vi v), some (vi 1), some (vi ((k + 1 : Nat) : Int))]) ⟨rfl, rfl, rfl, trivial⟩ ?_
              exact ih13 (k + 1) _ (by omega) (by omega) (by omega) (Or.inl ⟨rfl, fun d a b => by
                rcases (show d < k ∨ d = k by omega) with c | c
                · exact hx1 d a c
                · rw [c]; exact h25⟩)
    exact lp13 400 2 1 (by omega) (by omega) (by omega) (Or.inl ⟨rfl, fun d a b => absurd b (by omega)⟩)

/-! ===== inverses modulo a prime; elimination as numbers ===== -/
def fermN (p : Nat) : Nat → Nat → Nat → Nat → Nat
  | 0, a, _, _ => a
  | k + 1, a, q, e => if e = 0 then a else fermN p k (if e % 2 = 1 then (a * q) % p else a) ((q * q) % p) (e / 2)
theorem fermN_eq (p : Nat) : ∀ (k a q e : Nat), fermL p k a q e = (fermN p k a q e : Nat)
  | 0, a, q, e => rfl
  | k + 1, a, q, e => by
    show (if (e : Int) ≤ 0 then (a : Int) else fermL p k (if (e : Int) % 2 = 1 then ((a : Int) * q) % p else a) (((q : Int) * q) % p) ((e : Int) / 2)) = ((if e = 0 then a else fermN p k (if e % 2 = 1 then (a * q) % p else a) ((q * q) % p) (e / 2) : Nat) : Int)
    by_cases h : e = 0
    · subst h
      simp
    · rw [if_neg (by omega), if_neg h, ← fermN_eq p k]
      congr 1
      by_cases h2 : e % 2 = 1
      · rw [if_pos h2, if_pos (by omega)]
        push_cast
        rfl
      · rw [if_neg h2, if_neg (by omega)]
def primeN (p : Nat) : Bool := decide (2 ≤ p) && (List.range p).all (fun d => decide (d < 2) || decide (p % d ≠ 0))
theorem inv_tab : (List.range 252).all (fun p => !(primeN p) || (List.range p).all (fun a => decide (a = 0) || decide ((a * fermN p 8 1 a (p - 2)) % p = 1))) = true := by decide +kernel
theorem primeB_N {p : Nat} (h : primeB p = true) : primeN p = true := by
  unfold primeB at h
  unfold primeN
  simp only [Bool.and_eq_true, List.all_eq_true, List.mem_range, Bool.or_eq_true, decide_eq_true_eq] at h ⊢
  refine ⟨by omega, fun d hd => ?_⟩
  rcases h.2 d (by omega) with q | q
  · exact Or.inl q
  · right
    intro z
    apply q
    omega
theorem inv_mul {p v : Int} (hp : primeB p = true) (h0 : 0 < v) (h1 : v < p) : (v * inv p v) % p = 1 := by
  have hlo := primeB_lo hp
  obtain ⟨n, rfl⟩ := Int.eq_ofNat_of_zero_le (show 0 ≤ p by omega)
  obtain ⟨a, rfl⟩ := Int.eq_ofNat_of_zero_le (show 0 ≤ v by omega)
  have ht := List.all_eq_true.mp inv_tab n (List.mem_range.mpr (by omega))
  rw [primeB_N hp, Bool.not_true, Bool.false_or] at ht
  have ht2 := List.all_eq_true.mp ht a (List.mem_range.mpr (by omega))
  simp only [Bool.or_eq_true, decide_eq_true_eq] at ht2
  rcases ht2 with q | q
  · omega
  · have e1 : inv (n : Int) a = (fermN n 8 1 a (n - 2) : Nat) := by
      rw [← fermN_eq]
      show fermL n 8 1 a ((n : Int) - 2) = fermL n 8 1 a ((n - 2 : Nat) : Int)
      congr 1
      omega
    rw [e1]
    exact_mod_cast q
/-- the first row from i on that isn't 0 in the column c, of z -/
def frow (m : Mx) (c z : Nat) : Nat → Nat → Nat
  | 0, i => i
  | k + 1, i => if i < z ∧ m i c = 0 then frow m c z k (i + 1) else i
theorem frow_go {m : Mx} {c z k i : Nat} (h : i < z) (h0 : m i c = 0) : frow m c z (k + 1) i = frow m c z k (i + 1) := if_pos ⟨h, h0⟩
theorem frow_end {m : Mx} {c z k i : Nat} (h : ¬ i < z) : frow m c z k i = i := by
  cases k with
  | zero => rfl
  | succ k => exact if_neg (fun q => h q.1)
theorem frow_hit {m : Mx} {c z k i : Nat} (h0 : m i c ≠ 0) : frow m c z k i = i := by
  cases k with
  | zero => rfl
  | succ k => exact if_neg (fun q => h0 q.2)
theorem frow_spec {m : Mx} {c z : Nat} : ∀ (k i : Nat), i ≤ z → z ≤ i + k → i ≤ frow m c z k i ∧ frow m c z k i ≤ z ∧ (∀ q, i ≤ q → q < frow m c z k i → m q c = 0) ∧ (frow m c z k i < z → m (frow m c z k i) c ≠ 0)
  | 0, i, h1, h2 => by
    show i ≤ i ∧ i ≤ z ∧ (∀ q, i ≤ q → q < i → m q c = 0) ∧ (i < z → m i c ≠ 0)
    exact ⟨Nat.le_refl _, h1, fun q a b => absurd a (by omega), fun h => absurd h (by omega)⟩
  | k + 1, i, h1, h2 => by
    by_cases h : i < z ∧ m i c = 0
    · rw [frow_go h.1 h.2]
      obtain ⟨a1, a2, a3, a4⟩ := frow_spec (m := m) (c := c) (z := z) k (i + 1) (by omega) (by omega)
      refine ⟨by omega, a2, fun q b1 b2 => ?_, a4⟩
      rcases (show q = i ∨ i + 1 ≤ q by omega) with b3 | b3
      · rw [b3]
        exact h.2
      · exact a3 q b3 b2
    · have e : frow m c z (k + 1) i = i := if_neg h
      rw [e]
      exact ⟨Nat.le_refl _, h1, fun q a b => absurd a (by omega), fun h3 h4 => h ⟨h3, h4⟩⟩
def swapM (m : Mx) (a b : Nat) : Mx := fun i => if i = a then m b else if i = b then m a else m i
/-- a column is cleared: the row r has 1 in it -/
def clrM (p : Int) (r c : Nat) (m : Mx) : Mx := fun i j => if i = r then (m r j * inv p (m r c)) % p else (m i j - m i c * ((m r j * inv p (m r c)) % p)) % p
abbrev GS : Type := Nat × Int × Mx
def gstep (p : Int) (z c : Nat) (s : GS) : GS :=
  if frow s.2.2 c z 9 s.1 < z then
    (s.1 + 1, (((if s.1 = frow s.2.2 c z 9 s.1 then s.2.1 else (-s.2.1) % p) * swapM s.2.2 s.1 (frow s.2.2 c z 9 s.1) s.1 c) % p), clrM p s.1 c (swapM s.2.2 s.1 (frow s.2.2 c z 9 s.1)))
  else s
def gj (p : Int) (z : Nat) (m : Mx) : Nat → GS
  | 0 => (0, 1, m)
  | c + 1 => gstep p z c (gj p z m c)
def MB (p : Int) (z : Nat) (m : Mx) : Prop := ∀ i, i < z → ∀ j, j ≤ z → 0 ≤ m i j ∧ m i j < p
def GI (p : Int) (z c : Nat) (s : GS) : Prop := s.1 ≤ c ∧ MB p z s.2.2 ∧ (∀ i, s.1 ≤ i → i < z → ∀ j, j < c → s.2.2 i j = 0) ∧ 0 ≤ s.2.1 ∧ s.2.1 < p
theorem swapM_row (m : Mx) {a b i : Nat} : ∃ k, (k = a ∨ k = b ∨ k = i) ∧ swapM m a b i = m k ∧ (i = a → k = b) ∧ (i ≠ a → i ≠ b → k = i) ∧ (i ≠ a → i = b → k = a) := by
  unfold swapM
  by_cases h1 : i = a
  · exact ⟨b, Or.inr (Or.inl rfl), if_pos h1, fun _ => rfl, fun q => absurd h1 q, fun q => absurd h1 q⟩
  · rw [if_neg h1]
    by_cases h2 : i = b
    · exact ⟨a, Or.inl rfl, if_pos h2, fun q => absurd q h1, fun _ q => absurd h2 q, fun _ _ => rfl⟩
    · exact ⟨i, Or.inr (Or.inr rfl), if_neg h2, fun q => absurd q h1, fun _ _ => rfl, fun _ q => absurd q h2⟩
theorem GI.step {p : Int} {z c : Nat} {s : GS} (hp : primeB p = true) (hc : c < z) (hz : z ≤ 8) (h : GI p z c s) : GI p z (c + 1) (gstep p z c s) := by
  have hlo := primeB_lo hp
  obtain ⟨h1, h2, h3, h4, h5⟩ := h
  obtain ⟨f1, f2, f3, f4⟩ := frow_spec (m := s.2.2) (c := c) (z := z) 9 s.1 (by omega) (by omega)
  unfold gstep
  by_cases hx : frow s.2.2 c z 9 s.1 < z
  · rw [if_pos hx]
    generalize hxe : frow s.2.2 c z 9 s.1 = x at *
    have hpv := f4 hx
    have hb : ∀ i, i < z → ∀ j, j ≤ z → 0 ≤ swapM s.2.2 s.1 x i j ∧ swapM s.2.2 s.1 x i j < p := by
      intro i hi j hj
      obtain ⟨k, k1, k2, -⟩ := swapM_row s.2.2 (a := s.1) (b := x) (i := i)
      rw [k2]
      exact h2 k (by omega) j hj
    have hr : swapM s.2.2 s.1 x s.1 = s.2.2 x := if_pos rfl
    have hpos : 0 < s.2.2 x c := by
      have := h2 x hx c (by omega)
      omega
    have hinv := inv_mul hp hpos (h2 x hx c (by omega)).2
    refine ⟨by show s.1 + 1 ≤ c + 1; omega, fun i hi j hj => ?_, fun i hi1 hi2 j hj => ?_, (emod_R (by omega)).1, (emod_R (by omega)).2⟩
    · show 0 ≤ clrM p s.1 c _ i j ∧ clrM p s.1 c _ i j < p
      unfold clrM
      split
      · exact emod_R (by omega)
      · exact emod_R (by omega)
    · have hi1' : s.1 + 1 ≤ i := hi1
      show clrM p s.1 c _ i j = 0
      unfold clrM
      rw [if_neg (by omega), hr]
      rcases (show j < c ∨ j = c by omega) with q | q
      · have e1 : s.2.2 x j = 0 := h3 x (by omega) hx j q
        have e2 : swapM s.2.2 s.1 x i j = 0 := by
          obtain ⟨k, k1, k2, -, k4, k5⟩ := swapM_row s.2.2 (a := s.1) (b := x) (i := i)
          rw [k2]
          exact h3 k (by omega) (by omega) j q
        rw [e1, e2]
        simp
      · rw [q, hinv]
        simp
  · rw [if_neg hx]
    refine ⟨by omega, h2, fun i hi1 hi2 j hj => ?_, h4, h5⟩
    rcases (show j < c ∨ j = c by omega) with q | q
    · exact h3 i hi1 hi2 j q
    · rw [q]
      exact f3 i hi1 (by omega)
theorem GI.all {p : Int} {z : Nat} {m : Mx} (hp : primeB p = true) (hz : z ≤ 8) (hm : MB p z m) : ∀ c, c ≤ z → GI p z c (gj p z m c)
  | 0, _ => ⟨Nat.le_refl _, hm, fun i _ _ j hj => absurd hj (by omega), by show (0 : Int) ≤ 1; omega, by show (1 : Int) < p; have := primeB_lo hp; omega⟩
  | c + 1, h => (GI.all hp hz hm c (by omega)).step hp (by omega) hz
/-- two factors in one place -/
def lus (p : Int) (c : Nat) (m : Mx) : Mx := fun i j => if c < i then (if j = c then (m i c * inv p (m c c)) % p else if c < j then (m i j - (m i c * inv p (m c c)) % p * m c j) % p else m i j) else m i j
def lu (p : Int) (m : Mx) : Nat → Mx
  | 0 => m
  | c + 1 => lus p c (lu p m c)
def luD (p : Int) (m : Mx) : Nat → Int
  | 0 => 1
  | c + 1 => (luD p m c * lu p m c c c) % p
theorem lu_B {p : Int} {z : Nat} {m : Mx} (hp : 0 < p) (hm : MB p z m) : ∀ c, MB p z (lu p m c)
  | 0 => hm
  | c + 1 => by
    intro i hi j hj
    have h := lu_B hp hm c i hi j hj
    show 0 ≤ lus p c _ i j ∧ lus p c _ i j < p
    unfold lus
    split
    · split
      · exact emod_R hp
      · split
        · exact emod_R hp
        · exact h
    · exact h
theorem lu_row {p : Int} {m : Mx} {i : Nat} : ∀ {c d : Nat}, i ≤ c → c ≤ d → lu p m d i = lu p m c i := by
  intro c d hi hd
  induction d with
  | zero =>
    rw [show c = 0 by omega]
  | succ d ih =>
    rcases (show c ≤ d ∨ c = d + 1 by omega) with q | q
    · rw [← ih q]
      funext j
      show lus p d _ i j = _
      unfold lus
      rw [if_neg (by omega)]
    · rw [q]

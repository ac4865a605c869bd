/-! ===== numbers ===== -/
theorem emod_R {v p : Int} (hp : 0 < p) : 0 ≤ v % p ∧ v % p < p := ⟨Int.emod_nonneg v (by omega), Int.emod_lt_of_pos v hp⟩
theorem tmod_pos {v p : Int} (hv : 0 ≤ v) : v.tmod p = v % p := Int.tmod_eq_emod_of_nonneg hv
theorem tmod_fix {v p : Int} (hp : 0 < p) : (if v.tmod p < 0 then v.tmod p + p else v.tmod p) = v % p := by
  rcases (show 0 ≤ v ∨ v < 0 by omega) with h | h
  · have h1 := (emod_R (v := v) hp).1
    rw [tmod_pos h, if_neg (by omega)]
  · have h1 : v.tmod p = -((-v) % p) := by
      rw [← tmod_pos (v := -v) (by omega), Int.neg_tmod, Int.neg_neg]
    have h2 := emod_R (v := -v) hp
    have h3 : v = p * (-((-v) / p)) - (-v) % p := by
      have := Int.mul_ediv_add_emod (-v) p
      rw [Int.mul_neg]
      omega
    rw [h1]
    rcases (show (-v) % p = 0 ∨ 0 < (-v) % p by omega) with h4 | h4
    · rw [if_neg (by omega), h4]
      have : v % p = 0 := by
        rw [h3, h4]
        simp
      omega
    · rw [if_pos (by omega)]
      have h5 : v = (p - (-v) % p) + p * (-((-v) / p) - 1) := by
        rw [Int.mul_sub]
        omega
      have h6 : v % p = (p - (-v) % p) % p := by
        conv => lhs; rw [h5]
        rw [Int.add_mul_emod_self_left]
      rw [h6, Int.emod_eq_of_lt (a := p - (-v) % p) (b := p) (by omega) (by omega)]
      omega
theorem emod_id {v p : Int} (h0 : 0 ≤ v) (h : v < p) : v % p = v := Int.emod_eq_of_lt h0 h
/-- how many of the first n are greater than 0 -/
def cntP (g : Nat → Int) : Nat → Int
  | 0 => 0
  | n + 1 => cntP g n + (if 0 < g n then 1 else 0)
theorem cntP_R (g : Nat → Int) : ∀ n : Nat, 0 ≤ cntP g n ∧ cntP g n ≤ n
  | 0 => ⟨Int.le_refl _, Int.le_refl _⟩
  | n + 1 => by
    have h := cntP_R g n
    show 0 ≤ cntP g n + (if 0 < g n then 1 else 0) ∧ cntP g n + (if 0 < g n then 1 else 0) ≤ ((n + 1 : Nat) : Int)
    split <;> omega
theorem cntP_s {g : Nat → Int} {i : Int} (h : 0 ≤ i) : cntP g (i + 1).toNat = cntP g i.toNat + (if 0 < g i.toNat then 1 else 0) := by
  rw [show (i + 1).toNat = i.toNat + 1 by omega]
  rfl
theorem cntP_cong {g g' : Nat → Int} : ∀ {n : Nat}, (∀ j, j < n → g j = g' j) → cntP g n = cntP g' n
  | 0, _ => rfl
  | n + 1, h => by
    show cntP g n + _ = cntP g' n + _
    rw [cntP_cong (fun j hj => h j (by omega)), h n (by omega)]
/-- how many of the first n differ -/
def cntN (f g : Nat → Int) : Nat → Int
  | 0 => 0
  | n + 1 => cntN f g n + (if f n = g n then 0 else 1)
theorem cntN_R (f g : Nat → Int) : ∀ n : Nat, 0 ≤ cntN f g n ∧ cntN f g n ≤ n
  | 0 => ⟨Int.le_refl _, Int.le_refl _⟩
  | n + 1 => by
    have h := cntN_R f g n
    show 0 ≤ cntN f g n + (if f n = g n then 0 else 1) ∧ cntN f g n + (if f n = g n then 0 else 1) ≤ ((n + 1 : Nat) : Int)
    split <;> omega
theorem cntN_s {f g : Nat → Int} {i : Int} (h : 0 ≤ i) : cntN f g (i + 1).toNat = cntN f g i.toNat + (if f i.toNat = g i.toNat then 0 else 1) := by
  rw [show (i + 1).toNat = i.toNat + 1 by omega]
  rfl
theorem cntN_cong {f g f' g' : Nat → Int} : ∀ {n : Nat}, (∀ j, j < n → f j = f' j ∧ g j = g' j) → cntN f g n = cntN f' g' n
  | 0, _ => rfl
  | n + 1, h => by
    show cntN f g n + _ = cntN f' g' n + _
    rw [cntN_cong (fun j hj => h j (by omega)), (h n (by omega)).1, (h n (by omega)).2]
/-- the sum of the first n -/
def sumF (f : Nat → Int) : Nat → Int
  | 0 => 0
  | n + 1 => sumF f n + f n
theorem sumF_s {f : Nat → Int} {i : Int} (h : 0 ≤ i) : sumF f (i + 1).toNat = sumF f i.toNat + f i.toNat := by
  rw [show (i + 1).toNat = i.toNat + 1 by omega]
  rfl
theorem sumF_R {f : Nat → Int} {b : Int} : ∀ {n : Nat}, (∀ j, j < n → 0 ≤ f j ∧ f j ≤ b) → 0 ≤ sumF f n ∧ sumF f n ≤ n * b
  | 0, _ => by simp [sumF]
  | n + 1, h => by
    have h1 := sumF_R (n := n) (fun j hj => h j (by omega))
    have h2 := h n (by omega)
    show 0 ≤ sumF f n + f n ∧ sumF f n + f n ≤ ((n + 1 : Nat) : Int) * b
    have : ((n + 1 : Nat) : Int) * b = n * b + b := by
      rw [show ((n + 1 : Nat) : Int) = (n : Int) + 1 from rfl, Int.add_mul, Int.one_mul]
    omega
theorem sumF_cong {f g : Nat → Int} : ∀ {n : Nat}, (∀ j, j < n → f j = g j) → sumF f n = sumF g n
  | 0, _ => rfl
  | n + 1, h => by
    show sumF f n + _ = sumF g n + _
    rw [sumF_cong (fun j hj => h j (by omega)), h n (by omega)]
/-- the primes up to 251 -/
def primeB (v : Int) : Bool := decide (2 ≤ v) && decide (v ≤ 251) && (List.range v.toNat).all (fun d => decide (d < 2) || decide (v % d ≠ 0))
theorem primeB_sm0 : ∀ n : Nat, n < 252 → (decide (n < 2) || !((List.range 16).all (fun d => decide (d < 2) || decide (n < d * d) || decide (n % d ≠ 0))) || primeB n) = true := by decide +kernel
theorem primeB_small (n : Nat) (hn : n < 252) (h2 : 2 ≤ n) (h : ∀ d : Nat, d < 16 → 2 ≤ d → d * d ≤ n → n % d ≠ 0) : primeB n = true := by
  have h0 := primeB_sm0 n hn
  rw [Bool.or_eq_true, Bool.or_eq_true, decide_eq_true_eq, Bool.not_eq_true'] at h0
  rcases h0 with (q | q) | q
  · omega
  · have : ((List.range 16).all (fun d => decide (d < 2) || decide (n < d * d) || decide (n % d ≠ 0))) = true := by
      rw [List.all_eq_true]
      intro d hd
      have hd' := List.mem_range.mp hd
      simp only [Bool.or_eq_true, decide_eq_true_eq]
      rcases (show d < 2 ∨ 2 ≤ d by omega) with a | a
      · exact Or.inl (Or.inl a)
      · rcases (show n < d * d ∨ d * d ≤ n by omega) with b | b
        · exact Or.inl (Or.inr b)
        · exact Or.inr (h d hd' a b)
    rw [this] at q
    cases q
  · exact q
theorem primeB_of {v : Int} (h1 : 2 ≤ v) (h2 : v ≤ 251) (h : ∀ d : Int, 2 ≤ d → d * d ≤ v → v % d ≠ 0) : primeB v = true := by
  obtain ⟨n, rfl⟩ := Int.eq_ofNat_of_zero_le (show 0 ≤ v by omega)
  refine primeB_small n (by omega) (by omega) (fun d hd hd2 hdd hz => ?_)
  refine h d (by omega) (by exact_mod_cast hdd) (by exact_mod_cast hz)
theorem primeB_not {v d : Int} (h1 : 2 ≤ d) (h2 : d < v) (h3 : v % d = 0) : primeB v = false := by
  cases h : primeB v with
  | false => rfl
  | true =>
    unfold primeB at h
    simp only [Bool.and_eq_true, List.all_eq_true, List.mem_range, Bool.or_eq_true, decide_eq_true_eq] at h
    obtain ⟨n, rfl⟩ := Int.eq_ofNat_of_zero_le (show 0 ≤ d by omega)
    rcases h.2 n (by omega) with q | q
    · omega
    · exact absurd h3 q
theorem primeB_lo {v : Int} (h : primeB v = true) : 2 ≤ v ∧ v ≤ 251 := by
  unfold primeB at h
  simp only [Bool.and_eq_true, decide_eq_true_eq] at h
  exact h.1
theorem primeB_all {v : Int} (h1 : 2 ≤ v) (h2 : v ≤ 251) (h : ∀ d : Int, 2 ≤ d → d < v → v % d ≠ 0) : primeB v = true := by
  unfold primeB
  simp only [Bool.and_eq_true, List.all_eq_true, List.mem_range, Bool.or_eq_true, decide_eq_true_eq]
  refine ⟨⟨h1, h2⟩, fun d hd => ?_⟩
  rcases (show d < 2 ∨ 2 ≤ d by omega) with q | q
  · exact Or.inl q
  · exact Or.inr (h d (by omega) (by omega))
/-! bits -/
def rowN (s : Nat) : Int := 4 * (s / 32 % 2 : Nat) + 2 * (s / 8 % 2 : Nat) + (s / 2 % 2 : Nat)
def colN (s : Nat) : Int := 4 * (s / 16 % 2 : Nat) + 2 * (s / 4 % 2 : Nat) + (s % 2 : Nat)
def sprN (r : Nat) : Int := 16 * (r / 4 % 2 : Nat) + 4 * (r / 2 % 2 : Nat) + (r % 2 : Nat)
theorem bit_row : ∀ s : Nat, s < 128 → ((iI s >>> (iI 3 &&& 31)) &&& iI 4) ||| ((iI s >>> (iI 2 &&& 31)) &&& iI 2) ||| ((iI s >>> (iI 1 &&& 31)) &&& iI 1) = iI (rowN s) := by decide +kernel
theorem bit_dbl : ∀ s : Nat, s < 64 → iI s <<< (iI 1 &&& 31) = iI (2 * s) := by decide +kernel
theorem bit_col : ∀ s : Nat, s < 64 → rowN (2 * s) = colN s := by decide +kernel
theorem bit_spr : ∀ r : Nat, r < 8 → ((iI r &&& iI 4) <<< (iI 2 &&& 31)) ||| ((iI r &&& iI 2) <<< (iI 1 &&& 31)) ||| (iI r &&& iI 1) = iI (sprN r) := by decide +kernel
theorem bit_step : ∀ r : Nat, r < 8 → ∀ c : Nat, c < 8 → (iI (sprN r) <<< (iI 1 &&& 31)) ||| iI (sprN c) = iI (2 * sprN r + sprN c) := by decide +kernel
theorem bit_mask : ∀ s : Nat, s < 64 → ∀ k : Nat, k < 5 → iI s &&& iI (-((2 ^ k : Nat) * (2 ^ k : Nat))) = iI ((s / (2 ^ k * 2 ^ k) * (2 ^ k * 2 ^ k) : Nat)) := by decide +kernel
theorem bit_and3 : ∀ s : Nat, s < 4 → iI s &&& iI 3 = iI s := by decide +kernel
theorem bit_at : ∀ s : Nat, s < 64 → ∀ k : Nat, k < 6 → (iI s >>> (iI k &&& 31)) &&& iI 1 = iI ((s / 2 ^ k % 2 : Nat)) := by decide +kernel
theorem bit_at0 : ∀ s : Nat, s < 64 → iI s &&& iI 1 = iI ((s % 2 : Nat)) := by decide +kernel
theorem bit_31 : ∀ s : Nat, s < 32 → iI s &&& iI 31 = iI s := by decide +kernel
theorem rowN_R : ∀ s : Nat, 0 ≤ rowN s ∧ rowN s < 8 := fun s => by unfold rowN; omega
theorem colN_R : ∀ s : Nat, 0 ≤ colN s ∧ colN s < 8 := fun s => by unfold colN; omega

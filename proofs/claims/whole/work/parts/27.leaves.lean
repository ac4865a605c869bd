/-! ===== public methods: leaves, blocks ===== -/
def lstA (g : Nat → Int) (e : Int) : Nat → Nat → Int
  | 0, _ => -1
  | k + 1, i => if 0 < g i ∧ cntP g i = e then (i : Int) else lstA g e k (i + 1)
def lst (g : Nat → Int) (e : Int) : Int := lstA g e 64 0
theorem cntP_lt {g : Nat → Int} {i : Nat} (h : 0 < g i) : ∀ {j : Nat}, i < j → cntP g i < cntP g j
  | 0, q => absurd q (by omega)
  | j + 1, q => by
    show cntP g i < cntP g j + (if 0 < g j then 1 else 0)
    rcases (show i = j ∨ i < j by omega) with a | a
    · rw [← a, if_pos h]
      omega
    · have := cntP_lt h a
      split <;> omega
theorem lstA_none {g : Nat → Int} {e : Int} : ∀ (k i : Nat), (∀ j, i ≤ j → j < i + k → 0 < g j → cntP g j ≠ e) → lstA g e k i = -1
  | 0, _, _ => rfl
  | k + 1, i, h => by
    show (if 0 < g i ∧ cntP g i = e then (i : Int) else lstA g e k (i + 1)) = -1
    rw [if_neg (fun q => h i (by omega) (by omega) q.1 q.2)]
    exact lstA_none k (i + 1) (fun j a b => h j (by omega) (by omega))
theorem lstA_hit {g : Nat → Int} {e : Int} {r : Nat} (h1 : 0 < g r) (h2 : cntP g r = e) : ∀ (k i : Nat), i ≤ r → r < i + k → lstA g e k i = r
  | 0, i, a, b => absurd b (by omega)
  | k + 1, i, a, b => by
    show (if 0 < g i ∧ cntP g i = e then (i : Int) else lstA g e k (i + 1)) = r
    by_cases q : 0 < g i ∧ cntP g i = e
    · rw [if_pos q]
      rcases (show i = r ∨ i < r by omega) with c | c
      · rw [c]
      · have := cntP_lt q.1 c
        omega
    · rw [if_neg q]
      have : i ≠ r := fun z => q (by rw [z]; exact ⟨h1, h2⟩)
      exact lstA_hit h1 h2 k (i + 1) (by omega) (by omega)
theorem lstA_R {g : Nat → Int} {e : Int} : ∀ (k i : Nat), lstA g e k i = -1 ∨ ∃ r : Nat, r < i + k ∧ lstA g e k i = r ∧ 0 < g r ∧ cntP g r = e
  | 0, _ => Or.inl rfl
  | k + 1, i => by
    show (if 0 < g i ∧ cntP g i = e then (i : Int) else lstA g e k (i + 1)) = -1 ∨ ∃ r : Nat, r < i + (k + 1) ∧ (if 0 < g i ∧ cntP g i = e then (i : Int) else lstA g e k (i + 1)) = r ∧ 0 < g r ∧ cntP g r = e
    by_cases q : 0 < g i ∧ cntP g i = e
    · rw [if_pos q]
      exact Or.inr ⟨i, by omega, rfl, q⟩
    · rw [if_neg q]
      rcases lstA_R (g := g) (e := e) k (i + 1) with a | ⟨r, b, c, d⟩
      · exact Or.inl a
      · exact Or.inr ⟨r, by omega, c, d⟩
def lstT (S : MS) (t e : Int) : Int := if 0 ≤ t ∧ t < 4 then lst (S.2.2 t.toNat) e else -1
theorem lstT_of {S : MS} {t e r : Int} (h : (0 ≤ t ∧ t < 4 ∧ 0 ≤ r ∧ r < 64 ∧ 0 < S.2.2 t.toNat r.toNat ∧ cntP (S.2.2 t.toNat) r.toNat = e) ∨ (r = -1 ∧ ¬ (0 ≤ t ∧ t < 4 ∧ ∃ j : Nat, j < 64 ∧ 0 < S.2.2 t.toNat j ∧ cntP (S.2.2 t.toNat) j = e))) : r = lstT S t e := by
  unfold lstT
  rcases h with ⟨a, b, c, d, h1, h2⟩ | ⟨a, b⟩
  · rw [if_pos ⟨a, b⟩]
    unfold lst
    rw [lstA_hit h1 h2 64 0 (by omega) (by omega)]
    omega
  · by_cases q : 0 ≤ t ∧ t < 4
    · rw [if_pos q]
      unfold lst
      rw [lstA_none 64 0 (fun j _ c d f => b ⟨q.1, q.2, j, by omega, d, f⟩)]
      exact a
    · rw [if_neg q]
      exact a
theorem lstT_R (S : MS) (t e : Int) : -1 ≤ lstT S t e ∧ lstT S t e < 64 := by
  unfold lstT
  split
  · unfold lst
    rcases lstA_R (g := S.2.2 t.toNat) (e := e) 64 0 with a | ⟨r, b, c, d⟩ <;> omega
  · omega
theorem leaf_of {g : Nat → Int} (hg : WFg g) {s : Nat} (hs : s < 64) (h : 0 < g s) : ∃ z k : Nat, g s = (z : Int) ∧ z = 2 ^ k ∧ k < 4 ∧ okBlk s z ∧ 1 ≤ z ∧ z ≤ 8 ∧ s + z * z ≤ 64 ∧ s % (z * z) = 0 := by
  rcases hg s hs with q | ⟨k, hk, e, hm⟩
  · omega
  · have h1 := okBlk_tab k hk s hs hm
    refine ⟨2 ^ k, k, e, rfl, hk, okBlk_of hk hs hm, Nat.one_le_two_pow, h1.2.2.1, h1.2.2.2, hm⟩
theorem lstT_leaf {S : MS} {t e : Int} (hg : ∀ t, t < 4 → WFg (S.2.2 t)) (h : lstT S t e ≠ -1) : ∃ s z k : Nat, lstT S t e = (s : Int) ∧ 0 ≤ t ∧ t < 4 ∧ s < 64 ∧ S.2.2 t.toNat s = (z : Int) ∧ z = 2 ^ k ∧ k < 4 ∧ okBlk s z ∧ 1 ≤ z ∧ z ≤ 8 ∧ s + z * z ≤ 64 ∧ s % (z * z) = 0 := by
  unfold lstT at h ⊢
  by_cases q : 0 ≤ t ∧ t < 4
  · rw [if_pos q] at h ⊢
    unfold lst at h ⊢
    rcases lstA_R (g := S.2.2 t.toNat) (e := e) 64 0 with a | ⟨r, b, c, d, -⟩
    · exact absurd a h
    · obtain ⟨z, k, x1, x2, x3, x4, x5, x6, x7, x8⟩ := leaf_of (hg t.toNat (by omega)) (by omega) d
      exact ⟨r, z, k, c, q.1, q.2, by omega, x1, x2, x3, x4, x5, x6, x7, x8⟩
  · rw [if_neg q] at h
    exact absurd rfl h
def onLeaf {α : Type} (S : MS) (t e : Int) (no : α) (f : Nat → Nat → α) : α := if lstT S t e = -1 then no else f (lstT S t e).toNat (S.2.2 t.toNat (lstT S t e).toNat).toNat
theorem onLeaf_n {α : Type} {S : MS} {t e : Int} {no : α} {f : Nat → Nat → α} (h : lstT S t e = -1) : onLeaf S t e no f = no := if_pos h
theorem onLeaf_y {α : Type} {S : MS} {t e : Int} {no : α} {f : Nat → Nat → α} {s z : Nat} (h : lstT S t e = (s : Int)) (hz : S.2.2 t.toNat s = (z : Int)) : onLeaf S t e no f = f s z := by
  unfold onLeaf
  rw [if_neg (by omega), h]
  show f s (S.2.2 t.toNat s).toNat = f s z
  rw [hz]
  rfl
/-- the state behind a call that may record -/
def nxS (x : Option MS) (S : MS) : MS := match x with | none => S | some S' => S'
def nxN (x : Option MS) (n : Nat) : Nat := match x with | none => n | some _ => recN n
def nxH (x : Option MS) (n : Nat) (H : Nat → MS) (S : MS) : Nat → MS := match x with | none => H | some _ => recH n H S
theorem CS_none {D : gD} {w : Wd} {o : Nat} {S SN : MS} {hs : Int} {n : Nat} {H : Nat → MS} {tn : Nat} {ch : Nat → Int} {x : Option MS} (h : CS D w o S SN hs n H tn ch) (e : x = none) : CS D w o (nxS x S) SN hs (nxN x n) (nxH x n H S) tn ch := by
  subst e
  exact h
theorem CS_some {D : gD} {w : Wd} {o : Nat} {S S' SN : MS} {hs : Int} {n : Nat} {H : Nat → MS} {tn : Nat} {ch : Nat → Int} {x : Option MS} (h : CS D w o S' SN hs (recN n) (recH n H S) tn ch) (e : x = some S') : CS D w o (nxS x S) SN hs (nxN x n) (nxH x n H S) tn ch := by
  subst e
  exact h
theorem apF_cong {p : Int} {F nm nm' : Nat → Int} {s z i j : Nat} (h : ∀ q, q < 2 * z → nm q = nm' q) : apF p F nm s z i j = apF p F nm' s z i j := by
  funext k
  unfold apF
  split
  · rw [h _ (by omega), h _ (by omega)]
  · rfl
theorem apF_B {p : Int} {F nm : Nat → Int} {s z i j : Nat} (hp : 0 < p) (hF : CB p F) : CB p (apF p F nm s z i j) := by
  intro k hk
  unfold apF
  split
  · exact emod_R hp
  · exact hF k hk
def apX (S : MS) (tn : Nat) (ch : Nat → Int) (t e : Int) : Int := onLeaf S t e (-1) (fun s z => if rdF ch tn z (2 * z) ≠ -1 then -100 - rdF ch tn z (2 * z) else if S.1 ≤ mxF (rd ch tn z (2 * z)).2.2 (2 * z) then -2 else (rk S.1 (apF S.1 (S.2.1 t.toNat) (rd ch tn z (2 * z)).2.2 s z z 0) s z : Nat))
def apN (S : MS) (tn : Nat) (ch : Nat → Int) (t e : Int) : Option MS := onLeaf S t e none (fun s z => if rdF ch tn z (2 * z) ≠ -1 then none else if S.1 ≤ mxF (rd ch tn z (2 * z)).2.2 (2 * z) then none else some (S.1, fup S.2.1 t.toNat (apF S.1 (S.2.1 t.toNat) (rd ch tn z (2 * z)).2.2 s z z 0), S.2.2))
def spX (S : MS) (t e : Int) : Int := onLeaf S t e (-1) (fun s z => if z = 1 then -4 else cntP (cutF (S.2.2 t.toNat) s (z * z / 4) ((z : Int) / 2) 4) 64)
def spN (S : MS) (t e : Int) : Option MS := onLeaf S t e none (fun s z => if z = 1 then none else some (S.1, S.2.1, fup S.2.2 t.toNat (cutF (S.2.2 t.toNat) s (z * z / 4) ((z : Int) / 2) 4)))
abbrev four (g : Nat → Int) (s z : Nat) : Prop := ∀ q, q < 4 → g (s + q * (z * z)) = (z : Int)
def fst4 (s z : Nat) : Nat := s / (2 * z * (2 * z)) * (2 * z * (2 * z))
def jnF (g : Nat → Int) (s z : Nat) : Nat → Int := fup (mrgF g (fst4 s z) (2 * z * (2 * z))) (fst4 s z) ((2 * z : Nat) : Int)
def jnX (S : MS) (t e : Int) : Int := onLeaf S t e (-1) (fun s z => if z = 8 ∨ ¬ four (S.2.2 t.toNat) (fst4 s z) z then -4 else cntP (jnF (S.2.2 t.toNat) s z) (fst4 s z))
def jnN (S : MS) (t e : Int) : Option MS := onLeaf S t e none (fun s z => if z = 8 ∨ ¬ four (S.2.2 t.toNat) (fst4 s z) z then none else some (S.1, S.2.1, fup S.2.2 t.toNat (jnF (S.2.2 t.toNat) s z)))
theorem cntN_0 {f g : Nat → Int} : ∀ {n : Nat}, cntN f g n = 0 ↔ ∀ j, j < n → f j = g j
  | 0 => ⟨fun _ j hj => absurd hj (by omega), fun _ => rfl⟩
  | n + 1 => by
    have h := cntN_R f g n
    have ih := cntN_0 (f := f) (g := g) (n := n)
    show cntN f g n + (if f n = g n then 0 else 1) = 0 ↔ _
    constructor
    · intro q j hj
      split at q
      · rcases (show j < n ∨ j = n by omega) with a | a
        · exact ih.mp (by omega) j a
        · rw [a]
          assumption
      · omega
    · intro q
      rw [ih.mpr (fun j hj => q j (by omega)), if_pos (q n (by omega))]
      rfl
def rcX (S : MS) (t : Int) : Int := if 0 ≤ t ∧ t < 4 then (if cntN (lv S.1 (S.2.1 t.toNat) 3) (S.2.2 t.toNat) 64 = 0 then -5 else best S.1 (S.2.1 t.toNat) 3 0) else -1
def rcNx (S : MS) (t : Int) : Option MS := if 0 ≤ t ∧ t < 4 then (if cntN (lv S.1 (S.2.1 t.toNat) 3) (S.2.2 t.toNat) 64 = 0 then none else some (S.1, S.2.1, fup S.2.2 t.toNat (lv S.1 (S.2.1 t.toNat) 3))) else none
theorem lv_WF {p : Int} {F : Nat → Int} : ∀ {k : Nat} (j : Nat), k < 4 → lv p F k j = 0 ∨ ∃ i, i < 4 ∧ lv p F k j = (2 ^ i : Nat) ∧ j % (2 ^ i * 2 ^ i) = 0
  | 0, j, _ => Or.inr ⟨0, by omega, rfl, Nat.mod_one j⟩
  | k + 1, j, hk => by
    show (if _ < _ then lv p F k j else if j = j / 4 ^ (k + 1) * 4 ^ (k + 1) then ((2 ^ (k + 1) : Nat) : Int) else 0) = 0 ∨ ∃ i, i < 4 ∧ (if _ < _ then lv p F k j else if j = j / 4 ^ (k + 1) * 4 ^ (k + 1) then ((2 ^ (k + 1) : Nat) : Int) else 0) = (2 ^ i : Nat) ∧ j % (2 ^ i * 2 ^ i) = 0
    split
    · exact lv_WF j (by omega)
    · split
      · refine Or.inr ⟨k + 1, hk, rfl, ?_⟩
        rw [show 2 ^ (k + 1) * 2 ^ (k + 1) = 4 ^ (k + 1) by rw [← Nat.mul_pow]]
        rename_i q
        rw [q]
        exact Nat.mul_mod_left _ _
      · exact Or.inl rfl
theorem lv_WFg {p : Int} {F : Nat → Int} : WFg (lv p F 3) := fun s _ => lv_WF s (by omega)
theorem cutF_at (g : Nat → Int) (s d : Nat) (h : Int) : ∀ (n j : Nat), cutF g s d h n j = g j ∨ (cutF g s d h n j = h ∧ ∃ q, q < n ∧ j = s + q * d)
  | 0, j => Or.inl rfl
  | n + 1, j => by
    rcases cutF_at g s d h n j with a | ⟨a, q, b, c⟩
    · by_cases e : j = s + n * d
      · refine Or.inr ⟨?_, n, by omega, e⟩
        show fup (cutF g s d h n) (s + n * d) h j = h
        rw [e, fup_s]
      · left
        show fup (cutF g s d h n) (s + n * d) h j = g j
        rw [fup_n e]
        exact a
    · refine Or.inr ⟨?_, q, by omega, c⟩
      show fup (cutF g s d h n) (s + n * d) h j = h
      by_cases e : j = s + n * d
      · rw [e, fup_s]
      · rw [fup_n e]
        exact a
theorem cut_tab : ∀ k : Nat, k < 3 → 2 ^ (k + 1) * 2 ^ (k + 1) / 4 = 2 ^ k * 2 ^ k ∧ ((2 ^ (k + 1) : Nat) : Int) / 2 = (2 ^ k : Nat) ∧ 2 ^ (k + 1) * 2 ^ (k + 1) = 4 * (2 ^ k * 2 ^ k) := by decide +kernel
theorem cut_WFg {g : Nat → Int} (hg : WFg g) {k z s : Nat} (hk : k < 4) (hz : z = 2 ^ k) (hz2 : 2 ≤ z) (hs : s < 64) (hgz : g s = (z : Int)) (hm : s % (z * z) = 0) : WFg (cutF g s (z * z / 4) ((z : Int) / 2) 4) := by
  intro j hj
  rcases cutF_at g s (z * z / 4) ((z : Int) / 2) 4 j with a | ⟨a, q, b, c⟩
  · rw [a]
    exact hg j hj
  · rw [a]
    right
    cases k with
    | zero => rw [hz] at hz2; exact absurd hz2 (by decide)
    | succ k =>
      obtain ⟨t1, t2, t3⟩ := cut_tab k (by omega)
      refine ⟨k, by omega, by rw [hz]; exact t2, ?_⟩
      rw [c, hz, t1]
      rw [hz, t3] at hm
      have hd : 2 ^ k * 2 ^ k ∣ s := Nat.dvd_trans (Nat.dvd_mul_left _ 4) (Nat.dvd_of_mod_eq_zero hm)
      exact Nat.mod_eq_zero_of_dvd (Nat.dvd_add hd (Nat.dvd_mul_left _ _))
theorem jn_WFg {g : Nat → Int} (hg : WFg g) {k z s : Nat} (hk : k < 3) (hz : z = 2 ^ k) : WFg (jnF g s z) := by
  intro j hj
  unfold jnF
  by_cases e : j = fst4 s z
  · rw [e, fup_s]
    right
    refine ⟨k + 1, by omega, by rw [hz, Nat.pow_succ, Nat.mul_comm], ?_⟩
    unfold fst4
    rw [hz, show 2 ^ (k + 1) = 2 * 2 ^ k by rw [Nat.pow_succ, Nat.mul_comm]]
    exact Nat.mul_mod_left _ _
  · rw [fup_n e]
    unfold mrgF
    split
    · exact Or.inl rfl
    · exact hg j hj
theorem fst4_tab : ∀ k : Nat, k < 3 → ∀ s : Nat, s < 64 → s / (2 * 2 ^ k * (2 * 2 ^ k)) * (2 * 2 ^ k * (2 * 2 ^ k)) + 2 * 2 ^ k * (2 * 2 ^ k) ≤ 64 := by decide +kernel
theorem pow_le4 : ∀ k : Nat, k < 3 → 2 ^ k ≤ 4 := by decide
theorem fst4_in {k z s : Nat} (hk : k < 3) (hz : z = 2 ^ k) (hs : s < 64) : fst4 s z + 2 * z * (2 * z) ≤ 64 := by
  unfold fst4
  rw [hz]
  exact fst4_tab k hk s hs
theorem fst4_le {z s : Nat} : fst4 s z ≤ s := Nat.div_mul_le_self _ _
theorem four_of {g : Nat → Int} {s z : Nat} (h : ∀ q : Int, 0 ≤ q → q < 4 → gAt g (s + q * ((z : Int) * z)) = z) (hs : s + 2 * z * (2 * z) ≤ 64) (hz : 1 ≤ z) : four g s z := by
  intro q hq
  have h1 := h q (by omega) (by omega)
  have hb : q * (z * z) < 4 * (z * z) := Nat.mul_lt_mul_of_pos_right hq (Nat.mul_pos hz hz)
  have e4 : 2 * z * (2 * z) = 4 * (z * z) := by rw [Nat.mul_mul_mul_comm]
  have e : ((s : Int) + (q : Int) * ((z : Int) * z)) = ((s + q * (z * z) : Nat) : Int) := by push_cast; rfl
  rw [e] at h1
  unfold gAt at h1
  rw [if_pos (by omega)] at h1
  exact h1
theorem four_not {g : Nat → Int} {s z : Nat} (h : ∃ q : Int, 0 ≤ q ∧ q < 4 ∧ gAt g (s + q * ((z : Int) * z)) ≠ z) (hs : s + 2 * z * (2 * z) ≤ 64) (hz : 1 ≤ z) : ¬ four g s z := by
  obtain ⟨q, h0, h3, hn⟩ := h
  obtain ⟨i, rfl⟩ := Int.eq_ofNat_of_zero_le h0
  intro hf
  apply hn
  have hb : i * (z * z) < 4 * (z * z) := Nat.mul_lt_mul_of_pos_right (by omega) (Nat.mul_pos hz hz)
  have e4 : 2 * z * (2 * z) = 4 * (z * z) := by rw [Nat.mul_mul_mul_comm]
  rw [show ((s : Int) + (i : Int) * ((z : Int) * z)) = ((s + i * (z * z) : Nat) : Int) by push_cast; rfl]
  unfold gAt
  rw [if_pos (by omega)]
  exact hf i (by omega)

set_option maxRecDepth 100000 in
set_option maxHeartbeats 4000000 in
theorem c_X6_addProduct {l : Launch} {D : gD} {σ : Wd} {o n tn : Nat} {hs : Int} {S SN : MS} {H : Nat → MS} {ch : Nat → Int} {t e : Int} (h0 : CS D σ o S SN hs n H tn ch) (hWS : WS S) (ht : R32 t) (he : R32 e) : KX6_addProduct l D [.ref o, vi t, vi e] σ (fun x σ' => x = apX S tn ch t e ∧ OffR o (o + 128) σ σ' ∧ CS D σ' o (nxS (apN S tn ch t e) S) SN hs (nxN (apN S tn ch t e) n) (nxH (apN S tn ch t e) n H S) tn ch) := by
  obtain ⟨h1, h2, h3, ⟨fH, h4⟩, h5, h6, ⟨gT, h7⟩, ⟨cL, h8⟩, ⟨cR, h9⟩⟩ := id h0
  have hlo := primeB_lo hWS.1
  have hg := fun t ht => (hWS.2 t ht).2
  have hF := fun t ht => (hWS.2 t ht).1
  obtain ⟨pl0, nr0, tg0, lf0, rt0, op0, nm0, hx⟩ := id h5
  refine sp_of (by decide +kernel) (cat1 rfl) (Nat.le_of_ble_eq_true rfl) [some (.ref o), some (vi t), some (vi e), none, none, none, none] rfl (fun sz => ?_)
  refine j_aload_n dX6_addProduct_0 rfl ?_
  refine j_iload_n dX6_addProduct_1 rfl ?_
  refine j_iload_n dX6_addProduct_2 rfl ?_
  refine cl_X6_90 (As := [_, _]) rfl dX6_addProduct_3 (c_X6_leafStart h1 h2 hg ht he) h1 rfl ⟨by decide, by decide⟩ (Nat.le_of_ble_eq_true rfl) ⟨Nat.zero_le _, Nat.zero_le _⟩ (fun z3 σ3 hz3 => ?_)
  obtain ⟨hd3, hs3⟩ := hz3
  have hs3 := Eq.symm hs3
  subst hs3
  have e3 := lstT_of hd3
  subst e3
  have hlR := lstT_R S t e
  refine j_istore_n dX6_addProduct_6 (by decide) (by dsimp only [List.set] <;> rfl) ?_
  refine j_iload_n dX6_addProduct_7 rfl ?_
  refine j_iconst dX6_addProduct_8 ?_
  refine j_icmp_ne (tgt := 14) dX6_addProduct_9 (by decide) (rs (by omega) (by omega)) ⟨by omega, by omega⟩ (fun h9 => ?_) (fun h9 => ?_)
  · skip
    obtain ⟨s, z, k, est, ht0, ht3, hs64, hgz, hzk, hk, hok, hz1, hz8, hsz, hmod⟩ := lstT_leaf hg h9
    rw [est]
    refine j_aload_n dX6_addProduct_14 rfl ?_
    refine gf_X6_12 rfl dX6_addProduct_15 h1 rfl ?_
    refine j_iload_n dX6_addProduct_18 rfl ?_
    refine cl_X6_76 (As := [_]) rfl dX6_addProduct_19 (c_X2_tableOf h2.1 h2.2.1 (by omega) (by omega)) h2.1 rfl ⟨by decide, by decide⟩ (Nat.le_of_ble_eq_true rfl) ⟨Nat.zero_le _, Nat.zero_le _⟩ (fun z19 σ19 hz19 => ?_)
    obtain ⟨hr19, hs19⟩ := hz19
    have hr19 := Eq.symm hr19
    have hs19 := Eq.symm hs19
    subst hr19
    subst hs19
    have htb := h2.2.2 t.toNat (by omega)
    refine j_astore dX6_addProduct_22 (by decide) (by dsimp only [List.set] <;> rfl) ?_
    refine j_aload dX6_addProduct_24 rfl ?_
    refine gf_X6_93 rfl dX6_addProduct_26 htb.1 rfl ?_
    refine j_iload_n dX6_addProduct_29 rfl ?_
    refine cl_X6_96 (As := [_]) rfl dX6_addProduct_30 (c_X5_sizeAt htb.2.2.1 htb.2.2.2 (rs (by omega) (by omega))) htb.2.2.1 rfl ⟨by decide, by decide⟩ (Nat.le_of_ble_eq_true rfl) ⟨Nat.zero_le _, Nat.zero_le _⟩ (fun z30 σ30 hz30 => ?_)
    obtain ⟨hr30, hs30⟩ := hz30
    have hs30 := Eq.symm hs30
    subst hs30
    have hr30 : z30 = (z : Int) := by rw [hr30, if_pos (by omega)]; exact hgz
    subst hr30
    refine j_istore dX6_addProduct_33 (by decide) (by dsimp only [List.set] <;> rfl) ?_
    refine j_aload_n dX6_addProduct_35 rfl ?_
    refine gf_X6_29 rfl dX6_addProduct_36 h1 rfl ?_
    refine j_iconst dX6_addProduct_39 ?_
    refine j_iload dX6_addProduct_40 rfl ?_
    refine cl_X6_100 (As := [_, _]) rfl dX6_addProduct_42 (c_X4_readRows (rows := 2) (z := z) hx (by omega)) hx.1 rfl ⟨by decide, by decide⟩ (Nat.le_of_ble_eq_true rfl) ⟨Nat.zero_le _, Nat.zero_le _⟩ (fun z42 σ42 hz42 => ?_)
    obtain ⟨hr42, ho42, pl1, nr1, nm1, hx1, hok1⟩ := hz42
    have hr42 : z42 = rdF ch tn z (2 * z) := hr42
    have hrl := rd_le ch tn z (2 * z)
    have hrdR : R32 (rdF ch tn z (2 * z)) := by
      unfold rdF
      split <;> exact rs (by omega) (by omega)
    have hoR := ho42.toR (lo := o + 111) (hi := o + 114) (by simp)
    have k42 := h0.tx hoR ⟨_, _, _, _, _, _, _, hx1⟩
    have hrdB := fun j => rd_B (ch := ch) (n := tn) (z := z) (2 * z) j
    refine j_istore dX6_addProduct_45 (by decide) (by dsimp only [List.set] <;> rfl) ?_
    refine j_iload dX6_addProduct_47 rfl ?_
    refine j_iconst dX6_addProduct_49 ?_
    refine j_icmp_eq (tgt := 59) dX6_addProduct_50 (by decide) (by rw [hr42]; exact hrdR) ⟨by omega, by omega⟩ (fun h50 => ?_) (fun h50 => ?_)
    · skip
      rw [hr42] at h50
      obtain ⟨hn1, hag1⟩ := hok1 (hr42.trans h50)
      subst hn1
      have hmx : mxF nm1 (2 * z) = mxF (rd ch tn z (2 * z)).2.2 (2 * z) := mxF_cong hag1
      have hmR := mxF_R (f := nm1) (b := 999) (by omega) (n := 2 * z) (fun j hj => by rw [hag1 j hj]; exact (hrdB j).2)
      refine j_aload_n dX6_addProduct_59 rfl ?_
      refine gf_X6_29 rfl dX6_addProduct_60 k42.1 rfl ?_
      refine cl_X6_103 (As := []) rfl dX6_addProduct_63 (c_X4_greatestNumber hx1 (by omega) (fun j hj => by rw [hag1 j hj]; exact hrdB j)) hx1.1 rfl ⟨by decide, by decide⟩ (Nat.le_of_ble_eq_true rfl) ⟨Nat.zero_le _, Nat.zero_le _⟩ (fun z63 σ63 hz63 => ?_)
      obtain ⟨hr63, hs63⟩ := hz63
      have hr63 := Eq.symm hr63
      have hs63 := Eq.symm hs63
      subst hr63
      subst hs63
      refine j_aload_n dX6_addProduct_66 rfl ?_
      refine gf_X6_12 rfl dX6_addProduct_67 k42.1 rfl ?_
      refine gf_X6_58 rfl dX6_addProduct_70 k42.2.1.1 rfl ?_
      refine j_icmp_lt (tgt := 79) dX6_addProduct_73 (by decide) (rs (by omega) (by omega)) (rs (by omega) (by omega)) (fun h73 => ?_) (fun h73 => ?_)
      · skip
        refine j_aload_n dX6_addProduct_79 rfl ?_
        refine gf_X6_22 rfl dX6_addProduct_80 k42.1 rfl ?_
        refine j_aload_n dX6_addProduct_83 rfl ?_
        refine gf_X6_12 rfl dX6_addProduct_84 k42.1 rfl ?_
        obtain ⟨g1, g2, g3, ⟨fG, g4⟩, g5, g6, ⟨gG, g7⟩, ⟨dL, g8⟩, ⟨dR, g9⟩⟩ := id k42
        refine cl_X6_62 (As := [_]) rfl dX6_addProduct_87 (c_X1_record g4 g2 (by omega)) g4.1 rfl ⟨by decide, by decide⟩ (Nat.le_of_ble_eq_true rfl) ⟨Nat.zero_le _, Nat.zero_le _⟩ (fun σ87 hz87 => ?_)
        obtain ⟨ho87, f87, hk87⟩ := hz87
        have c87 := k42.hist ho87 ⟨f87, hk87⟩
        have hx2 := hx1.moved ho87 (by omega)
        have hall := ((mxF_le (f := nm1) (b := S.1) (by omega) (2 * z)).mp (by omega)).2
        refine j_aload_n dX6_addProduct_90 rfl ?_
        refine j_aload dX6_addProduct_91 rfl ?_
        refine j_iload_n dX6_addProduct_93 rfl ?_
        refine j_iload dX6_addProduct_94 rfl ?_
        refine cl_X6_107 (As := [_, _, _]) rfl dX6_addProduct_96 (c_X6_addRowsOfText c87.1 c87.2.1 hx2 (by omega) hWS.1 (hF t.toNat (by omega)) hok (fun j hj => ⟨by rw [hag1 j hj]; exact (hrdB j).1, hall j hj⟩)) c87.1 rfl ⟨by decide, by decide⟩ (Nat.le_of_ble_eq_true rfl) ⟨Nat.zero_le _, Nat.zero_le _⟩ (fun σ96 hz96 => ?_)
        obtain ⟨ho96, hs96⟩ := hz96
        rw [apF_cong hag1] at hs96
        have c96 := c87.now ho96 hs96
        refine j_aload_n dX6_addProduct_99 rfl ?_
        refine j_aload dX6_addProduct_100 rfl ?_
        refine j_iload_n dX6_addProduct_102 rfl ?_
        refine j_iload dX6_addProduct_103 rfl ?_
        refine cl_X6_111 (As := [_, _, _]) rfl dX6_addProduct_105 (c_X6_blockRank (t := t.toNat) c96.1 hs96 c96.2.2.2.2.2.1 (by omega) hWS.1 (by show CB S.1 (fup S.2.1 t.toNat _ t.toNat); rw [fup_s]; exact apF_B (by omega) (hF t.toNat (by omega))) hok) c96.1 rfl ⟨by decide, by decide⟩ (Nat.le_of_ble_eq_true rfl) ⟨Nat.zero_le _, Nat.zero_le _⟩ (fun z105 σ105 hz105 => ?_)
        obtain ⟨hr105, ho105, he105⟩ := hz105
        have c105 := c96.el ho105 he105
        have hr105 : z105 = (rk S.1 (fup S.2.1 t.toNat (apF S.1 (S.2.1 t.toNat) (rd ch tn z (2 * z)).2.2 s z z 0) t.toNat) s z : Nat) := hr105
        rw [fup_s] at hr105
        exact j_iret dX6_addProduct_108 ⟨_, rfl, by unfold apX; rw [onLeaf_y est hgz, if_neg (fun q => q h50), if_neg (by omega)]; exact hr105, (((hoR.mono (by omega) (by omega)).tr (ho87.mono (by omega) (by omega))).tr (ho96.mono (by omega) (by omega))).tr (ho105.mono (by omega) (by omega)), CS_some c105 (by unfold apN; rw [onLeaf_y est hgz, if_neg (fun q => q h50), if_neg (by omega)])⟩
      · skip
        refine j_bipush dX6_addProduct_76 (by decide) ?_
        exact j_iret dX6_addProduct_78 ⟨_, rfl, by unfold apX; rw [onLeaf_y est hgz, if_neg (fun q => q h50), if_pos (by omega)], hoR.mono (by omega) (by omega), CS_none k42 (by unfold apN; rw [onLeaf_y est hgz, if_neg (fun q => q h50), if_pos (by omega)])⟩
    · skip
      rw [hr42]
      rw [hr42] at h50
      refine j_bipush dX6_addProduct_53 (by decide) ?_
      refine j_iload dX6_addProduct_55 rfl ?_
      refine j_isub dX6_addProduct_57 ?_
      exact j_iret dX6_addProduct_58 ⟨_, rfl, by unfold apX; rw [onLeaf_y est hgz, if_pos h50], hoR.mono (by omega) (by omega), CS_none k42 (by unfold apN; rw [onLeaf_y est hgz, if_pos h50])⟩
  · skip
    refine j_iconst dX6_addProduct_12 ?_
    exact j_iret dX6_addProduct_13 ⟨_, rfl, by unfold apX; exact (onLeaf_n h9).symm, OffR.rf, CS_none h0 (onLeaf_n h9)⟩
set_option maxRecDepth 100000 in
set_option maxHeartbeats 4000000 in
theorem c_X6_split {l : Launch} {D : gD} {σ : Wd} {o n tn : Nat} {hs : Int} {S SN : MS} {H : Nat → MS} {ch : Nat → Int} {t e : Int} (h0 : CS D σ o S SN hs n H tn ch) (hWS : WS S) (ht : R32 t) (he : R32 e) : KX6_split l D [.ref o, vi t, vi e] σ (fun x σ' => x = spX S t e ∧ OffR o (o + 128) σ σ' ∧ CS D σ' o (nxS (spN S t e) S) SN hs (nxN (spN S t e) n) (nxH (spN S t e) n H S) tn ch) := by
  obtain ⟨h1, h2, h3, ⟨fH, h4⟩, h5, h6, ⟨gT, h7⟩, ⟨cL, h8⟩, ⟨cR, h9⟩⟩ := id h0
  have hlo := primeB_lo hWS.1
  have hg := fun t ht => (hWS.2 t ht).2
  have hF := fun t ht => (hWS.2 t ht).1
  refine sp_of (by decide +kernel) (cat1 rfl) (Nat.le_of_ble_eq_true rfl) [some (.ref o), some (vi t), some (vi e), none, none] rfl (fun sz => ?_)
  refine j_aload_n dX6_split_0 rfl ?_
  refine j_iload_n dX6_split_1 rfl ?_
  refine j_iload_n dX6_split_2 rfl ?_
  refine cl_X6_90 (As := [_, _]) rfl dX6_split_3 (c_X6_leafStart h1 h2 hg ht he) h1 rfl ⟨by decide, by decide⟩ (Nat.le_of_ble_eq_true rfl) ⟨Nat.zero_le _, Nat.zero_le _⟩ (fun z3 σ3 hz3 => ?_)
  obtain ⟨hd3, hs3⟩ := hz3
  have hs3 := Eq.symm hs3
  subst hs3
  have e3 := lstT_of hd3
  subst e3
  have hlR := lstT_R S t e
  refine j_istore_n dX6_split_6 (by decide) (by dsimp only [List.set] <;> rfl) ?_
  refine j_iload_n dX6_split_7 rfl ?_
  refine j_iconst dX6_split_8 ?_
  refine j_icmp_ne (tgt := 14) dX6_split_9 (by decide) (rs (by omega) (by omega)) ⟨by omega, by omega⟩ (fun h9 => ?_) (fun h9 => ?_)
  · skip
    obtain ⟨s, z, k, est, ht0, ht3, hs64, hgz, hzk, hk, hok, hz1, hz8, hsz, hmod⟩ := lstT_leaf hg h9
    rw [est]
    refine j_aload_n dX6_split_14 rfl ?_
    refine gf_X6_12 rfl dX6_split_15 h1 rfl ?_
    refine j_iload_n dX6_split_18 rfl ?_
    refine cl_X6_76 (As := [_]) rfl dX6_split_19 (c_X2_tableOf h2.1 h2.2.1 (by omega) (by omega)) h2.1 rfl ⟨by decide, by decide⟩ (Nat.le_of_ble_eq_true rfl) ⟨Nat.zero_le _, Nat.zero_le _⟩ (fun z19 σ19 hz19 => ?_)
    obtain ⟨hr19, hs19⟩ := hz19
    have hr19 := Eq.symm hr19
    have hs19 := Eq.symm hs19
    subst hr19
    subst hs19
    have htb := h2.2.2 t.toNat (by omega)
    refine gf_X6_93 rfl dX6_split_22 htb.1 rfl ?_
    refine j_astore dX6_split_25 (by decide) (by dsimp only [List.set] <;> rfl) ?_
    refine j_aload dX6_split_27 rfl ?_
    refine j_iload_n dX6_split_29 rfl ?_
    refine cl_X6_96 (As := [_]) rfl dX6_split_30 (c_X5_sizeAt htb.2.2.1 htb.2.2.2 (rs (by omega) (by omega))) htb.2.2.1 rfl ⟨by decide, by decide⟩ (Nat.le_of_ble_eq_true rfl) ⟨Nat.zero_le _, Nat.zero_le _⟩ (fun z30 σ30 hz30 => ?_)
    obtain ⟨hr30, hs30⟩ := hz30
    have hs30 := Eq.symm hs30
    subst hs30
    have hr30 : z30 = (z : Int) := by rw [hr30, if_pos (by omega)]; exact hgz
    subst hr30
    refine j_iconst dX6_split_33 ?_
    refine j_icmp_ne (tgt := 40) dX6_split_34 (by decide) ⟨by omega, by omega⟩ ⟨by omega, by omega⟩ (fun h34 => ?_) (fun h34 => ?_)
    · skip
      refine j_aload_n dX6_split_40 rfl ?_
      refine gf_X6_22 rfl dX6_split_41 h1 rfl ?_
      refine j_aload_n dX6_split_44 rfl ?_
      refine gf_X6_12 rfl dX6_split_45 h1 rfl ?_
      refine cl_X6_62 (As := [_]) rfl dX6_split_48 (c_X1_record h4 h2 (by omega)) h4.1 rfl ⟨by decide, by decide⟩ (Nat.le_of_ble_eq_true rfl) ⟨Nat.zero_le _, Nat.zero_le _⟩ (fun σ48 hz48 => ?_)
      obtain ⟨ho48, f48, hk48⟩ := hz48
      have c48 := h0.hist ho48 ⟨f48, hk48⟩
      have htc := c48.2.1.2.2 t.toNat (by omega)
      refine j_aload dX6_split_51 rfl ?_
      refine j_iload_n dX6_split_53 rfl ?_
      refine cl_X6_153 (As := [_]) rfl dX6_split_54 (c_X5_cut htc.2.2.1 htc.2.2.2 hsz hgz (by omega) hz8) htc.2.2.1 rfl ⟨by decide, by decide⟩ (Nat.le_of_ble_eq_true rfl) ⟨Nat.zero_le _, Nat.zero_le _⟩ (fun σ54 hz54 => ?_)
      obtain ⟨ho54, hi54⟩ := hz54
      have s54 := c48.2.1.sizes (by omega) ho54 hi54
      have ho54R := ho54.toR (lo := o + 1) (hi := o + 19) (by simp; omega)
      have c54 := c48.now ho54R s54
      have htd := s54.2.2 t.toNat (by omega)
      have hq := cut_WFg (hg t.toNat (by omega)) hk hzk (by omega) hs64 hgz hmod
      refine j_aload dX6_split_57 rfl ?_
      refine cl_X6_156 (As := []) rfl dX6_split_59 (c_X5_leaves htd.2.2.1 hi54 hq.R) htd.2.2.1 rfl ⟨by decide, by decide⟩ (Nat.le_of_ble_eq_true rfl) ⟨Nat.zero_le _, Nat.zero_le _⟩ (fun z59 σ59 hz59 => ?_)
      obtain ⟨hr59, hs59⟩ := hz59
      have hr59 := Eq.symm hr59
      have hs59 := Eq.symm hs59
      subst hr59
      subst hs59
      exact j_iret dX6_split_62 ⟨_, rfl, by unfold spX; rw [onLeaf_y est hgz, if_neg (by omega)], (ho48.mono (by omega) (by omega)).tr (ho54R.mono (by omega) (by omega)), CS_some c54 (by unfold spN; rw [onLeaf_y est hgz, if_neg (by omega)])⟩
    · skip
      refine j_bipush dX6_split_37 (by decide) ?_
      exact j_iret dX6_split_39 ⟨_, rfl, by unfold spX; rw [onLeaf_y est hgz, if_pos (by omega)], OffR.rf, CS_none h0 (by unfold spN; rw [onLeaf_y est hgz, if_pos (by omega)])⟩
  · skip
    refine j_iconst dX6_split_12 ?_
    exact j_iret dX6_split_13 ⟨_, rfl, by unfold spX; exact (onLeaf_n h9).symm, OffR.rf, CS_none h0 (onLeaf_n h9)⟩
set_option maxRecDepth 100000 in
set_option maxHeartbeats 4000000 in
theorem c_X6_join {l : Launch} {D : gD} {σ : Wd} {o n tn : Nat} {hs : Int} {S SN : MS} {H : Nat → MS} {ch : Nat → Int} {t e : Int} (h0 : CS D σ o S SN hs n H tn ch) (hWS : WS S) (ht : R32 t) (he : R32 e) : KX6_join l D [.ref o, vi t, vi e] σ (fun x σ' => x = jnX S t e ∧ OffR o (o + 128) σ σ' ∧ CS D σ' o (nxS (jnN S t e) S) SN hs (nxN (jnN S t e) n) (nxH (jnN S t e) n H S) tn ch) := by
  obtain ⟨h1, h2, h3, ⟨fH, h4⟩, h5, h6, ⟨gT, h7⟩, ⟨cL, h8⟩, ⟨cR, h9⟩⟩ := id h0
  have hlo := primeB_lo hWS.1
  have hg := fun t ht => (hWS.2 t ht).2
  have hF := fun t ht => (hWS.2 t ht).1
  refine sp_of (by decide +kernel) (cat1 rfl) (Nat.le_of_ble_eq_true rfl) [some (.ref o), some (vi t), some (vi e), none, none, none, none] rfl (fun sz => ?_)
  refine j_aload_n dX6_join_0 rfl ?_
  refine j_iload_n dX6_join_1 rfl ?_
  refine j_iload_n dX6_join_2 rfl ?_
  refine cl_X6_90 (As := [_, _]) rfl dX6_join_3 (c_X6_leafStart h1 h2 hg ht he) h1 rfl ⟨by decide, by decide⟩ (Nat.le_of_ble_eq_true rfl) ⟨Nat.zero_le _, Nat.zero_le _⟩ (fun z3 σ3 hz3 => ?_)
  obtain ⟨hd3, hs3⟩ := hz3
  have hs3 := Eq.symm hs3
  subst hs3
  have e3 := lstT_of hd3
  subst e3
  have hlR := lstT_R S t e
  refine j_istore_n dX6_join_6 (by decide) (by dsimp only [List.set] <;> rfl) ?_
  refine j_iload_n dX6_join_7 rfl ?_
  refine j_iconst dX6_join_8 ?_
  refine j_icmp_ne (tgt := 14) dX6_join_9 (by decide) (rs (by omega) (by omega)) ⟨by omega, by omega⟩ (fun h9 => ?_) (fun h9 => ?_)
  · skip
    obtain ⟨s, z, k, est, ht0, ht3, hs64, hgz, hzk, hk, hok, hz1, hz8, hsz, hmod⟩ := lstT_leaf hg h9
    rw [est]
    refine j_aload_n dX6_join_14 rfl ?_
    refine gf_X6_12 rfl dX6_join_15 h1 rfl ?_
    refine j_iload_n dX6_join_18 rfl ?_
    refine cl_X6_76 (As := [_]) rfl dX6_join_19 (c_X2_tableOf h2.1 h2.2.1 (by omega) (by omega)) h2.1 rfl ⟨by decide, by decide⟩ (Nat.le_of_ble_eq_true rfl) ⟨Nat.zero_le _, Nat.zero_le _⟩ (fun z19 σ19 hz19 => ?_)
    obtain ⟨hr19, hs19⟩ := hz19
    have hr19 := Eq.symm hr19
    have hs19 := Eq.symm hs19
    subst hr19
    subst hs19
    have htb := h2.2.2 t.toNat (by omega)
    refine gf_X6_93 rfl dX6_join_22 htb.1 rfl ?_
    refine j_astore dX6_join_25 (by decide) (by dsimp only [List.set] <;> rfl) ?_
    refine j_aload dX6_join_27 rfl ?_
    refine j_iload_n dX6_join_29 rfl ?_
    refine cl_X6_96 (As := [_]) rfl dX6_join_30 (c_X5_sizeAt htb.2.2.1 htb.2.2.2 (rs (by omega) (by omega))) htb.2.2.1 rfl ⟨by decide, by decide⟩ (Nat.le_of_ble_eq_true rfl) ⟨Nat.zero_le _, Nat.zero_le _⟩ (fun z30 σ30 hz30 => ?_)
    obtain ⟨hr30, hs30⟩ := hz30
    have hs30 := Eq.symm hs30
    subst hs30
    have hr30 : z30 = (z : Int) := by rw [hr30, if_pos (by omega)]; exact hgz
    subst hr30
    refine j_istore dX6_join_33 (by decide) (by dsimp only [List.set] <;> rfl) ?_
    refine j_iload_n dX6_join_35 rfl ?_
    refine j_iconst dX6_join_36 ?_
    refine j_iload dX6_join_37 rfl ?_
    refine j_imul dX6_join_39 ?_
    have e2k : 2 ^ (k + 1) = 2 * z := by rw [Nat.pow_succ, Nat.mul_comm, ← hzk]
    have hK := c_X5_startOfBlock (l := l) (D := D) (σ := σ) (s := s) (k := k + 1) hs64 (by omega)
    rw [e2k] at hK
    refine cl_X6_159 (As := [_, _]) rfl dX6_join_40 (hK) rfl ⟨by decide, by decide⟩ (Nat.le_of_ble_eq_true rfl) ⟨Nat.zero_le _, Nat.zero_le _⟩ (fun z40 σ40 hz40 => ?_)
    obtain ⟨hr40, hs40⟩ := hz40
    have hr40 := Eq.symm hr40
    have hs40 := Eq.symm hs40
    subst hr40
    subst hs40
    have hfl := fst4_le (z := z) (s := s)
    change J l D _ _ _ _ _ sz _ _ _ _ _ _ (vi ((fst4 s z : Nat) : Int) :: _) _
    refine j_istore dX6_join_43 (by decide) (by dsimp only [List.set] <;> rfl) ?_
    refine j_iload dX6_join_45 rfl ?_
    refine j_bipush dX6_join_47 (by decide) ?_
    refine j_icmp_eq (tgt := 64) dX6_join_49 (by decide) ⟨by omega, by omega⟩ ⟨by omega, by omega⟩ (fun h49 => ?_) (fun h49 => ?_)
    · skip
      have hbad : z = 8 ∨ ¬ four (S.2.2 t.toNat) (fst4 s z) z := Or.inl (by omega)
      refine j_bipush dX6_join_64 (by decide) ?_
      exact j_iret dX6_join_66 ⟨_, rfl, by unfold jnX; rw [onLeaf_y est hgz, if_pos hbad], OffR.rf, CS_none h0 (by unfold jnN; rw [onLeaf_y est hgz, if_pos hbad])⟩
    · skip
      have hk3 : k < 3 := by
        rcases (show k < 3 ∨ k = 3 by omega) with q | q
        · exact q
        · exact absurd (show z = 8 by rw [hzk, q]) (by omega)
      have hfi := fst4_in hk3 hzk hs64
      have hz4 : z ≤ 4 := by rw [hzk]; exact pow_le4 k hk3
      have e4 : 2 * z * (2 * z) = 4 * (z * z) := by rw [Nat.mul_mul_mul_comm]
      refine j_aload dX6_join_52 rfl ?_
      refine j_iload dX6_join_54 rfl ?_
      refine j_iload dX6_join_56 rfl ?_
      refine cl_X6_162 (As := [_, _]) rfl dX6_join_58 (c_X5_hasFourLeaves htb.2.2.1 htb.2.2.2 (hg t.toNat (by omega)).R (by omega) (by omega) (by omega) (by omega)) htb.2.2.1 rfl ⟨by decide, by decide⟩ (Nat.le_of_ble_eq_true rfl) ⟨Nat.zero_le _, Nat.zero_le _⟩ (fun z58 σ58 hz58 => ?_)
      obtain ⟨hd58, hs58⟩ := hz58
      have hs58 := Eq.symm hs58
      subst hs58
      refine j_if_ne (tgt := 67) dX6_join_61 (by decide) (by rcases hd58 with q | q <;> exact rs (by have := q.1; omega) (by have := q.1; omega)) (fun h61 => ?_) (fun h61 => ?_)
      · skip
        have hgood : ¬ (z = 8 ∨ ¬ four (S.2.2 t.toNat) (fst4 s z) z) := by
          rcases hd58 with q | q
          · intro a
            rcases a with a | a
            · omega
            · exact a (four_of q.2 hfi hz1)
          · exact absurd q.1 h61
        refine j_aload_n dX6_join_67 rfl ?_
        refine gf_X6_22 rfl dX6_join_68 h1 rfl ?_
        refine j_aload_n dX6_join_71 rfl ?_
        refine gf_X6_12 rfl dX6_join_72 h1 rfl ?_
        refine cl_X6_62 (As := [_]) rfl dX6_join_75 (c_X1_record h4 h2 (by omega)) h4.1 rfl ⟨by decide, by decide⟩ (Nat.le_of_ble_eq_true rfl) ⟨Nat.zero_le _, Nat.zero_le _⟩ (fun σ75 hz75 => ?_)
        obtain ⟨ho75, f75, hk75⟩ := hz75
        have c75 := h0.hist ho75 ⟨f75, hk75⟩
        have htc := c75.2.1.2.2 t.toNat (by omega)
        refine j_aload dX6_join_78 rfl ?_
        refine j_iload dX6_join_80 rfl ?_
        refine j_iconst dX6_join_82 ?_
        refine j_iload dX6_join_83 rfl ?_
        refine j_imul dX6_join_85 ?_
        rw [show (2 : Int) * (z : Int) = ((2 * z : Nat) : Int) from rfl]
        refine cl_X6_166 (As := [_, _]) rfl dX6_join_86 (c_X5_merge htc.2.2.1 htc.2.2.2 (s := fst4 s z) (z := 2 * z) hfi (by omega) (by omega)) htc.2.2.1 rfl ⟨by decide, by decide⟩ (Nat.le_of_ble_eq_true rfl) ⟨Nat.zero_le _, Nat.zero_le _⟩ (fun σ86 hz86 => ?_)
        obtain ⟨ho86, hi86⟩ := hz86
        have s86 := c75.2.1.sizes (by omega) ho86 hi86
        have ho86R := ho86.toR (lo := o + 1) (hi := o + 19) (by simp; omega)
        have c86 := c75.now ho86R s86
        have htd := s86.2.2 t.toNat (by omega)
        have hq : WFg (jnF (S.2.2 t.toNat) s z) := jn_WFg (hg t.toNat (by omega)) hk3 hzk
        refine j_aload dX6_join_89 rfl ?_
        refine j_iload dX6_join_91 rfl ?_
        refine cl_X6_170 (As := [_]) rfl dX6_join_93 (c_X5_leavesBefore htd.2.2.1 hi86 hq.R (by omega) (by omega)) htd.2.2.1 rfl ⟨by decide, by decide⟩ (Nat.le_of_ble_eq_true rfl) ⟨Nat.zero_le _, Nat.zero_le _⟩ (fun z93 σ93 hz93 => ?_)
        obtain ⟨hr93, hs93⟩ := hz93
        have hr93 := Eq.symm hr93
        have hs93 := Eq.symm hs93
        subst hr93
        subst hs93
        exact j_iret dX6_join_96 ⟨_, rfl, by unfold jnX; rw [onLeaf_y est hgz, if_neg hgood]; rfl, (ho75.mono (by omega) (by omega)).tr (ho86R.mono (by omega) (by omega)), CS_some c86 (by unfold jnN; rw [onLeaf_y est hgz, if_neg hgood]; rfl)⟩
      · skip
        have hbad : z = 8 ∨ ¬ four (S.2.2 t.toNat) (fst4 s z) z := by
          rcases hd58 with q | q
          · have := q.1
            omega
          · exact Or.inr (four_not q.2 hfi hz1)
        refine j_bipush dX6_join_64 (by decide) ?_
        exact j_iret dX6_join_66 ⟨_, rfl, by unfold jnX; rw [onLeaf_y est hgz, if_pos hbad], OffR.rf, CS_none h0 (by unfold jnN; rw [onLeaf_y est hgz, if_pos hbad])⟩
  · skip
    refine j_iconst dX6_join_12 ?_
    exact j_iret dX6_join_13 ⟨_, rfl, by unfold jnX; exact (onLeaf_n h9).symm, OffR.rf, CS_none h0 (onLeaf_n h9)⟩
set_option maxRecDepth 100000 in
set_option maxHeartbeats 4000000 in
theorem c_X6_recompress {l : Launch} {D : gD} {σ : Wd} {o n tn : Nat} {hs : Int} {S SN : MS} {H : Nat → MS} {ch : Nat → Int} {t : Int} (h0 : CS D σ o S SN hs n H tn ch) (hWS : WS S) (ht : R32 t) : KX6_recompress l D [.ref o, vi t] σ (fun x σ' => x = rcX S t ∧ OffR o (o + 128) σ σ' ∧ CS D σ' o (nxS (rcNx S t) S) SN hs (nxN (rcNx S t) n) (nxH (rcNx S t) n H S) tn ch) := by
  obtain ⟨h1, h2, h3, ⟨fH, h4⟩, h5, h6, ⟨gT, h7⟩, ⟨cL, h8⟩, ⟨cR, h9⟩⟩ := id h0
  have hlo := primeB_lo hWS.1
  have hg := fun t ht => (hWS.2 t ht).2
  have hF := fun t ht => (hWS.2 t ht).1
  refine sp_of (by decide +kernel) (cat1 rfl) (Nat.le_of_ble_eq_true rfl) [some (.ref o), some (vi t), none, none] rfl (fun sz => ?_)
  refine j_iload_n dX6_recompress_0 rfl ?_
  refine cl_X6_70 (As := [_]) rfl dX6_recompress_1 (c_X6_isTable ht) rfl ⟨by decide, by decide⟩ (Nat.le_of_ble_eq_true rfl) ⟨Nat.zero_le _, Nat.zero_le _⟩ (fun z1 σ1 hz1 => ?_)
  obtain ⟨hr1, hs1⟩ := hz1
  have hr1 := Eq.symm hr1
  have hs1 := Eq.symm hs1
  subst hr1
  subst hs1
  refine j_if_ne (tgt := 9) dX6_recompress_4 (by decide) R_ite (fun q4 => ?_) (fun q4 => ?_)
  · skip
    have aat := nz1 q4
    refine j_aload_n dX6_recompress_9 rfl ?_
    refine gf_X6_12 rfl dX6_recompress_10 h1 rfl ?_
    refine j_iload_n dX6_recompress_13 rfl ?_
    refine cl_X6_76 (As := [_]) rfl dX6_recompress_14 (c_X2_tableOf h2.1 h2.2.1 (by omega) (by omega)) h2.1 rfl ⟨by decide, by decide⟩ (Nat.le_of_ble_eq_true rfl) ⟨Nat.zero_le _, Nat.zero_le _⟩ (fun z14 σ14 hz14 => ?_)
    obtain ⟨hr14, hs14⟩ := hz14
    have hr14 := Eq.symm hr14
    have hs14 := Eq.symm hs14
    subst hr14
    subst hs14
    refine j_astore_n dX6_recompress_17 (by decide) (by dsimp only [List.set] <;> rfl) ?_
    refine j_aload_n dX6_recompress_18 rfl ?_
    refine j_aload_n dX6_recompress_19 rfl ?_
    refine cl_X6_173 (As := [_]) rfl dX6_recompress_20 (c_X6_findLeastTree (t := t.toNat) h1 h2 h6 h7 h8 (by omega) hWS.1 (hF t.toNat (by omega))) h1 rfl ⟨by decide, by decide⟩ (Nat.le_of_ble_eq_true rfl) ⟨Nat.zero_le _, Nat.zero_le _⟩ (fun z20 σ20 hz20 => ?_)
    obtain ⟨hr20, ho20, he20, ht20, hc20⟩ := hz20
    have k20 := h0.lt ho20 he20 ⟨_, ht20⟩ hc20
    have htb := k20.2.1.2.2 t.toNat (by omega)
    have hlR := (lv_WFg (p := S.1) (F := S.2.1 t.toNat)).R
    have hr20 := Eq.symm hr20
    subst hr20
    refine j_istore_n dX6_recompress_23 (by decide) (by dsimp only [List.set] <;> rfl) ?_
    refine j_aload_n dX6_recompress_24 rfl ?_
    refine gf_X6_43 rfl dX6_recompress_25 k20.1 rfl ?_
    refine j_aload_n dX6_recompress_28 rfl ?_
    refine gf_X6_93 rfl dX6_recompress_29 htb.1 rfl ?_
    refine cl_X6_177 (As := [_]) rfl dX6_recompress_32 (c_X5_isLike ht20.1 ht20.2 htb.2.2.1 htb.2.2.2 hlR (hg t.toNat (by omega)).R) ht20.1 rfl ⟨by decide, by decide⟩ (Nat.le_of_ble_eq_true rfl) ⟨Nat.zero_le _, Nat.zero_le _⟩ (fun z32 σ32 hz32 => ?_)
    obtain ⟨hd32, hs32⟩ := hz32
    have hs32 := Eq.symm hs32
    subst hs32
    refine j_if_eq (tgt := 41) dX6_recompress_35 (by decide) (by rcases hd32 with q | q <;> exact rs (by have := q.1; omega) (by have := q.1; omega)) (fun h35 => ?_) (fun h35 => ?_)
    · skip
      have hun : ¬ cntN (lv S.1 (S.2.1 t.toNat) 3) (S.2.2 t.toNat) 64 = 0 := by
        rcases hd32 with q | q
        · have := q.1
          omega
        · obtain ⟨-, j, hj, hne⟩ := q
          exact fun a => hne (cntN_0.mp a j hj)
      clear hd32
      refine j_aload_n dX6_recompress_41 rfl ?_
      refine gf_X6_22 rfl dX6_recompress_42 k20.1 rfl ?_
      refine j_aload_n dX6_recompress_45 rfl ?_
      refine gf_X6_12 rfl dX6_recompress_46 k20.1 rfl ?_
      obtain ⟨g1, g2, g3, ⟨fG, g4⟩, g5, g6, ⟨gG, g7⟩, ⟨dL, g8⟩, ⟨dR, g9⟩⟩ := id k20
      refine cl_X6_62 (As := [_]) rfl dX6_recompress_49 (c_X1_record g4 g2 (by omega)) g4.1 rfl ⟨by decide, by decide⟩ (Nat.le_of_ble_eq_true rfl) ⟨Nat.zero_le _, Nat.zero_le _⟩ (fun σ49 hz49 => ?_)
      obtain ⟨ho49, f49, hk49⟩ := hz49
      have c49 := k20.hist ho49 ⟨f49, hk49⟩
      have htc := c49.2.1.2.2 t.toNat (by omega)
      have ht49 := ht20.moved ho49 (by omega)
      refine j_aload_n dX6_recompress_52 rfl ?_
      refine gf_X6_93 rfl dX6_recompress_53 htc.1 rfl ?_
      refine j_aload_n dX6_recompress_56 rfl ?_
      refine gf_X6_43 rfl dX6_recompress_57 c49.1 rfl ?_
      refine cl_X6_181 (As := [_]) rfl dX6_recompress_60 (c_X5_copyFrom htc.2.2.1 htc.2.2.2 ht49.1 ht49.2) htc.2.2.1 rfl ⟨by decide, by decide⟩ (Nat.le_of_ble_eq_true rfl) ⟨Nat.zero_le _, Nat.zero_le _⟩ (fun σ60 hz60 => ?_)
      obtain ⟨ho60, hi60⟩ := hz60
      have s60 := c49.2.1.sizes (by omega) ho60 hi60
      have ho60R := ho60.toR (lo := o + 1) (hi := o + 19) (by simp; omega)
      have c60 := c49.now ho60R s60
      refine j_iload_n dX6_recompress_63 rfl ?_
      exact j_iret dX6_recompress_64 ⟨_, rfl, by unfold rcX; rw [if_pos (by omega), if_neg hun], ((ho20.mono (by omega) (by omega)).tr (ho49.mono (by omega) (by omega))).tr (ho60R.mono (by omega) (by omega)), CS_some c60 (by unfold rcNx; rw [if_pos (by omega), if_neg hun])⟩
    · skip
      have hun : cntN (lv S.1 (S.2.1 t.toNat) 3) (S.2.2 t.toNat) 64 = 0 := by
        rcases hd32 with q | q
        · exact cntN_0.mpr q.2
        · exact absurd q.1 h35
      clear hd32
      refine j_bipush dX6_recompress_38 (by decide) ?_
      exact j_iret dX6_recompress_40 ⟨_, rfl, by unfold rcX; rw [if_pos (by omega), if_pos hun], ho20.mono (by omega) (by omega), CS_none k20 (by unfold rcNx; rw [if_pos (by omega), if_pos hun])⟩
  · skip
    have aat := ne1 q4
    refine j_iconst dX6_recompress_7 ?_
    exact j_iret dX6_recompress_8 ⟨_, rfl, by unfold rcX; rw [if_neg (by omega)], OffR.rf, CS_none h0 (by unfold rcNx; rw [if_neg (by omega)])⟩

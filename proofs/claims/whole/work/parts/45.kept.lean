/-! ===== what every call keeps ===== -/
def WP (S : MS) : Prop := primeB S.1 = true ∧ ∀ t, t < 4 → CB S.1 (S.2.1 t)
theorem WP.cells {S : MS} {t : Nat} {f : Nat → Int} {G : Nat → Nat → Int} (h : WP S) (hf : t < 4 → CB S.1 f) : WP (S.1, fup S.2.1 t f, G) := by
  refine ⟨h.1, fun u hu => ?_⟩
  show CB S.1 (fup S.2.1 t f u)
  by_cases q : u = t
  · subst q
    rw [fup_s]
    exact hf hu
  · rw [fup_n q]
    exact h.2 u hu
theorem WP.sizes {S : MS} {G : Nat → Nat → Int} (h : WP S) : WP (S.1, S.2.1, G) := h
theorem WP.new : WP S0 := by
  refine ⟨by decide +kernel, fun t ht j hj => ?_⟩
  show (0 : Int) ≤ 0 ∧ (0 : Int) < 101
  omega
theorem WP.prime {S : MS} {v : Int} (hv : primeB v = true) : WP (v, (fun t j => S.2.1 t j % v), S.2.2) := ⟨hv, fun t ht j hj => emod_R (by have := primeB_lo hv; omega)⟩
theorem WP.set {S : MS} {t k : Nat} {v : Int} (h : WP S) (hv : 0 ≤ v ∧ v < S.1) : WP (S.1, fup S.2.1 t (fup (S.2.1 t) k v), S.2.2) := by
  refine h.cells (fun ht j hj => ?_)
  by_cases q : j = k
  · rw [q, fup_s]
    exact hv
  · rw [fup_n q]
    exact h.2 t ht j hj
theorem WP.ap {S S' : MS} {n : Nat} {ch : Nat → Int} {t e : Int} (h : WP S) (q : apN S n ch t e = some S') : WP S' := by
  have hp := primeB_lo h.1
  unfold apN onLeaf at q
  split at q
  · cases q
  · dsimp only at q
    split at q
    · cases q
    · split at q
      · cases q
      · cases q
        exact h.cells (fun ht => apF_B (by omega) (h.2 _ ht))
theorem WP.sp {S S' : MS} {t e : Int} (h : WP S) (q : spN S t e = some S') : WP S' := by
  unfold spN onLeaf at q
  split at q
  · cases q
  · dsimp only at q
    split at q
    · cases q
    · cases q
      exact h.sizes
theorem WP.jn {S S' : MS} {t e : Int} (h : WP S) (q : jnN S t e = some S') : WP S' := by
  unfold jnN onLeaf at q
  split at q
  · cases q
  · dsimp only at q
    split at q
    · cases q
    · cases q
      exact h.sizes
theorem WP.rc {S S' : MS} {t : Int} (h : WP S) (q : rcNx S t = some S') : WP S' := by
  unfold rcNx at q
  split at q
  · split at q
    · cases q
    · cases q
      exact h.sizes
  · cases q
theorem WP.wk {S S' : MS} {n : Nat} {ch : Nat → Int} (h : WP S) (q : wkN S n ch = some S') : WP S' := by
  have hp := primeB_lo h.1
  unfold wkN at q
  split at q
  · cases q
    exact h.cells (fun ht j hj => emod_R (by omega))
  · cases q
theorem WP.fc {S S' : MS} {t a b : Int} (h : WP S) (q : fcN S t a b = some S') : WP S' := by
  have hp := primeB_lo h.1
  unfold fcN at q
  split at q
  · next hc =>
    split at q
    · cases q
    · split at q
      · cases q
        have hm : MB S.1 8 (lu S.1 (fcM S t) 8) := lu_B (by omega) (ldM_B (by omega) (h.2 t.toNat (by omega)) (okBlk_of (k := 3) (s := 0) (by omega) (by omega) rfl)) 8
        have hl : CB S.1 (fun k => lowF (lu S.1 (fcM S t) 8) (k / 8) (k % 8)) := by
          intro k hk
          show 0 ≤ lowF _ (k / 8) (k % 8) ∧ lowF _ (k / 8) (k % 8) < S.1
          unfold lowF
          split
          · omega
          · split
            · exact hm _ (by omega) _ (by omega)
            · omega
        have hu : CB S.1 (fun k => uppF (lu S.1 (fcM S t) 8) (k / 8) (k % 8)) := by
          intro k hk
          show 0 ≤ uppF _ (k / 8) (k % 8) ∧ uppF _ (k / 8) (k % 8) < S.1
          unfold uppF
          split
          · exact hm _ (by omega) _ (by omega)
          · omega
        exact (h.cells (t := a.toNat) (G := S.2.2) (fun _ => hl)).cells (t := b.toNat) (fun _ => hu)
      · cases q
  · cases q
/-- the law's states: what holds beside the two pictures -/
def LG (S SN : MS) (hs : Int) (n : Nat) (H : Nat → MS) : Prop := WP S ∧ (hs = 0 ∨ hs = 1) ∧ (hs = 1 → WP SN) ∧ ∀ j, j < n → WP (H j)
theorem LG_rec {S : MS} {n : Nat} {H : Nat → MS} (hS : WP S) (hn : n ≤ 4) (h : ∀ j, j < n → WP (H j)) : ∀ j, j < recN n → WP (recH n H S j) := by
  intro j hj
  unfold recN at hj
  unfold recH
  by_cases a : n < 4
  · rw [if_pos a] at hj ⊢
    by_cases e : j = n
    · rw [e, fup_s]
      exact hS
    · rw [fup_n e]
      exact h j (by omega)
  · rw [if_neg a] at hj ⊢
    by_cases e : j = 3
    · rw [if_pos e]
      exact hS
    · rw [if_neg e]
      exact h (j + 1) (by omega)
theorem LG_next {S SN : MS} {hs : Int} {n : Nat} {H : Nat → MS} {x : Option MS} (h : LG S SN hs n H) (hn : n ≤ 4) (hx : ∀ S', x = some S' → WP S') : LG (nxS x S) SN hs (nxN x n) (nxH x n H S) := by
  cases x with
  | none => exact h
  | some S' => exact ⟨hx S' rfl, h.2.1, h.2.2.1, LG_rec h.1 hn h.2.2.2⟩
theorem LG_act {S S' SN : MS} {hs : Int} {n : Nat} {H : Nat → MS} {c : Prop} [Decidable c] (h : LG S SN hs n H) (hn : n ≤ 4) (hx : c → WP S') : LG (act c S' S) SN hs (act c (recN n) n) (act c (recH n H S) H) := by
  by_cases q : c
  · rw [act_y q, act_y q, act_y q]
    exact ⟨hx q, h.2.1, h.2.2.1, LG_rec h.1 hn h.2.2.2⟩
  · rw [act_n q, act_n q, act_n q]
    exact h
theorem LG_undo {S SN : MS} {hs : Int} {n : Nat} {H : Nat → MS} (h : LG S SN hs n H) : LG (act (n = 0) S (H (n - 1))) SN hs (n - 1) H := by
  by_cases q : n = 0
  · rw [act_y q]
    exact ⟨h.1, h.2.1, h.2.2.1, fun j hj => h.2.2.2 j (by omega)⟩
  · rw [act_n q]
    exact ⟨h.2.2.2 _ (by omega), h.2.1, h.2.2.1, fun j hj => h.2.2.2 j (by omega)⟩
theorem LG_keep {S SN : MS} {hs : Int} {n : Nat} {H : Nat → MS} (h : LG S SN hs n H) : LG S S 1 n H := ⟨h.1, Or.inr rfl, fun _ => h.1, h.2.2.2⟩
theorem LG_restore {S SN : MS} {hs : Int} {n : Nat} {H : Nat → MS} (h : LG S SN hs n H) (hn : n ≤ 4) : LG (act (hs = 0) S SN) SN hs (act (hs = 0) n (recN n)) (act (hs = 0) H (recH n H S)) := by
  by_cases q : hs = 0
  · rw [act_y q, act_y q, act_y q]
    exact h
  · rw [act_n q, act_n q, act_n q]
    have h1 : hs = 1 := by
      have := h.2.1
      omega
    exact ⟨h.2.2.1 h1, h.2.1, h.2.2.1, LG_rec h.1 hn h.2.2.2⟩
theorem LG_new : LG S0 S0 0 0 (fun _ => S0) := ⟨WP.new, Or.inl rfl, fun q => absurd q (by omega), fun j hj => absurd hj (by omega)⟩
theorem RS.le4 {D : gD} {w : Wd} {m n tn : Nat} {S SN : MS} {hs : Int} {H : Nat → MS} {ch : Nat → Int} (h : RS D w m S SN hs n H tn ch) : n ≤ 4 := by
  obtain ⟨_, _, _, _, _, _, _, _, _, _, -, -, -, -, q, -⟩ := h
  exact q
theorem RS.ws {D : gD} {w : Wd} {m n tn : Nat} {S SN : MS} {hs : Int} {H : Nat → MS} {ch : Nat → Int} (h : RS D w m S SN hs n H tn ch) (hp : WP S) : WS S := by
  obtain ⟨_, _, _, _, _, _, _, _, _, _, -, hO, -⟩ := h
  exact ⟨hp.1, fun t ht => ⟨hp.2 t ht, (hO.2.2 t ht).WF⟩⟩
/-- pictures that lie apart from what is written -/
theorem OA_moved {lo hi o : Nat} {hs : Int} {σ w : Wd} (h : OA σ o hs) (ho : OffR lo hi σ w) (hn : o + 1 ≤ lo ∨ hi ≤ o) : OA w o hs := ho.get h (by omega)
theorem CS_moved {D : gD} {lo hi : Nat} {σ w : Wd} {o n tn : Nat} {S SN : MS} {hs : Int} {H : Nat → MS} {ch : Nat → Int} (h : CS D σ o S SN hs n H tn ch) (ho : OffR lo hi σ w) (hn : o + 128 ≤ lo ∨ hi ≤ o) : CS D w o S SN hs n H tn ch := by
  obtain ⟨h1, h2, h3, ⟨f, h4⟩, h5, h6, ⟨g, h7⟩, ⟨c, h8⟩, d, h9⟩ := h
  exact ⟨OA_moved h1 ho (by omega), h2.moved ho (by omega), h3.moved ho (by omega), ⟨f, h4.moved ho (by omega)⟩, h5.moved ho (by omega), h6.moved ho (by omega), ⟨g, h7.moved ho (by omega)⟩, ⟨c, ho.ia h8 (by omega)⟩, d, ho.ia h9 (by omega)⟩
theorem RS_moved {D : gD} {lo hi : Nat} {σ w : Wd} {m n tn : Nat} {S SN : MS} {hs : Int} {H : Nat → MS} {ch : Nat → Int} (h : RS D σ m S SN hs n H tn ch) (ho : OffR lo hi σ w) (hn : m + 10 ≤ lo ∨ hi ≤ m) : RS D w m S SN hs n H tn ch := by
  obtain ⟨pl, de, R, P, A, rv, W, mk, ls, sp, ⟨h1, h2, h3, h4, h5, h6, h7, h8, h9, h10⟩, q⟩ := h
  exact ⟨pl, de, R, P, A, rv, W, mk, ls, sp, ⟨ho.get h1 (by omega), ho.ia h2 (by omega), ho.ia h3 (by omega), ho.ia h4 (by omega), ho.ca h5 (by omega), ho.ia h6 (by omega), ho.ia h7 (by omega), ho.ia h8 (by omega), ho.ia h9 (by omega), ho.za h10 (by omega)⟩, q⟩
/-- both objects, in one state -/
def LW (D : gD) (w : Wd) (o : Nat) (S SN : MS) (hs : Int) (n : Nat) (H : Nat → MS) (tn : Nat) (ch : Nat → Int) : Prop := CS D w o S SN hs n H tn ch ∧ RS D w (o + 128) S SN hs n H tn ch ∧ LG S SN hs n H
def IV (D : gD) (w : Wd) (o : Nat) : Prop := ∃ (S SN : MS) (hs : Int) (n : Nat) (H : Nat → MS) (tn : Nat) (ch : Nat → Int), LW D w o S SN hs n H tn ch
/-- behind the class's call; then behind the reference's -/
theorem LW.mid {D : gD} {σ w : Wd} {o n tn : Nat} {S SN : MS} {hs : Int} {H : Nat → MS} {ch : Nat → Int} (h : LW D σ o S SN hs n H tn ch) (ho : OffR o (o + 128) σ w) : RS D w (o + 128) S SN hs n H tn ch := RS_moved h.2.1 ho (by omega)
theorem LW.fin {D : gD} {w u : Wd} {o n tn : Nat} {S SN : MS} {hs : Int} {H : Nat → MS} {ch : Nat → Int} (h : CS D w o S SN hs n H tn ch) (ho : OffR (o + 128) (o + 128 + 10) w u) (hR : RS D u (o + 128) S SN hs n H tn ch) (hG : LG S SN hs n H) : IV D u o := ⟨S, SN, hs, n, H, tn, ch, CS_moved h ho (by omega), hR, hG⟩

/-! ===== contracts: Text ===== -/
abbrev txF (x n : Nat) (pl nr tg lf rt op : Int) : List Value := [.ref (x + 1), .ref (x + 2), vi n, vi pl, vi nr, vi tg, vi lf, vi rt, vi op]
def TX (D : gD) (w : Wd) (x n : Nat) (pl nr tg lf rt op : Int) (ch nm : Nat → Int) : Prop := w x = some (.inr (4, txF x n pl nr tg lf rt op)) ∧ n ≤ 60 ∧ (∀ j, j < n → 0 ≤ ch j ∧ ch j < 65536) ∧ IA D w (x + 1) 60 ch ∧ IA D w (x + 2) 16 nm
theorem TX.own {D : gD} {w : Wd} {x n : Nat} {pl nr tg lf rt op pl' nr' tg' lf' rt' op' : Int} {ch nm : Nat → Int} (h : TX D w x n pl nr tg lf rt op ch nm) : TX D (wup w x (.inr (4, txF x n pl' nr' tg' lf' rt' op'))) x n pl' nr' tg' lf' rt' op' ch nm :=
  ⟨wup_s _ _ _, h.2.1, h.2.2.1, h.2.2.2.1.up (by omega), h.2.2.2.2.up (by omega)⟩
theorem TX.moved {D : gD} {lo hi : Nat} {σ w : Wd} {x n : Nat} {pl nr tg lf rt op : Int} {ch nm : Nat → Int} (h : TX D σ x n pl nr tg lf rt op ch nm) (ho : OffR lo hi σ w) (hn : x + 3 ≤ lo ∨ hi ≤ x) : TX D w x n pl nr tg lf rt op ch nm :=
  ⟨ho.get h.1 (by omega), h.2.1, h.2.2.1, ho.ia h.2.2.2.1 (by omega), ho.ia h.2.2.2.2 (by omega)⟩
/-- the sign at a place, -1 behind the text -/
def sg (ch : Nat → Int) (n k : Nat) : Int := if k < n then ch k else -1
theorem sg_R {ch : Nat → Int} {n : Nat} (h : ∀ j, j < n → 0 ≤ ch j ∧ ch j < 65536) (k : Nat) : -1 ≤ sg ch n k ∧ sg ch n k < 65536 ∧ (0 ≤ sg ch n k → k < n) := by
  unfold sg
  split
  · have := h k (by assumption)
    omega
  · omega
/-- the number at a place, and the place behind it -/
def nVal (ch : Nat → Int) (n k : Nat) : Int × Nat :=
  if sg ch n k - 48 = 0 then (sg ch n k - 48, k + 1)
  else if 48 ≤ sg ch n (k + 1) ∧ sg ch n (k + 1) ≤ 57 then
    (if 48 ≤ sg ch n (k + 2) ∧ sg ch n (k + 2) ≤ 57 then (((sg ch n k - 48) * 10 + (sg ch n (k + 1) - 48)) * 10 + (sg ch n (k + 2) - 48), k + 3) else ((sg ch n k - 48) * 10 + (sg ch n (k + 1) - 48), k + 2))
  else (sg ch n k - 48, k + 1)
theorem nVal_R {ch : Nat → Int} {n k : Nat} (h : 48 ≤ sg ch n k ∧ sg ch n k ≤ 57) : 0 ≤ (nVal ch n k).1 ∧ (nVal ch n k).1 ≤ 999 := by
  unfold nVal
  split
  · show 0 ≤ sg ch n k - 48 ∧ sg ch n k - 48 ≤ 999
    omega
  · split
    · split
      · dsimp only
        omega
      · dsimp only
        omega
    · dsimp only
      omega
theorem mxF_le {f : Nat → Int} {b : Int} (hb : 0 ≤ b) (n : Nat) : mxF f n < b ↔ 0 < b ∧ ∀ j, j < n → f j < b := by
  induction n with
  | zero =>
    show (0 : Int) < b ↔ _
    exact ⟨fun h => ⟨h, fun j hj => absurd hj (by omega)⟩, fun h => h.1⟩
  | succ n ih =>
    show (if mxF f n < f n then f n else mxF f n) < b ↔ _
    constructor
    · intro h
      have h2 : mxF f n < b ∧ f n < b := by split at h <;> omega
      refine ⟨(ih.mp h2.1).1, fun j hj => ?_⟩
      rcases (show j < n ∨ j = n by omega) with q | q
      · exact (ih.mp h2.1).2 j q
      · rw [q]
        exact h2.2
    · intro h
      have h2 := ih.mpr ⟨h.1, fun j hj => h.2 j (by omega)⟩
      have h3 := h.2 n (by omega)
      split <;> omega
def rdNum (ch : Nat → Int) (n q i : Nat) (f : Nat → Int) : Bool × Nat × (Nat → Int) := if 48 ≤ sg ch n q ∧ sg ch n q ≤ 57 then (true, (nVal ch n q).2, fup f i (nVal ch n q).1) else (false, q, f)
/-- i numbers read: whether they are there, the place, the numbers -/
def rd (ch : Nat → Int) (n z : Nat) : Nat → Bool × Nat × (Nat → Int)
  | 0 => (true, 0, fun _ => 0)
  | i + 1 => if (rd ch n z i).1 = true then (if i = 0 then rdNum ch n (rd ch n z i).2.1 i (rd ch n z i).2.2 else if sg ch n (rd ch n z i).2.1 = (if i = z then 59 else 44) then rdNum ch n ((rd ch n z i).2.1 + 1) i (rd ch n z i).2.2 else (false, (rd ch n z i).2.1, (rd ch n z i).2.2)) else rd ch n z i
theorem nVal_le (ch : Nat → Int) (n q : Nat) : (nVal ch n q).2 ≤ q + 3 := by
  unfold nVal
  split
  · dsimp only
    omega
  · split
    · split
      · dsimp only
        omega
      · dsimp only
        omega
    · dsimp only
      omega
theorem rd_le (ch : Nat → Int) (n z : Nat) : ∀ i, (rd ch n z i).2.1 ≤ 4 * i
  | 0 => Nat.le_refl _
  | i + 1 => by
    have h := rd_le ch n z i
    have h1 := nVal_le ch n (rd ch n z i).2.1
    have h2 := nVal_le ch n ((rd ch n z i).2.1 + 1)
    have hn : ∀ q, (rdNum ch n q i (rd ch n z i).2.2).2.1 ≤ q + 3 := by
      intro q
      have := nVal_le ch n q
      unfold rdNum
      by_cases a : 48 ≤ sg ch n q ∧ sg ch n q ≤ 57
      · rw [if_pos a]
        exact this
      · rw [if_neg a]
        show q ≤ q + 3
        omega
    have h3 := hn (rd ch n z i).2.1
    have h4 := hn ((rd ch n z i).2.1 + 1)
    show (if (rd ch n z i).1 = true then (if i = 0 then rdNum ch n (rd ch n z i).2.1 i (rd ch n z i).2.2 else if sg ch n (rd ch n z i).2.1 = (if i = z then 59 else 44) then rdNum ch n ((rd ch n z i).2.1 + 1) i (rd ch n z i).2.2 else (false, (rd ch n z i).2.1, (rd ch n z i).2.2)) else rd ch n z i).2.1 ≤ _
    by_cases a : (rd ch n z i).1 = true
    · rw [if_pos a]
      by_cases b : i = 0
      · rw [if_pos b]
        omega
      · rw [if_neg b]
        by_cases c : sg ch n (rd ch n z i).2.1 = (if i = z then 59 else 44)
        · rw [if_pos c]
          omega
        · rw [if_neg c]
          show (rd ch n z i).2.1 ≤ _
          omega
    · rw [if_neg a]
      omega
theorem rd_stay {ch : Nat → Int} {n z i : Nat} {q : Nat} {f : Nat → Int} (h : rd ch n z i = (false, q, f)) : ∀ k, rd ch n z (i + k) = (false, q, f)
  | 0 => h
  | k + 1 => by
    show (if (rd ch n z (i + k)).1 = true then _ else rd ch n z (i + k)) = _
    rw [rd_stay h k]
    rfl
def rdF (ch : Nat → Int) (n z W : Nat) : Int := if (rd ch n z W).1 = true ∧ n ≤ (rd ch n z W).2.1 then -1 else ((rd ch n z W).2.1 : Int)
theorem rdF_bad {ch : Nat → Int} {n z i W : Nat} {q : Nat} {f : Nat → Int} (h : rd ch n z (i + 1) = (false, q, f)) (hi : i < W) : (q : Int) = rdF ch n z W := by
  have e := rd_stay h (W - (i + 1))
  rw [show i + 1 + (W - (i + 1)) = W by omega] at e
  unfold rdF
  rw [e, if_neg (by simp)]
theorem rd_B {ch : Nat → Int} {n z : Nat} : ∀ (i j : Nat), 0 ≤ (rd ch n z i).2.2 j ∧ (rd ch n z i).2.2 j ≤ 999
  | 0, j => by
    show (0 : Int) ≤ 0 ∧ (0 : Int) ≤ 999
    omega
  | i + 1, j => by
    have h := rd_B (ch := ch) (n := n) (z := z) i j
    have hn : ∀ q, 0 ≤ (rdNum ch n q i (rd ch n z i).2.2).2.2 j ∧ (rdNum ch n q i (rd ch n z i).2.2).2.2 j ≤ 999 := by
      intro q
      unfold rdNum
      split
      · show 0 ≤ fup _ _ _ _ ∧ fup _ _ _ _ ≤ 999
        unfold fup
        split
        · exact nVal_R (by assumption)
        · exact h
      · exact h
    show 0 ≤ (if (rd ch n z i).1 = true then (if i = 0 then rdNum ch n (rd ch n z i).2.1 i (rd ch n z i).2.2 else if sg ch n (rd ch n z i).2.1 = (if i = z then 59 else 44) then rdNum ch n ((rd ch n z i).2.1 + 1) i (rd ch n z i).2.2 else (false, (rd ch n z i).2.1, (rd ch n z i).2.2)) else rd ch n z i).2.2 j ∧ (if (rd ch n z i).1 = true then (if i = 0 then rdNum ch n (rd ch n z i).2.1 i (rd ch n z i).2.2 else if sg ch n (rd ch n z i).2.1 = (if i = z then 59 else 44) then rdNum ch n ((rd ch n z i).2.1 + 1) i (rd ch n z i).2.2 else (false, (rd ch n z i).2.1, (rd ch n z i).2.2)) else rd ch n z i).2.2 j ≤ 999
    by_cases a : (rd ch n z i).1 = true
    · rw [if_pos a]
      by_cases b : i = 0
      · rw [if_pos b]
        exact hn _
      · rw [if_neg b]
        by_cases c : sg ch n (rd ch n z i).2.1 = (if i = z then 59 else 44)
        · rw [if_pos c]
          exact hn _
        · rw [if_neg c]
          exact h
    · rw [if_neg a]
      exact h

set_option maxRecDepth 100000 in
set_option maxHeartbeats 4000000 in
theorem c_X4_isDigit {l : Launch} {D : gD} {σ : Wd} {v : Int} (hv : R32 v) : KX4_isDigit l D [vi v] σ (fun r σ' => r = (if 48 ≤ v ∧ v ≤ 57 then 1 else 0) ∧ σ' = σ) := by
  obtain ⟨hv1, hv2⟩ := hv
  refine sp_of (by decide +kernel) (cat1 rfl) (Nat.le_of_ble_eq_true rfl) [some (vi v)] rfl (fun sz => ?_)
  refine j_iload_n dX4_isDigit_0 rfl ?_
  refine j_bipush dX4_isDigit_1 (by decide) ?_
  refine j_icmp_lt (tgt := 16) dX4_isDigit_3 (by decide) ⟨by omega, by omega⟩ ⟨by omega, by omega⟩ (fun h3 => ?_) (fun h3 => ?_)
  · skip
    refine j_iconst dX4_isDigit_16 ?_
    exact j_zret dX4_isDigit_17 (by omega) ⟨_, rfl, by first | rw [if_pos (by omega)] | rw [if_neg (by omega)], rfl⟩
  · skip
    refine j_iload_n dX4_isDigit_6 rfl ?_
    refine j_bipush dX4_isDigit_7 (by decide) ?_
    refine j_icmp_gt (tgt := 16) dX4_isDigit_9 (by decide) ⟨by omega, by omega⟩ ⟨by omega, by omega⟩ (fun h9 => ?_) (fun h9 => ?_)
    · skip
      refine j_iconst dX4_isDigit_16 ?_
      exact j_zret dX4_isDigit_17 (by omega) ⟨_, rfl, by first | rw [if_pos (by omega)] | rw [if_neg (by omega)], rfl⟩
    · skip
      refine j_iconst dX4_isDigit_12 ?_
      refine j_goto (tgt := 17) dX4_isDigit_13 (by decide) ?_
      exact j_zret dX4_isDigit_17 (by omega) ⟨_, rfl, by first | rw [if_pos (by omega)] | rw [if_neg (by omega)], rfl⟩
set_option maxRecDepth 100000 in
set_option maxHeartbeats 4000000 in
theorem c_X4_nextSign {l : Launch} {D : gD} {σ : Wd} {x n : Nat} {pl : Nat} {nr tg lf rt op : Int} {ch nm : Nat → Int} (h1 : TX D σ x n pl nr tg lf rt op ch nm) (hpl : pl ≤ 100) : KX4_nextSign l D [.ref x] σ (fun r σ' => r = sg ch n pl ∧ σ' = σ) := by
  have hsg := sg_R h1.2.2.1 pl
  have hn60 := h1.2.1
  refine sp_of (by decide +kernel) (cat1 rfl) (Nat.le_of_ble_eq_true rfl) [some (.ref x)] rfl (fun sz => ?_)
  refine j_aload_n dX4_nextSign_0 rfl ?_
  refine gf_X4_38 rfl dX4_nextSign_1 h1.1 rfl ?_
  refine j_if_lt (tgt := 39) dX4_nextSign_4 (by decide) ⟨by omega, by omega⟩ (fun h4 => ?_) (fun h4 => ?_)
  · skip
    exact absurd h4 (by omega)
  · skip
    refine j_aload_n dX4_nextSign_7 rfl ?_
    refine gf_X4_38 rfl dX4_nextSign_8 h1.1 rfl ?_
    refine j_aload_n dX4_nextSign_11 rfl ?_
    refine gf_X4_22 rfl dX4_nextSign_12 h1.1 rfl ?_
    refine j_icmp_ge (tgt := 39) dX4_nextSign_15 (by decide) ⟨by omega, by omega⟩ ⟨by omega, by omega⟩ (fun h15 => ?_) (fun h15 => ?_)
    · skip
      refine j_iconst dX4_nextSign_39 ?_
      exact j_iret dX4_nextSign_40 ⟨_, rfl, by unfold sg; first | (rw [if_pos (by omega)]; rfl) | rw [if_neg (by omega)], rfl⟩
    · skip
      refine j_aload_n dX4_nextSign_18 rfl ?_
      refine gf_X4_38 rfl dX4_nextSign_19 h1.1 rfl ?_
      refine j_bipush dX4_nextSign_22 (by decide) ?_
      refine j_icmp_ge (tgt := 39) dX4_nextSign_24 (by decide) ⟨by omega, by omega⟩ ⟨by omega, by omega⟩ (fun h24 => ?_) (fun h24 => ?_)
      · skip
        exact absurd h24 (by omega)
      · skip
        refine j_aload_n dX4_nextSign_27 rfl ?_
        refine gf_X4_9 rfl dX4_nextSign_28 h1.1 rfl ?_
        refine j_aload_n dX4_nextSign_31 rfl ?_
        refine gf_X4_38 rfl dX4_nextSign_32 h1.1 rfl ?_
        refine jj_iald dX4_nextSign_35 h1.2.2.2.1 (by omega) (by omega) ⟨by omega, by omega⟩ ?_
        refine j_goto (tgt := 40) dX4_nextSign_36 (by decide) ?_
        exact j_iret dX4_nextSign_40 ⟨_, rfl, by unfold sg; first | (rw [if_pos (by omega)]; rfl) | rw [if_neg (by omega)], rfl⟩
set_option maxRecDepth 100000 in
set_option maxHeartbeats 4000000 in
theorem c_X4_take {l : Launch} {D : gD} {σ : Wd} {x n : Nat} {pl : Nat} {nr tg lf rt op : Int} {ch nm : Nat → Int} {v : Int} (h1 : TX D σ x n pl nr tg lf rt op ch nm) (hpl : pl ≤ 100) (hv : R32 v) : KX4_take l D [.ref x, vi v] σ (fun r σ' => ∃ q : Nat, TX D σ' x n q nr tg lf rt op ch nm ∧ Off [x] σ σ' ∧ ((sg ch n pl = v ∧ r = 1 ∧ q = pl + 1) ∨ (sg ch n pl ≠ v ∧ r = 0 ∧ q = pl))) := by
  have hsg := sg_R h1.2.2.1 pl
  have hn60 := h1.2.1
  refine sp_of (by decide +kernel) (cat1 rfl) (Nat.le_of_ble_eq_true rfl) [some (.ref x), some (vi v)] rfl (fun sz => ?_)
  refine j_aload_n dX4_take_0 rfl ?_
  refine cl_X4_71 (As := []) rfl dX4_take_1 (c_X4_nextSign h1 hpl) h1.1 rfl ⟨by decide, by decide⟩ (Nat.le_of_ble_eq_true rfl) ⟨Nat.zero_le _, Nat.zero_le _⟩ (fun z1 σ1 hz1 => ?_)
  obtain ⟨hr1, hs1⟩ := hz1
  have hr1 := Eq.symm hr1
  have hs1 := Eq.symm hs1
  subst hr1
  subst hs1
  refine j_iload_n dX4_take_4 rfl ?_
  refine j_icmp_eq (tgt := 10) dX4_take_5 (by decide) (rs (by omega) (by omega)) hv (fun h5 => ?_) (fun h5 => ?_)
  · skip
    refine j_aload_n dX4_take_10 rfl ?_
    refine j_dup dX4_take_11 rfl ?_
    refine gf_X4_38 rfl dX4_take_12 h1.1 rfl ?_
    refine j_iconst dX4_take_15 ?_
    refine j_iadd dX4_take_16 ?_
    refine pf_X4_38 rfl dX4_take_17 h1.1 rfl rfl (Nat.le_of_ble_eq_true rfl) ?_
    dsimp only [List.set]
    refine j_iconst dX4_take_20 ?_
    exact j_zret dX4_take_21 (by omega) ⟨_, rfl, pl + 1, h1.own, Off.rf.up (by simp), Or.inl ⟨h5, rfl, rfl⟩⟩
  · skip
    refine j_iconst dX4_take_8 ?_
    exact j_zret dX4_take_9 (by omega) ⟨_, rfl, pl, h1, Off.rf, Or.inr ⟨h5, rfl, rfl⟩⟩
set_option maxRecDepth 100000 in
set_option maxHeartbeats 4000000 in
theorem c_X4_takeLetter {l : Launch} {D : gD} {σ : Wd} {x n : Nat} {pl : Nat} {nr tg lf rt op : Int} {ch nm : Nat → Int} (h1 : TX D σ x n pl nr tg lf rt op ch nm) (hpl : pl ≤ 100) : KX4_takeLetter l D [.ref x] σ (fun r σ' => ∃ q : Nat, TX D σ' x n q nr tg lf rt op ch nm ∧ Off [x] σ σ' ∧ (((65 ≤ sg ch n pl ∧ sg ch n pl ≤ 68) ∧ r = sg ch n pl - 65 ∧ q = pl + 1) ∨ (¬ (65 ≤ sg ch n pl ∧ sg ch n pl ≤ 68) ∧ r = -1 ∧ q = pl))) := by
  have hsg := sg_R h1.2.2.1 pl
  have hn60 := h1.2.1
  refine sp_of (by decide +kernel) (cat1 rfl) (Nat.le_of_ble_eq_true rfl) [some (.ref x), none] rfl (fun sz => ?_)
  refine j_aload_n dX4_takeLetter_0 rfl ?_
  refine cl_X4_71 (As := []) rfl dX4_takeLetter_1 (c_X4_nextSign h1 hpl) h1.1 rfl ⟨by decide, by decide⟩ (Nat.le_of_ble_eq_true rfl) ⟨Nat.zero_le _, Nat.zero_le _⟩ (fun z1 σ1 hz1 => ?_)
  obtain ⟨hr1, hs1⟩ := hz1
  have hr1 := Eq.symm hr1
  have hs1 := Eq.symm hs1
  subst hr1
  subst hs1
  refine j_istore_n dX4_takeLetter_4 (by decide) (by dsimp only [List.set] <;> rfl) ?_
  refine j_iload_n dX4_takeLetter_5 rfl ?_
  refine j_bipush dX4_takeLetter_6 (by decide) ?_
  refine j_icmp_lt (tgt := 17) dX4_takeLetter_8 (by decide) ⟨by omega, by omega⟩ ⟨by omega, by omega⟩ (fun h8 => ?_) (fun h8 => ?_)
  · skip
    refine j_iconst dX4_takeLetter_17 ?_
    exact j_iret dX4_takeLetter_18 ⟨_, rfl, pl, h1, Off.rf, Or.inr ⟨by omega, rfl, rfl⟩⟩
  · skip
    refine j_iload_n dX4_takeLetter_11 rfl ?_
    refine j_bipush dX4_takeLetter_12 (by decide) ?_
    refine j_icmp_le (tgt := 19) dX4_takeLetter_14 (by decide) ⟨by omega, by omega⟩ ⟨by omega, by omega⟩ (fun h14 => ?_) (fun h14 => ?_)
    · skip
      refine j_aload_n dX4_takeLetter_19 rfl ?_
      refine j_dup dX4_takeLetter_20 rfl ?_
      refine gf_X4_38 rfl dX4_takeLetter_21 h1.1 rfl ?_
      refine j_iconst dX4_takeLetter_24 ?_
      refine j_iadd dX4_takeLetter_25 ?_
      refine pf_X4_38 rfl dX4_takeLetter_26 h1.1 rfl rfl (Nat.le_of_ble_eq_true rfl) ?_
      dsimp only [List.set]
      refine j_iload_n dX4_takeLetter_29 rfl ?_
      refine j_bipush dX4_takeLetter_30 (by decide) ?_
      refine j_isub dX4_takeLetter_32 ?_
      exact j_iret dX4_takeLetter_33 ⟨_, rfl, pl + 1, h1.own, Off.rf.up (by simp), Or.inl ⟨by omega, rfl, rfl⟩⟩
    · skip
      refine j_iconst dX4_takeLetter_17 ?_
      exact j_iret dX4_takeLetter_18 ⟨_, rfl, pl, h1, Off.rf, Or.inr ⟨by omega, rfl, rfl⟩⟩
set_option maxRecDepth 100000 in
set_option maxHeartbeats 4000000 in
theorem c_X4_takeOperation {l : Launch} {D : gD} {σ : Wd} {x n : Nat} {pl : Nat} {nr tg lf rt op : Int} {ch nm : Nat → Int} (h1 : TX D σ x n pl nr tg lf rt op ch nm) (hpl : pl ≤ 100) : KX4_takeOperation l D [.ref x] σ (fun r σ' => ∃ q : Nat, TX D σ' x n q nr tg lf rt op ch nm ∧ Off [x] σ σ' ∧ (((sg ch n pl = 43 ∨ sg ch n pl = 45 ∨ sg ch n pl = 42 ∨ sg ch n pl = 39) ∧ r = sg ch n pl ∧ q = pl + 1) ∨ (¬ (sg ch n pl = 43 ∨ sg ch n pl = 45 ∨ sg ch n pl = 42 ∨ sg ch n pl = 39) ∧ r = -1 ∧ q = pl))) := by
  have hsg := sg_R h1.2.2.1 pl
  have hn60 := h1.2.1
  refine sp_of (by decide +kernel) (cat1 rfl) (Nat.le_of_ble_eq_true rfl) [some (.ref x), none] rfl (fun sz => ?_)
  refine j_aload_n dX4_takeOperation_0 rfl ?_
  refine cl_X4_71 (As := []) rfl dX4_takeOperation_1 (c_X4_nextSign h1 hpl) h1.1 rfl ⟨by decide, by decide⟩ (Nat.le_of_ble_eq_true rfl) ⟨Nat.zero_le _, Nat.zero_le _⟩ (fun z1 σ1 hz1 => ?_)
  obtain ⟨hr1, hs1⟩ := hz1
  have hr1 := Eq.symm hr1
  have hs1 := Eq.symm hs1
  subst hr1
  subst hs1
  refine j_istore_n dX4_takeOperation_4 (by decide) (by dsimp only [List.set] <;> rfl) ?_
  refine j_iload_n dX4_takeOperation_5 rfl ?_
  refine j_bipush dX4_takeOperation_6 (by decide) ?_
  refine j_icmp_eq (tgt := 31) dX4_takeOperation_8 (by decide) ⟨by omega, by omega⟩ ⟨by omega, by omega⟩ (fun h8 => ?_) (fun h8 => ?_)
  · skip
    refine j_aload_n dX4_takeOperation_31 rfl ?_
    refine j_dup dX4_takeOperation_32 rfl ?_
    refine gf_X4_38 rfl dX4_takeOperation_33 h1.1 rfl ?_
    refine j_iconst dX4_takeOperation_36 ?_
    refine j_iadd dX4_takeOperation_37 ?_
    refine pf_X4_38 rfl dX4_takeOperation_38 h1.1 rfl rfl (Nat.le_of_ble_eq_true rfl) ?_
    dsimp only [List.set]
    refine j_iload_n dX4_takeOperation_41 rfl ?_
    exact j_iret dX4_takeOperation_42 ⟨_, rfl, pl + 1, h1.own, Off.rf.up (by simp), Or.inl ⟨by omega, rfl, rfl⟩⟩
  · skip
    refine j_iload_n dX4_takeOperation_11 rfl ?_
    refine j_bipush dX4_takeOperation_12 (by decide) ?_
    refine j_icmp_eq (tgt := 31) dX4_takeOperation_14 (by decide) ⟨by omega, by omega⟩ ⟨by omega, by omega⟩ (fun h14 => ?_) (fun h14 => ?_)
    · skip
      refine j_aload_n dX4_takeOperation_31 rfl ?_
      refine j_dup dX4_takeOperation_32 rfl ?_
      refine gf_X4_38 rfl dX4_takeOperation_33 h1.1 rfl ?_
      refine j_iconst dX4_takeOperation_36 ?_
      refine j_iadd dX4_takeOperation_37 ?_
      refine pf_X4_38 rfl dX4_takeOperation_38 h1.1 rfl rfl (Nat.le_of_ble_eq_true rfl) ?_
      dsimp only [List.set]
      refine j_iload_n dX4_takeOperation_41 rfl ?_
      exact j_iret dX4_takeOperation_42 ⟨_, rfl, pl + 1, h1.own, Off.rf.up (by simp), Or.inl ⟨by omega, rfl, rfl⟩⟩
    · skip
      refine j_iload_n dX4_takeOperation_17 rfl ?_
      refine j_bipush dX4_takeOperation_18 (by decide) ?_
      refine j_icmp_eq (tgt := 31) dX4_takeOperation_20 (by decide) ⟨by omega, by omega⟩ ⟨by omega, by omega⟩ (fun h20 => ?_) (fun h20 => ?_)
      · skip
        refine j_aload_n dX4_takeOperation_31 rfl ?_
        refine j_dup dX4_takeOperation_32 rfl ?_
        refine gf_X4_38 rfl dX4_takeOperation_33 h1.1 rfl ?_
        refine j_iconst dX4_takeOperation_36 ?_
        refine j_iadd dX4_takeOperation_37 ?_
        refine pf_X4_38 rfl dX4_takeOperation_38 h1.1 rfl rfl (Nat.le_of_ble_eq_true rfl) ?_
        dsimp only [List.set]
        refine j_iload_n dX4_takeOperation_41 rfl ?_
        exact j_iret dX4_takeOperation_42 ⟨_, rfl, pl + 1, h1.own, Off.rf.up (by simp), Or.inl ⟨by omega, rfl, rfl⟩⟩
      · skip
        refine j_iload_n dX4_takeOperation_23 rfl ?_
        refine j_bipush dX4_takeOperation_24 (by decide) ?_
        refine j_icmp_eq (tgt := 31) dX4_takeOperation_26 (by decide) ⟨by omega, by omega⟩ ⟨by omega, by omega⟩ (fun h26 => ?_) (fun h26 => ?_)
        · skip
          refine j_aload_n dX4_takeOperation_31 rfl ?_
          refine j_dup dX4_takeOperation_32 rfl ?_
          refine gf_X4_38 rfl dX4_takeOperation_33 h1.1 rfl ?_
          refine j_iconst dX4_takeOperation_36 ?_
          refine j_iadd dX4_takeOperation_37 ?_
          refine pf_X4_38 rfl dX4_takeOperation_38 h1.1 rfl rfl (Nat.le_of_ble_eq_true rfl) ?_
          dsimp only [List.set]
          refine j_iload_n dX4_takeOperation_41 rfl ?_
          exact j_iret dX4_takeOperation_42 ⟨_, rfl, pl + 1, h1.own, Off.rf.up (by simp), Or.inl ⟨by omega, rfl, rfl⟩⟩
        · skip
          refine j_iconst dX4_takeOperation_29 ?_
          exact j_iret dX4_takeOperation_30 ⟨_, rfl, pl, h1, Off.rf, Or.inr ⟨by omega, rfl, rfl⟩⟩
set_option maxRecDepth 100000 in
set_option maxHeartbeats 4000000 in
theorem c_X4_takeDigit {l : Launch} {D : gD} {σ : Wd} {x n : Nat} {pl : Nat} {nr tg lf rt op : Int} {ch nm : Nat → Int} (h1 : TX D σ x n pl nr tg lf rt op ch nm) (hpl : pl ≤ 100) : KX4_takeDigit l D [.ref x] σ (fun r σ' => r = sg ch n pl - 48 ∧ σ' = wup σ x (.inr (4, txF x n ((pl + 1 : Nat) : Int) nr tg lf rt op))) := by
  have hsg := sg_R h1.2.2.1 pl
  have hn60 := h1.2.1
  refine sp_of (by decide +kernel) (cat1 rfl) (Nat.le_of_ble_eq_true rfl) [some (.ref x), none] rfl (fun sz => ?_)
  refine j_aload_n dX4_takeDigit_0 rfl ?_
  refine cl_X4_71 (As := []) rfl dX4_takeDigit_1 (c_X4_nextSign h1 hpl) h1.1 rfl ⟨by decide, by decide⟩ (Nat.le_of_ble_eq_true rfl) ⟨Nat.zero_le _, Nat.zero_le _⟩ (fun z1 σ1 hz1 => ?_)
  obtain ⟨hr1, hs1⟩ := hz1
  have hr1 := Eq.symm hr1
  have hs1 := Eq.symm hs1
  subst hr1
  subst hs1
  refine j_bipush dX4_takeDigit_4 (by decide) ?_
  refine j_isub dX4_takeDigit_6 ?_
  refine j_istore_n dX4_takeDigit_7 (by decide) (by dsimp only [List.set] <;> rfl) ?_
  refine j_aload_n dX4_takeDigit_8 rfl ?_
  refine j_dup dX4_takeDigit_9 rfl ?_
  refine gf_X4_38 rfl dX4_takeDigit_10 h1.1 rfl ?_
  refine j_iconst dX4_takeDigit_13 ?_
  refine j_iadd dX4_takeDigit_14 ?_
  refine pf_X4_38 rfl dX4_takeDigit_15 h1.1 rfl rfl (Nat.le_of_ble_eq_true rfl) ?_
  dsimp only [List.set]
  refine j_iload_n dX4_takeDigit_18 rfl ?_
  exact j_iret dX4_takeDigit_19 ⟨_, rfl, rfl, rfl⟩
set_option maxRecDepth 100000 in
set_option maxHeartbeats 4000000 in
theorem c_X4_faultBehind {l : Launch} {D : gD} {σ : Wd} {x n : Nat} {pl : Nat} {nr tg lf rt op : Int} {ch nm : Nat → Int} (h1 : TX D σ x n pl nr tg lf rt op ch nm) (hpl : pl ≤ 100) : KX4_faultBehind l D [.ref x] σ (fun r σ' => r = (if pl < n then (pl : Int) else -1) ∧ σ' = σ) := by
  have hsg := sg_R h1.2.2.1 pl
  have hn60 := h1.2.1
  refine sp_of (by decide +kernel) (cat1 rfl) (Nat.le_of_ble_eq_true rfl) [some (.ref x)] rfl (fun sz => ?_)
  refine j_aload_n dX4_faultBehind_0 rfl ?_
  refine gf_X4_38 rfl dX4_faultBehind_1 h1.1 rfl ?_
  refine j_aload_n dX4_faultBehind_4 rfl ?_
  refine gf_X4_22 rfl dX4_faultBehind_5 h1.1 rfl ?_
  refine j_icmp_ge (tgt := 18) dX4_faultBehind_8 (by decide) ⟨by omega, by omega⟩ ⟨by omega, by omega⟩ (fun h8 => ?_) (fun h8 => ?_)
  · skip
    refine j_iconst dX4_faultBehind_18 ?_
    exact j_iret dX4_faultBehind_19 ⟨_, rfl, by first | rw [if_pos (by omega)] | rw [if_neg (by omega)], rfl⟩
  · skip
    refine j_aload_n dX4_faultBehind_11 rfl ?_
    refine gf_X4_38 rfl dX4_faultBehind_12 h1.1 rfl ?_
    refine j_goto (tgt := 19) dX4_faultBehind_15 (by decide) ?_
    exact j_iret dX4_faultBehind_19 ⟨_, rfl, by first | rw [if_pos (by omega)] | rw [if_neg (by omega)], rfl⟩
set_option maxRecDepth 100000 in
set_option maxHeartbeats 4000000 in
theorem c_X4_takeNumber {l : Launch} {D : gD} {σ : Wd} {x n pl nr : Nat} {tg lf rt op : Int} {ch nm : Nat → Int} (h1 : TX D σ x n pl nr tg lf rt op ch nm) (hpl : pl ≤ 90) (hnr : nr < 16) : KX4_takeNumber l D [.ref x] σ (fun r σ' => ∃ (q nr2 : Nat) (nm2 : Nat → Int), TX D σ' x n q nr2 tg lf rt op ch nm2 ∧ Off [x, x + 2] σ σ' ∧ (((48 ≤ sg ch n pl ∧ sg ch n pl ≤ 57) ∧ r = 1 ∧ q = (nVal ch n pl).2 ∧ nr2 = nr + 1 ∧ nm2 = fup nm nr (nVal ch n pl).1) ∨ (¬ (48 ≤ sg ch n pl ∧ sg ch n pl ≤ 57) ∧ r = 0 ∧ q = pl ∧ nr2 = nr ∧ nm2 = nm))) := by
  have hsg := sg_R h1.2.2.1 pl
  have hn60 := h1.2.1
  have hsg1 := sg_R h1.2.2.1 (pl + 1)
  have hsg2 := sg_R h1.2.2.1 (pl + 2)
  refine sp_of (by decide +kernel) (cat1 rfl) (Nat.le_of_ble_eq_true rfl) [some (.ref x), none, none] rfl (fun sz => ?_)
  refine j_aload_n dX4_takeNumber_0 rfl ?_
  refine cl_X4_71 (As := []) rfl dX4_takeNumber_1 (c_X4_nextSign h1 (by omega)) h1.1 rfl ⟨by decide, by decide⟩ (Nat.le_of_ble_eq_true rfl) ⟨Nat.zero_le _, Nat.zero_le _⟩ (fun z1 σ1 hz1 => ?_)
  obtain ⟨hr1, hs1⟩ := hz1
  have hr1 := Eq.symm hr1
  have hs1 := Eq.symm hs1
  subst hr1
  subst hs1
  refine cl_X4_74 (As := [_]) rfl dX4_takeNumber_4 (c_X4_isDigit (rs (by omega) (by omega))) rfl ⟨by decide, by decide⟩ (Nat.le_of_ble_eq_true rfl) ⟨Nat.zero_le _, Nat.zero_le _⟩ (fun z4 σ4 hz4 => ?_)
  obtain ⟨hr4, hs4⟩ := hz4
  have hr4 := Eq.symm hr4
  have hs4 := Eq.symm hs4
  subst hr4
  subst hs4
  refine j_if_eq (tgt := 29) dX4_takeNumber_7 (by decide) ⟨by omega, by omega⟩ (fun h7 => ?_) (fun h7 => ?_)
  · skip
    refine j_iconst dX4_takeNumber_29 ?_
    exact j_zret dX4_takeNumber_30 (by omega) ⟨_, rfl, pl, nr, nm, h1, Off.rf, Or.inr ⟨fun q => absurd h7 (by rw [if_pos q]; omega), rfl, rfl, rfl, rfl⟩⟩
  · skip
    have hdg : 48 ≤ sg ch n pl ∧ sg ch n pl ≤ 57 := by
      rcases Classical.em (48 ≤ sg ch n pl ∧ sg ch n pl ≤ 57) with q | q
      · exact q
      · exact absurd (if_neg q) h7
    refine j_aload_n dX4_takeNumber_10 rfl ?_
    refine gf_X4_25 rfl dX4_takeNumber_11 h1.1 rfl ?_
    refine j_if_lt (tgt := 29) dX4_takeNumber_14 (by decide) ⟨by omega, by omega⟩ (fun h14 => ?_) (fun h14 => ?_)
    · skip
      exact absurd h14 (by omega)
    · skip
      refine j_aload_n dX4_takeNumber_17 rfl ?_
      refine gf_X4_25 rfl dX4_takeNumber_18 h1.1 rfl ?_
      refine j_aload_n dX4_takeNumber_21 rfl ?_
      refine gf_X4_15 rfl dX4_takeNumber_22 h1.1 rfl ?_
      refine jj_alen dX4_takeNumber_25 h1.2.2.2.2 ?_
      refine j_icmp_lt (tgt := 31) dX4_takeNumber_26 (by decide) ⟨by omega, by omega⟩ ⟨by omega, by omega⟩ (fun h26 => ?_) (fun h26 => ?_)
      · skip
        have lp73 : ∀ (v : Int) (kp : Nat) (w : Wd), TX D w x n kp nr tg lf rt op ch nm → Off [x, x + 2] σ w → (v, kp) = nVal ch n pl → J l D yX4_takeNumber cX4_takeNumber 3 (some .boolean) rmX4_takeNumber sz (AA σ sz) (QI D σ sz (fun r σ' => ∃ (q nr2 : Nat) (nm2 : Nat → Int), TX D σ' x n q nr2 tg lf rt op ch nm2 ∧ Off [x, x + 2] σ σ' ∧ (((48 ≤ sg ch n pl ∧ sg ch n pl ≤ 57) ∧ r = 1 ∧ q = (nVal ch n pl).2 ∧ nr2 = nr + 1 ∧ nm2 = fup nm nr (nVal ch n pl).1) ∨ (¬ (48 ≤ sg ch n pl ∧ sg ch n pl ≤ 57) ∧ r = 0 ∧ q = pl ∧ nr2 = nr ∧ nm2 = nm)))) 0 0 73 [some (.ref x), some (vi v), none] [] w := by
          intro v kp w hw ho hvk
          refine j_aload_n dX4_takeNumber_73 rfl ?_
          refine gf_X4_15 rfl dX4_takeNumber_74 hw.1 rfl ?_
          refine j_aload_n dX4_takeNumber_77 rfl ?_
          refine gf_X4_25 rfl dX4_takeNumber_78 hw.1 rfl ?_
          refine j_iload_n dX4_takeNumber_81 rfl ?_
          refine jj_iast dX4_takeNumber_82 hw.2.2.2.2 (by omega) (by omega) ⟨by omega, by omega⟩ (fun e82 q82 => ?_)
          refine j_aload_n dX4_takeNumber_83 rfl ?_
          refine j_dup dX4_takeNumber_84 rfl ?_
          refine gf_X4_25 rfl dX4_takeNumber_85 (wup_of hw.1 (by omega)) rfl ?_
          refine j_iconst dX4_takeNumber_88 ?_
          refine j_iadd dX4_takeNumber_89 ?_
          refine pf_X4_25 rfl dX4_takeNumber_90 (wup_of hw.1 (by omega)) rfl rfl (Nat.le_of_ble_eq_true rfl) ?_
          dsimp only [List.set]
          refine j_iconst dX4_takeNumber_93 ?_
          exact j_zret dX4_takeNumber_94 (by omega) ⟨_, rfl, kp, nr + 1, fup nm nr v, ⟨wup_s _ _ _, hw.2.1, hw.2.2.1, (hw.2.2.2.1.up (by omega)).up (by omega), q82.up (by omega)⟩, (ho.up (by simp)).up (by simp), Or.inl ⟨hdg, rfl, by rw [← hvk], rfl, by rw [← hvk]⟩⟩
        refine j_aload_n dX4_takeNumber_31 rfl ?_
        refine cl_X4_77 (As := []) rfl dX4_takeNumber_32 (c_X4_takeDigit h1 (by omega)) h1.1 rfl ⟨by decide, by decide⟩ (Nat.le_of_ble_eq_true rfl) ⟨Nat.zero_le _, Nat.zero_le _⟩ (fun z32 σ32 hz32 => ?_)
        obtain ⟨hr32, hs32⟩ := hz32
        have hr32 := Eq.symm hr32
        have hs32 := Eq.symm hs32
        subst hr32
        subst hs32
        have k1 : TX D (wup σ x (.inr (4, txF x n ((pl + 1 : Nat) : Int) nr tg lf rt op))) x n ((pl + 1 : Nat) : Int) nr tg lf rt op ch nm := h1.own
        refine j_istore_n dX4_takeNumber_35 (by decide) (by dsimp only [List.set] <;> rfl) ?_
        refine j_iload_n dX4_takeNumber_36 rfl ?_
        refine j_if_eq (tgt := 73) dX4_takeNumber_37 (by decide) ⟨by omega, by omega⟩ (fun h37 => ?_) (fun h37 => ?_)
        · skip
          exact lp73 _ (pl + 1) _ k1 (Off.rf.up (by simp)) (by unfold nVal; rw [if_pos h37])
        · skip
          refine j_iconst dX4_takeNumber_40 ?_
          refine j_istore_n dX4_takeNumber_41 (by decide) (by dsimp only [List.set] <;> rfl) ?_
          refine j_iload_n dX4_takeNumber_42 rfl ?_
          refine j_iconst dX4_takeNumber_43 ?_
          refine j_icmp_ge (tgt := 73) dX4_takeNumber_44 (by decide) ⟨by omega, by omega⟩ ⟨by omega, by omega⟩ (fun h44 => ?_) (fun h44 => ?_)
          · skip
            exact absurd h44 (by omega)
          · skip
            refine j_aload_n dX4_takeNumber_47 rfl ?_
            refine cl_X4_71 (As := []) rfl dX4_takeNumber_48 (c_X4_nextSign k1 (by omega)) k1.1 rfl ⟨by decide, by decide⟩ (Nat.le_of_ble_eq_true rfl) ⟨Nat.zero_le _, Nat.zero_le _⟩ (fun z48 σ48 hz48 => ?_)
            obtain ⟨hr48, hs48⟩ := hz48
            have hr48 := Eq.symm hr48
            have hs48 := Eq.symm hs48
            subst hr48
            subst hs48
            refine cl_X4_74 (As := [_]) rfl dX4_takeNumber_51 (c_X4_isDigit (rs (by omega) (by omega))) rfl ⟨by decide, by decide⟩ (Nat.le_of_ble_eq_true rfl) ⟨Nat.zero_le _, Nat.zero_le _⟩ (fun z51 σ51 hz51 => ?_)
            obtain ⟨hr51, hs51⟩ := hz51
            have hr51 := Eq.symm hr51
            have hs51 := Eq.symm hs51
            subst hr51
            subst hs51
            refine j_if_eq (tgt := 73) dX4_takeNumber_54 (by decide) ⟨by omega, by omega⟩ (fun h54a => ?_) (fun h54a => ?_)
            · skip
              have hdg1 : ¬ (48 ≤ sg ch n (pl + 1) ∧ sg ch n (pl + 1) ≤ 57) := fun q => absurd h54a (by rw [if_pos q]; omega)
              refine j_weak (L := [some (.ref x), some (vi (sg ch n pl - 48)), none]) ⟨rfl, rfl, trivial⟩ ?_
              exact lp73 _ (pl + 1) _ k1 (Off.rf.up (by simp)) (by unfold nVal; rw [if_neg h37, if_neg hdg1])
            · skip
              have hdg1 : 48 ≤ sg ch n (pl + 1) ∧ sg ch n (pl + 1) ≤ 57 := by
                rcases Classical.em (48 ≤ sg ch n (pl + 1) ∧ sg ch n (pl + 1) ≤ 57) with q | q
                · exact q
                · exact absurd (if_neg q) h54a
              refine j_iload_n dX4_takeNumber_57 rfl ?_
              refine j_bipush dX4_takeNumber_58 (by decide) ?_
              refine j_imul dX4_takeNumber_60 ?_
              refine j_aload_n dX4_takeNumber_61 rfl ?_
              refine cl_X4_77 (As := []) rfl dX4_takeNumber_62 (c_X4_takeDigit k1 (by omega)) k1.1 rfl ⟨by decide, by decide⟩ (Nat.le_of_ble_eq_true rfl) ⟨Nat.zero_le _, Nat.zero_le _⟩ (fun z62 σ62 hz62 => ?_)
              obtain ⟨hr62, hs62⟩ := hz62
              have hr62 := Eq.symm hr62
              have hs62 := Eq.symm hs62
              subst hr62
              subst hs62
              have k2 : TX D (wup (wup σ x (.inr (4, txF x n ((pl + 1 : Nat) : Int) nr tg lf rt op))) x (.inr (4, txF x n ((pl + 2 : Nat) : Int) nr tg lf rt op))) x n ((pl + 2 : Nat) : Int) nr tg lf rt op ch nm := k1.own
              refine j_iadd dX4_takeNumber_65 ?_
              refine j_istore_n dX4_takeNumber_66 (by decide) (by dsimp only [List.set] <;> rfl) ?_
              refine j_iinc dX4_takeNumber_67 rfl (by decide) (by dsimp only [List.set] <;> rfl) ?_
              refine j_goto (tgt := 42) dX4_takeNumber_70 (by decide) ?_
              refine j_iload_n dX4_takeNumber_42 rfl ?_
              refine j_iconst dX4_takeNumber_43 ?_
              refine j_icmp_ge (tgt := 73) dX4_takeNumber_44 (by decide) ⟨by omega, by omega⟩ ⟨by omega, by omega⟩ (fun h44 => ?_) (fun h44 => ?_)
              · skip
                exact absurd h44 (by omega)
              · skip
                refine j_aload_n dX4_takeNumber_47 rfl ?_
                refine cl_X4_71 (As := []) rfl dX4_takeNumber_48 (c_X4_nextSign k2 (by omega)) k2.1 rfl ⟨by decide, by decide⟩ (Nat.le_of_ble_eq_true rfl) ⟨Nat.zero_le _, Nat.zero_le _⟩ (fun z48 σ48 hz48 => ?_)
                obtain ⟨hr48, hs48⟩ := hz48
                have hr48 := Eq.symm hr48
                have hs48 := Eq.symm hs48
                subst hr48
                subst hs48
                refine cl_X4_74 (As := [_]) rfl dX4_takeNumber_51 (c_X4_isDigit (rs (by omega) (by omega))) rfl ⟨by decide, by decide⟩ (Nat.le_of_ble_eq_true rfl) ⟨Nat.zero_le _, Nat.zero_le _⟩ (fun z51 σ51 hz51 => ?_)
                obtain ⟨hr51, hs51⟩ := hz51
                have hr51 := Eq.symm hr51
                have hs51 := Eq.symm hs51
                subst hr51
                subst hs51
                refine j_if_eq (tgt := 73) dX4_takeNumber_54 (by decide) ⟨by omega, by omega⟩ (fun h54b => ?_) (fun h54b => ?_)
                · skip
                  have hdg2 : ¬ (48 ≤ sg ch n (pl + 2) ∧ sg ch n (pl + 2) ≤ 57) := fun q => absurd h54b (by rw [if_pos q]; omega)
                  refine j_weak (L := [some (.ref x), some (vi ((sg ch n pl - 48) * 10 + (sg ch n (pl + 1) - 48))), none]) ⟨rfl, rfl, trivial⟩ ?_
                  exact lp73 _ (pl + 2) _ k2 ((Off.rf.up (by simp)).up (by simp)) (by unfold nVal; rw [if_neg h37, if_pos hdg1, if_neg hdg2])
                · skip
                  have hdg2 : 48 ≤ sg ch n (pl + 2) ∧ sg ch n (pl + 2) ≤ 57 := by
                    rcases Classical.em (48 ≤ sg ch n (pl + 2) ∧ sg ch n (pl + 2) ≤ 57) with q | q
                    · exact q
                    · exact absurd (if_neg q) h54b
                  refine j_iload_n dX4_takeNumber_57 rfl ?_
                  refine j_bipush dX4_takeNumber_58 (by decide) ?_
                  refine j_imul dX4_takeNumber_60 ?_
                  refine j_aload_n dX4_takeNumber_61 rfl ?_
                  refine cl_X4_77 (As := []) rfl dX4_takeNumber_62 (c_X4_takeDigit k2 (by omega)) k2.1 rfl ⟨by decide, by decide⟩ (Nat.le_of_ble_eq_true rfl) ⟨Nat.zero_le _, Nat.zero_le _⟩ (fun z62 σ62 hz62 => ?_)
                  obtain ⟨hr62, hs62⟩ := hz62
                  have hr62 := Eq.symm hr62
                  have hs62 := Eq.symm hs62
                  subst hr62
                  subst hs62
                  have k3 := k2.own (pl' := ((pl + 3 : Nat) : Int)) (nr' := nr) (tg' := tg) (lf' := lf) (rt' := rt) (op' := op)
                  refine j_iadd dX4_takeNumber_65 ?_
                  refine j_istore_n dX4_takeNumber_66 (by decide) (by dsimp only [List.set] <;> rfl) ?_
                  refine j_iinc dX4_takeNumber_67 rfl (by decide) (by dsimp only [List.set] <;> rfl) ?_
                  refine j_goto (tgt := 42) dX4_takeNumber_70 (by decide) ?_
                  refine j_iload_n dX4_takeNumber_42 rfl ?_
                  refine j_iconst dX4_takeNumber_43 ?_
                  refine j_icmp_ge (tgt := 73) dX4_takeNumber_44 (by decide) ⟨by omega, by omega⟩ ⟨by omega, by omega⟩ (fun h44 => ?_) (fun h44 => ?_)
                  · skip
                    refine j_weak (L := [some (.ref x), some (vi (((sg ch n pl - 48) * 10 + (sg ch n (pl + 1) - 48)) * 10 + (sg ch n (pl + 2) - 48))), none]) ⟨rfl, rfl, trivial⟩ ?_
                    exact lp73 _ (pl + 3) _ k3 (((Off.rf.up (by simp)).up (by simp)).up (by simp)) (by unfold nVal; rw [if_neg h37, if_pos hdg1, if_pos hdg2])
                  · skip
                    exact absurd h44 (by omega)
      · skip
        exact absurd h26 (by omega)
set_option maxRecDepth 100000 in
set_option maxHeartbeats 4000000 in
theorem c_X4_numberAt {l : Launch} {D : gD} {σ : Wd} {x n nr i : Nat} {pl tg lf rt op : Int} {ch nm : Nat → Int} (h1 : TX D σ x n pl nr tg lf rt op ch nm) (hnr : nr ≤ 16) (hi : i < nr) : KX4_numberAt l D [.ref x, vi i] σ (fun r σ' => r = nm i ∧ σ' = σ) := by
  refine sp_of (by decide +kernel) (cat1 rfl) (Nat.le_of_ble_eq_true rfl) [some (.ref x), some (vi i)] rfl (fun sz => ?_)
  refine j_iload_n dX4_numberAt_0 rfl ?_
  refine j_if_lt (tgt := 30) dX4_numberAt_1 (by decide) ⟨by omega, by omega⟩ (fun h1b => ?_) (fun h1b => ?_)
  · skip
    exact absurd h1b (by omega)
  · skip
    refine j_iload_n dX4_numberAt_4 rfl ?_
    refine j_aload_n dX4_numberAt_5 rfl ?_
    refine gf_X4_25 rfl dX4_numberAt_6 h1.1 rfl ?_
    refine j_icmp_ge (tgt := 30) dX4_numberAt_9 (by decide) ⟨by omega, by omega⟩ ⟨by omega, by omega⟩ (fun h9 => ?_) (fun h9 => ?_)
    · skip
      exact absurd h9 (by omega)
    · skip
      refine j_iload_n dX4_numberAt_12 rfl ?_
      refine j_aload_n dX4_numberAt_13 rfl ?_
      refine gf_X4_15 rfl dX4_numberAt_14 h1.1 rfl ?_
      refine jj_alen dX4_numberAt_17 h1.2.2.2.2 ?_
      refine j_icmp_ge (tgt := 30) dX4_numberAt_18 (by decide) ⟨by omega, by omega⟩ ⟨by omega, by omega⟩ (fun h18 => ?_) (fun h18 => ?_)
      · skip
        exact absurd h18 (by omega)
      · skip
        refine j_aload_n dX4_numberAt_21 rfl ?_
        refine gf_X4_15 rfl dX4_numberAt_22 h1.1 rfl ?_
        refine j_iload_n dX4_numberAt_25 rfl ?_
        refine jj_iald dX4_numberAt_26 h1.2.2.2.2 (by omega) (by omega) ⟨by omega, by omega⟩ ?_
        refine j_goto (tgt := 31) dX4_numberAt_27 (by decide) ?_
        exact j_iret dX4_numberAt_31 ⟨_, rfl, rfl, rfl⟩
set_option maxRecDepth 100000 in
set_option maxHeartbeats 4000000 in
theorem c_X4_greatestNumber {l : Launch} {D : gD} {σ : Wd} {x n nr : Nat} {pl tg lf rt op : Int} {ch nm : Nat → Int} (h1 : TX D σ x n pl nr tg lf rt op ch nm) (hnr : nr ≤ 16) (hnm : ∀ j, j < nr → 0 ≤ nm j ∧ nm j ≤ 999) : KX4_greatestNumber l D [.ref x] σ (fun r σ' => r = mxF nm nr ∧ σ' = σ) := by
  refine sp_of (by decide +kernel) (cat1 rfl) (Nat.le_of_ble_eq_true rfl) [some (.ref x), none, none] rfl (fun sz => ?_)
  refine j_iconst dX4_greatestNumber_0 ?_
  refine j_istore_n dX4_greatestNumber_1 (by decide) (by dsimp only [List.set] <;> rfl) ?_
  refine j_iconst dX4_greatestNumber_2 ?_
  refine j_istore_n dX4_greatestNumber_3 (by decide) (by dsimp only [List.set] <;> rfl) ?_
  have lp4 : ∀ (nn i : Nat) (c : Int), 17 - i < nn → i ≤ nr → c = mxF nm i → J l D yX4_greatestNumber cX4_greatestNumber 3 (some .int) rmX4_greatestNumber sz (AA σ sz) (QI D σ sz (fun r σ' => r = mxF nm nr ∧ σ' = σ)) 0 0 4 [some (.ref x), some (vi c), some (vi i)] [] σ := by
    intro nn
    induction nn with
    | zero =>
      intro i c hnn hi hc
      exfalso
      omega
    | succ nn ih4 =>
      intro i c hnn hi hc
      have hcR := mxF_R (f := nm) (b := 999) (by omega) (n := i) (fun j hj => (hnm j (by omega)).2)
      refine j_iload_n dX4_greatestNumber_4 rfl ?_
      refine j_aload_n dX4_greatestNumber_5 rfl ?_
      refine gf_X4_25 rfl dX4_greatestNumber_6 h1.1 rfl ?_
      refine j_icmp_ge (tgt := 28) dX4_greatestNumber_9 (by decide) ⟨by omega, by omega⟩ ⟨by omega, by omega⟩ (fun h9 => ?_) (fun h9 => ?_)
      · skip
        refine j_iload_n dX4_greatestNumber_28 rfl ?_
        exact j_iret dX4_greatestNumber_29 ⟨_, rfl, by rw [hc, show i = nr by omega], rfl⟩
      · skip
        refine j_iload_n dX4_greatestNumber_12 rfl ?_
        refine j_aload_n dX4_greatestNumber_13 rfl ?_
        refine j_iload_n dX4_greatestNumber_14 rfl ?_
        refine cl_X4_28 (As := [_]) rfl dX4_greatestNumber_15 (c_X4_numberAt h1 hnr (by omega)) h1.1 rfl ⟨by decide, by decide⟩ (Nat.le_of_ble_eq_true rfl) ⟨Nat.zero_le _, Nat.zero_le _⟩ (fun z15 σ15 hz15 => ?_)
        obtain ⟨hr15, hs15⟩ := hz15
        have hr15 := Eq.symm hr15
        have hs15 := Eq.symm hs15
        subst hr15
        subst hs15
        have hni := hnm i (by omega)
        refine j_mmax lk_X4_32 wst_max wini_math wcd_max dX4_greatestNumber_18 ⟨by omega, by omega⟩ ⟨by omega, by omega⟩ (by decide) (Nat.le_of_ble_eq_true rfl) ⟨Nat.zero_le _, Nat.zero_le _⟩ ?_
        refine j_istore_n dX4_greatestNumber_21 (by decide) (by dsimp only [List.set] <;> rfl) ?_
        refine j_iinc dX4_greatestNumber_22 rfl (by decide) (by dsimp only [List.set] <;> rfl) ?_
        refine j_goto (tgt := 4) dX4_greatestNumber_25 (by decide) ?_
        refine j_weak (L := [some (.ref x), some (vi (if c < nm i then nm i else c)), some (vi ((i + 1 : Nat) : Int))]) ⟨rfl, rfl, rfl, trivial⟩ ?_
        exact ih4 (i + 1) _ (by omega) (by omega) (by rw [hc]; rfl)
  exact lp4 18 0 0 (by omega) (by omega) rfl
set_option maxRecDepth 100000 in
set_option maxHeartbeats 4000000 in
theorem c_X4_append {l : Launch} {D : gD} {σ : Wd} {x n : Nat} {pl : Int} {nr tg lf rt op : Int} {ch nm : Nat → Int} {v : Int} (h1 : TX D σ x n pl nr tg lf rt op ch nm) (hv0 : 0 ≤ v) (hv1 : v < 65536) : KX4_append l D [.ref x, vi v] σ (fun r σ' => (n < 60 ∧ r = 1 ∧ Off [x, x + 1] σ σ' ∧ TX D σ' x (n + 1) pl nr tg lf rt op (fup ch n v) nm) ∨ (n = 60 ∧ r = 0 ∧ σ' = σ)) := by
  have hn60 := h1.2.1
  have hchb := h1.2.2.1
  refine sp_of (by decide +kernel) (cat1 rfl) (Nat.le_of_ble_eq_true rfl) [some (.ref x), some (vi v)] rfl (fun sz => ?_)
  refine j_aload_n dX4_append_0 rfl ?_
  refine gf_X4_22 rfl dX4_append_1 h1.1 rfl ?_
  refine j_if_lt (tgt := 16) dX4_append_4 (by decide) ⟨by omega, by omega⟩ (fun h4 => ?_) (fun h4 => ?_)
  · skip
    exact absurd h4 (by omega)
  · skip
    refine j_aload_n dX4_append_7 rfl ?_
    refine gf_X4_22 rfl dX4_append_8 h1.1 rfl ?_
    refine j_bipush dX4_append_11 (by decide) ?_
    refine j_icmp_lt (tgt := 18) dX4_append_13 (by decide) ⟨by omega, by omega⟩ ⟨by omega, by omega⟩ (fun h13 => ?_) (fun h13 => ?_)
    · skip
      refine j_aload_n dX4_append_18 rfl ?_
      refine gf_X4_9 rfl dX4_append_19 h1.1 rfl ?_
      refine j_aload_n dX4_append_22 rfl ?_
      refine gf_X4_22 rfl dX4_append_23 h1.1 rfl ?_
      refine j_iload_n dX4_append_26 rfl ?_
      refine jj_iast dX4_append_27 h1.2.2.2.1 (by omega) (by omega) ⟨by omega, by omega⟩ (fun e27 q27 => ?_)
      refine j_aload_n dX4_append_28 rfl ?_
      refine j_dup dX4_append_29 rfl ?_
      refine gf_X4_22 rfl dX4_append_30 (wup_of h1.1 (by omega)) rfl ?_
      refine j_iconst dX4_append_33 ?_
      refine j_iadd dX4_append_34 ?_
      refine pf_X4_22 rfl dX4_append_35 (wup_of h1.1 (by omega)) rfl rfl (Nat.le_of_ble_eq_true rfl) ?_
      dsimp only [List.set]
      refine j_iconst dX4_append_38 ?_
      exact j_zret dX4_append_39 (by omega) ⟨_, rfl, Or.inl ⟨by omega, rfl, (Off.rf.up (by simp)).up (by simp), wup_s _ _ _, by omega, fun j hj => by
            unfold fup
            split
            · omega
            · exact hchb j (by omega), q27.up (by omega), (h1.2.2.2.2.up (by omega)).up (by omega)⟩⟩
    · skip
      refine j_iconst dX4_append_16 ?_
      exact j_zret dX4_append_17 (by omega) ⟨_, rfl, Or.inr ⟨by omega, rfl, rfl⟩⟩
set_option maxRecDepth 100000 in
set_option maxHeartbeats 4000000 in
theorem c_X4_readRows {l : Launch} {D : gD} {σ : Wd} {x n rows z : Nat} {pl nr tg lf rt op : Int} {ch nm : Nat → Int} (h1 : TX D σ x n pl nr tg lf rt op ch nm) (hW : rows * z ≤ 16) : KX4_readRows l D [.ref x, vi rows, vi z] σ (fun r σ' => r = rdF ch n z (rows * z) ∧ Off [x, x + 2] σ σ' ∧ ∃ (pl nr : Int) (nm : Nat → Int), TX D σ' x n pl nr tg lf rt op ch nm ∧ (r = -1 → nr = ((rows * z : Nat) : Int) ∧ ∀ j, j < rows * z → nm j = (rd ch n z (rows * z)).2.2 j)) := by
  have hn60 := h1.2.1
  have hchb := h1.2.2.1
  refine sp_of (by decide +kernel) (cat1 rfl) (Nat.le_of_ble_eq_true rfl) [some (.ref x), some (vi rows), some (vi z), none, none, none] rfl (fun sz => ?_)
  refine j_aload_n dX4_readRows_0 rfl ?_
  refine j_iconst dX4_readRows_1 ?_
  refine pf_X4_38 rfl dX4_readRows_2 h1.1 rfl rfl (Nat.le_of_ble_eq_true rfl) ?_
  dsimp only [List.set]
  have k1 := h1.own (pl' := 0) (nr' := nr) (tg' := tg) (lf' := lf) (rt' := rt) (op' := op)
  refine j_aload_n dX4_readRows_5 rfl ?_
  refine j_iconst dX4_readRows_6 ?_
  refine pf_X4_25 rfl dX4_readRows_7 k1.1 rfl rfl (Nat.le_of_ble_eq_true rfl) ?_
  dsimp only [List.set]
  have k2 := k1.own (pl' := 0) (nr' := 0) (tg' := tg) (lf' := lf) (rt' := rt) (op' := op)
  refine j_iload_n dX4_readRows_10 rfl ?_
  refine j_iload_n dX4_readRows_11 rfl ?_
  refine j_imul dX4_readRows_12 ?_
  refine j_tops (show _ = ((rows * z : Nat) : Int) by push_cast; rfl) ?_
  refine j_aload_n dX4_readRows_13 rfl ?_
  refine gf_X4_15 rfl dX4_readRows_14 k2.1 rfl ?_
  refine jj_alen dX4_readRows_17 k2.2.2.2.2 ?_
  refine j_mmin lk_X4_41 wst_min wini_math wcd_min dX4_readRows_18 ⟨by omega, by omega⟩ ⟨by omega, by omega⟩ (by decide) (Nat.le_of_ble_eq_true rfl) ⟨Nat.zero_le _, Nat.zero_le _⟩ ?_
  refine j_tops (show _ = ((rows * z : Nat) : Int) from if_neg (by omega)) ?_
  refine j_istore_n dX4_readRows_21 (by decide) (by dsimp only [List.set] <;> rfl) ?_
  refine j_iconst dX4_readRows_22 ?_
  refine j_istore dX4_readRows_23 (by decide) (by dsimp only [List.set] <;> rfl) ?_
  have lp25 : ∀ (nn i : Nat) (w : Wd) (nm1 : Nat → Int), 17 - i < nn → i ≤ rows * z → Off [x, x + 2] σ w → TX D w x n ((rd ch n z i).2.1 : Int) (i : Int) tg lf rt op ch nm1 → (rd ch n z i).1 = true → (∀ j, j < i → nm1 j = (rd ch n z i).2.2 j) → J l D yX4_readRows cX4_readRows 6 (some .int) rmX4_readRows sz (AA σ sz) (QI D σ sz (fun r σ' => r = rdF ch n z (rows * z) ∧ Off [x, x + 2] σ σ' ∧ ∃ (pl nr : Int) (nm : Nat → Int), TX D σ' x n pl nr tg lf rt op ch nm ∧ (r = -1 → nr = ((rows * z : Nat) : Int) ∧ ∀ j, j < rows * z → nm j = (rd ch n z (rows * z)).2.2 j))) 0 0 25 [some (.ref x), some (vi rows), some (vi z), some (vi ((rows * z : Nat) : Int)), some (vi i), none] [] w := by
    intro nn
    induction nn with
    | zero =>
      intro i w nm1 hnn hi ho hw hok hag
      exfalso
      omega
    | succ nn ih25 =>
      intro i w nm1 hnn hi ho hw hok hag
      have hrl := rd_le ch n z i
      refine j_iload dX4_readRows_25 rfl ?_
      refine j_iload_n dX4_readRows_27 rfl ?_
      refine j_icmp_ge (tgt := 86) dX4_readRows_28 (by decide) ⟨by omega, by omega⟩ ⟨by omega, by omega⟩ (fun h28 => ?_) (fun h28 => ?_)
      · skip
        refine j_aload_n dX4_readRows_86 rfl ?_
        have hiW : i = rows * z := by omega
        refine cl_X4_52 (As := []) rfl dX4_readRows_87 (c_X4_faultBehind hw (by omega)) hw.1 rfl ⟨by decide, by decide⟩ (Nat.le_of_ble_eq_true rfl) ⟨Nat.zero_le _, Nat.zero_le _⟩ (fun z87 σ87 hz87 => ?_)
        obtain ⟨hr87, hs87⟩ := hz87
        have hr87 := Eq.symm hr87
        have hs87 := Eq.symm hs87
        subst hr87
        subst hs87
        exact j_iret dX4_readRows_90 ⟨_, rfl, by unfold rdF; rw [← hiW]; by_cases a : (rd ch n z i).2.1 < n; (rw [if_pos a, if_neg (by omega)]); (rw [if_neg a, if_pos ⟨hok, by omega⟩]), ho, _, _, nm1, hw, fun _ => by rw [← hiW]; exact ⟨rfl, hag⟩⟩
      · skip
        refine j_iload dX4_readRows_31 rfl ?_
        refine j_if_eq (tgt := 56) dX4_readRows_33 (by decide) (rs (by omega) (by omega)) (fun h33 => ?_) (fun h33 => ?_)
        · skip
          refine j_iconst dX4_readRows_56 ?_
          refine j_goto (tgt := 61) dX4_readRows_57 (by decide) ?_
          refine j_istore dX4_readRows_61 (by decide) (by dsimp only [List.set] <;> rfl) ?_
          refine j_iload dX4_readRows_63 rfl ?_
          refine j_if_eq (tgt := 75) dX4_readRows_65 (by decide) ⟨by omega, by omega⟩ (fun h65 => ?_) (fun h65 => ?_)
          · skip
            exact absurd h65 (by omega)
          · skip
            refine j_aload_n dX4_readRows_68 rfl ?_
            refine cl_X4_48 (As := []) rfl dX4_readRows_69 (c_X4_takeNumber hw (by omega) (by omega)) hw.1 rfl ⟨by decide, by decide⟩ (Nat.le_of_ble_eq_true rfl) ⟨Nat.zero_le _, Nat.zero_le _⟩ (fun z69 σ69 hz69 => ?_)
            obtain ⟨q69, nr69, nm69, k69, ho69, hc69⟩ := hz69
            refine j_if_ne (tgt := 80) dX4_readRows_72 (by decide) (by rcases hc69 with ⟨-, b, -⟩ | ⟨-, b, -⟩ <;> (rw [b]; exact rs (by omega) (by omega))) (fun h72 => ?_) (fun h72 => ?_)
            · skip
              rcases hc69 with ⟨a69, b69, c69, d69, e69⟩ | ⟨a69, b69, c69, d69, e69⟩
              rotate_left
              · exact absurd b69 h72
              have er : rd ch n z (i + 1) = (true, (nVal ch n (rd ch n z i).2.1).2, fup (rd ch n z i).2.2 i (nVal ch n (rd ch n z i).2.1).1) := by
                show (if (rd ch n z i).1 = true then _ else _) = _
                rw [if_pos hok, if_pos (by omega)]
                unfold rdNum
                rw [if_pos a69]
              refine j_iinc dX4_readRows_80 rfl (by decide) (by dsimp only [List.set] <;> rfl) ?_
              refine j_goto (tgt := 25) dX4_readRows_83 (by decide) ?_
              refine j_weak (L := [some (.ref x), some (vi rows), some (vi z), some (vi ((rows * z : Nat) : Int)), some (vi ((i + 1 : Nat) : Int)), none]) ⟨rfl, rfl, rfl, rfl, rfl, trivial⟩ ?_
              refine ih25 (i + 1) _ nm69 (by omega) (by omega) (ho.tr ho69) (by rw [er]; rw [c69, d69] at k69; exact k69) (by rw [er]) (fun j hj => ?_)
              rw [er, e69]
              show fup nm1 i _ j = fup (rd ch n z i).2.2 i _ j
              by_cases a : j = i
              · rw [a, fup_s, fup_s]
              · rw [fup_n a, fup_n a]
                exact hag j (by omega)
            · skip
              rcases hc69 with ⟨a69, b69, c69, d69, e69⟩ | ⟨a69, b69, c69, d69, e69⟩
              · exact absurd h72 (by omega)
              have er : rd ch n z (i + 1) = (false, (rd ch n z i).2.1, (rd ch n z i).2.2) := by
                show (if (rd ch n z i).1 = true then _ else _) = _
                rw [if_pos hok, if_pos (by omega)]
                unfold rdNum
                rw [if_neg a69]
              refine j_aload_n dX4_readRows_75 rfl ?_
              refine gf_X4_38 rfl dX4_readRows_76 k69.1 rfl ?_
              exact j_iret dX4_readRows_79 ⟨_, rfl, by rw [c69]; exact rdF_bad er (by omega), ho.tr ho69, _, _, _, k69, fun q => absurd q (by omega)⟩
        · skip
          refine j_aload_n dX4_readRows_36 rfl ?_
          refine j_iload dX4_readRows_37 rfl ?_
          refine j_iload_n dX4_readRows_39 rfl ?_
          have lp50 : ∀ (c : Int), c = (if i = z then 59 else 44) → J l D yX4_readRows cX4_readRows 6 (some .int) rmX4_readRows sz (AA σ sz) (QI D σ sz (fun r σ' => r = rdF ch n z (rows * z) ∧ Off [x, x + 2] σ σ' ∧ ∃ (pl nr : Int) (nm : Nat → Int), TX D σ' x n pl nr tg lf rt op ch nm ∧ (r = -1 → nr = ((rows * z : Nat) : Int) ∧ ∀ j, j < rows * z → nm j = (rd ch n z (rows * z)).2.2 j))) 0 0 50 [some (.ref x), some (vi rows), some (vi z), some (vi ((rows * z : Nat) : Int)), some (vi i), none] [vi c, .ref x] w := by
            intro c hc
            refine cl_X4_44 (As := [_]) rfl dX4_readRows_50 (c_X4_take hw (by omega) (by rw [hc]; split <;> exact rs (by omega) (by omega))) hw.1 rfl ⟨by decide, by decide⟩ (Nat.le_of_ble_eq_true rfl) ⟨Nat.zero_le _, Nat.zero_le _⟩ (fun z50 σ50 hz50 => ?_)
            obtain ⟨q50, k50, ho50, hc50⟩ := hz50
            refine j_if_eq (tgt := 60) dX4_readRows_53 (by decide) (by rcases hc50 with ⟨-, b, -⟩ | ⟨-, b, -⟩ <;> (rw [b]; exact rs (by omega) (by omega))) (fun h53 => ?_) (fun h53 => ?_)
            · skip
              rcases hc50 with ⟨a50, b50, c50⟩ | ⟨a50, b50, c50⟩
              · exact absurd h53 (by omega)
              have er : rd ch n z (i + 1) = (false, (rd ch n z i).2.1, (rd ch n z i).2.2) := by
                show (if (rd ch n z i).1 = true then _ else _) = _
                rw [if_pos hok, if_neg (by omega), if_neg (by rw [← hc]; exact a50)]
              refine j_iconst dX4_readRows_60 ?_
              refine j_istore dX4_readRows_61 (by decide) (by dsimp only [List.set] <;> rfl) ?_
              refine j_iload dX4_readRows_63 rfl ?_
              refine j_if_eq (tgt := 75) dX4_readRows_65 (by decide) ⟨by omega, by omega⟩ (fun h65 => ?_) (fun h65 => ?_)
              · skip
                refine j_aload_n dX4_readRows_75 rfl ?_
                refine gf_X4_38 rfl dX4_readRows_76 k50.1 rfl ?_
                exact j_iret dX4_readRows_79 ⟨_, rfl, by rw [c50]; exact rdF_bad er (by omega), ho.tr (ho50.mono (by simp)), _, _, _, k50, fun q => absurd q (by omega)⟩
              · skip
                exact absurd rfl h65
            · skip
              rcases hc50 with ⟨a50, b50, c50⟩ | ⟨a50, b50, c50⟩
              rotate_left
              · exact absurd b50 h53
              refine j_iconst dX4_readRows_56 ?_
              refine j_goto (tgt := 61) dX4_readRows_57 (by decide) ?_
              refine j_istore dX4_readRows_61 (by decide) (by dsimp only [List.set] <;> rfl) ?_
              refine j_iload dX4_readRows_63 rfl ?_
              refine j_if_eq (tgt := 75) dX4_readRows_65 (by decide) ⟨by omega, by omega⟩ (fun h65 => ?_) (fun h65 => ?_)
              · skip
                exact absurd h65 (by omega)
              · skip
                refine j_aload_n dX4_readRows_68 rfl ?_
                refine cl_X4_48 (As := []) rfl dX4_readRows_69 (c_X4_takeNumber k50 (by omega) (by omega)) k50.1 rfl ⟨by decide, by decide⟩ (Nat.le_of_ble_eq_true rfl) ⟨Nat.zero_le _, Nat.zero_le _⟩ (fun z69 σ69 hz69 => ?_)
                obtain ⟨q69, nr69, nm69, k69, ho69, hc69⟩ := hz69
                refine j_if_ne (tgt := 80) dX4_readRows_72 (by decide) (by rcases hc69 with ⟨-, b, -⟩ | ⟨-, b, -⟩ <;> (rw [b]; exact rs (by omega) (by omega))) (fun h72 => ?_) (fun h72 => ?_)
                · skip
                  rcases hc69 with ⟨a69, b69, c69, d69, e69⟩ | ⟨a69, b69, c69, d69, e69⟩
                  rotate_left
                  · exact absurd b69 h72
                  rw [c50] at a69 c69 e69
                  have er : rd ch n z (i + 1) = (true, (nVal ch n ((rd ch n z i).2.1 + 1)).2, fup (rd ch n z i).2.2 i (nVal ch n ((rd ch n z i).2.1 + 1)).1) := by
                    show (if (rd ch n z i).1 = true then _ else _) = _
                    rw [if_pos hok, if_neg (by omega), if_pos (by rw [← hc]; exact a50)]
                    unfold rdNum
                    rw [if_pos a69]
                  refine j_iinc dX4_readRows_80 rfl (by decide) (by dsimp only [List.set] <;> rfl) ?_
                  refine j_goto (tgt := 25) dX4_readRows_83 (by decide) ?_
                  refine j_weak (L := [some (.ref x), some (vi rows), some (vi z), some (vi ((rows * z : Nat) : Int)), some (vi ((i + 1 : Nat) : Int)), none]) ⟨rfl, rfl, rfl, rfl, rfl, trivial⟩ ?_
                  refine ih25 (i + 1) _ nm69 (by omega) (by omega) (ho.tr ((ho50.mono (by simp)).tr ho69)) (by rw [er]; rw [c69, d69] at k69; exact k69) (by rw [er]) (fun j hj => ?_)
                  rw [er, e69]
                  show fup nm1 i _ j = fup (rd ch n z i).2.2 i _ j
                  by_cases a : j = i
                  · rw [a, fup_s, fup_s]
                  · rw [fup_n a, fup_n a]
                    exact hag j (by omega)
                · skip
                  rcases hc69 with ⟨a69, b69, c69, d69, e69⟩ | ⟨a69, b69, c69, d69, e69⟩
                  · exact absurd h72 (by omega)
                  rw [c50] at a69 c69
                  have er : rd ch n z (i + 1) = (false, (rd ch n z i).2.1 + 1, (rd ch n z i).2.2) := by
                    show (if (rd ch n z i).1 = true then _ else _) = _
                    rw [if_pos hok, if_neg (by omega), if_pos (by rw [← hc]; exact a50)]
                    unfold rdNum
                    rw [if_neg a69]
                  refine j_aload_n dX4_readRows_75 rfl ?_
                  refine gf_X4_38 rfl dX4_readRows_76 k69.1 rfl ?_
                  exact j_iret dX4_readRows_79 ⟨_, rfl, by rw [c69]; exact rdF_bad er (by omega), ho.tr ((ho50.mono (by simp)).tr ho69), _, _, _, k69, fun q => absurd q (by omega)⟩
          refine j_icmp_ne (tgt := 48) dX4_readRows_40 (by decide) (rs (by omega) (by omega)) (by rcases (show rows = 0 ∨ 1 ≤ rows by omega) with q | q; (rw [q, Nat.zero_mul] at h28; exact absurd h28 (by omega)); (have := Nat.mul_le_mul_right z q; exact rs (by omega) (by omega))) (fun h40 => ?_) (fun h40 => ?_)
          · skip
            refine j_bipush dX4_readRows_48 (by decide) ?_
            exact lp50 44 (by rw [if_neg (by omega)])
          · skip
            refine j_bipush dX4_readRows_43 (by decide) ?_
            refine j_goto (tgt := 50) dX4_readRows_45 (by decide) ?_
            exact lp50 59 (by rw [if_pos (by omega)])
  exact lp25 18 0 _ nm (by omega) (by omega) ((Off.rf.up (by simp)).up (by simp)) k2 rfl (fun j hj => absurd hj (by omega))

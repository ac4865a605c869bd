/-! ===== contracts: Elimination ===== -/
def blk (F : Nat → Int) (s i j : Nat) : Int := F (8 * (rowN s + i) + (colN s + j)).toNat
def ldM (F : Nat → Int) (s z : Nat) : Mx := fun i j => if j < z then blk F s i j else 0
def subF (fa c z p : Int) (t s : Nat → Int) : Nat → Int := fun j => if fa ≠ 0 ∧ c ≤ (j : Int) ∧ (j : Int) ≤ z then (t j - fa * s j) % p else t j
def nrF (p : Int) (z r c : Nat) (m : Mx) : Nat → Int := fun j => if c ≤ j ∧ j ≤ z then (m r j * inv p (m r c)) % p else m r j
def ccM (p : Int) (z r c : Nat) (m : Mx) : Mx := fun i => if i = r then nrF p z r c m else if i < z then subF (m i c) c z p (m i) (nrF p z r c m) else m i

set_option maxRecDepth 100000 in
set_option maxHeartbeats 4000000 in
theorem c_X0_putRightSide {l : Launch} {D : gD} {σ : Wd} {e z : Nat} {p r d : Int} {f : Nat → Nat} {m : Mx} {i : Nat} {v : Int} (h1 : EA D σ e p z r d f m) (hz : z ≤ 8) (hi : i < z) : KX0_putRightSide l D [.ref e, vi i, vi v] σ (fun σ' => OffR (e + 2) (e + 10) σ σ' ∧ EA D σ' e p z r d f (fup m i (fup (m i) z v))) := by
  refine sp_of (by decide +kernel) (cat1 rfl) (Nat.le_of_ble_eq_true rfl) [some (.ref e), some (vi i), some (vi v)] rfl (fun sz => ?_)
  refine j_iload_n dX0_putRightSide_0 rfl ?_
  refine j_if_lt (tgt := 24) dX0_putRightSide_1 (by decide) ⟨by omega, by omega⟩ (fun h1b => ?_) (fun h1b => ?_)
  · skip
    exact absurd h1b (by omega)
  · skip
    refine j_iload_n dX0_putRightSide_4 rfl ?_
    refine j_aload_n dX0_putRightSide_5 rfl ?_
    refine gf_X0_29 rfl dX0_putRightSide_6 h1.1 rfl ?_
    refine j_icmp_ge (tgt := 24) dX0_putRightSide_9 (by decide) ⟨by omega, by omega⟩ ⟨by omega, by omega⟩ (fun h9 => ?_) (fun h9 => ?_)
    · skip
      exact absurd h9 (by omega)
    · skip
      refine j_aload_n dX0_putRightSide_12 rfl ?_
      refine gf_X0_11 rfl dX0_putRightSide_13 h1.1 rfl ?_
      refine j_iload_n dX0_putRightSide_16 rfl ?_
      refine jj_aaldA dX0_putRightSide_17 h1.2.1 (by omega) (by omega) ⟨by omega, by omega⟩ ?_
      refine j_aload_n dX0_putRightSide_18 rfl ?_
      refine gf_X0_29 rfl dX0_putRightSide_19 h1.1 rfl ?_
      refine j_iload_n dX0_putRightSide_22 rfl ?_
      refine jj_iast dX0_putRightSide_23 (h1.2.2.2 i (by omega)) (by omega) (by omega) ⟨by omega, by omega⟩ (fun e23 q23 => ?_)
      exact j_vret dX0_putRightSide_24 ⟨rfl, EA.off (i := i) h1.2.2.1 (by omega) (wup_off (List.mem_singleton.mpr rfl)), h1.row (i := i) (by omega) (wup_off (List.mem_singleton.mpr rfl)) q23⟩
set_option maxRecDepth 100000 in
set_option maxHeartbeats 4000000 in
theorem c_X0_rightSideAt {l : Launch} {D : gD} {σ : Wd} {e z : Nat} {p r d : Int} {f : Nat → Nat} {m : Mx} {i : Nat} (h1 : EA D σ e p z r d f m) (hz : z ≤ 8) (hi : i < z) : KX0_rightSideAt l D [.ref e, vi i] σ (fun x σ' => x = m i z ∧ σ' = σ) := by
  refine sp_of (by decide +kernel) (cat1 rfl) (Nat.le_of_ble_eq_true rfl) [some (.ref e), some (vi i)] rfl (fun sz => ?_)
  refine j_iload_n dX0_rightSideAt_0 rfl ?_
  refine j_if_lt (tgt := 26) dX0_rightSideAt_1 (by decide) ⟨by omega, by omega⟩ (fun h1b => ?_) (fun h1b => ?_)
  · skip
    exact absurd h1b (by omega)
  · skip
    refine j_iload_n dX0_rightSideAt_4 rfl ?_
    refine j_aload_n dX0_rightSideAt_5 rfl ?_
    refine gf_X0_29 rfl dX0_rightSideAt_6 h1.1 rfl ?_
    refine j_icmp_ge (tgt := 26) dX0_rightSideAt_9 (by decide) ⟨by omega, by omega⟩ ⟨by omega, by omega⟩ (fun h9 => ?_) (fun h9 => ?_)
    · skip
      exact absurd h9 (by omega)
    · skip
      refine j_aload_n dX0_rightSideAt_12 rfl ?_
      refine gf_X0_11 rfl dX0_rightSideAt_13 h1.1 rfl ?_
      refine j_iload_n dX0_rightSideAt_16 rfl ?_
      refine jj_aaldA dX0_rightSideAt_17 h1.2.1 (by omega) (by omega) ⟨by omega, by omega⟩ ?_
      refine j_aload_n dX0_rightSideAt_18 rfl ?_
      refine gf_X0_29 rfl dX0_rightSideAt_19 h1.1 rfl ?_
      refine jj_iald dX0_rightSideAt_22 (h1.2.2.2 i (by omega)) (by omega) (by omega) ⟨by omega, by omega⟩ ?_
      refine j_goto (tgt := 27) dX0_rightSideAt_23 (by decide) ?_
      exact j_iret dX0_rightSideAt_27 ⟨_, rfl, ⟨rfl, rfl⟩⟩
set_option maxRecDepth 100000 in
set_option maxHeartbeats 4000000 in
theorem c_X0_lowerFactorAt {l : Launch} {D : gD} {σ : Wd} {e z : Nat} {p r d : Int} {f : Nat → Nat} {m : Mx} {i j : Nat} (h1 : EA D σ e p z r d f m) (hi : i < 8) (hj : j < 8) : KX0_lowerFactorAt l D [.ref e, vi i, vi j] σ (fun x σ' => x = (if i = j then 1 else if j < i then m i j else 0) ∧ σ' = σ) := by
  refine sp_of (by decide +kernel) (cat1 rfl) (Nat.le_of_ble_eq_true rfl) [some (.ref e), some (vi i), some (vi j)] rfl (fun sz => ?_)
  refine j_iload_n dX0_lowerFactorAt_0 rfl ?_
  refine j_iload_n dX0_lowerFactorAt_1 rfl ?_
  refine j_icmp_ne (tgt := 7) dX0_lowerFactorAt_2 (by decide) ⟨by omega, by omega⟩ ⟨by omega, by omega⟩ (fun h2 => ?_) (fun h2 => ?_)
  · skip
    refine j_iload_n dX0_lowerFactorAt_7 rfl ?_
    refine cl_X0_63 (As := [_]) rfl dX0_lowerFactorAt_8 (c_X6_isInside (rs (by omega) (by omega))) rfl ⟨by decide, by decide⟩ (Nat.le_of_ble_eq_true rfl) ⟨Nat.zero_le _, Nat.zero_le _⟩ (fun z8 σ8 hz8 => ?_)
    obtain ⟨hr8, hs8⟩ := hz8
    have hr8 := Eq.symm hr8
    have hs8 := Eq.symm hs8
    subst hr8
    subst hs8
    refine j_if_eq (tgt := 34) dX0_lowerFactorAt_11 (by decide) ⟨by omega, by omega⟩ (fun h11 => ?_) (fun h11 => ?_)
    · skip
      exact absurd h11 (by rw [if_pos (by omega)]; omega)
    · skip
      refine j_iload_n dX0_lowerFactorAt_14 rfl ?_
      refine j_if_lt (tgt := 34) dX0_lowerFactorAt_15 (by decide) ⟨by omega, by omega⟩ (fun h15 => ?_) (fun h15 => ?_)
      · skip
        exact absurd h15 (by omega)
      · skip
        refine j_iload_n dX0_lowerFactorAt_18 rfl ?_
        refine j_iload_n dX0_lowerFactorAt_19 rfl ?_
        refine j_icmp_ge (tgt := 34) dX0_lowerFactorAt_20 (by decide) ⟨by omega, by omega⟩ ⟨by omega, by omega⟩ (fun h20 => ?_) (fun h20 => ?_)
        · skip
          refine j_iconst dX0_lowerFactorAt_34 ?_
          exact j_iret dX0_lowerFactorAt_35 ⟨_, rfl, ⟨by rw [if_neg (by omega)]; first | rw [if_pos (by omega)]; rfl | rw [if_neg (by omega)], rfl⟩⟩
        · skip
          refine j_aload_n dX0_lowerFactorAt_23 rfl ?_
          refine gf_X0_11 rfl dX0_lowerFactorAt_24 h1.1 rfl ?_
          refine j_iload_n dX0_lowerFactorAt_27 rfl ?_
          refine jj_aaldA dX0_lowerFactorAt_28 h1.2.1 (by omega) (by omega) ⟨by omega, by omega⟩ ?_
          refine j_iload_n dX0_lowerFactorAt_29 rfl ?_
          refine jj_iald dX0_lowerFactorAt_30 (h1.2.2.2 i hi) (by omega) (by omega) ⟨by omega, by omega⟩ ?_
          refine j_goto (tgt := 35) dX0_lowerFactorAt_31 (by decide) ?_
          exact j_iret dX0_lowerFactorAt_35 ⟨_, rfl, ⟨by rw [if_neg (by omega)]; first | rw [if_pos (by omega)]; rfl | rw [if_neg (by omega)], rfl⟩⟩
  · skip
    refine j_iconst dX0_lowerFactorAt_5 ?_
    exact j_iret dX0_lowerFactorAt_6 ⟨_, rfl, ⟨by rw [if_pos (by omega)], rfl⟩⟩
set_option maxRecDepth 100000 in
set_option maxHeartbeats 4000000 in
theorem c_X0_upperFactorAt {l : Launch} {D : gD} {σ : Wd} {e z : Nat} {p r d : Int} {f : Nat → Nat} {m : Mx} {i j : Nat} (h1 : EA D σ e p z r d f m) (hi : i < 8) (hj : j < 8) : KX0_upperFactorAt l D [.ref e, vi i, vi j] σ (fun x σ' => x = (if i ≤ j then m i j else 0) ∧ σ' = σ) := by
  refine sp_of (by decide +kernel) (cat1 rfl) (Nat.le_of_ble_eq_true rfl) [some (.ref e), some (vi i), some (vi j)] rfl (fun sz => ?_)
  refine j_iload_n dX0_upperFactorAt_0 rfl ?_
  refine cl_X0_63 (As := [_]) rfl dX0_upperFactorAt_1 (c_X6_isInside (rs (by omega) (by omega))) rfl ⟨by decide, by decide⟩ (Nat.le_of_ble_eq_true rfl) ⟨Nat.zero_le _, Nat.zero_le _⟩ (fun z1 σ1 hz1 => ?_)
  obtain ⟨hr1, hs1⟩ := hz1
  have hr1 := Eq.symm hr1
  have hs1 := Eq.symm hs1
  subst hr1
  subst hs1
  refine j_if_eq (tgt := 27) dX0_upperFactorAt_4 (by decide) ⟨by omega, by omega⟩ (fun h4 => ?_) (fun h4 => ?_)
  · skip
    exact absurd h4 (by rw [if_pos (by omega)]; omega)
  · skip
    refine j_iload_n dX0_upperFactorAt_7 rfl ?_
    refine j_if_lt (tgt := 27) dX0_upperFactorAt_8 (by decide) ⟨by omega, by omega⟩ (fun h8 => ?_) (fun h8 => ?_)
    · skip
      exact absurd h8 (by omega)
    · skip
      refine j_iload_n dX0_upperFactorAt_11 rfl ?_
      refine j_iload_n dX0_upperFactorAt_12 rfl ?_
      refine j_icmp_gt (tgt := 27) dX0_upperFactorAt_13 (by decide) ⟨by omega, by omega⟩ ⟨by omega, by omega⟩ (fun h13 => ?_) (fun h13 => ?_)
      · skip
        refine j_iconst dX0_upperFactorAt_27 ?_
        exact j_iret dX0_upperFactorAt_28 ⟨_, rfl, ⟨by first | rw [if_pos (by omega)]; rfl | rw [if_neg (by omega)], rfl⟩⟩
      · skip
        refine j_aload_n dX0_upperFactorAt_16 rfl ?_
        refine gf_X0_11 rfl dX0_upperFactorAt_17 h1.1 rfl ?_
        refine j_iload_n dX0_upperFactorAt_20 rfl ?_
        refine jj_aaldA dX0_upperFactorAt_21 h1.2.1 (by omega) (by omega) ⟨by omega, by omega⟩ ?_
        refine j_iload_n dX0_upperFactorAt_22 rfl ?_
        refine jj_iald dX0_upperFactorAt_23 (h1.2.2.2 i hi) (by omega) (by omega) ⟨by omega, by omega⟩ ?_
        refine j_goto (tgt := 28) dX0_upperFactorAt_24 (by decide) ?_
        exact j_iret dX0_upperFactorAt_28 ⟨_, rfl, ⟨by first | rw [if_pos (by omega)]; rfl | rw [if_neg (by omega)], rfl⟩⟩
set_option maxRecDepth 100000 in
set_option maxHeartbeats 4000000 in
theorem c_X0_firstRowWith {l : Launch} {D : gD} {σ : Wd} {e z r c : Nat} {p d : Int} {f : Nat → Nat} {m : Mx} (h1 : EA D σ e p z r d f m) (hz : z ≤ 8) (hr : r ≤ z) (hc : c < 9) (hm : ∀ i, i < z → R32 (m i c)) : KX0_firstRowWith l D [.ref e, vi c] σ (fun x σ' => x = (frow m c z 9 r : Nat) ∧ σ' = σ) := by
  refine sp_of (by decide +kernel) (cat1 rfl) (Nat.le_of_ble_eq_true rfl) [some (.ref e), some (vi c), none] rfl (fun sz => ?_)
  refine j_aload_n dX0_firstRowWith_0 rfl ?_
  refine gf_X0_46 rfl dX0_firstRowWith_1 h1.1 rfl ?_
  refine j_istore_n dX0_firstRowWith_4 (by decide) (by dsimp only [List.set] <;> rfl) ?_
  have lp5 : ∀ (nn k : Nat) (x : Int), k < nn → (r : Int) ≤ x → x ≤ z → z ≤ x.toNat + k → frow m c z k x.toNat = frow m c z 9 r → J l D yX0_firstRowWith cX0_firstRowWith 3 (some .int) rmX0_firstRowWith sz (AA σ sz) (QI D σ sz (fun x σ' => x = (frow m c z 9 r : Nat) ∧ σ' = σ)) 0 0 5 [some (.ref e), some (vi c), some (vi x)] [] σ := by
    intro nn
    induction nn with
    | zero =>
      intro k x hk
      exact absurd hk (by omega)
    | succ nn ih5 =>
      intro k x hk hx0 hx1 hkz hf
      refine j_iload_n dX0_firstRowWith_5 rfl ?_
      refine j_aload_n dX0_firstRowWith_6 rfl ?_
      refine gf_X0_29 rfl dX0_firstRowWith_7 h1.1 rfl ?_
      refine j_icmp_ge (tgt := 30) dX0_firstRowWith_10 (by decide) ⟨by omega, by omega⟩ ⟨by omega, by omega⟩ (fun h10 => ?_) (fun h10 => ?_)
      · skip
        refine j_iload_n dX0_firstRowWith_30 rfl ?_
        exact j_iret dX0_firstRowWith_31 ⟨_, rfl, ⟨by rw [← hf, frow_end (by omega)]; omega, rfl⟩⟩
      · skip
        refine j_aload_n dX0_firstRowWith_13 rfl ?_
        refine gf_X0_11 rfl dX0_firstRowWith_14 h1.1 rfl ?_
        refine j_iload_n dX0_firstRowWith_17 rfl ?_
        refine jj_aaldA dX0_firstRowWith_18 h1.2.1 (by omega) (by omega) ⟨by omega, by omega⟩ ?_
        refine j_iload_n dX0_firstRowWith_19 rfl ?_
        refine jj_iald dX0_firstRowWith_20 (h1.2.2.2 x.toNat (by omega)) (by omega) (by omega) ⟨by omega, by omega⟩ ?_
        refine j_if_ne (tgt := 30) dX0_firstRowWith_21 (by decide) (hm _ (by omega)) (fun h21 => ?_) (fun h21 => ?_)
        · skip
          refine j_iload_n dX0_firstRowWith_30 rfl ?_
          exact j_iret dX0_firstRowWith_31 ⟨_, rfl, ⟨by rw [← hf, frow_hit (show m x.toNat c ≠ 0 from h21)]; omega, rfl⟩⟩
        · skip
          refine j_iinc dX0_firstRowWith_24 rfl (by decide) (by dsimp only [List.set] <;> rfl) ?_
          refine j_goto (tgt := 5) dX0_firstRowWith_27 (by decide) ?_
          cases k with
          | zero => exact absurd hkz (by omega)
          | succ k =>
            refine ih5 k _ (by omega) (by omega) (by omega) (by omega) ?_
            rw [← hf, frow_go (by omega) (show m x.toNat c = 0 from h21)]
            congr 1
            omega
  exact lp5 10 9 r (by omega) (by omega) (by omega) (by omega) rfl
set_option maxRecDepth 100000 in
set_option maxHeartbeats 4000000 in
theorem c_X0_exchangeRows {l : Launch} {D : gD} {σ : Wd} {e u q : Nat} {p z r d : Int} {f : Nat → Nat} {m : Mx} (h1 : EA D σ e p z r d f m) (hu : u < 8) (hq : q < 8) (hp : 2 ≤ p) (hp2 : p ≤ 251) (hd0 : 0 ≤ d) (hd1 : d < p) : KX0_exchangeRows l D [.ref e, vi u, vi q] σ (fun σ' => OffR e (e + 10) σ σ' ∧ ∃ f', EA D σ' e p z r (if u = q then d else (-d) % p) f' (swapM m u q)) := by
  refine sp_of (by decide +kernel) (cat1 rfl) (Nat.le_of_ble_eq_true rfl) [some (.ref e), some (vi u), some (vi q), none] rfl (fun sz => ?_)
  refine j_iload_n dX0_exchangeRows_0 rfl ?_
  refine j_iload_n dX0_exchangeRows_1 rfl ?_
  refine j_icmp_eq (tgt := 19) dX0_exchangeRows_2 (by decide) ⟨by omega, by omega⟩ ⟨by omega, by omega⟩ (fun h2 => ?_) (fun h2 => ?_)
  · skip
    exact j_vret dX0_exchangeRows_19 ⟨rfl, OffR.rf, f, by rw [if_pos (by omega)]; exact h1.ext (fun i hi j hj => by unfold swapM; by_cases a : i = u; rw [if_pos a, a, show u = q by omega]; rw [if_neg a, if_neg (by omega)])⟩
  · skip
    refine j_iload_n dX0_exchangeRows_5 rfl ?_
    refine cl_X0_63 (As := [_]) rfl dX0_exchangeRows_6 (c_X6_isInside (rs (by omega) (by omega))) rfl ⟨by decide, by decide⟩ (Nat.le_of_ble_eq_true rfl) ⟨Nat.zero_le _, Nat.zero_le _⟩ (fun z6 σ6 hz6 => ?_)
    obtain ⟨hr6, hs6⟩ := hz6
    have hr6 := Eq.symm hr6
    have hs6 := Eq.symm hs6
    subst hr6
    subst hs6
    refine j_if_eq (tgt := 19) dX0_exchangeRows_9 (by decide) ⟨by omega, by omega⟩ (fun h9 => ?_) (fun h9 => ?_)
    · skip
      exact absurd h9 (by rw [if_pos (by omega)]; omega)
    · skip
      refine j_iload_n dX0_exchangeRows_12 rfl ?_
      refine cl_X0_63 (As := [_]) rfl dX0_exchangeRows_13 (c_X6_isInside (rs (by omega) (by omega))) rfl ⟨by decide, by decide⟩ (Nat.le_of_ble_eq_true rfl) ⟨Nat.zero_le _, Nat.zero_le _⟩ (fun z13 σ13 hz13 => ?_)
      obtain ⟨hr13, hs13⟩ := hz13
      have hr13 := Eq.symm hr13
      have hs13 := Eq.symm hs13
      subst hr13
      subst hs13
      refine j_if_ne (tgt := 20) dX0_exchangeRows_16 (by decide) ⟨by omega, by omega⟩ (fun h16 => ?_) (fun h16 => ?_)
      · skip
        refine j_aload_n dX0_exchangeRows_20 rfl ?_
        refine gf_X0_11 rfl dX0_exchangeRows_21 h1.1 rfl ?_
        refine j_iload_n dX0_exchangeRows_24 rfl ?_
        refine jj_aaldA dX0_exchangeRows_25 h1.2.1 (by omega) (by omega) ⟨by omega, by omega⟩ ?_
        refine j_astore_n dX0_exchangeRows_26 (by decide) (by dsimp only [List.set] <;> rfl) ?_
        refine j_aload_n dX0_exchangeRows_27 rfl ?_
        refine gf_X0_11 rfl dX0_exchangeRows_28 h1.1 rfl ?_
        refine j_iload_n dX0_exchangeRows_31 rfl ?_
        refine j_aload_n dX0_exchangeRows_32 rfl ?_
        refine gf_X0_11 rfl dX0_exchangeRows_33 h1.1 rfl ?_
        refine j_iload_n dX0_exchangeRows_36 rfl ?_
        refine jj_aaldA dX0_exchangeRows_37 h1.2.1 (by omega) (by omega) ⟨by omega, by omega⟩ ?_
        refine jj_aastA dX0_exchangeRows_38 h1.2.1 (h1.2.2.2 q hq) (by omega) (by omega) ⟨by omega, by omega⟩ (fun e38 q38 => ?_)
        refine j_aload_n dX0_exchangeRows_39 rfl ?_
        refine gf_X0_11 rfl dX0_exchangeRows_40 (wup_of h1.1 (by omega)) rfl ?_
        refine j_iload_n dX0_exchangeRows_43 rfl ?_
        refine j_aload_n dX0_exchangeRows_44 rfl ?_
        refine jj_aastA dX0_exchangeRows_45 q38 ((h1.2.2.2 u hu).up (by have := h1.2.2.1.1 u hu; omega)) (by omega) (by omega) ⟨by omega, by omega⟩ (fun e45 q45 => ?_)
        refine j_aload_n dX0_exchangeRows_46 rfl ?_
        refine j_aload_n dX0_exchangeRows_47 rfl ?_
        refine gf_X0_49 rfl dX0_exchangeRows_48 (wup_of (wup_of h1.1 (by omega)) (by omega)) rfl ?_
        refine j_ineg dX0_exchangeRows_51 ?_
        refine j_aload_n dX0_exchangeRows_52 rfl ?_
        refine gf_X0_16 rfl dX0_exchangeRows_53 (wup_of (wup_of h1.1 (by omega)) (by omega)) rfl ?_
        refine cl_X0_67 (As := [_, _]) rfl dX0_exchangeRows_56 (c_X6_remainder (rs (by omega) (by omega)) hp (by omega)) rfl ⟨by decide, by decide⟩ (Nat.le_of_ble_eq_true rfl) ⟨Nat.zero_le _, Nat.zero_le _⟩ (fun z56 σ56 hz56 => ?_)
        obtain ⟨hr56, hs56⟩ := hz56
        have hr56 := Eq.symm hr56
        have hs56 := Eq.symm hs56
        subst hr56
        subst hs56
        refine pf_X0_49 rfl dX0_exchangeRows_59 (wup_of (wup_of h1.1 (by omega)) (by omega)) rfl rfl (Nat.le_of_ble_eq_true rfl) ?_
        dsimp only [List.set]
        exact j_vret dX0_exchangeRows_62 ⟨rfl, by
      have hpe := h1.2.2.1
      refine ⟨(wup_offR (by omega)).tr ((wup_offR (by omega)).tr (wup_offR (by omega))), fup (fup f u (f q)) q (f u), wup_s _ _ _ |>.trans (by rw [if_neg (by omega)]), q45.up (by omega), ⟨fun j hj => ?_, fun i j hi hj hij => ?_⟩, fun j hj => ?_⟩
      · unfold fup
        split
        · exact hpe.1 u hu
        · split
          · exact hpe.1 q hq
          · exact hpe.1 j hj
      · unfold fup at hij
        have hin := hpe.2
        split at hij <;> split at hij <;> (try split at hij) <;> (try split at hij) <;> first | omega | (have := hin _ _ (by omega) (by omega) hij; omega)
      · have hj2 : IA D σ (fup (fup f u (f q)) q (f u) j) 9 (swapM m u q j) := by
          unfold fup swapM
          by_cases a : j = q
          · rw [if_pos a]
            by_cases b : j = u
            · omega
            · rw [if_neg b, if_pos a]
              exact h1.2.2.2 u hu
          · rw [if_neg a]
            by_cases b : j = u
            · rw [if_pos b, if_pos b]
              exact h1.2.2.2 q hq
            · rw [if_neg b, if_neg b, if_neg a]
              exact h1.2.2.2 j hj
        have hin : e + 2 ≤ fup (fup f u (f q)) q (f u) j ∧ fup (fup f u (f q)) q (f u) j < e + 10 := by
          unfold fup
          split
          · exact hpe.1 u hu
          · split
            · exact hpe.1 q hq
            · exact hpe.1 j hj
        exact ((hj2.up (by omega)).up (by omega)).up (by omega)⟩
      · skip
        exact absurd h16 (by rw [if_pos (by omega)]; omega)
set_option maxRecDepth 100000 in
set_option maxHeartbeats 4000000 in
theorem c_X0_subtract {l : Launch} {D : gD} {σ : Wd} {e ta sa z c : Nat} {p fa r d : Int} {v0 : Value} {t s : Nat → Int} (h1 : σ e = some (.inr (0, [v0, vi p, vi z, vi r, vi d]))) (h2 : IA D σ ta 9 t) (h3 : IA D σ sa 9 s) (hn : sa ≠ ta) (hz : z ≤ 8) (hc8 : c ≤ 8) (hp : 2 ≤ p) (hp2 : p ≤ 251) (hf0 : 0 ≤ fa) (hf1 : fa < p) (ht : ∀ j, j ≤ z → 0 ≤ t j ∧ t j < p) (hs : ∀ j, j ≤ z → 0 ≤ s j ∧ s j < p) : KX0_subtract l D [.ref e, .ref ta, .ref sa, vi fa, vi c] σ (fun σ' => Off [ta] σ σ' ∧ IA D σ' ta 9 (subF fa c z p t s)) := by
  have hne : e ≠ ta := ne_oa h1 h2
  refine sp_of (by decide +kernel) (cat1 rfl) (Nat.le_of_ble_eq_true rfl) [some (.ref e), some (.ref ta), some (.ref sa), some (vi fa), some (vi c), none] rfl (fun sz => ?_)
  refine j_iconst dX0_subtract_0 ?_
  refine j_iload dX0_subtract_1 rfl ?_
  refine j_mmax lk_X0_26 wst_max wini_math wcd_max dX0_subtract_3 ⟨by omega, by omega⟩ ⟨by omega, by omega⟩ (by decide) (Nat.le_of_ble_eq_true rfl) ⟨Nat.zero_le _, Nat.zero_le _⟩ ?_
  refine j_tops (show (if (0 : Int) < (c : Int) then (c : Int) else 0) = c by split <;> omega) ?_
  refine j_istore dX0_subtract_6 (by decide) (by dsimp only [List.set] <;> rfl) ?_
  have lp8 : ∀ (nn : Nat) (i : Int) (w : Wd), 10 - i < nn → 0 ≤ i → (c : Int) ≤ i → i ≤ 9 → Off [ta] σ w → IA D w ta 9 (fun j => if fa ≠ 0 ∧ (c : Int) ≤ (j : Int) ∧ (j : Int) < i ∧ (j : Int) ≤ z then (t j - fa * s j) % p else t j) → J l D yX0_subtract cX0_subtract 6 none rmX0_subtract sz (AA σ sz) (QV D σ sz (fun σ' => Off [ta] σ σ' ∧ IA D σ' ta 9 (subF fa c z p t s))) 0 0 8 [some (.ref e), some (.ref ta), some (.ref sa), some (vi fa), some (vi c), some (vi i)] [] w := by
    intro nn
    induction nn with
    | zero =>
      intro i w hnn hi0 hi1 hi2 ho hw
      exact absurd (by assumption) (by omega)
    | succ nn ih8 =>
      intro i w hnn hi0 hi1 hi2 ho hw
      have hw1 := ho.get h1 (ni1 hne)
      have hw3 := ho.ia h3 (ni1 hn)
      refine j_iload_n dX0_subtract_8 rfl ?_
      refine j_if_eq (tgt := 49) dX0_subtract_9 (by decide) ⟨by omega, by omega⟩ (fun h9 => ?_) (fun h9 => ?_)
      · skip
        exact j_vret dX0_subtract_49 ⟨rfl, ho, hw.ext (fun j hj => by unfold subF; rw [if_neg (by omega), if_neg (by omega)])⟩
      · skip
        refine j_iload dX0_subtract_12 rfl ?_
        refine j_aload_n dX0_subtract_14 rfl ?_
        refine gf_X0_29 rfl dX0_subtract_15 hw1 rfl ?_
        refine j_icmp_gt (tgt := 49) dX0_subtract_18 (by decide) ⟨by omega, by omega⟩ ⟨by omega, by omega⟩ (fun h18 => ?_) (fun h18 => ?_)
        · skip
          exact j_vret dX0_subtract_49 ⟨rfl, ho, hw.ext (fun j hj => by unfold subF; by_cases a : (c : Int) ≤ j ∧ (j : Int) ≤ z; rw [if_pos (by omega), if_pos (by omega)]; rw [if_neg (by omega), if_neg (by omega)])⟩
        · skip
          refine j_aload_n dX0_subtract_21 rfl ?_
          refine j_iload dX0_subtract_22 rfl ?_
          refine j_aload_n dX0_subtract_24 rfl ?_
          refine j_iload dX0_subtract_25 rfl ?_
          refine jj_iald dX0_subtract_27 hw (by omega) (by omega) ⟨by omega, by omega⟩ ?_
          refine j_tops (show _ = t i.toNat by rw [if_neg (by omega)]) ?_
          refine j_iload_n dX0_subtract_28 rfl ?_
          refine j_aload_n dX0_subtract_29 rfl ?_
          refine j_iload dX0_subtract_30 rfl ?_
          refine jj_iald dX0_subtract_32 hw3 (by omega) (by omega) ⟨by omega, by omega⟩ ?_
          refine j_imul dX0_subtract_33 ?_
          refine j_isub dX0_subtract_34 ?_
          refine j_aload_n dX0_subtract_35 rfl ?_
          refine gf_X0_16 rfl dX0_subtract_36 hw1 rfl ?_
          have ht1 := ht i.toNat (by omega)
          have hs1 := hs i.toNat (by omega)
          have hmul := mul_R (m := 251) (n := 251) hf0 (by omega) hs1.1 (by omega) (by omega)
          refine cl_X0_67 (As := [_, _]) rfl dX0_subtract_39 (c_X6_remainder (rs (by omega) (by omega)) hp (by omega)) rfl ⟨by decide, by decide⟩ (Nat.le_of_ble_eq_true rfl) ⟨Nat.zero_le _, Nat.zero_le _⟩ (fun z39 σ39 hz39 => ?_)
          obtain ⟨hr39, hs39⟩ := hz39
          have hr39 := Eq.symm hr39
          have hs39 := Eq.symm hs39
          subst hr39
          subst hs39
          refine jj_iast dX0_subtract_42 hw (by omega) (by omega) ⟨by omega, by omega⟩ (fun e42 q42 => ?_)
          refine j_iinc dX0_subtract_43 rfl (by decide) (by dsimp only [List.set] <;> rfl) ?_
          refine j_goto (tgt := 8) dX0_subtract_46 (by decide) ?_
          exact ih8 _ _ (by omega) (by omega) (by omega) (by omega) (ho.up (by simp)) (q42.ext (fun j hj => by
            unfold fup
            by_cases q : j = i.toNat
            · rw [if_pos q, if_pos (by omega), q]
            · rw [if_neg q]
              dsimp only
              by_cases q2 : fa ≠ 0 ∧ (c : Int) ≤ (j : Int) ∧ (j : Int) < i ∧ (j : Int) ≤ z
              · rw [if_pos q2, if_pos (by omega)]
              · rw [if_neg q2, if_neg (by omega)]))
  exact lp8 11 c _ (by omega) (by omega) (by omega) (by omega) Off.rf (h2.ext (fun j hj => by rw [if_neg (by omega)]))

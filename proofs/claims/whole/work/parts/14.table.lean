/-! ===== contracts: Tree's writes, Table ===== -/
theorem quad (z : Int) : 2 * z * (2 * z) / 4 = z * z := by
  have h : 2 * z * (2 * z) = 4 * (z * z) := by rw [Int.mul_assoc, Int.mul_left_comm z 2 z, ← Int.mul_assoc]; rfl
  rw [h, Int.mul_ediv_cancel_left _ (by omega)]
theorem gAt_R {g : Nat → Int} (hg : ∀ j : Nat, j < 64 → 0 ≤ g j ∧ g j ≤ 8) (s : Int) : 0 ≤ gAt g s ∧ gAt g s ≤ 8 := by
  unfold gAt
  split
  · exact hg _ (by omega)
  · omega
theorem fup_s {α : Type} (f : Nat → α) (k : Nat) (v : α) : fup f k v k = v := if_pos rfl
theorem fup_n {α : Type} {f : Nat → α} {k j : Nat} {v : α} (h : j ≠ k) : fup f k v j = f j := if_neg h

set_option maxRecDepth 100000 in
set_option maxHeartbeats 4000000 in
theorem c_X5_hasFourLeaves {l : Launch} {D : gD} {σ : Wd} {a sA : Nat} {g : Nat → Int} {s z : Int} (h1 : σ a = some (.inr (5, [.ref sA]))) (h2 : IA D σ sA 64 g) (hg : ∀ j : Nat, j < 64 → 0 ≤ g j ∧ g j ≤ 8) (hs0 : 0 ≤ s) (hs : s < 64) (hz0 : 0 ≤ z) (hz : z ≤ 8) : KX5_hasFourLeaves l D [.ref a, vi s, vi z] σ (fun r σ' => ((r = 1 ∧ ∀ q : Int, 0 ≤ q → q < 4 → gAt g (s + q * (z * z)) = z) ∨ (r = 0 ∧ ∃ q : Int, 0 ≤ q ∧ q < 4 ∧ gAt g (s + q * (z * z)) ≠ z)) ∧ σ' = σ) := by
  have hzz0 : 0 ≤ z * z := Int.mul_nonneg hz0 hz0
  have hzz : z * z ≤ 8 * 8 := Int.mul_le_mul hz hz hz0 (by omega)
  refine sp_of (by decide +kernel) (cat1 rfl) (Nat.le_of_ble_eq_true rfl) [some (.ref a), some (vi s), some (vi z), none] rfl (fun sz => ?_)
  refine j_iconst dX5_hasFourLeaves_0 ?_
  refine j_istore_n dX5_hasFourLeaves_1 (by decide) (by dsimp only [List.set] <;> rfl) ?_
  have lp2 : ∀ (nn : Nat) (i : Int), 0 ≤ i → i ≤ 4 → 4 - i < nn → (∀ q : Int, 0 ≤ q → q < i → gAt g (s + q * (z * z)) = z) → J l D yX5_hasFourLeaves cX5_hasFourLeaves 4 (some .boolean) rmX5_hasFourLeaves sz (AA σ sz) (QI D σ sz (fun r σ' => ((r = 1 ∧ ∀ q : Int, 0 ≤ q → q < 4 → gAt g (s + q * (z * z)) = z) ∨ (r = 0 ∧ ∃ q : Int, 0 ≤ q ∧ q < 4 ∧ gAt g (s + q * (z * z)) ≠ z)) ∧ σ' = σ)) 0 0 2 [some (.ref a), some (vi s), some (vi z), some (vi i)] [] σ := by
    intro nn
    induction nn with
    | zero =>
      intro i hi0 hi1 hnn hall
      exact absurd (by assumption) (by omega)
    | succ nn ih2 =>
      intro i hi0 hi1 hnn hall
      have hi3 : i * (z * z) ≤ 4 * 64 := Int.mul_le_mul hi1 (by omega) (by omega) (by omega)
      have hi4 : 0 ≤ i * (z * z) := Int.mul_nonneg hi0 hzz0
      have hgr := gAt_R hg (s + i * (z * z))
      refine j_iload_n dX5_hasFourLeaves_2 rfl ?_
      refine j_iconst dX5_hasFourLeaves_3 ?_
      refine j_icmp_ge (tgt := 31) dX5_hasFourLeaves_4 (by decide) ⟨by omega, by omega⟩ ⟨by omega, by omega⟩ (fun h4 => ?_) (fun h4 => ?_)
      · skip
        refine j_iconst dX5_hasFourLeaves_31 ?_
        exact j_zret dX5_hasFourLeaves_32 (by omega) ⟨_, rfl, ⟨Or.inl ⟨rfl, fun q h3 h4 => hall q h3 (by omega)⟩, rfl⟩⟩
      · skip
        refine j_aload_n dX5_hasFourLeaves_7 rfl ?_
        refine j_iload_n dX5_hasFourLeaves_8 rfl ?_
        refine j_iconst dX5_hasFourLeaves_9 ?_
        refine j_iload_n dX5_hasFourLeaves_10 rfl ?_
        refine j_imul dX5_hasFourLeaves_11 ?_
        refine j_iload_n dX5_hasFourLeaves_12 rfl ?_
        refine cl_X5_28 (As := [_, _, _]) rfl dX5_hasFourLeaves_13 (c_X5_startOfQuarter (z := 2 * z) (by omega) (by omega)) rfl ⟨by decide, by decide⟩ (Nat.le_of_ble_eq_true rfl) ⟨Nat.zero_le _, Nat.zero_le _⟩ (fun z13 σ13 hz13 => ?_)
        obtain ⟨hr13, hs13⟩ := hz13
        have hr13 := Eq.symm hr13
        have hs13 := Eq.symm hs13
        subst hr13
        subst hs13
        refine j_tops (show s + i * (2 * z * (2 * z) / 4) = s + i * (z * z) by rw [quad]) ?_
        refine cl_X5_25 (As := [_]) rfl dX5_hasFourLeaves_16 (c_X5_sizeAt h1 h2 (s := s + i * (z * z)) (rs (by omega) (by omega))) (by first | assumption | exact wup_s _ _ _ | exact wup_of (by assumption) (by omega) | exact wup_of (wup_s _ _ _) (by omega) | exact wup_of (wup_of (by assumption) (by omega)) (by omega) | exact wup_of (wup_of (wup_s _ _ _) (by omega)) (by omega) | exact wup_of (wup_of (wup_of (by assumption) (by omega)) (by omega)) (by omega)) rfl ⟨by decide, by decide⟩ (Nat.le_of_ble_eq_true rfl) ⟨Nat.zero_le _, Nat.zero_le _⟩ (fun z16 σ16 hz16 => ?_)
        obtain ⟨hr16, hs16⟩ := hz16
        have hr16 := Eq.symm hr16
        have hs16 := Eq.symm hs16
        subst hr16
        subst hs16
        refine j_tops (show _ = gAt g (s + i * (z * z)) from rfl) ?_
        refine j_iload_n dX5_hasFourLeaves_19 rfl ?_
        refine j_icmp_eq (tgt := 25) dX5_hasFourLeaves_20 (by decide) ⟨by omega, by omega⟩ ⟨by omega, by omega⟩ (fun h20 => ?_) (fun h20 => ?_)
        · skip
          refine j_iinc dX5_hasFourLeaves_25 rfl (by decide) (by dsimp only [List.set] <;> rfl) ?_
          refine j_goto (tgt := 2) dX5_hasFourLeaves_28 (by decide) ?_
          exact ih2 _ (by omega) (by omega) (by omega) (fun q h3 h4 => by
            rcases (show q < i ∨ q = i by omega) with h | h
            · exact hall q h3 h
            · rw [h]
              exact h20)
        · skip
          refine j_iconst dX5_hasFourLeaves_23 ?_
          exact j_zret dX5_hasFourLeaves_24 (by omega) ⟨_, rfl, ⟨Or.inr ⟨rfl, i, hi0, by omega, h20⟩, rfl⟩⟩
  exact lp2 6 0 (by omega) (by omega) (by omega) (fun q h1 h2 => absurd h1 (by omega))
set_option maxRecDepth 100000 in
set_option maxHeartbeats 4000000 in
theorem c_X5_cut {l : Launch} {D : gD} {σ : Wd} {a sA : Nat} {g : Nat → Int} {s z : Nat} (h1 : σ a = some (.inr (5, [.ref sA]))) (h2 : IA D σ sA 64 g) (hs : s + z * z ≤ 64) (hz : g s = z) (hz2 : 2 ≤ z) (hz8 : z ≤ 8) : KX5_cut l D [.ref a, vi s] σ (fun σ' => Off [sA] σ σ' ∧ IA D σ' sA 64 (cutF g s (z * z / 4) ((z : Int) / 2) 4)) := by
  have hne : a ≠ sA := ne_oa h1 h2
  have hzz0 : 4 ≤ z * z := Nat.mul_le_mul hz2 hz2
  have hzz : z * z ≤ 64 := by omega
  have hq : ((z : Int) * z / 4) = ((z * z / 4 : Nat) : Int) := by
    rw [show ((z : Int) * z) = ((z * z : Nat) : Int) from rfl]; rfl
  have hsz : (if (0:Int) ≤ (s : Int) ∧ (s : Int) < 64 then g (s : Int).toNat else 0) = (z : Int) := by
    rw [if_pos (by omega)]; exact hz
  refine sp_of (by decide +kernel) (cat1 rfl) (Nat.le_of_ble_eq_true rfl) [some (.ref a), some (vi s), none, none] rfl (fun sz => ?_)
  refine j_aload_n dX5_cut_0 rfl ?_
  refine j_iload_n dX5_cut_1 rfl ?_
  refine cl_X5_25 (As := [_]) rfl dX5_cut_2 (c_X5_sizeAt h1 h2 (s := s) (rs (by omega) (by omega))) (by first | assumption | exact wup_s _ _ _ | exact wup_of (by assumption) (by omega) | exact wup_of (wup_s _ _ _) (by omega) | exact wup_of (wup_of (by assumption) (by omega)) (by omega) | exact wup_of (wup_of (wup_s _ _ _) (by omega)) (by omega) | exact wup_of (wup_of (wup_of (by assumption) (by omega)) (by omega)) (by omega)) rfl ⟨by decide, by decide⟩ (Nat.le_of_ble_eq_true rfl) ⟨Nat.zero_le _, Nat.zero_le _⟩ (fun z2 σ2 hz2 => ?_)
  obtain ⟨hr2, hs2⟩ := hz2
  have hr2 := Eq.symm hr2
  have hs2 := Eq.symm hs2
  subst hr2
  subst hs2
  refine j_tops hsz ?_
  refine j_istore_n dX5_cut_5 (by decide) (by dsimp only [List.set] <;> rfl) ?_
  refine j_iconst dX5_cut_6 ?_
  refine j_istore_n dX5_cut_7 (by decide) (by dsimp only [List.set] <;> rfl) ?_
  have lp8 : ∀ (nn : Nat) (i : Int) (w : Wd), 0 ≤ i → i ≤ 4 → 4 - i < nn → Off [sA] σ w → IA D w sA 64 (cutF g s (z * z / 4) ((z : Int) / 2) i.toNat) → J l D yX5_cut cX5_cut 4 none rmX5_cut sz (AA σ sz) (QV D σ sz (fun σ' => Off [sA] σ σ' ∧ IA D σ' sA 64 (cutF g s (z * z / 4) ((z : Int) / 2) 4))) 0 0 8 [some (.ref a), some (vi s), some (vi z), some (vi i)] [] w := by
    intro nn
    induction nn with
    | zero =>
      intro i w hi0 hi1 hnn ho hw
      exact absurd (by assumption) (by omega)
    | succ nn ih8 =>
      intro i w hi0 hi1 hnn ho hw
      have hi3 : i * ((z * z / 4 : Nat) : Int) ≤ i * 16 := Int.mul_le_mul_of_nonneg_left (by omega) hi0
      have hi4 : 0 ≤ i * ((z * z / 4 : Nat) : Int) := Int.mul_nonneg hi0 (by omega)
      refine j_iload_n dX5_cut_8 rfl ?_
      refine j_iconst dX5_cut_9 ?_
      refine j_icmp_ge (tgt := 32) dX5_cut_10 (by decide) ⟨by omega, by omega⟩ ⟨by omega, by omega⟩ (fun h10 => ?_) (fun h10 => ?_)
      · skip
        exact j_vret dX5_cut_32 ⟨rfl, ho, (show i.toNat = 4 by omega) ▸ hw⟩
      · skip
        refine j_aload_n dX5_cut_13 rfl ?_
        refine j_iload_n dX5_cut_14 rfl ?_
        refine j_iload_n dX5_cut_15 rfl ?_
        refine j_iload_n dX5_cut_16 rfl ?_
        refine cl_X5_28 (As := [_, _, _]) rfl dX5_cut_17 (c_X5_startOfQuarter (z := z) (by omega) (by omega)) rfl ⟨by decide, by decide⟩ (Nat.le_of_ble_eq_true rfl) ⟨Nat.zero_le _, Nat.zero_le _⟩ (fun z17 σ17 hz17 => ?_)
        obtain ⟨hr17, hs17⟩ := hz17
        have hr17 := Eq.symm hr17
        have hs17 := Eq.symm hs17
        subst hr17
        subst hs17
        refine j_iload_n dX5_cut_20 rfl ?_
        refine j_iconst dX5_cut_21 ?_
        refine j_idiv dX5_cut_22 ⟨by omega, by omega⟩ ⟨by omega, by omega⟩ (by omega) ?_
        refine cl_X5_32 (As := [_, _]) rfl dX5_cut_23 (c_X5_putSize (ho.get h1 (ni1 hne)) hw (rs (by rw [hq]; omega) (by rw [hq]; omega))) (ho.get h1 (ni1 hne)) rfl ⟨by decide, by decide⟩ (Nat.le_of_ble_eq_true rfl) ⟨Nat.zero_le _, Nat.zero_le _⟩ (fun σ23 hz23 => ?_)
        refine j_iinc dX5_cut_26 rfl (by decide) (by dsimp only [List.set] <;> rfl) ?_
        refine j_goto (tgt := 8) dX5_cut_29 (by decide) ?_
        exact ih8 _ _ (by omega) (by omega) (by omega) (ho.tr hz23.1) (by
          have h := hz23.2
          obtain ⟨n, rfl⟩ := Int.eq_ofNat_of_zero_le hi0
          have hn : n ≤ 3 := by omega
          have hb : n * (z * z / 4) + (z * z / 4) ≤ z * z := by
            have := Nat.mul_le_mul_right (z * z / 4) hn
            omega
          have hb2 : (s : Int) + (n : Int) * ((z : Int) * z / 4) = ((s + n * (z * z / 4) : Nat) : Int) := by
            rw [hq]; push_cast; rfl
          rw [hb2, if_pos (by omega), ediv_t (by omega)] at h
          exact h)
  exact lp8 6 0 σ (by omega) (by omega) (by omega) Off.rf h2
set_option maxRecDepth 100000 in
set_option maxHeartbeats 4000000 in
theorem c_X5_merge {l : Launch} {D : gD} {σ : Wd} {a sA : Nat} {g : Nat → Int} {s z : Nat} (h1 : σ a = some (.inr (5, [.ref sA]))) (h2 : IA D σ sA 64 g) (hs : s + z * z ≤ 64) (hz1 : 1 ≤ z) (hz8 : z ≤ 8) : KX5_merge l D [.ref a, vi s, vi z] σ (fun σ' => Off [sA] σ σ' ∧ IA D σ' sA 64 (fup (mrgF g s (z * z)) s z)) := by
  have hne : a ≠ sA := ne_oa h1 h2
  have hzz0 : 1 ≤ z * z := Nat.mul_le_mul hz1 hz1
  have hzz : ((z : Int) * z) = ((z * z : Nat) : Int) := rfl
  refine sp_of (by decide +kernel) (cat1 rfl) (Nat.le_of_ble_eq_true rfl) [some (.ref a), some (vi s), some (vi z), none] rfl (fun sz => ?_)
  refine j_iconst dX5_merge_0 ?_
  refine j_istore_n dX5_merge_1 (by decide) (by dsimp only [List.set] <;> rfl) ?_
  have lp2 : ∀ (nn : Nat) (i : Int) (w : Wd), 0 ≤ i → i ≤ (z * z : Nat) → (z * z : Nat) - i < nn → Off [sA] σ w → IA D w sA 64 (mrgF g s i.toNat) → J l D yX5_merge cX5_merge 4 none rmX5_merge sz (AA σ sz) (QV D σ sz (fun σ' => Off [sA] σ σ' ∧ IA D σ' sA 64 (fup (mrgF g s (z * z)) s z))) 0 0 2 [some (.ref a), some (vi s), some (vi z), some (vi i)] [] w := by
    intro nn
    induction nn with
    | zero =>
      intro i w hi0 hi1 hnn ho hw
      exact absurd (by assumption) (by omega)
    | succ nn ih2 =>
      intro i w hi0 hi1 hnn ho hw
      refine j_iload_n dX5_merge_2 rfl ?_
      refine j_iload_n dX5_merge_3 rfl ?_
      refine j_iload_n dX5_merge_4 rfl ?_
      refine j_imul dX5_merge_5 ?_
      refine j_icmp_ge (tgt := 29) dX5_merge_6 (by decide) ⟨by omega, by omega⟩ (by rw [hzz]; exact ⟨by omega, by omega⟩) (fun h6 => ?_) (fun h6 => ?_)
      · skip
        refine j_aload_n dX5_merge_29 rfl ?_
        refine j_iload_n dX5_merge_30 rfl ?_
        refine j_iload_n dX5_merge_31 rfl ?_
        refine cl_X5_32 (As := [_, _]) rfl dX5_merge_32 (c_X5_putSize (ho.get h1 (ni1 hne)) hw (rs (by omega) (by omega))) (ho.get h1 (ni1 hne)) rfl ⟨by decide, by decide⟩ (Nat.le_of_ble_eq_true rfl) ⟨Nat.zero_le _, Nat.zero_le _⟩ (fun σ32 hz32 => ?_)
        exact j_vret dX5_merge_35 ⟨rfl, ho.tr hz32.1, hz32.2.ext (fun j hj => by rw [if_pos (by omega), show i.toNat = z * z by omega]; rfl)⟩
      · skip
        refine j_iload_n dX5_merge_9 rfl ?_
        refine j_bipush dX5_merge_10 (by decide) ?_
        refine j_icmp_ge (tgt := 29) dX5_merge_12 (by decide) ⟨by omega, by omega⟩ ⟨by omega, by omega⟩ (fun h12 => ?_) (fun h12 => ?_)
        · skip
          exact absurd h12 (by omega)
        · skip
          refine j_aload_n dX5_merge_15 rfl ?_
          refine j_iload_n dX5_merge_16 rfl ?_
          refine j_iload_n dX5_merge_17 rfl ?_
          refine j_iadd dX5_merge_18 ?_
          refine j_iconst dX5_merge_19 ?_
          refine cl_X5_32 (As := [_, _]) rfl dX5_merge_20 (c_X5_putSize (ho.get h1 (ni1 hne)) hw (rs (by omega) (by omega))) (ho.get h1 (ni1 hne)) rfl ⟨by decide, by decide⟩ (Nat.le_of_ble_eq_true rfl) ⟨Nat.zero_le _, Nat.zero_le _⟩ (fun σ20 hz20 => ?_)
          refine j_iinc dX5_merge_23 rfl (by decide) (by dsimp only [List.set] <;> rfl) ?_
          refine j_goto (tgt := 2) dX5_merge_26 (by decide) ?_
          exact ih2 _ _ (by omega) (by omega) (by omega) (ho.tr hz20.1) (hz20.2.ext (fun j hj => by
            rw [if_pos (by omega)]
            unfold fup mrgF
            by_cases q : j = ((s : Int) + i).toNat
            · rw [if_pos q, if_pos (by omega)]
            · rw [if_neg q]
              by_cases q2 : s ≤ j ∧ j < s + i.toNat
              · rw [if_pos q2, if_pos (by omega)]
              · rw [if_neg q2, if_neg (by omega)]))
  exact lp2 (z * z + 2) 0 σ (by omega) (by omega) (by omega) Off.rf (h2.ext (fun j hj => by unfold mrgF; rw [if_neg (by omega)]))
set_option maxRecDepth 100000 in
set_option maxHeartbeats 4000000 in
theorem c_X5_isLike {l : Launch} {D : gD} {σ : Wd} {a b sA sB : Nat} {g g2 : Nat → Int} (h1 : σ a = some (.inr (5, [.ref sA]))) (h2 : IA D σ sA 64 g) (h3 : σ b = some (.inr (5, [.ref sB]))) (h4 : IA D σ sB 64 g2) (hg : ∀ j : Nat, j < 64 → 0 ≤ g j ∧ g j ≤ 8) (hg2 : ∀ j : Nat, j < 64 → 0 ≤ g2 j ∧ g2 j ≤ 8) : KX5_isLike l D [.ref a, .ref b] σ (fun r σ' => ((r = 1 ∧ ∀ j : Nat, j < 64 → g j = g2 j) ∨ (r = 0 ∧ ∃ j : Nat, j < 64 ∧ g j ≠ g2 j)) ∧ σ' = σ) := by
  refine sp_of (by decide +kernel) (cat1 rfl) (Nat.le_of_ble_eq_true rfl) [some (.ref a), some (.ref b), none] rfl (fun sz => ?_)
  refine j_iconst dX5_isLike_0 ?_
  refine j_istore_n dX5_isLike_1 (by decide) (by dsimp only [List.set] <;> rfl) ?_
  have lp2 : ∀ (nn : Nat) (i : Int), 0 ≤ i → i ≤ 64 → 64 - i < nn → (∀ j : Nat, (j : Int) < i → g j = g2 j) → J l D yX5_isLike cX5_isLike 3 (some .boolean) rmX5_isLike sz (AA σ sz) (QI D σ sz (fun r σ' => ((r = 1 ∧ ∀ j : Nat, j < 64 → g j = g2 j) ∨ (r = 0 ∧ ∃ j : Nat, j < 64 ∧ g j ≠ g2 j)) ∧ σ' = σ)) 0 0 2 [some (.ref a), some (.ref b), some (vi i)] [] σ := by
    intro nn
    induction nn with
    | zero =>
      intro i hi0 hi1 hnn hall
      exact absurd (by assumption) (by omega)
    | succ nn ih2 =>
      intro i hi0 hi1 hnn hall
      refine j_iload_n dX5_isLike_2 rfl ?_
      refine j_bipush dX5_isLike_3 (by decide) ?_
      refine j_icmp_ge (tgt := 31) dX5_isLike_5 (by decide) ⟨by omega, by omega⟩ ⟨by omega, by omega⟩ (fun h5 => ?_) (fun h5 => ?_)
      · skip
        refine j_iconst dX5_isLike_31 ?_
        exact j_zret dX5_isLike_32 (by omega) ⟨_, rfl, ⟨Or.inl ⟨rfl, fun j hj => hall j (by omega)⟩, rfl⟩⟩
      · skip
        refine j_aload_n dX5_isLike_8 rfl ?_
        refine gf_X5_9 rfl dX5_isLike_9 (by first | assumption | exact wup_s _ _ _ | exact wup_of (by assumption) (by omega) | exact wup_of (wup_s _ _ _) (by omega) | exact wup_of (wup_of (by assumption) (by omega)) (by omega) | exact wup_of (wup_of (wup_s _ _ _) (by omega)) (by omega) | exact wup_of (wup_of (wup_of (by assumption) (by omega)) (by omega)) (by omega)) rfl ?_
        refine j_iload_n dX5_isLike_12 rfl ?_
        refine jj_iald dX5_isLike_13 (by first | assumption | exact IA.up (by assumption) (by omega) | exact IA.up (IA.up (by assumption) (by omega)) (by omega)) (by omega) (by omega) ⟨by omega, by omega⟩ ?_
        refine j_aload_n dX5_isLike_14 rfl ?_
        refine gf_X5_9 rfl dX5_isLike_15 (by first | assumption | exact wup_s _ _ _ | exact wup_of (by assumption) (by omega) | exact wup_of (wup_s _ _ _) (by omega) | exact wup_of (wup_of (by assumption) (by omega)) (by omega) | exact wup_of (wup_of (wup_s _ _ _) (by omega)) (by omega) | exact wup_of (wup_of (wup_of (by assumption) (by omega)) (by omega)) (by omega)) rfl ?_
        refine j_iload_n dX5_isLike_18 rfl ?_
        refine jj_iald dX5_isLike_19 (by first | assumption | exact IA.up (by assumption) (by omega) | exact IA.up (IA.up (by assumption) (by omega)) (by omega)) (by omega) (by omega) ⟨by omega, by omega⟩ ?_
        refine j_icmp_eq (tgt := 25) dX5_isLike_20 (by decide) (by have := hg i.toNat (by omega); exact ⟨by omega, by omega⟩) (by have := hg2 i.toNat (by omega); exact ⟨by omega, by omega⟩) (fun h20 => ?_) (fun h20 => ?_)
        · skip
          refine j_iinc dX5_isLike_25 rfl (by decide) (by dsimp only [List.set] <;> rfl) ?_
          refine j_goto (tgt := 2) dX5_isLike_28 (by decide) ?_
          exact ih2 _ (by omega) (by omega) (by omega) (fun j hj => by
            rcases (show (j : Int) < i ∨ j = i.toNat by omega) with q | q
            · exact hall j q
            · rw [q]
              exact h20)
        · skip
          refine j_iconst dX5_isLike_23 ?_
          exact j_zret dX5_isLike_24 (by omega) ⟨_, rfl, ⟨Or.inr ⟨rfl, i.toNat, by omega, h20⟩, rfl⟩⟩
  exact lp2 66 0 (by omega) (by omega) (by omega) (fun j hj => absurd hj (by omega))
set_option maxRecDepth 100000 in
set_option maxHeartbeats 4000000 in
theorem c_X5_copyFrom {l : Launch} {D : gD} {σ : Wd} {a b sA sB : Nat} {g g2 : Nat → Int} (h1 : σ a = some (.inr (5, [.ref sA]))) (h2 : IA D σ sA 64 g) (h3 : σ b = some (.inr (5, [.ref sB]))) (h4 : IA D σ sB 64 g2) : KX5_copyFrom l D [.ref a, .ref b] σ (fun σ' => Off [sA] σ σ' ∧ IA D σ' sA 64 g2) := by
  refine sp_of (by decide +kernel) (cat1 rfl) (Nat.le_of_ble_eq_true rfl) [some (.ref a), some (.ref b)] rfl (fun sz => ?_)
  refine j_aload_n dX5_copyFrom_0 rfl ?_
  refine gf_X5_9 rfl dX5_copyFrom_1 (by first | assumption | exact wup_s _ _ _ | exact wup_of (by assumption) (by omega) | exact wup_of (wup_s _ _ _) (by omega) | exact wup_of (wup_of (by assumption) (by omega)) (by omega) | exact wup_of (wup_of (wup_s _ _ _) (by omega)) (by omega) | exact wup_of (wup_of (wup_of (by assumption) (by omega)) (by omega)) (by omega)) rfl ?_
  refine j_iconst dX5_copyFrom_4 ?_
  refine j_aload_n dX5_copyFrom_5 rfl ?_
  refine gf_X5_9 rfl dX5_copyFrom_6 (by first | assumption | exact wup_s _ _ _ | exact wup_of (by assumption) (by omega) | exact wup_of (wup_s _ _ _) (by omega) | exact wup_of (wup_of (by assumption) (by omega)) (by omega) | exact wup_of (wup_of (wup_s _ _ _) (by omega)) (by omega) | exact wup_of (wup_of (wup_of (by assumption) (by omega)) (by omega)) (by omega)) rfl ?_
  refine j_iconst dX5_copyFrom_9 ?_
  refine j_bipush dX5_copyFrom_10 (by decide) ?_
  refine jj_copy lk_X5_36 dX5_copyFrom_12 h4 h2 ⟨by omega, by omega⟩ ⟨by omega, by omega⟩ ⟨by omega, by omega⟩ (by omega) (by omega) (by omega) (by omega) (by omega) (by decide) (Nat.le_of_ble_eq_true rfl) (fun e12 q12 => ?_)
  exact j_vret dX5_copyFrom_15 ⟨rfl, wup_off (by simp), q12.ext (fun j hj => by unfold va_cpy; rw [if_pos ⟨Nat.zero_le _, by omega⟩]; congr 1; omega)⟩
set_option maxRecDepth 100000 in
set_option maxHeartbeats 4000000 in
theorem c_X3_put {l : Launch} {D : gD} {σ : Wd} {a cA tA : Nat} {f : Nat → Int} {r c v : Int} (h1 : σ a = some (.inr (3, [.ref cA, .ref tA]))) (h2 : IA D σ cA 64 f) (hr : R32 r) (hc : R32 c) : KX3_put l D [.ref a, vi r, vi c, vi v] σ (fun σ' => Off [cA] σ σ' ∧ IA D σ' cA 64 (if (0 ≤ r ∧ r < 8) ∧ 0 ≤ c ∧ c < 8 then fup f (8 * r + c).toNat v else f)) := by
  obtain ⟨hr1, hr2⟩ := id hr
  obtain ⟨hc1, hc2⟩ := id hc
  refine sp_of (by decide +kernel) (cat1 rfl) (Nat.le_of_ble_eq_true rfl) [some (.ref a), some (vi r), some (vi c), some (vi v)] rfl (fun sz => ?_)
  refine j_iload_n dX3_put_0 rfl ?_
  refine cl_X3_22 (As := [_]) rfl dX3_put_1 (c_X6_isInside hr) rfl ⟨by decide, by decide⟩ (Nat.le_of_ble_eq_true rfl) ⟨Nat.zero_le _, Nat.zero_le _⟩ (fun z1 σ1 hz1 => ?_)
  obtain ⟨hr1, hs1⟩ := hz1
  have hr1 := Eq.symm hr1
  have hs1 := Eq.symm hs1
  subst hr1
  subst hs1
  refine j_if_eq (tgt := 26) dX3_put_4 (by decide) ⟨by omega, by omega⟩ (fun h4 => ?_) (fun h4 => ?_)
  · skip
    exact j_vret dX3_put_26 ⟨rfl, by first | exact Off.rf | exact wup_off (by simp), by first | (rw [if_pos (by omega), show 8 * r + c = r * 8 + c by omega]; assumption) | (rw [if_neg (by omega)]; assumption)⟩
  · skip
    refine j_iload_n dX3_put_7 rfl ?_
    refine cl_X3_22 (As := [_]) rfl dX3_put_8 (c_X6_isInside hc) rfl ⟨by decide, by decide⟩ (Nat.le_of_ble_eq_true rfl) ⟨Nat.zero_le _, Nat.zero_le _⟩ (fun z8 σ8 hz8 => ?_)
    obtain ⟨hr8, hs8⟩ := hz8
    have hr8 := Eq.symm hr8
    have hs8 := Eq.symm hs8
    subst hr8
    subst hs8
    refine j_if_eq (tgt := 26) dX3_put_11 (by decide) ⟨by omega, by omega⟩ (fun h11 => ?_) (fun h11 => ?_)
    · skip
      exact j_vret dX3_put_26 ⟨rfl, by first | exact Off.rf | exact wup_off (by simp), by first | (rw [if_pos (by omega), show 8 * r + c = r * 8 + c by omega]; assumption) | (rw [if_neg (by omega)]; assumption)⟩
    · skip
      refine j_aload_n dX3_put_14 rfl ?_
      refine gf_X3_9 rfl dX3_put_15 (by first | assumption | exact wup_s _ _ _ | exact wup_of (by assumption) (by omega) | exact wup_of (wup_s _ _ _) (by omega) | exact wup_of (wup_of (by assumption) (by omega)) (by omega) | exact wup_of (wup_of (wup_s _ _ _) (by omega)) (by omega) | exact wup_of (wup_of (wup_of (by assumption) (by omega)) (by omega)) (by omega)) rfl ?_
      refine j_iload_n dX3_put_18 rfl ?_
      refine j_bipush dX3_put_19 (by decide) ?_
      refine j_imul dX3_put_21 ?_
      refine j_iload_n dX3_put_22 rfl ?_
      refine j_iadd dX3_put_23 ?_
      refine j_iload_n dX3_put_24 rfl ?_
      refine jj_iast dX3_put_25 (by first | assumption | exact IA.up (by assumption) (by omega) | exact IA.up (IA.up (by assumption) (by omega)) (by omega)) (by omega) (by omega) ⟨by omega, by omega⟩ (fun e25 q25 => ?_)
      exact j_vret dX3_put_26 ⟨rfl, by first | exact Off.rf | exact wup_off (by simp), by first | (rw [if_pos (by omega), show 8 * r + c = r * 8 + c by omega]; assumption) | (rw [if_neg (by omega)]; assumption)⟩
set_option maxRecDepth 100000 in
set_option maxHeartbeats 4000000 in
theorem c_X3_putAll {l : Launch} {D : gD} {σ : Wd} {a cA tA : Nat} {f : Nat → Int} {b : Nat} {v : Nat → Int} (h1 : σ a = some (.inr (3, [.ref cA, .ref tA]))) (h2 : IA D σ cA 64 f) (h3 : IA D σ b 64 v) (hn : b ≠ cA) : KX3_putAll l D [.ref a, .ref b] σ (fun σ' => Off [cA] σ σ' ∧ IA D σ' cA 64 v) := by
  have hne : a ≠ cA := ne_oa h1 h2
  refine sp_of (by decide +kernel) (cat1 rfl) (Nat.le_of_ble_eq_true rfl) [some (.ref a), some (.ref b), none] rfl (fun sz => ?_)
  refine j_iconst dX3_putAll_0 ?_
  refine j_istore_n dX3_putAll_1 (by decide) (by dsimp only [List.set] <;> rfl) ?_
  have lp2 : ∀ (nn : Nat) (i : Int) (w : Wd), 0 ≤ i → i ≤ 64 → 64 - i < nn → Off [cA] σ w → IA D w cA 64 (fun j => if (j : Int) < i then v j else f j) → J l D yX3_putAll cX3_putAll 3 none rmX3_putAll sz (AA σ sz) (QV D σ sz (fun σ' => Off [cA] σ σ' ∧ IA D σ' cA 64 v)) 0 0 2 [some (.ref a), some (.ref b), some (vi i)] [] w := by
    intro nn
    induction nn with
    | zero =>
      intro i w hi0 hi1 hnn ho hw
      exact absurd (by assumption) (by omega)
    | succ nn ih2 =>
      intro i w hi0 hi1 hnn ho hw
      have hwb := ho.ia h3 (ni1 hn)
      have hwa := ho.get h1 (ni1 hne)
      refine j_iload_n dX3_putAll_2 rfl ?_
      refine j_bipush dX3_putAll_3 (by decide) ?_
      refine j_icmp_ge (tgt := 29) dX3_putAll_5 (by decide) ⟨by omega, by omega⟩ ⟨by omega, by omega⟩ (fun h5 => ?_) (fun h5 => ?_)
      · skip
        exact j_vret dX3_putAll_29 ⟨rfl, ho, hw.ext (fun j hj => by rw [if_pos (by omega)])⟩
      · skip
        refine j_iload_n dX3_putAll_8 rfl ?_
        refine j_aload_n dX3_putAll_9 rfl ?_
        refine jj_alen dX3_putAll_10 hwb ?_
        refine j_icmp_ge (tgt := 29) dX3_putAll_11 (by decide) ⟨by omega, by omega⟩ ⟨by omega, by omega⟩ (fun h11 => ?_) (fun h11 => ?_)
        · skip
          exact absurd h11 (by omega)
        · skip
          refine j_aload_n dX3_putAll_14 rfl ?_
          refine gf_X3_9 rfl dX3_putAll_15 (by first | assumption | exact wup_s _ _ _ | exact wup_of (by assumption) (by omega) | exact wup_of (wup_s _ _ _) (by omega) | exact wup_of (wup_of (by assumption) (by omega)) (by omega) | exact wup_of (wup_of (wup_s _ _ _) (by omega)) (by omega) | exact wup_of (wup_of (wup_of (by assumption) (by omega)) (by omega)) (by omega)) rfl ?_
          refine j_iload_n dX3_putAll_18 rfl ?_
          refine j_aload_n dX3_putAll_19 rfl ?_
          refine j_iload_n dX3_putAll_20 rfl ?_
          refine jj_iald dX3_putAll_21 hwb (by omega) (by omega) ⟨by omega, by omega⟩ ?_
          refine jj_iast dX3_putAll_22 hw (by omega) (by omega) ⟨by omega, by omega⟩ (fun e22 q22 => ?_)
          refine j_iinc dX3_putAll_23 rfl (by decide) (by dsimp only [List.set] <;> rfl) ?_
          refine j_goto (tgt := 2) dX3_putAll_26 (by decide) ?_
          exact ih2 _ _ (by omega) (by omega) (by omega) (ho.up (by simp)) (q22.ext (fun j hj => by
            unfold fup
            by_cases q : j = i.toNat
            · rw [if_pos q, if_pos (by omega), q]
            · rw [if_neg q]
              dsimp only
              by_cases q2 : (j : Int) < i
              · rw [if_pos q2, if_pos (by omega)]
              · rw [if_neg q2, if_neg (by omega)]))
  exact lp2 66 0 σ (by omega) (by omega) (by omega) Off.rf (h2.ext (fun j hj => by rw [if_neg (by omega)]))
set_option maxRecDepth 100000 in
set_option maxHeartbeats 4000000 in
theorem c_X3_reduceCells {l : Launch} {D : gD} {σ : Wd} {a cA tA : Nat} {f : Nat → Int} {p : Int} (h1 : σ a = some (.inr (3, [.ref cA, .ref tA]))) (h2 : IA D σ cA 64 f) (hf : ∀ j, j < 64 → R32 (f j)) (hp : 2 ≤ p) (hp2 : p < 2147483648) : KX3_reduceCells l D [.ref a, vi p] σ (fun σ' => Off [cA] σ σ' ∧ IA D σ' cA 64 (fun j => f j % p)) := by
  have hne : a ≠ cA := ne_oa h1 h2
  refine sp_of (by decide +kernel) (cat1 rfl) (Nat.le_of_ble_eq_true rfl) [some (.ref a), some (vi p), none] rfl (fun sz => ?_)
  refine j_iconst dX3_reduceCells_0 ?_
  refine j_istore_n dX3_reduceCells_1 (by decide) (by dsimp only [List.set] <;> rfl) ?_
  have lp2 : ∀ (nn : Nat) (i : Int) (w : Wd), 0 ≤ i → i ≤ 64 → 64 - i < nn → Off [cA] σ w → IA D w cA 64 (fun j => if (j : Int) < i then f j % p else f j) → J l D yX3_reduceCells cX3_reduceCells 3 none rmX3_reduceCells sz (AA σ sz) (QV D σ sz (fun σ' => Off [cA] σ σ' ∧ IA D σ' cA 64 (fun j => f j % p))) 0 0 2 [some (.ref a), some (vi p), some (vi i)] [] w := by
    intro nn
    induction nn with
    | zero =>
      intro i w hi0 hi1 hnn ho hw
      exact absurd (by assumption) (by omega)
    | succ nn ih2 =>
      intro i w hi0 hi1 hnn ho hw
      have hwa := ho.get h1 (ni1 hne)
      refine j_iload_n dX3_reduceCells_2 rfl ?_
      refine j_bipush dX3_reduceCells_3 (by decide) ?_
      refine j_icmp_ge (tgt := 30) dX3_reduceCells_5 (by decide) ⟨by omega, by omega⟩ ⟨by omega, by omega⟩ (fun h5 => ?_) (fun h5 => ?_)
      · skip
        exact j_vret dX3_reduceCells_30 ⟨rfl, ho, hw.ext (fun j hj => by rw [if_pos (by omega)])⟩
      · skip
        refine j_aload_n dX3_reduceCells_8 rfl ?_
        refine gf_X3_9 rfl dX3_reduceCells_9 (by first | assumption | exact wup_s _ _ _ | exact wup_of (by assumption) (by omega) | exact wup_of (wup_s _ _ _) (by omega) | exact wup_of (wup_of (by assumption) (by omega)) (by omega) | exact wup_of (wup_of (wup_s _ _ _) (by omega)) (by omega) | exact wup_of (wup_of (wup_of (by assumption) (by omega)) (by omega)) (by omega)) rfl ?_
        refine j_iload_n dX3_reduceCells_12 rfl ?_
        refine j_aload_n dX3_reduceCells_13 rfl ?_
        refine gf_X3_9 rfl dX3_reduceCells_14 (by first | assumption | exact wup_s _ _ _ | exact wup_of (by assumption) (by omega) | exact wup_of (wup_s _ _ _) (by omega) | exact wup_of (wup_of (by assumption) (by omega)) (by omega) | exact wup_of (wup_of (wup_s _ _ _) (by omega)) (by omega) | exact wup_of (wup_of (wup_of (by assumption) (by omega)) (by omega)) (by omega)) rfl ?_
        refine j_iload_n dX3_reduceCells_17 rfl ?_
        refine jj_iald dX3_reduceCells_18 hw (by omega) (by omega) ⟨by omega, by omega⟩ ?_
        refine j_tops (show _ = f i.toNat by rw [if_neg (by omega)]) ?_
        refine j_iload_n dX3_reduceCells_19 rfl ?_
        refine cl_X3_26 (As := [_, _]) rfl dX3_reduceCells_20 (c_X6_remainder (hf _ (by omega)) hp hp2) rfl ⟨by decide, by decide⟩ (Nat.le_of_ble_eq_true rfl) ⟨Nat.zero_le _, Nat.zero_le _⟩ (fun z20 σ20 hz20 => ?_)
        obtain ⟨hr20, hs20⟩ := hz20
        have hr20 := Eq.symm hr20
        have hs20 := Eq.symm hs20
        subst hr20
        subst hs20
        refine jj_iast dX3_reduceCells_23 hw (by omega) (by omega) ⟨by omega, by omega⟩ (fun e23 q23 => ?_)
        refine j_iinc dX3_reduceCells_24 rfl (by decide) (by dsimp only [List.set] <;> rfl) ?_
        refine j_goto (tgt := 2) dX3_reduceCells_27 (by decide) ?_
        exact ih2 _ _ (by omega) (by omega) (by omega) (ho.up (by simp)) (q23.ext (fun j hj => by
          unfold fup
          by_cases q : j = i.toNat
          · rw [if_pos q, if_pos (by omega), q]
          · rw [if_neg q]
            dsimp only
            by_cases q2 : (j : Int) < i
            · rw [if_pos q2, if_pos (by omega)]
            · rw [if_neg q2, if_neg (by omega)]))
  exact lp2 66 0 σ (by omega) (by omega) (by omega) Off.rf (h2.ext (fun j hj => by rw [if_neg (by omega)]))
set_option maxRecDepth 100000 in
set_option maxHeartbeats 4000000 in
theorem c_X3_diagonalSum {l : Launch} {D : gD} {σ : Wd} {a cA tA : Nat} {f : Nat → Int} (h1 : σ a = some (.inr (3, [.ref cA, .ref tA]))) (h2 : IA D σ cA 64 f) : KX3_diagonalSum l D [.ref a] σ (fun r σ' => r = sumF (fun j => f (9 * j)) 8 ∧ σ' = σ) := by
  refine sp_of (by decide +kernel) (cat1 rfl) (Nat.le_of_ble_eq_true rfl) [some (.ref a), none, none] rfl (fun sz => ?_)
  refine j_iconst dX3_diagonalSum_0 ?_
  refine j_istore_n dX3_diagonalSum_1 (by decide) (by dsimp only [List.set] <;> rfl) ?_
  refine j_iconst dX3_diagonalSum_2 ?_
  refine j_istore_n dX3_diagonalSum_3 (by decide) (by dsimp only [List.set] <;> rfl) ?_
  have lp4 : ∀ (nn : Nat) (i c : Int), 0 ≤ i → i ≤ 8 → 8 - i < nn → c = sumF (fun j => f (9 * j)) i.toNat → J l D yX3_diagonalSum cX3_diagonalSum 3 (some .int) rmX3_diagonalSum sz (AA σ sz) (QI D σ sz (fun r σ' => r = sumF (fun j => f (9 * j)) 8 ∧ σ' = σ)) 0 0 4 [some (.ref a), some (vi c), some (vi i)] [] σ := by
    intro nn
    induction nn with
    | zero =>
      intro i c hi0 hi1 hnn hc
      exact absurd (by assumption) (by omega)
    | succ nn ih4 =>
      intro i c hi0 hi1 hnn hc
      refine j_iload_n dX3_diagonalSum_4 rfl ?_
      refine j_bipush dX3_diagonalSum_5 (by decide) ?_
      refine j_icmp_ge (tgt := 25) dX3_diagonalSum_7 (by decide) ⟨by omega, by omega⟩ ⟨by omega, by omega⟩ (fun h7 => ?_) (fun h7 => ?_)
      · skip
        refine j_iload_n dX3_diagonalSum_25 rfl ?_
        exact j_iret dX3_diagonalSum_26 ⟨_, rfl, ⟨by rw [hc, show i = 8 by omega]; rfl, rfl⟩⟩
      · skip
        refine j_iload_n dX3_diagonalSum_10 rfl ?_
        refine j_aload_n dX3_diagonalSum_11 rfl ?_
        refine j_iload_n dX3_diagonalSum_12 rfl ?_
        refine j_iload_n dX3_diagonalSum_13 rfl ?_
        refine cl_X3_30 (As := [_, _]) rfl dX3_diagonalSum_14 (c_X3_at h1 h2 (rs (by omega) (by omega)) (rs (by omega) (by omega))) (by first | assumption | exact wup_s _ _ _ | exact wup_of (by assumption) (by omega) | exact wup_of (wup_s _ _ _) (by omega) | exact wup_of (wup_of (by assumption) (by omega)) (by omega) | exact wup_of (wup_of (wup_s _ _ _) (by omega)) (by omega) | exact wup_of (wup_of (wup_of (by assumption) (by omega)) (by omega)) (by omega)) rfl ⟨by decide, by decide⟩ (Nat.le_of_ble_eq_true rfl) ⟨Nat.zero_le _, Nat.zero_le _⟩ (fun z14 σ14 hz14 => ?_)
        obtain ⟨hr14, hs14⟩ := hz14
        have hr14 := Eq.symm hr14
        have hs14 := Eq.symm hs14
        subst hr14
        subst hs14
        refine j_iadd dX3_diagonalSum_17 ?_
        refine j_istore_n dX3_diagonalSum_18 (by decide) (by dsimp only [List.set] <;> rfl) ?_
        refine j_iinc dX3_diagonalSum_19 rfl (by decide) (by dsimp only [List.set] <;> rfl) ?_
        refine j_goto (tgt := 4) dX3_diagonalSum_22 (by decide) ?_
        exact ih4 _ _ (by omega) (by omega) (by omega) (by
          rw [sumF_s (by omega), hc, if_pos (by omega), show (8 * i + i).toNat = 9 * i.toNat by omega])
  exact lp4 10 0 0 (by omega) (by omega) (by omega) rfl
set_option maxRecDepth 100000 in
set_option maxHeartbeats 4000000 in
theorem c_X3_cellsNotZero {l : Launch} {D : gD} {σ : Wd} {a cA tA : Nat} {f : Nat → Int} (h1 : σ a = some (.inr (3, [.ref cA, .ref tA]))) (h2 : IA D σ cA 64 f) (hf : ∀ j, j < 64 → R32 (f j)) : KX3_cellsNotZero l D [.ref a] σ (fun r σ' => r = cntN f (fun _ => 0) 64 ∧ σ' = σ) := by
  refine sp_of (by decide +kernel) (cat1 rfl) (Nat.le_of_ble_eq_true rfl) [some (.ref a), none, none] rfl (fun sz => ?_)
  refine j_iconst dX3_cellsNotZero_0 ?_
  refine j_istore_n dX3_cellsNotZero_1 (by decide) (by dsimp only [List.set] <;> rfl) ?_
  refine j_iconst dX3_cellsNotZero_2 ?_
  refine j_istore_n dX3_cellsNotZero_3 (by decide) (by dsimp only [List.set] <;> rfl) ?_
  have lp4 : ∀ (nn : Nat) (i c : Int), 0 ≤ i → i ≤ 64 → 64 - i < nn → c = cntN f (fun _ => 0) i.toNat → J l D yX3_cellsNotZero cX3_cellsNotZero 3 (some .int) rmX3_cellsNotZero sz (AA σ sz) (QI D σ sz (fun r σ' => r = cntN f (fun _ => 0) 64 ∧ σ' = σ)) 0 0 4 [some (.ref a), some (vi c), some (vi i)] [] σ := by
    intro nn
    induction nn with
    | zero =>
      intro i c hi0 hi1 hnn hc
      exact absurd (by assumption) (by omega)
    | succ nn ih4 =>
      intro i c hi0 hi1 hnn hc
      refine j_iload_n dX3_cellsNotZero_4 rfl ?_
      refine j_bipush dX3_cellsNotZero_5 (by decide) ?_
      refine j_icmp_ge (tgt := 28) dX3_cellsNotZero_7 (by decide) ⟨by omega, by omega⟩ ⟨by omega, by omega⟩ (fun h7 => ?_) (fun h7 => ?_)
      · skip
        refine j_iload_n dX3_cellsNotZero_28 rfl ?_
        exact j_iret dX3_cellsNotZero_29 ⟨_, rfl, ⟨by rw [hc, show i = 64 by omega]; rfl, rfl⟩⟩
      · skip
        refine j_aload_n dX3_cellsNotZero_10 rfl ?_
        refine gf_X3_9 rfl dX3_cellsNotZero_11 (by first | assumption | exact wup_s _ _ _ | exact wup_of (by assumption) (by omega) | exact wup_of (wup_s _ _ _) (by omega) | exact wup_of (wup_of (by assumption) (by omega)) (by omega) | exact wup_of (wup_of (wup_s _ _ _) (by omega)) (by omega) | exact wup_of (wup_of (wup_of (by assumption) (by omega)) (by omega)) (by omega)) rfl ?_
        refine j_iload_n dX3_cellsNotZero_14 rfl ?_
        refine jj_iald dX3_cellsNotZero_15 (by first | assumption | exact IA.up (by assumption) (by omega) | exact IA.up (IA.up (by assumption) (by omega)) (by omega)) (by omega) (by omega) ⟨by omega, by omega⟩ ?_
        refine j_if_eq (tgt := 22) dX3_cellsNotZero_16 (by decide) (hf _ (by omega)) (fun h16 => ?_) (fun h16 => ?_)
        · skip
          refine j_iinc dX3_cellsNotZero_22 rfl (by decide) (by dsimp only [List.set] <;> rfl) ?_
          refine j_goto (tgt := 4) dX3_cellsNotZero_25 (by decide) ?_
          exact ih4 _ _ (by omega) (by omega) (by omega) (by rw [cntN_s (by omega)]; first | (rw [if_pos (by omega)]; omega) | (rw [if_neg (by omega)]; omega))
        · skip
          refine j_iinc dX3_cellsNotZero_19 rfl (by decide) (by dsimp only [List.set] <;> rfl) ?_
          refine j_iinc dX3_cellsNotZero_22 rfl (by decide) (by dsimp only [List.set] <;> rfl) ?_
          refine j_goto (tgt := 4) dX3_cellsNotZero_25 (by decide) ?_
          exact ih4 _ _ (by omega) (by omega) (by omega) (by rw [cntN_s (by omega)]; first | (rw [if_pos (by omega)]; omega) | (rw [if_neg (by omega)]; omega))
  exact lp4 66 0 0 (by omega) (by omega) (by omega) rfl
set_option maxRecDepth 100000 in
set_option maxHeartbeats 4000000 in
theorem c_X3_cellsUnlike {l : Launch} {D : gD} {σ : Wd} {a cA tA : Nat} {f : Nat → Int} {b cB tB : Nat} {f2 : Nat → Int} (h1 : σ a = some (.inr (3, [.ref cA, .ref tA]))) (h2 : IA D σ cA 64 f) (h3 : σ b = some (.inr (3, [.ref cB, .ref tB]))) (h4 : IA D σ cB 64 f2) (hf : ∀ j, j < 64 → R32 (f j)) (hf2 : ∀ j, j < 64 → R32 (f2 j)) : KX3_cellsUnlike l D [.ref a, .ref b] σ (fun r σ' => r = cntN f f2 64 ∧ σ' = σ) := by
  refine sp_of (by decide +kernel) (cat1 rfl) (Nat.le_of_ble_eq_true rfl) [some (.ref a), some (.ref b), none, none] rfl (fun sz => ?_)
  refine j_iconst dX3_cellsUnlike_0 ?_
  refine j_istore_n dX3_cellsUnlike_1 (by decide) (by dsimp only [List.set] <;> rfl) ?_
  refine j_iconst dX3_cellsUnlike_2 ?_
  refine j_istore_n dX3_cellsUnlike_3 (by decide) (by dsimp only [List.set] <;> rfl) ?_
  have lp4 : ∀ (nn : Nat) (i c : Int), 0 ≤ i → i ≤ 64 → 64 - i < nn → c = cntN f f2 i.toNat → J l D yX3_cellsUnlike cX3_cellsUnlike 4 (some .int) rmX3_cellsUnlike sz (AA σ sz) (QI D σ sz (fun r σ' => r = cntN f f2 64 ∧ σ' = σ)) 0 0 4 [some (.ref a), some (.ref b), some (vi c), some (vi i)] [] σ := by
    intro nn
    induction nn with
    | zero =>
      intro i c hi0 hi1 hnn hc
      exact absurd (by assumption) (by omega)
    | succ nn ih4 =>
      intro i c hi0 hi1 hnn hc
      refine j_iload_n dX3_cellsUnlike_4 rfl ?_
      refine j_bipush dX3_cellsUnlike_5 (by decide) ?_
      refine j_icmp_ge (tgt := 34) dX3_cellsUnlike_7 (by decide) ⟨by omega, by omega⟩ ⟨by omega, by omega⟩ (fun h7 => ?_) (fun h7 => ?_)
      · skip
        refine j_iload_n dX3_cellsUnlike_34 rfl ?_
        exact j_iret dX3_cellsUnlike_35 ⟨_, rfl, ⟨by rw [hc, show i = 64 by omega]; rfl, rfl⟩⟩
      · skip
        refine j_aload_n dX3_cellsUnlike_10 rfl ?_
        refine gf_X3_9 rfl dX3_cellsUnlike_11 (by first | assumption | exact wup_s _ _ _ | exact wup_of (by assumption) (by omega) | exact wup_of (wup_s _ _ _) (by omega) | exact wup_of (wup_of (by assumption) (by omega)) (by omega) | exact wup_of (wup_of (wup_s _ _ _) (by omega)) (by omega) | exact wup_of (wup_of (wup_of (by assumption) (by omega)) (by omega)) (by omega)) rfl ?_
        refine j_iload_n dX3_cellsUnlike_14 rfl ?_
        refine jj_iald dX3_cellsUnlike_15 h2 (by omega) (by omega) ⟨by omega, by omega⟩ ?_
        refine j_aload_n dX3_cellsUnlike_16 rfl ?_
        refine gf_X3_9 rfl dX3_cellsUnlike_17 (by first | assumption | exact wup_s _ _ _ | exact wup_of (by assumption) (by omega) | exact wup_of (wup_s _ _ _) (by omega) | exact wup_of (wup_of (by assumption) (by omega)) (by omega) | exact wup_of (wup_of (wup_s _ _ _) (by omega)) (by omega) | exact wup_of (wup_of (wup_of (by assumption) (by omega)) (by omega)) (by omega)) rfl ?_
        refine j_iload_n dX3_cellsUnlike_20 rfl ?_
        refine jj_iald dX3_cellsUnlike_21 h4 (by omega) (by omega) ⟨by omega, by omega⟩ ?_
        refine j_icmp_eq (tgt := 28) dX3_cellsUnlike_22 (by decide) (hf _ (by omega)) (hf2 _ (by omega)) (fun h22 => ?_) (fun h22 => ?_)
        · skip
          refine j_iinc dX3_cellsUnlike_28 rfl (by decide) (by dsimp only [List.set] <;> rfl) ?_
          refine j_goto (tgt := 4) dX3_cellsUnlike_31 (by decide) ?_
          exact ih4 _ _ (by omega) (by omega) (by omega) (by rw [cntN_s (by omega)]; first | (rw [if_pos (by omega)]; omega) | (rw [if_neg (by omega)]; omega))
        · skip
          refine j_iinc dX3_cellsUnlike_25 rfl (by decide) (by dsimp only [List.set] <;> rfl) ?_
          refine j_iinc dX3_cellsUnlike_28 rfl (by decide) (by dsimp only [List.set] <;> rfl) ?_
          refine j_goto (tgt := 4) dX3_cellsUnlike_31 (by decide) ?_
          exact ih4 _ _ (by omega) (by omega) (by omega) (by rw [cntN_s (by omega)]; first | (rw [if_pos (by omega)]; omega) | (rw [if_neg (by omega)]; omega))
  exact lp4 66 0 0 (by omega) (by omega) (by omega) rfl
set_option maxRecDepth 100000 in
set_option maxHeartbeats 4000000 in
theorem c_X3_copyFrom {l : Launch} {D : gD} {σ : Wd} {a b cA tA cB tB sA sB : Nat} {f f2 g g2 : Nat → Int} (h1 : σ a = some (.inr (3, [.ref cA, .ref tA]))) (h2 : IA D σ cA 64 f) (h3 : σ tA = some (.inr (5, [.ref sA]))) (h4 : IA D σ sA 64 g) (k1 : σ b = some (.inr (3, [.ref cB, .ref tB]))) (k2 : IA D σ cB 64 f2) (k3 : σ tB = some (.inr (5, [.ref sB]))) (k4 : IA D σ sB 64 g2) (hn : sA ≠ cA) (hn2 : sB ≠ cA) : KX3_copyFrom l D [.ref a, .ref b] σ (fun σ' => Off [cA, sA] σ σ' ∧ IA D σ' cA 64 f2 ∧ IA D σ' sA 64 g2) := by
  have n1 : a ≠ cA := ne_oa h1 h2
  have n2 : b ≠ cA := ne_oa k1 h2
  have n3 : tA ≠ cA := ne_oa h3 h2
  have n4 : tB ≠ cA := ne_oa k3 h2
  have n5 : tA ≠ sA := ne_oa h3 h4
  refine sp_of (by decide +kernel) (cat1 rfl) (Nat.le_of_ble_eq_true rfl) [some (.ref a), some (.ref b)] rfl (fun sz => ?_)
  refine j_aload_n dX3_copyFrom_0 rfl ?_
  refine gf_X3_9 rfl dX3_copyFrom_1 (by first | assumption | exact wup_s _ _ _ | exact wup_of (by assumption) (by omega) | exact wup_of (wup_s _ _ _) (by omega) | exact wup_of (wup_of (by assumption) (by omega)) (by omega) | exact wup_of (wup_of (wup_s _ _ _) (by omega)) (by omega) | exact wup_of (wup_of (wup_of (by assumption) (by omega)) (by omega)) (by omega)) rfl ?_
  refine j_iconst dX3_copyFrom_4 ?_
  refine j_aload_n dX3_copyFrom_5 rfl ?_
  refine gf_X3_9 rfl dX3_copyFrom_6 (by first | assumption | exact wup_s _ _ _ | exact wup_of (by assumption) (by omega) | exact wup_of (wup_s _ _ _) (by omega) | exact wup_of (wup_of (by assumption) (by omega)) (by omega) | exact wup_of (wup_of (wup_s _ _ _) (by omega)) (by omega) | exact wup_of (wup_of (wup_of (by assumption) (by omega)) (by omega)) (by omega)) rfl ?_
  refine j_iconst dX3_copyFrom_9 ?_
  refine j_bipush dX3_copyFrom_10 (by decide) ?_
  refine jj_copy lk_X3_33 dX3_copyFrom_12 k2 h2 ⟨by omega, by omega⟩ ⟨by omega, by omega⟩ ⟨by omega, by omega⟩ (by omega) (by omega) (by omega) (by omega) (by omega) (by decide) (Nat.le_of_ble_eq_true rfl) (fun e12 q12 => ?_)
  refine j_aload_n dX3_copyFrom_15 rfl ?_
  refine gf_X3_18 rfl dX3_copyFrom_16 (wup_of h1 n1) rfl ?_
  refine j_aload_n dX3_copyFrom_19 rfl ?_
  refine gf_X3_18 rfl dX3_copyFrom_20 (wup_of k1 n2) rfl ?_
  refine cl_X3_39 (As := [_]) rfl dX3_copyFrom_23 (c_X5_copyFrom (wup_of h3 n3) (h4.up hn) (wup_of k3 n4) (k4.up hn2)) (wup_of h3 n3) rfl ⟨by decide, by decide⟩ (Nat.le_of_ble_eq_true rfl) ⟨Nat.zero_le _, Nat.zero_le _⟩ (fun σ23 hz23 => ?_)
  exact j_vret dX3_copyFrom_26 ⟨rfl, ((wup_off (by simp)).tr (hz23.1.mono (by simp))), (hz23.1.ia q12 (by simpa using hn.symm)).ext (fun j hj => by unfold va_cpy; rw [if_pos ⟨Nat.zero_le _, by omega⟩]; congr 1; omega), hz23.2⟩

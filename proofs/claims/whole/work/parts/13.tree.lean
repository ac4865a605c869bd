/-! ===== contracts: Tree and Table ===== -/
theorem ne_oa {D : gD} {σ : Wd} {a b N : Nat} {x : Nat × List Value} {f : Nat → Int} (h : σ a = some (.inr x)) (h2 : IA D σ b N f) : a ≠ b := by
  rintro rfl
  obtain ⟨F, h3, -⟩ := h2
  rw [h] at h3
  cases h3
theorem ni1 {a b : Nat} (h : a ≠ b) : a ∉ [b] := by simpa using h
def gAt (g : Nat → Int) (s : Int) : Int := if 0 ≤ s ∧ s < 64 then g s.toNat else 0
def cutF (g : Nat → Int) (s d : Nat) (h : Int) : Nat → Nat → Int
  | 0 => g
  | n + 1 => fup (cutF g s d h n) (s + n * d) h
def mrgF (g : Nat → Int) (s : Nat) (m : Nat) : Nat → Int := fun j => if s ≤ j ∧ j < s + m then 0 else g j
theorem ediv_t {a b : Int} (h : 0 ≤ a) : a.tdiv b = a / b := Int.tdiv_eq_ediv_of_nonneg h
theorem rs {a : Int} (h0 : -1000000 ≤ a) (h : a ≤ 1000000) : R32 a := ⟨by omega, by omega⟩

set_option maxRecDepth 100000 in
set_option maxHeartbeats 4000000 in
theorem c_X5_leavesBefore {l : Launch} {D : gD} {σ : Wd} {a sA : Nat} {g : Nat → Int} {e : Int} (h1 : σ a = some (.inr (5, [.ref sA]))) (h2 : IA D σ sA 64 g) (hg : ∀ j : Nat, j < 64 → 0 ≤ g j ∧ g j ≤ 8) (he0 : 0 ≤ e) (he : e ≤ 64) : KX5_leavesBefore l D [.ref a, vi e] σ (fun r σ' => r = cntP g e.toNat ∧ σ' = σ) := by
  refine sp_of (by decide +kernel) (cat1 rfl) (Nat.le_of_ble_eq_true rfl) [some (.ref a), some (vi e), none, none] rfl (fun sz => ?_)
  refine j_iconst dX5_leavesBefore_0 ?_
  refine j_istore_n dX5_leavesBefore_1 (by decide) (by dsimp only [List.set] <;> rfl) ?_
  refine j_iconst dX5_leavesBefore_2 ?_
  refine j_istore_n dX5_leavesBefore_3 (by decide) (by dsimp only [List.set] <;> rfl) ?_
  have lp4 : ∀ (nn : Nat) (i c : Int), 0 ≤ i → i ≤ e → e - i < nn → c = cntP g i.toNat → J l D yX5_leavesBefore cX5_leavesBefore 4 (some .int) rmX5_leavesBefore sz (AA σ sz) (QI D σ sz (fun r σ' => r = cntP g e.toNat ∧ σ' = σ)) 0 0 4 [some (.ref a), some (vi e), some (vi c), some (vi i)] [] σ := by
    intro nn
    induction nn with
    | zero =>
      intro i c hi0 hi1 hnn hc
      exact absurd (by assumption) (by omega)
    | succ nn ih4 =>
      intro i c hi0 hi1 hnn hc
      have hcR := cntP_R g i.toNat
      refine j_iload_n dX5_leavesBefore_4 rfl ?_
      refine j_iload_n dX5_leavesBefore_5 rfl ?_
      refine j_icmp_ge (tgt := 33) dX5_leavesBefore_6 (by decide) ⟨by omega, by omega⟩ ⟨by omega, by omega⟩ (fun h6 => ?_) (fun h6 => ?_)
      · skip
        refine j_iload_n dX5_leavesBefore_33 rfl ?_
        exact j_iret dX5_leavesBefore_34 ⟨_, rfl, ⟨by rw [hc, show i = e by omega], rfl⟩⟩
      · skip
        refine j_iload_n dX5_leavesBefore_9 rfl ?_
        refine j_bipush dX5_leavesBefore_10 (by decide) ?_
        refine j_icmp_ge (tgt := 33) dX5_leavesBefore_12 (by decide) ⟨by omega, by omega⟩ ⟨by omega, by omega⟩ (fun h12 => ?_) (fun h12 => ?_)
        · skip
          exact absurd h12 (by omega)
        · skip
          refine j_aload_n dX5_leavesBefore_15 rfl ?_
          refine gf_X5_9 rfl dX5_leavesBefore_16 (by first | assumption | exact wup_s _ _ _ | exact wup_of (by assumption) (by omega) | exact wup_of (wup_s _ _ _) (by omega) | exact wup_of (wup_of (by assumption) (by omega)) (by omega) | exact wup_of (wup_of (wup_s _ _ _) (by omega)) (by omega) | exact wup_of (wup_of (wup_of (by assumption) (by omega)) (by omega)) (by omega)) rfl ?_
          refine j_iload_n dX5_leavesBefore_19 rfl ?_
          refine jj_iald dX5_leavesBefore_20 (by first | assumption | exact IA.up (by assumption) (by omega) | exact IA.up (IA.up (by assumption) (by omega)) (by omega)) (by omega) (by omega) ⟨by omega, by omega⟩ ?_
          refine j_if_le (tgt := 27) dX5_leavesBefore_21 (by decide) (by have := hg i.toNat (by omega); exact ⟨by omega, by omega⟩) (fun h21 => ?_) (fun h21 => ?_)
          · skip
            refine j_iinc dX5_leavesBefore_27 rfl (by decide) (by dsimp only [List.set] <;> rfl) ?_
            refine j_goto (tgt := 4) dX5_leavesBefore_30 (by decide) ?_
            exact ih4 _ _ (by omega) (by omega) (by omega) (by rw [cntP_s (by omega)]; first | (rw [if_pos (by omega)]; omega) | (rw [if_neg (by omega)]; omega))
          · skip
            refine j_iinc dX5_leavesBefore_24 rfl (by decide) (by dsimp only [List.set] <;> rfl) ?_
            refine j_iinc dX5_leavesBefore_27 rfl (by decide) (by dsimp only [List.set] <;> rfl) ?_
            refine j_goto (tgt := 4) dX5_leavesBefore_30 (by decide) ?_
            exact ih4 _ _ (by omega) (by omega) (by omega) (by rw [cntP_s (by omega)]; first | (rw [if_pos (by omega)]; omega) | (rw [if_neg (by omega)]; omega))
  exact lp4 66 0 0 (by omega) (by omega) (by omega) rfl
set_option maxRecDepth 100000 in
set_option maxHeartbeats 4000000 in
theorem c_X5_leaves {l : Launch} {D : gD} {σ : Wd} {a sA : Nat} {g : Nat → Int} (h1 : σ a = some (.inr (5, [.ref sA]))) (h2 : IA D σ sA 64 g) (hg : ∀ j : Nat, j < 64 → 0 ≤ g j ∧ g j ≤ 8) : KX5_leaves l D [.ref a] σ (fun r σ' => r = cntP g 64 ∧ σ' = σ) := by
  refine sp_of (by decide +kernel) (cat1 rfl) (Nat.le_of_ble_eq_true rfl) [some (.ref a)] rfl (fun sz => ?_)
  refine j_aload_n dX5_leaves_0 rfl ?_
  refine j_bipush dX5_leaves_1 (by decide) ?_
  refine cl_X5_22 (As := [_]) rfl dX5_leaves_3 (c_X5_leavesBefore h1 h2 hg (by omega) (by omega)) (by first | assumption | exact wup_s _ _ _ | exact wup_of (by assumption) (by omega) | exact wup_of (wup_s _ _ _) (by omega) | exact wup_of (wup_of (by assumption) (by omega)) (by omega) | exact wup_of (wup_of (wup_s _ _ _) (by omega)) (by omega) | exact wup_of (wup_of (wup_of (by assumption) (by omega)) (by omega)) (by omega)) rfl ⟨by decide, by decide⟩ (Nat.le_of_ble_eq_true rfl) ⟨Nat.zero_le _, Nat.zero_le _⟩ (fun z3 σ3 hz3 => ?_)
  obtain ⟨rfl, rfl⟩ := hz3
  exact j_iret dX5_leaves_6 ⟨_, rfl, ⟨rfl, rfl⟩⟩
set_option maxRecDepth 100000 in
set_option maxHeartbeats 4000000 in
theorem c_X5_startOf {l : Launch} {D : gD} {σ : Wd} {a sA : Nat} {g : Nat → Int} {e : Int} (h1 : σ a = some (.inr (5, [.ref sA]))) (h2 : IA D σ sA 64 g) (hg : ∀ j : Nat, j < 64 → 0 ≤ g j ∧ g j ≤ 8) (he : R32 e) : KX5_startOf l D [.ref a, vi e] σ (fun r σ' => ((0 ≤ r ∧ r < 64 ∧ 0 < g r.toNat ∧ cntP g r.toNat = e) ∨ (r = -1 ∧ ∀ j : Nat, j < 64 → 0 < g j → cntP g j ≠ e)) ∧ σ' = σ) := by
  obtain ⟨he1, he2⟩ := id he
  refine sp_of (by decide +kernel) (cat1 rfl) (Nat.le_of_ble_eq_true rfl) [some (.ref a), some (vi e), none, none] rfl (fun sz => ?_)
  refine j_iconst dX5_startOf_0 ?_
  refine j_istore_n dX5_startOf_1 (by decide) (by dsimp only [List.set] <;> rfl) ?_
  refine j_iconst dX5_startOf_2 ?_
  refine j_istore_n dX5_startOf_3 (by decide) (by dsimp only [List.set] <;> rfl) ?_
  have lp4 : ∀ (nn : Nat) (i c : Int), 0 ≤ i → i ≤ 64 → 64 - i < nn → c = cntP g i.toNat → (∀ j : Nat, (j : Int) < i → 0 < g j → cntP g j ≠ e) → J l D yX5_startOf cX5_startOf 4 (some .int) rmX5_startOf sz (AA σ sz) (QI D σ sz (fun r σ' => ((0 ≤ r ∧ r < 64 ∧ 0 < g r.toNat ∧ cntP g r.toNat = e) ∨ (r = -1 ∧ ∀ j : Nat, j < 64 → 0 < g j → cntP g j ≠ e)) ∧ σ' = σ)) 0 0 4 [some (.ref a), some (vi e), some (vi c), some (vi i)] [] σ := by
    intro nn
    induction nn with
    | zero =>
      intro i c hi0 hi1 hnn hc hno
      exact absurd (by assumption) (by omega)
    | succ nn ih4 =>
      intro i c hi0 hi1 hnn hc hno
      have hcR := cntP_R g i.toNat
      refine j_iload_n dX5_startOf_4 rfl ?_
      refine j_bipush dX5_startOf_5 (by decide) ?_
      refine j_icmp_ge (tgt := 35) dX5_startOf_7 (by decide) ⟨by omega, by omega⟩ ⟨by omega, by omega⟩ (fun h7 => ?_) (fun h7 => ?_)
      · skip
        refine j_iconst dX5_startOf_35 ?_
        exact j_iret dX5_startOf_36 ⟨_, rfl, ⟨Or.inr ⟨rfl, fun j hj => hno j (by omega)⟩, rfl⟩⟩
      · skip
        refine j_aload_n dX5_startOf_10 rfl ?_
        refine gf_X5_9 rfl dX5_startOf_11 (by first | assumption | exact wup_s _ _ _ | exact wup_of (by assumption) (by omega) | exact wup_of (wup_s _ _ _) (by omega) | exact wup_of (wup_of (by assumption) (by omega)) (by omega) | exact wup_of (wup_of (wup_s _ _ _) (by omega)) (by omega) | exact wup_of (wup_of (wup_of (by assumption) (by omega)) (by omega)) (by omega)) rfl ?_
        refine j_iload_n dX5_startOf_14 rfl ?_
        refine jj_iald dX5_startOf_15 (by first | assumption | exact IA.up (by assumption) (by omega) | exact IA.up (IA.up (by assumption) (by omega)) (by omega)) (by omega) (by omega) ⟨by omega, by omega⟩ ?_
        refine j_if_le (tgt := 29) dX5_startOf_16 (by decide) (by have := hg i.toNat (by omega); exact ⟨by omega, by omega⟩) (fun h16 => ?_) (fun h16 => ?_)
        · skip
          refine j_iinc dX5_startOf_29 rfl (by decide) (by dsimp only [List.set] <;> rfl) ?_
          refine j_goto (tgt := 4) dX5_startOf_32 (by decide) ?_
          exact ih4 _ _ (by omega) (by omega) (by omega) (by rw [cntP_s (by omega)]; first | (rw [if_pos (by omega)]; omega) | (rw [if_neg (by omega)]; omega)) (fun j hj hp => by
            rcases (show (j : Int) < i ∨ j = i.toNat by omega) with q | q
            · exact hno j q hp
            · rw [q] at hp ⊢
              omega)
        · skip
          refine j_iload_n dX5_startOf_19 rfl ?_
          refine j_iload_n dX5_startOf_20 rfl ?_
          refine j_icmp_ne (tgt := 26) dX5_startOf_21 (by decide) (rs (by omega) (by omega)) he (fun h21 => ?_) (fun h21 => ?_)
          · skip
            refine j_iinc dX5_startOf_26 rfl (by decide) (by dsimp only [List.set] <;> rfl) ?_
            refine j_iinc dX5_startOf_29 rfl (by decide) (by dsimp only [List.set] <;> rfl) ?_
            refine j_goto (tgt := 4) dX5_startOf_32 (by decide) ?_
            exact ih4 _ _ (by omega) (by omega) (by omega) (by rw [cntP_s (by omega)]; first | (rw [if_pos (by omega)]; omega) | (rw [if_neg (by omega)]; omega)) (fun j hj hp => by
              rcases (show (j : Int) < i ∨ j = i.toNat by omega) with q | q
              · exact hno j q hp
              · rw [q] at hp ⊢
                omega)
          · skip
            refine j_iload_n dX5_startOf_24 rfl ?_
            exact j_iret dX5_startOf_25 ⟨_, rfl, ⟨Or.inl ⟨by omega, by omega, by omega, by omega⟩, rfl⟩⟩
  exact lp4 66 0 0 (by omega) (by omega) (by omega) rfl (fun j hj => absurd hj (by omega))
set_option maxRecDepth 100000 in
set_option maxHeartbeats 4000000 in
theorem c_X5_startOfQuarter {l : Launch} {D : gD} {σ : Wd} {s z q : Int} (hz0 : 0 ≤ z) (hz : z ≤ 16) : KX5_startOfQuarter l D [vi s, vi z, vi q] σ (fun r σ' => r = s + q * (z * z / 4) ∧ σ' = σ) := by
  have hzz0 : 0 ≤ z * z := Int.mul_nonneg hz0 hz0
  have hzz : z * z ≤ 16 * 16 := Int.mul_le_mul hz hz hz0 (by omega)
  refine sp_of (by decide +kernel) (cat1 rfl) (Nat.le_of_ble_eq_true rfl) [some (vi s), some (vi z), some (vi q)] rfl (fun sz => ?_)
  refine j_iload_n dX5_startOfQuarter_0 rfl ?_
  refine j_iload_n dX5_startOfQuarter_1 rfl ?_
  refine j_iload_n dX5_startOfQuarter_2 rfl ?_
  refine j_iload_n dX5_startOfQuarter_3 rfl ?_
  refine j_imul dX5_startOfQuarter_4 ?_
  refine j_iconst dX5_startOfQuarter_5 ?_
  refine j_idiv dX5_startOfQuarter_6 ⟨by omega, by omega⟩ ⟨by omega, by omega⟩ (by omega) ?_
  refine j_imul dX5_startOfQuarter_7 ?_
  refine j_iadd dX5_startOfQuarter_8 ?_
  exact j_iret dX5_startOfQuarter_9 ⟨_, rfl, ⟨by rw [ediv_t hzz0], rfl⟩⟩
set_option maxRecDepth 100000 in
set_option maxHeartbeats 4000000 in
theorem c_X5_startOfBlock {l : Launch} {D : gD} {σ : Wd} {s : Nat} {k : Nat} (hs : s < 64) (hk : k < 5) : KX5_startOfBlock l D [vi s, vi ((2 ^ k : Nat) : Int)] σ (fun r σ' => r = ((s / (2 ^ k * 2 ^ k) * (2 ^ k * 2 ^ k) : Nat) : Int) ∧ σ' = σ) := by
  refine sp_of (by decide +kernel) (cat1 rfl) (Nat.le_of_ble_eq_true rfl) [some (vi s), some (vi ((2 ^ k : Nat) : Int))] rfl (fun sz => ?_)
  refine j_iload_n dX5_startOfBlock_0 rfl ?_
  refine j_iload_n dX5_startOfBlock_1 rfl ?_
  refine j_iload_n dX5_startOfBlock_2 rfl ?_
  refine j_imul dX5_startOfBlock_3 ?_
  refine j_ineg dX5_startOfBlock_4 ?_
  refine j_iand dX5_startOfBlock_5 ?_
  refine j_top (bit_mask s hs k hk) ?_
  exact j_iret dX5_startOfBlock_6 ⟨_, rfl, ⟨rfl, rfl⟩⟩
set_option maxRecDepth 100000 in
set_option maxHeartbeats 4000000 in
theorem c_X5_rowOf {l : Launch} {D : gD} {σ : Wd} {s : Nat} (hs : s < 128) : KX5_rowOf l D [vi s] σ (fun r σ' => r = rowN s ∧ σ' = σ) := by
  refine sp_of (by decide +kernel) (cat1 rfl) (Nat.le_of_ble_eq_true rfl) [some (vi s)] rfl (fun sz => ?_)
  refine j_iload_n dX5_rowOf_0 rfl ?_
  refine j_iconst dX5_rowOf_1 ?_
  refine j_ishr dX5_rowOf_2 ?_
  refine j_iconst dX5_rowOf_3 ?_
  refine j_iand dX5_rowOf_4 ?_
  refine j_iload_n dX5_rowOf_5 rfl ?_
  refine j_iconst dX5_rowOf_6 ?_
  refine j_ishr dX5_rowOf_7 ?_
  refine j_iconst dX5_rowOf_8 ?_
  refine j_iand dX5_rowOf_9 ?_
  refine j_ior dX5_rowOf_10 ?_
  refine j_iload_n dX5_rowOf_11 rfl ?_
  refine j_iconst dX5_rowOf_12 ?_
  refine j_ishr dX5_rowOf_13 ?_
  refine j_iconst dX5_rowOf_14 ?_
  refine j_iand dX5_rowOf_15 ?_
  refine j_ior dX5_rowOf_16 ?_
  refine j_top (bit_row s hs) ?_
  exact j_iret dX5_rowOf_17 ⟨_, rfl, ⟨rfl, rfl⟩⟩
set_option maxRecDepth 100000 in
set_option maxHeartbeats 4000000 in
theorem c_X5_columnOf {l : Launch} {D : gD} {σ : Wd} {s : Nat} (hs : s < 64) : KX5_columnOf l D [vi s] σ (fun r σ' => r = colN s ∧ σ' = σ) := by
  refine sp_of (by decide +kernel) (cat1 rfl) (Nat.le_of_ble_eq_true rfl) [some (vi s)] rfl (fun sz => ?_)
  refine j_iload_n dX5_columnOf_0 rfl ?_
  refine j_iconst dX5_columnOf_1 ?_
  refine j_ishl dX5_columnOf_2 ?_
  refine j_top (x' := iI ((2 * s : Nat) : Int)) (bit_dbl s hs) ?_
  refine cl_X5_15 (As := [_]) rfl dX5_columnOf_3 (c_X5_rowOf (s := 2 * s) (by omega)) rfl ⟨by decide, by decide⟩ (Nat.le_of_ble_eq_true rfl) ⟨Nat.zero_le _, Nat.zero_le _⟩ (fun z3 σ3 hz3 => ?_)
  obtain ⟨rfl, rfl⟩ := hz3
  exact j_iret dX5_columnOf_6 ⟨_, rfl, ⟨bit_col s hs, rfl⟩⟩
set_option maxRecDepth 100000 in
set_option maxHeartbeats 4000000 in
theorem c_X5_spread {l : Launch} {D : gD} {σ : Wd} {s : Nat} (hs : s < 8) : KX5_spread l D [vi s] σ (fun r σ' => r = sprN s ∧ σ' = σ) := by
  refine sp_of (by decide +kernel) (cat1 rfl) (Nat.le_of_ble_eq_true rfl) [some (vi s)] rfl (fun sz => ?_)
  refine j_iload_n dX5_spread_0 rfl ?_
  refine j_iconst dX5_spread_1 ?_
  refine j_iand dX5_spread_2 ?_
  refine j_iconst dX5_spread_3 ?_
  refine j_ishl dX5_spread_4 ?_
  refine j_iload_n dX5_spread_5 rfl ?_
  refine j_iconst dX5_spread_6 ?_
  refine j_iand dX5_spread_7 ?_
  refine j_iconst dX5_spread_8 ?_
  refine j_ishl dX5_spread_9 ?_
  refine j_ior dX5_spread_10 ?_
  refine j_iload_n dX5_spread_11 rfl ?_
  refine j_iconst dX5_spread_12 ?_
  refine j_iand dX5_spread_13 ?_
  refine j_ior dX5_spread_14 ?_
  refine j_top (bit_spr s hs) ?_
  exact j_iret dX5_spread_15 ⟨_, rfl, ⟨rfl, rfl⟩⟩
set_option maxRecDepth 100000 in
set_option maxHeartbeats 4000000 in
theorem c_X5_stepOf {l : Launch} {D : gD} {σ : Wd} {s t : Nat} (hs : s < 8) (ht : t < 8) : KX5_stepOf l D [vi s, vi t] σ (fun r σ' => r = 2 * sprN s + sprN t ∧ σ' = σ) := by
  refine sp_of (by decide +kernel) (cat1 rfl) (Nat.le_of_ble_eq_true rfl) [some (vi s), some (vi t)] rfl (fun sz => ?_)
  refine j_iload_n dX5_stepOf_0 rfl ?_
  refine cl_X5_19 (As := [_]) rfl dX5_stepOf_1 (c_X5_spread hs) rfl ⟨by decide, by decide⟩ (Nat.le_of_ble_eq_true rfl) ⟨Nat.zero_le _, Nat.zero_le _⟩ (fun z1 σ1 hz1 => ?_)
  obtain ⟨rfl, rfl⟩ := hz1
  refine j_iconst dX5_stepOf_4 ?_
  refine j_ishl dX5_stepOf_5 ?_
  refine j_iload_n dX5_stepOf_6 rfl ?_
  refine cl_X5_19 (As := [_]) rfl dX5_stepOf_7 (c_X5_spread ht) rfl ⟨by decide, by decide⟩ (Nat.le_of_ble_eq_true rfl) ⟨Nat.zero_le _, Nat.zero_le _⟩ (fun z7 σ7 hz7 => ?_)
  obtain ⟨rfl, rfl⟩ := hz7
  refine j_ior dX5_stepOf_10 ?_
  refine j_top (bit_step s hs t ht) ?_
  exact j_iret dX5_stepOf_11 ⟨_, rfl, ⟨rfl, rfl⟩⟩

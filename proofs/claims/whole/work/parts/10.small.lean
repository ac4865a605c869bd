/-! ===== contracts: small methods of the class ===== -/
set_option maxRecDepth 100000 in
set_option maxHeartbeats 4000000 in
theorem c_X6_isTable {l : Launch} {D : gD} {σ : Wd} {z : Int} (hz : R32 z) : KX6_isTable l D [vi z] σ (fun r σ' => r = (if 0 ≤ z ∧ z < 4 then 1 else 0) ∧ σ' = σ) := by
  obtain ⟨hz1, hz2⟩ := hz
  refine sp_of (by decide +kernel) (cat1 rfl) (Nat.le_of_ble_eq_true rfl) [some (vi z)] rfl (fun sz => ?_)
  refine j_iload_n dX6_isTable_0 rfl ?_
  refine j_if_lt (tgt := 13) dX6_isTable_1 (by decide) ⟨by omega, by omega⟩ (fun h1 => ?_) (fun h1 => ?_)
  · skip
    refine j_iconst dX6_isTable_13 ?_
    exact j_zret dX6_isTable_14 (by omega) ⟨_, rfl, ⟨by first | rw [if_pos (by omega)] | rw [if_neg (by omega)], rfl⟩⟩
  · skip
    refine j_iload_n dX6_isTable_4 rfl ?_
    refine j_iconst dX6_isTable_5 ?_
    refine j_icmp_ge (tgt := 13) dX6_isTable_6 (by decide) ⟨by omega, by omega⟩ ⟨by omega, by omega⟩ (fun h6 => ?_) (fun h6 => ?_)
    · skip
      refine j_iconst dX6_isTable_13 ?_
      exact j_zret dX6_isTable_14 (by omega) ⟨_, rfl, ⟨by first | rw [if_pos (by omega)] | rw [if_neg (by omega)], rfl⟩⟩
    · skip
      refine j_iconst dX6_isTable_9 ?_
      refine j_goto (tgt := 14) dX6_isTable_10 (by decide) ?_
      exact j_zret dX6_isTable_14 (by omega) ⟨_, rfl, ⟨by first | rw [if_pos (by omega)] | rw [if_neg (by omega)], rfl⟩⟩
set_option maxRecDepth 100000 in
set_option maxHeartbeats 4000000 in
theorem c_X6_isInside {l : Launch} {D : gD} {σ : Wd} {z : Int} (hz : R32 z) : KX6_isInside l D [vi z] σ (fun r σ' => r = (if 0 ≤ z ∧ z < 8 then 1 else 0) ∧ σ' = σ) := by
  obtain ⟨hz1, hz2⟩ := hz
  refine sp_of (by decide +kernel) (cat1 rfl) (Nat.le_of_ble_eq_true rfl) [some (vi z)] rfl (fun sz => ?_)
  refine j_iload_n dX6_isInside_0 rfl ?_
  refine j_if_lt (tgt := 14) dX6_isInside_1 (by decide) ⟨by omega, by omega⟩ (fun h1 => ?_) (fun h1 => ?_)
  · skip
    refine j_iconst dX6_isInside_14 ?_
    exact j_zret dX6_isInside_15 (by omega) ⟨_, rfl, ⟨by first | rw [if_pos (by omega)] | rw [if_neg (by omega)], rfl⟩⟩
  · skip
    refine j_iload_n dX6_isInside_4 rfl ?_
    refine j_bipush dX6_isInside_5 (by decide) ?_
    refine j_icmp_ge (tgt := 14) dX6_isInside_7 (by decide) ⟨by omega, by omega⟩ ⟨by omega, by omega⟩ (fun h7 => ?_) (fun h7 => ?_)
    · skip
      refine j_iconst dX6_isInside_14 ?_
      exact j_zret dX6_isInside_15 (by omega) ⟨_, rfl, ⟨by first | rw [if_pos (by omega)] | rw [if_neg (by omega)], rfl⟩⟩
    · skip
      refine j_iconst dX6_isInside_10 ?_
      refine j_goto (tgt := 15) dX6_isInside_11 (by decide) ?_
      exact j_zret dX6_isInside_15 (by omega) ⟨_, rfl, ⟨by first | rw [if_pos (by omega)] | rw [if_neg (by omega)], rfl⟩⟩
set_option maxRecDepth 100000 in
set_option maxHeartbeats 4000000 in
theorem c_X3_at {l : Launch} {D : gD} {σ : Wd} {a cA tA : Nat} {f : Nat → Int} {r c : Int} (h1 : σ a = some (.inr (3, [.ref cA, .ref tA]))) (h2 : IA D σ cA 64 f) (hr : R32 r) (hc : R32 c) : KX3_at l D [.ref a, vi r, vi c] σ (fun z σ' => z = (if (0 ≤ r ∧ r < 8) ∧ 0 ≤ c ∧ c < 8 then f (8 * r + c).toNat else 0) ∧ σ' = σ) := by
  obtain ⟨hr1, hr2⟩ := id hr
  obtain ⟨hc1, hc2⟩ := id hc
  refine sp_of (by decide +kernel) (cat1 rfl) (Nat.le_of_ble_eq_true rfl) [some (.ref a), some (vi r), some (vi c)] rfl (fun sz => ?_)
  refine j_iload_n dX3_at_0 rfl ?_
  refine cl_X3_22 (As := [_]) rfl dX3_at_1 (c_X6_isInside hr) rfl ⟨by decide, by decide⟩ (Nat.le_of_ble_eq_true rfl) ⟨Nat.zero_le _, Nat.zero_le _⟩ (fun z1 σ1 hz1 => ?_)
  obtain ⟨rfl, rfl⟩ := hz1
  refine j_if_eq (tgt := 28) dX3_at_4 (by decide) ⟨by omega, by omega⟩ (fun h4 => ?_) (fun h4 => ?_)
  · skip
    refine j_iconst dX3_at_28 ?_
    exact j_iret dX3_at_29 ⟨_, rfl, ⟨by first | (rw [if_pos (by omega)]; congr 1; omega) | rw [if_neg (by omega)], rfl⟩⟩
  · skip
    refine j_iload_n dX3_at_7 rfl ?_
    refine cl_X3_22 (As := [_]) rfl dX3_at_8 (c_X6_isInside hc) rfl ⟨by decide, by decide⟩ (Nat.le_of_ble_eq_true rfl) ⟨Nat.zero_le _, Nat.zero_le _⟩ (fun z8 σ8 hz8 => ?_)
    obtain ⟨rfl, rfl⟩ := hz8
    refine j_if_eq (tgt := 28) dX3_at_11 (by decide) ⟨by omega, by omega⟩ (fun h11 => ?_) (fun h11 => ?_)
    · skip
      refine j_iconst dX3_at_28 ?_
      exact j_iret dX3_at_29 ⟨_, rfl, ⟨by first | (rw [if_pos (by omega)]; congr 1; omega) | rw [if_neg (by omega)], rfl⟩⟩
    · skip
      refine j_aload_n dX3_at_14 rfl ?_
      refine gf_X3_9 rfl dX3_at_15 (by first | assumption | exact wup_s _ _ _ | exact wup_of (by assumption) (by omega) | exact wup_of (wup_s _ _ _) (by omega) | exact wup_of (wup_of (by assumption) (by omega)) (by omega) | exact wup_of (wup_of (wup_s _ _ _) (by omega)) (by omega) | exact wup_of (wup_of (wup_of (by assumption) (by omega)) (by omega)) (by omega)) rfl ?_
      refine j_iload_n dX3_at_18 rfl ?_
      refine j_bipush dX3_at_19 (by decide) ?_
      refine j_imul dX3_at_21 ?_
      refine j_iload_n dX3_at_22 rfl ?_
      refine j_iadd dX3_at_23 ?_
      refine jj_iald dX3_at_24 (by first | assumption | exact IA.up (by assumption) (by omega) | exact IA.up (IA.up (by assumption) (by omega)) (by omega)) (by omega) (by omega) ⟨by omega, by omega⟩ ?_
      refine j_goto (tgt := 29) dX3_at_25 (by decide) ?_
      exact j_iret dX3_at_29 ⟨_, rfl, ⟨by first | (rw [if_pos (by omega)]; congr 1; omega) | rw [if_neg (by omega)], rfl⟩⟩

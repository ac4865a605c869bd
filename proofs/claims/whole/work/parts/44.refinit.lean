/-! ===== the reference's constructor ===== -/
theorem TR_new {fl : Nat → Int} (h : ∀ d, d < 21 → fl d = 0) : TR fl g0T := by
  refine ⟨fun d hd => Or.inl (h d hd), fun d h1 hd q => ?_, fun w hw => ?_⟩
  · rw [h d hd] at q
    omega
  · have e : szF fl w = 8 := by
      unfold szF
      rw [h 0 (by omega), if_pos (by omega)]
    rw [e]
    unfold g0T
    by_cases q : w = 0
    · rw [if_pos q, if_pos (by omega)]
      rfl
    · rw [if_neg q, if_neg (by omega)]
theorem RO_new {R : Nat → Int} (h0 : R 0 = 101) (h : ∀ k, 0 < k → R k = 0) : RO R S0 :=
  ⟨h0, fun t _ k _ => h _ (by omega), fun t _ => TR_new (fun d _ => h _ (by omega))⟩
set_option maxRecDepth 100000 in
set_option maxHeartbeats 4000000 in
theorem c_X7_init {l : Launch} {D : gD} {σ : Wd} {o : Nat} (h0 : σ o = some (.inr (7, f0_X7))) : KX7_init l D o σ (fun sz w => OffN o sz 9 σ w ∧ (∃ x, w (sz + 8) = some x) ∧ (sz = o + 1 → RS D w o S0 S0 0 0 (fun _ => S0) 0 (fun _ => 0))) := by
  refine sp_of (by decide +kernel) (cat1 rfl) (Nat.le_of_ble_eq_true rfl) [some (.ref o)] rfl (fun sz => ?_)
  refine j_aload_n dX7_init_0 rfl ?_
  refine j_objInit lk_X7_1 dX7_init_1 (by decide) (by decide) ?_
  refine j_aload_n dX7_init_4 rfl ?_
  refine j_sipush dX7_init_5 (by decide) ?_
  refine j_newI (N := 341) dX7_init_8 rfl ⟨by omega, by omega⟩ (Nat.le_of_ble_eq_true rfl) (Nat.le_of_ble_eq_true rfl) (Nat.le_of_ble_eq_true rfl) (fun b b1 b2 b3 => ?_)
  have ho := b3 o _ h0
  have hb : sz = b := by omega
  subst hb
  refine pf_X7_7 rfl rfl dX7_init_10 (wup_of h0 (by omega)) rfl rfl (Nat.le_of_ble_eq_true rfl) ?_
  dsimp only [f0_X7, List.set]
  refine j_aload_n dX7_init_13 rfl ?_
  refine j_sipush dX7_init_14 (by decide) ?_
  refine j_newI (N := 1364) dX7_init_17 rfl ⟨by omega, by omega⟩ (Nat.le_of_ble_eq_true rfl) (Nat.le_of_ble_eq_true rfl) (Nat.le_of_ble_eq_true rfl) (fun b b1 b2 b3 => ?_)
  have hb := b3 _ _ (wup_of (wup_s _ _ _) (show sz ≠ o by omega))
  have hb : sz + 1 = b := by omega
  subst hb
  refine pf_X7_13 rfl rfl dX7_init_19 (wup_of (wup_s _ _ _) (by omega)) rfl rfl (Nat.le_of_ble_eq_true rfl) ?_
  dsimp only [f0_X7, List.set]
  refine j_aload_n dX7_init_22 rfl ?_
  refine j_sipush dX7_init_23 (by decide) ?_
  refine j_newI (N := 341) dX7_init_26 rfl ⟨by omega, by omega⟩ (Nat.le_of_ble_eq_true rfl) (Nat.le_of_ble_eq_true rfl) (Nat.le_of_ble_eq_true rfl) (fun b b1 b2 b3 => ?_)
  have hb := b3 _ _ (wup_of (wup_s _ _ _) (show sz + 1 ≠ o by omega))
  have hb : sz + 2 = b := by omega
  subst hb
  refine pf_X7_16 rfl rfl dX7_init_28 (wup_of (wup_s _ _ _) (by omega)) rfl rfl (Nat.le_of_ble_eq_true rfl) ?_
  dsimp only [f0_X7, List.set]
  refine j_aload_n dX7_init_31 rfl ?_
  refine j_bipush dX7_init_32 (by decide) ?_
  refine j_newC (N := 60) dX7_init_34 rfl ⟨by omega, by omega⟩ (Nat.le_of_ble_eq_true rfl) (Nat.le_of_ble_eq_true rfl) (Nat.le_of_ble_eq_true rfl) (fun b b1 b2 b3 => ?_)
  have hb := b3 _ _ (wup_of (wup_s _ _ _) (show sz + 2 ≠ o by omega))
  have hb : sz + 3 = b := by omega
  subst hb
  refine pf_X7_19 rfl rfl dX7_init_36 (wup_of (wup_s _ _ _) (by omega)) rfl rfl (Nat.le_of_ble_eq_true rfl) ?_
  dsimp only [f0_X7, List.set]
  refine j_aload_n dX7_init_39 rfl ?_
  refine j_bipush dX7_init_40 (by decide) ?_
  refine j_newI (N := 16) dX7_init_42 rfl ⟨by omega, by omega⟩ (Nat.le_of_ble_eq_true rfl) (Nat.le_of_ble_eq_true rfl) (Nat.le_of_ble_eq_true rfl) (fun b b1 b2 b3 => ?_)
  have hb := b3 _ _ (wup_of (wup_s _ _ _) (show sz + 3 ≠ o by omega))
  have hb : sz + 4 = b := by omega
  subst hb
  refine pf_X7_23 rfl rfl dX7_init_44 (wup_of (wup_s _ _ _) (by omega)) rfl rfl (Nat.le_of_ble_eq_true rfl) ?_
  dsimp only [f0_X7, List.set]
  refine j_aload_n dX7_init_47 rfl ?_
  refine j_bipush dX7_init_48 (by decide) ?_
  refine j_newI (N := 72) dX7_init_50 rfl ⟨by omega, by omega⟩ (Nat.le_of_ble_eq_true rfl) (Nat.le_of_ble_eq_true rfl) (Nat.le_of_ble_eq_true rfl) (fun b b1 b2 b3 => ?_)
  have hb := b3 _ _ (wup_of (wup_s _ _ _) (show sz + 4 ≠ o by omega))
  have hb : sz + 5 = b := by omega
  subst hb
  refine pf_X7_26 rfl rfl dX7_init_52 (wup_of (wup_s _ _ _) (by omega)) rfl rfl (Nat.le_of_ble_eq_true rfl) ?_
  dsimp only [f0_X7, List.set]
  refine j_aload_n dX7_init_55 rfl ?_
  refine j_bipush dX7_init_56 (by decide) ?_
  refine j_newI (N := 64) dX7_init_58 rfl ⟨by omega, by omega⟩ (Nat.le_of_ble_eq_true rfl) (Nat.le_of_ble_eq_true rfl) (Nat.le_of_ble_eq_true rfl) (fun b b1 b2 b3 => ?_)
  have hb := b3 _ _ (wup_of (wup_s _ _ _) (show sz + 5 ≠ o by omega))
  have hb : sz + 6 = b := by omega
  subst hb
  refine pf_X7_29 rfl rfl dX7_init_60 (wup_of (wup_s _ _ _) (by omega)) rfl rfl (Nat.le_of_ble_eq_true rfl) ?_
  dsimp only [f0_X7, List.set]
  refine j_aload_n dX7_init_63 rfl ?_
  refine j_bipush dX7_init_64 (by decide) ?_
  refine j_newI (N := 21) dX7_init_66 rfl ⟨by omega, by omega⟩ (Nat.le_of_ble_eq_true rfl) (Nat.le_of_ble_eq_true rfl) (Nat.le_of_ble_eq_true rfl) (fun b b1 b2 b3 => ?_)
  have hb := b3 _ _ (wup_of (wup_s _ _ _) (show sz + 6 ≠ o by omega))
  have hb : sz + 7 = b := by omega
  subst hb
  refine pf_X7_32 rfl rfl dX7_init_68 (wup_of (wup_s _ _ _) (by omega)) rfl rfl (Nat.le_of_ble_eq_true rfl) ?_
  dsimp only [f0_X7, List.set]
  refine j_aload_n dX7_init_71 rfl ?_
  refine j_bipush dX7_init_72 (by decide) ?_
  refine j_newZ (N := 21) dX7_init_74 rfl ⟨by omega, by omega⟩ (Nat.le_of_ble_eq_true rfl) (Nat.le_of_ble_eq_true rfl) (Nat.le_of_ble_eq_true rfl) (fun b b1 b2 b3 => ?_)
  have hb := b3 _ _ (wup_of (wup_s _ _ _) (show sz + 7 ≠ o by omega))
  have hb : sz + 8 = b := by omega
  subst hb
  refine pf_X7_35 rfl rfl dX7_init_76 (wup_of (wup_s _ _ _) (by omega)) rfl rfl (Nat.le_of_ble_eq_true rfl) ?_
  dsimp only [f0_X7, List.set]
  refine j_aload_n dX7_init_79 rfl ?_
  refine gf_X7_7 rfl dX7_init_80 (wup_s _ _ _) rfl ?_
  refine j_iconst dX7_init_83 ?_
  refine j_bipush dX7_init_84 (by decide) ?_
  refine j_iast dX7_init_86 (f := fun _ => 0) (N := 341) (by rw [wup_n (by omega), wup_n (by omega), wup_n (by omega), wup_n (by omega), wup_n (by omega), wup_n (by omega), wup_n (by omega), wup_n (by omega), wup_n (by omega), wup_n (by omega), wup_n (by omega), wup_n (by omega), wup_n (by omega), wup_n (by omega), wup_n (by omega), wup_n (by omega), wup_n (by omega), wup_s]) (by omega) (by omega) ⟨by omega, by omega⟩ ?_
  refine j_vret dX7_init_87 ⟨rfl, (fun q q1 q2 => by rw [wup_n (by omega), wup_n (by omega), wup_n (by omega), wup_n (by omega), wup_n (by omega), wup_n (by omega), wup_n (by omega), wup_n (by omega), wup_n (by omega), wup_n (by omega), wup_n (by omega), wup_n (by omega), wup_n (by omega), wup_n (by omega), wup_n (by omega), wup_n (by omega), wup_n (by omega), wup_n (by omega), wup_n (by omega)]), ⟨_, by rw [wup_n (by omega), wup_n (by omega), wup_s]⟩, fun hso => ?_⟩
  subst hso
  refine ⟨0, 0, fup (fun _ => 0) 0 101, fun _ => 0, fun _ => 0, fun _ => 0, fun _ => 0, fun _ => 0, fun _ => 0, fun _ => 0, ⟨(wup_n (by omega)).trans (wup_s _ _ _), ⟨_, wup_s _ _ _, fun _ _ => rfl⟩, ⟨_, by rw [wup_n (by omega), wup_n (by omega), wup_n (by omega), wup_n (by omega), wup_n (by omega), wup_n (by omega), wup_n (by omega), wup_n (by omega), wup_n (by omega), wup_n (by omega), wup_n (by omega), wup_n (by omega), wup_n (by omega), wup_n (by omega), wup_n (by omega), wup_n (by omega), wup_s], fun _ _ => rfl⟩, ⟨_, by rw [wup_n (by omega), wup_n (by omega), wup_n (by omega), wup_n (by omega), wup_n (by omega), wup_n (by omega), wup_n (by omega), wup_n (by omega), wup_n (by omega), wup_n (by omega), wup_n (by omega), wup_n (by omega), wup_n (by omega), wup_n (by omega), wup_s], fun _ _ => rfl⟩, ⟨_, by rw [wup_n (by omega), wup_n (by omega), wup_n (by omega), wup_n (by omega), wup_n (by omega), wup_n (by omega), wup_n (by omega), wup_n (by omega), wup_n (by omega), wup_n (by omega), wup_n (by omega), wup_n (by omega), wup_s], fun _ _ => rfl⟩, ⟨_, by rw [wup_n (by omega), wup_n (by omega), wup_n (by omega), wup_n (by omega), wup_n (by omega), wup_n (by omega), wup_n (by omega), wup_n (by omega), wup_n (by omega), wup_n (by omega), wup_s], fun _ _ => rfl⟩, ⟨_, by rw [wup_n (by omega), wup_n (by omega), wup_n (by omega), wup_n (by omega), wup_n (by omega), wup_n (by omega), wup_n (by omega), wup_n (by omega), wup_s], fun _ _ => rfl⟩, ⟨_, by rw [wup_n (by omega), wup_n (by omega), wup_n (by omega), wup_n (by omega), wup_n (by omega), wup_n (by omega), wup_s], fun _ _ => rfl⟩, ⟨_, by rw [wup_n (by omega), wup_n (by omega), wup_n (by omega), wup_n (by omega), wup_s], fun _ _ => rfl⟩, ⟨_, by rw [wup_n (by omega), wup_n (by omega), wup_s], fun _ _ => rfl⟩⟩, RO_new rfl (fun k hk => fup_n (by omega)), fun j hj => absurd hj (by omega), fun q => absurd q (by omega), by omega, by omega, fun j hj => absurd hj (by omega)⟩

/-! ===== contracts: leaf methods of the class ===== -/
set_option maxRecDepth 100000 in
set_option maxHeartbeats 4000000 in
theorem c_X6_isPrime {l : Launch} {D : gD} {σ : Wd} {v : Int} (hv : R32 v) : KX6_isPrime l D [vi v] σ (fun r σ' => r = (if primeB v = true then 1 else 0) ∧ σ' = σ) := by
  obtain ⟨hv1, hv2⟩ := hv
  refine sp_of (by decide +kernel) (cat1 rfl) (Nat.le_of_ble_eq_true rfl) [some (vi v), none] rfl (fun sz => ?_)
  refine j_iload_n dX6_isPrime_0 rfl ?_
  refine j_iconst dX6_isPrime_1 ?_
  refine j_icmp_lt (tgt := 12) dX6_isPrime_2 (by decide) ⟨by omega, by omega⟩ ⟨by omega, by omega⟩ (fun h2 => ?_) (fun h2 => ?_)
  · skip
    refine j_iconst dX6_isPrime_12 ?_
    exact j_zret dX6_isPrime_13 (by omega) ⟨_, rfl, ⟨by rw [if_neg]; intro q; have := primeB_lo q; omega, rfl⟩⟩
  · skip
    refine j_iload_n dX6_isPrime_5 rfl ?_
    refine j_sipush dX6_isPrime_6 (by decide) ?_
    refine j_icmp_le (tgt := 14) dX6_isPrime_9 (by decide) ⟨by omega, by omega⟩ ⟨by omega, by omega⟩ (fun h9 => ?_) (fun h9 => ?_)
    · skip
      refine j_iconst dX6_isPrime_14 ?_
      refine j_istore_n dX6_isPrime_15 (by decide) (by dsimp only [List.set] <;> rfl) ?_
      have lp16 : ∀ (nn : Nat) (d : Int), 2 ≤ v → v ≤ 251 → 2 ≤ d → d ≤ 16 → 17 - d < nn → (∀ q : Int, 2 ≤ q → q < d → v % q ≠ 0) → J l D yX6_isPrime cX6_isPrime 2 (some .boolean) rmX6_isPrime sz (AA σ sz) (QI D σ sz (fun r σ' => r = (if primeB v = true then 1 else 0) ∧ σ' = σ)) 0 0 16 [some (vi v), some (vi d)] [] σ := by
        intro nn
        induction nn with
        | zero =>
          intro d hv3 hv4 hd1 hd2 hnn hq
          exact absurd (by assumption) (by omega)
        | succ nn ih16 =>
          intro d hv3 hv4 hd1 hd2 hnn hq
          have hdd : d * d ≤ 256 := by
            have := Int.mul_le_mul hd2 hd2 (by omega) (by omega)
            omega
          have hdd0 : 2 * d ≤ d * d := Int.mul_le_mul_of_nonneg_right hd1 (by omega)
          have hdd1 : d = 16 → 256 ≤ d * d := by
            rintro rfl
            decide
          refine j_iload_n dX6_isPrime_16 rfl ?_
          refine j_iload_n dX6_isPrime_17 rfl ?_
          refine j_imul dX6_isPrime_18 ?_
          refine j_iload_n dX6_isPrime_19 rfl ?_
          refine j_icmp_gt (tgt := 37) dX6_isPrime_20 (by decide) ⟨by omega, by omega⟩ ⟨by omega, by omega⟩ (fun h20 => ?_) (fun h20 => ?_)
          · skip
            refine j_iconst dX6_isPrime_37 ?_
            exact j_zret dX6_isPrime_38 (by omega) ⟨_, rfl, ⟨by rw [if_pos]; exact primeB_of hv3 hv4 (fun q h1 h2 => hq q h1 (by rcases (show q < d ∨ d ≤ q by omega) with z | z; exact z; have := Int.mul_le_mul z z (by omega) (by omega); omega)), rfl⟩⟩
          · skip
            refine j_iload_n dX6_isPrime_23 rfl ?_
            refine j_iload_n dX6_isPrime_24 rfl ?_
            refine j_irem dX6_isPrime_25 ⟨by omega, by omega⟩ ⟨by omega, by omega⟩ (by omega) ?_
            refine j_if_ne (tgt := 31) dX6_isPrime_26 (by decide) (by rw [tmod_pos (by omega)]; have := emod_R (v := v) (p := d) (by omega); exact ⟨by omega, by omega⟩) (fun h26 => ?_) (fun h26 => ?_)
            · skip
              refine j_iinc dX6_isPrime_31 rfl (by decide) (by dsimp only [List.set] <;> rfl) ?_
              refine j_goto (tgt := 16) dX6_isPrime_34 (by decide) ?_
              exact ih16 (d + 1) hv3 hv4 (by omega) (by omega) (by omega) (fun q h1 h2 => by
                rcases (show q = d ∨ q < d by omega) with h3 | h3
                · rw [h3]
                  rw [tmod_pos (by omega)] at h26
                  exact h26
                · exact hq q h1 h3)
            · skip
              refine j_iconst dX6_isPrime_29 ?_
              exact j_zret dX6_isPrime_30 (by omega) ⟨_, rfl, ⟨by rw [tmod_pos (by omega)] at h26; rw [primeB_not (d := d) (by omega) (by omega) h26]; rfl, rfl⟩⟩
      exact lp16 16 2 (by omega) (by omega) (by omega) (by omega) (by omega) (fun q h1 h2 => absurd h1 (by omega))
    · skip
      refine j_iconst dX6_isPrime_12 ?_
      exact j_zret dX6_isPrime_13 (by omega) ⟨_, rfl, ⟨by rw [if_neg]; intro q; have := primeB_lo q; omega, rfl⟩⟩
set_option maxRecDepth 100000 in
set_option maxHeartbeats 4000000 in
theorem c_X6_remainder {l : Launch} {D : gD} {σ : Wd} {v p : Int} (hv : R32 v) (hp : 2 ≤ p) (hp2 : p < 2147483648) : KX6_remainder l D [vi v, vi p] σ (fun r σ' => r = v % p ∧ σ' = σ) := by
  obtain ⟨hv1, hv2⟩ := id hv
  have htm := tmod_fix (v := v) (p := p) (by omega)
  have hem := emod_R (v := v) (p := p) (by omega)
  have htr : R32 (v.tmod p) := by
    have h := tmod_bounds (a := v) (M := p) (by omega)
    exact ⟨by omega, by omega⟩
  refine sp_of (by decide +kernel) (cat1 rfl) (Nat.le_of_ble_eq_true rfl) [some (vi v), some (vi p), none] rfl (fun sz => ?_)
  refine j_iload_n dX6_remainder_0 rfl ?_
  refine j_iconst dX6_remainder_1 ?_
  refine j_icmp_ge (tgt := 7) dX6_remainder_2 (by decide) ⟨by omega, by omega⟩ ⟨by omega, by omega⟩ (fun h2 => ?_) (fun h2 => ?_)
  · skip
    refine j_iload_n dX6_remainder_7 rfl ?_
    refine j_iload_n dX6_remainder_8 rfl ?_
    refine j_irem dX6_remainder_9 hv ⟨by omega, by omega⟩ (by omega) ?_
    refine j_istore_n dX6_remainder_10 (by decide) (by dsimp only [List.set] <;> rfl) ?_
    refine j_iload_n dX6_remainder_11 rfl ?_
    refine j_if_ge (tgt := 21) dX6_remainder_12 (by decide) htr (fun h12 => ?_) (fun h12 => ?_)
    · skip
      refine j_iload_n dX6_remainder_21 rfl ?_
      exact j_iret dX6_remainder_22 ⟨_, rfl, ⟨by rw [← htm]; first | rw [if_pos (by omega)] | rw [if_neg (by omega)], rfl⟩⟩
    · skip
      refine j_iload_n dX6_remainder_15 rfl ?_
      refine j_iload_n dX6_remainder_16 rfl ?_
      refine j_iadd dX6_remainder_17 ?_
      refine j_goto (tgt := 22) dX6_remainder_18 (by decide) ?_
      exact j_iret dX6_remainder_22 ⟨_, rfl, ⟨by rw [← htm]; first | rw [if_pos (by omega)] | rw [if_neg (by omega)], rfl⟩⟩
  · skip
    refine j_iconst dX6_remainder_5 ?_
    exact j_iret dX6_remainder_6 ⟨_, rfl, ⟨by omega, rfl⟩⟩
set_option maxRecDepth 100000 in
set_option maxHeartbeats 4000000 in
theorem c_X2_tableOf {l : Launch} {D : gD} {σ : Wd} {a b : Nat} {p : Value} {f : Nat → Nat} {z : Int} (h1 : σ a = some (.inr (2, [p, .ref b]))) (h2 : QA D 3 σ b 4 f) (hz0 : 0 ≤ z) (hz1 : z < 4) : KX2_tableOf l D [.ref a, vi z] σ (fun r σ' => r = f z.toNat ∧ σ' = σ) := by
  have hand : iI z &&& iI 3 = iI z := by
    obtain ⟨n, rfl⟩ := Int.eq_ofNat_of_zero_le hz0
    exact bit_and3 n (by omega)
  refine sp_of (by decide +kernel) (cat1 rfl) (Nat.le_of_ble_eq_true rfl) [some (.ref a), some (vi z)] rfl (fun sz => ?_)
  refine j_aload_n dX2_tableOf_0 rfl ?_
  refine gf_X2_18 rfl dX2_tableOf_1 (by first | assumption | exact wup_s _ _ _ | exact wup_of (by assumption) (by omega) | exact wup_of (wup_s _ _ _) (by omega) | exact wup_of (wup_of (by assumption) (by omega)) (by omega) | exact wup_of (wup_of (wup_s _ _ _) (by omega)) (by omega) | exact wup_of (wup_of (wup_of (by assumption) (by omega)) (by omega)) (by omega)) rfl ?_
  refine j_iload_n dX2_tableOf_4 rfl ?_
  refine j_iconst dX2_tableOf_5 ?_
  refine j_iand dX2_tableOf_6 ?_
  refine j_top hand ?_
  refine jj_aaldO (t := 3) rfl dX2_tableOf_7 (by first | assumption | exact QA.up (by assumption) (by omega) | exact QA.up (QA.up (by assumption) (by omega)) (by omega)) (by omega) (by omega) ⟨by omega, by omega⟩ ?_
  exact j_aret dX2_tableOf_8 ⟨_, rfl, ⟨rfl, rfl⟩⟩
set_option maxRecDepth 100000 in
set_option maxHeartbeats 4000000 in
theorem c_X5_sizeAt {l : Launch} {D : gD} {σ : Wd} {a sA : Nat} {g : Nat → Int} {s : Int} (h1 : σ a = some (.inr (5, [.ref sA]))) (h2 : IA D σ sA 64 g) (hs : R32 s) : KX5_sizeAt l D [.ref a, vi s] σ (fun r σ' => r = (if 0 ≤ s ∧ s < 64 then g s.toNat else 0) ∧ σ' = σ) := by
  obtain ⟨hs1, hs2⟩ := hs
  refine sp_of (by decide +kernel) (cat1 rfl) (Nat.le_of_ble_eq_true rfl) [some (.ref a), some (vi s)] rfl (fun sz => ?_)
  refine j_iload_n dX5_sizeAt_0 rfl ?_
  refine j_if_lt (tgt := 19) dX5_sizeAt_1 (by decide) ⟨by omega, by omega⟩ (fun h1 => ?_) (fun h1 => ?_)
  · skip
    refine j_iconst dX5_sizeAt_19 ?_
    exact j_iret dX5_sizeAt_20 ⟨_, rfl, ⟨by first | rw [if_pos (by omega)] | rw [if_neg (by omega)], rfl⟩⟩
  · skip
    refine j_iload_n dX5_sizeAt_4 rfl ?_
    refine j_bipush dX5_sizeAt_5 (by decide) ?_
    refine j_icmp_ge (tgt := 19) dX5_sizeAt_7 (by decide) ⟨by omega, by omega⟩ ⟨by omega, by omega⟩ (fun h7 => ?_) (fun h7 => ?_)
    · skip
      refine j_iconst dX5_sizeAt_19 ?_
      exact j_iret dX5_sizeAt_20 ⟨_, rfl, ⟨by first | rw [if_pos (by omega)] | rw [if_neg (by omega)], rfl⟩⟩
    · skip
      refine j_aload_n dX5_sizeAt_10 rfl ?_
      refine gf_X5_9 rfl dX5_sizeAt_11 (by first | assumption | exact wup_s _ _ _ | exact wup_of (by assumption) (by omega) | exact wup_of (wup_s _ _ _) (by omega) | exact wup_of (wup_of (by assumption) (by omega)) (by omega) | exact wup_of (wup_of (wup_s _ _ _) (by omega)) (by omega) | exact wup_of (wup_of (wup_of (by assumption) (by omega)) (by omega)) (by omega)) rfl ?_
      refine j_iload_n dX5_sizeAt_14 rfl ?_
      refine jj_iald dX5_sizeAt_15 (by first | assumption | exact IA.up (by assumption) (by omega) | exact IA.up (IA.up (by assumption) (by omega)) (by omega)) (by omega) (by omega) ⟨by omega, by omega⟩ ?_
      refine j_goto (tgt := 20) dX5_sizeAt_16 (by decide) ?_
      exact j_iret dX5_sizeAt_20 ⟨_, rfl, ⟨by first | rw [if_pos (by omega)] | rw [if_neg (by omega)], rfl⟩⟩
set_option maxRecDepth 100000 in
set_option maxHeartbeats 4000000 in
theorem c_X5_putSize {l : Launch} {D : gD} {σ : Wd} {a sA : Nat} {g : Nat → Int} {s v : Int} (h1 : σ a = some (.inr (5, [.ref sA]))) (h2 : IA D σ sA 64 g) (hs : R32 s) : KX5_putSize l D [.ref a, vi s, vi v] σ (fun σ' => Off [sA] σ σ' ∧ IA D σ' sA 64 (if 0 ≤ s ∧ s < 64 then fup g s.toNat v else g)) := by
  obtain ⟨hs1, hs2⟩ := hs
  refine sp_of (by decide +kernel) (cat1 rfl) (Nat.le_of_ble_eq_true rfl) [some (.ref a), some (vi s), some (vi v)] rfl (fun sz => ?_)
  refine j_iload_n dX5_putSize_0 rfl ?_
  refine j_if_lt (tgt := 17) dX5_putSize_1 (by decide) ⟨by omega, by omega⟩ (fun h1 => ?_) (fun h1 => ?_)
  · skip
    exact j_vret dX5_putSize_17 ⟨rfl, ⟨by first | exact Off.rf | exact wup_off (by simp), by first | (rw [if_pos (by omega)]; assumption) | (rw [if_neg (by omega)]; assumption)⟩⟩
  · skip
    refine j_iload_n dX5_putSize_4 rfl ?_
    refine j_bipush dX5_putSize_5 (by decide) ?_
    refine j_icmp_ge (tgt := 17) dX5_putSize_7 (by decide) ⟨by omega, by omega⟩ ⟨by omega, by omega⟩ (fun h7 => ?_) (fun h7 => ?_)
    · skip
      exact j_vret dX5_putSize_17 ⟨rfl, ⟨by first | exact Off.rf | exact wup_off (by simp), by first | (rw [if_pos (by omega)]; assumption) | (rw [if_neg (by omega)]; assumption)⟩⟩
    · skip
      refine j_aload_n dX5_putSize_10 rfl ?_
      refine gf_X5_9 rfl dX5_putSize_11 (by first | assumption | exact wup_s _ _ _ | exact wup_of (by assumption) (by omega) | exact wup_of (wup_s _ _ _) (by omega) | exact wup_of (wup_of (by assumption) (by omega)) (by omega) | exact wup_of (wup_of (wup_s _ _ _) (by omega)) (by omega) | exact wup_of (wup_of (wup_of (by assumption) (by omega)) (by omega)) (by omega)) rfl ?_
      refine j_iload_n dX5_putSize_14 rfl ?_
      refine j_iload_n dX5_putSize_15 rfl ?_
      refine jj_iast dX5_putSize_16 (by first | assumption | exact IA.up (by assumption) (by omega) | exact IA.up (IA.up (by assumption) (by omega)) (by omega)) (by omega) (by omega) ⟨by omega, by omega⟩ (fun e16 q16 => ?_)
      exact j_vret dX5_putSize_17 ⟨rfl, ⟨by first | exact Off.rf | exact wup_off (by simp), by first | (rw [if_pos (by omega)]; assumption) | (rw [if_neg (by omega)]; assumption)⟩⟩

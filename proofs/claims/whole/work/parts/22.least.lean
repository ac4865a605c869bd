/-! ===== contracts: the least tree ===== -/
def TS (D : gD) (w : Wd) (o : Nat) (g : Nat → Int) : Prop := w (o + 124) = some (.inr (5, [.ref (o + 125)])) ∧ IA D w (o + 125) 64 g
def whl (p : Int) (F : Nat → Int) (k s : Nat) : Int := lcost (2 ^ k : Nat) (rk p F s (2 ^ k))
/-- the cost of the least tree of a block -/
def best (p : Int) (F : Nat → Int) : Nat → Nat → Int
  | 0, s => whl p F 0 s
  | k + 1, s => if sumF (fun q => best p F k (s + q * 4 ^ k)) 4 < whl p F (k + 1) s then sumF (fun q => best p F k (s + q * 4 ^ k)) 4 else whl p F (k + 1) s
/-- its sizes -/
def lv (p : Int) (F : Nat → Int) : Nat → Nat → Int
  | 0, _ => 1
  | k + 1, j => if sumF (fun q => best p F k (j / 4 ^ (k + 1) * 4 ^ (k + 1) + q * 4 ^ k)) 4 < whl p F (k + 1) (j / 4 ^ (k + 1) * 4 ^ (k + 1)) then lv p F k j else if j = j / 4 ^ (k + 1) * 4 ^ (k + 1) then (2 ^ (k + 1) : Nat) else 0
theorem lvl_tab : ∀ k : Nat, k < 3 → 2 ^ (k + 1) * 2 ^ (k + 1) = 4 * 4 ^ k ∧ 4 ^ (k + 1) = 4 * 4 ^ k ∧ (64 / (4 * 4 ^ k)) * (4 * 4 ^ k) = 64 ∧ 2 ^ (k + 1) ≤ 8 ∧ 2 ≤ 2 ^ (k + 1) ∧ 1 ≤ 4 ^ k := by decide +kernel
theorem whl_R {p : Int} {F : Nat → Int} {k s : Nat} (hk : k < 4) : 0 ≤ whl p F k s ∧ whl p F k s ≤ 64 := by
  unfold whl
  have h : (2 ^ k : Nat) ≤ 8 ∧ 1 ≤ (2 ^ k : Nat) := by
    rcases (show k = 0 ∨ k = 1 ∨ k = 2 ∨ k = 3 by omega) with q | q | q | q <;> subst q <;> decide
  generalize 2 ^ k = z at *
  exact lcost_R (by omega) (by omega) (by omega)
theorem best_R {p : Int} {F : Nat → Int} : ∀ {k s : Nat}, k < 4 → 0 ≤ best p F k s ∧ best p F k s ≤ 64
  | 0, s, hk => whl_R hk
  | k + 1, s, hk => by
    have h := whl_R (p := p) (F := F) (s := s) hk
    have h2 := sumF_R (f := fun q => best p F k (s + q * 4 ^ k)) (b := 64) (n := 4) (fun j _ => best_R (by omega))
    show 0 ≤ (if _ < _ then _ else _) ∧ (if _ < _ then _ else _) ≤ 64
    split <;> omega
theorem mul_next {i W m : Nat} (h : i * W < m * W) : i * W + W ≤ m * W := by
  have h1 : i < m := Nat.lt_of_mul_lt_mul_right h
  have h2 := Nat.mul_le_mul_right W (show i + 1 ≤ m by omega)
  rw [Nat.succ_mul] at h2
  exact h2
theorem blk_of {i W j : Nat} (h1 : i * W ≤ j) (h2 : j < i * W + W) : j / W * W = i * W := by
  have hW : 0 < W := by omega
  have h3 : j / W = i := by
    apply Nat.div_eq_of_lt_le
    · exact h1
    · rw [Nat.succ_mul]
      exact h2
  rw [h3]
theorem lv_in {p : Int} {F : Nat → Int} {k Z i s j : Nat} (h2 : 4 ^ (k + 1) = 4 * Z) (hZ : Z = 4 ^ k) (hs : s = i * (4 * Z)) (h0 : s ≤ j) (h1 : j < s + 4 * Z) : lv p F (k + 1) j = if sumF (fun q => best p F k (s + q * Z)) 4 < whl p F (k + 1) s then lv p F k j else if j = s then (2 ^ (k + 1) : Nat) else 0 := by
  have e : j / 4 ^ (k + 1) * 4 ^ (k + 1) = s := by
    rw [h2, hs]
    exact blk_of (by omega) (by omega)
  show (if sumF (fun q => best p F k (j / 4 ^ (k + 1) * 4 ^ (k + 1) + q * 4 ^ k)) 4 < whl p F (k + 1) (j / 4 ^ (k + 1) * 4 ^ (k + 1)) then lv p F k j else if j = j / 4 ^ (k + 1) * 4 ^ (k + 1) then ((2 ^ (k + 1) : Nat) : Int) else 0) = _
  rw [e, hZ]
theorem mul_eq {i i2 W : Nat} (h0 : i * W < i2 * W) : i * W + W ≤ i2 * W := mul_next h0
theorem sumF4 (f : Nat → Int) : sumF f 4 = f 0 + f 1 + f 2 + f 3 := by
  show 0 + f 0 + f 1 + f 2 + f 3 = _
  omega

set_option maxRecDepth 100000 in
set_option maxHeartbeats 4000000 in
theorem c_X6_leastCostOfQuarters {l : Launch} {D : gD} {σ : Wd} {o s z : Nat} {hs : Int} {c : Nat → Int} (h1 : OA σ o hs) (h2 : IA D σ (o + 126) 64 c) (hc : ∀ j, j < 64 → 0 ≤ c j ∧ c j ≤ 64) (hs8 : s + z * z ≤ 64) (hz : z ≤ 8) (hz2 : 2 ≤ z) : KX6_leastCostOfQuarters l D [.ref o, vi s, vi z] σ (fun x σ' => x = sumF (fun q => c (s + q * (z * z / 4))) 4 ∧ σ' = σ) := by
  have hzz : ((z : Int) * z / 4) = ((z * z / 4 : Nat) : Int) := by
    rw [show ((z : Int) * z) = ((z * z : Nat) : Int) from rfl]; rfl
  have hz4 : 4 ≤ z * z := Nat.mul_le_mul hz2 hz2
  refine sp_of (by decide +kernel) (cat1 rfl) (Nat.le_of_ble_eq_true rfl) [some (.ref o), some (vi s), some (vi z), none, none, none] rfl (fun sz => ?_)
  refine j_iconst dX6_leastCostOfQuarters_0 ?_
  refine j_istore_n dX6_leastCostOfQuarters_1 (by decide) (by dsimp only [List.set] <;> rfl) ?_
  refine j_iconst dX6_leastCostOfQuarters_2 ?_
  refine j_istore dX6_leastCostOfQuarters_3 (by decide) (by dsimp only [List.set] <;> rfl) ?_
  have lp5 : ∀ (nn q : Nat) (x : Int), 5 - q < nn → q ≤ 4 → x = sumF (fun q => c (s + q * (z * z / 4))) q → J l D yX6_leastCostOfQuarters cX6_leastCostOfQuarters 6 (some .int) rmX6_leastCostOfQuarters sz (AA σ sz) (QI D σ sz (fun x σ' => x = sumF (fun q => c (s + q * (z * z / 4))) 4 ∧ σ' = σ)) 0 0 5 [some (.ref o), some (vi s), some (vi z), some (vi x), some (vi q), none] [] σ := by
    intro nn
    induction nn with
    | zero =>
      intro q x hnn hq hx
      exfalso
      omega
    | succ nn ih5 =>
      intro q x hnn hq hx
      have hqz : q < 4 → q * (z * z / 4) ≤ 3 * (z * z / 4) := fun h => Nat.mul_le_mul_right _ (by omega)
      have hq3 : q < 4 → s + q * (z * z / 4) < 64 := fun h => by have := hqz h; omega
      refine j_iload dX6_leastCostOfQuarters_5 rfl ?_
      refine j_iconst dX6_leastCostOfQuarters_7 ?_
      refine j_icmp_ge (tgt := 48) dX6_leastCostOfQuarters_8 (by decide) ⟨by omega, by omega⟩ ⟨by omega, by omega⟩ (fun h8 => ?_) (fun h8 => ?_)
      · skip
        refine j_iload_n dX6_leastCostOfQuarters_48 rfl ?_
        exact j_iret dX6_leastCostOfQuarters_49 ⟨_, rfl, by rw [hx, show q = 4 by omega], rfl⟩
      · skip
        refine j_iload_n dX6_leastCostOfQuarters_11 rfl ?_
        refine j_iload_n dX6_leastCostOfQuarters_12 rfl ?_
        refine j_iload dX6_leastCostOfQuarters_13 rfl ?_
        refine cl_X6_280 (As := [_, _, _]) rfl dX6_leastCostOfQuarters_15 (c_X5_startOfQuarter (z := z) (by omega) (by omega)) rfl ⟨by decide, by decide⟩ (Nat.le_of_ble_eq_true rfl) ⟨Nat.zero_le _, Nat.zero_le _⟩ (fun z15 σ15 hz15 => ?_)
        obtain ⟨hr15, hs15⟩ := hz15
        have hr15 := Eq.symm hr15
        have hs15 := Eq.symm hs15
        subst hr15
        subst hs15
        refine j_tops (show (s : Int) + q * ((z : Int) * z / 4) = ((s + q * (z * z / 4) : Nat) : Int) by rw [hzz]; push_cast; rfl) ?_
        refine j_istore dX6_leastCostOfQuarters_18 (by decide) (by dsimp only [List.set] <;> rfl) ?_
        refine j_iload dX6_leastCostOfQuarters_20 rfl ?_
        refine j_if_lt (tgt := 42) dX6_leastCostOfQuarters_22 (by decide) ⟨by omega, by omega⟩ (fun h22 => ?_) (fun h22 => ?_)
        · skip
          exact absurd h22 (by omega)
        · skip
          refine j_iload dX6_leastCostOfQuarters_25 rfl ?_
          refine j_bipush dX6_leastCostOfQuarters_27 (by decide) ?_
          refine j_icmp_ge (tgt := 42) dX6_leastCostOfQuarters_29 (by decide) ⟨by omega, by omega⟩ ⟨by omega, by omega⟩ (fun h29 => ?_) (fun h29 => ?_)
          · skip
            exact absurd h29 (by omega)
          · skip
            refine j_iload_n dX6_leastCostOfQuarters_32 rfl ?_
            refine j_aload_n dX6_leastCostOfQuarters_33 rfl ?_
            refine gf_X6_47 rfl dX6_leastCostOfQuarters_34 h1 rfl ?_
            refine j_iload dX6_leastCostOfQuarters_37 rfl ?_
            refine jj_iald dX6_leastCostOfQuarters_39 h2 (by omega) (by omega) ⟨by omega, by omega⟩ ?_
            refine j_iadd dX6_leastCostOfQuarters_40 ?_
            refine j_istore_n dX6_leastCostOfQuarters_41 (by decide) (by dsimp only [List.set] <;> rfl) ?_
            refine j_iinc dX6_leastCostOfQuarters_42 rfl (by decide) (by dsimp only [List.set] <;> rfl) ?_
            refine j_goto (tgt := 5) dX6_leastCostOfQuarters_45 (by decide) ?_
            refine j_weak (L := [some (.ref o), some (vi s), some (vi z), some (vi (x + c (s + q * (z * z / 4)))), some (vi ((q + 1 : Nat) : Int)), none]) ⟨rfl, rfl, rfl, rfl, rfl, trivial⟩ ?_
            exact ih5 (q + 1) _ (by omega) (by omega) (by rw [hx]; rfl)
  exact lp5 6 0 0 (by omega) (by omega) rfl
set_option maxRecDepth 100000 in
set_option maxHeartbeats 4000000 in
theorem c_X6_findLeastTree {l : Launch} {D : gD} {σ : Wd} {o t : Nat} {hs : Int} {S : MS} {g0 c0 : Nat → Int} (h1 : OA σ o hs) (h2 : SA D σ (o + 1) S) (h3 : EX D σ (o + 114)) (h4 : TS D σ o g0) (h5 : IA D σ (o + 126) 64 c0) (ht : t < 4) (hp : primeB S.1 = true) (hF : CB S.1 (S.2.1 t)) : KX6_findLeastTree l D [.ref o, .ref (o + 1 + 2 + 4 * t)] σ (fun x σ' => x = best S.1 (S.2.1 t) 3 0 ∧ OffR (o + 114) (o + 127) σ σ' ∧ EX D σ' (o + 114) ∧ TS D σ' o (lv S.1 (S.2.1 t) 3) ∧ ∃ c, IA D σ' (o + 126) 64 c) := by
  refine sp_of (by decide +kernel) (cat1 rfl) (Nat.le_of_ble_eq_true rfl) [some (.ref o), some (.ref (o + 1 + 2 + 4 * t)), none, none, none, none] rfl (fun sz => ?_)
  refine j_iconst dX6_findLeastTree_0 ?_
  refine j_istore_n dX6_findLeastTree_1 (by decide) (by dsimp only [List.set] <;> rfl) ?_
  have lp2 : ∀ (nn kk : Nat) (w : Wd) (lc : Nat → Int) (z : Nat), 4 - kk < nn → kk ≤ 3 → z = 2 ^ (kk + 1) → OffR (o + 114) (o + 127) σ w → EX D w (o + 114) → TS D w o (lv S.1 (S.2.1 t) kk) → IA D w (o + 126) 64 lc → (∀ j, j < 64 → 0 ≤ lc j ∧ lc j ≤ 64) → (∀ i, i * 4 ^ kk < 64 → lc (i * 4 ^ kk) = best S.1 (S.2.1 t) kk (i * 4 ^ kk)) → J l D yX6_findLeastTree cX6_findLeastTree 6 (some .int) rmX6_findLeastTree sz (AA σ sz) (QI D σ sz (fun x σ' => x = best S.1 (S.2.1 t) 3 0 ∧ OffR (o + 114) (o + 127) σ σ' ∧ EX D σ' (o + 114) ∧ TS D σ' o (lv S.1 (S.2.1 t) 3) ∧ ∃ c, IA D σ' (o + 126) 64 c)) 0 0 2 [some (.ref o), some (.ref (o + 1 + 2 + 4 * t)), some (vi z), none, none, none] [] w := by
    intro nn
    induction nn with
    | zero =>
      intro kk w lc z hnn hkk hz ho hw3 hw4 hw5 hlcR hlc
      exfalso
      omega
    | succ nn ih2 =>
      intro kk w lc z hnn hkk hz ho hw3 hw4 hw5 hlcR hlc
      have hw1 : OA w o hs := ho.get h1 (by omega)
      have hzr : R32 ((2 ^ (kk + 1) : Nat) : Int) := by
        rcases (show kk = 0 ∨ kk = 1 ∨ kk = 2 ∨ kk = 3 by omega) with q | q | q | q <;> subst q <;> exact rs (by decide) (by decide)
      refine j_iload_n dX6_findLeastTree_2 rfl ?_
      refine j_bipush dX6_findLeastTree_3 (by decide) ?_
      refine j_icmp_gt (tgt := 92) dX6_findLeastTree_5 (by decide) (by rw [hz]; exact hzr) ⟨by omega, by omega⟩ (fun h5b => ?_) (fun h5b => ?_)
      · skip
        have hk3 : kk = 3 := by
          rcases (show kk < 3 ∨ kk = 3 by omega) with q | q
          · have := (lvl_tab kk q).2.2.2.1
            rw [hz] at h5b
            omega
          · exact q
        refine j_aload_n dX6_findLeastTree_92 rfl ?_
        refine gf_X6_47 rfl dX6_findLeastTree_93 hw1 rfl ?_
        refine j_iconst dX6_findLeastTree_96 ?_
        refine jj_iald dX6_findLeastTree_97 hw5 (by omega) (by omega) ⟨by omega, by omega⟩ ?_
        exact j_iret dX6_findLeastTree_98 ⟨_, rfl, by rw [show (0 : Int).toNat = 0 * 4 ^ kk by rw [Nat.zero_mul]; rfl, hlc 0 (by omega), hk3, Nat.zero_mul], ho, hw3, by rw [← hk3]; exact hw4, lc, hw5⟩
      · skip
        have hk3 : kk < 3 := by
          rcases (show kk < 3 ∨ kk = 3 by omega) with q | q
          · exact q
          · rw [hz, q] at h5b
            exact absurd h5b (by decide)
        obtain ⟨t1, t2, t3, t4, t5, t6⟩ := lvl_tab kk hk3
        rw [← hz] at t1 t4 t5
        obtain ⟨Z, hZ⟩ : ∃ Z, Z = 4 ^ kk := ⟨_, rfl⟩
        rw [← hZ] at t1 t2 t3 t6
        obtain ⟨m, hm⟩ : ∃ m, m = 64 / (4 * Z) := ⟨_, rfl⟩
        rw [← hm] at t3
        refine j_iconst dX6_findLeastTree_8 ?_
        refine j_istore_n dX6_findLeastTree_9 (by decide) (by dsimp only [List.set] <;> rfl) ?_
        have lp10 : ∀ (nn2 i s : Nat) (v : Wd) (lc2 : Nat → Int), 65 - s < nn2 → s = i * (4 * Z) → s ≤ 64 → OffR (o + 114) (o + 127) σ v → EX D v (o + 114) → TS D v o (fun j => if j < s then lv S.1 (S.2.1 t) (kk + 1) j else lv S.1 (S.2.1 t) kk j) → IA D v (o + 126) 64 lc2 → (∀ j, j < 64 → 0 ≤ lc2 j ∧ lc2 j ≤ 64) → (∀ i2, i2 * (4 * Z) < s → lc2 (i2 * (4 * Z)) = best S.1 (S.2.1 t) (kk + 1) (i2 * (4 * Z))) → (∀ i2, s ≤ i2 * Z → i2 * Z < 64 → lc2 (i2 * Z) = best S.1 (S.2.1 t) kk (i2 * Z)) → J l D yX6_findLeastTree cX6_findLeastTree 6 (some .int) rmX6_findLeastTree sz (AA σ sz) (QI D σ sz (fun x σ' => x = best S.1 (S.2.1 t) 3 0 ∧ OffR (o + 114) (o + 127) σ σ' ∧ EX D σ' (o + 114) ∧ TS D σ' o (lv S.1 (S.2.1 t) 3) ∧ ∃ c, IA D σ' (o + 126) 64 c)) 0 0 10 [some (.ref o), some (.ref (o + 1 + 2 + 4 * t)), some (vi z), some (vi s), none, none] [] v := by
          intro nn
          induction nn with
          | zero =>
            intro i s v lc2 hnn2 hsi hs64 hov hv3 hv4 hv5 hlcR hl1 hl2
            exfalso
            omega
          | succ nn ih10 =>
            intro i s v lc2 hnn2 hsi hs64 hov hv3 hv4 hv5 hlcR hl1 hl2
            have hv1 : OA v o hs := hov.get h1 (by omega)
            have hv2 := h2.moved hov (by omega)
            have hsW : s < 64 → s + 4 * Z ≤ 64 := fun h => by
              have := mul_next (i := i) (W := 4 * Z) (m := m) (by omega)
              omega
            have hbk : s < 64 → okBlk s z := fun h => by
              rw [hz]
              refine okBlk_of (by omega) h ?_
              rw [← hz, t1, hsi]
              exact Nat.mul_mod_left _ _
            have hap : s < 64 → ∀ q, q < 4 → lc2 (s + q * Z) = best S.1 (S.2.1 t) kk (s + q * Z) := fun h q hq => by
              have e1 : s + q * Z = (4 * i + q) * Z := by rw [hsi, Nat.add_mul, Nat.mul_comm 4 i, Nat.mul_assoc]
              have e2 : q * Z ≤ 3 * Z := Nat.mul_le_mul_right _ (by omega)
              have e3 := hsW h
              rw [e1]
              exact hl2 _ (by omega) (by omega)
            have hwh := whl_R (p := S.1) (F := S.2.1 t) (k := kk + 1) (s := s) (by omega)
            refine j_iload_n dX6_findLeastTree_10 rfl ?_
            refine j_bipush dX6_findLeastTree_11 (by decide) ?_
            refine j_icmp_ge (tgt := 85) dX6_findLeastTree_13 (by decide) ⟨by omega, by omega⟩ ⟨by omega, by omega⟩ (fun h13 => ?_) (fun h13 => ?_)
            · skip
              refine j_iload_n dX6_findLeastTree_85 rfl ?_
              refine j_iconst dX6_findLeastTree_86 ?_
              refine j_imul dX6_findLeastTree_87 ?_
              refine j_istore_n dX6_findLeastTree_88 (by decide) (by dsimp only [List.set] <;> rfl) ?_
              refine j_goto (tgt := 2) dX6_findLeastTree_89 (by decide) ?_
              refine j_weak (L := [some (.ref o), some (.ref (o + 1 + 2 + 4 * t)), some (vi ((2 ^ (kk + 1 + 1) : Nat) : Int)), none, none, none]) ⟨rfl, rfl, by rw [hz, show ((2 ^ (kk + 1) : Nat) : Int) * 2 = ((2 ^ (kk + 1 + 1) : Nat) : Int) by rw [Nat.pow_succ 2 (kk + 1)]; push_cast; rfl], trivial⟩ ?_
              refine ih2 (kk + 1) v lc2 _ (by omega) (by omega) rfl hov hv3 ⟨hv4.1, hv4.2.ext (fun j hj => by rw [if_pos (by omega)])⟩ hv5 hlcR (fun i2 hi2 => ?_)
              rw [t2] at hi2 ⊢
              exact hl1 i2 (by omega)
            · skip
              refine j_iload_n dX6_findLeastTree_16 rfl ?_
              refine j_aload_n dX6_findLeastTree_17 rfl ?_
              refine j_aload_n dX6_findLeastTree_18 rfl ?_
              refine j_iload_n dX6_findLeastTree_19 rfl ?_
              refine j_iload_n dX6_findLeastTree_20 rfl ?_
              refine cl_X6_111 (As := [_, _, _]) rfl dX6_findLeastTree_21 (c_X6_blockRank hv1 hv2 hv3 ht hp hF (hbk (by omega))) hv1 rfl ⟨by decide, by decide⟩ (Nat.le_of_ble_eq_true rfl) ⟨Nat.zero_le _, Nat.zero_le _⟩ (fun z21 σ21 hz21 => ?_)
              obtain ⟨hr21, ho21, he21⟩ := hz21
              subst hr21
              have hrl := rk_le (p := S.1) (F := S.2.1 t) (s := s) (z := z)
              have hu1 : OA σ21 o hs := ho21.get hv1 (by omega)
              have hu4 : TS D σ21 o (fun j => if j < s then lv S.1 (S.2.1 t) (kk + 1) j else lv S.1 (S.2.1 t) kk j) := ⟨ho21.get hv4.1 (by omega), ho21.ia hv4.2 (by omega)⟩
              have hu5 := ho21.ia hv5 (by omega)
              have hlt : s < 64 := by omega
              have hap := hap hlt
              have hsW := hsW hlt
              refine cl_X6_224 (As := [_, _]) rfl dX6_findLeastTree_24 (c_X6_leafCost (z := z) (by omega) (by omega) (by omega) (by omega)) rfl ⟨by decide, by decide⟩ (Nat.le_of_ble_eq_true rfl) ⟨Nat.zero_le _, Nat.zero_le _⟩ (fun z24 σ24 hz24 => ?_)
              obtain ⟨hr24, hs24⟩ := hz24
              have hr24 := Eq.symm hr24
              have hs24 := Eq.symm hs24
              subst hr24
              subst hs24
              refine j_tops (show _ = whl S.1 (S.2.1 t) (kk + 1) s by unfold whl; rw [← hz]) ?_
              refine j_istore dX6_findLeastTree_27 (by decide) (by dsimp only [List.set] <;> rfl) ?_
              refine j_iload_n dX6_findLeastTree_29 rfl ?_
              refine j_iconst dX6_findLeastTree_30 ?_
              refine j_icmp_ne (tgt := 39) dX6_findLeastTree_31 (by decide) ⟨by omega, by omega⟩ ⟨by omega, by omega⟩ (fun h31 => ?_) (fun h31 => ?_)
              · skip
                refine j_aload_n dX6_findLeastTree_39 rfl ?_
                refine j_iload_n dX6_findLeastTree_40 rfl ?_
                refine j_iload_n dX6_findLeastTree_41 rfl ?_
                refine cl_X6_277 (As := [_, _]) rfl dX6_findLeastTree_42 (c_X6_leastCostOfQuarters hu1 hu5 hlcR (by omega) (by omega) (by omega)) hu1 rfl ⟨by decide, by decide⟩ (Nat.le_of_ble_eq_true rfl) ⟨Nat.zero_le _, Nat.zero_le _⟩ (fun z42 σ42 hz42 => ?_)
                obtain ⟨hr42, hs42⟩ := hz42
                have hr42 := Eq.symm hr42
                have hs42 := Eq.symm hs42
                subst hr42
                subst hs42
                refine j_tops (show _ = sumF (fun q => best S.1 (S.2.1 t) kk (s + q * Z)) 4 by rw [sumF4, sumF4]; rw [show z * z / 4 = Z by omega]; rw [hap 0 (by omega), hap 1 (by omega), hap 2 (by omega), hap 3 (by omega)]) ?_
                have hbR := sumF_R (f := fun q => best S.1 (S.2.1 t) kk (s + q * Z)) (b := 64) (n := 4) (fun j _ => best_R (by omega))
                refine j_istore dX6_findLeastTree_45 (by decide) (by dsimp only [List.set] <;> rfl) ?_
                refine j_iload dX6_findLeastTree_47 rfl ?_
                refine j_iload dX6_findLeastTree_49 rfl ?_
                refine j_icmp_gt (tgt := 63) dX6_findLeastTree_51 (by decide) (rs (by omega) (by omega)) (rs (by omega) (by omega)) (fun h51 => ?_) (fun h51 => ?_)
                · skip
                  refine j_aload_n dX6_findLeastTree_63 rfl ?_
                  refine gf_X6_47 rfl dX6_findLeastTree_64 (by first | exact hu1b | exact hu1) rfl ?_
                  refine j_iload_n dX6_findLeastTree_67 rfl ?_
                  refine j_iload dX6_findLeastTree_68 rfl ?_
                  refine j_iload dX6_findLeastTree_70 rfl ?_
                  refine j_mmin lk_X6_269 wst_min wini_math wcd_min dX6_findLeastTree_72 (rs (by omega) (by omega)) (rs (by omega) (by omega)) (by decide) (Nat.le_of_ble_eq_true rfl) ⟨Nat.zero_le _, Nat.zero_le _⟩ ?_
                  refine jj_iast dX6_findLeastTree_75 (by first | exact hu5b | exact hu5) (by omega) (by omega) ⟨by omega, by omega⟩ (fun e75 q75 => ?_)
                  refine j_iload_n dX6_findLeastTree_76 rfl ?_
                  refine j_iload_n dX6_findLeastTree_77 rfl ?_
                  refine j_iload_n dX6_findLeastTree_78 rfl ?_
                  refine j_imul dX6_findLeastTree_79 ?_
                  refine j_iadd dX6_findLeastTree_80 ?_
                  refine j_istore_n dX6_findLeastTree_81 (by decide) (by dsimp only [List.set] <;> rfl) ?_
                  refine j_goto (tgt := 10) dX6_findLeastTree_82 (by decide) ?_
                  refine j_weak (L := [some (.ref o), some (.ref (o + 1 + 2 + 4 * t)), some (vi z), some (vi ((s + 4 * Z : Nat) : Int)), none, none]) ⟨rfl, rfl, rfl, by rw [show ((s + 4 * Z : Nat) : Int) = (s : Int) + (z : Int) * (z : Int) by rw [← t1]; push_cast; rfl], trivial⟩ ?_
                  have e1 : best S.1 (S.2.1 t) (kk + 1) s = (if sumF (fun q => best S.1 (S.2.1 t) kk (s + q * Z)) 4 < whl S.1 (S.2.1 t) (kk + 1) s then sumF (fun q => best S.1 (S.2.1 t) kk (s + q * Z)) 4 else whl S.1 (S.2.1 t) (kk + 1) s) := by rw [hZ]; rfl
                  have e2 := best_R (p := S.1) (F := S.2.1 t) (k := kk + 1) (s := s) (by omega)
                  rw [← e1] at q75
                  refine ih10 (i + 1) (s + 4 * Z) _ (fup lc2 s (best S.1 (S.2.1 t) (kk + 1) s)) (by omega) (by rw [Nat.succ_mul i (4 * Z), hsi]) (by omega) (hov.tr ((ho21.mono (by omega) (by omega)).tr (wup_offR (by omega)))) (he21.moved (wup_offR (lo := o + 126) (hi := o + 127) (by omega)) (by omega)) ⟨wup_of hu4.1 (by omega), (hu4.2.up (by omega)).ext (fun j hj => by
                    by_cases a : j < s
                    · rw [if_pos a, if_pos (by omega)]
                    · rw [if_neg a]
                      by_cases b : j < s + 4 * Z
                      · rw [if_pos b, lv_in t2 hZ hsi (by omega) b, if_pos h51]
                      · rw [if_neg b])⟩ q75 (fun j hj => ?_) (fun i2 hi2 => ?_) (fun i2 hi2 hi3 => ?_)
                  · by_cases a : j = s
                    · rw [a, fup_s]
                      exact e2
                    · rw [fup_n a]
                      exact hlcR j hj
                  · by_cases a : i2 * (4 * Z) = s
                    · rw [a, fup_s]
                    · rw [fup_n a]
                      refine hl1 i2 ?_
                      rcases (show i2 * (4 * Z) < s ∨ s < i2 * (4 * Z) by omega) with q | q
                      · exact q
                      · have := mul_next (i := i) (W := 4 * Z) (m := i2) (by omega)
                        omega
                  · rw [fup_n (by omega)]
                    exact hl2 i2 (by omega) hi3
                · skip
                  refine j_aload_n dX6_findLeastTree_54 rfl ?_
                  refine gf_X6_43 rfl dX6_findLeastTree_55 hu1 rfl ?_
                  refine j_iload_n dX6_findLeastTree_58 rfl ?_
                  refine j_iload_n dX6_findLeastTree_59 rfl ?_
                  refine cl_X6_166 (As := [_, _]) rfl dX6_findLeastTree_60 (c_X5_merge hu4.1 hu4.2 (by omega) (by omega) (by omega)) hu4.1 rfl ⟨by decide, by decide⟩ (Nat.le_of_ble_eq_true rfl) ⟨Nat.zero_le _, Nat.zero_le _⟩ (fun σ60 hz60 => ?_)
                  have hu1b : OA σ60 o hs := hz60.1.get hu1 (by simp)
                  have hu5b := hz60.1.ia hu5 (by simp)
                  refine j_aload_n dX6_findLeastTree_63 rfl ?_
                  refine gf_X6_47 rfl dX6_findLeastTree_64 (by first | exact hu1b | exact hu1) rfl ?_
                  refine j_iload_n dX6_findLeastTree_67 rfl ?_
                  refine j_iload dX6_findLeastTree_68 rfl ?_
                  refine j_iload dX6_findLeastTree_70 rfl ?_
                  refine j_mmin lk_X6_269 wst_min wini_math wcd_min dX6_findLeastTree_72 (rs (by omega) (by omega)) (rs (by omega) (by omega)) (by decide) (Nat.le_of_ble_eq_true rfl) ⟨Nat.zero_le _, Nat.zero_le _⟩ ?_
                  refine jj_iast dX6_findLeastTree_75 (by first | exact hu5b | exact hu5) (by omega) (by omega) ⟨by omega, by omega⟩ (fun e75 q75 => ?_)
                  refine j_iload_n dX6_findLeastTree_76 rfl ?_
                  refine j_iload_n dX6_findLeastTree_77 rfl ?_
                  refine j_iload_n dX6_findLeastTree_78 rfl ?_
                  refine j_imul dX6_findLeastTree_79 ?_
                  refine j_iadd dX6_findLeastTree_80 ?_
                  refine j_istore_n dX6_findLeastTree_81 (by decide) (by dsimp only [List.set] <;> rfl) ?_
                  refine j_goto (tgt := 10) dX6_findLeastTree_82 (by decide) ?_
                  refine j_weak (L := [some (.ref o), some (.ref (o + 1 + 2 + 4 * t)), some (vi z), some (vi ((s + 4 * Z : Nat) : Int)), none, none]) ⟨rfl, rfl, rfl, by rw [show ((s + 4 * Z : Nat) : Int) = (s : Int) + (z : Int) * (z : Int) by rw [← t1]; push_cast; rfl], trivial⟩ ?_
                  have e1 : best S.1 (S.2.1 t) (kk + 1) s = (if sumF (fun q => best S.1 (S.2.1 t) kk (s + q * Z)) 4 < whl S.1 (S.2.1 t) (kk + 1) s then sumF (fun q => best S.1 (S.2.1 t) kk (s + q * Z)) 4 else whl S.1 (S.2.1 t) (kk + 1) s) := by rw [hZ]; rfl
                  have e2 := best_R (p := S.1) (F := S.2.1 t) (k := kk + 1) (s := s) (by omega)
                  rw [← e1] at q75
                  refine ih10 (i + 1) (s + 4 * Z) _ (fup lc2 s (best S.1 (S.2.1 t) (kk + 1) s)) (by omega) (by rw [Nat.succ_mul i (4 * Z), hsi]) (by omega) (hov.tr ((ho21.mono (by omega) (by omega)).tr ((hz60.1.toR (lo := o + 125) (hi := o + 126) (by simp)).mono (by omega) (by omega) |>.tr (wup_offR (by omega))))) ((he21.moved (hz60.1.toR (lo := o + 125) (hi := o + 126) (by simp)) (by omega)).moved (wup_offR (lo := o + 126) (hi := o + 127) (by omega)) (by omega)) ⟨wup_of (hz60.1.get hu4.1 (by simp)) (by omega), (hz60.2.up (by omega)).ext (fun j hj => by
                    rw [t1]
                    by_cases c9 : j = s
                    · rw [c9, fup_s, if_pos (by omega), lv_in t2 hZ hsi (by omega) (by omega), if_neg (by omega), if_pos rfl, ← hz]
                    · rw [fup_n c9]
                      unfold mrgF
                      by_cases a : j < s
                      · rw [if_neg (by omega)]
                        dsimp only
                        rw [if_pos a, if_pos (by omega)]
                      · by_cases b : j < s + 4 * Z
                        · rw [if_pos (by omega), if_pos b, lv_in t2 hZ hsi (by omega) b, if_neg (by omega), if_neg c9]
                        · rw [if_neg (by omega)]
                          dsimp only
                          rw [if_neg a, if_neg b])⟩ q75 (fun j hj => ?_) (fun i2 hi2 => ?_) (fun i2 hi2 hi3 => ?_)
                  · by_cases a : j = s
                    · rw [a, fup_s]
                      exact e2
                    · rw [fup_n a]
                      exact hlcR j hj
                  · by_cases a : i2 * (4 * Z) = s
                    · rw [a, fup_s]
                    · rw [fup_n a]
                      refine hl1 i2 ?_
                      rcases (show i2 * (4 * Z) < s ∨ s < i2 * (4 * Z) by omega) with q | q
                      · exact q
                      · have := mul_next (i := i) (W := 4 * Z) (m := i2) (by omega)
                        omega
                  · rw [fup_n (by omega)]
                    exact hl2 i2 (by omega) hi3
              · skip
                exact absurd h31 (by omega)
        exact lp10 66 0 0 _ lc (by omega) (by omega) (by omega) ho hw3 ⟨hw4.1, hw4.2.ext (fun j hj => by rw [if_neg (by omega)])⟩ hw5 hlcR (fun i2 hi2 => absurd hi2 (by omega)) (fun i2 _ h => by rw [hZ] at h ⊢; exact hlc i2 h)
  refine j_iload_n dX6_findLeastTree_2 rfl ?_
  refine j_bipush dX6_findLeastTree_3 (by decide) ?_
  refine j_icmp_gt (tgt := 92) dX6_findLeastTree_5 (by decide) ⟨by omega, by omega⟩ ⟨by omega, by omega⟩ (fun h5b => ?_) (fun h5b => ?_)
  · skip
    exact absurd h5b (by omega)
  · skip
    refine j_iconst dX6_findLeastTree_8 ?_
    refine j_istore_n dX6_findLeastTree_9 (by decide) (by dsimp only [List.set] <;> rfl) ?_
    have lp10 : ∀ (nn2 s : Nat) (v : Wd) (g lc2 : Nat → Int), 65 - s < nn2 → s ≤ 64 → OffR (o + 114) (o + 127) σ v → EX D v (o + 114) → TS D v o (fun j => if j < s then 1 else g j) → IA D v (o + 126) 64 lc2 → (∀ j, j < s → 0 ≤ lc2 j ∧ lc2 j ≤ 64) → (∀ j, j < s → lc2 j = best S.1 (S.2.1 t) 0 j) → J l D yX6_findLeastTree cX6_findLeastTree 6 (some .int) rmX6_findLeastTree sz (AA σ sz) (QI D σ sz (fun x σ' => x = best S.1 (S.2.1 t) 3 0 ∧ OffR (o + 114) (o + 127) σ σ' ∧ EX D σ' (o + 114) ∧ TS D σ' o (lv S.1 (S.2.1 t) 3) ∧ ∃ c, IA D σ' (o + 126) 64 c)) 0 0 10 [some (.ref o), some (.ref (o + 1 + 2 + 4 * t)), some (vi 1), some (vi s), none, none] [] v := by
      intro nn
      induction nn with
      | zero =>
        intro s v g lc2 hnn2 hs64 hov hv3 hv4 hv5 hlcR hl1
        exfalso
        omega
      | succ nn ih10 =>
        intro s v g lc2 hnn2 hs64 hov hv3 hv4 hv5 hlcR hl1
        have hv1 : OA v o hs := hov.get h1 (by omega)
        have hv2 := h2.moved hov (by omega)
        have hwh := whl_R (p := S.1) (F := S.2.1 t) (k := 0) (s := s) (by omega)
        refine j_iload_n dX6_findLeastTree_10 rfl ?_
        refine j_bipush dX6_findLeastTree_11 (by decide) ?_
        refine j_icmp_ge (tgt := 85) dX6_findLeastTree_13 (by decide) ⟨by omega, by omega⟩ ⟨by omega, by omega⟩ (fun h13 => ?_) (fun h13 => ?_)
        · skip
          refine j_iload_n dX6_findLeastTree_85 rfl ?_
          refine j_iconst dX6_findLeastTree_86 ?_
          refine j_imul dX6_findLeastTree_87 ?_
          refine j_istore_n dX6_findLeastTree_88 (by decide) (by dsimp only [List.set] <;> rfl) ?_
          refine j_goto (tgt := 2) dX6_findLeastTree_89 (by decide) ?_
          refine j_weak (L := [some (.ref o), some (.ref (o + 1 + 2 + 4 * t)), some (vi ((2 : Nat) : Int)), none, none, none]) ⟨rfl, rfl, rfl, trivial⟩ ?_
          exact lp2 5 0 v lc2 2 (by omega) (by omega) rfl hov hv3 ⟨hv4.1, hv4.2.ext (fun j hj => by rw [if_pos (by omega)]; rfl)⟩ hv5 (fun j hj => hlcR j (by omega)) (fun i2 hi2 => hl1 _ (by omega))
        · skip
          refine j_iload_n dX6_findLeastTree_16 rfl ?_
          refine j_aload_n dX6_findLeastTree_17 rfl ?_
          refine j_aload_n dX6_findLeastTree_18 rfl ?_
          refine j_iload_n dX6_findLeastTree_19 rfl ?_
          refine j_iload_n dX6_findLeastTree_20 rfl ?_
          refine cl_X6_111 (As := [_, _, _]) rfl dX6_findLeastTree_21 (c_X6_blockRank (z := 1) hv1 hv2 hv3 ht hp hF (okBlk_of (k := 0) (by omega) (by omega) (Nat.mod_one _))) hv1 rfl ⟨by decide, by decide⟩ (Nat.le_of_ble_eq_true rfl) ⟨Nat.zero_le _, Nat.zero_le _⟩ (fun z21 σ21 hz21 => ?_)
          obtain ⟨hr21, ho21, he21⟩ := hz21
          subst hr21
          have hrl := rk_le (p := S.1) (F := S.2.1 t) (s := s) (z := 1)
          have hu1 : OA σ21 o hs := ho21.get hv1 (by omega)
          have hu4 : TS D σ21 o (fun j => if j < s then 1 else g j) := ⟨ho21.get hv4.1 (by omega), ho21.ia hv4.2 (by omega)⟩
          have hu5 := ho21.ia hv5 (by omega)
          refine cl_X6_224 (As := [_, _]) rfl dX6_findLeastTree_24 (c_X6_leafCost (by omega) (by omega) (by omega) (by omega)) rfl ⟨by decide, by decide⟩ (Nat.le_of_ble_eq_true rfl) ⟨Nat.zero_le _, Nat.zero_le _⟩ (fun z24 σ24 hz24 => ?_)
          obtain ⟨hr24, hs24⟩ := hz24
          have hr24 := Eq.symm hr24
          have hs24 := Eq.symm hs24
          subst hr24
          subst hs24
          refine j_tops (show _ = whl S.1 (S.2.1 t) 0 s from rfl) ?_
          refine j_istore dX6_findLeastTree_27 (by decide) (by dsimp only [List.set] <;> rfl) ?_
          refine j_iload_n dX6_findLeastTree_29 rfl ?_
          refine j_iconst dX6_findLeastTree_30 ?_
          refine j_icmp_ne (tgt := 39) dX6_findLeastTree_31 (by decide) ⟨by omega, by omega⟩ ⟨by omega, by omega⟩ (fun h31 => ?_) (fun h31 => ?_)
          · skip
            exact absurd h31 (by omega)
          · skip
            refine j_iload dX6_findLeastTree_34 rfl ?_
            refine j_goto (tgt := 45) dX6_findLeastTree_36 (by decide) ?_
            refine j_istore dX6_findLeastTree_45 (by decide) (by dsimp only [List.set] <;> rfl) ?_
            refine j_iload dX6_findLeastTree_47 rfl ?_
            refine j_iload dX6_findLeastTree_49 rfl ?_
            refine j_icmp_gt (tgt := 63) dX6_findLeastTree_51 (by decide) (rs (by omega) (by omega)) (rs (by omega) (by omega)) (fun h51 => ?_) (fun h51 => ?_)
            · skip
              exact absurd h51 (by omega)
            · skip
              refine j_aload_n dX6_findLeastTree_54 rfl ?_
              refine gf_X6_43 rfl dX6_findLeastTree_55 hu1 rfl ?_
              refine j_iload_n dX6_findLeastTree_58 rfl ?_
              refine j_iload_n dX6_findLeastTree_59 rfl ?_
              refine cl_X6_166 (As := [_, _]) rfl dX6_findLeastTree_60 (c_X5_merge (z := 1) hu4.1 hu4.2 (by omega) (by omega) (by omega)) hu4.1 rfl ⟨by decide, by decide⟩ (Nat.le_of_ble_eq_true rfl) ⟨Nat.zero_le _, Nat.zero_le _⟩ (fun σ60 hz60 => ?_)
              have hu1b : OA σ60 o hs := hz60.1.get hu1 (by simp)
              have hu5b := hz60.1.ia hu5 (by simp)
              refine j_aload_n dX6_findLeastTree_63 rfl ?_
              refine gf_X6_47 rfl dX6_findLeastTree_64 (by first | exact hu1b | exact hu1) rfl ?_
              refine j_iload_n dX6_findLeastTree_67 rfl ?_
              refine j_iload dX6_findLeastTree_68 rfl ?_
              refine j_iload dX6_findLeastTree_70 rfl ?_
              refine j_mmin lk_X6_269 wst_min wini_math wcd_min dX6_findLeastTree_72 (rs (by omega) (by omega)) (rs (by omega) (by omega)) (by decide) (Nat.le_of_ble_eq_true rfl) ⟨Nat.zero_le _, Nat.zero_le _⟩ ?_
              refine jj_iast dX6_findLeastTree_75 (by first | exact hu5b | exact hu5) (by omega) (by omega) ⟨by omega, by omega⟩ (fun e75 q75 => ?_)
              refine j_iload_n dX6_findLeastTree_76 rfl ?_
              refine j_iload_n dX6_findLeastTree_77 rfl ?_
              refine j_iload_n dX6_findLeastTree_78 rfl ?_
              refine j_imul dX6_findLeastTree_79 ?_
              refine j_iadd dX6_findLeastTree_80 ?_
              refine j_istore_n dX6_findLeastTree_81 (by decide) (by dsimp only [List.set] <;> rfl) ?_
              refine j_goto (tgt := 10) dX6_findLeastTree_82 (by decide) ?_
              refine j_weak (L := [some (.ref o), some (.ref (o + 1 + 2 + 4 * t)), some (vi 1), some (vi ((s + 1 : Nat) : Int)), none, none]) ⟨rfl, rfl, rfl, by rw [show ((s + 1 : Nat) : Int) = (s : Int) + 1 * 1 by omega], trivial⟩ ?_
              have e1 : best S.1 (S.2.1 t) 0 s = whl S.1 (S.2.1 t) 0 s := rfl
              rw [if_neg (by omega), ← e1] at q75
              refine ih10 (s + 1) _ g (fup lc2 s (best S.1 (S.2.1 t) 0 s)) (by omega) (by omega) (hov.tr ((ho21.mono (by omega) (by omega)).tr ((hz60.1.toR (lo := o + 125) (hi := o + 126) (by simp)).mono (by omega) (by omega) |>.tr (wup_offR (by omega))))) ((he21.moved (hz60.1.toR (lo := o + 125) (hi := o + 126) (by simp)) (by omega)).moved (wup_offR (lo := o + 126) (hi := o + 127) (by omega)) (by omega)) ⟨wup_of (hz60.1.get hu4.1 (by simp)) (by omega), (hz60.2.up (by omega)).ext (fun j hj => by
                by_cases c9 : j = s
                · rw [c9, fup_s, if_pos (by omega)]
                  rfl
                · rw [fup_n c9]
                  unfold mrgF
                  by_cases a : j < s
                  · rw [if_neg (by omega)]
                    dsimp only
                    rw [if_pos a, if_pos (by omega)]
                  · rw [if_neg (by omega)]
                    dsimp only
                    rw [if_neg a, if_neg (by omega)])⟩ q75 (fun j hj => ?_) (fun j hj => ?_)
              · by_cases a : j = s
                · rw [a, fup_s]
                  exact hwh
                · rw [fup_n a]
                  exact hlcR j (by omega)
              · by_cases a : j = s
                · rw [a, fup_s]
                · rw [fup_n a]
                  exact hl1 j (by omega)
    exact lp10 66 0 _ g0 c0 (by omega) (by omega) OffR.rf h3 ⟨h4.1, h4.2.ext (fun j hj => by rw [if_neg (by omega)])⟩ h5 (fun j hj => absurd hj (by omega)) (fun j hj => absurd hj (by omega))

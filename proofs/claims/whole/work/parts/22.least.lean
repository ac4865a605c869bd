/-! ===== contracts: the least tree ===== -/
def TS (D : gD) (w : Wd) (o : Nat) (g : Nat → Int) : Prop := w (o + 124) = some (.inr (5, [.ref (o + 125)])) ∧ IA D w (o + 125) 64 g
def whl (p : Int) (F : Nat → Int) (k s : Nat) : Int := lcost (2 ^ k : Nat) (rk p F s (2 ^ k))
/-- the cost of the least tree of a block -/
def best (p : Int) (F : Nat → Int) : Nat → Nat → Int
  | 0, s => whl p F 0 s
  | k + 1, s => if sumF (fun q => best p F k (s + q * 4 ^ k)) 4 < whl p F (k + 1) s then sumF (fun q => best p F k (s + q * 4 ^ k)) 4 else whl p F (k + 1) s
/-- its sizes -/
def lv (p : Int) (F : Nat → Int) : Nat → Nat → Int
  | 0, _ => 1
  | k + 1, j => if sumF (fun q => best p F k (j / 4 ^ (k + 1) * 4 ^ (k + 1) + q * 4 ^ k)) 4 < whl p F (k + 1) (j / 4 ^ (k + 1) * 4 ^ (k + 1)) then lv p F k j else if j = j / 4 ^ (k + 1) * 4 ^ (k + 1) then (2 ^ (k + 1) : Nat) else 0
theorem lvl_tab : ∀ k : Nat, k < 3 → 2 ^ (k + 1) * 2 ^ (k + 1) = 4 * 4 ^ k ∧ 4 ^ (k + 1) = 4 * 4 ^ k ∧ (64 / (4 * 4 ^ k)) * (4 * 4 ^ k) = 64 ∧ 2 ^ (k + 1) ≤ 8 ∧ 2 ≤ 2 ^ (k + 1) ∧ 1 ≤ 4 ^ k := by decide +kernel
theorem whl_R {p : Int} {F : Nat → Int} {k s : Nat} (hk : k < 4) : 0 ≤ whl p F k s ∧ whl p F k s ≤ 64 := by
  unfold whl
  have h : (2 ^ k : Nat) ≤ 8 ∧ 1 ≤ (2 ^ k : Nat) := by
    rcases (show k = 0 ∨ k = 1 ∨ k = 2 ∨ k = 3 by omega) with q | q | q | q <;> subst q <;> decide
  generalize 2 ^ k = z at *
  exact lcost_R (by omega) (by omega) (by omega)
theorem best_R {p : Int} {F : Nat → Int} : ∀ {k s : Nat}, k < 4 → 0 ≤ best p F k s ∧ best p F k s ≤ 64
  | 0, s, hk => whl_R hk
  | k + 1, s, hk => by
    have h := whl_R (p := p) (F := F) (s := s) hk
    have h2 := sumF_R (f := fun q => best p F k (s + q * 4 ^ k)) (b := 64) (n := 4) (fun j _ => best_R (by omega))
    show 0 ≤ (if _ < _ then _ else _) ∧ (if _ < _ then _ else _) ≤ 64
    split <;> omega
theorem mul_next {i W m : Nat} (h : i * W < m * W) : i * W + W ≤ m * W := by
  have h1 : i < m := Nat.lt_of_mul_lt_mul_right h
  have h2 := Nat.mul_le_mul_right W (show i + 1 ≤ m by omega)
  rw [Nat.succ_mul] at h2
  exact h2
theorem blk_of {i W j : Nat} (h1 : i * W ≤ j) (h2 : j < i * W + W) : j / W * W = i * W := by
  have hW : 0 < W := by omega
  have h3 : j / W = i := by
    apply Nat.div_eq_of_lt_le
    · exact h1
    · rw [Nat.succ_mul]
      exact h2
  rw [h3]
theorem sumF4 (f : Nat → Int) : sumF f 4 = f 0 + f 1 + f 2 + f 3 := by
  show 0 + f 0 + f 1 + f 2 + f 3 = _
  omega

set_option maxRecDepth 100000 in
set_option maxHeartbeats 4000000 in
theorem c_X6_leastCostOfQuarters {l : Launch} {D : gD} {σ : Wd} {o s z : Nat} {hs : Int} {c : Nat → Int} (h1 : OA σ o hs) (h2 : IA D σ (o + 126) 64 c) (hc : ∀ j, j < 64 → 0 ≤ c j ∧ c j ≤ 64) (hs8 : s + z * z ≤ 64) (hz : z ≤ 8) (hz2 : 2 ≤ z) : KX6_leastCostOfQuarters l D [.ref o, vi s, vi z] σ (fun x σ' => x = sumF (fun q => c (s + q * (z * z / 4))) 4 ∧ σ' = σ) := by
  have hzz : ((z : Int) * z / 4) = ((z * z / 4 : Nat) : Int) := by
    rw [show ((z : Int) * z) = ((z * z : Nat) : Int) from rfl]; rfl
  have hz4 : 4 ≤ z * z := Nat.mul_le_mul hz2 hz2
  refine sp_of (by decide +kernel) (cat1 rfl) (Nat.le_of_ble_eq_true rfl) [some (.ref o), some (vi s), some (vi z), none, none, none] rfl (fun sz => ?_)
  refine j_iconst dX6_leastCostOfQuarters_0 ?_
  refine j_istore_n dX6_leastCostOfQuarters_1 (by decide) (by dsimp only [List.set] <;> rfl) ?_
  refine j_iconst dX6_leastCostOfQuarters_2 ?_
  refine j_istore dX6_leastCostOfQuarters_3 (by decide) (by dsimp only [List.set] <;> rfl) ?_
  have lp5 : ∀ (nn q : Nat) (x : Int), 5 - q < nn → q ≤ 4 → x = sumF (fun q => c (s + q * (z * z / 4))) q → J l D yX6_leastCostOfQuarters cX6_leastCostOfQuarters 6 (some .int) rmX6_leastCostOfQuarters sz (AA σ sz) (QI D σ sz (fun x σ' => x = sumF (fun q => c (s + q * (z * z / 4))) 4 ∧ σ' = σ)) 0 0 5 [some (.ref o), some (vi s), some (vi z), some (vi x), some (vi q), none] [] σ := by
    intro nn
    induction nn with
    | zero =>
      intro q x hnn hq hx
      exfalso
      omega
    | succ nn ih5 =>
      intro q x hnn hq hx
      have hqz : q < 4 → q * (z * z / 4) ≤ 3 * (z * z / 4) := fun h => Nat.mul_le_mul_right _ (by omega)
      have hq3 : q < 4 → s + q * (z * z / 4) < 64 := fun h => by have := hqz h; omega
      refine j_iload dX6_leastCostOfQuarters_5 rfl ?_
      refine j_iconst dX6_leastCostOfQuarters_7 ?_
      refine j_icmp_ge (tgt := 48) dX6_leastCostOfQuarters_8 (by decide) ⟨by omega, by omega⟩ ⟨by omega, by omega⟩ (fun h8 => ?_) (fun h8 => ?_)
      · skip
        refine j_iload_n dX6_leastCostOfQuarters_48 rfl ?_
        exact j_iret dX6_leastCostOfQuarters_49 ⟨_, rfl, by rw [hx, show q = 4 by omega], rfl⟩
      · skip
        refine j_iload_n dX6_leastCostOfQuarters_11 rfl ?_
        refine j_iload_n dX6_leastCostOfQuarters_12 rfl ?_
        refine j_iload dX6_leastCostOfQuarters_13 rfl ?_
        refine cl_X6_280 (As := [_, _, _]) rfl dX6_leastCostOfQuarters_15 (c_X5_startOfQuarter (z := z) (by omega) (by omega)) rfl ⟨by decide, by decide⟩ (Nat.le_of_ble_eq_true rfl) ⟨Nat.zero_le _, Nat.zero_le _⟩ (fun z15 σ15 hz15 => ?_)
        obtain ⟨hr15, hs15⟩ := hz15
        have hr15 := Eq.symm hr15
        have hs15 := Eq.symm hs15
        subst hr15
        subst hs15
        refine j_tops (show (s : Int) + q * ((z : Int) * z / 4) = ((s + q * (z * z / 4) : Nat) : Int) by rw [hzz]; push_cast; rfl) ?_
        refine j_istore dX6_leastCostOfQuarters_18 (by decide) (by dsimp only [List.set] <;> rfl) ?_
        refine j_iload dX6_leastCostOfQuarters_20 rfl ?_
        refine j_if_lt (tgt := 42) dX6_leastCostOfQuarters_22 (by decide) ⟨by omega, by omega⟩ (fun h22 => ?_) (fun h22 => ?_)
        · skip
          exact absurd h22 (by omega)
        · skip
          refine j_iload dX6_leastCostOfQuarters_25 rfl ?_
          refine j_bipush dX6_leastCostOfQuarters_27 (by decide) ?_
          refine j_icmp_ge (tgt := 42) dX6_leastCostOfQuarters_29 (by decide) ⟨by omega, by omega⟩ ⟨by omega, by omega⟩ (fun h29 => ?_) (fun h29 => ?_)
          · skip
            exact absurd h29 (by omega)
          · skip
            refine j_iload_n dX6_leastCostOfQuarters_32 rfl ?_
            refine j_aload_n dX6_leastCostOfQuarters_33 rfl ?_
            refine gf_X6_47 rfl dX6_leastCostOfQuarters_34 h1 rfl ?_
            refine j_iload dX6_leastCostOfQuarters_37 rfl ?_
            refine jj_iald dX6_leastCostOfQuarters_39 h2 (by omega) (by omega) ⟨by omega, by omega⟩ ?_
            refine j_iadd dX6_leastCostOfQuarters_40 ?_
            refine j_istore_n dX6_leastCostOfQuarters_41 (by decide) (by dsimp only [List.set] <;> rfl) ?_
            refine j_iinc dX6_leastCostOfQuarters_42 rfl (by decide) (by dsimp only [List.set] <;> rfl) ?_
            refine j_goto (tgt := 5) dX6_leastCostOfQuarters_45 (by decide) ?_
            refine j_weak (L := [some (.ref o), some (vi s), some (vi z), some (vi (x + c (s + q * (z * z / 4)))), some (vi ((q + 1 : Nat) : Int)), none]) ⟨rfl, rfl, rfl, rfl, rfl, trivial⟩ ?_
            exact ih5 (q + 1) _ (by omega) (by omega) (by rw [hx]; rfl)
  exact lp5 6 0 0 (by omega) (by omega) rfl

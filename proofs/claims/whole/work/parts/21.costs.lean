/-! ===== contracts: ranks and costs ===== -/
abbrev oF (o : Nat) (hs : Int) : List Value := [.ref (o + 1), .ref (o + 19), vi hs, .ref (o + 37), .ref (o + 111), .ref (o + 114), .ref (o + 124), .ref (o + 126), .ref (o + 127)]
/-- the object at o; its parts behind it -/
def OA (w : Wd) (o : Nat) (hs : Int) : Prop := w o = some (.inr (6, oF o hs))
def EX (D : gD) (w : Wd) (e : Nat) : Prop := ∃ p z r d f m, EA D w e p z r d f m
theorem EX.moved {D : gD} {lo hi : Nat} {σ w : Wd} {e : Nat} (h : EX D σ e) (ho : OffR lo hi σ w) (hn : e + 10 ≤ lo ∨ hi ≤ e) : EX D w e := by
  obtain ⟨p, z, r, d, f, m, q⟩ := h
  exact ⟨p, z, r, d, f, m, q.moved ho hn⟩
/-- a block: its first step, its size -/
def okBlk (s z : Nat) : Prop := s < 64 ∧ z ≤ 8 ∧ rowN s + z ≤ 8 ∧ colN s + z ≤ 8
theorem okBlk_tab : ∀ k : Nat, k < 4 → ∀ s : Nat, s < 64 → s % (2 ^ k * 2 ^ k) = 0 → rowN s + (2 ^ k : Nat) ≤ 8 ∧ colN s + (2 ^ k : Nat) ≤ 8 ∧ 2 ^ k ≤ 8 ∧ s + 2 ^ k * 2 ^ k ≤ 64 := by decide +kernel
theorem okBlk_of {k s : Nat} (hk : k < 4) (hs : s < 64) (h : s % (2 ^ k * 2 ^ k) = 0) : okBlk s (2 ^ k) := by
  have h1 := okBlk_tab k hk s hs h
  exact ⟨hs, h1.2.2.1, h1.1, h1.2.1⟩
/-- a tree's sizes: each leaf's at its first step -/
def WFg (g : Nat → Int) : Prop := ∀ s, s < 64 → g s = 0 ∨ ∃ k, k < 4 ∧ g s = (2 ^ k : Nat) ∧ s % (2 ^ k * 2 ^ k) = 0
theorem WFg.R {g : Nat → Int} (h : WFg g) : ∀ j : Nat, j < 64 → 0 ≤ g j ∧ g j ≤ 8 := by
  intro j hj
  rcases h j hj with q | ⟨k, hk, q, q2⟩
  · omega
  · have h8 := (okBlk_tab k hk j hj q2).2.2.1
    generalize 2 ^ k = z at q h8
    omega
def CB (p : Int) (F : Nat → Int) : Prop := ∀ j, j < 64 → 0 ≤ F j ∧ F j < p
theorem ldM_B {p : Int} {F : Nat → Int} {s z : Nat} (hp : 0 < p) (hF : CB p F) (hb : okBlk s z) : MB p z (ldM F s z) := by
  intro i hi j hj
  obtain ⟨h1, h2, h3, h4⟩ := hb
  have hr := rowN_R s
  have hc := colN_R s
  unfold ldM blk
  split
  · exact hF _ (by omega)
  · omega
theorem gj_cong {p : Int} {z : Nat} {m m' : Mx} (h : ∀ i, i < z → ∀ j, j ≤ z → m i j = m' i j) : ∀ c, c ≤ z → (gj p z m c).1 = (gj p z m' c).1 ∧ (gj p z m c).2.1 = (gj p z m' c).2.1 ∧ ((gj p z m c).1 ≤ c) ∧ ∀ i, i < z → ∀ j, j ≤ z → (gj p z m c).2.2 i j = (gj p z m' c).2.2 i j
  | 0, _ => ⟨rfl, rfl, Nat.le_refl _, h⟩
  | c + 1, hc => by
    obtain ⟨i1, i2, i3, i4⟩ := gj_cong (p := p) h c (by omega)
    rw [gj_s, gj_s]
    unfold gstep
    generalize gj p z m c = G at *
    generalize gj p z m' c = G' at *
    have hf : frow G'.2.2 c z 9 G'.1 = frow G.2.2 c z 9 G.1 := by
      rw [← i1]
      exact frow_cong (fun i hi => (i4 i hi c (by omega)).symm) 9 G.1
    rw [hf]
    by_cases hx : frow G.2.2 c z 9 G.1 < z
    · rw [if_pos hx, if_pos hx]
      generalize frow G.2.2 c z 9 G.1 = x at *
      have hsw : ∀ i, i < z → ∀ j, j ≤ z → i3 = i3 → G.1 < z → swapM G.2.2 G.1 x i j = swapM G'.2.2 G'.1 x i j := by
        intro i hi j hj _ hr
        rw [← i1]
        unfold swapM
        split
        · exact i4 x hx j hj
        · split
          · exact i4 G.1 hr j hj
          · exact i4 i hi j hj
      have hr : G.1 < z := by omega
      refine ⟨by show G.1 + 1 = G'.1 + 1; omega, ?_, by show G.1 + 1 ≤ c + 1; omega, fun i hi j hj => ?_⟩
      · show ((if G.1 = x then G.2.1 else (-G.2.1) % p) * swapM G.2.2 G.1 x G.1 c) % p = ((if G'.1 = x then G'.2.1 else (-G'.2.1) % p) * swapM G'.2.2 G'.1 x G'.1 c) % p
        rw [hsw G.1 hr c (by omega) rfl hr, i1, i2]
      · show clrM p G.1 c (swapM G.2.2 G.1 x) i j = clrM p G'.1 c (swapM G'.2.2 G'.1 x) i j
        unfold clrM
        rw [hsw i hi j hj rfl hr, hsw G.1 hr j hj rfl hr, hsw G.1 hr c (by omega) rfl hr, hsw i hi c (by omega) rfl hr, i1]
    · rw [if_neg hx, if_neg hx]
      exact ⟨i1, i2, by omega, i4⟩
/-- the rank of a block -/
def rk (p : Int) (F : Nat → Int) (s z : Nat) : Nat := (gj p z (ldM F s z) z).1
theorem rk_le {p : Int} {F : Nat → Int} {s z : Nat} : rk p F s z ≤ z := (gj_cong (p := p) (m := ldM F s z) (m' := ldM F s z) (fun _ _ _ _ => rfl) z (Nat.le_refl _)).2.2.1
def lcost (z r : Int) : Int := if 2 * z * r < z * z then 2 * z * r else z * z
theorem lcost_R {z r : Int} (h0 : 0 ≤ z) (h1 : z ≤ 8) (h2 : 0 ≤ r) : 0 ≤ lcost z r ∧ lcost z r ≤ 64 := by
  have a1 := mul_R (m := 8) (n := 8) h0 h1 h0 h1 (by omega)
  have a2 : 0 ≤ 2 * z * r := Int.mul_nonneg (by omega) h2
  unfold lcost
  split <;> omega
/-- what the leaf at a step costs, if one begins there -/
def cst (p : Int) (F g : Nat → Int) : Nat → Int := fun s => if 0 < g s then lcost (g s) (rk p F s (g s).toNat) else 0
def rks (p : Int) (F g : Nat → Int) : Nat → Int := fun s => if 0 < g s then (rk p F s (g s).toNat : Int) else 0
def mxF (f : Nat → Int) : Nat → Int
  | 0 => 0
  | n + 1 => if mxF f n < f n then f n else mxF f n
theorem mxF_s {f : Nat → Int} {i : Int} (h : 0 ≤ i) : mxF f (i + 1).toNat = if mxF f i.toNat < f i.toNat then f i.toNat else mxF f i.toNat := by
  rw [show (i + 1).toNat = i.toNat + 1 by omega]
  rfl
theorem mxF_R {f : Nat → Int} {b : Int} (hb : 0 ≤ b) : ∀ {n : Nat}, (∀ j, j < n → f j ≤ b) → 0 ≤ mxF f n ∧ mxF f n ≤ b
  | 0, _ => ⟨Int.le_refl _, hb⟩
  | n + 1, h => by
    have h1 := mxF_R hb (n := n) (fun j hj => h j (by omega))
    have h2 := h n (by omega)
    show 0 ≤ (if mxF f n < f n then f n else mxF f n) ∧ (if mxF f n < f n then f n else mxF f n) ≤ b
    split <;> omega
theorem cst_R {p : Int} {F g : Nat → Int} (hg : ∀ j : Nat, j < 64 → 0 ≤ g j ∧ g j ≤ 8) : ∀ j, j < 64 → 0 ≤ cst p F g j ∧ cst p F g j ≤ 64 := by
  intro j hj
  have := hg j hj
  unfold cst
  split
  · exact lcost_R (by omega) (by omega) (by omega)
  · omega
theorem rks_R {p : Int} {F g : Nat → Int} (hg : ∀ j : Nat, j < 64 → 0 ≤ g j ∧ g j ≤ 8) : ∀ j, j < 64 → 0 ≤ rks p F g j ∧ rks p F g j ≤ 8 := by
  intro j hj
  have := hg j hj
  unfold rks
  split
  · have := rk_le (p := p) (F := F) (s := j) (z := (g j).toNat)
    omega
  · omega

set_option maxRecDepth 100000 in
set_option maxHeartbeats 4000000 in
theorem c_X6_blockRank {l : Launch} {D : gD} {σ : Wd} {o : Nat} {hs : Int} {S : MS} {t s z : Nat} (h1 : OA σ o hs) (h2 : SA D σ (o + 1) S) (h3 : EX D σ (o + 114)) (ht : t < 4) (hp : primeB S.1 = true) (hF : CB S.1 (S.2.1 t)) (hb : okBlk s z) : KX6_blockRank l D [.ref o, .ref (o + 1 + 2 + 4 * t), vi s, vi z] σ (fun x σ' => x = (rk S.1 (S.2.1 t) s z : Nat) ∧ OffR (o + 114) (o + 124) σ σ' ∧ EX D σ' (o + 114)) := by
  have hlo := primeB_lo hp
  obtain ⟨p0, z0, r0, d0, f0, m0, he⟩ := h3
  have htb := h2.2.2 t ht
  obtain ⟨hb1, hb2, hb3, hb4⟩ := id hb
  refine sp_of (by decide +kernel) (cat1 rfl) (Nat.le_of_ble_eq_true rfl) [some (.ref o), some (.ref (o + 1 + 2 + 4 * t)), some (vi s), some (vi z)] rfl (fun sz => ?_)
  refine j_aload_n dX6_blockRank_0 rfl ?_
  refine gf_X6_36 rfl dX6_blockRank_1 h1 rfl ?_
  refine j_aload_n dX6_blockRank_4 rfl ?_
  refine j_iload_n dX6_blockRank_5 rfl ?_
  refine j_iload_n dX6_blockRank_6 rfl ?_
  refine j_aload_n dX6_blockRank_7 rfl ?_
  refine gf_X6_12 rfl dX6_blockRank_8 h1 rfl ?_
  refine gf_X6_58 rfl dX6_blockRank_11 h2.1 rfl ?_
  refine cl_X6_138 (As := [_, _, _, _]) rfl dX6_blockRank_14 (c_X0_load he htb.1 htb.2.1 (by omega) (by omega) hb1 hb2 hb3 hb4) he.1 rfl ⟨by decide, by decide⟩ (Nat.le_of_ble_eq_true rfl) ⟨Nat.zero_le _, Nat.zero_le _⟩ (fun σ14 hz14 => ?_)
  obtain ⟨ho14, m1, he1, hag1⟩ := hz14
  have h1b : OA σ14 o hs := ho14.get h1 (by omega)
  refine j_aload_n dX6_blockRank_17 rfl ?_
  refine gf_X6_36 rfl dX6_blockRank_18 h1b rfl ?_
  refine cl_X6_242 (As := []) rfl dX6_blockRank_21 (c_X0_reduce he1 hb2 hp (fun i hi j hj => by rw [hag1 i hi j hj]; exact ldM_B (by omega) hF hb i hi j hj)) he1.1 rfl ⟨by decide, by decide⟩ (Nat.le_of_ble_eq_true rfl) ⟨Nat.zero_le _, Nat.zero_le _⟩ (fun σ21 hz21 => ?_)
  obtain ⟨ho21, f2, m2, he2, hag2⟩ := hz21
  have h1c : OA σ21 o hs := ho21.get h1b (by omega)
  refine j_aload_n dX6_blockRank_24 rfl ?_
  refine gf_X6_36 rfl dX6_blockRank_25 h1c rfl ?_
  refine gf_X6_245 rfl dX6_blockRank_28 he2.1 rfl ?_
  exact j_iret dX6_blockRank_31 ⟨_, rfl, by unfold rk; rw [(gj_cong hag1 z (Nat.le_refl _)).1], ho14.tr ho21, _, _, _, _, _, _, he2⟩
set_option maxRecDepth 100000 in
set_option maxHeartbeats 4000000 in
theorem c_X6_tableDeterminant {l : Launch} {D : gD} {σ : Wd} {o : Nat} {hs : Int} {S : MS} {t : Nat} (h1 : OA σ o hs) (h2 : SA D σ (o + 1) S) (h3 : EX D σ (o + 114)) (ht : t < 4) (hp : primeB S.1 = true) (hF : CB S.1 (S.2.1 t)) : KX6_tableDeterminant l D [.ref o, .ref (o + 1 + 2 + 4 * t)] σ (fun x σ' => x = gdet S.1 8 (ldM (S.2.1 t) 0 8) ∧ OffR (o + 114) (o + 124) σ σ' ∧ EX D σ' (o + 114)) := by
  have hlo := primeB_lo hp
  obtain ⟨p0, z0, r0, d0, f0, m0, he⟩ := h3
  have htb := h2.2.2 t ht
  have hb : okBlk 0 8 := okBlk_of (k := 3) (by omega) (by omega) rfl
  obtain ⟨hb1, hb2, hb3, hb4⟩ := id hb
  refine sp_of (by decide +kernel) (cat1 rfl) (Nat.le_of_ble_eq_true rfl) [some (.ref o), some (.ref (o + 1 + 2 + 4 * t))] rfl (fun sz => ?_)
  refine j_aload_n dX6_tableDeterminant_0 rfl ?_
  refine gf_X6_36 rfl dX6_tableDeterminant_1 h1 rfl ?_
  refine j_aload_n dX6_tableDeterminant_4 rfl ?_
  refine j_iconst dX6_tableDeterminant_5 ?_
  refine j_bipush dX6_tableDeterminant_6 (by decide) ?_
  refine j_aload_n dX6_tableDeterminant_8 rfl ?_
  refine gf_X6_12 rfl dX6_tableDeterminant_9 h1 rfl ?_
  refine gf_X6_58 rfl dX6_tableDeterminant_12 h2.1 rfl ?_
  refine cl_X6_138 (As := [_, _, _, _]) rfl dX6_tableDeterminant_15 (c_X0_load (s := 0) (z := 8) he htb.1 htb.2.1 (by omega) (by omega) hb1 hb2 hb3 hb4) he.1 rfl ⟨by decide, by decide⟩ (Nat.le_of_ble_eq_true rfl) ⟨Nat.zero_le _, Nat.zero_le _⟩ (fun σ15 hz15 => ?_)
  obtain ⟨ho14, m1, he1, hag1⟩ := hz15
  have h1b : OA σ15 o hs := ho14.get h1 (by omega)
  refine j_aload_n dX6_tableDeterminant_18 rfl ?_
  refine gf_X6_36 rfl dX6_tableDeterminant_19 h1b rfl ?_
  refine cl_X6_242 (As := []) rfl dX6_tableDeterminant_22 (c_X0_reduce he1 hb2 hp (fun i hi j hj => by rw [hag1 i hi j hj]; exact ldM_B (by omega) hF hb i hi j hj)) he1.1 rfl ⟨by decide, by decide⟩ (Nat.le_of_ble_eq_true rfl) ⟨Nat.zero_le _, Nat.zero_le _⟩ (fun σ22 hz22 => ?_)
  obtain ⟨ho21, f2, m2, he2, hag2⟩ := hz22
  have h1c : OA σ22 o hs := ho21.get h1b (by omega)
  refine j_aload_n dX6_tableDeterminant_25 rfl ?_
  refine gf_X6_36 rfl dX6_tableDeterminant_26 h1c rfl ?_
  refine gf_X6_150 rfl dX6_tableDeterminant_29 he2.1 rfl ?_
  exact j_iret dX6_tableDeterminant_32 ⟨_, rfl, by unfold gdet; rw [(gj_cong hag1 8 (Nat.le_refl _)).1, (gj_cong hag1 8 (Nat.le_refl _)).2.1], ho14.tr ho21, _, _, _, _, _, _, he2⟩
set_option maxRecDepth 100000 in
set_option maxHeartbeats 4000000 in
theorem c_X6_leafCost {l : Launch} {D : gD} {σ : Wd} {z r : Int} (hz0 : 0 ≤ z) (hz : z ≤ 8) (hr0 : 0 ≤ r) (hr : r ≤ 8) : KX6_leafCost l D [vi z, vi r] σ (fun x σ' => x = lcost z r ∧ σ' = σ) := by
  have a1 := mul_R (m := 8) (n := 8) hz0 hz hz0 hz (by omega)
  have a2 := mul_R (a := 2 * z) (m := 16) (n := 8) (by omega) (by omega) hr0 hr (by omega)
  refine sp_of (by decide +kernel) (cat1 rfl) (Nat.le_of_ble_eq_true rfl) [some (vi z), some (vi r)] rfl (fun sz => ?_)
  refine j_iload_n dX6_leafCost_0 rfl ?_
  refine j_iload_n dX6_leafCost_1 rfl ?_
  refine j_imul dX6_leafCost_2 ?_
  refine j_iconst dX6_leafCost_3 ?_
  refine j_iload_n dX6_leafCost_4 rfl ?_
  refine j_imul dX6_leafCost_5 ?_
  refine j_iload_n dX6_leafCost_6 rfl ?_
  refine j_imul dX6_leafCost_7 ?_
  refine j_mmin lk_X6_269 wst_min wini_math wcd_min dX6_leafCost_8 ⟨by omega, by omega⟩ ⟨by omega, by omega⟩ (by decide) (Nat.le_of_ble_eq_true rfl) ⟨Nat.zero_le _, Nat.zero_le _⟩ ?_
  exact j_iret dX6_leafCost_11 ⟨_, rfl, rfl, rfl⟩
set_option maxRecDepth 100000 in
set_option maxHeartbeats 4000000 in
theorem c_X6_costOfTables {l : Launch} {D : gD} {σ : Wd} {o : Nat} {hs : Int} {S : MS} {a b : Nat} (h1 : OA σ o hs) (h2 : SA D σ (o + 1) S) (h3 : EX D σ (o + 114)) (ha : a ≤ b + 1) (hb : b < 4) (hp : primeB S.1 = true) (hF : ∀ t, t < 4 → CB S.1 (S.2.1 t)) (hg : ∀ t, t < 4 → WFg (S.2.2 t)) : KX6_costOfTables l D [.ref o, vi a, vi b] σ (fun x σ' => x = sumF (fun t => sumF (cst S.1 (S.2.1 t) (S.2.2 t)) 64) (b + 1) - sumF (fun t => sumF (cst S.1 (S.2.1 t) (S.2.2 t)) 64) a ∧ OffR (o + 114) (o + 124) σ σ' ∧ EX D σ' (o + 114)) := by
  refine sp_of (by decide +kernel) (cat1 rfl) (Nat.le_of_ble_eq_true rfl) [some (.ref o), some (vi a), some (vi b), none, none, none, none, none] rfl (fun sz => ?_)
  refine j_iconst dX6_costOfTables_0 ?_
  refine j_istore_n dX6_costOfTables_1 (by decide) (by dsimp only [List.set] <;> rfl) ?_
  refine j_iload_n dX6_costOfTables_2 rfl ?_
  refine j_istore dX6_costOfTables_3 (by decide) (by dsimp only [List.set] <;> rfl) ?_
  have lp5 : ∀ (nn t : Nat) (c : Int) (w : Wd), 5 - t < nn → a ≤ t → t ≤ b + 1 → c = sumF (fun t => sumF (cst S.1 (S.2.1 t) (S.2.2 t)) 64) t - sumF (fun t => sumF (cst S.1 (S.2.1 t) (S.2.2 t)) 64) a → OffR (o + 114) (o + 124) σ w → EX D w (o + 114) → J l D yX6_costOfTables cX6_costOfTables 8 (some .int) rmX6_costOfTables sz (AA σ sz) (QI D σ sz (fun x σ' => x = sumF (fun t => sumF (cst S.1 (S.2.1 t) (S.2.2 t)) 64) (b + 1) - sumF (fun t => sumF (cst S.1 (S.2.1 t) (S.2.2 t)) 64) a ∧ OffR (o + 114) (o + 124) σ σ' ∧ EX D σ' (o + 114))) 0 0 5 [some (.ref o), some (vi a), some (vi b), some (vi c), some (vi t), none, none, none] [] w := by
    intro nn
    induction nn with
    | zero =>
      intro t c w hnn hta htb0 hc ho hw3
      exfalso
      omega
    | succ nn ih5 =>
      intro t c w hnn hta htb0 hc ho hw3
      have hw1 : OA w o hs := ho.get h1 (by omega)
      have hw2 := h2.moved ho (by omega)
      refine j_iload dX6_costOfTables_5 rfl ?_
      refine j_iload_n dX6_costOfTables_7 rfl ?_
      refine j_icmp_gt (tgt := 79) dX6_costOfTables_8 (by decide) ⟨by omega, by omega⟩ ⟨by omega, by omega⟩ (fun h8 => ?_) (fun h8 => ?_)
      · skip
        refine j_iload_n dX6_costOfTables_79 rfl ?_
        exact j_iret dX6_costOfTables_80 ⟨_, rfl, by rw [hc, show t = b + 1 by omega], ho, hw3⟩
      · skip
        refine j_aload_n dX6_costOfTables_11 rfl ?_
        have ht : t < 4 := by omega
        refine gf_X6_12 rfl dX6_costOfTables_12 hw1 rfl ?_
        refine j_iload dX6_costOfTables_15 rfl ?_
        refine cl_X6_76 (As := [_]) rfl dX6_costOfTables_17 (c_X2_tableOf hw2.1 hw2.2.1 (by omega) (by omega)) hw2.1 rfl ⟨by decide, by decide⟩ (Nat.le_of_ble_eq_true rfl) ⟨Nat.zero_le _, Nat.zero_le _⟩ (fun z17 σ17 hz17 => ?_)
        obtain ⟨hr17, hs17⟩ := hz17
        have hr17 := Eq.symm hr17
        have hs17 := Eq.symm hs17
        subst hr17
        subst hs17
        refine j_astore dX6_costOfTables_20 (by decide) (by dsimp only [List.set] <;> rfl) ?_
        refine j_iconst dX6_costOfTables_22 ?_
        refine j_istore dX6_costOfTables_23 (by decide) (by dsimp only [List.set] <;> rfl) ?_
        have lp25 : ∀ (nn2 i : Nat) (c2 : Int) (v : Wd), 65 - i < nn2 → i ≤ 64 → c2 = c + sumF (cst S.1 (S.2.1 t) (S.2.2 t)) i → OffR (o + 114) (o + 124) σ v → EX D v (o + 114) → J l D yX6_costOfTables cX6_costOfTables 8 (some .int) rmX6_costOfTables sz (AA σ sz) (QI D σ sz (fun x σ' => x = sumF (fun t => sumF (cst S.1 (S.2.1 t) (S.2.2 t)) 64) (b + 1) - sumF (fun t => sumF (cst S.1 (S.2.1 t) (S.2.2 t)) 64) a ∧ OffR (o + 114) (o + 124) σ σ' ∧ EX D σ' (o + 114))) 0 0 25 [some (.ref o), some (vi a), some (vi b), some (vi c2), some (vi t), some (.ref (o + 1 + 2 + 4 * t)), some (vi i), none] [] v := by
          intro nn
          induction nn with
          | zero =>
            intro i c2 v hnn2 hi1 hc2 hov hv3
            exfalso
            omega
          | succ nn ih25 =>
            intro i c2 v hnn2 hi1 hc2 hov hv3
            have hv1 : OA v o hs := hov.get h1 (by omega)
            have hv2 := h2.moved hov (by omega)
            have hv2t := hv2.2.2 t ht
            refine j_iload dX6_costOfTables_25 rfl ?_
            refine j_bipush dX6_costOfTables_27 (by decide) ?_
            refine j_icmp_ge (tgt := 73) dX6_costOfTables_29 (by decide) ⟨by omega, by omega⟩ ⟨by omega, by omega⟩ (fun h29 => ?_) (fun h29 => ?_)
            · skip
              refine j_iinc dX6_costOfTables_73 rfl (by decide) (by dsimp only [List.set] <;> rfl) ?_
              refine j_goto (tgt := 5) dX6_costOfTables_76 (by decide) ?_
              refine j_weak (L := [some (.ref o), some (vi a), some (vi b), some (vi c2), some (vi ((t + 1 : Nat) : Int)), none, none, none]) ⟨rfl, rfl, rfl, rfl, rfl, trivial⟩ ?_
              exact ih5 (t + 1) _ _ (by omega) (by omega) (by omega) (by
                show c2 = (sumF (fun t => sumF (cst S.1 (S.2.1 t) (S.2.2 t)) 64) t + sumF (cst S.1 (S.2.1 t) (S.2.2 t)) 64) - _
                rw [hc2, hc, show i = 64 by omega]
                omega) hov hv3
            · skip
              refine j_aload dX6_costOfTables_32 rfl ?_
              refine gf_X6_93 rfl dX6_costOfTables_34 hv2t.1 rfl ?_
              refine j_iload dX6_costOfTables_37 rfl ?_
              refine cl_X6_96 (As := [_]) rfl dX6_costOfTables_39 (c_X5_sizeAt hv2t.2.2.1 hv2t.2.2.2 (rs (by omega) (by omega))) hv2t.2.2.1 rfl ⟨by decide, by decide⟩ (Nat.le_of_ble_eq_true rfl) ⟨Nat.zero_le _, Nat.zero_le _⟩ (fun z39 σ39 hz39 => ?_)
              obtain ⟨hr39, hs39⟩ := hz39
              have hr39 := Eq.symm hr39
              have hs39 := Eq.symm hs39
              subst hr39
              subst hs39
              have hgi := (hg t ht).R i (by omega)
              refine j_tops (show _ = S.2.2 t i from if_pos (by omega)) ?_
              refine j_istore dX6_costOfTables_42 (by decide) (by dsimp only [List.set] <;> rfl) ?_
              refine j_iload dX6_costOfTables_44 rfl ?_
              refine j_if_le (tgt := 67) dX6_costOfTables_46 (by decide) ⟨by omega, by omega⟩ (fun h46 => ?_) (fun h46 => ?_)
              · skip
                refine j_iinc dX6_costOfTables_67 rfl (by decide) (by dsimp only [List.set] <;> rfl) ?_
                refine j_goto (tgt := 25) dX6_costOfTables_70 (by decide) ?_
                refine j_weak (L := [some (.ref o), some (vi a), some (vi b), some (vi c2), some (vi t), some (.ref (o + 1 + 2 + 4 * t)), some (vi ((i + 1 : Nat) : Int)), none]) ⟨rfl, rfl, rfl, rfl, rfl, rfl, rfl, trivial⟩ ?_
                have e1 : cst S.1 (S.2.1 t) (S.2.2 t) i = 0 := if_neg (by omega)
                exact ih25 (i + 1) _ _ (by omega) (by omega) (by show c2 = c + (sumF _ i + cst S.1 (S.2.1 t) (S.2.2 t) i); rw [e1, hc2]; omega) hov hv3
              · skip
                obtain ⟨z, hz⟩ : ∃ z : Nat, S.2.2 t i = (z : Int) := Int.eq_ofNat_of_zero_le (by omega)
                have hbk : okBlk i z := by
                  rcases hg t ht i (by omega) with q | ⟨k, hk, q, q2⟩
                  · omega
                  · have e2 : z = 2 ^ k := Int.ofNat.inj (hz.symm.trans q)
                    rw [e2]
                    exact okBlk_of hk (by omega) q2
                have hz8 := hbk.2.1
                rw [hz]
                refine j_iload_n dX6_costOfTables_49 rfl ?_
                refine j_iload dX6_costOfTables_50 rfl ?_
                refine j_aload_n dX6_costOfTables_52 rfl ?_
                refine j_aload dX6_costOfTables_53 rfl ?_
                refine j_iload dX6_costOfTables_55 rfl ?_
                refine j_iload dX6_costOfTables_57 rfl ?_
                refine cl_X6_111 (As := [_, _, _]) rfl dX6_costOfTables_59 (c_X6_blockRank hv1 hv2 hv3 ht hp (hF t ht) hbk) hv1 rfl ⟨by decide, by decide⟩ (Nat.le_of_ble_eq_true rfl) ⟨Nat.zero_le _, Nat.zero_le _⟩ (fun z59 σ59 hz59 => ?_)
                obtain ⟨hr59, ho59, he59⟩ := hz59
                subst hr59
                have hrl := rk_le (p := S.1) (F := S.2.1 t) (s := i) (z := z)
                refine cl_X6_224 (As := [_, _]) rfl dX6_costOfTables_62 (c_X6_leafCost (by omega) (by omega) (by omega) (by omega)) rfl ⟨by decide, by decide⟩ (Nat.le_of_ble_eq_true rfl) ⟨Nat.zero_le _, Nat.zero_le _⟩ (fun z62 σ62 hz62 => ?_)
                obtain ⟨hr62, hs62⟩ := hz62
                have hr62 := Eq.symm hr62
                have hs62 := Eq.symm hs62
                subst hr62
                subst hs62
                refine j_iadd dX6_costOfTables_65 ?_
                refine j_istore_n dX6_costOfTables_66 (by decide) (by dsimp only [List.set] <;> rfl) ?_
                refine j_iinc dX6_costOfTables_67 rfl (by decide) (by dsimp only [List.set] <;> rfl) ?_
                refine j_goto (tgt := 25) dX6_costOfTables_70 (by decide) ?_
                refine j_weak (L := [some (.ref o), some (vi a), some (vi b), some (vi (c2 + lcost z (rk S.1 (S.2.1 t) i z : Nat))), some (vi t), some (.ref (o + 1 + 2 + 4 * t)), some (vi ((i + 1 : Nat) : Int)), none]) ⟨rfl, rfl, rfl, rfl, rfl, rfl, rfl, trivial⟩ ?_
                have e1 : cst S.1 (S.2.1 t) (S.2.2 t) i = lcost z (rk S.1 (S.2.1 t) i z : Nat) := by
                  unfold cst
                  rw [if_pos (by omega), hz]
                  rfl
                exact ih25 (i + 1) _ _ (by omega) (by omega) (by show _ = c + (sumF _ i + cst S.1 (S.2.1 t) (S.2.2 t) i); rw [e1, hc2]; omega) (hov.tr ho59) he59
        exact lp25 66 0 c _ (by omega) (by omega) (by show c = c + 0; omega) ho hw3
  exact lp5 6 a 0 _ (by omega) (by omega) (by omega) (by omega) OffR.rf h3
set_option maxRecDepth 100000 in
set_option maxHeartbeats 4000000 in
theorem c_X6_greatestLeafRank {l : Launch} {D : gD} {σ : Wd} {o : Nat} {hs : Int} {S : MS} {t : Nat} (h1 : OA σ o hs) (h2 : SA D σ (o + 1) S) (h3 : EX D σ (o + 114)) (ht : t < 4) (hp : primeB S.1 = true) (hF : CB S.1 (S.2.1 t)) (hg : WFg (S.2.2 t)) : KX6_greatestLeafRank l D [.ref o, .ref (o + 1 + 2 + 4 * t)] σ (fun x σ' => x = mxF (rks S.1 (S.2.1 t) (S.2.2 t)) 64 ∧ OffR (o + 114) (o + 124) σ σ' ∧ EX D σ' (o + 114)) := by
  refine sp_of (by decide +kernel) (cat1 rfl) (Nat.le_of_ble_eq_true rfl) [some (.ref o), some (.ref (o + 1 + 2 + 4 * t)), none, none, none] rfl (fun sz => ?_)
  refine j_iconst dX6_greatestLeafRank_0 ?_
  refine j_istore_n dX6_greatestLeafRank_1 (by decide) (by dsimp only [List.set] <;> rfl) ?_
  refine j_iconst dX6_greatestLeafRank_2 ?_
  refine j_istore_n dX6_greatestLeafRank_3 (by decide) (by dsimp only [List.set] <;> rfl) ?_
  have lp4 : ∀ (nn2 i : Nat) (c2 : Int) (v : Wd), 65 - i < nn2 → i ≤ 64 → c2 = mxF (rks S.1 (S.2.1 t) (S.2.2 t)) i → OffR (o + 114) (o + 124) σ v → EX D v (o + 114) → J l D yX6_greatestLeafRank cX6_greatestLeafRank 5 (some .int) rmX6_greatestLeafRank sz (AA σ sz) (QI D σ sz (fun x σ' => x = mxF (rks S.1 (S.2.1 t) (S.2.2 t)) 64 ∧ OffR (o + 114) (o + 124) σ σ' ∧ EX D σ' (o + 114))) 0 0 4 [some (.ref o), some (.ref (o + 1 + 2 + 4 * t)), some (vi c2), some (vi i), none] [] v := by
    intro nn
    induction nn with
    | zero =>
      intro i c2 v hnn2 hi1 hc2 hov hv3
      exfalso
      omega
    | succ nn ih4 =>
      intro i c2 v hnn2 hi1 hc2 hov hv3
      have hv1 : OA v o hs := hov.get h1 (by omega)
      have hv2 := h2.moved hov (by omega)
      have hv2t := hv2.2.2 t ht
      have hcR := mxF_R (f := rks S.1 (S.2.1 t) (S.2.2 t)) (b := 8) (by omega) (n := i) (fun j hj => (rks_R hg.R j (by omega)).2)
      refine j_iload_n dX6_greatestLeafRank_4 rfl ?_
      refine j_bipush dX6_greatestLeafRank_5 (by decide) ?_
      refine j_icmp_ge (tgt := 44) dX6_greatestLeafRank_7 (by decide) ⟨by omega, by omega⟩ ⟨by omega, by omega⟩ (fun h7 => ?_) (fun h7 => ?_)
      · skip
        refine j_iload_n dX6_greatestLeafRank_44 rfl ?_
        exact j_iret dX6_greatestLeafRank_45 ⟨_, rfl, by rw [hc2, show i = 64 by omega], hov, hv3⟩
      · skip
        refine j_aload_n dX6_greatestLeafRank_10 rfl ?_
        refine gf_X6_93 rfl dX6_greatestLeafRank_11 hv2t.1 rfl ?_
        refine j_iload_n dX6_greatestLeafRank_14 rfl ?_
        refine cl_X6_96 (As := [_]) rfl dX6_greatestLeafRank_15 (c_X5_sizeAt hv2t.2.2.1 hv2t.2.2.2 (rs (by omega) (by omega))) hv2t.2.2.1 rfl ⟨by decide, by decide⟩ (Nat.le_of_ble_eq_true rfl) ⟨Nat.zero_le _, Nat.zero_le _⟩ (fun z15 σ15 hz15 => ?_)
        obtain ⟨hr15, hs15⟩ := hz15
        have hr15 := Eq.symm hr15
        have hs15 := Eq.symm hs15
        subst hr15
        subst hs15
        have hgi := hg.R i (by omega)
        refine j_tops (show _ = S.2.2 t i from if_pos (by omega)) ?_
        refine j_istore dX6_greatestLeafRank_18 (by decide) (by dsimp only [List.set] <;> rfl) ?_
        refine j_iload dX6_greatestLeafRank_20 rfl ?_
        refine j_if_le (tgt := 38) dX6_greatestLeafRank_22 (by decide) ⟨by omega, by omega⟩ (fun h22 => ?_) (fun h22 => ?_)
        · skip
          refine j_iinc dX6_greatestLeafRank_38 rfl (by decide) (by dsimp only [List.set] <;> rfl) ?_
          refine j_goto (tgt := 4) dX6_greatestLeafRank_41 (by decide) ?_
          refine j_weak (L := [some (.ref o), some (.ref (o + 1 + 2 + 4 * t)), some (vi c2), some (vi ((i + 1 : Nat) : Int)), none]) ⟨rfl, rfl, rfl, rfl, trivial⟩ ?_
          have e1 : rks S.1 (S.2.1 t) (S.2.2 t) i = 0 := if_neg (by omega)
          exact ih4 (i + 1) _ _ (by omega) (by omega) (by show c2 = (if mxF _ i < rks S.1 (S.2.1 t) (S.2.2 t) i then rks S.1 (S.2.1 t) (S.2.2 t) i else mxF _ i); rw [e1, if_neg (by omega)]; exact hc2) hov hv3
        · skip
          obtain ⟨z, hz⟩ : ∃ z : Nat, S.2.2 t i = (z : Int) := Int.eq_ofNat_of_zero_le (by omega)
          have hbk : okBlk i z := by
            rcases hg i (by omega) with q | ⟨k, hk, q, q2⟩
            · omega
            · have e2 : z = 2 ^ k := Int.ofNat.inj (hz.symm.trans q)
              rw [e2]
              exact okBlk_of hk (by omega) q2
          have hz8 := hbk.2.1
          rw [hz]
          refine j_iload_n dX6_greatestLeafRank_25 rfl ?_
          refine j_aload_n dX6_greatestLeafRank_26 rfl ?_
          refine j_aload_n dX6_greatestLeafRank_27 rfl ?_
          refine j_iload_n dX6_greatestLeafRank_28 rfl ?_
          refine j_iload dX6_greatestLeafRank_29 rfl ?_
          refine cl_X6_111 (As := [_, _, _]) rfl dX6_greatestLeafRank_31 (c_X6_blockRank hv1 hv2 hv3 ht hp hF hbk) hv1 rfl ⟨by decide, by decide⟩ (Nat.le_of_ble_eq_true rfl) ⟨Nat.zero_le _, Nat.zero_le _⟩ (fun z31 σ31 hz31 => ?_)
          obtain ⟨hr59, ho59, he59⟩ := hz31
          subst hr59
          have hrl := rk_le (p := S.1) (F := S.2.1 t) (s := i) (z := z)
          refine j_mmax lk_X6_274 wst_max wini_math wcd_max dX6_greatestLeafRank_34 ⟨by omega, by omega⟩ ⟨by omega, by omega⟩ (by decide) (Nat.le_of_ble_eq_true rfl) ⟨Nat.zero_le _, Nat.zero_le _⟩ ?_
          refine j_istore_n dX6_greatestLeafRank_37 (by decide) (by dsimp only [List.set] <;> rfl) ?_
          refine j_iinc dX6_greatestLeafRank_38 rfl (by decide) (by dsimp only [List.set] <;> rfl) ?_
          refine j_goto (tgt := 4) dX6_greatestLeafRank_41 (by decide) ?_
          refine j_weak (L := [some (.ref o), some (.ref (o + 1 + 2 + 4 * t)), some (vi (if c2 < (rk S.1 (S.2.1 t) i z : Nat) then ((rk S.1 (S.2.1 t) i z : Nat) : Int) else c2)), some (vi ((i + 1 : Nat) : Int)), none]) ⟨rfl, rfl, rfl, rfl, trivial⟩ ?_
          have e1 : rks S.1 (S.2.1 t) (S.2.2 t) i = (rk S.1 (S.2.1 t) i z : Nat) := by
            unfold rks
            rw [if_pos (by omega), hz]
            rfl
          exact ih4 (i + 1) _ _ (by omega) (by omega) (by show _ = (if mxF _ i < rks S.1 (S.2.1 t) (S.2.2 t) i then rks S.1 (S.2.1 t) (S.2.2 t) i else mxF _ i); rw [e1, hc2]) (hov.tr ho59) he59
  exact lp4 66 0 0 _ (by omega) (by omega) rfl OffR.rf h3
set_option maxRecDepth 100000 in
set_option maxHeartbeats 4000000 in
theorem c_X6_leavesOfAll {l : Launch} {D : gD} {σ : Wd} {o : Nat} {hs : Int} {S : MS} (h1 : OA σ o hs) (h2 : SA D σ (o + 1) S) (hg : ∀ t, t < 4 → WFg (S.2.2 t)) : KX6_leavesOfAll l D [.ref o] σ (fun x σ' => x = sumF (fun t => cntP (S.2.2 t) 64) 4 ∧ σ' = σ) := by
  refine sp_of (by decide +kernel) (cat1 rfl) (Nat.le_of_ble_eq_true rfl) [some (.ref o), none, none] rfl (fun sz => ?_)
  refine j_iconst dX6_leavesOfAll_0 ?_
  refine j_istore_n dX6_leavesOfAll_1 (by decide) (by dsimp only [List.set] <;> rfl) ?_
  refine j_iconst dX6_leavesOfAll_2 ?_
  refine j_istore_n dX6_leavesOfAll_3 (by decide) (by dsimp only [List.set] <;> rfl) ?_
  have lp4 : ∀ (nn i : Nat) (c : Int), 5 - i < nn → i ≤ 4 → c = sumF (fun t => cntP (S.2.2 t) 64) i → J l D yX6_leavesOfAll cX6_leavesOfAll 3 (some .int) rmX6_leavesOfAll sz (AA σ sz) (QI D σ sz (fun x σ' => x = sumF (fun t => cntP (S.2.2 t) 64) 4 ∧ σ' = σ)) 0 0 4 [some (.ref o), some (vi c), some (vi i)] [] σ := by
    intro nn
    induction nn with
    | zero =>
      intro i c hnn hi hc
      exfalso
      omega
    | succ nn ih4 =>
      intro i c hnn hi hc
      refine j_iload_n dX6_leavesOfAll_4 rfl ?_
      refine j_iconst dX6_leavesOfAll_5 ?_
      refine j_icmp_ge (tgt := 32) dX6_leavesOfAll_6 (by decide) ⟨by omega, by omega⟩ ⟨by omega, by omega⟩ (fun h6 => ?_) (fun h6 => ?_)
      · skip
        refine j_iload_n dX6_leavesOfAll_32 rfl ?_
        exact j_iret dX6_leavesOfAll_33 ⟨_, rfl, by rw [hc, show i = 4 by omega], rfl⟩
      · skip
        refine j_iload_n dX6_leavesOfAll_9 rfl ?_
        refine j_aload_n dX6_leavesOfAll_10 rfl ?_
        refine gf_X6_12 rfl dX6_leavesOfAll_11 h1 rfl ?_
        refine j_iload_n dX6_leavesOfAll_14 rfl ?_
        refine cl_X6_76 (As := [_]) rfl dX6_leavesOfAll_15 (c_X2_tableOf h2.1 h2.2.1 (by omega) (by omega)) h2.1 rfl ⟨by decide, by decide⟩ (Nat.le_of_ble_eq_true rfl) ⟨Nat.zero_le _, Nat.zero_le _⟩ (fun z15 σ15 hz15 => ?_)
        obtain ⟨hr15, hs15⟩ := hz15
        have hr15 := Eq.symm hr15
        have hs15 := Eq.symm hs15
        subst hr15
        subst hs15
        have htb := h2.2.2 i (by omega)
        refine gf_X6_93 rfl dX6_leavesOfAll_18 htb.1 rfl ?_
        refine cl_X6_156 (As := []) rfl dX6_leavesOfAll_21 (c_X5_leaves htb.2.2.1 htb.2.2.2 (hg i (by omega)).R) htb.2.2.1 rfl ⟨by decide, by decide⟩ (Nat.le_of_ble_eq_true rfl) ⟨Nat.zero_le _, Nat.zero_le _⟩ (fun z21 σ21 hz21 => ?_)
        obtain ⟨hr21, hs21⟩ := hz21
        have hr21 := Eq.symm hr21
        have hs21 := Eq.symm hs21
        subst hr21
        subst hs21
        refine j_iadd dX6_leavesOfAll_24 ?_
        refine j_istore_n dX6_leavesOfAll_25 (by decide) (by dsimp only [List.set] <;> rfl) ?_
        refine j_iinc dX6_leavesOfAll_26 rfl (by decide) (by dsimp only [List.set] <;> rfl) ?_
        refine j_goto (tgt := 4) dX6_leavesOfAll_29 (by decide) ?_
        refine j_weak (L := [some (.ref o), some (vi (c + cntP (S.2.2 i) 64)), some (vi ((i + 1 : Nat) : Int))]) ⟨rfl, rfl, rfl, trivial⟩ ?_
        exact ih4 (i + 1) _ (by omega) (by omega) (by rw [hc]; rfl)
  exact lp4 6 0 0 (by omega) (by omega) rfl

/-! ===== contracts: the class's own helpers ===== -/
def TXE (D : gD) (w : Wd) (x n : Nat) (ch : Nat → Int) : Prop := ∃ (pl nr tg lf rt op : Int) (nm : Nat → Int), TX D w x n pl nr tg lf rt op ch nm
def rfs (ch : Nat → Int) (n : Nat) (p t k : Int) : Int := if ¬ (0 ≤ t ∧ t < 4) then -1 else if ¬ (0 ≤ k ∧ k < 8) then -2 else if rdF ch n 8 8 ≠ -1 then -100 - rdF ch n 8 8 else if p ≤ mxF (rd ch n 8 8).2.2 8 then -2 else 0
theorem mxF_cong {f g : Nat → Int} : ∀ {n : Nat}, (∀ j, j < n → f j = g j) → mxF f n = mxF g n
  | 0, _ => rfl
  | n + 1, h => by
    show (if mxF f n < f n then f n else mxF f n) = (if mxF g n < g n then g n else mxF g n)
    rw [mxF_cong (fun j hj => h j (by omega)), h n (by omega)]
def pcell (f f2 : Nat → Int) (r c : Nat) : Int := sumF (fun i => f (8 * r + i) * f2 (8 * i + c)) 8
def fcell (op : Int) (f f2 : Nat → Int) (r c : Nat) : Int := if op = 39 then f (8 * c + r) else if op = 42 then pcell f f2 r c else if op = 43 then f (8 * r + c) + f2 (8 * r + c) else if op = 45 then f (8 * r + c) - f2 (8 * r + c) else f (8 * r + c)
theorem at_nat {f : Nat → Int} {r c : Nat} (hr : r < 8) (hc : c < 8) : (if (0 ≤ (r : Int) ∧ (r : Int) < 8) ∧ 0 ≤ (c : Int) ∧ (c : Int) < 8 then f (8 * (r : Int) + (c : Int)).toNat else 0) = f (8 * r + c) := by
  rw [if_pos (by omega)]
  congr 1
/-- the cells behind addProduct, when i rows and j cells are done -/
def apF (p : Int) (F nm : Nat → Int) (s z : Nat) (i j : Nat) : Nat → Int := fun k =>
  if (rowN s ≤ ((k / 8 : Nat) : Int) ∧ ((k / 8 : Nat) : Int) < rowN s + z ∧ colN s ≤ ((k % 8 : Nat) : Int) ∧ ((k % 8 : Nat) : Int) < colN s + z) ∧ (((k / 8 : Nat) : Int) < rowN s + i ∨ (((k / 8 : Nat) : Int) = rowN s + i ∧ ((k % 8 : Nat) : Int) < colN s + j)) then
    (F k + nm (((k / 8 : Nat) : Int) - rowN s).toNat * nm (z + (((k % 8 : Nat) : Int) - colN s).toNat)) % p
  else F k
def lowF (m : Mx) (i j : Nat) : Int := if i = j then 1 else if j < i then m i j else 0
def uppF (m : Mx) (i j : Nat) : Int := if i ≤ j then m i j else 0

set_option maxRecDepth 100000 in
set_option maxHeartbeats 4000000 in
theorem c_X6_leafStart {l : Launch} {D : gD} {σ : Wd} {o : Nat} {hs : Int} {S : MS} {t e : Int} (h1 : OA σ o hs) (h2 : SA D σ (o + 1) S) (hg : ∀ t, t < 4 → WFg (S.2.2 t)) (ht : R32 t) (he : R32 e) : KX6_leafStart l D [.ref o, vi t, vi e] σ (fun r σ' => ((0 ≤ t ∧ t < 4 ∧ 0 ≤ r ∧ r < 64 ∧ 0 < S.2.2 t.toNat r.toNat ∧ cntP (S.2.2 t.toNat) r.toNat = e) ∨ (r = -1 ∧ ¬ (0 ≤ t ∧ t < 4 ∧ ∃ j : Nat, j < 64 ∧ 0 < S.2.2 t.toNat j ∧ cntP (S.2.2 t.toNat) j = e))) ∧ σ' = σ) := by
  refine sp_of (by decide +kernel) (cat1 rfl) (Nat.le_of_ble_eq_true rfl) [some (.ref o), some (vi t), some (vi e)] rfl (fun sz => ?_)
  refine j_iload_n dX6_leafStart_0 rfl ?_
  refine cl_X6_70 (As := [_]) rfl dX6_leafStart_1 (c_X6_isTable ht) rfl ⟨by decide, by decide⟩ (Nat.le_of_ble_eq_true rfl) ⟨Nat.zero_le _, Nat.zero_le _⟩ (fun z1 σ1 hz1 => ?_)
  obtain ⟨hr1, hs1⟩ := hz1
  have hr1 := Eq.symm hr1
  have hs1 := Eq.symm hs1
  subst hr1
  subst hs1
  refine j_if_eq (tgt := 25) dX6_leafStart_4 (by decide) (by split <;> exact rs (by omega) (by omega)) (fun h4 => ?_) (fun h4 => ?_)
  · skip
    have ht4 : ¬ (0 ≤ t ∧ t < 4) := fun q => absurd h4 (by rw [if_pos q]; omega)
    refine j_iconst dX6_leafStart_25 ?_
    exact j_iret dX6_leafStart_26 ⟨_, rfl, Or.inr ⟨rfl, fun q => ht4 ⟨q.1, q.2.1⟩⟩, rfl⟩
  · skip
    have ht4 : 0 ≤ t ∧ t < 4 := by
      rcases Classical.em (0 ≤ t ∧ t < 4) with q | q
      · exact q
      · exact absurd (if_neg q) h4
    refine j_aload_n dX6_leafStart_7 rfl ?_
    refine gf_X6_12 rfl dX6_leafStart_8 h1 rfl ?_
    refine j_iload_n dX6_leafStart_11 rfl ?_
    refine cl_X6_76 (As := [_]) rfl dX6_leafStart_12 (c_X2_tableOf h2.1 h2.2.1 (by omega) (by omega)) h2.1 rfl ⟨by decide, by decide⟩ (Nat.le_of_ble_eq_true rfl) ⟨Nat.zero_le _, Nat.zero_le _⟩ (fun z12 σ12 hz12 => ?_)
    obtain ⟨hr12, hs12⟩ := hz12
    have hr12 := Eq.symm hr12
    have hs12 := Eq.symm hs12
    subst hr12
    subst hs12
    have htb := h2.2.2 t.toNat (by omega)
    refine gf_X6_93 rfl dX6_leafStart_15 htb.1 rfl ?_
    refine j_iload_n dX6_leafStart_18 rfl ?_
    refine cl_X6_254 (As := [_]) rfl dX6_leafStart_19 (c_X5_startOf htb.2.2.1 htb.2.2.2 (hg t.toNat (by omega)).R he) htb.2.2.1 rfl ⟨by decide, by decide⟩ (Nat.le_of_ble_eq_true rfl) ⟨Nat.zero_le _, Nat.zero_le _⟩ (fun z19 σ19 hz19 => ?_)
    obtain ⟨hz19a, hz19b⟩ := hz19
    have hz19b := Eq.symm hz19b
    subst hz19b
    refine j_goto (tgt := 26) dX6_leafStart_22 (by decide) ?_
    exact j_iret dX6_leafStart_26 ⟨_, rfl, by rcases hz19a with q | ⟨q1, q2⟩; exact Or.inl ⟨ht4.1, ht4.2, q⟩; exact Or.inr ⟨q1, fun z => by obtain ⟨j, j1, j2, j3⟩ := z.2.2; exact q2 j j1 j2 j3⟩, rfl⟩
set_option maxRecDepth 100000 in
set_option maxHeartbeats 4000000 in
theorem c_X6_refusalOfRow {l : Launch} {D : gD} {σ : Wd} {o : Nat} {hs : Int} {S : MS} {n : Nat} {ch : Nat → Int} {t k : Int} (h1 : OA σ o hs) (h2 : SA D σ (o + 1) S) (h3 : TXE D σ (o + 111) n ch) (hp : primeB S.1 = true) (ht : R32 t) (hk : R32 k) : KX6_refusalOfRow l D [.ref o, vi t, vi k] σ (fun r σ' => r = rfs ch n S.1 t k ∧ OffR (o + 111) (o + 114) σ σ' ∧ TXE D σ' (o + 111) n ch ∧ (r = 0 → ∃ (pl tg lf rt op : Int) (nm : Nat → Int), TX D σ' (o + 111) n pl ((8 : Nat) : Int) tg lf rt op ch nm ∧ ∀ j, j < 8 → nm j = (rd ch n 8 8).2.2 j)) := by
  have hlo := primeB_lo hp
  obtain ⟨pl0, nr0, tg0, lf0, rt0, op0, nm0, hx⟩ := id h3
  have hrb := mxF_R (f := (rd ch n 8 8).2.2) (b := 999) (by omega) (n := 8) (fun j _ => (rd_B 8 j).2)
  have hrl := rd_le ch n 8 8
  refine sp_of (by decide +kernel) (cat1 rfl) (Nat.le_of_ble_eq_true rfl) [some (.ref o), some (vi t), some (vi k), none] rfl (fun sz => ?_)
  refine j_iload_n dX6_refusalOfRow_0 rfl ?_
  refine cl_X6_70 (As := [_]) rfl dX6_refusalOfRow_1 (c_X6_isTable ht) rfl ⟨by decide, by decide⟩ (Nat.le_of_ble_eq_true rfl) ⟨Nat.zero_le _, Nat.zero_le _⟩ (fun z1 σ1 hz1 => ?_)
  obtain ⟨hr1, hs1⟩ := hz1
  have hr1 := Eq.symm hr1
  have hs1 := Eq.symm hs1
  subst hr1
  subst hs1
  refine j_if_ne (tgt := 9) dX6_refusalOfRow_4 (by decide) (by split <;> exact rs (by omega) (by omega)) (fun h4 => ?_) (fun h4 => ?_)
  · skip
    have ht4 : 0 ≤ t ∧ t < 4 := by
      rcases Classical.em (0 ≤ t ∧ t < 4) with q | q
      · exact q
      · exact absurd (if_neg q) h4
    refine j_iload_n dX6_refusalOfRow_9 rfl ?_
    refine cl_X6_73 (As := [_]) rfl dX6_refusalOfRow_10 (c_X6_isInside hk) rfl ⟨by decide, by decide⟩ (Nat.le_of_ble_eq_true rfl) ⟨Nat.zero_le _, Nat.zero_le _⟩ (fun z10 σ10 hz10 => ?_)
    obtain ⟨hr10, hs10⟩ := hz10
    have hr10 := Eq.symm hr10
    have hs10 := Eq.symm hs10
    subst hr10
    subst hs10
    refine j_if_ne (tgt := 19) dX6_refusalOfRow_13 (by decide) (by split <;> exact rs (by omega) (by omega)) (fun h13 => ?_) (fun h13 => ?_)
    · skip
      have hk8 : 0 ≤ k ∧ k < 8 := by
        rcases Classical.em (0 ≤ k ∧ k < 8) with q | q
        · exact q
        · exact absurd (if_neg q) h13
      refine j_aload_n dX6_refusalOfRow_19 rfl ?_
      refine gf_X6_29 rfl dX6_refusalOfRow_20 h1 rfl ?_
      refine j_iconst dX6_refusalOfRow_23 ?_
      refine j_bipush dX6_refusalOfRow_24 (by decide) ?_
      refine cl_X6_100 (As := [_, _]) rfl dX6_refusalOfRow_26 (c_X4_readRows (rows := 1) (z := 8) hx (by omega)) hx.1 rfl ⟨by decide, by decide⟩ (Nat.le_of_ble_eq_true rfl) ⟨Nat.zero_le _, Nat.zero_le _⟩ (fun z26 σ26 hz26 => ?_)
      obtain ⟨hr26, ho26, pl1, nr1, nm1, hx1, hok1⟩ := hz26
      have hr26 : z26 = rdF ch n 8 8 := hr26
      have hrdR : R32 (rdF ch n 8 8) := by
        unfold rdF
        split <;> exact rs (by omega) (by omega)
      have hoR := ho26.toR (lo := o + 111) (hi := o + 114) (by simp)
      have h1b : OA σ26 o hs := hoR.get h1 (by omega)
      have h2b := h2.moved hoR (by omega)
      refine j_istore_n dX6_refusalOfRow_29 (by decide) (by dsimp only [List.set] <;> rfl) ?_
      refine j_iload_n dX6_refusalOfRow_30 rfl ?_
      refine j_iconst dX6_refusalOfRow_31 ?_
      refine j_icmp_eq (tgt := 40) dX6_refusalOfRow_32 (by decide) (by rw [hr26]; exact hrdR) ⟨by omega, by omega⟩ (fun h32 => ?_) (fun h32 => ?_)
      · skip
        refine j_aload_n dX6_refusalOfRow_40 rfl ?_
        refine gf_X6_29 rfl dX6_refusalOfRow_41 h1b rfl ?_
        obtain ⟨hn1, hag1⟩ := hok1 h32
        have hn8 : nr1 = ((8 : Nat) : Int) := hn1
        subst hn8
        have hmx : mxF nm1 8 = mxF (rd ch n 8 8).2.2 8 := mxF_cong hag1
        refine cl_X6_103 (As := []) rfl dX6_refusalOfRow_44 (c_X4_greatestNumber hx1 (by omega) (fun j hj => by rw [hag1 j hj]; exact rd_B 8 j)) hx1.1 rfl ⟨by decide, by decide⟩ (Nat.le_of_ble_eq_true rfl) ⟨Nat.zero_le _, Nat.zero_le _⟩ (fun z44 σ44 hz44 => ?_)
        obtain ⟨hr44, hs44⟩ := hz44
        have hr44 := Eq.symm hr44
        have hs44 := Eq.symm hs44
        subst hr44
        subst hs44
        refine j_aload_n dX6_refusalOfRow_47 rfl ?_
        refine gf_X6_12 rfl dX6_refusalOfRow_48 h1b rfl ?_
        refine gf_X6_58 rfl dX6_refusalOfRow_51 h2b.1 rfl ?_
        refine j_icmp_lt (tgt := 62) dX6_refusalOfRow_54 (by decide) (by rw [hmx]; exact rs (by omega) (by omega)) ⟨by omega, by omega⟩ (fun h54 => ?_) (fun h54 => ?_)
        · skip
          refine j_iconst dX6_refusalOfRow_62 ?_
          exact j_iret dX6_refusalOfRow_63 ⟨_, rfl, by unfold rfs; rw [if_neg (fun z => z ht4), if_neg (fun z => z hk8), if_neg (by rw [← hr26]; exact fun z => z h32), if_neg (by rw [← hmx]; omega)], hoR, ⟨_, _, _, _, _, _, _, hx1⟩, fun _ => ⟨_, _, _, _, _, _, hx1, hag1⟩⟩
        · skip
          refine j_bipush dX6_refusalOfRow_57 (by decide) ?_
          refine j_goto (tgt := 63) dX6_refusalOfRow_59 (by decide) ?_
          exact j_iret dX6_refusalOfRow_63 ⟨_, rfl, by unfold rfs; rw [if_neg (fun z => z ht4), if_neg (fun z => z hk8), if_neg (by rw [← hr26]; exact fun z => z h32), if_pos (by rw [← hmx]; omega)], hoR, ⟨_, _, _, _, _, _, _, hx1⟩, fun q => absurd q (by omega)⟩
      · skip
        refine j_bipush dX6_refusalOfRow_35 (by decide) ?_
        refine j_iload_n dX6_refusalOfRow_37 rfl ?_
        refine j_isub dX6_refusalOfRow_38 ?_
        exact j_iret dX6_refusalOfRow_39 ⟨_, rfl, by unfold rfs; rw [if_neg (fun z => z ht4), if_neg (fun z => z hk8), if_pos (by rw [← hr26]; exact h32), hr26], hoR, ⟨_, _, _, _, _, _, _, hx1⟩, fun q => by rw [hr26] at q; have := hrdR; exfalso; unfold rdF at q; split at q <;> omega⟩
    · skip
      have hk8 : ¬ (0 ≤ k ∧ k < 8) := fun q => absurd h13 (by rw [if_pos q]; omega)
      refine j_bipush dX6_refusalOfRow_16 (by decide) ?_
      exact j_iret dX6_refusalOfRow_18 ⟨_, rfl, by unfold rfs; rw [if_neg (fun z => z ht4), if_pos hk8], OffR.rf, h3, fun q => absurd q (by omega)⟩
  · skip
    have ht4 : ¬ (0 ≤ t ∧ t < 4) := fun q => absurd h4 (by rw [if_pos q]; omega)
    refine j_iconst dX6_refusalOfRow_7 ?_
    exact j_iret dX6_refusalOfRow_8 ⟨_, rfl, by unfold rfs; rw [if_pos ht4], OffR.rf, h3, fun q => absurd q (by omega)⟩
set_option maxRecDepth 100000 in
set_option maxHeartbeats 4000000 in
theorem c_X6_productCell {l : Launch} {D : gD} {σ : Wd} {a b cA tA cB tB r c : Nat} {f f2 : Nat → Int} (h1 : σ a = some (.inr (3, [.ref cA, .ref tA]))) (h2 : IA D σ cA 64 f) (h3 : σ b = some (.inr (3, [.ref cB, .ref tB]))) (h4 : IA D σ cB 64 f2) (hr : r < 8) (hc : c < 8) : KX6_productCell l D [.ref a, .ref b, vi r, vi c] σ (fun x σ' => x = pcell f f2 r c ∧ σ' = σ) := by
  refine sp_of (by decide +kernel) (cat1 rfl) (Nat.le_of_ble_eq_true rfl) [some (.ref a), some (.ref b), some (vi r), some (vi c), none, none] rfl (fun sz => ?_)
  refine j_iconst dX6_productCell_0 ?_
  refine j_istore dX6_productCell_1 (by decide) (by dsimp only [List.set] <;> rfl) ?_
  refine j_iconst dX6_productCell_3 ?_
  refine j_istore dX6_productCell_4 (by decide) (by dsimp only [List.set] <;> rfl) ?_
  have lp6 : ∀ (nn i : Nat) (x : Int), 9 - i < nn → i ≤ 8 → x = sumF (fun i => f (8 * r + i) * f2 (8 * i + c)) i → J l D yX6_productCell cX6_productCell 6 (some .int) rmX6_productCell sz (AA σ sz) (QI D σ sz (fun x σ' => x = pcell f f2 r c ∧ σ' = σ)) 0 0 6 [some (.ref a), some (.ref b), some (vi r), some (vi c), some (vi x), some (vi i)] [] σ := by
    intro nn
    induction nn with
    | zero =>
      intro i x hnn hi hx
      exfalso
      omega
    | succ nn ih6 =>
      intro i x hnn hi hx
      refine j_iload dX6_productCell_6 rfl ?_
      refine j_bipush dX6_productCell_8 (by decide) ?_
      refine j_icmp_ge (tgt := 39) dX6_productCell_10 (by decide) ⟨by omega, by omega⟩ ⟨by omega, by omega⟩ (fun h10 => ?_) (fun h10 => ?_)
      · skip
        refine j_iload dX6_productCell_39 rfl ?_
        exact j_iret dX6_productCell_41 ⟨_, rfl, by rw [hx, show i = 8 by omega]; rfl, rfl⟩
      · skip
        refine j_iload dX6_productCell_13 rfl ?_
        refine j_aload_n dX6_productCell_15 rfl ?_
        refine j_iload_n dX6_productCell_16 rfl ?_
        refine j_iload dX6_productCell_17 rfl ?_
        refine cl_X6_80 (As := [_, _]) rfl dX6_productCell_19 (c_X3_at h1 h2 (r := r) (c := i) (rs (by omega) (by omega)) (rs (by omega) (by omega))) h1 rfl ⟨by decide, by decide⟩ (Nat.le_of_ble_eq_true rfl) ⟨Nat.zero_le _, Nat.zero_le _⟩ (fun z19 σ19 hz19 => ?_)
        obtain ⟨hr19, hs19⟩ := hz19
        have hr19 := Eq.symm hr19
        have hs19 := Eq.symm hs19
        subst hr19
        subst hs19
        rw [at_nat hr (by omega)]
        refine j_aload_n dX6_productCell_22 rfl ?_
        refine j_iload dX6_productCell_23 rfl ?_
        refine j_iload_n dX6_productCell_25 rfl ?_
        refine cl_X6_80 (As := [_, _]) rfl dX6_productCell_26 (c_X3_at h3 h4 (r := i) (c := c) (rs (by omega) (by omega)) (rs (by omega) (by omega))) h3 rfl ⟨by decide, by decide⟩ (Nat.le_of_ble_eq_true rfl) ⟨Nat.zero_le _, Nat.zero_le _⟩ (fun z26 σ26 hz26 => ?_)
        obtain ⟨hr26, hs26⟩ := hz26
        have hr26 := Eq.symm hr26
        have hs26 := Eq.symm hs26
        subst hr26
        subst hs26
        rw [at_nat (by omega) hc]
        refine j_imul dX6_productCell_29 ?_
        refine j_iadd dX6_productCell_30 ?_
        refine j_istore dX6_productCell_31 (by decide) (by dsimp only [List.set] <;> rfl) ?_
        refine j_iinc dX6_productCell_33 rfl (by decide) (by dsimp only [List.set] <;> rfl) ?_
        refine j_goto (tgt := 6) dX6_productCell_36 (by decide) ?_
        refine j_weak (L := [some (.ref a), some (.ref b), some (vi r), some (vi c), some (vi (x + f (8 * r + i) * f2 (8 * i + c))), some (vi ((i + 1 : Nat) : Int))]) ⟨rfl, rfl, rfl, rfl, rfl, rfl, trivial⟩ ?_
        exact ih6 (i + 1) _ (by omega) (by omega) (by rw [hx]; rfl)
  exact lp6 10 0 0 (by omega) (by omega) rfl
set_option maxRecDepth 100000 in
set_option maxHeartbeats 4000000 in
theorem c_X6_formulaCell {l : Launch} {D : gD} {σ : Wd} {o n : Nat} {hs : Int} {pl nr tg lf rt op : Int} {ch nm : Nat → Int} {a b cA tA cB tB r c : Nat} {f f2 : Nat → Int} (k1 : OA σ o hs) (k2 : TX D σ (o + 111) n pl nr tg lf rt op ch nm) (hop : R32 op) (h1 : σ a = some (.inr (3, [.ref cA, .ref tA]))) (h2 : IA D σ cA 64 f) (h3 : σ b = some (.inr (3, [.ref cB, .ref tB]))) (h4 : IA D σ cB 64 f2) (hr : r < 8) (hc : c < 8) : KX6_formulaCell l D [.ref o, .ref a, .ref b, vi r, vi c] σ (fun x σ' => x = fcell op f f2 r c ∧ σ' = σ) := by
  refine sp_of (by decide +kernel) (cat1 rfl) (Nat.le_of_ble_eq_true rfl) [some (.ref o), some (.ref a), some (.ref b), some (vi r), some (vi c)] rfl (fun sz => ?_)
  refine j_aload_n dX6_formulaCell_0 rfl ?_
  refine gf_X6_29 rfl dX6_formulaCell_1 k1 rfl ?_
  refine gf_X6_257 rfl dX6_formulaCell_4 k2.1 rfl ?_
  rcases Classical.em (op = 39) with hs7 | hs7_0
  · skip
    subst hs7
    refine j_tsIn (tgt := 89) dX6_formulaCell_7 ⟨by omega, by omega⟩ (by omega) (by omega) rfl (by decide) ?_
    refine j_aload_n dX6_formulaCell_89 rfl ?_
    refine j_iload dX6_formulaCell_90 rfl ?_
    refine j_iload_n dX6_formulaCell_92 rfl ?_
    refine cl_X6_80 (As := [_, _]) rfl dX6_formulaCell_93 (c_X3_at h1 h2 (r := c) (c := r) (rs (by omega) (by omega)) (rs (by omega) (by omega))) h1 rfl ⟨by decide, by decide⟩ (Nat.le_of_ble_eq_true rfl) ⟨Nat.zero_le _, Nat.zero_le _⟩ (fun z93 σ93 hz93 => ?_)
    obtain ⟨hr93, hs93⟩ := hz93
    have hr93 := Eq.symm hr93
    have hs93 := Eq.symm hs93
    subst hr93
    subst hs93
    rw [at_nat hc hr]
    exact j_iret dX6_formulaCell_96 ⟨_, rfl, by unfold fcell; first | rfl | (rw [if_neg (by omega), if_neg (by omega), if_neg (by omega), if_neg (by omega)]), rfl⟩
  rcases Classical.em (op = 40) with hs7 | hs7_1
  · skip
    subst hs7
    refine j_tsIn (tgt := 97) dX6_formulaCell_7 ⟨by omega, by omega⟩ (by omega) (by omega) rfl (by decide) ?_
    refine j_aload_n dX6_formulaCell_97 rfl ?_
    refine j_iload_n dX6_formulaCell_98 rfl ?_
    refine j_iload dX6_formulaCell_99 rfl ?_
    refine cl_X6_80 (As := [_, _]) rfl dX6_formulaCell_101 (c_X3_at h1 h2 (r := r) (c := c) (rs (by omega) (by omega)) (rs (by omega) (by omega))) h1 rfl ⟨by decide, by decide⟩ (Nat.le_of_ble_eq_true rfl) ⟨Nat.zero_le _, Nat.zero_le _⟩ (fun z101 σ101 hz101 => ?_)
    obtain ⟨hr101, hs101⟩ := hz101
    have hr101 := Eq.symm hr101
    have hs101 := Eq.symm hs101
    subst hr101
    subst hs101
    rw [at_nat hr hc]
    exact j_iret dX6_formulaCell_104 ⟨_, rfl, by unfold fcell; first | rfl | (rw [if_neg (by omega), if_neg (by omega), if_neg (by omega), if_neg (by omega)]), rfl⟩
  rcases Classical.em (op = 41) with hs7 | hs7_2
  · skip
    subst hs7
    refine j_tsIn (tgt := 97) dX6_formulaCell_7 ⟨by omega, by omega⟩ (by omega) (by omega) rfl (by decide) ?_
    refine j_aload_n dX6_formulaCell_97 rfl ?_
    refine j_iload_n dX6_formulaCell_98 rfl ?_
    refine j_iload dX6_formulaCell_99 rfl ?_
    refine cl_X6_80 (As := [_, _]) rfl dX6_formulaCell_101 (c_X3_at h1 h2 (r := r) (c := c) (rs (by omega) (by omega)) (rs (by omega) (by omega))) h1 rfl ⟨by decide, by decide⟩ (Nat.le_of_ble_eq_true rfl) ⟨Nat.zero_le _, Nat.zero_le _⟩ (fun z101 σ101 hz101 => ?_)
    obtain ⟨hr101, hs101⟩ := hz101
    have hr101 := Eq.symm hr101
    have hs101 := Eq.symm hs101
    subst hr101
    subst hs101
    rw [at_nat hr hc]
    exact j_iret dX6_formulaCell_104 ⟨_, rfl, by unfold fcell; first | rfl | (rw [if_neg (by omega), if_neg (by omega), if_neg (by omega), if_neg (by omega)]), rfl⟩
  rcases Classical.em (op = 42) with hs7 | hs7_3
  · skip
    subst hs7
    refine j_tsIn (tgt := 80) dX6_formulaCell_7 ⟨by omega, by omega⟩ (by omega) (by omega) rfl (by decide) ?_
    refine j_aload_n dX6_formulaCell_80 rfl ?_
    refine j_aload_n dX6_formulaCell_81 rfl ?_
    refine j_iload_n dX6_formulaCell_82 rfl ?_
    refine j_iload dX6_formulaCell_83 rfl ?_
    refine cl_X6_260 (As := [_, _, _, _]) rfl dX6_formulaCell_85 (c_X6_productCell h1 h2 h3 h4 hr hc) rfl ⟨by decide, by decide⟩ (Nat.le_of_ble_eq_true rfl) ⟨Nat.zero_le _, Nat.zero_le _⟩ (fun z85 σ85 hz85 => ?_)
    obtain ⟨hr85, hs85⟩ := hz85
    have hr85 := Eq.symm hr85
    have hs85 := Eq.symm hs85
    subst hr85
    subst hs85
    exact j_iret dX6_formulaCell_88 ⟨_, rfl, by unfold fcell; first | rfl | (rw [if_neg (by omega), if_neg (by omega), if_neg (by omega), if_neg (by omega)]), rfl⟩
  rcases Classical.em (op = 43) with hs7 | hs7_4
  · skip
    subst hs7
    refine j_tsIn (tgt := 48) dX6_formulaCell_7 ⟨by omega, by omega⟩ (by omega) (by omega) rfl (by decide) ?_
    refine j_aload_n dX6_formulaCell_48 rfl ?_
    refine j_iload_n dX6_formulaCell_49 rfl ?_
    refine j_iload dX6_formulaCell_50 rfl ?_
    refine cl_X6_80 (As := [_, _]) rfl dX6_formulaCell_52 (c_X3_at h1 h2 (r := r) (c := c) (rs (by omega) (by omega)) (rs (by omega) (by omega))) h1 rfl ⟨by decide, by decide⟩ (Nat.le_of_ble_eq_true rfl) ⟨Nat.zero_le _, Nat.zero_le _⟩ (fun z52 σ52 hz52 => ?_)
    obtain ⟨hr52, hs52⟩ := hz52
    have hr52 := Eq.symm hr52
    have hs52 := Eq.symm hs52
    subst hr52
    subst hs52
    rw [at_nat hr hc]
    refine j_aload_n dX6_formulaCell_55 rfl ?_
    refine j_iload_n dX6_formulaCell_56 rfl ?_
    refine j_iload dX6_formulaCell_57 rfl ?_
    refine cl_X6_80 (As := [_, _]) rfl dX6_formulaCell_59 (c_X3_at h3 h4 (r := r) (c := c) (rs (by omega) (by omega)) (rs (by omega) (by omega))) h3 rfl ⟨by decide, by decide⟩ (Nat.le_of_ble_eq_true rfl) ⟨Nat.zero_le _, Nat.zero_le _⟩ (fun z59 σ59 hz59 => ?_)
    obtain ⟨hr59, hs59⟩ := hz59
    have hr59 := Eq.symm hr59
    have hs59 := Eq.symm hs59
    subst hr59
    subst hs59
    rw [at_nat hr hc]
    refine j_iadd dX6_formulaCell_62 ?_
    exact j_iret dX6_formulaCell_63 ⟨_, rfl, by unfold fcell; first | rfl | (rw [if_neg (by omega), if_neg (by omega), if_neg (by omega), if_neg (by omega)]), rfl⟩
  rcases Classical.em (op = 44) with hs7 | hs7_5
  · skip
    subst hs7
    refine j_tsIn (tgt := 97) dX6_formulaCell_7 ⟨by omega, by omega⟩ (by omega) (by omega) rfl (by decide) ?_
    refine j_aload_n dX6_formulaCell_97 rfl ?_
    refine j_iload_n dX6_formulaCell_98 rfl ?_
    refine j_iload dX6_formulaCell_99 rfl ?_
    refine cl_X6_80 (As := [_, _]) rfl dX6_formulaCell_101 (c_X3_at h1 h2 (r := r) (c := c) (rs (by omega) (by omega)) (rs (by omega) (by omega))) h1 rfl ⟨by decide, by decide⟩ (Nat.le_of_ble_eq_true rfl) ⟨Nat.zero_le _, Nat.zero_le _⟩ (fun z101 σ101 hz101 => ?_)
    obtain ⟨hr101, hs101⟩ := hz101
    have hr101 := Eq.symm hr101
    have hs101 := Eq.symm hs101
    subst hr101
    subst hs101
    rw [at_nat hr hc]
    exact j_iret dX6_formulaCell_104 ⟨_, rfl, by unfold fcell; first | rfl | (rw [if_neg (by omega), if_neg (by omega), if_neg (by omega), if_neg (by omega)]), rfl⟩
  rcases Classical.em (op = 45) with hs7 | hs7_6
  · skip
    subst hs7
    refine j_tsIn (tgt := 64) dX6_formulaCell_7 ⟨by omega, by omega⟩ (by omega) (by omega) rfl (by decide) ?_
    refine j_aload_n dX6_formulaCell_64 rfl ?_
    refine j_iload_n dX6_formulaCell_65 rfl ?_
    refine j_iload dX6_formulaCell_66 rfl ?_
    refine cl_X6_80 (As := [_, _]) rfl dX6_formulaCell_68 (c_X3_at h1 h2 (r := r) (c := c) (rs (by omega) (by omega)) (rs (by omega) (by omega))) h1 rfl ⟨by decide, by decide⟩ (Nat.le_of_ble_eq_true rfl) ⟨Nat.zero_le _, Nat.zero_le _⟩ (fun z68 σ68 hz68 => ?_)
    obtain ⟨hr68, hs68⟩ := hz68
    have hr68 := Eq.symm hr68
    have hs68 := Eq.symm hs68
    subst hr68
    subst hs68
    rw [at_nat hr hc]
    refine j_aload_n dX6_formulaCell_71 rfl ?_
    refine j_iload_n dX6_formulaCell_72 rfl ?_
    refine j_iload dX6_formulaCell_73 rfl ?_
    refine cl_X6_80 (As := [_, _]) rfl dX6_formulaCell_75 (c_X3_at h3 h4 (r := r) (c := c) (rs (by omega) (by omega)) (rs (by omega) (by omega))) h3 rfl ⟨by decide, by decide⟩ (Nat.le_of_ble_eq_true rfl) ⟨Nat.zero_le _, Nat.zero_le _⟩ (fun z75 σ75 hz75 => ?_)
    obtain ⟨hr75, hs75⟩ := hz75
    have hr75 := Eq.symm hr75
    have hs75 := Eq.symm hs75
    subst hr75
    subst hs75
    rw [at_nat hr hc]
    refine j_isub dX6_formulaCell_78 ?_
    exact j_iret dX6_formulaCell_79 ⟨_, rfl, by unfold fcell; first | rfl | (rw [if_neg (by omega), if_neg (by omega), if_neg (by omega), if_neg (by omega)]), rfl⟩
  refine j_tsOut (tgt := 97) dX6_formulaCell_7 hop (by omega) (by decide) ?_
  refine j_aload_n dX6_formulaCell_97 rfl ?_
  refine j_iload_n dX6_formulaCell_98 rfl ?_
  refine j_iload dX6_formulaCell_99 rfl ?_
  refine cl_X6_80 (As := [_, _]) rfl dX6_formulaCell_101 (c_X3_at h1 h2 (r := r) (c := c) (rs (by omega) (by omega)) (rs (by omega) (by omega))) h1 rfl ⟨by decide, by decide⟩ (Nat.le_of_ble_eq_true rfl) ⟨Nat.zero_le _, Nat.zero_le _⟩ (fun z101 σ101 hz101 => ?_)
  obtain ⟨hr101, hs101⟩ := hz101
  have hr101 := Eq.symm hr101
  have hs101 := Eq.symm hs101
  subst hr101
  subst hs101
  rw [at_nat hr hc]
  exact j_iret dX6_formulaCell_104 ⟨_, rfl, by unfold fcell; first | rfl | (rw [if_neg (by omega), if_neg (by omega), if_neg (by omega), if_neg (by omega)]), rfl⟩
set_option maxRecDepth 100000 in
set_option maxHeartbeats 4000000 in
theorem c_X6_addRowsOfText {l : Launch} {D : gD} {σ : Wd} {o t s z n : Nat} {hs : Int} {S : MS} {pl tg lf rt op : Int} {ch nm : Nat → Int} (h1 : OA σ o hs) (h2 : SA D σ (o + 1) S) (h3 : TX D σ (o + 111) n pl ((2 * z : Nat) : Int) tg lf rt op ch nm) (ht : t < 4) (hp : primeB S.1 = true) (hF : CB S.1 (S.2.1 t)) (hb : okBlk s z) (hnm : ∀ j, j < 2 * z → 0 ≤ nm j ∧ nm j < S.1) : KX6_addRowsOfText l D [.ref o, .ref (o + 1 + 2 + 4 * t), vi s, vi z] σ (fun σ' => OffR (o + 1) (o + 19) σ σ' ∧ SA D σ' (o + 1) (S.1, fup S.2.1 t (apF S.1 (S.2.1 t) nm s z z 0), S.2.2)) := by
  have hlo := primeB_lo hp
  obtain ⟨hb1, hb2, hb3, hb4⟩ := id hb
  have hrR := rowN_R s
  have hcR := colN_R s
  refine sp_of (by decide +kernel) (cat1 rfl) (Nat.le_of_ble_eq_true rfl) [some (.ref o), some (.ref (o + 1 + 2 + 4 * t)), some (vi s), some (vi z), none, none, none, none, none, none] rfl (fun sz => ?_)
  refine j_iload_n dX6_addRowsOfText_0 rfl ?_
  refine cl_X6_218 (As := [_]) rfl dX6_addRowsOfText_1 (c_X5_rowOf (by omega)) rfl ⟨by decide, by decide⟩ (Nat.le_of_ble_eq_true rfl) ⟨Nat.zero_le _, Nat.zero_le _⟩ (fun z1 σ1 hz1 => ?_)
  obtain ⟨hr1, hs1⟩ := hz1
  have hr1 := Eq.symm hr1
  have hs1 := Eq.symm hs1
  subst hr1
  subst hs1
  refine j_istore dX6_addRowsOfText_4 (by decide) (by dsimp only [List.set] <;> rfl) ?_
  refine j_iload_n dX6_addRowsOfText_6 rfl ?_
  refine cl_X6_221 (As := [_]) rfl dX6_addRowsOfText_7 (c_X5_columnOf hb1) rfl ⟨by decide, by decide⟩ (Nat.le_of_ble_eq_true rfl) ⟨Nat.zero_le _, Nat.zero_le _⟩ (fun z7 σ7 hz7 => ?_)
  obtain ⟨hr7, hs7⟩ := hz7
  have hr7 := Eq.symm hr7
  have hs7 := Eq.symm hs7
  subst hr7
  subst hs7
  refine j_istore dX6_addRowsOfText_10 (by decide) (by dsimp only [List.set] <;> rfl) ?_
  refine j_iconst dX6_addRowsOfText_12 ?_
  refine j_istore dX6_addRowsOfText_13 (by decide) (by dsimp only [List.set] <;> rfl) ?_
  have lp15 : ∀ (nn i : Nat) (w : Wd), 9 - i < nn → i ≤ z → OffR (o + 1) (o + 19) σ w → SA D w (o + 1) (S.1, fup S.2.1 t (apF S.1 (S.2.1 t) nm s z i 0), S.2.2) → J l D yX6_addRowsOfText cX6_addRowsOfText 10 none rmX6_addRowsOfText sz (AA σ sz) (QV D σ sz (fun σ' => OffR (o + 1) (o + 19) σ σ' ∧ SA D σ' (o + 1) (S.1, fup S.2.1 t (apF S.1 (S.2.1 t) nm s z z 0), S.2.2))) 0 0 15 [some (.ref o), some (.ref (o + 1 + 2 + 4 * t)), some (vi s), some (vi z), some (vi (rowN s)), some (vi (colN s)), some (vi i), none, none, none] [] w := by
    intro nn
    induction nn with
    | zero =>
      intro i w hnn hi ho hw
      exfalso
      omega
    | succ nn ih15 =>
      intro i w hnn hi ho hw
      refine j_iload dX6_addRowsOfText_15 rfl ?_
      refine j_iload_n dX6_addRowsOfText_17 rfl ?_
      refine j_icmp_ge (tgt := 110) dX6_addRowsOfText_18 (by decide) ⟨by omega, by omega⟩ ⟨by omega, by omega⟩ (fun h18 => ?_) (fun h18 => ?_)
      · skip
        exact j_vret dX6_addRowsOfText_110 ⟨rfl, ho, (show i = z by omega) ▸ hw⟩
      · skip
        refine j_iconst dX6_addRowsOfText_21 ?_
        refine j_istore dX6_addRowsOfText_22 (by decide) (by dsimp only [List.set] <;> rfl) ?_
        have lp24 : ∀ (nn2 j : Nat) (v : Wd), 9 - j < nn2 → j ≤ z → OffR (o + 1) (o + 19) σ v → SA D v (o + 1) (S.1, fup S.2.1 t (apF S.1 (S.2.1 t) nm s z i j), S.2.2) → J l D yX6_addRowsOfText cX6_addRowsOfText 10 none rmX6_addRowsOfText sz (AA σ sz) (QV D σ sz (fun σ' => OffR (o + 1) (o + 19) σ σ' ∧ SA D σ' (o + 1) (S.1, fup S.2.1 t (apF S.1 (S.2.1 t) nm s z z 0), S.2.2))) 0 0 24 [some (.ref o), some (.ref (o + 1 + 2 + 4 * t)), some (vi s), some (vi z), some (vi (rowN s)), some (vi (colN s)), some (vi i), some (vi j), none, none] [] v := by
          intro nn
          induction nn with
          | zero =>
            intro j v hnn2 hj hov hv2
            exfalso
            omega
          | succ nn ih24 =>
            intro j v hnn2 hj hov hv2
            have hv1 : OA v o hs := hov.get h1 (by omega)
            have hv3 := h3.moved hov (by omega)
            have hvt := hv2.2.2 t ht
            refine j_iload dX6_addRowsOfText_24 rfl ?_
            refine j_iload_n dX6_addRowsOfText_26 rfl ?_
            refine j_icmp_ge (tgt := 104) dX6_addRowsOfText_27 (by decide) ⟨by omega, by omega⟩ ⟨by omega, by omega⟩ (fun h27 => ?_) (fun h27 => ?_)
            · skip
              refine j_iinc dX6_addRowsOfText_104 rfl (by decide) (by dsimp only [List.set] <;> rfl) ?_
              refine j_goto (tgt := 15) dX6_addRowsOfText_107 (by decide) ?_
              refine j_weak (L := [some (.ref o), some (.ref (o + 1 + 2 + 4 * t)), some (vi s), some (vi z), some (vi (rowN s)), some (vi (colN s)), some (vi ((i + 1 : Nat) : Int)), none, none, none]) ⟨rfl, rfl, rfl, rfl, rfl, rfl, rfl, trivial⟩ ?_
              exact ih15 (i + 1) _ (by omega) (by omega) hov (hv2.ext rfl (fun u hu k hk => ⟨by
                by_cases a : u = t
                · rw [a]
                  show fup S.2.1 t _ t k = fup S.2.1 t _ t k
                  rw [fup_s, fup_s]
                  unfold apF
                  by_cases b : (rowN s ≤ ((k / 8 : Nat) : Int) ∧ ((k / 8 : Nat) : Int) < rowN s + z ∧ colN s ≤ ((k % 8 : Nat) : Int) ∧ ((k % 8 : Nat) : Int) < colN s + z) ∧ (((k / 8 : Nat) : Int) < rowN s + i ∨ (((k / 8 : Nat) : Int) = rowN s + i ∧ ((k % 8 : Nat) : Int) < colN s + j))
                  · rw [if_pos b, if_pos (by omega)]
                  · rw [if_neg b, if_neg (by omega)]
                · show fup S.2.1 t _ u k = fup S.2.1 t _ u k
                  rw [fup_n a, fup_n a], rfl⟩))
            · skip
              refine j_aload_n dX6_addRowsOfText_30 rfl ?_
              refine gf_X6_29 rfl dX6_addRowsOfText_31 hv1 rfl ?_
              refine j_iload dX6_addRowsOfText_34 rfl ?_
              refine cl_X6_236 (As := [_]) rfl dX6_addRowsOfText_36 (c_X4_numberAt hv3 (by omega) (by omega)) hv3.1 rfl ⟨by decide, by decide⟩ (Nat.le_of_ble_eq_true rfl) ⟨Nat.zero_le _, Nat.zero_le _⟩ (fun z36 σ36 hz36 => ?_)
              obtain ⟨hr36, hs36⟩ := hz36
              have hr36 := Eq.symm hr36
              have hs36 := Eq.symm hs36
              subst hr36
              subst hs36
              refine j_aload_n dX6_addRowsOfText_39 rfl ?_
              refine gf_X6_29 rfl dX6_addRowsOfText_40 hv1 rfl ?_
              refine j_iload_n dX6_addRowsOfText_43 rfl ?_
              refine j_iload dX6_addRowsOfText_44 rfl ?_
              refine j_iadd dX6_addRowsOfText_46 ?_
              rw [show (z : Int) + (j : Int) = ((z + j : Nat) : Int) from rfl]
              refine cl_X6_236 (As := [_]) rfl dX6_addRowsOfText_47 (c_X4_numberAt hv3 (by omega) (by omega)) hv3.1 rfl ⟨by decide, by decide⟩ (Nat.le_of_ble_eq_true rfl) ⟨Nat.zero_le _, Nat.zero_le _⟩ (fun z47 σ47 hz47 => ?_)
              obtain ⟨hr47, hs47⟩ := hz47
              have hr47 := Eq.symm hr47
              have hs47 := Eq.symm hs47
              subst hr47
              subst hs47
              refine j_imul dX6_addRowsOfText_50 ?_
              refine j_istore dX6_addRowsOfText_51 (by decide) (by dsimp only [List.set] <;> rfl) ?_
              refine j_aload_n dX6_addRowsOfText_53 rfl ?_
              refine j_iload dX6_addRowsOfText_54 rfl ?_
              refine j_iload dX6_addRowsOfText_56 rfl ?_
              refine j_iadd dX6_addRowsOfText_58 ?_
              refine j_iload dX6_addRowsOfText_59 rfl ?_
              refine j_iload dX6_addRowsOfText_61 rfl ?_
              refine j_iadd dX6_addRowsOfText_63 ?_
              refine cl_X6_80 (As := [_, _]) rfl dX6_addRowsOfText_64 (c_X3_at hvt.1 hvt.2.1 (rs (by omega) (by omega)) (rs (by omega) (by omega))) hvt.1 rfl ⟨by decide, by decide⟩ (Nat.le_of_ble_eq_true rfl) ⟨Nat.zero_le _, Nat.zero_le _⟩ (fun z64 σ64 hz64 => ?_)
              obtain ⟨hr64, hs64⟩ := hz64
              have hr64 := Eq.symm hr64
              have hs64 := Eq.symm hs64
              subst hr64
              subst hs64
              have hni := hnm i (by omega)
              have hnj := hnm (z + j) (by omega)
              have hmul := mul_R (m := 251) (n := 251) hni.1 (by omega) hnj.1 (by omega) (by omega)
              obtain ⟨kx, hkx⟩ : ∃ kx : Nat, 8 * (rowN s + (i : Int)) + (colN s + (j : Int)) = (kx : Int) := Int.eq_ofNat_of_zero_le (by omega)
              have hkb := hF kx (by omega)
              have hgk : apF S.1 (S.2.1 t) nm s z i j kx = S.2.1 t kx := by
                unfold apF
                rw [if_neg (by omega)]
              refine j_tops (show _ = S.2.1 t kx by rw [if_pos (by omega), hkx]; show fup S.2.1 t _ t kx = _; rw [fup_s]; exact hgk) ?_
              refine j_iload dX6_addRowsOfText_67 rfl ?_
              refine j_iadd dX6_addRowsOfText_69 ?_
              refine j_istore dX6_addRowsOfText_70 (by decide) (by dsimp only [List.set] <;> rfl) ?_
              refine j_aload_n dX6_addRowsOfText_72 rfl ?_
              refine j_iload dX6_addRowsOfText_73 rfl ?_
              refine j_iload dX6_addRowsOfText_75 rfl ?_
              refine j_iadd dX6_addRowsOfText_77 ?_
              refine j_iload dX6_addRowsOfText_78 rfl ?_
              refine j_iload dX6_addRowsOfText_80 rfl ?_
              refine j_iadd dX6_addRowsOfText_82 ?_
              refine j_iload dX6_addRowsOfText_83 rfl ?_
              refine j_aload_n dX6_addRowsOfText_85 rfl ?_
              refine gf_X6_12 rfl dX6_addRowsOfText_86 hv1 rfl ?_
              refine gf_X6_58 rfl dX6_addRowsOfText_89 hv2.1 rfl ?_
              refine cl_X6_128 (As := [_, _]) rfl dX6_addRowsOfText_92 (c_X6_remainder (rs (by omega) (by omega)) (by omega) (by omega)) rfl ⟨by decide, by decide⟩ (Nat.le_of_ble_eq_true rfl) ⟨Nat.zero_le _, Nat.zero_le _⟩ (fun z92 σ92 hz92 => ?_)
              obtain ⟨hr92, hs92⟩ := hz92
              have hr92 := Eq.symm hr92
              have hs92 := Eq.symm hs92
              subst hr92
              subst hs92
              refine cl_X6_86 (As := [_, _, _]) rfl dX6_addRowsOfText_95 (c_X3_put hvt.1 hvt.2.1 (rs (by omega) (by omega)) (rs (by omega) (by omega))) hvt.1 rfl ⟨by decide, by decide⟩ (Nat.le_of_ble_eq_true rfl) ⟨Nat.zero_le _, Nat.zero_le _⟩ (fun σ95 hz95 => ?_)
              obtain ⟨ho95, hi95⟩ := hz95
              have hv4 := hv2.cells ht ho95 hi95
              refine j_iinc dX6_addRowsOfText_98 rfl (by decide) (by dsimp only [List.set] <;> rfl) ?_
              refine j_goto (tgt := 24) dX6_addRowsOfText_101 (by decide) ?_
              refine j_weak (L := [some (.ref o), some (.ref (o + 1 + 2 + 4 * t)), some (vi s), some (vi z), some (vi (rowN s)), some (vi (colN s)), some (vi i), some (vi ((j + 1 : Nat) : Int)), none, none]) ⟨rfl, rfl, rfl, rfl, rfl, rfl, rfl, rfl, trivial⟩ ?_
              exact ih24 (j + 1) _ (by omega) (by omega) (hov.tr (ho95.toR (by simp; omega))) (hv4.ext rfl (fun u hu k hk => ⟨by
                by_cases a : u = t
                · rw [a]
                  show fup (fup S.2.1 t _) t _ t k = fup S.2.1 t _ t k
                  rw [fup_s, fup_s, if_pos (by omega), hkx]
                  show fup (fup S.2.1 t _ t) kx _ k = _
                  rw [fup_s]
                  by_cases b : k = kx
                  · rw [b, fup_s]
                    unfold apF
                    rw [if_pos (by omega)]
                    rw [show (((kx / 8 : Nat) : Int) - rowN s).toNat = i by omega, show (((kx % 8 : Nat) : Int) - colN s).toNat = j by omega]
                  · rw [fup_n b]
                    unfold apF
                    by_cases b2 : (rowN s ≤ ((k / 8 : Nat) : Int) ∧ ((k / 8 : Nat) : Int) < rowN s + z ∧ colN s ≤ ((k % 8 : Nat) : Int) ∧ ((k % 8 : Nat) : Int) < colN s + z) ∧ (((k / 8 : Nat) : Int) < rowN s + i ∨ (((k / 8 : Nat) : Int) = rowN s + i ∧ ((k % 8 : Nat) : Int) < colN s + j))
                    · rw [if_pos b2, if_pos (by omega)]
                    · rw [if_neg b2, if_neg (by omega)]
                · show fup (fup S.2.1 t _) t _ u k = fup S.2.1 t _ u k
                  rw [fup_n a, fup_n a, fup_n a], rfl⟩))
        exact lp24 10 0 _ (by omega) (by omega) ho hw
  exact lp15 10 0 _ (by omega) (by omega) OffR.rf (h2.ext rfl (fun u hu k hk => ⟨by
    dsimp only
    by_cases a : u = t
    · rw [a, fup_s]
      unfold apF
      rw [if_neg (by omega)]
    · rw [fup_n a], rfl⟩))
set_option maxRecDepth 100000 in
set_option maxHeartbeats 4000000 in
theorem c_X6_putFactors {l : Launch} {D : gD} {σ : Wd} {o tl tu z : Nat} {hs : Int} {S : MS} {p r d : Int} {f : Nat → Nat} {m : Mx} (h1 : OA σ o hs) (h2 : SA D σ (o + 1) S) (h3 : EA D σ (o + 114) p z r d f m) (htl : tl < 4) (htu : tu < 4) (hn : tl ≠ tu) : KX6_putFactors l D [.ref o, .ref (o + 1 + 2 + 4 * tl), .ref (o + 1 + 2 + 4 * tu)] σ (fun σ' => OffR (o + 1) (o + 19) σ σ' ∧ SA D σ' (o + 1) (S.1, fup (fup S.2.1 tl (fun k => lowF m (k / 8) (k % 8))) tu (fun k => uppF m (k / 8) (k % 8)), S.2.2)) := by
  refine sp_of (by decide +kernel) (cat1 rfl) (Nat.le_of_ble_eq_true rfl) [some (.ref o), some (.ref (o + 1 + 2 + 4 * tl)), some (.ref (o + 1 + 2 + 4 * tu)), none, none] rfl (fun sz => ?_)
  refine j_iconst dX6_putFactors_0 ?_
  refine j_istore_n dX6_putFactors_1 (by decide) (by dsimp only [List.set] <;> rfl) ?_
  have lp2 : ∀ (nn i : Nat) (w : Wd), 9 - i < nn → i ≤ 8 → OffR (o + 1) (o + 19) σ w → SA D w (o + 1) (S.1, fup (fup S.2.1 tl (fun k => if k < 8 * i then lowF m (k / 8) (k % 8) else S.2.1 tl k)) tu (fun k => if k < 8 * i then uppF m (k / 8) (k % 8) else S.2.1 tu k), S.2.2) → J l D yX6_putFactors cX6_putFactors 5 none rmX6_putFactors sz (AA σ sz) (QV D σ sz (fun σ' => OffR (o + 1) (o + 19) σ σ' ∧ SA D σ' (o + 1) (S.1, fup (fup S.2.1 tl (fun k => lowF m (k / 8) (k % 8))) tu (fun k => uppF m (k / 8) (k % 8)), S.2.2))) 0 0 2 [some (.ref o), some (.ref (o + 1 + 2 + 4 * tl)), some (.ref (o + 1 + 2 + 4 * tu)), some (vi i), none] [] w := by
    intro nn
    induction nn with
    | zero =>
      intro i w hnn hi ho hw
      exfalso
      omega
    | succ nn ih2 =>
      intro i w hnn hi ho hw
      refine j_iload_n dX6_putFactors_2 rfl ?_
      refine j_bipush dX6_putFactors_3 (by decide) ?_
      refine j_icmp_ge (tgt := 64) dX6_putFactors_5 (by decide) ⟨by omega, by omega⟩ ⟨by omega, by omega⟩ (fun h5 => ?_) (fun h5 => ?_)
      · skip
        exact j_vret dX6_putFactors_64 ⟨rfl, ho, hw.ext rfl (fun u hu k hk => ⟨by
          show fup (fup S.2.1 tl _) tu _ u k = fup (fup S.2.1 tl _) tu _ u k
          by_cases a : u = tu
          · rw [a, fup_s, fup_s, if_pos (by omega)]
          · rw [fup_n a, fup_n a]
            by_cases b : u = tl
            · rw [b, fup_s, fup_s, if_pos (by omega)]
            · rw [fup_n b, fup_n b], rfl⟩)⟩
      · skip
        refine j_iconst dX6_putFactors_8 ?_
        refine j_istore dX6_putFactors_9 (by decide) (by dsimp only [List.set] <;> rfl) ?_
        have lp11 : ∀ (nn2 j : Nat) (v : Wd), 9 - j < nn2 → j ≤ 8 → OffR (o + 1) (o + 19) σ v → SA D v (o + 1) (S.1, fup (fup S.2.1 tl (fun k => if k < 8 * i + j then lowF m (k / 8) (k % 8) else S.2.1 tl k)) tu (fun k => if k < 8 * i + j then uppF m (k / 8) (k % 8) else S.2.1 tu k), S.2.2) → J l D yX6_putFactors cX6_putFactors 5 none rmX6_putFactors sz (AA σ sz) (QV D σ sz (fun σ' => OffR (o + 1) (o + 19) σ σ' ∧ SA D σ' (o + 1) (S.1, fup (fup S.2.1 tl (fun k => lowF m (k / 8) (k % 8))) tu (fun k => uppF m (k / 8) (k % 8)), S.2.2))) 0 0 11 [some (.ref o), some (.ref (o + 1 + 2 + 4 * tl)), some (.ref (o + 1 + 2 + 4 * tu)), some (vi i), some (vi j)] [] v := by
          intro nn
          induction nn with
          | zero =>
            intro j v hnn2 hj hov hv2
            exfalso
            omega
          | succ nn ih11 =>
            intro j v hnn2 hj hov hv2
            have hv1 : OA v o hs := hov.get h1 (by omega)
            have hv3 := h3.moved hov (by omega)
            refine j_iload dX6_putFactors_11 rfl ?_
            refine j_bipush dX6_putFactors_13 (by decide) ?_
            refine j_icmp_ge (tgt := 58) dX6_putFactors_15 (by decide) ⟨by omega, by omega⟩ ⟨by omega, by omega⟩ (fun h15 => ?_) (fun h15 => ?_)
            · skip
              refine j_iinc dX6_putFactors_58 rfl (by decide) (by dsimp only [List.set] <;> rfl) ?_
              refine j_goto (tgt := 2) dX6_putFactors_61 (by decide) ?_
              refine j_weak (L := [some (.ref o), some (.ref (o + 1 + 2 + 4 * tl)), some (.ref (o + 1 + 2 + 4 * tu)), some (vi ((i + 1 : Nat) : Int)), none]) ⟨rfl, rfl, rfl, rfl, trivial⟩ ?_
              refine ih2 (i + 1) _ (by omega) (by omega) hov ?_
              rw [show 8 * (i + 1) = 8 * i + j by omega]
              exact hv2
            · skip
              refine j_aload_n dX6_putFactors_18 rfl ?_
              refine j_iload_n dX6_putFactors_19 rfl ?_
              refine j_iload dX6_putFactors_20 rfl ?_
              refine j_aload_n dX6_putFactors_22 rfl ?_
              refine gf_X6_36 rfl dX6_putFactors_23 hv1 rfl ?_
              refine j_iload_n dX6_putFactors_26 rfl ?_
              refine j_iload dX6_putFactors_27 rfl ?_
              refine cl_X6_263 (As := [_, _]) rfl dX6_putFactors_29 (c_X0_lowerFactorAt hv3 (by omega) (by omega)) hv3.1 rfl ⟨by decide, by decide⟩ (Nat.le_of_ble_eq_true rfl) ⟨Nat.zero_le _, Nat.zero_le _⟩ (fun z29 σ29 hz29 => ?_)
              obtain ⟨hr29, hs29⟩ := hz29
              have hr29 := Eq.symm hr29
              have hs29 := Eq.symm hs29
              subst hr29
              subst hs29
              have hvl := hv2.2.2 tl htl
              refine cl_X6_86 (As := [_, _, _]) rfl dX6_putFactors_32 (c_X3_put hvl.1 hvl.2.1 (rs (by omega) (by omega)) (rs (by omega) (by omega))) hvl.1 rfl ⟨by decide, by decide⟩ (Nat.le_of_ble_eq_true rfl) ⟨Nat.zero_le _, Nat.zero_le _⟩ (fun σ32 hz32 => ?_)
              obtain ⟨ho32, hi32⟩ := hz32
              rw [if_pos (show (0 ≤ (i : Int) ∧ (i : Int) < 8) ∧ 0 ≤ (j : Int) ∧ (j : Int) < 8 by omega), show (8 * (i : Int) + (j : Int)).toNat = 8 * i + j by omega] at hi32
              have hu2 := hv2.cells htl ho32 hi32
              have ho32R := ho32.toR (lo := o + 1) (hi := o + 19) (by simp; omega)
              have hu1 : OA σ32 o hs := ho32R.get hv1 (by omega)
              have hu3 := hv3.moved ho32R (by omega)
              have hul := hu2.2.2 tu htu
              refine j_aload_n dX6_putFactors_35 rfl ?_
              refine j_iload_n dX6_putFactors_36 rfl ?_
              refine j_iload dX6_putFactors_37 rfl ?_
              refine j_aload_n dX6_putFactors_39 rfl ?_
              refine gf_X6_36 rfl dX6_putFactors_40 hu1 rfl ?_
              refine j_iload_n dX6_putFactors_43 rfl ?_
              refine j_iload dX6_putFactors_44 rfl ?_
              refine cl_X6_266 (As := [_, _]) rfl dX6_putFactors_46 (c_X0_upperFactorAt hu3 (by omega) (by omega)) hu3.1 rfl ⟨by decide, by decide⟩ (Nat.le_of_ble_eq_true rfl) ⟨Nat.zero_le _, Nat.zero_le _⟩ (fun z46 σ46 hz46 => ?_)
              obtain ⟨hr46, hs46⟩ := hz46
              have hr46 := Eq.symm hr46
              have hs46 := Eq.symm hs46
              subst hr46
              subst hs46
              refine cl_X6_86 (As := [_, _, _]) rfl dX6_putFactors_49 (c_X3_put hul.1 hul.2.1 (rs (by omega) (by omega)) (rs (by omega) (by omega))) hul.1 rfl ⟨by decide, by decide⟩ (Nat.le_of_ble_eq_true rfl) ⟨Nat.zero_le _, Nat.zero_le _⟩ (fun σ49 hz49 => ?_)
              obtain ⟨ho49, hi49⟩ := hz49
              rw [if_pos (show (0 ≤ (i : Int) ∧ (i : Int) < 8) ∧ 0 ≤ (j : Int) ∧ (j : Int) < 8 by omega), show (8 * (i : Int) + (j : Int)).toNat = 8 * i + j by omega] at hi49
              have hx2 := hu2.cells htu ho49 hi49
              have ho49R := ho49.toR (lo := o + 1) (hi := o + 19) (by simp; omega)
              refine j_iinc dX6_putFactors_52 rfl (by decide) (by dsimp only [List.set] <;> rfl) ?_
              refine j_goto (tgt := 11) dX6_putFactors_55 (by decide) ?_
              refine j_weak (L := [some (.ref o), some (.ref (o + 1 + 2 + 4 * tl)), some (.ref (o + 1 + 2 + 4 * tu)), some (vi i), some (vi ((j + 1 : Nat) : Int))]) ⟨rfl, rfl, rfl, rfl, rfl, trivial⟩ ?_
              refine ih11 (j + 1) _ (by omega) (by omega) (hov.tr (ho32R.tr ho49R)) (hx2.ext rfl (fun u hu k hk => ⟨?_, rfl⟩))
              dsimp only
              by_cases a : u = tu
              · rw [a, fup_s, fup_s, fup_n (Ne.symm hn), fup_s]
                by_cases b : k = 8 * i + j
                · rw [b, fup_s, if_pos (show 8 * i + j < 8 * i + (j + 1) by omega)]
                  unfold uppF
                  rw [show (8 * i + j) / 8 = i by omega, show (8 * i + j) % 8 = j by omega]
                · rw [fup_n b]
                  by_cases c : k < 8 * i + j
                  · rw [if_pos c, if_pos (by omega)]
                  · rw [if_neg c, if_neg (by omega)]
              · rw [fup_n a, fup_n a]
                by_cases b : u = tl
                · rw [b, fup_s, fup_s, fup_n hn, fup_s]
                  by_cases b2 : k = 8 * i + j
                  · rw [b2, fup_s, if_pos (show 8 * i + j < 8 * i + (j + 1) by omega)]
                    unfold lowF
                    rw [show (8 * i + j) / 8 = i by omega, show (8 * i + j) % 8 = j by omega]
                  · rw [fup_n b2]
                    by_cases c : k < 8 * i + j
                    · rw [if_pos c, if_pos (by omega)]
                    · rw [if_neg c, if_neg (by omega)]
                · rw [fup_n b, fup_n b, fup_n a, fup_n b]
        exact lp11 10 0 _ (by omega) (by omega) ho hw
  exact lp2 10 0 _ (by omega) (by omega) OffR.rf (h2.ext rfl (fun u hu k hk => ⟨by
    show _ = fup (fup S.2.1 tl _) tu _ u k
    by_cases a : u = tu
    · rw [a, fup_s, if_neg (by omega)]
    · rw [fup_n a]
      by_cases b : u = tl
      · rw [b, fup_s, if_neg (by omega)]
      · rw [fup_n b], rfl⟩))

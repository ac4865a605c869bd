/-! ===== the reference: elimination ===== -/
def VW (W : Nat → Int) (m : Mx) (z cols : Nat) : Prop := ∀ i, i < z → ∀ j, j < cols → W (9 * i + j) = m i j
theorem fup9 {W : Nat → Int} {a b i j : Nat} {v : Int} (hj : j < 9) (hb : b < 9) : fup W (9 * a + b) v (9 * i + j) = if i = a ∧ j = b then v else W (9 * i + j) := by
  by_cases h : i = a ∧ j = b
  · rw [if_pos h, h.1, h.2, fup_s]
  · rw [if_neg h, fup_n (by omega)]
def layF (F : Nat → Int) (r c z i j : Nat) (W : Nat → Int) : Nat → Int := fun q => if q % 9 < z ∧ (q / 9 < i ∨ (q / 9 = i ∧ q % 9 < j)) then F (8 * (r + q / 9) + (c + q % 9)) else W q
theorem frow_is {m : Mx} {c z r f : Nat} (h1 : r ≤ f) (h2 : f ≤ z) (h3 : z ≤ r + 9) (h4 : ∀ q, r ≤ q → q < f → m q c = 0) (h5 : f = z ∨ m f c ≠ 0) : frow m c z 9 r = f := by
  obtain ⟨a1, a2, a3, a4⟩ := frow_spec (m := m) (c := c) (z := z) 9 r (by omega) h3
  rcases Nat.lt_trichotomy (frow m c z 9 r) f with q | q | q
  · exact absurd (h4 _ a1 q) (a4 (by omega))
  · exact q
  · rcases h5 with x | x
    · omega
    · exact absurd (a3 f h1 q) x
theorem swap_same (m : Mx) (a : Nat) : swapM m a a = m := by
  funext i
  unfold swapM
  by_cases h : i = a
  · rw [if_pos h, h]
  · rw [if_neg h, if_neg h]
theorem neg_mod (y p : Int) : (-(y % p)) % p = (-y) % p := by
  rw [← Int.zero_sub, Int.sub_emod, Int.emod_emod_of_dvd _ (Int.dvd_refl p), ← Int.sub_emod, Int.zero_sub]
theorem mod_mul (x y p : Int) : (x % p * y) % p = (x * y) % p := by
  rw [Int.mul_emod, Int.emod_emod_of_dvd _ (Int.dvd_refl p), ← Int.mul_emod]
theorem mul_mod (x y p : Int) : (x * (y % p)) % p = (x * y) % p := by
  rw [Int.mul_comm, mod_mul, Int.mul_comm]
theorem det_neg (d x p : Int) : (-((d * x) % p)) % p = ((-d) % p * x) % p := by
  rw [neg_mod, mod_mul, Int.neg_mul]
theorem lcost_alt {z r : Int} (hz : 1 ≤ z) : lcost z r = if 2 * r < z then 2 * z * r else z * z := by
  unfold lcost
  have e : 2 * z * r = z * (2 * r) := by rw [Int.mul_assoc, Int.mul_left_comm]
  by_cases h : 2 * r < z
  · rw [if_pos h, if_pos (by rw [e]; exact Int.mul_lt_mul_of_pos_left h (by omega))]
  · rw [if_neg h, if_neg (by rw [e]; have := Int.mul_le_mul_of_nonneg_left (show z ≤ 2 * r by omega) (show 0 ≤ z by omega); omega)]
theorem VW.swap {W : Nat → Int} {m : Mx} {z cols a b : Nat} (h : VW W m z cols) (ha : a < z) (hb : b < z) (hc : cols ≤ 9) : VW (fun q => if q % 9 < cols then (if q / 9 = a then W (9 * b + q % 9) else if q / 9 = b then W (9 * a + q % 9) else W q) else W q) (swapM m b a) z cols := by
  intro i hi j hj
  dsimp only
  rw [if_pos (by omega), show (9 * i + j) / 9 = i by omega, show (9 * i + j) % 9 = j by omega]
  unfold swapM
  by_cases x : i = a
  · rw [if_pos x]
    by_cases y : i = b
    · rw [if_pos y, h b hb j hj, ← y, x]
    · rw [if_neg y, if_pos x]
      exact h b hb j hj
  · rw [if_neg x]
    by_cases y : i = b
    · rw [if_pos y, if_pos y]
      exact h a ha j hj
    · rw [if_neg y, if_neg y, if_neg x]
      exact h i hi j hj

set_option maxRecDepth 100000 in
set_option maxHeartbeats 4000000 in
theorem c_X7_layBlock {l : Launch} {D : gD} {σ : Wd} {m n tn pl : Nat} {hs de : Int} {R P A ch rv W mk ls sp : Nat → Int} {t r c z : Nat} {S : MS} (h : RM D σ m n hs tn pl de R P A ch rv W mk ls sp) (hO : RO R S) (ht : t < 4) (hz : z ≤ 8) (hr : r + z ≤ 8) (hc : c + z ≤ 8) : KX7_layBlock l D [.ref m, vi t, vi r, vi c, vi z] σ (fun σ' => RQ D σ σ' m n hs tn pl de R P A ch rv (layF (S.2.1 t) r c z z 0 W) mk ls sp) := by
  refine sp_of (by decide +kernel) (cat1 rfl) (Nat.le_of_ble_eq_true rfl) [some (.ref m), some (vi t), some (vi r), some (vi c), some (vi z), none, none] rfl (fun sz => ?_)
  refine j_iconst dX7_layBlock_0 ?_
  refine j_istore dX7_layBlock_1 (by decide) (by dsimp only [List.set] <;> rfl) ?_
  have lp3 : ∀ (nn i : Nat) (w : Wd) (v0 : Option Value), 9 - i < nn → i ≤ z → RQ D σ w m n hs tn pl de R P A ch rv (layF (S.2.1 t) r c z i 0 W) mk ls sp → J l D yX7_layBlock cX7_layBlock 7 none rmX7_layBlock sz (AA σ sz) (QV D σ sz (fun σ' => RQ D σ σ' m n hs tn pl de R P A ch rv (layF (S.2.1 t) r c z z 0 W) mk ls sp)) 0 0 3 [some (.ref m), some (vi t), some (vi r), some (vi c), some (vi z), some (vi i), v0] [] w := by
    intro nn
    induction nn with
    | zero =>
      intro i w v0 hnn hi hw
      exfalso
      omega
    | succ nn ih3 =>
      intro i w v0 hnn hi hw
      refine j_iload dX7_layBlock_3 rfl ?_
      refine j_iload dX7_layBlock_5 rfl ?_
      refine j_icmp_ge (tgt := 62) dX7_layBlock_7 (by decide) ⟨by omega, by omega⟩ ⟨by omega, by omega⟩ (fun h7 => ?_) (fun h7 => ?_)
      · skip
        exact j_vret dX7_layBlock_62 ⟨rfl, (by rw [show i = z by omega] at hw; exact hw)⟩
      · skip
        refine j_iconst dX7_layBlock_10 ?_
        refine j_istore dX7_layBlock_11 (by decide) (by dsimp only [List.set] <;> rfl) ?_
        have lp13 : ∀ (nn2 j : Nat) (v : Wd), 9 - j < nn2 → j ≤ z → RQ D σ v m n hs tn pl de R P A ch rv (layF (S.2.1 t) r c z i j W) mk ls sp → J l D yX7_layBlock cX7_layBlock 7 none rmX7_layBlock sz (AA σ sz) (QV D σ sz (fun σ' => RQ D σ σ' m n hs tn pl de R P A ch rv (layF (S.2.1 t) r c z z 0 W) mk ls sp)) 0 0 13 [some (.ref m), some (vi t), some (vi r), some (vi c), some (vi z), some (vi i), some (vi j)] [] v := by
          intro nn
          induction nn with
          | zero =>
            intro j v hnn2 hj hq
            exfalso
            omega
          | succ nn ih13 =>
            intro j v hnn2 hj hq
            refine j_iload dX7_layBlock_13 rfl ?_
            refine j_iload dX7_layBlock_15 rfl ?_
            refine j_icmp_ge (tgt := 56) dX7_layBlock_17 (by decide) ⟨by omega, by omega⟩ ⟨by omega, by omega⟩ (fun h17 => ?_) (fun h17 => ?_)
            · skip
              refine j_iinc dX7_layBlock_56 rfl (by decide) (by dsimp only [List.set] <;> rfl) ?_
              refine j_goto (tgt := 3) dX7_layBlock_59 (by decide) ?_
              refine j_weak (L := [some (.ref m), some (vi t), some (vi r), some (vi c), some (vi z), some (vi ((i + 1 : Nat) : Int)), some (vi j)]) ⟨rfl, rfl, rfl, rfl, rfl, rfl, rfl, trivial⟩ ?_
              exact ih3 (i + 1) _ _ (by omega) (by omega) (hq.workE (fun q hq => by
                unfold layF
                by_cases a : q % 9 < z ∧ (q / 9 < i ∨ (q / 9 = i ∧ q % 9 < j))
                · rw [if_pos a, if_pos (by omega)]
                · rw [if_neg a, if_neg (by omega)]))
            · skip
              refine j_aload_n dX7_layBlock_20 rfl ?_
              refine gf_X7_26 rfl dX7_layBlock_21 hq.2.1 rfl ?_
              refine j_bipush dX7_layBlock_24 (by decide) ?_
              refine j_iload dX7_layBlock_26 rfl ?_
              refine j_imul dX7_layBlock_28 ?_
              refine j_iload dX7_layBlock_29 rfl ?_
              refine j_iadd dX7_layBlock_31 ?_
              rw [show (9 : Int) * ((i : Nat) : Int) + ((j : Nat) : Int) = ((9 * i + j : Nat) : Int) by omega]
              refine j_aload_n dX7_layBlock_32 rfl ?_
              refine gf_X7_7 rfl dX7_layBlock_33 hq.2.1 rfl ?_
              refine j_iload_n dX7_layBlock_36 rfl ?_
              refine j_iload_n dX7_layBlock_37 rfl ?_
              refine j_iload dX7_layBlock_38 rfl ?_
              refine j_iadd dX7_layBlock_40 ?_
              refine j_iload_n dX7_layBlock_41 rfl ?_
              refine j_iload dX7_layBlock_42 rfl ?_
              refine j_iadd dX7_layBlock_44 ?_
              refine cl_X7_68 (As := [_, _, _]) rfl dX7_layBlock_45 (c_X7_cellAt) rfl ⟨by decide, by decide⟩ (Nat.le_of_ble_eq_true rfl) ⟨Nat.zero_le _, Nat.zero_le _⟩ (fun z45 σ45 hz45 => ?_)
              obtain ⟨hr45, hs45⟩ := hz45
              have hr45 := Eq.symm hr45
              have hs45 := Eq.symm hs45
              subst hr45
              subst hs45
              refine jj_iald dX7_layBlock_48 hq.2.2.1 (by omega) (by omega) ⟨by omega, by omega⟩ ?_
              refine j_tops (show _ = S.2.1 t (8 * (r + i) + (c + j)) from (congrArg R (show (1 + 64 * (t : Int) + 8 * ((r : Int) + (i : Int)) + ((c : Int) + (j : Int))).toNat = 1 + 64 * t + (8 * (r + i) + (c + j)) by omega)).trans (hO.2.1 t ht _ (by omega))) ?_
              refine jj_iast dX7_layBlock_49 hq.2.2.2.2.2.2.2.1 (by omega) (by omega) ⟨by omega, by omega⟩ (fun e49 q49 => ?_)
              have hq2 := hq.work q49
              refine j_iinc dX7_layBlock_50 rfl (by decide) (by dsimp only [List.set] <;> rfl) ?_
              refine j_goto (tgt := 13) dX7_layBlock_53 (by decide) ?_
              refine j_weak (L := [some (.ref m), some (vi t), some (vi r), some (vi c), some (vi z), some (vi i), some (vi ((j + 1 : Nat) : Int))]) ⟨rfl, rfl, rfl, rfl, rfl, rfl, rfl, trivial⟩ ?_
              exact ih13 (j + 1) _ (by omega) (by omega) (hq2.workE (fun q hq => by
                show fup _ (9 * i + j) _ q = _
                by_cases b : q = 9 * i + j
                · rw [b, fup_s]
                  unfold layF
                  rw [if_pos (by omega), show (9 * i + j) / 9 = i by omega, show (9 * i + j) % 9 = j by omega]
                · rw [fup_n b]
                  unfold layF
                  by_cases a : q % 9 < z ∧ (q / 9 < i ∨ (q / 9 = i ∧ q % 9 < j))
                  · rw [if_pos a, if_pos (by omega)]
                  · rw [if_neg a, if_neg (by omega)]))
        exact lp13 10 0 _ (by omega) (by omega) hw
  exact lp3 10 0 _ none (by omega) (by omega) (h.rq.workE (fun q hq => by unfold layF; rw [if_neg (by omega)]))
set_option maxRecDepth 100000 in
set_option maxHeartbeats 4000000 in
theorem c_X7_exchange {l : Launch} {D : gD} {σ : Wd} {m n tn pl : Nat} {hs de : Int} {R P A ch rv W mk ls sp : Nat → Int} {a b cols : Nat} (h : RM D σ m n hs tn pl de R P A ch rv W mk ls sp) (ha : a < 8) (hb : b < 8) (hab : a ≠ b) (hc : cols ≤ 9) : KX7_exchange l D [.ref m, vi a, vi b, vi cols] σ (fun σ' => RQ D σ σ' m n hs tn pl de R P A ch rv (fun q => if q % 9 < cols then (if q / 9 = a then W (9 * b + q % 9) else if q / 9 = b then W (9 * a + q % 9) else W q) else W q) mk ls sp) := by
  refine sp_of (by decide +kernel) (cat1 rfl) (Nat.le_of_ble_eq_true rfl) [some (.ref m), some (vi a), some (vi b), some (vi cols), none, none] rfl (fun sz => ?_)
  refine j_iconst dX7_exchange_0 ?_
  refine j_istore dX7_exchange_1 (by decide) (by dsimp only [List.set] <;> rfl) ?_
  have lp3 : ∀ (nn k : Nat) (w : Wd) (v0 : Option Value), 10 - k < nn → k ≤ cols → RQ D σ w m n hs tn pl de R P A ch rv (fun q => if q % 9 < k then (if q / 9 = a then W (9 * b + q % 9) else if q / 9 = b then W (9 * a + q % 9) else W q) else W q) mk ls sp → J l D yX7_exchange cX7_exchange 6 none rmX7_exchange sz (AA σ sz) (QV D σ sz (fun σ' => RQ D σ σ' m n hs tn pl de R P A ch rv (fun q => if q % 9 < cols then (if q / 9 = a then W (9 * b + q % 9) else if q / 9 = b then W (9 * a + q % 9) else W q) else W q) mk ls sp)) 0 0 3 [some (.ref m), some (vi a), some (vi b), some (vi cols), some (vi k), v0] [] w := by
    intro nn
    induction nn with
    | zero =>
      intro k w v0 hnn hk hq
      exfalso
      omega
    | succ nn ih3 =>
      intro k w v0 hnn hk hq
      refine j_iload dX7_exchange_3 rfl ?_
      refine j_iload_n dX7_exchange_5 rfl ?_
      refine j_icmp_ge (tgt := 67) dX7_exchange_6 (by decide) ⟨by omega, by omega⟩ ⟨by omega, by omega⟩ (fun h6 => ?_) (fun h6 => ?_)
      · skip
        exact j_vret dX7_exchange_67 ⟨rfl, (by rw [show k = cols by omega] at hq; exact hq)⟩
      · skip
        refine j_aload_n dX7_exchange_9 rfl ?_
        refine gf_X7_26 rfl dX7_exchange_10 hq.2.1 rfl ?_
        refine j_bipush dX7_exchange_13 (by decide) ?_
        refine j_iload_n dX7_exchange_15 rfl ?_
        refine j_imul dX7_exchange_16 ?_
        refine j_iload dX7_exchange_17 rfl ?_
        refine j_iadd dX7_exchange_19 ?_
        rw [show (9 : Int) * ((a : Nat) : Int) + ((k : Nat) : Int) = ((9 * a + k : Nat) : Int) by omega]
        refine jj_iald dX7_exchange_20 hq.2.2.2.2.2.2.2.1 (by omega) (by omega) ⟨by omega, by omega⟩ ?_
        refine j_tops (show _ = W (9 * a + k) from if_neg (by omega)) ?_
        refine j_istore dX7_exchange_21 (by decide) (by dsimp only [List.set] <;> rfl) ?_
        refine j_aload_n dX7_exchange_23 rfl ?_
        refine gf_X7_26 rfl dX7_exchange_24 hq.2.1 rfl ?_
        refine j_bipush dX7_exchange_27 (by decide) ?_
        refine j_iload_n dX7_exchange_29 rfl ?_
        refine j_imul dX7_exchange_30 ?_
        refine j_iload dX7_exchange_31 rfl ?_
        refine j_iadd dX7_exchange_33 ?_
        rw [show (9 : Int) * ((a : Nat) : Int) + ((k : Nat) : Int) = ((9 * a + k : Nat) : Int) by omega]
        refine j_aload_n dX7_exchange_34 rfl ?_
        refine gf_X7_26 rfl dX7_exchange_35 hq.2.1 rfl ?_
        refine j_bipush dX7_exchange_38 (by decide) ?_
        refine j_iload_n dX7_exchange_40 rfl ?_
        refine j_imul dX7_exchange_41 ?_
        refine j_iload dX7_exchange_42 rfl ?_
        refine j_iadd dX7_exchange_44 ?_
        rw [show (9 : Int) * ((b : Nat) : Int) + ((k : Nat) : Int) = ((9 * b + k : Nat) : Int) by omega]
        refine jj_iald dX7_exchange_45 hq.2.2.2.2.2.2.2.1 (by omega) (by omega) ⟨by omega, by omega⟩ ?_
        refine j_tops (show _ = W (9 * b + k) from if_neg (by omega)) ?_
        refine jj_iast dX7_exchange_46 hq.2.2.2.2.2.2.2.1 (by omega) (by omega) ⟨by omega, by omega⟩ (fun e46 q46 => ?_)
        have hq2 := hq.work q46
        refine j_aload_n dX7_exchange_47 rfl ?_
        refine gf_X7_26 rfl dX7_exchange_48 hq2.2.1 rfl ?_
        refine j_bipush dX7_exchange_51 (by decide) ?_
        refine j_iload_n dX7_exchange_53 rfl ?_
        refine j_imul dX7_exchange_54 ?_
        refine j_iload dX7_exchange_55 rfl ?_
        refine j_iadd dX7_exchange_57 ?_
        rw [show (9 : Int) * ((b : Nat) : Int) + ((k : Nat) : Int) = ((9 * b + k : Nat) : Int) by omega]
        refine j_iload dX7_exchange_58 rfl ?_
        refine jj_iast dX7_exchange_60 hq2.2.2.2.2.2.2.2.1 (by omega) (by omega) ⟨by omega, by omega⟩ (fun e60 q60 => ?_)
        have hq3 := hq2.work q60
        refine j_iinc dX7_exchange_61 rfl (by decide) (by dsimp only [List.set] <;> rfl) ?_
        refine j_goto (tgt := 3) dX7_exchange_64 (by decide) ?_
        refine j_weak (L := [some (.ref m), some (vi a), some (vi b), some (vi cols), some (vi ((k + 1 : Nat) : Int)), some (vi (W (9 * a + k)))]) ⟨rfl, rfl, rfl, rfl, rfl, rfl, trivial⟩ ?_
        exact ih3 (k + 1) _ _ (by omega) (by omega) (hq3.workE (fun q hq => by
          show fup (fup _ (9 * a + k) _) (9 * b + k) _ q = _
          by_cases x : q = 9 * b + k
          · rw [x, fup_s, if_pos (by omega), if_neg (by omega), if_pos (by omega)]
            congr 1
            omega
          · rw [fup_n x]
            by_cases y : q = 9 * a + k
            · rw [y, fup_s, if_pos (by omega), if_pos (by omega)]
              congr 1
              omega
            · rw [fup_n y]
              by_cases u : q % 9 < k
              · rw [if_pos u, if_pos (show q % 9 < k + 1 by omega)]
              · rw [if_neg u]
                by_cases u2 : q % 9 < k + 1
                · rw [if_pos u2, if_neg (by omega), if_neg (by omega)]
                · rw [if_neg u2]))
  exact lp3 11 0 _ none (by omega) (by omega) (h.rq.workE (fun q hq => by rw [if_neg (by omega)]))
set_option maxRecDepth 100000 in
set_option maxHeartbeats 4000000 in
theorem c_X7_clear {l : Launch} {D : gD} {σ : Wd} {m n tn pl : Nat} {hs de : Int} {R P A ch rv W mk ls sp : Nat → Int} {r c z cols : Nat} {p : Int} {mx : Mx} (h : RM D σ m n hs tn pl de R P A ch rv W mk ls sp) (hR : R 0 = p) (hp : primeB p = true) (hz : z ≤ 8) (hc1 : z ≤ cols) (hc2 : cols ≤ z + 1) (hr : r < z) (hc : c < z) (hm : MB p z mx) (hV : VW W mx z cols) (hnz : mx r c ≠ 0) : KX7_clear l D [.ref m, vi r, vi c, vi z, vi cols] σ (fun σ' => ∃ W', RQ D σ σ' m n hs tn pl de R P A ch rv W' mk ls sp ∧ VW W' (clrM p r c mx) z cols) := by
  have hlo := primeB_lo hp
  have hrc := hm r hr c (by omega)
  have hiv := emod_R (v := 1 % p * inv p (mx r c)) (p := p) (by omega)
  have h1p := emod_R (v := 1) (p := p) (by omega)
  refine sp_of (by decide +kernel) (cat1 rfl) (Nat.le_of_ble_eq_true rfl) [some (.ref m), some (vi r), some (vi c), some (vi z), some (vi cols), none, none, none, none] rfl (fun sz => ?_)
  refine j_aload_n dX7_clear_0 rfl ?_
  refine j_aload_n dX7_clear_1 rfl ?_
  refine j_iconst dX7_clear_2 ?_
  refine cl_X7_54 (As := [_]) rfl dX7_clear_3 (c_X7_mod h hR (by omega) (by omega) (rs (by omega) (by omega))) h.1 rfl ⟨by decide, by decide⟩ (Nat.le_of_ble_eq_true rfl) ⟨Nat.zero_le _, Nat.zero_le _⟩ (fun z3 σ3 hz3 => ?_)
  obtain ⟨hr3, hs3⟩ := hz3
  have hr3 := Eq.symm hr3
  have hs3 := Eq.symm hs3
  subst hr3
  subst hs3
  refine j_aload_n dX7_clear_6 rfl ?_
  refine gf_X7_26 rfl dX7_clear_7 h.1 rfl ?_
  refine j_bipush dX7_clear_10 (by decide) ?_
  refine j_iload_n dX7_clear_12 rfl ?_
  refine j_imul dX7_clear_13 ?_
  refine j_iload_n dX7_clear_14 rfl ?_
  refine j_iadd dX7_clear_15 ?_
  rw [show (9 : Int) * ((r : Nat) : Int) + ((c : Nat) : Int) = ((9 * r + c : Nat) : Int) by omega]
  refine jj_iald dX7_clear_16 h.2.2.2.2.2.2.1 (by omega) (by omega) ⟨by omega, by omega⟩ ?_
  refine j_tops (hV r hr c (by omega)) ?_
  refine cl_X7_91 (As := [_, _]) rfl dX7_clear_17 (c_X7_quotient h hR hp h1p.1 h1p.2 (by omega) hrc.2) h.1 rfl ⟨by decide, by decide⟩ (Nat.le_of_ble_eq_true rfl) ⟨Nat.zero_le _, Nat.zero_le _⟩ (fun z17 σ17 hz17 => ?_)
  obtain ⟨hr17, hs17⟩ := hz17
  have hr17 := Eq.symm hr17
  have hs17 := Eq.symm hs17
  subst hr17
  subst hs17
  generalize hive : ((1 % p * inv p (mx r c)) % p) = iv at *
  refine j_istore dX7_clear_20 (by decide) (by dsimp only [List.set] <;> rfl) ?_
  refine j_iconst dX7_clear_22 ?_
  refine j_istore dX7_clear_23 (by decide) (by dsimp only [List.set] <;> rfl) ?_
  have lp25 : ∀ (nn k : Nat) (w : Wd) (W1 : Nat → Int), 10 - k < nn → k ≤ cols → RQ D σ w m n hs tn pl de R P A ch rv W1 mk ls sp → (∀ i2, i2 < z → ∀ j, j < cols → W1 (9 * i2 + j) = if i2 = r ∧ j < k then (mx r j * iv) % p else mx i2 j) → J l D yX7_clear cX7_clear 9 none rmX7_clear sz (AA σ sz) (QV D σ sz (fun σ' => ∃ W', RQ D σ σ' m n hs tn pl de R P A ch rv W' mk ls sp ∧ VW W' (clrM p r c mx) z cols)) 0 0 25 [some (.ref m), some (vi r), some (vi c), some (vi z), some (vi cols), some (vi iv), some (vi k), none, none] [] w := by
    intro nn
    induction nn with
    | zero =>
      intro k w W1 hnn hk hq hV1
      exfalso
      omega
    | succ nn ih25 =>
      intro k w W1 hnn hk hq hV1
      refine j_iload dX7_clear_25 rfl ?_
      refine j_iload dX7_clear_27 rfl ?_
      refine j_icmp_ge (tgt := 69) dX7_clear_29 (by decide) ⟨by omega, by omega⟩ ⟨by omega, by omega⟩ (fun h29 => ?_) (fun h29 => ?_)
      · skip
        refine j_iconst dX7_clear_69 ?_
        refine j_istore dX7_clear_70 (by decide) (by dsimp only [List.set] <;> rfl) ?_
        have hVr : ∀ i, i < z → ∀ j, j < cols → W1 (9 * i + j) = if i = r then clrM p r c mx i j else mx i j := fun i hi j hj => by
          rw [hV1 i hi j hj]
          by_cases x : i = r
          · rw [if_pos (by omega), if_pos x]
            unfold clrM
            rw [if_pos x, ← hive, mul_mod, emod_id (v := 1) (p := p) (by omega) (by omega), Int.one_mul]
          · rw [if_neg (by omega), if_neg x]
        have lp72 : ∀ (nn2 i : Nat) (u : Wd) (W2 : Nat → Int) (v7 v8 : Option Value), 9 - i < nn2 → i ≤ z → RQ D σ u m n hs tn pl de R P A ch rv W2 mk ls sp → (∀ i2, i2 < z → ∀ j, j < cols → W2 (9 * i2 + j) = if i2 = r ∨ i2 < i then clrM p r c mx i2 j else mx i2 j) → J l D yX7_clear cX7_clear 9 none rmX7_clear sz (AA σ sz) (QV D σ sz (fun σ' => ∃ W', RQ D σ σ' m n hs tn pl de R P A ch rv W' mk ls sp ∧ VW W' (clrM p r c mx) z cols)) 0 0 72 [some (.ref m), some (vi r), some (vi c), some (vi z), some (vi cols), some (vi iv), some (vi i), v7, v8] [] u := by
          intro nn
          induction nn with
          | zero =>
            intro i u W2 v7 v8 hnn2 hi hu hV2
            exfalso
            omega
          | succ nn ih72 =>
            intro i u W2 v7 v8 hnn2 hi hu hV2
            refine j_iload dX7_clear_72 rfl ?_
            refine j_iload_n dX7_clear_74 rfl ?_
            refine j_icmp_ge (tgt := 175) dX7_clear_75 (by decide) ⟨by omega, by omega⟩ ⟨by omega, by omega⟩ (fun h75 => ?_) (fun h75 => ?_)
            · skip
              exact j_vret dX7_clear_175 ⟨rfl, W2, hu, fun i2 hi2 j hj => by rw [hV2 i2 hi2 j hj, if_pos (by omega)]⟩
            · skip
              have lp100 : ∀ (x : Int), ((i = r ∧ x = 0) ∨ (i ≠ r ∧ x = mx i c)) → J l D yX7_clear cX7_clear 9 none rmX7_clear sz (AA σ sz) (QV D σ sz (fun σ' => ∃ W', RQ D σ σ' m n hs tn pl de R P A ch rv W' mk ls sp ∧ VW W' (clrM p r c mx) z cols)) 0 0 100 [some (.ref m), some (vi r), some (vi c), some (vi z), some (vi cols), some (vi iv), some (vi i), v7, v8] [vi x] u := by
                intro x hx
                refine j_istore dX7_clear_100 (by decide) (by dsimp only [List.set] <;> rfl) ?_
                refine j_iconst dX7_clear_102 ?_
                refine j_istore dX7_clear_103 (by decide) (by dsimp only [List.set] <;> rfl) ?_
                have lp105 : ∀ (nn3 k : Nat) (v : Wd) (W3 : Nat → Int), 10 - k < nn3 → k ≤ cols → RQ D σ v m n hs tn pl de R P A ch rv W3 mk ls sp → (∀ i2, i2 < z → ∀ j, j < cols → W3 (9 * i2 + j) = if i2 = r ∨ i2 < i ∨ (i2 = i ∧ j < k) then clrM p r c mx i2 j else mx i2 j) → J l D yX7_clear cX7_clear 9 none rmX7_clear sz (AA σ sz) (QV D σ sz (fun σ' => ∃ W', RQ D σ σ' m n hs tn pl de R P A ch rv W' mk ls sp ∧ VW W' (clrM p r c mx) z cols)) 0 0 105 [some (.ref m), some (vi r), some (vi c), some (vi z), some (vi cols), some (vi iv), some (vi i), some (vi x), some (vi k)] [] v := by
                  intro nn
                  induction nn with
                  | zero =>
                    intro k v W3 hnn3 hk hv hV3
                    exfalso
                    omega
                  | succ nn ih105 =>
                    intro k v W3 hnn3 hk hv hV3
                    refine j_iload dX7_clear_105 rfl ?_
                    refine j_iload dX7_clear_107 rfl ?_
                    refine j_icmp_ge (tgt := 169) dX7_clear_109 (by decide) ⟨by omega, by omega⟩ ⟨by omega, by omega⟩ (fun h109 => ?_) (fun h109 => ?_)
                    · skip
                      refine j_iinc dX7_clear_169 rfl (by decide) (by dsimp only [List.set] <;> rfl) ?_
                      refine j_goto (tgt := 72) dX7_clear_172 (by decide) ?_
                      refine j_weak (L := [some (.ref m), some (vi r), some (vi c), some (vi z), some (vi cols), some (vi iv), some (vi ((i + 1 : Nat) : Int)), some (vi x), some (vi k)]) ⟨rfl, rfl, rfl, rfl, rfl, rfl, rfl, rfl, rfl, trivial⟩ ?_
                      exact ih72 (i + 1) _ W3 _ _ (by omega) (by omega) hv (fun i2 hi2 j hj => by
                        rw [hV3 i2 hi2 j hj]
                        by_cases a : i2 = r ∨ i2 < i ∨ (i2 = i ∧ j < k)
                        · rw [if_pos a, if_pos (by omega)]
                        · rw [if_neg a, if_neg (by omega)])
                    · skip
                      refine j_iload dX7_clear_112 rfl ?_
                      have hxR : R32 x := by
                        rcases hx with q | q
                        · rw [q.2]; exact rs (by omega) (by omega)
                        · have := hm i (by omega) c (by omega)
                          rw [q.2]; exact rs (by omega) (by omega)
                      refine j_if_eq (tgt := 169) dX7_clear_114 (by decide) hxR (fun h114 => ?_) (fun h114 => ?_)
                      · skip
                        refine j_iinc dX7_clear_169 rfl (by decide) (by dsimp only [List.set] <;> rfl) ?_
                        refine j_goto (tgt := 72) dX7_clear_172 (by decide) ?_
                        refine j_weak (L := [some (.ref m), some (vi r), some (vi c), some (vi z), some (vi cols), some (vi iv), some (vi ((i + 1 : Nat) : Int)), some (vi x), some (vi k)]) ⟨rfl, rfl, rfl, rfl, rfl, rfl, rfl, rfl, rfl, trivial⟩ ?_
                        exact ih72 (i + 1) _ W3 _ _ (by omega) (by omega) hv (fun i2 hi2 j hj => by
                          rw [hV3 i2 hi2 j hj]
                          by_cases a : i2 = r ∨ i2 < i ∨ (i2 = i ∧ j < k)
                          · rw [if_pos a, if_pos (by omega)]
                          · rw [if_neg a]
                            by_cases b : i2 = r ∨ i2 < i + 1
                            · rw [if_pos b]
                              have hi2i : i2 = i := by omega
                              subst hi2i
                              have hxc : x = mx i2 c := by
                                rcases hx with q | q
                                · exact absurd (Or.inl q.1) a
                                · exact q.2
                              unfold clrM
                              rw [if_neg (by omega), ← hxc, h114, Int.zero_mul, Int.sub_zero]
                              have hb := hm i2 hi2 j (by omega)
                              exact (emod_id hb.1 hb.2).symm
                            · rw [if_neg b])
                      · skip
                        have hir : i ≠ r := by
                          rcases hx with q | q
                          · exact absurd q.2 h114
                          · exact q.1
                        have hxc : x = mx i c := by
                          rcases hx with q | q
                          · exact absurd q.2 h114
                          · exact q.2
                        have hbi := hm i (by omega) c (by omega)
                        refine j_aload_n dX7_clear_117 rfl ?_
                        refine gf_X7_26 rfl dX7_clear_118 hv.2.1 rfl ?_
                        refine j_bipush dX7_clear_121 (by decide) ?_
                        refine j_iload dX7_clear_123 rfl ?_
                        refine j_imul dX7_clear_125 ?_
                        refine j_iload dX7_clear_126 rfl ?_
                        refine j_iadd dX7_clear_128 ?_
                        refine j_aload_n dX7_clear_129 rfl ?_
                        refine j_aload_n dX7_clear_130 rfl ?_
                        refine gf_X7_26 rfl dX7_clear_131 hv.2.1 rfl ?_
                        refine j_bipush dX7_clear_134 (by decide) ?_
                        refine j_iload dX7_clear_136 rfl ?_
                        refine j_imul dX7_clear_138 ?_
                        refine j_iload dX7_clear_139 rfl ?_
                        refine j_iadd dX7_clear_141 ?_
                        rw [show (9 : Int) * ((i : Nat) : Int) + ((k : Nat) : Int) = ((9 * i + k : Nat) : Int) by omega]
                        refine jj_iald dX7_clear_142 hv.2.2.2.2.2.2.2.1 (by omega) (by omega) ⟨by omega, by omega⟩ ?_
                        refine j_tops (show _ = mx i k by rw [show ((9 * i + k : Nat) : Int).toNat = 9 * i + k from rfl, hV3 i (by omega) k (by omega), if_neg (by omega)]) ?_
                        refine j_iload dX7_clear_143 rfl ?_
                        refine j_aload_n dX7_clear_145 rfl ?_
                        refine gf_X7_26 rfl dX7_clear_146 hv.2.1 rfl ?_
                        refine j_bipush dX7_clear_149 (by decide) ?_
                        refine j_iload_n dX7_clear_151 rfl ?_
                        refine j_imul dX7_clear_152 ?_
                        refine j_iload dX7_clear_153 rfl ?_
                        refine j_iadd dX7_clear_155 ?_
                        rw [show (9 : Int) * ((r : Nat) : Int) + ((k : Nat) : Int) = ((9 * r + k : Nat) : Int) by omega]
                        refine jj_iald dX7_clear_156 hv.2.2.2.2.2.2.2.1 (by omega) (by omega) ⟨by omega, by omega⟩ ?_
                        refine j_tops (show _ = clrM p r c mx r k by rw [show ((9 * r + k : Nat) : Int).toNat = 9 * r + k from rfl, hV3 r hr k (by omega), if_pos (by omega)]) ?_
                        have hb1 := hm i (by omega) k (by omega)
                        have hb2 : 0 ≤ clrM p r c mx r k ∧ clrM p r c mx r k < p := by
                          unfold clrM
                          rw [if_pos rfl]
                          exact emod_R (by omega)
                        have hmul := mul_R (a := x) (b := clrM p r c mx r k) (m := 251) (n := 251) (by omega) (by omega) hb2.1 (by omega) (by omega)
                        refine j_imul dX7_clear_157 ?_
                        refine j_isub dX7_clear_158 ?_
                        refine cl_X7_54 (As := [_]) rfl dX7_clear_159 (c_X7_mod hv.2 hR (by omega) (by omega) (rs (by omega) (by omega))) hv.2.1 rfl ⟨by decide, by decide⟩ (Nat.le_of_ble_eq_true rfl) ⟨Nat.zero_le _, Nat.zero_le _⟩ (fun z159 σ159 hz159 => ?_)
                        obtain ⟨hr159, hs159⟩ := hz159
                        have hr159 := Eq.symm hr159
                        have hs159 := Eq.symm hs159
                        subst hr159
                        subst hs159
                        refine jj_iast dX7_clear_162 hv.2.2.2.2.2.2.2.1 (by omega) (by omega) ⟨by omega, by omega⟩ (fun e162 q162 => ?_)
                        have hv2 := hv.work q162
                        refine j_iinc dX7_clear_163 rfl (by decide) (by dsimp only [List.set] <;> rfl) ?_
                        refine j_goto (tgt := 105) dX7_clear_166 (by decide) ?_
                        refine j_weak (L := [some (.ref m), some (vi r), some (vi c), some (vi z), some (vi cols), some (vi iv), some (vi i), some (vi x), some (vi ((k + 1 : Nat) : Int))]) ⟨rfl, rfl, rfl, rfl, rfl, rfl, rfl, rfl, rfl, trivial⟩ ?_
                        exact ih105 (k + 1) _ _ (by omega) (by omega) hv2 (fun i2 hi2 j hj => by
                          show fup W3 (9 * i + k) _ (9 * i2 + j) = _
                          rw [fup9 (by omega) (by omega)]
                          by_cases a : i2 = i ∧ j = k
                          · rw [if_pos a, if_pos (by omega), a.1, a.2]
                            conv => rhs; unfold clrM
                            rw [if_neg hir, hxc]
                            unfold clrM
                            rw [if_pos rfl]
                          · rw [if_neg a, hV3 i2 hi2 j hj]
                            by_cases b : i2 = r ∨ i2 < i ∨ (i2 = i ∧ j < k)
                            · rw [if_pos b, if_pos (by omega)]
                            · rw [if_neg b, if_neg (by omega)])
                exact lp105 11 0 _ W2 (by omega) (by omega) hu (fun i2 hi2 j hj => by
                  rw [hV2 i2 hi2 j hj]
                  by_cases a : i2 = r ∨ i2 < i
                  · rw [if_pos a, if_pos (by omega)]
                  · rw [if_neg a, if_neg (by omega)])
              refine j_iload dX7_clear_78 rfl ?_
              refine j_iload_n dX7_clear_80 rfl ?_
              refine j_icmp_ne (tgt := 88) dX7_clear_81 (by decide) ⟨by omega, by omega⟩ ⟨by omega, by omega⟩ (fun h81 => ?_) (fun h81 => ?_)
              · skip
                refine j_aload_n dX7_clear_88 rfl ?_
                refine gf_X7_26 rfl dX7_clear_89 hu.2.1 rfl ?_
                refine j_bipush dX7_clear_92 (by decide) ?_
                refine j_iload dX7_clear_94 rfl ?_
                refine j_imul dX7_clear_96 ?_
                refine j_iload_n dX7_clear_97 rfl ?_
                refine j_iadd dX7_clear_98 ?_
                rw [show (9 : Int) * ((i : Nat) : Int) + ((c : Nat) : Int) = ((9 * i + c : Nat) : Int) by omega]
                refine jj_iald dX7_clear_99 hu.2.2.2.2.2.2.2.1 (by omega) (by omega) ⟨by omega, by omega⟩ ?_
                refine j_tops (show _ = mx i c by rw [show ((9 * i + c : Nat) : Int).toNat = 9 * i + c from rfl, hV2 i (by omega) c (by omega), if_neg (by omega)]) ?_
                exact lp100 _ (Or.inr ⟨by omega, rfl⟩)
              · skip
                refine j_iconst dX7_clear_84 ?_
                refine j_goto (tgt := 100) dX7_clear_85 (by decide) ?_
                exact lp100 _ (Or.inl ⟨by omega, rfl⟩)
        exact lp72 10 0 _ W1 none none (by omega) (by omega) hq (fun i hi j hj => by
          rw [hVr i hi j hj]
          by_cases x : i = r
          · rw [if_pos x, if_pos (Or.inl x)]
          · rw [if_neg x, if_neg (by omega)])
      · skip
        refine j_aload_n dX7_clear_32 rfl ?_
        refine gf_X7_26 rfl dX7_clear_33 hq.2.1 rfl ?_
        refine j_bipush dX7_clear_36 (by decide) ?_
        refine j_iload_n dX7_clear_38 rfl ?_
        refine j_imul dX7_clear_39 ?_
        refine j_iload dX7_clear_40 rfl ?_
        refine j_iadd dX7_clear_42 ?_
        rw [show (9 : Int) * ((r : Nat) : Int) + ((k : Nat) : Int) = ((9 * r + k : Nat) : Int) by omega]
        refine j_aload_n dX7_clear_43 rfl ?_
        refine j_aload_n dX7_clear_44 rfl ?_
        refine gf_X7_26 rfl dX7_clear_45 hq.2.1 rfl ?_
        refine j_bipush dX7_clear_48 (by decide) ?_
        refine j_iload_n dX7_clear_50 rfl ?_
        refine j_imul dX7_clear_51 ?_
        refine j_iload dX7_clear_52 rfl ?_
        refine j_iadd dX7_clear_54 ?_
        rw [show (9 : Int) * ((r : Nat) : Int) + ((k : Nat) : Int) = ((9 * r + k : Nat) : Int) by omega]
        refine jj_iald dX7_clear_55 hq.2.2.2.2.2.2.2.1 (by omega) (by omega) ⟨by omega, by omega⟩ ?_
        refine j_tops (show _ = mx r k by rw [show ((9 * r + k : Nat) : Int).toNat = 9 * r + k from rfl, hV1 r hr k (by omega), if_neg (by omega)]) ?_
        have hb1 := hm r hr k (by omega)
        have hmul := mul_R (a := mx r k) (b := iv) (m := 251) (n := 251) hb1.1 (by omega) hiv.1 (by omega) (by omega)
        refine j_iload dX7_clear_56 rfl ?_
        refine j_imul dX7_clear_58 ?_
        refine cl_X7_54 (As := [_]) rfl dX7_clear_59 (c_X7_mod hq.2 hR (by omega) (by omega) (rs (by omega) (by omega))) hq.2.1 rfl ⟨by decide, by decide⟩ (Nat.le_of_ble_eq_true rfl) ⟨Nat.zero_le _, Nat.zero_le _⟩ (fun z59 σ59 hz59 => ?_)
        obtain ⟨hr59, hs59⟩ := hz59
        have hr59 := Eq.symm hr59
        have hs59 := Eq.symm hs59
        subst hr59
        subst hs59
        refine jj_iast dX7_clear_62 hq.2.2.2.2.2.2.2.1 (by omega) (by omega) ⟨by omega, by omega⟩ (fun e62 q62 => ?_)
        have hq2 := hq.work q62
        refine j_iinc dX7_clear_63 rfl (by decide) (by dsimp only [List.set] <;> rfl) ?_
        refine j_goto (tgt := 25) dX7_clear_66 (by decide) ?_
        refine j_weak (L := [some (.ref m), some (vi r), some (vi c), some (vi z), some (vi cols), some (vi iv), some (vi ((k + 1 : Nat) : Int)), none, none]) ⟨rfl, rfl, rfl, rfl, rfl, rfl, rfl, trivial⟩ ?_
        exact ih25 (k + 1) _ _ (by omega) (by omega) hq2 (fun i hi j hj => by
          show fup W1 (9 * r + k) _ (9 * i + j) = _
          rw [fup9 (by omega) (by omega)]
          by_cases x : i = r ∧ j = k
          · rw [if_pos x, if_pos (by omega), x.2]
          · rw [if_neg x, hV1 i hi j hj]
            by_cases y : i = r ∧ j < k
            · rw [if_pos y, if_pos (by omega)]
            · rw [if_neg y, if_neg (by omega)])
  exact lp25 11 0 _ W (by omega) (by omega) h.rq (fun i hi j hj => by rw [if_neg (by omega)]; exact hV i hi j hj)

/-! ===== contracts: Elimination: reduce, decompose ===== -/
theorem frow_cong {m m' : Mx} {c z : Nat} (h : ∀ i, i < z → m i c = m' i c) : ∀ (k i : Nat), frow m c z k i = frow m' c z k i
  | 0, i => rfl
  | k + 1, i => by
    show (if i < z ∧ m i c = 0 then frow m c z k (i + 1) else i) = (if i < z ∧ m' i c = 0 then frow m' c z k (i + 1) else i)
    by_cases a : i < z
    · rw [h i a, frow_cong h k (i + 1)]
    · rw [if_neg (fun q => a q.1), if_neg (fun q => a q.1)]
def gdet (p : Int) (z : Nat) (m : Mx) : Int := if (gj p z m z).1 < z then 0 else (gj p z m z).2.1
theorem cc_clr {p : Int} {z c x : Nat} {s : GS} {m1 : Mx} (hG : GI p z c s) (hp : 0 < p) (hc : c < z) (hx : x < z) (hrx : s.1 ≤ x) (hag : ∀ i, i < z → ∀ j, j ≤ z → m1 i j = s.2.2 i j) :
    ∀ i, i < z → ∀ j, j ≤ z → ccM p z s.1 c (swapM m1 s.1 x) i j = clrM p s.1 c (swapM s.2.2 s.1 x) i j := by
  intro i hi j hj
  have hr1 : swapM m1 s.1 x s.1 = m1 x := if_pos rfl
  have hr2 : swapM s.2.2 s.1 x s.1 = s.2.2 x := if_pos rfl
  have ex : m1 x c = s.2.2 x c := hag x hx c (by omega)
  have ej : m1 x j = s.2.2 x j := hag x hx j hj
  have hz0 : j < c → s.2.2 x j = 0 := fun q => hG.2.2.1 x hrx hx j q
  unfold ccM clrM nrF
  rw [hr1, hr2, ex]
  by_cases a : i = s.1
  · rw [if_pos a, if_pos a]
    by_cases b : c ≤ j ∧ j ≤ z
    · rw [if_pos b, ej]
    · rw [if_neg b, ej, hz0 (by omega)]
      simp
  · rw [if_neg a, if_neg a, if_pos hi]
    obtain ⟨k, k1, k2, k3, k4, k5⟩ := swapM_row m1 (a := s.1) (b := x) (i := i)
    obtain ⟨k', l1, l2, l3, l4, l5⟩ := swapM_row s.2.2 (a := s.1) (b := x) (i := i)
    have ek : k = k' := by
      by_cases b : i = x
      · rw [k5 a b, l5 a b]
      · rw [k4 a b, l4 a b]
    have hk : k' < z := by
      by_cases b : i = x
      · rw [l5 a b]
        omega
      · rw [l4 a b]
        exact hi
    rw [k2, l2, ek]
    have q1 : m1 k' c = s.2.2 k' c := hag k' hk c (by omega)
    have q2 : m1 k' j = s.2.2 k' j := hag k' hk j hj
    have q3 := hG.2.1 k' hk j hj
    unfold subF
    rw [q1, q2]
    by_cases b : s.2.2 k' c ≠ 0 ∧ (c : Int) ≤ (j : Int) ∧ (j : Int) ≤ (z : Int)
    · rw [if_pos b]
      dsimp only
      rw [if_pos (by omega), ej]
    · rw [if_neg b]
      by_cases b2 : s.2.2 k' c = 0
      · rw [b2]
        rw [Int.zero_mul, Int.sub_zero, emod_id q3.1 q3.2]
      · rw [hz0 (by omega)]
        rw [Int.zero_mul, Int.zero_emod, Int.mul_zero, Int.sub_zero, emod_id q3.1 q3.2]
theorem gj_s (p : Int) (z : Nat) (m : Mx) (c : Nat) : gj p z m (c + 1) = gstep p z c (gj p z m c) := rfl
theorem luD_R {p : Int} {m : Mx} (hp : 2 ≤ p) : ∀ c, 0 ≤ luD p m c ∧ luD p m c < p
  | 0 => by show (0 : Int) ≤ 1 ∧ (1 : Int) < p; omega
  | c + 1 => emod_R (by omega)
theorem lus_ext {p : Int} {c : Nat} {m m' : Mx} {i j : Nat} (h : ∀ i j, m i j = m' i j) : lus p c m i j = lus p c m' i j := by
  have : m = m' := by
    funext a b
    exact h a b
  rw [this]

set_option maxRecDepth 100000 in
set_option maxHeartbeats 4000000 in
theorem c_X0_reduce {l : Launch} {D : gD} {σ : Wd} {e z : Nat} {p r d : Int} {f : Nat → Nat} {m : Mx} (h1 : EA D σ e p z r d f m) (hz : z ≤ 8) (hp : primeB p = true) (hm : MB p z m) : KX0_reduce l D [.ref e] σ (fun σ' => OffR e (e + 10) σ σ' ∧ ∃ f' m', EA D σ' e p z (gj p z m z).1 (gdet p z m) f' m' ∧ ∀ i, i < z → ∀ j, j ≤ z → m' i j = (gj p z m z).2.2 i j) := by
  have hlo := primeB_lo hp
  refine sp_of (by decide +kernel) (cat1 rfl) (Nat.le_of_ble_eq_true rfl) [some (.ref e), none, none] rfl (fun sz => ?_)
  refine j_aload_n dX0_reduce_0 rfl ?_
  refine j_iconst dX0_reduce_1 ?_
  refine pf_X0_46 rfl dX0_reduce_2 h1.1 rfl rfl (Nat.le_of_ble_eq_true rfl) ?_
  dsimp only [List.set]
  have k1 := h1.own (p' := p) (z' := z) (r' := 0) (d' := d)
  refine j_aload_n dX0_reduce_5 rfl ?_
  refine j_iconst dX0_reduce_6 ?_
  refine pf_X0_49 rfl dX0_reduce_7 k1.1 rfl rfl (Nat.le_of_ble_eq_true rfl) ?_
  dsimp only [List.set]
  have k2 := k1.own (p' := p) (z' := z) (r' := 0) (d' := 1)
  refine j_iconst dX0_reduce_10 ?_
  refine j_istore_n dX0_reduce_11 (by decide) (by dsimp only [List.set] <;> rfl) ?_
  have lp12 : ∀ (nn c : Nat) (w : Wd) (f1 : Nat → Nat) (m1 : Mx), 9 - c < nn → c ≤ z → OffR e (e + 10) σ w → EA D w e p z (gj p z m c).1 (gj p z m c).2.1 f1 m1 → (∀ i, i < z → ∀ j, j ≤ z → m1 i j = (gj p z m c).2.2 i j) → J l D yX0_reduce cX0_reduce 3 none rmX0_reduce sz (AA σ sz) (QV D σ sz (fun σ' => OffR e (e + 10) σ σ' ∧ ∃ f' m', EA D σ' e p z (gj p z m z).1 (gdet p z m) f' m' ∧ ∀ i, i < z → ∀ j, j ≤ z → m' i j = (gj p z m z).2.2 i j)) 0 0 12 [some (.ref e), some (vi c), none] [] w := by
    intro nn
    induction nn with
    | zero =>
      intro c w f1 m1 hnn hc ho hw hag
      exfalso
      omega
    | succ nn ih12 =>
      intro c w f1 m1 hnn hc ho hw hag
      have hG := GI.all hp hz hm c hc
      generalize hGe : gj p z m c = G at hw hag hG
      obtain ⟨g1, g2, g3, g4, g5⟩ := id hG
      refine j_iload_n dX0_reduce_12 rfl ?_
      refine j_aload_n dX0_reduce_13 rfl ?_
      refine gf_X0_29 rfl dX0_reduce_14 hw.1 rfl ?_
      refine j_icmp_ge (tgt := 75) dX0_reduce_17 (by decide) ⟨by omega, by omega⟩ ⟨by omega, by omega⟩ (fun h17 => ?_) (fun h17 => ?_)
      · skip
        refine j_aload_n dX0_reduce_75 rfl ?_
        have hcz : gj p z m z = G := by
          rw [← hGe, show z = c by omega]
        refine gf_X0_46 rfl dX0_reduce_76 hw.1 rfl ?_
        refine j_aload_n dX0_reduce_79 rfl ?_
        refine gf_X0_29 rfl dX0_reduce_80 hw.1 rfl ?_
        refine j_icmp_ge (tgt := 91) dX0_reduce_83 (by decide) ⟨by omega, by omega⟩ ⟨by omega, by omega⟩ (fun h83 => ?_) (fun h83 => ?_)
        · skip
          exact j_vret dX0_reduce_91 ⟨rfl, ho, f1, m1, by unfold gdet; rw [hcz, if_neg (by omega)]; exact hw, by rw [hcz]; exact hag⟩
        · skip
          refine j_aload_n dX0_reduce_86 rfl ?_
          refine j_iconst dX0_reduce_87 ?_
          refine pf_X0_49 rfl dX0_reduce_88 hw.1 rfl rfl (Nat.le_of_ble_eq_true rfl) ?_
          dsimp only [List.set]
          exact j_vret dX0_reduce_91 ⟨rfl, ho.tr (wup_offR (by omega)), f1, m1, by unfold gdet; rw [hcz, if_pos (by omega)]; exact hw.own, by rw [hcz]; exact hag⟩
      · skip
        refine j_aload_n dX0_reduce_20 rfl ?_
        refine gf_X0_46 rfl dX0_reduce_21 hw.1 rfl ?_
        refine j_aload_n dX0_reduce_24 rfl ?_
        refine gf_X0_29 rfl dX0_reduce_25 hw.1 rfl ?_
        refine j_icmp_ge (tgt := 75) dX0_reduce_28 (by decide) ⟨by omega, by omega⟩ ⟨by omega, by omega⟩ (fun h28 => ?_) (fun h28 => ?_)
        · skip
          exact absurd h28 (by omega)
        · skip
          refine j_aload_n dX0_reduce_31 rfl ?_
          refine j_iload_n dX0_reduce_32 rfl ?_
          refine cl_X0_52 (As := [_]) rfl dX0_reduce_33 (c_X0_firstRowWith hw hz (by omega) (by omega) (fun i hi => by rw [hag i hi c (by omega)]; have := g2 i hi c (by omega); exact rs (by omega) (by omega))) hw.1 rfl ⟨by decide, by decide⟩ (Nat.le_of_ble_eq_true rfl) ⟨Nat.zero_le _, Nat.zero_le _⟩ (fun z33 σ33 hz33 => ?_)
          obtain ⟨hr33, hs33⟩ := hz33
          have hr33 := Eq.symm hr33
          have hs33 := Eq.symm hs33
          subst hr33
          subst hs33
          have hfr : frow m1 c z 9 G.1 = frow G.2.2 c z 9 G.1 := frow_cong (fun i hi => hag i hi c (by omega)) 9 G.1
          obtain ⟨f1a, f1b, f1c, f1d⟩ := frow_spec (m := G.2.2) (c := c) (z := z) 9 G.1 (by omega) (by omega)
          rw [hfr]
          have hgs := gj_s p z m c
          rw [hGe] at hgs
          unfold gstep at hgs
          generalize hxe : frow G.2.2 c z 9 G.1 = x at *
          refine j_istore_n dX0_reduce_36 (by decide) (by dsimp only [List.set] <;> rfl) ?_
          refine j_iload_n dX0_reduce_37 rfl ?_
          refine j_aload_n dX0_reduce_38 rfl ?_
          refine gf_X0_29 rfl dX0_reduce_39 hw.1 rfl ?_
          refine j_icmp_ge (tgt := 69) dX0_reduce_42 (by decide) ⟨by omega, by omega⟩ ⟨by omega, by omega⟩ (fun h42 => ?_) (fun h42 => ?_)
          · skip
            refine j_iinc dX0_reduce_69 rfl (by decide) (by dsimp only [List.set] <;> rfl) ?_
            refine j_goto (tgt := 12) dX0_reduce_72 (by decide) ?_
            rw [if_neg (by omega)] at hgs
            refine j_weak (L := [some (.ref e), some (vi ((c + 1 : Nat) : Int)), none]) ⟨rfl, rfl, trivial⟩ ?_
            exact ih12 (c + 1) _ _ _ (by omega) (by omega) ho (by rw [hgs]; exact hw) (by rw [hgs]; exact hag)
          · skip
            refine j_aload_n dX0_reduce_45 rfl ?_
            refine j_aload_n dX0_reduce_46 rfl ?_
            refine gf_X0_46 rfl dX0_reduce_47 hw.1 rfl ?_
            refine j_iload_n dX0_reduce_50 rfl ?_
            refine cl_X0_55 (As := [_, _]) rfl dX0_reduce_51 (c_X0_exchangeRows hw (by omega) (by omega) (by omega) (by omega) g4 g5) hw.1 rfl ⟨by decide, by decide⟩ (Nat.le_of_ble_eq_true rfl) ⟨Nat.zero_le _, Nat.zero_le _⟩ (fun σ51 hz51 => ?_)
            rw [if_pos (by omega)] at hgs
            obtain ⟨ho51, f2, hv⟩ := hz51
            have hd1 : 0 ≤ (if G.1 = x then G.2.1 else (-G.2.1) % p) ∧ (if G.1 = x then G.2.1 else (-G.2.1) % p) < p := by
              split
              · exact ⟨g4, g5⟩
              · exact emod_R (by omega)
            have hb1 : MB p z (swapM m1 G.1 x) := by
              intro i hi j hj
              obtain ⟨k, k1, k2, -⟩ := swapM_row m1 (a := G.1) (b := x) (i := i)
              rw [k2, hag k (by omega) j hj]
              exact g2 k (by omega) j hj
            refine j_aload_n dX0_reduce_54 rfl ?_
            refine j_iload_n dX0_reduce_55 rfl ?_
            refine cl_X0_59 (As := [_]) rfl dX0_reduce_56 (c_X0_clearColumn hv hz (by omega) (by omega) (by omega) (by omega) hd1.1 hd1.2 hb1) hv.1 rfl ⟨by decide, by decide⟩ (Nat.le_of_ble_eq_true rfl) ⟨Nat.zero_le _, Nat.zero_le _⟩ (fun σ56 hz56 => ?_)
            obtain ⟨ho56, hv2⟩ := hz56
            refine j_aload_n dX0_reduce_59 rfl ?_
            refine j_dup dX0_reduce_60 rfl ?_
            refine gf_X0_46 rfl dX0_reduce_61 hv2.1 rfl ?_
            refine j_iconst dX0_reduce_64 ?_
            refine j_iadd dX0_reduce_65 ?_
            refine pf_X0_46 rfl dX0_reduce_66 hv2.1 rfl rfl (Nat.le_of_ble_eq_true rfl) ?_
            dsimp only [List.set]
            refine j_iinc dX0_reduce_69 rfl (by decide) (by dsimp only [List.set] <;> rfl) ?_
            refine j_goto (tgt := 12) dX0_reduce_72 (by decide) ?_
            refine j_weak (L := [some (.ref e), some (vi ((c + 1 : Nat) : Int)), none]) ⟨rfl, rfl, trivial⟩ ?_
            have hfin := hv2.own (p' := p) (z' := z) (r' := (G.1 : Int) + 1) (d' := ((if G.1 = x then G.2.1 else (-G.2.1) % p) * swapM m1 G.1 x G.1 c) % p)
            have e9 : swapM m1 G.1 x G.1 c = swapM G.2.2 G.1 x G.1 c := by
              show (if G.1 = G.1 then m1 x else _) c = (if G.1 = G.1 then G.2.2 x else _) c
              rw [if_pos rfl, if_pos rfl]
              exact hag x (by omega) c (by omega)
            refine ih12 (c + 1) _ _ _ (by omega) (by omega) (ho.tr (ho51.tr (ho56.tr (wup_offR (by omega))))) (by rw [hgs, ← e9]; exact hfin) (by rw [hgs]; exact cc_clr hG (by omega) (by omega) (by omega) f1a hag)
  exact lp12 10 0 _ f m (by omega) (by omega) ((wup_offR (by omega)).tr (wup_offR (by omega))) k2 (fun _ _ _ _ => rfl)
set_option maxRecDepth 100000 in
set_option maxHeartbeats 4000000 in
theorem c_X0_decompose {l : Launch} {D : gD} {σ : Wd} {e z : Nat} {p r d : Int} {f : Nat → Nat} {m : Mx} (h1 : EA D σ e p z r d f m) (hz : z = 8) (hp : 2 ≤ p) (hp2 : p ≤ 251) (hm : MB p z m) : KX0_decompose l D [.ref e] σ (fun x σ' => OffR e (e + 10) σ σ' ∧ ((x = 1 ∧ (∀ c, c < 7 → lu p m c c c ≠ 0) ∧ ∃ m', EA D σ' e p z r (luD p m 8) f m' ∧ ∀ i, i < 8 → ∀ j, j ≤ 8 → m' i j = lu p m 8 i j) ∨ (x = 0 ∧ (∃ c, c < 7 ∧ lu p m c c c = 0) ∧ ∃ d' m', EA D σ' e p z r d' f m'))) := by
  refine sp_of (by decide +kernel) (cat1 rfl) (Nat.le_of_ble_eq_true rfl) [some (.ref e), none, none, none, none, none] rfl (fun sz => ?_)
  refine j_aload_n dX0_decompose_0 rfl ?_
  refine j_iconst dX0_decompose_1 ?_
  refine pf_X0_49 rfl dX0_decompose_2 h1.1 rfl rfl (Nat.le_of_ble_eq_true rfl) ?_
  dsimp only [List.set]
  have k1 := h1.own (p' := p) (z' := z) (r' := r) (d' := 1)
  refine j_iconst dX0_decompose_5 ?_
  refine j_istore_n dX0_decompose_6 (by decide) (by dsimp only [List.set] <;> rfl) ?_
  have lp7 : ∀ (nn c : Nat) (w : Wd) (m1 : Mx), 9 - c < nn → c ≤ z → OffR e (e + 10) σ w → EA D w e p z r (luD p m c) f m1 → (∀ i, i < z → ∀ j, j ≤ z → m1 i j = lu p m c i j) → (∀ q, q < c → q < 7 → lu p m q q q ≠ 0) → J l D yX0_decompose cX0_decompose 6 (some .boolean) rmX0_decompose sz (AA σ sz) (QI D σ sz (fun x σ' => OffR e (e + 10) σ σ' ∧ ((x = 1 ∧ (∀ c, c < 7 → lu p m c c c ≠ 0) ∧ ∃ m', EA D σ' e p z r (luD p m 8) f m' ∧ ∀ i, i < 8 → ∀ j, j ≤ 8 → m' i j = lu p m 8 i j) ∨ (x = 0 ∧ (∃ c, c < 7 ∧ lu p m c c c = 0) ∧ ∃ d' m', EA D σ' e p z r d' f m')))) 0 0 7 [some (.ref e), some (vi c), none, none, none, none] [] w := by
    intro nn
    induction nn with
    | zero =>
      intro c w m1 hnn hc ho hw hag hnz
      exfalso
      omega
    | succ nn ih7 =>
      intro c w m1 hnn hc ho hw hag hnz
      have hB := lu_B (by omega) hm c
      have hdR := luD_R (m := m) hp c
      have hls := show lu p m (c + 1) = lus p c (lu p m c) from rfl
      have hlD := show luD p m (c + 1) = (luD p m c * lu p m c c c) % p from rfl
      generalize hU : lu p m c = U at hag hB hls hlD
      have hcc : c < z → 0 ≤ U c c ∧ U c c < p := fun q => hB c q c (by omega)
      have hiv := inv_R (p := p) (v := U c c) hp
      have hmul : c < z → 0 ≤ luD p m c * U c c ∧ luD p m c * U c c ≤ 251 * 251 := fun q => mul_R (m := 251) (n := 251) hdR.1 (by omega) (hcc q).1 (by have := (hcc q).2; omega) (by omega)
      refine j_iload_n dX0_decompose_7 rfl ?_
      refine j_aload_n dX0_decompose_8 rfl ?_
      refine gf_X0_29 rfl dX0_decompose_9 hw.1 rfl ?_
      refine j_icmp_ge (tgt := 143) dX0_decompose_12 (by decide) ⟨by omega, by omega⟩ ⟨by omega, by omega⟩ (fun h12 => ?_) (fun h12 => ?_)
      · skip
        refine j_iconst dX0_decompose_143 ?_
        exact j_zret dX0_decompose_144 (by omega) ⟨_, rfl, ho, Or.inl ⟨rfl, fun q hq => hnz q (by omega) hq, m1, by rw [show 8 = c by omega]; exact hw, by rw [show lu p m 8 = U by rw [← hU, show c = 8 by omega]]; intro i hi j hj; exact hag i (by omega) j (by omega)⟩⟩
      · skip
        refine j_aload_n dX0_decompose_15 rfl ?_
        refine gf_X0_11 rfl dX0_decompose_16 hw.1 rfl ?_
        refine j_iload_n dX0_decompose_19 rfl ?_
        refine jj_aaldA dX0_decompose_20 hw.2.1 (by omega) (by omega) ⟨by omega, by omega⟩ ?_
        refine j_iload_n dX0_decompose_21 rfl ?_
        refine jj_iald dX0_decompose_22 (hw.2.2.2 c (by omega)) (by omega) (by omega) ⟨by omega, by omega⟩ ?_
        refine j_tops (show _ = U c c from hag c (by omega) c (by omega)) ?_
        refine j_istore_n dX0_decompose_23 (by decide) (by dsimp only [List.set] <;> rfl) ?_
        refine j_aload_n dX0_decompose_24 rfl ?_
        refine j_aload_n dX0_decompose_25 rfl ?_
        refine gf_X0_49 rfl dX0_decompose_26 hw.1 rfl ?_
        refine j_iload_n dX0_decompose_29 rfl ?_
        refine j_imul dX0_decompose_30 ?_
        refine j_aload_n dX0_decompose_31 rfl ?_
        refine gf_X0_16 rfl dX0_decompose_32 hw.1 rfl ?_
        have hmul := hmul (by omega)
        have hcc2 := hcc (by omega)
        refine cl_X0_67 (As := [_, _]) rfl dX0_decompose_35 (c_X6_remainder (rs (by omega) (by omega)) hp (by omega)) rfl ⟨by decide, by decide⟩ (Nat.le_of_ble_eq_true rfl) ⟨Nat.zero_le _, Nat.zero_le _⟩ (fun z35 σ35 hz35 => ?_)
        obtain ⟨hr35, hs35⟩ := hz35
        have hr35 := Eq.symm hr35
        have hs35 := Eq.symm hs35
        subst hr35
        subst hs35
        refine pf_X0_49 rfl dX0_decompose_38 hw.1 rfl rfl (Nat.le_of_ble_eq_true rfl) ?_
        dsimp only [List.set]
        have k2 := hw.own (p' := p) (z' := z) (r' := r) (d' := (luD p m c * U c c) % p)
        refine j_iload_n dX0_decompose_41 rfl ?_
        have lp57 : (c < 7 → U c c ≠ 0) → J l D yX0_decompose cX0_decompose 6 (some .boolean) rmX0_decompose sz (AA σ sz) (QI D σ sz (fun x σ' => OffR e (e + 10) σ σ' ∧ ((x = 1 ∧ (∀ c, c < 7 → lu p m c c c ≠ 0) ∧ ∃ m', EA D σ' e p z r (luD p m 8) f m' ∧ ∀ i, i < 8 → ∀ j, j ≤ 8 → m' i j = lu p m 8 i j) ∨ (x = 0 ∧ (∃ c, c < 7 ∧ lu p m c c c = 0) ∧ ∃ d' m', EA D σ' e p z r d' f m')))) 0 0 57 [some (.ref e), some (vi c), some (vi (U c c)), none, none, none] [] (wup w e (.inr (0, [.ref (e + 1), vi p, vi z, vi r, vi ((luD p m c * U c c) % p)]))) := by
          intro hne
          refine j_iload_n dX0_decompose_57 rfl ?_
          refine j_aload_n dX0_decompose_58 rfl ?_
          refine gf_X0_16 rfl dX0_decompose_59 k2.1 rfl ?_
          refine cl_X0_70 (As := [_, _]) rfl dX0_decompose_62 (c_X6_inverse (v := U c c) (hcc (by omega)).1 (hcc (by omega)).2 hp hp2) rfl ⟨by decide, by decide⟩ (Nat.le_of_ble_eq_true rfl) ⟨Nat.zero_le _, Nat.zero_le _⟩ (fun z62 σ62 hz62 => ?_)
          obtain ⟨hr62, hs62⟩ := hz62
          have hr62 := Eq.symm hr62
          have hs62 := Eq.symm hs62
          subst hr62
          subst hs62
          refine j_istore_n dX0_decompose_65 (by decide) (by dsimp only [List.set] <;> rfl) ?_
          refine j_iload_n dX0_decompose_66 rfl ?_
          refine j_iconst dX0_decompose_67 ?_
          refine j_iadd dX0_decompose_68 ?_
          refine j_istore dX0_decompose_69 (by decide) (by dsimp only [List.set] <;> rfl) ?_
          have lp71 : ∀ (nn2 q : Nat) (v : Wd) (m2 : Mx), 9 - q < nn2 → c + 1 ≤ q → q ≤ z → OffR e (e + 10) σ v → EA D v e p z r ((luD p m c * U c c) % p) f m2 → (∀ i, i < z → ∀ j, j ≤ z → m2 i j = (if i < q then lus p c U i j else U i j)) → J l D yX0_decompose cX0_decompose 6 (some .boolean) rmX0_decompose sz (AA σ sz) (QI D σ sz (fun x σ' => OffR e (e + 10) σ σ' ∧ ((x = 1 ∧ (∀ c, c < 7 → lu p m c c c ≠ 0) ∧ ∃ m', EA D σ' e p z r (luD p m 8) f m' ∧ ∀ i, i < 8 → ∀ j, j ≤ 8 → m' i j = lu p m 8 i j) ∨ (x = 0 ∧ (∃ c, c < 7 ∧ lu p m c c c = 0) ∧ ∃ d' m', EA D σ' e p z r d' f m')))) 0 0 71 [some (.ref e), some (vi c), some (vi (U c c)), some (vi (inv p (U c c))), some (vi q), none] [] v := by
            intro nn
            induction nn with
            | zero =>
              intro q v m2 hnn2 hq0 hq1 hov hv hm2
              exfalso
              omega
            | succ nn ih71 =>
              intro q v m2 hnn2 hq0 hq1 hov hv hm2
              refine j_iload dX0_decompose_71 rfl ?_
              refine j_aload_n dX0_decompose_73 rfl ?_
              refine gf_X0_29 rfl dX0_decompose_74 hv.1 rfl ?_
              refine j_icmp_ge (tgt := 137) dX0_decompose_77 (by decide) ⟨by omega, by omega⟩ ⟨by omega, by omega⟩ (fun h77 => ?_) (fun h77 => ?_)
              · skip
                refine j_iinc dX0_decompose_137 rfl (by decide) (by dsimp only [List.set] <;> rfl) ?_
                refine j_goto (tgt := 7) dX0_decompose_140 (by decide) ?_
                refine j_weak (L := [some (.ref e), some (vi ((c + 1 : Nat) : Int)), none, none, none, none]) ⟨rfl, rfl, trivial⟩ ?_
                exact ih7 (c + 1) _ _ (by omega) (by omega) hov (by rw [hlD]; exact hv) (fun i hi j hj => by rw [hls, hm2 i hi j hj, if_pos (by omega)]) (fun q hq hq7 => by
                  rcases (show q < c ∨ q = c by omega) with a | a
                  · exact hnz q a hq7
                  · rw [a, hU]
                    exact hne (by omega))
              · skip
                refine j_aload_n dX0_decompose_80 rfl ?_
                refine gf_X0_11 rfl dX0_decompose_81 hv.1 rfl ?_
                refine j_iload dX0_decompose_84 rfl ?_
                refine jj_aaldA dX0_decompose_86 hv.2.1 (by omega) (by omega) ⟨by omega, by omega⟩ ?_
                refine j_iload_n dX0_decompose_87 rfl ?_
                refine jj_iald dX0_decompose_88 (hv.2.2.2 q (by omega)) (by omega) (by omega) ⟨by omega, by omega⟩ ?_
                refine j_tops (show _ = U q c from (hm2 q (by omega) c (by omega)).trans (if_neg (by omega))) ?_
                have hqc := hB q (by omega) c (by omega)
                have hmul2 := mul_R (m := 251) (n := 251) hqc.1 (by omega) hiv.1 (by omega) (by omega)
                have hsh := emod_R (v := U q c * inv p (U c c)) (p := p) (by omega)
                refine j_iload_n dX0_decompose_89 rfl ?_
                refine j_imul dX0_decompose_90 ?_
                refine j_aload_n dX0_decompose_91 rfl ?_
                refine gf_X0_16 rfl dX0_decompose_92 hv.1 rfl ?_
                refine cl_X0_67 (As := [_, _]) rfl dX0_decompose_95 (c_X6_remainder (rs (by omega) (by omega)) hp (by omega)) rfl ⟨by decide, by decide⟩ (Nat.le_of_ble_eq_true rfl) ⟨Nat.zero_le _, Nat.zero_le _⟩ (fun z95 σ95 hz95 => ?_)
                obtain ⟨hr95, hs95⟩ := hz95
                have hr95 := Eq.symm hr95
                have hs95 := Eq.symm hs95
                subst hr95
                subst hs95
                refine j_istore dX0_decompose_98 (by decide) (by dsimp only [List.set] <;> rfl) ?_
                refine j_aload_n dX0_decompose_100 rfl ?_
                refine j_aload_n dX0_decompose_101 rfl ?_
                refine gf_X0_11 rfl dX0_decompose_102 hv.1 rfl ?_
                refine j_iload dX0_decompose_105 rfl ?_
                refine jj_aaldA dX0_decompose_107 hv.2.1 (by omega) (by omega) ⟨by omega, by omega⟩ ?_
                refine j_aload_n dX0_decompose_108 rfl ?_
                refine gf_X0_11 rfl dX0_decompose_109 hv.1 rfl ?_
                refine j_iload_n dX0_decompose_112 rfl ?_
                refine jj_aaldA dX0_decompose_113 hv.2.1 (by omega) (by omega) ⟨by omega, by omega⟩ ?_
                refine j_iload dX0_decompose_114 rfl ?_
                refine j_iload_n dX0_decompose_116 rfl ?_
                refine cl_X0_73 (As := [_, _, _, _]) rfl dX0_decompose_117 (c_X0_subtract hv.1 (hv.2.2.2 q (by omega)) (hv.2.2.2 c (by omega)) (fun z9 => absurd (hv.2.2.1.2 _ _ (by omega) (by omega) z9) (by omega)) (by omega) (by omega) hp hp2 hsh.1 hsh.2 (fun j hj => by rw [hm2 q (by omega) j hj, if_neg (by omega)]; exact hB q (by omega) j hj) (fun j hj => by rw [hm2 c (by omega) j hj, if_pos (by omega)]; unfold lus; rw [if_neg (by omega)]; exact hB c (by omega) j hj)) hv.1 rfl ⟨by decide, by decide⟩ (Nat.le_of_ble_eq_true rfl) ⟨Nat.zero_le _, Nat.zero_le _⟩ (fun σ117 hz117 => ?_)
                have hv3 := hv.row (i := q) (by omega) hz117.1 hz117.2
                have ho3 := EA.off (i := q) hv.2.2.1 (by omega) hz117.1
                refine j_aload_n dX0_decompose_120 rfl ?_
                refine gf_X0_11 rfl dX0_decompose_121 hv3.1 rfl ?_
                refine j_iload dX0_decompose_124 rfl ?_
                refine jj_aaldA dX0_decompose_126 hv3.2.1 (by omega) (by omega) ⟨by omega, by omega⟩ ?_
                refine j_iload_n dX0_decompose_127 rfl ?_
                refine j_iload dX0_decompose_128 rfl ?_
                refine jj_iast dX0_decompose_130 (hv3.2.2.2 q (by omega)) (by omega) (by omega) ⟨by omega, by omega⟩ (fun e130 q130 => ?_)
                refine j_iinc dX0_decompose_131 rfl (by decide) (by dsimp only [List.set] <;> rfl) ?_
                refine j_goto (tgt := 71) dX0_decompose_134 (by decide) ?_
                refine j_weak (L := [some (.ref e), some (vi c), some (vi (U c c)), some (vi (inv p (U c c))), some (vi ((q + 1 : Nat) : Int)), none]) ⟨rfl, rfl, rfl, rfl, rfl, trivial⟩ ?_
                have hv4 := hv3.row (i := q) (by omega) (wup_off (e := e130) (List.mem_singleton.mpr rfl)) q130
                have ho4 := EA.off (i := q) hv3.2.2.1 (by omega) (wup_off (σ := σ117) (e := e130) (List.mem_singleton.mpr rfl))
                refine ih71 (q + 1) _ _ (by omega) (by omega) (by omega) (hov.tr ((ho3.tr ho4).mono (by omega) (by omega))) hv4 (fun i hi j hj => ?_)
                by_cases a : i = q
                · rw [a, fup_s, if_pos (by omega), show ((c : Int)).toNat = c from rfl]
                  unfold lus
                  rw [if_pos (by omega)]
                  by_cases b : j = c
                  · rw [b, fup_s, if_pos rfl]
                  · rw [fup_n b, fup_s, if_neg b]
                    have e1 : m2 q j = U q j := (hm2 q (by omega) j hj).trans (if_neg (by omega))
                    have e2 : m2 c j = U c j := (hm2 c (by omega) j hj).trans (by rw [if_pos (by omega)]; unfold lus; rw [if_neg (by omega)])
                    have e3 := hB q (by omega) j hj
                    unfold subF
                    rw [e1, e2]
                    by_cases b2 : c < j
                    · rw [if_pos b2]
                      by_cases b3 : (U q c * inv p (U c c)) % p = 0
                      · rw [if_neg (fun z9 => z9.1 b3), b3, Int.zero_mul, Int.sub_zero, emod_id e3.1 e3.2]
                      · rw [if_pos ⟨b3, by omega, by omega⟩]
                    · rw [if_neg b2, if_neg (by omega)]
                · rw [fup_n a, fup_n a, hm2 i hi j hj]
                  by_cases b : i < q
                  · rw [if_pos b, if_pos (by omega)]
                  · rw [if_neg b, if_neg (by omega)]
          exact lp71 10 (c + 1) _ m1 (by omega) (by omega) (by omega) (ho.tr (wup_offR (by omega))) k2 (fun i hi j hj => by
            rw [hag i hi j hj]
            split
            · unfold lus
              rw [if_neg (by omega)]
            · rfl)
        refine j_if_ne (tgt := 57) dX0_decompose_42 (by decide) ⟨by omega, by omega⟩ (fun h42 => ?_) (fun h42 => ?_)
        · skip
          exact lp57 (fun _ => h42)
        · skip
          refine j_iload_n dX0_decompose_45 rfl ?_
          refine j_aload_n dX0_decompose_46 rfl ?_
          refine gf_X0_29 rfl dX0_decompose_47 k2.1 rfl ?_
          refine j_iconst dX0_decompose_50 ?_
          refine j_isub dX0_decompose_51 ?_
          refine j_icmp_ge (tgt := 57) dX0_decompose_52 (by decide) ⟨by omega, by omega⟩ ⟨by omega, by omega⟩ (fun h52 => ?_) (fun h52 => ?_)
          · skip
            exact lp57 (fun q => absurd q (by omega))
          · skip
            refine j_iconst dX0_decompose_55 ?_
            exact j_zret dX0_decompose_56 (by omega) ⟨_, rfl, ho.tr (wup_offR (by omega)), Or.inr ⟨rfl, ⟨c, by omega, by rw [hU]; exact h42⟩, _, _, k2⟩⟩
  exact lp7 10 0 _ m (by omega) (by omega) (wup_offR (by omega)) k1 (fun _ _ _ _ => rfl) (fun q hq => absurd hq (by omega))

/-! ===== contracts: Elimination: load, clearColumn ===== -/
theorem nrF_R {p : Int} {z r c : Nat} {m : Mx} (hp : 2 ≤ p) (hm : MB p z m) (hr : r < z) : ∀ j, j ≤ z → 0 ≤ nrF p z r c m j ∧ nrF p z r c m j < p := by
  intro j hj
  unfold nrF
  split
  · exact emod_R (by omega)
  · exact hm r hr j hj

set_option maxRecDepth 100000 in
set_option maxHeartbeats 4000000 in
theorem c_X0_load {l : Launch} {D : gD} {σ : Wd} {e a cA tA s z : Nat} {p p0 z0 r d : Int} {f : Nat → Nat} {m : Mx} {F : Nat → Int} (h1 : EA D σ e p0 z0 r d f m) (h2 : σ a = some (.inr (3, [.ref cA, .ref tA]))) (h3 : IA D σ cA 64 F) (ha : a < e ∨ e + 10 ≤ a) (hcA : cA < e ∨ e + 10 ≤ cA) (hs : s < 64) (hz : z ≤ 8) (hrow : rowN s + z ≤ 8) (hcol : colN s + z ≤ 8) : KX0_load l D [.ref e, .ref a, vi s, vi z, vi p] σ (fun σ' => OffR e (e + 10) σ σ' ∧ ∃ m', EA D σ' e p z r d f m' ∧ ∀ i, i < z → ∀ j, j ≤ z → m' i j = ldM F s z i j) := by
  have hrR := rowN_R s
  have hcR := colN_R s
  refine sp_of (by decide +kernel) (cat1 rfl) (Nat.le_of_ble_eq_true rfl) [some (.ref e), some (.ref a), some (vi s), some (vi z), some (vi p), none, none, none, none] rfl (fun sz => ?_)
  refine j_aload_n dX0_load_0 rfl ?_
  refine j_iload dX0_load_1 rfl ?_
  refine pf_X0_16 rfl dX0_load_3 h1.1 rfl rfl (Nat.le_of_ble_eq_true rfl) ?_
  dsimp only [List.set]
  have k1 := h1.own (p' := p) (z' := z0) (r' := r) (d' := d)
  refine j_aload_n dX0_load_6 rfl ?_
  refine j_iconst dX0_load_7 ?_
  refine j_bipush dX0_load_8 (by decide) ?_
  refine j_iload_n dX0_load_10 rfl ?_
  refine j_mmin lk_X0_20 wst_min wini_math wcd_min dX0_load_11 ⟨by omega, by omega⟩ ⟨by omega, by omega⟩ (by decide) (Nat.le_of_ble_eq_true rfl) ⟨Nat.zero_le _, Nat.zero_le _⟩ ?_
  refine j_tops (show (if (z : Int) < 8 then (z : Int) else 8) = z by split <;> omega) ?_
  refine j_mmax lk_X0_26 wst_max wini_math wcd_max dX0_load_14 ⟨by omega, by omega⟩ ⟨by omega, by omega⟩ (by decide) (Nat.le_of_ble_eq_true rfl) ⟨Nat.zero_le _, Nat.zero_le _⟩ ?_
  refine j_tops (show (if (0 : Int) < (z : Int) then (z : Int) else 0) = z by split <;> omega) ?_
  refine pf_X0_29 rfl dX0_load_17 k1.1 rfl rfl (Nat.le_of_ble_eq_true rfl) ?_
  dsimp only [List.set]
  have k2 := k1.own (p' := p) (z' := z) (r' := r) (d' := d)
  refine j_iload_n dX0_load_20 rfl ?_
  refine cl_X0_32 (As := [_]) rfl dX0_load_21 (c_X5_rowOf (by omega)) rfl ⟨by decide, by decide⟩ (Nat.le_of_ble_eq_true rfl) ⟨Nat.zero_le _, Nat.zero_le _⟩ (fun z21 σ21 hz21 => ?_)
  obtain ⟨hr21, hs21⟩ := hz21
  have hr21 := Eq.symm hr21
  have hs21 := Eq.symm hs21
  subst hr21
  subst hs21
  refine j_istore dX0_load_24 (by decide) (by dsimp only [List.set] <;> rfl) ?_
  refine j_iload_n dX0_load_26 rfl ?_
  refine cl_X0_38 (As := [_]) rfl dX0_load_27 (c_X5_columnOf hs) rfl ⟨by decide, by decide⟩ (Nat.le_of_ble_eq_true rfl) ⟨Nat.zero_le _, Nat.zero_le _⟩ (fun z27 σ27 hz27 => ?_)
  obtain ⟨hr27, hs27⟩ := hz27
  have hr27 := Eq.symm hr27
  have hs27 := Eq.symm hs27
  subst hr27
  subst hs27
  refine j_istore dX0_load_30 (by decide) (by dsimp only [List.set] <;> rfl) ?_
  refine j_iconst dX0_load_32 ?_
  refine j_istore dX0_load_33 (by decide) (by dsimp only [List.set] <;> rfl) ?_
  have lp35 : ∀ (nn : Nat) (i : Int) (w : Wd) (m1 : Mx), 9 - i < nn → 0 ≤ i → i ≤ z → OffR e (e + 10) σ w → EA D w e p z r d f m1 → (∀ q : Nat, (q : Int) < i → ∀ j, j ≤ z → m1 q j = ldM F s z q j) → J l D yX0_load cX0_load 9 none rmX0_load sz (AA σ sz) (QV D σ sz (fun σ' => OffR e (e + 10) σ σ' ∧ ∃ m', EA D σ' e p z r d f m' ∧ ∀ i, i < z → ∀ j, j ≤ z → m' i j = ldM F s z i j)) 0 0 35 [some (.ref e), some (.ref a), some (vi s), some (vi z), some (vi p), some (vi (rowN s)), some (vi (colN s)), some (vi i), none] [] w := by
    intro nn
    induction nn with
    | zero =>
      intro i w m1 hnn hi0 hi1 ho hw hm
      exfalso
      omega
    | succ nn ih35 =>
      intro i w m1 hnn hi0 hi1 ho hw hm
      refine j_iload dX0_load_35 rfl ?_
      refine j_aload_n dX0_load_37 rfl ?_
      refine gf_X0_29 rfl dX0_load_38 hw.1 rfl ?_
      refine j_icmp_ge (tgt := 105) dX0_load_41 (by decide) ⟨by omega, by omega⟩ ⟨by omega, by omega⟩ (fun h41 => ?_) (fun h41 => ?_)
      · skip
        exact j_vret dX0_load_105 ⟨rfl, ho, m1, hw, fun q hq => hm q (by omega)⟩
      · skip
        refine j_iconst dX0_load_44 ?_
        refine j_istore dX0_load_45 (by decide) (by dsimp only [List.set] <;> rfl) ?_
        have lp47 : ∀ (nn2 : Nat) (j : Int) (v : Wd) (m2 : Mx), 9 - j < nn2 → 0 ≤ j → j ≤ z → OffR e (e + 10) σ v → EA D v e p z r d f m2 → (∀ q : Nat, (q : Int) < i → ∀ j, j ≤ z → m2 q j = ldM F s z q j) → (∀ q : Nat, (q : Int) < j → m2 i.toNat q = ldM F s z i.toNat q) → J l D yX0_load cX0_load 9 none rmX0_load sz (AA σ sz) (QV D σ sz (fun σ' => OffR e (e + 10) σ σ' ∧ ∃ m', EA D σ' e p z r d f m' ∧ ∀ i, i < z → ∀ j, j ≤ z → m' i j = ldM F s z i j)) 0 0 47 [some (.ref e), some (.ref a), some (vi s), some (vi z), some (vi p), some (vi (rowN s)), some (vi (colN s)), some (vi i), some (vi j)] [] v := by
          intro nn
          induction nn with
          | zero =>
            intro j v m2 hnn2 hj0 hj1 hov hv hmv hmj
            exfalso
            omega
          | succ nn ih47 =>
            intro j v m2 hnn2 hj0 hj1 hov hv hmv hmj
            refine j_iload dX0_load_47 rfl ?_
            refine j_aload_n dX0_load_49 rfl ?_
            refine gf_X0_29 rfl dX0_load_50 hv.1 rfl ?_
            refine j_icmp_ge (tgt := 86) dX0_load_53 (by decide) ⟨by omega, by omega⟩ ⟨by omega, by omega⟩ (fun h53 => ?_) (fun h53 => ?_)
            · skip
              refine j_aload_n dX0_load_86 rfl ?_
              refine gf_X0_11 rfl dX0_load_87 hv.1 rfl ?_
              refine j_iload dX0_load_90 rfl ?_
              refine jj_aaldA dX0_load_92 hv.2.1 (by omega) (by omega) ⟨by omega, by omega⟩ ?_
              refine j_aload_n dX0_load_93 rfl ?_
              refine gf_X0_29 rfl dX0_load_94 hv.1 rfl ?_
              refine j_iconst dX0_load_97 ?_
              refine jj_iast dX0_load_98 (hv.2.2.2 i.toNat (by omega)) (by omega) (by omega) ⟨by omega, by omega⟩ (fun e98 q98 => ?_)
              refine j_iinc dX0_load_99 rfl (by decide) (by dsimp only [List.set] <;> rfl) ?_
              refine j_goto (tgt := 35) dX0_load_102 (by decide) ?_
              refine j_weak (L := [some (.ref e), some (.ref a), some (vi s), some (vi z), some (vi p), some (vi (rowN s)), some (vi (colN s)), some (vi (i + 1)), none]) ⟨rfl, rfl, rfl, rfl, rfl, rfl, rfl, rfl, trivial⟩ ?_
              refine ih35 _ _ _ (by omega) (by omega) (by omega) (hov.tr ((EA.off (i := i.toNat) hv.2.2.1 (by omega) (wup_off (List.mem_singleton.mpr rfl))).mono (by omega) (by omega))) (hv.row (i := i.toNat) (by omega) (wup_off (List.mem_singleton.mpr rfl)) q98) (fun q hq jj hjj => ?_)
              unfold fup
              by_cases a1 : q = i.toNat
              · rw [if_pos a1]
                by_cases a2 : jj = (z : Int).toNat
                · rw [if_pos a2]
                  unfold ldM
                  rw [if_neg (by omega)]
                · rw [if_neg a2, a1]
                  exact hmj jj (by omega)
              · rw [if_neg a1]
                exact hmv q (by omega) jj hjj
            · skip
              refine j_aload_n dX0_load_56 rfl ?_
              refine gf_X0_11 rfl dX0_load_57 hv.1 rfl ?_
              refine j_iload dX0_load_60 rfl ?_
              refine jj_aaldA dX0_load_62 hv.2.1 (by omega) (by omega) ⟨by omega, by omega⟩ ?_
              refine j_iload dX0_load_63 rfl ?_
              refine j_aload_n dX0_load_65 rfl ?_
              refine j_iload dX0_load_66 rfl ?_
              refine j_iload dX0_load_68 rfl ?_
              refine j_iadd dX0_load_70 ?_
              refine j_iload dX0_load_71 rfl ?_
              refine j_iload dX0_load_73 rfl ?_
              refine j_iadd dX0_load_75 ?_
              refine cl_X0_41 (As := [_, _]) rfl dX0_load_76 (c_X3_at (hov.get h2 ha) (hov.ia h3 hcA) (rs (by omega) (by omega)) (rs (by omega) (by omega))) (hov.get h2 ha) rfl ⟨by decide, by decide⟩ (Nat.le_of_ble_eq_true rfl) ⟨Nat.zero_le _, Nat.zero_le _⟩ (fun z76 σ76 hz76 => ?_)
              obtain ⟨hr76, hs76⟩ := hz76
              have hr76 := Eq.symm hr76
              have hs76 := Eq.symm hs76
              subst hr76
              subst hs76
              refine jj_iast dX0_load_79 (hv.2.2.2 i.toNat (by omega)) (by omega) (by omega) ⟨by omega, by omega⟩ (fun e79 q79 => ?_)
              refine j_iinc dX0_load_80 rfl (by decide) (by dsimp only [List.set] <;> rfl) ?_
              refine j_goto (tgt := 47) dX0_load_83 (by decide) ?_
              refine ih47 _ _ _ (by omega) (by omega) (by omega) (hov.tr ((EA.off (i := i.toNat) hv.2.2.1 (by omega) (wup_off (List.mem_singleton.mpr rfl))).mono (by omega) (by omega))) (hv.row (i := i.toNat) (by omega) (wup_off (List.mem_singleton.mpr rfl)) q79) (fun q hq jj hjj => ?_) (fun q hq => ?_)
              · unfold fup
                rw [if_neg (by omega)]
                exact hmv q hq jj hjj
              · unfold fup
                rw [if_pos rfl]
                by_cases a1 : q = j.toNat
                · rw [if_pos a1, if_pos (by omega)]
                  unfold ldM blk
                  rw [if_pos (by omega)]
                  congr 2
                  omega
                · rw [if_neg a1]
                  exact hmj q (by omega)
        exact lp47 10 0 _ _ (by omega) (by omega) (by omega) ho hw hm (fun q hq => absurd hq (by omega))
  exact lp35 10 0 _ _ (by omega) (by omega) (by omega) ((wup_offR (by omega)).tr (wup_offR (by omega))) k2 (fun q hq => absurd hq (by omega))
set_option maxRecDepth 100000 in
set_option maxHeartbeats 4000000 in
theorem c_X0_clearColumn {l : Launch} {D : gD} {σ : Wd} {e z r c : Nat} {p d : Int} {f : Nat → Nat} {m : Mx} (h1 : EA D σ e p z r d f m) (hz : z ≤ 8) (hr : r < z) (hc : c < z) (hp : 2 ≤ p) (hp2 : p ≤ 251) (hd0 : 0 ≤ d) (hd1 : d < p) (hm : MB p z m) : KX0_clearColumn l D [.ref e, vi c] σ (fun σ' => OffR e (e + 10) σ σ' ∧ EA D σ' e p z r ((d * m r c) % p) f (ccM p z r c m)) := by
  have hin := h1.2.2.1.1
  have hpv := hm r hr c (by omega)
  have hmul := mul_R (m := 251) (n := 251) hd0 (by omega) hpv.1 (by omega) (by omega)
  have hiv := inv_R (p := p) (v := m r c) hp
  refine sp_of (by decide +kernel) (cat1 rfl) (Nat.le_of_ble_eq_true rfl) [some (.ref e), some (vi c), none, none, none] rfl (fun sz => ?_)
  refine j_aload_n dX0_clearColumn_0 rfl ?_
  refine gf_X0_46 rfl dX0_clearColumn_1 h1.1 rfl ?_
  refine cl_X0_63 (As := [_]) rfl dX0_clearColumn_4 (c_X6_isInside (rs (by omega) (by omega))) rfl ⟨by decide, by decide⟩ (Nat.le_of_ble_eq_true rfl) ⟨Nat.zero_le _, Nat.zero_le _⟩ (fun z4 σ4 hz4 => ?_)
  obtain ⟨hr4, hs4⟩ := hz4
  have hr4 := Eq.symm hr4
  have hs4 := Eq.symm hs4
  subst hr4
  subst hs4
  refine j_if_eq (tgt := 17) dX0_clearColumn_7 (by decide) ⟨by omega, by omega⟩ (fun h7 => ?_) (fun h7 => ?_)
  · skip
    exact absurd h7 (by rw [if_pos (by omega)]; omega)
  · skip
    refine j_iload_n dX0_clearColumn_10 rfl ?_
    refine cl_X0_63 (As := [_]) rfl dX0_clearColumn_11 (c_X6_isInside (rs (by omega) (by omega))) rfl ⟨by decide, by decide⟩ (Nat.le_of_ble_eq_true rfl) ⟨Nat.zero_le _, Nat.zero_le _⟩ (fun z11 σ11 hz11 => ?_)
    obtain ⟨hr11, hs11⟩ := hz11
    have hr11 := Eq.symm hr11
    have hs11 := Eq.symm hs11
    subst hr11
    subst hs11
    refine j_if_ne (tgt := 18) dX0_clearColumn_14 (by decide) ⟨by omega, by omega⟩ (fun h14 => ?_) (fun h14 => ?_)
    · skip
      refine j_aload_n dX0_clearColumn_18 rfl ?_
      refine gf_X0_11 rfl dX0_clearColumn_19 h1.1 rfl ?_
      refine j_aload_n dX0_clearColumn_22 rfl ?_
      refine gf_X0_46 rfl dX0_clearColumn_23 h1.1 rfl ?_
      refine jj_aaldA dX0_clearColumn_26 h1.2.1 (by omega) (by omega) ⟨by omega, by omega⟩ ?_
      refine j_astore_n dX0_clearColumn_27 (by decide) (by dsimp only [List.set] <;> rfl) ?_
      refine j_aload_n dX0_clearColumn_28 rfl ?_
      refine j_aload_n dX0_clearColumn_29 rfl ?_
      refine gf_X0_49 rfl dX0_clearColumn_30 h1.1 rfl ?_
      refine j_aload_n dX0_clearColumn_33 rfl ?_
      refine j_iload_n dX0_clearColumn_34 rfl ?_
      refine jj_iald dX0_clearColumn_35 (h1.2.2.2 r (by omega)) (by omega) (by omega) ⟨by omega, by omega⟩ ?_
      refine j_imul dX0_clearColumn_36 ?_
      refine j_aload_n dX0_clearColumn_37 rfl ?_
      refine gf_X0_16 rfl dX0_clearColumn_38 h1.1 rfl ?_
      refine cl_X0_67 (As := [_, _]) rfl dX0_clearColumn_41 (c_X6_remainder (v := d * m r c) (rs (by omega) (by omega)) hp (by omega)) rfl ⟨by decide, by decide⟩ (Nat.le_of_ble_eq_true rfl) ⟨Nat.zero_le _, Nat.zero_le _⟩ (fun z41 σ41 hz41 => ?_)
      obtain ⟨hr41, hs41⟩ := hz41
      have hr41 := Eq.symm hr41
      have hs41 := Eq.symm hs41
      subst hr41
      subst hs41
      refine pf_X0_49 rfl dX0_clearColumn_44 h1.1 rfl rfl (Nat.le_of_ble_eq_true rfl) ?_
      dsimp only [List.set]
      have k1 := h1.own (p' := p) (z' := z) (r' := r) (d' := (d * m r c) % p)
      refine j_aload_n dX0_clearColumn_47 rfl ?_
      refine j_iload_n dX0_clearColumn_48 rfl ?_
      refine jj_iald dX0_clearColumn_49 (k1.2.2.2 r (by omega)) (by omega) (by omega) ⟨by omega, by omega⟩ ?_
      refine j_aload_n dX0_clearColumn_50 rfl ?_
      refine gf_X0_16 rfl dX0_clearColumn_51 k1.1 rfl ?_
      refine cl_X0_70 (As := [_, _]) rfl dX0_clearColumn_54 (c_X6_inverse (v := m r c) hpv.1 hpv.2 hp hp2) rfl ⟨by decide, by decide⟩ (Nat.le_of_ble_eq_true rfl) ⟨Nat.zero_le _, Nat.zero_le _⟩ (fun z54 σ54 hz54 => ?_)
      obtain ⟨hr54, hs54⟩ := hz54
      have hr54 := Eq.symm hr54
      have hs54 := Eq.symm hs54
      subst hr54
      subst hs54
      refine j_istore_n dX0_clearColumn_57 (by decide) (by dsimp only [List.set] <;> rfl) ?_
      refine j_iload_n dX0_clearColumn_58 rfl ?_
      refine j_istore dX0_clearColumn_59 (by decide) (by dsimp only [List.set] <;> rfl) ?_
      have lp61 : ∀ (nn : Nat) (i : Int) (w : Wd), 10 - i < nn → (c : Int) ≤ i → i ≤ 9 → OffR e (e + 10) σ w → EA D w e p z r ((d * m r c) % p) f (fup m r (fun j => if c ≤ j ∧ (j : Int) < i ∧ j ≤ z then (m r j * inv p (m r c)) % p else m r j)) → J l D yX0_clearColumn cX0_clearColumn 5 none rmX0_clearColumn sz (AA σ sz) (QV D σ sz (fun σ' => OffR e (e + 10) σ σ' ∧ EA D σ' e p z r ((d * m r c) % p) f (ccM p z r c m))) 0 0 61 [some (.ref e), some (vi c), some (.ref (f r)), some (vi (inv p (m r c))), some (vi i)] [] w := by
        intro nn
        induction nn with
        | zero =>
          intro i w hnn hi0 hi1 ho hw
          exfalso
          omega
        | succ nn ih61 =>
          intro i w hnn hi0 hi1 ho hw
          have hwr := hw.2.2.2 r (by omega)
          rw [fup_s] at hwr
          refine j_iload dX0_clearColumn_61 rfl ?_
          refine j_aload_n dX0_clearColumn_63 rfl ?_
          refine gf_X0_29 rfl dX0_clearColumn_64 hw.1 rfl ?_
          refine j_icmp_gt (tgt := 93) dX0_clearColumn_67 (by decide) ⟨by omega, by omega⟩ ⟨by omega, by omega⟩ (fun h67 => ?_) (fun h67 => ?_)
          · skip
            refine j_iconst dX0_clearColumn_93 ?_
            refine j_istore dX0_clearColumn_94 (by decide) (by dsimp only [List.set] <;> rfl) ?_
            have lp96 : ∀ (nn2 : Nat) (q : Int) (v : Wd) (M2 : Mx), 9 - q < nn2 → 0 ≤ q → q ≤ z → OffR e (e + 10) σ v → EA D v e p z r ((d * m r c) % p) f M2 → (∀ i, M2 i = (if i = r then nrF p z r c m else if (i : Int) < q then ccM p z r c m i else m i)) → J l D yX0_clearColumn cX0_clearColumn 5 none rmX0_clearColumn sz (AA σ sz) (QV D σ sz (fun σ' => OffR e (e + 10) σ σ' ∧ EA D σ' e p z r ((d * m r c) % p) f (ccM p z r c m))) 0 0 96 [some (.ref e), some (vi c), some (.ref (f r)), some (vi (inv p (m r c))), some (vi q)] [] v := by
              intro nn
              induction nn with
              | zero =>
                intro q v M2 hnn2 hq0 hq1 hov hv hM2
                exfalso
                omega
              | succ nn ih96 =>
                intro q v M2 hnn2 hq0 hq1 hov hv hM2
                refine j_iload dX0_clearColumn_96 rfl ?_
                refine j_aload_n dX0_clearColumn_98 rfl ?_
                refine gf_X0_29 rfl dX0_clearColumn_99 hv.1 rfl ?_
                refine j_icmp_ge (tgt := 142) dX0_clearColumn_102 (by decide) ⟨by omega, by omega⟩ ⟨by omega, by omega⟩ (fun h102 => ?_) (fun h102 => ?_)
                · skip
                  exact j_vret dX0_clearColumn_142 ⟨rfl, hov, hv.ext (fun i hi j hj => by
                    rw [hM2]
                    unfold ccM
                    by_cases a : i = r
                    · rw [if_pos a, if_pos a]
                    · rw [if_neg a, if_neg a]
                      by_cases b : (i : Int) < q
                      · rw [if_pos b]
                      · rw [if_neg b, if_neg (by omega)])⟩
                · skip
                  refine j_iload dX0_clearColumn_105 rfl ?_
                  refine j_aload_n dX0_clearColumn_107 rfl ?_
                  refine gf_X0_46 rfl dX0_clearColumn_108 hv.1 rfl ?_
                  refine j_icmp_eq (tgt := 136) dX0_clearColumn_111 (by decide) ⟨by omega, by omega⟩ ⟨by omega, by omega⟩ (fun h111 => ?_) (fun h111 => ?_)
                  · skip
                    refine j_iinc dX0_clearColumn_136 rfl (by decide) (by dsimp only [List.set] <;> rfl) ?_
                    refine j_goto (tgt := 96) dX0_clearColumn_139 (by decide) ?_
                    refine ih96 _ _ M2 (by omega) (by omega) (by omega) hov hv (fun i => ?_)
                    rw [hM2]
                    by_cases a : i = r
                    · rw [if_pos a, if_pos a]
                    · rw [if_neg a, if_neg a]
                      by_cases b : (i : Int) < q
                      · rw [if_pos b, if_pos (by omega)]
                      · rw [if_neg b, if_neg (by omega)]
                  · skip
                    refine j_aload_n dX0_clearColumn_114 rfl ?_
                    refine j_aload_n dX0_clearColumn_115 rfl ?_
                    refine gf_X0_11 rfl dX0_clearColumn_116 hv.1 rfl ?_
                    refine j_iload dX0_clearColumn_119 rfl ?_
                    refine jj_aaldA dX0_clearColumn_121 hv.2.1 (by omega) (by omega) ⟨by omega, by omega⟩ ?_
                    refine j_aload_n dX0_clearColumn_122 rfl ?_
                    refine j_aload_n dX0_clearColumn_123 rfl ?_
                    refine gf_X0_11 rfl dX0_clearColumn_124 hv.1 rfl ?_
                    refine j_iload dX0_clearColumn_127 rfl ?_
                    refine jj_aaldA dX0_clearColumn_129 hv.2.1 (by omega) (by omega) ⟨by omega, by omega⟩ ?_
                    refine j_iload_n dX0_clearColumn_130 rfl ?_
                    refine jj_iald dX0_clearColumn_131 (hv.2.2.2 q.toNat (by omega)) (by omega) (by omega) ⟨by omega, by omega⟩ ?_
                    have e1 : M2 q.toNat = m q.toNat := by rw [hM2, if_neg (by omega), if_neg (by omega)]
                    have e2 : M2 r = nrF p z r c m := by rw [hM2, if_pos rfl]
                    have hmq := hm q.toNat (by omega)
                    refine j_iload_n dX0_clearColumn_132 rfl ?_
                    refine cl_X0_73 (As := [_, _, _, _]) rfl dX0_clearColumn_133 (c_X0_subtract hv.1 (hv.2.2.2 q.toNat (by omega)) (hv.2.2.2 r (by omega)) (fun z9 => absurd (hv.2.2.1.2 _ _ (by omega) (by omega) z9) (by omega)) hz (by omega) hp hp2 (by rw [e1]; exact (hmq c (by omega)).1) (by rw [e1]; exact (hmq c (by omega)).2) (by rw [e1]; exact hmq) (by rw [e2]; exact nrF_R hp hm hr)) hv.1 rfl ⟨by decide, by decide⟩ (Nat.le_of_ble_eq_true rfl) ⟨Nat.zero_le _, Nat.zero_le _⟩ (fun σ133 hz133 => ?_)
                    refine j_iinc dX0_clearColumn_136 rfl (by decide) (by dsimp only [List.set] <;> rfl) ?_
                    refine j_goto (tgt := 96) dX0_clearColumn_139 (by decide) ?_
                    refine ih96 _ _ _ (by omega) (by omega) (by omega) (hov.tr ((EA.off (i := q.toNat) hv.2.2.1 (by omega) hz133.1).mono (by omega) (by omega))) (hv.row (i := q.toNat) (by omega) hz133.1 hz133.2) (fun i => ?_)
                    unfold fup
                    by_cases a : i = q.toNat
                    · rw [if_pos a, a, if_neg (by omega), if_pos (by omega), e1, e2]
                      unfold ccM
                      rw [if_neg (by omega), if_pos (by omega)]
                      rfl
                    · rw [if_neg a, hM2]
                      by_cases a2 : i = r
                      · rw [if_pos a2, if_pos a2]
                      · rw [if_neg a2, if_neg a2]
                        by_cases b : (i : Int) < q
                        · rw [if_pos b, if_pos (by omega)]
                        · rw [if_neg b, if_neg (by omega)]
            exact lp96 10 0 _ (fun i => if i = r then nrF p z r c m else if (i : Int) < 0 then ccM p z r c m i else m i) (by omega) (by omega) (by omega) ho (hw.ext (fun i2 hi j hj => by
              unfold fup
              by_cases a : i2 = r
              · rw [if_pos a, if_pos a]
                unfold nrF
                by_cases b : c ≤ j ∧ j ≤ z
                · rw [if_pos b, if_pos (by omega)]
                · rw [if_neg b, if_neg (by omega)]
              · rw [if_neg a, if_neg a, if_neg (by omega)])) (fun i => rfl)
          · skip
            refine j_aload_n dX0_clearColumn_70 rfl ?_
            refine j_iload dX0_clearColumn_71 rfl ?_
            refine j_aload_n dX0_clearColumn_73 rfl ?_
            refine j_iload dX0_clearColumn_74 rfl ?_
            refine jj_iald dX0_clearColumn_76 hwr (by omega) (by omega) ⟨by omega, by omega⟩ ?_
            refine j_tops (show _ = m r i.toNat by rw [if_neg (by omega)]) ?_
            refine j_iload_n dX0_clearColumn_77 rfl ?_
            refine j_imul dX0_clearColumn_78 ?_
            refine j_aload_n dX0_clearColumn_79 rfl ?_
            refine gf_X0_16 rfl dX0_clearColumn_80 hw.1 rfl ?_
            have hmi := hm r hr i.toNat (by omega)
            have hmul2 := mul_R (m := 251) (n := 251) hmi.1 (by omega) hiv.1 (by omega) (by omega)
            refine cl_X0_67 (As := [_, _]) rfl dX0_clearColumn_83 (c_X6_remainder (rs (by omega) (by omega)) hp (by omega)) rfl ⟨by decide, by decide⟩ (Nat.le_of_ble_eq_true rfl) ⟨Nat.zero_le _, Nat.zero_le _⟩ (fun z83 σ83 hz83 => ?_)
            obtain ⟨hr83, hs83⟩ := hz83
            have hr83 := Eq.symm hr83
            have hs83 := Eq.symm hs83
            subst hr83
            subst hs83
            refine jj_iast dX0_clearColumn_86 hwr (by omega) (by omega) ⟨by omega, by omega⟩ (fun e86 q86 => ?_)
            refine j_iinc dX0_clearColumn_87 rfl (by decide) (by dsimp only [List.set] <;> rfl) ?_
            refine j_goto (tgt := 61) dX0_clearColumn_90 (by decide) ?_
            refine ih61 _ _ (by omega) (by omega) (by omega) (ho.tr ((EA.off (i := r) hw.2.2.1 (by omega) (wup_off (List.mem_singleton.mpr rfl))).mono (by omega) (by omega))) ((hw.row (i := r) (by omega) (wup_off (List.mem_singleton.mpr rfl)) q86).ext (fun q hq j hj => ?_))
            unfold fup
            by_cases a : q = r
            · rw [if_pos a, if_pos a]
              by_cases b : j = i.toNat
              · rw [if_pos b, if_pos (by omega), b]
              · rw [if_neg b]
                dsimp only
                by_cases b2 : c ≤ j ∧ (j : Int) < i ∧ j ≤ z
                · rw [if_pos b2, if_pos (by omega)]
                · rw [if_neg b2, if_neg (by omega)]
            · rw [if_neg a, if_neg a, if_neg a]
      exact lp61 11 c _ (by omega) (by omega) (by omega) (wup_offR (by omega)) (k1.ext (fun i hi j hj => by unfold fup; by_cases a : i = r; rw [if_pos a, if_neg (by omega), a]; rw [if_neg a]))
    · skip
      exact absurd h14 (by rw [if_pos (by omega)]; omega)

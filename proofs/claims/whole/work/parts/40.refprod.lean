/-! ===== the reference: products, factors, what is told ===== -/
theorem lowR {p : Int} {m : Mx} {i k : Nat} (hp : 2 ≤ p) (h : 0 ≤ m i k ∧ m i k < p) : 0 ≤ lowF m i k ∧ lowF m i k < p := by
  unfold lowF
  split
  · omega
  · split <;> omega

set_option maxRecDepth 100000 in
set_option maxHeartbeats 4000000 in
theorem c_X7_addProduct {l : Launch} {D : gD} {σ : Wd} {m n tn : Nat} {hs : Int} {S SN : MS} {H : Nat → MS} {ch : Nat → Int} {t e : Int} (h0 : RS D σ m S SN hs n H tn ch) (hWS : WS S) (ht : R32 t) (he : R32 e) : KX7_addProduct l D [.ref m, vi t, vi e] σ (fun x σ' => x = apX S tn ch t e ∧ OffR m (m + 10) σ σ' ∧ RS D σ' m (nxS (apN S tn ch t e) S) SN hs (nxN (apN S tn ch t e) n) (nxH (apN S tn ch t e) n H S) tn ch) := by
  obtain ⟨pl, de, R, P, A, rv, W, mk, ls, sp, h, hO, hP, hA, hn4, htn, hch⟩ := h0
  have hlo := primeB_lo hWS.1
  have hg := fun t ht => (hWS.2 t ht).2
  have hF := fun t ht => (hWS.2 t ht).1
  refine sp_of (by decide +kernel) (cat1 rfl) (Nat.le_of_ble_eq_true rfl) [some (.ref m), some (vi t), some (vi e), none, none, none, none, none] rfl (fun sz => ?_)
  refine j_aload_n dX7_addProduct_0 rfl ?_
  refine j_iload_n dX7_addProduct_1 rfl ?_
  refine j_iload_n dX7_addProduct_2 rfl ?_
  refine cl_X7_130 (As := [_, _]) rfl dX7_addProduct_3 (c_X7_noLeaf h hO ht he) h.1 rfl ⟨by decide, by decide⟩ (Nat.le_of_ble_eq_true rfl) ⟨Nat.zero_le _, Nat.zero_le _⟩ (fun z3 σ3 hz3 => ?_)
  obtain ⟨hr3, hs3⟩ := hz3
  have hr3 := Eq.symm hr3
  have hs3 := Eq.symm hs3
  subst hr3
  subst hs3
  refine j_if_eq (tgt := 11) dX7_addProduct_6 (by decide) R_ite (fun q6 => ?_) (fun q6 => ?_)
  · skip
    have a6 := ne1 q6
    obtain ⟨s, z, k, est, ht0, ht3, hs64, hgz, hzk, hk, hok, hz1, hz8, hsz, hmod⟩ := lstT_leaf hg a6
    have hT := hO.2.2 t.toNat (by omega)
    have hOt := hO
    have els : lst (S.2.2 t.toNat) e = (s : Int) := by
      unfold lstT at est
      rw [if_pos ⟨ht0, ht3⟩] at est
      exact est
    have hszF : szF (fun d => R (257 + 21 * t.toNat + d)) s = z := by
      have := (hT.at hs64 (by omega)).1
      omega
    have hrR := rowN_R s
    have hcR := colN_R s
    obtain ⟨hb1, hb2, hb3, hb4⟩ := id hok
    refine j_aload_n dX7_addProduct_11 rfl ?_
    refine j_iload_n dX7_addProduct_12 rfl ?_
    refine j_iload_n dX7_addProduct_13 rfl ?_
    have hK := c_X7_beginOf (l := l) (t := t.toNat) h hT (by omega) he
    rw [Int.toNat_of_nonneg (a := t) (by omega)] at hK
    refine cl_X7_127 (As := [_, _]) rfl dX7_addProduct_14 (hK) h.1 rfl ⟨by decide, by decide⟩ (Nat.le_of_ble_eq_true rfl) ⟨Nat.zero_le _, Nat.zero_le _⟩ (fun z14 σ14 hz14 => ?_)
    obtain ⟨hr14, hs14⟩ := hz14
    have hr14 := Eq.symm hr14
    have hs14 := Eq.symm hs14
    subst hr14
    subst hs14
    refine j_tops (show _ = (s : Int) by rw [els, if_neg (by omega)]) ?_
    refine j_istore_n dX7_addProduct_17 (by decide) (by dsimp only [List.set] <;> rfl) ?_
    refine j_aload_n dX7_addProduct_18 rfl ?_
    refine j_iload_n dX7_addProduct_19 rfl ?_
    refine j_iload_n dX7_addProduct_20 rfl ?_
    have hK2 := c_X7_sizeAt (l := l) (t := t.toNat) (s := s) h hT (by omega) hs64
    rw [Int.toNat_of_nonneg (a := t) (by omega)] at hK2
    refine cl_X7_76 (As := [_, _]) rfl dX7_addProduct_21 (hK2) h.1 rfl ⟨by decide, by decide⟩ (Nat.le_of_ble_eq_true rfl) ⟨Nat.zero_le _, Nat.zero_le _⟩ (fun z21 σ21 hz21 => ?_)
    obtain ⟨hr21, hs21⟩ := hz21
    have hr21 := Eq.symm hr21
    have hs21 := Eq.symm hs21
    subst hr21
    subst hs21
    rw [hszF]
    refine j_istore dX7_addProduct_24 (by decide) (by dsimp only [List.set] <;> rfl) ?_
    refine j_aload_n dX7_addProduct_26 rfl ?_
    refine j_iload dX7_addProduct_27 rfl ?_
    refine cl_X7_133 (As := [_]) rfl dX7_addProduct_29 (c_X7_readTwo h hch htn hz1 hz8) h.1 rfl ⟨by decide, by decide⟩ (Nat.le_of_ble_eq_true rfl) ⟨Nat.zero_le _, Nat.zero_le _⟩ (fun z29 σ29 hz29 => ?_)
    obtain ⟨p1, rv1, hr29, hq29, hp1, hbadF, hgoodF⟩ := hz29
    have hr29 := Eq.symm hr29
    subst hr29
    refine j_if_ne (tgt := 43) dX7_addProduct_32 (by decide) R_ite (fun q32 => ?_) (fun q32 => ?_)
    · skip
      have a32 := nz1 q32
      have hag := hgoodF a32
      have hrdB := fun j => rd_B (ch := ch) (n := tn) (z := z) (2 * z) j
      have hmx : mxF rv1 (2 * z) = mxF (rd ch tn z (2 * z)).2.2 (2 * z) := mxF_cong hag
      refine j_aload_n dX7_addProduct_43 rfl ?_
      refine j_iconst dX7_addProduct_44 ?_
      refine j_iload dX7_addProduct_45 rfl ?_
      refine j_imul dX7_addProduct_47 ?_
      rw [show (2 : Int) * (z : Int) = ((2 * z : Nat) : Int) from rfl]
      refine cl_X7_136 (As := [_]) rfl dX7_addProduct_48 (c_X7_areLess (k := 2 * z) hq29.2 hO.1 (by omega) (by omega) (by omega) (fun j hj => by rw [hag j hj]; have := hrdB j; exact rs (by omega) (by omega))) hq29.2.1 rfl ⟨by decide, by decide⟩ (Nat.le_of_ble_eq_true rfl) ⟨Nat.zero_le _, Nat.zero_le _⟩ (fun z48 σ48 hz48 => ?_)
      obtain ⟨hr48, hs48⟩ := hz48
      have hr48 := Eq.symm hr48
      have hs48 := Eq.symm hs48
      subst hr48
      subst hs48
      refine j_if_ne (tgt := 57) dX7_addProduct_51 (by decide) R_ite (fun q51 => ?_) (fun q51 => ?_)
      · skip
        have a51 := nz1 q51
        have hall := ((mxF_le (f := rv1) (b := S.1) (by omega) (2 * z)).mp a51).2
        refine j_aload_n dX7_addProduct_57 rfl ?_
        refine cl_X7_47 (As := []) rfl dX7_addProduct_58 (c_X7_record hq29.2 hn4) hq29.2.1 rfl ⟨by decide, by decide⟩ (Nat.le_of_ble_eq_true rfl) ⟨Nat.zero_le _, Nat.zero_le _⟩ (fun σ58 hz58 => ?_)
        have w0 := hq29.tr hz58
        refine j_iconst dX7_addProduct_61 ?_
        refine j_istore dX7_addProduct_62 (by decide) (by dsimp only [List.set] <;> rfl) ?_
        have lp64 : ∀ (nn i : Nat) (w : Wd) (v6 v7 : Option Value), 9 - i < nn → i ≤ z → RQ D σ w m (recN n) hs tn p1 de (fun q => if 1 + 64 * t.toNat ≤ q ∧ q < 1 + 64 * t.toNat + 64 then apF S.1 (S.2.1 t.toNat) rv1 s z i 0 (q - (1 + 64 * t.toNat)) else R q) (recP n P R) A ch rv1 W mk ls sp → J l D yX7_addProduct cX7_addProduct 8 (some .int) rmX7_addProduct sz (AA σ sz) (QI D σ sz (fun x σ' => x = apX S tn ch t e ∧ OffR m (m + 10) σ σ' ∧ RS D σ' m (nxS (apN S tn ch t e) S) SN hs (nxN (apN S tn ch t e) n) (nxH (apN S tn ch t e) n H S) tn ch)) 0 0 64 [some (.ref m), some (vi t), some (vi e), some (vi s), some (vi z), some (vi i), v6, v7] [] w := by
          intro nn
          induction nn with
          | zero =>
            intro i w v6 v7 hnn hi hw
            exfalso
            omega
          | succ nn ih64 =>
            intro i w v6 v7 hnn hi hw
            refine j_iload dX7_addProduct_64 rfl ?_
            refine j_iload dX7_addProduct_66 rfl ?_
            refine j_icmp_ge (tgt := 150) dX7_addProduct_68 (by decide) ⟨by omega, by omega⟩ ⟨by omega, by omega⟩ (fun h68 => ?_) (fun h68 => ?_)
            · skip
              refine j_aload_n dX7_addProduct_150 rfl ?_
              refine j_iload_n dX7_addProduct_151 rfl ?_
              refine j_iload_n dX7_addProduct_152 rfl ?_
              refine j_iload dX7_addProduct_153 rfl ?_
              have hO2 : RO (fun q => if 1 + 64 * t.toNat ≤ q ∧ q < 1 + 64 * t.toNat + 64 then apF S.1 (S.2.1 t.toNat) rv1 s z i 0 (q - (1 + 64 * t.toNat)) else R q) (S.1, fup S.2.1 t.toNat (apF S.1 (S.2.1 t.toNat) rv1 s z z 0), S.2.2) := by
                refine hO.cells (t := t.toNat) (by omega) (if_neg (by omega)) (fun k hk => ?_) (fun q q0 q1 q2 => if_neg q2)
                rw [if_pos (by omega), Nat.add_sub_cancel_left, show i = z by omega]
              have hWS2 : WS (S.1, fup S.2.1 t.toNat (apF S.1 (S.2.1 t.toNat) rv1 s z z 0), S.2.2) := hWS.cells (apF_B (by omega) (hF t.toNat (by omega)))
              have hK3 := c_X7_rank (l := l) (t := t.toNat) (s := s) (z := z) hw.2 hO2 hWS2 (by omega) hok
              rw [Int.toNat_of_nonneg (a := t) (by omega)] at hK3
              refine cl_X7_106 (As := [_, _, _]) rfl dX7_addProduct_155 (hK3) hw.2.1 rfl ⟨by decide, by decide⟩ (Nat.le_of_ble_eq_true rfl) ⟨Nat.zero_le _, Nat.zero_le _⟩ (fun z155 σ155 hz155 => ?_)
              obtain ⟨hr155, de2, W2, hq155⟩ := hz155
              have hq155 := hw.tr hq155
              have hr155 : z155 = (rk S.1 (fup S.2.1 t.toNat (apF S.1 (S.2.1 t.toNat) rv1 s z z 0) t.toNat) s z : Nat) := hr155
              rw [fup_s, apF_cong hag] at hr155
              rw [show apF S.1 (S.2.1 t.toNat) rv1 s z z 0 = apF S.1 (S.2.1 t.toNat) (rd ch tn z (2 * z)).2.2 s z z 0 from apF_cong hag] at hO2
              exact j_iret dX7_addProduct_158 ⟨_, rfl, by unfold apX; rw [onLeaf_y est hgz, if_neg (fun q => q a32), if_neg (by omega)]; exact hr155, RSx_some (RS.of hq155 hO2 (rec_RO hn4 hO hP) hA (recN_le n hn4) htn hch) (by unfold apN; rw [onLeaf_y est hgz, if_neg (fun q => q a32), if_neg (by omega)])⟩
            · skip
              refine j_iconst dX7_addProduct_71 ?_
              refine j_istore dX7_addProduct_72 (by decide) (by dsimp only [List.set] <;> rfl) ?_
              have lp74 : ∀ (nn2 j : Nat) (v : Wd) (v7b : Option Value), 9 - j < nn2 → j ≤ z → RQ D σ v m (recN n) hs tn p1 de (fun q => if 1 + 64 * t.toNat ≤ q ∧ q < 1 + 64 * t.toNat + 64 then apF S.1 (S.2.1 t.toNat) rv1 s z i j (q - (1 + 64 * t.toNat)) else R q) (recP n P R) A ch rv1 W mk ls sp → J l D yX7_addProduct cX7_addProduct 8 (some .int) rmX7_addProduct sz (AA σ sz) (QI D σ sz (fun x σ' => x = apX S tn ch t e ∧ OffR m (m + 10) σ σ' ∧ RS D σ' m (nxS (apN S tn ch t e) S) SN hs (nxN (apN S tn ch t e) n) (nxH (apN S tn ch t e) n H S) tn ch)) 0 0 74 [some (.ref m), some (vi t), some (vi e), some (vi s), some (vi z), some (vi i), some (vi j), v7b] [] v := by
                intro nn
                induction nn with
                | zero =>
                  intro j v v7b hnn2 hj hv
                  exfalso
                  omega
                | succ nn ih74 =>
                  intro j v v7b hnn2 hj hv
                  refine j_iload dX7_addProduct_74 rfl ?_
                  refine j_iload dX7_addProduct_76 rfl ?_
                  refine j_icmp_ge (tgt := 144) dX7_addProduct_78 (by decide) ⟨by omega, by omega⟩ ⟨by omega, by omega⟩ (fun h78 => ?_) (fun h78 => ?_)
                  · skip
                    refine j_iinc dX7_addProduct_144 rfl (by decide) (by dsimp only [List.set] <;> rfl) ?_
                    refine j_goto (tgt := 64) dX7_addProduct_147 (by decide) ?_
                    have hih := ih64 (i + 1) _ (some (vi j)) v7b (by omega) (by omega) (hv.rowE (fun q hq => by
                      by_cases x : 1 + 64 * t.toNat ≤ q ∧ q < 1 + 64 * t.toNat + 64
                      · rw [if_pos x, if_pos x]
                        generalize hkk : q - (1 + 64 * t.toNat) = kk
                        have hkl : kk < 64 := by omega
                        unfold apF
                        by_cases b : (rowN s ≤ ((kk / 8 : Nat) : Int) ∧ ((kk / 8 : Nat) : Int) < rowN s + z ∧ colN s ≤ ((kk % 8 : Nat) : Int) ∧ ((kk % 8 : Nat) : Int) < colN s + z) ∧ (((kk / 8 : Nat) : Int) < rowN s + i ∨ (((kk / 8 : Nat) : Int) = rowN s + i ∧ ((kk % 8 : Nat) : Int) < colN s + j))
                        · rw [if_pos b, if_pos (by omega)]
                        · rw [if_neg b, if_neg (by omega)]
                      · rw [if_neg x, if_neg x]))
                    refine j_weak ?_ hih
                    exact ⟨rfl, rfl, rfl, rfl, rfl, rfl, rfl, LLe.rf _⟩
                  · skip
                    refine j_iload_n dX7_addProduct_81 rfl ?_
                    refine j_iload_n dX7_addProduct_82 rfl ?_
                    refine cl_X7_94 (As := [_]) rfl dX7_addProduct_83 (c_X7_rowOf hs64) rfl ⟨by decide, by decide⟩ (Nat.le_of_ble_eq_true rfl) ⟨Nat.zero_le _, Nat.zero_le _⟩ (fun z83 σ83 hz83 => ?_)
                    obtain ⟨hr83, hs83⟩ := hz83
                    have hr83 := Eq.symm hr83
                    have hs83 := Eq.symm hs83
                    subst hr83
                    subst hs83
                    refine j_iload dX7_addProduct_86 rfl ?_
                    refine j_iadd dX7_addProduct_88 ?_
                    refine j_iload_n dX7_addProduct_89 rfl ?_
                    refine cl_X7_97 (As := [_]) rfl dX7_addProduct_90 (c_X7_columnOf hs64) rfl ⟨by decide, by decide⟩ (Nat.le_of_ble_eq_true rfl) ⟨Nat.zero_le _, Nat.zero_le _⟩ (fun z90 σ90 hz90 => ?_)
                    obtain ⟨hr90, hs90⟩ := hz90
                    have hr90 := Eq.symm hr90
                    have hs90 := Eq.symm hs90
                    subst hr90
                    subst hs90
                    refine j_iload dX7_addProduct_93 rfl ?_
                    refine j_iadd dX7_addProduct_95 ?_
                    refine cl_X7_68 (As := [_, _, _]) rfl dX7_addProduct_96 (c_X7_cellAt) rfl ⟨by decide, by decide⟩ (Nat.le_of_ble_eq_true rfl) ⟨Nat.zero_le _, Nat.zero_le _⟩ (fun z96 σ96 hz96 => ?_)
                    obtain ⟨hr96, hs96⟩ := hz96
                    have hr96 := Eq.symm hr96
                    have hs96 := Eq.symm hs96
                    subst hr96
                    subst hs96
                    obtain ⟨kx, hkx⟩ : ∃ kx : Nat, 8 * (rowN s + (i : Int)) + (colN s + (j : Int)) = (kx : Int) := Int.eq_ofNat_of_zero_le (by omega)
                    rw [show (1 : Int) + 64 * t + 8 * (rowN s + (i : Int)) + (colN s + (j : Int)) = ((1 + 64 * t.toNat + kx : Nat) : Int) by omega]
                    refine j_istore dX7_addProduct_99 (by decide) (by dsimp only [List.set] <;> rfl) ?_
                    refine j_aload_n dX7_addProduct_101 rfl ?_
                    refine gf_X7_7 rfl dX7_addProduct_102 hv.2.1 rfl ?_
                    refine j_iload dX7_addProduct_105 rfl ?_
                    refine j_aload_n dX7_addProduct_107 rfl ?_
                    refine j_aload_n dX7_addProduct_108 rfl ?_
                    refine gf_X7_7 rfl dX7_addProduct_109 hv.2.1 rfl ?_
                    refine j_iload dX7_addProduct_112 rfl ?_
                    refine jj_iald dX7_addProduct_114 hv.2.2.1 (by omega) (by omega) ⟨by omega, by omega⟩ ?_
                    have hkb := hF t.toNat (by omega) kx (by omega)
                    refine j_tops (show _ = S.2.1 t.toNat kx by
                      rw [show ((1 + 64 * t.toNat + kx : Nat) : Int).toNat = 1 + 64 * t.toNat + kx from rfl, if_pos (by omega), Nat.add_sub_cancel_left]
                      unfold apF
                      rw [if_neg (by omega)]) ?_
                    refine j_aload_n dX7_addProduct_115 rfl ?_
                    refine gf_X7_23 rfl dX7_addProduct_116 hv.2.1 rfl ?_
                    refine j_iload dX7_addProduct_119 rfl ?_
                    refine jj_iald dX7_addProduct_121 hv.2.2.2.2.2.2.1 (by omega) (by omega) ⟨by omega, by omega⟩ ?_
                    refine j_tops (show _ = rv1 i from rfl) ?_
                    have hni := hall i (by omega)
                    have hni0 := hag i (by omega)
                    have hni1 := hrdB i
                    refine j_aload_n dX7_addProduct_122 rfl ?_
                    refine gf_X7_23 rfl dX7_addProduct_123 hv.2.1 rfl ?_
                    refine j_iload dX7_addProduct_126 rfl ?_
                    refine j_iload dX7_addProduct_128 rfl ?_
                    refine j_iadd dX7_addProduct_130 ?_
                    rw [show (z : Int) + (j : Int) = ((z + j : Nat) : Int) from rfl]
                    refine jj_iald dX7_addProduct_131 hv.2.2.2.2.2.2.1 (by omega) (by omega) ⟨by omega, by omega⟩ ?_
                    refine j_tops (show _ = rv1 (z + j) from rfl) ?_
                    have hnj := hall (z + j) (by omega)
                    have hnj0 := hag (z + j) (by omega)
                    have hnj1 := hrdB (z + j)
                    have hmul := mul_R (a := rv1 i) (b := rv1 (z + j)) (m := 251) (n := 251) (by omega) (by omega) (by omega) (by omega) (by omega)
                    refine j_imul dX7_addProduct_132 ?_
                    refine j_iadd dX7_addProduct_133 ?_
                    refine cl_X7_54 (As := [_]) rfl dX7_addProduct_134 (c_X7_mod hv.2 (p := S.1) ((if_neg (by omega)).trans hO.1) (by omega) (by omega) (rs (by omega) (by omega))) hv.2.1 rfl ⟨by decide, by decide⟩ (Nat.le_of_ble_eq_true rfl) ⟨Nat.zero_le _, Nat.zero_le _⟩ (fun z134 σ134 hz134 => ?_)
                    obtain ⟨hr134, hs134⟩ := hz134
                    have hr134 := Eq.symm hr134
                    have hs134 := Eq.symm hs134
                    subst hr134
                    subst hs134
                    refine jj_iast dX7_addProduct_137 hv.2.2.1 (by omega) (by omega) ⟨by omega, by omega⟩ (fun e137 q137 => ?_)
                    have hv2 := hv.row q137
                    refine j_iinc dX7_addProduct_138 rfl (by decide) (by dsimp only [List.set] <;> rfl) ?_
                    refine j_goto (tgt := 74) dX7_addProduct_141 (by decide) ?_
                    have hih := ih74 (j + 1) _ (some (vi ((1 + 64 * t.toNat + kx : Nat) : Int))) (by omega) (by omega) (hv2.rowE (fun q hq => by
                      show fup _ (1 + 64 * t.toNat + kx) _ q = _
                      by_cases x : 1 + 64 * t.toNat ≤ q ∧ q < 1 + 64 * t.toNat + 64
                      · rw [if_pos x]
                        by_cases b0 : q = 1 + 64 * t.toNat + kx
                        · rw [b0, fup_s, Nat.add_sub_cancel_left]
                          unfold apF
                          rw [if_pos (by omega)]
                          rw [show (((kx / 8 : Nat) : Int) - rowN s).toNat = i by omega, show (((kx % 8 : Nat) : Int) - colN s).toNat = j by omega]
                        · rw [fup_n b0, if_pos x]
                          have hkn : q - (1 + 64 * t.toNat) ≠ kx := by omega
                          generalize hkk : q - (1 + 64 * t.toNat) = kk at *
                          have hkl : kk < 64 := by omega
                          unfold apF
                          by_cases b : (rowN s ≤ ((kk / 8 : Nat) : Int) ∧ ((kk / 8 : Nat) : Int) < rowN s + z ∧ colN s ≤ ((kk % 8 : Nat) : Int) ∧ ((kk % 8 : Nat) : Int) < colN s + z) ∧ (((kk / 8 : Nat) : Int) < rowN s + i ∨ (((kk / 8 : Nat) : Int) = rowN s + i ∧ ((kk % 8 : Nat) : Int) < colN s + j))
                          · rw [if_pos b, if_pos (by omega)]
                          · rw [if_neg b, if_neg (by omega)]
                      · rw [if_neg x, fup_n (by omega), if_neg x]))
                    refine j_weak ?_ hih
                    exact ⟨rfl, rfl, rfl, rfl, rfl, rfl, rfl, rfl, trivial⟩
              exact lp74 10 0 _ v7 (by omega) (by omega) hw
        exact lp64 10 0 _ none none (by omega) (by omega) (w0.rowE (fun q hq => by
          by_cases x : 1 + 64 * t.toNat ≤ q ∧ q < 1 + 64 * t.toNat + 64
          · rw [if_pos x]
            unfold apF
            rw [if_neg (by omega), ← hO.2.1 t.toNat (by omega) _ (by omega), show 1 + 64 * t.toNat + (q - (1 + 64 * t.toNat)) = q by omega]
          · rw [if_neg x]))
      · skip
        have a51 := ne1 q51
        refine j_bipush dX7_addProduct_54 (by decide) ?_
        exact j_iret dX7_addProduct_56 ⟨_, rfl, by unfold apX; rw [onLeaf_y est hgz, if_neg (fun q => q a32), if_pos (by omega)], RSx_none (RS.of hq29 hO hP hA hn4 htn hch) (by unfold apN; rw [onLeaf_y est hgz, if_neg (fun q => q a32), if_pos (by omega)])⟩
    · skip
      have a32 := ne1 q32
      have hat := hbadF a32
      refine j_bipush dX7_addProduct_35 (by decide) ?_
      refine j_aload_n dX7_addProduct_37 rfl ?_
      refine gf_X7_115 rfl dX7_addProduct_38 hq29.2.1 rfl ?_
      refine j_isub dX7_addProduct_41 ?_
      exact j_iret dX7_addProduct_42 ⟨_, rfl, by unfold apX; rw [onLeaf_y est hgz, if_pos a32, hat], RSx_none (RS.of hq29 hO hP hA hn4 htn hch) (by unfold apN; rw [onLeaf_y est hgz, if_pos a32])⟩
  · skip
    have a6 := nz1 q6
    refine j_iconst dX7_addProduct_9 ?_
    exact j_iret dX7_addProduct_10 ⟨_, rfl, by unfold apX; exact (onLeaf_n a6).symm, RSx_none (RS.of h.rq hO hP hA hn4 htn hch) (onLeaf_n a6)⟩
set_option maxRecDepth 100000 in
set_option maxHeartbeats 4000000 in
theorem c_X7_factor {l : Launch} {D : gD} {σ : Wd} {m n tn : Nat} {hs : Int} {S SN : MS} {H : Nat → MS} {ch : Nat → Int} {t a b : Int} (h0 : RS D σ m S SN hs n H tn ch) (hWS : WS S) (ht : R32 t) (ha : R32 a) (hb : R32 b) : KX7_factor l D [.ref m, vi t, vi a, vi b] σ (fun x σ' => x = fcX S t a b ∧ OffR m (m + 10) σ σ' ∧ RS D σ' m (nxS (fcN S t a b) S) SN hs (nxN (fcN S t a b) n) (nxH (fcN S t a b) n H S) tn ch) := by
  obtain ⟨pl, de, R, P, A, rv, W, mk, ls, sp, h, hO, hP, hA, hn4, htn, hch⟩ := h0
  have hlo := primeB_lo hWS.1
  have hg := fun t ht => (hWS.2 t ht).2
  have hF := fun t ht => (hWS.2 t ht).1
  have hok : okBlk 0 8 := okBlk_of (k := 3) (by omega) (by omega) rfl
  refine sp_of (by decide +kernel) (cat1 rfl) (Nat.le_of_ble_eq_true rfl) [some (.ref m), some (vi t), some (vi a), some (vi b), none, none, none, none] rfl (fun sz => ?_)
  refine j_iload_n dX7_factor_0 rfl ?_
  refine cl_X7_62 (As := [_]) rfl dX7_factor_1 (c_X7_noTable ht) rfl ⟨by decide, by decide⟩ (Nat.le_of_ble_eq_true rfl) ⟨Nat.zero_le _, Nat.zero_le _⟩ (fun z1 σ1 hz1 => ?_)
  obtain ⟨hr1, hs1⟩ := hz1
  have hr1 := Eq.symm hr1
  have hs1 := Eq.symm hs1
  subst hr1
  subst hs1
  refine j_if_ne (tgt := 21) dX7_factor_4 (by decide) R_ite0 (fun q4 => ?_) (fun q4 => ?_)
  · skip
    have aat := nt1 q4
    refine j_iconst dX7_factor_21 ?_
    exact j_iret dX7_factor_22 ⟨_, rfl, by unfold fcX; rw [if_neg (by omega)], RSx_none (RS.of h.rq hO hP hA hn4 htn hch) (by unfold fcN; rw [if_neg (by omega)])⟩
  · skip
    have aat := nt0 q4
    refine j_iload_n dX7_factor_7 rfl ?_
    refine cl_X7_62 (As := [_]) rfl dX7_factor_8 (c_X7_noTable ha) rfl ⟨by decide, by decide⟩ (Nat.le_of_ble_eq_true rfl) ⟨Nat.zero_le _, Nat.zero_le _⟩ (fun z8 σ8 hz8 => ?_)
    obtain ⟨hr8, hs8⟩ := hz8
    have hr8 := Eq.symm hr8
    have hs8 := Eq.symm hs8
    subst hr8
    subst hs8
    refine j_if_ne (tgt := 21) dX7_factor_11 (by decide) R_ite0 (fun q11 => ?_) (fun q11 => ?_)
    · skip
      have aaa := nt1 q11
      refine j_iconst dX7_factor_21 ?_
      exact j_iret dX7_factor_22 ⟨_, rfl, by unfold fcX; rw [if_neg (by omega)], RSx_none (RS.of h.rq hO hP hA hn4 htn hch) (by unfold fcN; rw [if_neg (by omega)])⟩
    · skip
      have aaa := nt0 q11
      refine j_iload_n dX7_factor_14 rfl ?_
      refine cl_X7_62 (As := [_]) rfl dX7_factor_15 (c_X7_noTable hb) rfl ⟨by decide, by decide⟩ (Nat.le_of_ble_eq_true rfl) ⟨Nat.zero_le _, Nat.zero_le _⟩ (fun z15 σ15 hz15 => ?_)
      obtain ⟨hr15, hs15⟩ := hz15
      have hr15 := Eq.symm hr15
      have hs15 := Eq.symm hs15
      subst hr15
      subst hs15
      refine j_if_eq (tgt := 23) dX7_factor_18 (by decide) R_ite0 (fun q18 => ?_) (fun q18 => ?_)
      · skip
        have aab := nt0 q18
        refine j_iload_n dX7_factor_23 rfl ?_
        refine j_iload_n dX7_factor_24 rfl ?_
        refine j_icmp_ne (tgt := 31) dX7_factor_25 (by decide) ⟨by omega, by omega⟩ ⟨by omega, by omega⟩ (fun h25 => ?_) (fun h25 => ?_)
        · skip
          refine j_aload_n dX7_factor_31 rfl ?_
          refine j_iload_n dX7_factor_32 rfl ?_
          refine j_iconst dX7_factor_33 ?_
          refine j_iconst dX7_factor_34 ?_
          refine j_bipush dX7_factor_35 (by decide) ?_
          have hK := c_X7_layBlock (l := l) (t := t.toNat) (r := 0) (c := 0) (z := 8) h hO (by omega) (by omega) (by omega) (by omega)
          rw [Int.toNat_of_nonneg (a := t) (by omega)] at hK
          refine cl_X7_100 (As := [_, _, _, _]) rfl dX7_factor_37 (hK) h.1 rfl ⟨by decide, by decide⟩ (Nat.le_of_ble_eq_true rfl) ⟨Nat.zero_le _, Nat.zero_le _⟩ (fun σ37 hz37 => ?_)
          refine j_aload_n dX7_factor_40 rfl ?_
          refine cl_X7_150 (As := []) rfl dX7_factor_41 (c_X7_divide (mx := fcM S t) hz37.2 hO.1 hWS.1 (ldM_B (by omega) (hF t.toNat (by omega)) hok) (layF_VW (s := 0) (by omega))) hz37.2.1 rfl ⟨by decide, by decide⟩ (Nat.le_of_ble_eq_true rfl) ⟨Nat.zero_le _, Nat.zero_le _⟩ (fun z41 σ41 hz41 => ?_)
          obtain ⟨W1, hr41, hq41, hV41⟩ := hz41
          have hq41 := hz37.tr hq41
          have hr41 := Eq.symm hr41
          subst hr41
          refine j_if_ne (tgt := 50) dX7_factor_44 (by decide) R_ite (fun q44 => ?_) (fun q44 => ?_)
          · skip
            have a44 := nz1 q44
            have hV := hV41 a44
            have hB := lu_B (p := S.1) (z := 8) (m := fcM S t) (by omega) (ldM_B (by omega) (hF t.toNat (by omega)) hok)
            refine j_aload_n dX7_factor_50 rfl ?_
            refine cl_X7_47 (As := []) rfl dX7_factor_51 (c_X7_record hq41.2 hn4) hq41.2.1 rfl ⟨by decide, by decide⟩ (Nat.le_of_ble_eq_true rfl) ⟨Nat.zero_le _, Nat.zero_le _⟩ (fun σ51 hz51 => ?_)
            have w0 := hq41.tr hz51
            refine j_aload_n dX7_factor_54 rfl ?_
            refine j_iconst dX7_factor_55 ?_
            refine cl_X7_54 (As := [_]) rfl dX7_factor_56 (c_X7_mod w0.2 hO.1 (by omega) (by omega) (rs (by omega) (by omega))) w0.2.1 rfl ⟨by decide, by decide⟩ (Nat.le_of_ble_eq_true rfl) ⟨Nat.zero_le _, Nat.zero_le _⟩ (fun z56 σ56 hz56 => ?_)
            obtain ⟨hr56, hs56⟩ := hz56
            have hr56 := Eq.symm hr56
            have hs56 := Eq.symm hs56
            subst hr56
            subst hs56
            refine j_tops (show (1 : Int) % S.1 = luD S.1 (fcM S t) 0 from emod_id (by omega) (by omega)) ?_
            refine j_istore dX7_factor_59 (by decide) (by dsimp only [List.set] <;> rfl) ?_
            refine j_iconst dX7_factor_61 ?_
            refine j_istore dX7_factor_62 (by decide) (by dsimp only [List.set] <;> rfl) ?_
            have lp64 : ∀ (nn i : Nat) (w : Wd) (v6 v7 : Option Value), 9 - i < nn → i ≤ 8 → RQ D σ w m (recN n) hs tn pl de (fun q => if 1 + 64 * a.toNat ≤ q ∧ q < 1 + 64 * a.toNat + 64 ∧ q - (1 + 64 * a.toNat) < 8 * i + 0 then lowF (lu S.1 (fcM S t) 8) ((q - (1 + 64 * a.toNat)) / 8) ((q - (1 + 64 * a.toNat)) % 8) else if 1 + 64 * b.toNat ≤ q ∧ q < 1 + 64 * b.toNat + 64 ∧ q - (1 + 64 * b.toNat) < 8 * i + 0 then uppF (lu S.1 (fcM S t) 8) ((q - (1 + 64 * b.toNat)) / 8) ((q - (1 + 64 * b.toNat)) % 8) else R q) (recP n P R) A ch rv W1 mk ls sp → J l D yX7_factor cX7_factor 8 (some .int) rmX7_factor sz (AA σ sz) (QI D σ sz (fun x σ' => x = fcX S t a b ∧ OffR m (m + 10) σ σ' ∧ RS D σ' m (nxS (fcN S t a b) S) SN hs (nxN (fcN S t a b) n) (nxH (fcN S t a b) n H S) tn ch)) 0 0 64 [some (.ref m), some (vi t), some (vi a), some (vi b), some (vi (luD S.1 (fcM S t) i)), some (vi i), v6, v7] [] w := by
              intro nn
              induction nn with
              | zero =>
                intro i w v6 v7 hnn hi hw
                exfalso
                omega
              | succ nn ih64 =>
                intro i w v6 v7 hnn hi hw
                refine j_iload dX7_factor_64 rfl ?_
                refine j_bipush dX7_factor_66 (by decide) ?_
                refine j_icmp_ge (tgt := 197) dX7_factor_68 (by decide) ⟨by omega, by omega⟩ ⟨by omega, by omega⟩ (fun h68 => ?_) (fun h68 => ?_)
                · skip
                  refine j_iload dX7_factor_197 rfl ?_
                  have hO2 : RO (fun q => if 1 + 64 * a.toNat ≤ q ∧ q < 1 + 64 * a.toNat + 64 ∧ q - (1 + 64 * a.toNat) < 8 * i + 0 then lowF (lu S.1 (fcM S t) 8) ((q - (1 + 64 * a.toNat)) / 8) ((q - (1 + 64 * a.toNat)) % 8) else if 1 + 64 * b.toNat ≤ q ∧ q < 1 + 64 * b.toNat + 64 ∧ q - (1 + 64 * b.toNat) < 8 * i + 0 then uppF (lu S.1 (fcM S t) 8) ((q - (1 + 64 * b.toNat)) / 8) ((q - (1 + 64 * b.toNat)) % 8) else R q) (S.1, fup (fup S.2.1 a.toNat (fun k => lowF (lu S.1 (fcM S t) 8) (k / 8) (k % 8))) b.toNat (fun k => uppF (lu S.1 (fcM S t) 8) (k / 8) (k % 8)), S.2.2) := by
                    have hA1 := hO.cells (R' := fun q => if 1 + 64 * a.toNat ≤ q ∧ q < 1 + 64 * a.toNat + 64 then lowF (lu S.1 (fcM S t) 8) ((q - (1 + 64 * a.toNat)) / 8) ((q - (1 + 64 * a.toNat)) % 8) else R q) (t := a.toNat) (f := fun k => lowF (lu S.1 (fcM S t) 8) (k / 8) (k % 8)) (by omega) (if_neg (by omega)) (fun k hk => by
                      rw [if_pos (by omega), Nat.add_sub_cancel_left]) (fun q q0 q1 q2 => if_neg q2)
                    refine hA1.cells (t := b.toNat) (by omega) ?_ (fun k hk => ?_) (fun q q0 q1 q2 => ?_)
                    · rw [if_neg (by omega), if_neg (by omega), if_neg (by omega)]
                    · rw [if_neg (by omega), if_pos (by omega), Nat.add_sub_cancel_left]
                    · by_cases x : 1 + 64 * a.toNat ≤ q ∧ q < 1 + 64 * a.toNat + 64
                      · rw [if_pos (by omega), if_pos x]
                      · rw [if_neg (by omega), if_neg (by omega), if_neg x]
                  exact j_iret dX7_factor_199 ⟨_, rfl, by unfold fcX; rw [if_pos (by omega), if_neg h25, if_pos a44, show i = 8 by omega], RSx_some (RS.of hw hO2 (rec_RO hn4 hO hP) hA (recN_le n hn4) htn hch) (by unfold fcN; rw [if_pos (by omega), if_neg h25, if_pos a44])⟩
                · skip
                  refine j_iconst dX7_factor_71 ?_
                  refine j_istore dX7_factor_72 (by decide) (by dsimp only [List.set] <;> rfl) ?_
                  have lp74 : ∀ (nn2 j : Nat) (v : Wd) (v7b : Option Value), 9 - j < nn2 → j ≤ 8 → RQ D σ v m (recN n) hs tn pl de (fun q => if 1 + 64 * a.toNat ≤ q ∧ q < 1 + 64 * a.toNat + 64 ∧ q - (1 + 64 * a.toNat) < 8 * i + j then lowF (lu S.1 (fcM S t) 8) ((q - (1 + 64 * a.toNat)) / 8) ((q - (1 + 64 * a.toNat)) % 8) else if 1 + 64 * b.toNat ≤ q ∧ q < 1 + 64 * b.toNat + 64 ∧ q - (1 + 64 * b.toNat) < 8 * i + j then uppF (lu S.1 (fcM S t) 8) ((q - (1 + 64 * b.toNat)) / 8) ((q - (1 + 64 * b.toNat)) % 8) else R q) (recP n P R) A ch rv W1 mk ls sp → J l D yX7_factor cX7_factor 8 (some .int) rmX7_factor sz (AA σ sz) (QI D σ sz (fun x σ' => x = fcX S t a b ∧ OffR m (m + 10) σ σ' ∧ RS D σ' m (nxS (fcN S t a b) S) SN hs (nxN (fcN S t a b) n) (nxH (fcN S t a b) n H S) tn ch)) 0 0 74 [some (.ref m), some (vi t), some (vi a), some (vi b), some (vi (luD S.1 (fcM S t) i)), some (vi i), some (vi j), v7b] [] v := by
                    intro nn
                    induction nn with
                    | zero =>
                      intro j v v7b hnn2 hj hv
                      exfalso
                      omega
                    | succ nn ih74 =>
                      intro j v v7b hnn2 hj hv
                      refine j_iload dX7_factor_74 rfl ?_
                      refine j_bipush dX7_factor_76 (by decide) ?_
                      refine j_icmp_ge (tgt := 169) dX7_factor_78 (by decide) ⟨by omega, by omega⟩ ⟨by omega, by omega⟩ (fun h78 => ?_) (fun h78 => ?_)
                      · skip
                        refine j_aload_n dX7_factor_169 rfl ?_
                        refine j_iload dX7_factor_170 rfl ?_
                        refine j_aload_n dX7_factor_172 rfl ?_
                        refine gf_X7_26 rfl dX7_factor_173 hv.2.1 rfl ?_
                        refine j_bipush dX7_factor_176 (by decide) ?_
                        refine j_iload dX7_factor_178 rfl ?_
                        refine j_imul dX7_factor_180 ?_
                        refine j_iload dX7_factor_181 rfl ?_
                        refine j_iadd dX7_factor_183 ?_
                        rw [show (9 : Int) * ((i : Nat) : Int) + ((i : Nat) : Int) = ((9 * i + i : Nat) : Int) by omega]
                        refine jj_iald dX7_factor_184 hv.2.2.2.2.2.2.2.1 (by omega) (by omega) ⟨by omega, by omega⟩ ?_
                        refine j_tops (show _ = lu S.1 (fcM S t) i i i by rw [show ((9 * i + i : Nat) : Int).toNat = 9 * i + i from rfl, hV i (by omega) i (by omega), lu_row (c := i) (d := 8) (Nat.le_refl _) (by omega)]) ?_
                        have hij := hB i i (by omega) i (by omega)
                        have hdR := luD_R (p := S.1) (m := fcM S t) (by omega) i
                        have hmul := mul_R (a := luD S.1 (fcM S t) i) (b := lu S.1 (fcM S t) i i i) (m := 251) (n := 251) hdR.1 (by omega) hij.1 (by omega) (by omega)
                        refine j_imul dX7_factor_185 ?_
                        refine cl_X7_54 (As := [_]) rfl dX7_factor_186 (c_X7_mod hv.2 (p := S.1) ((if_neg (by omega)).trans ((if_neg (by omega)).trans hO.1)) (by omega) (by omega) (rs (by omega) (by omega))) hv.2.1 rfl ⟨by decide, by decide⟩ (Nat.le_of_ble_eq_true rfl) ⟨Nat.zero_le _, Nat.zero_le _⟩ (fun z186 σ186 hz186 => ?_)
                        obtain ⟨hr186, hs186⟩ := hz186
                        have hr186 := Eq.symm hr186
                        have hs186 := Eq.symm hs186
                        subst hr186
                        subst hs186
                        refine j_istore dX7_factor_189 (by decide) (by dsimp only [List.set] <;> rfl) ?_
                        refine j_iinc dX7_factor_191 rfl (by decide) (by dsimp only [List.set] <;> rfl) ?_
                        refine j_goto (tgt := 64) dX7_factor_194 (by decide) ?_
                        have hih := ih64 (i + 1) _ (some (vi j)) v7b (by omega) (by omega) (hv.rowE (fun q hq => by rw [show 8 * i + j = 8 * (i + 1) + 0 by omega]))
                        refine j_weak ?_ hih
                        exact ⟨rfl, rfl, rfl, rfl, rfl, rfl, rfl, LLe.rf _⟩
                      · skip
                        refine j_aload_n dX7_factor_81 rfl ?_
                        refine gf_X7_26 rfl dX7_factor_82 hv.2.1 rfl ?_
                        refine j_bipush dX7_factor_85 (by decide) ?_
                        refine j_iload dX7_factor_87 rfl ?_
                        refine j_imul dX7_factor_89 ?_
                        refine j_iload dX7_factor_90 rfl ?_
                        refine j_iadd dX7_factor_92 ?_
                        rw [show (9 : Int) * ((i : Nat) : Int) + ((j : Nat) : Int) = ((9 * i + j : Nat) : Int) by omega]
                        refine jj_iald dX7_factor_93 hv.2.2.2.2.2.2.2.1 (by omega) (by omega) ⟨by omega, by omega⟩ ?_
                        refine j_tops (show _ = (lu S.1 (fcM S t) 8) i j from hV i (by omega) j (by omega)) ?_
                        have hij := hB 8 i (by omega) j (by omega)
                        refine j_istore dX7_factor_94 (by decide) (by dsimp only [List.set] <;> rfl) ?_
                        refine j_aload_n dX7_factor_96 rfl ?_
                        refine gf_X7_7 rfl dX7_factor_97 hv.2.1 rfl ?_
                        refine j_iload_n dX7_factor_100 rfl ?_
                        refine j_iload dX7_factor_101 rfl ?_
                        refine j_iload dX7_factor_103 rfl ?_
                        refine cl_X7_68 (As := [_, _, _]) rfl dX7_factor_105 (c_X7_cellAt) rfl ⟨by decide, by decide⟩ (Nat.le_of_ble_eq_true rfl) ⟨Nat.zero_le _, Nat.zero_le _⟩ (fun z105 σ105 hz105 => ?_)
                        obtain ⟨hr105, hs105⟩ := hz105
                        have hr105 := Eq.symm hr105
                        have hs105 := Eq.symm hs105
                        subst hr105
                        subst hs105
                        rw [show (1 : Int) + 64 * a + 8 * (i : Int) + (j : Int) = ((1 + 64 * a.toNat + (8 * i + j) : Nat) : Int) by omega]
                        have lp136 : ∀ (x : Int), x = lowF (lu S.1 (fcM S t) 8) i j → J l D yX7_factor cX7_factor 8 (some .int) rmX7_factor sz (AA σ sz) (QI D σ sz (fun x σ' => x = fcX S t a b ∧ OffR m (m + 10) σ σ' ∧ RS D σ' m (nxS (fcN S t a b) S) SN hs (nxN (fcN S t a b) n) (nxH (fcN S t a b) n H S) tn ch)) 0 0 136 [some (.ref m), some (vi t), some (vi a), some (vi b), some (vi (luD S.1 (fcM S t) i)), some (vi i), some (vi j), some (vi ((lu S.1 (fcM S t) 8) i j))] [vi x, vi ((1 + 64 * a.toNat + (8 * i + j) : Nat) : Int), .ref (m + 1)] v := by
                          intro x hx
                          refine jj_iast dX7_factor_136 hv.2.2.1 (by omega) (by omega) ⟨by omega, by omega⟩ (fun e136 q136 => ?_)
                          have hv1 := hv.row q136
                          refine j_aload_n dX7_factor_137 rfl ?_
                          refine gf_X7_7 rfl dX7_factor_138 hv1.2.1 rfl ?_
                          refine j_iload_n dX7_factor_141 rfl ?_
                          refine j_iload dX7_factor_142 rfl ?_
                          refine j_iload dX7_factor_144 rfl ?_
                          refine cl_X7_68 (As := [_, _, _]) rfl dX7_factor_146 (c_X7_cellAt) rfl ⟨by decide, by decide⟩ (Nat.le_of_ble_eq_true rfl) ⟨Nat.zero_le _, Nat.zero_le _⟩ (fun z146 σ146 hz146 => ?_)
                          obtain ⟨hr146, hs146⟩ := hz146
                          have hr146 := Eq.symm hr146
                          have hs146 := Eq.symm hs146
                          subst hr146
                          subst hs146
                          rw [show (1 : Int) + 64 * b + 8 * (i : Int) + (j : Int) = ((1 + 64 * b.toNat + (8 * i + j) : Nat) : Int) by omega]
                          have lp162 : ∀ (y : Int), y = uppF (lu S.1 (fcM S t) 8) i j → J l D yX7_factor cX7_factor 8 (some .int) rmX7_factor sz (AA σ sz) (QI D σ sz (fun x σ' => x = fcX S t a b ∧ OffR m (m + 10) σ σ' ∧ RS D σ' m (nxS (fcN S t a b) S) SN hs (nxN (fcN S t a b) n) (nxH (fcN S t a b) n H S) tn ch)) 0 0 162 [some (.ref m), some (vi t), some (vi a), some (vi b), some (vi (luD S.1 (fcM S t) i)), some (vi i), some (vi j), some (vi ((lu S.1 (fcM S t) 8) i j))] [vi y, vi ((1 + 64 * b.toNat + (8 * i + j) : Nat) : Int), .ref (m + 1)] (wup v (m + 1) e136) := by
                            intro y hy
                            refine jj_iast dX7_factor_162 hv1.2.2.1 (by omega) (by omega) ⟨by omega, by omega⟩ (fun e162 q162 => ?_)
                            have hv2 := hv1.row q162
                            refine j_iinc dX7_factor_163 rfl (by decide) (by dsimp only [List.set] <;> rfl) ?_
                            refine j_goto (tgt := 74) dX7_factor_166 (by decide) ?_
                            have hih := ih74 (j + 1) _ (some (vi ((lu S.1 (fcM S t) 8) i j))) (by omega) (by omega) (hv2.rowE (fun q hq => by
                              show fup (fup _ (1 + 64 * a.toNat + (8 * i + j)) _) (1 + 64 * b.toNat + (8 * i + j)) _ q = _
                              by_cases x : q = 1 + 64 * b.toNat + (8 * i + j)
                              · rw [x, fup_s, if_neg (by omega), if_pos (by omega), Nat.add_sub_cancel_left, hy, show (8 * i + j) / 8 = i by omega, show (8 * i + j) % 8 = j by omega]
                              · rw [fup_n x]
                                by_cases y : q = 1 + 64 * a.toNat + (8 * i + j)
                                · rw [y, fup_s, if_pos (by omega), Nat.add_sub_cancel_left, hx, show (8 * i + j) / 8 = i by omega, show (8 * i + j) % 8 = j by omega]
                                · rw [fup_n y]
                                  by_cases u : 1 + 64 * a.toNat ≤ q ∧ q < 1 + 64 * a.toNat + 64 ∧ q - (1 + 64 * a.toNat) < 8 * i + j
                                  · rw [if_pos u, if_pos (by omega)]
                                  · rw [if_neg u, if_neg (show ¬ (1 + 64 * a.toNat ≤ q ∧ q < 1 + 64 * a.toNat + 64 ∧ q - (1 + 64 * a.toNat) < 8 * i + (j + 1)) by omega)]
                                    by_cases u2 : 1 + 64 * b.toNat ≤ q ∧ q < 1 + 64 * b.toNat + 64 ∧ q - (1 + 64 * b.toNat) < 8 * i + j
                                    · rw [if_pos u2, if_pos (by omega)]
                                    · rw [if_neg u2, if_neg (by omega)]))
                            refine j_weak ?_ hih
                            exact ⟨rfl, rfl, rfl, rfl, rfl, rfl, rfl, rfl, trivial⟩
                          refine j_iload dX7_factor_149 rfl ?_
                          refine j_iload dX7_factor_151 rfl ?_
                          refine j_icmp_le (tgt := 160) dX7_factor_153 (by decide) ⟨by omega, by omega⟩ ⟨by omega, by omega⟩ (fun h153 => ?_) (fun h153 => ?_)
                          · skip
                            refine j_iload dX7_factor_160 rfl ?_
                            exact lp162 _ (by unfold uppF; rw [if_pos (by omega)])
                          · skip
                            refine j_iconst dX7_factor_156 ?_
                            refine j_goto (tgt := 162) dX7_factor_157 (by decide) ?_
                            exact lp162 _ (by unfold uppF; rw [if_neg (by omega)])
                        refine j_iload dX7_factor_108 rfl ?_
                        refine j_iload dX7_factor_110 rfl ?_
                        refine j_icmp_le (tgt := 120) dX7_factor_112 (by decide) ⟨by omega, by omega⟩ ⟨by omega, by omega⟩ (fun h112 => ?_) (fun h112 => ?_)
                        · skip
                          refine j_iload dX7_factor_120 rfl ?_
                          refine j_iload dX7_factor_122 rfl ?_
                          refine j_icmp_ne (tgt := 135) dX7_factor_124 (by decide) ⟨by omega, by omega⟩ ⟨by omega, by omega⟩ (fun h124 => ?_) (fun h124 => ?_)
                          · skip
                            refine j_iconst dX7_factor_135 ?_
                            exact lp136 _ (by unfold lowF; rw [if_neg (by omega), if_neg (by omega)])
                          · skip
                            refine j_aload_n dX7_factor_127 rfl ?_
                            refine j_iconst dX7_factor_128 ?_
                            refine cl_X7_54 (As := [_]) rfl dX7_factor_129 (c_X7_mod hv.2 (p := S.1) ((if_neg (by omega)).trans ((if_neg (by omega)).trans hO.1)) (by omega) (by omega) (rs (by omega) (by omega))) hv.2.1 rfl ⟨by decide, by decide⟩ (Nat.le_of_ble_eq_true rfl) ⟨Nat.zero_le _, Nat.zero_le _⟩ (fun z129 σ129 hz129 => ?_)
                            obtain ⟨hr129, hs129⟩ := hz129
                            have hr129 := Eq.symm hr129
                            have hs129 := Eq.symm hs129
                            subst hr129
                            subst hs129
                            refine j_tops (show (1 : Int) % S.1 = 1 from emod_id (by omega) (by omega)) ?_
                            refine j_goto (tgt := 136) dX7_factor_132 (by decide) ?_
                            exact lp136 _ (by unfold lowF; rw [if_pos (by omega)])
                        · skip
                          refine j_iload dX7_factor_115 rfl ?_
                          refine j_goto (tgt := 136) dX7_factor_117 (by decide) ?_
                          exact lp136 _ (by unfold lowF; rw [if_neg (by omega), if_pos (by omega)])
                  exact lp74 10 0 _ v7 (by omega) (by omega) hw
            exact lp64 10 0 _ none none (by omega) (by omega) (w0.rowE (fun q hq => by rw [if_neg (by omega), if_neg (by omega)]))
          · skip
            have a44 := ne1 q44
            refine j_bipush dX7_factor_47 (by decide) ?_
            exact j_iret dX7_factor_49 ⟨_, rfl, by unfold fcX; rw [if_pos (by omega), if_neg h25, if_neg a44], RSx_none (RS.of hq41 hO hP hA hn4 htn hch) (by unfold fcN; rw [if_pos (by omega), if_neg h25, if_neg a44])⟩
        · skip
          refine j_bipush dX7_factor_28 (by decide) ?_
          exact j_iret dX7_factor_30 ⟨_, rfl, by unfold fcX; rw [if_pos (by omega), if_pos h25], RSx_none (RS.of h.rq hO hP hA hn4 htn hch) (by unfold fcN; rw [if_pos (by omega), if_pos h25])⟩
      · skip
        have aab := nt1 q18
        refine j_iconst dX7_factor_21 ?_
        exact j_iret dX7_factor_22 ⟨_, rfl, by unfold fcX; rw [if_neg (by omega)], RSx_none (RS.of h.rq hO hP hA hn4 htn hch) (by unfold fcN; rw [if_neg (by omega)])⟩

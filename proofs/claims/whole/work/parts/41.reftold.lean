/-! ===== the reference: what is told, the last methods ===== -/
theorem rfs_neg {ch : Nat → Int} {n : Nat} {p t k : Int} : rfs ch n p t k ≤ 0 := by
  unfold rfs rdF
  split
  · omega
  · split
    · omega
    · split
      · split <;> omega
      · split <;> omega

set_option maxRecDepth 100000 in
set_option maxHeartbeats 4000000 in
theorem c_X7_recompress {l : Launch} {D : gD} {σ : Wd} {m n tn : Nat} {hs : Int} {S SN : MS} {H : Nat → MS} {ch : Nat → Int} {t : Int} (h0 : RS D σ m S SN hs n H tn ch) (hWS : WS S) (ht : R32 t) : KX7_recompress l D [.ref m, vi t] σ (fun x σ' => x = rcX S t ∧ OffR m (m + 10) σ σ' ∧ RS D σ' m (nxS (rcNx S t) S) SN hs (nxN (rcNx S t) n) (nxH (rcNx S t) n H S) tn ch) := by
  obtain ⟨pl, de, R, P, A, rv, W, mk, ls, sp, h, hO, hP, hA, hn4, htn, hch⟩ := h0
  have hlo := primeB_lo hWS.1
  have hg := fun t ht => (hWS.2 t ht).2
  have hF := fun t ht => (hWS.2 t ht).1
  refine sp_of (by decide +kernel) (cat1 rfl) (Nat.le_of_ble_eq_true rfl) [some (.ref m), some (vi t), none, none] rfl (fun sz => ?_)
  refine j_iload_n dX7_recompress_0 rfl ?_
  refine cl_X7_62 (As := [_]) rfl dX7_recompress_1 (c_X7_noTable ht) rfl ⟨by decide, by decide⟩ (Nat.le_of_ble_eq_true rfl) ⟨Nat.zero_le _, Nat.zero_le _⟩ (fun z1 σ1 hz1 => ?_)
  obtain ⟨hr1, hs1⟩ := hz1
  have hr1 := Eq.symm hr1
  have hs1 := Eq.symm hs1
  subst hr1
  subst hs1
  refine j_if_eq (tgt := 9) dX7_recompress_4 (by decide) R_ite0 (fun q4 => ?_) (fun q4 => ?_)
  · skip
    have aat := nt0 q4
    have hT := hO.2.2 t.toNat (by omega)
    refine j_aload_n dX7_recompress_9 rfl ?_
    refine j_iload_n dX7_recompress_10 rfl ?_
    have hK := c_X7_findLeast (l := l) (t := t.toNat) h hO hWS (by omega)
    rw [Int.toNat_of_nonneg (a := t) (by omega)] at hK
    refine cl_X7_160 (As := [_]) rfl dX7_recompress_11 (hK) h.1 rfl ⟨by decide, by decide⟩ (Nat.le_of_ble_eq_true rfl) ⟨Nat.zero_le _, Nat.zero_le _⟩ (fun σ11 hz11 => ?_)
    obtain ⟨de1, W1, ls1, sp1, w1, hl0, hsp⟩ := hz11
    have hTL : TR (flF S.1 (S.2.1 t.toNat)) (lv S.1 (S.2.1 t.toNat) 3) := TR_lv
    have hinj := TR_inj hTL hT
    refine j_iconst dX7_recompress_14 ?_
    refine j_istore_n dX7_recompress_15 (by decide) (by dsimp only [List.set] <;> rfl) ?_
    refine j_iconst dX7_recompress_16 ?_
    refine j_istore_n dX7_recompress_17 (by decide) (by dsimp only [List.set] <;> rfl) ?_
    have lp18 : ∀ (nn d : Nat) (x : Int), 22 - d < nn → d ≤ 21 → ((x = 1 ∧ ∀ c, c < d → flF S.1 (S.2.1 t.toNat) c = R (257 + 21 * t.toNat + c)) ∨ (x = 0 ∧ ∃ c, c < d ∧ flF S.1 (S.2.1 t.toNat) c ≠ R (257 + 21 * t.toNat + c))) → J l D yX7_recompress cX7_recompress 4 (some .int) rmX7_recompress sz (AA σ sz) (QI D σ sz (fun x σ' => x = rcX S t ∧ OffR m (m + 10) σ σ' ∧ RS D σ' m (nxS (rcNx S t) S) SN hs (nxN (rcNx S t) n) (nxH (rcNx S t) n H S) tn ch)) 0 0 18 [some (.ref m), some (vi t), some (vi x), some (vi d)] [] σ11 := by
      intro nn
      induction nn with
      | zero =>
        intro d x hnn hd hx
        exfalso
        omega
      | succ nn ih18 =>
        intro d x hnn hd hx
        have hxR : R32 x := by rcases hx with q | q <;> exact rs (by have := q.1; omega) (by have := q.1; omega)
        refine j_iload_n dX7_recompress_18 rfl ?_
        refine j_bipush dX7_recompress_19 (by decide) ?_
        refine j_icmp_ge (tgt := 55) dX7_recompress_21 (by decide) ⟨by omega, by omega⟩ ⟨by omega, by omega⟩ (fun h21 => ?_) (fun h21 => ?_)
        · skip
          refine j_iload_n dX7_recompress_55 rfl ?_
          refine j_if_eq (tgt := 62) dX7_recompress_56 (by decide) hxR (fun h56 => ?_) (fun h56 => ?_)
          · skip
            have hun : ¬ cntN (lv S.1 (S.2.1 t.toNat) 3) (S.2.2 t.toNat) 64 = 0 := by
              rcases hx with q | q
              · omega
              · obtain ⟨-, c, c1, c2⟩ := q
                exact fun a => c2 (hinj.mp (cntN_0.mp a) c (by omega))
            clear hx
            refine j_aload_n dX7_recompress_62 rfl ?_
            refine cl_X7_47 (As := []) rfl dX7_recompress_63 (c_X7_record w1.2 hn4) w1.2.1 rfl ⟨by decide, by decide⟩ (Nat.le_of_ble_eq_true rfl) ⟨Nat.zero_le _, Nat.zero_le _⟩ (fun σ63 hz63 => ?_)
            have w2 := w1.tr hz63
            refine j_iconst dX7_recompress_66 ?_
            refine j_istore_n dX7_recompress_67 (by decide) (by dsimp only [List.set] <;> rfl) ?_
            have lp68 : ∀ (nn i : Nat) (v : Wd), 22 - i < nn → i ≤ 21 → RQ D σ v m (recN n) hs tn pl de1 (fun q => if 257 + 21 * t.toNat ≤ q ∧ q < 257 + 21 * t.toNat + i then sp1 (q - (257 + 21 * t.toNat)) else R q) (recP n P R) A ch rv W1 mk ls1 sp1 → J l D yX7_recompress cX7_recompress 4 (some .int) rmX7_recompress sz (AA σ sz) (QI D σ sz (fun x σ' => x = rcX S t ∧ OffR m (m + 10) σ σ' ∧ RS D σ' m (nxS (rcNx S t) S) SN hs (nxN (rcNx S t) n) (nxH (rcNx S t) n H S) tn ch)) 0 0 68 [some (.ref m), some (vi t), some (vi x), some (vi i)] [] v := by
              intro nn
              induction nn with
              | zero =>
                intro i v hnn hi hv
                exfalso
                omega
              | succ nn ih68 =>
                intro i v hnn hi hv
                refine j_iload_n dX7_recompress_68 rfl ?_
                refine j_bipush dX7_recompress_69 (by decide) ?_
                refine j_icmp_ge (tgt := 109) dX7_recompress_71 (by decide) ⟨by omega, by omega⟩ ⟨by omega, by omega⟩ (fun h71 => ?_) (fun h71 => ?_)
                · skip
                  refine j_aload_n dX7_recompress_109 rfl ?_
                  refine gf_X7_32 rfl dX7_recompress_110 hv.2.1 rfl ?_
                  refine j_iconst dX7_recompress_113 ?_
                  refine jj_iald dX7_recompress_114 hv.2.2.2.2.2.2.2.2.2.1 (by omega) (by omega) ⟨by omega, by omega⟩ ?_
                  refine j_tops (show _ = best S.1 (S.2.1 t.toNat) 3 0 from hl0) ?_
                  have hO2 : RO (fun q => if 257 + 21 * t.toNat ≤ q ∧ q < 257 + 21 * t.toNat + i then sp1 (q - (257 + 21 * t.toNat)) else R q) (S.1, S.2.1, fup S.2.2 t.toNat (lv S.1 (S.2.1 t.toNat) 3)) := hO.sizes (by omega) (hTL.ext (fun d hd => by
                    rw [if_pos (by omega), Nat.add_sub_cancel_left]
                    exact (hsp d hd).symm)) (fun q q1 q2 => if_neg (by omega))
                  exact j_iret dX7_recompress_115 ⟨_, rfl, by unfold rcX; rw [if_pos (by omega), if_neg hun], RSx_some (RS.of hv hO2 (rec_RO hn4 hO hP) hA (recN_le n hn4) htn hch) (by unfold rcNx; rw [if_pos (by omega), if_neg hun])⟩
                · skip
                  refine j_aload_n dX7_recompress_74 rfl ?_
                  refine gf_X7_7 rfl dX7_recompress_75 hv.2.1 rfl ?_
                  refine j_sipush dX7_recompress_78 (by decide) ?_
                  refine j_bipush dX7_recompress_81 (by decide) ?_
                  refine j_iload_n dX7_recompress_83 rfl ?_
                  refine j_imul dX7_recompress_84 ?_
                  refine j_iadd dX7_recompress_85 ?_
                  refine j_iload_n dX7_recompress_86 rfl ?_
                  refine j_iadd dX7_recompress_87 ?_
                  rw [show (257 : Int) + 21 * t + (i : Int) = ((257 + 21 * t.toNat + i : Nat) : Int) by omega]
                  refine j_aload_n dX7_recompress_88 rfl ?_
                  refine gf_X7_35 rfl dX7_recompress_89 hv.2.1 rfl ?_
                  refine j_iload_n dX7_recompress_92 rfl ?_
                  refine jj_zald dX7_recompress_93 hv.2.2.2.2.2.2.2.2.2.2 (by omega) (by omega) ⟨by omega, by omega⟩ ?_
                  refine j_tops (show _ = sp1 i from rfl) ?_
                  have hsi := hsp i (by omega)
                  have hfR := flF_R S.1 (S.2.1 t.toNat) i
                  refine j_if_eq (tgt := 101) dX7_recompress_94 (by decide) (rs (by omega) (by omega)) (fun h94 => ?_) (fun h94 => ?_)
                  · skip
                    refine j_iconst dX7_recompress_101 ?_
                    refine jj_iast dX7_recompress_102 hv.2.2.1 (by omega) (by omega) ⟨by omega, by omega⟩ (fun e102 q102 => ?_)
                    have hv2 := hv.row q102
                    refine j_iinc dX7_recompress_103 rfl (by decide) (by dsimp only [List.set] <;> rfl) ?_
                    refine j_goto (tgt := 68) dX7_recompress_106 (by decide) ?_
                    have hih := ih68 (i + 1) _ (by omega) (by omega) (hv2.rowE (fun q hq => by
                      show fup _ (257 + 21 * t.toNat + i) _ q = _
                      by_cases y : q = 257 + 21 * t.toNat + i
                      · rw [y, fup_s, if_pos (by omega), Nat.add_sub_cancel_left]
                        omega
                      · rw [fup_n y]
                        by_cases b : 257 + 21 * t.toNat ≤ q ∧ q < 257 + 21 * t.toNat + i
                        · rw [if_pos b, if_pos (by omega)]
                        · rw [if_neg b, if_neg (by omega)]))
                    refine j_weak ?_ hih
                    exact ⟨rfl, rfl, rfl, rfl, trivial⟩
                  · skip
                    refine j_iconst dX7_recompress_97 ?_
                    refine j_goto (tgt := 102) dX7_recompress_98 (by decide) ?_
                    refine jj_iast dX7_recompress_102 hv.2.2.1 (by omega) (by omega) ⟨by omega, by omega⟩ (fun e102 q102 => ?_)
                    have hv2 := hv.row q102
                    refine j_iinc dX7_recompress_103 rfl (by decide) (by dsimp only [List.set] <;> rfl) ?_
                    refine j_goto (tgt := 68) dX7_recompress_106 (by decide) ?_
                    have hih := ih68 (i + 1) _ (by omega) (by omega) (hv2.rowE (fun q hq => by
                      show fup _ (257 + 21 * t.toNat + i) _ q = _
                      by_cases y : q = 257 + 21 * t.toNat + i
                      · rw [y, fup_s, if_pos (by omega), Nat.add_sub_cancel_left]
                        omega
                      · rw [fup_n y]
                        by_cases b : 257 + 21 * t.toNat ≤ q ∧ q < 257 + 21 * t.toNat + i
                        · rw [if_pos b, if_pos (by omega)]
                        · rw [if_neg b, if_neg (by omega)]))
                    refine j_weak ?_ hih
                    exact ⟨rfl, rfl, rfl, rfl, trivial⟩
            exact lp68 30 0 _ (by omega) (by omega) (w2.rowE (fun q hq => by rw [if_neg (by omega)]))
          · skip
            have hun : cntN (lv S.1 (S.2.1 t.toNat) 3) (S.2.2 t.toNat) 64 = 0 := by
              rcases hx with q | q
              · exact cntN_0.mpr (hinj.mpr (fun c hc => q.2 c (by omega)))
              · exact absurd q.1 h56
            clear hx
            refine j_bipush dX7_recompress_59 (by decide) ?_
            exact j_iret dX7_recompress_61 ⟨_, rfl, by unfold rcX; rw [if_pos (by omega), if_pos hun], RSx_none (RS.of w1 hO hP hA hn4 htn hch) (by unfold rcNx; rw [if_pos (by omega), if_pos hun])⟩
        · skip
          refine j_iload_n dX7_recompress_24 rfl ?_
          refine j_if_eq (tgt := 47) dX7_recompress_25 (by decide) hxR (fun h25 => ?_) (fun h25 => ?_)
          · skip
            refine j_iconst dX7_recompress_47 ?_
            refine j_istore_n dX7_recompress_48 (by decide) (by dsimp only [List.set] <;> rfl) ?_
            refine j_iinc dX7_recompress_49 rfl (by decide) (by dsimp only [List.set] <;> rfl) ?_
            refine j_goto (tgt := 18) dX7_recompress_52 (by decide) ?_
            have hih := ih18 (d + 1) 0 (by omega) (by omega) (Or.inr ⟨rfl, by
              rcases hx with q | q
              · exact absurd h25 (by rw [q.1]; omega)
              · obtain ⟨-, c, a, b⟩ := q
                exact ⟨c, by omega, b⟩⟩)
            refine j_weak ?_ hih
            exact ⟨rfl, rfl, rfl, rfl, trivial⟩
          · skip
            refine j_aload_n dX7_recompress_28 rfl ?_
            refine gf_X7_35 rfl dX7_recompress_29 w1.2.1 rfl ?_
            refine j_iload_n dX7_recompress_32 rfl ?_
            refine jj_zald dX7_recompress_33 w1.2.2.2.2.2.2.2.2.2.2 (by omega) (by omega) ⟨by omega, by omega⟩ ?_
            refine j_tops (show _ = flF S.1 (S.2.1 t.toNat) d from hsp d (by omega)) ?_
            have hfR := flF_R S.1 (S.2.1 t.toNat) d
            refine j_aload_n dX7_recompress_34 rfl ?_
            refine j_iload_n dX7_recompress_35 rfl ?_
            refine j_iload_n dX7_recompress_36 rfl ?_
            have hK2 := c_X7_isSplitAt (l := l) (t := t.toNat) (d := d) w1.2 hT (by omega) (by omega)
            rw [Int.toNat_of_nonneg (a := t) (by omega)] at hK2
            have hRd : R (257 + 21 * t.toNat + d) = 0 ∨ R (257 + 21 * t.toNat + d) = 1 := hT.1 d (by omega)
            refine cl_X7_72 (As := [_, _]) rfl dX7_recompress_37 (hK2) w1.2.1 rfl ⟨by decide, by decide⟩ (Nat.le_of_ble_eq_true rfl) ⟨Nat.zero_le _, Nat.zero_le _⟩ (fun z37 σ37 hz37 => ?_)
            obtain ⟨hr37, hs37⟩ := hz37
            have hr37 := Eq.symm hr37
            have hs37 := Eq.symm hs37
            subst hr37
            subst hs37
            refine j_tops (show _ = R (257 + 21 * t.toNat + d) by split <;> omega) ?_
            refine j_icmp_ne (tgt := 47) dX7_recompress_40 (by decide) (rs (by omega) (by omega)) (rs (by omega) (by omega)) (fun h40 => ?_) (fun h40 => ?_)
            · skip
              refine j_iconst dX7_recompress_47 ?_
              refine j_istore_n dX7_recompress_48 (by decide) (by dsimp only [List.set] <;> rfl) ?_
              refine j_iinc dX7_recompress_49 rfl (by decide) (by dsimp only [List.set] <;> rfl) ?_
              refine j_goto (tgt := 18) dX7_recompress_52 (by decide) ?_
              have hih := ih18 (d + 1) 0 (by omega) (by omega) (Or.inr ⟨rfl, d, by omega, h40⟩)
              refine j_weak ?_ hih
              exact ⟨rfl, rfl, rfl, rfl, trivial⟩
            · skip
              refine j_iconst dX7_recompress_43 ?_
              refine j_goto (tgt := 48) dX7_recompress_44 (by decide) ?_
              refine j_istore_n dX7_recompress_48 (by decide) (by dsimp only [List.set] <;> rfl) ?_
              refine j_iinc dX7_recompress_49 rfl (by decide) (by dsimp only [List.set] <;> rfl) ?_
              refine j_goto (tgt := 18) dX7_recompress_52 (by decide) ?_
              have hih := ih18 (d + 1) 1 (by omega) (by omega) (Or.inl ⟨rfl, fun c a => by
                rcases hx with q | q
                · rcases (show c < d ∨ c = d by omega) with b | b
                  · exact q.2 c b
                  · rw [b]; omega
                · exact absurd q.1 h25⟩)
              refine j_weak ?_ hih
              exact ⟨rfl, rfl, rfl, rfl, trivial⟩
    exact lp18 30 0 1 (by omega) (by omega) (Or.inl ⟨rfl, fun c a => absurd a (by omega)⟩)
  · skip
    have aat := nt1 q4
    refine j_iconst dX7_recompress_7 ?_
    exact j_iret dX7_recompress_8 ⟨_, rfl, by unfold rcX; rw [if_neg (by omega)], RSx_none (RS.of h.rq hO hP hA hn4 htn hch) (by unfold rcNx; rw [if_neg (by omega)])⟩
set_option maxRecDepth 100000 in
set_option maxHeartbeats 4000000 in
theorem c_X7_table {l : Launch} {D : gD} {σ : Wd} {m n tn : Nat} {hs : Int} {S SN : MS} {H : Nat → MS} {ch : Nat → Int} {t v : Int} (h0 : RS D σ m S SN hs n H tn ch) (hWS : WS S) (ht : R32 t) (hv : R32 v) : KX7_table l D [.ref m, vi t, vi v] σ (fun x σ' => x = tbX S t v ∧ OffR m (m + 10) σ σ' ∧ RS D σ' m S SN hs n H tn ch) := by
  obtain ⟨pl, de, R, P, A, rv, W, mk, ls, sp, h, hO, hP, hA, hn4, htn, hch⟩ := h0
  have hlo := primeB_lo hWS.1
  have hg := fun t ht => (hWS.2 t ht).2
  have hF := fun t ht => (hWS.2 t ht).1
  refine sp_of (by decide +kernel) (cat1 rfl) (Nat.le_of_ble_eq_true rfl) [some (.ref m), some (vi t), some (vi v)] rfl (fun sz => ?_)
  refine j_iload_n dX7_table_0 rfl ?_
  refine cl_X7_62 (As := [_]) rfl dX7_table_1 (c_X7_noTable ht) rfl ⟨by decide, by decide⟩ (Nat.le_of_ble_eq_true rfl) ⟨Nat.zero_le _, Nat.zero_le _⟩ (fun z1 σ1 hz1 => ?_)
  obtain ⟨hr1, hs1⟩ := hz1
  have hr1 := Eq.symm hr1
  have hs1 := Eq.symm hs1
  subst hr1
  subst hs1
  refine j_if_eq (tgt := 9) dX7_table_4 (by decide) R_ite0 (fun q4 => ?_) (fun q4 => ?_)
  · skip
    have aat := nt0 q4
    have hT := hO.2.2 t.toNat (by omega)
    have hok : okBlk 0 8 := okBlk_of (k := 3) (by omega) (by omega) rfl
    refine j_iload_n dX7_table_9 rfl ?_
    rcases Classical.em (v = 0) with hs10 | hs10_0
    · skip
      subst hs10
      refine j_tsIn (tgt := 60) dX7_table_10 ⟨by omega, by omega⟩ (by omega) (by omega) rfl (by decide) ?_
      refine j_aload_n dX7_table_60 rfl ?_
      refine j_iload_n dX7_table_61 rfl ?_
      refine j_iconst dX7_table_62 ?_
      refine j_bipush dX7_table_63 (by decide) ?_
      have hK := c_X7_rank (l := l) (t := t.toNat) (s := 0) (z := 8) h hO hWS (by omega) hok
      rw [Int.toNat_of_nonneg (a := t) (by omega)] at hK
      refine cl_X7_106 (As := [_, _, _]) rfl dX7_table_65 (hK) h.1 rfl ⟨by decide, by decide⟩ (Nat.le_of_ble_eq_true rfl) ⟨Nat.zero_le _, Nat.zero_le _⟩ (fun z65 σ65 hz65 => ?_)
      obtain ⟨hr, de1, W1, w1⟩ := hz65
      exact j_iret dX7_table_68 ⟨_, rfl, by unfold tbX; rw [if_pos aat, if_pos rfl]; exact hr, RS.of w1 hO hP hA hn4 htn hch⟩
    rcases Classical.em (v = 1) with hs10 | hs10_1
    · skip
      subst hs10
      refine j_tsIn (tgt := 69) dX7_table_10 ⟨by omega, by omega⟩ (by omega) (by omega) rfl (by decide) ?_
      refine j_aload_n dX7_table_69 rfl ?_
      refine j_iload_n dX7_table_70 rfl ?_
      have hK := c_X7_determinantOf (l := l) (t := t.toNat) h hO hWS (by omega)
      rw [Int.toNat_of_nonneg (a := t) (by omega)] at hK
      refine cl_X7_163 (As := [_]) rfl dX7_table_71 (hK) h.1 rfl ⟨by decide, by decide⟩ (Nat.le_of_ble_eq_true rfl) ⟨Nat.zero_le _, Nat.zero_le _⟩ (fun z71 σ71 hz71 => ?_)
      obtain ⟨hr, de1, W1, w1⟩ := hz71
      exact j_iret dX7_table_74 ⟨_, rfl, by unfold tbX; rw [if_pos aat, if_neg (by decide), if_pos rfl]; exact hr, RS.of w1 hO hP hA hn4 htn hch⟩
    rcases Classical.em (v = 2) with hs10 | hs10_2
    · skip
      subst hs10
      refine j_tsIn (tgt := 75) dX7_table_10 ⟨by omega, by omega⟩ (by omega) (by omega) rfl (by decide) ?_
      refine j_aload_n dX7_table_75 rfl ?_
      refine j_iload_n dX7_table_76 rfl ?_
      have hK := c_X7_diagonal (l := l) (t := t.toNat) h hO hWS (by omega)
      rw [Int.toNat_of_nonneg (a := t) (by omega)] at hK
      refine cl_X7_166 (As := [_]) rfl dX7_table_77 (hK) h.1 rfl ⟨by decide, by decide⟩ (Nat.le_of_ble_eq_true rfl) ⟨Nat.zero_le _, Nat.zero_le _⟩ (fun z77 σ77 hz77 => ?_)
      obtain ⟨hr77, hs77⟩ := hz77
      have hr77 := Eq.symm hr77
      have hs77 := Eq.symm hs77
      subst hr77
      subst hs77
      exact j_iret dX7_table_80 ⟨_, rfl, by unfold tbX; rw [if_pos aat, if_neg (by decide), if_neg (by decide), if_pos rfl], RS.of h.rq hO hP hA hn4 htn hch⟩
    rcases Classical.em (v = 3) with hs10 | hs10_3
    · skip
      subst hs10
      refine j_tsIn (tgt := 81) dX7_table_10 ⟨by omega, by omega⟩ (by omega) (by omega) rfl (by decide) ?_
      refine j_aload_n dX7_table_81 rfl ?_
      refine j_iload_n dX7_table_82 rfl ?_
      refine j_bipush dX7_table_83 (by decide) ?_
      have hK := c_X7_leavesTo (l := l) (t := t.toNat) (e := 64) h hT (by omega) (by omega)
      rw [Int.toNat_of_nonneg (a := t) (by omega)] at hK
      refine cl_X7_157 (As := [_, _]) rfl dX7_table_85 (hK) h.1 rfl ⟨by decide, by decide⟩ (Nat.le_of_ble_eq_true rfl) ⟨Nat.zero_le _, Nat.zero_le _⟩ (fun z85 σ85 hz85 => ?_)
      obtain ⟨hr85, hs85⟩ := hz85
      have hr85 := Eq.symm hr85
      have hs85 := Eq.symm hs85
      subst hr85
      subst hs85
      exact j_iret dX7_table_88 ⟨_, rfl, by unfold tbX; rw [if_pos aat, if_neg (by decide), if_neg (by decide), if_neg (by decide), if_pos rfl], RS.of h.rq hO hP hA hn4 htn hch⟩
    rcases Classical.em (v = 4) with hs10 | hs10_4
    · skip
      subst hs10
      refine j_tsIn (tgt := 89) dX7_table_10 ⟨by omega, by omega⟩ (by omega) (by omega) rfl (by decide) ?_
      refine j_aload_n dX7_table_89 rfl ?_
      refine j_iload_n dX7_table_90 rfl ?_
      refine j_iconst dX7_table_91 ?_
      have hK := c_X7_overLeaves (l := l) (t := t.toNat) (b := 1) h hO hWS (by omega) (Or.inr rfl)
      rw [Int.toNat_of_nonneg (a := t) (by omega)] at hK
      refine cl_X7_169 (As := [_, _]) rfl dX7_table_92 (hK) h.1 rfl ⟨by decide, by decide⟩ (Nat.le_of_ble_eq_true rfl) ⟨Nat.zero_le _, Nat.zero_le _⟩ (fun z92 σ92 hz92 => ?_)
      obtain ⟨hr, de1, W1, w1⟩ := hz92
      exact j_iret dX7_table_95 ⟨_, rfl, by unfold tbX; rw [if_pos aat, if_neg (by decide), if_neg (by decide), if_neg (by decide), if_neg (by decide), if_pos rfl]; exact hr, RS.of w1 hO hP hA hn4 htn hch⟩
    rcases Classical.em (v = 5) with hs10 | hs10_5
    · skip
      subst hs10
      refine j_tsIn (tgt := 96) dX7_table_10 ⟨by omega, by omega⟩ (by omega) (by omega) rfl (by decide) ?_
      refine j_aload_n dX7_table_96 rfl ?_
      refine j_iload_n dX7_table_97 rfl ?_
      have hK := c_X7_findLeast (l := l) (t := t.toNat) h hO hWS (by omega)
      rw [Int.toNat_of_nonneg (a := t) (by omega)] at hK
      refine cl_X7_160 (As := [_]) rfl dX7_table_98 (hK) h.1 rfl ⟨by decide, by decide⟩ (Nat.le_of_ble_eq_true rfl) ⟨Nat.zero_le _, Nat.zero_le _⟩ (fun σ98 hz98 => ?_)
      obtain ⟨de1, W1, ls1, sp1, w1, hl0, hsp⟩ := hz98
      refine j_aload_n dX7_table_101 rfl ?_
      refine gf_X7_32 rfl dX7_table_102 w1.2.1 rfl ?_
      refine j_iconst dX7_table_105 ?_
      refine jj_iald dX7_table_106 w1.2.2.2.2.2.2.2.2.2.1 (by omega) (by omega) ⟨by omega, by omega⟩ ?_
      refine j_tops (show _ = best S.1 (S.2.1 t.toNat) 3 0 from hl0) ?_
      exact j_iret dX7_table_107 ⟨_, rfl, by unfold tbX; rw [if_pos aat, if_neg (by decide), if_neg (by decide), if_neg (by decide), if_neg (by decide), if_neg (by decide), if_pos rfl], RS.of w1 hO hP hA hn4 htn hch⟩
    rcases Classical.em (v = 6) with hs10 | hs10_6
    · skip
      subst hs10
      refine j_tsIn (tgt := 108) dX7_table_10 ⟨by omega, by omega⟩ (by omega) (by omega) rfl (by decide) ?_
      refine j_aload_n dX7_table_108 rfl ?_
      refine j_iload_n dX7_table_109 rfl ?_
      have hK := c_X7_findLeast (l := l) (t := t.toNat) h hO hWS (by omega)
      rw [Int.toNat_of_nonneg (a := t) (by omega)] at hK
      refine cl_X7_160 (As := [_]) rfl dX7_table_110 (hK) h.1 rfl ⟨by decide, by decide⟩ (Nat.le_of_ble_eq_true rfl) ⟨Nat.zero_le _, Nat.zero_le _⟩ (fun σ110 hz110 => ?_)
      obtain ⟨de1, W1, ls1, sp1, w1, hl0, hsp⟩ := hz110
      have hlv := (TR_lv (p := S.1) (F := S.2.1 t.toNat)).leaves
      rw [← cntP_cong (g := sp1) (g' := flF S.1 (S.2.1 t.toNat)) hsp] at hlv
      refine j_aload_n dX7_table_113 rfl ?_
      refine cl_X7_173 (As := []) rfl dX7_table_114 (c_X7_leastLeaves w1.2 (fun d hd => by rw [hsp d hd]; exact flF_R _ _ d)) w1.2.1 rfl ⟨by decide, by decide⟩ (Nat.le_of_ble_eq_true rfl) ⟨Nat.zero_le _, Nat.zero_le _⟩ (fun z114 σ114 hz114 => ?_)
      obtain ⟨hr114, hs114⟩ := hz114
      have hr114 := Eq.symm hr114
      have hs114 := Eq.symm hs114
      subst hr114
      subst hs114
      exact j_iret dX7_table_117 ⟨_, rfl, by unfold tbX; rw [if_pos aat, if_neg (by decide), if_neg (by decide), if_neg (by decide), if_neg (by decide), if_neg (by decide), if_neg (by decide), if_pos rfl]; exact hlv.symm, RS.of w1 hO hP hA hn4 htn hch⟩
    rcases Classical.em (v = 7) with hs10 | hs10_7
    · skip
      subst hs10
      refine j_tsIn (tgt := 118) dX7_table_10 ⟨by omega, by omega⟩ (by omega) (by omega) rfl (by decide) ?_
      refine j_aload_n dX7_table_118 rfl ?_
      refine j_iload_n dX7_table_119 rfl ?_
      refine j_iconst dX7_table_120 ?_
      have hK := c_X7_overLeaves (l := l) (t := t.toNat) (b := 0) h hO hWS (by omega) (Or.inl rfl)
      rw [Int.toNat_of_nonneg (a := t) (by omega)] at hK
      refine cl_X7_169 (As := [_, _]) rfl dX7_table_121 (hK) h.1 rfl ⟨by decide, by decide⟩ (Nat.le_of_ble_eq_true rfl) ⟨Nat.zero_le _, Nat.zero_le _⟩ (fun z121 σ121 hz121 => ?_)
      obtain ⟨hr, de1, W1, w1⟩ := hz121
      exact j_iret dX7_table_124 ⟨_, rfl, by unfold tbX; rw [if_pos aat, if_neg (by decide), if_neg (by decide), if_neg (by decide), if_neg (by decide), if_neg (by decide), if_neg (by decide), if_neg (by decide), if_pos rfl]; exact hr, RS.of w1 hO hP hA hn4 htn hch⟩
    rcases Classical.em (v = 8) with hs10 | hs10_8
    · skip
      subst hs10
      refine j_tsIn (tgt := 125) dX7_table_10 ⟨by omega, by omega⟩ (by omega) (by omega) rfl (by decide) ?_
      refine j_aload_n dX7_table_125 rfl ?_
      refine j_iload_n dX7_table_126 rfl ?_
      have hK := c_X7_notZero (l := l) (t := t.toNat) h hO hWS (by omega)
      rw [Int.toNat_of_nonneg (a := t) (by omega)] at hK
      refine cl_X7_177 (As := [_]) rfl dX7_table_127 (hK) h.1 rfl ⟨by decide, by decide⟩ (Nat.le_of_ble_eq_true rfl) ⟨Nat.zero_le _, Nat.zero_le _⟩ (fun z127 σ127 hz127 => ?_)
      obtain ⟨hr127, hs127⟩ := hz127
      have hr127 := Eq.symm hr127
      have hs127 := Eq.symm hs127
      subst hr127
      subst hs127
      exact j_iret dX7_table_130 ⟨_, rfl, by unfold tbX; rw [if_pos aat, if_neg (by decide), if_neg (by decide), if_neg (by decide), if_neg (by decide), if_neg (by decide), if_neg (by decide), if_neg (by decide), if_neg (by decide), if_pos rfl], RS.of h.rq hO hP hA hn4 htn hch⟩
    refine j_tsOut (tgt := 131) dX7_table_10 hv (by omega) (by decide) ?_
    refine j_bipush dX7_table_131 (by decide) ?_
    exact j_iret dX7_table_133 ⟨_, rfl, by unfold tbX; rw [if_pos aat, if_neg (by omega), if_neg (by omega), if_neg (by omega), if_neg (by omega), if_neg (by omega), if_neg (by omega), if_neg (by omega), if_neg (by omega), if_neg (by omega)], RS.of h.rq hO hP hA hn4 htn hch⟩
  · skip
    have aat := nt1 q4
    refine j_iconst dX7_table_7 ?_
    exact j_iret dX7_table_8 ⟨_, rfl, by unfold tbX; rw [if_neg (by omega)], RS.of h.rq hO hP hA hn4 htn hch⟩
set_option maxRecDepth 100000 in
set_option maxHeartbeats 4000000 in
theorem c_X7_leaf {l : Launch} {D : gD} {σ : Wd} {m n tn : Nat} {hs : Int} {S SN : MS} {H : Nat → MS} {ch : Nat → Int} {t e v : Int} (h0 : RS D σ m S SN hs n H tn ch) (hWS : WS S) (ht : R32 t) (he : R32 e) (hv : R32 v) : KX7_leaf l D [.ref m, vi t, vi e, vi v] σ (fun x σ' => x = lfX S t e v ∧ OffR m (m + 10) σ σ' ∧ RS D σ' m S SN hs n H tn ch) := by
  obtain ⟨pl, de, R, P, A, rv, W, mk, ls, sp, h, hO, hP, hA, hn4, htn, hch⟩ := h0
  have hlo := primeB_lo hWS.1
  have hg := fun t ht => (hWS.2 t ht).2
  have hF := fun t ht => (hWS.2 t ht).1
  refine sp_of (by decide +kernel) (cat1 rfl) (Nat.le_of_ble_eq_true rfl) [some (.ref m), some (vi t), some (vi e), some (vi v), none, none] rfl (fun sz => ?_)
  refine j_aload_n dX7_leaf_0 rfl ?_
  refine j_iload_n dX7_leaf_1 rfl ?_
  refine j_iload_n dX7_leaf_2 rfl ?_
  refine cl_X7_130 (As := [_, _]) rfl dX7_leaf_3 (c_X7_noLeaf h hO ht he) h.1 rfl ⟨by decide, by decide⟩ (Nat.le_of_ble_eq_true rfl) ⟨Nat.zero_le _, Nat.zero_le _⟩ (fun z3 σ3 hz3 => ?_)
  obtain ⟨hr3, hs3⟩ := hz3
  have hr3 := Eq.symm hr3
  have hs3 := Eq.symm hs3
  subst hr3
  subst hs3
  refine j_if_eq (tgt := 11) dX7_leaf_6 (by decide) R_ite (fun q6 => ?_) (fun q6 => ?_)
  · skip
    have a6 := ne1 q6
    obtain ⟨s, z, k, est, ht0, ht3, hs64, hgz, hzk, hk, hok, hz1, hz8, hsz, hmod⟩ := lstT_leaf hg a6
    have hT := hO.2.2 t.toNat (by omega)
    have hOt := hO
    have els : lst (S.2.2 t.toNat) e = (s : Int) := by
      unfold lstT at est
      rw [if_pos ⟨ht0, ht3⟩] at est
      exact est
    have hszF : szF (fun d => R (257 + 21 * t.toNat + d)) s = z := by
      have := (hT.at hs64 (by omega)).1
      omega
    refine j_aload_n dX7_leaf_11 rfl ?_
    refine j_iload_n dX7_leaf_12 rfl ?_
    refine j_iload_n dX7_leaf_13 rfl ?_
    have hK := c_X7_beginOf (l := l) (t := t.toNat) h hT (by omega) he
    rw [Int.toNat_of_nonneg (a := t) (by omega)] at hK
    refine cl_X7_127 (As := [_, _]) rfl dX7_leaf_14 (hK) h.1 rfl ⟨by decide, by decide⟩ (Nat.le_of_ble_eq_true rfl) ⟨Nat.zero_le _, Nat.zero_le _⟩ (fun z14 σ14 hz14 => ?_)
    obtain ⟨hr14, hs14⟩ := hz14
    have hr14 := Eq.symm hr14
    have hs14 := Eq.symm hs14
    subst hr14
    subst hs14
    refine j_tops (show _ = (s : Int) by rw [els, if_neg (by omega)]) ?_
    refine j_istore dX7_leaf_17 (by decide) (by dsimp only [List.set] <;> rfl) ?_
    refine j_aload_n dX7_leaf_19 rfl ?_
    refine j_iload_n dX7_leaf_20 rfl ?_
    refine j_iload dX7_leaf_21 rfl ?_
    have hK2 := c_X7_sizeAt (l := l) (t := t.toNat) (s := s) h hT (by omega) hs64
    rw [Int.toNat_of_nonneg (a := t) (by omega)] at hK2
    refine cl_X7_76 (As := [_, _]) rfl dX7_leaf_23 (hK2) h.1 rfl ⟨by decide, by decide⟩ (Nat.le_of_ble_eq_true rfl) ⟨Nat.zero_le _, Nat.zero_le _⟩ (fun z23 σ23 hz23 => ?_)
    obtain ⟨hr23, hs23⟩ := hz23
    have hr23 := Eq.symm hr23
    have hs23 := Eq.symm hs23
    subst hr23
    subst hs23
    rw [hszF]
    refine j_istore dX7_leaf_26 (by decide) (by dsimp only [List.set] <;> rfl) ?_
    refine j_iload_n dX7_leaf_28 rfl ?_
    rcases Classical.em (v = 0) with hs29 | hs29_0
    · skip
      subst hs29
      refine j_tsIn (tgt := 68) dX7_leaf_29 ⟨by omega, by omega⟩ (by omega) (by omega) rfl (by decide) ?_
      refine j_iload dX7_leaf_68 rfl ?_
      refine cl_X7_94 (As := [_]) rfl dX7_leaf_70 (c_X7_rowOf hs64) rfl ⟨by decide, by decide⟩ (Nat.le_of_ble_eq_true rfl) ⟨Nat.zero_le _, Nat.zero_le _⟩ (fun z70 σ70 hz70 => ?_)
      obtain ⟨hr70, hs70⟩ := hz70
      have hr70 := Eq.symm hr70
      have hs70 := Eq.symm hs70
      subst hr70
      subst hs70
      exact j_iret dX7_leaf_73 ⟨_, rfl, by unfold lfX; rw [onLeaf_y est hgz]; rfl, RS.of h.rq hO hP hA hn4 htn hch⟩
    rcases Classical.em (v = 1) with hs29 | hs29_1
    · skip
      subst hs29
      refine j_tsIn (tgt := 74) dX7_leaf_29 ⟨by omega, by omega⟩ (by omega) (by omega) rfl (by decide) ?_
      refine j_iload dX7_leaf_74 rfl ?_
      refine cl_X7_97 (As := [_]) rfl dX7_leaf_76 (c_X7_columnOf hs64) rfl ⟨by decide, by decide⟩ (Nat.le_of_ble_eq_true rfl) ⟨Nat.zero_le _, Nat.zero_le _⟩ (fun z76 σ76 hz76 => ?_)
      obtain ⟨hr76, hs76⟩ := hz76
      have hr76 := Eq.symm hr76
      have hs76 := Eq.symm hs76
      subst hr76
      subst hs76
      exact j_iret dX7_leaf_79 ⟨_, rfl, by unfold lfX; rw [onLeaf_y est hgz]; rfl, RS.of h.rq hO hP hA hn4 htn hch⟩
    rcases Classical.em (v = 2) with hs29 | hs29_2
    · skip
      subst hs29
      refine j_tsIn (tgt := 80) dX7_leaf_29 ⟨by omega, by omega⟩ (by omega) (by omega) rfl (by decide) ?_
      refine j_iload dX7_leaf_80 rfl ?_
      exact j_iret dX7_leaf_82 ⟨_, rfl, by unfold lfX; rw [onLeaf_y est hgz]; rfl, RS.of h.rq hO hP hA hn4 htn hch⟩
    rcases Classical.em (v = 3) with hs29 | hs29_3
    · skip
      subst hs29
      refine j_tsIn (tgt := 83) dX7_leaf_29 ⟨by omega, by omega⟩ (by omega) (by omega) rfl (by decide) ?_
      refine j_aload_n dX7_leaf_83 rfl ?_
      refine j_iload_n dX7_leaf_84 rfl ?_
      refine j_iload dX7_leaf_85 rfl ?_
      refine j_iload dX7_leaf_87 rfl ?_
      have hK3 := c_X7_rank (l := l) (t := t.toNat) (s := s) (z := z) h hO hWS (by omega) hok
      rw [Int.toNat_of_nonneg (a := t) (by omega)] at hK3
      refine cl_X7_106 (As := [_, _, _]) rfl dX7_leaf_89 (hK3) h.1 rfl ⟨by decide, by decide⟩ (Nat.le_of_ble_eq_true rfl) ⟨Nat.zero_le _, Nat.zero_le _⟩ (fun z89 σ89 hz89 => ?_)
      obtain ⟨hr, de1, W1, w1⟩ := hz89
      have hrl := rk_le (p := S.1) (F := S.2.1 t.toNat) (s := s) (z := z)
      exact j_iret dX7_leaf_92 ⟨_, rfl, by unfold lfX; rw [onLeaf_y est hgz]; exact hr, RS.of w1 hO hP hA hn4 htn hch⟩
    rcases Classical.em (v = 4) with hs29 | hs29_4
    · skip
      subst hs29
      refine j_tsIn (tgt := 93) dX7_leaf_29 ⟨by omega, by omega⟩ (by omega) (by omega) rfl (by decide) ?_
      refine j_aload_n dX7_leaf_93 rfl ?_
      refine j_iload_n dX7_leaf_94 rfl ?_
      refine j_iload dX7_leaf_95 rfl ?_
      refine j_iload dX7_leaf_97 rfl ?_
      have hK3 := c_X7_costOf (l := l) (t := t.toNat) (s := s) (z := z) h hO hWS (by omega) hok hz1
      rw [Int.toNat_of_nonneg (a := t) (by omega)] at hK3
      refine cl_X7_109 (As := [_, _, _]) rfl dX7_leaf_99 (hK3) h.1 rfl ⟨by decide, by decide⟩ (Nat.le_of_ble_eq_true rfl) ⟨Nat.zero_le _, Nat.zero_le _⟩ (fun z99 σ99 hz99 => ?_)
      obtain ⟨hr, de1, W1, w1⟩ := hz99
      have hrl := rk_le (p := S.1) (F := S.2.1 t.toNat) (s := s) (z := z)
      exact j_iret dX7_leaf_102 ⟨_, rfl, by unfold lfX; rw [onLeaf_y est hgz]; exact hr, RS.of w1 hO hP hA hn4 htn hch⟩
    rcases Classical.em (v = 5) with hs29 | hs29_5
    · skip
      subst hs29
      refine j_tsIn (tgt := 103) dX7_leaf_29 ⟨by omega, by omega⟩ (by omega) (by omega) rfl (by decide) ?_
      refine j_iconst dX7_leaf_103 ?_
      refine j_aload_n dX7_leaf_104 rfl ?_
      refine j_iload_n dX7_leaf_105 rfl ?_
      refine j_iload dX7_leaf_106 rfl ?_
      refine j_iload dX7_leaf_108 rfl ?_
      have hK3 := c_X7_rank (l := l) (t := t.toNat) (s := s) (z := z) h hO hWS (by omega) hok
      rw [Int.toNat_of_nonneg (a := t) (by omega)] at hK3
      refine cl_X7_106 (As := [_, _, _]) rfl dX7_leaf_110 (hK3) h.1 rfl ⟨by decide, by decide⟩ (Nat.le_of_ble_eq_true rfl) ⟨Nat.zero_le _, Nat.zero_le _⟩ (fun z110 σ110 hz110 => ?_)
      obtain ⟨hr, de1, W1, w1⟩ := hz110
      have hrl := rk_le (p := S.1) (F := S.2.1 t.toNat) (s := s) (z := z)
      have hr := Eq.symm hr
      subst hr
      refine j_imul dX7_leaf_113 ?_
      refine j_iload dX7_leaf_114 rfl ?_
      refine j_icmp_ge (tgt := 123) dX7_leaf_116 (by decide) ⟨by omega, by omega⟩ ⟨by omega, by omega⟩ (fun h116 => ?_) (fun h116 => ?_)
      · skip
        have hlt : ¬ 2 * (z : Int) * ((rk S.1 (S.2.1 t.toNat) s z : Nat) : Int) < (z : Int) * z := by
          rw [show 2 * (z : Int) * ((rk S.1 (S.2.1 t.toNat) s z : Nat) : Int) = (z : Int) * (2 * ((rk S.1 (S.2.1 t.toNat) s z : Nat) : Int)) by rw [Int.mul_assoc, Int.mul_left_comm]]
          have := Int.mul_le_mul_of_nonneg_left (show (z : Int) ≤ 2 * ((rk S.1 (S.2.1 t.toNat) s z : Nat) : Int) by omega) (show 0 ≤ (z : Int) by omega)
          omega
        refine j_iconst dX7_leaf_123 ?_
        exact j_iret dX7_leaf_124 ⟨_, rfl, by unfold lfX; rw [onLeaf_y est hgz]; show 0 = (if _ then (1 : Int) else 0); rw [if_neg hlt], RS.of w1 hO hP hA hn4 htn hch⟩
      · skip
        have hlt : 2 * (z : Int) * ((rk S.1 (S.2.1 t.toNat) s z : Nat) : Int) < (z : Int) * z := by
          rw [show 2 * (z : Int) * ((rk S.1 (S.2.1 t.toNat) s z : Nat) : Int) = (z : Int) * (2 * ((rk S.1 (S.2.1 t.toNat) s z : Nat) : Int)) by rw [Int.mul_assoc, Int.mul_left_comm]]
          exact Int.mul_lt_mul_of_pos_left (by omega) (by omega)
        refine j_iconst dX7_leaf_119 ?_
        refine j_goto (tgt := 124) dX7_leaf_120 (by decide) ?_
        exact j_iret dX7_leaf_124 ⟨_, rfl, by unfold lfX; rw [onLeaf_y est hgz]; show 1 = (if _ then (1 : Int) else 0); rw [if_pos hlt], RS.of w1 hO hP hA hn4 htn hch⟩
    refine j_tsOut (tgt := 125) dX7_leaf_29 hv (by omega) (by decide) ?_
    refine j_bipush dX7_leaf_125 (by decide) ?_
    exact j_iret dX7_leaf_127 ⟨_, rfl, by unfold lfX; rw [onLeaf_y est hgz]; rw [if_neg (by omega), if_neg (by omega), if_neg (by omega), if_neg (by omega), if_neg (by omega), if_neg (by omega)], RS.of h.rq hO hP hA hn4 htn hch⟩
  · skip
    have a6 := nz1 q6
    refine j_iconst dX7_leaf_9 ?_
    exact j_iret dX7_leaf_10 ⟨_, rfl, by unfold lfX; exact (onLeaf_n a6).symm, RS.of h.rq hO hP hA hn4 htn hch⟩
set_option maxRecDepth 100000 in
set_option maxHeartbeats 4000000 in
theorem c_X7_times {l : Launch} {D : gD} {σ : Wd} {m n tn : Nat} {hs : Int} {S SN : MS} {H : Nat → MS} {ch : Nat → Int} {t k : Int} (h0 : RS D σ m S SN hs n H tn ch) (hWS : WS S) (ht : R32 t) (hk : R32 k) : KX7_times l D [.ref m, vi t, vi k] σ (fun x σ' => x = tmX S tn ch t k ∧ OffR m (m + 10) σ σ' ∧ RS D σ' m S SN hs n H tn ch) := by
  obtain ⟨pl, de, R, P, A, rv, W, mk, ls, sp, h, hO, hP, hA, hn4, htn, hch⟩ := h0
  have hlo := primeB_lo hWS.1
  have hg := fun t ht => (hWS.2 t ht).2
  have hF := fun t ht => (hWS.2 t ht).1
  refine sp_of (by decide +kernel) (cat1 rfl) (Nat.le_of_ble_eq_true rfl) [some (.ref m), some (vi t), some (vi k), none, none, none] rfl (fun sz => ?_)
  refine j_aload_n dX7_times_0 rfl ?_
  refine j_iload_n dX7_times_1 rfl ?_
  refine j_iload_n dX7_times_2 rfl ?_
  refine cl_X7_180 (As := [_, _]) rfl dX7_times_3 (c_X7_against h hch htn hO hWS.1 ht hk) h.1 rfl ⟨by decide, by decide⟩ (Nat.le_of_ble_eq_true rfl) ⟨Nat.zero_le _, Nat.zero_le _⟩ (fun z3 σ3 hz3 => ?_)
  obtain ⟨p1, rv1, hr3, w1, hag⟩ := hz3
  have hr3 := Eq.symm hr3
  subst hr3
  have hrneg := rfs_neg (ch := ch) (n := tn) (p := S.1) (t := t) (k := k)
  refine j_istore_n dX7_times_6 (by decide) (by dsimp only [List.set] <;> rfl) ?_
  refine j_iload_n dX7_times_7 rfl ?_
  refine j_if_ge (tgt := 13) dX7_times_8 (by decide) rfs_R (fun h8 => ?_) (fun h8 => ?_)
  · skip
    have hz0 : rfs ch tn S.1 t k = 0 := by omega
    obtain ⟨htt, hkk, hrr, hmm⟩ := rfs_ok hz0
    have hall := ((mxF_le (f := (rd ch tn 8 8).2.2) (b := S.1) (by omega) 8).mp hmm).2
    have hrdB := fun j => rd_B (ch := ch) (n := tn) (z := 8) 8 j
    have hag := hag hz0
    have hFt := hF t.toNat (by omega)
    refine j_iconst dX7_times_13 ?_
    refine j_istore dX7_times_14 (by decide) (by dsimp only [List.set] <;> rfl) ?_
    refine j_iconst dX7_times_16 ?_
    refine j_istore dX7_times_17 (by decide) (by dsimp only [List.set] <;> rfl) ?_
    have lp19 : ∀ (nn c : Nat) (x : Int), 9 - c < nn → c ≤ 8 → x = sumF (fun c => S.2.1 t.toNat (8 * k.toNat + c) * (rd ch tn 8 8).2.2 c) c → J l D yX7_times cX7_times 6 (some .int) rmX7_times sz (AA σ sz) (QI D σ sz (fun x σ' => x = tmX S tn ch t k ∧ OffR m (m + 10) σ σ' ∧ RS D σ' m S SN hs n H tn ch)) 0 0 19 [some (.ref m), some (vi t), some (vi k), some (vi (rfs ch tn S.1 t k)), some (vi x), some (vi c)] [] σ3 := by
      intro nn
      induction nn with
      | zero =>
        intro c x hnn hc hx
        exfalso
        omega
      | succ nn ih19 =>
        intro c x hnn hc hx
        have hxR := sumF_R (f := fun c => S.2.1 t.toNat (8 * k.toNat + c) * (rd ch tn 8 8).2.2 c) (b := 251 * 999) (n := c) (fun j hj => by
          have b1 := hFt (8 * k.toNat + j) (by omega)
          have b2 := hrdB j
          exact mul_R b1.1 (by omega) b2.1 (by omega) (by omega))
        rw [← hx] at hxR
        refine j_iload dX7_times_19 rfl ?_
        refine j_bipush dX7_times_21 (by decide) ?_
        refine j_icmp_ge (tgt := 53) dX7_times_23 (by decide) ⟨by omega, by omega⟩ ⟨by omega, by omega⟩ (fun h23 => ?_) (fun h23 => ?_)
        · skip
          refine j_aload_n dX7_times_53 rfl ?_
          refine j_iload dX7_times_54 rfl ?_
          refine cl_X7_54 (As := [_]) rfl dX7_times_56 (c_X7_mod w1.2 hO.1 (by omega) (by omega) ⟨by omega, by omega⟩) w1.2.1 rfl ⟨by decide, by decide⟩ (Nat.le_of_ble_eq_true rfl) ⟨Nat.zero_le _, Nat.zero_le _⟩ (fun z56 σ56 hz56 => ?_)
          obtain ⟨hr56, hs56⟩ := hz56
          have hr56 := Eq.symm hr56
          have hs56 := Eq.symm hs56
          subst hr56
          subst hs56
          exact j_iret dX7_times_59 ⟨_, rfl, by unfold tmX; rw [if_neg (fun q => q hz0), hx, show c = 8 by omega], RS.of w1 hO hP hA hn4 htn hch⟩
        · skip
          refine j_iload dX7_times_26 rfl ?_
          refine j_aload_n dX7_times_28 rfl ?_
          refine j_iload_n dX7_times_29 rfl ?_
          refine j_iload_n dX7_times_30 rfl ?_
          refine j_iload dX7_times_31 rfl ?_
          have hK := c_X7_cellOf (l := l) (t := t.toNat) (r := k.toNat) (c := c) w1.2 hO (by omega) (by omega) (by omega)
          rw [Int.toNat_of_nonneg (a := t) (by omega)] at hK
          rw [Int.toNat_of_nonneg (a := k) (by omega)] at hK
          refine cl_X7_139 (As := [_, _, _]) rfl dX7_times_33 (hK) w1.2.1 rfl ⟨by decide, by decide⟩ (Nat.le_of_ble_eq_true rfl) ⟨Nat.zero_le _, Nat.zero_le _⟩ (fun z33 σ33 hz33 => ?_)
          obtain ⟨hr33, hs33⟩ := hz33
          have hr33 := Eq.symm hr33
          have hs33 := Eq.symm hs33
          subst hr33
          subst hs33
          refine j_aload_n dX7_times_36 rfl ?_
          refine gf_X7_23 rfl dX7_times_37 w1.2.1 rfl ?_
          refine j_iload dX7_times_40 rfl ?_
          refine jj_iald dX7_times_42 w1.2.2.2.2.2.2.1 (by omega) (by omega) ⟨by omega, by omega⟩ ?_
          refine j_tops (show _ = (rd ch tn 8 8).2.2 c from hag c (by omega)) ?_
          refine j_imul dX7_times_43 ?_
          refine j_iadd dX7_times_44 ?_
          refine j_istore dX7_times_45 (by decide) (by dsimp only [List.set] <;> rfl) ?_
          refine j_iinc dX7_times_47 rfl (by decide) (by dsimp only [List.set] <;> rfl) ?_
          refine j_goto (tgt := 19) dX7_times_50 (by decide) ?_
          have hih := ih19 (c + 1) (x + S.2.1 t.toNat (8 * k.toNat + c) * (rd ch tn 8 8).2.2 c) (by omega) (by omega) (by rw [hx]; rfl)
          refine j_weak ?_ hih
          exact ⟨rfl, rfl, rfl, rfl, rfl, rfl, trivial⟩
    exact lp19 10 0 0 (by omega) (by omega) rfl
  · skip
    refine j_iload_n dX7_times_11 rfl ?_
    exact j_iret dX7_times_12 ⟨_, rfl, by unfold tmX; rw [if_pos (by omega)], RS.of w1 hO hP hA hn4 htn hch⟩
set_option maxRecDepth 100000 in
set_option maxHeartbeats 4000000 in
theorem c_X7_solve {l : Launch} {D : gD} {σ : Wd} {m n tn : Nat} {hs : Int} {S SN : MS} {H : Nat → MS} {ch : Nat → Int} {t k : Int} (h0 : RS D σ m S SN hs n H tn ch) (hWS : WS S) (ht : R32 t) (hk : R32 k) : KX7_solve l D [.ref m, vi t, vi k] σ (fun x σ' => x = svX S tn ch t k ∧ OffR m (m + 10) σ σ' ∧ RS D σ' m S SN hs n H tn ch) := by
  obtain ⟨pl, de, R, P, A, rv, W, mk, ls, sp, h, hO, hP, hA, hn4, htn, hch⟩ := h0
  have hlo := primeB_lo hWS.1
  have hg := fun t ht => (hWS.2 t ht).2
  have hF := fun t ht => (hWS.2 t ht).1
  have hok : okBlk 0 8 := okBlk_of (k := 3) (by omega) (by omega) rfl
  refine sp_of (by decide +kernel) (cat1 rfl) (Nat.le_of_ble_eq_true rfl) [some (.ref m), some (vi t), some (vi k), none, none] rfl (fun sz => ?_)
  refine j_aload_n dX7_solve_0 rfl ?_
  refine j_iload_n dX7_solve_1 rfl ?_
  refine j_iload_n dX7_solve_2 rfl ?_
  refine cl_X7_180 (As := [_, _]) rfl dX7_solve_3 (c_X7_against h hch htn hO hWS.1 ht hk) h.1 rfl ⟨by decide, by decide⟩ (Nat.le_of_ble_eq_true rfl) ⟨Nat.zero_le _, Nat.zero_le _⟩ (fun z3 σ3 hz3 => ?_)
  obtain ⟨p1, rv1, hr3, w1, hag⟩ := hz3
  have hr3 := Eq.symm hr3
  subst hr3
  have hrneg := rfs_neg (ch := ch) (n := tn) (p := S.1) (t := t) (k := k)
  refine j_istore_n dX7_solve_6 (by decide) (by dsimp only [List.set] <;> rfl) ?_
  refine j_iload_n dX7_solve_7 rfl ?_
  refine j_if_ge (tgt := 13) dX7_solve_8 (by decide) rfs_R (fun h8 => ?_) (fun h8 => ?_)
  · skip
    have hz0 : rfs ch tn S.1 t k = 0 := by omega
    obtain ⟨htt, hkk, hrr, hmm⟩ := rfs_ok hz0
    have hall := ((mxF_le (f := (rd ch tn 8 8).2.2) (b := S.1) (by omega) 8).mp hmm).2
    have hrdB := fun j => rd_B (ch := ch) (n := tn) (z := 8) 8 j
    have hag := hag hz0
    have hFt := hF t.toNat (by omega)
    refine j_aload_n dX7_solve_13 rfl ?_
    refine j_iload_n dX7_solve_14 rfl ?_
    refine j_iconst dX7_solve_15 ?_
    refine j_iconst dX7_solve_16 ?_
    refine j_bipush dX7_solve_17 (by decide) ?_
    have hK := c_X7_layBlock (l := l) (t := t.toNat) (r := 0) (c := 0) (z := 8) w1.2 hO (by omega) (by omega) (by omega) (by omega)
    rw [Int.toNat_of_nonneg (a := t) (by omega)] at hK
    refine cl_X7_100 (As := [_, _, _, _]) rfl dX7_solve_19 (hK) w1.2.1 rfl ⟨by decide, by decide⟩ (Nat.le_of_ble_eq_true rfl) ⟨Nat.zero_le _, Nat.zero_le _⟩ (fun σ19 hz19 => ?_)
    have w2 := w1.tr hz19
    have hVW := layF_VW (F := S.2.1 t.toNat) (s := 0) (z := 8) (W := W) (by omega)
    refine j_iconst dX7_solve_22 ?_
    refine j_istore dX7_solve_23 (by decide) (by dsimp only [List.set] <;> rfl) ?_
    have hMB : MB S.1 8 (svM (S.2.1 t.toNat) (rd ch tn 8 8).2.2) := fun i2 hi2 j hj => by
      unfold svM
      by_cases q : j = 8
      · rw [if_pos q]
        exact ⟨(hrdB i2).1, hall i2 hi2⟩
      · rw [if_neg q]
        have := ldM_B (p := S.1) (by omega) hFt hok i2 hi2 j hj
        unfold ldM at this
        rw [if_pos (by omega)] at this
        exact this
    have lp25 : ∀ (nn i : Nat) (w : Wd) (W1 : Nat → Int), 9 - i < nn → i ≤ 8 → RQ D σ w m n hs tn p1 de R P A ch rv1 W1 mk ls sp → (∀ i2, i2 < 8 → ∀ j, j < 9 → W1 (9 * i2 + j) = if j = 8 ∧ i ≤ i2 then W1 (9 * i2 + j) else (svM (S.2.1 t.toNat) (rd ch tn 8 8).2.2) i2 j) → J l D yX7_solve cX7_solve 5 (some .int) rmX7_solve sz (AA σ sz) (QI D σ sz (fun x σ' => x = svX S tn ch t k ∧ OffR m (m + 10) σ σ' ∧ RS D σ' m S SN hs n H tn ch)) 0 0 25 [some (.ref m), some (vi t), some (vi k), some (vi (rfs ch tn S.1 t k)), some (vi i)] [] w := by
      intro nn
      induction nn with
      | zero =>
        intro i w W1 hnn hi hw hVi
        exfalso
        omega
      | succ nn ih25 =>
        intro i w W1 hnn hi hw hVi
        refine j_iload dX7_solve_25 rfl ?_
        refine j_bipush dX7_solve_27 (by decide) ?_
        refine j_icmp_ge (tgt := 58) dX7_solve_29 (by decide) ⟨by omega, by omega⟩ ⟨by omega, by omega⟩ (fun h29 => ?_) (fun h29 => ?_)
        · skip
          refine j_aload_n dX7_solve_58 rfl ?_
          refine j_bipush dX7_solve_59 (by decide) ?_
          refine j_bipush dX7_solve_61 (by decide) ?_
          refine cl_X7_103 (As := [_, _]) rfl dX7_solve_63 (c_X7_reduce (z := 8) (cols := 9) (mx := (svM (S.2.1 t.toNat) (rd ch tn 8 8).2.2)) hw.2 hO.1 hWS.1 (by omega) (by omega) (by omega) hMB (fun i2 hi2 j hj => (hVi i2 hi2 j hj).trans (if_neg (by omega)))) hw.2.1 rfl ⟨by decide, by decide⟩ (Nat.le_of_ble_eq_true rfl) ⟨Nat.zero_le _, Nat.zero_le _⟩ (fun z63 σ63 hz63 => ?_)
          obtain ⟨hr63, de2, W2, w3, hV3, -⟩ := hz63
          have w3 := hw.tr w3
          have hr63 := Eq.symm hr63
          subst hr63
          have hgle : (gj S.1 8 (svM (S.2.1 t.toNat) (rd ch tn 8 8).2.2) 8).1 ≤ 8 := (gj_cong (p := S.1) (z := 8) (m := (svM (S.2.1 t.toNat) (rd ch tn 8 8).2.2)) (m' := (svM (S.2.1 t.toNat) (rd ch tn 8 8).2.2)) (fun _ _ _ _ => rfl) 8 (Nat.le_refl _)).2.2.1
          refine j_bipush dX7_solve_66 (by decide) ?_
          refine j_icmp_ge (tgt := 76) dX7_solve_68 (by decide) (rs (by omega) (by omega)) ⟨by omega, by omega⟩ (fun h68 => ?_) (fun h68 => ?_)
          · skip
            refine j_aload_n dX7_solve_76 rfl ?_
            refine gf_X7_26 rfl dX7_solve_77 w3.2.1 rfl ?_
            refine j_bipush dX7_solve_80 (by decide) ?_
            refine j_iload_n dX7_solve_82 rfl ?_
            refine j_imul dX7_solve_83 ?_
            refine j_bipush dX7_solve_84 (by decide) ?_
            refine j_iadd dX7_solve_86 ?_
            rw [show (9 : Int) * k + 8 = ((9 * k.toNat + 8 : Nat) : Int) by omega]
            refine jj_iald dX7_solve_87 w3.2.2.2.2.2.2.2.1 (by omega) (by omega) ⟨by omega, by omega⟩ ?_
            refine j_tops (show _ = (gj S.1 8 (svM (S.2.1 t.toNat) (rd ch tn 8 8).2.2) 8).2.2 k.toNat 8 from hV3 k.toNat (by omega) 8 (by omega)) ?_
            exact j_iret dX7_solve_88 ⟨_, rfl, by unfold svX; rw [if_neg (fun q => q hz0), if_pos (by omega)], RS.of w3 hO hP hA hn4 htn hch⟩
          · skip
            refine j_bipush dX7_solve_71 (by decide) ?_
            refine j_goto (tgt := 88) dX7_solve_73 (by decide) ?_
            exact j_iret dX7_solve_88 ⟨_, rfl, by unfold svX; rw [if_neg (fun q => q hz0), if_neg (by omega)], RS.of w3 hO hP hA hn4 htn hch⟩
        · skip
          refine j_aload_n dX7_solve_32 rfl ?_
          refine gf_X7_26 rfl dX7_solve_33 hw.2.1 rfl ?_
          refine j_bipush dX7_solve_36 (by decide) ?_
          refine j_iload dX7_solve_38 rfl ?_
          refine j_imul dX7_solve_40 ?_
          refine j_bipush dX7_solve_41 (by decide) ?_
          refine j_iadd dX7_solve_43 ?_
          rw [show (9 : Int) * (i : Int) + 8 = ((9 * i + 8 : Nat) : Int) by omega]
          refine j_aload_n dX7_solve_44 rfl ?_
          refine gf_X7_23 rfl dX7_solve_45 hw.2.1 rfl ?_
          refine j_iload dX7_solve_48 rfl ?_
          refine jj_iald dX7_solve_50 hw.2.2.2.2.2.2.1 (by omega) (by omega) ⟨by omega, by omega⟩ ?_
          refine j_tops (show _ = (rd ch tn 8 8).2.2 i from hag i (by omega)) ?_
          refine jj_iast dX7_solve_51 hw.2.2.2.2.2.2.2.1 (by omega) (by omega) ⟨by omega, by omega⟩ (fun e51 q51 => ?_)
          have hw2 := hw.work q51
          refine j_iinc dX7_solve_52 rfl (by decide) (by dsimp only [List.set] <;> rfl) ?_
          refine j_goto (tgt := 25) dX7_solve_55 (by decide) ?_
          have hih := ih25 (i + 1) _ _ (by omega) (by omega) hw2 (fun i2 hi2 j hj => by
            show fup W1 (9 * i + 8) _ (9 * i2 + j) = if j = 8 ∧ i + 1 ≤ i2 then fup W1 (9 * i + 8) _ (9 * i2 + j) else _
            rw [fup9 (by omega) (by omega)]
            by_cases q : j = 8 ∧ i + 1 ≤ i2
            · rw [if_pos q]
            · rw [if_neg q]
              by_cases b : i2 = i ∧ j = 8
              · rw [if_pos b, b.1, b.2]
                unfold svM
                rw [if_pos rfl]
              · rw [if_neg b, hVi i2 hi2 j hj, if_neg (by omega)])
          refine j_weak ?_ hih
          exact ⟨rfl, rfl, rfl, rfl, rfl, trivial⟩
    exact lp25 10 0 _ _ (by omega) (by omega) w2 (fun i2 hi2 j hj => by
      by_cases q : j = 8
      · rw [if_pos (by omega)]
      · rw [if_neg (by omega)]
        have e := hVW i2 hi2 j (by omega)
        refine e.trans ?_
        unfold ldM svM
        rw [if_pos (by omega), if_neg q])
  · skip
    refine j_iload_n dX7_solve_11 rfl ?_
    exact j_iret dX7_solve_12 ⟨_, rfl, by unfold svX; rw [if_pos (by omega)], RS.of w1 hO hP hA hn4 htn hch⟩
set_option maxRecDepth 100000 in
set_option maxHeartbeats 4000000 in
theorem c_X7_count {l : Launch} {D : gD} {σ : Wd} {m n tn : Nat} {hs : Int} {S SN : MS} {H : Nat → MS} {ch : Nat → Int} {v : Int} (h0 : RS D σ m S SN hs n H tn ch) (hWS : WS S) (hv : R32 v) : KX7_count l D [.ref m, vi v] σ (fun x σ' => x = (if v = 0 then S.1 else if v = 1 then sumF (fun t => sumF (cst S.1 (S.2.1 t) (S.2.2 t)) 64) 4 else if v = 2 then sumF (fun t => cntP (S.2.2 t) 64) 4 else if v = 3 then (n : Int) else if v = 4 then (tn : Int) else -2) ∧ OffR m (m + 10) σ σ' ∧ RS D σ' m S SN hs n H tn ch) := by
  obtain ⟨pl, de, R, P, A, rv, W, mk, ls, sp, h, hO, hP, hA, hn4, htn, hch⟩ := h0
  have hlo := primeB_lo hWS.1
  have hg := fun t ht => (hWS.2 t ht).2
  have hF := fun t ht => (hWS.2 t ht).1
  refine sp_of (by decide +kernel) (cat1 rfl) (Nat.le_of_ble_eq_true rfl) [some (.ref m), some (vi v)] rfl (fun sz => ?_)
  refine j_iload_n dX7_count_0 rfl ?_
  rcases Classical.em (v = 0) with hs1 | hs1_0
  · skip
    subst hs1
    refine j_tsIn (tgt := 36) dX7_count_1 ⟨by omega, by omega⟩ (by omega) (by omega) rfl (by decide) ?_
    refine j_aload_n dX7_count_36 rfl ?_
    refine gf_X7_7 rfl dX7_count_37 h.1 rfl ?_
    refine j_iconst dX7_count_40 ?_
    refine jj_iald dX7_count_41 h.2.1 (by omega) (by omega) ⟨by omega, by omega⟩ ?_
    refine j_tops (show _ = S.1 from hO.1) ?_
    exact j_iret dX7_count_42 ⟨_, rfl, by rw [if_pos rfl], RS.of h.rq hO hP hA hn4 htn hch⟩
  rcases Classical.em (v = 1) with hs1 | hs1_1
  · skip
    subst hs1
    refine j_tsIn (tgt := 43) dX7_count_1 ⟨by omega, by omega⟩ (by omega) (by omega) rfl (by decide) ?_
    refine j_aload_n dX7_count_43 rfl ?_
    refine j_iconst dX7_count_44 ?_
    refine cl_X7_183 (As := [_]) rfl dX7_count_45 (c_X7_overTables (b := 1) h hO hWS (Or.inr rfl)) h.1 rfl ⟨by decide, by decide⟩ (Nat.le_of_ble_eq_true rfl) ⟨Nat.zero_le _, Nat.zero_le _⟩ (fun z45 σ45 hz45 => ?_)
    obtain ⟨hr, de1, W1, w1⟩ := hz45
    exact j_iret dX7_count_48 ⟨_, rfl, by rw [if_neg (by decide), if_pos rfl, hr, if_pos rfl], RS.of w1 hO hP hA hn4 htn hch⟩
  rcases Classical.em (v = 2) with hs1 | hs1_2
  · skip
    subst hs1
    refine j_tsIn (tgt := 49) dX7_count_1 ⟨by omega, by omega⟩ (by omega) (by omega) rfl (by decide) ?_
    refine j_aload_n dX7_count_49 rfl ?_
    refine j_iconst dX7_count_50 ?_
    refine cl_X7_183 (As := [_]) rfl dX7_count_51 (c_X7_overTables (b := 0) h hO hWS (Or.inl rfl)) h.1 rfl ⟨by decide, by decide⟩ (Nat.le_of_ble_eq_true rfl) ⟨Nat.zero_le _, Nat.zero_le _⟩ (fun z51 σ51 hz51 => ?_)
    obtain ⟨hr, de1, W1, w1⟩ := hz51
    exact j_iret dX7_count_54 ⟨_, rfl, by rw [if_neg (by decide), if_neg (by decide), if_pos rfl, hr, if_neg (by decide)], RS.of w1 hO hP hA hn4 htn hch⟩
  rcases Classical.em (v = 3) with hs1 | hs1_3
  · skip
    subst hs1
    refine j_tsIn (tgt := 55) dX7_count_1 ⟨by omega, by omega⟩ (by omega) (by omega) rfl (by decide) ?_
    refine j_aload_n dX7_count_55 rfl ?_
    refine gf_X7_39 rfl dX7_count_56 h.1 rfl ?_
    exact j_iret dX7_count_59 ⟨_, rfl, by rw [if_neg (by decide), if_neg (by decide), if_neg (by decide), if_pos rfl], RS.of h.rq hO hP hA hn4 htn hch⟩
  rcases Classical.em (v = 4) with hs1 | hs1_4
  · skip
    subst hs1
    refine j_tsIn (tgt := 60) dX7_count_1 ⟨by omega, by omega⟩ (by omega) (by omega) rfl (by decide) ?_
    refine j_aload_n dX7_count_60 rfl ?_
    refine gf_X7_112 rfl dX7_count_61 h.1 rfl ?_
    exact j_iret dX7_count_64 ⟨_, rfl, by rw [if_neg (by decide), if_neg (by decide), if_neg (by decide), if_neg (by decide), if_pos rfl], RS.of h.rq hO hP hA hn4 htn hch⟩
  refine j_tsOut (tgt := 65) dX7_count_1 hv (by omega) (by decide) ?_
  refine j_bipush dX7_count_65 (by decide) ?_
  exact j_iret dX7_count_67 ⟨_, rfl, by rw [if_neg (by omega), if_neg (by omega), if_neg (by omega), if_neg (by omega), if_neg (by omega)], RS.of h.rq hO hP hA hn4 htn hch⟩

/-! ===== the reference: texts into numbers; leaves ===== -/
theorem rdF_y {ch : Nat → Int} {n z W : Nat} (h : (rd ch n z W).1 = true) (h2 : n ≤ (rd ch n z W).2.1) : rdF ch n z W = -1 := if_pos ⟨h, h2⟩
theorem rdF_n {ch : Nat → Int} {n z W : Nat} (h : ¬ ((rd ch n z W).1 = true ∧ n ≤ (rd ch n z W).2.1)) : rdF ch n z W = ((rd ch n z W).2.1 : Int) ∧ rdF ch n z W ≠ -1 := by
  have e : rdF ch n z W = ((rd ch n z W).2.1 : Int) := if_neg h
  exact ⟨e, by omega⟩
theorem nodF_lt {w z : Nat} (hw : w < 64) : nodF w z < 21 := by
  unfold nodF
  split
  · omega
  · split <;> omega
theorem rd_stay2 {ch : Nat → Int} {n z i : Nat} (h : ¬ (rd ch n z i).1 = true) (k : Nat) : rd ch n z (i + k) = rd ch n z i := by
  have e : rd ch n z i = (false, (rd ch n z i).2.1, (rd ch n z i).2.2) := by
    have : (rd ch n z i).1 = false := by simpa using h
    rw [← this]
  rw [rd_stay e k]
  exact e.symm

set_option maxRecDepth 100000 in
set_option maxHeartbeats 4000000 in
theorem c_X7_readTwo {l : Launch} {D : gD} {σ : Wd} {m n tn pl : Nat} {hs de : Int} {R P A ch rv W mk ls sp : Nat → Int} {z : Nat} (h : RM D σ m n hs tn pl de R P A ch rv W mk ls sp) (hch : ∀ j, j < tn → 0 ≤ ch j ∧ ch j < 65536) (htn : tn ≤ 60) (hz1 : 1 ≤ z) (hz8 : z ≤ 8) : KX7_readTwo l D [.ref m, vi z] σ (fun x σ' => ∃ pl' rv', x = (if rdF ch tn z (2 * z) = -1 then 1 else 0) ∧ RQ D σ σ' m n hs tn pl' de R P A ch rv' W mk ls sp ∧ pl' ≤ tn ∧ (rdF ch tn z (2 * z) ≠ -1 → (pl' : Int) = rdF ch tn z (2 * z)) ∧ (rdF ch tn z (2 * z) = -1 → ∀ j, j < 2 * z → rv' j = (rd ch tn z (2 * z)).2.2 j)) := by
  obtain ⟨s1, s2, s3⟩ := link1 (ch := ch) (n := tn) (z := z) (f := rv) z (Nat.le_refl _)
  refine sp_of (by decide +kernel) (cat1 rfl) (Nat.le_of_ble_eq_true rfl) [some (.ref m), some (vi z)] rfl (fun sz => ?_)
  refine j_aload_n dX7_readTwo_0 rfl ?_
  refine j_iconst dX7_readTwo_1 ?_
  refine pf_X7_115 rfl dX7_readTwo_2 h.1 rfl rfl (Nat.le_of_ble_eq_true rfl) ?_
  dsimp only [List.set]
  have hq0 := h.rq.own (n2 := n) (hs2 := hs) (tn2 := tn) (pl2 := 0) (de2 := de)
  refine j_aload_n dX7_readTwo_5 rfl ?_
  refine j_iconst dX7_readTwo_6 ?_
  refine j_iload_n dX7_readTwo_7 rfl ?_
  refine cl_X7_124 (As := [_, _]) rfl dX7_readTwo_8 (c_X7_readRow (fr := 0) (many := z) hq0.2 hch htn (by omega) (by omega)) hq0.2.1 rfl ⟨by decide, by decide⟩ (Nat.le_of_ble_eq_true rfl) ⟨Nat.zero_le _, Nat.zero_le _⟩ (fun z8 σ8 hz8 => ?_)
  obtain ⟨hr8, hq8, hle8⟩ := hz8
  have hq8 := hq0.tr hq8
  have hr8 := Eq.symm hr8
  subst hr8
  generalize hW1 : rrw ch tn 0 rv 0 z = W1 at *
  refine j_if_eq (tgt := 47) dX7_readTwo_11 (by decide) R_ite (fun q11 => ?_) (fun q11 => ?_)
  · skip
    have a11 := ne1 q11
    have hbad : ¬ (rd ch tn z z).1 = true := by rw [← s1]; exact a11
    have hst := rd_stay2 hbad z
    rw [show z + z = 2 * z by omega] at hst
    have hF := rdF_n (ch := ch) (n := tn) (z := z) (W := 2 * z) (by rw [hst]; exact fun q => hbad q.1)
    rw [hst, ← s2] at hF
    refine j_iconst dX7_readTwo_47 ?_
    exact j_zret dX7_readTwo_48 (by omega) ⟨_, rfl, W1.2.1, W1.2.2, by rw [if_neg hF.2], hq8, hle8, fun _ => hF.1.symm, fun q => absurd q hF.2⟩
  · skip
    have a11 := nz1 q11
    refine j_aload_n dX7_readTwo_14 rfl ?_
    refine j_bipush dX7_readTwo_15 (by decide) ?_
    refine cl_X7_121 (As := [_]) rfl dX7_readTwo_17 (c_X7_takes (c := 59) hq8.2 hch htn hle8 (by omega) (rs (by omega) (by omega))) hq8.2.1 rfl ⟨by decide, by decide⟩ (Nat.le_of_ble_eq_true rfl) ⟨Nat.zero_le _, Nat.zero_le _⟩ (fun z17 σ17 hz17 => ?_)
    obtain ⟨hr17, hq17, hle17⟩ := hz17
    have hq17 := hq8.tr hq17
    have hr17 := Eq.symm hr17
    subst hr17
    have hok1 : (rd ch tn z z).1 = true := by rw [← s1]; exact a11
    refine j_if_eq (tgt := 47) dX7_readTwo_20 (by decide) R_ite (fun q20 => ?_) (fun q20 => ?_)
    · skip
      have a20 := ne1 q20
      have hst1 : rd ch tn z (z + 1) = (false, (rd ch tn z z).2.1, (rd ch tn z z).2.2) := by rw [rd_s, if_pos hok1, if_neg (by omega), if_neg (by rw [if_pos rfl, ← s2]; exact a20)]
      have hst := rd_stay hst1 (z - 1)
      rw [show z + 1 + (z - 1) = 2 * z by omega] at hst
      have hF := rdF_n (ch := ch) (n := tn) (z := z) (W := 2 * z) (by rw [hst]; exact fun q => by simp at q)
      rw [hst] at hF
      rw [if_neg a20] at hq17 hle17
      refine j_iconst dX7_readTwo_47 ?_
      exact j_zret dX7_readTwo_48 (by omega) ⟨_, rfl, W1.2.1, W1.2.2, by rw [if_neg hF.2], hq17, hle8, fun _ => by rw [hF.1, s2], fun q => absurd q hF.2⟩
    · skip
      have a20 := nz1 q20
      rw [if_pos a20] at hq17 hle17
      have hl2 := link2 (f := W1.2.2) hz1 hok1 (by rw [← s2]; exact a20) (s3 a11) (z - 1)
      rw [show z - 1 + 1 = z by omega, show z + z = 2 * z by omega, ← s2] at hl2
      obtain ⟨u1, u2, u3⟩ := hl2
      refine j_aload_n dX7_readTwo_23 rfl ?_
      refine j_iload_n dX7_readTwo_24 rfl ?_
      refine j_iload_n dX7_readTwo_25 rfl ?_
      refine cl_X7_124 (As := [_, _]) rfl dX7_readTwo_26 (c_X7_readRow (fr := z) (many := z) hq17.2 hch htn hle17 (by omega)) hq17.2.1 rfl ⟨by decide, by decide⟩ (Nat.le_of_ble_eq_true rfl) ⟨Nat.zero_le _, Nat.zero_le _⟩ (fun z26 σ26 hz26 => ?_)
      obtain ⟨hr26, hq26, hle26⟩ := hz26
      have hq26 := hq17.tr hq26
      have hr26 := Eq.symm hr26
      subst hr26
      generalize hW2 : rrw ch tn z W1.2.2 (W1.2.1 + 1) z = W2 at *
      refine j_if_eq (tgt := 47) dX7_readTwo_29 (by decide) R_ite (fun q29 => ?_) (fun q29 => ?_)
      · skip
        have a29 := ne1 q29
        have hF := rdF_n (ch := ch) (n := tn) (z := z) (W := 2 * z) (fun q => a29 (u1.trans q.1))
        rw [← u2] at hF
        refine j_iconst dX7_readTwo_47 ?_
        exact j_zret dX7_readTwo_48 (by omega) ⟨_, rfl, W2.2.1, W2.2.2, by rw [if_neg hF.2], hq26, hle26, fun _ => hF.1.symm, fun q => absurd q hF.2⟩
      · skip
        have a29 := nz1 q29
        refine j_aload_n dX7_readTwo_32 rfl ?_
        refine gf_X7_115 rfl dX7_readTwo_33 hq26.2.1 rfl ?_
        refine j_aload_n dX7_readTwo_36 rfl ?_
        refine gf_X7_112 rfl dX7_readTwo_37 hq26.2.1 rfl ?_
        refine j_icmp_ne (tgt := 47) dX7_readTwo_40 (by decide) ⟨by omega, by omega⟩ ⟨by omega, by omega⟩ (fun h40 => ?_) (fun h40 => ?_)
        · skip
          have hF := rdF_n (ch := ch) (n := tn) (z := z) (W := 2 * z) (fun q => by have := q.2; omega)
          rw [← u2] at hF
          refine j_iconst dX7_readTwo_47 ?_
          exact j_zret dX7_readTwo_48 (by omega) ⟨_, rfl, W2.2.1, W2.2.2, by rw [if_neg hF.2], hq26, hle26, fun _ => hF.1.symm, fun q => absurd q hF.2⟩
        · skip
          have hF := rdF_y (ch := ch) (n := tn) (z := z) (W := 2 * z) (u1.symm.trans a29) (by omega)
          refine j_iconst dX7_readTwo_43 ?_
          refine j_goto (tgt := 48) dX7_readTwo_44 (by decide) ?_
          exact j_zret dX7_readTwo_48 (by omega) ⟨_, rfl, W2.2.1, W2.2.2, by rw [if_pos hF], hq26, hle26, fun q => absurd hF q, fun _ => u3 a29⟩
set_option maxRecDepth 100000 in
set_option maxHeartbeats 4000000 in
theorem c_X7_against {l : Launch} {D : gD} {σ : Wd} {m n tn pl : Nat} {hs de : Int} {R P A ch rv W mk ls sp : Nat → Int} {t k : Int} {S : MS} (h : RM D σ m n hs tn pl de R P A ch rv W mk ls sp) (hch : ∀ j, j < tn → 0 ≤ ch j ∧ ch j < 65536) (htn : tn ≤ 60) (hO : RO R S) (hp : primeB S.1 = true) (ht : R32 t) (hk : R32 k) : KX7_against l D [.ref m, vi t, vi k] σ (fun x σ' => ∃ pl' rv', x = rfs ch tn S.1 t k ∧ RQ D σ σ' m n hs tn pl' de R P A ch rv' W mk ls sp ∧ (x = 0 → ∀ j, j < 8 → rv' j = (rd ch tn 8 8).2.2 j)) := by
  have hlo := primeB_lo hp
  obtain ⟨s1, s2, s3⟩ := link1 (ch := ch) (n := tn) (z := 8) (f := rv) 8 (Nat.le_refl _)
  have hrfs : rfs ch tn S.1 t k = if ¬ (0 ≤ t ∧ t < 4) then -1 else if ¬ (0 ≤ k ∧ k < 8) then -2 else if rdF ch tn 8 8 ≠ -1 then -100 - rdF ch tn 8 8 else if S.1 ≤ mxF (rd ch tn 8 8).2.2 8 then -2 else 0 := rfl
  refine sp_of (by decide +kernel) (cat1 rfl) (Nat.le_of_ble_eq_true rfl) [some (.ref m), some (vi t), some (vi k)] rfl (fun sz => ?_)
  refine j_iload_n dX7_against_0 rfl ?_
  refine cl_X7_62 (As := [_]) rfl dX7_against_1 (c_X7_noTable ht) rfl ⟨by decide, by decide⟩ (Nat.le_of_ble_eq_true rfl) ⟨Nat.zero_le _, Nat.zero_le _⟩ (fun z1 σ1 hz1 => ?_)
  obtain ⟨hr1, hs1⟩ := hz1
  have hr1 := Eq.symm hr1
  have hs1 := Eq.symm hs1
  subst hr1
  subst hs1
  refine j_if_eq (tgt := 9) dX7_against_4 (by decide) R_ite0 (fun q4 => ?_) (fun q4 => ?_)
  · skip
    have aat := nt0 q4
    refine j_iload_n dX7_against_9 rfl ?_
    refine cl_X7_65 (As := [_]) rfl dX7_against_10 (c_X7_noPlace hk) rfl ⟨by decide, by decide⟩ (Nat.le_of_ble_eq_true rfl) ⟨Nat.zero_le _, Nat.zero_le _⟩ (fun z10 σ10 hz10 => ?_)
    obtain ⟨hr10, hs10⟩ := hz10
    have hr10 := Eq.symm hr10
    have hs10 := Eq.symm hs10
    subst hr10
    subst hs10
    refine j_if_eq (tgt := 19) dX7_against_13 (by decide) R_ite0 (fun q13 => ?_) (fun q13 => ?_)
    · skip
      have aak := nt0 q13
      refine j_aload_n dX7_against_19 rfl ?_
      refine j_iconst dX7_against_20 ?_
      refine pf_X7_115 rfl dX7_against_21 h.1 rfl rfl (Nat.le_of_ble_eq_true rfl) ?_
      dsimp only [List.set]
      have hq0 := h.rq.own (n2 := n) (hs2 := hs) (tn2 := tn) (pl2 := 0) (de2 := de)
      refine j_aload_n dX7_against_24 rfl ?_
      refine j_iconst dX7_against_25 ?_
      refine j_bipush dX7_against_26 (by decide) ?_
      refine cl_X7_124 (As := [_, _]) rfl dX7_against_28 (c_X7_readRow (fr := 0) (many := 8) hq0.2 hch htn (by omega) (by omega)) hq0.2.1 rfl ⟨by decide, by decide⟩ (Nat.le_of_ble_eq_true rfl) ⟨Nat.zero_le _, Nat.zero_le _⟩ (fun z28 σ28 hz28 => ?_)
      obtain ⟨hr28, hq28, hle28⟩ := hz28
      have hq28 := hq0.tr hq28
      have hr28 := Eq.symm hr28
      subst hr28
      generalize hW1 : rrw ch tn 0 rv 0 8 = W1 at *
      refine j_if_eq (tgt := 45) dX7_against_31 (by decide) R_ite (fun q31 => ?_) (fun q31 => ?_)
      · skip
        have a31 := ne1 q31
        have hF := rdF_n (ch := ch) (n := tn) (z := 8) (W := 8) (fun q => a31 (s1.trans q.1))
        rw [← s2] at hF
        refine j_bipush dX7_against_45 (by decide) ?_
        refine j_aload_n dX7_against_47 rfl ?_
        refine gf_X7_115 rfl dX7_against_48 hq28.2.1 rfl ?_
        refine j_isub dX7_against_51 ?_
        exact j_iret dX7_against_52 ⟨_, rfl, W1.2.1, W1.2.2, by rw [hrfs, if_neg (fun q => q aat), if_neg (fun q => q aak), if_pos hF.2, hF.1], hq28, fun q => absurd q (by omega)⟩
      · skip
        have a31 := nz1 q31
        refine j_aload_n dX7_against_34 rfl ?_
        refine gf_X7_115 rfl dX7_against_35 hq28.2.1 rfl ?_
        refine j_aload_n dX7_against_38 rfl ?_
        refine gf_X7_112 rfl dX7_against_39 hq28.2.1 rfl ?_
        refine j_icmp_ge (tgt := 53) dX7_against_42 (by decide) ⟨by omega, by omega⟩ ⟨by omega, by omega⟩ (fun h42 => ?_) (fun h42 => ?_)
        · skip
          have hF := rdF_y (ch := ch) (n := tn) (z := 8) (W := 8) (s1.symm.trans a31) (by omega)
          have hrdB := fun j => rd_B (ch := ch) (n := tn) (z := 8) 8 j
          have s3 := s3 a31
          have hmx : mxF W1.2.2 8 = mxF (rd ch tn 8 8).2.2 8 := mxF_cong s3
          refine j_aload_n dX7_against_53 rfl ?_
          refine j_bipush dX7_against_54 (by decide) ?_
          refine cl_X7_136 (As := [_]) rfl dX7_against_56 (c_X7_areLess (k := 8) hq28.2 hO.1 (by omega) (by omega) (by omega) (fun j hj => by rw [s3 j hj]; have := hrdB j; exact rs (by omega) (by omega))) hq28.2.1 rfl ⟨by decide, by decide⟩ (Nat.le_of_ble_eq_true rfl) ⟨Nat.zero_le _, Nat.zero_le _⟩ (fun z56 σ56 hz56 => ?_)
          obtain ⟨hr56, hs56⟩ := hz56
          have hr56 := Eq.symm hr56
          have hs56 := Eq.symm hs56
          subst hr56
          subst hs56
          refine j_if_eq (tgt := 66) dX7_against_59 (by decide) R_ite (fun q59 => ?_) (fun q59 => ?_)
          · skip
            have a59 := ne1 q59
            refine j_bipush dX7_against_66 (by decide) ?_
            exact j_iret dX7_against_68 ⟨_, rfl, W1.2.1, W1.2.2, by rw [hrfs, if_neg (fun q => q aat), if_neg (fun q => q aak), if_neg (fun q => q hF), if_pos (by omega)], hq28, fun q => absurd q (by omega)⟩
          · skip
            have a59 := nz1 q59
            refine j_iconst dX7_against_62 ?_
            refine j_goto (tgt := 68) dX7_against_63 (by decide) ?_
            exact j_iret dX7_against_68 ⟨_, rfl, W1.2.1, W1.2.2, by rw [hrfs, if_neg (fun q => q aat), if_neg (fun q => q aak), if_neg (fun q => q hF), if_neg (by omega)], hq28, fun _ => s3⟩
        · skip
          have hF := rdF_n (ch := ch) (n := tn) (z := 8) (W := 8) (fun q => by have := q.2; omega)
          rw [← s2] at hF
          refine j_bipush dX7_against_45 (by decide) ?_
          refine j_aload_n dX7_against_47 rfl ?_
          refine gf_X7_115 rfl dX7_against_48 hq28.2.1 rfl ?_
          refine j_isub dX7_against_51 ?_
          exact j_iret dX7_against_52 ⟨_, rfl, W1.2.1, W1.2.2, by rw [hrfs, if_neg (fun q => q aat), if_neg (fun q => q aak), if_pos hF.2, hF.1], hq28, fun q => absurd q (by omega)⟩
    · skip
      have aak := nt1 q13
      refine j_bipush dX7_against_16 (by decide) ?_
      exact j_iret dX7_against_18 ⟨_, rfl, pl, rv, by rw [hrfs, if_neg (fun q => q aat), if_pos aak], h.rq, fun q => absurd q (by omega)⟩
  · skip
    have aat := nt1 q4
    refine j_iconst dX7_against_7 ?_
    exact j_iret dX7_against_8 ⟨_, rfl, pl, rv, by rw [hrfs, if_pos aat], h.rq, fun q => absurd q (by omega)⟩
set_option maxRecDepth 100000 in
set_option maxHeartbeats 4000000 in
theorem c_X7_split {l : Launch} {D : gD} {σ : Wd} {m n tn : Nat} {hs : Int} {S SN : MS} {H : Nat → MS} {ch : Nat → Int} {t e : Int} (h0 : RS D σ m S SN hs n H tn ch) (hWS : WS S) (ht : R32 t) (he : R32 e) : KX7_split l D [.ref m, vi t, vi e] σ (fun x σ' => x = spX S t e ∧ OffR m (m + 10) σ σ' ∧ RS D σ' m (nxS (spN S t e) S) SN hs (nxN (spN S t e) n) (nxH (spN S t e) n H S) tn ch) := by
  obtain ⟨pl, de, R, P, A, rv, W, mk, ls, sp, h, hO, hP, hA, hn4, htn, hch⟩ := h0
  have hlo := primeB_lo hWS.1
  have hg := fun t ht => (hWS.2 t ht).2
  have hF := fun t ht => (hWS.2 t ht).1
  refine sp_of (by decide +kernel) (cat1 rfl) (Nat.le_of_ble_eq_true rfl) [some (.ref m), some (vi t), some (vi e), none, none] rfl (fun sz => ?_)
  refine j_aload_n dX7_split_0 rfl ?_
  refine j_iload_n dX7_split_1 rfl ?_
  refine j_iload_n dX7_split_2 rfl ?_
  refine cl_X7_130 (As := [_, _]) rfl dX7_split_3 (c_X7_noLeaf h hO ht he) h.1 rfl ⟨by decide, by decide⟩ (Nat.le_of_ble_eq_true rfl) ⟨Nat.zero_le _, Nat.zero_le _⟩ (fun z3 σ3 hz3 => ?_)
  obtain ⟨hr3, hs3⟩ := hz3
  have hr3 := Eq.symm hr3
  have hs3 := Eq.symm hs3
  subst hr3
  subst hs3
  refine j_if_eq (tgt := 11) dX7_split_6 (by decide) R_ite (fun q6 => ?_) (fun q6 => ?_)
  · skip
    have a6 := ne1 q6
    obtain ⟨s, z, k, est, ht0, ht3, hs64, hgz, hzk, hk, hok, hz1, hz8, hsz, hmod⟩ := lstT_leaf hg a6
    have hT := hO.2.2 t.toNat (by omega)
    have hOt := hO
    have els : lst (S.2.2 t.toNat) e = (s : Int) := by
      unfold lstT at est
      rw [if_pos ⟨ht0, ht3⟩] at est
      exact est
    have hszF : szF (fun d => R (257 + 21 * t.toNat + d)) s = z := by
      have := (hT.at hs64 (by omega)).1
      omega
    refine j_aload_n dX7_split_11 rfl ?_
    refine j_iload_n dX7_split_12 rfl ?_
    refine j_iload_n dX7_split_13 rfl ?_
    have hK := c_X7_beginOf (l := l) (t := t.toNat) h hT (by omega) he
    rw [Int.toNat_of_nonneg (a := t) (by omega)] at hK
    refine cl_X7_127 (As := [_, _]) rfl dX7_split_14 (hK) h.1 rfl ⟨by decide, by decide⟩ (Nat.le_of_ble_eq_true rfl) ⟨Nat.zero_le _, Nat.zero_le _⟩ (fun z14 σ14 hz14 => ?_)
    obtain ⟨hr14, hs14⟩ := hz14
    have hr14 := Eq.symm hr14
    have hs14 := Eq.symm hs14
    subst hr14
    subst hs14
    refine j_tops (show _ = (s : Int) by rw [els, if_neg (by omega)]) ?_
    refine j_istore_n dX7_split_17 (by decide) (by dsimp only [List.set] <;> rfl) ?_
    refine j_aload_n dX7_split_18 rfl ?_
    refine j_iload_n dX7_split_19 rfl ?_
    refine j_iload_n dX7_split_20 rfl ?_
    have hK2 := c_X7_sizeAt (l := l) (t := t.toNat) (s := s) h hT (by omega) hs64
    rw [Int.toNat_of_nonneg (a := t) (by omega)] at hK2
    refine cl_X7_76 (As := [_, _]) rfl dX7_split_21 (hK2) h.1 rfl ⟨by decide, by decide⟩ (Nat.le_of_ble_eq_true rfl) ⟨Nat.zero_le _, Nat.zero_le _⟩ (fun z21 σ21 hz21 => ?_)
    obtain ⟨hr21, hs21⟩ := hz21
    have hr21 := Eq.symm hr21
    have hs21 := Eq.symm hs21
    subst hr21
    subst hs21
    rw [hszF]
    refine j_istore dX7_split_24 (by decide) (by dsimp only [List.set] <;> rfl) ?_
    refine j_iload dX7_split_26 rfl ?_
    refine j_iconst dX7_split_28 ?_
    refine j_icmp_ne (tgt := 35) dX7_split_29 (by decide) ⟨by omega, by omega⟩ ⟨by omega, by omega⟩ (fun h29 => ?_) (fun h29 => ?_)
    · skip
      refine j_aload_n dX7_split_35 rfl ?_
      refine cl_X7_47 (As := []) rfl dX7_split_36 (c_X7_record h hn4) h.1 rfl ⟨by decide, by decide⟩ (Nat.le_of_ble_eq_true rfl) ⟨Nat.zero_le _, Nat.zero_le _⟩ (fun σ36 hz36 => ?_)
      refine j_aload_n dX7_split_39 rfl ?_
      refine gf_X7_7 rfl dX7_split_40 hz36.2.1 rfl ?_
      refine j_sipush dX7_split_43 (by decide) ?_
      refine j_bipush dX7_split_46 (by decide) ?_
      refine j_iload_n dX7_split_48 rfl ?_
      refine j_imul dX7_split_49 ?_
      refine j_iadd dX7_split_50 ?_
      refine j_aload_n dX7_split_51 rfl ?_
      refine j_iload_n dX7_split_52 rfl ?_
      refine j_iload dX7_split_53 rfl ?_
      refine cl_X7_154 (As := [_, _]) rfl dX7_split_55 (c_X7_nodeOf (m := m) hs64 hz8) hz36.2.1 rfl ⟨by decide, by decide⟩ (Nat.le_of_ble_eq_true rfl) ⟨Nat.zero_le _, Nat.zero_le _⟩ (fun z55 σ55 hz55 => ?_)
      obtain ⟨hr55, hs55⟩ := hz55
      have hr55 := Eq.symm hr55
      have hs55 := Eq.symm hs55
      subst hr55
      subst hs55
      refine j_iadd dX7_split_58 ?_
      have hnb : nodF s z < 21 := nodF_lt hs64
      rw [show (257 : Int) + 21 * t + (nodF s z : Nat) = ((257 + 21 * t.toNat + nodF s z : Nat) : Int) by omega]
      refine j_iconst dX7_split_59 ?_
      refine jj_iast dX7_split_60 hz36.2.2.1 (by omega) (by omega) ⟨by omega, by omega⟩ (fun e60 q60 => ?_)
      have hw0 := hz36.row q60
      have hTs := hT.split hs64 hmod hszF (by omega)
      have hO2 : RO (fup R (257 + 21 * t.toNat + nodF s z) 1) (S.1, S.2.1, fup S.2.2 t.toNat (cutF (S.2.2 t.toNat) s (z * z / 4) ((z : Int) / 2) 4)) := hO.sizes (by omega) (hTs.ext (fun d hd => by
        show fup _ (nodF s z) 1 d = fup R (257 + 21 * t.toNat + nodF s z) 1 (257 + 21 * t.toNat + d)
        by_cases x : d = nodF s z
        · rw [x, fup_s, fup_s]
        · rw [fup_n x, fup_n (by omega)])) (fun q q1 q2 => fup_n (by omega))
      have hT2 := hO2.2.2 t.toNat (by omega)
      have hT2 : TR _ (fup S.2.2 t.toNat (cutF (S.2.2 t.toNat) s (z * z / 4) ((z : Int) / 2) 4) t.toNat) := hT2
      rw [fup_s] at hT2
      refine j_aload_n dX7_split_61 rfl ?_
      refine j_iload_n dX7_split_62 rfl ?_
      refine j_bipush dX7_split_63 (by decide) ?_
      have hK3 := c_X7_leavesTo (l := l) (t := t.toNat) (e := 64) hw0.2 hT2 (by omega) (by omega)
      rw [Int.toNat_of_nonneg (a := t) (by omega)] at hK3
      refine cl_X7_157 (As := [_, _]) rfl dX7_split_65 (hK3) hw0.2.1 rfl ⟨by decide, by decide⟩ (Nat.le_of_ble_eq_true rfl) ⟨Nat.zero_le _, Nat.zero_le _⟩ (fun z65 σ65 hz65 => ?_)
      obtain ⟨hr65, hs65⟩ := hz65
      have hr65 := Eq.symm hr65
      have hs65 := Eq.symm hs65
      subst hr65
      subst hs65
      exact j_iret dX7_split_68 ⟨_, rfl, by unfold spX; rw [onLeaf_y est hgz, if_neg (by omega)], RSx_some (RS.of hw0 hO2 (rec_RO hn4 hO hP) hA (recN_le n hn4) htn hch) (by unfold spN; rw [onLeaf_y est hgz, if_neg (by omega)])⟩
    · skip
      refine j_bipush dX7_split_32 (by decide) ?_
      exact j_iret dX7_split_34 ⟨_, rfl, by unfold spX; rw [onLeaf_y est hgz, if_pos (by omega)], RSx_none (RS.of h.rq hO hP hA hn4 htn hch) (by unfold spN; rw [onLeaf_y est hgz, if_pos (by omega)])⟩
  · skip
    have a6 := nz1 q6
    refine j_iconst dX7_split_9 ?_
    exact j_iret dX7_split_10 ⟨_, rfl, by unfold spX; exact (onLeaf_n a6).symm, RSx_none (RS.of h.rq hO hP hA hn4 htn hch) (onLeaf_n a6)⟩
set_option maxRecDepth 100000 in
set_option maxHeartbeats 4000000 in
theorem c_X7_join {l : Launch} {D : gD} {σ : Wd} {m n tn : Nat} {hs : Int} {S SN : MS} {H : Nat → MS} {ch : Nat → Int} {t e : Int} (h0 : RS D σ m S SN hs n H tn ch) (hWS : WS S) (ht : R32 t) (he : R32 e) : KX7_join l D [.ref m, vi t, vi e] σ (fun x σ' => x = jnX S t e ∧ OffR m (m + 10) σ σ' ∧ RS D σ' m (nxS (jnN S t e) S) SN hs (nxN (jnN S t e) n) (nxH (jnN S t e) n H S) tn ch) := by
  obtain ⟨pl, de, R, P, A, rv, W, mk, ls, sp, h, hO, hP, hA, hn4, htn, hch⟩ := h0
  have hlo := primeB_lo hWS.1
  have hg := fun t ht => (hWS.2 t ht).2
  have hF := fun t ht => (hWS.2 t ht).1
  refine sp_of (by decide +kernel) (cat1 rfl) (Nat.le_of_ble_eq_true rfl) [some (.ref m), some (vi t), some (vi e), none, none, none, none] rfl (fun sz => ?_)
  refine j_aload_n dX7_join_0 rfl ?_
  refine j_iload_n dX7_join_1 rfl ?_
  refine j_iload_n dX7_join_2 rfl ?_
  refine cl_X7_130 (As := [_, _]) rfl dX7_join_3 (c_X7_noLeaf h hO ht he) h.1 rfl ⟨by decide, by decide⟩ (Nat.le_of_ble_eq_true rfl) ⟨Nat.zero_le _, Nat.zero_le _⟩ (fun z3 σ3 hz3 => ?_)
  obtain ⟨hr3, hs3⟩ := hz3
  have hr3 := Eq.symm hr3
  have hs3 := Eq.symm hs3
  subst hr3
  subst hs3
  refine j_if_eq (tgt := 11) dX7_join_6 (by decide) R_ite (fun q6 => ?_) (fun q6 => ?_)
  · skip
    have a6 := ne1 q6
    obtain ⟨s, z, k, est, ht0, ht3, hs64, hgz, hzk, hk, hok, hz1, hz8, hsz, hmod⟩ := lstT_leaf hg a6
    have hT := hO.2.2 t.toNat (by omega)
    have hOt := hO
    have els : lst (S.2.2 t.toNat) e = (s : Int) := by
      unfold lstT at est
      rw [if_pos ⟨ht0, ht3⟩] at est
      exact est
    have hszF : szF (fun d => R (257 + 21 * t.toNat + d)) s = z := by
      have := (hT.at hs64 (by omega)).1
      omega
    refine j_aload_n dX7_join_11 rfl ?_
    refine j_iload_n dX7_join_12 rfl ?_
    refine j_iload_n dX7_join_13 rfl ?_
    have hK := c_X7_beginOf (l := l) (t := t.toNat) h hT (by omega) he
    rw [Int.toNat_of_nonneg (a := t) (by omega)] at hK
    refine cl_X7_127 (As := [_, _]) rfl dX7_join_14 (hK) h.1 rfl ⟨by decide, by decide⟩ (Nat.le_of_ble_eq_true rfl) ⟨Nat.zero_le _, Nat.zero_le _⟩ (fun z14 σ14 hz14 => ?_)
    obtain ⟨hr14, hs14⟩ := hz14
    have hr14 := Eq.symm hr14
    have hs14 := Eq.symm hs14
    subst hr14
    subst hs14
    refine j_tops (show _ = (s : Int) by rw [els, if_neg (by omega)]) ?_
    refine j_istore_n dX7_join_17 (by decide) (by dsimp only [List.set] <;> rfl) ?_
    refine j_aload_n dX7_join_18 rfl ?_
    refine j_iload_n dX7_join_19 rfl ?_
    refine j_iload_n dX7_join_20 rfl ?_
    have hK2 := c_X7_sizeAt (l := l) (t := t.toNat) (s := s) h hT (by omega) hs64
    rw [Int.toNat_of_nonneg (a := t) (by omega)] at hK2
    refine cl_X7_76 (As := [_, _]) rfl dX7_join_21 (hK2) h.1 rfl ⟨by decide, by decide⟩ (Nat.le_of_ble_eq_true rfl) ⟨Nat.zero_le _, Nat.zero_le _⟩ (fun z21 σ21 hz21 => ?_)
    obtain ⟨hr21, hs21⟩ := hz21
    have hr21 := Eq.symm hr21
    have hs21 := Eq.symm hs21
    subst hr21
    subst hs21
    rw [hszF]
    refine j_istore dX7_join_24 (by decide) (by dsimp only [List.set] <;> rfl) ?_
    refine j_iload dX7_join_26 rfl ?_
    refine j_bipush dX7_join_28 (by decide) ?_
    refine j_icmp_ne (tgt := 36) dX7_join_30 (by decide) ⟨by omega, by omega⟩ ⟨by omega, by omega⟩ (fun h30 => ?_) (fun h30 => ?_)
    · skip
      have hk3 : k < 3 := by
        rcases (show k < 3 ∨ k = 3 by omega) with q | q
        · exact q
        · exact absurd (show z = 8 by rw [hzk, q]) (by omega)
      have hfi := fst4_in hk3 hzk hs64
      have hz4 : z ≤ 4 := by rw [hzk]; exact pow_le4 k hk3
      have hzz : 1 * 1 ≤ z * z := Nat.mul_le_mul hz1 hz1
      have hzz4 : z * z ≤ 4 * 4 := Nat.mul_le_mul hz4 hz4
      have e4 : 2 * z * (2 * z) = 4 * (z * z) := by rw [Nat.mul_mul_mul_comm]
      have hff := four_sz hT (a := fst4 s z) hz1 (by
        have : fst4 s z % (2 * z * (2 * z)) = 0 := Nat.mul_mod_left _ _
        rw [e4] at this
        exact Nat.mod_eq_zero_of_dvd (Nat.dvd_trans (Nat.dvd_mul_left _ 4) (Nat.dvd_of_mod_eq_zero this))) (by omega)
      refine j_iload_n dX7_join_36 rfl ?_
      refine j_iload_n dX7_join_37 rfl ?_
      refine j_iconst dX7_join_38 ?_
      refine j_iload dX7_join_39 rfl ?_
      refine j_imul dX7_join_41 ?_
      refine j_iload dX7_join_42 rfl ?_
      refine j_imul dX7_join_44 ?_
      rw [show (4 : Int) * (z : Int) * (z : Int) = ((2 * z * (2 * z) : Nat) : Int) by rw [e4, Int.mul_assoc]; rfl]
      refine j_irem dX7_join_45 (rs (by omega) (by omega)) (rs (by omega) (by omega)) (by omega) ?_
      refine j_isub dX7_join_46 ?_
      refine j_tops (show _ = ((fst4 s z : Nat) : Int) by
        have h1 : (s : Int).tmod ((2 * z * (2 * z) : Nat) : Int) = ((s % (2 * z * (2 * z)) : Nat) : Int) := by rw [tmod_pos (by omega)]; rfl
        have h2 := Nat.div_add_mod s (2 * z * (2 * z))
        rw [Nat.mul_comm] at h2
        rw [h1]
        unfold fst4
        omega) ?_
      refine j_istore dX7_join_47 (by decide) (by dsimp only [List.set] <;> rfl) ?_
      refine j_iconst dX7_join_49 ?_
      refine j_istore dX7_join_50 (by decide) (by dsimp only [List.set] <;> rfl) ?_
      have lp52 : ∀ (nn q : Nat), 5 - q < nn → q ≤ 4 → (∀ q2, q2 < q → szF (fun d => R (257 + 21 * t.toNat + d)) (fst4 s z + q2 * (z * z)) = z) → J l D yX7_join cX7_join 7 (some .int) rmX7_join sz (AA σ sz) (QI D σ sz (fun x σ' => x = jnX S t e ∧ OffR m (m + 10) σ σ' ∧ RS D σ' m (nxS (jnN S t e) S) SN hs (nxN (jnN S t e) n) (nxH (jnN S t e) n H S) tn ch)) 0 0 52 [some (.ref m), some (vi t), some (vi e), some (vi s), some (vi z), some (vi (fst4 s z : Nat)), some (vi q)] [] σ := by
        intro nn
        induction nn with
        | zero =>
          intro q hnn hq hall
          exfalso
          omega
        | succ nn ih52 =>
          intro q hnn hq hall
          refine j_iload dX7_join_52 rfl ?_
          refine j_iconst dX7_join_54 ?_
          refine j_icmp_ge (tgt := 88) dX7_join_55 (by decide) ⟨by omega, by omega⟩ ⟨by omega, by omega⟩ (fun h55 => ?_) (fun h55 => ?_)
          · skip
            have hf4 : four (S.2.2 t.toNat) (fst4 s z) z := hff.mpr (fun q2 a => hall q2 (by omega))
            have hgood : ¬ (z = 8 ∨ ¬ four (S.2.2 t.toNat) (fst4 s z) z) := by
              intro a
              rcases a with a | a
              · omega
              · exact a hf4
            refine j_aload_n dX7_join_88 rfl ?_
            refine cl_X7_47 (As := []) rfl dX7_join_89 (c_X7_record h hn4) h.1 rfl ⟨by decide, by decide⟩ (Nat.le_of_ble_eq_true rfl) ⟨Nat.zero_le _, Nat.zero_le _⟩ (fun σ89 hz89 => ?_)
            refine j_aload_n dX7_join_92 rfl ?_
            refine gf_X7_7 rfl dX7_join_93 hz89.2.1 rfl ?_
            refine j_sipush dX7_join_96 (by decide) ?_
            refine j_bipush dX7_join_99 (by decide) ?_
            refine j_iload_n dX7_join_101 rfl ?_
            refine j_imul dX7_join_102 ?_
            refine j_iadd dX7_join_103 ?_
            refine j_aload_n dX7_join_104 rfl ?_
            refine j_iload dX7_join_105 rfl ?_
            refine j_iconst dX7_join_107 ?_
            refine j_iload dX7_join_108 rfl ?_
            refine j_imul dX7_join_110 ?_
            rw [show (2 : Int) * (z : Int) = ((2 * z : Nat) : Int) from rfl]
            have hfl := fst4_le (z := z) (s := s)
            refine cl_X7_154 (As := [_, _]) rfl dX7_join_111 (c_X7_nodeOf (m := m) (s := fst4 s z) (z := 2 * z) (by omega) (by omega)) hz89.2.1 rfl ⟨by decide, by decide⟩ (Nat.le_of_ble_eq_true rfl) ⟨Nat.zero_le _, Nat.zero_le _⟩ (fun z111 σ111 hz111 => ?_)
            obtain ⟨hr111, hs111⟩ := hz111
            have hr111 := Eq.symm hr111
            have hs111 := Eq.symm hs111
            subst hr111
            subst hs111
            refine j_iadd dX7_join_114 ?_
            have hnb : nodF (fst4 s z) (2 * z) < 21 := nodF_lt (by omega)
            rw [show (257 : Int) + 21 * t + (nodF (fst4 s z) (2 * z) : Nat) = ((257 + 21 * t.toNat + nodF (fst4 s z) (2 * z) : Nat) : Int) by omega]
            refine j_iconst dX7_join_115 ?_
            refine jj_iast dX7_join_116 hz89.2.2.1 (by omega) (by omega) ⟨by omega, by omega⟩ (fun e116 q116 => ?_)
            have hw0 := hz89.row q116
            have hTs := hT.join hs64 hzk hk3 (hff.mp hf4)
            have hO2 : RO (fup R (257 + 21 * t.toNat + nodF (fst4 s z) (2 * z)) 0) (S.1, S.2.1, fup S.2.2 t.toNat (jnF (S.2.2 t.toNat) s z)) := hO.sizes (by omega) (hTs.ext (fun d hd => by
              show fup _ (nodF (fst4 s z) (2 * z)) 0 d = fup R (257 + 21 * t.toNat + nodF (fst4 s z) (2 * z)) 0 (257 + 21 * t.toNat + d)
              by_cases x : d = nodF (fst4 s z) (2 * z)
              · rw [x, fup_s, fup_s]
              · rw [fup_n x, fup_n (by omega)])) (fun q q1 q2 => fup_n (by omega))
            have hT2 := hO2.2.2 t.toNat (by omega)
            have hT2 : TR _ (fup S.2.2 t.toNat (jnF (S.2.2 t.toNat) s z) t.toNat) := hT2
            rw [fup_s] at hT2
            refine j_aload_n dX7_join_117 rfl ?_
            refine j_iload_n dX7_join_118 rfl ?_
            refine j_iload dX7_join_119 rfl ?_
            have hK3 := c_X7_leavesTo (l := l) (t := t.toNat) (e := fst4 s z) hw0.2 hT2 (by omega) (by omega)
            rw [Int.toNat_of_nonneg (a := t) (by omega)] at hK3
            refine cl_X7_157 (As := [_, _]) rfl dX7_join_121 (hK3) hw0.2.1 rfl ⟨by decide, by decide⟩ (Nat.le_of_ble_eq_true rfl) ⟨Nat.zero_le _, Nat.zero_le _⟩ (fun z121 σ121 hz121 => ?_)
            obtain ⟨hr121, hs121⟩ := hz121
            have hr121 := Eq.symm hr121
            have hs121 := Eq.symm hs121
            subst hr121
            subst hs121
            exact j_iret dX7_join_124 ⟨_, rfl, by unfold jnX; rw [onLeaf_y est hgz, if_neg hgood], RSx_some (RS.of hw0 hO2 (rec_RO hn4 hO hP) hA (recN_le n hn4) htn hch) (by unfold jnN; rw [onLeaf_y est hgz, if_neg hgood])⟩
          · skip
            refine j_aload_n dX7_join_58 rfl ?_
            refine j_iload_n dX7_join_59 rfl ?_
            refine j_iload dX7_join_60 rfl ?_
            refine j_iload dX7_join_62 rfl ?_
            refine j_iload dX7_join_64 rfl ?_
            refine j_imul dX7_join_66 ?_
            refine j_iload dX7_join_67 rfl ?_
            refine j_imul dX7_join_69 ?_
            rw [show (q : Int) * (z : Int) * (z : Int) = ((q * (z * z) : Nat) : Int) by rw [Int.mul_assoc]; rfl]
            refine j_iadd dX7_join_70 ?_
            rw [show ((fst4 s z : Nat) : Int) + ((q * (z * z) : Nat) : Int) = ((fst4 s z + q * (z * z) : Nat) : Int) from rfl]
            have hq3 : q * (z * z) ≤ 3 * (z * z) := Nat.mul_le_mul_right _ (by omega)
            have hK3 := c_X7_sizeAt (l := l) (t := t.toNat) (s := fst4 s z + q * (z * z)) h hT (by omega) (by omega)
            rw [Int.toNat_of_nonneg (a := t) (by omega)] at hK3
            refine cl_X7_76 (As := [_, _]) rfl dX7_join_71 (hK3) h.1 rfl ⟨by decide, by decide⟩ (Nat.le_of_ble_eq_true rfl) ⟨Nat.zero_le _, Nat.zero_le _⟩ (fun z71 σ71 hz71 => ?_)
            obtain ⟨hr71, hs71⟩ := hz71
            have hr71 := Eq.symm hr71
            have hs71 := Eq.symm hs71
            subst hr71
            subst hs71
            have hsfR := szF_R (fun d => R (257 + 21 * t.toNat + d)) (fst4 s z + q * (z * z))
            refine j_iload dX7_join_74 rfl ?_
            refine j_icmp_eq (tgt := 82) dX7_join_76 (by decide) ⟨by omega, by omega⟩ ⟨by omega, by omega⟩ (fun h76 => ?_) (fun h76 => ?_)
            · skip
              refine j_iinc dX7_join_82 rfl (by decide) (by dsimp only [List.set] <;> rfl) ?_
              refine j_goto (tgt := 52) dX7_join_85 (by decide) ?_
              have hih := ih52 (q + 1) (by omega) (by omega) (fun q2 a => by
                rcases (show q2 < q ∨ q2 = q by omega) with b | b
                · exact hall q2 b
                · rw [b]; omega)
              refine j_weak ?_ hih
              exact ⟨rfl, rfl, rfl, rfl, rfl, rfl, rfl, trivial⟩
            · skip
              have hbad : z = 8 ∨ ¬ four (S.2.2 t.toNat) (fst4 s z) z := Or.inr (fun x => h76 (by rw [hff.mp x q (by omega)]))
              refine j_bipush dX7_join_79 (by decide) ?_
              exact j_iret dX7_join_81 ⟨_, rfl, by unfold jnX; rw [onLeaf_y est hgz, if_pos hbad], RSx_none (RS.of h.rq hO hP hA hn4 htn hch) (by unfold jnN; rw [onLeaf_y est hgz, if_pos hbad])⟩
      exact lp52 10 0 (by omega) (by omega) (fun q2 a => absurd a (by omega))
    · skip
      refine j_bipush dX7_join_33 (by decide) ?_
      exact j_iret dX7_join_35 ⟨_, rfl, by unfold jnX; rw [onLeaf_y est hgz, if_pos (Or.inl (by omega))], RSx_none (RS.of h.rq hO hP hA hn4 htn hch) (by unfold jnN; rw [onLeaf_y est hgz, if_pos (Or.inl (by omega))])⟩
  · skip
    have a6 := nz1 q6
    refine j_iconst dX7_join_9 ?_
    exact j_iret dX7_join_10 ⟨_, rfl, by unfold jnX; exact (onLeaf_n a6).symm, RSx_none (RS.of h.rq hO hP hA hn4 htn hch) (onLeaf_n a6)⟩

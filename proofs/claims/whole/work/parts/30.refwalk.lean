/-! ===== the reference: trees, walks ===== -/
theorem i2c_iI (a : Int) : ((iI a).toUInt32 % 65536).toInt32 = iI (a % 65536) := by
  have h : (iI a).toUInt32 % 65536 = (iI (a % 65536)).toUInt32 := by
    apply UInt32.toNat_inj.mp
    rw [UInt32.toNat_mod]
    show (BitVec.ofInt 32 a).toNat % 65536 = (BitVec.ofInt 32 (a % 65536)).toNat
    rw [BitVec.toNat_ofInt, BitVec.toNat_ofInt]
    show (a % 4294967296).toNat % 65536 = (a % 65536 % 4294967296).toNat
    omega
  exact congrArg UInt32.toInt32 h
theorem nar_iI {v : Int} (h0 : 0 ≤ v) (h1 : v < 65536) : vp_nar .char (iI v) = iI v := by
  have h := pk_vc (iI v)
  rw [i2c_iI, emod_id h0 h1] at h
  exact h
theorem szF_c (fl : Nat → Int) (w : Nat) : (fl 0 ≠ 1 ∧ szF fl w = 8) ∨ (fl 0 = 1 ∧ fl (1 + w / 16) ≠ 1 ∧ szF fl w = 4) ∨ (fl 0 = 1 ∧ fl (1 + w / 16) = 1 ∧ fl (5 + w / 4) ≠ 1 ∧ szF fl w = 2) ∨ (fl 0 = 1 ∧ fl (1 + w / 16) = 1 ∧ fl (5 + w / 4) = 1 ∧ szF fl w = 1) := by
  unfold szF
  by_cases a : fl 0 = 1
  · rw [if_neg (fun q => q a)]
    by_cases b : fl (1 + w / 16) = 1
    · rw [if_neg (fun q => q b)]
      by_cases c : fl (5 + w / 4) = 1
      · rw [if_pos c]
        exact Or.inr (Or.inr (Or.inr ⟨a, b, c, rfl⟩))
      · rw [if_neg c]
        exact Or.inr (Or.inr (Or.inl ⟨a, b, c, rfl⟩))
    · rw [if_pos b]
      exact Or.inr (Or.inl ⟨a, b, rfl⟩)
  · rw [if_pos a]
    exact Or.inl ⟨a, rfl⟩
theorem szF_in {fl : Nat → Int} {w v : Nat} (h : w % (szF fl w * szF fl w) = 0) (h1 : w ≤ v) (h2 : v < w + szF fl w * szF fl w) (hv : v < 64) : szF fl v = szF fl w ∧ (w < v → v % (szF fl w * szF fl w) ≠ 0) := by
  rcases szF_c fl w with ⟨a, e⟩ | ⟨a, b, e⟩ | ⟨a, b, c, e⟩ | ⟨a, b, c, e⟩ <;> rw [e] at h h2 ⊢
  · refine ⟨?_, fun q => by omega⟩
    unfold szF
    rw [if_pos a]
  · have e1 : v / 16 = w / 16 := by omega
    refine ⟨?_, fun q => by omega⟩
    unfold szF
    rw [e1, if_neg (fun q => q a), if_pos b]
  · have e1 : v / 16 = w / 16 := by omega
    have e2 : v / 4 = w / 4 := by omega
    refine ⟨?_, fun q => by omega⟩
    unfold szF
    rw [e1, e2, if_neg (fun q => q a), if_neg (fun q => q b), if_neg c]
  · have e1 : v = w := by omega
    refine ⟨?_, fun q => by omega⟩
    rw [e1]
    exact e
theorem szF_next {fl : Nat → Int} {w : Nat} (hw : w < 64) (h : w % (szF fl w * szF fl w) = 0) : w + szF fl w * szF fl w ≤ 64 ∧ (w + szF fl w * szF fl w < 64 → (w + szF fl w * szF fl w) % (szF fl (w + szF fl w * szF fl w) * szF fl (w + szF fl w * szF fl w)) = 0) := by
  generalize hv : w + szF fl w * szF fl w = v at *
  rcases szF_c fl w with ⟨a, e⟩ | ⟨a, b, e⟩ | ⟨a, b, c, e⟩ | ⟨a, b, c, e⟩ <;> rw [e] at h hv
  · exact ⟨by omega, fun q => by omega⟩
  · refine ⟨by omega, fun q => ?_⟩
    rcases szF_c fl v with ⟨a', e'⟩ | ⟨a', b', e'⟩ | ⟨a', b', c', e'⟩ | ⟨a', b', c', e'⟩ <;> rw [e']
    · exact absurd a a'
    · omega
    · omega
    · omega
  · refine ⟨by omega, fun q => ?_⟩
    rcases szF_c fl v with ⟨a', e'⟩ | ⟨a', b', e'⟩ | ⟨a', b', c', e'⟩ | ⟨a', b', c', e'⟩ <;> rw [e']
    · exact absurd a a'
    · apply Classical.byContradiction
      intro x
      rw [show v / 16 = w / 16 by omega] at b'
      exact b' b
    · omega
    · omega
  · refine ⟨by omega, fun q => ?_⟩
    rcases szF_c fl v with ⟨a', e'⟩ | ⟨a', b', e'⟩ | ⟨a', b', c', e'⟩ | ⟨a', b', c', e'⟩ <;> rw [e']
    · exact absurd a a'
    · apply Classical.byContradiction
      intro x
      rw [show v / 16 = w / 16 by omega] at b'
      exact b' b
    · apply Classical.byContradiction
      intro x
      rw [show v / 4 = w / 4 by omega] at c'
      exact c' c
    · omega
theorem szF_R (fl : Nat → Int) (w : Nat) : 1 ≤ szF fl w ∧ szF fl w ≤ 8 := by
  rcases szF_c fl w with ⟨a, e⟩ | ⟨a, b, e⟩ | ⟨a, b, c, e⟩ | ⟨a, b, c, e⟩ <;> rw [e] <;> omega
theorem TR.at {fl g : Nat → Int} (h : TR fl g) {w : Nat} (hw : w < 64) (h0 : 0 < g w) : g w = (szF fl w : Nat) ∧ w % (szF fl w * szF fl w) = 0 := by
  have e := h.2.2 w hw
  by_cases q : w % (szF fl w * szF fl w) = 0
  · rw [if_pos q] at e
    exact ⟨e, q⟩
  · rw [if_neg q] at e
    omega
theorem TR.pos {fl g : Nat → Int} (h : TR fl g) {w : Nat} (hw : w < 64) (q : w % (szF fl w * szF fl w) = 0) : 0 < g w := by
  have e := h.2.2 w hw
  rw [if_pos q] at e
  have := szF_R fl w
  omega
theorem TR.walk {fl g : Nat → Int} (h : TR fl g) {w : Nat} (hw : w < 64) (h0 : 0 < g w) : w + szF fl w * szF fl w ≤ 64 ∧ w < w + szF fl w * szF fl w ∧ (∀ v, w < v → v < w + szF fl w * szF fl w → g v = 0) ∧ (w + szF fl w * szF fl w < 64 → 0 < g (w + szF fl w * szF fl w)) := by
  obtain ⟨e, q⟩ := h.at hw h0
  obtain ⟨n1, n2⟩ := szF_next hw q
  have hz := szF_R fl w
  have hzz : 1 * 1 ≤ szF fl w * szF fl w := Nat.mul_le_mul hz.1 hz.1
  refine ⟨n1, by omega, fun v a b => ?_, fun a => h.pos a (n2 a)⟩
  obtain ⟨s1, s2⟩ := szF_in q (by omega) b (by omega)
  have e2 := h.2.2 v (by omega)
  rw [s1, if_neg (s2 a)] at e2
  exact e2
theorem TR.start {fl g : Nat → Int} (h : TR fl g) : 0 < g 0 := h.pos (by omega) (Nat.zero_mod _)
theorem cntP_jump {g : Nat → Int} {w : Nat} (h : 0 < g w) : ∀ {e : Nat}, w < e → (∀ v, w < v → v < e → g v = 0) → cntP g e = cntP g w + 1
  | 0, a, _ => absurd a (by omega)
  | e + 1, a, b => by
    show cntP g e + (if 0 < g e then 1 else 0) = cntP g w + 1
    rcases (show e = w ∨ w < e by omega) with q | q
    · rw [q, if_pos h]
    · rw [cntP_jump h q (fun v x y => b v x (by omega)), if_neg (by rw [b e q (by omega)]; omega)]
      omega
theorem cntP_flat {g : Nat → Int} {w : Nat} : ∀ {e : Nat}, w ≤ e → (∀ v, w ≤ v → v < e → g v = 0) → cntP g e = cntP g w
  | 0, a, _ => by rw [show w = 0 by omega]
  | e + 1, a, b => by
    rcases (show e + 1 = w ∨ w ≤ e by omega) with q | q
    · rw [q]
    · show cntP g e + (if 0 < g e then 1 else 0) = cntP g w
      rw [cntP_flat q (fun v x y => b v x (by omega)), if_neg (by rw [b e q (by omega)]; omega)]
      omega
theorem TR.WF {fl g : Nat → Int} (h : TR fl g) : WFg g := by
  intro s hs
  have e := h.2.2 s hs
  by_cases q : s % (szF fl s * szF fl s) = 0
  · rw [if_pos q] at e
    right
    rcases szF_c fl s with ⟨a, z⟩ | ⟨a, b, z⟩ | ⟨a, b, c, z⟩ | ⟨a, b, c, z⟩ <;> rw [z] at e q
    · exact ⟨3, by omega, e, q⟩
    · exact ⟨2, by omega, e, q⟩
    · exact ⟨1, by omega, e, q⟩
    · exact ⟨0, by omega, e, q⟩
  · rw [if_neg q] at e
    exact Or.inl e
def nodF (w z : Nat) : Nat := if z = 8 then 0 else if z = 4 then 1 + w / 16 else 5 + w / 4

set_option maxRecDepth 100000 in
set_option maxHeartbeats 4000000 in
theorem c_X7_rowOf {l : Launch} {D : gD} {σ : Wd} {s : Nat} (hs : s < 64) : KX7_rowOf l D [vi s] σ (fun r σ' => r = rowN s ∧ σ' = σ) := by
  refine sp_of (by decide +kernel) (cat1 rfl) (Nat.le_of_ble_eq_true rfl) [some (vi s)] rfl (fun sz => ?_)
  refine j_iconst dX7_rowOf_0 ?_
  refine j_iload_n dX7_rowOf_1 rfl ?_
  refine j_iconst dX7_rowOf_2 ?_
  refine j_ishr dX7_rowOf_3 ?_
  refine j_iconst dX7_rowOf_4 ?_
  refine j_iand dX7_rowOf_5 ?_
  refine j_top (bit_at s hs 5 (by omega)) ?_
  refine j_imul dX7_rowOf_6 ?_
  refine j_iconst dX7_rowOf_7 ?_
  refine j_iload_n dX7_rowOf_8 rfl ?_
  refine j_iconst dX7_rowOf_9 ?_
  refine j_ishr dX7_rowOf_10 ?_
  refine j_iconst dX7_rowOf_11 ?_
  refine j_iand dX7_rowOf_12 ?_
  refine j_top (bit_at s hs 3 (by omega)) ?_
  refine j_imul dX7_rowOf_13 ?_
  refine j_iadd dX7_rowOf_14 ?_
  refine j_iload_n dX7_rowOf_15 rfl ?_
  refine j_iconst dX7_rowOf_16 ?_
  refine j_ishr dX7_rowOf_17 ?_
  refine j_iconst dX7_rowOf_18 ?_
  refine j_iand dX7_rowOf_19 ?_
  refine j_top (bit_at s hs 1 (by omega)) ?_
  refine j_iadd dX7_rowOf_20 ?_
  exact j_iret dX7_rowOf_21 ⟨_, rfl, rfl, rfl⟩
set_option maxRecDepth 100000 in
set_option maxHeartbeats 4000000 in
theorem c_X7_columnOf {l : Launch} {D : gD} {σ : Wd} {s : Nat} (hs : s < 64) : KX7_columnOf l D [vi s] σ (fun r σ' => r = colN s ∧ σ' = σ) := by
  refine sp_of (by decide +kernel) (cat1 rfl) (Nat.le_of_ble_eq_true rfl) [some (vi s)] rfl (fun sz => ?_)
  refine j_iconst dX7_columnOf_0 ?_
  refine j_iload_n dX7_columnOf_1 rfl ?_
  refine j_iconst dX7_columnOf_2 ?_
  refine j_ishr dX7_columnOf_3 ?_
  refine j_iconst dX7_columnOf_4 ?_
  refine j_iand dX7_columnOf_5 ?_
  refine j_top (bit_at s hs 4 (by omega)) ?_
  refine j_imul dX7_columnOf_6 ?_
  refine j_iconst dX7_columnOf_7 ?_
  refine j_iload_n dX7_columnOf_8 rfl ?_
  refine j_iconst dX7_columnOf_9 ?_
  refine j_ishr dX7_columnOf_10 ?_
  refine j_iconst dX7_columnOf_11 ?_
  refine j_iand dX7_columnOf_12 ?_
  refine j_top (bit_at s hs 2 (by omega)) ?_
  refine j_imul dX7_columnOf_13 ?_
  refine j_iadd dX7_columnOf_14 ?_
  refine j_iload_n dX7_columnOf_15 rfl ?_
  refine j_iconst dX7_columnOf_16 ?_
  refine j_iand dX7_columnOf_17 ?_
  refine j_top (bit_at0 s hs) ?_
  refine j_iadd dX7_columnOf_18 ?_
  exact j_iret dX7_columnOf_19 ⟨_, rfl, rfl, rfl⟩
set_option maxRecDepth 100000 in
set_option maxHeartbeats 4000000 in
theorem c_X7_isSplitAt {l : Launch} {D : gD} {σ : Wd} {m n tn pl : Nat} {hs de : Int} {R P A ch rv W mk ls sp : Nat → Int} {t d : Nat} {g : Nat → Int} (h : RM D σ m n hs tn pl de R P A ch rv W mk ls sp) (hT : TR (fun d => R (257 + 21 * t + d)) g) (ht : t < 4) (hd : d < 21) : KX7_isSplitAt l D [.ref m, vi t, vi d] σ (fun x σ' => x = (if R (257 + 21 * t + d) = 1 then 1 else 0) ∧ σ' = σ) := by
  have hfd : R (257 + 21 * t + d) = 0 ∨ R (257 + 21 * t + d) = 1 := hT.1 d hd
  refine sp_of (by decide +kernel) (cat1 rfl) (Nat.le_of_ble_eq_true rfl) [some (.ref m), some (vi t), some (vi d)] rfl (fun sz => ?_)
  refine j_aload_n dX7_isSplitAt_0 rfl ?_
  refine gf_X7_7 rfl dX7_isSplitAt_1 h.1 rfl ?_
  refine j_sipush dX7_isSplitAt_4 (by decide) ?_
  refine j_bipush dX7_isSplitAt_7 (by decide) ?_
  refine j_iload_n dX7_isSplitAt_9 rfl ?_
  refine j_imul dX7_isSplitAt_10 ?_
  refine j_iadd dX7_isSplitAt_11 ?_
  refine j_iload_n dX7_isSplitAt_12 rfl ?_
  refine j_iadd dX7_isSplitAt_13 ?_
  refine jj_iald dX7_isSplitAt_14 h.2.1 (by omega) (by omega) ⟨by omega, by omega⟩ ?_
  refine j_tops (show _ = R (257 + 21 * t + d) by congr 1) ?_
  refine j_iconst dX7_isSplitAt_15 ?_
  refine j_icmp_ne (tgt := 23) dX7_isSplitAt_16 (by decide) (rs (by omega) (by omega)) ⟨by omega, by omega⟩ (fun h16 => ?_) (fun h16 => ?_)
  · skip
    refine j_iconst dX7_isSplitAt_23 ?_
    exact j_zret dX7_isSplitAt_24 (by omega) ⟨_, rfl, (by first | rw [if_pos (by omega)] | rw [if_neg (by omega)]), rfl⟩
  · skip
    refine j_iconst dX7_isSplitAt_19 ?_
    refine j_goto (tgt := 24) dX7_isSplitAt_20 (by decide) ?_
    exact j_zret dX7_isSplitAt_24 (by omega) ⟨_, rfl, (by first | rw [if_pos (by omega)] | rw [if_neg (by omega)]), rfl⟩
set_option maxRecDepth 100000 in
set_option maxHeartbeats 4000000 in
theorem c_X7_sizeAt {l : Launch} {D : gD} {σ : Wd} {m n tn pl : Nat} {hs de : Int} {R P A ch rv W mk ls sp : Nat → Int} {t s : Nat} {g : Nat → Int} (h : RM D σ m n hs tn pl de R P A ch rv W mk ls sp) (hT : TR (fun d => R (257 + 21 * t + d)) g) (ht : t < 4) (hs : s < 64) : KX7_sizeAt l D [.ref m, vi t, vi s] σ (fun x σ' => x = (szF (fun d => R (257 + 21 * t + d)) s : Nat) ∧ σ' = σ) := by
  refine sp_of (by decide +kernel) (cat1 rfl) (Nat.le_of_ble_eq_true rfl) [some (.ref m), some (vi t), some (vi s)] rfl (fun sz => ?_)
  refine j_aload_n dX7_sizeAt_0 rfl ?_
  refine j_iload_n dX7_sizeAt_1 rfl ?_
  refine j_iconst dX7_sizeAt_2 ?_
  refine cl_X7_72 (As := [_, _]) rfl dX7_sizeAt_3 (c_X7_isSplitAt (d := 0) h hT ht (by omega)) h.1 rfl ⟨by decide, by decide⟩ (Nat.le_of_ble_eq_true rfl) ⟨Nat.zero_le _, Nat.zero_le _⟩ (fun z3 σ3 hz3 => ?_)
  obtain ⟨hr3, hs3⟩ := hz3
  have hr3 := Eq.symm hr3
  have hs3 := Eq.symm hs3
  subst hr3
  subst hs3
  refine j_if_ne (tgt := 12) dX7_sizeAt_6 (by decide) R_ite (fun q6 => ?_) (fun q6 => ?_)
  · skip
    have a6 := nz1 q6
    refine j_aload_n dX7_sizeAt_12 rfl ?_
    refine j_iload_n dX7_sizeAt_13 rfl ?_
    refine j_iconst dX7_sizeAt_14 ?_
    refine j_iload_n dX7_sizeAt_15 rfl ?_
    refine j_bipush dX7_sizeAt_16 (by decide) ?_
    refine j_idiv dX7_sizeAt_18 ⟨by omega, by omega⟩ ⟨by omega, by omega⟩ (by omega) ?_
    rw [show ((s : Int).tdiv 16) = ((s / 16 : Nat) : Int) from Int.ofNat_tdiv s 16]
    refine j_iadd dX7_sizeAt_19 ?_
    rw [show (1 : Int) + ((s / 16 : Nat) : Int) = ((1 + s / 16 : Nat) : Int) by omega]
    refine cl_X7_72 (As := [_, _]) rfl dX7_sizeAt_20 (c_X7_isSplitAt (d := 1 + s / 16) h hT ht (by omega)) h.1 rfl ⟨by decide, by decide⟩ (Nat.le_of_ble_eq_true rfl) ⟨Nat.zero_le _, Nat.zero_le _⟩ (fun z20 σ20 hz20 => ?_)
    obtain ⟨hr20, hs20⟩ := hz20
    have hr20 := Eq.symm hr20
    have hs20 := Eq.symm hs20
    subst hr20
    subst hs20
    refine j_if_ne (tgt := 28) dX7_sizeAt_23 (by decide) R_ite (fun q23 => ?_) (fun q23 => ?_)
    · skip
      have a23 := nz1 q23
      refine j_aload_n dX7_sizeAt_28 rfl ?_
      refine j_iload_n dX7_sizeAt_29 rfl ?_
      refine j_iconst dX7_sizeAt_30 ?_
      refine j_iload_n dX7_sizeAt_31 rfl ?_
      refine j_iconst dX7_sizeAt_32 ?_
      refine j_idiv dX7_sizeAt_33 ⟨by omega, by omega⟩ ⟨by omega, by omega⟩ (by omega) ?_
      rw [show ((s : Int).tdiv 4) = ((s / 4 : Nat) : Int) from Int.ofNat_tdiv s 4]
      refine j_iadd dX7_sizeAt_34 ?_
      rw [show (5 : Int) + ((s / 4 : Nat) : Int) = ((5 + s / 4 : Nat) : Int) by omega]
      refine cl_X7_72 (As := [_, _]) rfl dX7_sizeAt_35 (c_X7_isSplitAt (d := 5 + s / 4) h hT ht (by omega)) h.1 rfl ⟨by decide, by decide⟩ (Nat.le_of_ble_eq_true rfl) ⟨Nat.zero_le _, Nat.zero_le _⟩ (fun z35 σ35 hz35 => ?_)
      obtain ⟨hr35, hs35⟩ := hz35
      have hr35 := Eq.symm hr35
      have hs35 := Eq.symm hs35
      subst hr35
      subst hs35
      refine j_if_eq (tgt := 45) dX7_sizeAt_38 (by decide) R_ite (fun q38 => ?_) (fun q38 => ?_)
      · skip
        have a38 := ne1 q38
        refine j_iconst dX7_sizeAt_45 ?_
        exact j_iret dX7_sizeAt_46 ⟨_, rfl, by unfold szF; rw [if_neg (fun q => q a6), if_neg (fun q => q a23), if_neg a38]; rfl, rfl⟩
      · skip
        have a38 := nz1 q38
        refine j_iconst dX7_sizeAt_41 ?_
        refine j_goto (tgt := 46) dX7_sizeAt_42 (by decide) ?_
        exact j_iret dX7_sizeAt_46 ⟨_, rfl, by unfold szF; rw [if_neg (fun q => q a6), if_neg (fun q => q a23), if_pos a38]; rfl, rfl⟩
    · skip
      have a23 := ne1 q23
      refine j_iconst dX7_sizeAt_26 ?_
      exact j_iret dX7_sizeAt_27 ⟨_, rfl, by unfold szF; rw [if_neg (fun q => q a6), if_pos a23]; rfl, rfl⟩
  · skip
    have a6 := ne1 q6
    refine j_bipush dX7_sizeAt_9 (by decide) ?_
    exact j_iret dX7_sizeAt_11 ⟨_, rfl, by unfold szF; rw [if_pos a6]; rfl, rfl⟩
set_option maxRecDepth 100000 in
set_option maxHeartbeats 4000000 in
theorem c_X7_cellOf {l : Launch} {D : gD} {σ : Wd} {m n tn pl : Nat} {hs de : Int} {R P A ch rv W mk ls sp : Nat → Int} {t r c : Nat} {S : MS} (h : RM D σ m n hs tn pl de R P A ch rv W mk ls sp) (hO : RO R S) (ht : t < 4) (hr : r < 8) (hc : c < 8) : KX7_cellOf l D [.ref m, vi t, vi r, vi c] σ (fun x σ' => x = S.2.1 t (8 * r + c) ∧ σ' = σ) := by
  refine sp_of (by decide +kernel) (cat1 rfl) (Nat.le_of_ble_eq_true rfl) [some (.ref m), some (vi t), some (vi r), some (vi c)] rfl (fun sz => ?_)
  refine j_aload_n dX7_cellOf_0 rfl ?_
  refine gf_X7_7 rfl dX7_cellOf_1 h.1 rfl ?_
  refine j_iload_n dX7_cellOf_4 rfl ?_
  refine j_iload_n dX7_cellOf_5 rfl ?_
  refine j_iload_n dX7_cellOf_6 rfl ?_
  refine cl_X7_68 (As := [_, _, _]) rfl dX7_cellOf_7 (c_X7_cellAt) rfl ⟨by decide, by decide⟩ (Nat.le_of_ble_eq_true rfl) ⟨Nat.zero_le _, Nat.zero_le _⟩ (fun z7 σ7 hz7 => ?_)
  obtain ⟨hr7, hs7⟩ := hz7
  have hr7 := Eq.symm hr7
  have hs7 := Eq.symm hs7
  subst hr7
  subst hs7
  refine jj_iald dX7_cellOf_10 h.2.1 (by omega) (by omega) ⟨by omega, by omega⟩ ?_
  exact j_iret dX7_cellOf_11 ⟨_, rfl, ((congrArg R (show (1 + 64 * (t : Int) + 8 * (r : Int) + (c : Int)).toNat = 1 + 64 * t + (8 * r + c) by omega)).trans (hO.2.1 t ht (8 * r + c) (by omega))), rfl⟩
set_option maxRecDepth 100000 in
set_option maxHeartbeats 4000000 in
theorem c_X7_beginOf {l : Launch} {D : gD} {σ : Wd} {m n tn pl : Nat} {hs de : Int} {R P A ch rv W mk ls sp : Nat → Int} {t : Nat} {e : Int} {g : Nat → Int} (h : RM D σ m n hs tn pl de R P A ch rv W mk ls sp) (hT : TR (fun d => R (257 + 21 * t + d)) g) (ht : t < 4) (he : R32 e) : KX7_beginOf l D [.ref m, vi t, vi e] σ (fun x σ' => x = (if lst g e = -1 then -5 else lst g e) ∧ σ' = σ) := by
  refine sp_of (by decide +kernel) (cat1 rfl) (Nat.le_of_ble_eq_true rfl) [some (.ref m), some (vi t), some (vi e), none, none, none] rfl (fun sz => ?_)
  refine j_iconst dX7_beginOf_0 ?_
  refine j_istore_n dX7_beginOf_1 (by decide) (by dsimp only [List.set] <;> rfl) ?_
  refine j_iconst dX7_beginOf_2 ?_
  refine j_istore dX7_beginOf_3 (by decide) (by dsimp only [List.set] <;> rfl) ?_
  have lp5 : ∀ (nn s : Nat) (x : Int) (v0 : Option Value), 65 - s < nn → s ≤ 64 → (s < 64 → 0 < g s) → x = cntP g s → (∀ j, j < s → 0 < g j → cntP g j ≠ e) → J l D yX7_beginOf cX7_beginOf 6 (some .int) rmX7_beginOf sz (AA σ sz) (QI D σ sz (fun x σ' => x = (if lst g e = -1 then -5 else lst g e) ∧ σ' = σ)) 0 0 5 [some (.ref m), some (vi t), some (vi e), some (vi s), some (vi x), v0] [] σ := by
    intro nn
    induction nn with
    | zero =>
      intro s x v0 hnn hs64 hst hc hno
      exfalso
      omega
    | succ nn ih5 =>
      intro s x v0 hnn hs64 hst hc hno
      have hcR := cntP_R g s
      refine j_iload_n dX7_beginOf_5 rfl ?_
      refine j_bipush dX7_beginOf_6 (by decide) ?_
      refine j_icmp_ge (tgt := 41) dX7_beginOf_8 (by decide) ⟨by omega, by omega⟩ ⟨by omega, by omega⟩ (fun h8 => ?_) (fun h8 => ?_)
      · skip
        refine j_bipush dX7_beginOf_41 (by decide) ?_
        exact j_iret dX7_beginOf_43 ⟨_, rfl, by unfold lst; rw [lstA_none 64 0 (fun j _ a b => hno j (by omega) b), if_pos rfl], rfl⟩
      · skip
        have hg0 := hst (by omega)
        obtain ⟨k1, k2, k3, k4⟩ := hT.walk (by omega) hg0
        refine j_iload dX7_beginOf_11 rfl ?_
        refine j_iload_n dX7_beginOf_13 rfl ?_
        refine j_icmp_ne (tgt := 19) dX7_beginOf_14 (by decide) (rs (by omega) (by omega)) he (fun h14 => ?_) (fun h14 => ?_)
        · skip
          refine j_aload_n dX7_beginOf_19 rfl ?_
          refine j_iload_n dX7_beginOf_20 rfl ?_
          refine j_iload_n dX7_beginOf_21 rfl ?_
          refine cl_X7_76 (As := [_, _]) rfl dX7_beginOf_22 (c_X7_sizeAt (s := s) h hT ht (by omega)) h.1 rfl ⟨by decide, by decide⟩ (Nat.le_of_ble_eq_true rfl) ⟨Nat.zero_le _, Nat.zero_le _⟩ (fun z22 σ22 hz22 => ?_)
          obtain ⟨hr22, hs22⟩ := hz22
          have hr22 := Eq.symm hr22
          have hs22 := Eq.symm hs22
          subst hr22
          subst hs22
          have hsz := szF_R (fun d => R (257 + 21 * t + d)) s
          have hzz : 1 * 1 ≤ szF (fun d => R (257 + 21 * t + d)) s * szF (fun d => R (257 + 21 * t + d)) s := Nat.mul_le_mul hsz.1 hsz.1
          have hzz2 : szF (fun d => R (257 + 21 * t + d)) s * szF (fun d => R (257 + 21 * t + d)) s ≤ 8 * 8 := Nat.mul_le_mul hsz.2 hsz.2
          generalize hze : szF (fun d => R (257 + 21 * t + d)) s = z at *
          refine j_istore dX7_beginOf_25 (by decide) (by dsimp only [List.set] <;> rfl) ?_
          refine j_iload_n dX7_beginOf_27 rfl ?_
          refine j_iload dX7_beginOf_28 rfl ?_
          refine j_iload dX7_beginOf_30 rfl ?_
          refine j_imul dX7_beginOf_32 ?_
          refine j_iadd dX7_beginOf_33 ?_
          refine j_istore_n dX7_beginOf_34 (by decide) (by dsimp only [List.set] <;> rfl) ?_
          refine j_iinc dX7_beginOf_35 rfl (by decide) (by dsimp only [List.set] <;> rfl) ?_
          refine j_goto (tgt := 5) dX7_beginOf_38 (by decide) ?_
          refine j_weak (L := [some (.ref m), some (vi t), some (vi e), some (vi ((s + z * z : Nat) : Int)), some (vi (x + 1)), some (vi z)]) ⟨rfl, rfl, rfl, rfl, rfl, rfl, trivial⟩ ?_
          refine ih5 (s + z * z) _ _ (by omega) (by omega) k4 (by rw [hc]; exact (cntP_jump hg0 k2 k3).symm) (fun j hj hgj => ?_)
          rcases (show j < s ∨ j = s ∨ s < j by omega) with q | q | q
          · exact hno j q hgj
          · rw [q, ← hc]; exact h14
          · rw [k3 j q hj] at hgj; omega
        · skip
          refine j_iload_n dX7_beginOf_17 rfl ?_
          exact j_iret dX7_beginOf_18 ⟨_, rfl, by unfold lst; rw [lstA_hit hg0 (hc.symm.trans h14) 64 0 (by omega) (by omega), if_neg (by omega)], rfl⟩
  exact lp5 70 0 0 none (by omega) (by omega) (fun _ => hT.start) rfl (fun j hj => absurd hj (by omega))
set_option maxRecDepth 100000 in
set_option maxHeartbeats 4000000 in
theorem c_X7_leavesTo {l : Launch} {D : gD} {σ : Wd} {m n tn pl : Nat} {hs de : Int} {R P A ch rv W mk ls sp : Nat → Int} {t e : Nat} {g : Nat → Int} (h : RM D σ m n hs tn pl de R P A ch rv W mk ls sp) (hT : TR (fun d => R (257 + 21 * t + d)) g) (ht : t < 4) (he : e ≤ 64) : KX7_leavesTo l D [.ref m, vi t, vi e] σ (fun x σ' => x = cntP g e ∧ σ' = σ) := by
  refine sp_of (by decide +kernel) (cat1 rfl) (Nat.le_of_ble_eq_true rfl) [some (.ref m), some (vi t), some (vi e), none, none, none] rfl (fun sz => ?_)
  refine j_iconst dX7_leavesTo_0 ?_
  refine j_istore_n dX7_leavesTo_1 (by decide) (by dsimp only [List.set] <;> rfl) ?_
  refine j_iconst dX7_leavesTo_2 ?_
  refine j_istore dX7_leavesTo_3 (by decide) (by dsimp only [List.set] <;> rfl) ?_
  have lp5 : ∀ (nn s : Nat) (x : Int) (v0 : Option Value), 65 - s < nn → s ≤ 64 → (s < 64 → 0 < g s) → (s ≤ e → x = cntP g s) → (e ≤ s → x = cntP g e) → R32 x → J l D yX7_leavesTo cX7_leavesTo 6 (some .int) rmX7_leavesTo sz (AA σ sz) (QI D σ sz (fun x σ' => x = cntP g e ∧ σ' = σ)) 0 0 5 [some (.ref m), some (vi t), some (vi e), some (vi s), some (vi x), v0] [] σ := by
    intro nn
    induction nn with
    | zero =>
      intro s x v0 hnn hs64 hst hc hce hxR
      exfalso
      omega
    | succ nn ih5 =>
      intro s x v0 hnn hs64 hst hc hce hxR
      have hcR := cntP_R g s
      refine j_iload_n dX7_leavesTo_5 rfl ?_
      refine j_iload_n dX7_leavesTo_6 rfl ?_
      refine j_icmp_ge (tgt := 32) dX7_leavesTo_7 (by decide) ⟨by omega, by omega⟩ ⟨by omega, by omega⟩ (fun h7 => ?_) (fun h7 => ?_)
      · skip
        refine j_iload dX7_leavesTo_32 rfl ?_
        exact j_iret dX7_leavesTo_34 ⟨_, rfl, hce (by omega), rfl⟩
      · skip
        have hg0 := hst (by omega)
        obtain ⟨k1, k2, k3, k4⟩ := hT.walk (by omega) hg0
        refine j_aload_n dX7_leavesTo_10 rfl ?_
        refine j_iload_n dX7_leavesTo_11 rfl ?_
        refine j_iload_n dX7_leavesTo_12 rfl ?_
        refine cl_X7_76 (As := [_, _]) rfl dX7_leavesTo_13 (c_X7_sizeAt (s := s) h hT ht (by omega)) h.1 rfl ⟨by decide, by decide⟩ (Nat.le_of_ble_eq_true rfl) ⟨Nat.zero_le _, Nat.zero_le _⟩ (fun z13 σ13 hz13 => ?_)
        obtain ⟨hr13, hs13⟩ := hz13
        have hr13 := Eq.symm hr13
        have hs13 := Eq.symm hs13
        subst hr13
        subst hs13
        have hsz := szF_R (fun d => R (257 + 21 * t + d)) s
        have hzz : 1 * 1 ≤ szF (fun d => R (257 + 21 * t + d)) s * szF (fun d => R (257 + 21 * t + d)) s := Nat.mul_le_mul hsz.1 hsz.1
        have hzz2 : szF (fun d => R (257 + 21 * t + d)) s * szF (fun d => R (257 + 21 * t + d)) s ≤ 8 * 8 := Nat.mul_le_mul hsz.2 hsz.2
        generalize hze : szF (fun d => R (257 + 21 * t + d)) s = z at *
        refine j_istore dX7_leavesTo_16 (by decide) (by dsimp only [List.set] <;> rfl) ?_
        refine j_iload_n dX7_leavesTo_18 rfl ?_
        refine j_iload dX7_leavesTo_19 rfl ?_
        refine j_iload dX7_leavesTo_21 rfl ?_
        refine j_imul dX7_leavesTo_23 ?_
        refine j_iadd dX7_leavesTo_24 ?_
        refine j_istore_n dX7_leavesTo_25 (by decide) (by dsimp only [List.set] <;> rfl) ?_
        refine j_iinc dX7_leavesTo_26 rfl (by decide) (by dsimp only [List.set] <;> rfl) ?_
        refine j_goto (tgt := 5) dX7_leavesTo_29 (by decide) ?_
        refine j_weak (L := [some (.ref m), some (vi t), some (vi e), some (vi ((s + z * z : Nat) : Int)), some (vi (x + 1)), some (vi z)]) ⟨rfl, rfl, rfl, rfl, rfl, rfl, trivial⟩ ?_
        have hx := hc (by omega)
        exact ih5 (s + z * z) _ _ (by omega) (by omega) k4 (fun _ => by rw [hx]; exact (cntP_jump hg0 k2 k3).symm) (fun q => by rw [hx]; exact (cntP_jump hg0 (by omega) (fun v a b => k3 v a (by omega))).symm) (rs (by omega) (by omega))
  exact lp5 70 0 0 none (by omega) (by omega) (fun _ => hT.start) (fun _ => rfl) (fun q => by rw [show e = 0 by omega]; rfl) (rs (by omega) (by omega))
set_option maxRecDepth 100000 in
set_option maxHeartbeats 4000000 in
theorem c_X7_nodeOf {l : Launch} {D : gD} {σ : Wd} {m s z : Nat} (hs : s < 64) (hz : z ≤ 8) : KX7_nodeOf l D [.ref m, vi s, vi z] σ (fun x σ' => x = (nodF s z : Nat) ∧ σ' = σ) := by
  refine sp_of (by decide +kernel) (cat1 rfl) (Nat.le_of_ble_eq_true rfl) [some (.ref m), some (vi s), some (vi z)] rfl (fun sz => ?_)
  refine j_iload_n dX7_nodeOf_0 rfl ?_
  refine j_bipush dX7_nodeOf_1 (by decide) ?_
  refine j_icmp_ne (tgt := 10) dX7_nodeOf_3 (by decide) ⟨by omega, by omega⟩ ⟨by omega, by omega⟩ (fun h3 => ?_) (fun h3 => ?_)
  · skip
    refine j_iload_n dX7_nodeOf_10 rfl ?_
    refine j_iconst dX7_nodeOf_11 ?_
    refine j_icmp_ne (tgt := 24) dX7_nodeOf_12 (by decide) ⟨by omega, by omega⟩ ⟨by omega, by omega⟩ (fun h12 => ?_) (fun h12 => ?_)
    · skip
      refine j_iconst dX7_nodeOf_24 ?_
      refine j_iload_n dX7_nodeOf_25 rfl ?_
      refine j_iconst dX7_nodeOf_26 ?_
      refine j_idiv dX7_nodeOf_27 ⟨by omega, by omega⟩ ⟨by omega, by omega⟩ (by omega) ?_
      rw [show ((s : Int).tdiv 4) = ((s / 4 : Nat) : Int) from Int.ofNat_tdiv s 4]
      refine j_iadd dX7_nodeOf_28 ?_
      exact j_iret dX7_nodeOf_29 ⟨_, rfl, by unfold nodF; first | (rw [if_pos (by omega)]; rfl) | (rw [if_neg (by omega), if_pos (by omega)]; rfl) | (rw [if_neg (by omega), if_neg (by omega)]; rfl), rfl⟩
    · skip
      refine j_iconst dX7_nodeOf_15 ?_
      refine j_iload_n dX7_nodeOf_16 rfl ?_
      refine j_bipush dX7_nodeOf_17 (by decide) ?_
      refine j_idiv dX7_nodeOf_19 ⟨by omega, by omega⟩ ⟨by omega, by omega⟩ (by omega) ?_
      rw [show ((s : Int).tdiv 16) = ((s / 16 : Nat) : Int) from Int.ofNat_tdiv s 16]
      refine j_iadd dX7_nodeOf_20 ?_
      refine j_goto (tgt := 29) dX7_nodeOf_21 (by decide) ?_
      exact j_iret dX7_nodeOf_29 ⟨_, rfl, by unfold nodF; first | (rw [if_pos (by omega)]; rfl) | (rw [if_neg (by omega), if_pos (by omega)]; rfl) | (rw [if_neg (by omega), if_neg (by omega)]; rfl), rfl⟩
  · skip
    refine j_iconst dX7_nodeOf_6 ?_
    refine j_goto (tgt := 29) dX7_nodeOf_7 (by decide) ?_
    exact j_iret dX7_nodeOf_29 ⟨_, rfl, by unfold nodF; first | (rw [if_pos (by omega)]; rfl) | (rw [if_neg (by omega), if_pos (by omega)]; rfl) | (rw [if_neg (by omega), if_neg (by omega)]; rfl), rfl⟩

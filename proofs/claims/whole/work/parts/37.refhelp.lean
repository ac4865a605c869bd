/-! ===== the reference: cut and joined trees; helpers ===== -/
theorem cutF4 (g : Nat → Int) (s d : Nat) (h : Int) (j : Nat) : cutF g s d h 4 j = if j = s + 3 * d then h else if j = s + 2 * d then h else if j = s + 1 * d then h else if j = s + 0 * d then h else g j := rfl
theorem cutF_y {g : Nat → Int} {s d : Nat} {h : Int} {j : Nat} (q : j = s ∨ j = s + d ∨ j = s + 2 * d ∨ j = s + 3 * d) : cutF g s d h 4 j = h := by
  rw [cutF4]
  by_cases a : j = s + 3 * d
  · rw [if_pos a]
  · rw [if_neg a]
    by_cases b : j = s + 2 * d
    · rw [if_pos b]
    · rw [if_neg b]
      by_cases c : j = s + 1 * d
      · rw [if_pos c]
      · rw [if_neg c, if_pos (by omega)]
theorem cutF_n {g : Nat → Int} {s d : Nat} {h : Int} {j : Nat} (q : ¬ (j = s ∨ j = s + d ∨ j = s + 2 * d ∨ j = s + 3 * d)) : cutF g s d h 4 j = g j := by
  rw [cutF4, if_neg (by omega), if_neg (by omega), if_neg (by omega), if_neg (by omega)]
theorem TR.kid {fl g : Nat → Int} (h : TR fl g) {d c : Nat} (hd : fl d ≠ 1) (hc : (c - 1) / 4 = d) (h1 : 1 ≤ c) (h2 : c < 21) : fl c ≠ 1 := fun q => hd (by rw [← hc]; exact h.2.1 c h1 h2 q)
theorem szF8 {fl : Nat → Int} {w : Nat} (a : fl 0 ≠ 1) : szF fl w = 8 := by
  unfold szF
  rw [if_pos a]
theorem szF4 {fl : Nat → Int} {w : Nat} (a : fl 0 = 1) (b : fl (1 + w / 16) ≠ 1) : szF fl w = 4 := by
  unfold szF
  rw [if_neg (fun q => q a), if_pos b]
theorem szF2 {fl : Nat → Int} {w : Nat} (a : fl 0 = 1) (b : fl (1 + w / 16) = 1) (c : fl (5 + w / 4) ≠ 1) : szF fl w = 2 := by
  unfold szF
  rw [if_neg (fun q => q a), if_neg (fun q => q b), if_neg c]
theorem szF1 {fl : Nat → Int} {w : Nat} (a : fl 0 = 1) (b : fl (1 + w / 16) = 1) (c : fl (5 + w / 4) = 1) : szF fl w = 1 := by
  unfold szF
  rw [if_neg (fun q => q a), if_neg (fun q => q b), if_pos c]
theorem TR.split {fl g : Nat → Int} (h : TR fl g) {s z : Nat} (hs : s < 64) (hm : s % (z * z) = 0) (hz : szF fl s = z) (h2 : 2 ≤ z) : TR (fup fl (nodF s z) 1) (cutF g s (z * z / 4) ((z : Int) / 2) 4) := by
  rcases szF_c fl s with ⟨a, e⟩ | ⟨a, b, e⟩ | ⟨a, b, c, e⟩ | ⟨a, b, c, e⟩ <;> rw [hz] at e <;> subst e
  · have hs0 : s = 0 := by omega
    subst hs0
    show TR (fup fl 0 1) (cutF g 0 16 4 4)
    have k1 : ∀ i, i < 4 → fl (1 + i) ≠ 1 := fun i hi => h.kid a (by omega) (by omega) (by omega)
    refine ⟨fun d hd => ?_, fun d d1 d2 q => ?_, fun w hw => ?_⟩
    · by_cases x : d = 0
      · rw [x, fup_s]
        exact Or.inr rfl
      · rw [fup_n x]
        exact h.1 d hd
    · rw [fup_n (by omega)] at q
      by_cases x : (d - 1) / 4 = 0
      · rw [x, fup_s]
      · rw [fup_n x]
        exact h.2.1 d d1 d2 q
    · have z4 : szF (fup fl 0 1) w = 4 := szF4 (fup_s _ _ _) (by rw [fup_n (by omega)]; exact k1 (w / 16) (by omega))
      rw [z4]
      by_cases x : w % 16 = 0
      · rw [cutF_y (by omega), if_pos x]
        rfl
      · rw [cutF_n (by omega), if_neg x, h.2.2 w hw, szF8 a, if_neg (by omega)]
  · show TR (fup fl (1 + s / 16) 1) (cutF g s 4 2 4)
    have k1 : ∀ x, x < 4 → fl (5 + (4 * (s / 16) + x)) ≠ 1 := fun x hx => h.kid b (by omega) (by omega) (by omega)
    refine ⟨fun d hd => ?_, fun d d1 d2 q => ?_, fun w hw => ?_⟩
    · by_cases x : d = 1 + s / 16
      · rw [x, fup_s]
        exact Or.inr rfl
      · rw [fup_n x]
        exact h.1 d hd
    · by_cases y : d = 1 + s / 16
      · rw [y, fup_n (by omega), show (1 + s / 16 - 1) / 4 = 0 by omega]
        exact a
      · rw [fup_n y] at q
        by_cases x : (d - 1) / 4 = 1 + s / 16
        · rw [x, fup_s]
        · rw [fup_n x]
          exact h.2.1 d d1 d2 q
    · by_cases y : w / 16 = s / 16
      · have z2 : szF (fup fl (1 + s / 16) 1) w = 2 := szF2 (by rw [fup_n (by omega)]; exact a) (by rw [y, fup_s]) (by
          rw [fup_n (by omega), show 5 + w / 4 = 5 + (4 * (s / 16) + (w / 4 - 4 * (s / 16))) by omega]
          exact k1 _ (by omega))
        rw [z2]
        by_cases x : w % 4 = 0
        · rw [cutF_y (by omega), if_pos x]
          rfl
        · rw [cutF_n (by omega), if_neg x, h.2.2 w hw, szF4 a (by rw [y]; exact b), if_neg (by omega)]
      · rw [cutF_n (by omega), h.2.2 w hw]
        have e : szF (fup fl (1 + s / 16) 1) w = szF fl w := by
          unfold szF
          rw [fup_n (by omega), fup_n (by omega), fup_n (by omega)]
        rw [e]
  · show TR (fup fl (5 + s / 4) 1) (cutF g s 1 1 4)
    refine ⟨fun d hd => ?_, fun d d1 d2 q => ?_, fun w hw => ?_⟩
    · by_cases x : d = 5 + s / 4
      · rw [x, fup_s]
        exact Or.inr rfl
      · rw [fup_n x]
        exact h.1 d hd
    · rw [fup_n (show (d - 1) / 4 ≠ 5 + s / 4 by omega)]
      by_cases y : d = 5 + s / 4
      · rw [y, show (5 + s / 4 - 1) / 4 = 1 + s / 16 by omega]
        exact b
      · rw [fup_n y] at q
        exact h.2.1 d d1 d2 q
    · by_cases y : w / 4 = s / 4
      · have z1 : szF (fup fl (5 + s / 4) 1) w = 1 := szF1 (by rw [fup_n (by omega)]; exact a) (by rw [fup_n (by omega), show w / 16 = s / 16 by omega]; exact b) (by rw [y, fup_s])
        rw [z1, cutF_y (by omega), if_pos (Nat.mod_one _)]
        rfl
      · rw [cutF_n (by omega), h.2.2 w hw]
        have e : szF (fup fl (5 + s / 4) 1) w = szF fl w := by
          unfold szF
          rw [fup_n (by omega), fup_n (by omega), fup_n (by omega)]
        rw [e]
  · omega
theorem jn_at (g : Nat → Int) (s z j : Nat) : jnF g s z j = if j = fst4 s z then ((2 * z : Nat) : Int) else if fst4 s z ≤ j ∧ j < fst4 s z + 2 * z * (2 * z) then 0 else g j := rfl
theorem four_sz {fl g : Nat → Int} (h : TR fl g) {a z : Nat} (hz : 1 ≤ z) (hm : a % (z * z) = 0) (ha : a + 4 * (z * z) ≤ 64) : four g a z ↔ ∀ q, q < 4 → szF fl (a + q * (z * z)) = z := by
  have hzz : 1 * 1 ≤ z * z := Nat.mul_le_mul hz hz
  have hb : ∀ q, q < 4 → a + q * (z * z) < 64 ∧ (a + q * (z * z)) % (z * z) = 0 := fun q hq => by
    have h3 : q * (z * z) ≤ 3 * (z * z) := Nat.mul_le_mul_right _ (by omega)
    refine ⟨by omega, ?_⟩
    rw [Nat.add_mul_mod_self_right]
    exact hm
  constructor
  · intro hf q hq
    have e := hf q hq
    have := (h.at (hb q hq).1 (by omega)).1
    omega
  · intro hf q hq
    have e := h.2.2 _ (hb q hq).1
    rw [hf q hq, if_pos (hb q hq).2] at e
    exact e
theorem TR.join {fl g : Nat → Int} (h : TR fl g) {s k z : Nat} (hs : s < 64) (hz : z = 2 ^ k) (hk : k < 3) (hf : ∀ q, q < 4 → szF fl (fst4 s z + q * (z * z)) = z) : TR (fup fl (nodF (fst4 s z) (2 * z)) 0) (jnF g s z) := by
  have hfi := fst4_in hk hz hs
  have hjn := jn_at g s z
  have hmod : fst4 s z % (2 * z * (2 * z)) = 0 := Nat.mul_mod_left _ _
  generalize fst4 s z = a at *
  have h0 := hf 0 (by omega)
  have h1 := hf 1 (by omega)
  have h2 := hf 2 (by omega)
  have h3 := hf 3 (by omega)
  rcases (show k = 0 ∨ k = 1 ∨ k = 2 by omega) with q | q | q <;> subst q <;> subst hz
  · simp only [Nat.pow_zero, Nat.mul_one, Nat.zero_mul, Nat.one_mul, Nat.add_zero, Nat.reduceMul] at h0 h1 h2 h3 hfi hmod hjn ⊢
    have n0 : ∀ x, x < 4 → fl 0 = 1 ∧ fl (1 + (a + x) / 16) = 1 ∧ fl (5 + (a + x) / 4) = 1 := by
      intro x hx
      have e : szF fl (a + x) = 1 := by
        rcases (show x = 0 ∨ x = 1 ∨ x = 2 ∨ x = 3 by omega) with q | q | q | q <;> subst q
        · exact h0
        · exact h1
        · exact h2
        · exact h3
      rcases szF_c fl (a + x) with ⟨_, y⟩ | ⟨_, _, y⟩ | ⟨_, _, _, y⟩ | ⟨y1, y2, y3, y⟩
      · omega
      · omega
      · omega
      · exact ⟨y1, y2, y3⟩
    obtain ⟨y1, y2, y3⟩ := n0 0 (by omega)
    rw [Nat.add_zero] at y2 y3
    show TR (fup fl (5 + a / 4) 0) _
    refine ⟨fun d hd => ?_, fun d d1 d2 q => ?_, fun w hw => ?_⟩
    · by_cases x : d = 5 + a / 4
      · rw [x, fup_s]
        exact Or.inl rfl
      · rw [fup_n x]
        exact h.1 d hd
    · rw [fup_n (show (d - 1) / 4 ≠ 5 + a / 4 by omega)]
      by_cases y : d = 5 + a / 4
      · rw [y, fup_s] at q
        exact absurd q (by omega)
      · rw [fup_n y] at q
        exact h.2.1 d d1 d2 q
    · rw [hjn w]
      by_cases y : w / 4 = a / 4
      · have z2 : szF (fup fl (5 + a / 4) 0) w = 2 := szF2 (by rw [fup_n (by omega)]; exact y1) (by rw [fup_n (by omega), show w / 16 = a / 16 by omega]; exact y2) (by rw [y, fup_s]; omega)
        rw [z2]
        by_cases x : w = a
        · rw [if_pos x, if_pos (by omega)]
        · rw [if_neg x, if_pos (by omega), if_neg (by omega)]
      · rw [if_neg (by omega), if_neg (by omega), h.2.2 w hw]
        have e : szF (fup fl (5 + a / 4) 0) w = szF fl w := by
          unfold szF
          rw [fup_n (by omega), fup_n (by omega), fup_n (by omega)]
        rw [e]
  · simp only [Nat.pow_one, Nat.mul_one, Nat.zero_mul, Nat.one_mul, Nat.add_zero, Nat.reduceMul] at h0 h1 h2 h3 hfi hmod hjn ⊢
    have n0 : ∀ x, x < 4 → fl 0 = 1 ∧ fl (1 + (a + 4 * x) / 16) = 1 ∧ fl (5 + (a + 4 * x) / 4) ≠ 1 := by
      intro x hx
      have e : szF fl (a + 4 * x) = 2 := by
        rcases (show x = 0 ∨ x = 1 ∨ x = 2 ∨ x = 3 by omega) with q | q | q | q <;> subst q
        · exact h0
        · exact h1
        · exact h2
        · exact h3
      rcases szF_c fl (a + 4 * x) with ⟨_, y⟩ | ⟨_, _, y⟩ | ⟨y1, y2, y3, y⟩ | ⟨_, _, _, y⟩
      · omega
      · omega
      · exact ⟨y1, y2, y3⟩
      · omega
    obtain ⟨y1, y2, -⟩ := n0 0 (by omega)
    rw [Nat.mul_zero, Nat.add_zero] at y2
    have kk : ∀ x, x < 4 → fl (5 + (4 * (a / 16) + x)) ≠ 1 := fun x hx => by
      have := (n0 x hx).2.2
      rw [show 5 + (a + 4 * x) / 4 = 5 + (4 * (a / 16) + x) by omega] at this
      exact this
    show TR (fup fl (1 + a / 16) 0) _
    refine ⟨fun d hd => ?_, fun d d1 d2 q => ?_, fun w hw => ?_⟩
    · by_cases x : d = 1 + a / 16
      · rw [x, fup_s]
        exact Or.inl rfl
      · rw [fup_n x]
        exact h.1 d hd
    · by_cases y : d = 1 + a / 16
      · rw [y, fup_s] at q
        exact absurd q (by omega)
      · rw [fup_n y] at q
        by_cases x : (d - 1) / 4 = 1 + a / 16
        · refine absurd q ?_
          have := kk (d - 5 - 4 * (a / 16)) (by omega)
          rw [show 5 + (4 * (a / 16) + (d - 5 - 4 * (a / 16))) = d by omega] at this
          exact this
        · rw [fup_n x]
          exact h.2.1 d d1 d2 q
    · rw [hjn w]
      by_cases y : w / 16 = a / 16
      · have z4 : szF (fup fl (1 + a / 16) 0) w = 4 := szF4 (by rw [fup_n (by omega)]; exact y1) (by rw [y, fup_s]; omega)
        rw [z4]
        by_cases x : w = a
        · rw [if_pos x, if_pos (by omega)]
        · rw [if_neg x, if_pos (by omega), if_neg (by omega)]
      · rw [if_neg (by omega), if_neg (by omega), h.2.2 w hw]
        have e : szF (fup fl (1 + a / 16) 0) w = szF fl w := by
          unfold szF
          rw [fup_n (by omega), fup_n (by omega), fup_n (by omega)]
        rw [e]
  · simp only [Nat.mul_one, Nat.zero_mul, Nat.one_mul, Nat.add_zero, Nat.reduceMul, Nat.reducePow] at h0 h1 h2 h3 hfi hmod hjn ⊢
    have ha : a = 0 := by omega
    subst ha
    have n0 : ∀ x, x < 4 → fl 0 = 1 ∧ fl (1 + (0 + 16 * x) / 16) ≠ 1 := by
      intro x hx
      have e : szF fl (0 + 16 * x) = 4 := by
        rcases (show x = 0 ∨ x = 1 ∨ x = 2 ∨ x = 3 by omega) with q | q | q | q <;> subst q
        · exact h0
        · exact h1
        · exact h2
        · exact h3
      rcases szF_c fl (0 + 16 * x) with ⟨_, y⟩ | ⟨y1, y2, y⟩ | ⟨_, _, _, y⟩ | ⟨_, _, _, y⟩
      · omega
      · exact ⟨y1, y2⟩
      · omega
      · omega
    have kk : ∀ x, x < 4 → fl (1 + x) ≠ 1 := fun x hx => by
      have := (n0 x hx).2
      rw [show 1 + (0 + 16 * x) / 16 = 1 + x by omega] at this
      exact this
    show TR (fup fl 0 0) _
    refine ⟨fun d hd => ?_, fun d d1 d2 q => ?_, fun w hw => ?_⟩
    · by_cases x : d = 0
      · rw [x, fup_s]
        exact Or.inl rfl
      · rw [fup_n x]
        exact h.1 d hd
    · rw [fup_n (by omega)] at q
      by_cases x : (d - 1) / 4 = 0
      · refine absurd q ?_
        have := kk (d - 1) (by omega)
        rw [show 1 + (d - 1) = d by omega] at this
        exact this
      · refine absurd (h.2.1 d d1 d2 q) ?_
        have := kk ((d - 1) / 4 - 1) (by omega)
        rw [show 1 + ((d - 1) / 4 - 1) = (d - 1) / 4 by omega] at this
        exact this
    · rw [hjn w, szF8 (by rw [fup_s]; omega)]
      by_cases x : w = 0
      · rw [if_pos x, if_pos (by omega)]
      · rw [if_neg x, if_pos (by omega), if_neg (by omega)]
theorem lst_neg {g : Nat → Int} {e : Int} (h : e < 0) : lst g e = -1 := by
  unfold lst
  rcases lstA_R (g := g) (e := e) 64 0 with a | ⟨r, -, -, -, d⟩
  · exact a
  · have := cntP_R g r
    omega
theorem stp_tab : ∀ r : Nat, r < 8 → ∀ c : Nat, c < 8 → rowN (2 * sprN r + sprN c).toNat = r ∧ colN (2 * sprN r + sprN c).toNat = c ∧ (2 * sprN r + sprN c).toNat < 64 := by decide +kernel
theorem stp_inv : ∀ s : Nat, s < 64 → (2 * sprN (rowN s).toNat + sprN (colN s).toNat).toNat = s := by decide +kernel

set_option maxRecDepth 100000 in
set_option maxHeartbeats 4000000 in
theorem c_X7_noLeaf {l : Launch} {D : gD} {σ : Wd} {m n tn pl : Nat} {hs de : Int} {R P A ch rv W mk ls sp : Nat → Int} {t e : Int} {S : MS} (h : RM D σ m n hs tn pl de R P A ch rv W mk ls sp) (hO : RO R S) (ht : R32 t) (he : R32 e) : KX7_noLeaf l D [.ref m, vi t, vi e] σ (fun x σ' => x = (if lstT S t e = -1 then 1 else 0) ∧ σ' = σ) := by
  refine sp_of (by decide +kernel) (cat1 rfl) (Nat.le_of_ble_eq_true rfl) [some (.ref m), some (vi t), some (vi e)] rfl (fun sz => ?_)
  refine j_iload_n dX7_noLeaf_0 rfl ?_
  refine cl_X7_62 (As := [_]) rfl dX7_noLeaf_1 (c_X7_noTable ht) rfl ⟨by decide, by decide⟩ (Nat.le_of_ble_eq_true rfl) ⟨Nat.zero_le _, Nat.zero_le _⟩ (fun z1 σ1 hz1 => ?_)
  obtain ⟨hr1, hs1⟩ := hz1
  have hr1 := Eq.symm hr1
  have hs1 := Eq.symm hs1
  subst hr1
  subst hs1
  refine j_if_ne (tgt := 20) dX7_noLeaf_4 (by decide) R_ite0 (fun q4 => ?_) (fun q4 => ?_)
  · skip
    have aat := nt1 q4
    have hl : lstT S t e = -1 := if_neg aat
    refine j_iconst dX7_noLeaf_20 ?_
    refine j_goto (tgt := 25) dX7_noLeaf_21 (by decide) ?_
    exact j_zret dX7_noLeaf_25 (by omega) ⟨_, rfl, (if_pos hl).symm, rfl⟩
  · skip
    have aat := nt0 q4
    have hl : lstT S t e = lst (S.2.2 t.toNat) e := if_pos aat
    refine j_iload_n dX7_noLeaf_7 rfl ?_
    refine j_if_lt (tgt := 20) dX7_noLeaf_8 (by decide) he (fun h8 => ?_) (fun h8 => ?_)
    · skip
      have hn := lst_neg (g := S.2.2 t.toNat) h8
      refine j_iconst dX7_noLeaf_20 ?_
      refine j_goto (tgt := 25) dX7_noLeaf_21 (by decide) ?_
      exact j_zret dX7_noLeaf_25 (by omega) ⟨_, rfl, (if_pos (hl.trans hn)).symm, rfl⟩
    · skip
      refine j_aload_n dX7_noLeaf_11 rfl ?_
      refine j_iload_n dX7_noLeaf_12 rfl ?_
      refine j_iload_n dX7_noLeaf_13 rfl ?_
      have hK := c_X7_beginOf (l := l) (t := t.toNat) h (hO.2.2 t.toNat (by omega)) (by omega) he
      rw [Int.toNat_of_nonneg (a := t) (by omega)] at hK
      refine cl_X7_127 (As := [_, _]) rfl dX7_noLeaf_14 (hK) h.1 rfl ⟨by decide, by decide⟩ (Nat.le_of_ble_eq_true rfl) ⟨Nat.zero_le _, Nat.zero_le _⟩ (fun z14 σ14 hz14 => ?_)
      obtain ⟨hr14, hs14⟩ := hz14
      have hr14 := Eq.symm hr14
      have hs14 := Eq.symm hs14
      subst hr14
      subst hs14
      have hlR := lstT_R S t e
      rw [hl] at hlR
      refine j_if_ge (tgt := 24) dX7_noLeaf_17 (by decide) (by split <;> exact rs (by omega) (by omega)) (fun h17 => ?_) (fun h17 => ?_)
      · skip
        have hn : ¬ lst (S.2.2 t.toNat) e = -1 := by
          intro q
          rw [if_pos q] at h17
          omega
        refine j_iconst dX7_noLeaf_24 ?_
        exact j_zret dX7_noLeaf_25 (by omega) ⟨_, rfl, (if_neg (fun q => hn (hl.symm.trans q))).symm, rfl⟩
      · skip
        have hn : lst (S.2.2 t.toNat) e = -1 := by
          apply Classical.byContradiction
          intro q
          rw [if_neg q] at h17
          omega
        refine j_iconst dX7_noLeaf_20 ?_
        refine j_goto (tgt := 25) dX7_noLeaf_21 (by decide) ?_
        exact j_zret dX7_noLeaf_25 (by omega) ⟨_, rfl, (if_pos (hl.trans hn)).symm, rfl⟩
set_option maxRecDepth 100000 in
set_option maxHeartbeats 4000000 in
theorem c_X7_notZero {l : Launch} {D : gD} {σ : Wd} {m n tn pl : Nat} {hs de : Int} {R P A ch rv W mk ls sp : Nat → Int} {t : Nat} {S : MS} (h : RM D σ m n hs tn pl de R P A ch rv W mk ls sp) (hO : RO R S) (hWS : WS S) (ht : t < 4) : KX7_notZero l D [.ref m, vi t] σ (fun x σ' => x = cntN (S.2.1 t) (fun _ => 0) 64 ∧ σ' = σ) := by
  have hlo := primeB_lo hWS.1
  refine sp_of (by decide +kernel) (cat1 rfl) (Nat.le_of_ble_eq_true rfl) [some (.ref m), some (vi t), none, none] rfl (fun sz => ?_)
  refine j_iconst dX7_notZero_0 ?_
  refine j_istore_n dX7_notZero_1 (by decide) (by dsimp only [List.set] <;> rfl) ?_
  refine j_iconst dX7_notZero_2 ?_
  refine j_istore_n dX7_notZero_3 (by decide) (by dsimp only [List.set] <;> rfl) ?_
  have lp4 : ∀ (nn i : Nat) (x : Int), 65 - i < nn → i ≤ 64 → x = cntN (S.2.1 t) (fun _ => 0) i → J l D yX7_notZero cX7_notZero 4 (some .int) rmX7_notZero sz (AA σ sz) (QI D σ sz (fun x σ' => x = cntN (S.2.1 t) (fun _ => 0) 64 ∧ σ' = σ)) 0 0 4 [some (.ref m), some (vi t), some (vi x), some (vi i)] [] σ := by
    intro nn
    induction nn with
    | zero =>
      intro i x hnn hi hx
      exfalso
      omega
    | succ nn ih4 =>
      intro i x hnn hi hx
      refine j_iload_n dX7_notZero_4 rfl ?_
      refine j_bipush dX7_notZero_5 (by decide) ?_
      refine j_icmp_ge (tgt := 40) dX7_notZero_7 (by decide) ⟨by omega, by omega⟩ ⟨by omega, by omega⟩ (fun h7 => ?_) (fun h7 => ?_)
      · skip
        refine j_iload_n dX7_notZero_40 rfl ?_
        exact j_iret dX7_notZero_41 ⟨_, rfl, by rw [hx, show i = 64 by omega], rfl⟩
      · skip
        refine j_iload_n dX7_notZero_10 rfl ?_
        refine j_aload_n dX7_notZero_11 rfl ?_
        refine gf_X7_7 rfl dX7_notZero_12 h.1 rfl ?_
        refine j_iconst dX7_notZero_15 ?_
        refine j_bipush dX7_notZero_16 (by decide) ?_
        refine j_iload_n dX7_notZero_18 rfl ?_
        refine j_imul dX7_notZero_19 ?_
        refine j_iadd dX7_notZero_20 ?_
        refine j_iload_n dX7_notZero_21 rfl ?_
        refine j_iadd dX7_notZero_22 ?_
        rw [show (1 : Int) + 64 * (t : Int) + (i : Int) = ((1 + 64 * t + i : Nat) : Int) from rfl]
        refine jj_iald dX7_notZero_23 h.2.1 (by omega) (by omega) ⟨by omega, by omega⟩ ?_
        refine j_tops (show _ = S.2.1 t i from hO.2.1 t ht i (by omega)) ?_
        have hcb := (hWS.2 t ht).1 i (by omega)
        refine j_if_ne (tgt := 31) dX7_notZero_24 (by decide) (rs (by omega) (by omega)) (fun h24 => ?_) (fun h24 => ?_)
        · skip
          refine j_iconst dX7_notZero_31 ?_
          refine j_iadd dX7_notZero_32 ?_
          refine j_istore_n dX7_notZero_33 (by decide) (by dsimp only [List.set] <;> rfl) ?_
          refine j_iinc dX7_notZero_34 rfl (by decide) (by dsimp only [List.set] <;> rfl) ?_
          refine j_goto (tgt := 4) dX7_notZero_37 (by decide) ?_
          have hih := ih4 (i + 1) (x + 1) (by omega) (by omega) (by rw [hx]; show _ = cntN (S.2.1 t) (fun _ => 0) i + (if S.2.1 t i = 0 then 0 else 1); rw [if_neg h24])
          refine j_weak ?_ hih
          exact ⟨rfl, rfl, rfl, rfl, trivial⟩
        · skip
          refine j_iconst dX7_notZero_27 ?_
          refine j_goto (tgt := 32) dX7_notZero_28 (by decide) ?_
          refine j_iadd dX7_notZero_32 ?_
          refine j_istore_n dX7_notZero_33 (by decide) (by dsimp only [List.set] <;> rfl) ?_
          refine j_iinc dX7_notZero_34 rfl (by decide) (by dsimp only [List.set] <;> rfl) ?_
          refine j_goto (tgt := 4) dX7_notZero_37 (by decide) ?_
          have hih := ih4 (i + 1) (x + 0) (by omega) (by omega) (by rw [hx]; show _ = cntN (S.2.1 t) (fun _ => 0) i + (if S.2.1 t i = 0 then 0 else 1); rw [if_pos (by omega)])
          refine j_weak ?_ hih
          exact ⟨rfl, rfl, rfl, rfl, trivial⟩
  exact lp4 70 0 0 (by omega) (by omega) rfl
set_option maxRecDepth 100000 in
set_option maxHeartbeats 4000000 in
theorem c_X7_diagonal {l : Launch} {D : gD} {σ : Wd} {m n tn pl : Nat} {hs de : Int} {R P A ch rv W mk ls sp : Nat → Int} {t : Nat} {S : MS} (h : RM D σ m n hs tn pl de R P A ch rv W mk ls sp) (hO : RO R S) (hWS : WS S) (ht : t < 4) : KX7_diagonal l D [.ref m, vi t] σ (fun x σ' => x = sumF (fun j => S.2.1 t (9 * j)) 8 % S.1 ∧ σ' = σ) := by
  have hlo := primeB_lo hWS.1
  refine sp_of (by decide +kernel) (cat1 rfl) (Nat.le_of_ble_eq_true rfl) [some (.ref m), some (vi t), none, none] rfl (fun sz => ?_)
  refine j_iconst dX7_diagonal_0 ?_
  refine j_istore_n dX7_diagonal_1 (by decide) (by dsimp only [List.set] <;> rfl) ?_
  refine j_iconst dX7_diagonal_2 ?_
  refine j_istore_n dX7_diagonal_3 (by decide) (by dsimp only [List.set] <;> rfl) ?_
  have lp4 : ∀ (nn i : Nat) (x : Int), 9 - i < nn → i ≤ 8 → x = sumF (fun j => S.2.1 t (9 * j)) i → J l D yX7_diagonal cX7_diagonal 4 (some .int) rmX7_diagonal sz (AA σ sz) (QI D σ sz (fun x σ' => x = sumF (fun j => S.2.1 t (9 * j)) 8 % S.1 ∧ σ' = σ)) 0 0 4 [some (.ref m), some (vi t), some (vi x), some (vi i)] [] σ := by
    intro nn
    induction nn with
    | zero =>
      intro i x hnn hi hx
      exfalso
      omega
    | succ nn ih4 =>
      intro i x hnn hi hx
      have hxR := sumF_R (f := fun j => S.2.1 t (9 * j)) (b := 251) (n := i) (fun j hj => by have := (hWS.2 t ht).1 (9 * j) (by omega); omega)
      rw [← hx] at hxR
      refine j_iload_n dX7_diagonal_4 rfl ?_
      refine j_bipush dX7_diagonal_5 (by decide) ?_
      refine j_icmp_ge (tgt := 26) dX7_diagonal_7 (by decide) ⟨by omega, by omega⟩ ⟨by omega, by omega⟩ (fun h7 => ?_) (fun h7 => ?_)
      · skip
        refine j_aload_n dX7_diagonal_26 rfl ?_
        refine j_iload_n dX7_diagonal_27 rfl ?_
        refine cl_X7_54 (As := [_]) rfl dX7_diagonal_28 (c_X7_mod h hO.1 (by omega) (by omega) (rs (by omega) (by omega))) h.1 rfl ⟨by decide, by decide⟩ (Nat.le_of_ble_eq_true rfl) ⟨Nat.zero_le _, Nat.zero_le _⟩ (fun z28 σ28 hz28 => ?_)
        obtain ⟨hr28, hs28⟩ := hz28
        have hr28 := Eq.symm hr28
        have hs28 := Eq.symm hs28
        subst hr28
        subst hs28
        exact j_iret dX7_diagonal_31 ⟨_, rfl, by rw [hx, show i = 8 by omega], rfl⟩
      · skip
        refine j_iload_n dX7_diagonal_10 rfl ?_
        refine j_aload_n dX7_diagonal_11 rfl ?_
        refine j_iload_n dX7_diagonal_12 rfl ?_
        refine j_iload_n dX7_diagonal_13 rfl ?_
        refine j_iload_n dX7_diagonal_14 rfl ?_
        refine cl_X7_139 (As := [_, _, _]) rfl dX7_diagonal_15 (c_X7_cellOf (t := t) (r := i) (c := i) h hO ht (by omega) (by omega)) h.1 rfl ⟨by decide, by decide⟩ (Nat.le_of_ble_eq_true rfl) ⟨Nat.zero_le _, Nat.zero_le _⟩ (fun z15 σ15 hz15 => ?_)
        obtain ⟨hr15, hs15⟩ := hz15
        have hr15 := Eq.symm hr15
        have hs15 := Eq.symm hs15
        subst hr15
        subst hs15
        refine j_tops (show S.2.1 t (8 * i + i) = S.2.1 t (9 * i) by rw [show 8 * i + i = 9 * i by omega]) ?_
        refine j_iadd dX7_diagonal_18 ?_
        refine j_istore_n dX7_diagonal_19 (by decide) (by dsimp only [List.set] <;> rfl) ?_
        refine j_iinc dX7_diagonal_20 rfl (by decide) (by dsimp only [List.set] <;> rfl) ?_
        refine j_goto (tgt := 4) dX7_diagonal_23 (by decide) ?_
        have hih := ih4 (i + 1) (x + S.2.1 t (9 * i)) (by omega) (by omega) (by rw [hx]; rfl)
        refine j_weak ?_ hih
        exact ⟨rfl, rfl, rfl, rfl, trivial⟩
  exact lp4 10 0 0 (by omega) (by omega) rfl
set_option maxRecDepth 100000 in
set_option maxHeartbeats 4000000 in
theorem c_X7_differ {l : Launch} {D : gD} {σ : Wd} {m n tn : Nat} {hs : Int} {S SN : MS} {H : Nat → MS} {ch : Nat → Int} {t u : Int} (h0 : RS D σ m S SN hs n H tn ch) (hWS : WS S) (ht : R32 t) (hu : R32 u) : KX7_differ l D [.ref m, vi t, vi u] σ (fun x σ' => x = (if (0 ≤ t ∧ t < 4) ∧ (0 ≤ u ∧ u < 4) then cntN (S.2.1 t.toNat) (S.2.1 u.toNat) 64 else -1) ∧ σ' = σ) := by
  obtain ⟨pl, de, R, P, A, rv, W, mk, ls, sp, h, hO, hP, hA, hn4, htn, hch⟩ := h0
  have hlo := primeB_lo hWS.1
  have hg := fun t ht => (hWS.2 t ht).2
  have hF := fun t ht => (hWS.2 t ht).1
  refine sp_of (by decide +kernel) (cat1 rfl) (Nat.le_of_ble_eq_true rfl) [some (.ref m), some (vi t), some (vi u), none, none] rfl (fun sz => ?_)
  refine j_iload_n dX7_differ_0 rfl ?_
  refine cl_X7_62 (As := [_]) rfl dX7_differ_1 (c_X7_noTable ht) rfl ⟨by decide, by decide⟩ (Nat.le_of_ble_eq_true rfl) ⟨Nat.zero_le _, Nat.zero_le _⟩ (fun z1 σ1 hz1 => ?_)
  obtain ⟨hr1, hs1⟩ := hz1
  have hr1 := Eq.symm hr1
  have hs1 := Eq.symm hs1
  subst hr1
  subst hs1
  refine j_if_ne (tgt := 14) dX7_differ_4 (by decide) R_ite0 (fun q4 => ?_) (fun q4 => ?_)
  · skip
    have aat := nt1 q4
    refine j_iconst dX7_differ_14 ?_
    exact j_iret dX7_differ_15 ⟨_, rfl, by rw [if_neg (by omega)], rfl⟩
  · skip
    have aat := nt0 q4
    refine j_iload_n dX7_differ_7 rfl ?_
    refine cl_X7_62 (As := [_]) rfl dX7_differ_8 (c_X7_noTable hu) rfl ⟨by decide, by decide⟩ (Nat.le_of_ble_eq_true rfl) ⟨Nat.zero_le _, Nat.zero_le _⟩ (fun z8 σ8 hz8 => ?_)
    obtain ⟨hr8, hs8⟩ := hz8
    have hr8 := Eq.symm hr8
    have hs8 := Eq.symm hs8
    subst hr8
    subst hs8
    refine j_if_eq (tgt := 16) dX7_differ_11 (by decide) R_ite0 (fun q11 => ?_) (fun q11 => ?_)
    · skip
      have aau := nt0 q11
      refine j_iconst dX7_differ_16 ?_
      refine j_istore_n dX7_differ_17 (by decide) (by dsimp only [List.set] <;> rfl) ?_
      refine j_iconst dX7_differ_18 ?_
      refine j_istore dX7_differ_19 (by decide) (by dsimp only [List.set] <;> rfl) ?_
      have lp21 : ∀ (nn i : Nat) (x : Int), 65 - i < nn → i ≤ 64 → x = cntN (S.2.1 t.toNat) (S.2.1 u.toNat) i → J l D yX7_differ cX7_differ 5 (some .int) rmX7_differ sz (AA σ sz) (QI D σ sz (fun x σ' => x = (if (0 ≤ t ∧ t < 4) ∧ (0 ≤ u ∧ u < 4) then cntN (S.2.1 t.toNat) (S.2.1 u.toNat) 64 else -1) ∧ σ' = σ)) 0 0 21 [some (.ref m), some (vi t), some (vi u), some (vi x), some (vi i)] [] σ := by
        intro nn
        induction nn with
        | zero =>
          intro i x hnn hi hx
          exfalso
          omega
        | succ nn ih21 =>
          intro i x hnn hi hx
          refine j_iload dX7_differ_21 rfl ?_
          refine j_bipush dX7_differ_23 (by decide) ?_
          refine j_icmp_ge (tgt := 73) dX7_differ_25 (by decide) ⟨by omega, by omega⟩ ⟨by omega, by omega⟩ (fun h25 => ?_) (fun h25 => ?_)
          · skip
            refine j_iload_n dX7_differ_73 rfl ?_
            exact j_iret dX7_differ_74 ⟨_, rfl, by rw [if_pos (by omega), hx, show i = 64 by omega], rfl⟩
          · skip
            refine j_iload_n dX7_differ_28 rfl ?_
            refine j_aload_n dX7_differ_29 rfl ?_
            refine gf_X7_7 rfl dX7_differ_30 h.1 rfl ?_
            refine j_iconst dX7_differ_33 ?_
            refine j_bipush dX7_differ_34 (by decide) ?_
            refine j_iload_n dX7_differ_36 rfl ?_
            refine j_imul dX7_differ_37 ?_
            refine j_iadd dX7_differ_38 ?_
            refine j_iload dX7_differ_39 rfl ?_
            refine j_iadd dX7_differ_41 ?_
            rw [show (1 : Int) + 64 * t + (i : Int) = ((1 + 64 * t.toNat + i : Nat) : Int) by omega]
            refine jj_iald dX7_differ_42 h.2.1 (by omega) (by omega) ⟨by omega, by omega⟩ ?_
            refine j_tops (show _ = S.2.1 t.toNat i from hO.2.1 t.toNat (by omega) i (by omega)) ?_
            have hc1 := hF t.toNat (by omega) i (by omega)
            refine j_aload_n dX7_differ_43 rfl ?_
            refine gf_X7_7 rfl dX7_differ_44 h.1 rfl ?_
            refine j_iconst dX7_differ_47 ?_
            refine j_bipush dX7_differ_48 (by decide) ?_
            refine j_iload_n dX7_differ_50 rfl ?_
            refine j_imul dX7_differ_51 ?_
            refine j_iadd dX7_differ_52 ?_
            refine j_iload dX7_differ_53 rfl ?_
            refine j_iadd dX7_differ_55 ?_
            rw [show (1 : Int) + 64 * u + (i : Int) = ((1 + 64 * u.toNat + i : Nat) : Int) by omega]
            refine jj_iald dX7_differ_56 h.2.1 (by omega) (by omega) ⟨by omega, by omega⟩ ?_
            refine j_tops (show _ = S.2.1 u.toNat i from hO.2.1 u.toNat (by omega) i (by omega)) ?_
            have hc2 := hF u.toNat (by omega) i (by omega)
            refine j_icmp_ne (tgt := 64) dX7_differ_57 (by decide) (rs (by omega) (by omega)) (rs (by omega) (by omega)) (fun h57 => ?_) (fun h57 => ?_)
            · skip
              refine j_iconst dX7_differ_64 ?_
              refine j_iadd dX7_differ_65 ?_
              refine j_istore_n dX7_differ_66 (by decide) (by dsimp only [List.set] <;> rfl) ?_
              refine j_iinc dX7_differ_67 rfl (by decide) (by dsimp only [List.set] <;> rfl) ?_
              refine j_goto (tgt := 21) dX7_differ_70 (by decide) ?_
              have hih := ih21 (i + 1) (x + 1) (by omega) (by omega) (by rw [hx]; show _ = cntN (S.2.1 t.toNat) (S.2.1 u.toNat) i + (if S.2.1 t.toNat i = S.2.1 u.toNat i then 0 else 1); rw [if_neg h57])
              refine j_weak ?_ hih
              exact ⟨rfl, rfl, rfl, rfl, rfl, trivial⟩
            · skip
              refine j_iconst dX7_differ_60 ?_
              refine j_goto (tgt := 65) dX7_differ_61 (by decide) ?_
              refine j_iadd dX7_differ_65 ?_
              refine j_istore_n dX7_differ_66 (by decide) (by dsimp only [List.set] <;> rfl) ?_
              refine j_iinc dX7_differ_67 rfl (by decide) (by dsimp only [List.set] <;> rfl) ?_
              refine j_goto (tgt := 21) dX7_differ_70 (by decide) ?_
              have hih := ih21 (i + 1) (x + 0) (by omega) (by omega) (by rw [hx]; show _ = cntN (S.2.1 t.toNat) (S.2.1 u.toNat) i + (if S.2.1 t.toNat i = S.2.1 u.toNat i then 0 else 1); rw [if_pos (by omega)])
              refine j_weak ?_ hih
              exact ⟨rfl, rfl, rfl, rfl, rfl, trivial⟩
      exact lp21 70 0 0 (by omega) (by omega) rfl
    · skip
      have aau := nt1 q11
      refine j_iconst dX7_differ_14 ?_
      exact j_iret dX7_differ_15 ⟨_, rfl, by rw [if_neg (by omega)], rfl⟩
set_option maxRecDepth 100000 in
set_option maxHeartbeats 4000000 in
theorem c_X7_lay {l : Launch} {D : gD} {σ : Wd} {m n tn pl : Nat} {hs de : Int} {R P A ch rv W mk ls sp : Nat → Int} {t : Nat} (h : RM D σ m n hs tn pl de R P A ch rv W mk ls sp) (ht : t < 4) : KX7_lay l D [.ref m, vi t] σ (fun σ' => RQ D σ σ' m n hs tn pl de (fun q => if 1 + 64 * t ≤ q ∧ q < 1 + 64 * t + 64 then mk (q - (1 + 64 * t)) else R q) P A ch rv W mk ls sp) := by
  refine sp_of (by decide +kernel) (cat1 rfl) (Nat.le_of_ble_eq_true rfl) [some (.ref m), some (vi t), none] rfl (fun sz => ?_)
  refine j_iconst dX7_lay_0 ?_
  refine j_istore_n dX7_lay_1 (by decide) (by dsimp only [List.set] <;> rfl) ?_
  have lp2 : ∀ (nn i : Nat) (w : Wd), 65 - i < nn → i ≤ 64 → RQ D σ w m n hs tn pl de (fun q => if 1 + 64 * t ≤ q ∧ q < 1 + 64 * t + i then mk (q - (1 + 64 * t)) else R q) P A ch rv W mk ls sp → J l D yX7_lay cX7_lay 3 none rmX7_lay sz (AA σ sz) (QV D σ sz (fun σ' => RQ D σ σ' m n hs tn pl de (fun q => if 1 + 64 * t ≤ q ∧ q < 1 + 64 * t + 64 then mk (q - (1 + 64 * t)) else R q) P A ch rv W mk ls sp)) 0 0 2 [some (.ref m), some (vi t), some (vi i)] [] w := by
    intro nn
    induction nn with
    | zero =>
      intro i w hnn hi hw
      exfalso
      omega
    | succ nn ih2 =>
      intro i w hnn hi hw
      refine j_iload_n dX7_lay_2 rfl ?_
      refine j_bipush dX7_lay_3 (by decide) ?_
      refine j_icmp_ge (tgt := 33) dX7_lay_5 (by decide) ⟨by omega, by omega⟩ ⟨by omega, by omega⟩ (fun h5 => ?_) (fun h5 => ?_)
      · skip
        exact j_vret dX7_lay_33 ⟨rfl, (by rw [show i = 64 by omega] at hw; exact hw)⟩
      · skip
        refine j_aload_n dX7_lay_8 rfl ?_
        refine gf_X7_7 rfl dX7_lay_9 hw.2.1 rfl ?_
        refine j_iconst dX7_lay_12 ?_
        refine j_bipush dX7_lay_13 (by decide) ?_
        refine j_iload_n dX7_lay_15 rfl ?_
        refine j_imul dX7_lay_16 ?_
        refine j_iadd dX7_lay_17 ?_
        refine j_iload_n dX7_lay_18 rfl ?_
        refine j_iadd dX7_lay_19 ?_
        rw [show (1 : Int) + 64 * (t : Int) + (i : Int) = ((1 + 64 * t + i : Nat) : Int) from rfl]
        refine j_aload_n dX7_lay_20 rfl ?_
        refine gf_X7_29 rfl dX7_lay_21 hw.2.1 rfl ?_
        refine j_iload_n dX7_lay_24 rfl ?_
        refine jj_iald dX7_lay_25 hw.2.2.2.2.2.2.2.2.1 (by omega) (by omega) ⟨by omega, by omega⟩ ?_
        refine j_tops (show _ = mk i from rfl) ?_
        refine jj_iast dX7_lay_26 hw.2.2.1 (by omega) (by omega) ⟨by omega, by omega⟩ (fun e26 q26 => ?_)
        have hw2 := hw.row q26
        refine j_iinc dX7_lay_27 rfl (by decide) (by dsimp only [List.set] <;> rfl) ?_
        refine j_goto (tgt := 2) dX7_lay_30 (by decide) ?_
        have hih := ih2 (i + 1) _ (by omega) (by omega) (hw2.rowE (fun k hk => by
          show fup _ (1 + 64 * t + i) _ k = _
          by_cases e : k = 1 + 64 * t + i
          · rw [e, fup_s, if_pos (by omega), show 1 + 64 * t + i - (1 + 64 * t) = i by omega]
          · rw [fup_n e]
            by_cases b : 1 + 64 * t ≤ k ∧ k < 1 + 64 * t + i
            · rw [if_pos b, if_pos (by omega)]
            · rw [if_neg b, if_neg (by omega)]))
        refine j_weak ?_ hih
        exact ⟨rfl, rfl, rfl, trivial⟩
  exact lp2 70 0 _ (by omega) (by omega) (h.rq.rowE (fun k hk => by rw [if_neg (by omega)]))
set_option maxRecDepth 100000 in
set_option maxHeartbeats 4000000 in
theorem c_X7_leafAt {l : Launch} {D : gD} {σ : Wd} {m n tn : Nat} {hs : Int} {S SN : MS} {H : Nat → MS} {ch : Nat → Int} {t r c : Int} (h0 : RS D σ m S SN hs n H tn ch) (hWS : WS S) (ht : R32 t) (hr : R32 r) (hc : R32 c) : KX7_leafAt l D [.ref m, vi t, vi r, vi c] σ (fun x σ' => x = (if ((0 ≤ t ∧ t < 4) ∧ (0 ≤ r ∧ r < 8) ∧ (0 ≤ c ∧ c < 8)) then cntP (S.2.2 t.toNat) (2 * sprN r.toNat + sprN c.toNat + 1).toNat - 1 else -1) ∧ σ' = σ) := by
  obtain ⟨pl, de, R, P, A, rv, W, mk, ls, sp, h, hO, hP, hA, hn4, htn, hch⟩ := h0
  have hlo := primeB_lo hWS.1
  have hg := fun t ht => (hWS.2 t ht).2
  have hF := fun t ht => (hWS.2 t ht).1
  refine sp_of (by decide +kernel) (cat1 rfl) (Nat.le_of_ble_eq_true rfl) [some (.ref m), some (vi t), some (vi r), some (vi c), none] rfl (fun sz => ?_)
  refine j_iload_n dX7_leafAt_0 rfl ?_
  refine cl_X7_62 (As := [_]) rfl dX7_leafAt_1 (c_X7_noTable ht) rfl ⟨by decide, by decide⟩ (Nat.le_of_ble_eq_true rfl) ⟨Nat.zero_le _, Nat.zero_le _⟩ (fun z1 σ1 hz1 => ?_)
  obtain ⟨hr1, hs1⟩ := hz1
  have hr1 := Eq.symm hr1
  have hs1 := Eq.symm hs1
  subst hr1
  subst hs1
  refine j_if_ne (tgt := 21) dX7_leafAt_4 (by decide) R_ite0 (fun q4 => ?_) (fun q4 => ?_)
  · skip
    have aat := nt1 q4
    refine j_iconst dX7_leafAt_21 ?_
    exact j_iret dX7_leafAt_22 ⟨_, rfl, by rw [if_neg (by omega)], rfl⟩
  · skip
    have aat := nt0 q4
    refine j_iload_n dX7_leafAt_7 rfl ?_
    refine cl_X7_65 (As := [_]) rfl dX7_leafAt_8 (c_X7_noPlace hr) rfl ⟨by decide, by decide⟩ (Nat.le_of_ble_eq_true rfl) ⟨Nat.zero_le _, Nat.zero_le _⟩ (fun z8 σ8 hz8 => ?_)
    obtain ⟨hr8, hs8⟩ := hz8
    have hr8 := Eq.symm hr8
    have hs8 := Eq.symm hs8
    subst hr8
    subst hs8
    refine j_if_ne (tgt := 21) dX7_leafAt_11 (by decide) R_ite0 (fun q11 => ?_) (fun q11 => ?_)
    · skip
      have ar := nt1 q11
      refine j_iconst dX7_leafAt_21 ?_
      exact j_iret dX7_leafAt_22 ⟨_, rfl, by rw [if_neg (by omega)], rfl⟩
    · skip
      have ar := nt0 q11
      refine j_iload_n dX7_leafAt_14 rfl ?_
      refine cl_X7_65 (As := [_]) rfl dX7_leafAt_15 (c_X7_noPlace hc) rfl ⟨by decide, by decide⟩ (Nat.le_of_ble_eq_true rfl) ⟨Nat.zero_le _, Nat.zero_le _⟩ (fun z15 σ15 hz15 => ?_)
      obtain ⟨hr15, hs15⟩ := hz15
      have hr15 := Eq.symm hr15
      have hs15 := Eq.symm hs15
      subst hr15
      subst hs15
      refine j_if_eq (tgt := 23) dX7_leafAt_18 (by decide) R_ite0 (fun q18 => ?_) (fun q18 => ?_)
      · skip
        have ac := nt0 q18
        obtain ⟨p1, p2, p3⟩ := stp_tab r.toNat (by omega) c.toNat (by omega)
        have hs0 : 0 ≤ 2 * sprN r.toNat + sprN c.toNat := by unfold sprN; omega
        refine j_iconst dX7_leafAt_23 ?_
        refine j_istore dX7_leafAt_24 (by decide) (by dsimp only [List.set] <;> rfl) ?_
        have lp26 : ∀ (nn s : Nat), 65 - s < nn → s ≤ (2 * sprN r.toNat + sprN c.toNat).toNat → J l D yX7_leafAt cX7_leafAt 5 (some .int) rmX7_leafAt sz (AA σ sz) (QI D σ sz (fun x σ' => x = (if ((0 ≤ t ∧ t < 4) ∧ (0 ≤ r ∧ r < 8) ∧ (0 ≤ c ∧ c < 8)) then cntP (S.2.2 t.toNat) (2 * sprN r.toNat + sprN c.toNat + 1).toNat - 1 else -1) ∧ σ' = σ)) 0 0 26 [some (.ref m), some (vi t), some (vi r), some (vi c), some (vi s)] [] σ := by
          intro nn
          induction nn with
          | zero =>
            intro s hnn hs
            exfalso
            omega
          | succ nn ih26 =>
            intro s hnn hs
            refine j_iload dX7_leafAt_26 rfl ?_
            refine cl_X7_94 (As := [_]) rfl dX7_leafAt_28 (c_X7_rowOf (s := s) (by omega)) rfl ⟨by decide, by decide⟩ (Nat.le_of_ble_eq_true rfl) ⟨Nat.zero_le _, Nat.zero_le _⟩ (fun z28 σ28 hz28 => ?_)
            obtain ⟨hr28, hs28⟩ := hz28
            have hr28 := Eq.symm hr28
            have hs28 := Eq.symm hs28
            subst hr28
            subst hs28
            have hrR := rowN_R s
            have hcR := colN_R s
            refine j_iload_n dX7_leafAt_31 rfl ?_
            refine j_icmp_ne (tgt := 44) dX7_leafAt_32 (by decide) (rs (by omega) (by omega)) hr (fun h32 => ?_) (fun h32 => ?_)
            · skip
              refine j_iinc dX7_leafAt_44 rfl (by decide) (by dsimp only [List.set] <;> rfl) ?_
              refine j_goto (tgt := 26) dX7_leafAt_47 (by decide) ?_
              have hne : s ≠ (2 * sprN r.toNat + sprN c.toNat).toNat := fun q => h32 (by rw [q]; omega)
              have hih := ih26 (s + 1) (by omega) (by omega)
              refine j_weak ?_ hih
              exact ⟨rfl, rfl, rfl, rfl, rfl, trivial⟩
            · skip
              refine j_iload dX7_leafAt_35 rfl ?_
              refine cl_X7_97 (As := [_]) rfl dX7_leafAt_37 (c_X7_columnOf (s := s) (by omega)) rfl ⟨by decide, by decide⟩ (Nat.le_of_ble_eq_true rfl) ⟨Nat.zero_le _, Nat.zero_le _⟩ (fun z37 σ37 hz37 => ?_)
              obtain ⟨hr37, hs37⟩ := hz37
              have hr37 := Eq.symm hr37
              have hs37 := Eq.symm hs37
              subst hr37
              subst hs37
              refine j_iload_n dX7_leafAt_40 rfl ?_
              refine j_icmp_eq (tgt := 50) dX7_leafAt_41 (by decide) (rs (by omega) (by omega)) hc (fun h41 => ?_) (fun h41 => ?_)
              · skip
                refine j_aload_n dX7_leafAt_50 rfl ?_
                refine j_iload_n dX7_leafAt_51 rfl ?_
                refine j_iload dX7_leafAt_52 rfl ?_
                refine j_iconst dX7_leafAt_54 ?_
                refine j_iadd dX7_leafAt_55 ?_
                have hse : s = (2 * sprN r.toNat + sprN c.toNat).toNat := by
                  have := stp_inv s (by omega)
                  rw [show (rowN s).toNat = r.toNat by omega, show (colN s).toNat = c.toNat by omega] at this
                  exact this.symm
                have hK := c_X7_leavesTo (l := l) (t := t.toNat) (e := s + 1) h (hO.2.2 t.toNat (by omega)) (by omega) (by omega)
                rw [Int.toNat_of_nonneg (a := t) (by omega)] at hK
                refine cl_X7_157 (As := [_, _]) rfl dX7_leafAt_56 (hK) h.1 rfl ⟨by decide, by decide⟩ (Nat.le_of_ble_eq_true rfl) ⟨Nat.zero_le _, Nat.zero_le _⟩ (fun z56 σ56 hz56 => ?_)
                obtain ⟨hr56, hs56⟩ := hz56
                have hr56 := Eq.symm hr56
                have hs56 := Eq.symm hs56
                subst hr56
                subst hs56
                refine j_iconst dX7_leafAt_59 ?_
                refine j_isub dX7_leafAt_60 ?_
                exact j_iret dX7_leafAt_61 ⟨_, rfl, by rw [if_pos (by omega), show (2 * sprN r.toNat + sprN c.toNat + 1).toNat = s + 1 by omega], rfl⟩
              · skip
                refine j_iinc dX7_leafAt_44 rfl (by decide) (by dsimp only [List.set] <;> rfl) ?_
                refine j_goto (tgt := 26) dX7_leafAt_47 (by decide) ?_
                have hne : s ≠ (2 * sprN r.toNat + sprN c.toNat).toNat := fun q => h41 (by rw [q]; omega)
                have hih := ih26 (s + 1) (by omega) (by omega)
                refine j_weak ?_ hih
                exact ⟨rfl, rfl, rfl, rfl, rfl, trivial⟩
        exact lp26 70 0 (by omega) (by omega)
      · skip
        have ac := nt1 q18
        refine j_iconst dX7_leafAt_21 ?_
        exact j_iret dX7_leafAt_22 ⟨_, rfl, by rw [if_neg (by omega)], rfl⟩
set_option maxRecDepth 100000 in
set_option maxHeartbeats 4000000 in
theorem c_X7_overTables {l : Launch} {D : gD} {σ : Wd} {m n tn pl : Nat} {hs de : Int} {R P A ch rv W mk ls sp : Nat → Int} {b : Int} {S : MS} (h : RM D σ m n hs tn pl de R P A ch rv W mk ls sp) (hO : RO R S) (hWS : WS S) (hb : b = 0 ∨ b = 1) : KX7_overTables l D [.ref m, vi b] σ (fun x σ' => x = (if b = 1 then sumF (fun t => sumF (cst S.1 (S.2.1 t) (S.2.2 t)) 64) 4 else sumF (fun t => cntP (S.2.2 t) 64) 4) ∧ ∃ de' W', RQ D σ σ' m n hs tn pl de' R P A ch rv W' mk ls sp) := by
  refine sp_of (by decide +kernel) (cat1 rfl) (Nat.le_of_ble_eq_true rfl) [some (.ref m), some (vi b), none, none] rfl (fun sz => ?_)
  refine j_iconst dX7_overTables_0 ?_
  refine j_istore_n dX7_overTables_1 (by decide) (by dsimp only [List.set] <;> rfl) ?_
  refine j_iconst dX7_overTables_2 ?_
  refine j_istore_n dX7_overTables_3 (by decide) (by dsimp only [List.set] <;> rfl) ?_
  have lp4 : ∀ (nn t : Nat) (x de1 : Int) (W1 : Nat → Int) (w : Wd), 5 - t < nn → t ≤ 4 → x = (if b = 1 then sumF (fun t => sumF (cst S.1 (S.2.1 t) (S.2.2 t)) 64) t else sumF (fun t => cntP (S.2.2 t) 64) t) → RQ D σ w m n hs tn pl de1 R P A ch rv W1 mk ls sp → J l D yX7_overTables cX7_overTables 4 (some .int) rmX7_overTables sz (AA σ sz) (QI D σ sz (fun x σ' => x = (if b = 1 then sumF (fun t => sumF (cst S.1 (S.2.1 t) (S.2.2 t)) 64) 4 else sumF (fun t => cntP (S.2.2 t) 64) 4) ∧ ∃ de' W', RQ D σ σ' m n hs tn pl de' R P A ch rv W' mk ls sp)) 0 0 4 [some (.ref m), some (vi b), some (vi x), some (vi t)] [] w := by
    intro nn
    induction nn with
    | zero =>
      intro t x de1 W1 w hnn ht hx hw
      exfalso
      omega
    | succ nn ih4 =>
      intro t x de1 W1 w hnn ht hx hw
      refine j_iload_n dX7_overTables_4 rfl ?_
      refine j_iconst dX7_overTables_5 ?_
      refine j_icmp_ge (tgt := 38) dX7_overTables_6 (by decide) ⟨by omega, by omega⟩ ⟨by omega, by omega⟩ (fun h6 => ?_) (fun h6 => ?_)
      · skip
        refine j_iload_n dX7_overTables_38 rfl ?_
        exact j_iret dX7_overTables_39 ⟨_, rfl, (by rw [hx, show t = 4 by omega]), de1, W1, hw⟩
      · skip
        refine j_iload_n dX7_overTables_9 rfl ?_
        refine j_iload_n dX7_overTables_10 rfl ?_
        refine j_if_eq (tgt := 23) dX7_overTables_11 (by decide) (rs (by omega) (by omega)) (fun h11 => ?_) (fun h11 => ?_)
        · skip
          refine j_aload_n dX7_overTables_23 rfl ?_
          refine j_iload_n dX7_overTables_24 rfl ?_
          refine j_bipush dX7_overTables_25 (by decide) ?_
          refine cl_X7_157 (As := [_, _]) rfl dX7_overTables_27 (c_X7_leavesTo (e := 64) hw.2 (hO.2.2 t (by omega)) (by omega) (by omega)) hw.2.1 rfl ⟨by decide, by decide⟩ (Nat.le_of_ble_eq_true rfl) ⟨Nat.zero_le _, Nat.zero_le _⟩ (fun z27 σ27 hz27 => ?_)
          obtain ⟨hr27, hs27⟩ := hz27
          have hr27 := Eq.symm hr27
          have hs27 := Eq.symm hs27
          subst hr27
          subst hs27
          refine j_iadd dX7_overTables_30 ?_
          refine j_istore_n dX7_overTables_31 (by decide) (by dsimp only [List.set] <;> rfl) ?_
          refine j_iinc dX7_overTables_32 rfl (by decide) (by dsimp only [List.set] <;> rfl) ?_
          refine j_goto (tgt := 4) dX7_overTables_35 (by decide) ?_
          have hih := ih4 (t + 1) (x + cntP (S.2.2 t) 64) _ _ _ (by omega) (by omega) (by rw [hx, if_neg (by omega), if_neg (by omega)]; rfl) hw
          refine j_weak ?_ hih
          exact ⟨rfl, rfl, rfl, rfl, trivial⟩
        · skip
          refine j_aload_n dX7_overTables_14 rfl ?_
          refine j_iload_n dX7_overTables_15 rfl ?_
          refine j_iconst dX7_overTables_16 ?_
          refine cl_X7_169 (As := [_, _]) rfl dX7_overTables_17 (c_X7_overLeaves (b := 1) hw.2 hO hWS (by omega) (Or.inr rfl)) hw.2.1 rfl ⟨by decide, by decide⟩ (Nat.le_of_ble_eq_true rfl) ⟨Nat.zero_le _, Nat.zero_le _⟩ (fun z17 σ17 hz17 => ?_)
          obtain ⟨hr17, de3, W3, hq3⟩ := hz17
          have hq3 := hw.tr hq3
          have hr17 : z17 = sumF (cst S.1 (S.2.1 t) (S.2.2 t)) 64 := hr17
          refine j_goto (tgt := 30) dX7_overTables_20 (by decide) ?_
          refine j_iadd dX7_overTables_30 ?_
          refine j_istore_n dX7_overTables_31 (by decide) (by dsimp only [List.set] <;> rfl) ?_
          refine j_iinc dX7_overTables_32 rfl (by decide) (by dsimp only [List.set] <;> rfl) ?_
          refine j_goto (tgt := 4) dX7_overTables_35 (by decide) ?_
          have hih := ih4 (t + 1) (x + z17) _ _ _ (by omega) (by omega) (by rw [hx, hr17, if_pos (by omega), if_pos (by omega)]; rfl) hq3
          refine j_weak ?_ hih
          exact ⟨rfl, rfl, rfl, rfl, trivial⟩
  exact lp4 10 0 0 _ _ _ (by omega) (by omega) (by split <;> rfl) h.rq

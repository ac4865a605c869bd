/-! ===== public methods: formulas, factors, systems, what is told ===== -/
def wkC (S : MS) (n : Nat) (ch : Nat → Int) : Nat → Int := fun k => fcell (fml ch n).2.2.2.2 (S.2.1 (fml ch n).2.2.1.toNat) (S.2.1 (fml ch n).2.2.2.1.toNat) (k / 8) (k % 8) % S.1
def wkX (n : Nat) (ch : Nat → Int) : Int := if (fml ch n).1 = -1 then (fml ch n).2.1 else -100 - (fml ch n).1
def wkN (S : MS) (n : Nat) (ch : Nat → Int) : Option MS := if (fml ch n).1 = -1 then some (S.1, fup S.2.1 (fml ch n).2.1.toNat (wkC S n ch), S.2.2) else none
theorem sumF_B {f : Nat → Int} {b : Int} : ∀ {n : Nat}, (∀ j, j < n → -b ≤ f j ∧ f j ≤ b) → -(n * b) ≤ sumF f n ∧ sumF f n ≤ n * b
  | 0, _ => by simp [sumF]
  | n + 1, h => by
    have h1 := sumF_B (n := n) (fun j hj => h j (by omega))
    have h2 := h n (by omega)
    show -(((n + 1 : Nat) : Int) * b) ≤ sumF f n + f n ∧ sumF f n + f n ≤ ((n + 1 : Nat) : Int) * b
    have : ((n + 1 : Nat) : Int) * b = n * b + b := by
      rw [show ((n + 1 : Nat) : Int) = (n : Int) + 1 from rfl, Int.add_mul, Int.one_mul]
    omega
theorem fcell_R {p op : Int} {f f2 : Nat → Int} {r c : Nat} (hp : 2 ≤ p) (hp2 : p ≤ 251) (h1 : CB p f) (h2 : CB p f2) (hr : r < 8) (hc : c < 8) : -600000 ≤ fcell op f f2 r c ∧ fcell op f f2 r c ≤ 600000 := by
  unfold fcell
  have a1 := h1 (8 * c + r) (by omega)
  have a2 := h1 (8 * r + c) (by omega)
  have a3 := h2 (8 * r + c) (by omega)
  split
  · omega
  · split
    · unfold pcell
      have := sumF_R (f := fun i => f (8 * r + i) * f2 (8 * i + c)) (b := 251 * 251) (n := 8) (fun j hj => by
        have b1 := h1 (8 * r + j) (by omega)
        have b2 := h2 (8 * j + c) (by omega)
        exact mul_R b1.1 (by omega) b2.1 (by omega) (by omega))
      omega
    · split
      · omega
      · split <;> omega
theorem lu_cong {p : Int} {m m' : Mx} (h : ∀ i, i < 8 → ∀ j, j ≤ 8 → m i j = m' i j) : ∀ c, c ≤ 8 → ∀ i, i < 8 → ∀ j, j ≤ 8 → lu p m c i j = lu p m' c i j
  | 0, _ => h
  | c + 1, hc => by
    intro i hi j hj
    have ih := lu_cong (p := p) h c (by omega)
    show lus p c (lu p m c) i j = lus p c (lu p m' c) i j
    unfold lus
    rw [ih i hi c (by omega), ih c (by omega) c (by omega), ih i hi j hj, ih c (by omega) j hj]
theorem luD_cong {p : Int} {m m' : Mx} (h : ∀ i, i < 8 → ∀ j, j ≤ 8 → m i j = m' i j) : ∀ c, c ≤ 8 → luD p m c = luD p m' c
  | 0, _ => rfl
  | c + 1, hc => by
    show (luD p m c * lu p m c c c) % p = (luD p m' c * lu p m' c c c) % p
    rw [luD_cong h c (by omega), lu_cong h c (by omega) c (by omega) c (by omega)]
def luOK (p : Int) (m : Mx) : Bool := (List.range 7).all (fun c => decide (lu p m c c c ≠ 0))
theorem luOK_y {p : Int} {m : Mx} (h : ∀ c, c < 7 → lu p m c c c ≠ 0) : luOK p m = true := by
  unfold luOK
  simp only [List.all_eq_true, List.mem_range, decide_eq_true_eq]
  exact h
theorem luOK_n {p : Int} {m : Mx} (h : ∃ c, c < 7 ∧ lu p m c c c = 0) : ¬ luOK p m = true := by
  unfold luOK
  simp only [List.all_eq_true, List.mem_range, decide_eq_true_eq]
  obtain ⟨c, h1, h2⟩ := h
  exact fun q => q c h1 h2
theorem sumF_d (f : Nat → Int) (n : Nat) : sumF f (n + 1) - sumF f n = f n := by
  show (sumF f n + f n) - sumF f n = f n
  omega
def tb3 (t a b : Int) : Prop := (0 ≤ t ∧ t < 4) ∧ (0 ≤ a ∧ a < 4) ∧ (0 ≤ b ∧ b < 4)
def fcM (S : MS) (t : Int) : Mx := ldM (S.2.1 t.toNat) 0 8
def fcX (S : MS) (t a b : Int) : Int := if (0 ≤ t ∧ t < 4) ∧ (0 ≤ a ∧ a < 4) ∧ (0 ≤ b ∧ b < 4) then (if a = b then -2 else if luOK S.1 (fcM S t) = true then luD S.1 (fcM S t) 8 else -4) else -1
def fcN (S : MS) (t a b : Int) : Option MS := if (0 ≤ t ∧ t < 4) ∧ (0 ≤ a ∧ a < 4) ∧ (0 ≤ b ∧ b < 4) then (if a = b then none else if luOK S.1 (fcM S t) = true then some (S.1, fup (fup S.2.1 a.toNat (fun k => lowF (lu S.1 (fcM S t) 8) (k / 8) (k % 8))) b.toNat (fun k => uppF (lu S.1 (fcM S t) 8) (k / 8) (k % 8)), S.2.2) else none) else none
def tmX (S : MS) (n : Nat) (ch : Nat → Int) (t k : Int) : Int := if rfs ch n S.1 t k ≠ 0 then rfs ch n S.1 t k else sumF (fun c => S.2.1 t.toNat (8 * k.toNat + c) * (rd ch n 8 8).2.2 c) 8 % S.1
def svM (F nm : Nat → Int) : Mx := fun i j => if j = 8 then nm i else blk F 0 i j
def svX (S : MS) (n : Nat) (ch : Nat → Int) (t k : Int) : Int := if rfs ch n S.1 t k ≠ 0 then rfs ch n S.1 t k else if (gj S.1 8 (svM (S.2.1 t.toNat) (rd ch n 8 8).2.2) 8).1 = 8 then (gj S.1 8 (svM (S.2.1 t.toNat) (rd ch n 8 8).2.2) 8).2.2 k.toNat 8 else -4
theorem rfs_ok {ch : Nat → Int} {n : Nat} {p t k : Int} (h : rfs ch n p t k = 0) : (0 ≤ t ∧ t < 4) ∧ (0 ≤ k ∧ k < 8) ∧ rdF ch n 8 8 = -1 ∧ mxF (rd ch n 8 8).2.2 8 < p := by
  unfold rfs at h
  split at h
  · omega
  · split at h
    · omega
    · split at h
      · unfold rdF at h
        split at h <;> omega
      · split at h
        · omega
        · rename_i a b c d
          exact ⟨by omega, by omega, by omega, by omega⟩
theorem rfs_R {ch : Nat → Int} {n : Nat} {p t k : Int} : R32 (rfs ch n p t k) := by
  have hrl := rd_le ch n 8 8
  unfold rfs rdF
  split
  · exact rs (by omega) (by omega)
  · split
    · exact rs (by omega) (by omega)
    · split
      · split <;> exact rs (by omega) (by omega)
      · split <;> exact rs (by omega) (by omega)
def tbX (S : MS) (t v : Int) : Int :=
  if 0 ≤ t ∧ t < 4 then
    (if v = 0 then (rk S.1 (S.2.1 t.toNat) 0 8 : Nat) else if v = 1 then gdet S.1 8 (ldM (S.2.1 t.toNat) 0 8) else if v = 2 then sumF (fun j => S.2.1 t.toNat (9 * j)) 8 % S.1 else if v = 3 then cntP (S.2.2 t.toNat) 64
      else if v = 4 then sumF (cst S.1 (S.2.1 t.toNat) (S.2.2 t.toNat)) 64 else if v = 5 then best S.1 (S.2.1 t.toNat) 3 0 else if v = 6 then cntP (lv S.1 (S.2.1 t.toNat) 3) 64 else if v = 7 then mxF (rks S.1 (S.2.1 t.toNat) (S.2.2 t.toNat)) 64 else if v = 8 then cntN (S.2.1 t.toNat) (fun _ => 0) 64 else -2)
  else -1
def lfX (S : MS) (t e v : Int) : Int := onLeaf S t e (-1) (fun s z => if v = 0 then rowN s else if v = 1 then colN s else if v = 2 then (z : Int) else if v = 3 then (rk S.1 (S.2.1 t.toNat) s z : Nat) else if v = 4 then lcost z (rk S.1 (S.2.1 t.toNat) s z : Nat) else if v = 5 then (if 2 * (z : Int) * (rk S.1 (S.2.1 t.toNat) s z : Nat) < (z : Int) * z then 1 else 0) else -2)
theorem fml_R32 (ch : Nat → Int) (n : Nat) : R32 (fml ch n).1 := by
  unfold fml
  repeat' split
  all_goals exact rs (by dsimp only; omega) (by dsimp only; omega)

set_option maxRecDepth 100000 in
set_option maxHeartbeats 4000000 in
theorem c_X6_work {l : Launch} {D : gD} {σ : Wd} {o n tn : Nat} {hs : Int} {S SN : MS} {H : Nat → MS} {ch : Nat → Int} (h0 : CS D σ o S SN hs n H tn ch) (hWS : WS S) : KX6_work l D [.ref o] σ (fun x σ' => x = wkX tn ch ∧ OffR o (o + 128) σ σ' ∧ CS D σ' o (nxS (wkN S tn ch) S) SN hs (nxN (wkN S tn ch) n) (nxH (wkN S tn ch) n H S) tn ch) := by
  obtain ⟨h1, h2, h3, ⟨fH, h4⟩, h5, h6, ⟨gT, h7⟩, ⟨cL, h8⟩, ⟨cR, h9⟩⟩ := id h0
  have hlo := primeB_lo hWS.1
  have hg := fun t ht => (hWS.2 t ht).2
  have hF := fun t ht => (hWS.2 t ht).1
  obtain ⟨pl0, nr0, tg0, lf0, rt0, op0, nm0, hx⟩ := id h5
  have hfR := fml_R ch tn
  refine sp_of (by decide +kernel) (cat1 rfl) (Nat.le_of_ble_eq_true rfl) [some (.ref o), none, none, none, none, none, none] rfl (fun sz => ?_)
  refine j_aload_n dX6_work_0 rfl ?_
  refine gf_X6_29 rfl dX6_work_1 h1 rfl ?_
  refine cl_X6_115 (As := []) rfl dX6_work_4 (c_X4_readFormula hx) hx.1 rfl ⟨by decide, by decide⟩ (Nat.le_of_ble_eq_true rfl) ⟨Nat.zero_le _, Nat.zero_le _⟩ (fun z4 σ4 hz4 => ?_)
  obtain ⟨ho4, pl1, tg1, lf1, rt1, op1, hx1, hr4, hok⟩ := hz4
  have hoR := ho4.toR (lo := o + 111) (hi := o + 114) (by simp)
  have k4 := h0.tx hoR ⟨_, _, _, _, _, _, _, hx1⟩
  have hfv : R32 (fml ch tn).1 := fml_R32 ch tn
  refine j_istore_n dX6_work_7 (by decide) (by dsimp only [List.set] <;> rfl) ?_
  refine j_iload_n dX6_work_8 rfl ?_
  refine j_iconst dX6_work_9 ?_
  refine j_icmp_eq (tgt := 18) dX6_work_10 (by decide) (by rw [hr4]; exact hfv) ⟨by omega, by omega⟩ (fun h10 => ?_) (fun h10 => ?_)
  · skip
    have hf1 : (fml ch tn).1 = -1 := hr4.symm.trans h10
    obtain ⟨e1, e2, e3, e4⟩ := hok h10
    obtain ⟨b1, b2, b3, b4⟩ := hfR hf1
    subst e1
    subst e2
    subst e3
    subst e4
    have hT1 := k4.2.1.2.2 (fml ch tn).2.2.1.toNat (by omega)
    have hT2 := k4.2.1.2.2 (fml ch tn).2.2.2.1.toNat (by omega)
    have hF1 := hF (fml ch tn).2.2.1.toNat (by omega)
    have hF2 := hF (fml ch tn).2.2.2.1.toNat (by omega)
    refine j_aload_n dX6_work_18 rfl ?_
    refine gf_X6_12 rfl dX6_work_19 k4.1 rfl ?_
    refine j_aload_n dX6_work_22 rfl ?_
    refine gf_X6_29 rfl dX6_work_23 k4.1 rfl ?_
    refine gf_X6_118 rfl dX6_work_26 hx1.1 rfl ?_
    refine cl_X6_76 (As := [_]) rfl dX6_work_29 (c_X2_tableOf k4.2.1.1 k4.2.1.2.1 (by omega) (by omega)) k4.2.1.1 rfl ⟨by decide, by decide⟩ (Nat.le_of_ble_eq_true rfl) ⟨Nat.zero_le _, Nat.zero_le _⟩ (fun z29 σ29 hz29 => ?_)
    obtain ⟨hr29, hs29⟩ := hz29
    have hr29 := Eq.symm hr29
    have hs29 := Eq.symm hs29
    subst hr29
    subst hs29
    refine j_astore_n dX6_work_32 (by decide) (by dsimp only [List.set] <;> rfl) ?_
    refine j_aload_n dX6_work_33 rfl ?_
    refine gf_X6_12 rfl dX6_work_34 k4.1 rfl ?_
    refine j_aload_n dX6_work_37 rfl ?_
    refine gf_X6_29 rfl dX6_work_38 k4.1 rfl ?_
    refine gf_X6_121 rfl dX6_work_41 hx1.1 rfl ?_
    refine cl_X6_76 (As := [_]) rfl dX6_work_44 (c_X2_tableOf k4.2.1.1 k4.2.1.2.1 (by omega) (by omega)) k4.2.1.1 rfl ⟨by decide, by decide⟩ (Nat.le_of_ble_eq_true rfl) ⟨Nat.zero_le _, Nat.zero_le _⟩ (fun z44 σ44 hz44 => ?_)
    obtain ⟨hr44, hs44⟩ := hz44
    have hr44 := Eq.symm hr44
    have hs44 := Eq.symm hs44
    subst hr44
    subst hs44
    refine j_astore_n dX6_work_47 (by decide) (by dsimp only [List.set] <;> rfl) ?_
    refine j_iconst dX6_work_48 ?_
    refine j_istore dX6_work_49 (by decide) (by dsimp only [List.set] <;> rfl) ?_
    have lp51 : ∀ (nn i : Nat) (w : Wd), 9 - i < nn → i ≤ 8 → OffR o (o + 128) σ w → CS D w o S SN hs n H tn ch → TX D w (o + 111) tn pl1 nr0 (fml ch tn).2.1 (fml ch tn).2.2.1 (fml ch tn).2.2.2.1 (fml ch tn).2.2.2.2 ch nm0 → IA D w (o + 127) 64 (fun k => if k < 8 * i then wkC S tn ch k else cR k) → J l D yX6_work cX6_work 7 (some .int) rmX6_work sz (AA σ sz) (QI D σ sz (fun x σ' => x = wkX tn ch ∧ OffR o (o + 128) σ σ' ∧ CS D σ' o (nxS (wkN S tn ch) S) SN hs (nxN (wkN S tn ch) n) (nxH (wkN S tn ch) n H S) tn ch)) 0 0 51 [some (.ref o), some (vi z4), some (.ref (o + 1 + 2 + 4 * (fml ch tn).2.2.1.toNat)), some (.ref (o + 1 + 2 + 4 * (fml ch tn).2.2.2.1.toNat)), some (vi i), none, none] [] w := by
      intro nn
      induction nn with
      | zero =>
        intro i w hnn hi how hw hxw hcw
        exfalso
        omega
      | succ nn ih51 =>
        intro i w hnn hi how hw hxw hcw
        refine j_iload dX6_work_51 rfl ?_
        refine j_bipush dX6_work_53 (by decide) ?_
        refine j_icmp_ge (tgt := 117) dX6_work_55 (by decide) ⟨by omega, by omega⟩ ⟨by omega, by omega⟩ (fun h55 => ?_) (fun h55 => ?_)
        · skip
          refine j_aload_n dX6_work_117 rfl ?_
          refine gf_X6_22 rfl dX6_work_118 hw.1 rfl ?_
          refine j_aload_n dX6_work_121 rfl ?_
          refine gf_X6_12 rfl dX6_work_122 hw.1 rfl ?_
          obtain ⟨g1, g2, g3, ⟨gF, g4⟩, g5, g6, ⟨gT, g7⟩, ⟨gL, g8⟩, ⟨gR, g9⟩⟩ := id hw
          refine cl_X6_62 (As := [_]) rfl dX6_work_125 (c_X1_record g4 g2 (by omega)) g4.1 rfl ⟨by decide, by decide⟩ (Nat.le_of_ble_eq_true rfl) ⟨Nat.zero_le _, Nat.zero_le _⟩ (fun σ125 hz125 => ?_)
          obtain ⟨ho125, f125, hk125⟩ := hz125
          have c125 := hw.hist ho125 ⟨f125, hk125⟩
          have hx125 := hxw.moved ho125 (by omega)
          have hc125 := ho125.ia hcw (by omega)
          refine j_aload_n dX6_work_128 rfl ?_
          refine gf_X6_12 rfl dX6_work_129 c125.1 rfl ?_
          refine j_aload_n dX6_work_132 rfl ?_
          refine gf_X6_29 rfl dX6_work_133 c125.1 rfl ?_
          refine gf_X6_131 rfl dX6_work_136 hx125.1 rfl ?_
          refine cl_X6_76 (As := [_]) rfl dX6_work_139 (c_X2_tableOf c125.2.1.1 c125.2.1.2.1 (by omega) (by omega)) c125.2.1.1 rfl ⟨by decide, by decide⟩ (Nat.le_of_ble_eq_true rfl) ⟨Nat.zero_le _, Nat.zero_le _⟩ (fun z139 σ139 hz139 => ?_)
          obtain ⟨hr139, hs139⟩ := hz139
          have hr139 := Eq.symm hr139
          have hs139 := Eq.symm hs139
          subst hr139
          subst hs139
          have htd := c125.2.1.2.2 (fml ch tn).2.1.toNat (by omega)
          refine j_aload_n dX6_work_142 rfl ?_
          refine gf_X6_51 rfl dX6_work_143 c125.1 rfl ?_
          refine cl_X6_134 (As := [_]) rfl dX6_work_146 (c_X3_putAll htd.1 htd.2.1 (hc125.ext (g := wkC S tn ch) (fun k hk => by rw [if_pos (by omega)])) (by omega)) htd.1 rfl ⟨by decide, by decide⟩ (Nat.le_of_ble_eq_true rfl) ⟨Nat.zero_le _, Nat.zero_le _⟩ (fun σ146 hz146 => ?_)
          obtain ⟨ho146, hi146⟩ := hz146
          have s146 := c125.2.1.cells (by omega) ho146 hi146
          have ho146R := ho146.toR (lo := o + 1) (hi := o + 19) (by simp; omega)
          have c146 := c125.now ho146R s146
          have hx146 := hx125.moved ho146R (by omega)
          refine j_aload_n dX6_work_149 rfl ?_
          refine gf_X6_29 rfl dX6_work_150 c146.1 rfl ?_
          refine gf_X6_131 rfl dX6_work_153 hx146.1 rfl ?_
          exact j_iret dX6_work_156 ⟨_, rfl, by unfold wkX; rw [if_pos hf1], (how.tr (ho125.mono (by omega) (by omega))).tr (ho146R.mono (by omega) (by omega)), CS_some c146 (by unfold wkN; rw [if_pos hf1])⟩
        · skip
          refine j_iconst dX6_work_58 ?_
          refine j_istore dX6_work_59 (by decide) (by dsimp only [List.set] <;> rfl) ?_
          have lp61 : ∀ (nn2 j : Nat) (v : Wd), 9 - j < nn2 → j ≤ 8 → OffR o (o + 128) σ v → CS D v o S SN hs n H tn ch → TX D v (o + 111) tn pl1 nr0 (fml ch tn).2.1 (fml ch tn).2.2.1 (fml ch tn).2.2.2.1 (fml ch tn).2.2.2.2 ch nm0 → IA D v (o + 127) 64 (fun k => if k < 8 * i + j then wkC S tn ch k else cR k) → J l D yX6_work cX6_work 7 (some .int) rmX6_work sz (AA σ sz) (QI D σ sz (fun x σ' => x = wkX tn ch ∧ OffR o (o + 128) σ σ' ∧ CS D σ' o (nxS (wkN S tn ch) S) SN hs (nxN (wkN S tn ch) n) (nxH (wkN S tn ch) n H S) tn ch)) 0 0 61 [some (.ref o), some (vi z4), some (.ref (o + 1 + 2 + 4 * (fml ch tn).2.2.1.toNat)), some (.ref (o + 1 + 2 + 4 * (fml ch tn).2.2.2.1.toNat)), some (vi i), some (vi j), none] [] v := by
            intro nn
            induction nn with
            | zero =>
              intro j v hnn2 hj hov hv hxv hcv
              exfalso
              omega
            | succ nn ih61 =>
              intro j v hnn2 hj hov hv hxv hcv
              have hT1v := hv.2.1.2.2 (fml ch tn).2.2.1.toNat (by omega)
              have hT2v := hv.2.1.2.2 (fml ch tn).2.2.2.1.toNat (by omega)
              refine j_iload dX6_work_61 rfl ?_
              refine j_bipush dX6_work_63 (by decide) ?_
              refine j_icmp_ge (tgt := 111) dX6_work_65 (by decide) ⟨by omega, by omega⟩ ⟨by omega, by omega⟩ (fun h65 => ?_) (fun h65 => ?_)
              · skip
                refine j_iinc dX6_work_111 rfl (by decide) (by dsimp only [List.set] <;> rfl) ?_
                refine j_goto (tgt := 51) dX6_work_114 (by decide) ?_
                refine j_weak (L := [some (.ref o), some (vi z4), some (.ref (o + 1 + 2 + 4 * (fml ch tn).2.2.1.toNat)), some (.ref (o + 1 + 2 + 4 * (fml ch tn).2.2.2.1.toNat)), some (vi ((i + 1 : Nat) : Int)), none, none]) ⟨rfl, rfl, rfl, rfl, rfl, trivial⟩ ?_
                exact ih51 (i + 1) _ (by omega) (by omega) hov hv hxv (hcv.ext (fun k hk => by rw [show 8 * i + j = 8 * (i + 1) by omega]))
              · skip
                refine j_aload_n dX6_work_68 rfl ?_
                refine j_aload_n dX6_work_69 rfl ?_
                refine j_aload_n dX6_work_70 rfl ?_
                refine j_iload dX6_work_71 rfl ?_
                refine j_iload dX6_work_73 rfl ?_
                refine cl_X6_124 (As := [_, _, _, _]) rfl dX6_work_75 (c_X6_formulaCell (r := i) (c := j) hv.1 hxv (rs (by omega) (by omega)) hT1v.1 hT1v.2.1 hT2v.1 hT2v.2.1 (by omega) (by omega)) hv.1 rfl ⟨by decide, by decide⟩ (Nat.le_of_ble_eq_true rfl) ⟨Nat.zero_le _, Nat.zero_le _⟩ (fun z75 σ75 hz75 => ?_)
                obtain ⟨hr75, hs75⟩ := hz75
                have hr75 := Eq.symm hr75
                have hs75 := Eq.symm hs75
                subst hr75
                subst hs75
                have hfc := fcell_R (op := (fml ch tn).2.2.2.2) (r := i) (c := j) hlo.1 hlo.2 hF1 hF2 (by omega) (by omega)
                refine j_istore dX6_work_78 (by decide) (by dsimp only [List.set] <;> rfl) ?_
                refine j_aload_n dX6_work_80 rfl ?_
                refine gf_X6_51 rfl dX6_work_81 hv.1 rfl ?_
                refine j_iload dX6_work_84 rfl ?_
                refine j_bipush dX6_work_86 (by decide) ?_
                refine j_imul dX6_work_88 ?_
                refine j_iload dX6_work_89 rfl ?_
                refine j_iadd dX6_work_91 ?_
                refine j_iload dX6_work_92 rfl ?_
                refine j_aload_n dX6_work_94 rfl ?_
                refine gf_X6_12 rfl dX6_work_95 hv.1 rfl ?_
                refine gf_X6_58 rfl dX6_work_98 hv.2.1.1 rfl ?_
                refine cl_X6_128 (As := [_, _]) rfl dX6_work_101 (c_X6_remainder (rs (by omega) (by omega)) (by omega) (by omega)) rfl ⟨by decide, by decide⟩ (Nat.le_of_ble_eq_true rfl) ⟨Nat.zero_le _, Nat.zero_le _⟩ (fun z101 σ101 hz101 => ?_)
                obtain ⟨hr101, hs101⟩ := hz101
                have hr101 := Eq.symm hr101
                have hs101 := Eq.symm hs101
                subst hr101
                subst hs101
                rw [show (i : Int) * 8 + (j : Int) = ((8 * i + j : Nat) : Int) by omega]
                refine jj_iast dX6_work_104 hcv (by omega) (by omega) ⟨by omega, by omega⟩ (fun e104 q104 => ?_)
                have hoff : OffR (o + 127) (o + 128) _ (wup v (o + 127) e104) := wup_offR (by omega)
                refine j_iinc dX6_work_105 rfl (by decide) (by dsimp only [List.set] <;> rfl) ?_
                refine j_goto (tgt := 61) dX6_work_108 (by decide) ?_
                refine j_weak (L := [some (.ref o), some (vi z4), some (.ref (o + 1 + 2 + 4 * (fml ch tn).2.2.1.toNat)), some (.ref (o + 1 + 2 + 4 * (fml ch tn).2.2.2.1.toNat)), some (vi i), some (vi ((j + 1 : Nat) : Int)), none]) ⟨rfl, rfl, rfl, rfl, rfl, rfl, trivial⟩ ?_
                exact ih61 (j + 1) _ (by omega) (by omega) (hov.tr (hoff.mono (by omega) (by omega))) (hv.rsl hoff ⟨_, q104⟩) (hxv.moved hoff (by omega)) (q104.ext (fun k hk => by
                  show fup _ (8 * i + j) _ k = _
                  by_cases b : k = 8 * i + j
                  · rw [b, fup_s, if_pos (by omega)]
                    unfold wkC
                    rw [show (8 * i + j) / 8 = i by omega, show (8 * i + j) % 8 = j by omega]
                  · rw [fup_n b]
                    by_cases c : k < 8 * i + j
                    · rw [if_pos c, if_pos (by omega)]
                    · rw [if_neg c, if_neg (by omega)]))
          exact lp61 10 0 _ (by omega) (by omega) how hw hxw hcw
    exact lp51 10 0 _ (by omega) (by omega) (hoR.mono (by omega) (by omega)) k4 hx1 ((hoR.ia h9 (by omega)).ext (fun k hk => by rw [if_neg (by omega)]))
  · skip
    have hf1 : ¬ (fml ch tn).1 = -1 := fun q => h10 (hr4.trans q)
    refine j_bipush dX6_work_13 (by decide) ?_
    refine j_iload_n dX6_work_15 rfl ?_
    refine j_isub dX6_work_16 ?_
    exact j_iret dX6_work_17 ⟨_, rfl, by unfold wkX; rw [if_neg hf1, hr4], hoR.mono (by omega) (by omega), CS_none k4 (by unfold wkN; rw [if_neg hf1])⟩
set_option maxRecDepth 100000 in
set_option maxHeartbeats 4000000 in
theorem c_X6_factor {l : Launch} {D : gD} {σ : Wd} {o n tn : Nat} {hs : Int} {S SN : MS} {H : Nat → MS} {ch : Nat → Int} {t a b : Int} (h0 : CS D σ o S SN hs n H tn ch) (hWS : WS S) (ht : R32 t) (ha : R32 a) (hb : R32 b) : KX6_factor l D [.ref o, vi t, vi a, vi b] σ (fun x σ' => x = fcX S t a b ∧ OffR o (o + 128) σ σ' ∧ CS D σ' o (nxS (fcN S t a b) S) SN hs (nxN (fcN S t a b) n) (nxH (fcN S t a b) n H S) tn ch) := by
  obtain ⟨h1, h2, h3, ⟨fH, h4⟩, h5, h6, ⟨gT, h7⟩, ⟨cL, h8⟩, ⟨cR, h9⟩⟩ := id h0
  have hlo := primeB_lo hWS.1
  have hg := fun t ht => (hWS.2 t ht).2
  have hF := fun t ht => (hWS.2 t ht).1
  obtain ⟨p0, z0, r0, d0, f0, m0, hE⟩ := id h6
  have hok : okBlk 0 8 := okBlk_of (k := 3) (by omega) (by omega) rfl
  obtain ⟨hb1, hb2, hb3, hb4⟩ := id hok
  refine sp_of (by decide +kernel) (cat1 rfl) (Nat.le_of_ble_eq_true rfl) [some (.ref o), some (vi t), some (vi a), some (vi b)] rfl (fun sz => ?_)
  refine j_iload_n dX6_factor_0 rfl ?_
  refine cl_X6_70 (As := [_]) rfl dX6_factor_1 (c_X6_isTable ht) rfl ⟨by decide, by decide⟩ (Nat.le_of_ble_eq_true rfl) ⟨Nat.zero_le _, Nat.zero_le _⟩ (fun z1 σ1 hz1 => ?_)
  obtain ⟨hr1, hs1⟩ := hz1
  have hr1 := Eq.symm hr1
  have hs1 := Eq.symm hs1
  subst hr1
  subst hs1
  refine j_if_eq (tgt := 21) dX6_factor_4 (by decide) R_ite (fun q4 => ?_) (fun q4 => ?_)
  · skip
    have aat := ne1 q4
    refine j_iconst dX6_factor_21 ?_
    exact j_iret dX6_factor_22 ⟨_, rfl, by unfold fcX; rw [if_neg (by omega)], OffR.rf, CS_none h0 (by unfold fcN; rw [if_neg (by omega)])⟩
  · skip
    have aat := nz1 q4
    refine j_iload_n dX6_factor_7 rfl ?_
    refine cl_X6_70 (As := [_]) rfl dX6_factor_8 (c_X6_isTable ha) rfl ⟨by decide, by decide⟩ (Nat.le_of_ble_eq_true rfl) ⟨Nat.zero_le _, Nat.zero_le _⟩ (fun z8 σ8 hz8 => ?_)
    obtain ⟨hr8, hs8⟩ := hz8
    have hr8 := Eq.symm hr8
    have hs8 := Eq.symm hs8
    subst hr8
    subst hs8
    refine j_if_eq (tgt := 21) dX6_factor_11 (by decide) R_ite (fun q11 => ?_) (fun q11 => ?_)
    · skip
      have aaa := ne1 q11
      refine j_iconst dX6_factor_21 ?_
      exact j_iret dX6_factor_22 ⟨_, rfl, by unfold fcX; rw [if_neg (by omega)], OffR.rf, CS_none h0 (by unfold fcN; rw [if_neg (by omega)])⟩
    · skip
      have aaa := nz1 q11
      refine j_iload_n dX6_factor_14 rfl ?_
      refine cl_X6_70 (As := [_]) rfl dX6_factor_15 (c_X6_isTable hb) rfl ⟨by decide, by decide⟩ (Nat.le_of_ble_eq_true rfl) ⟨Nat.zero_le _, Nat.zero_le _⟩ (fun z15 σ15 hz15 => ?_)
      obtain ⟨hr15, hs15⟩ := hz15
      have hr15 := Eq.symm hr15
      have hs15 := Eq.symm hs15
      subst hr15
      subst hs15
      refine j_if_ne (tgt := 23) dX6_factor_18 (by decide) R_ite (fun q18 => ?_) (fun q18 => ?_)
      · skip
        have aab := nz1 q18
        refine j_iload_n dX6_factor_23 rfl ?_
        refine j_iload_n dX6_factor_24 rfl ?_
        refine j_icmp_ne (tgt := 31) dX6_factor_25 (by decide) ⟨by omega, by omega⟩ ⟨by omega, by omega⟩ (fun h25 => ?_) (fun h25 => ?_)
        · skip
          refine j_aload_n dX6_factor_31 rfl ?_
          refine gf_X6_36 rfl dX6_factor_32 h1 rfl ?_
          refine j_aload_n dX6_factor_35 rfl ?_
          refine gf_X6_12 rfl dX6_factor_36 h1 rfl ?_
          refine j_iload_n dX6_factor_39 rfl ?_
          refine cl_X6_76 (As := [_]) rfl dX6_factor_40 (c_X2_tableOf h2.1 h2.2.1 (by omega) (by omega)) h2.1 rfl ⟨by decide, by decide⟩ (Nat.le_of_ble_eq_true rfl) ⟨Nat.zero_le _, Nat.zero_le _⟩ (fun z40 σ40 hz40 => ?_)
          obtain ⟨hr40, hs40⟩ := hz40
          have hr40 := Eq.symm hr40
          have hs40 := Eq.symm hs40
          subst hr40
          subst hs40
          have htb := h2.2.2 t.toNat (by omega)
          refine j_iconst dX6_factor_43 ?_
          refine j_bipush dX6_factor_44 (by decide) ?_
          refine j_aload_n dX6_factor_46 rfl ?_
          refine gf_X6_12 rfl dX6_factor_47 h1 rfl ?_
          refine gf_X6_58 rfl dX6_factor_50 h2.1 rfl ?_
          refine cl_X6_138 (As := [_, _, _, _]) rfl dX6_factor_53 (c_X0_load (s := 0) (z := 8) hE htb.1 htb.2.1 (by omega) (by omega) hb1 hb2 hb3 hb4) hE.1 rfl ⟨by decide, by decide⟩ (Nat.le_of_ble_eq_true rfl) ⟨Nat.zero_le _, Nat.zero_le _⟩ (fun σ53 hz53 => ?_)
          obtain ⟨ho53, m1, he1, hag1⟩ := hz53
          have k53 := h0.el ho53 ⟨_, _, _, _, _, _, he1⟩
          refine j_aload_n dX6_factor_56 rfl ?_
          refine gf_X6_36 rfl dX6_factor_57 k53.1 rfl ?_
          refine cl_X6_142 (As := []) rfl dX6_factor_60 (c_X0_decompose he1 rfl (by omega) (by omega) (fun i hi j hj => by rw [hag1 i hi j hj]; exact ldM_B (by omega) (hF t.toNat (by omega)) hok i hi j hj)) he1.1 rfl ⟨by decide, by decide⟩ (Nat.le_of_ble_eq_true rfl) ⟨Nat.zero_le _, Nat.zero_le _⟩ (fun z60 σ60 hz60 => ?_)
          obtain ⟨ho60, hd60⟩ := hz60
          have k60 := k53.el ho60 (by rcases hd60 with ⟨-, -, m2, q, -⟩ | ⟨-, -, d2, m2, q⟩ <;> exact ⟨_, _, _, _, _, _, q⟩)
          refine j_if_ne (tgt := 69) dX6_factor_63 (by decide) (by rcases hd60 with q | q <;> exact rs (by rw [q.1]; omega) (by rw [q.1]; omega)) (fun h63 => ?_) (fun h63 => ?_)
          · skip
            rcases hd60 with ⟨-, hnz, m2, he2, hag2⟩ | ⟨q, -⟩
            rotate_left
            · exact absurd q h63
            have hlok : luOK S.1 (fcM S t) = true := luOK_y (fun c hc => by unfold fcM; rw [← lu_cong hag1 c (by omega) c (by omega) c (by omega)]; exact hnz c hc)
            have hab : a.toNat ≠ b.toNat := by omega
            refine j_aload_n dX6_factor_69 rfl ?_
            refine gf_X6_22 rfl dX6_factor_70 k60.1 rfl ?_
            refine j_aload_n dX6_factor_73 rfl ?_
            refine gf_X6_12 rfl dX6_factor_74 k60.1 rfl ?_
            obtain ⟨g1, g2, g3, ⟨gF, g4⟩, g5, g6, ⟨gT, g7⟩, ⟨gL, g8⟩, ⟨gR, g9⟩⟩ := id k60
            refine cl_X6_62 (As := [_]) rfl dX6_factor_77 (c_X1_record g4 g2 (by omega)) g4.1 rfl ⟨by decide, by decide⟩ (Nat.le_of_ble_eq_true rfl) ⟨Nat.zero_le _, Nat.zero_le _⟩ (fun σ77 hz77 => ?_)
            obtain ⟨ho77, f77, hk77⟩ := hz77
            have c77 := k60.hist ho77 ⟨f77, hk77⟩
            have he77 := he2.moved ho77 (by omega)
            refine j_aload_n dX6_factor_80 rfl ?_
            refine j_aload_n dX6_factor_81 rfl ?_
            refine gf_X6_12 rfl dX6_factor_82 c77.1 rfl ?_
            refine j_iload_n dX6_factor_85 rfl ?_
            refine cl_X6_76 (As := [_]) rfl dX6_factor_86 (c_X2_tableOf c77.2.1.1 c77.2.1.2.1 (by omega) (by omega)) c77.2.1.1 rfl ⟨by decide, by decide⟩ (Nat.le_of_ble_eq_true rfl) ⟨Nat.zero_le _, Nat.zero_le _⟩ (fun z86 σ86 hz86 => ?_)
            obtain ⟨hr86, hs86⟩ := hz86
            have hr86 := Eq.symm hr86
            have hs86 := Eq.symm hs86
            subst hr86
            subst hs86
            refine j_aload_n dX6_factor_89 rfl ?_
            refine gf_X6_12 rfl dX6_factor_90 c77.1 rfl ?_
            refine j_iload_n dX6_factor_93 rfl ?_
            refine cl_X6_76 (As := [_]) rfl dX6_factor_94 (c_X2_tableOf c77.2.1.1 c77.2.1.2.1 (by omega) (by omega)) c77.2.1.1 rfl ⟨by decide, by decide⟩ (Nat.le_of_ble_eq_true rfl) ⟨Nat.zero_le _, Nat.zero_le _⟩ (fun z94 σ94 hz94 => ?_)
            obtain ⟨hr94, hs94⟩ := hz94
            have hr94 := Eq.symm hr94
            have hs94 := Eq.symm hs94
            subst hr94
            subst hs94
            refine cl_X6_146 (As := [_, _]) rfl dX6_factor_97 (c_X6_putFactors (tl := a.toNat) (tu := b.toNat) c77.1 c77.2.1 he77 (by omega) (by omega) hab) c77.1 rfl ⟨by decide, by decide⟩ (Nat.le_of_ble_eq_true rfl) ⟨Nat.zero_le _, Nat.zero_le _⟩ (fun σ97 hz97 => ?_)
            obtain ⟨ho97, hs97⟩ := hz97
            have hlc := fun i (hi : i < 8) j (hj : j < 8) => (hag2 i hi j (by omega)).trans (lu_cong hag1 8 (by omega) i hi j (by omega))
            have c97 := c77.now ho97 hs97
            have he97 := he77.moved ho97 (by omega)
            refine j_aload_n dX6_factor_100 rfl ?_
            refine gf_X6_36 rfl dX6_factor_101 c97.1 rfl ?_
            refine gf_X6_150 rfl dX6_factor_104 he97.1 rfl ?_
            exact j_iret dX6_factor_107 ⟨_, rfl, by unfold fcX; rw [if_pos (by omega), if_neg h25, if_pos hlok]; exact luD_cong hag1 8 (by omega), (((ho53.mono (by omega) (by omega)).tr (ho60.mono (by omega) (by omega))).tr (ho77.mono (by omega) (by omega))).tr (ho97.mono (by omega) (by omega)), CS_some (c97.now OffR.rf (hs97.ext rfl (S' := (S.1, fup (fup S.2.1 a.toNat (fun k => lowF (lu S.1 (fcM S t) 8) (k / 8) (k % 8))) b.toNat (fun k => uppF (lu S.1 (fcM S t) 8) (k / 8) (k % 8)), S.2.2)) (fun u hu k hk => ⟨by
              show fup (fup S.2.1 a.toNat _) b.toNat _ u k = fup (fup S.2.1 a.toNat _) b.toNat _ u k
              have e := hlc (k / 8) (by omega) (k % 8) (by omega)
              by_cases x : u = b.toNat
              · rw [x, fup_s, fup_s]
                unfold uppF
                rw [e]
                rfl
              · rw [fup_n x, fup_n x]
                by_cases y : u = a.toNat
                · rw [y, fup_s, fup_s]
                  unfold lowF
                  rw [e]
                  rfl
                · rw [fup_n y, fup_n y], rfl⟩))) (by unfold fcN; rw [if_pos (by omega), if_neg h25, if_pos hlok])⟩
          · skip
            rcases hd60 with ⟨q, -⟩ | ⟨-, hnz, -⟩
            · exact absurd h63 (by rw [q]; omega)
            have hlok : ¬ luOK S.1 (fcM S t) = true := luOK_n (by
              obtain ⟨c, hc, e⟩ := hnz
              exact ⟨c, hc, by unfold fcM; rw [← e]; exact (lu_cong hag1 c (by omega) c (by omega) c (by omega)).symm⟩)
            refine j_bipush dX6_factor_66 (by decide) ?_
            exact j_iret dX6_factor_68 ⟨_, rfl, by unfold fcX; rw [if_pos (by omega), if_neg h25, if_neg hlok], (ho53.mono (by omega) (by omega)).tr (ho60.mono (by omega) (by omega)), CS_none k60 (by unfold fcN; rw [if_pos (by omega), if_neg h25, if_neg hlok])⟩
        · skip
          refine j_bipush dX6_factor_28 (by decide) ?_
          exact j_iret dX6_factor_30 ⟨_, rfl, by unfold fcX; rw [if_pos (by omega), if_pos h25], OffR.rf, CS_none h0 (by unfold fcN; rw [if_pos (by omega), if_pos h25])⟩
      · skip
        have aab := ne1 q18
        refine j_iconst dX6_factor_21 ?_
        exact j_iret dX6_factor_22 ⟨_, rfl, by unfold fcX; rw [if_neg (by omega)], OffR.rf, CS_none h0 (by unfold fcN; rw [if_neg (by omega)])⟩
set_option maxRecDepth 100000 in
set_option maxHeartbeats 4000000 in
theorem c_X6_times {l : Launch} {D : gD} {σ : Wd} {o n tn : Nat} {hs : Int} {S SN : MS} {H : Nat → MS} {ch : Nat → Int} {t k : Int} (h0 : CS D σ o S SN hs n H tn ch) (hWS : WS S) (ht : R32 t) (hk : R32 k) : KX6_times l D [.ref o, vi t, vi k] σ (fun x σ' => x = tmX S tn ch t k ∧ OffR o (o + 128) σ σ' ∧ CS D σ' o S SN hs n H tn ch) := by
  obtain ⟨h1, h2, h3, ⟨fH, h4⟩, h5, h6, ⟨gT, h7⟩, ⟨cL, h8⟩, ⟨cR, h9⟩⟩ := id h0
  have hlo := primeB_lo hWS.1
  have hg := fun t ht => (hWS.2 t ht).2
  have hF := fun t ht => (hWS.2 t ht).1
  refine sp_of (by decide +kernel) (cat1 rfl) (Nat.le_of_ble_eq_true rfl) [some (.ref o), some (vi t), some (vi k), none, none, none, none] rfl (fun sz => ?_)
  refine j_aload_n dX6_times_0 rfl ?_
  refine j_iload_n dX6_times_1 rfl ?_
  refine j_iload_n dX6_times_2 rfl ?_
  refine cl_X6_233 (As := [_, _]) rfl dX6_times_3 (c_X6_refusalOfRow h1 h2 h5 hWS.1 ht hk) h1 rfl ⟨by decide, by decide⟩ (Nat.le_of_ble_eq_true rfl) ⟨Nat.zero_le _, Nat.zero_le _⟩ (fun z3 σ3 hz3 => ?_)
  obtain ⟨hr3, ho3, hx3, hok3⟩ := hz3
  have hr3 := Eq.symm hr3
  subst hr3
  have k3 := h0.tx ho3 hx3
  refine j_istore_n dX6_times_6 (by decide) (by dsimp only [List.set] <;> rfl) ?_
  refine j_iload_n dX6_times_7 rfl ?_
  refine j_if_eq (tgt := 13) dX6_times_8 (by decide) rfs_R (fun h8b => ?_) (fun h8b => ?_)
  · skip
    obtain ⟨pl1, tg1, lf1, rt1, op1, nm1, hx1, hag1⟩ := hok3 h8b
    obtain ⟨htt, hkk, hrr, hmm⟩ := rfs_ok h8b
    have hall := ((mxF_le (f := (rd ch tn 8 8).2.2) (b := S.1) (by omega) 8).mp hmm).2
    have hrdB := fun j => rd_B (ch := ch) (n := tn) (z := 8) 8 j
    have htb := k3.2.1.2.2 t.toNat (by omega)
    have hFt := hF t.toNat (by omega)
    refine j_aload_n dX6_times_13 rfl ?_
    refine gf_X6_12 rfl dX6_times_14 k3.1 rfl ?_
    refine j_iload_n dX6_times_17 rfl ?_
    refine cl_X6_76 (As := [_]) rfl dX6_times_18 (c_X2_tableOf k3.2.1.1 k3.2.1.2.1 (by omega) (by omega)) k3.2.1.1 rfl ⟨by decide, by decide⟩ (Nat.le_of_ble_eq_true rfl) ⟨Nat.zero_le _, Nat.zero_le _⟩ (fun z18 σ18 hz18 => ?_)
    obtain ⟨hr18, hs18⟩ := hz18
    have hr18 := Eq.symm hr18
    have hs18 := Eq.symm hs18
    subst hr18
    subst hs18
    refine j_astore dX6_times_21 (by decide) (by dsimp only [List.set] <;> rfl) ?_
    refine j_iconst dX6_times_23 ?_
    refine j_istore dX6_times_24 (by decide) (by dsimp only [List.set] <;> rfl) ?_
    refine j_iconst dX6_times_26 ?_
    refine j_istore dX6_times_27 (by decide) (by dsimp only [List.set] <;> rfl) ?_
    have lp29 : ∀ (nn c : Nat) (x : Int), 9 - c < nn → c ≤ 8 → x = sumF (fun c => S.2.1 t.toNat (8 * k.toNat + c) * (rd ch tn 8 8).2.2 c) c → J l D yX6_times cX6_times 7 (some .int) rmX6_times sz (AA σ sz) (QI D σ sz (fun x σ' => x = tmX S tn ch t k ∧ OffR o (o + 128) σ σ' ∧ CS D σ' o S SN hs n H tn ch)) 0 0 29 [some (.ref o), some (vi t), some (vi k), some (vi (rfs ch tn S.1 t k)), some (.ref (o + 1 + 2 + 4 * t.toNat)), some (vi x), some (vi c)] [] σ3 := by
      intro nn
      induction nn with
      | zero =>
        intro c x hnn hc hx
        exfalso
        omega
      | succ nn ih29 =>
        intro c x hnn hc hx
        have hxR := sumF_R (f := fun c => S.2.1 t.toNat (8 * k.toNat + c) * (rd ch tn 8 8).2.2 c) (b := 251 * 999) (n := c) (fun j hj => by
          have b1 := hFt (8 * k.toNat + j) (by omega)
          have b2 := hrdB j
          exact mul_R b1.1 (by omega) b2.1 (by omega) (by omega))
        rw [← hx] at hxR
        refine j_iload dX6_times_29 rfl ?_
        refine j_bipush dX6_times_31 (by decide) ?_
        refine j_icmp_ge (tgt := 65) dX6_times_33 (by decide) ⟨by omega, by omega⟩ ⟨by omega, by omega⟩ (fun h33 => ?_) (fun h33 => ?_)
        · skip
          refine j_iload dX6_times_65 rfl ?_
          refine j_aload_n dX6_times_67 rfl ?_
          refine gf_X6_12 rfl dX6_times_68 k3.1 rfl ?_
          refine gf_X6_58 rfl dX6_times_71 k3.2.1.1 rfl ?_
          refine cl_X6_128 (As := [_, _]) rfl dX6_times_74 (c_X6_remainder ⟨by omega, by omega⟩ (by omega) (by omega)) rfl ⟨by decide, by decide⟩ (Nat.le_of_ble_eq_true rfl) ⟨Nat.zero_le _, Nat.zero_le _⟩ (fun z74 σ74 hz74 => ?_)
          obtain ⟨hr74, hs74⟩ := hz74
          have hr74 := Eq.symm hr74
          have hs74 := Eq.symm hs74
          subst hr74
          subst hs74
          exact j_iret dX6_times_77 ⟨_, rfl, by unfold tmX; rw [if_neg (fun q => q h8b), hx, show c = 8 by omega], ho3.mono (by omega) (by omega), k3⟩
        · skip
          refine j_iload dX6_times_36 rfl ?_
          refine j_aload dX6_times_38 rfl ?_
          refine j_iload_n dX6_times_40 rfl ?_
          refine j_iload dX6_times_41 rfl ?_
          refine cl_X6_80 (As := [_, _]) rfl dX6_times_43 (c_X3_at htb.1 htb.2.1 hk (rs (by omega) (by omega))) htb.1 rfl ⟨by decide, by decide⟩ (Nat.le_of_ble_eq_true rfl) ⟨Nat.zero_le _, Nat.zero_le _⟩ (fun z43 σ43 hz43 => ?_)
          obtain ⟨hr43, hs43⟩ := hz43
          have hr43 := Eq.symm hr43
          have hs43 := Eq.symm hs43
          subst hr43
          subst hs43
          refine j_tops (show _ = S.2.1 t.toNat (8 * k.toNat + c) by rw [if_pos (by omega), show (8 * k + (c : Int)).toNat = 8 * k.toNat + c by omega]) ?_
          refine j_aload_n dX6_times_46 rfl ?_
          refine gf_X6_29 rfl dX6_times_47 k3.1 rfl ?_
          refine j_iload dX6_times_50 rfl ?_
          refine cl_X6_236 (As := [_]) rfl dX6_times_52 (c_X4_numberAt hx1 (by omega) (by omega)) hx1.1 rfl ⟨by decide, by decide⟩ (Nat.le_of_ble_eq_true rfl) ⟨Nat.zero_le _, Nat.zero_le _⟩ (fun z52 σ52 hz52 => ?_)
          obtain ⟨hr52, hs52⟩ := hz52
          have hr52 := Eq.symm hr52
          have hs52 := Eq.symm hs52
          subst hr52
          subst hs52
          refine j_tops (hag1 c (by omega)) ?_
          refine j_imul dX6_times_55 ?_
          refine j_iadd dX6_times_56 ?_
          refine j_istore dX6_times_57 (by decide) (by dsimp only [List.set] <;> rfl) ?_
          refine j_iinc dX6_times_59 rfl (by decide) (by dsimp only [List.set] <;> rfl) ?_
          refine j_goto (tgt := 29) dX6_times_62 (by decide) ?_
          refine j_weak (L := [some (.ref o), some (vi t), some (vi k), some (vi (rfs ch tn S.1 t k)), some (.ref (o + 1 + 2 + 4 * t.toNat)), some (vi (x + S.2.1 t.toNat (8 * k.toNat + c) * (rd ch tn 8 8).2.2 c)), some (vi ((c + 1 : Nat) : Int))]) ⟨rfl, rfl, rfl, rfl, rfl, rfl, rfl, trivial⟩ ?_
          exact ih29 (c + 1) _ (by omega) (by omega) (by rw [hx]; rfl)
    exact lp29 10 0 0 (by omega) (by omega) rfl
  · skip
    refine j_iload_n dX6_times_11 rfl ?_
    exact j_iret dX6_times_12 ⟨_, rfl, by unfold tmX; rw [if_pos h8b], ho3.mono (by omega) (by omega), k3⟩
set_option maxRecDepth 100000 in
set_option maxHeartbeats 4000000 in
theorem c_X6_solve {l : Launch} {D : gD} {σ : Wd} {o n tn : Nat} {hs : Int} {S SN : MS} {H : Nat → MS} {ch : Nat → Int} {t k : Int} (h0 : CS D σ o S SN hs n H tn ch) (hWS : WS S) (ht : R32 t) (hk : R32 k) : KX6_solve l D [.ref o, vi t, vi k] σ (fun x σ' => x = svX S tn ch t k ∧ OffR o (o + 128) σ σ' ∧ CS D σ' o S SN hs n H tn ch) := by
  obtain ⟨h1, h2, h3, ⟨fH, h4⟩, h5, h6, ⟨gT, h7⟩, ⟨cL, h8⟩, ⟨cR, h9⟩⟩ := id h0
  have hlo := primeB_lo hWS.1
  have hg := fun t ht => (hWS.2 t ht).2
  have hF := fun t ht => (hWS.2 t ht).1
  obtain ⟨p0, z0, r0, d0, f0, m0, hE⟩ := id h6
  have hok : okBlk 0 8 := okBlk_of (k := 3) (by omega) (by omega) rfl
  obtain ⟨hb1, hb2, hb3, hb4⟩ := id hok
  refine sp_of (by decide +kernel) (cat1 rfl) (Nat.le_of_ble_eq_true rfl) [some (.ref o), some (vi t), some (vi k), none, none] rfl (fun sz => ?_)
  refine j_aload_n dX6_solve_0 rfl ?_
  refine j_iload_n dX6_solve_1 rfl ?_
  refine j_iload_n dX6_solve_2 rfl ?_
  refine cl_X6_233 (As := [_, _]) rfl dX6_solve_3 (c_X6_refusalOfRow h1 h2 h5 hWS.1 ht hk) h1 rfl ⟨by decide, by decide⟩ (Nat.le_of_ble_eq_true rfl) ⟨Nat.zero_le _, Nat.zero_le _⟩ (fun z3 σ3 hz3 => ?_)
  obtain ⟨hr3, ho3, hx3, hok3⟩ := hz3
  have hr3 := Eq.symm hr3
  subst hr3
  have k3 := h0.tx ho3 hx3
  refine j_istore_n dX6_solve_6 (by decide) (by dsimp only [List.set] <;> rfl) ?_
  refine j_iload_n dX6_solve_7 rfl ?_
  refine j_if_eq (tgt := 13) dX6_solve_8 (by decide) rfs_R (fun h8b => ?_) (fun h8b => ?_)
  · skip
    obtain ⟨pl1, tg1, lf1, rt1, op1, nm1, hx1, hag1⟩ := hok3 h8b
    obtain ⟨htt, hkk, hrr, hmm⟩ := rfs_ok h8b
    have hall := ((mxF_le (f := (rd ch tn 8 8).2.2) (b := S.1) (by omega) 8).mp hmm).2
    have hrdB := fun j => rd_B (ch := ch) (n := tn) (z := 8) 8 j
    have htb := k3.2.1.2.2 t.toNat (by omega)
    have hFt := hF t.toNat (by omega)
    refine j_aload_n dX6_solve_13 rfl ?_
    refine gf_X6_36 rfl dX6_solve_14 k3.1 rfl ?_
    refine j_aload_n dX6_solve_17 rfl ?_
    refine gf_X6_12 rfl dX6_solve_18 k3.1 rfl ?_
    refine j_iload_n dX6_solve_21 rfl ?_
    refine cl_X6_76 (As := [_]) rfl dX6_solve_22 (c_X2_tableOf k3.2.1.1 k3.2.1.2.1 (by omega) (by omega)) k3.2.1.1 rfl ⟨by decide, by decide⟩ (Nat.le_of_ble_eq_true rfl) ⟨Nat.zero_le _, Nat.zero_le _⟩ (fun z22 σ22 hz22 => ?_)
    obtain ⟨hr22, hs22⟩ := hz22
    have hr22 := Eq.symm hr22
    have hs22 := Eq.symm hs22
    subst hr22
    subst hs22
    refine j_iconst dX6_solve_25 ?_
    refine j_bipush dX6_solve_26 (by decide) ?_
    refine j_aload_n dX6_solve_28 rfl ?_
    refine gf_X6_12 rfl dX6_solve_29 k3.1 rfl ?_
    refine gf_X6_58 rfl dX6_solve_32 k3.2.1.1 rfl ?_
    have hE3 := hE.moved ho3 (by omega)
    refine cl_X6_138 (As := [_, _, _, _]) rfl dX6_solve_35 (c_X0_load (s := 0) (z := 8) hE3 htb.1 htb.2.1 (by omega) (by omega) hb1 hb2 hb3 hb4) hE3.1 rfl ⟨by decide, by decide⟩ (Nat.le_of_ble_eq_true rfl) ⟨Nat.zero_le _, Nat.zero_le _⟩ (fun σ35 hz35 => ?_)
    obtain ⟨ho35, m1, he1, hag1b⟩ := hz35
    have k35 := k3.el ho35 ⟨_, _, _, _, _, _, he1⟩
    have hx35 := hx1.moved ho35 (by omega)
    refine j_iconst dX6_solve_38 ?_
    refine j_istore dX6_solve_39 (by decide) (by dsimp only [List.set] <;> rfl) ?_
    have lp41 : ∀ (nn i : Nat) (w : Wd) (m : Mx), 9 - i < nn → i ≤ 8 → OffR o (o + 128) σ w → CS D w o S SN hs n H tn ch → TX D w (o + 111) tn pl1 ((8 : Nat) : Int) tg1 lf1 rt1 op1 ch nm1 → EA D w (o + 114) S.1 ((8 : Nat) : Int) r0 d0 f0 m → (∀ i2, i2 < 8 → ∀ j, j < 8 → m i2 j = blk (S.2.1 t.toNat) 0 i2 j) → (∀ i2, i2 < i → i2 < 8 → m i2 8 = (rd ch tn 8 8).2.2 i2) → J l D yX6_solve cX6_solve 5 (some .int) rmX6_solve sz (AA σ sz) (QI D σ sz (fun x σ' => x = svX S tn ch t k ∧ OffR o (o + 128) σ σ' ∧ CS D σ' o S SN hs n H tn ch)) 0 0 41 [some (.ref o), some (vi t), some (vi k), some (vi (rfs ch tn S.1 t k)), some (vi i)] [] w := by
      intro nn
      induction nn with
      | zero =>
        intro i w m hnn hi how kw hxw hew hma hmb
        exfalso
        omega
      | succ nn ih41 =>
        intro i w m hnn hi how kw hxw hew hma hmb
        refine j_iload dX6_solve_41 rfl ?_
        refine j_bipush dX6_solve_43 (by decide) ?_
        refine j_icmp_ge (tgt := 72) dX6_solve_45 (by decide) ⟨by omega, by omega⟩ ⟨by omega, by omega⟩ (fun h45 => ?_) (fun h45 => ?_)
        · skip
          refine j_aload_n dX6_solve_72 rfl ?_
          refine gf_X6_36 rfl dX6_solve_73 kw.1 rfl ?_
          have hagS : ∀ i, i < 8 → ∀ j, j ≤ 8 → m i j = svM (S.2.1 t.toNat) (rd ch tn 8 8).2.2 i j := fun i2 hi2 j hj => by
            unfold svM
            by_cases q : j = 8
            · rw [if_pos q, q]
              exact hmb i2 (by omega) (by omega)
            · rw [if_neg q]
              exact hma i2 hi2 j (by omega)
          have hMB : MB S.1 8 m := fun i2 hi2 j hj => by
            rw [hagS i2 hi2 j hj]
            unfold svM
            split
            · exact ⟨(hrdB i2).1, hall i2 hi2⟩
            · have := ldM_B (p := S.1) (by omega) hFt hok i2 hi2 j hj
              unfold ldM at this
              rw [if_pos (by omega)] at this
              exact this
          refine cl_X6_242 (As := []) rfl dX6_solve_76 (c_X0_reduce (z := 8) hew hb2 hWS.1 hMB) hew.1 rfl ⟨by decide, by decide⟩ (Nat.le_of_ble_eq_true rfl) ⟨Nat.zero_le _, Nat.zero_le _⟩ (fun σ76 hz76 => ?_)
          obtain ⟨ho76, f2, m2, he2, hag2⟩ := hz76
          have k76 := kw.el ho76 ⟨_, _, _, _, _, _, he2⟩
          have hgc := gj_cong (p := S.1) (z := 8) hagS 8 (by omega)
          refine j_aload_n dX6_solve_79 rfl ?_
          refine gf_X6_36 rfl dX6_solve_80 k76.1 rfl ?_
          refine gf_X6_245 rfl dX6_solve_83 he2.1 rfl ?_
          refine j_bipush dX6_solve_86 (by decide) ?_
          refine j_icmp_ne (tgt := 102) dX6_solve_88 (by decide) (rs (by omega) (by omega)) ⟨by omega, by omega⟩ (fun h88 => ?_) (fun h88 => ?_)
          · skip
            refine j_bipush dX6_solve_102 (by decide) ?_
            exact j_iret dX6_solve_104 ⟨_, rfl, by unfold svX; rw [if_neg (fun q => q h8b), if_neg (by rw [← hgc.1]; omega)], (how.tr (ho76.mono (by omega) (by omega))), k76⟩
          · skip
            refine j_aload_n dX6_solve_91 rfl ?_
            refine gf_X6_36 rfl dX6_solve_92 k76.1 rfl ?_
            refine j_iload_n dX6_solve_95 rfl ?_
            have hK := c_X0_rightSideAt (l := l) (D := D) (z := 8) (i := k.toNat) he2 hb2 (by omega)
            rw [Int.toNat_of_nonneg (a := k) (by omega)] at hK
            refine cl_X6_248 (As := [_]) rfl dX6_solve_96 (hK) he2.1 rfl ⟨by decide, by decide⟩ (Nat.le_of_ble_eq_true rfl) ⟨Nat.zero_le _, Nat.zero_le _⟩ (fun z96 σ96 hz96 => ?_)
            obtain ⟨hr96, hs96⟩ := hz96
            have hr96 := Eq.symm hr96
            have hs96 := Eq.symm hs96
            subst hr96
            subst hs96
            refine j_goto (tgt := 104) dX6_solve_99 (by decide) ?_
            exact j_iret dX6_solve_104 ⟨_, rfl, by unfold svX; rw [if_neg (fun q => q h8b), if_pos (by rw [← hgc.1]; omega), ← hgc.2.2.2 k.toNat (by omega) 8 (by omega)]; exact hag2 k.toNat (by omega) 8 (by omega), (how.tr (ho76.mono (by omega) (by omega))), k76⟩
        · skip
          refine j_aload_n dX6_solve_48 rfl ?_
          refine gf_X6_36 rfl dX6_solve_49 kw.1 rfl ?_
          refine j_iload dX6_solve_52 rfl ?_
          refine j_aload_n dX6_solve_54 rfl ?_
          refine gf_X6_29 rfl dX6_solve_55 kw.1 rfl ?_
          refine j_iload dX6_solve_58 rfl ?_
          refine cl_X6_236 (As := [_]) rfl dX6_solve_60 (c_X4_numberAt hxw (by omega) (by omega)) hxw.1 rfl ⟨by decide, by decide⟩ (Nat.le_of_ble_eq_true rfl) ⟨Nat.zero_le _, Nat.zero_le _⟩ (fun z60 σ60 hz60 => ?_)
          obtain ⟨hr60, hs60⟩ := hz60
          have hr60 := Eq.symm hr60
          have hs60 := Eq.symm hs60
          subst hr60
          subst hs60
          refine j_tops (hag1 i (by omega)) ?_
          refine cl_X6_239 (As := [_, _]) rfl dX6_solve_63 (c_X0_putRightSide (z := 8) hew hb2 (by omega)) hew.1 rfl ⟨by decide, by decide⟩ (Nat.le_of_ble_eq_true rfl) ⟨Nat.zero_le _, Nat.zero_le _⟩ (fun σ63 hz63 => ?_)
          obtain ⟨ho63, he63⟩ := hz63
          have k63 := kw.el (ho63.mono (by omega) (by omega)) ⟨_, _, _, _, _, _, he63⟩
          refine j_iinc dX6_solve_66 rfl (by decide) (by dsimp only [List.set] <;> rfl) ?_
          refine j_goto (tgt := 41) dX6_solve_69 (by decide) ?_
          refine j_weak (L := [some (.ref o), some (vi t), some (vi k), some (vi (rfs ch tn S.1 t k)), some (vi ((i + 1 : Nat) : Int))]) ⟨rfl, rfl, rfl, rfl, rfl, trivial⟩ ?_
          refine ih41 (i + 1) _ _ (by omega) (by omega) (how.tr (ho63.mono (by omega) (by omega))) k63 (hxw.moved ho63 (by omega)) he63 (fun i2 hi2 j hj => ?_) (fun i2 a b => ?_)
          · by_cases q : i2 = i
            · rw [q, fup_s, fup_n (by omega)]
              exact hma i (by omega) j hj
            · rw [fup_n q]
              exact hma i2 hi2 j hj
          · by_cases q : i2 = i
            · rw [q, fup_s, fup_s]
            · rw [fup_n q]
              exact hmb i2 (by omega) b
    exact lp41 10 0 _ m1 (by omega) (by omega) ((ho3.mono (by omega) (by omega)).tr (ho35.mono (by omega) (by omega))) k35 hx35 he1 (fun i2 hi2 j hj => by rw [hag1b i2 hi2 j (by omega)]; exact if_pos hj) (fun i2 a _ => absurd a (by omega))
  · skip
    refine j_iload_n dX6_solve_11 rfl ?_
    exact j_iret dX6_solve_12 ⟨_, rfl, by unfold svX; rw [if_pos h8b], ho3.mono (by omega) (by omega), k3⟩
set_option maxRecDepth 100000 in
set_option maxHeartbeats 4000000 in
theorem c_X6_table {l : Launch} {D : gD} {σ : Wd} {o n tn : Nat} {hs : Int} {S SN : MS} {H : Nat → MS} {ch : Nat → Int} {t v : Int} (h0 : CS D σ o S SN hs n H tn ch) (hWS : WS S) (ht : R32 t) (hv : R32 v) : KX6_table l D [.ref o, vi t, vi v] σ (fun x σ' => x = tbX S t v ∧ OffR o (o + 128) σ σ' ∧ CS D σ' o S SN hs n H tn ch) := by
  obtain ⟨h1, h2, h3, ⟨fH, h4⟩, h5, h6, ⟨gT, h7⟩, ⟨cL, h8⟩, ⟨cR, h9⟩⟩ := id h0
  have hlo := primeB_lo hWS.1
  have hg := fun t ht => (hWS.2 t ht).2
  have hF := fun t ht => (hWS.2 t ht).1
  refine sp_of (by decide +kernel) (cat1 rfl) (Nat.le_of_ble_eq_true rfl) [some (.ref o), some (vi t), some (vi v), none] rfl (fun sz => ?_)
  refine j_iload_n dX6_table_0 rfl ?_
  refine cl_X6_70 (As := [_]) rfl dX6_table_1 (c_X6_isTable ht) rfl ⟨by decide, by decide⟩ (Nat.le_of_ble_eq_true rfl) ⟨Nat.zero_le _, Nat.zero_le _⟩ (fun z1 σ1 hz1 => ?_)
  obtain ⟨hr1, hs1⟩ := hz1
  have hr1 := Eq.symm hr1
  have hs1 := Eq.symm hs1
  subst hr1
  subst hs1
  refine j_if_ne (tgt := 9) dX6_table_4 (by decide) R_ite (fun q4 => ?_) (fun q4 => ?_)
  · skip
    have aat := nz1 q4
    refine j_aload_n dX6_table_9 rfl ?_
    refine gf_X6_12 rfl dX6_table_10 h1 rfl ?_
    refine j_iload_n dX6_table_13 rfl ?_
    refine cl_X6_76 (As := [_]) rfl dX6_table_14 (c_X2_tableOf h2.1 h2.2.1 (by omega) (by omega)) h2.1 rfl ⟨by decide, by decide⟩ (Nat.le_of_ble_eq_true rfl) ⟨Nat.zero_le _, Nat.zero_le _⟩ (fun z14 σ14 hz14 => ?_)
    obtain ⟨hr14, hs14⟩ := hz14
    have hr14 := Eq.symm hr14
    have hs14 := Eq.symm hs14
    subst hr14
    subst hs14
    have htb := h2.2.2 t.toNat (by omega)
    have hFt := hF t.toNat (by omega)
    have hgt := hg t.toNat (by omega)
    have hok : okBlk 0 8 := okBlk_of (k := 3) (by omega) (by omega) rfl
    refine j_astore_n dX6_table_17 (by decide) (by dsimp only [List.set] <;> rfl) ?_
    refine j_iload_n dX6_table_18 rfl ?_
    rcases Classical.em (v = 0) with hs19 | hs19_0
    · skip
      subst hs19
      refine j_tsIn (tgt := 68) dX6_table_19 ⟨by omega, by omega⟩ (by omega) (by omega) rfl (by decide) ?_
      refine j_aload_n dX6_table_68 rfl ?_
      refine j_aload_n dX6_table_69 rfl ?_
      refine j_iconst dX6_table_70 ?_
      refine j_bipush dX6_table_71 (by decide) ?_
      refine cl_X6_111 (As := [_, _, _]) rfl dX6_table_73 (c_X6_blockRank (t := t.toNat) (s := 0) (z := 8) h1 h2 h6 (by omega) hWS.1 hFt hok) h1 rfl ⟨by decide, by decide⟩ (Nat.le_of_ble_eq_true rfl) ⟨Nat.zero_le _, Nat.zero_le _⟩ (fun z73 σ73 hz73 => ?_)
      obtain ⟨hr, ho, he⟩ := hz73
      exact j_iret dX6_table_76 ⟨_, rfl, by unfold tbX; rw [if_pos aat, if_pos rfl]; exact hr, ho.mono (by omega) (by omega), h0.el ho he⟩
    rcases Classical.em (v = 1) with hs19 | hs19_1
    · skip
      subst hs19
      refine j_tsIn (tgt := 77) dX6_table_19 ⟨by omega, by omega⟩ (by omega) (by omega) rfl (by decide) ?_
      refine j_aload_n dX6_table_77 rfl ?_
      refine j_aload_n dX6_table_78 rfl ?_
      refine cl_X6_203 (As := [_]) rfl dX6_table_79 (c_X6_tableDeterminant (t := t.toNat) h1 h2 h6 (by omega) hWS.1 hFt) h1 rfl ⟨by decide, by decide⟩ (Nat.le_of_ble_eq_true rfl) ⟨Nat.zero_le _, Nat.zero_le _⟩ (fun z79 σ79 hz79 => ?_)
      obtain ⟨hr, ho, he⟩ := hz79
      exact j_iret dX6_table_82 ⟨_, rfl, by unfold tbX; rw [if_pos aat, if_neg (by decide), if_pos rfl]; exact hr, ho.mono (by omega) (by omega), h0.el ho he⟩
    rcases Classical.em (v = 2) with hs19 | hs19_2
    · skip
      subst hs19
      refine j_tsIn (tgt := 83) dX6_table_19 ⟨by omega, by omega⟩ (by omega) (by omega) rfl (by decide) ?_
      refine j_aload_n dX6_table_83 rfl ?_
      refine cl_X6_206 (As := []) rfl dX6_table_84 (c_X3_diagonalSum htb.1 htb.2.1) htb.1 rfl ⟨by decide, by decide⟩ (Nat.le_of_ble_eq_true rfl) ⟨Nat.zero_le _, Nat.zero_le _⟩ (fun z84 σ84 hz84 => ?_)
      obtain ⟨hr84, hs84⟩ := hz84
      have hr84 := Eq.symm hr84
      have hs84 := Eq.symm hs84
      subst hr84
      subst hs84
      have hsR := sumF_R (f := fun j => S.2.1 t.toNat (9 * j)) (b := 251) (n := 8) (fun j hj => by have := hFt (9 * j) (by omega); omega)
      refine j_aload_n dX6_table_87 rfl ?_
      refine gf_X6_12 rfl dX6_table_88 h1 rfl ?_
      refine gf_X6_58 rfl dX6_table_91 h2.1 rfl ?_
      refine cl_X6_128 (As := [_, _]) rfl dX6_table_94 (c_X6_remainder (rs (by omega) (by omega)) (by omega) (by omega)) rfl ⟨by decide, by decide⟩ (Nat.le_of_ble_eq_true rfl) ⟨Nat.zero_le _, Nat.zero_le _⟩ (fun z94 σ94 hz94 => ?_)
      obtain ⟨hr94, hs94⟩ := hz94
      have hr94 := Eq.symm hr94
      have hs94 := Eq.symm hs94
      subst hr94
      subst hs94
      exact j_iret dX6_table_97 ⟨_, rfl, by unfold tbX; rw [if_pos aat, if_neg (by decide), if_neg (by decide), if_pos rfl], OffR.rf, h0⟩
    rcases Classical.em (v = 3) with hs19 | hs19_3
    · skip
      subst hs19
      refine j_tsIn (tgt := 98) dX6_table_19 ⟨by omega, by omega⟩ (by omega) (by omega) rfl (by decide) ?_
      refine j_aload_n dX6_table_98 rfl ?_
      refine gf_X6_93 rfl dX6_table_99 htb.1 rfl ?_
      refine cl_X6_156 (As := []) rfl dX6_table_102 (c_X5_leaves htb.2.2.1 htb.2.2.2 hgt.R) htb.2.2.1 rfl ⟨by decide, by decide⟩ (Nat.le_of_ble_eq_true rfl) ⟨Nat.zero_le _, Nat.zero_le _⟩ (fun z102 σ102 hz102 => ?_)
      obtain ⟨hr102, hs102⟩ := hz102
      have hr102 := Eq.symm hr102
      have hs102 := Eq.symm hs102
      subst hr102
      subst hs102
      exact j_iret dX6_table_105 ⟨_, rfl, by unfold tbX; rw [if_pos aat, if_neg (by decide), if_neg (by decide), if_neg (by decide), if_pos rfl], OffR.rf, h0⟩
    rcases Classical.em (v = 4) with hs19 | hs19_4
    · skip
      subst hs19
      refine j_tsIn (tgt := 106) dX6_table_19 ⟨by omega, by omega⟩ (by omega) (by omega) rfl (by decide) ?_
      refine j_aload_n dX6_table_106 rfl ?_
      refine j_iload_n dX6_table_107 rfl ?_
      refine j_iload_n dX6_table_108 rfl ?_
      have hK := c_X6_costOfTables (l := l) (D := D) (a := t.toNat) (b := t.toNat) h1 h2 h6 (by omega) (by omega) hWS.1 hF hg
      rw [Int.toNat_of_nonneg (a := t) (by omega)] at hK
      refine cl_X6_209 (As := [_, _]) rfl dX6_table_109 (hK) h1 rfl ⟨by decide, by decide⟩ (Nat.le_of_ble_eq_true rfl) ⟨Nat.zero_le _, Nat.zero_le _⟩ (fun z109 σ109 hz109 => ?_)
      obtain ⟨hr, ho, he⟩ := hz109
      exact j_iret dX6_table_112 ⟨_, rfl, by unfold tbX; rw [if_pos aat, if_neg (by decide), if_neg (by decide), if_neg (by decide), if_neg (by decide), if_pos rfl, hr]; exact sumF_d _ _, ho.mono (by omega) (by omega), h0.el ho he⟩
    rcases Classical.em (v = 5) with hs19 | hs19_5
    · skip
      subst hs19
      refine j_tsIn (tgt := 113) dX6_table_19 ⟨by omega, by omega⟩ (by omega) (by omega) rfl (by decide) ?_
      refine j_aload_n dX6_table_113 rfl ?_
      refine j_aload_n dX6_table_114 rfl ?_
      refine cl_X6_173 (As := [_]) rfl dX6_table_115 (c_X6_findLeastTree (t := t.toNat) h1 h2 h6 h7 h8 (by omega) hWS.1 hFt) h1 rfl ⟨by decide, by decide⟩ (Nat.le_of_ble_eq_true rfl) ⟨Nat.zero_le _, Nat.zero_le _⟩ (fun z115 σ115 hz115 => ?_)
      obtain ⟨hr, ho, he, htr, hc⟩ := hz115
      exact j_iret dX6_table_118 ⟨_, rfl, by unfold tbX; rw [if_pos aat, if_neg (by decide), if_neg (by decide), if_neg (by decide), if_neg (by decide), if_neg (by decide), if_pos rfl]; exact hr, ho.mono (by omega) (by omega), h0.lt ho he ⟨_, htr⟩ hc⟩
    rcases Classical.em (v = 6) with hs19 | hs19_6
    · skip
      subst hs19
      refine j_tsIn (tgt := 119) dX6_table_19 ⟨by omega, by omega⟩ (by omega) (by omega) rfl (by decide) ?_
      refine j_aload_n dX6_table_119 rfl ?_
      refine j_aload_n dX6_table_120 rfl ?_
      refine cl_X6_173 (As := [_]) rfl dX6_table_121 (c_X6_findLeastTree (t := t.toNat) h1 h2 h6 h7 h8 (by omega) hWS.1 hFt) h1 rfl ⟨by decide, by decide⟩ (Nat.le_of_ble_eq_true rfl) ⟨Nat.zero_le _, Nat.zero_le _⟩ (fun z121 σ121 hz121 => ?_)
      obtain ⟨hr, ho, he, htr, hc⟩ := hz121
      have k121 := h0.lt ho he ⟨_, htr⟩ hc
      have hlR := (lv_WFg (p := S.1) (F := S.2.1 t.toNat)).R
      refine j_pop dX6_table_124 rfl ?_
      refine j_aload_n dX6_table_125 rfl ?_
      refine gf_X6_43 rfl dX6_table_126 k121.1 rfl ?_
      refine cl_X6_156 (As := []) rfl dX6_table_129 (c_X5_leaves htr.1 htr.2 hlR) htr.1 rfl ⟨by decide, by decide⟩ (Nat.le_of_ble_eq_true rfl) ⟨Nat.zero_le _, Nat.zero_le _⟩ (fun z129 σ129 hz129 => ?_)
      obtain ⟨hr129, hs129⟩ := hz129
      have hr129 := Eq.symm hr129
      have hs129 := Eq.symm hs129
      subst hr129
      subst hs129
      exact j_iret dX6_table_132 ⟨_, rfl, by unfold tbX; rw [if_pos aat, if_neg (by decide), if_neg (by decide), if_neg (by decide), if_neg (by decide), if_neg (by decide), if_neg (by decide), if_pos rfl], ho.mono (by omega) (by omega), k121⟩
    rcases Classical.em (v = 7) with hs19 | hs19_7
    · skip
      subst hs19
      refine j_tsIn (tgt := 133) dX6_table_19 ⟨by omega, by omega⟩ (by omega) (by omega) rfl (by decide) ?_
      refine j_aload_n dX6_table_133 rfl ?_
      refine j_aload_n dX6_table_134 rfl ?_
      refine cl_X6_212 (As := [_]) rfl dX6_table_135 (c_X6_greatestLeafRank (t := t.toNat) h1 h2 h6 (by omega) hWS.1 hFt hgt) h1 rfl ⟨by decide, by decide⟩ (Nat.le_of_ble_eq_true rfl) ⟨Nat.zero_le _, Nat.zero_le _⟩ (fun z135 σ135 hz135 => ?_)
      obtain ⟨hr, ho, he⟩ := hz135
      exact j_iret dX6_table_138 ⟨_, rfl, by unfold tbX; rw [if_pos aat, if_neg (by decide), if_neg (by decide), if_neg (by decide), if_neg (by decide), if_neg (by decide), if_neg (by decide), if_neg (by decide), if_pos rfl]; exact hr, ho.mono (by omega) (by omega), h0.el ho he⟩
    rcases Classical.em (v = 8) with hs19 | hs19_8
    · skip
      subst hs19
      refine j_tsIn (tgt := 139) dX6_table_19 ⟨by omega, by omega⟩ (by omega) (by omega) rfl (by decide) ?_
      refine j_aload_n dX6_table_139 rfl ?_
      refine cl_X6_215 (As := []) rfl dX6_table_140 (c_X3_cellsNotZero htb.1 htb.2.1 (fun j hj => by have := hFt j hj; exact rs (by omega) (by omega))) htb.1 rfl ⟨by decide, by decide⟩ (Nat.le_of_ble_eq_true rfl) ⟨Nat.zero_le _, Nat.zero_le _⟩ (fun z140 σ140 hz140 => ?_)
      obtain ⟨hr140, hs140⟩ := hz140
      have hr140 := Eq.symm hr140
      have hs140 := Eq.symm hs140
      subst hr140
      subst hs140
      exact j_iret dX6_table_143 ⟨_, rfl, by unfold tbX; rw [if_pos aat, if_neg (by decide), if_neg (by decide), if_neg (by decide), if_neg (by decide), if_neg (by decide), if_neg (by decide), if_neg (by decide), if_neg (by decide), if_pos rfl], OffR.rf, h0⟩
    refine j_tsOut (tgt := 144) dX6_table_19 hv (by omega) (by decide) ?_
    refine j_bipush dX6_table_144 (by decide) ?_
    exact j_iret dX6_table_146 ⟨_, rfl, by unfold tbX; rw [if_pos aat, if_neg (by omega), if_neg (by omega), if_neg (by omega), if_neg (by omega), if_neg (by omega), if_neg (by omega), if_neg (by omega), if_neg (by omega), if_neg (by omega)], OffR.rf, h0⟩
  · skip
    have aat := ne1 q4
    refine j_iconst dX6_table_7 ?_
    exact j_iret dX6_table_8 ⟨_, rfl, by unfold tbX; rw [if_neg (by omega)], OffR.rf, h0⟩
set_option maxRecDepth 100000 in
set_option maxHeartbeats 4000000 in
theorem c_X6_leaf {l : Launch} {D : gD} {σ : Wd} {o n tn : Nat} {hs : Int} {S SN : MS} {H : Nat → MS} {ch : Nat → Int} {t e v : Int} (h0 : CS D σ o S SN hs n H tn ch) (hWS : WS S) (ht : R32 t) (he : R32 e) (hv : R32 v) : KX6_leaf l D [.ref o, vi t, vi e, vi v] σ (fun x σ' => x = lfX S t e v ∧ OffR o (o + 128) σ σ' ∧ CS D σ' o S SN hs n H tn ch) := by
  obtain ⟨h1, h2, h3, ⟨fH, h4⟩, h5, h6, ⟨gT, h7⟩, ⟨cL, h8⟩, ⟨cR, h9⟩⟩ := id h0
  have hlo := primeB_lo hWS.1
  have hg := fun t ht => (hWS.2 t ht).2
  have hF := fun t ht => (hWS.2 t ht).1
  refine sp_of (by decide +kernel) (cat1 rfl) (Nat.le_of_ble_eq_true rfl) [some (.ref o), some (vi t), some (vi e), some (vi v), none, none, none] rfl (fun sz => ?_)
  refine j_aload_n dX6_leaf_0 rfl ?_
  refine j_iload_n dX6_leaf_1 rfl ?_
  refine j_iload_n dX6_leaf_2 rfl ?_
  refine cl_X6_90 (As := [_, _]) rfl dX6_leaf_3 (c_X6_leafStart h1 h2 hg ht he) h1 rfl ⟨by decide, by decide⟩ (Nat.le_of_ble_eq_true rfl) ⟨Nat.zero_le _, Nat.zero_le _⟩ (fun z3 σ3 hz3 => ?_)
  obtain ⟨hd3, hs3⟩ := hz3
  have hs3 := Eq.symm hs3
  subst hs3
  have e3 := lstT_of hd3
  subst e3
  have hlR := lstT_R S t e
  refine j_istore dX6_leaf_6 (by decide) (by dsimp only [List.set] <;> rfl) ?_
  refine j_iload dX6_leaf_8 rfl ?_
  refine j_iconst dX6_leaf_10 ?_
  refine j_icmp_ne (tgt := 16) dX6_leaf_11 (by decide) (rs (by omega) (by omega)) ⟨by omega, by omega⟩ (fun h9 => ?_) (fun h9 => ?_)
  · skip
    obtain ⟨s, z, k, est, ht0, ht3, hs64, hgz, hzk, hk, hok, hz1, hz8, hsz, hmod⟩ := lstT_leaf hg h9
    rw [est]
    refine j_aload_n dX6_leaf_16 rfl ?_
    refine gf_X6_12 rfl dX6_leaf_17 h1 rfl ?_
    refine j_iload_n dX6_leaf_20 rfl ?_
    refine cl_X6_76 (As := [_]) rfl dX6_leaf_21 (c_X2_tableOf h2.1 h2.2.1 (by omega) (by omega)) h2.1 rfl ⟨by decide, by decide⟩ (Nat.le_of_ble_eq_true rfl) ⟨Nat.zero_le _, Nat.zero_le _⟩ (fun z21 σ21 hz21 => ?_)
    obtain ⟨hr21, hs21⟩ := hz21
    have hr21 := Eq.symm hr21
    have hs21 := Eq.symm hs21
    subst hr21
    subst hs21
    have htb := h2.2.2 t.toNat (by omega)
    refine j_astore dX6_leaf_24 (by decide) (by dsimp only [List.set] <;> rfl) ?_
    refine j_aload dX6_leaf_26 rfl ?_
    refine gf_X6_93 rfl dX6_leaf_28 htb.1 rfl ?_
    refine j_iload dX6_leaf_31 rfl ?_
    refine cl_X6_96 (As := [_]) rfl dX6_leaf_33 (c_X5_sizeAt htb.2.2.1 htb.2.2.2 (rs (by omega) (by omega))) htb.2.2.1 rfl ⟨by decide, by decide⟩ (Nat.le_of_ble_eq_true rfl) ⟨Nat.zero_le _, Nat.zero_le _⟩ (fun z33 σ33 hz33 => ?_)
    obtain ⟨hr33, hs33⟩ := hz33
    have hs33 := Eq.symm hs33
    subst hs33
    have hr33 : z33 = (z : Int) := by rw [hr33, if_pos (by omega)]; exact hgz
    subst hr33
    refine j_istore dX6_leaf_36 (by decide) (by dsimp only [List.set] <;> rfl) ?_
    refine j_iload_n dX6_leaf_38 rfl ?_
    rcases Classical.em (v = 0) with hs39 | hs39_0
    · skip
      subst hs39
      refine j_tsIn (tgt := 76) dX6_leaf_39 ⟨by omega, by omega⟩ (by omega) (by omega) rfl (by decide) ?_
      refine j_iload dX6_leaf_76 rfl ?_
      refine cl_X6_218 (As := [_]) rfl dX6_leaf_78 (c_X5_rowOf (by omega)) rfl ⟨by decide, by decide⟩ (Nat.le_of_ble_eq_true rfl) ⟨Nat.zero_le _, Nat.zero_le _⟩ (fun z78 σ78 hz78 => ?_)
      obtain ⟨hr78, hs78⟩ := hz78
      have hr78 := Eq.symm hr78
      have hs78 := Eq.symm hs78
      subst hr78
      subst hs78
      exact j_iret dX6_leaf_81 ⟨_, rfl, by unfold lfX; rw [onLeaf_y est hgz]; rfl, OffR.rf, h0⟩
    rcases Classical.em (v = 1) with hs39 | hs39_1
    · skip
      subst hs39
      refine j_tsIn (tgt := 82) dX6_leaf_39 ⟨by omega, by omega⟩ (by omega) (by omega) rfl (by decide) ?_
      refine j_iload dX6_leaf_82 rfl ?_
      refine cl_X6_221 (As := [_]) rfl dX6_leaf_84 (c_X5_columnOf hs64) rfl ⟨by decide, by decide⟩ (Nat.le_of_ble_eq_true rfl) ⟨Nat.zero_le _, Nat.zero_le _⟩ (fun z84 σ84 hz84 => ?_)
      obtain ⟨hr84, hs84⟩ := hz84
      have hr84 := Eq.symm hr84
      have hs84 := Eq.symm hs84
      subst hr84
      subst hs84
      exact j_iret dX6_leaf_87 ⟨_, rfl, by unfold lfX; rw [onLeaf_y est hgz]; rfl, OffR.rf, h0⟩
    rcases Classical.em (v = 2) with hs39 | hs39_2
    · skip
      subst hs39
      refine j_tsIn (tgt := 88) dX6_leaf_39 ⟨by omega, by omega⟩ (by omega) (by omega) rfl (by decide) ?_
      refine j_iload dX6_leaf_88 rfl ?_
      exact j_iret dX6_leaf_90 ⟨_, rfl, by unfold lfX; rw [onLeaf_y est hgz]; rfl, OffR.rf, h0⟩
    rcases Classical.em (v = 3) with hs39 | hs39_3
    · skip
      subst hs39
      refine j_tsIn (tgt := 91) dX6_leaf_39 ⟨by omega, by omega⟩ (by omega) (by omega) rfl (by decide) ?_
      refine j_aload_n dX6_leaf_91 rfl ?_
      refine j_aload dX6_leaf_92 rfl ?_
      refine j_iload dX6_leaf_94 rfl ?_
      refine j_iload dX6_leaf_96 rfl ?_
      refine cl_X6_111 (As := [_, _, _]) rfl dX6_leaf_98 (c_X6_blockRank (t := t.toNat) (s := s) (z := z) h1 h2 h6 (by omega) hWS.1 (hF t.toNat (by omega)) hok) h1 rfl ⟨by decide, by decide⟩ (Nat.le_of_ble_eq_true rfl) ⟨Nat.zero_le _, Nat.zero_le _⟩ (fun z98 σ98 hz98 => ?_)
      obtain ⟨hr, ho, he⟩ := hz98
      have hr := Eq.symm hr
      subst hr
      have hrl := rk_le (p := S.1) (F := S.2.1 t.toNat) (s := s) (z := z)
      exact j_iret dX6_leaf_101 ⟨_, rfl, by unfold lfX; rw [onLeaf_y est hgz]; rfl, ho.mono (by omega) (by omega), h0.el ho he⟩
    rcases Classical.em (v = 4) with hs39 | hs39_4
    · skip
      subst hs39
      refine j_tsIn (tgt := 102) dX6_leaf_39 ⟨by omega, by omega⟩ (by omega) (by omega) rfl (by decide) ?_
      refine j_iload dX6_leaf_102 rfl ?_
      refine j_aload_n dX6_leaf_104 rfl ?_
      refine j_aload dX6_leaf_105 rfl ?_
      refine j_iload dX6_leaf_107 rfl ?_
      refine j_iload dX6_leaf_109 rfl ?_
      refine cl_X6_111 (As := [_, _, _]) rfl dX6_leaf_111 (c_X6_blockRank (t := t.toNat) (s := s) (z := z) h1 h2 h6 (by omega) hWS.1 (hF t.toNat (by omega)) hok) h1 rfl ⟨by decide, by decide⟩ (Nat.le_of_ble_eq_true rfl) ⟨Nat.zero_le _, Nat.zero_le _⟩ (fun z111 σ111 hz111 => ?_)
      obtain ⟨hr, ho, he⟩ := hz111
      have hr := Eq.symm hr
      subst hr
      have hrl := rk_le (p := S.1) (F := S.2.1 t.toNat) (s := s) (z := z)
      refine cl_X6_224 (As := [_, _]) rfl dX6_leaf_114 (c_X6_leafCost (z := z) (by omega) (by omega) (by omega) (by omega)) rfl ⟨by decide, by decide⟩ (Nat.le_of_ble_eq_true rfl) ⟨Nat.zero_le _, Nat.zero_le _⟩ (fun z114 σ114 hz114 => ?_)
      obtain ⟨hr114, hs114⟩ := hz114
      have hr114 := Eq.symm hr114
      have hs114 := Eq.symm hs114
      subst hr114
      subst hs114
      exact j_iret dX6_leaf_117 ⟨_, rfl, by unfold lfX; rw [onLeaf_y est hgz]; rfl, ho.mono (by omega) (by omega), h0.el ho he⟩
    rcases Classical.em (v = 5) with hs39 | hs39_5
    · skip
      subst hs39
      refine j_tsIn (tgt := 118) dX6_leaf_39 ⟨by omega, by omega⟩ (by omega) (by omega) rfl (by decide) ?_
      refine j_iconst dX6_leaf_118 ?_
      refine j_iload dX6_leaf_119 rfl ?_
      refine j_imul dX6_leaf_121 ?_
      refine j_aload_n dX6_leaf_122 rfl ?_
      refine j_aload dX6_leaf_123 rfl ?_
      refine j_iload dX6_leaf_125 rfl ?_
      refine j_iload dX6_leaf_127 rfl ?_
      refine cl_X6_111 (As := [_, _, _]) rfl dX6_leaf_129 (c_X6_blockRank (t := t.toNat) (s := s) (z := z) h1 h2 h6 (by omega) hWS.1 (hF t.toNat (by omega)) hok) h1 rfl ⟨by decide, by decide⟩ (Nat.le_of_ble_eq_true rfl) ⟨Nat.zero_le _, Nat.zero_le _⟩ (fun z129 σ129 hz129 => ?_)
      obtain ⟨hr, ho, he⟩ := hz129
      have hr := Eq.symm hr
      subst hr
      have hrl := rk_le (p := S.1) (F := S.2.1 t.toNat) (s := s) (z := z)
      refine j_imul dX6_leaf_132 ?_
      refine j_iload dX6_leaf_133 rfl ?_
      refine j_iload dX6_leaf_135 rfl ?_
      refine j_imul dX6_leaf_137 ?_
      have hm1 := mul_R (a := 2 * (z : Int)) (b := ((rk S.1 (S.2.1 t.toNat) s z : Nat) : Int)) (m := 16) (n := 8) (by omega) (by omega) (by omega) (by omega) (by omega)
      have hm2 := mul_R (a := (z : Int)) (b := z) (m := 8) (n := 8) (by omega) (by omega) (by omega) (by omega) (by omega)
      refine j_icmp_ge (tgt := 145) dX6_leaf_138 (by decide) ⟨by omega, by omega⟩ ⟨by omega, by omega⟩ (fun h138 => ?_) (fun h138 => ?_)
      · skip
        refine j_iconst dX6_leaf_145 ?_
        exact j_iret dX6_leaf_146 ⟨_, rfl, by unfold lfX; rw [onLeaf_y est hgz]; show 0 = (if _ then (1 : Int) else 0); rw [if_neg (by omega)], ho.mono (by omega) (by omega), h0.el ho he⟩
      · skip
        refine j_iconst dX6_leaf_141 ?_
        refine j_goto (tgt := 146) dX6_leaf_142 (by decide) ?_
        exact j_iret dX6_leaf_146 ⟨_, rfl, by unfold lfX; rw [onLeaf_y est hgz]; show 1 = (if _ then (1 : Int) else 0); rw [if_pos (by omega)], ho.mono (by omega) (by omega), h0.el ho he⟩
    refine j_tsOut (tgt := 147) dX6_leaf_39 hv (by omega) (by decide) ?_
    refine j_bipush dX6_leaf_147 (by decide) ?_
    exact j_iret dX6_leaf_149 ⟨_, rfl, by unfold lfX; rw [onLeaf_y est hgz]; rw [if_neg (by omega), if_neg (by omega), if_neg (by omega), if_neg (by omega), if_neg (by omega), if_neg (by omega)], OffR.rf, h0⟩
  · skip
    refine j_iconst dX6_leaf_14 ?_
    exact j_iret dX6_leaf_15 ⟨_, rfl, by unfold lfX; exact (onLeaf_n h9).symm, OffR.rf, h0⟩

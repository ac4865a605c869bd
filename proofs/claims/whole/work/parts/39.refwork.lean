/-! ===== the reference: formulas, products, factors ===== -/
def okS (sn op : Int) : Prop := (sn = 43 ∧ op = 43) ∨ (sn = 45 ∧ op = 45) ∨ (sn = 42 ∧ op = 42) ∨ (sn = 39 ∧ op = 39) ∨ (sn = 0 ∧ op = -1)
theorem WS.cells {S : MS} {t : Nat} {f : Nat → Int} (h : WS S) (hf : CB S.1 f) : WS (S.1, fup S.2.1 t f, S.2.2) := by
  refine ⟨h.1, fun u hu => ⟨?_, (h.2 u hu).2⟩⟩
  show CB S.1 (fup S.2.1 t f u)
  by_cases e : u = t
  · rw [e, fup_s]
    exact hf
  · rw [fup_n e]
    exact (h.2 u hu).1
theorem WS.sizes {S : MS} {t : Nat} {g : Nat → Int} (h : WS S) (hg : WFg g) : WS (S.1, S.2.1, fup S.2.2 t g) := by
  refine ⟨h.1, fun u hu => ⟨(h.2 u hu).1, ?_⟩⟩
  show WFg (fup S.2.2 t g u)
  by_cases e : u = t
  · rw [e, fup_s]
    exact hg
  · rw [fup_n e]
    exact (h.2 u hu).2
theorem fcell_oth {op : Int} {f f2 f3 : Nat → Int} {r c : Nat} (h : ¬ (op = 43 ∨ op = 45 ∨ op = 42)) : fcell op f f2 r c = fcell op f f3 r c := by
  unfold fcell
  by_cases a : op = 39
  · rw [if_pos a, if_pos a]
  · rw [if_neg a, if_neg a, if_neg (by omega), if_neg (by omega), if_neg (by omega), if_neg (by omega), if_neg (by omega), if_neg (by omega)]
section FM
variable {ch : Nat → Int} {n : Nat}
theorem fml0 (a : ¬ (65 ≤ sg ch n 0 ∧ sg ch n 0 ≤ 68)) : (fml ch n).1 = 0 := by
  unfold fml
  rw [if_pos a]
theorem fml1 (a : 65 ≤ sg ch n 0 ∧ sg ch n 0 ≤ 68) (b : sg ch n 1 ≠ 61) : (fml ch n).1 = 1 := by
  unfold fml
  rw [if_neg (fun q => q a), if_pos b]
theorem fml2 (a : 65 ≤ sg ch n 0 ∧ sg ch n 0 ≤ 68) (b : sg ch n 1 = 61) (c : ¬ (65 ≤ sg ch n 2 ∧ sg ch n 2 ≤ 68)) : (fml ch n).1 = 2 := by
  unfold fml
  rw [if_neg (fun q => q a), if_neg (fun q => q b), if_pos c]
theorem fml4 (a : 65 ≤ sg ch n 0 ∧ sg ch n 0 ≤ 68) (b : sg ch n 1 = 61) (c : 65 ≤ sg ch n 2 ∧ sg ch n 2 ≤ 68) (d : sg ch n 3 = 43 ∨ sg ch n 3 = 45 ∨ sg ch n 3 = 42) (e : ¬ (65 ≤ sg ch n 4 ∧ sg ch n 4 ≤ 68)) : (fml ch n).1 = 4 := by
  unfold fml
  rw [if_neg (fun q => q a), if_neg (fun q => q b), if_neg (fun q => q c), if_pos d, if_pos e]
theorem fmlA (a : 65 ≤ sg ch n 0 ∧ sg ch n 0 ≤ 68) (b : sg ch n 1 = 61) (c : 65 ≤ sg ch n 2 ∧ sg ch n 2 ≤ 68) (d : sg ch n 3 = 43 ∨ sg ch n 3 = 45 ∨ sg ch n 3 = 42) (e : 65 ≤ sg ch n 4 ∧ sg ch n 4 ≤ 68) : (5 < n → (fml ch n).1 = 5) ∧ (¬ 5 < n → fml ch n = (-1, sg ch n 0 - 65, sg ch n 2 - 65, sg ch n 4 - 65, sg ch n 3)) := by
  unfold fml
  rw [if_neg (fun q => q a), if_neg (fun q => q b), if_neg (fun q => q c), if_pos d, if_neg (fun q => q e)]
  exact ⟨fun x => by rw [if_pos x], fun x => by rw [if_neg x]⟩
theorem fmlB (a : 65 ≤ sg ch n 0 ∧ sg ch n 0 ≤ 68) (b : sg ch n 1 = 61) (c : 65 ≤ sg ch n 2 ∧ sg ch n 2 ≤ 68) (d : sg ch n 3 = 39) : (4 < n → (fml ch n).1 = 4) ∧ (¬ 4 < n → fml ch n = (-1, sg ch n 0 - 65, sg ch n 2 - 65, sg ch n 2 - 65, 39)) := by
  unfold fml
  rw [if_neg (fun q => q a), if_neg (fun q => q b), if_neg (fun q => q c), if_neg (by omega), if_pos d]
  exact ⟨fun x => by rw [if_pos x], fun x => by rw [if_neg x]⟩
theorem fmlC (a : 65 ≤ sg ch n 0 ∧ sg ch n 0 ≤ 68) (b : sg ch n 1 = 61) (c : 65 ≤ sg ch n 2 ∧ sg ch n 2 ≤ 68) (d : ¬ (sg ch n 3 = 43 ∨ sg ch n 3 = 45 ∨ sg ch n 3 = 42)) (e : sg ch n 3 ≠ 39) : (3 < n → (fml ch n).1 = 3) ∧ (¬ 3 < n → fml ch n = (-1, sg ch n 0 - 65, sg ch n 2 - 65, sg ch n 2 - 65, -1)) := by
  unfold fml
  rw [if_neg (fun q => q a), if_neg (fun q => q b), if_neg (fun q => q c), if_neg d, if_neg e]
  exact ⟨fun x => by rw [if_pos x], fun x => by rw [if_neg x]⟩
end FM

set_option maxRecDepth 100000 in
set_option maxHeartbeats 4000000 in
theorem c_X7_worked {l : Launch} {D : gD} {σ : Wd} {m n tn pl : Nat} {hs de : Int} {R P A ch rv W mk ls sp : Nat → Int} {a b r c : Nat} {sn op : Int} {S : MS} (h : RM D σ m n hs tn pl de R P A ch rv W mk ls sp) (hO : RO R S) (hWS : WS S) (ha : a < 4) (hb : b < 4) (hr : r < 8) (hc : c < 8) (hop : okS sn op) : KX7_worked l D [.ref m, vi a, vi sn, vi b, vi r, vi c] σ (fun x σ' => x = fcell op (S.2.1 a) (S.2.1 b) r c % S.1 ∧ σ' = σ) := by
  have hlo := primeB_lo hWS.1
  have hFa := (hWS.2 a ha).1
  have hFb := (hWS.2 b hb).1
  have c1 := hFa (8 * r + c) (by omega)
  have c2 := hFb (8 * r + c) (by omega)
  have c3 := hFa (8 * c + r) (by omega)
  unfold okS at hop
  have hsnR : R32 sn := by rcases hop with q | q | q | q | q <;> exact rs (by omega) (by omega)
  refine sp_of (by decide +kernel) (cat1 rfl) (Nat.le_of_ble_eq_true rfl) [some (.ref m), some (vi a), some (vi sn), some (vi b), some (vi r), some (vi c), none, none] rfl (fun sz => ?_)
  refine j_iload_n dX7_worked_0 rfl ?_
  refine j_bipush dX7_worked_1 (by decide) ?_
  refine j_icmp_ne (tgt := 30) dX7_worked_3 (by decide) hsnR ⟨by omega, by omega⟩ (fun h3 => ?_) (fun h3 => ?_)
  · skip
    refine j_iload_n dX7_worked_30 rfl ?_
    refine j_bipush dX7_worked_31 (by decide) ?_
    refine j_icmp_ne (tgt := 60) dX7_worked_33 (by decide) hsnR ⟨by omega, by omega⟩ (fun h33 => ?_) (fun h33 => ?_)
    · skip
      refine j_iload_n dX7_worked_60 rfl ?_
      refine j_bipush dX7_worked_61 (by decide) ?_
      refine j_icmp_ne (tgt := 116) dX7_worked_63 (by decide) hsnR ⟨by omega, by omega⟩ (fun h63 => ?_) (fun h63 => ?_)
      · skip
        refine j_iload_n dX7_worked_116 rfl ?_
        refine j_if_ne (tgt := 132) dX7_worked_117 (by decide) hsnR (fun h117 => ?_) (fun h117 => ?_)
        · skip
          refine j_aload_n dX7_worked_132 rfl ?_
          refine j_iload_n dX7_worked_133 rfl ?_
          refine j_iload dX7_worked_134 rfl ?_
          refine j_iload dX7_worked_136 rfl ?_
          refine cl_X7_139 (As := [_, _, _]) rfl dX7_worked_138 (c_X7_cellOf (t := a) (r := c) (c := r) h hO (by omega) (by omega) (by omega)) h.1 rfl ⟨by decide, by decide⟩ (Nat.le_of_ble_eq_true rfl) ⟨Nat.zero_le _, Nat.zero_le _⟩ (fun z138 σ138 hz138 => ?_)
          obtain ⟨hr138, hs138⟩ := hz138
          have hr138 := Eq.symm hr138
          have hs138 := Eq.symm hs138
          subst hr138
          subst hs138
          exact j_iret dX7_worked_141 ⟨_, rfl, by unfold fcell; rw [if_pos (by omega)]; exact (emod_id c3.1 c3.2).symm, rfl⟩
        · skip
          refine j_aload_n dX7_worked_120 rfl ?_
          refine j_iload_n dX7_worked_121 rfl ?_
          refine j_iload dX7_worked_122 rfl ?_
          refine j_iload dX7_worked_124 rfl ?_
          refine cl_X7_139 (As := [_, _, _]) rfl dX7_worked_126 (c_X7_cellOf (t := a) (r := r) (c := c) h hO (by omega) (by omega) (by omega)) h.1 rfl ⟨by decide, by decide⟩ (Nat.le_of_ble_eq_true rfl) ⟨Nat.zero_le _, Nat.zero_le _⟩ (fun z126 σ126 hz126 => ?_)
          obtain ⟨hr126, hs126⟩ := hz126
          have hr126 := Eq.symm hr126
          have hs126 := Eq.symm hs126
          subst hr126
          subst hs126
          refine j_goto (tgt := 141) dX7_worked_129 (by decide) ?_
          exact j_iret dX7_worked_141 ⟨_, rfl, by unfold fcell; rw [if_neg (by omega), if_neg (by omega), if_neg (by omega), if_neg (by omega)]; exact (emod_id c1.1 c1.2).symm, rfl⟩
      · skip
        refine j_iconst dX7_worked_66 ?_
        refine j_istore dX7_worked_67 (by decide) (by dsimp only [List.set] <;> rfl) ?_
        refine j_iconst dX7_worked_69 ?_
        refine j_istore dX7_worked_70 (by decide) (by dsimp only [List.set] <;> rfl) ?_
        have lp72 : ∀ (nn i : Nat) (x : Int), 9 - i < nn → i ≤ 8 → x = sumF (fun i => S.2.1 a (8 * r + i) * S.2.1 b (8 * i + c)) i → J l D yX7_worked cX7_worked 8 (some .int) rmX7_worked sz (AA σ sz) (QI D σ sz (fun x σ' => x = fcell op (S.2.1 a) (S.2.1 b) r c % S.1 ∧ σ' = σ)) 0 0 72 [some (.ref m), some (vi a), some (vi sn), some (vi b), some (vi r), some (vi c), some (vi x), some (vi i)] [] σ := by
          intro nn
          induction nn with
          | zero =>
            intro i x hnn hi hx
            exfalso
            omega
          | succ nn ih72 =>
            intro i x hnn hi hx
            have hxR := sumF_R (f := fun i => S.2.1 a (8 * r + i) * S.2.1 b (8 * i + c)) (b := 251 * 251) (n := i) (fun j hj => by
              have b1 := hFa (8 * r + j) (by omega)
              have b2 := hFb (8 * j + c) (by omega)
              exact mul_R b1.1 (by omega) b2.1 (by omega) (by omega))
            rw [← hx] at hxR
            refine j_iload dX7_worked_72 rfl ?_
            refine j_bipush dX7_worked_74 (by decide) ?_
            refine j_icmp_ge (tgt := 109) dX7_worked_76 (by decide) ⟨by omega, by omega⟩ ⟨by omega, by omega⟩ (fun h76 => ?_) (fun h76 => ?_)
            · skip
              refine j_aload_n dX7_worked_109 rfl ?_
              refine j_iload dX7_worked_110 rfl ?_
              refine cl_X7_54 (As := [_]) rfl dX7_worked_112 (c_X7_mod h hO.1 (by omega) (by omega) (rs (by omega) (by omega))) h.1 rfl ⟨by decide, by decide⟩ (Nat.le_of_ble_eq_true rfl) ⟨Nat.zero_le _, Nat.zero_le _⟩ (fun z112 σ112 hz112 => ?_)
              obtain ⟨hr112, hs112⟩ := hz112
              have hr112 := Eq.symm hr112
              have hs112 := Eq.symm hs112
              subst hr112
              subst hs112
              exact j_iret dX7_worked_115 ⟨_, rfl, by unfold fcell; rw [if_neg (by omega), if_pos (by omega)]; unfold pcell; rw [hx, show i = 8 by omega], rfl⟩
            · skip
              refine j_iload dX7_worked_79 rfl ?_
              refine j_aload_n dX7_worked_81 rfl ?_
              refine j_iload_n dX7_worked_82 rfl ?_
              refine j_iload dX7_worked_83 rfl ?_
              refine j_iload dX7_worked_85 rfl ?_
              refine cl_X7_139 (As := [_, _, _]) rfl dX7_worked_87 (c_X7_cellOf (t := a) (r := r) (c := i) h hO (by omega) (by omega) (by omega)) h.1 rfl ⟨by decide, by decide⟩ (Nat.le_of_ble_eq_true rfl) ⟨Nat.zero_le _, Nat.zero_le _⟩ (fun z87 σ87 hz87 => ?_)
              obtain ⟨hr87, hs87⟩ := hz87
              have hr87 := Eq.symm hr87
              have hs87 := Eq.symm hs87
              subst hr87
              subst hs87
              refine j_aload_n dX7_worked_90 rfl ?_
              refine j_iload_n dX7_worked_91 rfl ?_
              refine j_iload dX7_worked_92 rfl ?_
              refine j_iload dX7_worked_94 rfl ?_
              refine cl_X7_139 (As := [_, _, _]) rfl dX7_worked_96 (c_X7_cellOf (t := b) (r := i) (c := c) h hO (by omega) (by omega) (by omega)) h.1 rfl ⟨by decide, by decide⟩ (Nat.le_of_ble_eq_true rfl) ⟨Nat.zero_le _, Nat.zero_le _⟩ (fun z96 σ96 hz96 => ?_)
              obtain ⟨hr96, hs96⟩ := hz96
              have hr96 := Eq.symm hr96
              have hs96 := Eq.symm hs96
              subst hr96
              subst hs96
              refine j_imul dX7_worked_99 ?_
              refine j_iadd dX7_worked_100 ?_
              refine j_istore dX7_worked_101 (by decide) (by dsimp only [List.set] <;> rfl) ?_
              refine j_iinc dX7_worked_103 rfl (by decide) (by dsimp only [List.set] <;> rfl) ?_
              refine j_goto (tgt := 72) dX7_worked_106 (by decide) ?_
              have hih := ih72 (i + 1) (x + S.2.1 a (8 * r + i) * S.2.1 b (8 * i + c)) (by omega) (by omega) (by rw [hx]; rfl)
              refine j_weak ?_ hih
              exact ⟨rfl, rfl, rfl, rfl, rfl, rfl, rfl, rfl, trivial⟩
        exact lp72 10 0 0 (by omega) (by omega) rfl
    · skip
      refine j_aload_n dX7_worked_36 rfl ?_
      refine j_aload_n dX7_worked_37 rfl ?_
      refine j_iload_n dX7_worked_38 rfl ?_
      refine j_iload dX7_worked_39 rfl ?_
      refine j_iload dX7_worked_41 rfl ?_
      refine cl_X7_139 (As := [_, _, _]) rfl dX7_worked_43 (c_X7_cellOf (t := a) (r := r) (c := c) h hO (by omega) (by omega) (by omega)) h.1 rfl ⟨by decide, by decide⟩ (Nat.le_of_ble_eq_true rfl) ⟨Nat.zero_le _, Nat.zero_le _⟩ (fun z43 σ43 hz43 => ?_)
      obtain ⟨hr43, hs43⟩ := hz43
      have hr43 := Eq.symm hr43
      have hs43 := Eq.symm hs43
      subst hr43
      subst hs43
      refine j_aload_n dX7_worked_46 rfl ?_
      refine j_iload_n dX7_worked_47 rfl ?_
      refine j_iload dX7_worked_48 rfl ?_
      refine j_iload dX7_worked_50 rfl ?_
      refine cl_X7_139 (As := [_, _, _]) rfl dX7_worked_52 (c_X7_cellOf (t := b) (r := r) (c := c) h hO (by omega) (by omega) (by omega)) h.1 rfl ⟨by decide, by decide⟩ (Nat.le_of_ble_eq_true rfl) ⟨Nat.zero_le _, Nat.zero_le _⟩ (fun z52 σ52 hz52 => ?_)
      obtain ⟨hr52, hs52⟩ := hz52
      have hr52 := Eq.symm hr52
      have hs52 := Eq.symm hs52
      subst hr52
      subst hs52
      refine j_isub dX7_worked_55 ?_
      refine cl_X7_54 (As := [_]) rfl dX7_worked_56 (c_X7_mod h hO.1 (by omega) (by omega) (rs (by omega) (by omega))) h.1 rfl ⟨by decide, by decide⟩ (Nat.le_of_ble_eq_true rfl) ⟨Nat.zero_le _, Nat.zero_le _⟩ (fun z56 σ56 hz56 => ?_)
      obtain ⟨hr56, hs56⟩ := hz56
      have hr56 := Eq.symm hr56
      have hs56 := Eq.symm hs56
      subst hr56
      subst hs56
      exact j_iret dX7_worked_59 ⟨_, rfl, by unfold fcell; rw [if_neg (by omega), if_neg (by omega), if_neg (by omega), if_pos (by omega)], rfl⟩
  · skip
    refine j_aload_n dX7_worked_6 rfl ?_
    refine j_aload_n dX7_worked_7 rfl ?_
    refine j_iload_n dX7_worked_8 rfl ?_
    refine j_iload dX7_worked_9 rfl ?_
    refine j_iload dX7_worked_11 rfl ?_
    refine cl_X7_139 (As := [_, _, _]) rfl dX7_worked_13 (c_X7_cellOf (t := a) (r := r) (c := c) h hO (by omega) (by omega) (by omega)) h.1 rfl ⟨by decide, by decide⟩ (Nat.le_of_ble_eq_true rfl) ⟨Nat.zero_le _, Nat.zero_le _⟩ (fun z13 σ13 hz13 => ?_)
    obtain ⟨hr13, hs13⟩ := hz13
    have hr13 := Eq.symm hr13
    have hs13 := Eq.symm hs13
    subst hr13
    subst hs13
    refine j_aload_n dX7_worked_16 rfl ?_
    refine j_iload_n dX7_worked_17 rfl ?_
    refine j_iload dX7_worked_18 rfl ?_
    refine j_iload dX7_worked_20 rfl ?_
    refine cl_X7_139 (As := [_, _, _]) rfl dX7_worked_22 (c_X7_cellOf (t := b) (r := r) (c := c) h hO (by omega) (by omega) (by omega)) h.1 rfl ⟨by decide, by decide⟩ (Nat.le_of_ble_eq_true rfl) ⟨Nat.zero_le _, Nat.zero_le _⟩ (fun z22 σ22 hz22 => ?_)
    obtain ⟨hr22, hs22⟩ := hz22
    have hr22 := Eq.symm hr22
    have hs22 := Eq.symm hs22
    subst hr22
    subst hs22
    refine j_iadd dX7_worked_25 ?_
    refine cl_X7_54 (As := [_]) rfl dX7_worked_26 (c_X7_mod h hO.1 (by omega) (by omega) (rs (by omega) (by omega))) h.1 rfl ⟨by decide, by decide⟩ (Nat.le_of_ble_eq_true rfl) ⟨Nat.zero_le _, Nat.zero_le _⟩ (fun z26 σ26 hz26 => ?_)
    obtain ⟨hr26, hs26⟩ := hz26
    have hr26 := Eq.symm hr26
    have hs26 := Eq.symm hs26
    subst hr26
    subst hs26
    exact j_iret dX7_worked_29 ⟨_, rfl, by unfold fcell; rw [if_neg (by omega), if_neg (by omega), if_pos (by omega)], rfl⟩
set_option maxRecDepth 100000 in
set_option maxHeartbeats 4000000 in
theorem c_X7_work {l : Launch} {D : gD} {σ : Wd} {m n tn : Nat} {hs : Int} {S SN : MS} {H : Nat → MS} {ch : Nat → Int} (h0 : RS D σ m S SN hs n H tn ch) (hWS : WS S) : KX7_work l D [.ref m] σ (fun x σ' => x = wkX tn ch ∧ OffR m (m + 10) σ σ' ∧ RS D σ' m (nxS (wkN S tn ch) S) SN hs (nxN (wkN S tn ch) n) (nxH (wkN S tn ch) n H S) tn ch) := by
  obtain ⟨pl, de, R, P, A, rv, W, mk, ls, sp, h, hO, hP, hA, hn4, htn, hch⟩ := h0
  have hlo := primeB_lo hWS.1
  have hg := fun t ht => (hWS.2 t ht).2
  have hF := fun t ht => (hWS.2 t ht).1
  have s0 := sg_R hch 0
  have s1 := sg_R hch 1
  have s2 := sg_R hch 2
  have s3 := sg_R hch 3
  have s4 := sg_R hch 4
  refine sp_of (by decide +kernel) (cat1 rfl) (Nat.le_of_ble_eq_true rfl) [some (.ref m), none, none, none, none, none] rfl (fun sz => ?_)
  refine j_aload_n dX7_work_0 rfl ?_
  refine j_iconst dX7_work_1 ?_
  refine pf_X7_115 rfl dX7_work_2 h.1 rfl rfl (Nat.le_of_ble_eq_true rfl) ?_
  dsimp only [List.set]
  have w0 := h.rq.own (n2 := n) (hs2 := hs) (tn2 := tn) (pl2 := 0) (de2 := de)
  refine j_aload_n dX7_work_5 rfl ?_
  refine j_bipush dX7_work_6 (by decide) ?_
  refine j_bipush dX7_work_8 (by decide) ?_
  refine cl_X7_118 (As := [_, _]) rfl dX7_work_10 (c_X7_sees w0.2 hch htn (by omega) (by omega) (rs (by omega) (by omega)) (rs (by omega) (by omega))) w0.2.1 rfl ⟨by decide, by decide⟩ (Nat.le_of_ble_eq_true rfl) ⟨Nat.zero_le _, Nat.zero_le _⟩ (fun z10 σ10 hz10 => ?_)
  obtain ⟨hr10, hs10⟩ := hz10
  have hr10 := Eq.symm hr10
  have hs10 := Eq.symm hs10
  subst hr10
  subst hs10
  refine j_if_eq (tgt := 31) dX7_work_13 (by decide) R_ite (fun q13 => ?_) (fun q13 => ?_)
  · skip
    have a0 := ne1 q13
    refine j_bipush dX7_work_31 (by decide) ?_
    refine j_istore_n dX7_work_33 (by decide) (by dsimp only [List.set] <;> rfl) ?_
    refine j_aload_n dX7_work_34 rfl ?_
    refine j_dup dX7_work_35 rfl ?_
    refine gf_X7_115 rfl dX7_work_36 w0.2.1 rfl ?_
    refine j_iload_n dX7_work_39 rfl ?_
    refine j_if_ge (tgt := 47) dX7_work_40 (by decide) ⟨by omega, by omega⟩ (fun h40 => ?_) (fun h40 => ?_)
    · skip
      exact absurd h40 (by omega)
    · skip
      refine j_iconst dX7_work_43 ?_
      refine j_goto (tgt := 48) dX7_work_44 (by decide) ?_
      refine j_iadd dX7_work_48 ?_
      refine pf_X7_115 rfl dX7_work_49 w0.2.1 rfl rfl (Nat.le_of_ble_eq_true rfl) ?_
      dsimp only [List.set]
      have w1 := w0.own (n2 := n) (hs2 := hs) (tn2 := tn) (pl2 := 0) (de2 := de)
      refine j_iload_n dX7_work_52 rfl ?_
      refine j_if_lt (tgt := 76) dX7_work_53 (by decide) ⟨by omega, by omega⟩ (fun h53 => ?_) (fun h53 => ?_)
      · skip
        refine j_bipush dX7_work_76 (by decide) ?_
        refine j_aload_n dX7_work_78 rfl ?_
        refine gf_X7_115 rfl dX7_work_79 w1.2.1 rfl ?_
        refine j_isub dX7_work_82 ?_
        exact j_iret dX7_work_83 ⟨_, rfl, by unfold wkX; rw [if_neg (by rw [fml0 a0]; omega), fml0 a0]; rfl, RSx_none (RS.of w1 hO hP hA hn4 htn hch) (by unfold wkN; rw [if_neg (by rw [fml0 a0]; omega)])⟩
      · skip
        exact absurd h53 (by omega)
  · skip
    have a0 := nz1 q13
    refine j_aload_n dX7_work_16 rfl ?_
    refine gf_X7_19 rfl dX7_work_17 w0.2.1 rfl ?_
    refine j_aload_n dX7_work_20 rfl ?_
    refine gf_X7_115 rfl dX7_work_21 w0.2.1 rfl ?_
    refine jj_cald dX7_work_24 w0.2.2.2.2.2.1 (by omega) (by omega) ⟨by omega, by omega⟩ ?_
    refine j_tops (show ch ((0 : Nat) : Int).toNat = sg ch tn 0 from (if_pos (show 0 < tn by omega)).symm) ?_
    refine j_bipush dX7_work_25 (by decide) ?_
    refine j_isub dX7_work_27 ?_
    refine j_goto (tgt := 33) dX7_work_28 (by decide) ?_
    refine j_istore_n dX7_work_33 (by decide) (by dsimp only [List.set] <;> rfl) ?_
    refine j_aload_n dX7_work_34 rfl ?_
    refine j_dup dX7_work_35 rfl ?_
    refine gf_X7_115 rfl dX7_work_36 w0.2.1 rfl ?_
    refine j_iload_n dX7_work_39 rfl ?_
    refine j_if_ge (tgt := 47) dX7_work_40 (by decide) ⟨by omega, by omega⟩ (fun h40 => ?_) (fun h40 => ?_)
    · skip
      refine j_iconst dX7_work_47 ?_
      refine j_iadd dX7_work_48 ?_
      refine pf_X7_115 rfl dX7_work_49 w0.2.1 rfl rfl (Nat.le_of_ble_eq_true rfl) ?_
      dsimp only [List.set]
      have w1 := w0.own (n2 := n) (hs2 := hs) (tn2 := tn) (pl2 := 1) (de2 := de)
      refine j_iload_n dX7_work_52 rfl ?_
      refine j_if_lt (tgt := 76) dX7_work_53 (by decide) ⟨by omega, by omega⟩ (fun h53 => ?_) (fun h53 => ?_)
      · skip
        exact absurd h53 (by omega)
      · skip
        refine j_aload_n dX7_work_56 rfl ?_
        refine j_bipush dX7_work_57 (by decide) ?_
        refine cl_X7_121 (As := [_]) rfl dX7_work_59 (c_X7_takes (c := 61) w1.2 hch htn (by omega) (by omega) (rs (by omega) (by omega))) w1.2.1 rfl ⟨by decide, by decide⟩ (Nat.le_of_ble_eq_true rfl) ⟨Nat.zero_le _, Nat.zero_le _⟩ (fun z59 σ59 hz59 => ?_)
        obtain ⟨hr59, hq59, hle59⟩ := hz59
        have hq59 := w1.tr hq59
        have hr59 := Eq.symm hr59
        subst hr59
        refine j_if_eq (tgt := 76) dX7_work_62 (by decide) R_ite (fun q62 => ?_) (fun q62 => ?_)
        · skip
          have a1 := ne1 q62
          rw [if_neg a1] at hq59 hle59
          refine j_bipush dX7_work_76 (by decide) ?_
          refine j_aload_n dX7_work_78 rfl ?_
          refine gf_X7_115 rfl dX7_work_79 hq59.2.1 rfl ?_
          refine j_isub dX7_work_82 ?_
          exact j_iret dX7_work_83 ⟨_, rfl, by unfold wkX; rw [if_neg (by rw [fml1 a0 a1]; omega), fml1 a0 a1]; rfl, RSx_none (RS.of hq59 hO hP hA hn4 htn hch) (by unfold wkN; rw [if_neg (by rw [fml1 a0 a1]; omega)])⟩
        · skip
          have a1 := nz1 q62
          rw [if_pos a1] at hq59 hle59
          simp only [Nat.reduceAdd] at hq59 hle59
          refine j_aload_n dX7_work_65 rfl ?_
          refine j_bipush dX7_work_66 (by decide) ?_
          refine j_bipush dX7_work_68 (by decide) ?_
          refine cl_X7_118 (As := [_, _]) rfl dX7_work_70 (c_X7_sees hq59.2 hch htn (by omega) (by omega) (rs (by omega) (by omega)) (rs (by omega) (by omega))) hq59.2.1 rfl ⟨by decide, by decide⟩ (Nat.le_of_ble_eq_true rfl) ⟨Nat.zero_le _, Nat.zero_le _⟩ (fun z70 σ70 hz70 => ?_)
          obtain ⟨hr70, hs70⟩ := hz70
          have hr70 := Eq.symm hr70
          have hs70 := Eq.symm hs70
          subst hr70
          subst hs70
          refine j_if_ne (tgt := 84) dX7_work_73 (by decide) R_ite (fun q73 => ?_) (fun q73 => ?_)
          · skip
            have a2 := nz1 q73
            refine j_aload_n dX7_work_84 rfl ?_
            refine gf_X7_19 rfl dX7_work_85 hq59.2.1 rfl ?_
            refine j_aload_n dX7_work_88 rfl ?_
            refine gf_X7_115 rfl dX7_work_89 hq59.2.1 rfl ?_
            refine jj_cald dX7_work_92 hq59.2.2.2.2.2.1 (by omega) (by omega) ⟨by omega, by omega⟩ ?_
            refine j_tops (show ch ((2 : Nat) : Int).toNat = sg ch tn 2 from (if_pos (show 2 < tn by omega)).symm) ?_
            refine j_bipush dX7_work_93 (by decide) ?_
            refine j_isub dX7_work_95 ?_
            refine j_istore_n dX7_work_96 (by decide) (by dsimp only [List.set] <;> rfl) ?_
            refine j_aload_n dX7_work_97 rfl ?_
            refine j_dup dX7_work_98 rfl ?_
            refine gf_X7_115 rfl dX7_work_99 hq59.2.1 rfl ?_
            refine j_iconst dX7_work_102 ?_
            refine j_iadd dX7_work_103 ?_
            refine pf_X7_115 rfl dX7_work_104 hq59.2.1 rfl rfl (Nat.le_of_ble_eq_true rfl) ?_
            dsimp only [List.set]
            have w3 := hq59.own (n2 := n) (hs2 := hs) (tn2 := tn) (pl2 := 3) (de2 := de)
            have lp223 : ∀ (w : Wd) (p6 : Nat) (sn ot : Int), RQ D σ w m n hs tn p6 de R P A ch rv W mk ls sp → p6 ≤ tn → 0 ≤ ot → ot ≤ 3 → (p6 < tn → (fml ch tn).1 = p6) → (tn ≤ p6 → ∃ rt op, fml ch tn = (-1, sg ch tn 0 - 65, sg ch tn 2 - 65, rt, op) ∧ okS sn op ∧ ((op = 43 ∨ op = 45 ∨ op = 42) → ot = rt)) → J l D yX7_work cX7_work 6 (some .int) rmX7_work sz (AA σ sz) (QI D σ sz (fun x σ' => x = wkX tn ch ∧ OffR m (m + 10) σ σ' ∧ RS D σ' m (nxS (wkN S tn ch) S) SN hs (nxN (wkN S tn ch) n) (nxH (wkN S tn ch) n H S) tn ch)) 0 0 223 [some (.ref m), some (vi (sg ch tn 0 - 65)), some (vi (sg ch tn 2 - 65)), some (vi sn), some (vi ot), none] [] w := by
              intro w p6 sn ot w6 hp6 hot0 hot3 hflt hgood
              refine j_aload_n dX7_work_223 rfl ?_
              refine gf_X7_115 rfl dX7_work_224 w6.2.1 rfl ?_
              refine j_aload_n dX7_work_227 rfl ?_
              refine gf_X7_112 rfl dX7_work_228 w6.2.1 rfl ?_
              refine j_icmp_ge (tgt := 242) dX7_work_231 (by decide) ⟨by omega, by omega⟩ ⟨by omega, by omega⟩ (fun h231 => ?_) (fun h231 => ?_)
              · skip
                obtain ⟨rt, op, hfm, hoS, hot⟩ := hgood (by omega)
                have hfm1 : (fml ch tn).1 = -1 := by rw [hfm]
                have hfR := fml_R ch tn hfm1
                have hwc : ∀ k, k < 64 → fcell op (S.2.1 (sg ch tn 2 - 65).toNat) (S.2.1 ot.toNat) (k / 8) (k % 8) % S.1 = wkC S tn ch k := fun k hk => by
                  unfold wkC
                  rw [hfm]
                  show _ = fcell op (S.2.1 (sg ch tn 2 - 65).toNat) (S.2.1 rt.toNat) (k / 8) (k % 8) % S.1
                  by_cases x : op = 43 ∨ op = 45 ∨ op = 42
                  · rw [hot x]
                  · rw [fcell_oth x]
                refine j_aload_n dX7_work_242 rfl ?_
                refine cl_X7_47 (As := []) rfl dX7_work_243 (c_X7_record w6.2 hn4) w6.2.1 rfl ⟨by decide, by decide⟩ (Nat.le_of_ble_eq_true rfl) ⟨Nat.zero_le _, Nat.zero_le _⟩ (fun σ243 hz243 => ?_)
                have w7 := w6.tr hz243
                refine j_iconst dX7_work_246 ?_
                refine j_istore dX7_work_247 (by decide) (by dsimp only [List.set] <;> rfl) ?_
                have lp249 : ∀ (nn i : Nat) (v : Wd), 65 - i < nn → i ≤ 64 → RQ D σ v m (recN n) hs tn p6 de R (recP n P R) A ch rv W (fun k => if k < i then wkC S tn ch k else mk k) ls sp → J l D yX7_work cX7_work 6 (some .int) rmX7_work sz (AA σ sz) (QI D σ sz (fun x σ' => x = wkX tn ch ∧ OffR m (m + 10) σ σ' ∧ RS D σ' m (nxS (wkN S tn ch) S) SN hs (nxN (wkN S tn ch) n) (nxH (wkN S tn ch) n H S) tn ch)) 0 0 249 [some (.ref m), some (vi (sg ch tn 0 - 65)), some (vi (sg ch tn 2 - 65)), some (vi sn), some (vi ot), some (vi i)] [] v := by
                  intro nn
                  induction nn with
                  | zero =>
                    intro i v hnn hi hv
                    exfalso
                    omega
                  | succ nn ih249 =>
                    intro i v hnn hi hv
                    refine j_iload dX7_work_249 rfl ?_
                    refine j_bipush dX7_work_251 (by decide) ?_
                    refine j_icmp_ge (tgt := 287) dX7_work_253 (by decide) ⟨by omega, by omega⟩ ⟨by omega, by omega⟩ (fun h253 => ?_) (fun h253 => ?_)
                    · skip
                      refine j_aload_n dX7_work_287 rfl ?_
                      refine j_iload_n dX7_work_288 rfl ?_
                      have hK := c_X7_lay (l := l) (t := (sg ch tn 0 - 65).toNat) hv.2 (by omega)
                      rw [Int.toNat_of_nonneg (a := sg ch tn 0 - 65) (by omega)] at hK
                      refine cl_X7_146 (As := [_]) rfl dX7_work_289 (hK) hv.2.1 rfl ⟨by decide, by decide⟩ (Nat.le_of_ble_eq_true rfl) ⟨Nat.zero_le _, Nat.zero_le _⟩ (fun σ289 hz289 => ?_)
                      have hv3 := hv.tr hz289
                      refine j_iload_n dX7_work_292 rfl ?_
                      have hO2 : RO (fun q => if 1 + 64 * (sg ch tn 0 - 65).toNat ≤ q ∧ q < 1 + 64 * (sg ch tn 0 - 65).toNat + 64 then (fun k => if k < i then wkC S tn ch k else mk k) (q - (1 + 64 * (sg ch tn 0 - 65).toNat)) else R q) (S.1, fup S.2.1 (sg ch tn 0 - 65).toNat (wkC S tn ch), S.2.2) := by
                        refine hO.cells (t := (sg ch tn 0 - 65).toNat) (by omega) (if_neg (by omega)) (fun k hk => ?_) (fun q q0 q1 q2 => if_neg q2)
                        dsimp only
                        rw [if_pos (by omega), if_pos (by omega), Nat.add_sub_cancel_left]
                      exact j_iret dX7_work_293 ⟨_, rfl, by unfold wkX; rw [if_pos hfm1, hfm], RSx_some (RS.of hv3 hO2 (rec_RO hn4 hO hP) hA (recN_le n hn4) htn hch) (by unfold wkN; rw [if_pos hfm1, hfm])⟩
                    · skip
                      refine j_aload_n dX7_work_256 rfl ?_
                      refine gf_X7_29 rfl dX7_work_257 hv.2.1 rfl ?_
                      refine j_iload dX7_work_260 rfl ?_
                      refine j_aload_n dX7_work_262 rfl ?_
                      refine j_iload_n dX7_work_263 rfl ?_
                      refine j_iload_n dX7_work_264 rfl ?_
                      refine j_iload dX7_work_265 rfl ?_
                      refine j_iload dX7_work_267 rfl ?_
                      refine j_bipush dX7_work_269 (by decide) ?_
                      refine j_idiv dX7_work_271 ⟨by omega, by omega⟩ ⟨by omega, by omega⟩ (by omega) ?_
                      rw [show (i : Int).tdiv 8 = ((i / 8 : Nat) : Int) from Int.ofNat_tdiv i 8]
                      refine j_iload dX7_work_272 rfl ?_
                      refine j_bipush dX7_work_274 (by decide) ?_
                      refine j_irem dX7_work_276 ⟨by omega, by omega⟩ ⟨by omega, by omega⟩ (by omega) ?_
                      rw [show (i : Int).tmod 8 = ((i % 8 : Nat) : Int) by rw [tmod_pos (by omega)]; rfl]
                      have hK := c_X7_worked (l := l) (a := (sg ch tn 2 - 65).toNat) (b := ot.toNat) (r := i / 8) (c := i % 8) (sn := sn) hv.2 hO hWS (by omega) (by omega) (by omega) (by omega) hoS
                      rw [Int.toNat_of_nonneg (a := sg ch tn 2 - 65) (by omega), Int.toNat_of_nonneg (a := ot) (by omega)] at hK
                      refine cl_X7_142 (As := [_, _, _, _, _]) rfl dX7_work_277 (hK) hv.2.1 rfl ⟨by decide, by decide⟩ (Nat.le_of_ble_eq_true rfl) ⟨Nat.zero_le _, Nat.zero_le _⟩ (fun z277 σ277 hz277 => ?_)
                      obtain ⟨hr277, hs277⟩ := hz277
                      have hr277 := Eq.symm hr277
                      have hs277 := Eq.symm hs277
                      subst hr277
                      subst hs277
                      refine j_tops (hwc i (by omega)) ?_
                      refine jj_iast dX7_work_280 hv.2.2.2.2.2.2.2.2.1 (by omega) (by omega) ⟨by omega, by omega⟩ (fun e280 q280 => ?_)
                      have hv2 := hv.made q280
                      refine j_iinc dX7_work_281 rfl (by decide) (by dsimp only [List.set] <;> rfl) ?_
                      refine j_goto (tgt := 249) dX7_work_284 (by decide) ?_
                      have hih := ih249 (i + 1) _ (by omega) (by omega) (hv2.madeE (fun k hk => by
                        show fup _ i _ k = _
                        by_cases e : k = i
                        · rw [e, fup_s, if_pos (by omega)]
                        · rw [fup_n e]
                          by_cases b : k < i
                          · rw [if_pos b, if_pos (by omega)]
                          · rw [if_neg b, if_neg (by omega)]))
                      refine j_weak ?_ hih
                      exact ⟨rfl, rfl, rfl, rfl, rfl, rfl, trivial⟩
                exact lp249 70 0 _ (by omega) (by omega) (w7.madeE (fun k hk => by rw [if_neg (by omega)]))
              · skip
                have hfx := hflt (by omega)
                refine j_bipush dX7_work_234 (by decide) ?_
                refine j_aload_n dX7_work_236 rfl ?_
                refine gf_X7_115 rfl dX7_work_237 w6.2.1 rfl ?_
                refine j_isub dX7_work_240 ?_
                exact j_iret dX7_work_241 ⟨_, rfl, by unfold wkX; rw [if_neg (by rw [hfx]; omega), hfx], RSx_none (RS.of w6 hO hP hA hn4 htn hch) (by unfold wkN; rw [if_neg (by rw [hfx]; omega)])⟩
            refine j_iconst dX7_work_107 ?_
            refine j_istore_n dX7_work_108 (by decide) (by dsimp only [List.set] <;> rfl) ?_
            refine j_iconst dX7_work_109 ?_
            refine j_istore dX7_work_110 (by decide) (by dsimp only [List.set] <;> rfl) ?_
            have lp145 : (sg ch tn 3 = 43 ∨ sg ch tn 3 = 45 ∨ sg ch tn 3 = 42) → J l D yX7_work cX7_work 6 (some .int) rmX7_work sz (AA σ sz) (QI D σ sz (fun x σ' => x = wkX tn ch ∧ OffR m (m + 10) σ σ' ∧ RS D σ' m (nxS (wkN S tn ch) S) SN hs (nxN (wkN S tn ch) n) (nxH (wkN S tn ch) n H S) tn ch)) 0 0 145 [some (.ref m), some (vi (sg ch tn 0 - 65)), some (vi (sg ch tn 2 - 65)), some (vi 0), some (vi 0), none] [] (wup σ59 m (.inr (7, mF m n hs tn 3 de))) := by
              intro hsg
              refine j_aload_n dX7_work_145 rfl ?_
              refine gf_X7_19 rfl dX7_work_146 w3.2.1 rfl ?_
              refine j_aload_n dX7_work_149 rfl ?_
              refine gf_X7_115 rfl dX7_work_150 w3.2.1 rfl ?_
              refine jj_cald dX7_work_153 w3.2.2.2.2.2.1 (by omega) (by omega) ⟨by omega, by omega⟩ ?_
              refine j_tops (show ch ((3 : Nat) : Int).toNat = sg ch tn 3 from (if_pos (show 3 < tn by omega)).symm) ?_
              refine j_istore_n dX7_work_154 (by decide) (by dsimp only [List.set] <;> rfl) ?_
              refine j_aload_n dX7_work_155 rfl ?_
              refine j_dup dX7_work_156 rfl ?_
              refine gf_X7_115 rfl dX7_work_157 w3.2.1 rfl ?_
              refine j_iconst dX7_work_160 ?_
              refine j_iadd dX7_work_161 ?_
              refine pf_X7_115 rfl dX7_work_162 w3.2.1 rfl rfl (Nat.le_of_ble_eq_true rfl) ?_
              dsimp only [List.set]
              have w4 := w3.own (n2 := n) (hs2 := hs) (tn2 := tn) (pl2 := 4) (de2 := de)
              refine j_aload_n dX7_work_165 rfl ?_
              refine j_bipush dX7_work_166 (by decide) ?_
              refine j_bipush dX7_work_168 (by decide) ?_
              refine cl_X7_118 (As := [_, _]) rfl dX7_work_170 (c_X7_sees w4.2 hch htn (by omega) (by omega) (rs (by omega) (by omega)) (rs (by omega) (by omega))) w4.2.1 rfl ⟨by decide, by decide⟩ (Nat.le_of_ble_eq_true rfl) ⟨Nat.zero_le _, Nat.zero_le _⟩ (fun z170 σ170 hz170 => ?_)
              obtain ⟨hr170, hs170⟩ := hz170
              have hr170 := Eq.symm hr170
              have hs170 := Eq.symm hs170
              subst hr170
              subst hs170
              refine j_if_ne (tgt := 184) dX7_work_173 (by decide) R_ite (fun q173 => ?_) (fun q173 => ?_)
              · skip
                have a4 := nz1 q173
                refine j_aload_n dX7_work_184 rfl ?_
                refine gf_X7_19 rfl dX7_work_185 w4.2.1 rfl ?_
                refine j_aload_n dX7_work_188 rfl ?_
                refine gf_X7_115 rfl dX7_work_189 w4.2.1 rfl ?_
                refine jj_cald dX7_work_192 w4.2.2.2.2.2.1 (by omega) (by omega) ⟨by omega, by omega⟩ ?_
                refine j_tops (show ch ((4 : Nat) : Int).toNat = sg ch tn 4 from (if_pos (show 4 < tn by omega)).symm) ?_
                refine j_bipush dX7_work_193 (by decide) ?_
                refine j_isub dX7_work_195 ?_
                refine j_istore dX7_work_196 (by decide) (by dsimp only [List.set] <;> rfl) ?_
                refine j_aload_n dX7_work_198 rfl ?_
                refine j_dup dX7_work_199 rfl ?_
                refine gf_X7_115 rfl dX7_work_200 w4.2.1 rfl ?_
                refine j_iconst dX7_work_203 ?_
                refine j_iadd dX7_work_204 ?_
                refine pf_X7_115 rfl dX7_work_205 w4.2.1 rfl rfl (Nat.le_of_ble_eq_true rfl) ?_
                dsimp only [List.set]
                have w5 := w4.own (n2 := n) (hs2 := hs) (tn2 := tn) (pl2 := 5) (de2 := de)
                refine j_goto (tgt := 223) dX7_work_208 (by decide) ?_
                have f := fmlA a0 a1 a2 hsg a4
                exact lp223 _ 5 (sg ch tn 3) (sg ch tn 4 - 65) w5 (by omega) (by omega) (by omega) (fun q => f.1 (by omega)) (fun q => ⟨_, _, f.2 (by omega), by unfold okS; omega, fun _ => rfl⟩)
              · skip
                have a4 := ne1 q173
                refine j_bipush dX7_work_176 (by decide) ?_
                refine j_aload_n dX7_work_178 rfl ?_
                refine gf_X7_115 rfl dX7_work_179 w4.2.1 rfl ?_
                refine j_isub dX7_work_182 ?_
                exact j_iret dX7_work_183 ⟨_, rfl, by unfold wkX; rw [if_neg (by rw [fml4 a0 a1 a2 hsg a4]; omega), fml4 a0 a1 a2 hsg a4]; rfl, RSx_none (RS.of w4 hO hP hA hn4 htn hch) (by unfold wkN; rw [if_neg (by rw [fml4 a0 a1 a2 hsg a4]; omega)])⟩
            refine j_aload_n dX7_work_112 rfl ?_
            refine j_bipush dX7_work_113 (by decide) ?_
            refine j_bipush dX7_work_115 (by decide) ?_
            refine cl_X7_118 (As := [_, _]) rfl dX7_work_117 (c_X7_sees w3.2 hch htn (by omega) (by omega) (rs (by omega) (by omega)) (rs (by omega) (by omega))) w3.2.1 rfl ⟨by decide, by decide⟩ (Nat.le_of_ble_eq_true rfl) ⟨Nat.zero_le _, Nat.zero_le _⟩ (fun z117 σ117 hz117 => ?_)
            obtain ⟨hr117, hs117⟩ := hz117
            have hr117 := Eq.symm hr117
            have hs117 := Eq.symm hs117
            subst hr117
            subst hs117
            refine j_if_ne (tgt := 145) dX7_work_120 (by decide) R_ite (fun q120 => ?_) (fun q120 => ?_)
            · skip
              have b1 := nz1 q120
              exact lp145 (by omega)
            · skip
              have b1 := ne1 q120
              refine j_aload_n dX7_work_123 rfl ?_
              refine j_bipush dX7_work_124 (by decide) ?_
              refine j_bipush dX7_work_126 (by decide) ?_
              refine cl_X7_118 (As := [_, _]) rfl dX7_work_128 (c_X7_sees w3.2 hch htn (by omega) (by omega) (rs (by omega) (by omega)) (rs (by omega) (by omega))) w3.2.1 rfl ⟨by decide, by decide⟩ (Nat.le_of_ble_eq_true rfl) ⟨Nat.zero_le _, Nat.zero_le _⟩ (fun z128 σ128 hz128 => ?_)
              obtain ⟨hr128, hs128⟩ := hz128
              have hr128 := Eq.symm hr128
              have hs128 := Eq.symm hs128
              subst hr128
              subst hs128
              refine j_if_ne (tgt := 145) dX7_work_131 (by decide) R_ite (fun q131 => ?_) (fun q131 => ?_)
              · skip
                have b2 := nz1 q131
                exact lp145 (by omega)
              · skip
                have b2 := ne1 q131
                refine j_aload_n dX7_work_134 rfl ?_
                refine j_bipush dX7_work_135 (by decide) ?_
                refine j_bipush dX7_work_137 (by decide) ?_
                refine cl_X7_118 (As := [_, _]) rfl dX7_work_139 (c_X7_sees w3.2 hch htn (by omega) (by omega) (rs (by omega) (by omega)) (rs (by omega) (by omega))) w3.2.1 rfl ⟨by decide, by decide⟩ (Nat.le_of_ble_eq_true rfl) ⟨Nat.zero_le _, Nat.zero_le _⟩ (fun z139 σ139 hz139 => ?_)
                obtain ⟨hr139, hs139⟩ := hz139
                have hr139 := Eq.symm hr139
                have hs139 := Eq.symm hs139
                subst hr139
                subst hs139
                refine j_if_eq (tgt := 211) dX7_work_142 (by decide) R_ite (fun q142 => ?_) (fun q142 => ?_)
                · skip
                  have b3 := ne1 q142
                  have hno : ¬ (sg ch tn 3 = 43 ∨ sg ch tn 3 = 45 ∨ sg ch tn 3 = 42) := by omega
                  refine j_aload_n dX7_work_211 rfl ?_
                  refine j_bipush dX7_work_212 (by decide) ?_
                  refine cl_X7_121 (As := [_]) rfl dX7_work_214 (c_X7_takes (c := 39) w3.2 hch htn (by omega) (by omega) (rs (by omega) (by omega))) w3.2.1 rfl ⟨by decide, by decide⟩ (Nat.le_of_ble_eq_true rfl) ⟨Nat.zero_le _, Nat.zero_le _⟩ (fun z214 σ214 hz214 => ?_)
                  obtain ⟨hr214, hq214, hle214⟩ := hz214
                  have hq214 := w3.tr hq214
                  have hr214 := Eq.symm hr214
                  subst hr214
                  refine j_if_eq (tgt := 223) dX7_work_217 (by decide) R_ite (fun q217 => ?_) (fun q217 => ?_)
                  · skip
                    have a39 := ne1 q217
                    rw [if_neg a39] at hq214 hle214
                    have f := fmlC a0 a1 a2 hno a39
                    exact lp223 _ 3 0 0 hq214 (by omega) (by omega) (by omega) (fun q => f.1 (by omega)) (fun q => ⟨_, _, f.2 (by omega), by unfold okS; omega, fun x => by omega⟩)
                  · skip
                    have a39 := nz1 q217
                    rw [if_pos a39] at hq214 hle214
                    refine j_bipush dX7_work_220 (by decide) ?_
                    refine j_istore_n dX7_work_222 (by decide) (by dsimp only [List.set] <;> rfl) ?_
                    have f := fmlB a0 a1 a2 a39
                    exact lp223 _ 4 39 0 hq214 (by omega) (by omega) (by omega) (fun q => f.1 (by omega)) (fun q => ⟨_, _, f.2 (by omega), by unfold okS; omega, fun x => by omega⟩)
                · skip
                  have b3 := nz1 q142
                  exact lp145 (by omega)
          · skip
            have a2 := ne1 q73
            refine j_bipush dX7_work_76 (by decide) ?_
            refine j_aload_n dX7_work_78 rfl ?_
            refine gf_X7_115 rfl dX7_work_79 hq59.2.1 rfl ?_
            refine j_isub dX7_work_82 ?_
            exact j_iret dX7_work_83 ⟨_, rfl, by unfold wkX; rw [if_neg (by rw [fml2 a0 a1 a2]; omega), fml2 a0 a1 a2]; rfl, RSx_none (RS.of hq59 hO hP hA hn4 htn hch) (by unfold wkN; rw [if_neg (by rw [fml2 a0 a1 a2]; omega)])⟩
    · skip
      exact absurd h40 (by omega)

/-! ===== the reference: ranks, costs, factors ===== -/
theorem mxF_0 {f : Nat → Int} : ∀ n : Nat, 0 ≤ mxF f n
  | 0 => Int.le_refl _
  | n + 1 => by
    have := mxF_0 (f := f) n
    show 0 ≤ (if mxF f n < f n then f n else mxF f n)
    split <;> omega
theorem mxF_jump {f : Nat → Int} {w : Nat} : ∀ {e : Nat}, w < e → (∀ v, w < v → v < e → f v = 0) → mxF f e = if mxF f w < f w then f w else mxF f w
  | 0, a, _ => absurd a (by omega)
  | e + 1, a, b => by
    show (if mxF f e < f e then f e else mxF f e) = _
    rcases (show e = w ∨ w < e by omega) with q | q
    · rw [q]
    · have h0 := mxF_0 (f := f) e
      rw [b e q (by omega), if_neg (by omega)]
      exact mxF_jump q (fun v x y => b v x (by omega))
theorem sumF_jump {f : Nat → Int} {w : Nat} : ∀ {e : Nat}, w < e → (∀ v, w < v → v < e → f v = 0) → sumF f e = sumF f w + f w
  | 0, a, _ => absurd a (by omega)
  | e + 1, a, b => by
    show sumF f e + f e = _
    rcases (show e = w ∨ w < e by omega) with q | q
    · rw [q]
    · rw [b e q (by omega), sumF_jump q (fun v x y => b v x (by omega)), Int.add_zero]
theorem layF_VW {F : Nat → Int} {s z : Nat} {W : Nat → Int} (hz : z ≤ 8) : VW (layF F (rowN s).toNat (colN s).toNat z z 0 W) (ldM F s z) z z := by
  intro i hi j hj
  have hr := rowN_R s
  have hc := colN_R s
  unfold layF ldM blk
  rw [if_pos (by omega), if_pos hj, show (9 * i + j) / 9 = i by omega, show (9 * i + j) % 9 = j by omega]
  congr 1
theorem luOK_iff {p : Int} {m : Mx} : luOK p m = true ↔ ∀ c, c < 7 → lu p m c c c ≠ 0 := by
  unfold luOK
  simp only [List.all_eq_true, List.mem_range, decide_eq_true_eq]

set_option maxRecDepth 100000 in
set_option maxHeartbeats 4000000 in
theorem c_X7_reduce {l : Launch} {D : gD} {σ : Wd} {m n tn pl : Nat} {hs de : Int} {R P A ch rv W mk ls sp : Nat → Int} {z cols : Nat} {p : Int} {mx : Mx} (h : RM D σ m n hs tn pl de R P A ch rv W mk ls sp) (hR : R 0 = p) (hp : primeB p = true) (hz : z ≤ 8) (hc1 : z ≤ cols) (hc2 : cols ≤ z + 1) (hm : MB p z mx) (hV : VW W mx z cols) : KX7_reduce l D [.ref m, vi z, vi cols] σ (fun x σ' => x = ((gj p z mx z).1 : Nat) ∧ ∃ de' W', RQ D σ σ' m n hs tn pl de' R P A ch rv W' mk ls sp ∧ VW W' (gj p z mx z).2.2 z cols ∧ ((gj p z mx z).1 = z → de' = (gj p z mx z).2.1)) := by
  have hlo := primeB_lo hp
  refine sp_of (by decide +kernel) (cat1 rfl) (Nat.le_of_ble_eq_true rfl) [some (.ref m), some (vi z), some (vi cols), none, none, none] rfl (fun sz => ?_)
  refine j_iconst dX7_reduce_0 ?_
  refine j_istore_n dX7_reduce_1 (by decide) (by dsimp only [List.set] <;> rfl) ?_
  refine j_aload_n dX7_reduce_2 rfl ?_
  refine j_iconst dX7_reduce_3 ?_
  refine pf_X7_80 rfl dX7_reduce_4 h.1 rfl rfl (Nat.le_of_ble_eq_true rfl) ?_
  dsimp only [List.set]
  have hq0 := (h.rq).own (n2 := n) (hs2 := hs) (tn2 := tn) (pl2 := pl) (de2 := 1)
  refine j_iconst dX7_reduce_7 ?_
  refine j_istore dX7_reduce_8 (by decide) (by dsimp only [List.set] <;> rfl) ?_
  have lp10 : ∀ (nn c : Nat) (w : Wd) (de1 : Int) (W1 : Nat → Int) (v5 : Option Value), 9 - c < nn → c ≤ z → RQ D σ w m n hs tn pl de1 R P A ch rv W1 mk ls sp → VW W1 (gj p z mx c).2.2 z cols → ((gj p z mx c).1 = c → de1 = (gj p z mx c).2.1) → 0 ≤ de1 → de1 < p → J l D yX7_reduce cX7_reduce 6 (some .int) rmX7_reduce sz (AA σ sz) (QI D σ sz (fun x σ' => x = ((gj p z mx z).1 : Nat) ∧ ∃ de' W', RQ D σ σ' m n hs tn pl de' R P A ch rv W' mk ls sp ∧ VW W' (gj p z mx z).2.2 z cols ∧ ((gj p z mx z).1 = z → de' = (gj p z mx z).2.1))) 0 0 10 [some (.ref m), some (vi z), some (vi cols), some (vi ((gj p z mx c).1 : Nat)), some (vi c), v5] [] w := by
    intro nn
    induction nn with
    | zero =>
      intro c w de1 W1 v5 hnn hcz hw hv hd hd0 hd1
      exfalso
      omega
    | succ nn ih10 =>
      intro c w de1 W1 v5 hnn hcz hw hv hd hd0 hd1
      obtain ⟨g1, g2, g3, g4, g5⟩ := GI.all hp hz hm c hcz
      refine j_iload dX7_reduce_10 rfl ?_
      refine j_iload_n dX7_reduce_12 rfl ?_
      refine j_icmp_ge (tgt := 132) dX7_reduce_13 (by decide) ⟨by omega, by omega⟩ ⟨by omega, by omega⟩ (fun h13 => ?_) (fun h13 => ?_)
      · skip
        refine j_iload_n dX7_reduce_132 rfl ?_
        exact j_iret dX7_reduce_133 ⟨_, rfl, by rw [show c = z by omega], de1, W1, hw, by rw [show c = z by omega] at hv; exact hv, by rw [show c = z by omega] at hd; exact hd⟩
      · skip
        refine j_iload_n dX7_reduce_16 rfl ?_
        refine j_istore dX7_reduce_17 (by decide) (by dsimp only [List.set] <;> rfl) ?_
        have lp19 : ∀ (nn2 f : Nat), 9 - f < nn2 → (gj p z mx c).1 ≤ f → f ≤ z → (∀ q, (gj p z mx c).1 ≤ q → q < f → (gj p z mx c).2.2 q c = 0) → J l D yX7_reduce cX7_reduce 6 (some .int) rmX7_reduce sz (AA σ sz) (QI D σ sz (fun x σ' => x = ((gj p z mx z).1 : Nat) ∧ ∃ de' W', RQ D σ σ' m n hs tn pl de' R P A ch rv W' mk ls sp ∧ VW W' (gj p z mx z).2.2 z cols ∧ ((gj p z mx z).1 = z → de' = (gj p z mx z).2.1))) 0 0 19 [some (.ref m), some (vi z), some (vi cols), some (vi ((gj p z mx c).1 : Nat)), some (vi c), some (vi f)] [] w := by
          intro nn
          induction nn with
          | zero =>
            intro f hnn2 hf1 hf2 hf0
            exfalso
            omega
          | succ nn ih19 =>
            intro f hnn2 hf1 hf2 hf0
            refine j_iload dX7_reduce_19 rfl ?_
            refine j_iload_n dX7_reduce_21 rfl ?_
            refine j_icmp_ge (tgt := 47) dX7_reduce_22 (by decide) ⟨by omega, by omega⟩ ⟨by omega, by omega⟩ (fun h22 => ?_) (fun h22 => ?_)
            · skip
              have hfz : f = z := by omega
              have hfr : frow (gj p z mx c).2.2 c z 9 (gj p z mx c).1 = f := frow_is hf1 hf2 (by omega) hf0 (Or.inl hfz)
              have hstep : gj p z mx (c + 1) = gj p z mx c := by
                show gstep _ _ _ _ = _
                unfold gstep
                rw [hfr, if_neg (by omega)]
              refine j_iload dX7_reduce_47 rfl ?_
              refine j_iload_n dX7_reduce_49 rfl ?_
              refine j_icmp_ne (tgt := 61) dX7_reduce_50 (by decide) ⟨by omega, by omega⟩ ⟨by omega, by omega⟩ (fun h50 => ?_) (fun h50 => ?_)
              · skip
                exact absurd h50 (by simp [hfz])
              · skip
                refine j_aload_n dX7_reduce_53 rfl ?_
                refine j_iconst dX7_reduce_54 ?_
                refine pf_X7_80 rfl dX7_reduce_55 hw.2.1 rfl rfl (Nat.le_of_ble_eq_true rfl) ?_
                dsimp only [List.set]
                have hq55 := hw.own (n2 := n) (hs2 := hs) (tn2 := tn) (pl2 := pl) (de2 := 0)
                refine j_goto (tgt := 126) dX7_reduce_58 (by decide) ?_
                refine j_iinc dX7_reduce_126 rfl (by decide) (by dsimp only [List.set] <;> rfl) ?_
                refine j_goto (tgt := 10) dX7_reduce_129 (by decide) ?_
                have hih := ih10 (c + 1) _ 0 W1 (some (vi f)) (by omega) (by omega) hq55 (by rw [hstep]; exact hv) (by rw [hstep]; intro q; omega) (by omega) (by omega)
                rw [hstep] at hih
                refine j_weak ?_ hih
                exact ⟨rfl, rfl, rfl, rfl, rfl, rfl, trivial⟩
            · skip
              refine j_aload_n dX7_reduce_25 rfl ?_
              refine gf_X7_26 rfl dX7_reduce_26 hw.2.1 rfl ?_
              refine j_bipush dX7_reduce_29 (by decide) ?_
              refine j_iload dX7_reduce_31 rfl ?_
              refine j_imul dX7_reduce_33 ?_
              refine j_iload dX7_reduce_34 rfl ?_
              refine j_iadd dX7_reduce_36 ?_
              rw [show (9 : Int) * ((f : Nat) : Int) + ((c : Nat) : Int) = ((9 * f + c : Nat) : Int) by omega]
              refine jj_iald dX7_reduce_37 hw.2.2.2.2.2.2.2.1 (by omega) (by omega) ⟨by omega, by omega⟩ ?_
              refine j_tops (show _ = (gj p z mx c).2.2 f c by rw [show ((9 * f + c : Nat) : Int).toNat = 9 * f + c from rfl, hv f (by omega) c (by omega)]) ?_
              have hfc := g2 f (by omega) c (by omega)
              refine j_if_ne (tgt := 47) dX7_reduce_38 (by decide) (rs (by omega) (by omega)) (fun h38 => ?_) (fun h38 => ?_)
              · skip
                have hlt : f < z := by omega
                have hfr : frow (gj p z mx c).2.2 c z 9 (gj p z mx c).1 = f := frow_is hf1 hf2 (by omega) hf0 (Or.inr h38)
                have hsr : swapM (gj p z mx c).2.2 (gj p z mx c).1 f (gj p z mx c).1 = (gj p z mx c).2.2 f := if_pos rfl
                have hstep : gj p z mx (c + 1) = ((gj p z mx c).1 + 1, (((if (gj p z mx c).1 = f then (gj p z mx c).2.1 else (-(gj p z mx c).2.1) % p) * (gj p z mx c).2.2 f c) % p), clrM p (gj p z mx c).1 c (swapM (gj p z mx c).2.2 (gj p z mx c).1 f)) := by
                  show gstep _ _ _ _ = _
                  unfold gstep
                  rw [hfr, if_pos hlt, hsr]
                have hmul := mul_R (a := de1) (b := (gj p z mx c).2.2 f c) (m := 251) (n := 251) hd0 (by omega) hfc.1 (by omega) (by omega)
                have hmB : MB p z (swapM (gj p z mx c).2.2 (gj p z mx c).1 f) := fun i hi j hj => by
                  obtain ⟨kk, k1, k2, -⟩ := swapM_row (gj p z mx c).2.2 (a := (gj p z mx c).1) (b := f) (i := i)
                  rw [k2]
                  exact g2 kk (by omega) j hj
                have hne0 : swapM (gj p z mx c).2.2 (gj p z mx c).1 f (gj p z mx c).1 c ≠ 0 := by rw [hsr]; exact h38
                have e1 : (((gj p z mx (c + 1)).1 : Nat) : Int) = ((gj p z mx c).1 : Nat) + 1 := by rw [hstep]; rfl
                refine j_iload dX7_reduce_47 rfl ?_
                refine j_iload_n dX7_reduce_49 rfl ?_
                refine j_icmp_ne (tgt := 61) dX7_reduce_50 (by decide) ⟨by omega, by omega⟩ ⟨by omega, by omega⟩ (fun h50 => ?_) (fun h50 => ?_)
                · skip
                  refine j_aload_n dX7_reduce_61 rfl ?_
                  refine j_aload_n dX7_reduce_62 rfl ?_
                  refine j_aload_n dX7_reduce_63 rfl ?_
                  refine gf_X7_80 rfl dX7_reduce_64 hw.2.1 rfl ?_
                  refine j_aload_n dX7_reduce_67 rfl ?_
                  refine gf_X7_26 rfl dX7_reduce_68 hw.2.1 rfl ?_
                  refine j_bipush dX7_reduce_71 (by decide) ?_
                  refine j_iload dX7_reduce_73 rfl ?_
                  refine j_imul dX7_reduce_75 ?_
                  refine j_iload dX7_reduce_76 rfl ?_
                  refine j_iadd dX7_reduce_78 ?_
                  rw [show (9 : Int) * ((f : Nat) : Int) + ((c : Nat) : Int) = ((9 * f + c : Nat) : Int) by omega]
                  refine jj_iald dX7_reduce_79 hw.2.2.2.2.2.2.2.1 (by omega) (by omega) ⟨by omega, by omega⟩ ?_
                  refine j_tops (show _ = (gj p z mx c).2.2 f c by rw [show ((9 * f + c : Nat) : Int).toNat = 9 * f + c from rfl, hv f (by omega) c (by omega)]) ?_
                  refine j_imul dX7_reduce_80 ?_
                  refine cl_X7_54 (As := [_]) rfl dX7_reduce_81 (c_X7_mod hw.2 hR (by omega) (by omega) (rs (by omega) (by omega))) hw.2.1 rfl ⟨by decide, by decide⟩ (Nat.le_of_ble_eq_true rfl) ⟨Nat.zero_le _, Nat.zero_le _⟩ (fun z81 σ81 hz81 => ?_)
                  obtain ⟨hr81, hs81⟩ := hz81
                  have hr81 := Eq.symm hr81
                  have hs81 := Eq.symm hs81
                  subst hr81
                  subst hs81
                  refine pf_X7_80 rfl dX7_reduce_84 hw.2.1 rfl rfl (Nat.le_of_ble_eq_true rfl) ?_
                  dsimp only [List.set]
                  have hq84 := hw.own (n2 := n) (hs2 := hs) (tn2 := tn) (pl2 := pl) (de2 := (de1 * (gj p z mx c).2.2 f c) % p)
                  have hdR := emod_R (v := de1 * (gj p z mx c).2.2 f c) (p := p) (by omega)
                  generalize hde : (de1 * (gj p z mx c).2.2 f c) % p = de2 at *
                  refine j_iload dX7_reduce_87 rfl ?_
                  refine j_iload_n dX7_reduce_89 rfl ?_
                  refine j_icmp_eq (tgt := 114) dX7_reduce_90 (by decide) ⟨by omega, by omega⟩ ⟨by omega, by omega⟩ (fun h90 => ?_) (fun h90 => ?_)
                  · skip
                    refine j_aload_n dX7_reduce_114 rfl ?_
                    refine j_iload_n dX7_reduce_115 rfl ?_
                    refine j_iload dX7_reduce_116 rfl ?_
                    refine j_iload_n dX7_reduce_118 rfl ?_
                    refine j_iload_n dX7_reduce_119 rfl ?_
                    refine cl_X7_87 (As := [_, _, _, _]) rfl dX7_reduce_120 (c_X7_clear (r := (gj p z mx c).1) (c := c) (mx := swapM (gj p z mx c).2.2 (gj p z mx c).1 f) hq84.2 hR hp hz hc1 hc2 (by omega) (by omega) hmB (by rw [show f = (gj p z mx c).1 by omega, swap_same]; exact hv) hne0) hq84.2.1 rfl ⟨by decide, by decide⟩ (Nat.le_of_ble_eq_true rfl) ⟨Nat.zero_le _, Nat.zero_le _⟩ (fun σ120 hz120 => ?_)
                    obtain ⟨W4, hq4, hv4⟩ := hz120
                    have hq5 := hq84.tr hq4
                    refine j_iinc dX7_reduce_123 rfl (by decide) (by dsimp only [List.set] <;> rfl) ?_
                    refine j_iinc dX7_reduce_126 rfl (by decide) (by dsimp only [List.set] <;> rfl) ?_
                    refine j_goto (tgt := 10) dX7_reduce_129 (by decide) ?_
                    have hih := ih10 (c + 1) _ _ W4 (some (vi f)) (by omega) (by omega) hq5 (by rw [hstep]; exact hv4) (by
                      rw [hstep]
                      intro q
                      have q : (gj p z mx c).1 + 1 = c + 1 := q
                      show _ = ((if (gj p z mx c).1 = f then (gj p z mx c).2.1 else (-(gj p z mx c).2.1) % p) * (gj p z mx c).2.2 f c) % p
                      rw [if_pos (by omega), ← hd (by omega), hde]) (by omega) (by omega)
                    rw [e1] at hih
                    refine j_weak ?_ hih
                    exact ⟨rfl, rfl, rfl, rfl, rfl, rfl, trivial⟩
                  · skip
                    refine j_aload_n dX7_reduce_93 rfl ?_
                    refine j_aload_n dX7_reduce_94 rfl ?_
                    refine j_aload_n dX7_reduce_95 rfl ?_
                    refine gf_X7_80 rfl dX7_reduce_96 hq84.2.1 rfl ?_
                    refine j_ineg dX7_reduce_99 ?_
                    refine cl_X7_54 (As := [_]) rfl dX7_reduce_100 (c_X7_mod hq84.2 hR (by omega) (by omega) (rs (by omega) (by omega))) hq84.2.1 rfl ⟨by decide, by decide⟩ (Nat.le_of_ble_eq_true rfl) ⟨Nat.zero_le _, Nat.zero_le _⟩ (fun z100 σ100 hz100 => ?_)
                    obtain ⟨hr100, hs100⟩ := hz100
                    have hr100 := Eq.symm hr100
                    have hs100 := Eq.symm hs100
                    subst hr100
                    subst hs100
                    refine pf_X7_80 rfl dX7_reduce_103 hq84.2.1 rfl rfl (Nat.le_of_ble_eq_true rfl) ?_
                    dsimp only [List.set]
                    have hq103 := hq84.own (n2 := n) (hs2 := hs) (tn2 := tn) (pl2 := pl) (de2 := (-de2) % p)
                    have hdR3 := emod_R (v := -de2) (p := p) (by omega)
                    refine j_aload_n dX7_reduce_106 rfl ?_
                    refine j_iload dX7_reduce_107 rfl ?_
                    refine j_iload_n dX7_reduce_109 rfl ?_
                    refine j_iload_n dX7_reduce_110 rfl ?_
                    refine cl_X7_83 (As := [_, _, _]) rfl dX7_reduce_111 (c_X7_exchange (a := f) (b := (gj p z mx c).1) hq103.2 (by omega) (by omega) (by omega) (by omega)) hq103.2.1 rfl ⟨by decide, by decide⟩ (Nat.le_of_ble_eq_true rfl) ⟨Nat.zero_le _, Nat.zero_le _⟩ (fun σ111 hz111 => ?_)
                    have hq111 := hq103.tr hz111
                    have hv111 := hv.swap (a := f) (b := (gj p z mx c).1) hlt (by omega) (by omega)
                    refine j_aload_n dX7_reduce_114 rfl ?_
                    refine j_iload_n dX7_reduce_115 rfl ?_
                    refine j_iload dX7_reduce_116 rfl ?_
                    refine j_iload_n dX7_reduce_118 rfl ?_
                    refine j_iload_n dX7_reduce_119 rfl ?_
                    refine cl_X7_87 (As := [_, _, _, _]) rfl dX7_reduce_120 (c_X7_clear (r := (gj p z mx c).1) (c := c) (mx := swapM (gj p z mx c).2.2 (gj p z mx c).1 f) hq111.2 hR hp hz hc1 hc2 (by omega) (by omega) hmB hv111 hne0) hq111.2.1 rfl ⟨by decide, by decide⟩ (Nat.le_of_ble_eq_true rfl) ⟨Nat.zero_le _, Nat.zero_le _⟩ (fun σ120 hz120 => ?_)
                    obtain ⟨W4, hq4, hv4⟩ := hz120
                    have hq5 := hq111.tr hq4
                    refine j_iinc dX7_reduce_123 rfl (by decide) (by dsimp only [List.set] <;> rfl) ?_
                    refine j_iinc dX7_reduce_126 rfl (by decide) (by dsimp only [List.set] <;> rfl) ?_
                    refine j_goto (tgt := 10) dX7_reduce_129 (by decide) ?_
                    have hih := ih10 (c + 1) _ _ W4 (some (vi f)) (by omega) (by omega) hq5 (by rw [hstep]; exact hv4) (by
                      rw [hstep]
                      intro q
                      have q : (gj p z mx c).1 + 1 = c + 1 := q
                      show _ = ((if (gj p z mx c).1 = f then (gj p z mx c).2.1 else (-(gj p z mx c).2.1) % p) * (gj p z mx c).2.2 f c) % p
                      rw [if_neg (by omega), ← hd (by omega), ← det_neg, hde]) (by omega) (by omega)
                    rw [e1] at hih
                    refine j_weak ?_ hih
                    exact ⟨rfl, rfl, rfl, rfl, rfl, rfl, trivial⟩
                · skip
                  exact absurd h50 (by omega)
              · skip
                refine j_iinc dX7_reduce_41 rfl (by decide) (by dsimp only [List.set] <;> rfl) ?_
                refine j_goto (tgt := 19) dX7_reduce_44 (by decide) ?_
                refine j_weak (L := [some (.ref m), some (vi z), some (vi cols), some (vi ((gj p z mx c).1 : Nat)), some (vi c), some (vi ((f + 1 : Nat) : Int))]) ⟨rfl, rfl, rfl, rfl, rfl, rfl, trivial⟩ ?_
                exact ih19 (f + 1) (by omega) (by omega) (by omega) (fun q a b => by
                  rcases (show q < f ∨ q = f by omega) with x | x
                  · exact hf0 q a x
                  · rw [x]; exact h38)
        exact lp19 10 _ (by omega) (Nat.le_refl _) (by omega) (fun q a b => absurd b (by omega))
  exact lp10 10 0 _ _ W none (by omega) (by omega) hq0 hV (fun _ => rfl) (by omega) (by omega)
set_option maxRecDepth 100000 in
set_option maxHeartbeats 4000000 in
theorem c_X7_rank {l : Launch} {D : gD} {σ : Wd} {m n tn pl : Nat} {hs de : Int} {R P A ch rv W mk ls sp : Nat → Int} {t s z : Nat} {S : MS} (h : RM D σ m n hs tn pl de R P A ch rv W mk ls sp) (hO : RO R S) (hWS : WS S) (ht : t < 4) (hb : okBlk s z) : KX7_rank l D [.ref m, vi t, vi s, vi z] σ (fun x σ' => x = (rk S.1 (S.2.1 t) s z : Nat) ∧ ∃ de' W', RQ D σ σ' m n hs tn pl de' R P A ch rv W' mk ls sp) := by
  obtain ⟨hb1, hb2, hb3, hb4⟩ := id hb
  have hr := rowN_R s
  have hc := colN_R s
  have hlo := primeB_lo hWS.1
  refine sp_of (by decide +kernel) (cat1 rfl) (Nat.le_of_ble_eq_true rfl) [some (.ref m), some (vi t), some (vi s), some (vi z)] rfl (fun sz => ?_)
  refine j_aload_n dX7_rank_0 rfl ?_
  refine j_iload_n dX7_rank_1 rfl ?_
  refine j_iload_n dX7_rank_2 rfl ?_
  refine cl_X7_94 (As := [_]) rfl dX7_rank_3 (c_X7_rowOf hb1) rfl ⟨by decide, by decide⟩ (Nat.le_of_ble_eq_true rfl) ⟨Nat.zero_le _, Nat.zero_le _⟩ (fun z3 σ3 hz3 => ?_)
  obtain ⟨hr3, hs3⟩ := hz3
  have hr3 := Eq.symm hr3
  have hs3 := Eq.symm hs3
  subst hr3
  subst hs3
  refine j_iload_n dX7_rank_6 rfl ?_
  refine cl_X7_97 (As := [_]) rfl dX7_rank_7 (c_X7_columnOf hb1) rfl ⟨by decide, by decide⟩ (Nat.le_of_ble_eq_true rfl) ⟨Nat.zero_le _, Nat.zero_le _⟩ (fun z7 σ7 hz7 => ?_)
  obtain ⟨hr7, hs7⟩ := hz7
  have hr7 := Eq.symm hr7
  have hs7 := Eq.symm hs7
  subst hr7
  subst hs7
  refine j_iload_n dX7_rank_10 rfl ?_
  have hK := c_X7_layBlock (l := l) (r := (rowN s).toNat) (c := (colN s).toNat) (z := z) h hO ht hb2 (by omega) (by omega)
  rw [Int.toNat_of_nonneg (a := rowN s) (by omega), Int.toNat_of_nonneg (a := colN s) (by omega)] at hK
  refine cl_X7_100 (As := [_, _, _, _]) rfl dX7_rank_11 (hK) h.1 rfl ⟨by decide, by decide⟩ (Nat.le_of_ble_eq_true rfl) ⟨Nat.zero_le _, Nat.zero_le _⟩ (fun σ11 hz11 => ?_)
  refine j_aload_n dX7_rank_14 rfl ?_
  refine j_iload_n dX7_rank_15 rfl ?_
  refine j_iload_n dX7_rank_16 rfl ?_
  refine cl_X7_103 (As := [_, _]) rfl dX7_rank_17 (c_X7_reduce (z := z) (cols := z) (mx := ldM (S.2.1 t) s z) hz11.2 hO.1 hWS.1 hb2 (by omega) (by omega) (ldM_B (by omega) (hWS.2 t ht).1 hb) (layF_VW hb2)) hz11.2.1 rfl ⟨by decide, by decide⟩ (Nat.le_of_ble_eq_true rfl) ⟨Nat.zero_le _, Nat.zero_le _⟩ (fun z17 σ17 hz17 => ?_)
  obtain ⟨hr17, de2, W2, hq2, -, -⟩ := hz17
  exact j_iret dX7_rank_20 ⟨_, rfl, hr17, de2, W2, hz11.tr hq2⟩
set_option maxRecDepth 100000 in
set_option maxHeartbeats 4000000 in
theorem c_X7_costOf {l : Launch} {D : gD} {σ : Wd} {m n tn pl : Nat} {hs de : Int} {R P A ch rv W mk ls sp : Nat → Int} {t s z : Nat} {S : MS} (h : RM D σ m n hs tn pl de R P A ch rv W mk ls sp) (hO : RO R S) (hWS : WS S) (ht : t < 4) (hb : okBlk s z) (hz1 : 1 ≤ z) : KX7_costOf l D [.ref m, vi t, vi s, vi z] σ (fun x σ' => x = lcost z (rk S.1 (S.2.1 t) s z : Nat) ∧ ∃ de' W', RQ D σ σ' m n hs tn pl de' R P A ch rv W' mk ls sp) := by
  obtain ⟨hb1, hb2, hb3, hb4⟩ := id hb
  have hrl := rk_le (p := S.1) (F := S.2.1 t) (s := s) (z := z)
  refine sp_of (by decide +kernel) (cat1 rfl) (Nat.le_of_ble_eq_true rfl) [some (.ref m), some (vi t), some (vi s), some (vi z), none] rfl (fun sz => ?_)
  refine j_aload_n dX7_costOf_0 rfl ?_
  refine j_iload_n dX7_costOf_1 rfl ?_
  refine j_iload_n dX7_costOf_2 rfl ?_
  refine j_iload_n dX7_costOf_3 rfl ?_
  refine cl_X7_106 (As := [_, _, _]) rfl dX7_costOf_4 (c_X7_rank h hO hWS ht hb) h.1 rfl ⟨by decide, by decide⟩ (Nat.le_of_ble_eq_true rfl) ⟨Nat.zero_le _, Nat.zero_le _⟩ (fun z4 σ4 hz4 => ?_)
  obtain ⟨hr4, de2, W2, hq2⟩ := hz4
  have hr4 := Eq.symm hr4
  subst hr4
  refine j_istore dX7_costOf_7 (by decide) (by dsimp only [List.set] <;> rfl) ?_
  refine j_iconst dX7_costOf_9 ?_
  refine j_iload dX7_costOf_10 rfl ?_
  refine j_imul dX7_costOf_12 ?_
  refine j_iload_n dX7_costOf_13 rfl ?_
  refine j_icmp_ge (tgt := 26) dX7_costOf_14 (by decide) ⟨by omega, by omega⟩ ⟨by omega, by omega⟩ (fun h14 => ?_) (fun h14 => ?_)
  · skip
    refine j_iload_n dX7_costOf_26 rfl ?_
    refine j_iload_n dX7_costOf_27 rfl ?_
    refine j_imul dX7_costOf_28 ?_
    exact j_iret dX7_costOf_29 ⟨_, rfl, by rw [lcost_alt (by omega), if_neg (by omega)], de2, W2, hq2⟩
  · skip
    refine j_iconst dX7_costOf_17 ?_
    refine j_iload_n dX7_costOf_18 rfl ?_
    refine j_imul dX7_costOf_19 ?_
    refine j_iload dX7_costOf_20 rfl ?_
    refine j_imul dX7_costOf_22 ?_
    refine j_goto (tgt := 29) dX7_costOf_23 (by decide) ?_
    exact j_iret dX7_costOf_29 ⟨_, rfl, by rw [lcost_alt (by omega), if_pos (by omega)], de2, W2, hq2⟩
set_option maxRecDepth 100000 in
set_option maxHeartbeats 4000000 in
theorem c_X7_determinantOf {l : Launch} {D : gD} {σ : Wd} {m n tn pl : Nat} {hs de : Int} {R P A ch rv W mk ls sp : Nat → Int} {t : Nat} {S : MS} (h : RM D σ m n hs tn pl de R P A ch rv W mk ls sp) (hO : RO R S) (hWS : WS S) (ht : t < 4) : KX7_determinantOf l D [.ref m, vi t] σ (fun x σ' => x = gdet S.1 8 (ldM (S.2.1 t) 0 8) ∧ ∃ de' W', RQ D σ σ' m n hs tn pl de' R P A ch rv W' mk ls sp) := by
  have hb : okBlk 0 8 := okBlk_of (k := 3) (by omega) (by omega) rfl
  have hlo := primeB_lo hWS.1
  refine sp_of (by decide +kernel) (cat1 rfl) (Nat.le_of_ble_eq_true rfl) [some (.ref m), some (vi t)] rfl (fun sz => ?_)
  refine j_aload_n dX7_determinantOf_0 rfl ?_
  refine j_iload_n dX7_determinantOf_1 rfl ?_
  refine j_iconst dX7_determinantOf_2 ?_
  refine j_iconst dX7_determinantOf_3 ?_
  refine j_bipush dX7_determinantOf_4 (by decide) ?_
  refine cl_X7_100 (As := [_, _, _, _]) rfl dX7_determinantOf_6 (c_X7_layBlock (r := 0) (c := 0) (z := 8) h hO ht (by omega) (by omega) (by omega)) h.1 rfl ⟨by decide, by decide⟩ (Nat.le_of_ble_eq_true rfl) ⟨Nat.zero_le _, Nat.zero_le _⟩ (fun σ6 hz6 => ?_)
  refine j_aload_n dX7_determinantOf_9 rfl ?_
  refine j_bipush dX7_determinantOf_10 (by decide) ?_
  refine j_bipush dX7_determinantOf_12 (by decide) ?_
  refine cl_X7_103 (As := [_, _]) rfl dX7_determinantOf_14 (c_X7_reduce (z := 8) (cols := 8) (mx := ldM (S.2.1 t) 0 8) hz6.2 hO.1 hWS.1 (by omega) (by omega) (by omega) (ldM_B (by omega) (hWS.2 t ht).1 hb) (layF_VW (s := 0) (by omega))) hz6.2.1 rfl ⟨by decide, by decide⟩ (Nat.le_of_ble_eq_true rfl) ⟨Nat.zero_le _, Nat.zero_le _⟩ (fun z14 σ14 hz14 => ?_)
  obtain ⟨hr14, de2, W2, hq2, -, hd2⟩ := hz14
  have hrl := rk_le (p := S.1) (F := S.2.1 t) (s := 0) (z := 8)
  have hrl2 : (gj S.1 8 (ldM (S.2.1 t) 0 8) 8).1 ≤ 8 := hrl
  have hr14 := Eq.symm hr14
  subst hr14
  refine j_bipush dX7_determinantOf_17 (by decide) ?_
  refine j_icmp_ge (tgt := 26) dX7_determinantOf_19 (by decide) (rs (by omega) (by omega)) ⟨by omega, by omega⟩ (fun h19 => ?_) (fun h19 => ?_)
  · skip
    refine j_aload_n dX7_determinantOf_26 rfl ?_
    refine gf_X7_80 rfl dX7_determinantOf_27 hq2.2.1 rfl ?_
    exact j_iret dX7_determinantOf_30 ⟨_, rfl, by unfold gdet; rw [if_neg (by omega)]; exact hd2 (by omega), de2, W2, hz6.tr hq2⟩
  · skip
    refine j_iconst dX7_determinantOf_22 ?_
    refine j_goto (tgt := 30) dX7_determinantOf_23 (by decide) ?_
    exact j_iret dX7_determinantOf_30 ⟨_, rfl, by unfold gdet; rw [if_pos (by omega)], de2, W2, hz6.tr hq2⟩

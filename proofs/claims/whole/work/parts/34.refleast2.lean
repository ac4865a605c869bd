/-! ===== the reference: the least tree, factors ===== -/
theorem LLe.rf : ∀ L : List (Option Value), LLe L L
  | [] => trivial
  | none :: L => LLe.rf L
  | some v :: L => ⟨rfl, LLe.rf L⟩
theorem lv_child {d q : Nat} (hd : d < 5) (hq : q < 4) : lvN (4 * d + 1 + q) = lvN d - 1 ∧ wlkN (4 * d + 1 + q) = wlkN d + q * 4 ^ (lvN d - 1) := by
  unfold lvN wlkN
  by_cases a : d = 0
  · rw [if_neg (show ¬ 4 * d + 1 + q = 0 by omega), if_pos (show 4 * d + 1 + q < 5 by omega), if_pos a, if_pos a, if_neg (by omega), if_pos (by omega)]
    refine ⟨rfl, ?_⟩
    show 16 * (4 * d + 1 + q - 1) = 0 + q * 16
    omega
  · rw [if_neg (show ¬ 4 * d + 1 + q = 0 by omega), if_neg (show ¬ 4 * d + 1 + q < 5 by omega), if_neg a, if_neg a, if_pos hd, if_neg (by omega), if_neg (by omega), if_pos hd]
    refine ⟨rfl, ?_⟩
    show 4 * (4 * d + 1 + q - 5) = 16 * (d - 1) + q * 4
    omega
theorem lv_tab : ∀ d : Nat, d < 21 → lvN d < 4 ∧ 1 ≤ lvN d ∧ wlkN d < 64 ∧ wlkN d % (2 ^ lvN d * 2 ^ lvN d) = 0 ∧ wlkN d + 2 ^ lvN d * 2 ^ lvN d ≤ 64 ∧ 1 ≤ 2 ^ lvN d ∧ 2 ^ lvN d ≤ 8 := by decide +kernel
theorem best_n (p : Int) (F : Nat → Int) {d : Nat} (hd : d < 21) : best p F (lvN d) (wlkN d) = if qs p F (lvN d - 1) (wlkN d) < whl p F (lvN d) (wlkN d) then qs p F (lvN d - 1) (wlkN d) else whl p F (lvN d) (wlkN d) := by
  have h := lv_tab d hd
  obtain ⟨k, hk⟩ : ∃ k, lvN d = k + 1 := ⟨lvN d - 1, by omega⟩
  rw [hk]
  exact best_s p F k (wlkN d)
theorem flF_0 (p : Int) (F : Nat → Int) : flF p F 0 = if cutN p F 0 then 1 else 0 := by
  by_cases a : cutN p F 0
  · rw [if_pos a]
    exact flF_1.mpr ⟨a, Or.inl rfl⟩
  · rw [if_neg a]
    rcases flF_R p F 0 with q | q
    · exact q
    · exact absurd (flF_1.mp q).1 a
theorem flF_n {p : Int} {F : Nat → Int} {d : Nat} (h1 : 1 ≤ d) (h2 : d < 21) (h : ¬ (cutN p F d ∧ flF p F ((d - 1) / 4) = 1)) : flF p F d = 0 := by
  rcases flF_R p F d with q | q
  · exact q
  · exact absurd ((flF_s h1 h2).mp q) h
theorem best_0 (p : Int) (F : Nat → Int) (s : Nat) : best p F 0 s = lcost ((1 : Nat) : Int) (rk p F s 1 : Nat) := rfl
theorem lu_top {p : Int} {m : Mx} {i : Nat} (hi : i < 8) : lu p m 8 i = lu p m 7 i := lu_row (c := 7) (d := 8) (by omega) (by omega)

set_option maxRecDepth 100000 in
set_option maxHeartbeats 4000000 in
theorem c_X7_findLeast {l : Launch} {D : gD} {σ : Wd} {m n tn pl : Nat} {hs de : Int} {R P A ch rv W mk ls sp : Nat → Int} {t : Nat} {S : MS} (h : RM D σ m n hs tn pl de R P A ch rv W mk ls sp) (hO : RO R S) (hWS : WS S) (ht : t < 4) : KX7_findLeast l D [.ref m, vi t] σ (fun σ' => ∃ de' W' ls' sp', RQ D σ σ' m n hs tn pl de' R P A ch rv W' mk ls' sp' ∧ ls' 0 = best S.1 (S.2.1 t) 3 0 ∧ ∀ d, d < 21 → sp' d = flF S.1 (S.2.1 t) d) := by
  refine sp_of (by decide +kernel) (cat1 rfl) (Nat.le_of_ble_eq_true rfl) [some (.ref m), some (vi t), none, none, none, none, none] rfl (fun sz => ?_)
  refine j_bipush dX7_findLeast_0 (by decide) ?_
  refine j_istore_n dX7_findLeast_2 (by decide) (by dsimp only [List.set] <;> rfl) ?_
  have lp3 : ∀ (nn : Nat) (i : Int) (w : Wd) (de1 : Int) (W1 ls1 sp1 : Nat → Int) (v3 v4 v5 v6 : Option Value), i + 1 < nn → -1 ≤ i → i ≤ 20 → RQ D σ w m n hs tn pl de1 R P A ch rv W1 mk ls1 sp1 → (∀ d : Nat, i < (d : Int) → d < 21 → ls1 d = best S.1 (S.2.1 t) (lvN d) (wlkN d) ∧ sp1 d = if cutN S.1 (S.2.1 t) d then 1 else 0) → J l D yX7_findLeast cX7_findLeast 7 none rmX7_findLeast sz (AA σ sz) (QV D σ sz (fun σ' => ∃ de' W' ls' sp', RQ D σ σ' m n hs tn pl de' R P A ch rv W' mk ls' sp' ∧ ls' 0 = best S.1 (S.2.1 t) 3 0 ∧ ∀ d, d < 21 → sp' d = flF S.1 (S.2.1 t) d)) 0 0 3 [some (.ref m), some (vi t), some (vi i), v3, v4, v5, v6] [] w := by
    intro nn
    induction nn with
    | zero =>
      intro i w de1 W1 ls1 sp1 v3 v4 v5 v6 hnn hi1 hi2 hw hi3
      exfalso
      omega
    | succ nn ih3 =>
      intro i w de1 W1 ls1 sp1 v3 v4 v5 v6 hnn hi1 hi2 hw hi3
      refine j_iload_n dX7_findLeast_3 rfl ?_
      refine j_if_lt (tgt := 165) dX7_findLeast_4 (by decide) (rs (by omega) (by omega)) (fun h4 => ?_) (fun h4 => ?_)
      · skip
        refine j_iconst dX7_findLeast_165 ?_
        refine j_istore_n dX7_findLeast_166 (by decide) (by dsimp only [List.set] <;> rfl) ?_
        have hl0 : ls1 0 = best S.1 (S.2.1 t) 3 0 := (hi3 0 (by omega) (by omega)).1
        have lp167 : ∀ (nn3 i : Nat) (v : Wd) (sp2 : Nat → Int), 22 - i < nn3 → 1 ≤ i → i ≤ 21 → RQ D σ v m n hs tn pl de1 R P A ch rv W1 mk ls1 sp2 → (∀ d : Nat, d < 21 → sp2 d = if d < i then flF S.1 (S.2.1 t) d else if cutN S.1 (S.2.1 t) d then 1 else 0) → J l D yX7_findLeast cX7_findLeast 7 none rmX7_findLeast sz (AA σ sz) (QV D σ sz (fun σ' => ∃ de' W' ls' sp', RQ D σ σ' m n hs tn pl de' R P A ch rv W' mk ls' sp' ∧ ls' 0 = best S.1 (S.2.1 t) 3 0 ∧ ∀ d, d < 21 → sp' d = flF S.1 (S.2.1 t) d)) 0 0 167 [some (.ref m), some (vi t), some (vi i), v3, v4, v5, v6] [] v := by
          intro nn
          induction nn with
          | zero =>
            intro i v sp2 hnn3 hi1 hi2 hv hsp
            exfalso
            omega
          | succ nn ih167 =>
            intro i v sp2 hnn3 hi1 hi2 hv hsp
            refine j_iload_n dX7_findLeast_167 rfl ?_
            refine j_bipush dX7_findLeast_168 (by decide) ?_
            refine j_icmp_ge (tgt := 212) dX7_findLeast_170 (by decide) ⟨by omega, by omega⟩ ⟨by omega, by omega⟩ (fun h170 => ?_) (fun h170 => ?_)
            · skip
              exact j_vret dX7_findLeast_212 ⟨rfl, de1, W1, ls1, sp2, hv, hl0, fun d hd => by rw [hsp d hd, if_pos (by omega)]⟩
            · skip
              refine j_aload_n dX7_findLeast_173 rfl ?_
              refine gf_X7_35 rfl dX7_findLeast_174 hv.2.1 rfl ?_
              refine j_iload_n dX7_findLeast_177 rfl ?_
              refine j_aload_n dX7_findLeast_178 rfl ?_
              refine gf_X7_35 rfl dX7_findLeast_179 hv.2.1 rfl ?_
              refine j_iload_n dX7_findLeast_182 rfl ?_
              refine jj_zald dX7_findLeast_183 hv.2.2.2.2.2.2.2.2.2.2 (by omega) (by omega) ⟨by omega, by omega⟩ ?_
              refine j_tops (show sp2 ((i : Nat) : Int).toNat = (if cutN S.1 (S.2.1 t) i then 1 else 0) by rw [show ((i : Nat) : Int).toNat = i from rfl, hsp i (by omega), if_neg (by omega)]) ?_
              refine j_if_eq (tgt := 204) dX7_findLeast_184 (by decide) R_ite (fun h184 => ?_) (fun h184 => ?_)
              · skip
                have hcn := ne1 h184
                refine j_iconst dX7_findLeast_204 ?_
                have hnew : flF S.1 (S.2.1 t) i = 0 := flF_n (by omega) (by omega) (fun q => hcn q.1)
                refine jj_zast dX7_findLeast_205 hv.2.2.2.2.2.2.2.2.2.2 (by omega) (by omega) ⟨by omega, by omega⟩ (Or.inl rfl) (fun e205 q205 => ?_)
                have hv2 := hv.cut q205
                refine j_iinc dX7_findLeast_206 rfl (by decide) (by dsimp only [List.set] <;> rfl) ?_
                refine j_goto (tgt := 167) dX7_findLeast_209 (by decide) ?_
                have hih := ih167 (i + 1) _ _ (by omega) (by omega) (by omega) hv2 (fun d hd => by
                  show fup sp2 i _ d = _
                  by_cases e : d = i
                  · rw [e, fup_s, if_pos (by omega)]
                    exact hnew.symm
                  · rw [fup_n e, hsp d hd]
                    by_cases b : d < i
                    · rw [if_pos b, if_pos (by omega)]
                    · rw [if_neg b, if_neg (show ¬ d < i + 1 by omega)])
                refine j_weak ?_ hih
                exact ⟨rfl, rfl, rfl, LLe.rf _⟩
              · skip
                have hcn := nz1 h184
                refine j_aload_n dX7_findLeast_187 rfl ?_
                refine gf_X7_35 rfl dX7_findLeast_188 hv.2.1 rfl ?_
                refine j_iload_n dX7_findLeast_191 rfl ?_
                refine j_iconst dX7_findLeast_192 ?_
                refine j_isub dX7_findLeast_193 ?_
                refine j_iconst dX7_findLeast_194 ?_
                refine j_idiv dX7_findLeast_195 ⟨by omega, by omega⟩ ⟨by omega, by omega⟩ (by omega) ?_
                rw [show ((i : Nat) : Int) - 1 = ((i - 1 : Nat) : Int) by omega, show (((i - 1 : Nat) : Int).tdiv 4) = (((i - 1) / 4 : Nat) : Int) from Int.ofNat_tdiv (i - 1) 4]
                refine jj_zald dX7_findLeast_196 hv.2.2.2.2.2.2.2.2.2.2 (by omega) (by omega) ⟨by omega, by omega⟩ ?_
                refine j_tops (show sp2 (((i - 1) / 4 : Nat) : Int).toNat = flF S.1 (S.2.1 t) ((i - 1) / 4) by rw [show (((i - 1) / 4 : Nat) : Int).toNat = (i - 1) / 4 from rfl, hsp ((i - 1) / 4) (by omega), if_pos (by omega)]) ?_
                have hfR := flF_R S.1 (S.2.1 t) ((i - 1) / 4)
                refine j_if_eq (tgt := 204) dX7_findLeast_197 (by decide) (rs (by omega) (by omega)) (fun h197 => ?_) (fun h197 => ?_)
                · skip
                  refine j_iconst dX7_findLeast_204 ?_
                  have hnew : flF S.1 (S.2.1 t) i = 0 := flF_n (by omega) (by omega) (fun q => by have := q.2; omega)
                  refine jj_zast dX7_findLeast_205 hv.2.2.2.2.2.2.2.2.2.2 (by omega) (by omega) ⟨by omega, by omega⟩ (Or.inl rfl) (fun e205 q205 => ?_)
                  have hv2 := hv.cut q205
                  refine j_iinc dX7_findLeast_206 rfl (by decide) (by dsimp only [List.set] <;> rfl) ?_
                  refine j_goto (tgt := 167) dX7_findLeast_209 (by decide) ?_
                  have hih := ih167 (i + 1) _ _ (by omega) (by omega) (by omega) hv2 (fun d hd => by
                    show fup sp2 i _ d = _
                    by_cases e : d = i
                    · rw [e, fup_s, if_pos (by omega)]
                      exact hnew.symm
                    · rw [fup_n e, hsp d hd]
                      by_cases b : d < i
                      · rw [if_pos b, if_pos (by omega)]
                      · rw [if_neg b, if_neg (show ¬ d < i + 1 by omega)])
                  refine j_weak ?_ hih
                  exact ⟨rfl, rfl, rfl, LLe.rf _⟩
                · skip
                  refine j_iconst dX7_findLeast_200 ?_
                  refine j_goto (tgt := 205) dX7_findLeast_201 (by decide) ?_
                  have hnew : flF S.1 (S.2.1 t) i = 1 := (flF_s (by omega) (by omega)).mpr ⟨hcn, by omega⟩
                  refine jj_zast dX7_findLeast_205 hv.2.2.2.2.2.2.2.2.2.2 (by omega) (by omega) ⟨by omega, by omega⟩ (Or.inr rfl) (fun e205 q205 => ?_)
                  have hv2 := hv.cut q205
                  refine j_iinc dX7_findLeast_206 rfl (by decide) (by dsimp only [List.set] <;> rfl) ?_
                  refine j_goto (tgt := 167) dX7_findLeast_209 (by decide) ?_
                  have hih := ih167 (i + 1) _ _ (by omega) (by omega) (by omega) hv2 (fun d hd => by
                    show fup sp2 i _ d = _
                    by_cases e : d = i
                    · rw [e, fup_s, if_pos (by omega)]
                      exact hnew.symm
                    · rw [fup_n e, hsp d hd]
                      by_cases b : d < i
                      · rw [if_pos b, if_pos (by omega)]
                      · rw [if_neg b, if_neg (show ¬ d < i + 1 by omega)])
                  refine j_weak ?_ hih
                  exact ⟨rfl, rfl, rfl, LLe.rf _⟩
        exact lp167 30 1 _ _ (by omega) (by omega) (by omega) hw (fun d hd => by
          have := (hi3 d (by omega) hd).2
          by_cases e : d < 1
          · rw [if_pos e, show d = 0 by omega, flF_0]
            rw [show d = 0 by omega] at this
            exact this
          · rw [if_neg e]
            exact this)
      · skip
        obtain ⟨d, rfl⟩ := Int.eq_ofNat_of_zero_le (show 0 ≤ i by omega)
        obtain ⟨t1, t2, t3, t4, t5, t6, t7⟩ := lv_tab d (by omega)
        have lp26 : ∀ (x : Int), x = (2 ^ lvN d : Nat) → J l D yX7_findLeast cX7_findLeast 7 none rmX7_findLeast sz (AA σ sz) (QV D σ sz (fun σ' => ∃ de' W' ls' sp', RQ D σ σ' m n hs tn pl de' R P A ch rv W' mk ls' sp' ∧ ls' 0 = best S.1 (S.2.1 t) 3 0 ∧ ∀ d, d < 21 → sp' d = flF S.1 (S.2.1 t) d)) 0 0 26 [some (.ref m), some (vi t), some (vi d), v3, v4, v5, v6] [vi x] w := by
          intro x hxz
          subst hxz
          refine j_istore_n dX7_findLeast_26 (by decide) (by dsimp only [List.set] <;> rfl) ?_
          have lp54 : ∀ (x : Int), x = (wlkN d : Nat) → J l D yX7_findLeast cX7_findLeast 7 none rmX7_findLeast sz (AA σ sz) (QV D σ sz (fun σ' => ∃ de' W' ls' sp', RQ D σ σ' m n hs tn pl de' R P A ch rv W' mk ls' sp' ∧ ls' 0 = best S.1 (S.2.1 t) 3 0 ∧ ∀ d, d < 21 → sp' d = flF S.1 (S.2.1 t) d)) 0 0 54 [some (.ref m), some (vi t), some (vi d), some (vi (2 ^ lvN d : Nat)), v4, v5, v6] [vi x] w := by
            intro x hxz
            subst hxz
            refine j_istore dX7_findLeast_54 (by decide) (by dsimp only [List.set] <;> rfl) ?_
            refine j_iconst dX7_findLeast_56 ?_
            refine j_istore dX7_findLeast_57 (by decide) (by dsimp only [List.set] <;> rfl) ?_
            refine j_iconst dX7_findLeast_59 ?_
            refine j_istore dX7_findLeast_60 (by decide) (by dsimp only [List.set] <;> rfl) ?_
            have lp62 : ∀ (nn2 q : Nat) (x : Int) (w2 : Wd) (de2 : Int) (W2 : Nat → Int), 5 - q < nn2 → q ≤ 4 → RQ D σ w2 m n hs tn pl de2 R P A ch rv W2 mk ls1 sp1 → x = sumF (fun q => best S.1 (S.2.1 t) (lvN d - 1) (wlkN d + q * 4 ^ (lvN d - 1))) q → J l D yX7_findLeast cX7_findLeast 7 none rmX7_findLeast sz (AA σ sz) (QV D σ sz (fun σ' => ∃ de' W' ls' sp', RQ D σ σ' m n hs tn pl de' R P A ch rv W' mk ls' sp' ∧ ls' 0 = best S.1 (S.2.1 t) 3 0 ∧ ∀ d, d < 21 → sp' d = flF S.1 (S.2.1 t) d)) 0 0 62 [some (.ref m), some (vi t), some (vi d), some (vi (2 ^ lvN d : Nat)), some (vi (wlkN d : Nat)), some (vi x), some (vi q)] [] w2 := by
              intro nn
              induction nn with
              | zero =>
                intro q x w2 de2 W2 hnn2 hq hw2 hx
                exfalso
                omega
              | succ nn ih62 =>
                intro q x w2 de2 W2 hnn2 hq hw2 hx
                have hxR := sumF_R (f := (fun q => best S.1 (S.2.1 t) (lvN d - 1) (wlkN d + q * 4 ^ (lvN d - 1)))) (b := 64) (n := q) (fun j hj => best_R (by omega))
                rw [← hx] at hxR
                refine j_iload dX7_findLeast_62 rfl ?_
                refine j_iconst dX7_findLeast_64 ?_
                refine j_icmp_ge (tgt := 111) dX7_findLeast_65 (by decide) ⟨by omega, by omega⟩ ⟨by omega, by omega⟩ (fun h65 => ?_) (fun h65 => ?_)
                · skip
                  refine j_aload_n dX7_findLeast_111 rfl ?_
                  refine j_iload_n dX7_findLeast_112 rfl ?_
                  refine j_iload dX7_findLeast_113 rfl ?_
                  refine j_iload_n dX7_findLeast_115 rfl ?_
                  refine cl_X7_109 (As := [_, _, _]) rfl dX7_findLeast_116 (c_X7_costOf (s := wlkN d) (z := 2 ^ lvN d) hw2.2 hO hWS ht (okBlk_of t1 t3 t4) t6) hw2.2.1 rfl ⟨by decide, by decide⟩ (Nat.le_of_ble_eq_true rfl) ⟨Nat.zero_le _, Nat.zero_le _⟩ (fun z116 σ116 hz116 => ?_)
                  obtain ⟨hr116, de4, W4, hq4b⟩ := hz116
                  have hq4b := hw2.tr hq4b
                  have hr116 : z116 = whl S.1 (S.2.1 t) (lvN d) (wlkN d) := hr116
                  have hwR := whl_R (p := S.1) (F := S.2.1 t) (k := lvN d) (s := wlkN d) t1
                  rw [← hr116] at hwR
                  rename_i yy
                  generalize hyv : z116 = y at *
                  have hxq : x = qs S.1 (S.2.1 t) (lvN d - 1) (wlkN d) := by
                    rw [hx, show q = 4 by omega]
                    rfl
                  refine j_istore dX7_findLeast_119 (by decide) (by dsimp only [List.set] <;> rfl) ?_
                  refine j_aload_n dX7_findLeast_121 rfl ?_
                  refine gf_X7_35 rfl dX7_findLeast_122 hq4b.2.1 rfl ?_
                  refine j_iload_n dX7_findLeast_125 rfl ?_
                  refine j_iload dX7_findLeast_126 rfl ?_
                  refine j_iload dX7_findLeast_128 rfl ?_
                  refine j_icmp_le (tgt := 137) dX7_findLeast_130 (by decide) (rs (by omega) (by omega)) (rs (by omega) (by omega)) (fun h130 => ?_) (fun h130 => ?_)
                  · skip
                    refine j_iconst dX7_findLeast_137 ?_
                    refine jj_zast dX7_findLeast_138 hq4b.2.2.2.2.2.2.2.2.2.2 (by omega) (by omega) ⟨by omega, by omega⟩ (by omega) (fun e138 q138 => ?_)
                    have hq5 := hq4b.cut q138
                    refine j_aload_n dX7_findLeast_139 rfl ?_
                    refine gf_X7_32 rfl dX7_findLeast_140 hq5.2.1 rfl ?_
                    refine j_iload_n dX7_findLeast_143 rfl ?_
                    refine j_iload dX7_findLeast_144 rfl ?_
                    refine j_iload dX7_findLeast_146 rfl ?_
                    refine j_icmp_le (tgt := 156) dX7_findLeast_148 (by decide) (rs (by omega) (by omega)) (rs (by omega) (by omega)) (fun h148 => ?_) (fun h148 => ?_)
                    · skip
                      refine j_iload dX7_findLeast_156 rfl ?_
                      refine jj_iast dX7_findLeast_158 hq5.2.2.2.2.2.2.2.2.2.1 (by omega) (by omega) ⟨by omega, by omega⟩ (fun e158 q158 => ?_)
                      have hq6 := hq5.least q158
                      refine j_iinc dX7_findLeast_159 rfl (by decide) (by dsimp only [List.set] <;> rfl) ?_
                      refine j_goto (tgt := 3) dX7_findLeast_162 (by decide) ?_
                      have hih := ih3 ((d : Int) - 1) _ _ _ _ _ (some (vi (2 ^ lvN d : Nat))) (some (vi (wlkN d : Nat))) (some (vi x)) (some (vi y)) (by omega) (by omega) (by omega) hq6 (fun c h1 h2 => by
                        by_cases e : c = d
                        · rw [e]
                          refine ⟨?_, ?_⟩
                          · show fup ls1 d _ d = _
                            rw [fup_s, best_n _ _ (by omega)]
                            rw [if_neg (by omega)]; exact hr116
                          · show fup sp1 d _ d = _
                            rw [fup_s]
                            rw [if_neg (by unfold cutN; omega)]
                        · obtain ⟨a1, a2⟩ := hi3 c (by omega) h2
                          refine ⟨?_, ?_⟩
                          · show fup ls1 d _ c = _
                            rw [fup_n e]
                            exact a1
                          · show fup sp1 d _ c = _
                            rw [fup_n e]
                            exact a2)
                      refine j_weak ?_ hih
                      exact ⟨rfl, rfl, rfl, rfl, rfl, rfl, rfl, trivial⟩
                    · skip
                      exact absurd h130 (by omega)
                  · skip
                    refine j_iconst dX7_findLeast_133 ?_
                    refine j_goto (tgt := 138) dX7_findLeast_134 (by decide) ?_
                    refine jj_zast dX7_findLeast_138 hq4b.2.2.2.2.2.2.2.2.2.2 (by omega) (by omega) ⟨by omega, by omega⟩ (by omega) (fun e138 q138 => ?_)
                    have hq5 := hq4b.cut q138
                    refine j_aload_n dX7_findLeast_139 rfl ?_
                    refine gf_X7_32 rfl dX7_findLeast_140 hq5.2.1 rfl ?_
                    refine j_iload_n dX7_findLeast_143 rfl ?_
                    refine j_iload dX7_findLeast_144 rfl ?_
                    refine j_iload dX7_findLeast_146 rfl ?_
                    refine j_icmp_le (tgt := 156) dX7_findLeast_148 (by decide) (rs (by omega) (by omega)) (rs (by omega) (by omega)) (fun h148 => ?_) (fun h148 => ?_)
                    · skip
                      exact absurd h130 (by omega)
                    · skip
                      refine j_iload dX7_findLeast_151 rfl ?_
                      refine j_goto (tgt := 158) dX7_findLeast_153 (by decide) ?_
                      refine jj_iast dX7_findLeast_158 hq5.2.2.2.2.2.2.2.2.2.1 (by omega) (by omega) ⟨by omega, by omega⟩ (fun e158 q158 => ?_)
                      have hq6 := hq5.least q158
                      refine j_iinc dX7_findLeast_159 rfl (by decide) (by dsimp only [List.set] <;> rfl) ?_
                      refine j_goto (tgt := 3) dX7_findLeast_162 (by decide) ?_
                      have hih := ih3 ((d : Int) - 1) _ _ _ _ _ (some (vi (2 ^ lvN d : Nat))) (some (vi (wlkN d : Nat))) (some (vi x)) (some (vi y)) (by omega) (by omega) (by omega) hq6 (fun c h1 h2 => by
                        by_cases e : c = d
                        · rw [e]
                          refine ⟨?_, ?_⟩
                          · show fup ls1 d _ d = _
                            rw [fup_s, best_n _ _ (by omega)]
                            rw [if_pos (by omega)]; exact hxq
                          · show fup sp1 d _ d = _
                            rw [fup_s]
                            rw [if_pos (by unfold cutN; omega)]
                        · obtain ⟨a1, a2⟩ := hi3 c (by omega) h2
                          refine ⟨?_, ?_⟩
                          · show fup ls1 d _ c = _
                            rw [fup_n e]
                            exact a1
                          · show fup sp1 d _ c = _
                            rw [fup_n e]
                            exact a2)
                      refine j_weak ?_ hih
                      exact ⟨rfl, rfl, rfl, rfl, rfl, rfl, rfl, trivial⟩
                · skip
                  have hq4 : q < 4 := by omega
                  refine j_iload dX7_findLeast_68 rfl ?_
                  refine j_iload_n dX7_findLeast_70 rfl ?_
                  refine j_iconst dX7_findLeast_71 ?_
                  refine j_icmp_ge (tgt := 91) dX7_findLeast_72 (by decide) ⟨by omega, by omega⟩ ⟨by omega, by omega⟩ (fun h72 => ?_) (fun h72 => ?_)
                  · skip
                    refine j_aload_n dX7_findLeast_91 rfl ?_
                    refine j_iload_n dX7_findLeast_92 rfl ?_
                    refine j_iload dX7_findLeast_93 rfl ?_
                    refine j_iload dX7_findLeast_95 rfl ?_
                    refine j_iadd dX7_findLeast_97 ?_
                    refine j_iconst dX7_findLeast_98 ?_
                    rw [show ((wlkN d : Nat) : Int) + (q : Int) = ((wlkN d + q : Nat) : Int) from rfl]
                    have hl1 : lvN d = 1 := by
                      unfold lvN
                      rw [if_neg (by omega), if_neg (by omega)]
                    have hs4 : wlkN d + q < 64 := by
                      rw [hl1] at t5
                      omega
                    refine cl_X7_109 (As := [_, _, _]) rfl dX7_findLeast_99 (c_X7_costOf (s := wlkN d + q) (z := 1) hw2.2 hO hWS ht (okBlk_of (k := 0) (by omega) hs4 (Nat.mod_one _)) (by omega)) hw2.2.1 rfl ⟨by decide, by decide⟩ (Nat.le_of_ble_eq_true rfl) ⟨Nat.zero_le _, Nat.zero_le _⟩ (fun z99 σ99 hz99 => ?_)
                    obtain ⟨hr99, de3, W3, hq3⟩ := hz99
                    have hq3 := hw2.tr hq3
                    have hr99 : z99 = (fun q => best S.1 (S.2.1 t) (lvN d - 1) (wlkN d + q * 4 ^ (lvN d - 1))) q := by
                      rw [hr99, ← best_0]
                      show _ = best S.1 (S.2.1 t) (lvN d - 1) (wlkN d + q * 4 ^ (lvN d - 1))
                      rw [hl1]
                      show _ = best S.1 (S.2.1 t) 0 (wlkN d + q * 1)
                      rw [Nat.mul_one]
                    refine j_iadd dX7_findLeast_102 ?_
                    refine j_istore dX7_findLeast_103 (by decide) (by dsimp only [List.set] <;> rfl) ?_
                    refine j_iinc dX7_findLeast_105 rfl (by decide) (by dsimp only [List.set] <;> rfl) ?_
                    refine j_goto (tgt := 62) dX7_findLeast_108 (by decide) ?_
                    have hih := ih62 (q + 1) _ _ _ _ (by omega) (by omega) hq3 (show x + z99 = _ by rw [hx, hr99]; rfl)
                    refine j_weak ?_ hih
                    exact ⟨rfl, rfl, rfl, rfl, rfl, rfl, rfl, trivial⟩
                  · skip
                    refine j_aload_n dX7_findLeast_75 rfl ?_
                    refine gf_X7_32 rfl dX7_findLeast_76 hw2.2.1 rfl ?_
                    refine j_iconst dX7_findLeast_79 ?_
                    refine j_iload_n dX7_findLeast_80 rfl ?_
                    refine j_imul dX7_findLeast_81 ?_
                    refine j_iconst dX7_findLeast_82 ?_
                    refine j_iadd dX7_findLeast_83 ?_
                    refine j_iload dX7_findLeast_84 rfl ?_
                    refine j_iadd dX7_findLeast_86 ?_
                    rw [show (4 : Int) * (d : Int) + 1 + (q : Int) = ((4 * d + 1 + q : Nat) : Int) by omega]
                    refine jj_iald dX7_findLeast_87 hw2.2.2.2.2.2.2.2.2.2.1 (by omega) (by omega) ⟨by omega, by omega⟩ ?_
                    refine j_tops (show _ = (fun q => best S.1 (S.2.1 t) (lvN d - 1) (wlkN d + q * 4 ^ (lvN d - 1))) q by
                      obtain ⟨c1, c2⟩ := lv_child (d := d) (q := q) (by omega) hq4
                      rw [show ((4 * d + 1 + q : Nat) : Int).toNat = 4 * d + 1 + q from rfl, (hi3 (4 * d + 1 + q) (by omega) (by omega)).1, c1, c2]) ?_
                    refine j_goto (tgt := 102) dX7_findLeast_88 (by decide) ?_
                    refine j_iadd dX7_findLeast_102 ?_
                    refine j_istore dX7_findLeast_103 (by decide) (by dsimp only [List.set] <;> rfl) ?_
                    refine j_iinc dX7_findLeast_105 rfl (by decide) (by dsimp only [List.set] <;> rfl) ?_
                    refine j_goto (tgt := 62) dX7_findLeast_108 (by decide) ?_
                    have hih := ih62 (q + 1) (x + (fun q => best S.1 (S.2.1 t) (lvN d - 1) (wlkN d + q * 4 ^ (lvN d - 1))) q) _ _ _ (by omega) (by omega) hw2 (by rw [hx]; rfl)
                    refine j_weak ?_ hih
                    exact ⟨rfl, rfl, rfl, rfl, rfl, rfl, rfl, trivial⟩
            exact lp62 10 0 0 _ _ _ (by omega) (by omega) hw rfl
          refine j_iload_n dX7_findLeast_27 rfl ?_
          refine j_if_ne (tgt := 35) dX7_findLeast_28 (by decide) ⟨by omega, by omega⟩ (fun h28 => ?_) (fun h28 => ?_)
          · skip
            refine j_iload_n dX7_findLeast_35 rfl ?_
            refine j_iconst dX7_findLeast_36 ?_
            refine j_icmp_ge (tgt := 49) dX7_findLeast_37 (by decide) ⟨by omega, by omega⟩ ⟨by omega, by omega⟩ (fun h37 => ?_) (fun h37 => ?_)
            · skip
              refine j_iconst dX7_findLeast_49 ?_
              refine j_iload_n dX7_findLeast_50 rfl ?_
              refine j_iconst dX7_findLeast_51 ?_
              refine j_isub dX7_findLeast_52 ?_
              refine j_imul dX7_findLeast_53 ?_
              exact lp54 _ (by unfold wlkN; rw [if_neg (by omega), if_neg (by omega)]; omega)
            · skip
              refine j_bipush dX7_findLeast_40 (by decide) ?_
              refine j_iload_n dX7_findLeast_42 rfl ?_
              refine j_iconst dX7_findLeast_43 ?_
              refine j_isub dX7_findLeast_44 ?_
              refine j_imul dX7_findLeast_45 ?_
              refine j_goto (tgt := 54) dX7_findLeast_46 (by decide) ?_
              exact lp54 _ (by unfold wlkN; rw [if_neg (by omega), if_pos (by omega)]; omega)
          · skip
            refine j_iconst dX7_findLeast_31 ?_
            refine j_goto (tgt := 54) dX7_findLeast_32 (by decide) ?_
            exact lp54 _ (by unfold wlkN; rw [if_pos (by omega)]; rfl)
        refine j_iload_n dX7_findLeast_7 rfl ?_
        refine j_if_ne (tgt := 16) dX7_findLeast_8 (by decide) ⟨by omega, by omega⟩ (fun h8 => ?_) (fun h8 => ?_)
        · skip
          refine j_iload_n dX7_findLeast_16 rfl ?_
          refine j_iconst dX7_findLeast_17 ?_
          refine j_icmp_ge (tgt := 25) dX7_findLeast_18 (by decide) ⟨by omega, by omega⟩ ⟨by omega, by omega⟩ (fun h18 => ?_) (fun h18 => ?_)
          · skip
            refine j_iconst dX7_findLeast_25 ?_
            exact lp26 _ (by unfold lvN; rw [if_neg (by omega), if_neg (by omega)]; rfl)
          · skip
            refine j_iconst dX7_findLeast_21 ?_
            refine j_goto (tgt := 26) dX7_findLeast_22 (by decide) ?_
            exact lp26 _ (by unfold lvN; rw [if_neg (by omega), if_pos (by omega)]; rfl)
        · skip
          refine j_bipush dX7_findLeast_11 (by decide) ?_
          refine j_goto (tgt := 26) dX7_findLeast_13 (by decide) ?_
          exact lp26 _ (by unfold lvN; rw [if_pos (by omega)]; rfl)
  exact lp3 30 20 _ _ _ _ _ none none none none (by omega) (by omega) (by omega) h.rq (fun d a b => by omega)
set_option maxRecDepth 100000 in
set_option maxHeartbeats 4000000 in
theorem c_X7_leastLeaves {l : Launch} {D : gD} {σ : Wd} {m n tn pl : Nat} {hs de : Int} {R P A ch rv W mk ls sp : Nat → Int} (h : RM D σ m n hs tn pl de R P A ch rv W mk ls sp) (hsp : ∀ d, d < 21 → sp d = 0 ∨ sp d = 1) : KX7_leastLeaves l D [.ref m] σ (fun x σ' => x = 1 + 3 * cntP sp 21 ∧ σ' = σ) := by
  refine sp_of (by decide +kernel) (cat1 rfl) (Nat.le_of_ble_eq_true rfl) [some (.ref m), none, none] rfl (fun sz => ?_)
  refine j_iconst dX7_leastLeaves_0 ?_
  refine j_istore_n dX7_leastLeaves_1 (by decide) (by dsimp only [List.set] <;> rfl) ?_
  refine j_iconst dX7_leastLeaves_2 ?_
  refine j_istore_n dX7_leastLeaves_3 (by decide) (by dsimp only [List.set] <;> rfl) ?_
  have lp4 : ∀ (nn i : Nat) (x : Int), 22 - i < nn → i ≤ 21 → x = 1 + 3 * cntP sp i → J l D yX7_leastLeaves cX7_leastLeaves 3 (some .int) rmX7_leastLeaves sz (AA σ sz) (QI D σ sz (fun x σ' => x = 1 + 3 * cntP sp 21 ∧ σ' = σ)) 0 0 4 [some (.ref m), some (vi x), some (vi i)] [] σ := by
    intro nn
    induction nn with
    | zero =>
      intro i x hnn hi hx
      exfalso
      omega
    | succ nn ih4 =>
      intro i x hnn hi hx
      refine j_iload_n dX7_leastLeaves_4 rfl ?_
      refine j_bipush dX7_leastLeaves_5 (by decide) ?_
      refine j_icmp_ge (tgt := 33) dX7_leastLeaves_7 (by decide) ⟨by omega, by omega⟩ ⟨by omega, by omega⟩ (fun h7 => ?_) (fun h7 => ?_)
      · skip
        refine j_iload_n dX7_leastLeaves_33 rfl ?_
        exact j_iret dX7_leastLeaves_34 ⟨_, rfl, by rw [hx, show i = 21 by omega], rfl⟩
      · skip
        refine j_iload_n dX7_leastLeaves_10 rfl ?_
        refine j_aload_n dX7_leastLeaves_11 rfl ?_
        refine gf_X7_35 rfl dX7_leastLeaves_12 h.1 rfl ?_
        refine j_iload_n dX7_leastLeaves_15 rfl ?_
        refine jj_zald dX7_leastLeaves_16 h.2.2.2.2.2.2.2.2.2 (by omega) (by omega) ⟨by omega, by omega⟩ ?_
        have hspi := hsp i (by omega)
        refine j_tops (show _ = sp i from rfl) ?_
        refine j_if_eq (tgt := 24) dX7_leastLeaves_17 (by decide) (rs (by omega) (by omega)) (fun h17 => ?_) (fun h17 => ?_)
        · skip
          refine j_iconst dX7_leastLeaves_24 ?_
          refine j_iadd dX7_leastLeaves_25 ?_
          refine j_istore_n dX7_leastLeaves_26 (by decide) (by dsimp only [List.set] <;> rfl) ?_
          refine j_iinc dX7_leastLeaves_27 rfl (by decide) (by dsimp only [List.set] <;> rfl) ?_
          refine j_goto (tgt := 4) dX7_leastLeaves_30 (by decide) ?_
          have hih := ih4 (i + 1) (x + 0) (by omega) (by omega) (by rw [hx]; show _ = 1 + 3 * (cntP sp i + (if 0 < sp i then 1 else 0)); rw [if_neg (by omega)]; omega)
          refine j_weak ?_ hih
          exact ⟨rfl, rfl, rfl, trivial⟩
        · skip
          refine j_iconst dX7_leastLeaves_20 ?_
          refine j_goto (tgt := 25) dX7_leastLeaves_21 (by decide) ?_
          refine j_iadd dX7_leastLeaves_25 ?_
          refine j_istore_n dX7_leastLeaves_26 (by decide) (by dsimp only [List.set] <;> rfl) ?_
          refine j_iinc dX7_leastLeaves_27 rfl (by decide) (by dsimp only [List.set] <;> rfl) ?_
          refine j_goto (tgt := 4) dX7_leastLeaves_30 (by decide) ?_
          have hih := ih4 (i + 1) (x + 3) (by omega) (by omega) (by rw [hx]; show _ = 1 + 3 * (cntP sp i + (if 0 < sp i then 1 else 0)); rw [if_pos (by omega)]; omega)
          refine j_weak ?_ hih
          exact ⟨rfl, rfl, rfl, trivial⟩
  exact lp4 30 0 1 (by omega) (by omega) rfl
set_option maxRecDepth 100000 in
set_option maxHeartbeats 4000000 in
theorem c_X7_divide {l : Launch} {D : gD} {σ : Wd} {m n tn pl : Nat} {hs de : Int} {R P A ch rv W mk ls sp : Nat → Int} {p : Int} {mx : Mx} (h : RM D σ m n hs tn pl de R P A ch rv W mk ls sp) (hR : R 0 = p) (hp : primeB p = true) (hm : MB p 8 mx) (hV : VW W mx 8 8) : KX7_divide l D [.ref m] σ (fun x σ' => ∃ W', x = (if luOK p mx = true then 1 else 0) ∧ RQ D σ σ' m n hs tn pl de R P A ch rv W' mk ls sp ∧ (luOK p mx = true → VW W' (lu p mx 8) 8 8)) := by
  have hlo := primeB_lo hp
  refine sp_of (by decide +kernel) (cat1 rfl) (Nat.le_of_ble_eq_true rfl) [some (.ref m), none, none, none, none] rfl (fun sz => ?_)
  refine j_iconst dX7_divide_0 ?_
  refine j_istore_n dX7_divide_1 (by decide) (by dsimp only [List.set] <;> rfl) ?_
  have lp2 : ∀ (nn c : Nat) (w : Wd) (W1 : Nat → Int) (v2 v3 v4 : Option Value), 8 - c < nn → c ≤ 7 → RQ D σ w m n hs tn pl de R P A ch rv W1 mk ls sp → VW W1 (lu p mx c) 8 8 → (∀ c2, c2 < c → lu p mx c2 c2 c2 ≠ 0) → J l D yX7_divide cX7_divide 5 (some .boolean) rmX7_divide sz (AA σ sz) (QI D σ sz (fun x σ' => ∃ W', x = (if luOK p mx = true then 1 else 0) ∧ RQ D σ σ' m n hs tn pl de R P A ch rv W' mk ls sp ∧ (luOK p mx = true → VW W' (lu p mx 8) 8 8))) 0 0 2 [some (.ref m), some (vi c), v2, v3, v4] [] w := by
    intro nn
    induction nn with
    | zero =>
      intro c w W1 v2 v3 v4 hnn hc hw hv hnz
      exfalso
      omega
    | succ nn ih2 =>
      intro c w W1 v2 v3 v4 hnn hc hw hv hnz
      have hB := lu_B (p := p) (by omega) hm c
      refine j_iload_n dX7_divide_2 rfl ?_
      refine j_bipush dX7_divide_3 (by decide) ?_
      refine j_icmp_ge (tgt := 146) dX7_divide_5 (by decide) ⟨by omega, by omega⟩ ⟨by omega, by omega⟩ (fun h5 => ?_) (fun h5 => ?_)
      · skip
        refine j_iconst dX7_divide_146 ?_
        exact j_zret dX7_divide_147 (by omega) ⟨_, rfl, W1, by rw [if_pos (luOK_iff.mpr (fun c2 hc2 => hnz c2 (by omega)))], hw, fun _ i hi j hj => by rw [hv i hi j hj, show c = 7 by omega, lu_top hi]⟩
      · skip
        refine j_aload_n dX7_divide_8 rfl ?_
        refine gf_X7_26 rfl dX7_divide_9 hw.2.1 rfl ?_
        refine j_bipush dX7_divide_12 (by decide) ?_
        refine j_iload_n dX7_divide_14 rfl ?_
        refine j_imul dX7_divide_15 ?_
        refine j_iload_n dX7_divide_16 rfl ?_
        refine j_iadd dX7_divide_17 ?_
        rw [show (9 : Int) * ((c : Nat) : Int) + ((c : Nat) : Int) = ((9 * c + c : Nat) : Int) by omega]
        refine jj_iald dX7_divide_18 hw.2.2.2.2.2.2.2.1 (by omega) (by omega) ⟨by omega, by omega⟩ ?_
        refine j_tops (show _ = lu p mx c c c by rw [show ((9 * c + c : Nat) : Int).toNat = 9 * c + c from rfl, hv c (by omega) c (by omega)]) ?_
        have hcc := hB c (by omega) c (by omega)
        refine j_if_ne (tgt := 24) dX7_divide_19 (by decide) (rs (by omega) (by omega)) (fun h19 => ?_) (fun h19 => ?_)
        · skip
          refine j_iload_n dX7_divide_24 rfl ?_
          refine j_iconst dX7_divide_25 ?_
          refine j_iadd dX7_divide_26 ?_
          rw [show (c : Int) + 1 = ((c + 1 : Nat) : Int) from rfl]
          refine j_istore_n dX7_divide_27 (by decide) (by dsimp only [List.set] <;> rfl) ?_
          have lp28 : ∀ (nn2 i : Nat) (u : Wd) (W2 : Nat → Int) (v3b v4b : Option Value), 9 - i < nn2 → c < i → i ≤ 8 → RQ D σ u m n hs tn pl de R P A ch rv W2 mk ls sp → (∀ i2, i2 < 8 → ∀ j, j < 8 → W2 (9 * i2 + j) = if c < i2 ∧ i2 < i then lus p c (lu p mx c) i2 j else lu p mx c i2 j) → J l D yX7_divide cX7_divide 5 (some .boolean) rmX7_divide sz (AA σ sz) (QI D σ sz (fun x σ' => ∃ W', x = (if luOK p mx = true then 1 else 0) ∧ RQ D σ σ' m n hs tn pl de R P A ch rv W' mk ls sp ∧ (luOK p mx = true → VW W' (lu p mx 8) 8 8))) 0 0 28 [some (.ref m), some (vi c), some (vi i), v3b, v4b] [] u := by
            intro nn
            induction nn with
            | zero =>
              intro i u W2 v3b v4b hnn2 hci hi hu hV2
              exfalso
              omega
            | succ nn ih28 =>
              intro i u W2 v3b v4b hnn2 hci hi hu hV2
              refine j_iload_n dX7_divide_28 rfl ?_
              refine j_bipush dX7_divide_29 (by decide) ?_
              refine j_icmp_ge (tgt := 140) dX7_divide_31 (by decide) ⟨by omega, by omega⟩ ⟨by omega, by omega⟩ (fun h31 => ?_) (fun h31 => ?_)
              · skip
                refine j_iinc dX7_divide_140 rfl (by decide) (by dsimp only [List.set] <;> rfl) ?_
                refine j_goto (tgt := 2) dX7_divide_143 (by decide) ?_
                have hih := ih2 (c + 1) _ W2 (some (vi i)) v3b v4b (by omega) (by omega) hu (fun i2 hi2 j hj => by
                  rw [hV2 i2 hi2 j hj]
                  show _ = lus p c (lu p mx c) i2 j
                  by_cases a : c < i2
                  · rw [if_pos (by omega)]
                  · rw [if_neg (by omega)]
                    unfold lus
                    rw [if_neg a]) (fun c2 a => by
                  rcases (show c2 < c ∨ c2 = c by omega) with b | b
                  · exact hnz c2 b
                  · rw [b]; exact h19)
                refine j_weak ?_ hih
                exact ⟨rfl, rfl, rfl, LLe.rf _⟩
              · skip
                refine j_aload_n dX7_divide_34 rfl ?_
                refine j_aload_n dX7_divide_35 rfl ?_
                refine gf_X7_26 rfl dX7_divide_36 hu.2.1 rfl ?_
                refine j_bipush dX7_divide_39 (by decide) ?_
                refine j_iload_n dX7_divide_41 rfl ?_
                refine j_imul dX7_divide_42 ?_
                refine j_iload_n dX7_divide_43 rfl ?_
                refine j_iadd dX7_divide_44 ?_
                rw [show (9 : Int) * ((i : Nat) : Int) + ((c : Nat) : Int) = ((9 * i + c : Nat) : Int) by omega]
                refine jj_iald dX7_divide_45 hu.2.2.2.2.2.2.2.1 (by omega) (by omega) ⟨by omega, by omega⟩ ?_
                refine j_tops (show _ = lu p mx c i c by rw [show ((9 * i + c : Nat) : Int).toNat = 9 * i + c from rfl, hV2 i (by omega) c (by omega), if_neg (by omega)]) ?_
                have hic := hB i (by omega) c (by omega)
                refine j_aload_n dX7_divide_46 rfl ?_
                refine gf_X7_26 rfl dX7_divide_47 hu.2.1 rfl ?_
                refine j_bipush dX7_divide_50 (by decide) ?_
                refine j_iload_n dX7_divide_52 rfl ?_
                refine j_imul dX7_divide_53 ?_
                refine j_iload_n dX7_divide_54 rfl ?_
                refine j_iadd dX7_divide_55 ?_
                rw [show (9 : Int) * ((c : Nat) : Int) + ((c : Nat) : Int) = ((9 * c + c : Nat) : Int) by omega]
                refine jj_iald dX7_divide_56 hu.2.2.2.2.2.2.2.1 (by omega) (by omega) ⟨by omega, by omega⟩ ?_
                refine j_tops (show _ = lu p mx c c c by rw [show ((9 * c + c : Nat) : Int).toNat = 9 * c + c from rfl, hV2 c (by omega) c (by omega), if_neg (by omega)]) ?_
                refine cl_X7_91 (As := [_, _]) rfl dX7_divide_57 (c_X7_quotient hu.2 hR hp hic.1 hic.2 (by omega) hcc.2) hu.2.1 rfl ⟨by decide, by decide⟩ (Nat.le_of_ble_eq_true rfl) ⟨Nat.zero_le _, Nat.zero_le _⟩ (fun z57 σ57 hz57 => ?_)
                obtain ⟨hr57, hs57⟩ := hz57
                have hr57 := Eq.symm hr57
                have hs57 := Eq.symm hs57
                subst hr57
                subst hs57
                have htR := emod_R (v := lu p mx c i c * inv p (lu p mx c c c)) (p := p) (by omega)
                have hlus : ∀ j, lus p c (lu p mx c) i j = if c < i then (if j = c then (lu p mx c i c * inv p (lu p mx c c c)) % p else if c < j then (lu p mx c i j - (lu p mx c i c * inv p (lu p mx c c c)) % p * lu p mx c c j) % p else lu p mx c i j) else lu p mx c i j := fun j => rfl
                generalize hte : (lu p mx c i c * inv p (lu p mx c c c)) % p = tm at *
                refine j_istore_n dX7_divide_60 (by decide) (by dsimp only [List.set] <;> rfl) ?_
                refine j_iload_n dX7_divide_61 rfl ?_
                refine j_iconst dX7_divide_62 ?_
                refine j_iadd dX7_divide_63 ?_
                rw [show (c : Int) + 1 = ((c + 1 : Nat) : Int) from rfl]
                refine j_istore dX7_divide_64 (by decide) (by dsimp only [List.set] <;> rfl) ?_
                have lp66 : ∀ (nn3 k : Nat) (x : Wd) (W3 : Nat → Int), 9 - k < nn3 → c < k → k ≤ 8 → RQ D σ x m n hs tn pl de R P A ch rv W3 mk ls sp → (∀ i2, i2 < 8 → ∀ j, j < 8 → W3 (9 * i2 + j) = if c < i2 ∧ i2 < i then lus p c (lu p mx c) i2 j else if i2 = i ∧ c < j ∧ j < k then (lu p mx c i j - tm * lu p mx c c j) % p else lu p mx c i2 j) → J l D yX7_divide cX7_divide 5 (some .boolean) rmX7_divide sz (AA σ sz) (QI D σ sz (fun x σ' => ∃ W', x = (if luOK p mx = true then 1 else 0) ∧ RQ D σ σ' m n hs tn pl de R P A ch rv W' mk ls sp ∧ (luOK p mx = true → VW W' (lu p mx 8) 8 8))) 0 0 66 [some (.ref m), some (vi c), some (vi i), some (vi tm), some (vi k)] [] x := by
                  intro nn
                  induction nn with
                  | zero =>
                    intro k x W3 hnn3 hck hk hx hV3
                    exfalso
                    omega
                  | succ nn ih66 =>
                    intro k x W3 hnn3 hck hk hx hV3
                    refine j_iload dX7_divide_66 rfl ?_
                    refine j_bipush dX7_divide_68 (by decide) ?_
                    refine j_icmp_ge (tgt := 122) dX7_divide_70 (by decide) ⟨by omega, by omega⟩ ⟨by omega, by omega⟩ (fun h70 => ?_) (fun h70 => ?_)
                    · skip
                      refine j_aload_n dX7_divide_122 rfl ?_
                      refine gf_X7_26 rfl dX7_divide_123 hx.2.1 rfl ?_
                      refine j_bipush dX7_divide_126 (by decide) ?_
                      refine j_iload_n dX7_divide_128 rfl ?_
                      refine j_imul dX7_divide_129 ?_
                      refine j_iload_n dX7_divide_130 rfl ?_
                      refine j_iadd dX7_divide_131 ?_
                      rw [show (9 : Int) * ((i : Nat) : Int) + ((c : Nat) : Int) = ((9 * i + c : Nat) : Int) by omega]
                      refine j_iload_n dX7_divide_132 rfl ?_
                      refine jj_iast dX7_divide_133 hx.2.2.2.2.2.2.2.1 (by omega) (by omega) ⟨by omega, by omega⟩ (fun e133 q133 => ?_)
                      have hx3 := hx.work q133
                      refine j_iinc dX7_divide_134 rfl (by decide) (by dsimp only [List.set] <;> rfl) ?_
                      refine j_goto (tgt := 28) dX7_divide_137 (by decide) ?_
                      have hih := ih28 (i + 1) _ _ (some (vi tm)) (some (vi k)) (by omega) (by omega) (by omega) hx3 (fun i2 hi2 j hj => by
                        show fup W3 (9 * i + c) _ (9 * i2 + j) = _
                        rw [fup9 (by omega) (by omega)]
                        by_cases a : i2 = i ∧ j = c
                        · rw [if_pos a, if_pos (by omega), a.1, a.2, hlus, if_pos hci, if_pos rfl]
                        · rw [if_neg a, hV3 i2 hi2 j hj]
                          by_cases b : c < i2 ∧ i2 < i
                          · rw [if_pos b, if_pos (by omega)]
                          · rw [if_neg b]
                            by_cases d : i2 = i ∧ c < j ∧ j < k
                            · rw [if_pos d, if_pos (by omega), d.1, hlus, if_pos hci, if_neg (by omega), if_pos d.2.1]
                            · rw [if_neg d]
                              by_cases e : c < i2 ∧ i2 < i + 1
                              · rw [if_pos e, show i2 = i by omega, hlus, if_pos hci, if_neg (by omega), if_neg (by omega)]
                              · rw [if_neg e])
                      refine j_weak ?_ hih
                      exact ⟨rfl, rfl, rfl, rfl, rfl, trivial⟩
                    · skip
                      refine j_aload_n dX7_divide_73 rfl ?_
                      refine gf_X7_26 rfl dX7_divide_74 hx.2.1 rfl ?_
                      refine j_bipush dX7_divide_77 (by decide) ?_
                      refine j_iload_n dX7_divide_79 rfl ?_
                      refine j_imul dX7_divide_80 ?_
                      refine j_iload dX7_divide_81 rfl ?_
                      refine j_iadd dX7_divide_83 ?_
                      rw [show (9 : Int) * ((i : Nat) : Int) + ((k : Nat) : Int) = ((9 * i + k : Nat) : Int) by omega]
                      refine j_aload_n dX7_divide_84 rfl ?_
                      refine j_aload_n dX7_divide_85 rfl ?_
                      refine gf_X7_26 rfl dX7_divide_86 hx.2.1 rfl ?_
                      refine j_bipush dX7_divide_89 (by decide) ?_
                      refine j_iload_n dX7_divide_91 rfl ?_
                      refine j_imul dX7_divide_92 ?_
                      refine j_iload dX7_divide_93 rfl ?_
                      refine j_iadd dX7_divide_95 ?_
                      rw [show (9 : Int) * ((i : Nat) : Int) + ((k : Nat) : Int) = ((9 * i + k : Nat) : Int) by omega]
                      refine jj_iald dX7_divide_96 hx.2.2.2.2.2.2.2.1 (by omega) (by omega) ⟨by omega, by omega⟩ ?_
                      refine j_tops (show _ = lu p mx c i k by rw [show ((9 * i + k : Nat) : Int).toNat = 9 * i + k from rfl, hV3 i (by omega) k (by omega), if_neg (by omega), if_neg (by omega)]) ?_
                      refine j_iload_n dX7_divide_97 rfl ?_
                      refine j_aload_n dX7_divide_98 rfl ?_
                      refine gf_X7_26 rfl dX7_divide_99 hx.2.1 rfl ?_
                      refine j_bipush dX7_divide_102 (by decide) ?_
                      refine j_iload_n dX7_divide_104 rfl ?_
                      refine j_imul dX7_divide_105 ?_
                      refine j_iload dX7_divide_106 rfl ?_
                      refine j_iadd dX7_divide_108 ?_
                      rw [show (9 : Int) * ((c : Nat) : Int) + ((k : Nat) : Int) = ((9 * c + k : Nat) : Int) by omega]
                      refine jj_iald dX7_divide_109 hx.2.2.2.2.2.2.2.1 (by omega) (by omega) ⟨by omega, by omega⟩ ?_
                      refine j_tops (show _ = lu p mx c c k by rw [show ((9 * c + k : Nat) : Int).toNat = 9 * c + k from rfl, hV3 c (by omega) k (by omega), if_neg (by omega), if_neg (by omega)]) ?_
                      have b1 := hB i (by omega) k (by omega)
                      have b2 := hB c (by omega) k (by omega)
                      have hmul := mul_R (a := tm) (b := lu p mx c c k) (m := 251) (n := 251) htR.1 (by omega) b2.1 (by omega) (by omega)
                      refine j_imul dX7_divide_110 ?_
                      refine j_isub dX7_divide_111 ?_
                      refine cl_X7_54 (As := [_]) rfl dX7_divide_112 (c_X7_mod hx.2 hR (by omega) (by omega) (rs (by omega) (by omega))) hx.2.1 rfl ⟨by decide, by decide⟩ (Nat.le_of_ble_eq_true rfl) ⟨Nat.zero_le _, Nat.zero_le _⟩ (fun z112 σ112 hz112 => ?_)
                      obtain ⟨hr112, hs112⟩ := hz112
                      have hr112 := Eq.symm hr112
                      have hs112 := Eq.symm hs112
                      subst hr112
                      subst hs112
                      refine jj_iast dX7_divide_115 hx.2.2.2.2.2.2.2.1 (by omega) (by omega) ⟨by omega, by omega⟩ (fun e115 q115 => ?_)
                      have hx2 := hx.work q115
                      refine j_iinc dX7_divide_116 rfl (by decide) (by dsimp only [List.set] <;> rfl) ?_
                      refine j_goto (tgt := 66) dX7_divide_119 (by decide) ?_
                      have hih := ih66 (k + 1) _ _ (by omega) (by omega) (by omega) hx2 (fun i2 hi2 j hj => by
                        show fup W3 (9 * i + k) _ (9 * i2 + j) = _
                        rw [fup9 (by omega) (by omega)]
                        by_cases a : i2 = i ∧ j = k
                        · rw [if_pos a, if_neg (by omega), if_pos (by omega), a.2]
                        · rw [if_neg a, hV3 i2 hi2 j hj]
                          by_cases b : c < i2 ∧ i2 < i
                          · rw [if_pos b, if_pos b]
                          · rw [if_neg b, if_neg b]
                            by_cases d : i2 = i ∧ c < j ∧ j < k
                            · rw [if_pos d, if_pos (by omega)]
                            · rw [if_neg d, if_neg (by omega)])
                      refine j_weak ?_ hih
                      exact ⟨rfl, rfl, rfl, rfl, rfl, trivial⟩
                exact lp66 10 (c + 1) _ W2 (by omega) (by omega) (by omega) hu (fun i2 hi2 j hj => by
                  rw [hV2 i2 hi2 j hj]
                  by_cases a : c < i2 ∧ i2 < i
                  · rw [if_pos a, if_pos a]
                  · rw [if_neg a, if_neg a, if_neg (by omega)])
          exact lp28 10 (c + 1) _ W1 v3 v4 (by omega) (by omega) (by omega) hw (fun i2 hi2 j hj => by rw [if_neg (by omega)]; exact hv i2 hi2 j hj)
        · skip
          refine j_iconst dX7_divide_22 ?_
          exact j_zret dX7_divide_23 (by omega) ⟨_, rfl, W1, by rw [if_neg (fun q => luOK_iff.mp q c (by omega) h19)], hw, fun q => absurd h19 (luOK_iff.mp q c (by omega))⟩
  exact lp2 10 0 _ W none none none (by omega) (by omega) h.rq hV (fun c2 a => absurd a (by omega))

/-! ===== the reference: states, what changes them ===== -/
theorem RO.ext {R R' : Nat → Int} {S : MS} (h : RO R S) (e : ∀ k, k < 341 → R k = R' k) : RO R' S :=
  ⟨by rw [← e 0 (by omega)]; exact h.1, fun t ht k hk => by rw [← e _ (by omega)]; exact h.2.1 t ht k hk, fun t ht => (h.2.2 t ht).ext (fun d hd => e _ (by omega))⟩
theorem RO.cells {R R' : Nat → Int} {S : MS} {t : Nat} {f : Nat → Int} (h : RO R S) (ht : t < 4) (h0 : R' 0 = R 0) (hf : ∀ k, k < 64 → R' (1 + 64 * t + k) = f k) (ho : ∀ q, 0 < q → q < 341 → ¬ (1 + 64 * t ≤ q ∧ q < 1 + 64 * t + 64) → R' q = R q) : RO R' (S.1, fup S.2.1 t f, S.2.2) := by
  refine ⟨h0.trans h.1, fun u hu k hk => ?_, fun u hu => (h.2.2 u hu).ext (fun d hd => ?_)⟩
  · show _ = fup S.2.1 t f u k
    by_cases e : u = t
    · rw [e, fup_s]
      exact hf k hk
    · rw [fup_n e, ho _ (by omega) (by omega) (by omega)]
      exact h.2.1 u hu k hk
  · exact (ho _ (by omega) (by omega) (by omega)).symm
theorem RO.sizes {R R' : Nat → Int} {S : MS} {t : Nat} {g : Nat → Int} (h : RO R S) (ht : t < 4) (hg : TR (fun d => R' (257 + 21 * t + d)) g) (ho : ∀ q, q < 341 → ¬ (257 + 21 * t ≤ q ∧ q < 257 + 21 * t + 21) → R' q = R q) : RO R' (S.1, S.2.1, fup S.2.2 t g) := by
  refine ⟨(ho 0 (by omega) (by omega)).trans h.1, fun u hu k hk => (ho _ (by omega) (by omega)).trans (h.2.1 u hu k hk), fun u hu => ?_⟩
  show TR _ (fup S.2.2 t g u)
  by_cases e : u = t
  · rw [e, fup_s]
    exact hg
  · rw [fup_n e]
    exact (h.2.2 u hu).ext (fun d hd => (ho _ (by omega) (by omega)).symm)
def RS (D : gD) (w : Wd) (m : Nat) (S SN : MS) (hs : Int) (n : Nat) (H : Nat → MS) (tn : Nat) (ch : Nat → Int) : Prop :=
  ∃ (pl : Nat) (de : Int) (R P A rv W mk ls sp : Nat → Int), RM D w m n hs tn pl de R P A ch rv W mk ls sp ∧ RO R S ∧ (∀ j, j < n → RO (fun k => P (341 * j + k)) (H j)) ∧ (hs = 1 → RO A SN) ∧ n ≤ 4 ∧ tn ≤ 60 ∧ ∀ j, j < tn → 0 ≤ ch j ∧ ch j < 65536
theorem RS.of {D : gD} {σ w : Wd} {m n : Nat} {hs : Int} {tn pl : Nat} {de : Int} {R P A ch rv W mk ls sp : Nat → Int} {S SN : MS} {H : Nat → MS} (hq : RQ D σ w m n hs tn pl de R P A ch rv W mk ls sp) (hO : RO R S) (hP : ∀ j, j < n → RO (fun k => P (341 * j + k)) (H j)) (hA : hs = 1 → RO A SN) (hn : n ≤ 4) (ht : tn ≤ 60) (hc : ∀ j, j < tn → 0 ≤ ch j ∧ ch j < 65536) : OffR m (m + 10) σ w ∧ RS D w m S SN hs n H tn ch :=
  ⟨hq.1, pl, de, R, P, A, rv, W, mk, ls, sp, hq.2, hO, hP, hA, hn, ht, hc⟩
theorem rec_RO {n : Nat} {P R : Nat → Int} {S : MS} {H : Nat → MS} (hn : n ≤ 4) (hO : RO R S) (hP : ∀ j, j < n → RO (fun k => P (341 * j + k)) (H j)) : ∀ j, j < recN n → RO (fun k => recP n P R (341 * j + k)) (recH n H S j) := by
  intro j hj
  unfold recN at hj
  unfold recH
  by_cases a : n < 4
  · rw [if_pos a] at hj ⊢
    by_cases e : j = n
    · rw [e, fup_s]
      exact hO.ext (fun k hk => by
        unfold recP
        rw [if_neg (by omega), if_pos (by omega), show 341 * n + k - 341 * n = k by omega])
    · rw [fup_n e]
      exact (hP j (by omega)).ext (fun k hk => by
        unfold recP
        rw [if_neg (by omega), if_neg (by omega)])
  · rw [if_neg a] at hj ⊢
    by_cases e : j = 3
    · rw [if_pos e]
      exact hO.ext (fun k hk => by
        unfold recP
        rw [if_pos (by omega), if_neg (by omega), show 341 * j + k - 1023 = k by omega])
    · rw [if_neg e]
      exact (hP (j + 1) (by omega)).ext (fun k hk => by
        unfold recP
        rw [if_pos (by omega), if_pos (by omega), show 341 + (341 * j + k) = 341 * (j + 1) + k by omega])
theorem recN_le (n : Nat) (h : n ≤ 4) : recN n ≤ 4 := by
  unfold recN
  split <;> omega
theorem RSx_none {D : gD} {σ w : Wd} {m : Nat} {S SN : MS} {hs : Int} {n : Nat} {H : Nat → MS} {tn : Nat} {ch : Nat → Int} {x : Option MS} (h : OffR m (m + 10) σ w ∧ RS D w m S SN hs n H tn ch) (e : x = none) : OffR m (m + 10) σ w ∧ RS D w m (nxS x S) SN hs (nxN x n) (nxH x n H S) tn ch := by
  subst e
  exact h
theorem RSx_some {D : gD} {σ w : Wd} {m : Nat} {S S' SN : MS} {hs : Int} {n : Nat} {H : Nat → MS} {tn : Nat} {ch : Nat → Int} {x : Option MS} (h : OffR m (m + 10) σ w ∧ RS D w m S' SN hs (recN n) (recH n H S) tn ch) (e : x = some S') : OffR m (m + 10) σ w ∧ RS D w m (nxS x S) SN hs (nxN x n) (nxH x n H S) tn ch := by
  subst e
  exact h

set_option maxRecDepth 100000 in
set_option maxHeartbeats 4000000 in
theorem c_X7_record {l : Launch} {D : gD} {σ : Wd} {m n tn pl : Nat} {hs de : Int} {R P A ch rv W mk ls sp : Nat → Int} (h : RM D σ m n hs tn pl de R P A ch rv W mk ls sp) (hn4 : n ≤ 4) : KX7_record l D [.ref m] σ (fun σ' => RQ D σ σ' m (recN n) hs tn pl de R (recP n P R) A ch rv W mk ls sp) := by
  refine sp_of (by decide +kernel) (cat1 rfl) (Nat.le_of_ble_eq_true rfl) [some (.ref m), none] rfl (fun sz => ?_)
  refine j_aload_n dX7_record_0 rfl ?_
  refine gf_X7_39 rfl dX7_record_1 h.1 rfl ?_
  have lp49 : ∀ (n2 : Nat) (P2 : Nat → Int) (w : Wd) (v1 : Option Value), n2 ≤ 3 → RQ D σ w m n2 hs tn pl de R P2 A ch rv W mk ls sp → recN n = n2 + 1 → (∀ k, k < 1364 → recP n P R k = if 341 * n2 ≤ k ∧ k < 341 * n2 + 341 then R (k - 341 * n2) else P2 k) → J l D yX7_record cX7_record 2 none rmX7_record sz (AA σ sz) (QV D σ sz (fun σ' => RQ D σ σ' m (recN n) hs tn pl de R (recP n P R) A ch rv W mk ls sp)) 0 0 49 [some (.ref m), v1] [] w := by
    intro n2 P2 w v1 hn3 hw hrn hrp
    refine j_iconst dX7_record_49 ?_
    refine j_istore_n dX7_record_50 (by decide) (by dsimp only [List.set] <;> rfl) ?_
    have lp51 : ∀ (nn i : Nat) (v : Wd), 342 - i < nn → i ≤ 341 → RQ D σ v m n2 hs tn pl de R (fun k => if 341 * n2 ≤ k ∧ k < 341 * n2 + i then R (k - 341 * n2) else P2 k) A ch rv W mk ls sp → J l D yX7_record cX7_record 2 none rmX7_record sz (AA σ sz) (QV D σ sz (fun σ' => RQ D σ σ' m (recN n) hs tn pl de R (recP n P R) A ch rv W mk ls sp)) 0 0 51 [some (.ref m), some (vi i)] [] v := by
      intro nn
      induction nn with
      | zero =>
        intro i v hnn hi hv
        exfalso
        omega
      | succ nn ih51 =>
        intro i v hnn hi hv
        refine j_iload_n dX7_record_51 rfl ?_
        refine j_sipush dX7_record_52 (by decide) ?_
        refine j_icmp_ge (tgt := 85) dX7_record_55 (by decide) ⟨by omega, by omega⟩ ⟨by omega, by omega⟩ (fun h55 => ?_) (fun h55 => ?_)
        · skip
          refine j_aload_n dX7_record_85 rfl ?_
          refine j_dup dX7_record_86 rfl ?_
          refine gf_X7_39 rfl dX7_record_87 hv.2.1 rfl ?_
          refine j_iconst dX7_record_90 ?_
          refine j_iadd dX7_record_91 ?_
          rw [show ((n2 : Nat) : Int) + 1 = ((n2 + 1 : Nat) : Int) from rfl]
          refine pf_X7_39 rfl dX7_record_92 hv.2.1 rfl rfl (Nat.le_of_ble_eq_true rfl) ?_
          dsimp only [List.set]
          have hv3 := hv.own (n2 := (n2 + 1)) (hs2 := hs) (tn2 := tn) (pl2 := pl) (de2 := de)
          exact j_vret dX7_record_95 ⟨rfl, (by rw [hrn]; exact hv3.pastE (fun k hk => by rw [hrp k hk, show i = 341 by omega]))⟩
        · skip
          refine j_aload_n dX7_record_58 rfl ?_
          refine gf_X7_13 rfl dX7_record_59 hv.2.1 rfl ?_
          refine j_sipush dX7_record_62 (by decide) ?_
          refine j_aload_n dX7_record_65 rfl ?_
          refine gf_X7_39 rfl dX7_record_66 hv.2.1 rfl ?_
          refine j_imul dX7_record_69 ?_
          refine j_iload_n dX7_record_70 rfl ?_
          refine j_iadd dX7_record_71 ?_
          rw [show (341 : Int) * ((n2 : Nat) : Int) + ((i : Nat) : Int) = ((341 * n2 + i : Nat) : Int) by omega]
          refine j_aload_n dX7_record_72 rfl ?_
          refine gf_X7_7 rfl dX7_record_73 hv.2.1 rfl ?_
          refine j_iload_n dX7_record_76 rfl ?_
          refine jj_iald dX7_record_77 hv.2.2.1 (by omega) (by omega) ⟨by omega, by omega⟩ ?_
          refine j_tops (show _ = R i from rfl) ?_
          refine jj_iast dX7_record_78 hv.2.2.2.1 (by omega) (by omega) ⟨by omega, by omega⟩ (fun e78 q78 => ?_)
          have hv2 := hv.past q78
          refine j_iinc dX7_record_79 rfl (by decide) (by dsimp only [List.set] <;> rfl) ?_
          refine j_goto (tgt := 51) dX7_record_82 (by decide) ?_
          have hih := ih51 (i + 1) _ (by omega) (by omega) (hv2.pastE (fun k hk => by
            show fup _ (341 * n2 + i) _ k = _
            by_cases e : k = 341 * n2 + i
            · rw [e, fup_s, if_pos (by omega)]
              congr 1
              omega
            · rw [fup_n e]
              by_cases b : 341 * n2 ≤ k ∧ k < 341 * n2 + i
              · rw [if_pos b, if_pos (by omega)]
              · rw [if_neg b, if_neg (by omega)]))
          refine j_weak ?_ hih
          exact ⟨rfl, rfl, trivial⟩
    exact lp51 400 0 _ (by omega) (by omega) (hw.pastE (fun k hk => by rw [if_neg (by omega)]))
  refine j_iconst dX7_record_4 ?_
  refine j_icmp_ne (tgt := 49) dX7_record_5 (by decide) ⟨by omega, by omega⟩ ⟨by omega, by omega⟩ (fun h5 => ?_) (fun h5 => ?_)
  · skip
    exact lp49 n P _ none (by omega) h.rq (if_pos (by omega)) (fun k hk => by unfold recP; rw [if_neg (by omega)])
  · skip
    have hn : n = 4 := by omega
    refine j_iconst dX7_record_8 ?_
    refine j_istore_n dX7_record_9 (by decide) (by dsimp only [List.set] <;> rfl) ?_
    have lp10 : ∀ (nn i : Nat) (w : Wd), 1024 - i < nn → i ≤ 1023 → RQ D σ w m n hs tn pl de R (fun k => if k < i then P (341 + k) else P k) A ch rv W mk ls sp → J l D yX7_record cX7_record 2 none rmX7_record sz (AA σ sz) (QV D σ sz (fun σ' => RQ D σ σ' m (recN n) hs tn pl de R (recP n P R) A ch rv W mk ls sp)) 0 0 10 [some (.ref m), some (vi i)] [] w := by
      intro nn
      induction nn with
      | zero =>
        intro i w hnn hi hw
        exfalso
        omega
      | succ nn ih10 =>
        intro i w hnn hi hw
        refine j_iload_n dX7_record_10 rfl ?_
        refine j_sipush dX7_record_11 (by decide) ?_
        refine j_icmp_ge (tgt := 39) dX7_record_14 (by decide) ⟨by omega, by omega⟩ ⟨by omega, by omega⟩ (fun h14 => ?_) (fun h14 => ?_)
        · skip
          refine j_aload_n dX7_record_39 rfl ?_
          refine j_dup dX7_record_40 rfl ?_
          refine gf_X7_39 rfl dX7_record_41 hw.2.1 rfl ?_
          refine j_iconst dX7_record_44 ?_
          refine j_isub dX7_record_45 ?_
          rw [show ((n : Nat) : Int) - 1 = ((3 : Nat) : Int) by omega]
          refine pf_X7_39 rfl dX7_record_46 hw.2.1 rfl rfl (Nat.le_of_ble_eq_true rfl) ?_
          dsimp only [List.set]
          have hw3 := hw.own (n2 := 3) (hs2 := hs) (tn2 := tn) (pl2 := pl) (de2 := de)
          exact lp49 3 _ _ (some (vi i)) (by omega) hw3 (by rw [hn]; rfl) (fun k hk => by
            unfold recP
            rw [if_pos hn]
            by_cases a : k < 1023
            · rw [if_pos a, if_neg (by omega), if_pos (by omega)]
            · rw [if_neg a, if_pos (by omega)])
        · skip
          refine j_aload_n dX7_record_17 rfl ?_
          refine gf_X7_13 rfl dX7_record_18 hw.2.1 rfl ?_
          refine j_iload_n dX7_record_21 rfl ?_
          refine j_aload_n dX7_record_22 rfl ?_
          refine gf_X7_13 rfl dX7_record_23 hw.2.1 rfl ?_
          refine j_sipush dX7_record_26 (by decide) ?_
          refine j_iload_n dX7_record_29 rfl ?_
          refine j_iadd dX7_record_30 ?_
          rw [show (341 : Int) + (i : Int) = ((341 + i : Nat) : Int) from rfl]
          refine jj_iald dX7_record_31 hw.2.2.2.1 (by omega) (by omega) ⟨by omega, by omega⟩ ?_
          refine j_tops (show _ = P (341 + i) from if_neg (by omega)) ?_
          refine jj_iast dX7_record_32 hw.2.2.2.1 (by omega) (by omega) ⟨by omega, by omega⟩ (fun e32 q32 => ?_)
          have hw2 := hw.past q32
          refine j_iinc dX7_record_33 rfl (by decide) (by dsimp only [List.set] <;> rfl) ?_
          refine j_goto (tgt := 10) dX7_record_36 (by decide) ?_
          have hih := ih10 (i + 1) _ (by omega) (by omega) (hw2.pastE (fun k hk => by
            show fup _ i _ k = _
            by_cases e : k = i
            · rw [e, fup_s, if_pos (by omega)]
            · rw [fup_n e]
              by_cases b : k < i
              · rw [if_pos b, if_pos (by omega)]
              · rw [if_neg b, if_neg (by omega)]))
          refine j_weak ?_ hih
          exact ⟨rfl, rfl, trivial⟩
    exact lp10 1100 0 _ (by omega) (by omega) (h.rq.pastE (fun k hk => by rw [if_neg (by omega)]))
set_option maxRecDepth 100000 in
set_option maxHeartbeats 4000000 in
theorem c_X7_undo {l : Launch} {D : gD} {σ : Wd} {m n tn : Nat} {hs : Int} {S SN : MS} {H : Nat → MS} {ch : Nat → Int} (h0 : RS D σ m S SN hs n H tn ch) : KX7_undo l D [.ref m] σ (fun x σ' => x = (if n = 0 then -5 else ((n - 1 : Nat) : Int)) ∧ OffR m (m + 10) σ σ' ∧ RS D σ' m (act (n = 0) S (H (n - 1))) SN hs (n - 1) H tn ch) := by
  obtain ⟨pl, de, R, P, A, rv, W, mk, ls, sp, h, hO, hP, hA, hn4, htn, hch⟩ := h0
  refine sp_of (by decide +kernel) (cat1 rfl) (Nat.le_of_ble_eq_true rfl) [some (.ref m), none] rfl (fun sz => ?_)
  refine j_aload_n dX7_undo_0 rfl ?_
  refine gf_X7_39 rfl dX7_undo_1 h.1 rfl ?_
  refine j_if_ne (tgt := 10) dX7_undo_4 (by decide) ⟨by omega, by omega⟩ (fun h4 => ?_) (fun h4 => ?_)
  · skip
    refine j_aload_n dX7_undo_10 rfl ?_
    refine j_dup dX7_undo_11 rfl ?_
    refine gf_X7_39 rfl dX7_undo_12 h.1 rfl ?_
    refine j_iconst dX7_undo_15 ?_
    refine j_isub dX7_undo_16 ?_
    rw [show (n : Int) - 1 = ((n - 1 : Nat) : Int) by omega]
    refine pf_X7_39 rfl dX7_undo_17 h.1 rfl rfl (Nat.le_of_ble_eq_true rfl) ?_
    dsimp only [List.set]
    have hw0 := h.rq.own (n2 := (n - 1)) (hs2 := hs) (tn2 := tn) (pl2 := pl) (de2 := de)
    refine j_iconst dX7_undo_20 ?_
    refine j_istore_n dX7_undo_21 (by decide) (by dsimp only [List.set] <;> rfl) ?_
    have lp22 : ∀ (nn i : Nat) (w : Wd), 342 - i < nn → i ≤ 341 → RQ D σ w m (n - 1) hs tn pl de (fun k => if k < i then P (341 * (n - 1) + k) else R k) P A ch rv W mk ls sp → J l D yX7_undo cX7_undo 2 (some .int) rmX7_undo sz (AA σ sz) (QI D σ sz (fun x σ' => x = (if n = 0 then -5 else ((n - 1 : Nat) : Int)) ∧ OffR m (m + 10) σ σ' ∧ RS D σ' m (act (n = 0) S (H (n - 1))) SN hs (n - 1) H tn ch)) 0 0 22 [some (.ref m), some (vi i)] [] w := by
      intro nn
      induction nn with
      | zero =>
        intro i w hnn hi hw
        exfalso
        omega
      | succ nn ih22 =>
        intro i w hnn hi hw
        refine j_iload_n dX7_undo_22 rfl ?_
        refine j_sipush dX7_undo_23 (by decide) ?_
        refine j_icmp_ge (tgt := 56) dX7_undo_26 (by decide) ⟨by omega, by omega⟩ ⟨by omega, by omega⟩ (fun h26 => ?_) (fun h26 => ?_)
        · skip
          refine j_aload_n dX7_undo_56 rfl ?_
          refine gf_X7_39 rfl dX7_undo_57 hw.2.1 rfl ?_
          exact j_iret dX7_undo_60 ⟨_, rfl, (by rw [if_neg (show ¬ n = 0 by omega)]), by rw [act_n (show ¬ n = 0 by omega)]; exact RS.of hw ((hP (n - 1) (by omega)).ext (fun k hk => by rw [if_pos (by omega)])) (fun j hj => hP j (by omega)) hA (by omega) htn hch⟩
        · skip
          refine j_aload_n dX7_undo_29 rfl ?_
          refine gf_X7_7 rfl dX7_undo_30 hw.2.1 rfl ?_
          refine j_iload_n dX7_undo_33 rfl ?_
          refine j_aload_n dX7_undo_34 rfl ?_
          refine gf_X7_13 rfl dX7_undo_35 hw.2.1 rfl ?_
          refine j_sipush dX7_undo_38 (by decide) ?_
          refine j_aload_n dX7_undo_41 rfl ?_
          refine gf_X7_39 rfl dX7_undo_42 hw.2.1 rfl ?_
          refine j_imul dX7_undo_45 ?_
          refine j_iload_n dX7_undo_46 rfl ?_
          refine j_iadd dX7_undo_47 ?_
          rw [show (341 : Int) * (((n - 1) : Nat) : Int) + ((i : Nat) : Int) = ((341 * (n - 1) + i : Nat) : Int) by omega]
          refine jj_iald dX7_undo_48 hw.2.2.2.1 (by omega) (by omega) ⟨by omega, by omega⟩ ?_
          refine j_tops (show _ = P (341 * (n - 1) + i) from rfl) ?_
          refine jj_iast dX7_undo_49 hw.2.2.1 (by omega) (by omega) ⟨by omega, by omega⟩ (fun e49 q49 => ?_)
          have hw2 := hw.row q49
          refine j_iinc dX7_undo_50 rfl (by decide) (by dsimp only [List.set] <;> rfl) ?_
          refine j_goto (tgt := 22) dX7_undo_53 (by decide) ?_
          have hih := ih22 (i + 1) _ (by omega) (by omega) (hw2.rowE (fun k hk => by
            show fup _ i _ k = _
            by_cases e : k = i
            · rw [e, fup_s, if_pos (by omega)]
            · rw [fup_n e]
              by_cases b : k < i
              · rw [if_pos b, if_pos (by omega)]
              · rw [if_neg b, if_neg (by omega)]))
          refine j_weak ?_ hih
          exact ⟨rfl, rfl, trivial⟩
    exact lp22 400 0 _ (by omega) (by omega) (hw0.rowE (fun k hk => by rw [if_neg (by omega)]))
  · skip
    refine j_bipush dX7_undo_7 (by decide) ?_
    exact j_iret dX7_undo_9 ⟨_, rfl, (by rw [if_pos (show n = 0 by omega)]), by rw [act_y (show n = 0 by omega), show n - 1 = n by omega]; exact RS.of h.rq hO hP hA hn4 htn hch⟩
set_option maxRecDepth 100000 in
set_option maxHeartbeats 4000000 in
theorem c_X7_keep {l : Launch} {D : gD} {σ : Wd} {m n tn : Nat} {hs : Int} {S SN : MS} {H : Nat → MS} {ch : Nat → Int} (h0 : RS D σ m S SN hs n H tn ch) : KX7_keep l D [.ref m] σ (fun x σ' => x = S.1 ∧ OffR m (m + 10) σ σ' ∧ RS D σ' m S S 1 n H tn ch) := by
  obtain ⟨pl, de, R, P, A, rv, W, mk, ls, sp, h, hO, hP, hA, hn4, htn, hch⟩ := h0
  refine sp_of (by decide +kernel) (cat1 rfl) (Nat.le_of_ble_eq_true rfl) [some (.ref m), none] rfl (fun sz => ?_)
  refine j_iconst dX7_keep_0 ?_
  refine j_istore_n dX7_keep_1 (by decide) (by dsimp only [List.set] <;> rfl) ?_
  have lp2 : ∀ (nn i : Nat) (w : Wd), 342 - i < nn → i ≤ 341 → RQ D σ w m n hs tn pl de R P (fun k => if k < i then R k else A k) ch rv W mk ls sp → J l D yX7_keep cX7_keep 2 (some .int) rmX7_keep sz (AA σ sz) (QI D σ sz (fun x σ' => x = S.1 ∧ OffR m (m + 10) σ σ' ∧ RS D σ' m S S 1 n H tn ch)) 0 0 2 [some (.ref m), some (vi i)] [] w := by
    intro nn
    induction nn with
    | zero =>
      intro i w hnn hi hw
      exfalso
      omega
    | succ nn ih2 =>
      intro i w hnn hi hw
      refine j_iload_n dX7_keep_2 rfl ?_
      refine j_sipush dX7_keep_3 (by decide) ?_
      refine j_icmp_ge (tgt := 27) dX7_keep_6 (by decide) ⟨by omega, by omega⟩ ⟨by omega, by omega⟩ (fun h6 => ?_) (fun h6 => ?_)
      · skip
        refine j_aload_n dX7_keep_27 rfl ?_
        refine j_iconst dX7_keep_28 ?_
        refine pf_X7_43 rfl dX7_keep_29 hw.2.1 rfl rfl (Nat.le_of_ble_eq_true rfl) ?_
        dsimp only [List.set]
        have hw3 := hw.own (n2 := n) (hs2 := 1) (tn2 := tn) (pl2 := pl) (de2 := de)
        refine j_aload_n dX7_keep_32 rfl ?_
        refine gf_X7_7 rfl dX7_keep_33 hw3.2.1 rfl ?_
        refine j_iconst dX7_keep_36 ?_
        refine jj_iald dX7_keep_37 hw3.2.2.1 (by omega) (by omega) ⟨by omega, by omega⟩ ?_
        exact j_iret dX7_keep_38 ⟨_, rfl, hO.1, RS.of hw3 hO hP (fun _ => hO.ext (fun k hk => by rw [if_pos (by omega)])) hn4 htn hch⟩
      · skip
        refine j_aload_n dX7_keep_9 rfl ?_
        refine gf_X7_16 rfl dX7_keep_10 hw.2.1 rfl ?_
        refine j_iload_n dX7_keep_13 rfl ?_
        refine j_aload_n dX7_keep_14 rfl ?_
        refine gf_X7_7 rfl dX7_keep_15 hw.2.1 rfl ?_
        refine j_iload_n dX7_keep_18 rfl ?_
        refine jj_iald dX7_keep_19 hw.2.2.1 (by omega) (by omega) ⟨by omega, by omega⟩ ?_
        refine j_tops (show _ = R i from rfl) ?_
        refine jj_iast dX7_keep_20 hw.2.2.2.2.1 (by omega) (by omega) ⟨by omega, by omega⟩ (fun e20 q20 => ?_)
        have hw2 := hw.aside q20
        refine j_iinc dX7_keep_21 rfl (by decide) (by dsimp only [List.set] <;> rfl) ?_
        refine j_goto (tgt := 2) dX7_keep_24 (by decide) ?_
        have hih := ih2 (i + 1) _ (by omega) (by omega) (hw2.asideE (fun k hk => by
          show fup _ i _ k = _
          by_cases e : k = i
          · rw [e, fup_s, if_pos (by omega)]
          · rw [fup_n e]
            by_cases b : k < i
            · rw [if_pos b, if_pos (by omega)]
            · rw [if_neg b, if_neg (by omega)]))
        refine j_weak ?_ hih
        exact ⟨rfl, rfl, trivial⟩
  exact lp2 400 0 _ (by omega) (by omega) (h.rq.asideE (fun k hk => by rw [if_neg (by omega)]))
set_option maxRecDepth 100000 in
set_option maxHeartbeats 4000000 in
theorem c_X7_restore {l : Launch} {D : gD} {σ : Wd} {m n tn : Nat} {hs : Int} {S SN : MS} {H : Nat → MS} {ch : Nat → Int} (h0 : RS D σ m S SN hs n H tn ch) (hhs : hs = 0 ∨ hs = 1) : KX7_restore l D [.ref m] σ (fun x σ' => x = (if hs = 0 then -5 else SN.1) ∧ OffR m (m + 10) σ σ' ∧ RS D σ' m (act (hs = 0) S SN) SN hs (act (hs = 0) n (recN n)) (act (hs = 0) H (recH n H S)) tn ch) := by
  obtain ⟨pl, de, R, P, A, rv, W, mk, ls, sp, h, hO, hP, hA, hn4, htn, hch⟩ := h0
  refine sp_of (by decide +kernel) (cat1 rfl) (Nat.le_of_ble_eq_true rfl) [some (.ref m), none] rfl (fun sz => ?_)
  refine j_aload_n dX7_restore_0 rfl ?_
  refine gf_X7_43 rfl dX7_restore_1 h.1 rfl ?_
  refine j_if_ne (tgt := 10) dX7_restore_4 (by decide) (rs (by omega) (by omega)) (fun h4 => ?_) (fun h4 => ?_)
  · skip
    refine j_aload_n dX7_restore_10 rfl ?_
    refine cl_X7_47 (As := []) rfl dX7_restore_11 (c_X7_record h hn4) h.1 rfl ⟨by decide, by decide⟩ (Nat.le_of_ble_eq_true rfl) ⟨Nat.zero_le _, Nat.zero_le _⟩ (fun σ11 hz11 => ?_)
    refine j_iconst dX7_restore_14 ?_
    refine j_istore_n dX7_restore_15 (by decide) (by dsimp only [List.set] <;> rfl) ?_
    have lp16 : ∀ (nn i : Nat) (w : Wd), 342 - i < nn → i ≤ 341 → RQ D σ w m (recN n) hs tn pl de (fun k => if k < i then A k else R k) (recP n P R) A ch rv W mk ls sp → J l D yX7_restore cX7_restore 2 (some .int) rmX7_restore sz (AA σ sz) (QI D σ sz (fun x σ' => x = (if hs = 0 then -5 else SN.1) ∧ OffR m (m + 10) σ σ' ∧ RS D σ' m (act (hs = 0) S SN) SN hs (act (hs = 0) n (recN n)) (act (hs = 0) H (recH n H S)) tn ch)) 0 0 16 [some (.ref m), some (vi i)] [] w := by
      intro nn
      induction nn with
      | zero =>
        intro i w hnn hi hw
        exfalso
        omega
      | succ nn ih16 =>
        intro i w hnn hi hw
        refine j_iload_n dX7_restore_16 rfl ?_
        refine j_sipush dX7_restore_17 (by decide) ?_
        refine j_icmp_ge (tgt := 41) dX7_restore_20 (by decide) ⟨by omega, by omega⟩ ⟨by omega, by omega⟩ (fun h20 => ?_) (fun h20 => ?_)
        · skip
          refine j_aload_n dX7_restore_41 rfl ?_
          refine gf_X7_7 rfl dX7_restore_42 hw.2.1 rfl ?_
          refine j_iconst dX7_restore_45 ?_
          have hAO := hA (by omega)
          refine jj_iald dX7_restore_46 hw.2.2.1 (by omega) (by omega) ⟨by omega, by omega⟩ ?_
          refine j_tops (show _ = SN.1 from (if_pos (by omega)).trans hAO.1) ?_
          exact j_iret dX7_restore_47 ⟨_, rfl, (by rw [if_neg h4]), by rw [act_n h4, act_n h4, act_n h4]; exact RS.of hw (hAO.ext (fun k hk => by rw [if_pos (by omega)])) (rec_RO hn4 hO hP) hA (recN_le n hn4) htn hch⟩
        · skip
          refine j_aload_n dX7_restore_23 rfl ?_
          refine gf_X7_7 rfl dX7_restore_24 hw.2.1 rfl ?_
          refine j_iload_n dX7_restore_27 rfl ?_
          refine j_aload_n dX7_restore_28 rfl ?_
          refine gf_X7_16 rfl dX7_restore_29 hw.2.1 rfl ?_
          refine j_iload_n dX7_restore_32 rfl ?_
          refine jj_iald dX7_restore_33 hw.2.2.2.2.1 (by omega) (by omega) ⟨by omega, by omega⟩ ?_
          refine j_tops (show _ = A i from rfl) ?_
          refine jj_iast dX7_restore_34 hw.2.2.1 (by omega) (by omega) ⟨by omega, by omega⟩ (fun e34 q34 => ?_)
          have hw2 := hw.row q34
          refine j_iinc dX7_restore_35 rfl (by decide) (by dsimp only [List.set] <;> rfl) ?_
          refine j_goto (tgt := 16) dX7_restore_38 (by decide) ?_
          have hih := ih16 (i + 1) _ (by omega) (by omega) (hw2.rowE (fun k hk => by
            show fup _ i _ k = _
            by_cases e : k = i
            · rw [e, fup_s, if_pos (by omega)]
            · rw [fup_n e]
              by_cases b : k < i
              · rw [if_pos b, if_pos (by omega)]
              · rw [if_neg b, if_neg (by omega)]))
          refine j_weak ?_ hih
          exact ⟨rfl, rfl, trivial⟩
    exact lp16 400 0 _ (by omega) (by omega) (hz11.rowE (fun k hk => by rw [if_neg (by omega)]))
  · skip
    refine j_bipush dX7_restore_7 (by decide) ?_
    exact j_iret dX7_restore_9 ⟨_, rfl, (by rw [if_pos h4]), by rw [act_y h4, act_y h4, act_y h4]; exact RS.of h.rq hO hP hA hn4 htn hch⟩
set_option maxRecDepth 100000 in
set_option maxHeartbeats 4000000 in
theorem c_X7_setPrime {l : Launch} {D : gD} {σ : Wd} {m n tn : Nat} {hs : Int} {S SN : MS} {H : Nat → MS} {ch : Nat → Int} {v : Int} (h0 : RS D σ m S SN hs n H tn ch) (hWS : WS S) (hv : R32 v) : KX7_setPrime l D [.ref m, vi v] σ (fun x σ' => x = (if primeB v = true then (if v = S.1 then -5 else S.1) else -2) ∧ OffR m (m + 10) σ σ' ∧ RS D σ' m (act (primeB v = true ∧ v ≠ S.1) (v, (fun t j => S.2.1 t j % v), S.2.2) S) SN hs (act (primeB v = true ∧ v ≠ S.1) (recN n) n) (act (primeB v = true ∧ v ≠ S.1) (recH n H S) H) tn ch) := by
  obtain ⟨pl, de, R, P, A, rv, W, mk, ls, sp, h, hO, hP, hA, hn4, htn, hch⟩ := h0
  have hlo := primeB_lo hWS.1
  have hRk : ∀ k, k < 256 → 0 ≤ R (1 + k) ∧ R (1 + k) < S.1 := fun k hk => by
    have e := hO.2.1 (k / 64) (by omega) (k % 64) (by omega)
    rw [show 1 + 64 * (k / 64) + k % 64 = 1 + k by omega] at e
    rw [e]
    exact (hWS.2 (k / 64) (by omega)).1 _ (by omega)
  refine sp_of (by decide +kernel) (cat1 rfl) (Nat.le_of_ble_eq_true rfl) [some (.ref m), some (vi v), none, none] rfl (fun sz => ?_)
  refine j_iload_n dX7_setPrime_0 rfl ?_
  refine j_iconst dX7_setPrime_1 ?_
  refine j_sipush dX7_setPrime_2 (by decide) ?_
  refine cl_X7_50 (As := [_, _, _]) rfl dX7_setPrime_5 (c_X7_in hv (rs (by omega) (by omega)) (rs (by omega) (by omega))) rfl ⟨by decide, by decide⟩ (Nat.le_of_ble_eq_true rfl) ⟨Nat.zero_le _, Nat.zero_le _⟩ (fun z5 σ5 hz5 => ?_)
  obtain ⟨hr5, hs5⟩ := hz5
  have hr5 := Eq.symm hr5
  have hs5 := Eq.symm hs5
  subst hr5
  subst hs5
  refine j_if_eq (tgt := 18) dX7_setPrime_8 (by decide) R_ite (fun q8 => ?_) (fun q8 => ?_)
  · skip
    have a8 := ne1 q8
    have hnp : ¬ primeB v = true := fun q => a8 (primeB_lo q)
    refine j_bipush dX7_setPrime_18 (by decide) ?_
    exact j_iret dX7_setPrime_20 ⟨_, rfl, (by rw [if_neg hnp]), by rw [act_n (fun q => hnp q.1), act_n (fun q => hnp q.1), act_n (fun q => hnp q.1)]; exact RS.of h.rq hO hP hA hn4 htn hch⟩
  · skip
    have a8 := nz1 q8
    refine j_iload_n dX7_setPrime_11 rfl ?_
    refine cl_X7_58 (As := [_]) rfl dX7_setPrime_12 (c_X7_isPrime (by omega) (by omega)) rfl ⟨by decide, by decide⟩ (Nat.le_of_ble_eq_true rfl) ⟨Nat.zero_le _, Nat.zero_le _⟩ (fun z12 σ12 hz12 => ?_)
    obtain ⟨hr12, hs12⟩ := hz12
    have hr12 := Eq.symm hr12
    have hs12 := Eq.symm hs12
    subst hr12
    subst hs12
    refine j_if_ne (tgt := 21) dX7_setPrime_15 (by decide) R_ite (fun q15 => ?_) (fun q15 => ?_)
    · skip
      have a15 := nz1 q15
      refine j_aload_n dX7_setPrime_21 rfl ?_
      refine gf_X7_7 rfl dX7_setPrime_22 h.1 rfl ?_
      refine j_iconst dX7_setPrime_25 ?_
      refine jj_iald dX7_setPrime_26 h.2.1 (by omega) (by omega) ⟨by omega, by omega⟩ ?_
      refine j_tops (show _ = S.1 from hO.1) ?_
      refine j_istore_n dX7_setPrime_27 (by decide) (by dsimp only [List.set] <;> rfl) ?_
      refine j_iload_n dX7_setPrime_28 rfl ?_
      refine j_iload_n dX7_setPrime_29 rfl ?_
      refine j_icmp_ne (tgt := 36) dX7_setPrime_30 (by decide) (rs (by omega) (by omega)) hv (fun h30 => ?_) (fun h30 => ?_)
      · skip
        refine j_aload_n dX7_setPrime_36 rfl ?_
        refine cl_X7_47 (As := []) rfl dX7_setPrime_37 (c_X7_record h hn4) h.1 rfl ⟨by decide, by decide⟩ (Nat.le_of_ble_eq_true rfl) ⟨Nat.zero_le _, Nat.zero_le _⟩ (fun σ37 hz37 => ?_)
        refine j_aload_n dX7_setPrime_40 rfl ?_
        refine gf_X7_7 rfl dX7_setPrime_41 hz37.2.1 rfl ?_
        refine j_iconst dX7_setPrime_44 ?_
        refine j_iload_n dX7_setPrime_45 rfl ?_
        refine jj_iast dX7_setPrime_46 hz37.2.2.1 (by omega) (by omega) ⟨by omega, by omega⟩ (fun e46 q46 => ?_)
        have hw0 := hz37.row q46
        refine j_iconst dX7_setPrime_47 ?_
        refine j_istore_n dX7_setPrime_48 (by decide) (by dsimp only [List.set] <;> rfl) ?_
        have lp49 : ∀ (nn i : Nat) (w : Wd), 257 - i < nn → i ≤ 256 → RQ D σ w m (recN n) hs tn pl de (fun q => if q = 0 then v else if q < 1 + i then R q % v else R q) (recP n P R) A ch rv W mk ls sp → J l D yX7_setPrime cX7_setPrime 4 (some .int) rmX7_setPrime sz (AA σ sz) (QI D σ sz (fun x σ' => x = (if primeB v = true then (if v = S.1 then -5 else S.1) else -2) ∧ OffR m (m + 10) σ σ' ∧ RS D σ' m (act (primeB v = true ∧ v ≠ S.1) (v, (fun t j => S.2.1 t j % v), S.2.2) S) SN hs (act (primeB v = true ∧ v ≠ S.1) (recN n) n) (act (primeB v = true ∧ v ≠ S.1) (recH n H S) H) tn ch)) 0 0 49 [some (.ref m), some (vi v), some (vi S.1), some (vi i)] [] w := by
          intro nn
          induction nn with
          | zero =>
            intro i w hnn hi hw
            exfalso
            omega
          | succ nn ih49 =>
            intro i w hnn hi hw
            refine j_iload_n dX7_setPrime_49 rfl ?_
            refine j_sipush dX7_setPrime_50 (by decide) ?_
            refine j_icmp_ge (tgt := 74) dX7_setPrime_53 (by decide) ⟨by omega, by omega⟩ ⟨by omega, by omega⟩ (fun h53 => ?_) (fun h53 => ?_)
            · skip
              refine j_iload_n dX7_setPrime_74 rfl ?_
              exact j_iret dX7_setPrime_75 ⟨_, rfl, (by rw [if_pos a15, if_neg (fun q => h30 q.symm)]), by rw [act_y ⟨a15, fun q => h30 q.symm⟩, act_y ⟨a15, fun q => h30 q.symm⟩, act_y ⟨a15, fun q => h30 q.symm⟩]; exact RS.of hw ⟨if_pos rfl, fun t ht k hk => by dsimp only; rw [if_neg (by omega), if_pos (by omega), hO.2.1 t ht k hk], fun t ht => (hO.2.2 t ht).ext (fun d hd => by dsimp only; rw [if_neg (by omega), if_neg (by omega)])⟩ (rec_RO hn4 hO hP) hA (recN_le n hn4) htn hch⟩
            · skip
              refine j_aload_n dX7_setPrime_56 rfl ?_
              refine gf_X7_7 rfl dX7_setPrime_57 hw.2.1 rfl ?_
              refine j_iconst dX7_setPrime_60 ?_
              refine j_iload_n dX7_setPrime_61 rfl ?_
              refine j_iadd dX7_setPrime_62 ?_
              rw [show (1 : Int) + (i : Int) = ((1 + i : Nat) : Int) from rfl]
              refine j_dup2 dX7_setPrime_63 rfl rfl ?_
              refine jj_iald dX7_setPrime_64 hw.2.2.1 (by omega) (by omega) ⟨by omega, by omega⟩ ?_
              refine j_tops (show _ = R (1 + i) from (if_neg (by omega)).trans (if_neg (by omega))) ?_
              have hri := hRk i (by omega)
              refine j_iload_n dX7_setPrime_65 rfl ?_
              refine j_irem dX7_setPrime_66 (rs (by omega) (by omega)) hv (by omega) ?_
              rw [tmod_pos hri.1]
              refine jj_iast dX7_setPrime_67 hw.2.2.1 (by omega) (by omega) ⟨by omega, by omega⟩ (fun e67 q67 => ?_)
              have hw2 := hw.row q67
              refine j_iinc dX7_setPrime_68 rfl (by decide) (by dsimp only [List.set] <;> rfl) ?_
              refine j_goto (tgt := 49) dX7_setPrime_71 (by decide) ?_
              have hih := ih49 (i + 1) _ (by omega) (by omega) (hw2.rowE (fun k hk => by
                show fup _ (1 + i) _ k = _
                by_cases e : k = 1 + i
                · rw [e, fup_s, if_neg (by omega), if_pos (by omega)]
                · rw [fup_n e]
                  by_cases c : k = 0
                  · rw [if_pos c, if_pos c]
                  · rw [if_neg c, if_neg c]
                    by_cases b : k < 1 + i
                    · rw [if_pos b, if_pos (by omega)]
                    · rw [if_neg b, if_neg (by omega)]))
              refine j_weak ?_ hih
              exact ⟨rfl, rfl, rfl, rfl, trivial⟩
        exact lp49 300 0 _ (by omega) (by omega) (hw0.rowE (fun k hk => by
          show fup R 0 v k = _
          by_cases e : k = 0
          · rw [e, fup_s, if_pos rfl]
          · rw [fup_n e, if_neg e, if_neg (by omega)]))
      · skip
        refine j_bipush dX7_setPrime_33 (by decide) ?_
        exact j_iret dX7_setPrime_35 ⟨_, rfl, (by rw [if_pos a15, if_pos (by omega)]), by rw [act_n (fun q => q.2 (by omega)), act_n (fun q => q.2 (by omega)), act_n (fun q => q.2 (by omega))]; exact RS.of h.rq hO hP hA hn4 htn hch⟩
    · skip
      have hnp := ne1 q15
      refine j_bipush dX7_setPrime_18 (by decide) ?_
      exact j_iret dX7_setPrime_20 ⟨_, rfl, (by rw [if_neg hnp]), by rw [act_n (fun q => hnp q.1), act_n (fun q => hnp q.1), act_n (fun q => hnp q.1)]; exact RS.of h.rq hO hP hA hn4 htn hch⟩
set_option maxRecDepth 100000 in
set_option maxHeartbeats 4000000 in
theorem c_X7_set {l : Launch} {D : gD} {σ : Wd} {m n tn : Nat} {hs : Int} {S SN : MS} {H : Nat → MS} {ch : Nat → Int} {t r c v : Int} (h0 : RS D σ m S SN hs n H tn ch) (hWS : WS S) (ht : R32 t) (hr : R32 r) (hc : R32 c) (hv : R32 v) : KX7_set l D [.ref m, vi t, vi r, vi c, vi v] σ (fun x σ' => x = (if ((0 ≤ t ∧ t < 4) ∧ (0 ≤ r ∧ r < 8) ∧ (0 ≤ c ∧ c < 8)) then (if 0 ≤ v ∧ v < S.1 then (if v = S.2.1 t.toNat (8 * r + c).toNat then -5 else S.2.1 t.toNat (8 * r + c).toNat) else -2) else -1) ∧ OffR m (m + 10) σ σ' ∧ RS D σ' m (act (((0 ≤ t ∧ t < 4) ∧ (0 ≤ r ∧ r < 8) ∧ (0 ≤ c ∧ c < 8)) ∧ (0 ≤ v ∧ v < S.1) ∧ v ≠ S.2.1 t.toNat (8 * r + c).toNat) (S.1, fup S.2.1 t.toNat (fup (S.2.1 t.toNat) (8 * r + c).toNat v), S.2.2) S) SN hs (act (((0 ≤ t ∧ t < 4) ∧ (0 ≤ r ∧ r < 8) ∧ (0 ≤ c ∧ c < 8)) ∧ (0 ≤ v ∧ v < S.1) ∧ v ≠ S.2.1 t.toNat (8 * r + c).toNat) (recN n) n) (act (((0 ≤ t ∧ t < 4) ∧ (0 ≤ r ∧ r < 8) ∧ (0 ≤ c ∧ c < 8)) ∧ (0 ≤ v ∧ v < S.1) ∧ v ≠ S.2.1 t.toNat (8 * r + c).toNat) (recH n H S) H) tn ch) := by
  obtain ⟨pl, de, R, P, A, rv, W, mk, ls, sp, h, hO, hP, hA, hn4, htn, hch⟩ := h0
  have hlo := primeB_lo hWS.1
  refine sp_of (by decide +kernel) (cat1 rfl) (Nat.le_of_ble_eq_true rfl) [some (.ref m), some (vi t), some (vi r), some (vi c), some (vi v), none, none] rfl (fun sz => ?_)
  refine j_iload_n dX7_set_0 rfl ?_
  refine cl_X7_62 (As := [_]) rfl dX7_set_1 (c_X7_noTable ht) rfl ⟨by decide, by decide⟩ (Nat.le_of_ble_eq_true rfl) ⟨Nat.zero_le _, Nat.zero_le _⟩ (fun z1 σ1 hz1 => ?_)
  obtain ⟨hr1, hs1⟩ := hz1
  have hr1 := Eq.symm hr1
  have hs1 := Eq.symm hs1
  subst hr1
  subst hs1
  refine j_if_ne (tgt := 21) dX7_set_4 (by decide) R_ite0 (fun q4 => ?_) (fun q4 => ?_)
  · skip
    have aat := nt1 q4
    refine j_iconst dX7_set_21 ?_
    exact j_iret dX7_set_22 ⟨_, rfl, by rw [if_neg (by omega)], by rw [act_n (by omega), act_n (by omega), act_n (by omega)]; exact RS.of h.rq hO hP hA hn4 htn hch⟩
  · skip
    have aat := nt0 q4
    refine j_iload_n dX7_set_7 rfl ?_
    refine cl_X7_65 (As := [_]) rfl dX7_set_8 (c_X7_noPlace hr) rfl ⟨by decide, by decide⟩ (Nat.le_of_ble_eq_true rfl) ⟨Nat.zero_le _, Nat.zero_le _⟩ (fun z8 σ8 hz8 => ?_)
    obtain ⟨hr8, hs8⟩ := hz8
    have hr8 := Eq.symm hr8
    have hs8 := Eq.symm hs8
    subst hr8
    subst hs8
    refine j_if_ne (tgt := 21) dX7_set_11 (by decide) R_ite0 (fun q11 => ?_) (fun q11 => ?_)
    · skip
      have ar := nt1 q11
      refine j_iconst dX7_set_21 ?_
      exact j_iret dX7_set_22 ⟨_, rfl, by rw [if_neg (by omega)], by rw [act_n (by omega), act_n (by omega), act_n (by omega)]; exact RS.of h.rq hO hP hA hn4 htn hch⟩
    · skip
      have ar := nt0 q11
      refine j_iload_n dX7_set_14 rfl ?_
      refine cl_X7_65 (As := [_]) rfl dX7_set_15 (c_X7_noPlace hc) rfl ⟨by decide, by decide⟩ (Nat.le_of_ble_eq_true rfl) ⟨Nat.zero_le _, Nat.zero_le _⟩ (fun z15 σ15 hz15 => ?_)
      obtain ⟨hr15, hs15⟩ := hz15
      have hr15 := Eq.symm hr15
      have hs15 := Eq.symm hs15
      subst hr15
      subst hs15
      refine j_if_eq (tgt := 23) dX7_set_18 (by decide) R_ite0 (fun q18 => ?_) (fun q18 => ?_)
      · skip
        have ac := nt0 q18
        refine j_iload dX7_set_23 rfl ?_
        refine j_iconst dX7_set_25 ?_
        refine j_aload_n dX7_set_26 rfl ?_
        refine gf_X7_7 rfl dX7_set_27 h.1 rfl ?_
        refine j_iconst dX7_set_30 ?_
        refine jj_iald dX7_set_31 h.2.1 (by omega) (by omega) ⟨by omega, by omega⟩ ?_
        refine j_tops (show _ = S.1 from hO.1) ?_
        refine j_iconst dX7_set_32 ?_
        refine j_isub dX7_set_33 ?_
        refine cl_X7_50 (As := [_, _, _]) rfl dX7_set_34 (c_X7_in hv (rs (by omega) (by omega)) (rs (by omega) (by omega))) rfl ⟨by decide, by decide⟩ (Nat.le_of_ble_eq_true rfl) ⟨Nat.zero_le _, Nat.zero_le _⟩ (fun z34 σ34 hz34 => ?_)
        obtain ⟨hr34, hs34⟩ := hz34
        have hr34 := Eq.symm hr34
        have hs34 := Eq.symm hs34
        subst hr34
        subst hs34
        refine j_if_ne (tgt := 43) dX7_set_37 (by decide) R_ite (fun q37 => ?_) (fun q37 => ?_)
        · skip
          have av := nz1 q37
          refine j_iload_n dX7_set_43 rfl ?_
          refine j_iload_n dX7_set_44 rfl ?_
          refine j_iload_n dX7_set_45 rfl ?_
          refine cl_X7_68 (As := [_, _, _]) rfl dX7_set_46 (c_X7_cellAt) rfl ⟨by decide, by decide⟩ (Nat.le_of_ble_eq_true rfl) ⟨Nat.zero_le _, Nat.zero_le _⟩ (fun z46 σ46 hz46 => ?_)
          obtain ⟨hr46, hs46⟩ := hz46
          have hr46 := Eq.symm hr46
          have hs46 := Eq.symm hs46
          subst hr46
          subst hs46
          refine j_istore dX7_set_49 (by decide) (by dsimp only [List.set] <;> rfl) ?_
          refine j_aload_n dX7_set_51 rfl ?_
          refine gf_X7_7 rfl dX7_set_52 h.1 rfl ?_
          refine j_iload dX7_set_55 rfl ?_
          refine jj_iald dX7_set_57 h.2.1 (by omega) (by omega) ⟨by omega, by omega⟩ ?_
          refine j_tops (show _ = S.2.1 t.toNat (8 * r + c).toNat from (congrArg R (show (1 + 64 * t + 8 * r + c).toNat = 1 + 64 * t.toNat + (8 * r + c).toNat by omega)).trans (hO.2.1 t.toNat (by omega) (8 * r + c).toNat (by omega))) ?_
          have hcb := (hWS.2 t.toNat (by omega)).1 (8 * r + c).toNat (by omega)
          refine j_istore dX7_set_58 (by decide) (by dsimp only [List.set] <;> rfl) ?_
          refine j_iload dX7_set_60 rfl ?_
          refine j_iload dX7_set_62 rfl ?_
          refine j_icmp_ne (tgt := 70) dX7_set_64 (by decide) (rs (by omega) (by omega)) hv (fun h64 => ?_) (fun h64 => ?_)
          · skip
            refine j_aload_n dX7_set_70 rfl ?_
            refine cl_X7_47 (As := []) rfl dX7_set_71 (c_X7_record h hn4) h.1 rfl ⟨by decide, by decide⟩ (Nat.le_of_ble_eq_true rfl) ⟨Nat.zero_le _, Nat.zero_le _⟩ (fun σ71 hz71 => ?_)
            refine j_aload_n dX7_set_74 rfl ?_
            refine gf_X7_7 rfl dX7_set_75 hz71.2.1 rfl ?_
            refine j_iload dX7_set_78 rfl ?_
            refine j_iload dX7_set_80 rfl ?_
            refine jj_iast dX7_set_82 hz71.2.2.1 (by omega) (by omega) ⟨by omega, by omega⟩ (fun e82 q82 => ?_)
            have hw0 := hz71.row q82
            refine j_iload dX7_set_83 rfl ?_
            have hO2 : RO (fup R (1 + 64 * t + 8 * r + c).toNat v) (S.1, fup S.2.1 t.toNat (fup (S.2.1 t.toNat) (8 * r + c).toNat v), S.2.2) := by
              rw [show (1 + 64 * t + 8 * r + c).toNat = 1 + 64 * t.toNat + (8 * r + c).toNat by omega]
              refine hO.cells (t := t.toNat) (by omega) (fup_n (by omega)) (fun k hk => ?_) (fun q q0 q1 q2 => fup_n (by omega))
              by_cases e : k = (8 * r + c).toNat
              · rw [e, fup_s, fup_s]
              · rw [fup_n (by omega), fup_n e]
                exact hO.2.1 t.toNat (by omega) k hk
            exact j_iret dX7_set_85 ⟨_, rfl, by rw [if_pos (by omega), if_pos (by omega), if_neg (by omega)], by rw [act_y (by omega), act_y (by omega), act_y (by omega)]; exact RS.of hw0 hO2 (rec_RO hn4 hO hP) hA (recN_le n hn4) htn hch⟩
          · skip
            refine j_bipush dX7_set_67 (by decide) ?_
            exact j_iret dX7_set_69 ⟨_, rfl, by rw [if_pos (by omega), if_pos (by omega), if_pos (by omega)], by rw [act_n (by omega), act_n (by omega), act_n (by omega)]; exact RS.of h.rq hO hP hA hn4 htn hch⟩
        · skip
          have av := ne1 q37
          refine j_bipush dX7_set_40 (by decide) ?_
          exact j_iret dX7_set_42 ⟨_, rfl, by rw [if_pos (by omega), if_neg (by omega)], by rw [act_n (by omega), act_n (by omega), act_n (by omega)]; exact RS.of h.rq hO hP hA hn4 htn hch⟩
      · skip
        have ac := nt1 q18
        refine j_iconst dX7_set_21 ?_
        exact j_iret dX7_set_22 ⟨_, rfl, by rw [if_neg (by omega)], by rw [act_n (by omega), act_n (by omega), act_n (by omega)]; exact RS.of h.rq hO hP hA hn4 htn hch⟩
set_option maxRecDepth 100000 in
set_option maxHeartbeats 4000000 in
theorem c_X7_cell {l : Launch} {D : gD} {σ : Wd} {m n tn : Nat} {hs : Int} {S SN : MS} {H : Nat → MS} {ch : Nat → Int} {t r c : Int} (h0 : RS D σ m S SN hs n H tn ch) (ht : R32 t) (hr : R32 r) (hc : R32 c) : KX7_cell l D [.ref m, vi t, vi r, vi c] σ (fun x σ' => x = (if ((0 ≤ t ∧ t < 4) ∧ (0 ≤ r ∧ r < 8) ∧ (0 ≤ c ∧ c < 8)) then S.2.1 t.toNat (8 * r + c).toNat else -1) ∧ σ' = σ) := by
  obtain ⟨pl, de, R, P, A, rv, W, mk, ls, sp, h, hO, hP, hA, hn4, htn, hch⟩ := h0
  refine sp_of (by decide +kernel) (cat1 rfl) (Nat.le_of_ble_eq_true rfl) [some (.ref m), some (vi t), some (vi r), some (vi c)] rfl (fun sz => ?_)
  refine j_iload_n dX7_cell_0 rfl ?_
  refine cl_X7_62 (As := [_]) rfl dX7_cell_1 (c_X7_noTable ht) rfl ⟨by decide, by decide⟩ (Nat.le_of_ble_eq_true rfl) ⟨Nat.zero_le _, Nat.zero_le _⟩ (fun z1 σ1 hz1 => ?_)
  obtain ⟨hr1, hs1⟩ := hz1
  have hr1 := Eq.symm hr1
  have hs1 := Eq.symm hs1
  subst hr1
  subst hs1
  refine j_if_ne (tgt := 21) dX7_cell_4 (by decide) R_ite0 (fun q4 => ?_) (fun q4 => ?_)
  · skip
    have aat := nt1 q4
    refine j_iconst dX7_cell_21 ?_
    refine j_goto (tgt := 36) dX7_cell_22 (by decide) ?_
    exact j_iret dX7_cell_36 ⟨_, rfl, by rw [if_neg (by omega)], rfl⟩
  · skip
    have aat := nt0 q4
    refine j_iload_n dX7_cell_7 rfl ?_
    refine cl_X7_65 (As := [_]) rfl dX7_cell_8 (c_X7_noPlace hr) rfl ⟨by decide, by decide⟩ (Nat.le_of_ble_eq_true rfl) ⟨Nat.zero_le _, Nat.zero_le _⟩ (fun z8 σ8 hz8 => ?_)
    obtain ⟨hr8, hs8⟩ := hz8
    have hr8 := Eq.symm hr8
    have hs8 := Eq.symm hs8
    subst hr8
    subst hs8
    refine j_if_ne (tgt := 21) dX7_cell_11 (by decide) R_ite0 (fun q11 => ?_) (fun q11 => ?_)
    · skip
      have ar := nt1 q11
      refine j_iconst dX7_cell_21 ?_
      refine j_goto (tgt := 36) dX7_cell_22 (by decide) ?_
      exact j_iret dX7_cell_36 ⟨_, rfl, by rw [if_neg (by omega)], rfl⟩
    · skip
      have ar := nt0 q11
      refine j_iload_n dX7_cell_14 rfl ?_
      refine cl_X7_65 (As := [_]) rfl dX7_cell_15 (c_X7_noPlace hc) rfl ⟨by decide, by decide⟩ (Nat.le_of_ble_eq_true rfl) ⟨Nat.zero_le _, Nat.zero_le _⟩ (fun z15 σ15 hz15 => ?_)
      obtain ⟨hr15, hs15⟩ := hz15
      have hr15 := Eq.symm hr15
      have hs15 := Eq.symm hs15
      subst hr15
      subst hs15
      refine j_if_eq (tgt := 25) dX7_cell_18 (by decide) R_ite0 (fun q18 => ?_) (fun q18 => ?_)
      · skip
        have ac := nt0 q18
        refine j_aload_n dX7_cell_25 rfl ?_
        refine gf_X7_7 rfl dX7_cell_26 h.1 rfl ?_
        refine j_iload_n dX7_cell_29 rfl ?_
        refine j_iload_n dX7_cell_30 rfl ?_
        refine j_iload_n dX7_cell_31 rfl ?_
        refine cl_X7_68 (As := [_, _, _]) rfl dX7_cell_32 (c_X7_cellAt) rfl ⟨by decide, by decide⟩ (Nat.le_of_ble_eq_true rfl) ⟨Nat.zero_le _, Nat.zero_le _⟩ (fun z32 σ32 hz32 => ?_)
        obtain ⟨hr32, hs32⟩ := hz32
        have hr32 := Eq.symm hr32
        have hs32 := Eq.symm hs32
        subst hr32
        subst hs32
        refine jj_iald dX7_cell_35 h.2.1 (by omega) (by omega) ⟨by omega, by omega⟩ ?_
        refine j_tops (show _ = S.2.1 t.toNat (8 * r + c).toNat from (congrArg R (show (1 + 64 * t + 8 * r + c).toNat = 1 + 64 * t.toNat + (8 * r + c).toNat by omega)).trans (hO.2.1 t.toNat (by omega) (8 * r + c).toNat (by omega))) ?_
        exact j_iret dX7_cell_36 ⟨_, rfl, by rw [if_pos (by omega)], rfl⟩
      · skip
        have ac := nt1 q18
        refine j_iconst dX7_cell_21 ?_
        refine j_goto (tgt := 36) dX7_cell_22 (by decide) ?_
        exact j_iret dX7_cell_36 ⟨_, rfl, by rw [if_neg (by omega)], rfl⟩
set_option maxRecDepth 100000 in
set_option maxHeartbeats 4000000 in
theorem c_X7_type {l : Launch} {D : gD} {σ : Wd} {m n tn : Nat} {hs : Int} {S SN : MS} {H : Nat → MS} {ch : Nat → Int} {v : Int} (h0 : RS D σ m S SN hs n H tn ch) (hv0 : 0 ≤ v) (hv1 : v < 65536) : KX7_type l D [.ref m, vi v] σ (fun x σ' => x = (if tn < 60 then (tn : Int) + 1 else -3) ∧ OffR m (m + 10) σ σ' ∧ RS D σ' m S SN hs n H (act (tn < 60) (tn + 1) tn) (act (tn < 60) (fup ch tn v) ch)) := by
  obtain ⟨pl, de, R, P, A, rv, W, mk, ls, sp, h, hO, hP, hA, hn4, htn, hch⟩ := h0
  refine sp_of (by decide +kernel) (cat1 rfl) (Nat.le_of_ble_eq_true rfl) [some (.ref m), some (vi v)] rfl (fun sz => ?_)
  refine j_aload_n dX7_type_0 rfl ?_
  refine gf_X7_112 rfl dX7_type_1 h.1 rfl ?_
  refine j_bipush dX7_type_4 (by decide) ?_
  refine j_icmp_ne (tgt := 12) dX7_type_6 (by decide) ⟨by omega, by omega⟩ ⟨by omega, by omega⟩ (fun h6 => ?_) (fun h6 => ?_)
  · skip
    refine j_aload_n dX7_type_12 rfl ?_
    refine gf_X7_19 rfl dX7_type_13 h.1 rfl ?_
    refine j_aload_n dX7_type_16 rfl ?_
    refine gf_X7_112 rfl dX7_type_17 h.1 rfl ?_
    refine j_iload_n dX7_type_20 rfl ?_
    refine jj_cast dX7_type_21 h.2.2.2.2.1 (by omega) (by omega) ⟨by omega, by omega⟩ (nar_iI hv0 hv1) (fun e21 q21 => ?_)
    have hw0 := h.rq.text q21
    refine j_aload_n dX7_type_22 rfl ?_
    refine j_dup dX7_type_23 rfl ?_
    refine gf_X7_112 rfl dX7_type_24 hw0.2.1 rfl ?_
    refine j_iconst dX7_type_27 ?_
    refine j_iadd dX7_type_28 ?_
    rw [show (tn : Int) + 1 = ((tn + 1 : Nat) : Int) from rfl]
    refine pf_X7_112 rfl dX7_type_29 hw0.2.1 rfl rfl (Nat.le_of_ble_eq_true rfl) ?_
    dsimp only [List.set]
    have hw1 := hw0.own (n2 := n) (hs2 := hs) (tn2 := (tn + 1)) (pl2 := pl) (de2 := de)
    refine j_aload_n dX7_type_32 rfl ?_
    refine gf_X7_112 rfl dX7_type_33 hw1.2.1 rfl ?_
    have hch2 : ∀ j, j < tn + 1 → 0 ≤ fup ch tn v j ∧ fup ch tn v j < 65536 := fun j hj => by
      by_cases e : j = tn
      · rw [e, fup_s]; exact ⟨hv0, hv1⟩
      · rw [fup_n e]; exact hch j (by omega)
    exact j_iret dX7_type_36 ⟨_, rfl, (by rw [if_pos (by omega)]), by rw [act_y (by omega), act_y (by omega)]; exact RS.of hw1 hO hP hA hn4 (by omega) hch2⟩
  · skip
    refine j_bipush dX7_type_9 (by decide) ?_
    exact j_iret dX7_type_11 ⟨_, rfl, (by rw [if_neg (by omega)]), by rw [act_n (by omega), act_n (by omega)]; exact RS.of h.rq hO hP hA hn4 htn hch⟩
set_option maxRecDepth 100000 in
set_option maxHeartbeats 4000000 in
theorem c_X7_clearText {l : Launch} {D : gD} {σ : Wd} {m n tn : Nat} {hs : Int} {S SN : MS} {H : Nat → MS} {ch : Nat → Int} (h0 : RS D σ m S SN hs n H tn ch) : KX7_clearText l D [.ref m] σ (fun x σ' => x = (tn : Int) ∧ OffR m (m + 10) σ σ' ∧ RS D σ' m S SN hs n H 0 ch) := by
  obtain ⟨pl, de, R, P, A, rv, W, mk, ls, sp, h, hO, hP, hA, hn4, htn, hch⟩ := h0
  refine sp_of (by decide +kernel) (cat1 rfl) (Nat.le_of_ble_eq_true rfl) [some (.ref m), none] rfl (fun sz => ?_)
  refine j_aload_n dX7_clearText_0 rfl ?_
  refine gf_X7_112 rfl dX7_clearText_1 h.1 rfl ?_
  refine j_istore_n dX7_clearText_4 (by decide) (by dsimp only [List.set] <;> rfl) ?_
  refine j_aload_n dX7_clearText_5 rfl ?_
  refine j_iconst dX7_clearText_6 ?_
  refine pf_X7_112 rfl dX7_clearText_7 h.1 rfl rfl (Nat.le_of_ble_eq_true rfl) ?_
  dsimp only [List.set]
  have hw1 := h.rq.own (n2 := n) (hs2 := hs) (tn2 := 0) (pl2 := pl) (de2 := de)
  refine j_iload_n dX7_clearText_10 rfl ?_
  exact j_iret dX7_clearText_11 ⟨_, rfl, rfl, RS.of hw1 hO hP hA hn4 (by omega) (fun j hj => absurd hj (by omega))⟩

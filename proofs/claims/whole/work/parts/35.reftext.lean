/-! ===== the reference: texts ===== -/
def rrw (ch : Nat → Int) (n fr : Nat) (f : Nat → Int) (q0 : Nat) : Nat → Bool × Nat × (Nat → Int)
  | 0 => (true, q0, f)
  | k + 1 => if (rrw ch n fr f q0 k).1 = true then (if k = 0 then rdNum ch n (rrw ch n fr f q0 k).2.1 (fr + k) (rrw ch n fr f q0 k).2.2 else if sg ch n (rrw ch n fr f q0 k).2.1 = 44 then rdNum ch n ((rrw ch n fr f q0 k).2.1 + 1) (fr + k) (rrw ch n fr f q0 k).2.2 else (false, (rrw ch n fr f q0 k).2.1, (rrw ch n fr f q0 k).2.2)) else rrw ch n fr f q0 k
theorem rrw_s (ch : Nat → Int) (n fr : Nat) (f : Nat → Int) (q0 k : Nat) : rrw ch n fr f q0 (k + 1) = if (rrw ch n fr f q0 k).1 = true then (if k = 0 then rdNum ch n (rrw ch n fr f q0 k).2.1 (fr + k) (rrw ch n fr f q0 k).2.2 else if sg ch n (rrw ch n fr f q0 k).2.1 = 44 then rdNum ch n ((rrw ch n fr f q0 k).2.1 + 1) (fr + k) (rrw ch n fr f q0 k).2.2 else (false, (rrw ch n fr f q0 k).2.1, (rrw ch n fr f q0 k).2.2)) else rrw ch n fr f q0 k := rfl
theorem rrw_go {ch : Nat → Int} {n fr : Nat} {f g : Nat → Int} {q0 q k : Nat} (h : rrw ch n fr f q0 k = (true, q, g)) : rrw ch n fr f q0 (k + 1) = if k = 0 then rdNum ch n q (fr + k) g else if sg ch n q = 44 then rdNum ch n (q + 1) (fr + k) g else (false, q, g) := by
  rw [rrw_s, h, if_pos rfl]
theorem rrw_stay {ch : Nat → Int} {n fr : Nat} {f g : Nat → Int} {q0 q k : Nat} (h : rrw ch n fr f q0 k = (false, q, g)) : ∀ j, rrw ch n fr f q0 (k + j) = (false, q, g)
  | 0 => h
  | j + 1 => by
    rw [← Nat.add_assoc, rrw_s, rrw_stay h j, if_neg (by simp)]
theorem rdNum_y {ch : Nat → Int} {n q i : Nat} {f : Nat → Int} (h : 48 ≤ sg ch n q ∧ sg ch n q ≤ 57) : rdNum ch n q i f = (true, (nVal ch n q).2, fup f i (nVal ch n q).1) := if_pos h
theorem rdNum_n {ch : Nat → Int} {n q i : Nat} {f : Nat → Int} (h : ¬ (48 ≤ sg ch n q ∧ sg ch n q ≤ 57)) : rdNum ch n q i f = (false, q, f) := if_neg h
def sim (k : Nat) (a b : Bool × Nat × (Nat → Int)) : Prop := a.1 = b.1 ∧ a.2.1 = b.2.1 ∧ (a.1 = true → ∀ j, j < k → a.2.2 j = b.2.2 j)
theorem rdNum_sim {ch : Nat → Int} {n q i : Nat} {f g : Nat → Int} (h : ∀ j, j < i → f j = g j) : sim (i + 1) (rdNum ch n q i f) (rdNum ch n q i g) := by
  by_cases a : 48 ≤ sg ch n q ∧ sg ch n q ≤ 57
  · rw [rdNum_y a, rdNum_y a]
    refine ⟨rfl, rfl, fun _ j hj => ?_⟩
    show fup f i _ j = fup g i _ j
    by_cases e : j = i
    · rw [e, fup_s, fup_s]
    · rw [fup_n e, fup_n e]
      exact h j (by omega)
  · rw [rdNum_n a, rdNum_n a]
    exact ⟨rfl, rfl, fun q => absurd q (by simp)⟩
theorem rd_s (ch : Nat → Int) (n z i : Nat) : rd ch n z (i + 1) = if (rd ch n z i).1 = true then (if i = 0 then rdNum ch n (rd ch n z i).2.1 i (rd ch n z i).2.2 else if sg ch n (rd ch n z i).2.1 = (if i = z then 59 else 44) then rdNum ch n ((rd ch n z i).2.1 + 1) i (rd ch n z i).2.2 else (false, (rd ch n z i).2.1, (rd ch n z i).2.2)) else rd ch n z i := rfl
theorem link1 {ch : Nat → Int} {n z : Nat} {f : Nat → Int} : ∀ k, k ≤ z → sim k (rrw ch n 0 f 0 k) (rd ch n z k)
  | 0, _ => ⟨rfl, rfl, fun _ j hj => absurd hj (by omega)⟩
  | k + 1, hk => by
    obtain ⟨a1, a2, a3⟩ := link1 (ch := ch) (n := n) (z := z) (f := f) k (by omega)
    rw [rrw_s, rd_s, ← a1, ← a2, Nat.zero_add]
    by_cases h : (rrw ch n 0 f 0 k).1 = true
    · have a3 := a3 h
      rw [if_pos h, if_pos h, if_neg (show ¬ k = z by omega)]
      by_cases h0 : k = 0
      · rw [if_pos h0, if_pos h0]
        exact rdNum_sim a3
      · rw [if_neg h0, if_neg h0]
        by_cases hs : sg ch n (rrw ch n 0 f 0 k).2.1 = 44
        · rw [if_pos hs, if_pos hs]
          exact rdNum_sim a3
        · rw [if_neg hs, if_neg hs]
          exact ⟨rfl, rfl, fun q => absurd q (by simp)⟩
    · rw [if_neg h, if_neg h]
      exact ⟨a1, a2, fun q => absurd q h⟩
theorem link2 {ch : Nat → Int} {n z : Nat} {f : Nat → Int} (hz : 1 ≤ z) (h : (rd ch n z z).1 = true) (hs : sg ch n (rd ch n z z).2.1 = 59) (hf : ∀ j, j < z → f j = (rd ch n z z).2.2 j) : ∀ k, sim (z + (k + 1)) (rrw ch n z f ((rd ch n z z).2.1 + 1) (k + 1)) (rd ch n z (z + (k + 1)))
  | 0 => by
    show sim (z + 1) (rrw ch n z f ((rd ch n z z).2.1 + 1) (0 + 1)) (rd ch n z (z + 1))
    rw [rrw_go rfl, rd_s, if_pos rfl, if_pos h, if_neg (by omega), if_pos (by rw [if_pos rfl]; exact hs)]
    exact rdNum_sim hf
  | k + 1 => by
    obtain ⟨a1, a2, a3⟩ := link2 hz h hs hf k
    show sim (z + (k + 1) + 1) (rrw ch n z f ((rd ch n z z).2.1 + 1) (k + 1 + 1)) (rd ch n z (z + (k + 1) + 1))
    rw [rrw_s, rd_s, ← a1, ← a2]
    by_cases h0 : (rrw ch n z f ((rd ch n z z).2.1 + 1) (k + 1)).1 = true
    · have a3 := a3 h0
      rw [if_pos h0, if_pos h0, if_neg (by omega), if_neg (show ¬ z + (k + 1) = 0 by omega), if_neg (show ¬ z + (k + 1) = z by omega)]
      by_cases hs : sg ch n (rrw ch n z f ((rd ch n z z).2.1 + 1) (k + 1)).2.1 = 44
      · rw [if_pos hs, if_pos hs]
        exact rdNum_sim a3
      · rw [if_neg hs, if_neg hs]
        exact ⟨rfl, rfl, fun q => absurd q (by simp)⟩
    · rw [if_neg h0, if_neg h0]
      exact ⟨a1, a2, fun q => absurd q h0⟩
theorem nVal_n {ch : Nat → Int} {n q : Nat} (hch : ∀ j, j < n → 0 ≤ ch j ∧ ch j < 65536) (h : 48 ≤ sg ch n q ∧ sg ch n q ≤ 57) : (nVal ch n q).2 ≤ n := by
  have a0 := (sg_R hch q).2.2
  have a1 := (sg_R hch (q + 1)).2.2
  have a2 := (sg_R hch (q + 2)).2.2
  unfold nVal
  split
  · dsimp only
    omega
  · split
    · split
      · dsimp only
        omega
      · dsimp only
        omega
    · dsimp only
      omega

set_option maxRecDepth 100000 in
set_option maxHeartbeats 4000000 in
theorem c_X7_sees {l : Launch} {D : gD} {σ : Wd} {m n tn pl : Nat} {hs de : Int} {R P A ch rv W mk ls sp : Nat → Int} {a b : Int} (h : RM D σ m n hs tn pl de R P A ch rv W mk ls sp) (hch : ∀ j, j < tn → 0 ≤ ch j ∧ ch j < 65536) (htn : tn ≤ 60) (hpl : pl ≤ tn) (ha : 0 ≤ a) (haR : R32 a) (hbR : R32 b) : KX7_sees l D [.ref m, vi a, vi b] σ (fun x σ' => x = (if a ≤ sg ch tn pl ∧ sg ch tn pl ≤ b then 1 else 0) ∧ σ' = σ) := by
  have hsR := sg_R hch pl
  refine sp_of (by decide +kernel) (cat1 rfl) (Nat.le_of_ble_eq_true rfl) [some (.ref m), some (vi a), some (vi b)] rfl (fun sz => ?_)
  refine j_aload_n dX7_sees_0 rfl ?_
  refine gf_X7_115 rfl dX7_sees_1 h.1 rfl ?_
  refine j_aload_n dX7_sees_4 rfl ?_
  refine gf_X7_112 rfl dX7_sees_5 h.1 rfl ?_
  refine j_icmp_ge (tgt := 32) dX7_sees_8 (by decide) ⟨by omega, by omega⟩ ⟨by omega, by omega⟩ (fun h8 => ?_) (fun h8 => ?_)
  · skip
    have hs : sg ch tn pl = -1 := if_neg (by omega)
    refine j_iconst dX7_sees_32 ?_
    exact j_zret dX7_sees_33 (by omega) ⟨_, rfl, (by first | rw [if_pos (by omega)] | rw [if_neg (by omega)]), rfl⟩
  · skip
    have hs : sg ch tn pl = ch pl := if_pos (by omega)
    refine j_aload_n dX7_sees_11 rfl ?_
    refine gf_X7_19 rfl dX7_sees_12 h.1 rfl ?_
    refine j_aload_n dX7_sees_15 rfl ?_
    refine gf_X7_115 rfl dX7_sees_16 h.1 rfl ?_
    refine jj_cald dX7_sees_19 h.2.2.2.2.1 (by omega) (by omega) ⟨by omega, by omega⟩ ?_
    refine j_tops (show ch ((pl : Nat) : Int).toNat = sg ch tn pl from hs.symm) ?_
    refine j_iload_n dX7_sees_20 rfl ?_
    refine j_iload_n dX7_sees_21 rfl ?_
    refine cl_X7_50 (As := [_, _, _]) rfl dX7_sees_22 (c_X7_in (rs (by omega) (by omega)) haR hbR) rfl ⟨by decide, by decide⟩ (Nat.le_of_ble_eq_true rfl) ⟨Nat.zero_le _, Nat.zero_le _⟩ (fun z22 σ22 hz22 => ?_)
    obtain ⟨hr22, hs22⟩ := hz22
    have hr22 := Eq.symm hr22
    have hs22 := Eq.symm hs22
    subst hr22
    subst hs22
    refine j_if_eq (tgt := 32) dX7_sees_25 (by decide) R_ite (fun q25 => ?_) (fun q25 => ?_)
    · skip
      have a25 := ne1 q25
      refine j_iconst dX7_sees_32 ?_
      exact j_zret dX7_sees_33 (by omega) ⟨_, rfl, (by first | rw [if_pos (by omega)] | rw [if_neg (by omega)]), rfl⟩
    · skip
      have a25 := nz1 q25
      refine j_iconst dX7_sees_28 ?_
      refine j_goto (tgt := 33) dX7_sees_29 (by decide) ?_
      exact j_zret dX7_sees_33 (by omega) ⟨_, rfl, (by first | rw [if_pos (by omega)] | rw [if_neg (by omega)]), rfl⟩
set_option maxRecDepth 100000 in
set_option maxHeartbeats 4000000 in
theorem c_X7_takes {l : Launch} {D : gD} {σ : Wd} {m n tn pl : Nat} {hs de : Int} {R P A ch rv W mk ls sp : Nat → Int} {c : Int} (h : RM D σ m n hs tn pl de R P A ch rv W mk ls sp) (hch : ∀ j, j < tn → 0 ≤ ch j ∧ ch j < 65536) (htn : tn ≤ 60) (hpl : pl ≤ tn) (hc0 : 0 ≤ c) (hcR : R32 c) : KX7_takes l D [.ref m, vi c] σ (fun x σ' => x = (if sg ch tn pl = c then 1 else 0) ∧ RQ D σ σ' m n hs tn (if sg ch tn pl = c then pl + 1 else pl) de R P A ch rv W mk ls sp ∧ (if sg ch tn pl = c then pl + 1 else pl) ≤ tn) := by
  have hsR := sg_R hch pl
  refine sp_of (by decide +kernel) (cat1 rfl) (Nat.le_of_ble_eq_true rfl) [some (.ref m), some (vi c), none] rfl (fun sz => ?_)
  refine j_aload_n dX7_takes_0 rfl ?_
  refine j_iload_n dX7_takes_1 rfl ?_
  refine j_iload_n dX7_takes_2 rfl ?_
  refine cl_X7_118 (As := [_, _]) rfl dX7_takes_3 (c_X7_sees h hch htn hpl hc0 hcR hcR) h.1 rfl ⟨by decide, by decide⟩ (Nat.le_of_ble_eq_true rfl) ⟨Nat.zero_le _, Nat.zero_le _⟩ (fun z3 σ3 hz3 => ?_)
  obtain ⟨hr3, hs3⟩ := hz3
  have hr3 := Eq.symm hr3
  have hs3 := Eq.symm hs3
  subst hr3
  subst hs3
  refine j_istore_n dX7_takes_6 (by decide) (by dsimp only [List.set] <;> rfl) ?_
  refine j_aload_n dX7_takes_7 rfl ?_
  refine j_dup dX7_takes_8 rfl ?_
  refine gf_X7_115 rfl dX7_takes_9 h.1 rfl ?_
  refine j_iload_n dX7_takes_12 rfl ?_
  refine j_if_eq (tgt := 20) dX7_takes_13 (by decide) R_ite (fun q13 => ?_) (fun q13 => ?_)
  · skip
    have a13 := ne1 q13
    refine j_iconst dX7_takes_20 ?_
    refine j_iadd dX7_takes_21 ?_
    refine pf_X7_115 rfl dX7_takes_22 h.1 rfl rfl (Nat.le_of_ble_eq_true rfl) ?_
    dsimp only [List.set]
    have hq := h.rq.own (n2 := n) (hs2 := hs) (tn2 := tn) (pl2 := pl) (de2 := de)
    refine j_iload_n dX7_takes_25 rfl ?_
    exact j_zret dX7_takes_26 Z_ite ⟨_, rfl, (by rw [if_neg a13, if_neg (by omega)]), by rw [if_neg (show ¬ sg ch tn pl = c by omega)]; exact ⟨by first | exact hq | simpa using hq, hpl⟩⟩
  · skip
    have a13 := nz1 q13
    refine j_iconst dX7_takes_16 ?_
    refine j_goto (tgt := 21) dX7_takes_17 (by decide) ?_
    refine j_iadd dX7_takes_21 ?_
    refine pf_X7_115 rfl dX7_takes_22 h.1 rfl rfl (Nat.le_of_ble_eq_true rfl) ?_
    dsimp only [List.set]
    have hq := h.rq.own (n2 := n) (hs2 := hs) (tn2 := tn) (pl2 := pl + 1) (de2 := de)
    refine j_iload_n dX7_takes_25 rfl ?_
    exact j_zret dX7_takes_26 Z_ite ⟨_, rfl, (by rw [if_pos a13, if_pos (by omega)]), by rw [if_pos (show sg ch tn pl = c by omega)]; exact ⟨hq, by omega⟩⟩
set_option maxRecDepth 100000 in
set_option maxHeartbeats 4000000 in
theorem c_X7_areLess {l : Launch} {D : gD} {σ : Wd} {m n tn pl : Nat} {hs de : Int} {R P A ch rv W mk ls sp : Nat → Int} {k : Nat} {p : Int} (h : RM D σ m n hs tn pl de R P A ch rv W mk ls sp) (hR : R 0 = p) (hp : 0 < p) (hp2 : p < 2147483648) (hk : k ≤ 16) (hrv : ∀ j, j < k → R32 (rv j)) : KX7_areLess l D [.ref m, vi k] σ (fun x σ' => x = (if mxF rv k < p then 1 else 0) ∧ σ' = σ) := by
  refine sp_of (by decide +kernel) (cat1 rfl) (Nat.le_of_ble_eq_true rfl) [some (.ref m), some (vi k), none, none] rfl (fun sz => ?_)
  refine j_iconst dX7_areLess_0 ?_
  refine j_istore_n dX7_areLess_1 (by decide) (by dsimp only [List.set] <;> rfl) ?_
  refine j_iconst dX7_areLess_2 ?_
  refine j_istore_n dX7_areLess_3 (by decide) (by dsimp only [List.set] <;> rfl) ?_
  have lp4 : ∀ (nn i : Nat) (x : Int), 17 - i < nn → i ≤ k → ((x = 1 ∧ ∀ j, j < i → rv j < p) ∨ (x = 0 ∧ ∃ j, j < i ∧ p ≤ rv j)) → J l D yX7_areLess cX7_areLess 4 (some .boolean) rmX7_areLess sz (AA σ sz) (QI D σ sz (fun x σ' => x = (if mxF rv k < p then 1 else 0) ∧ σ' = σ)) 0 0 4 [some (.ref m), some (vi k), some (vi x), some (vi i)] [] σ := by
    intro nn
    induction nn with
    | zero =>
      intro i x hnn hi hx
      exfalso
      omega
    | succ nn ih4 =>
      intro i x hnn hi hx
      have hxR : R32 x := by rcases hx with q | q <;> exact rs (by omega) (by omega)
      refine j_iload_n dX7_areLess_4 rfl ?_
      refine j_iload_n dX7_areLess_5 rfl ?_
      refine j_icmp_ge (tgt := 40) dX7_areLess_6 (by decide) ⟨by omega, by omega⟩ ⟨by omega, by omega⟩ (fun h6 => ?_) (fun h6 => ?_)
      · skip
        refine j_iload_n dX7_areLess_40 rfl ?_
        have hans : x = if mxF rv k < p then 1 else 0 := by
          rcases hx with q | q
          · rw [q.1, if_pos ((mxF_le (f := rv) (b := p) (by omega) k).mpr ⟨hp, fun j hj => q.2 j (by omega)⟩)]
          · obtain ⟨q0, j, q1, q2⟩ := q
            rw [q0, if_neg (fun u => by have := ((mxF_le (f := rv) (b := p) (by omega) k).mp u).2 j (by omega); omega)]
        exact j_zret dX7_areLess_41 (by rcases hx with q | q <;> omega) ⟨_, rfl, hans, rfl⟩
      · skip
        refine j_iload_n dX7_areLess_9 rfl ?_
        refine j_if_eq (tgt := 32) dX7_areLess_10 (by decide) hxR (fun h10 => ?_) (fun h10 => ?_)
        · skip
          refine j_iconst dX7_areLess_32 ?_
          refine j_istore_n dX7_areLess_33 (by decide) (by dsimp only [List.set] <;> rfl) ?_
          refine j_iinc dX7_areLess_34 rfl (by decide) (by dsimp only [List.set] <;> rfl) ?_
          refine j_goto (tgt := 4) dX7_areLess_37 (by decide) ?_
          have hih := ih4 (i + 1) 0 (by omega) (by omega) (Or.inr ⟨rfl, by
            rcases hx with q | q
            · omega
            · obtain ⟨-, j, a, b⟩ := q
              exact ⟨j, by omega, b⟩⟩)
          refine j_weak ?_ hih
          exact ⟨rfl, rfl, rfl, rfl, trivial⟩
        · skip
          refine j_aload_n dX7_areLess_13 rfl ?_
          refine gf_X7_23 rfl dX7_areLess_14 h.1 rfl ?_
          refine j_iload_n dX7_areLess_17 rfl ?_
          refine jj_iald dX7_areLess_18 h.2.2.2.2.2.1 (by omega) (by omega) ⟨by omega, by omega⟩ ?_
          refine j_tops (show _ = rv i from rfl) ?_
          refine j_aload_n dX7_areLess_19 rfl ?_
          refine gf_X7_7 rfl dX7_areLess_20 h.1 rfl ?_
          refine j_iconst dX7_areLess_23 ?_
          refine jj_iald dX7_areLess_24 h.2.1 (by omega) (by omega) ⟨by omega, by omega⟩ ?_
          refine j_tops (show R (0 : Int).toNat = p from hR) ?_
          refine j_icmp_ge (tgt := 32) dX7_areLess_25 (by decide) (hrv i (by omega)) ⟨by omega, by omega⟩ (fun h25 => ?_) (fun h25 => ?_)
          · skip
            refine j_iconst dX7_areLess_32 ?_
            refine j_istore_n dX7_areLess_33 (by decide) (by dsimp only [List.set] <;> rfl) ?_
            refine j_iinc dX7_areLess_34 rfl (by decide) (by dsimp only [List.set] <;> rfl) ?_
            refine j_goto (tgt := 4) dX7_areLess_37 (by decide) ?_
            have hih := ih4 (i + 1) 0 (by omega) (by omega) (Or.inr ⟨rfl, i, by omega, h25⟩)
            refine j_weak ?_ hih
            exact ⟨rfl, rfl, rfl, rfl, trivial⟩
          · skip
            refine j_iconst dX7_areLess_28 ?_
            refine j_goto (tgt := 33) dX7_areLess_29 (by decide) ?_
            refine j_istore_n dX7_areLess_33 (by decide) (by dsimp only [List.set] <;> rfl) ?_
            refine j_iinc dX7_areLess_34 rfl (by decide) (by dsimp only [List.set] <;> rfl) ?_
            refine j_goto (tgt := 4) dX7_areLess_37 (by decide) ?_
            have hih := ih4 (i + 1) 1 (by omega) (by omega) (Or.inl ⟨rfl, fun j hj => by
              rcases hx with q | q
              · rcases (show j < i ∨ j = i by omega) with a | a
                · exact q.2 j a
                · rw [a]; exact h25
              · exact absurd q.1 h10⟩)
            refine j_weak ?_ hih
            exact ⟨rfl, rfl, rfl, rfl, trivial⟩
  exact lp4 20 0 1 (by omega) (by omega) (Or.inl ⟨rfl, fun j hj => absurd hj (by omega)⟩)
set_option maxRecDepth 100000 in
set_option maxHeartbeats 4000000 in
theorem c_X7_readRow {l : Launch} {D : gD} {σ : Wd} {m n tn pl : Nat} {hs de : Int} {R P A ch rv W mk ls sp : Nat → Int} {fr many : Nat} (h : RM D σ m n hs tn pl de R P A ch rv W mk ls sp) (hch : ∀ j, j < tn → 0 ≤ ch j ∧ ch j < 65536) (htn : tn ≤ 60) (hpl : pl ≤ tn) (hfm : fr + many ≤ 16) : KX7_readRow l D [.ref m, vi fr, vi many] σ (fun x σ' => x = (if (rrw ch tn fr rv pl many).1 = true then 1 else 0) ∧ RQ D σ σ' m n hs tn ((rrw ch tn fr rv pl many).2.1) de R P A ch ((rrw ch tn fr rv pl many).2.2) W mk ls sp ∧ (rrw ch tn fr rv pl many).2.1 ≤ tn) := by
  refine sp_of (by decide +kernel) (cat1 rfl) (Nat.le_of_ble_eq_true rfl) [some (.ref m), some (vi fr), some (vi many), none, none, none] rfl (fun sz => ?_)
  refine j_iconst dX7_readRow_0 ?_
  refine j_istore_n dX7_readRow_1 (by decide) (by dsimp only [List.set] <;> rfl) ?_
  have lp2 : ∀ (nn k q : Nat) (w : Wd) (f : Nat → Int) (v4 v5 : Option Value), 17 - k < nn → k ≤ many → RQ D σ w m n hs tn q de R P A ch f W mk ls sp → rrw ch tn fr rv pl k = (true, q, f) → q ≤ tn → J l D yX7_readRow cX7_readRow 6 (some .boolean) rmX7_readRow sz (AA σ sz) (QI D σ sz (fun x σ' => x = (if (rrw ch tn fr rv pl many).1 = true then 1 else 0) ∧ RQ D σ σ' m n hs tn ((rrw ch tn fr rv pl many).2.1) de R P A ch ((rrw ch tn fr rv pl many).2.2) W mk ls sp ∧ (rrw ch tn fr rv pl many).2.1 ≤ tn)) 0 0 2 [some (.ref m), some (vi fr), some (vi many), some (vi k), v4, v5] [] w := by
    intro nn
    induction nn with
    | zero =>
      intro k q w f v4 v5 hnn hkm hw hk hq
      exfalso
      omega
    | succ nn ih2 =>
      intro k q w f v4 v5 hnn hkm hw hk hq
      refine j_iload_n dX7_readRow_2 rfl ?_
      refine j_iload_n dX7_readRow_3 rfl ?_
      refine j_icmp_ge (tgt := 136) dX7_readRow_4 (by decide) ⟨by omega, by omega⟩ ⟨by omega, by omega⟩ (fun h4 => ?_) (fun h4 => ?_)
      · skip
        refine j_iconst dX7_readRow_136 ?_
        rw [show k = many by omega] at hk
        exact j_zret dX7_readRow_137 (by omega) ⟨_, rfl, by rw [hk]; rfl, by rw [hk]; exact hw, by rw [hk]; exact hq⟩
      · skip
        obtain ⟨jm, hjm⟩ : ∃ j, many = k + 1 + j := ⟨many - (k + 1), by omega⟩
        have lp22 : ∀ (q1 : Nat) (w1 : Wd), RQ D σ w1 m n hs tn q1 de R P A ch f W mk ls sp → rrw ch tn fr rv pl (k + 1) = rdNum ch tn q1 (fr + k) f → q1 ≤ tn → J l D yX7_readRow cX7_readRow 6 (some .boolean) rmX7_readRow sz (AA σ sz) (QI D σ sz (fun x σ' => x = (if (rrw ch tn fr rv pl many).1 = true then 1 else 0) ∧ RQ D σ σ' m n hs tn ((rrw ch tn fr rv pl many).2.1) de R P A ch ((rrw ch tn fr rv pl many).2.2) W mk ls sp ∧ (rrw ch tn fr rv pl many).2.1 ≤ tn)) 0 0 22 [some (.ref m), some (vi fr), some (vi many), some (vi k), v4, v5] [] w1 := by
          intro q1 w1 hw1 hst hq1
          refine j_aload_n dX7_readRow_22 rfl ?_
          refine j_bipush dX7_readRow_23 (by decide) ?_
          refine j_bipush dX7_readRow_25 (by decide) ?_
          refine cl_X7_118 (As := [_, _]) rfl dX7_readRow_27 (c_X7_sees hw1.2 hch htn hq1 (by omega) (rs (by omega) (by omega)) (rs (by omega) (by omega))) hw1.2.1 rfl ⟨by decide, by decide⟩ (Nat.le_of_ble_eq_true rfl) ⟨Nat.zero_le _, Nat.zero_le _⟩ (fun z27 σ27 hz27 => ?_)
          obtain ⟨hr27, hs27⟩ := hz27
          have hr27 := Eq.symm hr27
          have hs27 := Eq.symm hs27
          subst hr27
          subst hs27
          refine j_if_ne (tgt := 35) dX7_readRow_30 (by decide) R_ite (fun q30 => ?_) (fun q30 => ?_)
          · skip
            have a30 := nz1 q30
            refine j_aload_n dX7_readRow_35 rfl ?_
            refine gf_X7_19 rfl dX7_readRow_36 hw1.2.1 rfl ?_
            refine j_aload_n dX7_readRow_39 rfl ?_
            have s0 := sg_R hch q1
            have s1 := sg_R hch (q1 + 1)
            have s2 := sg_R hch (q1 + 2)
            have hqn : q1 < tn := s0.2.2 (by omega)
            refine gf_X7_115 rfl dX7_readRow_40 hw1.2.1 rfl ?_
            refine jj_cald dX7_readRow_43 hw1.2.2.2.2.2.1 (by omega) (by omega) ⟨by omega, by omega⟩ ?_
            refine j_tops (show ch ((q1 : Nat) : Int).toNat = sg ch tn q1 from (if_pos hqn).symm) ?_
            refine j_bipush dX7_readRow_44 (by decide) ?_
            refine j_isub dX7_readRow_46 ?_
            refine j_istore dX7_readRow_47 (by decide) (by dsimp only [List.set] <;> rfl) ?_
            refine j_aload_n dX7_readRow_49 rfl ?_
            refine j_dup dX7_readRow_50 rfl ?_
            refine gf_X7_115 rfl dX7_readRow_51 hw1.2.1 rfl ?_
            refine j_iconst dX7_readRow_54 ?_
            refine j_iadd dX7_readRow_55 ?_
            refine pf_X7_115 rfl dX7_readRow_56 hw1.2.1 rfl rfl (Nat.le_of_ble_eq_true rfl) ?_
            dsimp only [List.set]
            have hw2 := hw1.own (n2 := n) (hs2 := hs) (tn2 := tn) (pl2 := q1 + 1) (de2 := de)
            refine j_iconst dX7_readRow_59 ?_
            refine j_istore dX7_readRow_60 (by decide) (by dsimp only [List.set] <;> rfl) ?_
            refine j_iload dX7_readRow_62 rfl ?_
            refine j_iconst dX7_readRow_64 ?_
            refine j_icmp_ge (tgt := 120) dX7_readRow_65 (by decide) ⟨by omega, by omega⟩ ⟨by omega, by omega⟩ (fun h65 => ?_) (fun h65 => ?_)
            · skip
              exact absurd h65 (by omega)
            · skip
              refine j_iload dX7_readRow_68 rfl ?_
              refine j_if_le (tgt := 120) dX7_readRow_70 (by decide) (rs (by omega) (by omega)) (fun h70 => ?_) (fun h70 => ?_)
              · skip
                have hnv : nVal ch tn q1 = ((sg ch tn q1 - 48), q1 + 1) := by
                  unfold nVal
                  rw [if_pos (by omega)]
                refine j_aload_n dX7_readRow_120 rfl ?_
                refine gf_X7_23 rfl dX7_readRow_121 hw2.2.1 rfl ?_
                refine j_iload_n dX7_readRow_124 rfl ?_
                refine j_iload_n dX7_readRow_125 rfl ?_
                refine j_iadd dX7_readRow_126 ?_
                refine j_iload dX7_readRow_127 rfl ?_
                rw [show (fr : Int) + (k : Int) = ((fr + k : Nat) : Int) from rfl]
                refine jj_iast dX7_readRow_129 hw2.2.2.2.2.2.2.1 (by omega) (by omega) ⟨by omega, by omega⟩ (fun e129 q129 => ?_)
                have hx5 := hw2.read q129
                refine j_iinc dX7_readRow_130 rfl (by decide) (by dsimp only [List.set] <;> rfl) ?_
                refine j_goto (tgt := 2) dX7_readRow_133 (by decide) ?_
                have hih := ih2 (k + 1) _ _ _ (some (vi (sg ch tn q1 - 48))) (some (vi 1)) (by omega) (by omega) hx5 (hst.trans ((rdNum_y a30).trans (by rw [hnv]; rfl))) (by omega)
                refine j_weak ?_ hih
                exact ⟨rfl, rfl, rfl, rfl, rfl, rfl, trivial⟩
              · skip
                refine j_aload_n dX7_readRow_73 rfl ?_
                refine j_bipush dX7_readRow_74 (by decide) ?_
                refine j_bipush dX7_readRow_76 (by decide) ?_
                refine cl_X7_118 (As := [_, _]) rfl dX7_readRow_78 (c_X7_sees hw2.2 hch htn (by omega) (by omega) (rs (by omega) (by omega)) (rs (by omega) (by omega))) hw2.2.1 rfl ⟨by decide, by decide⟩ (Nat.le_of_ble_eq_true rfl) ⟨Nat.zero_le _, Nat.zero_le _⟩ (fun z78 σ78 hz78 => ?_)
                obtain ⟨hr78, hs78⟩ := hz78
                have hr78 := Eq.symm hr78
                have hs78 := Eq.symm hs78
                subst hr78
                subst hs78
                refine j_if_eq (tgt := 120) dX7_readRow_81 (by decide) R_ite (fun q81 => ?_) (fun q81 => ?_)
                · skip
                  have a81 := ne1 q81
                  have hnv : nVal ch tn q1 = ((sg ch tn q1 - 48), q1 + 1) := by
                    unfold nVal
                    rw [if_neg (by omega), if_neg a81]
                  refine j_aload_n dX7_readRow_120 rfl ?_
                  refine gf_X7_23 rfl dX7_readRow_121 hw2.2.1 rfl ?_
                  refine j_iload_n dX7_readRow_124 rfl ?_
                  refine j_iload_n dX7_readRow_125 rfl ?_
                  refine j_iadd dX7_readRow_126 ?_
                  refine j_iload dX7_readRow_127 rfl ?_
                  rw [show (fr : Int) + (k : Int) = ((fr + k : Nat) : Int) from rfl]
                  refine jj_iast dX7_readRow_129 hw2.2.2.2.2.2.2.1 (by omega) (by omega) ⟨by omega, by omega⟩ (fun e129 q129 => ?_)
                  have hx5 := hw2.read q129
                  refine j_iinc dX7_readRow_130 rfl (by decide) (by dsimp only [List.set] <;> rfl) ?_
                  refine j_goto (tgt := 2) dX7_readRow_133 (by decide) ?_
                  have hih := ih2 (k + 1) _ _ _ (some (vi (sg ch tn q1 - 48))) (some (vi 1)) (by omega) (by omega) hx5 (hst.trans ((rdNum_y a30).trans (by rw [hnv]; rfl))) (by omega)
                  refine j_weak ?_ hih
                  exact ⟨rfl, rfl, rfl, rfl, rfl, rfl, trivial⟩
                · skip
                  have a81 := nz1 q81
                  refine j_bipush dX7_readRow_84 (by decide) ?_
                  refine j_iload dX7_readRow_86 rfl ?_
                  refine j_imul dX7_readRow_88 ?_
                  refine j_aload_n dX7_readRow_89 rfl ?_
                  refine gf_X7_19 rfl dX7_readRow_90 hw2.2.1 rfl ?_
                  refine j_aload_n dX7_readRow_93 rfl ?_
                  have hqn1 : q1 + 1 < tn := s1.2.2 (by omega)
                  refine gf_X7_115 rfl dX7_readRow_94 hw2.2.1 rfl ?_
                  refine jj_cald dX7_readRow_97 hw2.2.2.2.2.2.1 (by omega) (by omega) ⟨by omega, by omega⟩ ?_
                  refine j_tops (show ch ((q1 + 1 : Nat) : Int).toNat = sg ch tn (q1 + 1) from (if_pos hqn1).symm) ?_
                  refine j_iadd dX7_readRow_98 ?_
                  refine j_bipush dX7_readRow_99 (by decide) ?_
                  refine j_isub dX7_readRow_101 ?_
                  refine j_istore dX7_readRow_102 (by decide) (by dsimp only [List.set] <;> rfl) ?_
                  refine j_aload_n dX7_readRow_104 rfl ?_
                  refine j_dup dX7_readRow_105 rfl ?_
                  refine gf_X7_115 rfl dX7_readRow_106 hw2.2.1 rfl ?_
                  refine j_iconst dX7_readRow_109 ?_
                  refine j_iadd dX7_readRow_110 ?_
                  refine pf_X7_115 rfl dX7_readRow_111 hw2.2.1 rfl rfl (Nat.le_of_ble_eq_true rfl) ?_
                  dsimp only [List.set]
                  have hw3 := hw2.own (n2 := n) (hs2 := hs) (tn2 := tn) (pl2 := q1 + 2) (de2 := de)
                  refine j_iinc dX7_readRow_114 rfl (by decide) (by dsimp only [List.set] <;> rfl) ?_
                  refine j_goto (tgt := 62) dX7_readRow_117 (by decide) ?_
                  refine j_iload dX7_readRow_62 rfl ?_
                  refine j_iconst dX7_readRow_64 ?_
                  refine j_icmp_ge (tgt := 120) dX7_readRow_65 (by decide) ⟨by omega, by omega⟩ ⟨by omega, by omega⟩ (fun h65 => ?_) (fun h65 => ?_)
                  · skip
                    exact absurd h65 (by omega)
                  · skip
                    refine j_iload dX7_readRow_68 rfl ?_
                    refine j_if_le (tgt := 120) dX7_readRow_70 (by decide) (rs (by omega) (by omega)) (fun h70b => ?_) (fun h70b => ?_)
                    · skip
                      exact absurd h70b (by omega)
                    · skip
                      refine j_aload_n dX7_readRow_73 rfl ?_
                      refine j_bipush dX7_readRow_74 (by decide) ?_
                      refine j_bipush dX7_readRow_76 (by decide) ?_
                      refine cl_X7_118 (As := [_, _]) rfl dX7_readRow_78 (c_X7_sees hw3.2 hch htn (by omega) (by omega) (rs (by omega) (by omega)) (rs (by omega) (by omega))) hw3.2.1 rfl ⟨by decide, by decide⟩ (Nat.le_of_ble_eq_true rfl) ⟨Nat.zero_le _, Nat.zero_le _⟩ (fun z78 σ78 hz78 => ?_)
                      obtain ⟨hr78, hs78⟩ := hz78
                      have hr78 := Eq.symm hr78
                      have hs78 := Eq.symm hs78
                      subst hr78
                      subst hs78
                      refine j_if_eq (tgt := 120) dX7_readRow_81 (by decide) R_ite (fun q81b => ?_) (fun q81b => ?_)
                      · skip
                        have a81b := ne1 q81b
                        have hnv : nVal ch tn q1 = ((10 * (sg ch tn q1 - 48) + sg ch tn (q1 + 1) - 48), q1 + 2) := by
                          unfold nVal
                          rw [if_neg (by omega), if_pos a81, if_neg a81b, Int.mul_comm 10]
                          congr 1
                          omega
                        refine j_aload_n dX7_readRow_120 rfl ?_
                        refine gf_X7_23 rfl dX7_readRow_121 hw3.2.1 rfl ?_
                        refine j_iload_n dX7_readRow_124 rfl ?_
                        refine j_iload_n dX7_readRow_125 rfl ?_
                        refine j_iadd dX7_readRow_126 ?_
                        refine j_iload dX7_readRow_127 rfl ?_
                        rw [show (fr : Int) + (k : Int) = ((fr + k : Nat) : Int) from rfl]
                        refine jj_iast dX7_readRow_129 hw3.2.2.2.2.2.2.1 (by omega) (by omega) ⟨by omega, by omega⟩ (fun e129 q129 => ?_)
                        have hx5 := hw3.read q129
                        refine j_iinc dX7_readRow_130 rfl (by decide) (by dsimp only [List.set] <;> rfl) ?_
                        refine j_goto (tgt := 2) dX7_readRow_133 (by decide) ?_
                        have hih := ih2 (k + 1) _ _ _ (some (vi (10 * (sg ch tn q1 - 48) + sg ch tn (q1 + 1) - 48))) (some (vi 2)) (by omega) (by omega) hx5 (hst.trans ((rdNum_y a30).trans (by rw [hnv]; rfl))) (by omega)
                        refine j_weak ?_ hih
                        exact ⟨rfl, rfl, rfl, rfl, rfl, rfl, trivial⟩
                      · skip
                        have a81b := nz1 q81b
                        refine j_bipush dX7_readRow_84 (by decide) ?_
                        refine j_iload dX7_readRow_86 rfl ?_
                        refine j_imul dX7_readRow_88 ?_
                        refine j_aload_n dX7_readRow_89 rfl ?_
                        refine gf_X7_19 rfl dX7_readRow_90 hw3.2.1 rfl ?_
                        refine j_aload_n dX7_readRow_93 rfl ?_
                        have hqn2 : q1 + 2 < tn := s2.2.2 (by omega)
                        refine gf_X7_115 rfl dX7_readRow_94 hw3.2.1 rfl ?_
                        refine jj_cald dX7_readRow_97 hw3.2.2.2.2.2.1 (by omega) (by omega) ⟨by omega, by omega⟩ ?_
                        refine j_tops (show ch ((q1 + 2 : Nat) : Int).toNat = sg ch tn (q1 + 2) from (if_pos hqn2).symm) ?_
                        refine j_iadd dX7_readRow_98 ?_
                        refine j_bipush dX7_readRow_99 (by decide) ?_
                        refine j_isub dX7_readRow_101 ?_
                        refine j_istore dX7_readRow_102 (by decide) (by dsimp only [List.set] <;> rfl) ?_
                        refine j_aload_n dX7_readRow_104 rfl ?_
                        refine j_dup dX7_readRow_105 rfl ?_
                        refine gf_X7_115 rfl dX7_readRow_106 hw3.2.1 rfl ?_
                        refine j_iconst dX7_readRow_109 ?_
                        refine j_iadd dX7_readRow_110 ?_
                        refine pf_X7_115 rfl dX7_readRow_111 hw3.2.1 rfl rfl (Nat.le_of_ble_eq_true rfl) ?_
                        dsimp only [List.set]
                        have hw4 := hw3.own (n2 := n) (hs2 := hs) (tn2 := tn) (pl2 := q1 + 3) (de2 := de)
                        refine j_iinc dX7_readRow_114 rfl (by decide) (by dsimp only [List.set] <;> rfl) ?_
                        refine j_goto (tgt := 62) dX7_readRow_117 (by decide) ?_
                        refine j_iload dX7_readRow_62 rfl ?_
                        refine j_iconst dX7_readRow_64 ?_
                        refine j_icmp_ge (tgt := 120) dX7_readRow_65 (by decide) ⟨by omega, by omega⟩ ⟨by omega, by omega⟩ (fun h65 => ?_) (fun h65 => ?_)
                        · skip
                          have hnv : nVal ch tn q1 = ((10 * (10 * (sg ch tn q1 - 48) + sg ch tn (q1 + 1) - 48) + sg ch tn (q1 + 2) - 48), q1 + 3) := by
                            unfold nVal
                            rw [if_neg (by omega), if_pos a81, if_pos a81b, Int.mul_comm 10, Int.mul_comm 10]
                            congr 1
                            omega
                          refine j_aload_n dX7_readRow_120 rfl ?_
                          refine gf_X7_23 rfl dX7_readRow_121 hw4.2.1 rfl ?_
                          refine j_iload_n dX7_readRow_124 rfl ?_
                          refine j_iload_n dX7_readRow_125 rfl ?_
                          refine j_iadd dX7_readRow_126 ?_
                          refine j_iload dX7_readRow_127 rfl ?_
                          rw [show (fr : Int) + (k : Int) = ((fr + k : Nat) : Int) from rfl]
                          refine jj_iast dX7_readRow_129 hw4.2.2.2.2.2.2.1 (by omega) (by omega) ⟨by omega, by omega⟩ (fun e129 q129 => ?_)
                          have hx5 := hw4.read q129
                          refine j_iinc dX7_readRow_130 rfl (by decide) (by dsimp only [List.set] <;> rfl) ?_
                          refine j_goto (tgt := 2) dX7_readRow_133 (by decide) ?_
                          have hih := ih2 (k + 1) _ _ _ (some (vi (10 * (10 * (sg ch tn q1 - 48) + sg ch tn (q1 + 1) - 48) + sg ch tn (q1 + 2) - 48))) (some (vi 3)) (by omega) (by omega) hx5 (hst.trans ((rdNum_y a30).trans (by rw [hnv]; rfl))) (by omega)
                          refine j_weak ?_ hih
                          exact ⟨rfl, rfl, rfl, rfl, rfl, rfl, trivial⟩
                        · skip
                          exact absurd h65 (by omega)
          · skip
            have a30 := ne1 q30
            refine j_iconst dX7_readRow_33 ?_
            have hst0 := hst.trans (rdNum_n a30)
            have hst1 := rrw_stay hst0 jm
            rw [← hjm] at hst1
            exact j_zret dX7_readRow_34 (by omega) ⟨_, rfl, by rw [hst1]; rfl, by rw [hst1]; exact hw1, by rw [hst1]; exact hq1⟩
        refine j_iload_n dX7_readRow_7 rfl ?_
        refine j_if_le (tgt := 22) dX7_readRow_8 (by decide) ⟨by omega, by omega⟩ (fun h8 => ?_) (fun h8 => ?_)
        · skip
          exact lp22 q _ hw (by rw [rrw_go hk, if_pos (by omega)]) hq
        · skip
          refine j_aload_n dX7_readRow_11 rfl ?_
          refine j_bipush dX7_readRow_12 (by decide) ?_
          refine cl_X7_121 (As := [_]) rfl dX7_readRow_14 (c_X7_takes hw.2 hch htn hq (by omega) (rs (by omega) (by omega))) hw.2.1 rfl ⟨by decide, by decide⟩ (Nat.le_of_ble_eq_true rfl) ⟨Nat.zero_le _, Nat.zero_le _⟩ (fun z14 σ14 hz14 => ?_)
          obtain ⟨hr14, hq14, hle14⟩ := hz14
          have hq14 := hw.tr hq14
          have hr14 := Eq.symm hr14
          subst hr14
          refine j_if_ne (tgt := 22) dX7_readRow_17 (by decide) R_ite (fun q17 => ?_) (fun q17 => ?_)
          · skip
            have a17 := nz1 q17
            rw [if_pos a17] at hq14 hle14
            exact lp22 (q + 1) _ hq14 (by rw [rrw_go hk, if_neg (by omega), if_pos a17]) hle14
          · skip
            have a17 := ne1 q17
            refine j_iconst dX7_readRow_20 ?_
            have hst0 : rrw ch tn fr rv pl (k + 1) = (false, q, f) := by rw [rrw_go hk, if_neg (by omega), if_neg a17]
            have hst1 := rrw_stay hst0 jm
            rw [← hjm] at hst1
            rw [if_neg a17] at hq14
            exact j_zret dX7_readRow_21 (by omega) ⟨_, rfl, by rw [hst1]; rfl, by rw [hst1]; exact hq14, by rw [hst1]; exact hq⟩
  exact lp2 20 0 pl _ rv none none (by omega) (by omega) h.rq rfl hpl

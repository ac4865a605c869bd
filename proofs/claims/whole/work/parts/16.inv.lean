/-! ===== contracts: Elimination, its small methods ===== -/
theorem j_aastA {l : Launch} {D : gD} {y : MethodName} {cc : ByteArray} {nL : Nat} {rt : Option FieldType} {R : Room} {sz : Nat} {A : Nat → Prop} {QE : List Frame → Array Value → State → State → Prop} {k n pc : Nat} {L : List (Option Value)} {st : List Value} {σ : Wd} {a N v M : Nat} {f : Nat → Option Nat} {g : Nat → Int} {z : Int} (hdg : decode cc pc = .ok (.aastore, 1)) (hσ : σ a = some (qa D 5 N f)) (hv : σ v = some (ia D M g)) (h0 : 0 ≤ z) (h1 : z < N) (hz : R32 z) (kk : J l D y cc nL rt R sz A QE k n (pc + 1) L st (wup σ a (qa D 5 N (fup f z.toNat (some v))))) : J l D y cc nL rt R sz A QE k n pc L (.ref v :: vi z :: .ref a :: st) σ := by
  intro p e s m args below meth c Cx H locs ls hl hW hd hq hS
  obtain ⟨ws, hP, hD, hs⟩ := id hW
  obtain ⟨q0, hq0⟩ := (hs a _).mp hσ
  obtain ⟨q1, hq1⟩ := (hs v _).mp hv
  have hin := iI_vin h0 h1 hz
  have hlt : (iI z).toNatClampNeg < N := Nat.not_le.mp fun q => hin (Or.inr q)
  have hneg : ¬ iI z < 0 := fun q => hin (Or.inl q)
  obtain ⟨kR, kI, x1, x2, x3, x4, -⟩ := Cx.2.2.2.2.2.2.2.2.1.2
  have hDA := va_DA (A := A) hD hs hd
  refine W.aast Cx.1 Cx.2.1 (hP q0 _ hq0) (fun q h => by cases h) (fun h => by cases h) x1 x2 rfl x3 ⟨hneg, by show _ < (arrV _ _ _).slots.size; rw [arrV_size]; exact hlt⟩ (hP q1 _ hq1) (fun q h => by cases h) x3 x4 rfl rfl hdg fun H1 e1 z1 oq => ?_
  have hP1 : va_P D.1 vwCl (ws.set q0 (a, qa D 5 N (fup f z.toNat (some v)))) H1 := by
    refine hP.set hDA hq0 ?_ oq
    show H1[a]? = some (vp_cell _ _)
    rw [e1, vp_cell_q, vp_cell_q, arrV_store, iI_cl hz]
    congr 2
    funext q
    by_cases hq : q = z.toNat
    · subst hq
      simp [updV, fup, va_rf]
    · simp [updV, fup, hq]
  exact kk p e s m args below meth c Cx H1 _ ls hl (HW.set' hs hq0 hP1 (hDA.set hq0)) (wup_dom hd hσ) hq (hS.put z1 oq (hDA.2 q0 _ hq0))
theorem jj_aastA {l : Launch} {D : gD} {y : MethodName} {cc : ByteArray} {nL : Nat} {rt : Option FieldType} {R : Room} {sz : Nat} {A : Nat → Prop} {QE : List Frame → Array Value → State → State → Prop} {k n pc : Nat} {L : List (Option Value)} {st : List Value} {σ : Wd} {a N v M : Nat} {f : Nat → Nat} {g : Nat → Int} {z : Int} (hdg : decode cc pc = .ok (.aastore, 1)) (hσ : QA D 5 σ a N f) (hv : IA D σ v M g) (h0 : 0 ≤ z) (h1 : z < N) (hz : R32 z) (kk : ∀ e : va_E, QA D 5 (wup σ a e) a N (fup f z.toNat v) → J l D y cc nL rt R sz A QE k n (pc + 1) L st (wup σ a e)) : J l D y cc nL rt R sz A QE k n pc L (.ref v :: vi z :: .ref a :: st) σ := by
  obtain ⟨F, q1, q2⟩ := hσ
  obtain ⟨G, q3, q4⟩ := hv
  refine j_aastA hdg q1 q3 h0 h1 hz (kk _ ⟨_, wup_s _ _ _, fun j hj => ?_⟩)
  unfold fup
  split
  · rfl
  · exact q2 j hj
/-- inverses by Fermat -/
def fermL (p : Int) : Nat → Int → Int → Int → Int
  | 0, a, _, _ => a
  | k + 1, a, q, e => if e ≤ 0 then a else fermL p k (if e % 2 = 1 then (a * q) % p else a) ((q * q) % p) (e / 2)
def inv (p v : Int) : Int := fermL p 8 1 v (p - 2)
theorem fermL_0 (p a q e : Int) (h : e ≤ 0) : ∀ k, fermL p k a q e = a
  | 0 => rfl
  | k + 1 => by
    show (if e ≤ 0 then a else _) = a
    rw [if_pos h]
theorem fermL_s (p a q e : Int) (h : 0 < e) (k : Nat) : fermL p (k + 1) a q e = fermL p k (if e % 2 = 1 then (a * q) % p else a) ((q * q) % p) (e / 2) := by
  show (if e ≤ 0 then a else _) = _
  rw [if_neg (by omega)]
theorem fermL_R {p : Int} (hp : 0 < p) : ∀ (k : Nat) (a q e : Int), 0 ≤ a → a < p → 0 ≤ fermL p k a q e ∧ fermL p k a q e < p
  | 0, a, _, _, h0, h1 => ⟨h0, h1⟩
  | k + 1, a, q, e, h0, h1 => by
    show 0 ≤ (if e ≤ 0 then a else _) ∧ (if e ≤ 0 then a else _) < p
    split
    · exact ⟨h0, h1⟩
    · have h := emod_R (v := a * q) hp
      split
      · exact fermL_R hp k _ _ _ h.1 h.2
      · exact fermL_R hp k _ _ _ h0 h1
theorem inv_R {p v : Int} (hp : 2 ≤ p) : 0 ≤ inv p v ∧ inv p v < p := fermL_R (by omega) 8 1 v (p - 2) (by omega) (by omega)
theorem mul_R {a b : Int} {m n : Int} (h0 : 0 ≤ a) (h1 : a ≤ m) (h2 : 0 ≤ b) (h3 : b ≤ n) (hm : 0 ≤ m) : 0 ≤ a * b ∧ a * b ≤ m * n := ⟨Int.mul_nonneg h0 h2, Int.mul_le_mul h1 h3 h2 hm⟩
set_option maxRecDepth 100000 in
set_option maxHeartbeats 4000000 in
theorem c_X6_inverse {l : Launch} {D : gD} {σ : Wd} {v p : Int} (hv0 : 0 ≤ v) (hv1 : v < p) (hp : 2 ≤ p) (hp2 : p ≤ 251) : KX6_inverse l D [vi v, vi p] σ (fun r σ' => r = inv p v ∧ σ' = σ) := by
  refine sp_of (by decide +kernel) (cat1 rfl) (Nat.le_of_ble_eq_true rfl) [some (vi v), some (vi p), none, none, none] rfl (fun sz => ?_)
  refine j_iconst dX6_inverse_0 ?_
  refine j_istore_n dX6_inverse_1 (by decide) (by dsimp only [List.set] <;> rfl) ?_
  refine j_iload_n dX6_inverse_2 rfl ?_
  refine j_istore_n dX6_inverse_3 (by decide) (by dsimp only [List.set] <;> rfl) ?_
  refine j_iload_n dX6_inverse_4 rfl ?_
  refine j_iconst dX6_inverse_5 ?_
  refine j_isub dX6_inverse_6 ?_
  refine j_istore dX6_inverse_7 (by decide) (by dsimp only [List.set] <;> rfl) ?_
  have lp9 : ∀ (nn k : Nat) (a q e : Int), k < nn → e < 2 ^ k → 0 ≤ a → a < p → 0 ≤ q → q < p → 0 ≤ e → e ≤ 251 → fermL p k a q e = inv p v → J l D yX6_inverse cX6_inverse 5 (some .int) rmX6_inverse sz (AA σ sz) (QI D σ sz (fun r σ' => r = inv p v ∧ σ' = σ)) 0 0 9 [some (vi v), some (vi p), some (vi a), some (vi q), some (vi e)] [] σ := by
    intro nn
    induction nn with
    | zero =>
      intro k a q e hk
      exact absurd hk (by omega)
    | succ nn ih9 =>
      intro k a q e hk he ha0 ha1 hq0 hq1 he0 he1 hf
      have haq := mul_R (m := 251) (n := 251) ha0 (by omega) hq0 (by omega) (by omega)
      have hqq := mul_R (m := 251) (n := 251) hq0 (by omega) hq0 (by omega) (by omega)
      have em1 := emod_R (v := a * q) (p := p) (by omega)
      have em2 := emod_R (v := q * q) (p := p) (by omega)
      refine j_iload dX6_inverse_9 rfl ?_
      refine j_if_le (tgt := 47) dX6_inverse_11 (by decide) ⟨by omega, by omega⟩ (fun h11 => ?_) (fun h11 => ?_)
      · skip
        refine j_iload_n dX6_inverse_47 rfl ?_
        exact j_iret dX6_inverse_48 ⟨_, rfl, ⟨by rw [← hf, fermL_0 _ _ _ _ (by omega)], rfl⟩⟩
      · skip
        refine j_iload dX6_inverse_14 rfl ?_
        refine j_iconst dX6_inverse_16 ?_
        refine j_irem dX6_inverse_17 ⟨by omega, by omega⟩ ⟨by omega, by omega⟩ (by omega) ?_
        refine j_iconst dX6_inverse_18 ?_
        refine j_icmp_ne (tgt := 30) dX6_inverse_19 (by decide) (by rw [tmod_pos (by omega)]; exact ⟨by omega, by omega⟩) ⟨by omega, by omega⟩ (fun h19 => ?_) (fun h19 => ?_)
        · skip
          refine j_iload_n dX6_inverse_30 rfl ?_
          refine j_iload_n dX6_inverse_31 rfl ?_
          refine j_imul dX6_inverse_32 ?_
          refine j_iload_n dX6_inverse_33 rfl ?_
          refine cl_X6_128 (As := [_, _]) rfl dX6_inverse_34 (c_X6_remainder (rs (by omega) (by omega)) hp (by omega)) rfl ⟨by decide, by decide⟩ (Nat.le_of_ble_eq_true rfl) ⟨Nat.zero_le _, Nat.zero_le _⟩ (fun z34 σ34 hz34 => ?_)
          obtain ⟨hr34, hs34⟩ := hz34
          have hr34 := Eq.symm hr34
          have hs34 := Eq.symm hs34
          subst hr34
          subst hs34
          refine j_istore_n dX6_inverse_37 (by decide) (by dsimp only [List.set] <;> rfl) ?_
          refine j_iload dX6_inverse_38 rfl ?_
          refine j_iconst dX6_inverse_40 ?_
          refine j_idiv dX6_inverse_41 ⟨by omega, by omega⟩ ⟨by omega, by omega⟩ (by omega) ?_
          refine j_istore dX6_inverse_42 (by decide) (by dsimp only [List.set] <;> rfl) ?_
          refine j_goto (tgt := 9) dX6_inverse_44 (by decide) ?_
          cases k with
          | zero => exact absurd he (by omega)
          | succ k =>
            rw [fermL_s _ _ _ _ (by omega)] at hf
            rw [Int.pow_succ] at he
            rw [tmod_pos (by omega)] at h19
            refine ih9 k _ _ _ (by omega) (by rw [ediv_t (by omega)]; omega) (by omega) (by omega) (by omega) (by omega) (by rw [ediv_t (by omega)]; omega) (by rw [ediv_t (by omega)]; omega) ?_
            rw [← hf, ediv_t (by omega)]
            first | rw [if_pos h19] | rw [if_neg h19]
        · skip
          refine j_iload_n dX6_inverse_22 rfl ?_
          refine j_iload_n dX6_inverse_23 rfl ?_
          refine j_imul dX6_inverse_24 ?_
          refine j_iload_n dX6_inverse_25 rfl ?_
          refine cl_X6_128 (As := [_, _]) rfl dX6_inverse_26 (c_X6_remainder (rs (by omega) (by omega)) hp (by omega)) rfl ⟨by decide, by decide⟩ (Nat.le_of_ble_eq_true rfl) ⟨Nat.zero_le _, Nat.zero_le _⟩ (fun z26 σ26 hz26 => ?_)
          obtain ⟨hr26, hs26⟩ := hz26
          have hr26 := Eq.symm hr26
          have hs26 := Eq.symm hs26
          subst hr26
          subst hs26
          refine j_istore_n dX6_inverse_29 (by decide) (by dsimp only [List.set] <;> rfl) ?_
          refine j_iload_n dX6_inverse_30 rfl ?_
          refine j_iload_n dX6_inverse_31 rfl ?_
          refine j_imul dX6_inverse_32 ?_
          refine j_iload_n dX6_inverse_33 rfl ?_
          refine cl_X6_128 (As := [_, _]) rfl dX6_inverse_34 (c_X6_remainder (rs (by omega) (by omega)) hp (by omega)) rfl ⟨by decide, by decide⟩ (Nat.le_of_ble_eq_true rfl) ⟨Nat.zero_le _, Nat.zero_le _⟩ (fun z34 σ34 hz34 => ?_)
          obtain ⟨hr34, hs34⟩ := hz34
          have hr34 := Eq.symm hr34
          have hs34 := Eq.symm hs34
          subst hr34
          subst hs34
          refine j_istore_n dX6_inverse_37 (by decide) (by dsimp only [List.set] <;> rfl) ?_
          refine j_iload dX6_inverse_38 rfl ?_
          refine j_iconst dX6_inverse_40 ?_
          refine j_idiv dX6_inverse_41 ⟨by omega, by omega⟩ ⟨by omega, by omega⟩ (by omega) ?_
          refine j_istore dX6_inverse_42 (by decide) (by dsimp only [List.set] <;> rfl) ?_
          refine j_goto (tgt := 9) dX6_inverse_44 (by decide) ?_
          cases k with
          | zero => exact absurd he (by omega)
          | succ k =>
            rw [fermL_s _ _ _ _ (by omega)] at hf
            rw [Int.pow_succ] at he
            rw [tmod_pos (by omega)] at h19
            refine ih9 k _ _ _ (by omega) (by rw [ediv_t (by omega)]; omega) (by omega) (by omega) (by omega) (by omega) (by rw [ediv_t (by omega)]; omega) (by rw [ediv_t (by omega)]; omega) ?_
            rw [← hf, ediv_t (by omega)]
            first | rw [if_pos h19] | rw [if_neg h19]
  exact lp9 9 8 1 v (p - 2) (by omega) (by omega) (by omega) (by omega) (by omega) (by omega) (by omega) (by omega) rfl
/-- an Elimination at e, its rows behind it in any order -/
def PermE (e : Nat) (f : Nat → Nat) : Prop := (∀ j, j < 8 → e + 2 ≤ f j ∧ f j < e + 10) ∧ ∀ i j, i < 8 → j < 8 → f i = f j → i = j
abbrev Mx : Type := Nat → Nat → Int
def EA (D : gD) (w : Wd) (e : Nat) (p z r d : Int) (f : Nat → Nat) (m : Mx) : Prop := w e = some (.inr (0, [.ref (e + 1), vi p, vi z, vi r, vi d])) ∧ QA D 5 w (e + 1) 8 f ∧ PermE e f ∧ ∀ j, j < 8 → IA D w (f j) 9 (m j)
theorem EA.moved {D : gD} {lo hi : Nat} {σ w : Wd} {e : Nat} {p z r d : Int} {f : Nat → Nat} {m : Mx} (h : EA D σ e p z r d f m) (ho : OffR lo hi σ w) (hn : e + 10 ≤ lo ∨ hi ≤ e) : EA D w e p z r d f m :=
  ⟨ho.get h.1 (by omega), ho.qa h.2.1 (by omega), h.2.2.1, fun j hj => ho.ia (h.2.2.2 j hj) (by have := h.2.2.1.1 j hj; omega)⟩
theorem EA.ext {D : gD} {w : Wd} {e : Nat} {p z r d : Int} {f : Nat → Nat} {m m' : Mx} (h : EA D w e p z r d f m) (hm : ∀ i, i < 8 → ∀ j, j < 9 → m i j = m' i j) : EA D w e p z r d f m' :=
  ⟨h.1, h.2.1, h.2.2.1, fun j hj => (h.2.2.2 j hj).ext (hm j hj)⟩
/-- its own fields anew -/
theorem EA.own {D : gD} {w : Wd} {e : Nat} {p z r d p' z' r' d' : Int} {f : Nat → Nat} {m : Mx} (h : EA D w e p z r d f m) : EA D (wup w e (.inr (0, [.ref (e + 1), vi p', vi z', vi r', vi d']))) e p' z' r' d' f m :=
  ⟨wup_s _ _ _, h.2.1.up (by omega), h.2.2.1, fun j hj => (h.2.2.2 j hj).up (by have := h.2.2.1.1 j hj; omega)⟩
/-- a row anew -/
theorem EA.row {D : gD} {w w' : Wd} {e i : Nat} {p z r d : Int} {f : Nat → Nat} {m : Mx} {g : Nat → Int} (h : EA D w e p z r d f m) (hi : i < 8) (ho : Off [f i] w w') (hg : IA D w' (f i) 9 g) : EA D w' e p z r d f (fup m i g) := by
  have hin := h.2.2.1.1 i hi
  refine ⟨ho.get h.1 (by simp; omega), by obtain ⟨F, a1, a2⟩ := h.2.1; exact ⟨F, ho.get a1 (by simp; omega), a2⟩, h.2.2.1, fun j hj => ?_⟩
  by_cases q : j = i
  · subst q
    rw [fup_s]
    exact hg
  · rw [fup_n q]
    exact ho.ia (h.2.2.2 j hj) (by simp; exact fun z => q (h.2.2.1.2 j i hj hi z))
theorem EA.off {e i : Nat} {f : Nat → Nat} {w w' : Wd} (h : PermE e f) (hi : i < 8) (ho : Off [f i] w w') : OffR (e + 2) (e + 10) w w' := ho.toR (by simp; exact h.1 i hi)


/-! ===== the whole object; public methods, first part ===== -/
def WS (S : MS) : Prop := primeB S.1 = true ∧ ∀ t, t < 4 → CB S.1 (S.2.1 t) ∧ WFg (S.2.2 t)
def CS (D : gD) (w : Wd) (o : Nat) (S SN : MS) (hs : Int) (n : Nat) (H : Nat → MS) (tn : Nat) (ch : Nat → Int) : Prop :=
  OA w o hs ∧ SA D w (o + 1) S ∧ SA D w (o + 19) SN ∧ (∃ f, HA D w (o + 37) n f H) ∧ TXE D w (o + 111) tn ch ∧ EX D w (o + 114) ∧ (∃ g, TS D w o g) ∧ (∃ c, IA D w (o + 126) 64 c) ∧ ∃ c, IA D w (o + 127) 64 c
theorem TXE.moved {D : gD} {lo hi : Nat} {σ w : Wd} {x n : Nat} {ch : Nat → Int} (h : TXE D σ x n ch) (ho : OffR lo hi σ w) (hn : x + 3 ≤ lo ∨ hi ≤ x) : TXE D w x n ch := by
  obtain ⟨a, b, c, d, e, f, g, q⟩ := h
  exact ⟨a, b, c, d, e, f, g, q.moved ho hn⟩
theorem TS.moved {D : gD} {lo hi : Nat} {σ w : Wd} {o : Nat} {g : Nat → Int} (h : TS D σ o g) (ho : OffR lo hi σ w) (hn : o + 126 ≤ lo ∨ hi ≤ o + 124) : TS D w o g := ⟨ho.get h.1 (by omega), ho.ia h.2 (by omega)⟩
section CSU
variable {D : gD} {σ w : Wd} {o : Nat} {S SN : MS} {hs : Int} {n : Nat} {H : Nat → MS} {tn : Nat} {ch : Nat → Int}
theorem CS.low (h : CS D σ o S SN hs n H tn ch) (ho : OffR (o + 111) (o + 127) σ w) {tn' : Nat} {ch' : Nat → Int} (hT : TXE D w (o + 111) tn' ch') (hE : EX D w (o + 114)) (hS : ∃ g, TS D w o g) (hC : ∃ c, IA D w (o + 126) 64 c) : CS D w o S SN hs n H tn' ch' := by
  obtain ⟨h1, h2, h3, ⟨f, h4⟩, h5, h6, h7, h8, ⟨c, h9⟩⟩ := h
  exact ⟨ho.get h1 (by omega), h2.moved ho (by omega), h3.moved ho (by omega), ⟨f, h4.moved ho (by omega)⟩, hT, hE, hS, hC, c, ho.ia h9 (by omega)⟩
theorem CS.el (h : CS D σ o S SN hs n H tn ch) (ho : OffR (o + 114) (o + 124) σ w) (hE : EX D w (o + 114)) : CS D w o S SN hs n H tn ch := by
  obtain ⟨h1, h2, h3, ⟨f, h4⟩, h5, h6, ⟨g, h7⟩, ⟨c8, h8⟩, ⟨c, h9⟩⟩ := id h
  exact h.low (ho.mono (by omega) (by omega)) (h5.moved ho (by omega)) hE ⟨g, h7.moved ho (by omega)⟩ ⟨c8, ho.ia h8 (by omega)⟩
theorem CS.tx (h : CS D σ o S SN hs n H tn ch) (ho : OffR (o + 111) (o + 114) σ w) {tn' : Nat} {ch' : Nat → Int} (hT : TXE D w (o + 111) tn' ch') : CS D w o S SN hs n H tn' ch' := by
  obtain ⟨h1, h2, h3, ⟨f, h4⟩, h5, h6, ⟨g, h7⟩, ⟨c8, h8⟩, ⟨c, h9⟩⟩ := id h
  exact h.low (ho.mono (by omega) (by omega)) hT (h6.moved ho (by omega)) ⟨g, h7.moved ho (by omega)⟩ ⟨c8, ho.ia h8 (by omega)⟩
theorem CS.lt (h : CS D σ o S SN hs n H tn ch) (ho : OffR (o + 114) (o + 127) σ w) (hE : EX D w (o + 114)) (hS : ∃ g, TS D w o g) (hC : ∃ c, IA D w (o + 126) 64 c) : CS D w o S SN hs n H tn ch :=
  h.low (ho.mono (by omega) (by omega)) (h.2.2.2.2.1.moved ho (by omega)) hE hS hC
theorem CS.now (h : CS D σ o S SN hs n H tn ch) (ho : OffR (o + 1) (o + 19) σ w) {S' : MS} (hS : SA D w (o + 1) S') : CS D w o S' SN hs n H tn ch := by
  obtain ⟨h1, h2, h3, ⟨f, h4⟩, h5, h6, ⟨g, h7⟩, ⟨c8, h8⟩, ⟨c, h9⟩⟩ := h
  exact ⟨ho.get h1 (by omega), hS, h3.moved ho (by omega), ⟨f, h4.moved ho (by omega)⟩, h5.moved ho (by omega), h6.moved ho (by omega), ⟨g, h7.moved ho (by omega)⟩, ⟨c8, ho.ia h8 (by omega)⟩, c, ho.ia h9 (by omega)⟩
theorem CS.snap (h : CS D σ o S SN hs n H tn ch) (ho : OffR (o + 19) (o + 37) σ w) {SN' : MS} (hS : SA D w (o + 19) SN') : CS D w o S SN' hs n H tn ch := by
  obtain ⟨h1, h2, h3, ⟨f, h4⟩, h5, h6, ⟨g, h7⟩, ⟨c8, h8⟩, ⟨c, h9⟩⟩ := h
  exact ⟨ho.get h1 (by omega), h2.moved ho (by omega), hS, ⟨f, h4.moved ho (by omega)⟩, h5.moved ho (by omega), h6.moved ho (by omega), ⟨g, h7.moved ho (by omega)⟩, ⟨c8, ho.ia h8 (by omega)⟩, c, ho.ia h9 (by omega)⟩
theorem CS.hist (h : CS D σ o S SN hs n H tn ch) (ho : OffR (o + 37) (o + 111) σ w) {n' : Nat} {H' : Nat → MS} (hH : ∃ f, HA D w (o + 37) n' f H') : CS D w o S SN hs n' H' tn ch := by
  obtain ⟨h1, h2, h3, h4, h5, h6, ⟨g, h7⟩, ⟨c8, h8⟩, ⟨c, h9⟩⟩ := h
  exact ⟨ho.get h1 (by omega), h2.moved ho (by omega), h3.moved ho (by omega), hH, h5.moved ho (by omega), h6.moved ho (by omega), ⟨g, h7.moved ho (by omega)⟩, ⟨c8, ho.ia h8 (by omega)⟩, c, ho.ia h9 (by omega)⟩
theorem CS.rsl (h : CS D σ o S SN hs n H tn ch) (ho : OffR (o + 127) (o + 128) σ w) (hc : ∃ c, IA D w (o + 127) 64 c) : CS D w o S SN hs n H tn ch := by
  obtain ⟨h1, h2, h3, ⟨f, h4⟩, h5, h6, ⟨g, h7⟩, ⟨c8, h8⟩, ⟨c, h9⟩⟩ := h
  exact ⟨ho.get h1 (by omega), h2.moved ho (by omega), h3.moved ho (by omega), ⟨f, h4.moved ho (by omega)⟩, h5.moved ho (by omega), h6.moved ho (by omega), ⟨g, h7.moved ho (by omega)⟩, ⟨c8, ho.ia h8 (by omega)⟩, hc⟩
theorem CS.own (h : CS D σ o S SN hs n H tn ch) {hs' : Int} : CS D (wup σ o (.inr (6, oF o hs'))) o S SN hs' n H tn ch := by
  obtain ⟨h1, h2, h3, ⟨f, h4⟩, h5, h6, ⟨g, h7⟩, ⟨c8, h8⟩, ⟨c, h9⟩⟩ := h
  have ho : OffR o (o + 1) σ (wup σ o (.inr (6, oF o hs'))) := wup_offR (by omega)
  exact ⟨wup_s _ _ _, h2.moved ho (by omega), h3.moved ho (by omega), ⟨f, h4.moved ho (by omega)⟩, h5.moved ho (by omega), h6.moved ho (by omega), ⟨g, h7.moved ho (by omega)⟩, ⟨c8, ho.ia h8 (by omega)⟩, c, ho.ia h9 (by omega)⟩
end CSU
def act {α : Type} (c : Prop) [Decidable c] (a b : α) : α := if c then a else b
theorem act_y {α : Type} {c : Prop} [Decidable c] {a b : α} (h : c) : act c a b = a := if_pos h
theorem act_n {α : Type} {c : Prop} [Decidable c] {a b : α} (h : ¬ c) : act c a b = b := if_neg h
theorem ne1 {c : Prop} [Decidable c] (h : (if c then (1 : Int) else 0) = 0) : ¬ c := fun q => by rw [if_pos q] at h; omega
theorem nz1 {c : Prop} [Decidable c] (h : ¬ (if c then (1 : Int) else 0) = 0) : c := Classical.byContradiction fun q => h (if_neg q)
theorem R_ite {c : Prop} [Decidable c] : R32 (if c then (1 : Int) else 0) := by split <;> exact rs (by omega) (by omega)
def okT (t : Int) : Prop := 0 ≤ t ∧ t < 4
def okP (t : Int) : Prop := 0 ≤ t ∧ t < 8
theorem SA_two {D : gD} {σ w : Wd} {b o : Nat} {S : MS} (h : SA D σ b S) (ho : ∀ q, (q < o + 1 ∨ o + 19 ≤ q) → (q < o + 37 ∨ o + 111 ≤ q) → w q = σ q) (h1 : o + 19 ≤ b) (h2 : b + 18 ≤ o + 37) : SA D w b S := by
  have g : ∀ q, b ≤ q → q < b + 18 → w q = σ q := fun q a1 a2 => ho q (by omega) (by omega)
  refine ⟨(g b (by omega) (by omega)).trans h.1, ?_, fun t ht => ⟨(g _ (by omega) (by omega)).trans (h.2.2 t ht).1, ?_, (g _ (by omega) (by omega)).trans (h.2.2 t ht).2.2.1, ?_⟩⟩
  · obtain ⟨F, q1, q2⟩ := h.2.1
    exact ⟨F, (g _ (by omega) (by omega)).trans q1, q2⟩
  · obtain ⟨F, q1, q2⟩ := (h.2.2 t ht).2.1
    exact ⟨F, (g _ (by omega) (by omega)).trans q1, q2⟩
  · obtain ⟨F, q1, q2⟩ := (h.2.2 t ht).2.2.2
    exact ⟨F, (g _ (by omega) (by omega)).trans q1, q2⟩

set_option maxRecDepth 100000 in
set_option maxHeartbeats 4000000 in
theorem c_X6_cell {l : Launch} {D : gD} {σ : Wd} {o n tn : Nat} {hs : Int} {S SN : MS} {H : Nat → MS} {ch : Nat → Int} {t r c : Int} (h0 : CS D σ o S SN hs n H tn ch) (hWS : WS S) (ht : R32 t) (hr : R32 r) (hc : R32 c) : KX6_cell l D [.ref o, vi t, vi r, vi c] σ (fun x σ' => x = (if ((0 ≤ t ∧ t < 4) ∧ (0 ≤ r ∧ r < 8) ∧ (0 ≤ c ∧ c < 8)) then S.2.1 t.toNat (8 * r + c).toNat else -1) ∧ σ' = σ) := by
  obtain ⟨h1, h2, h3, ⟨fH, h4⟩, h5, h6, ⟨gT, h7⟩, ⟨cL, h8⟩, ⟨cR, h9⟩⟩ := id h0
  have hlo := primeB_lo hWS.1
  have hg := fun t ht => (hWS.2 t ht).2
  have hF := fun t ht => (hWS.2 t ht).1
  refine sp_of (by decide +kernel) (cat1 rfl) (Nat.le_of_ble_eq_true rfl) [some (.ref o), some (vi t), some (vi r), some (vi c)] rfl (fun sz => ?_)
  refine j_iload_n dX6_cell_0 rfl ?_
  refine cl_X6_70 (As := [_]) rfl dX6_cell_1 (c_X6_isTable ht) rfl ⟨by decide, by decide⟩ (Nat.le_of_ble_eq_true rfl) ⟨Nat.zero_le _, Nat.zero_le _⟩ (fun z1 σ1 hz1 => ?_)
  obtain ⟨hr1, hs1⟩ := hz1
  have hr1 := Eq.symm hr1
  have hs1 := Eq.symm hs1
  subst hr1
  subst hs1
  refine j_if_eq (tgt := 21) dX6_cell_4 (by decide) R_ite (fun q4 => ?_) (fun q4 => ?_)
  · skip
    have aat := ne1 q4
    refine j_iconst dX6_cell_21 ?_
    exact j_iret dX6_cell_22 ⟨_, rfl, by rw [if_neg (by omega)], rfl⟩
  · skip
    have aat := nz1 q4
    refine j_iload_n dX6_cell_7 rfl ?_
    refine cl_X6_73 (As := [_]) rfl dX6_cell_8 (c_X6_isInside hr) rfl ⟨by decide, by decide⟩ (Nat.le_of_ble_eq_true rfl) ⟨Nat.zero_le _, Nat.zero_le _⟩ (fun z8 σ8 hz8 => ?_)
    obtain ⟨hr8, hs8⟩ := hz8
    have hr8 := Eq.symm hr8
    have hs8 := Eq.symm hs8
    subst hr8
    subst hs8
    refine j_if_eq (tgt := 21) dX6_cell_11 (by decide) R_ite (fun q11 => ?_) (fun q11 => ?_)
    · skip
      have ar := ne1 q11
      refine j_iconst dX6_cell_21 ?_
      exact j_iret dX6_cell_22 ⟨_, rfl, by rw [if_neg (by omega)], rfl⟩
    · skip
      have ar := nz1 q11
      refine j_iload_n dX6_cell_14 rfl ?_
      refine cl_X6_73 (As := [_]) rfl dX6_cell_15 (c_X6_isInside hc) rfl ⟨by decide, by decide⟩ (Nat.le_of_ble_eq_true rfl) ⟨Nat.zero_le _, Nat.zero_le _⟩ (fun z15 σ15 hz15 => ?_)
      obtain ⟨hr15, hs15⟩ := hz15
      have hr15 := Eq.symm hr15
      have hs15 := Eq.symm hs15
      subst hr15
      subst hs15
      refine j_if_ne (tgt := 23) dX6_cell_18 (by decide) R_ite (fun q18 => ?_) (fun q18 => ?_)
      · skip
        have ac := nz1 q18
        refine j_aload_n dX6_cell_23 rfl ?_
        refine gf_X6_12 rfl dX6_cell_24 h1 rfl ?_
        refine j_iload_n dX6_cell_27 rfl ?_
        refine cl_X6_76 (As := [_]) rfl dX6_cell_28 (c_X2_tableOf h2.1 h2.2.1 (by omega) (by omega)) h2.1 rfl ⟨by decide, by decide⟩ (Nat.le_of_ble_eq_true rfl) ⟨Nat.zero_le _, Nat.zero_le _⟩ (fun z28 σ28 hz28 => ?_)
        obtain ⟨hr28, hs28⟩ := hz28
        have hr28 := Eq.symm hr28
        have hs28 := Eq.symm hs28
        subst hr28
        subst hs28
        have htb := h2.2.2 t.toNat (by omega)
        refine j_iload_n dX6_cell_31 rfl ?_
        refine j_iload_n dX6_cell_32 rfl ?_
        refine cl_X6_80 (As := [_, _]) rfl dX6_cell_33 (c_X3_at htb.1 htb.2.1 hr hc) htb.1 rfl ⟨by decide, by decide⟩ (Nat.le_of_ble_eq_true rfl) ⟨Nat.zero_le _, Nat.zero_le _⟩ (fun z33 σ33 hz33 => ?_)
        obtain ⟨hr33, hs33⟩ := hz33
        have hr33 := Eq.symm hr33
        have hs33 := Eq.symm hs33
        subst hr33
        subst hs33
        exact j_iret dX6_cell_36 ⟨_, rfl, by rw [if_pos (by omega), if_pos (by omega)], rfl⟩
      · skip
        have ac := ne1 q18
        refine j_iconst dX6_cell_21 ?_
        exact j_iret dX6_cell_22 ⟨_, rfl, by rw [if_neg (by omega)], rfl⟩
set_option maxRecDepth 100000 in
set_option maxHeartbeats 4000000 in
theorem c_X6_set {l : Launch} {D : gD} {σ : Wd} {o n tn : Nat} {hs : Int} {S SN : MS} {H : Nat → MS} {ch : Nat → Int} {t r c v : Int} (h0 : CS D σ o S SN hs n H tn ch) (hWS : WS S) (ht : R32 t) (hr : R32 r) (hc : R32 c) (hv : R32 v) : KX6_set l D [.ref o, vi t, vi r, vi c, vi v] σ (fun x σ' => x = (if ((0 ≤ t ∧ t < 4) ∧ (0 ≤ r ∧ r < 8) ∧ (0 ≤ c ∧ c < 8)) then (if 0 ≤ v ∧ v < S.1 then (if v = S.2.1 t.toNat (8 * r + c).toNat then -5 else S.2.1 t.toNat (8 * r + c).toNat) else -2) else -1) ∧ OffR o (o + 128) σ σ' ∧ CS D σ' o (act (((0 ≤ t ∧ t < 4) ∧ (0 ≤ r ∧ r < 8) ∧ (0 ≤ c ∧ c < 8)) ∧ (0 ≤ v ∧ v < S.1) ∧ v ≠ S.2.1 t.toNat (8 * r + c).toNat) (S.1, fup S.2.1 t.toNat (fup (S.2.1 t.toNat) (8 * r + c).toNat v), S.2.2) S) SN hs (act (((0 ≤ t ∧ t < 4) ∧ (0 ≤ r ∧ r < 8) ∧ (0 ≤ c ∧ c < 8)) ∧ (0 ≤ v ∧ v < S.1) ∧ v ≠ S.2.1 t.toNat (8 * r + c).toNat) (recN n) n) (act (((0 ≤ t ∧ t < 4) ∧ (0 ≤ r ∧ r < 8) ∧ (0 ≤ c ∧ c < 8)) ∧ (0 ≤ v ∧ v < S.1) ∧ v ≠ S.2.1 t.toNat (8 * r + c).toNat) (recH n H S) H) tn ch) := by
  obtain ⟨h1, h2, h3, ⟨fH, h4⟩, h5, h6, ⟨gT, h7⟩, ⟨cL, h8⟩, ⟨cR, h9⟩⟩ := id h0
  have hlo := primeB_lo hWS.1
  have hg := fun t ht => (hWS.2 t ht).2
  have hF := fun t ht => (hWS.2 t ht).1
  refine sp_of (by decide +kernel) (cat1 rfl) (Nat.le_of_ble_eq_true rfl) [some (.ref o), some (vi t), some (vi r), some (vi c), some (vi v), none, none] rfl (fun sz => ?_)
  refine j_iload_n dX6_set_0 rfl ?_
  refine cl_X6_70 (As := [_]) rfl dX6_set_1 (c_X6_isTable ht) rfl ⟨by decide, by decide⟩ (Nat.le_of_ble_eq_true rfl) ⟨Nat.zero_le _, Nat.zero_le _⟩ (fun z1 σ1 hz1 => ?_)
  obtain ⟨hr1, hs1⟩ := hz1
  have hr1 := Eq.symm hr1
  have hs1 := Eq.symm hs1
  subst hr1
  subst hs1
  refine j_if_eq (tgt := 21) dX6_set_4 (by decide) R_ite (fun q4 => ?_) (fun q4 => ?_)
  · skip
    have aat := ne1 q4
    refine j_iconst dX6_set_21 ?_
    exact j_iret dX6_set_22 ⟨_, rfl, by rw [if_neg (by omega)], OffR.rf, by rw [act_n (by omega), act_n (by omega), act_n (by omega)]; exact h0⟩
  · skip
    have aat := nz1 q4
    refine j_iload_n dX6_set_7 rfl ?_
    refine cl_X6_73 (As := [_]) rfl dX6_set_8 (c_X6_isInside hr) rfl ⟨by decide, by decide⟩ (Nat.le_of_ble_eq_true rfl) ⟨Nat.zero_le _, Nat.zero_le _⟩ (fun z8 σ8 hz8 => ?_)
    obtain ⟨hr8, hs8⟩ := hz8
    have hr8 := Eq.symm hr8
    have hs8 := Eq.symm hs8
    subst hr8
    subst hs8
    refine j_if_eq (tgt := 21) dX6_set_11 (by decide) R_ite (fun q11 => ?_) (fun q11 => ?_)
    · skip
      have ar := ne1 q11
      refine j_iconst dX6_set_21 ?_
      exact j_iret dX6_set_22 ⟨_, rfl, by rw [if_neg (by omega)], OffR.rf, by rw [act_n (by omega), act_n (by omega), act_n (by omega)]; exact h0⟩
    · skip
      have ar := nz1 q11
      refine j_iload_n dX6_set_14 rfl ?_
      refine cl_X6_73 (As := [_]) rfl dX6_set_15 (c_X6_isInside hc) rfl ⟨by decide, by decide⟩ (Nat.le_of_ble_eq_true rfl) ⟨Nat.zero_le _, Nat.zero_le _⟩ (fun z15 σ15 hz15 => ?_)
      obtain ⟨hr15, hs15⟩ := hz15
      have hr15 := Eq.symm hr15
      have hs15 := Eq.symm hs15
      subst hr15
      subst hs15
      refine j_if_ne (tgt := 23) dX6_set_18 (by decide) R_ite (fun q18 => ?_) (fun q18 => ?_)
      · skip
        have ac := nz1 q18
        refine j_iload dX6_set_23 rfl ?_
        refine j_if_lt (tgt := 40) dX6_set_25 (by decide) hv (fun h25 => ?_) (fun h25 => ?_)
        · skip
          refine j_bipush dX6_set_40 (by decide) ?_
          exact j_iret dX6_set_42 ⟨_, rfl, by rw [if_pos (by omega), if_neg (by omega)], OffR.rf, by rw [act_n (by omega), act_n (by omega), act_n (by omega)]; exact h0⟩
        · skip
          refine j_iload dX6_set_28 rfl ?_
          refine j_aload_n dX6_set_30 rfl ?_
          refine gf_X6_12 rfl dX6_set_31 h1 rfl ?_
          refine gf_X6_58 rfl dX6_set_34 h2.1 rfl ?_
          refine j_icmp_lt (tgt := 43) dX6_set_37 (by decide) hv ⟨by omega, by omega⟩ (fun h37 => ?_) (fun h37 => ?_)
          · skip
            refine j_aload_n dX6_set_43 rfl ?_
            refine gf_X6_12 rfl dX6_set_44 h1 rfl ?_
            refine j_iload_n dX6_set_47 rfl ?_
            refine cl_X6_76 (As := [_]) rfl dX6_set_48 (c_X2_tableOf h2.1 h2.2.1 (by omega) (by omega)) h2.1 rfl ⟨by decide, by decide⟩ (Nat.le_of_ble_eq_true rfl) ⟨Nat.zero_le _, Nat.zero_le _⟩ (fun z48 σ48 hz48 => ?_)
            obtain ⟨hr48, hs48⟩ := hz48
            have hr48 := Eq.symm hr48
            have hs48 := Eq.symm hs48
            subst hr48
            subst hs48
            have htb := h2.2.2 t.toNat (by omega)
            refine j_astore dX6_set_51 (by decide) (by dsimp only [List.set] <;> rfl) ?_
            refine j_aload dX6_set_53 rfl ?_
            refine j_iload_n dX6_set_55 rfl ?_
            refine j_iload_n dX6_set_56 rfl ?_
            refine cl_X6_80 (As := [_, _]) rfl dX6_set_57 (c_X3_at htb.1 htb.2.1 hr hc) htb.1 rfl ⟨by decide, by decide⟩ (Nat.le_of_ble_eq_true rfl) ⟨Nat.zero_le _, Nat.zero_le _⟩ (fun z57 σ57 hz57 => ?_)
            obtain ⟨hr57, hs57⟩ := hz57
            have hr57 := Eq.symm hr57
            have hs57 := Eq.symm hs57
            subst hr57
            subst hs57
            have hb := hF t.toNat (by omega) (8 * r + c).toNat (by omega)
            refine j_tops (show _ = S.2.1 t.toNat (8 * r + c).toNat from if_pos (by omega)) ?_
            refine j_istore dX6_set_60 (by decide) (by dsimp only [List.set] <;> rfl) ?_
            refine j_iload dX6_set_62 rfl ?_
            refine j_iload dX6_set_64 rfl ?_
            refine j_icmp_ne (tgt := 72) dX6_set_66 (by decide) hv (rs (by omega) (by omega)) (fun h66 => ?_) (fun h66 => ?_)
            · skip
              refine j_aload_n dX6_set_72 rfl ?_
              refine gf_X6_22 rfl dX6_set_73 h1 rfl ?_
              refine j_aload_n dX6_set_76 rfl ?_
              refine gf_X6_12 rfl dX6_set_77 h1 rfl ?_
              refine cl_X6_62 (As := [_]) rfl dX6_set_80 (c_X1_record h4 h2 (by omega)) h4.1 rfl ⟨by decide, by decide⟩ (Nat.le_of_ble_eq_true rfl) ⟨Nat.zero_le _, Nat.zero_le _⟩ (fun σ80 hz80 => ?_)
              obtain ⟨ho80, f80, hk80⟩ := hz80
              have c80 := h0.hist ho80 ⟨f80, hk80⟩
              have htb2 := c80.2.1.2.2 t.toNat (by omega)
              refine j_aload dX6_set_83 rfl ?_
              refine j_iload_n dX6_set_85 rfl ?_
              refine j_iload_n dX6_set_86 rfl ?_
              refine j_iload dX6_set_87 rfl ?_
              refine cl_X6_86 (As := [_, _, _]) rfl dX6_set_89 (c_X3_put htb2.1 htb2.2.1 hr hc) htb2.1 rfl ⟨by decide, by decide⟩ (Nat.le_of_ble_eq_true rfl) ⟨Nat.zero_le _, Nat.zero_le _⟩ (fun σ89 hz89 => ?_)
              obtain ⟨ho89, hi89⟩ := hz89
              rw [if_pos (by omega)] at hi89
              have s89 := c80.2.1.cells (by omega) ho89 hi89
              have ho89R := ho89.toR (lo := o + 1) (hi := o + 19) (by simp; omega)
              have c89 := c80.now ho89R s89
              refine j_iload dX6_set_92 rfl ?_
              exact j_iret dX6_set_94 ⟨_, rfl, by rw [if_pos (by omega), if_pos (by omega), if_neg (by omega)], (ho80.mono (by omega) (by omega)).tr (ho89R.mono (by omega) (by omega)), by rw [act_y (by omega), act_y (by omega), act_y (by omega)]; exact c89⟩
            · skip
              refine j_bipush dX6_set_69 (by decide) ?_
              exact j_iret dX6_set_71 ⟨_, rfl, by rw [if_pos (by omega), if_pos (by omega), if_pos (by omega)], OffR.rf, by rw [act_n (by omega), act_n (by omega), act_n (by omega)]; exact h0⟩
          · skip
            refine j_bipush dX6_set_40 (by decide) ?_
            exact j_iret dX6_set_42 ⟨_, rfl, by rw [if_pos (by omega), if_neg (by omega)], OffR.rf, by rw [act_n (by omega), act_n (by omega), act_n (by omega)]; exact h0⟩
      · skip
        have ac := ne1 q18
        refine j_iconst dX6_set_21 ?_
        exact j_iret dX6_set_22 ⟨_, rfl, by rw [if_neg (by omega)], OffR.rf, by rw [act_n (by omega), act_n (by omega), act_n (by omega)]; exact h0⟩
set_option maxRecDepth 100000 in
set_option maxHeartbeats 4000000 in
theorem c_X6_differ {l : Launch} {D : gD} {σ : Wd} {o n tn : Nat} {hs : Int} {S SN : MS} {H : Nat → MS} {ch : Nat → Int} {t u : Int} (h0 : CS D σ o S SN hs n H tn ch) (hWS : WS S) (ht : R32 t) (hu : R32 u) : KX6_differ l D [.ref o, vi t, vi u] σ (fun x σ' => x = (if (0 ≤ t ∧ t < 4) ∧ (0 ≤ u ∧ u < 4) then cntN (S.2.1 t.toNat) (S.2.1 u.toNat) 64 else -1) ∧ σ' = σ) := by
  obtain ⟨h1, h2, h3, ⟨fH, h4⟩, h5, h6, ⟨gT, h7⟩, ⟨cL, h8⟩, ⟨cR, h9⟩⟩ := id h0
  have hlo := primeB_lo hWS.1
  have hg := fun t ht => (hWS.2 t ht).2
  have hF := fun t ht => (hWS.2 t ht).1
  refine sp_of (by decide +kernel) (cat1 rfl) (Nat.le_of_ble_eq_true rfl) [some (.ref o), some (vi t), some (vi u)] rfl (fun sz => ?_)
  refine j_iload_n dX6_differ_0 rfl ?_
  refine cl_X6_70 (As := [_]) rfl dX6_differ_1 (c_X6_isTable ht) rfl ⟨by decide, by decide⟩ (Nat.le_of_ble_eq_true rfl) ⟨Nat.zero_le _, Nat.zero_le _⟩ (fun z1 σ1 hz1 => ?_)
  obtain ⟨hr1, hs1⟩ := hz1
  have hr1 := Eq.symm hr1
  have hs1 := Eq.symm hs1
  subst hr1
  subst hs1
  refine j_if_eq (tgt := 14) dX6_differ_4 (by decide) R_ite (fun q4 => ?_) (fun q4 => ?_)
  · skip
    have aat := ne1 q4
    refine j_iconst dX6_differ_14 ?_
    exact j_iret dX6_differ_15 ⟨_, rfl, by rw [if_neg (by omega)], rfl⟩
  · skip
    have aat := nz1 q4
    refine j_iload_n dX6_differ_7 rfl ?_
    refine cl_X6_70 (As := [_]) rfl dX6_differ_8 (c_X6_isTable hu) rfl ⟨by decide, by decide⟩ (Nat.le_of_ble_eq_true rfl) ⟨Nat.zero_le _, Nat.zero_le _⟩ (fun z8 σ8 hz8 => ?_)
    obtain ⟨hr8, hs8⟩ := hz8
    have hr8 := Eq.symm hr8
    have hs8 := Eq.symm hs8
    subst hr8
    subst hs8
    refine j_if_ne (tgt := 16) dX6_differ_11 (by decide) R_ite (fun q11 => ?_) (fun q11 => ?_)
    · skip
      have au := nz1 q11
      refine j_aload_n dX6_differ_16 rfl ?_
      refine gf_X6_12 rfl dX6_differ_17 h1 rfl ?_
      refine j_iload_n dX6_differ_20 rfl ?_
      refine cl_X6_76 (As := [_]) rfl dX6_differ_21 (c_X2_tableOf h2.1 h2.2.1 (by omega) (by omega)) h2.1 rfl ⟨by decide, by decide⟩ (Nat.le_of_ble_eq_true rfl) ⟨Nat.zero_le _, Nat.zero_le _⟩ (fun z21 σ21 hz21 => ?_)
      obtain ⟨hr21, hs21⟩ := hz21
      have hr21 := Eq.symm hr21
      have hs21 := Eq.symm hs21
      subst hr21
      subst hs21
      have htb := h2.2.2 t.toNat (by omega)
      refine j_aload_n dX6_differ_24 rfl ?_
      refine gf_X6_12 rfl dX6_differ_25 h1 rfl ?_
      refine j_iload_n dX6_differ_28 rfl ?_
      refine cl_X6_76 (As := [_]) rfl dX6_differ_29 (c_X2_tableOf h2.1 h2.2.1 (by omega) (by omega)) h2.1 rfl ⟨by decide, by decide⟩ (Nat.le_of_ble_eq_true rfl) ⟨Nat.zero_le _, Nat.zero_le _⟩ (fun z29 σ29 hz29 => ?_)
      obtain ⟨hr29, hs29⟩ := hz29
      have hr29 := Eq.symm hr29
      have hs29 := Eq.symm hs29
      subst hr29
      subst hs29
      have hub := h2.2.2 u.toNat (by omega)
      refine cl_X6_230 (As := [_]) rfl dX6_differ_32 (c_X3_cellsUnlike htb.1 htb.2.1 hub.1 hub.2.1 (fun j hj => by have := hF t.toNat (by omega) j hj; exact rs (by omega) (by omega)) (fun j hj => by have := hF u.toNat (by omega) j hj; exact rs (by omega) (by omega))) htb.1 rfl ⟨by decide, by decide⟩ (Nat.le_of_ble_eq_true rfl) ⟨Nat.zero_le _, Nat.zero_le _⟩ (fun z32 σ32 hz32 => ?_)
      obtain ⟨hr32, hs32⟩ := hz32
      have hr32 := Eq.symm hr32
      have hs32 := Eq.symm hs32
      subst hr32
      subst hs32
      exact j_iret dX6_differ_35 ⟨_, rfl, by rw [if_pos (by omega)], rfl⟩
    · skip
      have au := ne1 q11
      refine j_iconst dX6_differ_14 ?_
      exact j_iret dX6_differ_15 ⟨_, rfl, by rw [if_neg (by omega)], rfl⟩
set_option maxRecDepth 100000 in
set_option maxHeartbeats 4000000 in
theorem c_X6_leafAt {l : Launch} {D : gD} {σ : Wd} {o n tn : Nat} {hs : Int} {S SN : MS} {H : Nat → MS} {ch : Nat → Int} {t r c : Int} (h0 : CS D σ o S SN hs n H tn ch) (hWS : WS S) (ht : R32 t) (hr : R32 r) (hc : R32 c) : KX6_leafAt l D [.ref o, vi t, vi r, vi c] σ (fun x σ' => x = (if ((0 ≤ t ∧ t < 4) ∧ (0 ≤ r ∧ r < 8) ∧ (0 ≤ c ∧ c < 8)) then cntP (S.2.2 t.toNat) (2 * sprN r.toNat + sprN c.toNat + 1).toNat - 1 else -1) ∧ σ' = σ) := by
  obtain ⟨h1, h2, h3, ⟨fH, h4⟩, h5, h6, ⟨gT, h7⟩, ⟨cL, h8⟩, ⟨cR, h9⟩⟩ := id h0
  have hlo := primeB_lo hWS.1
  have hg := fun t ht => (hWS.2 t ht).2
  have hF := fun t ht => (hWS.2 t ht).1
  refine sp_of (by decide +kernel) (cat1 rfl) (Nat.le_of_ble_eq_true rfl) [some (.ref o), some (vi t), some (vi r), some (vi c), none] rfl (fun sz => ?_)
  refine j_iload_n dX6_leafAt_0 rfl ?_
  refine cl_X6_70 (As := [_]) rfl dX6_leafAt_1 (c_X6_isTable ht) rfl ⟨by decide, by decide⟩ (Nat.le_of_ble_eq_true rfl) ⟨Nat.zero_le _, Nat.zero_le _⟩ (fun z1 σ1 hz1 => ?_)
  obtain ⟨hr1, hs1⟩ := hz1
  have hr1 := Eq.symm hr1
  have hs1 := Eq.symm hs1
  subst hr1
  subst hs1
  refine j_if_eq (tgt := 21) dX6_leafAt_4 (by decide) R_ite (fun q4 => ?_) (fun q4 => ?_)
  · skip
    have aat := ne1 q4
    refine j_iconst dX6_leafAt_21 ?_
    exact j_iret dX6_leafAt_22 ⟨_, rfl, by rw [if_neg (by omega)], rfl⟩
  · skip
    have aat := nz1 q4
    refine j_iload_n dX6_leafAt_7 rfl ?_
    refine cl_X6_73 (As := [_]) rfl dX6_leafAt_8 (c_X6_isInside hr) rfl ⟨by decide, by decide⟩ (Nat.le_of_ble_eq_true rfl) ⟨Nat.zero_le _, Nat.zero_le _⟩ (fun z8 σ8 hz8 => ?_)
    obtain ⟨hr8, hs8⟩ := hz8
    have hr8 := Eq.symm hr8
    have hs8 := Eq.symm hs8
    subst hr8
    subst hs8
    refine j_if_eq (tgt := 21) dX6_leafAt_11 (by decide) R_ite (fun q11 => ?_) (fun q11 => ?_)
    · skip
      have ar := ne1 q11
      refine j_iconst dX6_leafAt_21 ?_
      exact j_iret dX6_leafAt_22 ⟨_, rfl, by rw [if_neg (by omega)], rfl⟩
    · skip
      have ar := nz1 q11
      refine j_iload_n dX6_leafAt_14 rfl ?_
      refine cl_X6_73 (As := [_]) rfl dX6_leafAt_15 (c_X6_isInside hc) rfl ⟨by decide, by decide⟩ (Nat.le_of_ble_eq_true rfl) ⟨Nat.zero_le _, Nat.zero_le _⟩ (fun z15 σ15 hz15 => ?_)
      obtain ⟨hr15, hs15⟩ := hz15
      have hr15 := Eq.symm hr15
      have hs15 := Eq.symm hs15
      subst hr15
      subst hs15
      refine j_if_ne (tgt := 23) dX6_leafAt_18 (by decide) R_ite (fun q18 => ?_) (fun q18 => ?_)
      · skip
        have ac := nz1 q18
        refine j_iload_n dX6_leafAt_23 rfl ?_
        refine j_iload_n dX6_leafAt_24 rfl ?_
        have hsr : 0 ≤ sprN r.toNat ∧ sprN r.toNat ≤ 21 := by unfold sprN; omega
        have hsc : 0 ≤ sprN c.toNat ∧ sprN c.toNat ≤ 21 := by unfold sprN; omega
        have hK := c_X5_stepOf (l := l) (D := D) (σ := σ) (s := r.toNat) (t := c.toNat) (by omega) (by omega)
        rw [Int.toNat_of_nonneg (a := r) (by omega), Int.toNat_of_nonneg (a := c) (by omega)] at hK
        refine cl_X6_227 (As := [_, _]) rfl dX6_leafAt_25 (hK) rfl ⟨by decide, by decide⟩ (Nat.le_of_ble_eq_true rfl) ⟨Nat.zero_le _, Nat.zero_le _⟩ (fun z25 σ25 hz25 => ?_)
        obtain ⟨hr25, hs25⟩ := hz25
        have hr25 := Eq.symm hr25
        have hs25 := Eq.symm hs25
        subst hr25
        subst hs25
        refine j_istore dX6_leafAt_28 (by decide) (by dsimp only [List.set] <;> rfl) ?_
        refine j_aload_n dX6_leafAt_30 rfl ?_
        refine gf_X6_12 rfl dX6_leafAt_31 h1 rfl ?_
        refine j_iload_n dX6_leafAt_34 rfl ?_
        refine cl_X6_76 (As := [_]) rfl dX6_leafAt_35 (c_X2_tableOf h2.1 h2.2.1 (by omega) (by omega)) h2.1 rfl ⟨by decide, by decide⟩ (Nat.le_of_ble_eq_true rfl) ⟨Nat.zero_le _, Nat.zero_le _⟩ (fun z35 σ35 hz35 => ?_)
        obtain ⟨hr35, hs35⟩ := hz35
        have hr35 := Eq.symm hr35
        have hs35 := Eq.symm hs35
        subst hr35
        subst hs35
        have htb := h2.2.2 t.toNat (by omega)
        refine gf_X6_93 rfl dX6_leafAt_38 htb.1 rfl ?_
        refine j_iload dX6_leafAt_41 rfl ?_
        refine j_iconst dX6_leafAt_43 ?_
        refine j_iadd dX6_leafAt_44 ?_
        refine cl_X6_170 (As := [_]) rfl dX6_leafAt_45 (c_X5_leavesBefore htb.2.2.1 htb.2.2.2 (hg t.toNat (by omega)).R (by omega) (by omega)) htb.2.2.1 rfl ⟨by decide, by decide⟩ (Nat.le_of_ble_eq_true rfl) ⟨Nat.zero_le _, Nat.zero_le _⟩ (fun z45 σ45 hz45 => ?_)
        obtain ⟨hr45, hs45⟩ := hz45
        have hr45 := Eq.symm hr45
        have hs45 := Eq.symm hs45
        subst hr45
        subst hs45
        refine j_iconst dX6_leafAt_48 ?_
        refine j_isub dX6_leafAt_49 ?_
        exact j_iret dX6_leafAt_50 ⟨_, rfl, by rw [if_pos (by omega)], rfl⟩
      · skip
        have ac := ne1 q18
        refine j_iconst dX6_leafAt_21 ?_
        exact j_iret dX6_leafAt_22 ⟨_, rfl, by rw [if_neg (by omega)], rfl⟩
set_option maxRecDepth 100000 in
set_option maxHeartbeats 4000000 in
theorem c_X6_setPrime {l : Launch} {D : gD} {σ : Wd} {o n tn : Nat} {hs : Int} {S SN : MS} {H : Nat → MS} {ch : Nat → Int} {v : Int} (h0 : CS D σ o S SN hs n H tn ch) (hWS : WS S) (hv : R32 v) : KX6_setPrime l D [.ref o, vi v] σ (fun x σ' => x = (if primeB v = true then (if v = S.1 then -5 else S.1) else -2) ∧ OffR o (o + 128) σ σ' ∧ CS D σ' o (act (primeB v = true ∧ v ≠ S.1) (v, (fun t j => S.2.1 t j % v), S.2.2) S) SN hs (act (primeB v = true ∧ v ≠ S.1) (recN n) n) (act (primeB v = true ∧ v ≠ S.1) (recH n H S) H) tn ch) := by
  obtain ⟨h1, h2, h3, ⟨fH, h4⟩, h5, h6, ⟨gT, h7⟩, ⟨cL, h8⟩, ⟨cR, h9⟩⟩ := id h0
  have hlo := primeB_lo hWS.1
  have hg := fun t ht => (hWS.2 t ht).2
  have hF := fun t ht => (hWS.2 t ht).1
  refine sp_of (by decide +kernel) (cat1 rfl) (Nat.le_of_ble_eq_true rfl) [some (.ref o), some (vi v), none] rfl (fun sz => ?_)
  refine j_iload_n dX6_setPrime_0 rfl ?_
  refine cl_X6_54 (As := [_]) rfl dX6_setPrime_1 (c_X6_isPrime hv) rfl ⟨by decide, by decide⟩ (Nat.le_of_ble_eq_true rfl) ⟨Nat.zero_le _, Nat.zero_le _⟩ (fun z1 σ1 hz1 => ?_)
  obtain ⟨hr1, hs1⟩ := hz1
  have hr1 := Eq.symm hr1
  have hs1 := Eq.symm hs1
  subst hr1
  subst hs1
  refine j_if_ne (tgt := 10) dX6_setPrime_4 (by decide) R_ite (fun q4 => ?_) (fun q4 => ?_)
  · skip
    have ap := nz1 q4
    refine j_aload_n dX6_setPrime_10 rfl ?_
    refine gf_X6_12 rfl dX6_setPrime_11 h1 rfl ?_
    refine gf_X6_58 rfl dX6_setPrime_14 h2.1 rfl ?_
    refine j_istore_n dX6_setPrime_17 (by decide) (by dsimp only [List.set] <;> rfl) ?_
    refine j_iload_n dX6_setPrime_18 rfl ?_
    refine j_iload_n dX6_setPrime_19 rfl ?_
    refine j_icmp_ne (tgt := 26) dX6_setPrime_20 (by decide) hv ⟨by omega, by omega⟩ (fun h20 => ?_) (fun h20 => ?_)
    · skip
      refine j_aload_n dX6_setPrime_26 rfl ?_
      refine gf_X6_22 rfl dX6_setPrime_27 h1 rfl ?_
      refine j_aload_n dX6_setPrime_30 rfl ?_
      refine gf_X6_12 rfl dX6_setPrime_31 h1 rfl ?_
      refine cl_X6_62 (As := [_]) rfl dX6_setPrime_34 (c_X1_record h4 h2 (by omega)) h4.1 rfl ⟨by decide, by decide⟩ (Nat.le_of_ble_eq_true rfl) ⟨Nat.zero_le _, Nat.zero_le _⟩ (fun σ34 hz34 => ?_)
      obtain ⟨ho34, f34, hk34⟩ := hz34
      have c34 := h0.hist ho34 ⟨f34, hk34⟩
      have hvl := primeB_lo ap
      refine j_aload_n dX6_setPrime_37 rfl ?_
      refine gf_X6_12 rfl dX6_setPrime_38 c34.1 rfl ?_
      refine j_iload_n dX6_setPrime_41 rfl ?_
      refine cl_X6_66 (As := [_]) rfl dX6_setPrime_42 (c_X2_changePrime c34.2.1 (fun t ht j hj => by have := hF t ht j hj; exact rs (by omega) (by omega)) (by omega) (by omega)) c34.2.1.1 rfl ⟨by decide, by decide⟩ (Nat.le_of_ble_eq_true rfl) ⟨Nat.zero_le _, Nat.zero_le _⟩ (fun σ42 hz42 => ?_)
      refine j_iload_n dX6_setPrime_45 rfl ?_
      exact j_iret dX6_setPrime_46 ⟨_, rfl, by rw [if_pos ap, if_neg h20], (ho34.mono (by omega) (by omega)).tr (hz42.1.mono (by omega) (by omega)), by rw [act_y ⟨ap, h20⟩, act_y ⟨ap, h20⟩, act_y ⟨ap, h20⟩]; exact c34.now hz42.1 hz42.2⟩
    · skip
      refine j_bipush dX6_setPrime_23 (by decide) ?_
      exact j_iret dX6_setPrime_25 ⟨_, rfl, by rw [if_pos ap, if_pos h20], OffR.rf, by rw [act_n (fun q => q.2 h20), act_n (fun q => q.2 h20), act_n (fun q => q.2 h20)]; exact h0⟩
  · skip
    have ap := ne1 q4
    refine j_bipush dX6_setPrime_7 (by decide) ?_
    exact j_iret dX6_setPrime_9 ⟨_, rfl, by rw [if_neg ap], OffR.rf, by rw [act_n (fun q => ap q.1), act_n (fun q => ap q.1), act_n (fun q => ap q.1)]; exact h0⟩
set_option maxRecDepth 100000 in
set_option maxHeartbeats 4000000 in
theorem c_X6_type {l : Launch} {D : gD} {σ : Wd} {o n tn : Nat} {hs : Int} {S SN : MS} {H : Nat → MS} {ch : Nat → Int} {v : Int} (h0 : CS D σ o S SN hs n H tn ch) (hv0 : 0 ≤ v) (hv1 : v < 65536) : KX6_type l D [.ref o, vi v] σ (fun x σ' => x = (if tn < 60 then (tn : Int) + 1 else -3) ∧ OffR o (o + 128) σ σ' ∧ CS D σ' o S SN hs n H (act (tn < 60) (tn + 1) tn) (act (tn < 60) (fup ch tn v) ch)) := by
  obtain ⟨h1, h2, h3, ⟨fH, h4⟩, ⟨pl0, nr0, tg0, lf0, rt0, op0, nm0, h5⟩, h6, ⟨gT, h7⟩, ⟨cL, h8⟩, ⟨cR, h9⟩⟩ := id h0
  refine sp_of (by decide +kernel) (cat1 rfl) (Nat.le_of_ble_eq_true rfl) [some (.ref o), some (vi v)] rfl (fun sz => ?_)
  refine j_aload_n dX6_type_0 rfl ?_
  refine gf_X6_29 rfl dX6_type_1 h1 rfl ?_
  refine j_iload_n dX6_type_4 rfl ?_
  refine cl_X6_185 (As := [_]) rfl dX6_type_5 (c_X4_append h5 hv0 hv1) h5.1 rfl ⟨by decide, by decide⟩ (Nat.le_of_ble_eq_true rfl) ⟨Nat.zero_le _, Nat.zero_le _⟩ (fun z5 σ5 hz5 => ?_)
  refine j_if_eq (tgt := 21) dX6_type_8 (by decide) (by rcases hz5 with ⟨-, b, -⟩ | ⟨-, b, -⟩ <;> (rw [b]; exact rs (by omega) (by omega))) (fun h8b => ?_) (fun h8b => ?_)
  · skip
    rcases hz5 with ⟨a5, b5, c5, d5⟩ | ⟨a5, b5, c5⟩
    · exact absurd h8b (by omega)
    have c5 := Eq.symm c5
    subst c5
    refine j_bipush dX6_type_21 (by decide) ?_
    exact j_iret dX6_type_23 ⟨_, rfl, by rw [if_neg (by omega)], OffR.rf, by rw [act_n (by omega), act_n (by omega)]; exact h0⟩
  · skip
    rcases hz5 with ⟨a5, b5, c5, d5⟩ | ⟨a5, b5, c5⟩
    rotate_left
    · exact absurd b5 h8b
    have o5 := c5.toR (lo := o + 111) (hi := o + 114) (by simp)
    have k5 := h0.tx o5 ⟨_, _, _, _, _, _, _, d5⟩
    refine j_aload_n dX6_type_11 rfl ?_
    refine gf_X6_29 rfl dX6_type_12 k5.1 rfl ?_
    refine gf_X6_189 rfl dX6_type_15 d5.1 rfl ?_
    refine j_goto (tgt := 23) dX6_type_18 (by decide) ?_
    exact j_iret dX6_type_23 ⟨_, rfl, by rw [if_pos (by omega)]; rfl, o5.mono (by omega) (by omega), by rw [act_y (by omega), act_y (by omega)]; exact k5⟩
set_option maxRecDepth 100000 in
set_option maxHeartbeats 4000000 in
theorem c_X6_clearText {l : Launch} {D : gD} {σ : Wd} {o n tn : Nat} {hs : Int} {S SN : MS} {H : Nat → MS} {ch : Nat → Int} (h0 : CS D σ o S SN hs n H tn ch) : KX6_clearText l D [.ref o] σ (fun x σ' => x = tn ∧ OffR o (o + 128) σ σ' ∧ CS D σ' o S SN hs n H 0 ch) := by
  obtain ⟨h1, h2, h3, ⟨fH, h4⟩, ⟨pl0, nr0, tg0, lf0, rt0, op0, nm0, h5⟩, h6, ⟨gT, h7⟩, ⟨cL, h8⟩, ⟨cR, h9⟩⟩ := id h0
  refine sp_of (by decide +kernel) (cat1 rfl) (Nat.le_of_ble_eq_true rfl) [some (.ref o), none] rfl (fun sz => ?_)
  refine j_aload_n dX6_clearText_0 rfl ?_
  refine gf_X6_29 rfl dX6_clearText_1 h1 rfl ?_
  refine gf_X6_189 rfl dX6_clearText_4 h5.1 rfl ?_
  refine j_istore_n dX6_clearText_7 (by decide) (by dsimp only [List.set] <;> rfl) ?_
  refine j_aload_n dX6_clearText_8 rfl ?_
  refine gf_X6_29 rfl dX6_clearText_9 h1 rfl ?_
  refine j_iconst dX6_clearText_12 ?_
  refine pf_X6_189 rfl dX6_clearText_13 h5.1 rfl rfl (Nat.le_of_ble_eq_true rfl) ?_
  dsimp only [List.set]
  refine j_iload_n dX6_clearText_16 rfl ?_
  exact j_iret dX6_clearText_17 ⟨_, rfl, rfl, wup_offR (by omega), h0.tx (wup_offR (by omega)) ⟨pl0, nr0, tg0, lf0, rt0, op0, nm0, wup_s _ _ _, by omega, fun j hj => absurd hj (by omega), h5.2.2.2.1.up (by omega), h5.2.2.2.2.up (by omega)⟩⟩
set_option maxRecDepth 100000 in
set_option maxHeartbeats 4000000 in
theorem c_X6_undo {l : Launch} {D : gD} {σ : Wd} {o n tn : Nat} {hs : Int} {S SN : MS} {H : Nat → MS} {ch : Nat → Int} (h0 : CS D σ o S SN hs n H tn ch) : KX6_undo l D [.ref o] σ (fun x σ' => x = (if n = 0 then -5 else ((n - 1 : Nat) : Int)) ∧ OffR o (o + 128) σ σ' ∧ CS D σ' o (act (n = 0) S (H (n - 1))) SN hs (n - 1) H tn ch) := by
  obtain ⟨h1, h2, h3, ⟨fH, h4⟩, h5, h6, ⟨gT, h7⟩, ⟨cL, h8⟩, ⟨cR, h9⟩⟩ := id h0
  refine sp_of (by decide +kernel) (cat1 rfl) (Nat.le_of_ble_eq_true rfl) [some (.ref o)] rfl (fun sz => ?_)
  refine j_aload_n dX6_undo_0 rfl ?_
  refine gf_X6_22 rfl dX6_undo_1 h1 rfl ?_
  refine j_aload_n dX6_undo_4 rfl ?_
  refine gf_X6_12 rfl dX6_undo_5 h1 rfl ?_
  refine cl_X6_192 (As := [_]) rfl dX6_undo_8 (c_X1_takeLatest h4 h2 (by omega)) h4.1 rfl ⟨by decide, by decide⟩ (Nat.le_of_ble_eq_true rfl) ⟨Nat.zero_le _, Nat.zero_le _⟩ (fun z8 σ8 hz8 => ?_)
  refine j_if_eq (tgt := 24) dX6_undo_11 (by decide) (by rcases hz8 with ⟨-, b, -⟩ | ⟨-, b, -⟩ <;> (rw [b]; exact rs (by omega) (by omega))) (fun h11 => ?_) (fun h11 => ?_)
  · skip
    rcases hz8 with ⟨a5, b5, c5⟩ | ⟨a5, b5, c5⟩
    rotate_left
    · exact absurd h11 (by omega)
    have c5 := Eq.symm c5
    subst c5
    refine j_bipush dX6_undo_24 (by decide) ?_
    exact j_iret dX6_undo_26 ⟨_, rfl, by rw [if_pos a5], OffR.rf, by rw [act_y a5, show n - 1 = n by omega]; exact h0⟩
  · skip
    rcases hz8 with ⟨a5, b5, c5⟩ | ⟨a5, b5, ho8, hk8, hs8⟩
    · exact absurd b5 h11
    have o8 : OffR o (o + 128) σ σ8 := fun q hq => ho8 q (by omega) (by omega)
    have k8 : CS D σ8 o (H (n - 1)) SN hs (n - 1) H tn ch := by
      have hmv : ∀ q, (q < o + 1 ∨ o + 19 ≤ q) → (q < o + 37 ∨ o + 111 ≤ q) → σ8 q = σ q := fun q q1 q2 => ho8 q (by omega) (by omega)
      have hL : OffR (o + 1) (o + 111) σ σ8 := fun q hq => hmv q (by omega) (by omega)
      exact ⟨hL.get h1 (by omega), hs8, SA_two h3 hmv (by omega) (by omega), ⟨fH, hk8⟩, h5.moved hL (by omega), h6.moved hL (by omega), ⟨gT, h7.moved hL (by omega)⟩, ⟨cL, hL.ia h8 (by omega)⟩, cR, hL.ia h9 (by omega)⟩
    refine j_aload_n dX6_undo_14 rfl ?_
    refine gf_X6_22 rfl dX6_undo_15 k8.1 rfl ?_
    refine gf_X6_196 rfl dX6_undo_18 hk8.1 rfl ?_
    refine j_goto (tgt := 26) dX6_undo_21 (by decide) ?_
    exact j_iret dX6_undo_26 ⟨_, rfl, by rw [if_neg (by omega)], o8, by rw [act_n (by omega)]; exact k8⟩
set_option maxRecDepth 100000 in
set_option maxHeartbeats 4000000 in
theorem c_X6_keep {l : Launch} {D : gD} {σ : Wd} {o n tn : Nat} {hs : Int} {S SN : MS} {H : Nat → MS} {ch : Nat → Int} (h0 : CS D σ o S SN hs n H tn ch) : KX6_keep l D [.ref o] σ (fun x σ' => x = S.1 ∧ OffR o (o + 128) σ σ' ∧ CS D σ' o S S 1 n H tn ch) := by
  obtain ⟨h1, h2, h3, ⟨fH, h4⟩, h5, h6, ⟨gT, h7⟩, ⟨cL, h8⟩, ⟨cR, h9⟩⟩ := id h0
  refine sp_of (by decide +kernel) (cat1 rfl) (Nat.le_of_ble_eq_true rfl) [some (.ref o)] rfl (fun sz => ?_)
  refine j_aload_n dX6_keep_0 rfl ?_
  refine gf_X6_16 rfl dX6_keep_1 h1 rfl ?_
  refine j_aload_n dX6_keep_4 rfl ?_
  refine gf_X6_12 rfl dX6_keep_5 h1 rfl ?_
  refine cl_X6_197 (As := [_]) rfl dX6_keep_8 (c_X2_copyFrom h3 h2 (by omega)) h3.1 rfl ⟨by decide, by decide⟩ (Nat.le_of_ble_eq_true rfl) ⟨Nat.zero_le _, Nat.zero_le _⟩ (fun σ8 hz8 => ?_)
  have k8 := h0.snap hz8.1 hz8.2
  refine j_aload_n dX6_keep_11 rfl ?_
  refine j_iconst dX6_keep_12 ?_
  refine pf_X6_199 rfl dX6_keep_13 k8.1 rfl rfl (Nat.le_of_ble_eq_true rfl) ?_
  dsimp only [List.set]
  have k13 := k8.own (hs' := 1)
  refine j_aload_n dX6_keep_16 rfl ?_
  refine gf_X6_12 rfl dX6_keep_17 k13.1 rfl ?_
  refine gf_X6_58 rfl dX6_keep_20 k13.2.1.1 rfl ?_
  exact j_iret dX6_keep_23 ⟨_, rfl, rfl, (hz8.1.mono (by omega) (by omega)).tr (wup_offR (by omega)), k13⟩
set_option maxRecDepth 100000 in
set_option maxHeartbeats 4000000 in
theorem c_X6_restore {l : Launch} {D : gD} {σ : Wd} {o n tn : Nat} {hs : Int} {S SN : MS} {H : Nat → MS} {ch : Nat → Int} (h0 : CS D σ o S SN hs n H tn ch) (hhs : hs = 0 ∨ hs = 1) : KX6_restore l D [.ref o] σ (fun x σ' => x = (if hs = 0 then -5 else SN.1) ∧ OffR o (o + 128) σ σ' ∧ CS D σ' o (act (hs = 0) S SN) SN hs (act (hs = 0) n (recN n)) (act (hs = 0) H (recH n H S)) tn ch) := by
  obtain ⟨h1, h2, h3, ⟨fH, h4⟩, h5, h6, ⟨gT, h7⟩, ⟨cL, h8⟩, ⟨cR, h9⟩⟩ := id h0
  refine sp_of (by decide +kernel) (cat1 rfl) (Nat.le_of_ble_eq_true rfl) [some (.ref o)] rfl (fun sz => ?_)
  refine j_aload_n dX6_restore_0 rfl ?_
  refine gf_X6_199 rfl dX6_restore_1 h1 rfl ?_
  refine j_if_ne (tgt := 10) dX6_restore_4 (by decide) ⟨by omega, by omega⟩ (fun h4b => ?_) (fun h4b => ?_)
  · skip
    refine j_aload_n dX6_restore_10 rfl ?_
    refine gf_X6_22 rfl dX6_restore_11 h1 rfl ?_
    refine j_aload_n dX6_restore_14 rfl ?_
    refine gf_X6_12 rfl dX6_restore_15 h1 rfl ?_
    refine cl_X6_62 (As := [_]) rfl dX6_restore_18 (c_X1_record h4 h2 (by omega)) h4.1 rfl ⟨by decide, by decide⟩ (Nat.le_of_ble_eq_true rfl) ⟨Nat.zero_le _, Nat.zero_le _⟩ (fun σ18 hz18 => ?_)
    obtain ⟨ho18, f18, hk18⟩ := hz18
    have c18 := h0.hist ho18 ⟨f18, hk18⟩
    refine j_aload_n dX6_restore_21 rfl ?_
    refine gf_X6_12 rfl dX6_restore_22 c18.1 rfl ?_
    refine j_aload_n dX6_restore_25 rfl ?_
    refine gf_X6_16 rfl dX6_restore_26 c18.1 rfl ?_
    refine cl_X6_197 (As := [_]) rfl dX6_restore_29 (c_X2_copyFrom c18.2.1 c18.2.2.1 (by omega)) c18.2.1.1 rfl ⟨by decide, by decide⟩ (Nat.le_of_ble_eq_true rfl) ⟨Nat.zero_le _, Nat.zero_le _⟩ (fun σ29 hz29 => ?_)
    have c29 := c18.now hz29.1 hz29.2
    refine j_aload_n dX6_restore_32 rfl ?_
    refine gf_X6_12 rfl dX6_restore_33 c29.1 rfl ?_
    refine gf_X6_58 rfl dX6_restore_36 c29.2.1.1 rfl ?_
    exact j_iret dX6_restore_39 ⟨_, rfl, by rw [if_neg h4b], (ho18.mono (by omega) (by omega)).tr (hz29.1.mono (by omega) (by omega)), by rw [act_n h4b, act_n h4b, act_n h4b]; exact c29⟩
  · skip
    refine j_bipush dX6_restore_7 (by decide) ?_
    exact j_iret dX6_restore_9 ⟨_, rfl, by rw [if_pos h4b], OffR.rf, by rw [act_y h4b, act_y h4b, act_y h4b]; exact h0⟩
set_option maxRecDepth 100000 in
set_option maxHeartbeats 4000000 in
theorem c_X6_count {l : Launch} {D : gD} {σ : Wd} {o n tn : Nat} {hs : Int} {S SN : MS} {H : Nat → MS} {ch : Nat → Int} {v : Int} (h0 : CS D σ o S SN hs n H tn ch) (hWS : WS S) (hv : R32 v) : KX6_count l D [.ref o, vi v] σ (fun x σ' => x = (if v = 0 then S.1 else if v = 1 then sumF (fun t => sumF (cst S.1 (S.2.1 t) (S.2.2 t)) 64) 4 else if v = 2 then sumF (fun t => cntP (S.2.2 t) 64) 4 else if v = 3 then (n : Int) else if v = 4 then (tn : Int) else -2) ∧ OffR o (o + 128) σ σ' ∧ CS D σ' o S SN hs n H tn ch) := by
  obtain ⟨h1, h2, h3, ⟨fH, h4⟩, h5, h6, ⟨gT, h7⟩, ⟨cL, h8⟩, ⟨cR, h9⟩⟩ := id h0
  have hlo := primeB_lo hWS.1
  have hg := fun t ht => (hWS.2 t ht).2
  have hF := fun t ht => (hWS.2 t ht).1
  obtain ⟨pl0, nr0, tg0, lf0, rt0, op0, nm0, h5⟩ := h5
  refine sp_of (by decide +kernel) (cat1 rfl) (Nat.le_of_ble_eq_true rfl) [some (.ref o), some (vi v)] rfl (fun sz => ?_)
  refine j_iload_n dX6_count_0 rfl ?_
  rcases Classical.em (v = 0) with hs1 | hs1_0
  · skip
    subst hs1
    refine j_tsIn (tgt := 36) dX6_count_1 ⟨by omega, by omega⟩ (by omega) (by omega) rfl (by decide) ?_
    refine j_aload_n dX6_count_36 rfl ?_
    refine gf_X6_12 rfl dX6_count_37 h1 rfl ?_
    refine gf_X6_58 rfl dX6_count_40 h2.1 rfl ?_
    exact j_iret dX6_count_43 ⟨_, rfl, rfl, OffR.rf, h0⟩
  rcases Classical.em (v = 1) with hs1 | hs1_1
  · skip
    subst hs1
    refine j_tsIn (tgt := 44) dX6_count_1 ⟨by omega, by omega⟩ (by omega) (by omega) rfl (by decide) ?_
    refine j_aload_n dX6_count_44 rfl ?_
    refine j_iconst dX6_count_45 ?_
    refine j_iconst dX6_count_46 ?_
    refine cl_X6_209 (As := [_, _]) rfl dX6_count_47 (c_X6_costOfTables (a := 0) (b := 3) h1 h2 h6 (by omega) (by omega) hWS.1 hF hg) h1 rfl ⟨by decide, by decide⟩ (Nat.le_of_ble_eq_true rfl) ⟨Nat.zero_le _, Nat.zero_le _⟩ (fun z47 σ47 hz47 => ?_)
    obtain ⟨hr47, ho47, he47⟩ := hz47
    exact j_iret dX6_count_50 ⟨_, rfl, by rw [hr47]; show _ - 0 = _; rw [Int.sub_zero]; rfl, ho47.mono (by omega) (by omega), h0.el ho47 he47⟩
  rcases Classical.em (v = 2) with hs1 | hs1_2
  · skip
    subst hs1
    refine j_tsIn (tgt := 51) dX6_count_1 ⟨by omega, by omega⟩ (by omega) (by omega) rfl (by decide) ?_
    refine j_aload_n dX6_count_51 rfl ?_
    refine cl_X6_251 (As := []) rfl dX6_count_52 (c_X6_leavesOfAll h1 h2 hg) h1 rfl ⟨by decide, by decide⟩ (Nat.le_of_ble_eq_true rfl) ⟨Nat.zero_le _, Nat.zero_le _⟩ (fun z52 σ52 hz52 => ?_)
    obtain ⟨hr52, hs52⟩ := hz52
    have hr52 := Eq.symm hr52
    have hs52 := Eq.symm hs52
    subst hr52
    subst hs52
    exact j_iret dX6_count_55 ⟨_, rfl, rfl, OffR.rf, h0⟩
  rcases Classical.em (v = 3) with hs1 | hs1_3
  · skip
    subst hs1
    refine j_tsIn (tgt := 56) dX6_count_1 ⟨by omega, by omega⟩ (by omega) (by omega) rfl (by decide) ?_
    refine j_aload_n dX6_count_56 rfl ?_
    refine gf_X6_22 rfl dX6_count_57 h1 rfl ?_
    refine gf_X6_196 rfl dX6_count_60 h4.1 rfl ?_
    exact j_iret dX6_count_63 ⟨_, rfl, rfl, OffR.rf, h0⟩
  rcases Classical.em (v = 4) with hs1 | hs1_4
  · skip
    subst hs1
    refine j_tsIn (tgt := 64) dX6_count_1 ⟨by omega, by omega⟩ (by omega) (by omega) rfl (by decide) ?_
    refine j_aload_n dX6_count_64 rfl ?_
    refine gf_X6_29 rfl dX6_count_65 h1 rfl ?_
    refine gf_X6_189 rfl dX6_count_68 h5.1 rfl ?_
    exact j_iret dX6_count_71 ⟨_, rfl, rfl, OffR.rf, h0⟩
  refine j_tsOut (tgt := 72) dX6_count_1 hv (by omega) (by decide) ?_
  refine j_bipush dX6_count_72 (by decide) ?_
  exact j_iret dX6_count_74 ⟨_, rfl, by rw [if_neg (by omega), if_neg (by omega), if_neg (by omega), if_neg (by omega), if_neg (by omega)], OffR.rf, h0⟩

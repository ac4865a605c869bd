/-! ===== the reference: leaves' costs, factors, the least tree ===== -/
def ovF (b : Int) (p : Int) (F g : Nat → Int) (s : Nat) : Int := if b = 1 then sumF (cst p F g) s else mxF (rks p F g) s
def qs (p : Int) (F : Nat → Int) (k s : Nat) : Int := sumF (fun q => best p F k (s + q * 4 ^ k)) 4
def lvN (d : Nat) : Nat := if d = 0 then 3 else if d < 5 then 2 else 1
def wlkN (d : Nat) : Nat := if d = 0 then 0 else if d < 5 then 16 * (d - 1) else 4 * (d - 5)
abbrev cutN (p : Int) (F : Nat → Int) (d : Nat) : Prop := qs p F (lvN d - 1) (wlkN d) < whl p F (lvN d) (wlkN d)
def flF (p : Int) (F : Nat → Int) (d : Nat) : Int := if cutN p F 0 ∧ (d = 0 ∨ (cutN p F d ∧ (d < 5 ∨ cutN p F ((d - 1) / 4)))) then 1 else 0
theorem best_s (p : Int) (F : Nat → Int) (k s : Nat) : best p F (k + 1) s = if qs p F k s < whl p F (k + 1) s then qs p F k s else whl p F (k + 1) s := rfl
theorem flF_R (p : Int) (F : Nat → Int) (d : Nat) : flF p F d = 0 ∨ flF p F d = 1 := by
  unfold flF
  split
  · exact Or.inr rfl
  · exact Or.inl rfl
theorem flF_1 {p : Int} {F : Nat → Int} {d : Nat} : flF p F d = 1 ↔ cutN p F 0 ∧ (d = 0 ∨ (cutN p F d ∧ (d < 5 ∨ cutN p F ((d - 1) / 4)))) := by
  unfold flF
  split
  · exact ⟨fun _ => by assumption, fun _ => rfl⟩
  · rename_i h
    exact ⟨fun q => absurd q (by omega), fun q => absurd q h⟩
theorem flF_s {p : Int} {F : Nat → Int} {d : Nat} (h1 : 1 ≤ d) (h2 : d < 21) : flF p F d = 1 ↔ (cutN p F d ∧ flF p F ((d - 1) / 4) = 1) := by
  rw [flF_1, flF_1]
  by_cases h5 : d < 5
  · rw [show (d - 1) / 4 = 0 by omega]
    constructor
    · rintro ⟨a, b | ⟨b, -⟩⟩
      · omega
      · exact ⟨b, a, Or.inl rfl⟩
    · rintro ⟨a, b, -⟩
      exact ⟨b, Or.inr ⟨a, Or.inl h5⟩⟩
  · constructor
    · rintro ⟨a, b | ⟨b, c | c⟩⟩
      · omega
      · omega
      · exact ⟨b, a, Or.inr ⟨c, Or.inl (by omega)⟩⟩
    · rintro ⟨a, b, c | ⟨c, -⟩⟩
      · omega
      · exact ⟨b, Or.inr ⟨a, Or.inr c⟩⟩
theorem TR_lv {p : Int} {F : Nat → Int} : TR (flF p F) (lv p F 3) := by
  refine ⟨fun d _ => flF_R p F d, fun d h1 h2 h => ((flF_s h1 h2).mp h).2, fun w hw => ?_⟩
  have l3 : lv p F 3 w = if qs p F 2 (w / 64 * 64) < whl p F 3 (w / 64 * 64) then lv p F 2 w else if w = w / 64 * 64 then 8 else 0 := rfl
  have l2 : lv p F 2 w = if qs p F 1 (w / 16 * 16) < whl p F 2 (w / 16 * 16) then lv p F 1 w else if w = w / 16 * 16 then 4 else 0 := rfl
  have l1 : lv p F 1 w = if qs p F 0 (w / 4 * 4) < whl p F 1 (w / 4 * 4) then 1 else if w = w / 4 * 4 then 2 else 0 := rfl
  have c0 : cutN p F 0 ↔ qs p F 2 (w / 64 * 64) < whl p F 3 (w / 64 * 64) := by
    unfold cutN lvN wlkN
    rw [if_pos rfl, if_pos rfl, show w / 64 * 64 = 0 by omega]
  have c1 : cutN p F (1 + w / 16) ↔ qs p F 1 (w / 16 * 16) < whl p F 2 (w / 16 * 16) := by
    unfold cutN lvN wlkN
    rw [if_neg (by omega), if_pos (by omega), if_neg (by omega), if_pos (by omega), show 16 * (1 + w / 16 - 1) = w / 16 * 16 by omega]
  have c2 : cutN p F (5 + w / 4) ↔ qs p F 0 (w / 4 * 4) < whl p F 1 (w / 4 * 4) := by
    unfold cutN lvN wlkN
    rw [if_neg (by omega), if_neg (by omega), if_neg (by omega), if_neg (by omega), show 4 * (5 + w / 4 - 5) = w / 4 * 4 by omega]
  have f0 : flF p F 0 = 1 ↔ cutN p F 0 := flF_1.trans ⟨fun q => q.1, fun q => ⟨q, Or.inl rfl⟩⟩
  have f1 := flF_s (p := p) (F := F) (d := 1 + w / 16) (by omega) (by omega)
  have f2 := flF_s (p := p) (F := F) (d := 5 + w / 4) (by omega) (by omega)
  rw [show (1 + w / 16 - 1) / 4 = 0 by omega] at f1
  rw [show (5 + w / 4 - 1) / 4 = 1 + w / 16 by omega] at f2
  by_cases a : cutN p F 0
  · have a' := f0.mpr a
    rw [l3, if_pos (c0.mp a), l2]
    by_cases b : cutN p F (1 + w / 16)
    · have b' := f1.mpr ⟨b, a'⟩
      rw [if_pos (c1.mp b), l1]
      by_cases c : cutN p F (5 + w / 4)
      · have z : szF (flF p F) w = 1 := by
          unfold szF
          rw [if_neg (fun q => q a'), if_neg (fun q => q b'), if_pos (f2.mpr ⟨c, b'⟩)]
        rw [z, if_pos (c2.mp c), if_pos (Nat.mod_one w)]
        rfl
      · have z : szF (flF p F) w = 2 := by
          unfold szF
          rw [if_neg (fun q => q a'), if_neg (fun q => q b'), if_neg (fun q => c (f2.mp q).1)]
        rw [z, if_neg (fun q => c (c2.mpr q))]
        by_cases e : w = w / 4 * 4
        · rw [if_pos e, if_pos (by omega)]
          rfl
        · rw [if_neg e, if_neg (by omega)]
    · have z : szF (flF p F) w = 4 := by
        unfold szF
        rw [if_neg (fun q => q a'), if_pos (fun q => b (f1.mp q).1)]
      rw [z, if_neg (fun q => b (c1.mpr q))]
      by_cases e : w = w / 16 * 16
      · rw [if_pos e, if_pos (by omega)]
        rfl
      · rw [if_neg e, if_neg (by omega)]
  · have z : szF (flF p F) w = 8 := by
      unfold szF
      rw [if_pos (fun q => a (f0.mp q))]
    rw [z, l3, if_neg (fun q => a (c0.mpr q))]
    by_cases e : w = w / 64 * 64
    · rw [if_pos e, if_pos (by omega)]
      rfl
    · rw [if_neg e, if_neg (by omega)]
theorem szF_cong {fl fl' : Nat → Int} (h : ∀ d, d < 21 → fl d = fl' d) {w : Nat} (hw : w < 64) : szF fl w = szF fl' w := by
  unfold szF
  rw [h 0 (by omega), h (1 + w / 16) (by omega), h (5 + w / 4) (by omega)]
theorem TR.ext {fl fl' g : Nat → Int} (h : TR fl g) (e : ∀ d, d < 21 → fl d = fl' d) : TR fl' g := by
  refine ⟨fun d hd => by rw [← e d hd]; exact h.1 d hd, fun d a b q => by rw [← e d b] at q; rw [← e _ (by omega)]; exact h.2.1 d a b q, fun w hw => ?_⟩
  rw [h.2.2 w hw, szF_cong e hw]
theorem TR.extg {fl g g' : Nat → Int} (h : TR fl g) (e : ∀ w, w < 64 → g w = g' w) : TR fl g' := ⟨h.1, h.2.1, fun w hw => by rw [← e w hw]; exact h.2.2 w hw⟩
theorem TR.key {fl g : Nat → Int} (h : TR fl g) : (fl 0 = 1 ↔ g 0 ≠ 8) ∧ (∀ i, i < 4 → (fl (1 + i) = 1 ↔ (g 0 ≠ 8 ∧ g (16 * i) ≠ 4))) ∧ (∀ j, j < 16 → (fl (5 + j) = 1 ↔ (g 0 ≠ 8 ∧ g (16 * (j / 4)) ≠ 4 ∧ g (4 * j) ≠ 2))) := by
  have k0 : fl 0 = 1 ↔ g 0 ≠ 8 := by
    have e := h.2.2 0 (by omega)
    rcases szF_c fl 0 with ⟨a, z⟩ | ⟨a, b, z⟩ | ⟨a, b, c, z⟩ | ⟨a, b, c, z⟩ <;> rw [z, if_pos (by omega)] at e <;> omega
  have k1 : ∀ i, i < 4 → (fl (1 + i) = 1 ↔ (g 0 ≠ 8 ∧ g (16 * i) ≠ 4)) := by
    intro i hi
    have e := h.2.2 (16 * i) (by omega)
    have w := h.2.1 (1 + i) (by omega) (by omega)
    rw [show (1 + i - 1) / 4 = 0 by omega] at w
    rcases szF_c fl (16 * i) with ⟨a, z⟩ | ⟨a, b, z⟩ | ⟨a, b, c, z⟩ | ⟨a, b, c, z⟩ <;> rw [z] at e
    · exact ⟨fun q => absurd (w q) a, fun q => absurd (k0.mpr q.1) a⟩
    · rw [show 16 * i / 16 = i by omega] at b
      rw [if_pos (by omega)] at e
      exact ⟨fun q => absurd q b, fun q => absurd e q.2⟩
    · rw [show 16 * i / 16 = i by omega] at b
      rw [if_pos (by omega)] at e
      exact ⟨fun _ => ⟨k0.mp a, by omega⟩, fun _ => b⟩
    · rw [show 16 * i / 16 = i by omega] at b
      rw [if_pos (by omega)] at e
      exact ⟨fun _ => ⟨k0.mp a, by omega⟩, fun _ => b⟩
  refine ⟨k0, k1, fun j hj => ?_⟩
  have e := h.2.2 (4 * j) (by omega)
  have w := h.2.1 (5 + j) (by omega) (by omega)
  rw [show (5 + j - 1) / 4 = 1 + j / 4 by omega] at w
  have k := k1 (j / 4) (by omega)
  rcases szF_c fl (4 * j) with ⟨a, z⟩ | ⟨a, b, z⟩ | ⟨a, b, c, z⟩ | ⟨a, b, c, z⟩ <;> rw [z] at e
  · refine ⟨fun q => absurd (k0.mpr (k.mp (w q)).1) a, fun q => absurd (k0.mpr q.1) a⟩
  · rw [show 4 * j / 16 = j / 4 by omega] at b
    exact ⟨fun q => absurd (w q) b, fun q => absurd (k.mpr ⟨q.1, q.2.1⟩) b⟩
  · rw [show 4 * j / 4 = j by omega] at c
    rw [if_pos (by omega)] at e
    exact ⟨fun q => absurd q c, fun q => absurd e q.2.2⟩
  · rw [show 4 * j / 16 = j / 4 by omega] at b
    rw [show 4 * j / 4 = j by omega] at c
    rw [if_pos (by omega)] at e
    exact ⟨fun _ => ⟨(k.mp b).1, (k.mp b).2, by omega⟩, fun _ => c⟩
theorem TR_inj {fl fl' g g' : Nat → Int} (h : TR fl g) (h' : TR fl' g') : (∀ j, j < 64 → g j = g' j) ↔ ∀ d, d < 21 → fl d = fl' d := by
  constructor
  · intro e d hd
    obtain ⟨a0, a1, a2⟩ := h.key
    obtain ⟨b0, b1, b2⟩ := h'.key
    have r := h.1 d hd
    have r' := h'.1 d hd
    have hiff : fl d = 1 ↔ fl' d = 1 := by
      rcases (show d = 0 ∨ (1 ≤ d ∧ d < 5) ∨ 5 ≤ d by omega) with q | q | q
      · rw [q, a0, b0, e 0 (by omega)]
      · have x := a1 (d - 1) (by omega)
        have y := b1 (d - 1) (by omega)
        rw [show 1 + (d - 1) = d by omega] at x y
        rw [x, y, e 0 (by omega), e _ (by omega)]
      · have x := a2 (d - 5) (by omega)
        have y := b2 (d - 5) (by omega)
        rw [show 5 + (d - 5) = d by omega] at x y
        rw [x, y, e 0 (by omega), e _ (by omega), e _ (by omega)]
    omega
  · intro e w hw
    rw [h.2.2 w hw, h'.2.2 w hw, szF_cong e hw]
def bF (fl : Nat → Int) (d : Nat) : Int := if 0 < fl d then 1 else 0
theorem bF_y {fl : Nat → Int} {d : Nat} (h : fl d = 1) : bF fl d = 1 := if_pos (by omega)
theorem bF_n {fl : Nat → Int} {d : Nat} (h : fl d = 0 ∨ fl d = 1) (h2 : fl d ≠ 1) : bF fl d = 0 := if_neg (by omega)
theorem TR.four {fl g : Nat → Int} (h : TR fl g) {j : Nat} (hj : j < 16) (a : fl 0 = 1) (b : fl (1 + j / 4) = 1) : cntP g (4 * j + 4) = cntP g (4 * j) + 1 + 3 * bF fl (5 + j) := by
  have e : ∀ x, x < 4 → g (4 * j + x) = if fl (5 + j) = 1 then 1 else if x = 0 then 2 else 0 := by
    intro x hx
    have e := h.2.2 (4 * j + x) (by omega)
    have z : szF fl (4 * j + x) = if fl (5 + j) = 1 then 1 else 2 := by
      unfold szF
      rw [show (4 * j + x) / 16 = j / 4 by omega, show (4 * j + x) / 4 = j by omega, if_neg (fun q => q a), if_neg (fun q => q b)]
    by_cases c : fl (5 + j) = 1
    · rw [if_pos c] at z
      rw [z, if_pos (Nat.mod_one _)] at e
      rw [if_pos c]
      exact e
    · rw [if_neg c] at z
      rw [z] at e
      rw [if_neg c]
      by_cases d : x = 0
      · rw [if_pos (by omega)] at e
        rw [if_pos d]
        exact e
      · rw [if_neg (by omega)] at e
        rw [if_neg d]
        exact e
  show cntP g (4 * j) + (if 0 < g (4 * j + 0) then 1 else 0) + (if 0 < g (4 * j + 1) then 1 else 0) + (if 0 < g (4 * j + 2) then 1 else 0) + (if 0 < g (4 * j + 3) then 1 else 0) = _
  rw [e 0 (by omega), e 1 (by omega), e 2 (by omega), e 3 (by omega)]
  by_cases c : fl (5 + j) = 1
  · rw [if_pos c, if_pos c, if_pos c, if_pos c, bF_y c]
    simp
    omega
  · rw [if_neg c, if_neg c, if_neg c, if_neg c, bF_n (h.1 _ (by omega)) c]
    simp
theorem TR.sixteen {fl g : Nat → Int} (h : TR fl g) {i : Nat} (hi : i < 4) (a : fl 0 = 1) : cntP g (16 * i + 16) = cntP g (16 * i) + 1 + 3 * (bF fl (1 + i) + (bF fl (5 + 4 * i) + bF fl (5 + (4 * i + 1)) + bF fl (5 + (4 * i + 2)) + bF fl (5 + (4 * i + 3)))) := by
  by_cases b : fl (1 + i) = 1
  · have h0 := h.four (j := 4 * i) (by omega) a (by rw [show 4 * i / 4 = i by omega]; exact b)
    have h1 := h.four (j := 4 * i + 1) (by omega) a (by rw [show (4 * i + 1) / 4 = i by omega]; exact b)
    have h2 := h.four (j := 4 * i + 2) (by omega) a (by rw [show (4 * i + 2) / 4 = i by omega]; exact b)
    have h3 := h.four (j := 4 * i + 3) (by omega) a (by rw [show (4 * i + 3) / 4 = i by omega]; exact b)
    rw [show 4 * (4 * i) = 16 * i by omega] at h0
    rw [show 4 * (4 * i + 1) = 16 * i + 4 by omega] at h1
    rw [show 4 * (4 * i + 2) = 16 * i + 4 + 4 by omega] at h2
    rw [show 4 * (4 * i + 3) = 16 * i + 4 + 4 + 4 by omega] at h3
    have hb := bF_y b
    rw [show 16 * i + 16 = 16 * i + 4 + 4 + 4 + 4 by omega, h3, h2, h1, h0, hb]
    omega
  · have z : szF fl (16 * i) = 4 := by
      unfold szF
      rw [show 16 * i / 16 = i by omega, if_neg (fun q => q a), if_pos b]
    have hpos := h.pos (w := 16 * i) (by omega) (by rw [z]; omega)
    obtain ⟨w1, w2, w3, w4⟩ := h.walk (by omega) hpos
    rw [z] at w1 w2 w3 w4
    have n : ∀ x, x < 4 → bF fl (5 + (4 * i + x)) = 0 := fun x hx => bF_n (h.1 _ (by omega)) (fun q => b (by
      have w := h.2.1 _ (by omega) (by omega) q
      rw [show (5 + (4 * i + x) - 1) / 4 = 1 + i by omega] at w
      exact w))
    rw [cntP_jump hpos w2 w3, bF_n (h.1 _ (by omega)) b, n 1 (by omega), n 2 (by omega), n 3 (by omega), show 5 + 4 * i = 5 + (4 * i + 0) from rfl, n 0 (by omega)]
    omega
theorem TR.leaves {fl g : Nat → Int} (h : TR fl g) : cntP g 64 = 1 + 3 * cntP fl 21 := by
  have hc : cntP fl 21 = 0 + bF fl 0 + bF fl 1 + bF fl 2 + bF fl 3 + bF fl 4 + bF fl 5 + bF fl 6 + bF fl 7 + bF fl 8 + bF fl 9 + bF fl 10 + bF fl 11 + bF fl 12 + bF fl 13 + bF fl 14 + bF fl 15 + bF fl 16 + bF fl 17 + bF fl 18 + bF fl 19 + bF fl 20 := rfl
  by_cases a : fl 0 = 1
  · have h0 := h.sixteen (i := 0) (by omega) a
    have h1 := h.sixteen (i := 1) (by omega) a
    have h2 := h.sixteen (i := 2) (by omega) a
    have h3 := h.sixteen (i := 3) (by omega) a
    have hb := bF_y a
    simp only [Nat.mul_zero, Nat.zero_add, Nat.reduceMul, Nat.reduceAdd] at h0 h1 h2 h3
    have hz : cntP g 0 = 0 := rfl
    omega
  · have z : szF fl 0 = 8 := by
      unfold szF
      rw [if_pos a]
    obtain ⟨w1, w2, w3, w4⟩ := h.walk (by omega) h.start
    rw [z] at w1 w2 w3 w4
    have n0 := bF_n (h.1 0 (by omega)) a
    have n1 : ∀ d, 1 ≤ d → d < 5 → fl d ≠ 1 := fun d x y q => a (by
      have w := h.2.1 d x (by omega) q
      rw [show (d - 1) / 4 = 0 by omega] at w
      exact w)
    have n2 : ∀ d, 5 ≤ d → d < 21 → fl d ≠ 1 := fun d x y q => n1 ((d - 1) / 4) (by omega) (by omega) (h.2.1 d (by omega) y q)
    have b : ∀ d, d < 21 → bF fl d = 0 := fun d hd => by
      rcases (show d = 0 ∨ (1 ≤ d ∧ d < 5) ∨ 5 ≤ d by omega) with q | q | q
      · rw [q]
        exact n0
      · exact bF_n (h.1 d hd) (n1 d q.1 q.2)
      · exact bF_n (h.1 d hd) (n2 d q hd)
    rw [cntP_jump h.start w2 w3, hc, b 0 (by omega), b 1 (by omega), b 2 (by omega), b 3 (by omega), b 4 (by omega), b 5 (by omega), b 6 (by omega), b 7 (by omega), b 8 (by omega), b 9 (by omega), b 10 (by omega), b 11 (by omega), b 12 (by omega), b 13 (by omega), b 14 (by omega), b 15 (by omega), b 16 (by omega), b 17 (by omega), b 18 (by omega), b 19 (by omega), b 20 (by omega)]
    rfl
theorem ovF_R {b p : Int} {F g : Nat → Int} {s : Nat} (hg : WFg g) (hs : s ≤ 64) : R32 (ovF b p F g s) := by
  unfold ovF
  split
  · have := sumF_R (f := cst p F g) (b := 64) (n := s) (fun j hj => cst_R hg.R j (by omega))
    exact rs (by omega) (by omega)
  · have := mxF_R (f := rks p F g) (b := 8) (by omega) (n := s) (fun j hj => (rks_R hg.R j (by omega)).2)
    exact rs (by omega) (by omega)

set_option maxRecDepth 100000 in
set_option maxHeartbeats 4000000 in
theorem c_X7_overLeaves {l : Launch} {D : gD} {σ : Wd} {m n tn pl : Nat} {hs de : Int} {R P A ch rv W mk ls sp : Nat → Int} {t : Nat} {b : Int} {S : MS} (h : RM D σ m n hs tn pl de R P A ch rv W mk ls sp) (hO : RO R S) (hWS : WS S) (ht : t < 4) (hb : b = 0 ∨ b = 1) : KX7_overLeaves l D [.ref m, vi t, vi b] σ (fun x σ' => x = ovF b S.1 (S.2.1 t) (S.2.2 t) 64 ∧ ∃ de' W', RQ D σ σ' m n hs tn pl de' R P A ch rv W' mk ls sp) := by
  have hT := hO.2.2 t ht
  have hgg := (hWS.2 t ht).2
  refine sp_of (by decide +kernel) (cat1 rfl) (Nat.le_of_ble_eq_true rfl) [some (.ref m), some (vi t), some (vi b), none, none, none, none] rfl (fun sz => ?_)
  refine j_iconst dX7_overLeaves_0 ?_
  refine j_istore_n dX7_overLeaves_1 (by decide) (by dsimp only [List.set] <;> rfl) ?_
  refine j_iconst dX7_overLeaves_2 ?_
  refine j_istore dX7_overLeaves_3 (by decide) (by dsimp only [List.set] <;> rfl) ?_
  have lp5 : ∀ (nn s : Nat) (x de1 : Int) (W1 : Nat → Int) (w : Wd) (v5 v6 : Option Value), 65 - s < nn → s ≤ 64 → (s < 64 → 0 < S.2.2 t s) → x = ovF b S.1 (S.2.1 t) (S.2.2 t) s → RQ D σ w m n hs tn pl de1 R P A ch rv W1 mk ls sp → J l D yX7_overLeaves cX7_overLeaves 7 (some .int) rmX7_overLeaves sz (AA σ sz) (QI D σ sz (fun x σ' => x = ovF b S.1 (S.2.1 t) (S.2.2 t) 64 ∧ ∃ de' W', RQ D σ σ' m n hs tn pl de' R P A ch rv W' mk ls sp)) 0 0 5 [some (.ref m), some (vi t), some (vi b), some (vi x), some (vi s), v5, v6] [] w := by
    intro nn
    induction nn with
    | zero =>
      intro s x de1 W1 w v5 v6 hnn hs64 hst hx hw
      exfalso
      omega
    | succ nn ih5 =>
      intro s x de1 W1 w v5 v6 hnn hs64 hst hx hw
      have hxR : R32 x := by
        rw [hx]
        exact ovF_R hgg hs64
      refine j_iload dX7_overLeaves_5 rfl ?_
      refine j_bipush dX7_overLeaves_7 (by decide) ?_
      refine j_icmp_ge (tgt := 85) dX7_overLeaves_9 (by decide) ⟨by omega, by omega⟩ ⟨by omega, by omega⟩ (fun h9 => ?_) (fun h9 => ?_)
      · skip
        refine j_iload_n dX7_overLeaves_85 rfl ?_
        exact j_iret dX7_overLeaves_86 ⟨_, rfl, by rw [show s = 64 by omega] at hx; exact hx, de1, W1, hw⟩
      · skip
        have hg0 := hst (by omega)
        obtain ⟨k1, k2, k3, k4⟩ := hT.walk (by omega) hg0
        obtain ⟨zz, kk, y1, y2, y3, y4, y5, y6, y7, y8⟩ := leaf_of hgg (by omega) hg0
        have y9 := (hT.at (by omega) hg0).1
        have y10 : szF (fun d => R (257 + 21 * t + d)) s = zz := by omega
        rw [y10] at k1 k2 k3 k4
        have hzz : 1 * 1 ≤ zz * zz := Nat.mul_le_mul y5 y5
        have hzz2 : zz * zz ≤ 8 * 8 := Nat.mul_le_mul y6 y6
        have hzi : (zz : Int) * zz = ((zz * zz : Nat) : Int) := rfl
        have hrl := rk_le (p := S.1) (F := S.2.1 t) (s := s) (z := zz)
        refine j_aload_n dX7_overLeaves_12 rfl ?_
        refine j_iload_n dX7_overLeaves_13 rfl ?_
        refine j_iload dX7_overLeaves_14 rfl ?_
        refine cl_X7_76 (As := [_, _]) rfl dX7_overLeaves_16 (c_X7_sizeAt (s := s) hw.2 hT ht (by omega)) hw.2.1 rfl ⟨by decide, by decide⟩ (Nat.le_of_ble_eq_true rfl) ⟨Nat.zero_le _, Nat.zero_le _⟩ (fun z16 σ16 hz16 => ?_)
        obtain ⟨hr16, hs16⟩ := hz16
        have hr16 := Eq.symm hr16
        have hs16 := Eq.symm hs16
        subst hr16
        subst hs16
        rw [y10]
        refine j_istore dX7_overLeaves_19 (by decide) (by dsimp only [List.set] <;> rfl) ?_
        refine j_iload_n dX7_overLeaves_21 rfl ?_
        refine j_if_eq (tgt := 37) dX7_overLeaves_22 (by decide) (rs (by omega) (by omega)) (fun h22 => ?_) (fun h22 => ?_)
        · skip
          refine j_aload_n dX7_overLeaves_37 rfl ?_
          refine j_iload_n dX7_overLeaves_38 rfl ?_
          refine j_iload dX7_overLeaves_39 rfl ?_
          refine j_iload dX7_overLeaves_41 rfl ?_
          refine cl_X7_106 (As := [_, _, _]) rfl dX7_overLeaves_43 (c_X7_rank hw.2 hO hWS ht y4) hw.2.1 rfl ⟨by decide, by decide⟩ (Nat.le_of_ble_eq_true rfl) ⟨Nat.zero_le _, Nat.zero_le _⟩ (fun z43 σ43 hz43 => ?_)
          obtain ⟨hr43, de3, W3, hq3⟩ := hz43
          have hq3 := hw.tr hq3
          refine j_istore dX7_overLeaves_46 (by decide) (by dsimp only [List.set] <;> rfl) ?_
          refine j_iload_n dX7_overLeaves_48 rfl ?_
          refine j_if_eq (tgt := 59) dX7_overLeaves_49 (by decide) (rs (by omega) (by omega)) (fun h49 => ?_) (fun h49 => ?_)
          · skip
            have e0 : x = mxF (rks S.1 (S.2.1 t) (S.2.2 t)) s := by
              rw [hx]
              unfold ovF
              rw [if_neg (by omega)]
            have e1 : rks S.1 (S.2.1 t) (S.2.2 t) s = z43 := by
              unfold rks
              rw [if_pos hg0, y1, hr43]
              rfl
            have hxv : ovF b S.1 (S.2.1 t) (S.2.2 t) (s + zz * zz) = if x < z43 then z43 else x := by
              unfold ovF
              rw [if_neg (by omega), mxF_jump (w := s) k2 (fun v a c => by unfold rks; rw [if_neg (by rw [k3 v a c]; omega)]), e1, ← e0]
            refine j_iload dX7_overLeaves_59 rfl ?_
            refine j_iload_n dX7_overLeaves_61 rfl ?_
            refine j_icmp_le (tgt := 70) dX7_overLeaves_62 (by decide) (by rw [hr43]; exact rs (by omega) (by omega)) hxR (fun h62 => ?_) (fun h62 => ?_)
            · skip
              refine j_iload_n dX7_overLeaves_70 rfl ?_
              refine j_istore_n dX7_overLeaves_71 (by decide) (by dsimp only [List.set] <;> rfl) ?_
              refine j_iload dX7_overLeaves_72 rfl ?_
              refine j_iload dX7_overLeaves_74 rfl ?_
              refine j_iload dX7_overLeaves_76 rfl ?_
              refine j_imul dX7_overLeaves_78 ?_
              refine j_iadd dX7_overLeaves_79 ?_
              refine j_istore dX7_overLeaves_80 (by decide) (by dsimp only [List.set] <;> rfl) ?_
              refine j_goto (tgt := 5) dX7_overLeaves_82 (by decide) ?_
              have hih := ih5 (s + zz * zz) x _ _ _ (some (vi zz)) (some (vi z43)) (by omega) (by omega) k4 (by rw [hxv, if_neg (by omega)]) hq3
              refine j_weak ?_ hih
              exact ⟨rfl, rfl, rfl, rfl, rfl, rfl, rfl, trivial⟩
            · skip
              refine j_iload dX7_overLeaves_65 rfl ?_
              refine j_goto (tgt := 71) dX7_overLeaves_67 (by decide) ?_
              refine j_istore_n dX7_overLeaves_71 (by decide) (by dsimp only [List.set] <;> rfl) ?_
              refine j_iload dX7_overLeaves_72 rfl ?_
              refine j_iload dX7_overLeaves_74 rfl ?_
              refine j_iload dX7_overLeaves_76 rfl ?_
              refine j_imul dX7_overLeaves_78 ?_
              refine j_iadd dX7_overLeaves_79 ?_
              refine j_istore dX7_overLeaves_80 (by decide) (by dsimp only [List.set] <;> rfl) ?_
              refine j_goto (tgt := 5) dX7_overLeaves_82 (by decide) ?_
              have hih := ih5 (s + zz * zz) z43 _ _ _ (some (vi zz)) (some (vi z43)) (by omega) (by omega) k4 (by rw [hxv, if_pos (by omega)]) hq3
              refine j_weak ?_ hih
              exact ⟨rfl, rfl, rfl, rfl, rfl, rfl, rfl, trivial⟩
          · skip
            exact absurd h22 h49
        · skip
          refine j_aload_n dX7_overLeaves_25 rfl ?_
          refine j_iload_n dX7_overLeaves_26 rfl ?_
          refine j_iload dX7_overLeaves_27 rfl ?_
          refine j_iload dX7_overLeaves_29 rfl ?_
          refine cl_X7_109 (As := [_, _, _]) rfl dX7_overLeaves_31 (c_X7_costOf hw.2 hO hWS ht y4 y5) hw.2.1 rfl ⟨by decide, by decide⟩ (Nat.le_of_ble_eq_true rfl) ⟨Nat.zero_le _, Nat.zero_le _⟩ (fun z31 σ31 hz31 => ?_)
          obtain ⟨hr31, de3, W3, hq3⟩ := hz31
          have hq3 := hw.tr hq3
          refine j_goto (tgt := 46) dX7_overLeaves_34 (by decide) ?_
          refine j_istore dX7_overLeaves_46 (by decide) (by dsimp only [List.set] <;> rfl) ?_
          refine j_iload_n dX7_overLeaves_48 rfl ?_
          refine j_if_eq (tgt := 59) dX7_overLeaves_49 (by decide) (rs (by omega) (by omega)) (fun h49 => ?_) (fun h49 => ?_)
          · skip
            exact absurd h49 h22
          · skip
            have e0 : x = sumF (cst S.1 (S.2.1 t) (S.2.2 t)) s := by
              rw [hx]
              unfold ovF
              rw [if_pos (by omega)]
            have e1 : cst S.1 (S.2.1 t) (S.2.2 t) s = z31 := by
              unfold cst
              rw [if_pos hg0, y1, hr31]
              rfl
            have hxv : ovF b S.1 (S.2.1 t) (S.2.2 t) (s + zz * zz) = x + z31 := by
              unfold ovF
              rw [if_pos (by omega), sumF_jump (w := s) k2 (fun v a c => by unfold cst; rw [if_neg (by rw [k3 v a c]; omega)]), e1, ← e0]
            refine j_iload_n dX7_overLeaves_52 rfl ?_
            refine j_iload dX7_overLeaves_53 rfl ?_
            refine j_iadd dX7_overLeaves_55 ?_
            refine j_goto (tgt := 71) dX7_overLeaves_56 (by decide) ?_
            refine j_istore_n dX7_overLeaves_71 (by decide) (by dsimp only [List.set] <;> rfl) ?_
            refine j_iload dX7_overLeaves_72 rfl ?_
            refine j_iload dX7_overLeaves_74 rfl ?_
            refine j_iload dX7_overLeaves_76 rfl ?_
            refine j_imul dX7_overLeaves_78 ?_
            refine j_iadd dX7_overLeaves_79 ?_
            refine j_istore dX7_overLeaves_80 (by decide) (by dsimp only [List.set] <;> rfl) ?_
            refine j_goto (tgt := 5) dX7_overLeaves_82 (by decide) ?_
            have hih := ih5 (s + zz * zz) (x + z31) _ _ _ (some (vi zz)) (some (vi z31)) (by omega) (by omega) k4 (hxv.symm) hq3
            refine j_weak ?_ hih
            exact ⟨rfl, rfl, rfl, rfl, rfl, rfl, rfl, trivial⟩
  exact lp5 70 0 0 _ _ _ none none (by omega) (by omega) (fun _ => hT.start) (by unfold ovF; split <;> rfl) h.rq

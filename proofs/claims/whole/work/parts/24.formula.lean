/-! ===== contracts: a formula ===== -/
/-- a formula: its fault or -1, the letters, the operation -/
def fml (ch : Nat → Int) (n : Nat) : Int × Int × Int × Int × Int :=
  if ¬ (65 ≤ sg ch n 0 ∧ sg ch n 0 ≤ 68) then (0, 0, 0, 0, 0)
  else if sg ch n 1 ≠ 61 then (1, 0, 0, 0, 0)
  else if ¬ (65 ≤ sg ch n 2 ∧ sg ch n 2 ≤ 68) then (2, 0, 0, 0, 0)
  else if sg ch n 3 = 43 ∨ sg ch n 3 = 45 ∨ sg ch n 3 = 42 then
    (if ¬ (65 ≤ sg ch n 4 ∧ sg ch n 4 ≤ 68) then (4, 0, 0, 0, 0) else if 5 < n then (5, 0, 0, 0, 0) else (-1, sg ch n 0 - 65, sg ch n 2 - 65, sg ch n 4 - 65, sg ch n 3))
  else if sg ch n 3 = 39 then (if 4 < n then (4, 0, 0, 0, 0) else (-1, sg ch n 0 - 65, sg ch n 2 - 65, sg ch n 2 - 65, 39))
  else (if 3 < n then (3, 0, 0, 0, 0) else (-1, sg ch n 0 - 65, sg ch n 2 - 65, sg ch n 2 - 65, -1))
theorem fml_R (ch : Nat → Int) (n : Nat) : (fml ch n).1 = -1 → (0 ≤ (fml ch n).2.1 ∧ (fml ch n).2.1 ≤ 3) ∧ (0 ≤ (fml ch n).2.2.1 ∧ (fml ch n).2.2.1 ≤ 3) ∧ (0 ≤ (fml ch n).2.2.2.1 ∧ (fml ch n).2.2.2.1 ≤ 3) ∧ ((fml ch n).2.2.2.2 = 43 ∨ (fml ch n).2.2.2.2 = 45 ∨ (fml ch n).2.2.2.2 = 42 ∨ (fml ch n).2.2.2.2 = 39 ∨ (fml ch n).2.2.2.2 = -1) := by
  unfold fml
  by_cases a0 : ¬ (65 ≤ sg ch n 0 ∧ sg ch n 0 ≤ 68)
  · rw [if_pos a0]
    intro h
    exact absurd h (by decide)
  rw [if_neg a0]
  by_cases a1 : sg ch n 1 ≠ 61
  · rw [if_pos a1]
    intro h
    exact absurd h (by decide)
  rw [if_neg a1]
  by_cases a2 : ¬ (65 ≤ sg ch n 2 ∧ sg ch n 2 ≤ 68)
  · rw [if_pos a2]
    intro h
    exact absurd h (by decide)
  rw [if_neg a2]
  by_cases a3 : sg ch n 3 = 43 ∨ sg ch n 3 = 45 ∨ sg ch n 3 = 42
  · rw [if_pos a3]
    by_cases a4 : ¬ (65 ≤ sg ch n 4 ∧ sg ch n 4 ≤ 68)
    · rw [if_pos a4]
      intro h
      exact absurd h (by decide)
    rw [if_neg a4]
    by_cases a5 : 5 < n
    · rw [if_pos a5]
      intro h
      exact absurd h (by decide)
    rw [if_neg a5]
    intro _
    dsimp only
    omega
  rw [if_neg a3]
  by_cases a4 : sg ch n 3 = 39
  · rw [if_pos a4]
    by_cases a5 : 4 < n
    · rw [if_pos a5]
      intro h
      exact absurd h (by decide)
    rw [if_neg a5]
    intro _
    dsimp only
    omega
  rw [if_neg a4]
  by_cases a5 : 3 < n
  · rw [if_pos a5]
    intro h
    exact absurd h (by decide)
  rw [if_neg a5]
  intro _
  dsimp only
  omega

set_option maxRecDepth 100000 in
set_option maxHeartbeats 4000000 in
theorem c_X4_readFormula {l : Launch} {D : gD} {σ : Wd} {x n : Nat} {pl nr tg lf rt op : Int} {ch nm : Nat → Int} (h1 : TX D σ x n pl nr tg lf rt op ch nm) : KX4_readFormula l D [.ref x] σ (fun r σ' => Off [x] σ σ' ∧ ∃ (pl tg lf rt op : Int), TX D σ' x n pl nr tg lf rt op ch nm ∧ r = (fml ch n).1 ∧ (r = -1 → tg = (fml ch n).2.1 ∧ lf = (fml ch n).2.2.1 ∧ rt = (fml ch n).2.2.2.1 ∧ op = (fml ch n).2.2.2.2)) := by
  have hn60 := h1.2.1
  have hsg := sg_R h1.2.2.1
  have s0 := hsg 0
  have s1 := hsg 1
  have s2 := hsg 2
  have s3 := hsg 3
  have s4 := hsg 4
  refine sp_of (by decide +kernel) (cat1 rfl) (Nat.le_of_ble_eq_true rfl) [some (.ref x)] rfl (fun sz => ?_)
  refine j_aload_n dX4_readFormula_0 rfl ?_
  refine j_iconst dX4_readFormula_1 ?_
  refine pf_X4_38 rfl dX4_readFormula_2 h1.1 rfl rfl (Nat.le_of_ble_eq_true rfl) ?_
  dsimp only [List.set]
  have k1 := h1.own (pl' := ((0 : Nat) : Int)) (nr' := nr) (tg' := tg) (lf' := lf) (rt' := rt) (op' := op)
  refine j_aload_n dX4_readFormula_5 rfl ?_
  refine j_aload_n dX4_readFormula_6 rfl ?_
  refine cl_X4_56 (As := []) rfl dX4_readFormula_7 (c_X4_takeLetter k1 (by omega)) k1.1 rfl ⟨by decide, by decide⟩ (Nat.le_of_ble_eq_true rfl) ⟨Nat.zero_le _, Nat.zero_le _⟩ (fun z7 σ7 hz7 => ?_)
  obtain ⟨q7, k7, ho7, hc7⟩ := hz7
  refine pf_X4_59 rfl dX4_readFormula_10 k7.1 rfl rfl (Nat.le_of_ble_eq_true rfl) ?_
  dsimp only [List.set]
  have k10 := k7.own (pl' := q7) (nr' := nr) (tg' := z7) (lf' := lf) (rt' := rt) (op' := op)
  have o10 := (Off.rf.up (S := [x]) (σ := σ) (w := σ) (a := x) (e := .inr (4, txF x n ((0 : Nat) : Int) nr tg lf rt op)) (List.mem_singleton.mpr rfl)).tr (ho7.up (a := x) (e := .inr (4, txF x n q7 nr z7 lf rt op)) (List.mem_singleton.mpr rfl))
  refine j_aload_n dX4_readFormula_13 rfl ?_
  refine gf_X4_59 rfl dX4_readFormula_14 k10.1 rfl ?_
  refine j_iconst dX4_readFormula_17 ?_
  refine j_icmp_eq (tgt := 30) dX4_readFormula_18 (by decide) (by rcases hc7 with ⟨-, b, -⟩ | ⟨-, b, -⟩ <;> (rw [b]; exact rs (by omega) (by omega))) ⟨by omega, by omega⟩ (fun h18 => ?_) (fun h18 => ?_)
  · skip
    rcases hc7 with ⟨a7, b7, c7⟩ | ⟨a7, b7, c7⟩
    · exact absurd b7 (by omega)
    subst c7
    refine j_aload_n dX4_readFormula_30 rfl ?_
    refine gf_X4_38 rfl dX4_readFormula_31 k10.1 rfl ?_
    exact j_iret dX4_readFormula_34 ⟨_, rfl, o10, _, _, _, _, _, k10, by unfold fml; (rw [if_pos a7] <;> rfl), fun q => absurd q (by omega)⟩
  · skip
    rcases hc7 with ⟨a7, b7, c7⟩ | ⟨a7, b7, c7⟩
    rotate_left
    · exact absurd b7 h18
    have c7 : q7 = 1 := c7
    subst c7
    refine j_aload_n dX4_readFormula_21 rfl ?_
    refine j_bipush dX4_readFormula_22 (by decide) ?_
    refine cl_X4_44 (As := [_]) rfl dX4_readFormula_24 (c_X4_take k10 (by omega) (rs (by omega) (by omega))) k10.1 rfl ⟨by decide, by decide⟩ (Nat.le_of_ble_eq_true rfl) ⟨Nat.zero_le _, Nat.zero_le _⟩ (fun z24 σ24 hz24 => ?_)
    obtain ⟨q24, k24, ho24, hc24⟩ := hz24
    refine j_if_ne (tgt := 35) dX4_readFormula_27 (by decide) (by rcases hc24 with ⟨-, b, -⟩ | ⟨-, b, -⟩ <;> (rw [b]; exact rs (by omega) (by omega))) (fun h27 => ?_) (fun h27 => ?_)
    · skip
      rcases hc24 with ⟨a24, b24, c24⟩ | ⟨a24, b24, c24⟩
      rotate_left
      · exact absurd b24 h27
      have c24 : q24 = 2 := c24
      subst c24
      refine j_aload_n dX4_readFormula_35 rfl ?_
      refine j_aload_n dX4_readFormula_36 rfl ?_
      refine cl_X4_56 (As := []) rfl dX4_readFormula_37 (c_X4_takeLetter k24 (by omega)) k24.1 rfl ⟨by decide, by decide⟩ (Nat.le_of_ble_eq_true rfl) ⟨Nat.zero_le _, Nat.zero_le _⟩ (fun z37 σ37 hz37 => ?_)
      obtain ⟨q37, k37, ho37, hc37⟩ := hz37
      refine pf_X4_62 rfl dX4_readFormula_40 k37.1 rfl rfl (Nat.le_of_ble_eq_true rfl) ?_
      dsimp only [List.set]
      have k40 := k37.own (pl' := q37) (nr' := nr) (tg' := z7) (lf' := z37) (rt' := rt) (op' := op)
      have o40 := (o10.tr ho24).tr (ho37.up (a := x) (e := .inr (4, txF x n q37 nr z7 z37 rt op)) (List.mem_singleton.mpr rfl))
      refine j_aload_n dX4_readFormula_43 rfl ?_
      refine gf_X4_62 rfl dX4_readFormula_44 k40.1 rfl ?_
      refine j_iconst dX4_readFormula_47 ?_
      refine j_icmp_ne (tgt := 56) dX4_readFormula_48 (by decide) (by rcases hc37 with ⟨-, b, -⟩ | ⟨-, b, -⟩ <;> (rw [b]; exact rs (by omega) (by omega))) ⟨by omega, by omega⟩ (fun h48 => ?_) (fun h48 => ?_)
      · skip
        rcases hc37 with ⟨a37, b37, c37⟩ | ⟨a37, b37, c37⟩
        rotate_left
        · exact absurd b37 h48
        have c37 : q37 = 3 := c37
        subst c37
        refine j_aload_n dX4_readFormula_56 rfl ?_
        refine j_aload_n dX4_readFormula_57 rfl ?_
        refine gf_X4_62 rfl dX4_readFormula_58 k40.1 rfl ?_
        refine pf_X4_65 rfl dX4_readFormula_61 k40.1 rfl rfl (Nat.le_of_ble_eq_true rfl) ?_
        dsimp only [List.set]
        have k61 := k40.own (pl' := ((3 : Nat) : Int)) (nr' := nr) (tg' := z7) (lf' := z37) (rt' := z37) (op' := op)
        have o61 := o40.up (e := .inr (4, txF x n ((3 : Nat) : Int) nr z7 z37 z37 op)) (a := x) (List.mem_singleton.mpr rfl)
        refine j_aload_n dX4_readFormula_64 rfl ?_
        refine j_aload_n dX4_readFormula_65 rfl ?_
        refine cl_X4_68 (As := []) rfl dX4_readFormula_66 (c_X4_takeOperation k61 (by omega)) k61.1 rfl ⟨by decide, by decide⟩ (Nat.le_of_ble_eq_true rfl) ⟨Nat.zero_le _, Nat.zero_le _⟩ (fun z66 σ66 hz66 => ?_)
        obtain ⟨q66, k66, ho66, hc66⟩ := hz66
        refine pf_X4_18 rfl dX4_readFormula_69 k66.1 rfl rfl (Nat.le_of_ble_eq_true rfl) ?_
        dsimp only [List.set]
        have k69 := k66.own (pl' := q66) (nr' := nr) (tg' := z7) (lf' := z37) (rt' := z37) (op' := z66)
        have o69 := o61.tr (ho66.up (a := x) (e := .inr (4, txF x n q66 nr z7 z37 z37 z66)) (List.mem_singleton.mpr rfl))
        refine j_aload_n dX4_readFormula_72 rfl ?_
        refine gf_X4_18 rfl dX4_readFormula_73 k69.1 rfl ?_
        refine j_iconst dX4_readFormula_76 ?_
        refine j_icmp_eq (tgt := 110) dX4_readFormula_77 (by decide) (by rcases hc66 with ⟨-, b, -⟩ | ⟨-, b, -⟩ <;> (rw [b]; exact rs (by omega) (by omega))) ⟨by omega, by omega⟩ (fun h77 => ?_) (fun h77 => ?_)
        · skip
          rcases hc66 with ⟨a66, b66, c66⟩ | ⟨a66, b66, c66⟩
          · exact absurd b66 (by omega)
          subst c66
          refine j_aload_n dX4_readFormula_110 rfl ?_
          refine cl_X4_52 (As := []) rfl dX4_readFormula_111 (c_X4_faultBehind k69 (by omega)) k69.1 rfl ⟨by decide, by decide⟩ (Nat.le_of_ble_eq_true rfl) ⟨Nat.zero_le _, Nat.zero_le _⟩ (fun z111 σ111 hz111 => ?_)
          obtain ⟨hr111, hs111⟩ := hz111
          have hr111 := Eq.symm hr111
          have hs111 := Eq.symm hs111
          subst hr111
          subst hs111
          have hf : fml ch n = (if 3 < n then (3, 0, 0, 0, 0) else (-1, sg ch n 0 - 65, sg ch n 2 - 65, sg ch n 2 - 65, -1)) := by
            unfold fml
            rw [if_neg (fun z => z a7), if_neg (fun z => z a24), if_neg (fun z => z a37), if_neg (by omega), if_neg (by omega)]
          exact j_iret dX4_readFormula_114 ⟨_, rfl, o69, _, _, _, _, _, k69, by rw [hf]; by_cases a : 3 < n; (rw [if_pos a, if_pos a]; rfl); (rw [if_neg a, if_neg a]), fun q => by have hn : ¬ 3 < n := (fun a => by rw [if_pos a] at q; omega); rw [hf, if_neg hn]; exact ⟨b7, b37, b37, b66⟩⟩
        · skip
          rcases hc66 with ⟨a66, b66, c66⟩ | ⟨a66, b66, c66⟩
          rotate_left
          · exact absurd b66 h77
          have c66 : q66 = 4 := c66
          subst c66
          refine j_aload_n dX4_readFormula_80 rfl ?_
          refine gf_X4_18 rfl dX4_readFormula_81 k69.1 rfl ?_
          refine j_bipush dX4_readFormula_84 (by decide) ?_
          refine j_icmp_eq (tgt := 110) dX4_readFormula_86 (by decide) (rs (by omega) (by omega)) ⟨by omega, by omega⟩ (fun h86 => ?_) (fun h86 => ?_)
          · skip
            refine j_aload_n dX4_readFormula_110 rfl ?_
            refine cl_X4_52 (As := []) rfl dX4_readFormula_111 (c_X4_faultBehind k69 (by omega)) k69.1 rfl ⟨by decide, by decide⟩ (Nat.le_of_ble_eq_true rfl) ⟨Nat.zero_le _, Nat.zero_le _⟩ (fun z111 σ111 hz111 => ?_)
            obtain ⟨hr111, hs111⟩ := hz111
            have hr111 := Eq.symm hr111
            have hs111 := Eq.symm hs111
            subst hr111
            subst hs111
            have hf : fml ch n = (if 4 < n then (4, 0, 0, 0, 0) else (-1, sg ch n 0 - 65, sg ch n 2 - 65, sg ch n 2 - 65, 39)) := by
              unfold fml
              rw [if_neg (fun z => z a7), if_neg (fun z => z a24), if_neg (fun z => z a37), if_neg (by omega), if_pos (by omega)]
            exact j_iret dX4_readFormula_114 ⟨_, rfl, o69, _, _, _, _, _, k69, by rw [hf]; by_cases a : 4 < n; (rw [if_pos a, if_pos a]; rfl); (rw [if_neg a, if_neg a]), fun q => by have hn : ¬ 4 < n := (fun a => by rw [if_pos a] at q; omega); rw [hf, if_neg hn]; exact ⟨b7, b37, b37, h86⟩⟩
          · skip
            refine j_aload_n dX4_readFormula_89 rfl ?_
            refine j_aload_n dX4_readFormula_90 rfl ?_
            refine cl_X4_56 (As := []) rfl dX4_readFormula_91 (c_X4_takeLetter k69 (by omega)) k69.1 rfl ⟨by decide, by decide⟩ (Nat.le_of_ble_eq_true rfl) ⟨Nat.zero_le _, Nat.zero_le _⟩ (fun z91 σ91 hz91 => ?_)
            obtain ⟨q91, k91, ho91, hc91⟩ := hz91
            refine pf_X4_65 rfl dX4_readFormula_94 k91.1 rfl rfl (Nat.le_of_ble_eq_true rfl) ?_
            dsimp only [List.set]
            have k94 := k91.own (pl' := q91) (nr' := nr) (tg' := z7) (lf' := z37) (rt' := z91) (op' := z66)
            have o94 := o69.tr (ho91.up (a := x) (e := .inr (4, txF x n q91 nr z7 z37 z91 z66)) (List.mem_singleton.mpr rfl))
            refine j_aload_n dX4_readFormula_97 rfl ?_
            refine gf_X4_65 rfl dX4_readFormula_98 k94.1 rfl ?_
            refine j_iconst dX4_readFormula_101 ?_
            refine j_icmp_ne (tgt := 110) dX4_readFormula_102 (by decide) (by rcases hc91 with ⟨-, b, -⟩ | ⟨-, b, -⟩ <;> (rw [b]; exact rs (by omega) (by omega))) ⟨by omega, by omega⟩ (fun h102 => ?_) (fun h102 => ?_)
            · skip
              rcases hc91 with ⟨a91, b91, c91⟩ | ⟨a91, b91, c91⟩
              rotate_left
              · exact absurd b91 h102
              have c91 : q91 = 5 := c91
              subst c91
              refine j_aload_n dX4_readFormula_110 rfl ?_
              refine cl_X4_52 (As := []) rfl dX4_readFormula_111 (c_X4_faultBehind k94 (by omega)) k94.1 rfl ⟨by decide, by decide⟩ (Nat.le_of_ble_eq_true rfl) ⟨Nat.zero_le _, Nat.zero_le _⟩ (fun z111 σ111 hz111 => ?_)
              obtain ⟨hr111, hs111⟩ := hz111
              have hr111 := Eq.symm hr111
              have hs111 := Eq.symm hs111
              subst hr111
              subst hs111
              have hf : fml ch n = (if 5 < n then (5, 0, 0, 0, 0) else (-1, sg ch n 0 - 65, sg ch n 2 - 65, sg ch n 4 - 65, sg ch n 3)) := by
                unfold fml
                rw [if_neg (fun z => z a7), if_neg (fun z => z a24), if_neg (fun z => z a37), if_pos (by omega), if_neg (fun z => z a91)]
              exact j_iret dX4_readFormula_114 ⟨_, rfl, o94, _, _, _, _, _, k94, by rw [hf]; by_cases a : 5 < n; (rw [if_pos a, if_pos a]; rfl); (rw [if_neg a, if_neg a]), fun q => by have hn : ¬ 5 < n := (fun a => by rw [if_pos a] at q; omega); rw [hf, if_neg hn]; exact ⟨b7, b37, b91, b66⟩⟩
            · skip
              rcases hc91 with ⟨a91, b91, c91⟩ | ⟨a91, b91, c91⟩
              · exact absurd b91 (by omega)
              subst c91
              refine j_aload_n dX4_readFormula_105 rfl ?_
              refine gf_X4_38 rfl dX4_readFormula_106 k94.1 rfl ?_
              exact j_iret dX4_readFormula_109 ⟨_, rfl, o94, _, _, _, _, _, k94, by unfold fml; (rw [if_neg (fun z => z a7), if_neg (fun z => z a24), if_neg (fun z => z a37), if_pos (by omega), if_pos a91] <;> rfl), fun q => absurd q (by omega)⟩
      · skip
        rcases hc37 with ⟨a37, b37, c37⟩ | ⟨a37, b37, c37⟩
        · exact absurd b37 (by omega)
        subst c37
        refine j_aload_n dX4_readFormula_51 rfl ?_
        refine gf_X4_38 rfl dX4_readFormula_52 k40.1 rfl ?_
        exact j_iret dX4_readFormula_55 ⟨_, rfl, o40, _, _, _, _, _, k40, by unfold fml; (rw [if_neg (fun z => z a7), if_neg (fun z => z a24), if_pos a37] <;> rfl), fun q => absurd q (by omega)⟩
    · skip
      rcases hc24 with ⟨a24, b24, c24⟩ | ⟨a24, b24, c24⟩
      · exact absurd b24 (by omega)
      subst c24
      refine j_aload_n dX4_readFormula_30 rfl ?_
      refine gf_X4_38 rfl dX4_readFormula_31 k24.1 rfl ?_
      exact j_iret dX4_readFormula_34 ⟨_, rfl, o10.tr ho24, _, _, _, _, _, k24, by unfold fml; (rw [if_neg (fun z => z a7), if_pos a24] <;> rfl), fun q => absurd q (by omega)⟩

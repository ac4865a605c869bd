/-! ===== the start; the claim (its end is the skeleton's, a starting text) ===== -/
theorem TB_start {s : State} {b : Nat} (hts : ∀ w ∈ lw_tbl, w.before #[Value.ref b] s = true) : TB s := by
  intro w hw a
  have hm := List.mem_filter.mp hw
  have h := hts w hm.1
  have hg := hm.2
  rw [Bool.or_eq_true] at hg
  rcases hg with hg | hg
  · exact word_at (State.WarmedH.refl s) (good_of_word hg) h
  · cases w <;> first | (simp [isNest] at hg; done) | skip
    · exact va_Nw.use rfl (va_Nw.of rfl h)
    · exact va_Nw.use rfl (va_Nw.of rfl h)
theorem asg_self (vm : Vm) (c : ClassId) : vm.assignable c c = true := by
  show vm.assignableAux (255 + 1) c c = true
  rw [Vm.assignableAux]
  simp only [beq_self_eq_true, Bool.true_or]
theorem KK_start {s : State} {b : Nat} (hts : ∀ w ∈ lw_tbl, w.before #[Value.ref b] s = true) : ∃ D : gD, KK D s := by
  have ht : ∀ w ∈ TBl, w.before #[Value.ref b] s = true := fun w hw => hts w (List.mem_filter.mp hw).1
  obtain ⟨c0, i0, k0⟩ := u_known ht inTX0 (ht _ ins_X0)
  obtain ⟨c1, i1, k1⟩ := u_known ht inTX1 (ht _ ins_X1)
  obtain ⟨c2, i2, k2⟩ := u_known ht inTX2 (ht _ ins_X2)
  obtain ⟨c3, i3, k3⟩ := u_known ht inTX3 (ht _ ins_X3)
  obtain ⟨c4, i4, k4⟩ := u_known ht inTX4 (ht _ ins_X4)
  obtain ⟨c5, i5, k5⟩ := u_known ht inTX5 (ht _ ins_X5)
  obtain ⟨c6, i6, k6⟩ := u_known ht inTX6 (ht _ ins_X6)
  obtain ⟨c7, i7, k7⟩ := u_known ht inTX7 (ht _ ins_X7)
  obtain ⟨a0, kA0, m0, f0, g0, h0⟩ := Cond.arrayClass_spec (ht _ acl_int)
  obtain ⟨a1, kA1, m1, f1, g1, h1⟩ := Cond.arrayClass_spec (ht _ acl_char)
  obtain ⟨a2, kA2, m2, f2, g2, h2⟩ := Cond.arrayClass_spec (ht _ acl_bool)
  have o3 : (Cond.arrayOver (.object "BlockRanks$Table")).before #[Value.ref b] s = true := hts _ (List.mem_of_getElem? (i := 83) (by decide +kernel))
  have o4 : (Cond.arrayOver (.object "BlockRanks$State")).before #[Value.ref b] s = true := hts _ (List.mem_of_getElem? (i := 123) (by decide +kernel))
  have o5 : (Cond.arrayOver (.array .int)).before #[Value.ref b] s = true := hts _ (List.mem_of_getElem? (i := 179) (by decide +kernel))
  obtain ⟨m3, a3, kA3, f3, -, g3, h3, e3⟩ := Cond.arrayOver_spec o3
  obtain ⟨m4, a4, kA4, f4, -, g4, h4, e4⟩ := Cond.arrayOver_spec o4
  obtain ⟨m5, a5, kA5, f5, -, g5, h5, e5⟩ := arrayOverA_spec o5
  have e0 : a0 = m5 := Option.some.inj (f0.symm.trans f5)
  subst e0
  refine ⟨((fun k => match k with | 0 => c0 | 1 => c1 | 2 => c2 | 3 => c3 | 4 => c4 | 5 => c5 | 6 => c6 | _ => c7, fun k => match k with | 0 => i0 | 1 => i1 | 2 => i2 | 3 => i3 | 4 => i4 | 5 => i5 | 6 => i6 | _ => i7), fun k => match k with | 0 => a0 | 1 => a1 | 2 => a2 | 3 => a3 | 4 => a4 | _ => a5), ⟨fun k q hq => ?_, fun k q hq => ?_⟩, kA5, kA0, g5, h5, g0, asg_self _ _, ?_, va_AO.of o3, va_AO.of o4⟩
  · match k, hq with
    | 0, hq => cases hq; exact k0
    | 1, hq => cases hq; exact k1
    | 2, hq => cases hq; exact k2
    | 3, hq => cases hq; exact k3
    | 4, hq => cases hq; exact k4
    | 5, hq => cases hq; exact k5
    | 6, hq => cases hq; exact k6
    | 7, hq => cases hq; exact k7
    | k + 8, hq => simp at hq
  · match k, hq with
    | 0, hq => cases hq; exact ⟨fun N z => ⟨(fun k h => by cases h), kA0, g0, m0, h0⟩, f0⟩
    | 1, hq => cases hq; exact ⟨fun N z => ⟨(fun k h => by cases h), kA1, g1, m1, h1⟩, f1⟩
    | 2, hq => cases hq; exact ⟨fun N z => ⟨(fun k h => by cases h), kA2, g2, m2, h2⟩, f2⟩
    | 3, hq => cases hq; exact ⟨fun N z => ⟨(fun k h => by cases h), kA3, g3, m3, h3⟩, kA3, m3, g3, h3, f3, e3⟩
    | 4, hq => cases hq; exact ⟨fun N z => ⟨(fun k h => by cases h), kA4, g4, m4, h4⟩, kA4, m4, g4, h4, f4, e4⟩
    | 5, hq => cases hq; exact ⟨fun N z => ⟨(fun k h => by cases h), kA5, g5, _, h5⟩, e5⟩
    | k + 6, hq => simp at hq
  · exact e5
set_option maxRecDepth 100000 in
set_option maxHeartbeats 4000000 in
theorem law_body {l : Launch} {D : gD} {y : MethodName} {sz b Ls : Nat} {xs : Nat → Int32} (hy : y.cls = RL) (hLs : Ls ≤ 2560) : J l D y cL_law 4 ret room_1 sz (fun q => sz ≤ q) (QEL b Ls xs) 0 0 0 [some (.ref b), none, none, none] [] (fun _ => none) := by
  refine nw_L_7 hy dL_law_0 (Nat.le_of_ble_eq_true rfl) (Nat.le_of_ble_eq_true rfl) (fun a a1 a2 a3 => ?_)
  have ha : sz = a := by omega
  subst ha
  refine j_dup dL_law_3 rfl ?_
  refine j_callI (As := []) (wc_X6_init _ _) (by rw [hy]; exact lk_L_9) wi_X6_init rfl dL_law_4 (c_X6_init (wup_s _ _ _)) rfl ⟨rfl, rfl⟩ ⟨by decide, (Nat.le_of_ble_eq_true rfl)⟩ (Nat.le_of_ble_eq_true rfl) ⟨(Nat.le_of_ble_eq_true rfl), (Nat.le_of_ble_eq_true rfl)⟩ (fun sz1 r1 w1 hz hP => ?_)
  obtain ⟨z1, z2, z3⟩ := hz
  obtain ⟨hr, hP⟩ := hP
  subst hr
  have z4 := z3 sz _ (wup_s _ _ _)
  have z5 : sz1 = sz + 1 := by omega
  subst z5
  obtain ⟨p1, p2⟩ := hP
  have p2 := p2 rfl
  refine j_astore_n dL_law_7 (by decide) (by dsimp only [List.set] <;> rfl) ?_
  refine nw_L_10 hy dL_law_8 (Nat.le_of_ble_eq_true rfl) (Nat.le_of_ble_eq_true rfl) (fun a a1 a2 a3 => ?_)
  obtain ⟨_, Fl, hFl, -⟩ := p2.2.2.2.2.2.2.2.2
  have ha := a3 _ _ hFl
  have ha : sz + 128 = a := by omega
  subst ha
  refine j_dup dL_law_11 rfl ?_
  refine j_callI (As := []) (wc_X7_init _ _) (by rw [hy]; exact lk_L_12) wi_X7_init rfl dL_law_12 (c_X7_init (wup_s _ _ _)) rfl ⟨rfl, rfl⟩ ⟨by decide, (Nat.le_of_ble_eq_true rfl)⟩ (Nat.le_of_ble_eq_true rfl) ⟨(Nat.le_of_ble_eq_true rfl), (Nat.le_of_ble_eq_true rfl)⟩ (fun sz1 r1 w2 hz hP => ?_)
  obtain ⟨z1, z2, z3⟩ := hz
  obtain ⟨hr, hP⟩ := hP
  subst hr
  have z4 := z3 (sz + 128) _ (wup_s _ _ _)
  have z5 : sz1 = sz + 128 + 1 := by omega
  subst z5
  obtain ⟨q1, -, q2⟩ := hP
  have q2 := q2 rfl
  refine j_astore_n dL_law_15 (by decide) (by dsimp only [List.set] <;> rfl) ?_
  refine j_iconst dL_law_16 ?_
  refine j_istore_n dL_law_17 (by decide) (by dsimp only [List.set] <;> rfl) ?_
  exact law_loop (o := sz) hy hLs (Ls + 2) 0 w2 (by omega) (by omega) (by omega) ⟨S0, S0, 0, 0, fun _ => S0, 0, fun _ => 0, CS_moved p2 q1.toR (by omega), q2, LG_new⟩
/-- from the entry, for every script of at most 2560 ints, the law comes to its end with true -/
theorem whole_start {p : Program} {e : Env} {s : State} {m : MethodId} {below : List Frame} {meth : Method} {c : Code} (l : Launch) (hflags : l.flags = flags0) {b L : Nat} {xs : Nat → Int32} (hL : L ≤ 2560) (C0 : lw_At p s m meth c b L xs) : W p l e room_1 s m #[Value.ref b] below meth c s.heap [] 0 0 (lw_Z below #[Value.ref b] s) (entryFrame m ([Value.ref b] : List Value).toArray 4) := by
  obtain ⟨hx, hb, hr, hml, hown, hts, hX, hbl, hlocks, hgv⟩ := id C0
  obtain ⟨D, hK⟩ := KK_start hts
  have hl := lv_entry ([.ref b]) (n := 4) (Nat.le_of_ble_eq_true rfl)
  rw [lg_entry_eq]
  generalize (lg_sl ([.ref b]) ++ List.replicate (4 - (lg_sl ([.ref b])).length) Slot.unset).toArray = ls at hl ⊢
  have hLH : LH ls 4 [some (.ref b), none, none, none] := ⟨hl, fun i v hv => by
    match i, hv with
    | 0, hv => cases hv; rfl
    | 1, hv => cases hv
    | 2, hv => cases hv
    | 3, hv => cases hv
    | i + 4, hv => simp at hv⟩
  have hW : HW D (fun _ => none) s.heap := by
    refine ⟨[], fun k q h => by simp at h, ⟨fun i j p q h => by simp at h, fun k q h => by simp at h⟩, fun a e => ⟨fun h => ?_, fun h => ?_⟩⟩
    · cases h
    · obtain ⟨k, hk⟩ := h
      simp at hk
  have C1 : JC D ⟨RL, meth.name, "([I)Z"⟩ code 4 ret s.heap.size p s m meth c := ⟨hx, hb, hml, hr, hown, hlocks, rfl, TB_start hts, hK, rfl⟩
  have K := law_body (l := l) (D := D) (y := ⟨RL, meth.name, "([I)Z"⟩) (sz := s.heap.size) (b := b) (Ls := L) (xs := xs) rfl hL p e s m #[Value.ref b] below meth c C1 s.heap [] ls hLH hW (fun a e h => by cases h) (fun q h => h) va_S.rf
  intro T hT X
  obtain ⟨t, q1, q2⟩ := K T hT X
  exact ⟨t, q1, q2 ⟨rfl, hX, hbl⟩⟩
set_option maxHeartbeats 4000000 in
theorem lw_walk (l : Launch) (hflags : l.flags = flags0) (b : Addr) (xs : List Int32) : MetFree l x (headSpec (Jvm.Cond.code x code maxLocals ret :: tables_1) room_1) (lw_P b xs) (fun _ _ _ _ _ => True) lw_Q := by
  refine MetFree.of_bodyS (code := code) (maxLocals := maxLocals) (ret := ret) (by decide) ?_ ?_
  · intro args s m h hn
    obtain ⟨meth, c, h1, h2, h3, h4, h5, h6, -, -⟩ := Cond.code_spec hn (atoms_spec (ws := Jvm.Cond.code x code maxLocals ret :: tables_1) h _ List.mem_cons_self)
    exact ⟨meth, c, h1, h2, h3, h4, h5, h6⟩
  · intro p e s m args below meth c s₁ B hml0 hP _
    obtain ⟨rfl, hx, hbd, hgv⟩ := hP
    obtain ⟨scr, harrAt, hlist, hof, hsmall⟩ := hx
    obtain ⟨hcb, hkn, -, -⟩ := State.arrayAt?_spec harrAt
    have hown : s.vm.findClass R_law = some m.cls := findClass_of_methodNamed B.named
    have hts0 : ∀ c ∈ (Jvm.Cond.code x code maxLocals ret :: tables_1), c.before #[Value.ref b] s = true := atoms_spec (ws := Jvm.Cond.code x code maxLocals ret :: tables_1) B.pre
    have hts : ∀ w ∈ lw_tbl, w.before #[Value.ref b] s = true := k2_hts_sels lw_privs (fun w hw => hts0 w (List.mem_cons_of_mem _ hw)) lw_privs_ok
    have hml : c.maxLocals = 4 := B.maxLocals_eq (hts0 _ List.mem_cons_self)
    have X₀ : Stand p l e room_1 s m #[Value.ref b] below meth c s₁ [] 0 0 := Stand.of_body B
    have hh0 : s₁.heap = s.heap := by rw [B.state]; rfl
    have hsz : scr.slots.size = xs.length := by rw [← Array.length_toList, hlist, List.length_map]
    have hval : ∀ j : Nat, j < xs.length → scr.slots[j]? = some (.int (xs.getD j 0)) := fun j hj => by
      rw [← Array.getElem?_toList, hlist]
      simp [hj]
    have hbl : b < s.heap.size := (Array.getElem?_eq_some_iff.mp hcb).1
    have hX : va_X b xs.length (fun j => xs.getD j 0) s s.heap := ⟨scr, hcb, hof, hkn, hsz, hval⟩
    have K : W p l e room_1 s m #[Value.ref b] below meth c s₁.heap [] 0 0 (lw_Z below #[Value.ref b] s) (entryFrame m ([Value.ref b] : List Value).toArray 4) := by
      rw [hh0]
      exact whole_start l hflags hbd ⟨B.exec, B.bytes, B.returns, hml, hown, hts, hX, hbl, B.notSynchronized, hgv⟩
    obtain ⟨t, a1, o, b1, b2, b3⟩ := K s₁ rfl X₀
    exact ⟨t, o, a1, b1, b2, b3⟩
theorem lw_pre_spec {args : Array Value} {s : State} (h : (Jvm.Cond.and given_1 narrow_1).before args s = true) (hr : rest_1_c.before args s = true) : ∃ (b : Addr) (xs : List Int32), lw_P b xs args s := by
  have hs := flat_of_before _ h
  have hq := flat_of_before _ hr
  have hc : (Cond.count 1).before args s = true := hs _ (by decide +kernel)
  have harr : (Cond.arrayOf (.arg 0) .int).before args s = true := hs _ (by decide +kernel)
  have hle : (Cond.le (.length (.arg 0)) (.int 2560)).before args s = true := hs _ (by decide +kernel)
  have hlen : (Cond.isInt (.length (.arg 0))).before args s = true := hq _ (by decide +kernel)
  have hall : (Cond.all (.arg 0) (.isInt (.elem (.arg 0) (.index 0)))).before args s = true := hq _ (by decide +kernel)
  obtain ⟨b, xs, hb, hx⟩ := State.ints_of_pre rfl harr hlen hall
  have hsm : xs.length < 2 ^ 31 := hx.choose_spec.2.2.2
  have hev : (Term.length (.arg 0)).eval args s none [] s = some (.int xs.length.toInt32) := hx.length_eval hb
  have hv := Cond.le_ints hev (show (Term.int 2560).eval args s none [] s = some (.int 2560) from rfl)
  have hd : xs.length.toInt32 ≤ 2560 := by
    simpa [Cond.before, Cond.holds, hv] using hle
  have hN : xs.length ≤ 2560 := (Int32.ofNat_le_ofNat hsm (by decide)).mp (show Int32.ofNat xs.length ≤ Int32.ofNat 2560 from hd)
  exact ⟨b, xs, Cond.one_arg hc (show args[0]? = some (.ref b) from hb), hx, hN, h⟩
theorem lw_comes (l : Launch) (hflags : l.flags = flags0) : Comes l x (Jvm.Cond.code x code maxLocals ret :: tables_1) room_1 (fun tb e args s => Calls_1 tb e args s ∧ rest_1 tb e args s ∧ Pre_1 tb e args s)
    (fun _ _ args s o t => lw_Q args s o t) := by
  intro p e ha hc hk s m args below hf hfit hheap happ hpre
  obtain ⟨b, xs, hP⟩ := lw_pre_spec hpre.2.2 hpre.2.1
  obtain ⟨k, o, h1, h2, h3, hQ⟩ := lw_walk l hflags b xs p e ha hc hk s m args below hf ((Spec.applies_iff_loose hf).mp happ).1 hP trivial
  exact ⟨k, o, h1, h2, h3, hQ⟩
theorem lw_frame {s t : State} {o : Outcome} {args : Array Value} (h : Framed s o t [] 600000 7302250) :
    Framed s o t (fieldLocs frame_1_writes args s ++ arrayLocs frame_1_arrays args s ++ staticLocs frame_1_statics s) 600000 7302250 := h
theorem lw_limb (L : Cond) (hL : ∀ (args : Array Value) (s t : State), L.after args s (.returned (some (.int 1))) t = true) :
    ArmFor flags0 classFile x code maxLocals ret World_1 tables_1 room_1 Calls_1 rest_1 Pre_1
      (fun tb e a s o t => postC L tb e a s o t ∧ Framed s o t (fieldLocs frame_1_writes a s ++ arrayLocs frame_1_arrays a s ++ staticLocs frame_1_statics s) 600000 7302250) := by
  intro l hflags _ _ p e ha hc hk s m args below hf hfit hheap happ hpre
  obtain ⟨k, o, h1, h2, h3, rfl, hF⟩ := lw_comes l hflags p e ha hc hk s m args below hf hfit hheap happ hpre
  exact ⟨k, _, h1, h2, h3, hL args s _, lw_frame hF⟩
theorem i_vc : Claimed_1_1 ∧ Claimed_1_2 := ⟨lw_limb limb_1_1 (fun args s t => by simp [limb_1_1, Cond.after, Cond.holds, Cond.value]), lw_limb limb_1_2 (fun args s t => Cond.after_iff.mpr (by
  first | (rw [show limb_1_2 = Cond.eq .result (.int 1) from rfl, Cond.eq_ints (x := 1) (y := 1) rfl rfl]; simp; done) | (simp [limb_1_2, Cond.value, Term.eval]; done)))⟩

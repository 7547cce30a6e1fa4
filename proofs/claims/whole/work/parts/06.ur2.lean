set_option maxHeartbeats 4000000 in
set_option maxRecDepth 100000 in
theorem cur_Nm_farthestAllowed (l : Launch) (D : va_G) (a : Nat → Nat) (k : Nat → ClassId) (hAd : ur_Ad a) (σ : ST) (x1 : Int32) (res : Int32) (h : urf_Nm_farthestAllowed σ x1 = some res) : Met l ury_Nm_farthestAllowed urs_Nm_farthestAllowed urr_Nm_farthestAllowed (ur_Pc D a k σ [.ref (a 1), .int x1]) (va_Qi (fun (r : Int32) (u : ST) => r = res ∧ u = σ) (ur_B D a k) (ur_A a)) 0 0 (ur_A a) := by
  refine Met.ofW (cc := urb_Nm_farthestAllowed) (maxL := 4) (ret := (some .int)) (by decide) rfl ?_
  intro p e s m args below meth c s₁ B hml hv
  obtain ⟨rfl, hP, hK⟩ := hv
  have hx := B.exec
  have hb := B.bytes
  have hr := B.returns
  have hts : ∀ w ∈ ub_T, w.before _ s = true := fun w hw => atoms_spec (ws := urs_Nm_farthestAllowed) B.pre w (List.mem_cons_of_mem _ hw)
  have hown : s.vm.findClass urR_Nm = some m.cls := findClass_of_methodNamed B.named
  have hlocks := B.notSynchronized
  have hS : va_S (ur_A a) s.heap s.heap [] := va_S.rf
  have hl := lv_entry ([.ref (a 1), .int x1]) (n := 4) (Nat.le_of_ble_eq_true rfl)
  rw [lg_entry_eq]
  generalize (lg_sl ([.ref (a 1), .int x1]) ++ List.replicate (4 - (lg_sl ([.ref (a 1), .int x1])).length) Slot.unset).toArray = ls at hl ⊢
  have hl : lv_has ls 4 [(0, .ref (a 1)), (1, .int x1)] := hl
  have lp11 : ∀ (n : Nat) (y1 : Int32) (y2 : Int32) (y3 : Int32) (H : Heap) (locs : List Loc) (ls : Array Slot), url_Nm_farthestAllowed_11 σ n y1 y2 y3 = some res → ur_P D a k σ H → va_S (ur_A a) s.heap H locs → lv_has ls 4 [(0, .ref (a 1)), (1, .int y1), (2, .int y2), (3, .int y3)] → W p l e (headSpec urs_Nm_farthestAllowed urr_Nm_farthestAllowed).room s m (([.ref (a 1), .int x1] : List Value)).toArray below meth c H locs 0 0 (MQ below (va_Qi (fun (r : Int32) (u : ST) => r = res ∧ u = σ) (ur_B D a k) (ur_A a)) (([.ref (a 1), .int x1] : List Value)).toArray s 0 0 (ur_A a)) (F0 m 11 ls []) := by
    intro n
    induction n with
    | zero =>
      intro y1 y2 y3 H locs ls h
      exact absurd h (fun z => by cases z)
    | succ n ih =>
      intro y1 y2 y3 H locs ls h hP hS hl
      rw [url_Nm_farthestAllowed_11] at h
      refine lv_iload_n hx hb dur_Nm_farthestAllowed_11 rfl (lv_at hl 3 rfl) ?_
      refine lv_aload_n hx hb dur_Nm_farthestAllowed_12 rfl (lv_at hl 0 rfl) ?_
      refine urg_Nm_19 hx hb hts hown hK hP dur_Nm_farthestAllowed_13 ?_
      refine lv_iload_n hx hb dur_Nm_farthestAllowed_16 rfl (lv_at hl 1 rfl) ?_
      obtain ⟨hi2, h⟩ := ob_i h
      refine ur_iald (i := 1) hx hb hK hP (by decide) rfl hi2 dur_Nm_farthestAllowed_17 ?_
      refine lv_icmp_ge (tgt := 46) hx hb dur_Nm_farthestAllowed_18 (by decide) (fun c3 => ?_) (fun c3 => ?_)
      · have h := ob_t c3 h
        refine lv_iload_n hx hb dur_Nm_farthestAllowed_46 rfl (lv_at hl 2 rfl) ?_
        exact W.iret (v := y2) hx hb hr (fun t ht hW => ⟨⟨y2, σ, rfl, ⟨Option.some.inj h, rfl⟩, by rw [ht]; exact hP, va_K.moved hW.alike hK⟩, hS.F ht⟩) hS.2.2 dur_Nm_farthestAllowed_47
      · have h := ob_f c3 h
        refine lv_aload_n hx hb dur_Nm_farthestAllowed_21 rfl (lv_at hl 0 rfl) ?_
        refine urg_Nm_42 hx hb hts hown hK hP dur_Nm_farthestAllowed_22 ?_
        refine lv_iload_n hx hb dur_Nm_farthestAllowed_25 rfl (lv_at hl 1 rfl) ?_
        obtain ⟨hg4, h⟩ := ob_i h
        refine ur_gald0 hx hb hK hP hg4 dur_Nm_farthestAllowed_26 ?_
        refine lv_iload_n hx hb dur_Nm_farthestAllowed_27 rfl (lv_at hl 3 rfl) ?_
        obtain ⟨hi5, h⟩ := ob_i h
        refine ur_iald (i := (y1.toNatClampNeg + 14)) hx hb hK hP (ur_glt0 hg4) (ur_gln0 hg4) hi5 dur_Nm_farthestAllowed_28 ?_
        refine lv_aload_n hx hb dur_Nm_farthestAllowed_29 rfl (lv_at hl 0 rfl) ?_
        refine urg_Nm_25 hx hb hts hown hK hP dur_Nm_farthestAllowed_30 ?_
        refine lv_iload_n hx hb dur_Nm_farthestAllowed_33 rfl (lv_at hl 1 rfl) ?_
        obtain ⟨hi6, h⟩ := ob_i h
        refine ur_iald (i := 3) hx hb hK hP (by decide) rfl hi6 dur_Nm_farthestAllowed_34 ?_
        refine lv_icmp_gt (tgt := 46) hx hb dur_Nm_farthestAllowed_35 (by decide) (fun c7 => ?_) (fun c7 => ?_)
        · have h := ob_t c7 h
          refine lv_iload_n hx hb dur_Nm_farthestAllowed_46 rfl (lv_at hl 2 rfl) ?_
          exact W.iret (v := y2) hx hb hr (fun t ht hW => ⟨⟨y2, σ, rfl, ⟨Option.some.inj h, rfl⟩, by rw [ht]; exact hP, va_K.moved hW.alike hK⟩, hS.F ht⟩) hS.2.2 dur_Nm_farthestAllowed_47
        · have h := ob_f c7 h
          refine lv_iload_n hx hb dur_Nm_farthestAllowed_38 rfl (lv_at hl 3 rfl) ?_
          refine lv_istore_n (lv' := [(2, .int y3), (0, .ref (a 1)), (1, .int y1), (3, .int y3)]) hx hb dur_Nm_farthestAllowed_39 rfl hl (by decide) rfl (fun ls hl => ?_)
          refine lv_iinc (v := (y3 + 1)) (lv' := [(3, .int (y3 + 1)), (2, .int y3), (0, .ref (a 1)), (1, .int y1)]) hx hb dur_Nm_farthestAllowed_40 hl (k := 3) rfl rfl (by decide) rfl (fun ls hl => ?_)
          refine lv_goto (tgt := 11) hx hb dur_Nm_farthestAllowed_43 (by decide) ?_
          exact ih y1 y3 (y3 + 1) _ _ _ h hP hS (lv_sub hl [2, 3, 1, 0] rfl)
  rw [urf_Nm_farthestAllowed] at h
  refine lv_aload_n hx hb dur_Nm_farthestAllowed_0 rfl (lv_at hl 0 rfl) ?_
  refine urg_Nm_22 hx hb hts hown hK hP dur_Nm_farthestAllowed_1 ?_
  refine lv_iload_n hx hb dur_Nm_farthestAllowed_4 rfl (lv_at hl 1 rfl) ?_
  obtain ⟨hi1, h⟩ := ob_i h
  refine ur_iald (i := 2) hx hb hK hP (by decide) rfl hi1 dur_Nm_farthestAllowed_5 ?_
  refine lv_istore_n (lv' := [(2, .int (σ 2 x1.toNatClampNeg)), (0, .ref (a 1)), (1, .int x1)]) hx hb dur_Nm_farthestAllowed_6 rfl hl (by decide) rfl (fun ls hl => ?_)
  refine lv_iload_n hx hb dur_Nm_farthestAllowed_7 rfl (lv_at hl 0 rfl) ?_
  refine lv_iconst (v := 1) hx hb dur_Nm_farthestAllowed_8 (by decide) ?_
  refine lv_iadd hx hb dur_Nm_farthestAllowed_9 ?_
  refine lv_istore_n (lv' := [(3, .int ((σ 2 x1.toNatClampNeg) + 1)), (2, .int (σ 2 x1.toNatClampNeg)), (0, .ref (a 1)), (1, .int x1)]) hx hb dur_Nm_farthestAllowed_10 rfl hl (by decide) rfl (fun ls hl => ?_)
  exact lp11 200 x1 (σ 2 x1.toNatClampNeg) ((σ 2 x1.toNatClampNeg) + 1) _ _ _ h hP hS (lv_sub hl [2, 3, 1, 0] rfl)
set_option maxHeartbeats 4000000 in
set_option maxRecDepth 100000 in
theorem cur_Nm_isHit (l : Launch) (D : va_G) (a : Nat → Nat) (k : Nat → ClassId) (hAd : ur_Ad a) (σ : ST) (x1 : Int32) (res : Int32) (h : urf_Nm_isHit σ x1 = some res) : Met l ury_Nm_isHit urs_Nm_isHit urr_Nm_isHit (ur_Pc D a k σ [.ref (a 1), .int x1]) (va_Qi (fun (r : Int32) (u : ST) => r = res ∧ u = σ) (ur_B D a k) (ur_A a)) 0 0 (ur_A a) := by
  refine Met.ofW (cc := urb_Nm_isHit) (maxL := 2) (ret := (some .boolean)) (by decide) rfl ?_
  intro p e s m args below meth c s₁ B hml hv
  obtain ⟨rfl, hP, hK⟩ := hv
  have hx := B.exec
  have hb := B.bytes
  have hr := B.returns
  have hts : ∀ w ∈ ub_T, w.before _ s = true := fun w hw => atoms_spec (ws := urs_Nm_isHit) B.pre w (List.mem_cons_of_mem _ hw)
  have hown : s.vm.findClass urR_Nm = some m.cls := findClass_of_methodNamed B.named
  have hlocks := B.notSynchronized
  have hS : va_S (ur_A a) s.heap s.heap [] := va_S.rf
  have hl := lv_entry ([.ref (a 1), .int x1]) (n := 2) (Nat.le_of_ble_eq_true rfl)
  rw [lg_entry_eq]
  generalize (lg_sl ([.ref (a 1), .int x1]) ++ List.replicate (2 - (lg_sl ([.ref (a 1), .int x1])).length) Slot.unset).toArray = ls at hl ⊢
  have hl : lv_has ls 2 [(0, .ref (a 1)), (1, .int x1)] := hl
  rw [urf_Nm_isHit] at h
  refine lv_aload_n hx hb dur_Nm_isHit_0 rfl (lv_at hl 0 rfl) ?_
  refine urg_Nm_34 hx hb hts hown hK hP dur_Nm_isHit_1 ?_
  refine lv_iload_n hx hb dur_Nm_isHit_4 rfl (lv_at hl 1 rfl) ?_
  obtain ⟨hi1, h⟩ := ob_i h
  refine ur_iald (i := 6) hx hb hK hP (by decide) rfl hi1 dur_Nm_isHit_5 ?_
  refine lv_iconst (v := (-1)) hx hb dur_Nm_isHit_6 (by decide) ?_
  refine lv_icmp_eq (tgt := 29) hx hb dur_Nm_isHit_7 (by decide) (fun c2 => ?_) (fun c2 => ?_)
  · have h := ob_t c2 h
    refine lv_iconst (v := 0) hx hb dur_Nm_isHit_29 (by decide) ?_
    exact W.zret (ty := .boolean) (v := 0) hx hb hr rfl (fun t ht hW => ⟨⟨0, σ, rfl, ⟨Option.some.inj h, rfl⟩, by rw [ht]; exact hP, va_K.moved hW.alike hK⟩, hS.F ht⟩) hS.2.2 dur_Nm_isHit_30
  · have h := ob_f c2 h
    refine lv_aload_n hx hb dur_Nm_isHit_10 rfl (lv_at hl 0 rfl) ?_
    refine urg_Nm_22 hx hb hts hown hK hP dur_Nm_isHit_11 ?_
    refine lv_iload_n hx hb dur_Nm_isHit_14 rfl (lv_at hl 1 rfl) ?_
    obtain ⟨hi3, h⟩ := ob_i h
    refine ur_iald (i := 2) hx hb hK hP (by decide) rfl hi3 dur_Nm_isHit_15 ?_
    refine lv_aload_n hx hb dur_Nm_isHit_16 rfl (lv_at hl 0 rfl) ?_
    refine urg_Nm_34 hx hb hts hown hK hP dur_Nm_isHit_17 ?_
    refine lv_iload_n hx hb dur_Nm_isHit_20 rfl (lv_at hl 1 rfl) ?_
    obtain ⟨hi4, h⟩ := ob_i h
    refine ur_iald (i := 6) hx hb hK hP (by decide) rfl hi4 dur_Nm_isHit_21 ?_
    refine lv_icmp_gt (tgt := 29) hx hb dur_Nm_isHit_22 (by decide) (fun c5 => ?_) (fun c5 => ?_)
    · have h := ob_t c5 h
      refine lv_iconst (v := 0) hx hb dur_Nm_isHit_29 (by decide) ?_
      exact W.zret (ty := .boolean) (v := 0) hx hb hr rfl (fun t ht hW => ⟨⟨0, σ, rfl, ⟨Option.some.inj h, rfl⟩, by rw [ht]; exact hP, va_K.moved hW.alike hK⟩, hS.F ht⟩) hS.2.2 dur_Nm_isHit_30
    · have h := ob_f c5 h
      refine lv_iconst (v := 1) hx hb dur_Nm_isHit_25 (by decide) ?_
      refine lv_goto (tgt := 30) hx hb dur_Nm_isHit_26 (by decide) ?_
      exact W.zret (ty := .boolean) (v := 1) hx hb hr rfl (fun t ht hW => ⟨⟨1, σ, rfl, ⟨Option.some.inj h, rfl⟩, by rw [ht]; exact hP, va_K.moved hW.alike hK⟩, hS.F ht⟩) hS.2.2 dur_Nm_isHit_30
set_option maxHeartbeats 4000000 in
set_option maxRecDepth 100000 in
theorem cur_Nm_goalOf (l : Launch) (D : va_G) (a : Nat → Nat) (k : Nat → ClassId) (hAd : ur_Ad a) (σ : ST) (x1 : Int32) (res : Int32) (h : urf_Nm_goalOf σ x1 = some res) : Met l ury_Nm_goalOf urs_Nm_goalOf urr_Nm_goalOf (ur_Pc D a k σ [.ref (a 1), .int x1]) (va_Qi (fun (r : Int32) (u : ST) => r = res ∧ u = σ) (ur_B D a k) (ur_A a)) 0 0 (ur_A a) := by
  refine Met.ofW (cc := urb_Nm_goalOf) (maxL := 4) (ret := (some .int)) (by decide) rfl ?_
  intro p e s m args below meth c s₁ B hml hv
  obtain ⟨rfl, hP, hK⟩ := hv
  have hx := B.exec
  have hb := B.bytes
  have hr := B.returns
  have hts : ∀ w ∈ ub_T, w.before _ s = true := fun w hw => atoms_spec (ws := urs_Nm_goalOf) B.pre w (List.mem_cons_of_mem _ hw)
  have hown : s.vm.findClass urR_Nm = some m.cls := findClass_of_methodNamed B.named
  have hlocks := B.notSynchronized
  have hS : va_S (ur_A a) s.heap s.heap [] := va_S.rf
  have hl := lv_entry ([.ref (a 1), .int x1]) (n := 4) (Nat.le_of_ble_eq_true rfl)
  rw [lg_entry_eq]
  generalize (lg_sl ([.ref (a 1), .int x1]) ++ List.replicate (4 - (lg_sl ([.ref (a 1), .int x1])).length) Slot.unset).toArray = ls at hl ⊢
  have hl : lv_has ls 4 [(0, .ref (a 1)), (1, .int x1)] := hl
  rw [urf_Nm_goalOf] at h
  refine lv_aload_n hx hb dur_Nm_goalOf_0 rfl (lv_at hl 0 rfl) ?_
  refine lv_iload_n hx hb dur_Nm_goalOf_1 rfl (lv_at hl 1 rfl) ?_
  obtain ⟨q1, hq1, h⟩ := ob_b h
  refine ur_cv_ir (As := [.int x1]) (rest := []) ⟨hx, hb, hml, hown, hts⟩ (cur_Nm_farthestAllowed l D a k hAd σ x1  q1 hq1) (urc_Nm_55 hts ⟨Nat.le_of_ble_eq_true rfl, Nat.le_of_ble_eq_true rfl⟩) (ur_rc1 hK hP) hK hP rfl hl.1 rfl (Nat.le_of_ble_eq_true rfl) dur_Nm_goalOf_2 hS (fun H locs hP hS => ?_)
  refine lv_istore_n (lv' := [(2, .int q1), (0, .ref (a 1)), (1, .int x1)]) hx hb dur_Nm_goalOf_5 rfl hl (by decide) rfl (fun ls hl => ?_)
  refine lv_aload_n hx hb dur_Nm_goalOf_6 rfl (lv_at hl 1 rfl) ?_
  refine lv_iload_n hx hb dur_Nm_goalOf_7 rfl (lv_at hl 2 rfl) ?_
  obtain ⟨q2, hq2, h⟩ := ob_b h
  refine ur_cv_ir (As := [.int x1]) (rest := []) ⟨hx, hb, hml, hown, hts⟩ (cur_Nm_isHit l D a k hAd σ x1  q2 hq2) (urc_Nm_59 hts ⟨Nat.le_of_ble_eq_true rfl, Nat.le_of_ble_eq_true rfl⟩) (ur_rc1 hK hP) hK hP rfl hl.1 rfl (Nat.le_of_ble_eq_true rfl) dur_Nm_goalOf_8 hS (fun H locs hP hS => ?_)
  refine lv_if_eq (tgt := 24) hx hb dur_Nm_goalOf_11 (by decide) (fun c3 => ?_) (fun c3 => ?_)
  · have h := ob_t c3 h
    refine lv_iload_n hx hb dur_Nm_goalOf_24 rfl (lv_at hl 0 rfl) ?_
    exact W.iret (v := q1) hx hb hr (fun t ht hW => ⟨⟨q1, σ, rfl, ⟨Option.some.inj h, rfl⟩, by rw [ht]; exact hP, va_K.moved hW.alike hK⟩, hS.F ht⟩) hS.2.2 dur_Nm_goalOf_25
  · have h := ob_f c3 h
    refine lv_iload_n hx hb dur_Nm_goalOf_14 rfl (lv_at hl 0 rfl) ?_
    refine lv_aload_n hx hb dur_Nm_goalOf_15 rfl (lv_at hl 1 rfl) ?_
    refine urg_Nm_34 hx hb hts hown hK hP dur_Nm_goalOf_16 ?_
    refine lv_iload_n hx hb dur_Nm_goalOf_19 rfl (lv_at hl 2 rfl) ?_
    obtain ⟨hi4, h⟩ := ob_i h
    refine ur_iald (i := 6) hx hb hK hP (by decide) rfl hi4 dur_Nm_goalOf_20 ?_
    refine lv_icmp_le (tgt := 26) hx hb dur_Nm_goalOf_21 (by decide) (fun c5 => ?_) (fun c5 => ?_)
    · have h := ob_t c5 h
      refine lv_aload_n hx hb dur_Nm_goalOf_26 rfl (lv_at hl 1 rfl) ?_
      refine urg_Nm_34 hx hb hts hown hK hP dur_Nm_goalOf_27 ?_
      refine lv_iload_n hx hb dur_Nm_goalOf_30 rfl (lv_at hl 2 rfl) ?_
      obtain ⟨hi6, h⟩ := ob_i h
      refine ur_iald (i := 6) hx hb hK hP (by decide) rfl hi6 dur_Nm_goalOf_31 ?_
      refine lv_iconst (v := 1) hx hb dur_Nm_goalOf_32 (by decide) ?_
      refine lv_iadd hx hb dur_Nm_goalOf_33 ?_
      refine lv_istore_n (lv' := [(3, .int ((σ 6 x1.toNatClampNeg) + 1)), (2, .int q1), (0, .ref (a 1)), (1, .int x1)]) hx hb dur_Nm_goalOf_34 rfl hl (by decide) rfl (fun ls hl => ?_)
      refine lv_iload_n hx hb dur_Nm_goalOf_35 rfl (lv_at hl 0 rfl) ?_
      refine lv_aload_n hx hb dur_Nm_goalOf_36 rfl (lv_at hl 2 rfl) ?_
      refine urg_Nm_19 hx hb hts hown hK hP dur_Nm_goalOf_37 ?_
      refine lv_iload_n hx hb dur_Nm_goalOf_40 rfl (lv_at hl 3 rfl) ?_
      obtain ⟨hi7, h⟩ := ob_i h
      refine ur_iald (i := 1) hx hb hK hP (by decide) rfl hi7 dur_Nm_goalOf_41 ?_
      refine lv_icmp_ge (tgt := 49) hx hb dur_Nm_goalOf_42 (by decide) (fun c8 => ?_) (fun c8 => ?_)
      · have h := ob_t c8 h
        refine lv_iload_n hx hb dur_Nm_goalOf_49 rfl (lv_at hl 1 rfl) ?_
        exact W.iret (v := q1) hx hb hr (fun t ht hW => ⟨⟨q1, σ, rfl, ⟨Option.some.inj h, rfl⟩, by rw [ht]; exact hP, va_K.moved hW.alike hK⟩, hS.F ht⟩) hS.2.2 dur_Nm_goalOf_50
      · have h := ob_f c8 h
        refine lv_iload_n hx hb dur_Nm_goalOf_45 rfl (lv_at hl 0 rfl) ?_
        refine lv_goto (tgt := 50) hx hb dur_Nm_goalOf_46 (by decide) ?_
        exact W.iret (v := ((σ 6 x1.toNatClampNeg) + 1)) hx hb hr (fun t ht hW => ⟨⟨((σ 6 x1.toNatClampNeg) + 1), σ, rfl, ⟨Option.some.inj h, rfl⟩, by rw [ht]; exact hP, va_K.moved hW.alike hK⟩, hS.F ht⟩) hS.2.2 dur_Nm_goalOf_50
    · have h := ob_f c5 h
      refine lv_iload_n hx hb dur_Nm_goalOf_24 rfl (lv_at hl 0 rfl) ?_
      exact W.iret (v := q1) hx hb hr (fun t ht hW => ⟨⟨q1, σ, rfl, ⟨Option.some.inj h, rfl⟩, by rw [ht]; exact hP, va_K.moved hW.alike hK⟩, hS.F ht⟩) hS.2.2 dur_Nm_goalOf_25
set_option maxHeartbeats 4000000 in
set_option maxRecDepth 100000 in
theorem cur_Rb_goal (l : Launch) (D : va_G) (a : Nat → Nat) (k : Nat → ClassId) (hAd : ur_Ad a) (σ : ST) (x1 : Int32) (res : Int32) (h : urf_Rb_goal σ x1 = some res) : Met l ury_Rb_goal urs_Rb_goal urr_Rb_goal (ur_Pc D a k σ [.ref (a 0), .int x1]) (va_Qi (fun (r : Int32) (u : ST) => r = res ∧ u = σ) (ur_B D a k) (ur_A a)) 0 0 (ur_A a) := by
  refine Met.ofW (cc := urb_Rb_goal) (maxL := 2) (ret := (some .int)) (by decide) rfl ?_
  intro p e s m args below meth c s₁ B hml hv
  obtain ⟨rfl, hP, hK⟩ := hv
  have hx := B.exec
  have hb := B.bytes
  have hr := B.returns
  have hts : ∀ w ∈ ub_T, w.before _ s = true := fun w hw => atoms_spec (ws := urs_Rb_goal) B.pre w (List.mem_cons_of_mem _ hw)
  have hown : s.vm.findClass urR_Rb = some m.cls := findClass_of_methodNamed B.named
  have hlocks := B.notSynchronized
  have hS : va_S (ur_A a) s.heap s.heap [] := va_S.rf
  have hl := lv_entry ([.ref (a 0), .int x1]) (n := 2) (Nat.le_of_ble_eq_true rfl)
  rw [lg_entry_eq]
  generalize (lg_sl ([.ref (a 0), .int x1]) ++ List.replicate (2 - (lg_sl ([.ref (a 0), .int x1])).length) Slot.unset).toArray = ls at hl ⊢
  have hl : lv_has ls 2 [(0, .ref (a 0)), (1, .int x1)] := hl
  rw [urf_Rb_goal] at h
  refine lv_aload_n hx hb dur_Rb_goal_0 rfl (lv_at hl 0 rfl) ?_
  refine urg_Rb_25 hx hb hts hown hK hP dur_Rb_goal_1 ?_
  refine lv_iload_n hx hb dur_Rb_goal_4 rfl (lv_at hl 1 rfl) ?_
  obtain ⟨q1, hq1, h⟩ := ob_b h
  refine ur_cv_ir (As := [.int x1]) (rest := []) ⟨hx, hb, hml, hown, hts⟩ (cur_Nm_isKnown l D a k hAd σ x1  q1 hq1) (urc_Rb_57 hts ⟨Nat.le_of_ble_eq_true rfl, Nat.le_of_ble_eq_true rfl⟩) (ur_rc1 hK hP) hK hP rfl hl.1 rfl (Nat.le_of_ble_eq_true rfl) dur_Rb_goal_5 hS (fun H locs hP hS => ?_)
  refine lv_if_eq (tgt := 22) hx hb dur_Rb_goal_8 (by decide) (fun c2 => ?_) (fun c2 => ?_)
  · have h := ob_t c2 h
    refine lv_iconst (v := (-1)) hx hb dur_Rb_goal_22 (by decide) ?_
    exact W.iret (v := (-1)) hx hb hr (fun t ht hW => ⟨⟨(-1), σ, rfl, ⟨Option.some.inj h, rfl⟩, by rw [ht]; exact hP, va_K.moved hW.alike hK⟩, hS.F ht⟩) hS.2.2 dur_Rb_goal_23
  · have h := ob_f c2 h
    refine lv_aload_n hx hb dur_Rb_goal_11 rfl (lv_at hl 0 rfl) ?_
    refine urg_Rb_25 hx hb hts hown hK hP dur_Rb_goal_12 ?_
    refine lv_iload_n hx hb dur_Rb_goal_15 rfl (lv_at hl 1 rfl) ?_
    obtain ⟨q3, hq3, h⟩ := ob_b h
    refine ur_cv_ir (As := [.int x1]) (rest := []) ⟨hx, hb, hml, hown, hts⟩ (cur_Nm_goalOf l D a k hAd σ x1  q3 hq3) (urc_Rb_90 hts ⟨Nat.le_of_ble_eq_true rfl, Nat.le_of_ble_eq_true rfl⟩) (ur_rc1 hK hP) hK hP rfl hl.1 rfl (Nat.le_of_ble_eq_true rfl) dur_Rb_goal_16 hS (fun H locs hP hS => ?_)
    refine lv_goto (tgt := 23) hx hb dur_Rb_goal_19 (by decide) ?_
    exact W.iret (v := q3) hx hb hr (fun t ht hW => ⟨⟨q3, σ, rfl, ⟨Option.some.inj h, rfl⟩, by rw [ht]; exact hP, va_K.moved hW.alike hK⟩, hS.F ht⟩) hS.2.2 dur_Rb_goal_23
set_option maxHeartbeats 4000000 in
set_option maxRecDepth 100000 in
theorem cur_Nm_chiefOf (l : Launch) (D : va_G) (a : Nat → Nat) (k : Nat → ClassId) (hAd : ur_Ad a) (σ : ST) (x1 : Int32) (res : Int32) (h : urf_Nm_chiefOf σ x1 = some res) : Met l ury_Nm_chiefOf urs_Nm_chiefOf urr_Nm_chiefOf (ur_Pc D a k σ [.ref (a 1), .int x1]) (va_Qi (fun (r : Int32) (u : ST) => r = res ∧ u = σ) (ur_B D a k) (ur_A a)) 0 0 (ur_A a) := by
  refine Met.ofW (cc := urb_Nm_chiefOf) (maxL := 3) (ret := (some .int)) (by decide) rfl ?_
  intro p e s m args below meth c s₁ B hml hv
  obtain ⟨rfl, hP, hK⟩ := hv
  have hx := B.exec
  have hb := B.bytes
  have hr := B.returns
  have hts : ∀ w ∈ ub_T, w.before _ s = true := fun w hw => atoms_spec (ws := urs_Nm_chiefOf) B.pre w (List.mem_cons_of_mem _ hw)
  have hown : s.vm.findClass urR_Nm = some m.cls := findClass_of_methodNamed B.named
  have hlocks := B.notSynchronized
  have hS : va_S (ur_A a) s.heap s.heap [] := va_S.rf
  have hl := lv_entry ([.ref (a 1), .int x1]) (n := 3) (Nat.le_of_ble_eq_true rfl)
  rw [lg_entry_eq]
  generalize (lg_sl ([.ref (a 1), .int x1]) ++ List.replicate (3 - (lg_sl ([.ref (a 1), .int x1])).length) Slot.unset).toArray = ls at hl ⊢
  have hl : lv_has ls 3 [(0, .ref (a 1)), (1, .int x1)] := hl
  have lp14 : ∀ (n : Nat) (y1 : Int32) (y2 : Int32) (H : Heap) (locs : List Loc) (ls : Array Slot), url_Nm_chiefOf_14 σ n y1 y2 = some res → ur_P D a k σ H → va_S (ur_A a) s.heap H locs → lv_has ls 3 [(0, .ref (a 1)), (1, .int y1), (2, .int y2)] → W p l e (headSpec urs_Nm_chiefOf urr_Nm_chiefOf).room s m (([.ref (a 1), .int x1] : List Value)).toArray below meth c H locs 0 0 (MQ below (va_Qi (fun (r : Int32) (u : ST) => r = res ∧ u = σ) (ur_B D a k) (ur_A a)) (([.ref (a 1), .int x1] : List Value)).toArray s 0 0 (ur_A a)) (F0 m 14 ls []) := by
    intro n
    induction n with
    | zero =>
      intro y1 y2 H locs ls h
      exact absurd h (fun z => by cases z)
    | succ n ih =>
      intro y1 y2 H locs ls h hP hS hl
      rw [url_Nm_chiefOf_14] at h
      refine lv_iload_n hx hb dur_Nm_chiefOf_14 rfl (lv_at hl 2 rfl) ?_
      refine lv_iload_n hx hb dur_Nm_chiefOf_15 rfl (lv_at hl 1 rfl) ?_
      refine lv_icmp_ge (tgt := 57) hx hb dur_Nm_chiefOf_16 (by decide) (fun c3 => ?_) (fun c3 => ?_)
      · have h := ob_t c3 h
        refine lv_iload_n hx hb dur_Nm_chiefOf_57 rfl (lv_at hl 1 rfl) ?_
        exact W.iret (v := y1) hx hb hr (fun t ht hW => ⟨⟨y1, σ, rfl, ⟨Option.some.inj h, rfl⟩, by rw [ht]; exact hP, va_K.moved hW.alike hK⟩, hS.F ht⟩) hS.2.2 dur_Nm_chiefOf_58
      · have h := ob_f c3 h
        refine lv_aload_n hx hb dur_Nm_chiefOf_19 rfl (lv_at hl 0 rfl) ?_
        refine urg_Nm_15 hx hb hts hown hK hP dur_Nm_chiefOf_20 ?_
        refine lv_iload_n hx hb dur_Nm_chiefOf_23 rfl (lv_at hl 2 rfl) ?_
        obtain ⟨hi4, h⟩ := ob_i h
        refine ur_iald (i := 0) hx hb hK hP (by decide) rfl hi4 dur_Nm_chiefOf_24 ?_
        refine lv_aload_n hx hb dur_Nm_chiefOf_25 rfl (lv_at hl 0 rfl) ?_
        refine urg_Nm_15 hx hb hts hown hK hP dur_Nm_chiefOf_26 ?_
        refine lv_iload_n hx hb dur_Nm_chiefOf_29 rfl (lv_at hl 1 rfl) ?_
        obtain ⟨hi5, h⟩ := ob_i h
        refine ur_iald (i := 0) hx hb hK hP (by decide) rfl hi5 dur_Nm_chiefOf_30 ?_
        refine lv_icmp_ne (tgt := 51) hx hb dur_Nm_chiefOf_31 (by decide) (fun c6 => ?_) (fun c6 => ?_)
        · have h := ob_f c6 h
          refine lv_iinc (v := (y2 + 1)) (lv' := [(2, .int (y2 + 1)), (0, .ref (a 1)), (1, .int y1)]) hx hb dur_Nm_chiefOf_51 hl (k := 2) rfl rfl (by decide) rfl (fun ls hl => ?_)
          refine lv_goto (tgt := 14) hx hb dur_Nm_chiefOf_54 (by decide) ?_
          exact ih y1 (y2 + 1) _ _ _ h hP hS (lv_sub hl [1, 2, 0] rfl)
        · have h := ob_t c6 h
          refine lv_aload_n hx hb dur_Nm_chiefOf_34 rfl (lv_at hl 0 rfl) ?_
          refine urg_Nm_31 hx hb hts hown hK hP dur_Nm_chiefOf_35 ?_
          refine lv_iload_n hx hb dur_Nm_chiefOf_38 rfl (lv_at hl 2 rfl) ?_
          obtain ⟨hi7, h⟩ := ob_i h
          refine ur_iald (i := 5) hx hb hK hP (by decide) rfl hi7 dur_Nm_chiefOf_39 ?_
          refine lv_aload_n hx hb dur_Nm_chiefOf_40 rfl (lv_at hl 0 rfl) ?_
          refine urg_Nm_31 hx hb hts hown hK hP dur_Nm_chiefOf_41 ?_
          refine lv_iload_n hx hb dur_Nm_chiefOf_44 rfl (lv_at hl 1 rfl) ?_
          obtain ⟨hi8, h⟩ := ob_i h
          refine ur_iald (i := 5) hx hb hK hP (by decide) rfl hi8 dur_Nm_chiefOf_45 ?_
          refine lv_icmp_ne (tgt := 51) hx hb dur_Nm_chiefOf_46 (by decide) (fun c9 => ?_) (fun c9 => ?_)
          · have h := ob_f c9 h
            refine lv_iinc (v := (y2 + 1)) (lv' := [(2, .int (y2 + 1)), (0, .ref (a 1)), (1, .int y1)]) hx hb dur_Nm_chiefOf_51 hl (k := 2) rfl rfl (by decide) rfl (fun ls hl => ?_)
            refine lv_goto (tgt := 14) hx hb dur_Nm_chiefOf_54 (by decide) ?_
            exact ih y1 (y2 + 1) _ _ _ h hP hS (lv_sub hl [1, 2, 0] rfl)
          · have h := ob_t c9 h
            refine lv_iload_n hx hb dur_Nm_chiefOf_49 rfl (lv_at hl 2 rfl) ?_
            exact W.iret (v := y2) hx hb hr (fun t ht hW => ⟨⟨y2, σ, rfl, ⟨Option.some.inj h, rfl⟩, by rw [ht]; exact hP, va_K.moved hW.alike hK⟩, hS.F ht⟩) hS.2.2 dur_Nm_chiefOf_50
  rw [urf_Nm_chiefOf] at h
  refine lv_aload_n hx hb dur_Nm_chiefOf_0 rfl (lv_at hl 0 rfl) ?_
  refine urg_Nm_31 hx hb hts hown hK hP dur_Nm_chiefOf_1 ?_
  refine lv_iload_n hx hb dur_Nm_chiefOf_4 rfl (lv_at hl 1 rfl) ?_
  obtain ⟨hi1, h⟩ := ob_i h
  refine ur_iald (i := 5) hx hb hK hP (by decide) rfl hi1 dur_Nm_chiefOf_5 ?_
  refine lv_iconst (v := (-1)) hx hb dur_Nm_chiefOf_6 (by decide) ?_
  refine lv_icmp_ne (tgt := 12) hx hb dur_Nm_chiefOf_7 (by decide) (fun c2 => ?_) (fun c2 => ?_)
  · have h := ob_f c2 h
    refine lv_iconst (v := 0) hx hb dur_Nm_chiefOf_12 (by decide) ?_
    refine lv_istore_n (lv' := [(2, .int 0), (0, .ref (a 1)), (1, .int x1)]) hx hb dur_Nm_chiefOf_13 rfl hl (by decide) rfl (fun ls hl => ?_)
    exact lp14 200 x1 0 _ _ _ h hP hS (lv_sub hl [1, 2, 0] rfl)
  · have h := ob_t c2 h
    refine lv_iload_n hx hb dur_Nm_chiefOf_10 rfl (lv_at hl 1 rfl) ?_
    exact W.iret (v := x1) hx hb hr (fun t ht hW => ⟨⟨x1, σ, rfl, ⟨Option.some.inj h, rfl⟩, by rw [ht]; exact hP, va_K.moved hW.alike hK⟩, hS.F ht⟩) hS.2.2 dur_Nm_chiefOf_11
set_option maxHeartbeats 4000000 in
set_option maxRecDepth 100000 in
theorem cur_Rb_chief (l : Launch) (D : va_G) (a : Nat → Nat) (k : Nat → ClassId) (hAd : ur_Ad a) (σ : ST) (x1 : Int32) (res : Int32) (h : urf_Rb_chief σ x1 = some res) : Met l ury_Rb_chief urs_Rb_chief urr_Rb_chief (ur_Pc D a k σ [.ref (a 0), .int x1]) (va_Qi (fun (r : Int32) (u : ST) => r = res ∧ u = σ) (ur_B D a k) (ur_A a)) 0 0 (ur_A a) := by
  refine Met.ofW (cc := urb_Rb_chief) (maxL := 2) (ret := (some .int)) (by decide) rfl ?_
  intro p e s m args below meth c s₁ B hml hv
  obtain ⟨rfl, hP, hK⟩ := hv
  have hx := B.exec
  have hb := B.bytes
  have hr := B.returns
  have hts : ∀ w ∈ ub_T, w.before _ s = true := fun w hw => atoms_spec (ws := urs_Rb_chief) B.pre w (List.mem_cons_of_mem _ hw)
  have hown : s.vm.findClass urR_Rb = some m.cls := findClass_of_methodNamed B.named
  have hlocks := B.notSynchronized
  have hS : va_S (ur_A a) s.heap s.heap [] := va_S.rf
  have hl := lv_entry ([.ref (a 0), .int x1]) (n := 2) (Nat.le_of_ble_eq_true rfl)
  rw [lg_entry_eq]
  generalize (lg_sl ([.ref (a 0), .int x1]) ++ List.replicate (2 - (lg_sl ([.ref (a 0), .int x1])).length) Slot.unset).toArray = ls at hl ⊢
  have hl : lv_has ls 2 [(0, .ref (a 0)), (1, .int x1)] := hl
  rw [urf_Rb_chief] at h
  refine lv_aload_n hx hb dur_Rb_chief_0 rfl (lv_at hl 0 rfl) ?_
  refine urg_Rb_25 hx hb hts hown hK hP dur_Rb_chief_1 ?_
  refine lv_iload_n hx hb dur_Rb_chief_4 rfl (lv_at hl 1 rfl) ?_
  obtain ⟨q1, hq1, h⟩ := ob_b h
  refine ur_cv_ir (As := [.int x1]) (rest := []) ⟨hx, hb, hml, hown, hts⟩ (cur_Nm_isKnown l D a k hAd σ x1  q1 hq1) (urc_Rb_57 hts ⟨Nat.le_of_ble_eq_true rfl, Nat.le_of_ble_eq_true rfl⟩) (ur_rc1 hK hP) hK hP rfl hl.1 rfl (Nat.le_of_ble_eq_true rfl) dur_Rb_chief_5 hS (fun H locs hP hS => ?_)
  refine lv_if_eq (tgt := 22) hx hb dur_Rb_chief_8 (by decide) (fun c2 => ?_) (fun c2 => ?_)
  · have h := ob_t c2 h
    refine lv_iconst (v := (-1)) hx hb dur_Rb_chief_22 (by decide) ?_
    exact W.iret (v := (-1)) hx hb hr (fun t ht hW => ⟨⟨(-1), σ, rfl, ⟨Option.some.inj h, rfl⟩, by rw [ht]; exact hP, va_K.moved hW.alike hK⟩, hS.F ht⟩) hS.2.2 dur_Rb_chief_23
  · have h := ob_f c2 h
    refine lv_aload_n hx hb dur_Rb_chief_11 rfl (lv_at hl 0 rfl) ?_
    refine urg_Rb_25 hx hb hts hown hK hP dur_Rb_chief_12 ?_
    refine lv_iload_n hx hb dur_Rb_chief_15 rfl (lv_at hl 1 rfl) ?_
    obtain ⟨q3, hq3, h⟩ := ob_b h
    refine ur_cv_ir (As := [.int x1]) (rest := []) ⟨hx, hb, hml, hown, hts⟩ (cur_Nm_chiefOf l D a k hAd σ x1  q3 hq3) (urc_Rb_93 hts ⟨Nat.le_of_ble_eq_true rfl, Nat.le_of_ble_eq_true rfl⟩) (ur_rc1 hK hP) hK hP rfl hl.1 rfl (Nat.le_of_ble_eq_true rfl) dur_Rb_chief_16 hS (fun H locs hP hS => ?_)
    refine lv_goto (tgt := 23) hx hb dur_Rb_chief_19 (by decide) ?_
    exact W.iret (v := q3) hx hb hr (fun t ht hW => ⟨⟨q3, σ, rfl, ⟨Option.some.inj h, rfl⟩, by rw [ht]; exact hP, va_K.moved hW.alike hK⟩, hS.F ht⟩) hS.2.2 dur_Rb_chief_23
set_option maxHeartbeats 4000000 in
set_option maxRecDepth 100000 in
theorem cur_Nm_isChief (l : Launch) (D : va_G) (a : Nat → Nat) (k : Nat → ClassId) (hAd : ur_Ad a) (σ : ST) (x1 : Int32) (res : Int32) (h : urf_Nm_isChief σ x1 = some res) : Met l ury_Nm_isChief urs_Nm_isChief urr_Nm_isChief (ur_Pc D a k σ [.ref (a 1), .int x1]) (va_Qi (fun (r : Int32) (u : ST) => r = res ∧ u = σ) (ur_B D a k) (ur_A a)) 0 0 (ur_A a) := by
  refine Met.ofW (cc := urb_Nm_isChief) (maxL := 2) (ret := (some .boolean)) (by decide) rfl ?_
  intro p e s m args below meth c s₁ B hml hv
  obtain ⟨rfl, hP, hK⟩ := hv
  have hx := B.exec
  have hb := B.bytes
  have hr := B.returns
  have hts : ∀ w ∈ ub_T, w.before _ s = true := fun w hw => atoms_spec (ws := urs_Nm_isChief) B.pre w (List.mem_cons_of_mem _ hw)
  have hown : s.vm.findClass urR_Nm = some m.cls := findClass_of_methodNamed B.named
  have hlocks := B.notSynchronized
  have hS : va_S (ur_A a) s.heap s.heap [] := va_S.rf
  have hl := lv_entry ([.ref (a 1), .int x1]) (n := 2) (Nat.le_of_ble_eq_true rfl)
  rw [lg_entry_eq]
  generalize (lg_sl ([.ref (a 1), .int x1]) ++ List.replicate (2 - (lg_sl ([.ref (a 1), .int x1])).length) Slot.unset).toArray = ls at hl ⊢
  have hl : lv_has ls 2 [(0, .ref (a 1)), (1, .int x1)] := hl
  rw [urf_Nm_isChief] at h
  refine lv_aload_n hx hb dur_Nm_isChief_0 rfl (lv_at hl 0 rfl) ?_
  refine lv_iload_n hx hb dur_Nm_isChief_1 rfl (lv_at hl 1 rfl) ?_
  obtain ⟨q1, hq1, h⟩ := ob_b h
  refine ur_cv_ir (As := [.int x1]) (rest := []) ⟨hx, hb, hml, hown, hts⟩ (cur_Nm_isKnown l D a k hAd σ x1  q1 hq1) (urc_Nm_51 hts ⟨Nat.le_of_ble_eq_true rfl, Nat.le_of_ble_eq_true rfl⟩) (ur_rc1 hK hP) hK hP rfl hl.1 rfl (Nat.le_of_ble_eq_true rfl) dur_Nm_isChief_2 hS (fun H locs hP hS => ?_)
  refine lv_if_eq (tgt := 21) hx hb dur_Nm_isChief_5 (by decide) (fun c2 => ?_) (fun c2 => ?_)
  · have h := ob_t c2 h
    refine lv_iconst (v := 0) hx hb dur_Nm_isChief_21 (by decide) ?_
    exact W.zret (ty := .boolean) (v := 0) hx hb hr rfl (fun t ht hW => ⟨⟨0, σ, rfl, ⟨Option.some.inj h, rfl⟩, by rw [ht]; exact hP, va_K.moved hW.alike hK⟩, hS.F ht⟩) hS.2.2 dur_Nm_isChief_22
  · have h := ob_f c2 h
    refine lv_aload_n hx hb dur_Nm_isChief_8 rfl (lv_at hl 0 rfl) ?_
    refine lv_iload_n hx hb dur_Nm_isChief_9 rfl (lv_at hl 1 rfl) ?_
    obtain ⟨q3, hq3, h⟩ := ob_b h
    refine ur_cv_ir (As := [.int x1]) (rest := []) ⟨hx, hb, hml, hown, hts⟩ (cur_Nm_chiefOf l D a k hAd σ x1  q3 hq3) (urc_Nm_62 hts ⟨Nat.le_of_ble_eq_true rfl, Nat.le_of_ble_eq_true rfl⟩) (ur_rc1 hK hP) hK hP rfl hl.1 rfl (Nat.le_of_ble_eq_true rfl) dur_Nm_isChief_10 hS (fun H locs hP hS => ?_)
    refine lv_iload_n hx hb dur_Nm_isChief_13 rfl (lv_at hl 1 rfl) ?_
    refine lv_icmp_ne (tgt := 21) hx hb dur_Nm_isChief_14 (by decide) (fun c4 => ?_) (fun c4 => ?_)
    · have h := ob_f c4 h
      refine lv_iconst (v := 0) hx hb dur_Nm_isChief_21 (by decide) ?_
      exact W.zret (ty := .boolean) (v := 0) hx hb hr rfl (fun t ht hW => ⟨⟨0, σ, rfl, ⟨Option.some.inj h, rfl⟩, by rw [ht]; exact hP, va_K.moved hW.alike hK⟩, hS.F ht⟩) hS.2.2 dur_Nm_isChief_22
    · have h := ob_t c4 h
      refine lv_iconst (v := 1) hx hb dur_Nm_isChief_17 (by decide) ?_
      refine lv_goto (tgt := 22) hx hb dur_Nm_isChief_18 (by decide) ?_
      exact W.zret (ty := .boolean) (v := 1) hx hb hr rfl (fun t ht hW => ⟨⟨1, σ, rfl, ⟨Option.some.inj h, rfl⟩, by rw [ht]; exact hP, va_K.moved hW.alike hK⟩, hS.F ht⟩) hS.2.2 dur_Nm_isChief_22
set_option maxHeartbeats 4000000 in
set_option maxRecDepth 100000 in
theorem cur_So_setOut (l : Launch) (D : va_G) (a : Nat → Nat) (k : Nat → ClassId) (hAd : ur_Ad a) (σ : ST) (x2 : Int32) (res : ST) (h : urf_So_setOut σ x2 = some res) : Met l ury_So_setOut urs_So_setOut urr_So_setOut (ur_Pc D a k σ [.ref (a 2), .ref (a 1), .int x2]) (va_Qv (fun (u : ST) => u = res) (ur_B D a k) (ur_A a)) 0 0 (ur_A a) := by
  refine Met.ofW (cc := urb_So_setOut) (maxL := 4) (ret := none) (by decide) rfl ?_
  intro p e s m args below meth c s₁ B hml hv
  obtain ⟨rfl, hP, hK⟩ := hv
  have hx := B.exec
  have hb := B.bytes
  have hr := B.returns
  have hts : ∀ w ∈ ub_T, w.before _ s = true := fun w hw => atoms_spec (ws := urs_So_setOut) B.pre w (List.mem_cons_of_mem _ hw)
  have hown : s.vm.findClass urR_So = some m.cls := findClass_of_methodNamed B.named
  have hlocks := B.notSynchronized
  have hS : va_S (ur_A a) s.heap s.heap [] := va_S.rf
  have hl := lv_entry ([.ref (a 2), .ref (a 1), .int x2]) (n := 4) (Nat.le_of_ble_eq_true rfl)
  rw [lg_entry_eq]
  generalize (lg_sl ([.ref (a 2), .ref (a 1), .int x2]) ++ List.replicate (4 - (lg_sl ([.ref (a 2), .ref (a 1), .int x2])).length) Slot.unset).toArray = ls at hl ⊢
  have hl : lv_has ls 4 [(0, .ref (a 2)), (1, .ref (a 1)), (2, .int x2)] := hl
  have lp2 : ∀ (n : Nat) (σ : ST) (y2 : Int32) (y3 : Int32) (H : Heap) (locs : List Loc) (ls : Array Slot), url_So_setOut_2 n σ y2 y3 = some res → ur_P D a k σ H → va_S (ur_A a) s.heap H locs → lv_has ls 4 [(0, .ref (a 2)), (1, .ref (a 1)), (2, .int y2), (3, .int y3)] → W p l e (headSpec urs_So_setOut urr_So_setOut).room s m (([.ref (a 2), .ref (a 1), .int x2] : List Value)).toArray below meth c H locs 0 0 (MQ below (va_Qv (fun (u : ST) => u = res) (ur_B D a k) (ur_A a)) (([.ref (a 2), .ref (a 1), .int x2] : List Value)).toArray s 0 0 (ur_A a)) (F0 m 2 ls []) := by
    intro n
    induction n with
    | zero =>
      intro σ y2 y3 H locs ls h
      exact absurd h (fun z => by cases z)
    | succ n ih =>
      intro σ y2 y3 H locs ls h hP hS hl
      rw [url_So_setOut_2] at h
      refine lv_iload_n hx hb dur_So_setOut_2 rfl (lv_at hl 3 rfl) ?_
      refine lv_aload_n hx hb dur_So_setOut_3 rfl (lv_at hl 1 rfl) ?_
      refine urg_So_42 hx hb hts hown hK hP dur_So_setOut_4 ?_
      refine lv_icmp_ge (tgt := 45) hx hb dur_So_setOut_7 (by decide) (fun c1 => ?_) (fun c1 => ?_)
      · have h := ob_t c1 h
        exact W.vret hx hb hr (fun t ht hW => ⟨⟨σ, rfl, Option.some.inj h, by rw [ht]; exact hP, va_K.moved hW.alike hK⟩, hS.F ht⟩) hS.2.2 dur_So_setOut_45
      · have h := ob_f c1 h
        refine lv_aload_n hx hb dur_So_setOut_10 rfl (lv_at hl 0 rfl) ?_
        refine urg_So_9 hx hb hts hown hK hP dur_So_setOut_11 ?_
        refine lv_iload_n hx hb dur_So_setOut_14 rfl (lv_at hl 3 rfl) ?_
        refine lv_aload_n hx hb dur_So_setOut_15 rfl (lv_at hl 1 rfl) ?_
        refine lv_iload_n hx hb dur_So_setOut_16 rfl (lv_at hl 3 rfl) ?_
        obtain ⟨q2, hq2, h⟩ := ob_b h
        refine ur_cv_ir (As := [.int y3]) (rest := [.int y3, .ref (a (8 + 9))]) ⟨hx, hb, hml, hown, hts⟩ (cur_Nm_chiefOf l D a k hAd σ y3  q2 hq2) (urc_So_46 hts ⟨Nat.le_of_ble_eq_true rfl, Nat.le_of_ble_eq_true rfl⟩) (ur_rc1 hK hP) hK hP rfl hl.1 rfl (Nat.le_of_ble_eq_true rfl) dur_So_setOut_17 hS (fun H locs hP hS => ?_)
        refine lv_iload_n hx hb dur_So_setOut_20 rfl (lv_at hl 2 rfl) ?_
        refine lv_icmp_ne (tgt := 32) hx hb dur_So_setOut_21 (by decide) (fun c3 => ?_) (fun c3 => ?_)
        · have h := ob_f c3 h
          refine lv_aload_n hx hb dur_So_setOut_32 rfl (lv_at hl 1 rfl) ?_
          refine urg_So_52 hx hb hts hown hK hP dur_So_setOut_33 ?_
          refine lv_iload_n hx hb dur_So_setOut_36 rfl (lv_at hl 3 rfl) ?_
          obtain ⟨hi4, h⟩ := ob_i h
          refine ur_iald (i := 2) hx hb hK hP (by decide) rfl hi4 dur_So_setOut_37 ?_
          obtain ⟨hi5, h⟩ := ob_i h
          refine ur_iast (i := 8) hx hb hK hP hAd hS (by decide) rfl hi5 dur_So_setOut_38 (fun H locs hP hS => ?_)
          refine lv_iinc (v := (y3 + 1)) (lv' := [(3, .int (y3 + 1)), (0, .ref (a 2)), (1, .ref (a 1)), (2, .int y2)]) hx hb dur_So_setOut_39 hl (k := 3) rfl rfl (by decide) rfl (fun ls hl => ?_)
          refine lv_goto (tgt := 2) hx hb dur_So_setOut_42 (by decide) ?_
          exact ih (wr σ 8 y3.toNatClampNeg (σ 2 y3.toNatClampNeg)) y2 (y3 + 1) _ _ _ h hP hS (lv_sub hl [1, 2, 3, 0] rfl)
        · have h := ob_t c3 h
          refine lv_aload_n hx hb dur_So_setOut_24 rfl (lv_at hl 1 rfl) ?_
          refine lv_iload_n hx hb dur_So_setOut_25 rfl (lv_at hl 3 rfl) ?_
          obtain ⟨q6, hq6, h⟩ := ob_b h
          refine ur_cv_ir (As := [.int y3]) (rest := [.int y3, .ref (a (8 + 9))]) ⟨hx, hb, hml, hown, hts⟩ (cur_Nm_goalOf l D a k hAd σ y3  q6 hq6) (urc_So_49 hts ⟨Nat.le_of_ble_eq_true rfl, Nat.le_of_ble_eq_true rfl⟩) (ur_rc1 hK hP) hK hP rfl hl.1 rfl (Nat.le_of_ble_eq_true rfl) dur_So_setOut_26 hS (fun H locs hP hS => ?_)
          refine lv_goto (tgt := 38) hx hb dur_So_setOut_29 (by decide) ?_
          obtain ⟨hi7, h⟩ := ob_i h
          refine ur_iast (i := 8) hx hb hK hP hAd hS (by decide) rfl hi7 dur_So_setOut_38 (fun H locs hP hS => ?_)
          refine lv_iinc (v := (y3 + 1)) (lv' := [(3, .int (y3 + 1)), (0, .ref (a 2)), (1, .ref (a 1)), (2, .int y2)]) hx hb dur_So_setOut_39 hl (k := 3) rfl rfl (by decide) rfl (fun ls hl => ?_)
          refine lv_goto (tgt := 2) hx hb dur_So_setOut_42 (by decide) ?_
          exact ih (wr σ 8 y3.toNatClampNeg q6) y2 (y3 + 1) _ _ _ h hP hS (lv_sub hl [1, 2, 3, 0] rfl)
  rw [urf_So_setOut] at h
  refine lv_iconst (v := 0) hx hb dur_So_setOut_0 (by decide) ?_
  refine lv_istore_n (lv' := [(3, .int 0), (0, .ref (a 2)), (1, .ref (a 1)), (2, .int x2)]) hx hb dur_So_setOut_1 rfl hl (by decide) rfl (fun ls hl => ?_)
  exact lp2 200 σ x2 0 _ _ _ h hP hS (lv_sub hl [1, 2, 3, 0] rfl)
set_option maxHeartbeats 4000000 in
set_option maxRecDepth 100000 in
theorem cur_So_lacksAtTarget (l : Launch) (D : va_G) (a : Nat → Nat) (k : Nat → ClassId) (hAd : ur_Ad a) (σ : ST) (x2 : Int32) (res : Int32) (h : urf_So_lacksAtTarget σ x2 = some res) : Met l ury_So_lacksAtTarget urs_So_lacksAtTarget urr_So_lacksAtTarget (ur_Pc D a k σ [.ref (a 2), .ref (a 1), .int x2]) (va_Qi (fun (r : Int32) (u : ST) => r = res ∧ u = σ) (ur_B D a k) (ur_A a)) 0 0 (ur_A a) := by
  refine Met.ofW (cc := urb_So_lacksAtTarget) (maxL := 5) (ret := (some .boolean)) (by decide) rfl ?_
  intro p e s m args below meth c s₁ B hml hv
  obtain ⟨rfl, hP, hK⟩ := hv
  have hx := B.exec
  have hb := B.bytes
  have hr := B.returns
  have hts : ∀ w ∈ ub_T, w.before _ s = true := fun w hw => atoms_spec (ws := urs_So_lacksAtTarget) B.pre w (List.mem_cons_of_mem _ hw)
  have hown : s.vm.findClass urR_So = some m.cls := findClass_of_methodNamed B.named
  have hlocks := B.notSynchronized
  have hS : va_S (ur_A a) s.heap s.heap [] := va_S.rf
  have hl := lv_entry ([.ref (a 2), .ref (a 1), .int x2]) (n := 5) (Nat.le_of_ble_eq_true rfl)
  rw [lg_entry_eq]
  generalize (lg_sl ([.ref (a 2), .ref (a 1), .int x2]) ++ List.replicate (5 - (lg_sl ([.ref (a 2), .ref (a 1), .int x2])).length) Slot.unset).toArray = ls at hl ⊢
  have hl : lv_has ls 5 [(0, .ref (a 2)), (1, .ref (a 1)), (2, .int x2)] := hl
  have jp17 : ∀ (y2 : Int32) (y3 : Int32) (H : Heap) (locs : List Loc) (ls : Array Slot), urj_So_lacksAtTarget_17 σ y2 y3 = some res → ur_P D a k σ H → va_S (ur_A a) s.heap H locs → lv_has ls 5 [(0, .ref (a 2)), (1, .ref (a 1)), (2, .int y2), (3, .int y3)] → W p l e (headSpec urs_So_lacksAtTarget urr_So_lacksAtTarget).room s m (([.ref (a 2), .ref (a 1), .int x2] : List Value)).toArray below meth c H locs 0 0 (MQ below (va_Qi (fun (r : Int32) (u : ST) => r = res ∧ u = σ) (ur_B D a k) (ur_A a)) (([.ref (a 2), .ref (a 1), .int x2] : List Value)).toArray s 0 0 (ur_A a)) (F0 m 17 ls []) := by
    intro y2 y3 H locs ls h hP hS hl
    rw [urj_So_lacksAtTarget_17] at h
    refine lv_iconst (v := 0) hx hb dur_So_lacksAtTarget_17 (by decide) ?_
    exact W.zret (ty := .boolean) (v := 0) hx hb hr rfl (fun t ht hW => ⟨⟨0, σ, rfl, ⟨Option.some.inj h, rfl⟩, by rw [ht]; exact hP, va_K.moved hW.alike hK⟩, hS.F ht⟩) hS.2.2 dur_So_lacksAtTarget_18
  rw [urf_So_lacksAtTarget] at h
  refine lv_aload_n hx hb dur_So_lacksAtTarget_0 rfl (lv_at hl 0 rfl) ?_
  refine urg_So_9 hx hb hts hown hK hP dur_So_lacksAtTarget_1 ?_
  refine lv_iload_n hx hb dur_So_lacksAtTarget_4 rfl (lv_at hl 2 rfl) ?_
  obtain ⟨hi1, h⟩ := ob_i h
  refine ur_iald (i := 8) hx hb hK hP (by decide) rfl hi1 dur_So_lacksAtTarget_5 ?_
  refine lv_istore_n (lv' := [(3, .int (σ 8 x2.toNatClampNeg)), (0, .ref (a 2)), (1, .ref (a 1)), (2, .int x2)]) hx hb dur_So_lacksAtTarget_6 rfl hl (by decide) rfl (fun ls hl => ?_)
  refine lv_iload_n hx hb dur_So_lacksAtTarget_7 rfl (lv_at hl 0 rfl) ?_
  refine lv_if_lt (tgt := 17) hx hb dur_So_lacksAtTarget_8 (by decide) (fun c2 => ?_) (fun c2 => ?_)
  · have h := ob_t c2 h
    exact jp17 x2 (σ 8 x2.toNatClampNeg) _ _ _ h hP hS (lv_sub hl [1, 2, 3, 0] rfl)
  · have h := ob_f c2 h
    refine lv_iload_n hx hb dur_So_lacksAtTarget_11 rfl (lv_at hl 0 rfl) ?_
    refine lv_bipush (v := 8) hx hb dur_So_lacksAtTarget_12 (by decide) ?_
    refine lv_icmp_lt (tgt := 19) hx hb dur_So_lacksAtTarget_14 (by decide) (fun c3 => ?_) (fun c3 => ?_)
    · have h := ob_t c3 h
      refine lv_aload_n hx hb dur_So_lacksAtTarget_19 rfl (lv_at hl 2 rfl) ?_
      refine urg_So_26 hx hb hts hown hK hP dur_So_lacksAtTarget_20 ?_
      refine lv_iload_n hx hb dur_So_lacksAtTarget_23 rfl (lv_at hl 3 rfl) ?_
      obtain ⟨hg4, h⟩ := ob_i h
      refine ur_gald1 hx hb hK hP hg4 dur_So_lacksAtTarget_24 ?_
      refine lv_iload_n hx hb dur_So_lacksAtTarget_25 rfl (lv_at hl 0 rfl) ?_
      obtain ⟨hi5, h⟩ := ob_i h
      refine ur_iald (i := (x2.toNatClampNeg + 26)) hx hb hK hP (ur_glt1 hg4) (ur_gln1 hg4) hi5 dur_So_lacksAtTarget_26 ?_
      refine lv_istore (lv' := [(4, .int (σ (x2.toNatClampNeg + 26) (σ 8 x2.toNatClampNeg).toNatClampNeg)), (3, .int (σ 8 x2.toNatClampNeg)), (0, .ref (a 2)), (1, .ref (a 1)), (2, .int x2)]) hx hb dur_So_lacksAtTarget_27 hl (by decide) rfl (fun ls hl => ?_)
      refine lv_aload_n hx hb dur_So_lacksAtTarget_29 rfl (lv_at hl 3 rfl) ?_
      refine lv_iload hx hb dur_So_lacksAtTarget_30 (lv_at hl 0 rfl) ?_
      obtain ⟨q6, hq6, h⟩ := ob_b h
      refine ur_cv_ir (As := [.int (σ (x2.toNatClampNeg + 26) (σ 8 x2.toNatClampNeg).toNatClampNeg)]) (rest := []) ⟨hx, hb, hml, hown, hts⟩ (cur_Nm_isKnown l D a k hAd σ (σ (x2.toNatClampNeg + 26) (σ 8 x2.toNatClampNeg).toNatClampNeg)  q6 hq6) (urc_So_59 hts ⟨Nat.le_of_ble_eq_true rfl, Nat.le_of_ble_eq_true rfl⟩) (ur_rc1 hK hP) hK hP rfl hl.1 rfl (Nat.le_of_ble_eq_true rfl) dur_So_lacksAtTarget_32 hS (fun H locs hP hS => ?_)
      refine lv_if_eq (tgt := 60) hx hb dur_So_lacksAtTarget_35 (by decide) (fun c7 => ?_) (fun c7 => ?_)
      · have h := ob_t c7 h
        refine lv_iconst (v := 0) hx hb dur_So_lacksAtTarget_60 (by decide) ?_
        exact W.zret (ty := .boolean) (v := 0) hx hb hr rfl (fun t ht hW => ⟨⟨0, σ, rfl, ⟨Option.some.inj h, rfl⟩, by rw [ht]; exact hP, va_K.moved hW.alike hK⟩, hS.F ht⟩) hS.2.2 dur_So_lacksAtTarget_61
      · have h := ob_f c7 h
        refine lv_aload_n hx hb dur_So_lacksAtTarget_38 rfl (lv_at hl 3 rfl) ?_
        refine urg_So_32 hx hb hts hown hK hP dur_So_lacksAtTarget_39 ?_
        refine lv_iload_n hx hb dur_So_lacksAtTarget_42 rfl (lv_at hl 4 rfl) ?_
        obtain ⟨hg8, h⟩ := ob_i h
        refine ur_gald2 hx hb hK hP hg8 dur_So_lacksAtTarget_43 ?_
        refine lv_iload_n hx hb dur_So_lacksAtTarget_44 rfl (lv_at hl 1 rfl) ?_
        obtain ⟨hi9, h⟩ := ob_i h
        refine ur_iald (i := (x2.toNatClampNeg + 38)) hx hb hK hP (ur_glt2 hg8) (ur_gln2 hg8) hi9 dur_So_lacksAtTarget_45 ?_
        refine lv_aload_n hx hb dur_So_lacksAtTarget_46 rfl (lv_at hl 2 rfl) ?_
        refine urg_So_9 hx hb hts hown hK hP dur_So_lacksAtTarget_47 ?_
        refine lv_iload hx hb dur_So_lacksAtTarget_50 (lv_at hl 0 rfl) ?_
        obtain ⟨hi10, h⟩ := ob_i h
        refine ur_iald (i := 8) hx hb hK hP (by decide) rfl hi10 dur_So_lacksAtTarget_52 ?_
        refine lv_icmp_le (tgt := 60) hx hb dur_So_lacksAtTarget_53 (by decide) (fun c11 => ?_) (fun c11 => ?_)
        · have h := ob_t c11 h
          refine lv_iconst (v := 0) hx hb dur_So_lacksAtTarget_60 (by decide) ?_
          exact W.zret (ty := .boolean) (v := 0) hx hb hr rfl (fun t ht hW => ⟨⟨0, σ, rfl, ⟨Option.some.inj h, rfl⟩, by rw [ht]; exact hP, va_K.moved hW.alike hK⟩, hS.F ht⟩) hS.2.2 dur_So_lacksAtTarget_61
        · have h := ob_f c11 h
          refine lv_iconst (v := 1) hx hb dur_So_lacksAtTarget_56 (by decide) ?_
          refine lv_goto (tgt := 61) hx hb dur_So_lacksAtTarget_57 (by decide) ?_
          exact W.zret (ty := .boolean) (v := 1) hx hb hr rfl (fun t ht hW => ⟨⟨1, σ, rfl, ⟨Option.some.inj h, rfl⟩, by rw [ht]; exact hP, va_K.moved hW.alike hK⟩, hS.F ht⟩) hS.2.2 dur_So_lacksAtTarget_61
    · have h := ob_f c3 h
      exact jp17 x2 (σ 8 x2.toNatClampNeg) _ _ _ h hP hS (lv_sub hl [1, 2, 3, 0] rfl)
set_option maxHeartbeats 4000000 in
set_option maxRecDepth 100000 in
theorem cur_So_firstNeedy (l : Launch) (D : va_G) (a : Nat → Nat) (k : Nat → ClassId) (hAd : ur_Ad a) (σ : ST) (res : Int32) (h : urf_So_firstNeedy σ  = some res) : Met l ury_So_firstNeedy urs_So_firstNeedy urr_So_firstNeedy (ur_Pc D a k σ [.ref (a 2), .ref (a 1)]) (va_Qi (fun (r : Int32) (u : ST) => r = res ∧ u = σ) (ur_B D a k) (ur_A a)) 0 0 (ur_A a) := by
  refine Met.ofW (cc := urb_So_firstNeedy) (maxL := 3) (ret := (some .int)) (by decide) rfl ?_
  intro p e s m args below meth c s₁ B hml hv
  obtain ⟨rfl, hP, hK⟩ := hv
  have hx := B.exec
  have hb := B.bytes
  have hr := B.returns
  have hts : ∀ w ∈ ub_T, w.before _ s = true := fun w hw => atoms_spec (ws := urs_So_firstNeedy) B.pre w (List.mem_cons_of_mem _ hw)
  have hown : s.vm.findClass urR_So = some m.cls := findClass_of_methodNamed B.named
  have hlocks := B.notSynchronized
  have hS : va_S (ur_A a) s.heap s.heap [] := va_S.rf
  have hl := lv_entry ([.ref (a 2), .ref (a 1)]) (n := 3) (Nat.le_of_ble_eq_true rfl)
  rw [lg_entry_eq]
  generalize (lg_sl ([.ref (a 2), .ref (a 1)]) ++ List.replicate (3 - (lg_sl ([.ref (a 2), .ref (a 1)])).length) Slot.unset).toArray = ls at hl ⊢
  have hl : lv_has ls 3 [(0, .ref (a 2)), (1, .ref (a 1))] := hl
  have lp2 : ∀ (n : Nat) (y2 : Int32) (H : Heap) (locs : List Loc) (ls : Array Slot), url_So_firstNeedy_2 σ n y2 = some res → ur_P D a k σ H → va_S (ur_A a) s.heap H locs → lv_has ls 3 [(0, .ref (a 2)), (1, .ref (a 1)), (2, .int y2)] → W p l e (headSpec urs_So_firstNeedy urr_So_firstNeedy).room s m (([.ref (a 2), .ref (a 1)] : List Value)).toArray below meth c H locs 0 0 (MQ below (va_Qi (fun (r : Int32) (u : ST) => r = res ∧ u = σ) (ur_B D a k) (ur_A a)) (([.ref (a 2), .ref (a 1)] : List Value)).toArray s 0 0 (ur_A a)) (F0 m 2 ls []) := by
    intro n
    induction n with
    | zero =>
      intro y2 H locs ls h
      exact absurd h (fun z => by cases z)
    | succ n ih =>
      intro y2 H locs ls h hP hS hl
      rw [url_So_firstNeedy_2] at h
      refine lv_iload_n hx hb dur_So_firstNeedy_2 rfl (lv_at hl 2 rfl) ?_
      refine lv_aload_n hx hb dur_So_firstNeedy_3 rfl (lv_at hl 1 rfl) ?_
      refine urg_So_42 hx hb hts hown hK hP dur_So_firstNeedy_4 ?_
      refine lv_icmp_ge (tgt := 42) hx hb dur_So_firstNeedy_7 (by decide) (fun c1 => ?_) (fun c1 => ?_)
      · have h := ob_t c1 h
        refine lv_iconst (v := (-1)) hx hb dur_So_firstNeedy_42 (by decide) ?_
        exact W.iret (v := (-1)) hx hb hr (fun t ht hW => ⟨⟨(-1), σ, rfl, ⟨Option.some.inj h, rfl⟩, by rw [ht]; exact hP, va_K.moved hW.alike hK⟩, hS.F ht⟩) hS.2.2 dur_So_firstNeedy_43
      · have h := ob_f c1 h
        refine lv_aload_n hx hb dur_So_firstNeedy_10 rfl (lv_at hl 0 rfl) ?_
        refine urg_So_9 hx hb hts hown hK hP dur_So_firstNeedy_11 ?_
        refine lv_iload_n hx hb dur_So_firstNeedy_14 rfl (lv_at hl 2 rfl) ?_
        obtain ⟨hi2, h⟩ := ob_i h
        refine ur_iald (i := 8) hx hb hK hP (by decide) rfl hi2 dur_So_firstNeedy_15 ?_
        refine lv_aload_n hx hb dur_So_firstNeedy_16 rfl (lv_at hl 1 rfl) ?_
        refine urg_So_52 hx hb hts hown hK hP dur_So_firstNeedy_17 ?_
        refine lv_iload_n hx hb dur_So_firstNeedy_20 rfl (lv_at hl 2 rfl) ?_
        obtain ⟨hi3, h⟩ := ob_i h
        refine ur_iald (i := 2) hx hb hK hP (by decide) rfl hi3 dur_So_firstNeedy_21 ?_
        refine lv_icmp_le (tgt := 36) hx hb dur_So_firstNeedy_22 (by decide) (fun c4 => ?_) (fun c4 => ?_)
        · have h := ob_t c4 h
          refine lv_iinc (v := (y2 + 1)) (lv' := [(2, .int (y2 + 1)), (0, .ref (a 2)), (1, .ref (a 1))]) hx hb dur_So_firstNeedy_36 hl (k := 2) rfl rfl (by decide) rfl (fun ls hl => ?_)
          refine lv_goto (tgt := 2) hx hb dur_So_firstNeedy_39 (by decide) ?_
          exact ih (y2 + 1) _ _ _ h hP hS (lv_sub hl [1, 2, 0] rfl)
        · have h := ob_f c4 h
          refine lv_aload_n hx hb dur_So_firstNeedy_25 rfl (lv_at hl 0 rfl) ?_
          refine lv_aload_n hx hb dur_So_firstNeedy_26 rfl (lv_at hl 1 rfl) ?_
          refine lv_iload_n hx hb dur_So_firstNeedy_27 rfl (lv_at hl 2 rfl) ?_
          obtain ⟨q5, hq5, h⟩ := ob_b h
          refine ur_cv_ir (As := [.ref (a 1), .int y2]) (rest := []) ⟨hx, hb, hml, hown, hts⟩ (cur_So_lacksAtTarget l D a k hAd σ y2  q5 hq5) (urc_So_55 hts ⟨Nat.le_of_ble_eq_true rfl, Nat.le_of_ble_eq_true rfl⟩) (ur_rc2 hK hP) hK hP rfl hl.1 rfl (Nat.le_of_ble_eq_true rfl) dur_So_firstNeedy_28 hS (fun H locs hP hS => ?_)
          refine lv_if_eq (tgt := 36) hx hb dur_So_firstNeedy_31 (by decide) (fun c6 => ?_) (fun c6 => ?_)
          · have h := ob_t c6 h
            refine lv_iinc (v := (y2 + 1)) (lv' := [(2, .int (y2 + 1)), (0, .ref (a 2)), (1, .ref (a 1))]) hx hb dur_So_firstNeedy_36 hl (k := 2) rfl rfl (by decide) rfl (fun ls hl => ?_)
            refine lv_goto (tgt := 2) hx hb dur_So_firstNeedy_39 (by decide) ?_
            exact ih (y2 + 1) _ _ _ h hP hS (lv_sub hl [1, 2, 0] rfl)
          · have h := ob_f c6 h
            refine lv_iload_n hx hb dur_So_firstNeedy_34 rfl (lv_at hl 2 rfl) ?_
            exact W.iret (v := y2) hx hb hr (fun t ht hW => ⟨⟨y2, σ, rfl, ⟨Option.some.inj h, rfl⟩, by rw [ht]; exact hP, va_K.moved hW.alike hK⟩, hS.F ht⟩) hS.2.2 dur_So_firstNeedy_35
  rw [urf_So_firstNeedy] at h
  refine lv_iconst (v := 0) hx hb dur_So_firstNeedy_0 (by decide) ?_
  refine lv_istore_n (lv' := [(2, .int 0), (0, .ref (a 2)), (1, .ref (a 1))]) hx hb dur_So_firstNeedy_1 rfl hl (by decide) rfl (fun ls hl => ?_)
  exact lp2 200 0 _ _ _ h hP hS (lv_sub hl [1, 2, 0] rfl)
set_option maxHeartbeats 4000000 in
set_option maxRecDepth 100000 in
theorem cur_So_keepRaised (l : Launch) (D : va_G) (a : Nat → Nat) (k : Nat → ClassId) (hAd : ur_Ad a) (σ : ST) (res : Int32 × ST) (h : urf_So_keepRaised σ  = some res) : Met l ury_So_keepRaised urs_So_keepRaised urr_So_keepRaised (ur_Pc D a k σ [.ref (a 2), .ref (a 1)]) (va_Qi (fun (r : Int32) (u : ST) => r = res.1 ∧ u = res.2) (ur_B D a k) (ur_A a)) 0 0 (ur_A a) := by
  refine Met.ofW (cc := urb_So_keepRaised) (maxL := 4) (ret := (some .int)) (by decide) rfl ?_
  intro p e s m args below meth c s₁ B hml hv
  obtain ⟨rfl, hP, hK⟩ := hv
  have hx := B.exec
  have hb := B.bytes
  have hr := B.returns
  have hts : ∀ w ∈ ub_T, w.before _ s = true := fun w hw => atoms_spec (ws := urs_So_keepRaised) B.pre w (List.mem_cons_of_mem _ hw)
  have hown : s.vm.findClass urR_So = some m.cls := findClass_of_methodNamed B.named
  have hlocks := B.notSynchronized
  have hS : va_S (ur_A a) s.heap s.heap [] := va_S.rf
  have hl := lv_entry ([.ref (a 2), .ref (a 1)]) (n := 4) (Nat.le_of_ble_eq_true rfl)
  rw [lg_entry_eq]
  generalize (lg_sl ([.ref (a 2), .ref (a 1)]) ++ List.replicate (4 - (lg_sl ([.ref (a 2), .ref (a 1)])).length) Slot.unset).toArray = ls at hl ⊢
  have hl : lv_has ls 4 [(0, .ref (a 2)), (1, .ref (a 1))] := hl
  have lp4 : ∀ (n : Nat) (σ : ST) (y2 : Int32) (y3 : Int32) (H : Heap) (locs : List Loc) (ls : Array Slot), url_So_keepRaised_4 n σ y2 y3 = some res → ur_P D a k σ H → va_S (ur_A a) s.heap H locs → lv_has ls 4 [(0, .ref (a 2)), (1, .ref (a 1)), (2, .int y2), (3, .int y3)] → W p l e (headSpec urs_So_keepRaised urr_So_keepRaised).room s m (([.ref (a 2), .ref (a 1)] : List Value)).toArray below meth c H locs 0 0 (MQ below (va_Qi (fun (r : Int32) (u : ST) => r = res.1 ∧ u = res.2) (ur_B D a k) (ur_A a)) (([.ref (a 2), .ref (a 1)] : List Value)).toArray s 0 0 (ur_A a)) (F0 m 4 ls []) := by
    intro n
    induction n with
    | zero =>
      intro σ y2 y3 H locs ls h
      exact absurd h (fun z => by cases z)
    | succ n ih =>
      intro σ y2 y3 H locs ls h hP hS hl
      rw [url_So_keepRaised_4] at h
      refine lv_iload_n hx hb dur_So_keepRaised_4 rfl (lv_at hl 3 rfl) ?_
      refine lv_bipush (v := 12) hx hb dur_So_keepRaised_5 (by decide) ?_
      refine lv_icmp_ge (tgt := 61) hx hb dur_So_keepRaised_7 (by decide) (fun c1 => ?_) (fun c1 => ?_)
      · have h := ob_t c1 h
        refine lv_iload_n hx hb dur_So_keepRaised_61 rfl (lv_at hl 2 rfl) ?_
        exact W.iret (v := y2) hx hb hr (fun t ht hW => ⟨⟨y2, σ, rfl, ob_r h, by rw [ht]; exact hP, va_K.moved hW.alike hK⟩, hS.F ht⟩) hS.2.2 dur_So_keepRaised_62
      · have h := ob_f c1 h
        refine lv_aload_n hx hb dur_So_keepRaised_10 rfl (lv_at hl 0 rfl) ?_
        refine urg_So_15 hx hb hts hown hK hP dur_So_keepRaised_11 ?_
        refine lv_iload_n hx hb dur_So_keepRaised_14 rfl (lv_at hl 3 rfl) ?_
        refine lv_iconst (v := (-1)) hx hb dur_So_keepRaised_15 (by decide) ?_
        obtain ⟨hi2, h⟩ := ob_i h
        refine ur_iast (i := 9) hx hb hK hP hAd hS (by decide) rfl hi2 dur_So_keepRaised_16 (fun H locs hP hS => ?_)
        refine lv_iload_n hx hb dur_So_keepRaised_17 rfl (lv_at hl 3 rfl) ?_
        refine lv_aload_n hx hb dur_So_keepRaised_18 rfl (lv_at hl 1 rfl) ?_
        refine urg_So_42 hx hb hts hown hK hP dur_So_keepRaised_19 ?_
        refine W.eq (g2 := F0 m 22 ls [.int (σ 111 3), .int y3]) rfl ?_
        refine lv_icmp_ge (tgt := 55) hx hb dur_So_keepRaised_22 (by decide) (fun c3 => ?_) (fun c3 => ?_)
        · have h := ob_t c3 h
          refine lv_iinc (v := (y3 + 1)) (lv' := [(3, .int (y3 + 1)), (0, .ref (a 2)), (1, .ref (a 1)), (2, .int y2)]) hx hb dur_So_keepRaised_55 hl (k := 3) rfl rfl (by decide) rfl (fun ls hl => ?_)
          refine lv_goto (tgt := 4) hx hb dur_So_keepRaised_58 (by decide) ?_
          exact ih (wr σ 9 y3.toNatClampNeg (-1)) y2 (y3 + 1) _ _ _ h hP hS (lv_sub hl [1, 2, 3, 0] rfl)
        · have h := ob_f c3 h
          refine lv_aload_n hx hb dur_So_keepRaised_25 rfl (lv_at hl 0 rfl) ?_
          refine urg_So_9 hx hb hts hown hK hP dur_So_keepRaised_26 ?_
          refine lv_iload_n hx hb dur_So_keepRaised_29 rfl (lv_at hl 3 rfl) ?_
          obtain ⟨hi4, h⟩ := ob_i h
          refine ur_iald (i := 8) hx hb hK hP (by decide) rfl hi4 dur_So_keepRaised_30 ?_
          refine W.eq (g2 := F0 m 31 ls [.int (σ 8 y3.toNatClampNeg)]) rfl ?_
          refine lv_aload_n hx hb dur_So_keepRaised_31 rfl (lv_at hl 1 rfl) ?_
          refine urg_So_52 hx hb hts hown hK hP dur_So_keepRaised_32 ?_
          refine lv_iload_n hx hb dur_So_keepRaised_35 rfl (lv_at hl 3 rfl) ?_
          obtain ⟨hi5, h⟩ := ob_i h
          refine ur_iald (i := 2) hx hb hK hP (by decide) rfl hi5 dur_So_keepRaised_36 ?_
          refine W.eq (g2 := F0 m 37 ls [.int (σ 2 y3.toNatClampNeg), .int (σ 8 y3.toNatClampNeg)]) rfl ?_
          refine lv_icmp_le (tgt := 55) hx hb dur_So_keepRaised_37 (by decide) (fun c6 => ?_) (fun c6 => ?_)
          · have h := ob_t c6 h
            refine lv_iinc (v := (y3 + 1)) (lv' := [(3, .int (y3 + 1)), (0, .ref (a 2)), (1, .ref (a 1)), (2, .int y2)]) hx hb dur_So_keepRaised_55 hl (k := 3) rfl rfl (by decide) rfl (fun ls hl => ?_)
            refine lv_goto (tgt := 4) hx hb dur_So_keepRaised_58 (by decide) ?_
            exact ih (wr σ 9 y3.toNatClampNeg (-1)) y2 (y3 + 1) _ _ _ h hP hS (lv_sub hl [1, 2, 3, 0] rfl)
          · have h := ob_f c6 h
            refine lv_aload_n hx hb dur_So_keepRaised_40 rfl (lv_at hl 0 rfl) ?_
            refine urg_So_15 hx hb hts hown hK hP dur_So_keepRaised_41 ?_
            refine lv_iload_n hx hb dur_So_keepRaised_44 rfl (lv_at hl 3 rfl) ?_
            refine lv_aload_n hx hb dur_So_keepRaised_45 rfl (lv_at hl 0 rfl) ?_
            refine urg_So_9 hx hb hts hown hK hP dur_So_keepRaised_46 ?_
            refine lv_iload_n hx hb dur_So_keepRaised_49 rfl (lv_at hl 3 rfl) ?_
            obtain ⟨hi7, h⟩ := ob_i h
            refine ur_iald (i := 8) hx hb hK hP (by decide) rfl hi7 dur_So_keepRaised_50 ?_
            refine W.eq (g2 := F0 m 51 ls [.int (σ 8 y3.toNatClampNeg), .int y3, .ref (a (9 + 9))]) rfl ?_
            obtain ⟨hi8, h⟩ := ob_i h
            refine ur_iast (i := 9) hx hb hK hP hAd hS (by decide) rfl hi8 dur_So_keepRaised_51 (fun H locs hP hS => ?_)
            refine lv_iinc (v := (y2 + 1)) (lv' := [(2, .int (y2 + 1)), (0, .ref (a 2)), (1, .ref (a 1)), (3, .int y3)]) hx hb dur_So_keepRaised_52 hl (k := 2) rfl rfl (by decide) rfl (fun ls hl => ?_)
            refine lv_iinc (v := (y3 + 1)) (lv' := [(3, .int (y3 + 1)), (2, .int (y2 + 1)), (0, .ref (a 2)), (1, .ref (a 1))]) hx hb dur_So_keepRaised_55 hl (k := 3) rfl rfl (by decide) rfl (fun ls hl => ?_)
            refine lv_goto (tgt := 4) hx hb dur_So_keepRaised_58 (by decide) ?_
            exact ih (wr (wr σ 9 y3.toNatClampNeg (-1)) 9 y3.toNatClampNeg (σ 8 y3.toNatClampNeg)) (y2 + 1) (y3 + 1) _ _ _ h hP hS (lv_sub hl [2, 3, 1, 0] rfl)
  rw [urf_So_keepRaised] at h
  refine lv_iconst (v := 0) hx hb dur_So_keepRaised_0 (by decide) ?_
  refine lv_istore_n (lv' := [(2, .int 0), (0, .ref (a 2)), (1, .ref (a 1))]) hx hb dur_So_keepRaised_1 rfl hl (by decide) rfl (fun ls hl => ?_)
  refine lv_iconst (v := 0) hx hb dur_So_keepRaised_2 (by decide) ?_
  refine lv_istore_n (lv' := [(3, .int 0), (2, .int 0), (0, .ref (a 2)), (1, .ref (a 1))]) hx hb dur_So_keepRaised_3 rfl hl (by decide) rfl (fun ls hl => ?_)
  exact lp4 200 σ 0 0 _ _ _ h hP hS (lv_sub hl [2, 3, 1, 0] rfl)

set_option maxHeartbeats 4000000 in
set_option maxRecDepth 100000 in
theorem crf_Md_goalOf (l : Launch) (D : va_G) (a : Nat → Nat) (k : Nat → ClassId) (hAd : rf_Ad a) (σ : ST) (x1 : Int32) (res : Int32) (h : rff_Md_goalOf σ x1 = some res) : Met l rfy_Md_goalOf rfs_Md_goalOf rfr_Md_goalOf (rf_Pc D a k σ [.ref (a 0), .int x1]) (va_Qi (fun (r : Int32) (u : ST) => r = res ∧ u = σ) (rf_B D a k) (rf_A a)) 0 0 (rf_A a) := by
  refine Met.ofW (cc := rfb_Md_goalOf) (maxL := 3) (ret := (some .int)) (by decide) rfl ?_
  intro p e s m args below meth c s₁ B hml hv
  obtain ⟨rfl, hP, hK⟩ := hv
  have hx := B.exec
  have hb := B.bytes
  have hr := B.returns
  have hts : ∀ w ∈ ub_T, w.before _ s = true := fun w hw => atoms_spec (ws := rfs_Md_goalOf) B.pre w (List.mem_cons_of_mem _ hw)
  have hown : s.vm.findClass rfR_Md = some m.cls := findClass_of_methodNamed B.named
  have hlocks := B.notSynchronized
  have hS : va_S (rf_A a) s.heap s.heap [] := va_S.rf
  have hl := lv_entry ([.ref (a 0), .int x1]) (n := 3) (Nat.le_of_ble_eq_true rfl)
  rw [lg_entry_eq]
  generalize (lg_sl ([.ref (a 0), .int x1]) ++ List.replicate (3 - (lg_sl ([.ref (a 0), .int x1])).length) Slot.unset).toArray = ls at hl ⊢
  have hl : lv_has ls 3 [(0, .ref (a 0)), (1, .int x1)] := hl
  have lp7 : ∀ (n : Nat) (y1 : Int32) (y2 : Int32) (H : Heap) (locs : List Loc) (ls : Array Slot), rfl_Md_goalOf_7 σ n y1 y2 = some res → rf_P D a k σ H → va_S (rf_A a) s.heap H locs → lv_has ls 3 [(0, .ref (a 0)), (1, .int y1), (2, .int y2)] → W p l e (headSpec rfs_Md_goalOf rfr_Md_goalOf).room s m (([.ref (a 0), .int x1] : List Value)).toArray below meth c H locs 0 0 (MQ below (va_Qi (fun (r : Int32) (u : ST) => r = res ∧ u = σ) (rf_B D a k) (rf_A a)) (([.ref (a 0), .int x1] : List Value)).toArray s 0 0 (rf_A a)) (F0 m 7 ls []) := by
    intro n
    induction n with
    | zero =>
      intro y1 y2 H locs ls h
      exact absurd h (fun z => by cases z)
    | succ n ih =>
      intro y1 y2 H locs ls h hP hS hl
      rw [rfl_Md_goalOf_7] at h
      refine lv_aload_n hx hb drf_Md_goalOf_7 rfl (lv_at hl 0 rfl) ?_
      refine lv_iload_n hx hb drf_Md_goalOf_8 rfl (lv_at hl 1 rfl) ?_
      refine lv_iload_n hx hb drf_Md_goalOf_9 rfl (lv_at hl 2 rfl) ?_
      refine lv_iconst (v := 1) hx hb drf_Md_goalOf_10 (by decide) ?_
      refine lv_iadd hx hb drf_Md_goalOf_11 ?_
      obtain ⟨q2, hq2, h⟩ := ob_b h
      refine rf_cv_ir (As := [.int y1, .int (y2 + 1)]) (rest := []) ⟨hx, hb, hml, hown, hts⟩ (crf_Md_isAllowed l D a k hAd σ y1 (y2 + 1)  q2 hq2) (rfc_Md_78 hts ⟨Nat.le_of_ble_eq_true rfl, Nat.le_of_ble_eq_true rfl⟩) (rf_rc0 hK hP) hK hP rfl hl.1 rfl (Nat.le_of_ble_eq_true rfl) drf_Md_goalOf_12 hS (fun H locs hP hS => ?_)
      refine lv_if_eq (tgt := 24) hx hb drf_Md_goalOf_15 (by decide) (fun c3 => ?_) (fun c3 => ?_)
      · have h := ob_t c3 h
        refine lv_aload_n hx hb drf_Md_goalOf_24 rfl (lv_at hl 0 rfl) ?_
        refine lv_iload_n hx hb drf_Md_goalOf_25 rfl (lv_at hl 1 rfl) ?_
        obtain ⟨q4, hq4, h⟩ := ob_b h
        refine rf_cv_ir (As := [.int y1]) (rest := []) ⟨hx, hb, hml, hown, hts⟩ (crf_Md_isHit l D a k hAd σ y1  q4 hq4) (rfc_Md_82 hts ⟨Nat.le_of_ble_eq_true rfl, Nat.le_of_ble_eq_true rfl⟩) (rf_rc0 hK hP) hK hP rfl hl.1 rfl (Nat.le_of_ble_eq_true rfl) drf_Md_goalOf_26 hS (fun H locs hP hS => ?_)
        refine lv_if_eq (tgt := 68) hx hb drf_Md_goalOf_29 (by decide) (fun c5 => ?_) (fun c5 => ?_)
        · have h := ob_t c5 h
          refine lv_iload_n hx hb drf_Md_goalOf_68 rfl (lv_at hl 2 rfl) ?_
          exact W.iret (v := y2) hx hb hr (fun t ht hW => ⟨⟨y2, σ, rfl, ⟨Option.some.inj h, rfl⟩, by rw [ht]; exact hP, va_K.moved hW.alike hK⟩, hS.F ht⟩) hS.2.2 drf_Md_goalOf_69
        · have h := ob_f c5 h
          refine lv_iload_n hx hb drf_Md_goalOf_32 rfl (lv_at hl 2 rfl) ?_
          refine lv_aload_n hx hb drf_Md_goalOf_33 rfl (lv_at hl 0 rfl) ?_
          refine rfg_Md_28 hx hb hts hown hK hP drf_Md_goalOf_34 ?_
          refine lv_iload_n hx hb drf_Md_goalOf_37 rfl (lv_at hl 1 rfl) ?_
          obtain ⟨hi6, h⟩ := ob_i h
          refine rf_iald (i := 6) hx hb hK hP (by decide) rfl hi6 drf_Md_goalOf_38 ?_
          refine lv_icmp_gt (tgt := 68) hx hb drf_Md_goalOf_39 (by decide) (fun c7 => ?_) (fun c7 => ?_)
          · have h := ob_t c7 h
            refine lv_iload_n hx hb drf_Md_goalOf_68 rfl (lv_at hl 2 rfl) ?_
            exact W.iret (v := y2) hx hb hr (fun t ht hW => ⟨⟨y2, σ, rfl, ⟨Option.some.inj h, rfl⟩, by rw [ht]; exact hP, va_K.moved hW.alike hK⟩, hS.F ht⟩) hS.2.2 drf_Md_goalOf_69
          · have h := ob_f c7 h
            refine lv_aload_n hx hb drf_Md_goalOf_42 rfl (lv_at hl 0 rfl) ?_
            refine rfg_Md_28 hx hb hts hown hK hP drf_Md_goalOf_43 ?_
            refine lv_iload_n hx hb drf_Md_goalOf_46 rfl (lv_at hl 1 rfl) ?_
            obtain ⟨hi8, h⟩ := ob_i h
            refine rf_iald (i := 6) hx hb hK hP (by decide) rfl hi8 drf_Md_goalOf_47 ?_
            refine lv_aload_n hx hb drf_Md_goalOf_48 rfl (lv_at hl 0 rfl) ?_
            refine rfg_Md_13 hx hb hts hown hK hP drf_Md_goalOf_49 ?_
            refine lv_iload_n hx hb drf_Md_goalOf_52 rfl (lv_at hl 1 rfl) ?_
            obtain ⟨hi9, h⟩ := ob_i h
            refine rf_iald (i := 1) hx hb hK hP (by decide) rfl hi9 drf_Md_goalOf_53 ?_
            refine lv_icmp_ge (tgt := 68) hx hb drf_Md_goalOf_54 (by decide) (fun c10 => ?_) (fun c10 => ?_)
            · have h := ob_t c10 h
              refine lv_iload_n hx hb drf_Md_goalOf_68 rfl (lv_at hl 2 rfl) ?_
              exact W.iret (v := y2) hx hb hr (fun t ht hW => ⟨⟨y2, σ, rfl, ⟨Option.some.inj h, rfl⟩, by rw [ht]; exact hP, va_K.moved hW.alike hK⟩, hS.F ht⟩) hS.2.2 drf_Md_goalOf_69
            · have h := ob_f c10 h
              refine lv_aload_n hx hb drf_Md_goalOf_57 rfl (lv_at hl 0 rfl) ?_
              refine rfg_Md_28 hx hb hts hown hK hP drf_Md_goalOf_58 ?_
              refine lv_iload_n hx hb drf_Md_goalOf_61 rfl (lv_at hl 1 rfl) ?_
              obtain ⟨hi11, h⟩ := ob_i h
              refine rf_iald (i := 6) hx hb hK hP (by decide) rfl hi11 drf_Md_goalOf_62 ?_
              refine lv_iconst (v := 1) hx hb drf_Md_goalOf_63 (by decide) ?_
              refine lv_iadd hx hb drf_Md_goalOf_64 ?_
              refine lv_goto (tgt := 69) hx hb drf_Md_goalOf_65 (by decide) ?_
              exact W.iret (v := ((σ 6 y1.toNatClampNeg) + 1)) hx hb hr (fun t ht hW => ⟨⟨((σ 6 y1.toNatClampNeg) + 1), σ, rfl, ⟨Option.some.inj h, rfl⟩, by rw [ht]; exact hP, va_K.moved hW.alike hK⟩, hS.F ht⟩) hS.2.2 drf_Md_goalOf_69
      · have h := ob_f c3 h
        refine lv_iinc (v := (y2 + 1)) (lv' := [(2, .int (y2 + 1)), (0, .ref (a 0)), (1, .int y1)]) hx hb drf_Md_goalOf_18 hl (k := 2) rfl rfl (by decide) rfl (fun ls hl => ?_)
        refine lv_goto (tgt := 7) hx hb drf_Md_goalOf_21 (by decide) ?_
        exact ih y1 (y2 + 1) _ _ _ h hP hS (lv_sub hl [1, 2, 0] rfl)
  rw [rff_Md_goalOf] at h
  refine lv_aload_n hx hb drf_Md_goalOf_0 rfl (lv_at hl 0 rfl) ?_
  refine rfg_Md_16 hx hb hts hown hK hP drf_Md_goalOf_1 ?_
  refine lv_iload_n hx hb drf_Md_goalOf_4 rfl (lv_at hl 1 rfl) ?_
  obtain ⟨hi1, h⟩ := ob_i h
  refine rf_iald (i := 2) hx hb hK hP (by decide) rfl hi1 drf_Md_goalOf_5 ?_
  refine lv_istore_n (lv' := [(2, .int (σ 2 x1.toNatClampNeg)), (0, .ref (a 0)), (1, .int x1)]) hx hb drf_Md_goalOf_6 rfl hl (by decide) rfl (fun ls hl => ?_)
  exact lp7 200 x1 (σ 2 x1.toNatClampNeg) _ _ _ h hP hS (lv_sub hl [1, 2, 0] rfl)
set_option maxHeartbeats 4000000 in
set_option maxRecDepth 100000 in
theorem crf_Md_goal (l : Launch) (D : va_G) (a : Nat → Nat) (k : Nat → ClassId) (hAd : rf_Ad a) (σ : ST) (x1 : Int32) (res : Int32 × ST) (h : rff_Md_goal σ x1 = some res) : Met l rfy_Md_goal rfs_Md_goal rfr_Md_goal (rf_Pc D a k σ [.ref (a 0), .int x1]) (va_Qi (fun (r : Int32) (u : ST) => r = res.1 ∧ u = res.2) (rf_B D a k) (rf_A a)) 0 0 (rf_A a) := by
  refine Met.ofW (cc := rfb_Md_goal) (maxL := 2) (ret := (some .int)) (by decide) rfl ?_
  intro p e s m args below meth c s₁ B hml hv
  obtain ⟨rfl, hP, hK⟩ := hv
  have hx := B.exec
  have hb := B.bytes
  have hr := B.returns
  have hts : ∀ w ∈ ub_T, w.before _ s = true := fun w hw => atoms_spec (ws := rfs_Md_goal) B.pre w (List.mem_cons_of_mem _ hw)
  have hown : s.vm.findClass rfR_Md = some m.cls := findClass_of_methodNamed B.named
  have hlocks := B.notSynchronized
  have hS : va_S (rf_A a) s.heap s.heap [] := va_S.rf
  have hl := lv_entry ([.ref (a 0), .int x1]) (n := 2) (Nat.le_of_ble_eq_true rfl)
  rw [lg_entry_eq]
  generalize (lg_sl ([.ref (a 0), .int x1]) ++ List.replicate (2 - (lg_sl ([.ref (a 0), .int x1])).length) Slot.unset).toArray = ls at hl ⊢
  have hl : lv_has ls 2 [(0, .ref (a 0)), (1, .int x1)] := hl
  rw [rff_Md_goal] at h
  refine lv_aload_n hx hb drf_Md_goal_0 rfl (lv_at hl 0 rfl) ?_
  refine lv_iconst (v := 0) hx hb drf_Md_goal_1 (by decide) ?_
  refine rfp_Md_68 hx hb hts hown hK hP hAd hS drf_Md_goal_2 (fun H locs hP hS => ?_)
  refine lv_aload_n hx hb drf_Md_goal_5 rfl (lv_at hl 0 rfl) ?_
  refine lv_iload_n hx hb drf_Md_goal_6 rfl (lv_at hl 1 rfl) ?_
  obtain ⟨q1, hq1, h⟩ := ob_b h
  refine rf_cv_ir (As := [.int x1]) (rest := []) ⟨hx, hb, hml, hown, hts⟩ (crf_Md_isName l D a k hAd (wr σ 18 1 0) x1  q1 hq1) (rfc_Md_74 hts ⟨Nat.le_of_ble_eq_true rfl, Nat.le_of_ble_eq_true rfl⟩) (rf_rc0 hK hP) hK hP rfl hl.1 rfl (Nat.le_of_ble_eq_true rfl) drf_Md_goal_7 hS (fun H locs hP hS => ?_)
  refine lv_if_eq (tgt := 21) hx hb drf_Md_goal_10 (by decide) (fun c2 => ?_) (fun c2 => ?_)
  · have h := ob_t c2 h
    refine lv_iconst (v := (-1)) hx hb drf_Md_goal_21 (by decide) ?_
    exact W.iret (v := (-1)) hx hb hr (fun t ht hW => ⟨⟨(-1), (wr σ 18 1 0), rfl, ob_r h, by rw [ht]; exact hP, va_K.moved hW.alike hK⟩, hS.F ht⟩) hS.2.2 drf_Md_goal_22
  · have h := ob_f c2 h
    refine lv_aload_n hx hb drf_Md_goal_13 rfl (lv_at hl 0 rfl) ?_
    refine lv_iload_n hx hb drf_Md_goal_14 rfl (lv_at hl 1 rfl) ?_
    obtain ⟨q3, hq3, h⟩ := ob_b h
    refine rf_cv_ir (As := [.int x1]) (rest := []) ⟨hx, hb, hml, hown, hts⟩ (crf_Md_goalOf l D a k hAd (wr σ 18 1 0) x1  q3 hq3) (rfc_Md_85 hts ⟨Nat.le_of_ble_eq_true rfl, Nat.le_of_ble_eq_true rfl⟩) (rf_rc0 hK hP) hK hP rfl hl.1 rfl (Nat.le_of_ble_eq_true rfl) drf_Md_goal_15 hS (fun H locs hP hS => ?_)
    refine lv_goto (tgt := 22) hx hb drf_Md_goal_18 (by decide) ?_
    exact W.iret (v := q3) hx hb hr (fun t ht hW => ⟨⟨q3, (wr σ 18 1 0), rfl, ob_r h, by rw [ht]; exact hP, va_K.moved hW.alike hK⟩, hS.F ht⟩) hS.2.2 drf_Md_goal_22
set_option maxHeartbeats 4000000 in
set_option maxRecDepth 100000 in
theorem crf_Md_areOne (l : Launch) (D : va_G) (a : Nat → Nat) (k : Nat → ClassId) (hAd : rf_Ad a) (σ : ST) (x1 : Int32) (x2 : Int32) (res : Int32) (h : rff_Md_areOne σ x1 x2 = some res) : Met l rfy_Md_areOne rfs_Md_areOne rfr_Md_areOne (rf_Pc D a k σ [.ref (a 0), .int x1, .int x2]) (va_Qi (fun (r : Int32) (u : ST) => r = res ∧ u = σ) (rf_B D a k) (rf_A a)) 0 0 (rf_A a) := by
  refine Met.ofW (cc := rfb_Md_areOne) (maxL := 3) (ret := (some .boolean)) (by decide) rfl ?_
  intro p e s m args below meth c s₁ B hml hv
  obtain ⟨rfl, hP, hK⟩ := hv
  have hx := B.exec
  have hb := B.bytes
  have hr := B.returns
  have hts : ∀ w ∈ ub_T, w.before _ s = true := fun w hw => atoms_spec (ws := rfs_Md_areOne) B.pre w (List.mem_cons_of_mem _ hw)
  have hown : s.vm.findClass rfR_Md = some m.cls := findClass_of_methodNamed B.named
  have hlocks := B.notSynchronized
  have hS : va_S (rf_A a) s.heap s.heap [] := va_S.rf
  have hl := lv_entry ([.ref (a 0), .int x1, .int x2]) (n := 3) (Nat.le_of_ble_eq_true rfl)
  rw [lg_entry_eq]
  generalize (lg_sl ([.ref (a 0), .int x1, .int x2]) ++ List.replicate (3 - (lg_sl ([.ref (a 0), .int x1, .int x2])).length) Slot.unset).toArray = ls at hl ⊢
  have hl : lv_has ls 3 [(0, .ref (a 0)), (1, .int x1), (2, .int x2)] := hl
  rw [rff_Md_areOne] at h
  refine lv_iload_n hx hb drf_Md_areOne_0 rfl (lv_at hl 1 rfl) ?_
  refine lv_iload_n hx hb drf_Md_areOne_1 rfl (lv_at hl 2 rfl) ?_
  refine lv_icmp_eq (tgt := 45) hx hb drf_Md_areOne_2 (by decide) (fun c1 => ?_) (fun c1 => ?_)
  · have h := ob_t c1 h
    refine lv_iconst (v := 1) hx hb drf_Md_areOne_45 (by decide) ?_
    refine lv_goto (tgt := 50) hx hb drf_Md_areOne_46 (by decide) ?_
    exact W.zret (ty := .boolean) (v := 1) hx hb hr rfl (fun t ht hW => ⟨⟨1, σ, rfl, ⟨Option.some.inj h, rfl⟩, by rw [ht]; exact hP, va_K.moved hW.alike hK⟩, hS.F ht⟩) hS.2.2 drf_Md_areOne_50
  · have h := ob_f c1 h
    refine lv_aload_n hx hb drf_Md_areOne_5 rfl (lv_at hl 0 rfl) ?_
    refine rfg_Md_25 hx hb hts hown hK hP drf_Md_areOne_6 ?_
    refine lv_iload_n hx hb drf_Md_areOne_9 rfl (lv_at hl 1 rfl) ?_
    obtain ⟨hi2, h⟩ := ob_i h
    refine rf_iald (i := 5) hx hb hK hP (by decide) rfl hi2 drf_Md_areOne_10 ?_
    refine lv_iconst (v := (-1)) hx hb drf_Md_areOne_11 (by decide) ?_
    refine lv_icmp_eq (tgt := 49) hx hb drf_Md_areOne_12 (by decide) (fun c3 => ?_) (fun c3 => ?_)
    · have h := ob_t c3 h
      refine lv_iconst (v := 0) hx hb drf_Md_areOne_49 (by decide) ?_
      exact W.zret (ty := .boolean) (v := 0) hx hb hr rfl (fun t ht hW => ⟨⟨0, σ, rfl, ⟨Option.some.inj h, rfl⟩, by rw [ht]; exact hP, va_K.moved hW.alike hK⟩, hS.F ht⟩) hS.2.2 drf_Md_areOne_50
    · have h := ob_f c3 h
      refine lv_aload_n hx hb drf_Md_areOne_15 rfl (lv_at hl 0 rfl) ?_
      refine rfg_Md_25 hx hb hts hown hK hP drf_Md_areOne_16 ?_
      refine lv_iload_n hx hb drf_Md_areOne_19 rfl (lv_at hl 1 rfl) ?_
      obtain ⟨hi4, h⟩ := ob_i h
      refine rf_iald (i := 5) hx hb hK hP (by decide) rfl hi4 drf_Md_areOne_20 ?_
      refine lv_aload_n hx hb drf_Md_areOne_21 rfl (lv_at hl 0 rfl) ?_
      refine rfg_Md_25 hx hb hts hown hK hP drf_Md_areOne_22 ?_
      refine lv_iload_n hx hb drf_Md_areOne_25 rfl (lv_at hl 2 rfl) ?_
      obtain ⟨hi5, h⟩ := ob_i h
      refine rf_iald (i := 5) hx hb hK hP (by decide) rfl hi5 drf_Md_areOne_26 ?_
      refine lv_icmp_ne (tgt := 49) hx hb drf_Md_areOne_27 (by decide) (fun c6 => ?_) (fun c6 => ?_)
      · have h := ob_f c6 h
        refine lv_iconst (v := 0) hx hb drf_Md_areOne_49 (by decide) ?_
        exact W.zret (ty := .boolean) (v := 0) hx hb hr rfl (fun t ht hW => ⟨⟨0, σ, rfl, ⟨Option.some.inj h, rfl⟩, by rw [ht]; exact hP, va_K.moved hW.alike hK⟩, hS.F ht⟩) hS.2.2 drf_Md_areOne_50
      · have h := ob_t c6 h
        refine lv_aload_n hx hb drf_Md_areOne_30 rfl (lv_at hl 0 rfl) ?_
        refine rfg_Md_7 hx hb hts hown hK hP drf_Md_areOne_31 ?_
        refine lv_iload_n hx hb drf_Md_areOne_34 rfl (lv_at hl 1 rfl) ?_
        obtain ⟨hi7, h⟩ := ob_i h
        refine rf_iald (i := 0) hx hb hK hP (by decide) rfl hi7 drf_Md_areOne_35 ?_
        refine lv_aload_n hx hb drf_Md_areOne_36 rfl (lv_at hl 0 rfl) ?_
        refine rfg_Md_7 hx hb hts hown hK hP drf_Md_areOne_37 ?_
        refine lv_iload_n hx hb drf_Md_areOne_40 rfl (lv_at hl 2 rfl) ?_
        obtain ⟨hi8, h⟩ := ob_i h
        refine rf_iald (i := 0) hx hb hK hP (by decide) rfl hi8 drf_Md_areOne_41 ?_
        refine lv_icmp_ne (tgt := 49) hx hb drf_Md_areOne_42 (by decide) (fun c9 => ?_) (fun c9 => ?_)
        · have h := ob_f c9 h
          refine lv_iconst (v := 0) hx hb drf_Md_areOne_49 (by decide) ?_
          exact W.zret (ty := .boolean) (v := 0) hx hb hr rfl (fun t ht hW => ⟨⟨0, σ, rfl, ⟨Option.some.inj h, rfl⟩, by rw [ht]; exact hP, va_K.moved hW.alike hK⟩, hS.F ht⟩) hS.2.2 drf_Md_areOne_50
        · have h := ob_t c9 h
          refine lv_iconst (v := 1) hx hb drf_Md_areOne_45 (by decide) ?_
          refine lv_goto (tgt := 50) hx hb drf_Md_areOne_46 (by decide) ?_
          exact W.zret (ty := .boolean) (v := 1) hx hb hr rfl (fun t ht hW => ⟨⟨1, σ, rfl, ⟨Option.some.inj h, rfl⟩, by rw [ht]; exact hP, va_K.moved hW.alike hK⟩, hS.F ht⟩) hS.2.2 drf_Md_areOne_50
set_option maxHeartbeats 4000000 in
set_option maxRecDepth 100000 in
theorem crf_Md_chiefOf (l : Launch) (D : va_G) (a : Nat → Nat) (k : Nat → ClassId) (hAd : rf_Ad a) (σ : ST) (x1 : Int32) (res : Int32) (h : rff_Md_chiefOf σ x1 = some res) : Met l rfy_Md_chiefOf rfs_Md_chiefOf rfr_Md_chiefOf (rf_Pc D a k σ [.ref (a 0), .int x1]) (va_Qi (fun (r : Int32) (u : ST) => r = res ∧ u = σ) (rf_B D a k) (rf_A a)) 0 0 (rf_A a) := by
  refine Met.ofW (cc := rfb_Md_chiefOf) (maxL := 3) (ret := (some .int)) (by decide) rfl ?_
  intro p e s m args below meth c s₁ B hml hv
  obtain ⟨rfl, hP, hK⟩ := hv
  have hx := B.exec
  have hb := B.bytes
  have hr := B.returns
  have hts : ∀ w ∈ ub_T, w.before _ s = true := fun w hw => atoms_spec (ws := rfs_Md_chiefOf) B.pre w (List.mem_cons_of_mem _ hw)
  have hown : s.vm.findClass rfR_Md = some m.cls := findClass_of_methodNamed B.named
  have hlocks := B.notSynchronized
  have hS : va_S (rf_A a) s.heap s.heap [] := va_S.rf
  have hl := lv_entry ([.ref (a 0), .int x1]) (n := 3) (Nat.le_of_ble_eq_true rfl)
  rw [lg_entry_eq]
  generalize (lg_sl ([.ref (a 0), .int x1]) ++ List.replicate (3 - (lg_sl ([.ref (a 0), .int x1])).length) Slot.unset).toArray = ls at hl ⊢
  have hl : lv_has ls 3 [(0, .ref (a 0)), (1, .int x1)] := hl
  have lp2 : ∀ (n : Nat) (y1 : Int32) (y2 : Int32) (H : Heap) (locs : List Loc) (ls : Array Slot), rfl_Md_chiefOf_2 σ n y1 y2 = some res → rf_P D a k σ H → va_S (rf_A a) s.heap H locs → lv_has ls 3 [(0, .ref (a 0)), (1, .int y1), (2, .int y2)] → W p l e (headSpec rfs_Md_chiefOf rfr_Md_chiefOf).room s m (([.ref (a 0), .int x1] : List Value)).toArray below meth c H locs 0 0 (MQ below (va_Qi (fun (r : Int32) (u : ST) => r = res ∧ u = σ) (rf_B D a k) (rf_A a)) (([.ref (a 0), .int x1] : List Value)).toArray s 0 0 (rf_A a)) (F0 m 2 ls []) := by
    intro n
    induction n with
    | zero =>
      intro y1 y2 H locs ls h
      exact absurd h (fun z => by cases z)
    | succ n ih =>
      intro y1 y2 H locs ls h hP hS hl
      rw [rfl_Md_chiefOf_2] at h
      refine lv_aload_n hx hb drf_Md_chiefOf_2 rfl (lv_at hl 0 rfl) ?_
      refine lv_iload_n hx hb drf_Md_chiefOf_3 rfl (lv_at hl 2 rfl) ?_
      refine lv_iload_n hx hb drf_Md_chiefOf_4 rfl (lv_at hl 1 rfl) ?_
      obtain ⟨q1, hq1, h⟩ := ob_b h
      refine rf_cv_ir (As := [.int y2, .int y1]) (rest := []) ⟨hx, hb, hml, hown, hts⟩ (crf_Md_areOne l D a k hAd σ y2 y1  q1 hq1) (rfc_Md_89 hts ⟨Nat.le_of_ble_eq_true rfl, Nat.le_of_ble_eq_true rfl⟩) (rf_rc0 hK hP) hK hP rfl hl.1 rfl (Nat.le_of_ble_eq_true rfl) drf_Md_chiefOf_5 hS (fun H locs hP hS => ?_)
      refine lv_if_ne (tgt := 17) hx hb drf_Md_chiefOf_8 (by decide) (fun c2 => ?_) (fun c2 => ?_)
      · have h := ob_f c2 h
        refine lv_iload_n hx hb drf_Md_chiefOf_17 rfl (lv_at hl 2 rfl) ?_
        exact W.iret (v := y2) hx hb hr (fun t ht hW => ⟨⟨y2, σ, rfl, ⟨Option.some.inj h, rfl⟩, by rw [ht]; exact hP, va_K.moved hW.alike hK⟩, hS.F ht⟩) hS.2.2 drf_Md_chiefOf_18
      · have h := ob_t c2 h
        refine lv_iinc (v := (y2 + 1)) (lv' := [(2, .int (y2 + 1)), (0, .ref (a 0)), (1, .int y1)]) hx hb drf_Md_chiefOf_11 hl (k := 2) rfl rfl (by decide) rfl (fun ls hl => ?_)
        refine lv_goto (tgt := 2) hx hb drf_Md_chiefOf_14 (by decide) ?_
        exact ih y1 (y2 + 1) _ _ _ h hP hS (lv_sub hl [1, 2, 0] rfl)
  rw [rff_Md_chiefOf] at h
  refine lv_iconst (v := 0) hx hb drf_Md_chiefOf_0 (by decide) ?_
  refine lv_istore_n (lv' := [(2, .int 0), (0, .ref (a 0)), (1, .int x1)]) hx hb drf_Md_chiefOf_1 rfl hl (by decide) rfl (fun ls hl => ?_)
  exact lp2 200 x1 0 _ _ _ h hP hS (lv_sub hl [1, 2, 0] rfl)
set_option maxHeartbeats 4000000 in
set_option maxRecDepth 100000 in
theorem crf_Md_chief (l : Launch) (D : va_G) (a : Nat → Nat) (k : Nat → ClassId) (hAd : rf_Ad a) (σ : ST) (x1 : Int32) (res : Int32 × ST) (h : rff_Md_chief σ x1 = some res) : Met l rfy_Md_chief rfs_Md_chief rfr_Md_chief (rf_Pc D a k σ [.ref (a 0), .int x1]) (va_Qi (fun (r : Int32) (u : ST) => r = res.1 ∧ u = res.2) (rf_B D a k) (rf_A a)) 0 0 (rf_A a) := by
  refine Met.ofW (cc := rfb_Md_chief) (maxL := 2) (ret := (some .int)) (by decide) rfl ?_
  intro p e s m args below meth c s₁ B hml hv
  obtain ⟨rfl, hP, hK⟩ := hv
  have hx := B.exec
  have hb := B.bytes
  have hr := B.returns
  have hts : ∀ w ∈ ub_T, w.before _ s = true := fun w hw => atoms_spec (ws := rfs_Md_chief) B.pre w (List.mem_cons_of_mem _ hw)
  have hown : s.vm.findClass rfR_Md = some m.cls := findClass_of_methodNamed B.named
  have hlocks := B.notSynchronized
  have hS : va_S (rf_A a) s.heap s.heap [] := va_S.rf
  have hl := lv_entry ([.ref (a 0), .int x1]) (n := 2) (Nat.le_of_ble_eq_true rfl)
  rw [lg_entry_eq]
  generalize (lg_sl ([.ref (a 0), .int x1]) ++ List.replicate (2 - (lg_sl ([.ref (a 0), .int x1])).length) Slot.unset).toArray = ls at hl ⊢
  have hl : lv_has ls 2 [(0, .ref (a 0)), (1, .int x1)] := hl
  rw [rff_Md_chief] at h
  refine lv_aload_n hx hb drf_Md_chief_0 rfl (lv_at hl 0 rfl) ?_
  refine lv_iconst (v := 0) hx hb drf_Md_chief_1 (by decide) ?_
  refine rfp_Md_68 hx hb hts hown hK hP hAd hS drf_Md_chief_2 (fun H locs hP hS => ?_)
  refine lv_aload_n hx hb drf_Md_chief_5 rfl (lv_at hl 0 rfl) ?_
  refine lv_iload_n hx hb drf_Md_chief_6 rfl (lv_at hl 1 rfl) ?_
  obtain ⟨q1, hq1, h⟩ := ob_b h
  refine rf_cv_ir (As := [.int x1]) (rest := []) ⟨hx, hb, hml, hown, hts⟩ (crf_Md_isName l D a k hAd (wr σ 18 1 0) x1  q1 hq1) (rfc_Md_74 hts ⟨Nat.le_of_ble_eq_true rfl, Nat.le_of_ble_eq_true rfl⟩) (rf_rc0 hK hP) hK hP rfl hl.1 rfl (Nat.le_of_ble_eq_true rfl) drf_Md_chief_7 hS (fun H locs hP hS => ?_)
  refine lv_if_eq (tgt := 21) hx hb drf_Md_chief_10 (by decide) (fun c2 => ?_) (fun c2 => ?_)
  · have h := ob_t c2 h
    refine lv_iconst (v := (-1)) hx hb drf_Md_chief_21 (by decide) ?_
    exact W.iret (v := (-1)) hx hb hr (fun t ht hW => ⟨⟨(-1), (wr σ 18 1 0), rfl, ob_r h, by rw [ht]; exact hP, va_K.moved hW.alike hK⟩, hS.F ht⟩) hS.2.2 drf_Md_chief_22
  · have h := ob_f c2 h
    refine lv_aload_n hx hb drf_Md_chief_13 rfl (lv_at hl 0 rfl) ?_
    refine lv_iload_n hx hb drf_Md_chief_14 rfl (lv_at hl 1 rfl) ?_
    obtain ⟨q3, hq3, h⟩ := ob_b h
    refine rf_cv_ir (As := [.int x1]) (rest := []) ⟨hx, hb, hml, hown, hts⟩ (crf_Md_chiefOf l D a k hAd (wr σ 18 1 0) x1  q3 hq3) (rfc_Md_92 hts ⟨Nat.le_of_ble_eq_true rfl, Nat.le_of_ble_eq_true rfl⟩) (rf_rc0 hK hP) hK hP rfl hl.1 rfl (Nat.le_of_ble_eq_true rfl) drf_Md_chief_15 hS (fun H locs hP hS => ?_)
    refine lv_goto (tgt := 22) hx hb drf_Md_chief_18 (by decide) ?_
    exact W.iret (v := q3) hx hb hr (fun t ht hW => ⟨⟨q3, (wr σ 18 1 0), rfl, ob_r h, by rw [ht]; exact hP, va_K.moved hW.alike hK⟩, hS.F ht⟩) hS.2.2 drf_Md_chief_22
set_option maxHeartbeats 4000000 in
set_option maxRecDepth 100000 in
theorem crf_Md_wanting (l : Launch) (D : va_G) (a : Nat → Nat) (k : Nat → ClassId) (hAd : rf_Ad a) (σ : ST) (res : Int32) (h : rff_Md_wanting σ  = some res) : Met l rfy_Md_wanting rfs_Md_wanting rfr_Md_wanting (rf_Pc D a k σ [.ref (a 0)]) (va_Qi (fun (r : Int32) (u : ST) => r = res ∧ u = σ) (rf_B D a k) (rf_A a)) 0 0 (rf_A a) := by
  refine Met.ofW (cc := rfb_Md_wanting) (maxL := 3) (ret := (some .int)) (by decide) rfl ?_
  intro p e s m args below meth c s₁ B hml hv
  obtain ⟨rfl, hP, hK⟩ := hv
  have hx := B.exec
  have hb := B.bytes
  have hr := B.returns
  have hts : ∀ w ∈ ub_T, w.before _ s = true := fun w hw => atoms_spec (ws := rfs_Md_wanting) B.pre w (List.mem_cons_of_mem _ hw)
  have hown : s.vm.findClass rfR_Md = some m.cls := findClass_of_methodNamed B.named
  have hlocks := B.notSynchronized
  have hS : va_S (rf_A a) s.heap s.heap [] := va_S.rf
  have hl := lv_entry ([.ref (a 0)]) (n := 3) (Nat.le_of_ble_eq_true rfl)
  rw [lg_entry_eq]
  generalize (lg_sl ([.ref (a 0)]) ++ List.replicate (3 - (lg_sl ([.ref (a 0)])).length) Slot.unset).toArray = ls at hl ⊢
  have hl : lv_has ls 3 [(0, .ref (a 0))] := hl
  have lp2 : ∀ (n : Nat) (y1 : Int32) (H : Heap) (locs : List Loc) (ls : Array Slot), rfl_Md_wanting_2 σ n y1 = some res → rf_P D a k σ H → va_S (rf_A a) s.heap H locs → lv_has ls 3 [(0, .ref (a 0)), (1, .int y1)] → W p l e (headSpec rfs_Md_wanting rfr_Md_wanting).room s m (([.ref (a 0)] : List Value)).toArray below meth c H locs 0 0 (MQ below (va_Qi (fun (r : Int32) (u : ST) => r = res ∧ u = σ) (rf_B D a k) (rf_A a)) (([.ref (a 0)] : List Value)).toArray s 0 0 (rf_A a)) (F0 m 2 ls []) := by
    intro n
    induction n with
    | zero =>
      intro y1 H locs ls h
      exact absurd h (fun z => by cases z)
    | succ n ih =>
      intro y1 H locs ls h hP hS hl
      rw [rfl_Md_wanting_2] at h
      refine lv_iload_n hx hb drf_Md_wanting_2 rfl (lv_at hl 1 rfl) ?_
      refine lv_aload_n hx hb drf_Md_wanting_3 rfl (lv_at hl 0 rfl) ?_
      refine rfg_Md_71 hx hb hts hown hK hP drf_Md_wanting_4 ?_
      refine lv_icmp_ge (tgt := 75) hx hb drf_Md_wanting_7 (by decide) (fun c1 => ?_) (fun c1 => ?_)
      · have h := ob_t c1 h
        refine lv_iconst (v := (-1)) hx hb drf_Md_wanting_75 (by decide) ?_
        exact W.iret (v := (-1)) hx hb hr (fun t ht hW => ⟨⟨(-1), σ, rfl, ⟨Option.some.inj h, rfl⟩, by rw [ht]; exact hP, va_K.moved hW.alike hK⟩, hS.F ht⟩) hS.2.2 drf_Md_wanting_76
      · have h := ob_f c1 h
        refine lv_bipush (v := 8) hx hb drf_Md_wanting_10 (by decide) ?_
        refine lv_iload_n hx hb drf_Md_wanting_12 rfl (lv_at hl 1 rfl) ?_
        refine lv_imul hx hb drf_Md_wanting_13 ?_
        refine lv_aload_n hx hb drf_Md_wanting_14 rfl (lv_at hl 0 rfl) ?_
        refine rfg_Md_43 hx hb hts hown hK hP drf_Md_wanting_15 ?_
        refine lv_iload_n hx hb drf_Md_wanting_18 rfl (lv_at hl 1 rfl) ?_
        obtain ⟨hi2, h⟩ := ob_i h
        refine rf_iald (i := 11) hx hb hK hP (by decide) rfl hi2 drf_Md_wanting_19 ?_
        refine lv_iadd hx hb drf_Md_wanting_20 ?_
        refine lv_istore_n (lv' := [(2, .int ((8 * y1) + (σ 11 y1.toNatClampNeg))), (0, .ref (a 0)), (1, .int y1)]) hx hb drf_Md_wanting_21 rfl hl (by decide) rfl (fun ls hl => ?_)
        refine lv_aload_n hx hb drf_Md_wanting_22 rfl (lv_at hl 1 rfl) ?_
        refine rfg_Md_43 hx hb hts hown hK hP drf_Md_wanting_23 ?_
        refine lv_iload_n hx hb drf_Md_wanting_26 rfl (lv_at hl 2 rfl) ?_
        obtain ⟨hi3, h⟩ := ob_i h
        refine rf_iald (i := 11) hx hb hK hP (by decide) rfl hi3 drf_Md_wanting_27 ?_
        refine lv_aload_n hx hb drf_Md_wanting_28 rfl (lv_at hl 1 rfl) ?_
        refine rfg_Md_16 hx hb hts hown hK hP drf_Md_wanting_29 ?_
        refine lv_iload_n hx hb drf_Md_wanting_32 rfl (lv_at hl 2 rfl) ?_
        obtain ⟨hi4, h⟩ := ob_i h
        refine rf_iald (i := 2) hx hb hK hP (by decide) rfl hi4 drf_Md_wanting_33 ?_
        refine lv_icmp_le (tgt := 69) hx hb drf_Md_wanting_34 (by decide) (fun c5 => ?_) (fun c5 => ?_)
        · have h := ob_t c5 h
          refine lv_iinc (v := (y1 + 1)) (lv' := [(1, .int (y1 + 1)), (2, .int ((8 * y1) + (σ 11 y1.toNatClampNeg))), (0, .ref (a 0))]) hx hb drf_Md_wanting_69 hl (k := 2) rfl rfl (by decide) rfl (fun ls hl => ?_)
          refine lv_goto (tgt := 2) hx hb drf_Md_wanting_72 (by decide) ?_
          exact ih (y1 + 1) _ _ _ h hP hS (lv_sub hl [2, 0] rfl)
        · have h := ob_f c5 h
          refine lv_aload_n hx hb drf_Md_wanting_37 rfl (lv_at hl 1 rfl) ?_
          refine rfg_Md_37 hx hb hts hown hK hP drf_Md_wanting_38 ?_
          refine lv_iload_n hx hb drf_Md_wanting_41 rfl (lv_at hl 0 rfl) ?_
          obtain ⟨hi6, h⟩ := ob_i h
          refine rf_iald (i := 9) hx hb hK hP (by decide) rfl hi6 drf_Md_wanting_42 ?_
          refine lv_iconst (v := (-1)) hx hb drf_Md_wanting_43 (by decide) ?_
          refine lv_icmp_eq (tgt := 69) hx hb drf_Md_wanting_44 (by decide) (fun c7 => ?_) (fun c7 => ?_)
          · have h := ob_t c7 h
            refine lv_iinc (v := (y1 + 1)) (lv' := [(1, .int (y1 + 1)), (2, .int ((8 * y1) + (σ 11 y1.toNatClampNeg))), (0, .ref (a 0))]) hx hb drf_Md_wanting_69 hl (k := 2) rfl rfl (by decide) rfl (fun ls hl => ?_)
            refine lv_goto (tgt := 2) hx hb drf_Md_wanting_72 (by decide) ?_
            exact ih (y1 + 1) _ _ _ h hP hS (lv_sub hl [2, 0] rfl)
          · have h := ob_f c7 h
            refine lv_aload_n hx hb drf_Md_wanting_47 rfl (lv_at hl 1 rfl) ?_
            refine rfg_Md_40 hx hb hts hown hK hP drf_Md_wanting_48 ?_
            refine lv_iload_n hx hb drf_Md_wanting_51 rfl (lv_at hl 0 rfl) ?_
            obtain ⟨hi8, h⟩ := ob_i h
            refine rf_iald (i := 10) hx hb hK hP (by decide) rfl hi8 drf_Md_wanting_52 ?_
            refine lv_aload_n hx hb drf_Md_wanting_53 rfl (lv_at hl 1 rfl) ?_
            refine rfg_Md_43 hx hb hts hown hK hP drf_Md_wanting_54 ?_
            refine lv_aload_n hx hb drf_Md_wanting_57 rfl (lv_at hl 1 rfl) ?_
            refine rfg_Md_37 hx hb hts hown hK hP drf_Md_wanting_58 ?_
            refine lv_iload_n hx hb drf_Md_wanting_61 rfl (lv_at hl 0 rfl) ?_
            obtain ⟨hi9, h⟩ := ob_i h
            refine rf_iald (i := 9) hx hb hK hP (by decide) rfl hi9 drf_Md_wanting_62 ?_
            obtain ⟨hi10, h⟩ := ob_i h
            refine rf_iald (i := 11) hx hb hK hP (by decide) rfl hi10 drf_Md_wanting_63 ?_
            refine lv_icmp_le (tgt := 69) hx hb drf_Md_wanting_64 (by decide) (fun c11 => ?_) (fun c11 => ?_)
            · have h := ob_t c11 h
              refine lv_iinc (v := (y1 + 1)) (lv' := [(1, .int (y1 + 1)), (2, .int ((8 * y1) + (σ 11 y1.toNatClampNeg))), (0, .ref (a 0))]) hx hb drf_Md_wanting_69 hl (k := 2) rfl rfl (by decide) rfl (fun ls hl => ?_)
              refine lv_goto (tgt := 2) hx hb drf_Md_wanting_72 (by decide) ?_
              exact ih (y1 + 1) _ _ _ h hP hS (lv_sub hl [2, 0] rfl)
            · have h := ob_f c11 h
              refine lv_iload_n hx hb drf_Md_wanting_67 rfl (lv_at hl 2 rfl) ?_
              exact W.iret (v := y1) hx hb hr (fun t ht hW => ⟨⟨y1, σ, rfl, ⟨Option.some.inj h, rfl⟩, by rw [ht]; exact hP, va_K.moved hW.alike hK⟩, hS.F ht⟩) hS.2.2 drf_Md_wanting_68
  rw [rff_Md_wanting] at h
  refine lv_iconst (v := 0) hx hb drf_Md_wanting_0 (by decide) ?_
  refine lv_istore_n (lv' := [(1, .int 0), (0, .ref (a 0))]) hx hb drf_Md_wanting_1 rfl hl (by decide) rfl (fun ls hl => ?_)
  exact lp2 200 0 _ _ _ h hP hS (lv_sub hl [1, 0] rfl)
set_option maxHeartbeats 4000000 in
set_option maxRecDepth 100000 in
theorem crf_Md_find (l : Launch) (D : va_G) (a : Nat → Nat) (k : Nat → ClassId) (hAd : rf_Ad a) (σ : ST) (x1 : Int32) (res : Int32 × ST) (h : rff_Md_find σ x1 = some res) : Met l rfy_Md_find rfs_Md_find rfr_Md_find (rf_Pc D a k σ [.ref (a 0), .int x1]) (va_Qi (fun (r : Int32) (u : ST) => r = res.1 ∧ u = res.2) (rf_B D a k) (rf_A a)) 0 0 (rf_A a) := by
  refine Met.ofW (cc := rfb_Md_find) (maxL := 4) (ret := (some .int)) (by decide) rfl ?_
  intro p e s m args below meth c s₁ B hml hv
  obtain ⟨rfl, hP, hK⟩ := hv
  have hx := B.exec
  have hb := B.bytes
  have hr := B.returns
  have hts : ∀ w ∈ ub_T, w.before _ s = true := fun w hw => atoms_spec (ws := rfs_Md_find) B.pre w (List.mem_cons_of_mem _ hw)
  have hown : s.vm.findClass rfR_Md = some m.cls := findClass_of_methodNamed B.named
  have hlocks := B.notSynchronized
  have hS : va_S (rf_A a) s.heap s.heap [] := va_S.rf
  have hl := lv_entry ([.ref (a 0), .int x1]) (n := 4) (Nat.le_of_ble_eq_true rfl)
  rw [lg_entry_eq]
  generalize (lg_sl ([.ref (a 0), .int x1]) ++ List.replicate (4 - (lg_sl ([.ref (a 0), .int x1])).length) Slot.unset).toArray = ls at hl ⊢
  have hl : lv_has ls 4 [(0, .ref (a 0)), (1, .int x1)] := hl
  have lp127 : ∀ (n : Nat) (σ : ST) (y1 : Int32) (y2 : Int32) (y3 : Int32) (H : Heap) (locs : List Loc) (ls : Array Slot), rfl_Md_find_127 n σ y1 y2 y3 = some res → rf_P D a k σ H → va_S (rf_A a) s.heap H locs → lv_has ls 4 [(0, .ref (a 0)), (1, .int y1), (2, .int y2), (3, .int y3)] → W p l e (headSpec rfs_Md_find rfr_Md_find).room s m (([.ref (a 0), .int x1] : List Value)).toArray below meth c H locs 0 0 (MQ below (va_Qi (fun (r : Int32) (u : ST) => r = res.1 ∧ u = res.2) (rf_B D a k) (rf_A a)) (([.ref (a 0), .int x1] : List Value)).toArray s 0 0 (rf_A a)) (F0 m 127 ls []) := by
    intro n
    induction n with
    | zero =>
      intro σ y1 y2 y3 H locs ls h
      exact absurd h (fun z => by cases z)
    | succ n ih =>
      intro σ y1 y2 y3 H locs ls h hP hS hl
      rw [rfl_Md_find_127] at h
      refine lv_iload_n hx hb drf_Md_find_127 rfl (lv_at hl 3 rfl) ?_
      refine lv_aload_n hx hb drf_Md_find_128 rfl (lv_at hl 0 rfl) ?_
      refine rfg_Md_71 hx hb hts hown hK hP drf_Md_find_129 ?_
      refine lv_icmp_ge (tgt := 164) hx hb drf_Md_find_132 (by decide) (fun c4 => ?_) (fun c4 => ?_)
      · have h := ob_t c4 h
        refine lv_iload_n hx hb drf_Md_find_164 rfl (lv_at hl 2 rfl) ?_
        exact W.iret (v := y2) hx hb hr (fun t ht hW => ⟨⟨y2, σ, rfl, ob_r h, by rw [ht]; exact hP, va_K.moved hW.alike hK⟩, hS.F ht⟩) hS.2.2 drf_Md_find_165
      · have h := ob_f c4 h
        refine lv_iload_n hx hb drf_Md_find_135 rfl (lv_at hl 2 rfl) ?_
        refine lv_aload_n hx hb drf_Md_find_136 rfl (lv_at hl 0 rfl) ?_
        refine rfg_Md_43 hx hb hts hown hK hP drf_Md_find_137 ?_
        refine lv_iload_n hx hb drf_Md_find_140 rfl (lv_at hl 3 rfl) ?_
        obtain ⟨hi5, h⟩ := ob_i h
        refine rf_iald (i := 11) hx hb hK hP (by decide) rfl hi5 drf_Md_find_141 ?_
        refine lv_aload_n hx hb drf_Md_find_142 rfl (lv_at hl 0 rfl) ?_
        refine rfg_Md_16 hx hb hts hown hK hP drf_Md_find_143 ?_
        refine lv_iload_n hx hb drf_Md_find_146 rfl (lv_at hl 3 rfl) ?_
        obtain ⟨hi6, h⟩ := ob_i h
        refine rf_iald (i := 2) hx hb hK hP (by decide) rfl hi6 drf_Md_find_147 ?_
        refine lv_icmp_le (tgt := 155) hx hb drf_Md_find_148 (by decide) (fun c7 => ?_) (fun c7 => ?_)
        · have h := ob_t c7 h
          refine lv_iconst (v := 0) hx hb drf_Md_find_155 (by decide) ?_
          refine lv_iadd hx hb drf_Md_find_156 ?_
          refine lv_istore_n (lv' := [(2, .int (y2 + 0)), (0, .ref (a 0)), (1, .int y1), (3, .int y3)]) hx hb drf_Md_find_157 rfl hl (by decide) rfl (fun ls hl => ?_)
          refine lv_iinc (v := (y3 + 1)) (lv' := [(3, .int (y3 + 1)), (2, .int (y2 + 0)), (0, .ref (a 0)), (1, .int y1)]) hx hb drf_Md_find_158 hl (k := 3) rfl rfl (by decide) rfl (fun ls hl => ?_)
          refine lv_goto (tgt := 127) hx hb drf_Md_find_161 (by decide) ?_
          exact ih σ y1 (y2 + 0) (y3 + 1) _ _ _ h hP hS (lv_sub hl [2, 3, 1, 0] rfl)
        · have h := ob_f c7 h
          refine lv_iconst (v := 1) hx hb drf_Md_find_151 (by decide) ?_
          refine lv_goto (tgt := 156) hx hb drf_Md_find_152 (by decide) ?_
          refine lv_iadd hx hb drf_Md_find_156 ?_
          refine lv_istore_n (lv' := [(2, .int (y2 + 1)), (0, .ref (a 0)), (1, .int y1), (3, .int y3)]) hx hb drf_Md_find_157 rfl hl (by decide) rfl (fun ls hl => ?_)
          refine lv_iinc (v := (y3 + 1)) (lv' := [(3, .int (y3 + 1)), (2, .int (y2 + 1)), (0, .ref (a 0)), (1, .int y1)]) hx hb drf_Md_find_158 hl (k := 3) rfl rfl (by decide) rfl (fun ls hl => ?_)
          refine lv_goto (tgt := 127) hx hb drf_Md_find_161 (by decide) ?_
          exact ih σ y1 (y2 + 1) (y3 + 1) _ _ _ h hP hS (lv_sub hl [2, 3, 1, 0] rfl)
  have lp50 : ∀ (n : Nat) (σ : ST) (y1 : Int32) (y2 : Int32) (H : Heap) (locs : List Loc) (ls : Array Slot), rfl_Md_find_50 n σ y1 y2 = some res → rf_P D a k σ H → va_S (rf_A a) s.heap H locs → lv_has ls 4 [(0, .ref (a 0)), (1, .int y1), (2, .int y2)] → W p l e (headSpec rfs_Md_find rfr_Md_find).room s m (([.ref (a 0), .int x1] : List Value)).toArray below meth c H locs 0 0 (MQ below (va_Qi (fun (r : Int32) (u : ST) => r = res.1 ∧ u = res.2) (rf_B D a k) (rf_A a)) (([.ref (a 0), .int x1] : List Value)).toArray s 0 0 (rf_A a)) (F0 m 50 ls []) := by
    intro n
    induction n with
    | zero =>
      intro σ y1 y2 H locs ls h
      exact absurd h (fun z => by cases z)
    | succ n ih =>
      intro σ y1 y2 H locs ls h hP hS hl
      rw [rfl_Md_find_50] at h
      refine lv_iload_n hx hb drf_Md_find_50 rfl (lv_at hl 2 rfl) ?_
      refine lv_iconst (v := (-1)) hx hb drf_Md_find_51 (by decide) ?_
      refine lv_icmp_eq (tgt := 123) hx hb drf_Md_find_52 (by decide) (fun c3 => ?_) (fun c3 => ?_)
      · have h := ob_t c3 h
        refine lv_iconst (v := 0) hx hb drf_Md_find_123 (by decide) ?_
        refine lv_istore_n (lv' := [(2, .int 0), (0, .ref (a 0)), (1, .int y1)]) hx hb drf_Md_find_124 rfl hl (by decide) rfl (fun ls hl => ?_)
        refine lv_iconst (v := 0) hx hb drf_Md_find_125 (by decide) ?_
        refine lv_istore_n (lv' := [(3, .int 0), (2, .int 0), (0, .ref (a 0)), (1, .int y1)]) hx hb drf_Md_find_126 rfl hl (by decide) rfl (fun ls hl => ?_)
        exact lp127 200 σ y1 0 0 _ _ _ h hP hS (lv_sub hl [2, 3, 1, 0] rfl)
      · have h := ob_f c3 h
        refine lv_bipush (v := 8) hx hb drf_Md_find_55 (by decide) ?_
        refine lv_iload_n hx hb drf_Md_find_57 rfl (lv_at hl 2 rfl) ?_
        refine lv_imul hx hb drf_Md_find_58 ?_
        refine lv_aload_n hx hb drf_Md_find_59 rfl (lv_at hl 0 rfl) ?_
        refine rfg_Md_43 hx hb hts hown hK hP drf_Md_find_60 ?_
        refine lv_iload_n hx hb drf_Md_find_63 rfl (lv_at hl 2 rfl) ?_
        obtain ⟨hi8, h⟩ := ob_i h
        refine rf_iald (i := 11) hx hb hK hP (by decide) rfl hi8 drf_Md_find_64 ?_
        refine lv_iadd hx hb drf_Md_find_65 ?_
        refine lv_istore_n (lv' := [(3, .int ((8 * y2) + (σ 11 y2.toNatClampNeg))), (0, .ref (a 0)), (1, .int y1), (2, .int y2)]) hx hb drf_Md_find_66 rfl hl (by decide) rfl (fun ls hl => ?_)
        refine lv_aload_n hx hb drf_Md_find_67 rfl (lv_at hl 1 rfl) ?_
        refine lv_aload_n hx hb drf_Md_find_68 rfl (lv_at hl 1 rfl) ?_
        refine rfg_Md_37 hx hb hts hown hK hP drf_Md_find_69 ?_
        refine lv_iload_n hx hb drf_Md_find_72 rfl (lv_at hl 0 rfl) ?_
        obtain ⟨hi9, h⟩ := ob_i h
        refine rf_iald (i := 9) hx hb hK hP (by decide) rfl hi9 drf_Md_find_73 ?_
        refine lv_aload_n hx hb drf_Md_find_74 rfl (lv_at hl 1 rfl) ?_
        refine rfg_Md_40 hx hb hts hown hK hP drf_Md_find_75 ?_
        refine lv_iload_n hx hb drf_Md_find_78 rfl (lv_at hl 0 rfl) ?_
        obtain ⟨hi10, h⟩ := ob_i h
        refine rf_iald (i := 10) hx hb hK hP (by decide) rfl hi10 drf_Md_find_79 ?_
        obtain ⟨q11, hq11, h⟩ := ob_b h
        refine rf_cv_ir (As := [.int (σ 9 ((8 * y2) + (σ 11 y2.toNatClampNeg)).toNatClampNeg), .int (σ 10 ((8 * y2) + (σ 11 y2.toNatClampNeg)).toNatClampNeg)]) (rest := []) ⟨hx, hb, hml, hown, hts⟩ (crf_Md_isAllowed l D a k hAd σ (σ 9 ((8 * y2) + (σ 11 y2.toNatClampNeg)).toNatClampNeg) (σ 10 ((8 * y2) + (σ 11 y2.toNatClampNeg)).toNatClampNeg)  q11 hq11) (rfc_Md_78 hts ⟨Nat.le_of_ble_eq_true rfl, Nat.le_of_ble_eq_true rfl⟩) (rf_rc0 hK hP) hK hP rfl hl.1 rfl (Nat.le_of_ble_eq_true rfl) drf_Md_find_80 hS (fun H locs hP hS => ?_)
        refine lv_if_ne (tgt := 98) hx hb drf_Md_find_83 (by decide) (fun c12 => ?_) (fun c12 => ?_)
        · have h := ob_f c12 h
          refine lv_aload_n hx hb drf_Md_find_98 rfl (lv_at hl 1 rfl) ?_
          refine rfg_Md_43 hx hb hts hown hK hP drf_Md_find_99 ?_
          refine lv_aload_n hx hb drf_Md_find_102 rfl (lv_at hl 1 rfl) ?_
          refine rfg_Md_37 hx hb hts hown hK hP drf_Md_find_103 ?_
          refine lv_iload_n hx hb drf_Md_find_106 rfl (lv_at hl 0 rfl) ?_
          obtain ⟨hi13, h⟩ := ob_i h
          refine rf_iald (i := 9) hx hb hK hP (by decide) rfl hi13 drf_Md_find_107 ?_
          refine lv_aload_n hx hb drf_Md_find_108 rfl (lv_at hl 1 rfl) ?_
          refine rfg_Md_40 hx hb hts hown hK hP drf_Md_find_109 ?_
          refine lv_iload_n hx hb drf_Md_find_112 rfl (lv_at hl 0 rfl) ?_
          obtain ⟨hi14, h⟩ := ob_i h
          refine rf_iald (i := 10) hx hb hK hP (by decide) rfl hi14 drf_Md_find_113 ?_
          obtain ⟨hi15, h⟩ := ob_i h
          refine rf_iast (i := 11) hx hb hK hP hAd hS (by decide) rfl hi15 drf_Md_find_114 (fun H locs hP hS => ?_)
          refine lv_aload_n hx hb drf_Md_find_115 rfl (lv_at hl 1 rfl) ?_
          obtain ⟨q16, hq16, h⟩ := ob_b h
          refine rf_cv_ir (As := []) (rest := []) ⟨hx, hb, hml, hown, hts⟩ (crf_Md_wanting l D a k hAd (wr σ 11 (σ 9 ((8 * y2) + (σ 11 y2.toNatClampNeg)).toNatClampNeg).toNatClampNeg (σ 10 ((8 * y2) + (σ 11 y2.toNatClampNeg)).toNatClampNeg))   q16 hq16) (rfc_Md_95 hts ⟨Nat.le_of_ble_eq_true rfl, Nat.le_of_ble_eq_true rfl⟩) (rf_rc0 hK hP) hK hP rfl hl.1 rfl (Nat.le_of_ble_eq_true rfl) drf_Md_find_116 hS (fun H locs hP hS => ?_)
          refine lv_istore_n (lv' := [(2, .int q16), (3, .int ((8 * y2) + (σ 11 y2.toNatClampNeg))), (0, .ref (a 0)), (1, .int y1)]) hx hb drf_Md_find_119 rfl hl (by decide) rfl (fun ls hl => ?_)
          refine lv_goto (tgt := 50) hx hb drf_Md_find_120 (by decide) ?_
          exact ih (wr σ 11 (σ 9 ((8 * y2) + (σ 11 y2.toNatClampNeg)).toNatClampNeg).toNatClampNeg (σ 10 ((8 * y2) + (σ 11 y2.toNatClampNeg)).toNatClampNeg)) y1 q16 _ _ _ h hP hS (lv_sub hl [2, 3, 0] rfl)
        · have h := ob_t c12 h
          refine lv_aload_n hx hb drf_Md_find_86 rfl (lv_at hl 1 rfl) ?_
          refine lv_aload_n hx hb drf_Md_find_87 rfl (lv_at hl 1 rfl) ?_
          refine rfg_Md_37 hx hb hts hown hK hP drf_Md_find_88 ?_
          refine lv_iload_n hx hb drf_Md_find_91 rfl (lv_at hl 0 rfl) ?_
          obtain ⟨hi17, h⟩ := ob_i h
          refine rf_iald (i := 9) hx hb hK hP (by decide) rfl hi17 drf_Md_find_92 ?_
          refine rfp_Md_99 hx hb hts hown hK hP hAd hS drf_Md_find_93 (fun H locs hP hS => ?_)
          refine lv_iconst (v := (-1)) hx hb drf_Md_find_96 (by decide) ?_
          exact W.iret (v := (-1)) hx hb hr (fun t ht hW => ⟨⟨(-1), (wr σ 18 6 (σ 9 ((8 * y2) + (σ 11 y2.toNatClampNeg)).toNatClampNeg)), rfl, ob_r h, by rw [ht]; exact hP, va_K.moved hW.alike hK⟩, hS.F ht⟩) hS.2.2 drf_Md_find_97
  have lp2 : ∀ (n : Nat) (σ : ST) (y1 : Int32) (y2 : Int32) (H : Heap) (locs : List Loc) (ls : Array Slot), rfl_Md_find_2 n σ y1 y2 = some res → rf_P D a k σ H → va_S (rf_A a) s.heap H locs → lv_has ls 4 [(0, .ref (a 0)), (1, .int y1), (2, .int y2)] → W p l e (headSpec rfs_Md_find rfr_Md_find).room s m (([.ref (a 0), .int x1] : List Value)).toArray below meth c H locs 0 0 (MQ below (va_Qi (fun (r : Int32) (u : ST) => r = res.1 ∧ u = res.2) (rf_B D a k) (rf_A a)) (([.ref (a 0), .int x1] : List Value)).toArray s 0 0 (rf_A a)) (F0 m 2 ls []) := by
    intro n
    induction n with
    | zero =>
      intro σ y1 y2 H locs ls h
      exact absurd h (fun z => by cases z)
    | succ n ih =>
      intro σ y1 y2 H locs ls h hP hS hl
      rw [rfl_Md_find_2] at h
      refine lv_iload_n hx hb drf_Md_find_2 rfl (lv_at hl 2 rfl) ?_
      refine lv_aload_n hx hb drf_Md_find_3 rfl (lv_at hl 0 rfl) ?_
      refine rfg_Md_71 hx hb hts hown hK hP drf_Md_find_4 ?_
      refine lv_icmp_ge (tgt := 45) hx hb drf_Md_find_7 (by decide) (fun c1 => ?_) (fun c1 => ?_)
      · have h := ob_t c1 h
        refine lv_aload_n hx hb drf_Md_find_45 rfl (lv_at hl 0 rfl) ?_
        obtain ⟨q2, hq2, h⟩ := ob_b h
        refine rf_cv_ir (As := []) (rest := []) ⟨hx, hb, hml, hown, hts⟩ (crf_Md_wanting l D a k hAd σ   q2 hq2) (rfc_Md_95 hts ⟨Nat.le_of_ble_eq_true rfl, Nat.le_of_ble_eq_true rfl⟩) (rf_rc0 hK hP) hK hP rfl hl.1 rfl (Nat.le_of_ble_eq_true rfl) drf_Md_find_46 hS (fun H locs hP hS => ?_)
        refine lv_istore_n (lv' := [(2, .int q2), (0, .ref (a 0)), (1, .int y1)]) hx hb drf_Md_find_49 rfl hl (by decide) rfl (fun ls hl => ?_)
        exact lp50 200 σ y1 q2 _ _ _ h hP hS (lv_sub hl [1, 2, 0] rfl)
      · have h := ob_f c1 h
        refine lv_aload_n hx hb drf_Md_find_10 rfl (lv_at hl 0 rfl) ?_
        refine rfg_Md_43 hx hb hts hown hK hP drf_Md_find_11 ?_
        refine lv_iload_n hx hb drf_Md_find_14 rfl (lv_at hl 2 rfl) ?_
        refine lv_aload_n hx hb drf_Md_find_15 rfl (lv_at hl 0 rfl) ?_
        refine lv_iload_n hx hb drf_Md_find_16 rfl (lv_at hl 2 rfl) ?_
        refine lv_iload_n hx hb drf_Md_find_17 rfl (lv_at hl 1 rfl) ?_
        obtain ⟨q18, hq18, h⟩ := ob_b h
        refine rf_cv_ir (As := [.int y2, .int y1]) (rest := [.int y2, .ref (a (11 + 1))]) ⟨hx, hb, hml, hown, hts⟩ (crf_Md_areOne l D a k hAd σ y2 y1  q18 hq18) (rfc_Md_89 hts ⟨Nat.le_of_ble_eq_true rfl, Nat.le_of_ble_eq_true rfl⟩) (rf_rc0 hK hP) hK hP rfl hl.1 rfl (Nat.le_of_ble_eq_true rfl) drf_Md_find_18 hS (fun H locs hP hS => ?_)
        refine lv_if_eq (tgt := 32) hx hb drf_Md_find_21 (by decide) (fun c19 => ?_) (fun c19 => ?_)
        · have h := ob_t c19 h
          refine lv_aload_n hx hb drf_Md_find_32 rfl (lv_at hl 0 rfl) ?_
          refine rfg_Md_16 hx hb hts hown hK hP drf_Md_find_33 ?_
          refine lv_iload_n hx hb drf_Md_find_36 rfl (lv_at hl 2 rfl) ?_
          obtain ⟨hi20, h⟩ := ob_i h
          refine rf_iald (i := 2) hx hb hK hP (by decide) rfl hi20 drf_Md_find_37 ?_
          obtain ⟨hi21, h⟩ := ob_i h
          refine rf_iast (i := 11) hx hb hK hP hAd hS (by decide) rfl hi21 drf_Md_find_38 (fun H locs hP hS => ?_)
          refine lv_iinc (v := (y2 + 1)) (lv' := [(2, .int (y2 + 1)), (0, .ref (a 0)), (1, .int y1)]) hx hb drf_Md_find_39 hl (k := 2) rfl rfl (by decide) rfl (fun ls hl => ?_)
          refine lv_goto (tgt := 2) hx hb drf_Md_find_42 (by decide) ?_
          exact ih (wr σ 11 y2.toNatClampNeg (σ 2 y2.toNatClampNeg)) y1 (y2 + 1) _ _ _ h hP hS (lv_sub hl [1, 2, 0] rfl)
        · have h := ob_f c19 h
          refine lv_aload_n hx hb drf_Md_find_24 rfl (lv_at hl 0 rfl) ?_
          refine lv_iload_n hx hb drf_Md_find_25 rfl (lv_at hl 2 rfl) ?_
          obtain ⟨q22, hq22, h⟩ := ob_b h
          refine rf_cv_ir (As := [.int y2]) (rest := [.int y2, .ref (a (11 + 1))]) ⟨hx, hb, hml, hown, hts⟩ (crf_Md_goalOf l D a k hAd σ y2  q22 hq22) (rfc_Md_85 hts ⟨Nat.le_of_ble_eq_true rfl, Nat.le_of_ble_eq_true rfl⟩) (rf_rc0 hK hP) hK hP rfl hl.1 rfl (Nat.le_of_ble_eq_true rfl) drf_Md_find_26 hS (fun H locs hP hS => ?_)
          refine lv_goto (tgt := 38) hx hb drf_Md_find_29 (by decide) ?_
          obtain ⟨hi23, h⟩ := ob_i h
          refine rf_iast (i := 11) hx hb hK hP hAd hS (by decide) rfl hi23 drf_Md_find_38 (fun H locs hP hS => ?_)
          refine lv_iinc (v := (y2 + 1)) (lv' := [(2, .int (y2 + 1)), (0, .ref (a 0)), (1, .int y1)]) hx hb drf_Md_find_39 hl (k := 2) rfl rfl (by decide) rfl (fun ls hl => ?_)
          refine lv_goto (tgt := 2) hx hb drf_Md_find_42 (by decide) ?_
          exact ih (wr σ 11 y2.toNatClampNeg q22) y1 (y2 + 1) _ _ _ h hP hS (lv_sub hl [1, 2, 0] rfl)
  rw [rff_Md_find] at h
  refine lv_iconst (v := 0) hx hb drf_Md_find_0 (by decide) ?_
  refine lv_istore_n (lv' := [(2, .int 0), (0, .ref (a 0)), (1, .int x1)]) hx hb drf_Md_find_1 rfl hl (by decide) rfl (fun ls hl => ?_)
  exact lp2 200 σ x1 0 _ _ _ h hP hS (lv_sub hl [1, 2, 0] rfl)
set_option maxHeartbeats 4000000 in
set_option maxRecDepth 100000 in
theorem crf_Md_solve (l : Launch) (D : va_G) (a : Nat → Nat) (k : Nat → ClassId) (hAd : rf_Ad a) (σ : ST) (x1 : Int32) (res : Int32 × ST) (h : rff_Md_solve σ x1 = some res) : Met l rfy_Md_solve rfs_Md_solve rfr_Md_solve (rf_Pc D a k σ [.ref (a 0), .int x1]) (va_Qi (fun (r : Int32) (u : ST) => r = res.1 ∧ u = res.2) (rf_B D a k) (rf_A a)) 0 0 (rf_A a) := by
  refine Met.ofW (cc := rfb_Md_solve) (maxL := 3) (ret := (some .int)) (by decide) rfl ?_
  intro p e s m args below meth c s₁ B hml hv
  obtain ⟨rfl, hP, hK⟩ := hv
  have hx := B.exec
  have hb := B.bytes
  have hr := B.returns
  have hts : ∀ w ∈ ub_T, w.before _ s = true := fun w hw => atoms_spec (ws := rfs_Md_solve) B.pre w (List.mem_cons_of_mem _ hw)
  have hown : s.vm.findClass rfR_Md = some m.cls := findClass_of_methodNamed B.named
  have hlocks := B.notSynchronized
  have hS : va_S (rf_A a) s.heap s.heap [] := va_S.rf
  have hl := lv_entry ([.ref (a 0), .int x1]) (n := 3) (Nat.le_of_ble_eq_true rfl)
  rw [lg_entry_eq]
  generalize (lg_sl ([.ref (a 0), .int x1]) ++ List.replicate (3 - (lg_sl ([.ref (a 0), .int x1])).length) Slot.unset).toArray = ls at hl ⊢
  have hl : lv_has ls 3 [(0, .ref (a 0)), (1, .int x1)] := hl
  rw [rff_Md_solve] at h
  refine lv_aload_n hx hb drf_Md_solve_0 rfl (lv_at hl 0 rfl) ?_
  refine lv_iconst (v := 0) hx hb drf_Md_solve_1 (by decide) ?_
  refine rfp_Md_68 hx hb hts hown hK hP hAd hS drf_Md_solve_2 (fun H locs hP hS => ?_)
  refine lv_aload_n hx hb drf_Md_solve_5 rfl (lv_at hl 0 rfl) ?_
  refine lv_iload_n hx hb drf_Md_solve_6 rfl (lv_at hl 1 rfl) ?_
  obtain ⟨q1, hq1, h⟩ := ob_b h
  refine rf_cv_ir (As := [.int x1]) (rest := []) ⟨hx, hb, hml, hown, hts⟩ (crf_Md_isName l D a k hAd (wr σ 18 1 0) x1  q1 hq1) (rfc_Md_74 hts ⟨Nat.le_of_ble_eq_true rfl, Nat.le_of_ble_eq_true rfl⟩) (rf_rc0 hK hP) hK hP rfl hl.1 rfl (Nat.le_of_ble_eq_true rfl) drf_Md_solve_7 hS (fun H locs hP hS => ?_)
  refine lv_if_eq (tgt := 22) hx hb drf_Md_solve_10 (by decide) (fun c2 => ?_) (fun c2 => ?_)
  · have h := ob_t c2 h
    refine lv_iconst (v := (-1)) hx hb drf_Md_solve_22 (by decide) ?_
    exact W.iret (v := (-1)) hx hb hr (fun t ht hW => ⟨⟨(-1), (wr σ 18 1 0), rfl, ob_r h, by rw [ht]; exact hP, va_K.moved hW.alike hK⟩, hS.F ht⟩) hS.2.2 drf_Md_solve_23
  · have h := ob_f c2 h
    refine lv_aload_n hx hb drf_Md_solve_13 rfl (lv_at hl 0 rfl) ?_
    refine lv_iload_n hx hb drf_Md_solve_14 rfl (lv_at hl 1 rfl) ?_
    obtain ⟨q3, hq3, h⟩ := ob_b h
    refine rf_cv_ir (As := [.int x1]) (rest := []) ⟨hx, hb, hml, hown, hts⟩ (crf_Md_chiefOf l D a k hAd (wr σ 18 1 0) x1  q3 hq3) (rfc_Md_92 hts ⟨Nat.le_of_ble_eq_true rfl, Nat.le_of_ble_eq_true rfl⟩) (rf_rc0 hK hP) hK hP rfl hl.1 rfl (Nat.le_of_ble_eq_true rfl) drf_Md_solve_15 hS (fun H locs hP hS => ?_)
    refine lv_iload_n hx hb drf_Md_solve_18 rfl (lv_at hl 1 rfl) ?_
    refine lv_icmp_eq (tgt := 24) hx hb drf_Md_solve_19 (by decide) (fun c4 => ?_) (fun c4 => ?_)
    · have h := ob_t c4 h
      refine lv_aload_n hx hb drf_Md_solve_24 rfl (lv_at hl 0 rfl) ?_
      refine lv_iload_n hx hb drf_Md_solve_25 rfl (lv_at hl 1 rfl) ?_
      obtain ⟨q5, hq5, h⟩ := ob_b h
      refine rf_cv_iw (As := [.int x1]) (rest := []) ⟨hx, hb, hml, hown, hts⟩ (crf_Md_find l D a k hAd (wr σ 18 1 0) x1  q5 hq5) (rfc_Md_102 hts ⟨Nat.le_of_ble_eq_true rfl, Nat.le_of_ble_eq_true rfl⟩) (rf_rc0 hK hP) hK hP rfl hl.1 rfl (Nat.le_of_ble_eq_true rfl) drf_Md_solve_26 hS (fun H locs hP hS => ?_)
      refine lv_istore_n (lv' := [(2, .int q5.1), (0, .ref (a 0)), (1, .int x1)]) hx hb drf_Md_solve_29 rfl hl (by decide) rfl (fun ls hl => ?_)
      refine lv_iload_n hx hb drf_Md_solve_30 rfl (lv_at hl 0 rfl) ?_
      refine lv_iconst (v := (-1)) hx hb drf_Md_solve_31 (by decide) ?_
      refine lv_icmp_ne (tgt := 45) hx hb drf_Md_solve_32 (by decide) (fun c6 => ?_) (fun c6 => ?_)
      · have h := ob_f c6 h
        refine lv_iload_n hx hb drf_Md_solve_45 rfl (lv_at hl 0 rfl) ?_
        exact W.iret (v := q5.1) hx hb hr (fun t ht hW => ⟨⟨q5.1, q5.2, rfl, ob_r h, by rw [ht]; exact hP, va_K.moved hW.alike hK⟩, hS.F ht⟩) hS.2.2 drf_Md_solve_46
      · have h := ob_t c6 h
        refine lv_bipush (v := (-2)) hx hb drf_Md_solve_35 (by decide) ?_
        refine lv_aload_n hx hb drf_Md_solve_37 rfl (lv_at hl 1 rfl) ?_
        refine rfg_Md_99 hx hb hts hown hK hP drf_Md_solve_38 ?_
        refine lv_isub hx hb drf_Md_solve_41 ?_
        refine lv_goto (tgt := 46) hx hb drf_Md_solve_42 (by decide) ?_
        exact W.iret (v := ((-2) - (q5.2 18 6))) hx hb hr (fun t ht hW => ⟨⟨((-2) - (q5.2 18 6)), q5.2, rfl, ob_r h, by rw [ht]; exact hP, va_K.moved hW.alike hK⟩, hS.F ht⟩) hS.2.2 drf_Md_solve_46
    · have h := ob_f c4 h
      refine lv_iconst (v := (-1)) hx hb drf_Md_solve_22 (by decide) ?_
      exact W.iret (v := (-1)) hx hb hr (fun t ht hW => ⟨⟨(-1), (wr σ 18 1 0), rfl, ob_r h, by rw [ht]; exact hP, va_K.moved hW.alike hK⟩, hS.F ht⟩) hS.2.2 drf_Md_solve_23

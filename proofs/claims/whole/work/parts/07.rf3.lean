set_option maxHeartbeats 4000000 in
set_option maxRecDepth 100000 in
theorem crf_Md_tick (l : Launch) (D : va_G) (a : Nat → Nat) (k : Nat → ClassId) (hAd : rf_Ad a) (σ : ST) (x1 : Int32) (res : Int32 × ST) (h : rff_Md_tick σ x1 = some res) : Met l rfy_Md_tick rfs_Md_tick rfr_Md_tick (rf_Pc D a k σ [.ref (a 0), .int x1]) (va_Qi (fun (r : Int32) (u : ST) => r = res.1 ∧ u = res.2) (rf_B D a k) (rf_A a)) 0 0 (rf_A a) := by
  refine Met.ofW (cc := rfb_Md_tick) (maxL := 2) (ret := (some .int)) (by decide) rfl ?_
  intro p e s m args below meth c s₁ B hml hv
  obtain ⟨rfl, hP, hK⟩ := hv
  have hx := B.exec
  have hb := B.bytes
  have hr := B.returns
  have hts : ∀ w ∈ ub_T, w.before _ s = true := fun w hw => atoms_spec (ws := rfs_Md_tick) B.pre w (List.mem_cons_of_mem _ hw)
  have hown : s.vm.findClass rfR_Md = some m.cls := findClass_of_methodNamed B.named
  have hlocks := B.notSynchronized
  have hS : va_S (rf_A a) s.heap s.heap [] := va_S.rf
  have hl := lv_entry ([.ref (a 0), .int x1]) (n := 2) (Nat.le_of_ble_eq_true rfl)
  rw [lg_entry_eq]
  generalize (lg_sl ([.ref (a 0), .int x1]) ++ List.replicate (2 - (lg_sl ([.ref (a 0), .int x1])).length) Slot.unset).toArray = ls at hl ⊢
  have hl : lv_has ls 2 [(0, .ref (a 0)), (1, .int x1)] := hl
  rw [rff_Md_tick] at h
  refine lv_aload_n hx hb drf_Md_tick_0 rfl (lv_at hl 0 rfl) ?_
  refine lv_iconst (v := 0) hx hb drf_Md_tick_1 (by decide) ?_
  refine rfp_Md_68 hx hb hts hown hK hP hAd hS drf_Md_tick_2 (fun H locs hP hS => ?_)
  refine lv_iload_n hx hb drf_Md_tick_5 rfl (lv_at hl 1 rfl) ?_
  refine lv_if_lt (tgt := 26) hx hb drf_Md_tick_6 (by decide) (fun c1 => ?_) (fun c1 => ?_)
  · have h := ob_t c1 h
    refine lv_iconst (v := (-1)) hx hb drf_Md_tick_26 (by decide) ?_
    exact W.iret (v := (-1)) hx hb hr (fun t ht hW => ⟨⟨(-1), (wr σ 18 1 0), rfl, ob_r h, by rw [ht]; exact hP, va_K.moved hW.alike hK⟩, hS.F ht⟩) hS.2.2 drf_Md_tick_27
  · have h := ob_f c1 h
    refine lv_iload_n hx hb drf_Md_tick_9 rfl (lv_at hl 1 rfl) ?_
    refine lv_ldc (v := 100000) hx hb hown (hts _ rfw_Md_105) drf_Md_tick_10 ?_
    refine lv_icmp_gt (tgt := 26) hx hb drf_Md_tick_12 (by decide) (fun c2 => ?_) (fun c2 => ?_)
    · have h := ob_t c2 h
      refine lv_iconst (v := (-1)) hx hb drf_Md_tick_26 (by decide) ?_
      exact W.iret (v := (-1)) hx hb hr (fun t ht hW => ⟨⟨(-1), (wr σ 18 1 0), rfl, ob_r h, by rw [ht]; exact hP, va_K.moved hW.alike hK⟩, hS.F ht⟩) hS.2.2 drf_Md_tick_27
    · have h := ob_f c2 h
      refine lv_aload_n hx hb drf_Md_tick_15 rfl (lv_at hl 0 rfl) ?_
      refine rfg_Md_106 hx hb hts hown hK hP drf_Md_tick_16 ?_
      refine W.eq (g2 := F0 m 19 ls [.int (σ 18 2)]) rfl ?_
      refine lv_iload_n hx hb drf_Md_tick_19 rfl (lv_at hl 1 rfl) ?_
      refine lv_iadd hx hb drf_Md_tick_20 ?_
      refine lv_ldc (v := 1000000000) hx hb hown (hts _ rfw_Md_109) drf_Md_tick_21 ?_
      refine lv_icmp_le (tgt := 28) hx hb drf_Md_tick_23 (by decide) (fun c3 => ?_) (fun c3 => ?_)
      · have h := ob_t c3 h
        refine lv_aload_n hx hb drf_Md_tick_28 rfl (lv_at hl 0 rfl) ?_
        refine lv_dup hx hb drf_Md_tick_29 rfl ?_
        refine rfg_Md_106 hx hb hts hown hK hP drf_Md_tick_30 ?_
        refine W.eq (g2 := F0 m 33 ls [.int (σ 18 2), .ref (a 0)]) rfl ?_
        refine lv_iload_n hx hb drf_Md_tick_33 rfl (lv_at hl 1 rfl) ?_
        refine lv_iadd hx hb drf_Md_tick_34 ?_
        refine rfp_Md_106 hx hb hts hown hK hP hAd hS drf_Md_tick_35 (fun H locs hP hS => ?_)
        refine lv_aload_n hx hb drf_Md_tick_38 rfl (lv_at hl 0 rfl) ?_
        refine rfg_Md_106 hx hb hts hown hK hP drf_Md_tick_39 ?_
        refine W.eq (g2 := F0 m 42 ls [.int ((σ 18 2) + x1)]) rfl ?_
        exact W.iret (v := ((σ 18 2) + x1)) hx hb hr (fun t ht hW => ⟨⟨((σ 18 2) + x1), (wr (wr σ 18 1 0) 18 2 ((σ 18 2) + x1)), rfl, ob_r h, by rw [ht]; exact hP, va_K.moved hW.alike hK⟩, hS.F ht⟩) hS.2.2 drf_Md_tick_42
      · have h := ob_f c3 h
        refine lv_iconst (v := (-1)) hx hb drf_Md_tick_26 (by decide) ?_
        exact W.iret (v := (-1)) hx hb hr (fun t ht hW => ⟨⟨(-1), (wr σ 18 1 0), rfl, ob_r h, by rw [ht]; exact hP, va_K.moved hW.alike hK⟩, hS.F ht⟩) hS.2.2 drf_Md_tick_27
set_option maxHeartbeats 4000000 in
set_option maxRecDepth 100000 in
theorem crf_Md_raised (l : Launch) (D : va_G) (a : Nat → Nat) (k : Nat → ClassId) (hAd : rf_Ad a) (σ : ST) (x1 : Int32) (res : Int32) (h : rff_Md_raised σ x1 = some res) : Met l rfy_Md_raised rfs_Md_raised rfr_Md_raised (rf_Pc D a k σ [.ref (a 0), .int x1]) (va_Qi (fun (r : Int32) (u : ST) => r = res ∧ u = σ) (rf_B D a k) (rf_A a)) 0 0 (rf_A a) := by
  refine Met.ofW (cc := rfb_Md_raised) (maxL := 2) (ret := (some .int)) (by decide) rfl ?_
  intro p e s m args below meth c s₁ B hml hv
  obtain ⟨rfl, hP, hK⟩ := hv
  have hx := B.exec
  have hb := B.bytes
  have hr := B.returns
  have hts : ∀ w ∈ ub_T, w.before _ s = true := fun w hw => atoms_spec (ws := rfs_Md_raised) B.pre w (List.mem_cons_of_mem _ hw)
  have hown : s.vm.findClass rfR_Md = some m.cls := findClass_of_methodNamed B.named
  have hlocks := B.notSynchronized
  have hS : va_S (rf_A a) s.heap s.heap [] := va_S.rf
  have hl := lv_entry ([.ref (a 0), .int x1]) (n := 2) (Nat.le_of_ble_eq_true rfl)
  rw [lg_entry_eq]
  generalize (lg_sl ([.ref (a 0), .int x1]) ++ List.replicate (2 - (lg_sl ([.ref (a 0), .int x1])).length) Slot.unset).toArray = ls at hl ⊢
  have hl : lv_has ls 2 [(0, .ref (a 0)), (1, .int x1)] := hl
  rw [rff_Md_raised] at h
  refine lv_aload_n hx hb drf_Md_raised_0 rfl (lv_at hl 0 rfl) ?_
  refine rfg_Md_43 hx hb hts hown hK hP drf_Md_raised_1 ?_
  refine lv_iload_n hx hb drf_Md_raised_4 rfl (lv_at hl 1 rfl) ?_
  obtain ⟨hi1, h⟩ := ob_i h
  refine rf_iald (i := 11) hx hb hK hP (by decide) rfl hi1 drf_Md_raised_5 ?_
  refine lv_aload_n hx hb drf_Md_raised_6 rfl (lv_at hl 0 rfl) ?_
  refine rfg_Md_16 hx hb hts hown hK hP drf_Md_raised_7 ?_
  refine lv_iload_n hx hb drf_Md_raised_10 rfl (lv_at hl 1 rfl) ?_
  obtain ⟨hi2, h⟩ := ob_i h
  refine rf_iald (i := 2) hx hb hK hP (by decide) rfl hi2 drf_Md_raised_11 ?_
  refine lv_icmp_le (tgt := 24) hx hb drf_Md_raised_12 (by decide) (fun c3 => ?_) (fun c3 => ?_)
  · have h := ob_t c3 h
    refine lv_iconst (v := (-1)) hx hb drf_Md_raised_24 (by decide) ?_
    exact W.iret (v := (-1)) hx hb hr (fun t ht hW => ⟨⟨(-1), σ, rfl, ⟨Option.some.inj h, rfl⟩, by rw [ht]; exact hP, va_K.moved hW.alike hK⟩, hS.F ht⟩) hS.2.2 drf_Md_raised_25
  · have h := ob_f c3 h
    refine lv_aload_n hx hb drf_Md_raised_15 rfl (lv_at hl 0 rfl) ?_
    refine rfg_Md_43 hx hb hts hown hK hP drf_Md_raised_16 ?_
    refine lv_iload_n hx hb drf_Md_raised_19 rfl (lv_at hl 1 rfl) ?_
    obtain ⟨hi4, h⟩ := ob_i h
    refine rf_iald (i := 11) hx hb hK hP (by decide) rfl hi4 drf_Md_raised_20 ?_
    refine lv_goto (tgt := 25) hx hb drf_Md_raised_21 (by decide) ?_
    exact W.iret (v := (σ 11 x1.toNatClampNeg)) hx hb hr (fun t ht hW => ⟨⟨(σ 11 x1.toNatClampNeg), σ, rfl, ⟨Option.some.inj h, rfl⟩, by rw [ht]; exact hP, va_K.moved hW.alike hK⟩, hS.F ht⟩) hS.2.2 drf_Md_raised_25
set_option maxHeartbeats 4000000 in
set_option maxRecDepth 100000 in
theorem crf_Md_isSame (l : Launch) (D : va_G) (a : Nat → Nat) (k : Nat → ClassId) (hAd : rf_Ad a) (σ : ST) (x1 : Int32) (res : Int32) (h : rff_Md_isSame σ x1 = some res) : Met l rfy_Md_isSame rfs_Md_isSame rfr_Md_isSame (rf_Pc D a k σ [.ref (a 0), .int x1]) (va_Qi (fun (r : Int32) (u : ST) => r = res ∧ u = σ) (rf_B D a k) (rf_A a)) 0 0 (rf_A a) := by
  refine Met.ofW (cc := rfb_Md_isSame) (maxL := 4) (ret := (some .boolean)) (by decide) rfl ?_
  intro p e s m args below meth c s₁ B hml hv
  obtain ⟨rfl, hP, hK⟩ := hv
  have hx := B.exec
  have hb := B.bytes
  have hr := B.returns
  have hts : ∀ w ∈ ub_T, w.before _ s = true := fun w hw => atoms_spec (ws := rfs_Md_isSame) B.pre w (List.mem_cons_of_mem _ hw)
  have hown : s.vm.findClass rfR_Md = some m.cls := findClass_of_methodNamed B.named
  have hlocks := B.notSynchronized
  have hS : va_S (rf_A a) s.heap s.heap [] := va_S.rf
  have hl := lv_entry ([.ref (a 0), .int x1]) (n := 4) (Nat.le_of_ble_eq_true rfl)
  rw [lg_entry_eq]
  generalize (lg_sl ([.ref (a 0), .int x1]) ++ List.replicate (4 - (lg_sl ([.ref (a 0), .int x1])).length) Slot.unset).toArray = ls at hl ⊢
  have hl : lv_has ls 4 [(0, .ref (a 0)), (1, .int x1)] := hl
  have lp4 : ∀ (n : Nat) (y1 : Int32) (y2 : Int32) (y3 : Int32) (H : Heap) (locs : List Loc) (ls : Array Slot), rfl_Md_isSame_4 σ n y1 y2 y3 = some res → rf_P D a k σ H → va_S (rf_A a) s.heap H locs → lv_has ls 4 [(0, .ref (a 0)), (1, .int y1), (2, .int y2), (3, .int y3)] → W p l e (headSpec rfs_Md_isSame rfr_Md_isSame).room s m (([.ref (a 0), .int x1] : List Value)).toArray below meth c H locs 0 0 (MQ below (va_Qi (fun (r : Int32) (u : ST) => r = res ∧ u = σ) (rf_B D a k) (rf_A a)) (([.ref (a 0), .int x1] : List Value)).toArray s 0 0 (rf_A a)) (F0 m 4 ls []) := by
    intro n
    induction n with
    | zero =>
      intro y1 y2 y3 H locs ls h
      exact absurd h (fun z => by cases z)
    | succ n ih =>
      intro y1 y2 y3 H locs ls h hP hS hl
      rw [rfl_Md_isSame_4] at h
      refine lv_iload_n hx hb drf_Md_isSame_4 rfl (lv_at hl 3 rfl) ?_
      refine lv_aload_n hx hb drf_Md_isSame_5 rfl (lv_at hl 0 rfl) ?_
      refine rfg_Md_71 hx hb hts hown hK hP drf_Md_isSame_6 ?_
      refine lv_icmp_ge (tgt := 47) hx hb drf_Md_isSame_9 (by decide) (fun c1 => ?_) (fun c1 => ?_)
      · have h := ob_t c1 h
        refine lv_iload_n hx hb drf_Md_isSame_47 rfl (lv_at hl 2 rfl) ?_
        obtain ⟨hz2, h⟩ := ob_i h
        exact W.zret (ty := .boolean) (v := y2) hx hb hr (ub_nar hz2) (fun t ht hW => ⟨⟨y2, σ, rfl, ⟨Option.some.inj h, rfl⟩, by rw [ht]; exact hP, va_K.moved hW.alike hK⟩, hS.F ht⟩) hS.2.2 drf_Md_isSame_48
      · have h := ob_f c1 h
        refine lv_iload_n hx hb drf_Md_isSame_12 rfl (lv_at hl 2 rfl) ?_
        refine lv_if_eq (tgt := 39) hx hb drf_Md_isSame_13 (by decide) (fun c3 => ?_) (fun c3 => ?_)
        · have h := ob_t c3 h
          refine lv_iconst (v := 0) hx hb drf_Md_isSame_39 (by decide) ?_
          refine lv_istore_n (lv' := [(2, .int 0), (0, .ref (a 0)), (1, .int y1), (3, .int y3)]) hx hb drf_Md_isSame_40 rfl hl (by decide) rfl (fun ls hl => ?_)
          refine lv_iinc (v := (y3 + 1)) (lv' := [(3, .int (y3 + 1)), (2, .int 0), (0, .ref (a 0)), (1, .int y1)]) hx hb drf_Md_isSame_41 hl (k := 3) rfl rfl (by decide) rfl (fun ls hl => ?_)
          refine lv_goto (tgt := 4) hx hb drf_Md_isSame_44 (by decide) ?_
          exact ih y1 0 (y3 + 1) _ _ _ h hP hS (lv_sub hl [2, 3, 1, 0] rfl)
        · have h := ob_f c3 h
          refine lv_aload_n hx hb drf_Md_isSame_16 rfl (lv_at hl 0 rfl) ?_
          refine rfg_Md_61 hx hb hts hown hK hP drf_Md_isSame_17 ?_
          refine lv_bipush (v := 12) hx hb drf_Md_isSame_20 (by decide) ?_
          refine lv_iload_n hx hb drf_Md_isSame_22 rfl (lv_at hl 1 rfl) ?_
          refine lv_imul hx hb drf_Md_isSame_23 ?_
          refine lv_iload_n hx hb drf_Md_isSame_24 rfl (lv_at hl 3 rfl) ?_
          refine lv_iadd hx hb drf_Md_isSame_25 ?_
          obtain ⟨hi4, h⟩ := ob_i h
          refine rf_iald (i := 17) hx hb hK hP (by decide) rfl hi4 drf_Md_isSame_26 ?_
          refine lv_aload_n hx hb drf_Md_isSame_27 rfl (lv_at hl 0 rfl) ?_
          refine lv_iload_n hx hb drf_Md_isSame_28 rfl (lv_at hl 3 rfl) ?_
          obtain ⟨q5, hq5, h⟩ := ob_b h
          refine rf_cv_ir (As := [.int y3]) (rest := [.int (σ 17 ((12 * y1) + y3).toNatClampNeg)]) ⟨hx, hb, hml, hown, hts⟩ (crf_Md_raised l D a k hAd σ y3  q5 hq5) (rfc_Md_110 hts ⟨Nat.le_of_ble_eq_true rfl, Nat.le_of_ble_eq_true rfl⟩) (rf_rc0 hK hP) hK hP rfl hl.1 rfl (Nat.le_of_ble_eq_true rfl) drf_Md_isSame_29 hS (fun H locs hP hS => ?_)
          refine lv_icmp_ne (tgt := 39) hx hb drf_Md_isSame_32 (by decide) (fun c6 => ?_) (fun c6 => ?_)
          · have h := ob_f c6 h
            refine lv_iconst (v := 0) hx hb drf_Md_isSame_39 (by decide) ?_
            refine lv_istore_n (lv' := [(2, .int 0), (0, .ref (a 0)), (1, .int y1), (3, .int y3)]) hx hb drf_Md_isSame_40 rfl hl (by decide) rfl (fun ls hl => ?_)
            refine lv_iinc (v := (y3 + 1)) (lv' := [(3, .int (y3 + 1)), (2, .int 0), (0, .ref (a 0)), (1, .int y1)]) hx hb drf_Md_isSame_41 hl (k := 3) rfl rfl (by decide) rfl (fun ls hl => ?_)
            refine lv_goto (tgt := 4) hx hb drf_Md_isSame_44 (by decide) ?_
            exact ih y1 0 (y3 + 1) _ _ _ h hP hS (lv_sub hl [2, 3, 1, 0] rfl)
          · have h := ob_t c6 h
            refine lv_iconst (v := 1) hx hb drf_Md_isSame_35 (by decide) ?_
            refine lv_goto (tgt := 40) hx hb drf_Md_isSame_36 (by decide) ?_
            refine lv_istore_n (lv' := [(2, .int 1), (0, .ref (a 0)), (1, .int y1), (3, .int y3)]) hx hb drf_Md_isSame_40 rfl hl (by decide) rfl (fun ls hl => ?_)
            refine lv_iinc (v := (y3 + 1)) (lv' := [(3, .int (y3 + 1)), (2, .int 1), (0, .ref (a 0)), (1, .int y1)]) hx hb drf_Md_isSame_41 hl (k := 3) rfl rfl (by decide) rfl (fun ls hl => ?_)
            refine lv_goto (tgt := 4) hx hb drf_Md_isSame_44 (by decide) ?_
            exact ih y1 1 (y3 + 1) _ _ _ h hP hS (lv_sub hl [2, 3, 1, 0] rfl)
  rw [rff_Md_isSame] at h
  refine lv_iconst (v := 1) hx hb drf_Md_isSame_0 (by decide) ?_
  refine lv_istore_n (lv' := [(2, .int 1), (0, .ref (a 0)), (1, .int x1)]) hx hb drf_Md_isSame_1 rfl hl (by decide) rfl (fun ls hl => ?_)
  refine lv_iconst (v := 0) hx hb drf_Md_isSame_2 (by decide) ?_
  refine lv_istore_n (lv' := [(3, .int 0), (2, .int 1), (0, .ref (a 0)), (1, .int x1)]) hx hb drf_Md_isSame_3 rfl hl (by decide) rfl (fun ls hl => ?_)
  exact lp4 200 x1 1 0 _ _ _ h hP hS (lv_sub hl [2, 3, 1, 0] rfl)
set_option maxHeartbeats 4000000 in
set_option maxRecDepth 100000 in
theorem crf_Md_fill (l : Launch) (D : va_G) (a : Nat → Nat) (k : Nat → ClassId) (hAd : rf_Ad a) (σ : ST) (x1 : Int32) (res : ST) (h : rff_Md_fill σ x1 = some res) : Met l rfy_Md_fill rfs_Md_fill rfr_Md_fill (rf_Pc D a k σ [.ref (a 0), .int x1]) (va_Qv (fun (u : ST) => u = res) (rf_B D a k) (rf_A a)) 0 0 (rf_A a) := by
  refine Met.ofW (cc := rfb_Md_fill) (maxL := 3) (ret := none) (by decide) rfl ?_
  intro p e s m args below meth c s₁ B hml hv
  obtain ⟨rfl, hP, hK⟩ := hv
  have hx := B.exec
  have hb := B.bytes
  have hr := B.returns
  have hts : ∀ w ∈ ub_T, w.before _ s = true := fun w hw => atoms_spec (ws := rfs_Md_fill) B.pre w (List.mem_cons_of_mem _ hw)
  have hown : s.vm.findClass rfR_Md = some m.cls := findClass_of_methodNamed B.named
  have hlocks := B.notSynchronized
  have hS : va_S (rf_A a) s.heap s.heap [] := va_S.rf
  have hl := lv_entry ([.ref (a 0), .int x1]) (n := 3) (Nat.le_of_ble_eq_true rfl)
  rw [lg_entry_eq]
  generalize (lg_sl ([.ref (a 0), .int x1]) ++ List.replicate (3 - (lg_sl ([.ref (a 0), .int x1])).length) Slot.unset).toArray = ls at hl ⊢
  have hl : lv_has ls 3 [(0, .ref (a 0)), (1, .int x1)] := hl
  have lp2 : ∀ (n : Nat) (σ : ST) (y1 : Int32) (y2 : Int32) (H : Heap) (locs : List Loc) (ls : Array Slot), rfl_Md_fill_2 n σ y1 y2 = some res → rf_P D a k σ H → va_S (rf_A a) s.heap H locs → lv_has ls 3 [(0, .ref (a 0)), (1, .int y1), (2, .int y2)] → W p l e (headSpec rfs_Md_fill rfr_Md_fill).room s m (([.ref (a 0), .int x1] : List Value)).toArray below meth c H locs 0 0 (MQ below (va_Qv (fun (u : ST) => u = res) (rf_B D a k) (rf_A a)) (([.ref (a 0), .int x1] : List Value)).toArray s 0 0 (rf_A a)) (F0 m 2 ls []) := by
    intro n
    induction n with
    | zero =>
      intro σ y1 y2 H locs ls h
      exact absurd h (fun z => by cases z)
    | succ n ih =>
      intro σ y1 y2 H locs ls h hP hS hl
      rw [rfl_Md_fill_2] at h
      refine lv_iload_n hx hb drf_Md_fill_2 rfl (lv_at hl 2 rfl) ?_
      refine lv_bipush (v := 12) hx hb drf_Md_fill_3 (by decide) ?_
      refine lv_icmp_ge (tgt := 42) hx hb drf_Md_fill_5 (by decide) (fun c1 => ?_) (fun c1 => ?_)
      · have h := ob_t c1 h
        exact W.vret hx hb hr (fun t ht hW => ⟨⟨σ, rfl, Option.some.inj h, by rw [ht]; exact hP, va_K.moved hW.alike hK⟩, hS.F ht⟩) hS.2.2 drf_Md_fill_42
      · have h := ob_f c1 h
        refine lv_aload_n hx hb drf_Md_fill_8 rfl (lv_at hl 0 rfl) ?_
        refine rfg_Md_61 hx hb hts hown hK hP drf_Md_fill_9 ?_
        refine lv_bipush (v := 12) hx hb drf_Md_fill_12 (by decide) ?_
        refine lv_iload_n hx hb drf_Md_fill_14 rfl (lv_at hl 1 rfl) ?_
        refine lv_imul hx hb drf_Md_fill_15 ?_
        refine lv_iload_n hx hb drf_Md_fill_16 rfl (lv_at hl 2 rfl) ?_
        refine lv_iadd hx hb drf_Md_fill_17 ?_
        refine lv_iload_n hx hb drf_Md_fill_18 rfl (lv_at hl 2 rfl) ?_
        refine lv_aload_n hx hb drf_Md_fill_19 rfl (lv_at hl 0 rfl) ?_
        refine rfg_Md_71 hx hb hts hown hK hP drf_Md_fill_20 ?_
        refine lv_icmp_ge (tgt := 34) hx hb drf_Md_fill_23 (by decide) (fun c2 => ?_) (fun c2 => ?_)
        · have h := ob_t c2 h
          refine lv_iconst (v := (-1)) hx hb drf_Md_fill_34 (by decide) ?_
          obtain ⟨hi3, h⟩ := ob_i h
          refine rf_iast (i := 17) hx hb hK hP hAd hS (by decide) rfl hi3 drf_Md_fill_35 (fun H locs hP hS => ?_)
          refine lv_iinc (v := (y2 + 1)) (lv' := [(2, .int (y2 + 1)), (0, .ref (a 0)), (1, .int y1)]) hx hb drf_Md_fill_36 hl (k := 2) rfl rfl (by decide) rfl (fun ls hl => ?_)
          refine lv_goto (tgt := 2) hx hb drf_Md_fill_39 (by decide) ?_
          exact ih (wr σ 17 ((12 * y1) + y2).toNatClampNeg (-1)) y1 (y2 + 1) _ _ _ h hP hS (lv_sub hl [1, 2, 0] rfl)
        · have h := ob_f c2 h
          refine lv_aload_n hx hb drf_Md_fill_26 rfl (lv_at hl 0 rfl) ?_
          refine lv_iload_n hx hb drf_Md_fill_27 rfl (lv_at hl 2 rfl) ?_
          obtain ⟨q4, hq4, h⟩ := ob_b h
          refine rf_cv_ir (As := [.int y2]) (rest := [.int ((12 * y1) + y2), .ref (a (17 + 1))]) ⟨hx, hb, hml, hown, hts⟩ (crf_Md_raised l D a k hAd σ y2  q4 hq4) (rfc_Md_110 hts ⟨Nat.le_of_ble_eq_true rfl, Nat.le_of_ble_eq_true rfl⟩) (rf_rc0 hK hP) hK hP rfl hl.1 rfl (Nat.le_of_ble_eq_true rfl) drf_Md_fill_28 hS (fun H locs hP hS => ?_)
          refine lv_goto (tgt := 35) hx hb drf_Md_fill_31 (by decide) ?_
          obtain ⟨hi5, h⟩ := ob_i h
          refine rf_iast (i := 17) hx hb hK hP hAd hS (by decide) rfl hi5 drf_Md_fill_35 (fun H locs hP hS => ?_)
          refine lv_iinc (v := (y2 + 1)) (lv' := [(2, .int (y2 + 1)), (0, .ref (a 0)), (1, .int y1)]) hx hb drf_Md_fill_36 hl (k := 2) rfl rfl (by decide) rfl (fun ls hl => ?_)
          refine lv_goto (tgt := 2) hx hb drf_Md_fill_39 (by decide) ?_
          exact ih (wr σ 17 ((12 * y1) + y2).toNatClampNeg q4) y1 (y2 + 1) _ _ _ h hP hS (lv_sub hl [1, 2, 0] rfl)
  rw [rff_Md_fill] at h
  refine lv_iconst (v := 0) hx hb drf_Md_fill_0 (by decide) ?_
  refine lv_istore_n (lv' := [(2, .int 0), (0, .ref (a 0)), (1, .int x1)]) hx hb drf_Md_fill_1 rfl hl (by decide) rfl (fun ls hl => ?_)
  exact lp2 200 σ x1 0 _ _ _ h hP hS (lv_sub hl [1, 2, 0] rfl)
set_option maxHeartbeats 4000000 in
set_option maxRecDepth 100000 in
theorem crf_Md_latest (l : Launch) (D : va_G) (a : Nat → Nat) (k : Nat → ClassId) (hAd : rf_Ad a) (σ : ST) (x1 : Int32) (x2 : Int32) (res : Int32) (h : rff_Md_latest σ x1 x2 = some res) : Met l rfy_Md_latest rfs_Md_latest rfr_Md_latest (rf_Pc D a k σ [.ref (a 0), .int x1, .int x2]) (va_Qi (fun (r : Int32) (u : ST) => r = res ∧ u = σ) (rf_B D a k) (rf_A a)) 0 0 (rf_A a) := by
  refine Met.ofW (cc := rfb_Md_latest) (maxL := 5) (ret := (some .int)) (by decide) rfl ?_
  intro p e s m args below meth c s₁ B hml hv
  obtain ⟨rfl, hP, hK⟩ := hv
  have hx := B.exec
  have hb := B.bytes
  have hr := B.returns
  have hts : ∀ w ∈ ub_T, w.before _ s = true := fun w hw => atoms_spec (ws := rfs_Md_latest) B.pre w (List.mem_cons_of_mem _ hw)
  have hown : s.vm.findClass rfR_Md = some m.cls := findClass_of_methodNamed B.named
  have hlocks := B.notSynchronized
  have hS : va_S (rf_A a) s.heap s.heap [] := va_S.rf
  have hl := lv_entry ([.ref (a 0), .int x1, .int x2]) (n := 5) (Nat.le_of_ble_eq_true rfl)
  rw [lg_entry_eq]
  generalize (lg_sl ([.ref (a 0), .int x1, .int x2]) ++ List.replicate (5 - (lg_sl ([.ref (a 0), .int x1, .int x2])).length) Slot.unset).toArray = ls at hl ⊢
  have hl : lv_has ls 5 [(0, .ref (a 0)), (1, .int x1), (2, .int x2)] := hl
  have lp5 : ∀ (n : Nat) (y1 : Int32) (y2 : Int32) (y3 : Int32) (y4 : Int32) (H : Heap) (locs : List Loc) (ls : Array Slot), rfl_Md_latest_5 σ n y1 y2 y3 y4 = some res → rf_P D a k σ H → va_S (rf_A a) s.heap H locs → lv_has ls 5 [(0, .ref (a 0)), (1, .int y1), (2, .int y2), (3, .int y3), (4, .int y4)] → W p l e (headSpec rfs_Md_latest rfr_Md_latest).room s m (([.ref (a 0), .int x1, .int x2] : List Value)).toArray below meth c H locs 0 0 (MQ below (va_Qi (fun (r : Int32) (u : ST) => r = res ∧ u = σ) (rf_B D a k) (rf_A a)) (([.ref (a 0), .int x1, .int x2] : List Value)).toArray s 0 0 (rf_A a)) (F0 m 5 ls []) := by
    intro n
    induction n with
    | zero =>
      intro y1 y2 y3 y4 H locs ls h
      exact absurd h (fun z => by cases z)
    | succ n ih =>
      intro y1 y2 y3 y4 H locs ls h hP hS hl
      rw [rfl_Md_latest_5] at h
      refine lv_iload hx hb drf_Md_latest_5 (lv_at hl 4 rfl) ?_
      refine lv_aload_n hx hb drf_Md_latest_7 rfl (lv_at hl 0 rfl) ?_
      refine rfg_Md_113 hx hb hts hown hK hP drf_Md_latest_8 ?_
      refine lv_icmp_ge (tgt := 49) hx hb drf_Md_latest_11 (by decide) (fun c1 => ?_) (fun c1 => ?_)
      · have h := ob_t c1 h
        refine lv_iload_n hx hb drf_Md_latest_49 rfl (lv_at hl 3 rfl) ?_
        exact W.iret (v := y3) hx hb hr (fun t ht hW => ⟨⟨y3, σ, rfl, ⟨Option.some.inj h, rfl⟩, by rw [ht]; exact hP, va_K.moved hW.alike hK⟩, hS.F ht⟩) hS.2.2 drf_Md_latest_50
      · have h := ob_f c1 h
        refine lv_aload_n hx hb drf_Md_latest_14 rfl (lv_at hl 0 rfl) ?_
        refine rfg_Md_49 hx hb hts hown hK hP drf_Md_latest_15 ?_
        refine lv_iload hx hb drf_Md_latest_18 (lv_at hl 4 rfl) ?_
        obtain ⟨hi2, h⟩ := ob_i h
        refine rf_iald (i := 13) hx hb hK hP (by decide) rfl hi2 drf_Md_latest_20 ?_
        refine lv_iload_n hx hb drf_Md_latest_21 rfl (lv_at hl 1 rfl) ?_
        refine lv_icmp_ne (tgt := 41) hx hb drf_Md_latest_22 (by decide) (fun c3 => ?_) (fun c3 => ?_)
        · have h := ob_f c3 h
          refine lv_iload_n hx hb drf_Md_latest_41 rfl (lv_at hl 3 rfl) ?_
          refine lv_istore_n (lv' := [(3, .int y3), (0, .ref (a 0)), (1, .int y1), (2, .int y2), (4, .int y4)]) hx hb drf_Md_latest_42 rfl hl (by decide) rfl (fun ls hl => ?_)
          refine lv_iinc (v := (y4 + 1)) (lv' := [(4, .int (y4 + 1)), (3, .int y3), (0, .ref (a 0)), (1, .int y1), (2, .int y2)]) hx hb drf_Md_latest_43 hl (k := 4) rfl rfl (by decide) rfl (fun ls hl => ?_)
          refine lv_goto (tgt := 5) hx hb drf_Md_latest_46 (by decide) ?_
          exact ih y1 y2 y3 (y4 + 1) _ _ _ h hP hS (lv_sub hl [2, 3, 4, 1, 0] rfl)
        · have h := ob_t c3 h
          refine lv_aload_n hx hb drf_Md_latest_25 rfl (lv_at hl 0 rfl) ?_
          refine rfg_Md_46 hx hb hts hown hK hP drf_Md_latest_26 ?_
          refine lv_iload hx hb drf_Md_latest_29 (lv_at hl 4 rfl) ?_
          obtain ⟨hi4, h⟩ := ob_i h
          refine rf_iald (i := 12) hx hb hK hP (by decide) rfl hi4 drf_Md_latest_31 ?_
          refine lv_iload_n hx hb drf_Md_latest_32 rfl (lv_at hl 2 rfl) ?_
          refine lv_icmp_ne (tgt := 41) hx hb drf_Md_latest_33 (by decide) (fun c5 => ?_) (fun c5 => ?_)
          · have h := ob_f c5 h
            refine lv_iload_n hx hb drf_Md_latest_41 rfl (lv_at hl 3 rfl) ?_
            refine lv_istore_n (lv' := [(3, .int y3), (0, .ref (a 0)), (1, .int y1), (2, .int y2), (4, .int y4)]) hx hb drf_Md_latest_42 rfl hl (by decide) rfl (fun ls hl => ?_)
            refine lv_iinc (v := (y4 + 1)) (lv' := [(4, .int (y4 + 1)), (3, .int y3), (0, .ref (a 0)), (1, .int y1), (2, .int y2)]) hx hb drf_Md_latest_43 hl (k := 4) rfl rfl (by decide) rfl (fun ls hl => ?_)
            refine lv_goto (tgt := 5) hx hb drf_Md_latest_46 (by decide) ?_
            exact ih y1 y2 y3 (y4 + 1) _ _ _ h hP hS (lv_sub hl [2, 3, 4, 1, 0] rfl)
          · have h := ob_t c5 h
            refine lv_iload hx hb drf_Md_latest_36 (lv_at hl 4 rfl) ?_
            refine lv_goto (tgt := 42) hx hb drf_Md_latest_38 (by decide) ?_
            refine lv_istore_n (lv' := [(3, .int y4), (0, .ref (a 0)), (1, .int y1), (2, .int y2), (4, .int y4)]) hx hb drf_Md_latest_42 rfl hl (by decide) rfl (fun ls hl => ?_)
            refine lv_iinc (v := (y4 + 1)) (lv' := [(4, .int (y4 + 1)), (3, .int y4), (0, .ref (a 0)), (1, .int y1), (2, .int y2)]) hx hb drf_Md_latest_43 hl (k := 4) rfl rfl (by decide) rfl (fun ls hl => ?_)
            refine lv_goto (tgt := 5) hx hb drf_Md_latest_46 (by decide) ?_
            exact ih y1 y2 y4 (y4 + 1) _ _ _ h hP hS (lv_sub hl [2, 3, 4, 1, 0] rfl)
  rw [rff_Md_latest] at h
  refine lv_iconst (v := (-1)) hx hb drf_Md_latest_0 (by decide) ?_
  refine lv_istore_n (lv' := [(3, .int (-1)), (0, .ref (a 0)), (1, .int x1), (2, .int x2)]) hx hb drf_Md_latest_1 rfl hl (by decide) rfl (fun ls hl => ?_)
  refine lv_iconst (v := 0) hx hb drf_Md_latest_2 (by decide) ?_
  refine lv_istore (lv' := [(4, .int 0), (3, .int (-1)), (0, .ref (a 0)), (1, .int x1), (2, .int x2)]) hx hb drf_Md_latest_3 hl (by decide) rfl (fun ls hl => ?_)
  exact lp5 200 x1 x2 (-1) 0 _ _ _ h hP hS (lv_sub hl [2, 3, 4, 1, 0] rfl)
set_option maxHeartbeats 4000000 in
set_option maxRecDepth 100000 in
theorem crf_Md_opens (l : Launch) (D : va_G) (a : Nat → Nat) (k : Nat → ClassId) (hAd : rf_Ad a) (σ : ST) (x1 : Int32) (res : Int32) (h : rff_Md_opens σ x1 = some res) : Met l rfy_Md_opens rfs_Md_opens rfr_Md_opens (rf_Pc D a k σ [.ref (a 0), .int x1]) (va_Qi (fun (r : Int32) (u : ST) => r = res ∧ u = σ) (rf_B D a k) (rf_A a)) 0 0 (rf_A a) := by
  refine Met.ofW (cc := rfb_Md_opens) (maxL := 4) (ret := (some .int)) (by decide) rfl ?_
  intro p e s m args below meth c s₁ B hml hv
  obtain ⟨rfl, hP, hK⟩ := hv
  have hx := B.exec
  have hb := B.bytes
  have hr := B.returns
  have hts : ∀ w ∈ ub_T, w.before _ s = true := fun w hw => atoms_spec (ws := rfs_Md_opens) B.pre w (List.mem_cons_of_mem _ hw)
  have hown : s.vm.findClass rfR_Md = some m.cls := findClass_of_methodNamed B.named
  have hlocks := B.notSynchronized
  have hS : va_S (rf_A a) s.heap s.heap [] := va_S.rf
  have hl := lv_entry ([.ref (a 0), .int x1]) (n := 4) (Nat.le_of_ble_eq_true rfl)
  rw [lg_entry_eq]
  generalize (lg_sl ([.ref (a 0), .int x1]) ++ List.replicate (4 - (lg_sl ([.ref (a 0), .int x1])).length) Slot.unset).toArray = ls at hl ⊢
  have hl : lv_has ls 4 [(0, .ref (a 0)), (1, .int x1)] := hl
  have lp4 : ∀ (n : Nat) (y1 : Int32) (y2 : Int32) (y3 : Int32) (H : Heap) (locs : List Loc) (ls : Array Slot), rfl_Md_opens_4 σ n y1 y2 y3 = some res → rf_P D a k σ H → va_S (rf_A a) s.heap H locs → lv_has ls 4 [(0, .ref (a 0)), (1, .int y1), (2, .int y2), (3, .int y3)] → W p l e (headSpec rfs_Md_opens rfr_Md_opens).room s m (([.ref (a 0), .int x1] : List Value)).toArray below meth c H locs 0 0 (MQ below (va_Qi (fun (r : Int32) (u : ST) => r = res ∧ u = σ) (rf_B D a k) (rf_A a)) (([.ref (a 0), .int x1] : List Value)).toArray s 0 0 (rf_A a)) (F0 m 4 ls []) := by
    intro n
    induction n with
    | zero =>
      intro y1 y2 y3 H locs ls h
      exact absurd h (fun z => by cases z)
    | succ n ih =>
      intro y1 y2 y3 H locs ls h hP hS hl
      rw [rfl_Md_opens_4] at h
      refine lv_iload_n hx hb drf_Md_opens_4 rfl (lv_at hl 3 rfl) ?_
      refine lv_aload_n hx hb drf_Md_opens_5 rfl (lv_at hl 0 rfl) ?_
      refine rfg_Md_113 hx hb hts hown hK hP drf_Md_opens_6 ?_
      refine lv_icmp_ge (tgt := 50) hx hb drf_Md_opens_9 (by decide) (fun c1 => ?_) (fun c1 => ?_)
      · have h := ob_t c1 h
        refine lv_iload_n hx hb drf_Md_opens_50 rfl (lv_at hl 2 rfl) ?_
        exact W.iret (v := y2) hx hb hr (fun t ht hW => ⟨⟨y2, σ, rfl, ⟨Option.some.inj h, rfl⟩, by rw [ht]; exact hP, va_K.moved hW.alike hK⟩, hS.F ht⟩) hS.2.2 drf_Md_opens_51
      · have h := ob_f c1 h
        refine lv_iload_n hx hb drf_Md_opens_12 rfl (lv_at hl 2 rfl) ?_
        refine lv_aload_n hx hb drf_Md_opens_13 rfl (lv_at hl 0 rfl) ?_
        refine rfg_Md_46 hx hb hts hown hK hP drf_Md_opens_14 ?_
        refine lv_iload_n hx hb drf_Md_opens_17 rfl (lv_at hl 3 rfl) ?_
        obtain ⟨hi2, h⟩ := ob_i h
        refine rf_iald (i := 12) hx hb hK hP (by decide) rfl hi2 drf_Md_opens_18 ?_
        refine lv_if_ne (tgt := 41) hx hb drf_Md_opens_19 (by decide) (fun c3 => ?_) (fun c3 => ?_)
        · have h := ob_f c3 h
          refine lv_iconst (v := 0) hx hb drf_Md_opens_41 (by decide) ?_
          refine lv_iadd hx hb drf_Md_opens_42 ?_
          refine lv_istore_n (lv' := [(2, .int (y2 + 0)), (0, .ref (a 0)), (1, .int y1), (3, .int y3)]) hx hb drf_Md_opens_43 rfl hl (by decide) rfl (fun ls hl => ?_)
          refine lv_iinc (v := (y3 + 1)) (lv' := [(3, .int (y3 + 1)), (2, .int (y2 + 0)), (0, .ref (a 0)), (1, .int y1)]) hx hb drf_Md_opens_44 hl (k := 3) rfl rfl (by decide) rfl (fun ls hl => ?_)
          refine lv_goto (tgt := 4) hx hb drf_Md_opens_47 (by decide) ?_
          exact ih y1 (y2 + 0) (y3 + 1) _ _ _ h hP hS (lv_sub hl [2, 3, 1, 0] rfl)
        · have h := ob_t c3 h
          refine lv_aload_n hx hb drf_Md_opens_22 rfl (lv_at hl 0 rfl) ?_
          refine rfg_Md_7 hx hb hts hown hK hP drf_Md_opens_23 ?_
          refine lv_aload_n hx hb drf_Md_opens_26 rfl (lv_at hl 0 rfl) ?_
          refine rfg_Md_49 hx hb hts hown hK hP drf_Md_opens_27 ?_
          refine lv_iload_n hx hb drf_Md_opens_30 rfl (lv_at hl 3 rfl) ?_
          obtain ⟨hi4, h⟩ := ob_i h
          refine rf_iald (i := 13) hx hb hK hP (by decide) rfl hi4 drf_Md_opens_31 ?_
          obtain ⟨hi5, h⟩ := ob_i h
          refine rf_iald (i := 0) hx hb hK hP (by decide) rfl hi5 drf_Md_opens_32 ?_
          refine lv_iload_n hx hb drf_Md_opens_33 rfl (lv_at hl 1 rfl) ?_
          refine lv_icmp_ne (tgt := 41) hx hb drf_Md_opens_34 (by decide) (fun c6 => ?_) (fun c6 => ?_)
          · have h := ob_f c6 h
            refine lv_iconst (v := 0) hx hb drf_Md_opens_41 (by decide) ?_
            refine lv_iadd hx hb drf_Md_opens_42 ?_
            refine lv_istore_n (lv' := [(2, .int (y2 + 0)), (0, .ref (a 0)), (1, .int y1), (3, .int y3)]) hx hb drf_Md_opens_43 rfl hl (by decide) rfl (fun ls hl => ?_)
            refine lv_iinc (v := (y3 + 1)) (lv' := [(3, .int (y3 + 1)), (2, .int (y2 + 0)), (0, .ref (a 0)), (1, .int y1)]) hx hb drf_Md_opens_44 hl (k := 3) rfl rfl (by decide) rfl (fun ls hl => ?_)
            refine lv_goto (tgt := 4) hx hb drf_Md_opens_47 (by decide) ?_
            exact ih y1 (y2 + 0) (y3 + 1) _ _ _ h hP hS (lv_sub hl [2, 3, 1, 0] rfl)
          · have h := ob_t c6 h
            refine lv_iconst (v := 1) hx hb drf_Md_opens_37 (by decide) ?_
            refine lv_goto (tgt := 42) hx hb drf_Md_opens_38 (by decide) ?_
            refine lv_iadd hx hb drf_Md_opens_42 ?_
            refine lv_istore_n (lv' := [(2, .int (y2 + 1)), (0, .ref (a 0)), (1, .int y1), (3, .int y3)]) hx hb drf_Md_opens_43 rfl hl (by decide) rfl (fun ls hl => ?_)
            refine lv_iinc (v := (y3 + 1)) (lv' := [(3, .int (y3 + 1)), (2, .int (y2 + 1)), (0, .ref (a 0)), (1, .int y1)]) hx hb drf_Md_opens_44 hl (k := 3) rfl rfl (by decide) rfl (fun ls hl => ?_)
            refine lv_goto (tgt := 4) hx hb drf_Md_opens_47 (by decide) ?_
            exact ih y1 (y2 + 1) (y3 + 1) _ _ _ h hP hS (lv_sub hl [2, 3, 1, 0] rfl)
  rw [rff_Md_opens] at h
  refine lv_iconst (v := 0) hx hb drf_Md_opens_0 (by decide) ?_
  refine lv_istore_n (lv' := [(2, .int 0), (0, .ref (a 0)), (1, .int x1)]) hx hb drf_Md_opens_1 rfl hl (by decide) rfl (fun ls hl => ?_)
  refine lv_iconst (v := 0) hx hb drf_Md_opens_2 (by decide) ?_
  refine lv_istore_n (lv' := [(3, .int 0), (2, .int 0), (0, .ref (a 0)), (1, .int x1)]) hx hb drf_Md_opens_3 rfl hl (by decide) rfl (fun ls hl => ?_)
  exact lp4 200 x1 0 0 _ _ _ h hP hS (lv_sub hl [2, 3, 1, 0] rfl)
set_option maxHeartbeats 4000000 in
set_option maxRecDepth 100000 in
theorem crf_Md_isDue (l : Launch) (D : va_G) (a : Nat → Nat) (k : Nat → ClassId) (hAd : rf_Ad a) (σ : ST) (x1 : Int32) (res : Int32) (h : rff_Md_isDue σ x1 = some res) : Met l rfy_Md_isDue rfs_Md_isDue rfr_Md_isDue (rf_Pc D a k σ [.ref (a 0), .int x1]) (va_Qi (fun (r : Int32) (u : ST) => r = res ∧ u = σ) (rf_B D a k) (rf_A a)) 0 0 (rf_A a) := by
  refine Met.ofW (cc := rfb_Md_isDue) (maxL := 5) (ret := (some .boolean)) (by decide) rfl ?_
  intro p e s m args below meth c s₁ B hml hv
  obtain ⟨rfl, hP, hK⟩ := hv
  have hx := B.exec
  have hb := B.bytes
  have hr := B.returns
  have hts : ∀ w ∈ ub_T, w.before _ s = true := fun w hw => atoms_spec (ws := rfs_Md_isDue) B.pre w (List.mem_cons_of_mem _ hw)
  have hown : s.vm.findClass rfR_Md = some m.cls := findClass_of_methodNamed B.named
  have hlocks := B.notSynchronized
  have hS : va_S (rf_A a) s.heap s.heap [] := va_S.rf
  have hl := lv_entry ([.ref (a 0), .int x1]) (n := 5) (Nat.le_of_ble_eq_true rfl)
  rw [lg_entry_eq]
  generalize (lg_sl ([.ref (a 0), .int x1]) ++ List.replicate (5 - (lg_sl ([.ref (a 0), .int x1])).length) Slot.unset).toArray = ls at hl ⊢
  have hl : lv_has ls 5 [(0, .ref (a 0)), (1, .int x1)] := hl
  have lp23 : ∀ (n : Nat) (y1 : Int32) (y2 : Int32) (y3 : Int32) (y4 : Int32) (H : Heap) (locs : List Loc) (ls : Array Slot), rfl_Md_isDue_23 σ n y1 y2 y3 y4 = some res → rf_P D a k σ H → va_S (rf_A a) s.heap H locs → lv_has ls 5 [(0, .ref (a 0)), (1, .int y1), (2, .int y2), (3, .int y3), (4, .int y4)] → W p l e (headSpec rfs_Md_isDue rfr_Md_isDue).room s m (([.ref (a 0), .int x1] : List Value)).toArray below meth c H locs 0 0 (MQ below (va_Qi (fun (r : Int32) (u : ST) => r = res ∧ u = σ) (rf_B D a k) (rf_A a)) (([.ref (a 0), .int x1] : List Value)).toArray s 0 0 (rf_A a)) (F0 m 23 ls []) := by
    intro n
    induction n with
    | zero =>
      intro y1 y2 y3 y4 H locs ls h
      exact absurd h (fun z => by cases z)
    | succ n ih =>
      intro y1 y2 y3 y4 H locs ls h hP hS hl
      rw [rfl_Md_isDue_23] at h
      refine lv_iload hx hb drf_Md_isDue_23 (lv_at hl 4 rfl) ?_
      refine lv_aload_n hx hb drf_Md_isDue_25 rfl (lv_at hl 0 rfl) ?_
      refine rfg_Md_71 hx hb hts hown hK hP drf_Md_isDue_26 ?_
      refine lv_icmp_ge (tgt := 93) hx hb drf_Md_isDue_29 (by decide) (fun c3 => ?_) (fun c3 => ?_)
      · have h := ob_t c3 h
        refine lv_iload_n hx hb drf_Md_isDue_93 rfl (lv_at hl 2 rfl) ?_
        refine lv_if_ne (tgt := 112) hx hb drf_Md_isDue_94 (by decide) (fun c4 => ?_) (fun c4 => ?_)
        · have h := ob_f c4 h
          refine lv_iconst (v := 1) hx hb drf_Md_isDue_112 (by decide) ?_
          refine lv_goto (tgt := 117) hx hb drf_Md_isDue_113 (by decide) ?_
          exact W.zret (ty := .boolean) (v := 1) hx hb hr rfl (fun t ht hW => ⟨⟨1, σ, rfl, ⟨Option.some.inj h, rfl⟩, by rw [ht]; exact hP, va_K.moved hW.alike hK⟩, hS.F ht⟩) hS.2.2 drf_Md_isDue_117
        · have h := ob_t c4 h
          refine lv_aload_n hx hb drf_Md_isDue_97 rfl (lv_at hl 0 rfl) ?_
          refine rfg_Md_106 hx hb hts hown hK hP drf_Md_isDue_98 ?_
          refine lv_aload_n hx hb drf_Md_isDue_101 rfl (lv_at hl 0 rfl) ?_
          refine rfg_Md_31 hx hb hts hown hK hP drf_Md_isDue_102 ?_
          refine lv_iload_n hx hb drf_Md_isDue_105 rfl (lv_at hl 1 rfl) ?_
          obtain ⟨hi5, h⟩ := ob_i h
          refine rf_iald (i := 7) hx hb hK hP (by decide) rfl hi5 drf_Md_isDue_106 ?_
          refine lv_isub hx hb drf_Md_isDue_107 ?_
          refine lv_iload_n hx hb drf_Md_isDue_108 rfl (lv_at hl 3 rfl) ?_
          refine lv_icmp_lt (tgt := 116) hx hb drf_Md_isDue_109 (by decide) (fun c6 => ?_) (fun c6 => ?_)
          · have h := ob_t c6 h
            refine lv_iconst (v := 0) hx hb drf_Md_isDue_116 (by decide) ?_
            exact W.zret (ty := .boolean) (v := 0) hx hb hr rfl (fun t ht hW => ⟨⟨0, σ, rfl, ⟨Option.some.inj h, rfl⟩, by rw [ht]; exact hP, va_K.moved hW.alike hK⟩, hS.F ht⟩) hS.2.2 drf_Md_isDue_117
          · have h := ob_f c6 h
            refine lv_iconst (v := 1) hx hb drf_Md_isDue_112 (by decide) ?_
            refine lv_goto (tgt := 117) hx hb drf_Md_isDue_113 (by decide) ?_
            exact W.zret (ty := .boolean) (v := 1) hx hb hr rfl (fun t ht hW => ⟨⟨1, σ, rfl, ⟨Option.some.inj h, rfl⟩, by rw [ht]; exact hP, va_K.moved hW.alike hK⟩, hS.F ht⟩) hS.2.2 drf_Md_isDue_117
      · have h := ob_f c3 h
        refine lv_aload_n hx hb drf_Md_isDue_32 rfl (lv_at hl 0 rfl) ?_
        refine lv_iload hx hb drf_Md_isDue_33 (lv_at hl 4 rfl) ?_
        refine lv_iload_n hx hb drf_Md_isDue_35 rfl (lv_at hl 1 rfl) ?_
        obtain ⟨q7, hq7, h⟩ := ob_b h
        refine rf_cv_ir (As := [.int y4, .int y1]) (rest := []) ⟨hx, hb, hml, hown, hts⟩ (crf_Md_areOne l D a k hAd σ y4 y1  q7 hq7) (rfc_Md_89 hts ⟨Nat.le_of_ble_eq_true rfl, Nat.le_of_ble_eq_true rfl⟩) (rf_rc0 hK hP) hK hP rfl hl.1 rfl (Nat.le_of_ble_eq_true rfl) drf_Md_isDue_36 hS (fun H locs hP hS => ?_)
        refine lv_if_ne (tgt := 45) hx hb drf_Md_isDue_39 (by decide) (fun c8 => ?_) (fun c8 => ?_)
        · have h := ob_f c8 h
          refine lv_iload_n hx hb drf_Md_isDue_45 rfl (lv_at hl 2 rfl) ?_
          refine lv_if_ne (tgt := 58) hx hb drf_Md_isDue_46 (by decide) (fun c9 => ?_) (fun c9 => ?_)
          · have h := ob_f c9 h
            refine lv_iconst (v := 1) hx hb drf_Md_isDue_58 (by decide) ?_
            refine lv_goto (tgt := 63) hx hb drf_Md_isDue_59 (by decide) ?_
            refine lv_istore_n (lv' := [(2, .int 1), (0, .ref (a 0)), (1, .int y1), (3, .int y3), (4, .int y4)]) hx hb drf_Md_isDue_63 rfl hl (by decide) rfl (fun ls hl => ?_)
            refine lv_aload_n hx hb drf_Md_isDue_64 rfl (lv_at hl 1 rfl) ?_
            refine rfg_Md_22 hx hb hts hown hK hP drf_Md_isDue_65 ?_
            refine lv_iload hx hb drf_Md_isDue_68 (lv_at hl 4 rfl) ?_
            obtain ⟨hi10, h⟩ := ob_i h
            refine rf_iald (i := 4) hx hb hK hP (by decide) rfl hi10 drf_Md_isDue_70 ?_
            refine lv_iload_n hx hb drf_Md_isDue_71 rfl (lv_at hl 3 rfl) ?_
            refine lv_icmp_ge (tgt := 85) hx hb drf_Md_isDue_72 (by decide) (fun c11 => ?_) (fun c11 => ?_)
            · have h := ob_t c11 h
              refine lv_iload_n hx hb drf_Md_isDue_85 rfl (lv_at hl 3 rfl) ?_
              refine lv_istore_n (lv' := [(3, .int y3), (2, .int 1), (0, .ref (a 0)), (1, .int y1), (4, .int y4)]) hx hb drf_Md_isDue_86 rfl hl (by decide) rfl (fun ls hl => ?_)
              refine lv_iinc (v := (y4 + 1)) (lv' := [(4, .int (y4 + 1)), (3, .int y3), (2, .int 1), (0, .ref (a 0)), (1, .int y1)]) hx hb drf_Md_isDue_87 hl (k := 4) rfl rfl (by decide) rfl (fun ls hl => ?_)
              refine lv_goto (tgt := 23) hx hb drf_Md_isDue_90 (by decide) ?_
              exact ih y1 1 y3 (y4 + 1) _ _ _ h hP hS (lv_sub hl [3, 4, 2, 1, 0] rfl)
            · have h := ob_f c11 h
              refine lv_aload_n hx hb drf_Md_isDue_75 rfl (lv_at hl 1 rfl) ?_
              refine rfg_Md_22 hx hb hts hown hK hP drf_Md_isDue_76 ?_
              refine lv_iload hx hb drf_Md_isDue_79 (lv_at hl 4 rfl) ?_
              obtain ⟨hi12, h⟩ := ob_i h
              refine rf_iald (i := 4) hx hb hK hP (by decide) rfl hi12 drf_Md_isDue_81 ?_
              refine lv_goto (tgt := 86) hx hb drf_Md_isDue_82 (by decide) ?_
              refine lv_istore_n (lv' := [(3, .int (σ 4 y4.toNatClampNeg)), (2, .int 1), (0, .ref (a 0)), (1, .int y1), (4, .int y4)]) hx hb drf_Md_isDue_86 rfl hl (by decide) rfl (fun ls hl => ?_)
              refine lv_iinc (v := (y4 + 1)) (lv' := [(4, .int (y4 + 1)), (3, .int (σ 4 y4.toNatClampNeg)), (2, .int 1), (0, .ref (a 0)), (1, .int y1)]) hx hb drf_Md_isDue_87 hl (k := 4) rfl rfl (by decide) rfl (fun ls hl => ?_)
              refine lv_goto (tgt := 23) hx hb drf_Md_isDue_90 (by decide) ?_
              exact ih y1 1 (σ 4 y4.toNatClampNeg) (y4 + 1) _ _ _ h hP hS (lv_sub hl [3, 4, 2, 1, 0] rfl)
          · have h := ob_t c9 h
            refine lv_aload_n hx hb drf_Md_isDue_49 rfl (lv_at hl 0 rfl) ?_
            refine lv_iload hx hb drf_Md_isDue_50 (lv_at hl 4 rfl) ?_
            obtain ⟨q13, hq13, h⟩ := ob_b h
            refine rf_cv_ir (As := [.int y4]) (rest := []) ⟨hx, hb, hml, hown, hts⟩ (crf_Md_isHit l D a k hAd σ y4  q13 hq13) (rfc_Md_82 hts ⟨Nat.le_of_ble_eq_true rfl, Nat.le_of_ble_eq_true rfl⟩) (rf_rc0 hK hP) hK hP rfl hl.1 rfl (Nat.le_of_ble_eq_true rfl) drf_Md_isDue_52 hS (fun H locs hP hS => ?_)
            refine lv_if_eq (tgt := 62) hx hb drf_Md_isDue_55 (by decide) (fun c14 => ?_) (fun c14 => ?_)
            · have h := ob_t c14 h
              refine lv_iconst (v := 0) hx hb drf_Md_isDue_62 (by decide) ?_
              refine lv_istore_n (lv' := [(2, .int 0), (0, .ref (a 0)), (1, .int y1), (3, .int y3), (4, .int y4)]) hx hb drf_Md_isDue_63 rfl hl (by decide) rfl (fun ls hl => ?_)
              refine lv_aload_n hx hb drf_Md_isDue_64 rfl (lv_at hl 1 rfl) ?_
              refine rfg_Md_22 hx hb hts hown hK hP drf_Md_isDue_65 ?_
              refine lv_iload hx hb drf_Md_isDue_68 (lv_at hl 4 rfl) ?_
              obtain ⟨hi15, h⟩ := ob_i h
              refine rf_iald (i := 4) hx hb hK hP (by decide) rfl hi15 drf_Md_isDue_70 ?_
              refine lv_iload_n hx hb drf_Md_isDue_71 rfl (lv_at hl 3 rfl) ?_
              refine lv_icmp_ge (tgt := 85) hx hb drf_Md_isDue_72 (by decide) (fun c16 => ?_) (fun c16 => ?_)
              · have h := ob_t c16 h
                refine lv_iload_n hx hb drf_Md_isDue_85 rfl (lv_at hl 3 rfl) ?_
                refine lv_istore_n (lv' := [(3, .int y3), (2, .int 0), (0, .ref (a 0)), (1, .int y1), (4, .int y4)]) hx hb drf_Md_isDue_86 rfl hl (by decide) rfl (fun ls hl => ?_)
                refine lv_iinc (v := (y4 + 1)) (lv' := [(4, .int (y4 + 1)), (3, .int y3), (2, .int 0), (0, .ref (a 0)), (1, .int y1)]) hx hb drf_Md_isDue_87 hl (k := 4) rfl rfl (by decide) rfl (fun ls hl => ?_)
                refine lv_goto (tgt := 23) hx hb drf_Md_isDue_90 (by decide) ?_
                exact ih y1 0 y3 (y4 + 1) _ _ _ h hP hS (lv_sub hl [3, 4, 2, 1, 0] rfl)
              · have h := ob_f c16 h
                refine lv_aload_n hx hb drf_Md_isDue_75 rfl (lv_at hl 1 rfl) ?_
                refine rfg_Md_22 hx hb hts hown hK hP drf_Md_isDue_76 ?_
                refine lv_iload hx hb drf_Md_isDue_79 (lv_at hl 4 rfl) ?_
                obtain ⟨hi17, h⟩ := ob_i h
                refine rf_iald (i := 4) hx hb hK hP (by decide) rfl hi17 drf_Md_isDue_81 ?_
                refine lv_goto (tgt := 86) hx hb drf_Md_isDue_82 (by decide) ?_
                refine lv_istore_n (lv' := [(3, .int (σ 4 y4.toNatClampNeg)), (2, .int 0), (0, .ref (a 0)), (1, .int y1), (4, .int y4)]) hx hb drf_Md_isDue_86 rfl hl (by decide) rfl (fun ls hl => ?_)
                refine lv_iinc (v := (y4 + 1)) (lv' := [(4, .int (y4 + 1)), (3, .int (σ 4 y4.toNatClampNeg)), (2, .int 0), (0, .ref (a 0)), (1, .int y1)]) hx hb drf_Md_isDue_87 hl (k := 4) rfl rfl (by decide) rfl (fun ls hl => ?_)
                refine lv_goto (tgt := 23) hx hb drf_Md_isDue_90 (by decide) ?_
                exact ih y1 0 (σ 4 y4.toNatClampNeg) (y4 + 1) _ _ _ h hP hS (lv_sub hl [3, 4, 2, 1, 0] rfl)
            · have h := ob_f c14 h
              refine lv_iconst (v := 1) hx hb drf_Md_isDue_58 (by decide) ?_
              refine lv_goto (tgt := 63) hx hb drf_Md_isDue_59 (by decide) ?_
              refine lv_istore_n (lv' := [(2, .int 1), (0, .ref (a 0)), (1, .int y1), (3, .int y3), (4, .int y4)]) hx hb drf_Md_isDue_63 rfl hl (by decide) rfl (fun ls hl => ?_)
              refine lv_aload_n hx hb drf_Md_isDue_64 rfl (lv_at hl 1 rfl) ?_
              refine rfg_Md_22 hx hb hts hown hK hP drf_Md_isDue_65 ?_
              refine lv_iload hx hb drf_Md_isDue_68 (lv_at hl 4 rfl) ?_
              obtain ⟨hi18, h⟩ := ob_i h
              refine rf_iald (i := 4) hx hb hK hP (by decide) rfl hi18 drf_Md_isDue_70 ?_
              refine lv_iload_n hx hb drf_Md_isDue_71 rfl (lv_at hl 3 rfl) ?_
              refine lv_icmp_ge (tgt := 85) hx hb drf_Md_isDue_72 (by decide) (fun c19 => ?_) (fun c19 => ?_)
              · have h := ob_t c19 h
                refine lv_iload_n hx hb drf_Md_isDue_85 rfl (lv_at hl 3 rfl) ?_
                refine lv_istore_n (lv' := [(3, .int y3), (2, .int 1), (0, .ref (a 0)), (1, .int y1), (4, .int y4)]) hx hb drf_Md_isDue_86 rfl hl (by decide) rfl (fun ls hl => ?_)
                refine lv_iinc (v := (y4 + 1)) (lv' := [(4, .int (y4 + 1)), (3, .int y3), (2, .int 1), (0, .ref (a 0)), (1, .int y1)]) hx hb drf_Md_isDue_87 hl (k := 4) rfl rfl (by decide) rfl (fun ls hl => ?_)
                refine lv_goto (tgt := 23) hx hb drf_Md_isDue_90 (by decide) ?_
                exact ih y1 1 y3 (y4 + 1) _ _ _ h hP hS (lv_sub hl [3, 4, 2, 1, 0] rfl)
              · have h := ob_f c19 h
                refine lv_aload_n hx hb drf_Md_isDue_75 rfl (lv_at hl 1 rfl) ?_
                refine rfg_Md_22 hx hb hts hown hK hP drf_Md_isDue_76 ?_
                refine lv_iload hx hb drf_Md_isDue_79 (lv_at hl 4 rfl) ?_
                obtain ⟨hi20, h⟩ := ob_i h
                refine rf_iald (i := 4) hx hb hK hP (by decide) rfl hi20 drf_Md_isDue_81 ?_
                refine lv_goto (tgt := 86) hx hb drf_Md_isDue_82 (by decide) ?_
                refine lv_istore_n (lv' := [(3, .int (σ 4 y4.toNatClampNeg)), (2, .int 1), (0, .ref (a 0)), (1, .int y1), (4, .int y4)]) hx hb drf_Md_isDue_86 rfl hl (by decide) rfl (fun ls hl => ?_)
                refine lv_iinc (v := (y4 + 1)) (lv' := [(4, .int (y4 + 1)), (3, .int (σ 4 y4.toNatClampNeg)), (2, .int 1), (0, .ref (a 0)), (1, .int y1)]) hx hb drf_Md_isDue_87 hl (k := 4) rfl rfl (by decide) rfl (fun ls hl => ?_)
                refine lv_goto (tgt := 23) hx hb drf_Md_isDue_90 (by decide) ?_
                exact ih y1 1 (σ 4 y4.toNatClampNeg) (y4 + 1) _ _ _ h hP hS (lv_sub hl [3, 4, 2, 1, 0] rfl)
        · have h := ob_t c8 h
          refine lv_goto (tgt := 87) hx hb drf_Md_isDue_42 (by decide) ?_
          refine lv_iinc (v := (y4 + 1)) (lv' := [(4, .int (y4 + 1)), (0, .ref (a 0)), (1, .int y1), (2, .int y2), (3, .int y3)]) hx hb drf_Md_isDue_87 hl (k := 4) rfl rfl (by decide) rfl (fun ls hl => ?_)
          refine lv_goto (tgt := 23) hx hb drf_Md_isDue_90 (by decide) ?_
          exact ih y1 y2 y3 (y4 + 1) _ _ _ h hP hS (lv_sub hl [1, 2, 3, 4, 0] rfl)
  rw [rff_Md_isDue] at h
  refine lv_aload_n hx hb drf_Md_isDue_0 rfl (lv_at hl 0 rfl) ?_
  refine rfg_Md_31 hx hb hts hown hK hP drf_Md_isDue_1 ?_
  refine lv_iload_n hx hb drf_Md_isDue_4 rfl (lv_at hl 1 rfl) ?_
  obtain ⟨hi1, h⟩ := ob_i h
  refine rf_iald (i := 7) hx hb hK hP (by decide) rfl hi1 drf_Md_isDue_5 ?_
  refine lv_iconst (v := (-1)) hx hb drf_Md_isDue_6 (by decide) ?_
  refine lv_icmp_ne (tgt := 14) hx hb drf_Md_isDue_7 (by decide) (fun c2 => ?_) (fun c2 => ?_)
  · have h := ob_f c2 h
    refine lv_iconst (v := 0) hx hb drf_Md_isDue_14 (by decide) ?_
    refine lv_istore_n (lv' := [(2, .int 0), (0, .ref (a 0)), (1, .int x1)]) hx hb drf_Md_isDue_15 rfl hl (by decide) rfl (fun ls hl => ?_)
    refine lv_sipush (v := 1000) hx hb drf_Md_isDue_16 (by decide) ?_
    refine lv_istore_n (lv' := [(3, .int 1000), (2, .int 0), (0, .ref (a 0)), (1, .int x1)]) hx hb drf_Md_isDue_19 rfl hl (by decide) rfl (fun ls hl => ?_)
    refine lv_iconst (v := 0) hx hb drf_Md_isDue_20 (by decide) ?_
    refine lv_istore (lv' := [(4, .int 0), (3, .int 1000), (2, .int 0), (0, .ref (a 0)), (1, .int x1)]) hx hb drf_Md_isDue_21 hl (by decide) rfl (fun ls hl => ?_)
    exact lp23 200 x1 0 1000 0 _ _ _ h hP hS (lv_sub hl [3, 4, 2, 1, 0] rfl)
  · have h := ob_t c2 h
    refine lv_iconst (v := 1) hx hb drf_Md_isDue_10 (by decide) ?_
    refine lv_goto (tgt := 15) hx hb drf_Md_isDue_11 (by decide) ?_
    refine lv_istore_n (lv' := [(2, .int 1), (0, .ref (a 0)), (1, .int x1)]) hx hb drf_Md_isDue_15 rfl hl (by decide) rfl (fun ls hl => ?_)
    refine lv_sipush (v := 1000) hx hb drf_Md_isDue_16 (by decide) ?_
    refine lv_istore_n (lv' := [(3, .int 1000), (2, .int 1), (0, .ref (a 0)), (1, .int x1)]) hx hb drf_Md_isDue_19 rfl hl (by decide) rfl (fun ls hl => ?_)
    refine lv_iconst (v := 0) hx hb drf_Md_isDue_20 (by decide) ?_
    refine lv_istore (lv' := [(4, .int 0), (3, .int 1000), (2, .int 1), (0, .ref (a 0)), (1, .int x1)]) hx hb drf_Md_isDue_21 hl (by decide) rfl (fun ls hl => ?_)
    exact lp23 200 x1 1 1000 0 _ _ _ h hP hS (lv_sub hl [3, 4, 2, 1, 0] rfl)
set_option maxHeartbeats 4000000 in
set_option maxRecDepth 100000 in
theorem crf_Md_isUnitHit (l : Launch) (D : va_G) (a : Nat → Nat) (k : Nat → ClassId) (hAd : rf_Ad a) (σ : ST) (x1 : Int32) (res : Int32) (h : rff_Md_isUnitHit σ x1 = some res) : Met l rfy_Md_isUnitHit rfs_Md_isUnitHit rfr_Md_isUnitHit (rf_Pc D a k σ [.ref (a 0), .int x1]) (va_Qi (fun (r : Int32) (u : ST) => r = res ∧ u = σ) (rf_B D a k) (rf_A a)) 0 0 (rf_A a) := by
  refine Met.ofW (cc := rfb_Md_isUnitHit) (maxL := 4) (ret := (some .boolean)) (by decide) rfl ?_
  intro p e s m args below meth c s₁ B hml hv
  obtain ⟨rfl, hP, hK⟩ := hv
  have hx := B.exec
  have hb := B.bytes
  have hr := B.returns
  have hts : ∀ w ∈ ub_T, w.before _ s = true := fun w hw => atoms_spec (ws := rfs_Md_isUnitHit) B.pre w (List.mem_cons_of_mem _ hw)
  have hown : s.vm.findClass rfR_Md = some m.cls := findClass_of_methodNamed B.named
  have hlocks := B.notSynchronized
  have hS : va_S (rf_A a) s.heap s.heap [] := va_S.rf
  have hl := lv_entry ([.ref (a 0), .int x1]) (n := 4) (Nat.le_of_ble_eq_true rfl)
  rw [lg_entry_eq]
  generalize (lg_sl ([.ref (a 0), .int x1]) ++ List.replicate (4 - (lg_sl ([.ref (a 0), .int x1])).length) Slot.unset).toArray = ls at hl ⊢
  have hl : lv_has ls 4 [(0, .ref (a 0)), (1, .int x1)] := hl
  have lp4 : ∀ (n : Nat) (y1 : Int32) (y2 : Int32) (y3 : Int32) (H : Heap) (locs : List Loc) (ls : Array Slot), rfl_Md_isUnitHit_4 σ n y1 y2 y3 = some res → rf_P D a k σ H → va_S (rf_A a) s.heap H locs → lv_has ls 4 [(0, .ref (a 0)), (1, .int y1), (2, .int y2), (3, .int y3)] → W p l e (headSpec rfs_Md_isUnitHit rfr_Md_isUnitHit).room s m (([.ref (a 0), .int x1] : List Value)).toArray below meth c H locs 0 0 (MQ below (va_Qi (fun (r : Int32) (u : ST) => r = res ∧ u = σ) (rf_B D a k) (rf_A a)) (([.ref (a 0), .int x1] : List Value)).toArray s 0 0 (rf_A a)) (F0 m 4 ls []) := by
    intro n
    induction n with
    | zero =>
      intro y1 y2 y3 H locs ls h
      exact absurd h (fun z => by cases z)
    | succ n ih =>
      intro y1 y2 y3 H locs ls h hP hS hl
      rw [rfl_Md_isUnitHit_4] at h
      refine lv_iload_n hx hb drf_Md_isUnitHit_4 rfl (lv_at hl 3 rfl) ?_
      refine lv_aload_n hx hb drf_Md_isUnitHit_5 rfl (lv_at hl 0 rfl) ?_
      refine rfg_Md_71 hx hb hts hown hK hP drf_Md_isUnitHit_6 ?_
      refine lv_icmp_ge (tgt := 45) hx hb drf_Md_isUnitHit_9 (by decide) (fun c1 => ?_) (fun c1 => ?_)
      · have h := ob_t c1 h
        refine lv_iload_n hx hb drf_Md_isUnitHit_45 rfl (lv_at hl 2 rfl) ?_
        obtain ⟨hz2, h⟩ := ob_i h
        exact W.zret (ty := .boolean) (v := y2) hx hb hr (ub_nar hz2) (fun t ht hW => ⟨⟨y2, σ, rfl, ⟨Option.some.inj h, rfl⟩, by rw [ht]; exact hP, va_K.moved hW.alike hK⟩, hS.F ht⟩) hS.2.2 drf_Md_isUnitHit_46
      · have h := ob_f c1 h
        refine lv_iload_n hx hb drf_Md_isUnitHit_12 rfl (lv_at hl 2 rfl) ?_
        refine lv_if_ne (tgt := 33) hx hb drf_Md_isUnitHit_13 (by decide) (fun c3 => ?_) (fun c3 => ?_)
        · have h := ob_f c3 h
          refine lv_iconst (v := 1) hx hb drf_Md_isUnitHit_33 (by decide) ?_
          refine lv_goto (tgt := 38) hx hb drf_Md_isUnitHit_34 (by decide) ?_
          refine lv_istore_n (lv' := [(2, .int 1), (0, .ref (a 0)), (1, .int y1), (3, .int y3)]) hx hb drf_Md_isUnitHit_38 rfl hl (by decide) rfl (fun ls hl => ?_)
          refine lv_iinc (v := (y3 + 1)) (lv' := [(3, .int (y3 + 1)), (2, .int 1), (0, .ref (a 0)), (1, .int y1)]) hx hb drf_Md_isUnitHit_39 hl (k := 3) rfl rfl (by decide) rfl (fun ls hl => ?_)
          refine lv_goto (tgt := 4) hx hb drf_Md_isUnitHit_42 (by decide) ?_
          exact ih y1 1 (y3 + 1) _ _ _ h hP hS (lv_sub hl [2, 3, 1, 0] rfl)
        · have h := ob_t c3 h
          refine lv_aload_n hx hb drf_Md_isUnitHit_16 rfl (lv_at hl 0 rfl) ?_
          refine lv_iload_n hx hb drf_Md_isUnitHit_17 rfl (lv_at hl 3 rfl) ?_
          refine lv_iload_n hx hb drf_Md_isUnitHit_18 rfl (lv_at hl 1 rfl) ?_
          obtain ⟨q4, hq4, h⟩ := ob_b h
          refine rf_cv_ir (As := [.int y3, .int y1]) (rest := []) ⟨hx, hb, hml, hown, hts⟩ (crf_Md_areOne l D a k hAd σ y3 y1  q4 hq4) (rfc_Md_89 hts ⟨Nat.le_of_ble_eq_true rfl, Nat.le_of_ble_eq_true rfl⟩) (rf_rc0 hK hP) hK hP rfl hl.1 rfl (Nat.le_of_ble_eq_true rfl) drf_Md_isUnitHit_19 hS (fun H locs hP hS => ?_)
          refine lv_if_eq (tgt := 37) hx hb drf_Md_isUnitHit_22 (by decide) (fun c5 => ?_) (fun c5 => ?_)
          · have h := ob_t c5 h
            refine lv_iconst (v := 0) hx hb drf_Md_isUnitHit_37 (by decide) ?_
            refine lv_istore_n (lv' := [(2, .int 0), (0, .ref (a 0)), (1, .int y1), (3, .int y3)]) hx hb drf_Md_isUnitHit_38 rfl hl (by decide) rfl (fun ls hl => ?_)
            refine lv_iinc (v := (y3 + 1)) (lv' := [(3, .int (y3 + 1)), (2, .int 0), (0, .ref (a 0)), (1, .int y1)]) hx hb drf_Md_isUnitHit_39 hl (k := 3) rfl rfl (by decide) rfl (fun ls hl => ?_)
            refine lv_goto (tgt := 4) hx hb drf_Md_isUnitHit_42 (by decide) ?_
            exact ih y1 0 (y3 + 1) _ _ _ h hP hS (lv_sub hl [2, 3, 1, 0] rfl)
          · have h := ob_f c5 h
            refine lv_aload_n hx hb drf_Md_isUnitHit_25 rfl (lv_at hl 0 rfl) ?_
            refine lv_iload_n hx hb drf_Md_isUnitHit_26 rfl (lv_at hl 3 rfl) ?_
            obtain ⟨q6, hq6, h⟩ := ob_b h
            refine rf_cv_ir (As := [.int y3]) (rest := []) ⟨hx, hb, hml, hown, hts⟩ (crf_Md_isHit l D a k hAd σ y3  q6 hq6) (rfc_Md_82 hts ⟨Nat.le_of_ble_eq_true rfl, Nat.le_of_ble_eq_true rfl⟩) (rf_rc0 hK hP) hK hP rfl hl.1 rfl (Nat.le_of_ble_eq_true rfl) drf_Md_isUnitHit_27 hS (fun H locs hP hS => ?_)
            refine lv_if_eq (tgt := 37) hx hb drf_Md_isUnitHit_30 (by decide) (fun c7 => ?_) (fun c7 => ?_)
            · have h := ob_t c7 h
              refine lv_iconst (v := 0) hx hb drf_Md_isUnitHit_37 (by decide) ?_
              refine lv_istore_n (lv' := [(2, .int 0), (0, .ref (a 0)), (1, .int y1), (3, .int y3)]) hx hb drf_Md_isUnitHit_38 rfl hl (by decide) rfl (fun ls hl => ?_)
              refine lv_iinc (v := (y3 + 1)) (lv' := [(3, .int (y3 + 1)), (2, .int 0), (0, .ref (a 0)), (1, .int y1)]) hx hb drf_Md_isUnitHit_39 hl (k := 3) rfl rfl (by decide) rfl (fun ls hl => ?_)
              refine lv_goto (tgt := 4) hx hb drf_Md_isUnitHit_42 (by decide) ?_
              exact ih y1 0 (y3 + 1) _ _ _ h hP hS (lv_sub hl [2, 3, 1, 0] rfl)
            · have h := ob_f c7 h
              refine lv_iconst (v := 1) hx hb drf_Md_isUnitHit_33 (by decide) ?_
              refine lv_goto (tgt := 38) hx hb drf_Md_isUnitHit_34 (by decide) ?_
              refine lv_istore_n (lv' := [(2, .int 1), (0, .ref (a 0)), (1, .int y1), (3, .int y3)]) hx hb drf_Md_isUnitHit_38 rfl hl (by decide) rfl (fun ls hl => ?_)
              refine lv_iinc (v := (y3 + 1)) (lv' := [(3, .int (y3 + 1)), (2, .int 1), (0, .ref (a 0)), (1, .int y1)]) hx hb drf_Md_isUnitHit_39 hl (k := 3) rfl rfl (by decide) rfl (fun ls hl => ?_)
              refine lv_goto (tgt := 4) hx hb drf_Md_isUnitHit_42 (by decide) ?_
              exact ih y1 1 (y3 + 1) _ _ _ h hP hS (lv_sub hl [2, 3, 1, 0] rfl)
  rw [rff_Md_isUnitHit] at h
  refine lv_iconst (v := 0) hx hb drf_Md_isUnitHit_0 (by decide) ?_
  refine lv_istore_n (lv' := [(2, .int 0), (0, .ref (a 0)), (1, .int x1)]) hx hb drf_Md_isUnitHit_1 rfl hl (by decide) rfl (fun ls hl => ?_)
  refine lv_iconst (v := 0) hx hb drf_Md_isUnitHit_2 (by decide) ?_
  refine lv_istore_n (lv' := [(3, .int 0), (2, .int 0), (0, .ref (a 0)), (1, .int x1)]) hx hb drf_Md_isUnitHit_3 rfl hl (by decide) rfl (fun ls hl => ?_)
  exact lp4 200 x1 0 0 _ _ _ h hP hS (lv_sub hl [2, 3, 1, 0] rfl)

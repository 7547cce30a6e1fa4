set_option maxHeartbeats 4000000 in
set_option maxRecDepth 100000 in
theorem crf_Md_isName (l : Launch) (D : va_G) (a : Nat → Nat) (k : Nat → ClassId) (hAd : rf_Ad a) (σ : ST) (x1 : Int32) (res : Int32) (h : rff_Md_isName σ x1 = some res) : Met l rfy_Md_isName rfs_Md_isName rfr_Md_isName (rf_Pc D a k σ [.ref (a 0), .int x1]) (va_Qi (fun (r : Int32) (u : ST) => r = res ∧ u = σ) (rf_B D a k) (rf_A a)) 0 0 (rf_A a) := by
  refine Met.ofW (cc := rfb_Md_isName) (maxL := 2) (ret := (some .boolean)) (by decide) rfl ?_
  intro p e s m args below meth c s₁ B hml hv
  obtain ⟨rfl, hP, hK⟩ := hv
  have hx := B.exec
  have hb := B.bytes
  have hr := B.returns
  have hts : ∀ w ∈ ub_T, w.before _ s = true := fun w hw => atoms_spec (ws := rfs_Md_isName) B.pre w (List.mem_cons_of_mem _ hw)
  have hown : s.vm.findClass rfR_Md = some m.cls := findClass_of_methodNamed B.named
  have hlocks := B.notSynchronized
  have hS : va_S (rf_A a) s.heap s.heap [] := va_S.rf
  have hl := lv_entry ([.ref (a 0), .int x1]) (n := 2) (Nat.le_of_ble_eq_true rfl)
  rw [lg_entry_eq]
  generalize (lg_sl ([.ref (a 0), .int x1]) ++ List.replicate (2 - (lg_sl ([.ref (a 0), .int x1])).length) Slot.unset).toArray = ls at hl ⊢
  have hl : lv_has ls 2 [(0, .ref (a 0)), (1, .int x1)] := hl
  rw [rff_Md_isName] at h
  refine lv_iload_n hx hb drf_Md_isName_0 rfl (lv_at hl 1 rfl) ?_
  refine lv_if_lt (tgt := 16) hx hb drf_Md_isName_1 (by decide) (fun c1 => ?_) (fun c1 => ?_)
  · have h := ob_t c1 h
    refine lv_iconst (v := 0) hx hb drf_Md_isName_16 (by decide) ?_
    exact W.zret (ty := .boolean) (v := 0) hx hb hr rfl (fun t ht hW => ⟨⟨0, σ, rfl, ⟨Option.some.inj h, rfl⟩, by rw [ht]; exact hP, va_K.moved hW.alike hK⟩, hS.F ht⟩) hS.2.2 drf_Md_isName_17
  · have h := ob_f c1 h
    refine lv_iload_n hx hb drf_Md_isName_4 rfl (lv_at hl 1 rfl) ?_
    refine lv_aload_n hx hb drf_Md_isName_5 rfl (lv_at hl 0 rfl) ?_
    refine rfg_Md_71 hx hb hts hown hK hP drf_Md_isName_6 ?_
    refine lv_icmp_ge (tgt := 16) hx hb drf_Md_isName_9 (by decide) (fun c2 => ?_) (fun c2 => ?_)
    · have h := ob_t c2 h
      refine lv_iconst (v := 0) hx hb drf_Md_isName_16 (by decide) ?_
      exact W.zret (ty := .boolean) (v := 0) hx hb hr rfl (fun t ht hW => ⟨⟨0, σ, rfl, ⟨Option.some.inj h, rfl⟩, by rw [ht]; exact hP, va_K.moved hW.alike hK⟩, hS.F ht⟩) hS.2.2 drf_Md_isName_17
    · have h := ob_f c2 h
      refine lv_iconst (v := 1) hx hb drf_Md_isName_12 (by decide) ?_
      refine lv_goto (tgt := 17) hx hb drf_Md_isName_13 (by decide) ?_
      exact W.zret (ty := .boolean) (v := 1) hx hb hr rfl (fun t ht hW => ⟨⟨1, σ, rfl, ⟨Option.some.inj h, rfl⟩, by rw [ht]; exact hP, va_K.moved hW.alike hK⟩, hS.F ht⟩) hS.2.2 drf_Md_isName_17
set_option maxHeartbeats 4000000 in
set_option maxRecDepth 100000 in
theorem crf_Md_name (l : Launch) (D : va_G) (a : Nat → Nat) (k : Nat → ClassId) (hAd : rf_Ad a) (σ : ST) (x1 : Int32) (res : Int32 × ST) (h : rff_Md_name σ x1 = some res) : Met l rfy_Md_name rfs_Md_name rfr_Md_name (rf_Pc D a k σ [.ref (a 0), .int x1]) (va_Qi (fun (r : Int32) (u : ST) => r = res.1 ∧ u = res.2) (rf_B D a k) (rf_A a)) 0 0 (rf_A a) := by
  refine Met.ofW (cc := rfb_Md_name) (maxL := 2) (ret := (some .int)) (by decide) rfl ?_
  intro p e s m args below meth c s₁ B hml hv
  obtain ⟨rfl, hP, hK⟩ := hv
  have hx := B.exec
  have hb := B.bytes
  have hr := B.returns
  have hts : ∀ w ∈ ub_T, w.before _ s = true := fun w hw => atoms_spec (ws := rfs_Md_name) B.pre w (List.mem_cons_of_mem _ hw)
  have hown : s.vm.findClass rfR_Md = some m.cls := findClass_of_methodNamed B.named
  have hlocks := B.notSynchronized
  have hS : va_S (rf_A a) s.heap s.heap [] := va_S.rf
  have hl := lv_entry ([.ref (a 0), .int x1]) (n := 2) (Nat.le_of_ble_eq_true rfl)
  rw [lg_entry_eq]
  generalize (lg_sl ([.ref (a 0), .int x1]) ++ List.replicate (2 - (lg_sl ([.ref (a 0), .int x1])).length) Slot.unset).toArray = ls at hl ⊢
  have hl : lv_has ls 2 [(0, .ref (a 0)), (1, .int x1)] := hl
  have jp23 : ∀ (σ : ST) (y1 : Int32) (H : Heap) (locs : List Loc) (ls : Array Slot), rfj_Md_name_23 σ y1 = some res → rf_P D a k σ H → va_S (rf_A a) s.heap H locs → lv_has ls 2 [(0, .ref (a 0)), (1, .int y1)] → W p l e (headSpec rfs_Md_name rfr_Md_name).room s m (([.ref (a 0), .int x1] : List Value)).toArray below meth c H locs 0 0 (MQ below (va_Qi (fun (r : Int32) (u : ST) => r = res.1 ∧ u = res.2) (rf_B D a k) (rf_A a)) (([.ref (a 0), .int x1] : List Value)).toArray s 0 0 (rf_A a)) (F0 m 23 ls []) := by
    intro σ y1 H locs ls h hP hS hl
    rw [rfj_Md_name_23] at h
    refine lv_iconst (v := (-1)) hx hb drf_Md_name_23 (by decide) ?_
    exact W.iret (v := (-1)) hx hb hr (fun t ht hW => ⟨⟨(-1), σ, rfl, ob_r h, by rw [ht]; exact hP, va_K.moved hW.alike hK⟩, hS.F ht⟩) hS.2.2 drf_Md_name_24
  rw [rff_Md_name] at h
  refine lv_aload_n hx hb drf_Md_name_0 rfl (lv_at hl 0 rfl) ?_
  refine lv_iconst (v := 0) hx hb drf_Md_name_1 (by decide) ?_
  refine rfp_Md_68 hx hb hts hown hK hP hAd hS drf_Md_name_2 (fun H locs hP hS => ?_)
  refine lv_aload_n hx hb drf_Md_name_5 rfl (lv_at hl 0 rfl) ?_
  refine rfg_Md_71 hx hb hts hown hK hP drf_Md_name_6 ?_
  refine W.eq (g2 := F0 m 9 ls [.int (σ 18 3)]) rfl ?_
  refine lv_bipush (v := 12) hx hb drf_Md_name_9 (by decide) ?_
  refine lv_icmp_eq (tgt := 23) hx hb drf_Md_name_11 (by decide) (fun c1 => ?_) (fun c1 => ?_)
  · have h := ob_t c1 h
    exact jp23 (wr σ 18 1 0) x1 _ _ _ h hP hS (lv_sub hl [0, 1] rfl)
  · have h := ob_f c1 h
    refine lv_iload_n hx hb drf_Md_name_14 rfl (lv_at hl 1 rfl) ?_
    refine lv_if_lt (tgt := 23) hx hb drf_Md_name_15 (by decide) (fun c2 => ?_) (fun c2 => ?_)
    · have h := ob_t c2 h
      exact jp23 (wr σ 18 1 0) x1 _ _ _ h hP hS (lv_sub hl [0, 1] rfl)
    · have h := ob_f c2 h
      refine lv_iload_n hx hb drf_Md_name_18 rfl (lv_at hl 1 rfl) ?_
      refine lv_iconst (v := 2) hx hb drf_Md_name_19 (by decide) ?_
      refine lv_icmp_le (tgt := 25) hx hb drf_Md_name_20 (by decide) (fun c3 => ?_) (fun c3 => ?_)
      · have h := ob_t c3 h
        refine lv_aload_n hx hb drf_Md_name_25 rfl (lv_at hl 0 rfl) ?_
        refine rfg_Md_7 hx hb hts hown hK hP drf_Md_name_26 ?_
        refine lv_aload_n hx hb drf_Md_name_29 rfl (lv_at hl 0 rfl) ?_
        refine rfg_Md_71 hx hb hts hown hK hP drf_Md_name_30 ?_
        refine W.eq (g2 := F0 m 33 ls [.int (σ 18 3), .ref (a (0 + 1))]) rfl ?_
        refine lv_iload_n hx hb drf_Md_name_33 rfl (lv_at hl 1 rfl) ?_
        obtain ⟨hi4, h⟩ := ob_i h
        refine rf_iast (i := 0) hx hb hK hP hAd hS (by decide) rfl hi4 drf_Md_name_34 (fun H locs hP hS => ?_)
        refine lv_aload_n hx hb drf_Md_name_35 rfl (lv_at hl 0 rfl) ?_
        refine rfg_Md_19 hx hb hts hown hK hP drf_Md_name_36 ?_
        refine lv_aload_n hx hb drf_Md_name_39 rfl (lv_at hl 0 rfl) ?_
        refine rfg_Md_71 hx hb hts hown hK hP drf_Md_name_40 ?_
        refine W.eq (g2 := F0 m 43 ls [.int (σ 18 3), .ref (a (3 + 1))]) rfl ?_
        refine lv_iconst (v := 2) hx hb drf_Md_name_43 (by decide) ?_
        obtain ⟨hi5, h⟩ := ob_i h
        refine rf_iast (i := 3) hx hb hK hP hAd hS (by decide) rfl hi5 drf_Md_name_44 (fun H locs hP hS => ?_)
        refine lv_aload_n hx hb drf_Md_name_45 rfl (lv_at hl 0 rfl) ?_
        refine rfg_Md_22 hx hb hts hown hK hP drf_Md_name_46 ?_
        refine lv_aload_n hx hb drf_Md_name_49 rfl (lv_at hl 0 rfl) ?_
        refine rfg_Md_71 hx hb hts hown hK hP drf_Md_name_50 ?_
        refine W.eq (g2 := F0 m 53 ls [.int (σ 18 3), .ref (a (4 + 1))]) rfl ?_
        refine lv_iconst (v := 1) hx hb drf_Md_name_53 (by decide) ?_
        obtain ⟨hi6, h⟩ := ob_i h
        refine rf_iast (i := 4) hx hb hK hP hAd hS (by decide) rfl hi6 drf_Md_name_54 (fun H locs hP hS => ?_)
        refine lv_aload_n hx hb drf_Md_name_55 rfl (lv_at hl 0 rfl) ?_
        refine rfg_Md_25 hx hb hts hown hK hP drf_Md_name_56 ?_
        refine lv_aload_n hx hb drf_Md_name_59 rfl (lv_at hl 0 rfl) ?_
        refine rfg_Md_71 hx hb hts hown hK hP drf_Md_name_60 ?_
        refine W.eq (g2 := F0 m 63 ls [.int (σ 18 3), .ref (a (5 + 1))]) rfl ?_
        refine lv_iconst (v := (-1)) hx hb drf_Md_name_63 (by decide) ?_
        obtain ⟨hi7, h⟩ := ob_i h
        refine rf_iast (i := 5) hx hb hK hP hAd hS (by decide) rfl hi7 drf_Md_name_64 (fun H locs hP hS => ?_)
        refine lv_aload_n hx hb drf_Md_name_65 rfl (lv_at hl 0 rfl) ?_
        refine rfg_Md_28 hx hb hts hown hK hP drf_Md_name_66 ?_
        refine lv_aload_n hx hb drf_Md_name_69 rfl (lv_at hl 0 rfl) ?_
        refine rfg_Md_71 hx hb hts hown hK hP drf_Md_name_70 ?_
        refine W.eq (g2 := F0 m 73 ls [.int (σ 18 3), .ref (a (6 + 1))]) rfl ?_
        refine lv_iconst (v := (-1)) hx hb drf_Md_name_73 (by decide) ?_
        obtain ⟨hi8, h⟩ := ob_i h
        refine rf_iast (i := 6) hx hb hK hP hAd hS (by decide) rfl hi8 drf_Md_name_74 (fun H locs hP hS => ?_)
        refine lv_aload_n hx hb drf_Md_name_75 rfl (lv_at hl 0 rfl) ?_
        refine rfg_Md_31 hx hb hts hown hK hP drf_Md_name_76 ?_
        refine lv_aload_n hx hb drf_Md_name_79 rfl (lv_at hl 0 rfl) ?_
        refine rfg_Md_71 hx hb hts hown hK hP drf_Md_name_80 ?_
        refine W.eq (g2 := F0 m 83 ls [.int (σ 18 3), .ref (a (7 + 1))]) rfl ?_
        refine lv_iconst (v := (-1)) hx hb drf_Md_name_83 (by decide) ?_
        obtain ⟨hi9, h⟩ := ob_i h
        refine rf_iast (i := 7) hx hb hK hP hAd hS (by decide) rfl hi9 drf_Md_name_84 (fun H locs hP hS => ?_)
        refine lv_aload_n hx hb drf_Md_name_85 rfl (lv_at hl 0 rfl) ?_
        refine rfg_Md_37 hx hb hts hown hK hP drf_Md_name_86 ?_
        refine lv_bipush (v := 8) hx hb drf_Md_name_89 (by decide) ?_
        refine lv_aload_n hx hb drf_Md_name_91 rfl (lv_at hl 0 rfl) ?_
        refine rfg_Md_71 hx hb hts hown hK hP drf_Md_name_92 ?_
        refine W.eq (g2 := F0 m 95 ls [.int (σ 18 3), .int 8, .ref (a (9 + 1))]) rfl ?_
        refine lv_imul hx hb drf_Md_name_95 ?_
        refine lv_iconst (v := (-1)) hx hb drf_Md_name_96 (by decide) ?_
        obtain ⟨hi10, h⟩ := ob_i h
        refine rf_iast (i := 9) hx hb hK hP hAd hS (by decide) rfl hi10 drf_Md_name_97 (fun H locs hP hS => ?_)
        refine lv_aload_n hx hb drf_Md_name_98 rfl (lv_at hl 0 rfl) ?_
        refine lv_dup hx hb drf_Md_name_99 rfl ?_
        refine rfg_Md_71 hx hb hts hown hK hP drf_Md_name_100 ?_
        refine W.eq (g2 := F0 m 103 ls [.int (σ 18 3), .ref (a 0)]) rfl ?_
        refine lv_iconst (v := 1) hx hb drf_Md_name_103 (by decide) ?_
        refine lv_iadd hx hb drf_Md_name_104 ?_
        refine rfp_Md_71 hx hb hts hown hK hP hAd hS drf_Md_name_105 (fun H locs hP hS => ?_)
        refine lv_aload_n hx hb drf_Md_name_108 rfl (lv_at hl 0 rfl) ?_
        refine rfg_Md_71 hx hb hts hown hK hP drf_Md_name_109 ?_
        refine W.eq (g2 := F0 m 112 ls [.int ((σ 18 3) + 1)]) rfl ?_
        refine lv_iconst (v := 1) hx hb drf_Md_name_112 (by decide) ?_
        refine lv_isub hx hb drf_Md_name_113 ?_
        exact W.iret (v := (((σ 18 3) + 1) - 1)) hx hb hr (fun t ht hW => ⟨⟨(((σ 18 3) + 1) - 1), (wr (wr (wr (wr (wr (wr (wr (wr (wr σ 18 1 0) 0 (σ 18 3).toNatClampNeg x1) 3 (σ 18 3).toNatClampNeg 2) 4 (σ 18 3).toNatClampNeg 1) 5 (σ 18 3).toNatClampNeg (-1)) 6 (σ 18 3).toNatClampNeg (-1)) 7 (σ 18 3).toNatClampNeg (-1)) 9 (8 * (σ 18 3)).toNatClampNeg (-1)) 18 3 ((σ 18 3) + 1)), rfl, ob_r h, by rw [ht]; exact hP, va_K.moved hW.alike hK⟩, hS.F ht⟩) hS.2.2 drf_Md_name_114
      · have h := ob_f c3 h
        exact jp23 (wr σ 18 1 0) x1 _ _ _ h hP hS (lv_sub hl [0, 1] rfl)
set_option maxHeartbeats 4000000 in
set_option maxRecDepth 100000 in
theorem crf_Md_newer (l : Launch) (D : va_G) (a : Nat → Nat) (k : Nat → ClassId) (hAd : rf_Ad a) (σ : ST) (x1 : Int32) (x2 : Int32) (res : Int32 × ST) (h : rff_Md_newer σ x1 x2 = some res) : Met l rfy_Md_newer rfs_Md_newer rfr_Md_newer (rf_Pc D a k σ [.ref (a 0), .int x1, .int x2]) (va_Qi (fun (r : Int32) (u : ST) => r = res.1 ∧ u = res.2) (rf_B D a k) (rf_A a)) 0 0 (rf_A a) := by
  refine Met.ofW (cc := rfb_Md_newer) (maxL := 3) (ret := (some .int)) (by decide) rfl ?_
  intro p e s m args below meth c s₁ B hml hv
  obtain ⟨rfl, hP, hK⟩ := hv
  have hx := B.exec
  have hb := B.bytes
  have hr := B.returns
  have hts : ∀ w ∈ ub_T, w.before _ s = true := fun w hw => atoms_spec (ws := rfs_Md_newer) B.pre w (List.mem_cons_of_mem _ hw)
  have hown : s.vm.findClass rfR_Md = some m.cls := findClass_of_methodNamed B.named
  have hlocks := B.notSynchronized
  have hS : va_S (rf_A a) s.heap s.heap [] := va_S.rf
  have hl := lv_entry ([.ref (a 0), .int x1, .int x2]) (n := 3) (Nat.le_of_ble_eq_true rfl)
  rw [lg_entry_eq]
  generalize (lg_sl ([.ref (a 0), .int x1, .int x2]) ++ List.replicate (3 - (lg_sl ([.ref (a 0), .int x1, .int x2])).length) Slot.unset).toArray = ls at hl ⊢
  have hl : lv_has ls 3 [(0, .ref (a 0)), (1, .int x1), (2, .int x2)] := hl
  have jp33 : ∀ (σ : ST) (y1 : Int32) (y2 : Int32) (H : Heap) (locs : List Loc) (ls : Array Slot), rfj_Md_newer_33 σ y1 y2 = some res → rf_P D a k σ H → va_S (rf_A a) s.heap H locs → lv_has ls 3 [(0, .ref (a 0)), (1, .int y1), (2, .int y2)] → W p l e (headSpec rfs_Md_newer rfr_Md_newer).room s m (([.ref (a 0), .int x1, .int x2] : List Value)).toArray below meth c H locs 0 0 (MQ below (va_Qi (fun (r : Int32) (u : ST) => r = res.1 ∧ u = res.2) (rf_B D a k) (rf_A a)) (([.ref (a 0), .int x1, .int x2] : List Value)).toArray s 0 0 (rf_A a)) (F0 m 33 ls []) := by
    intro σ y1 y2 H locs ls h hP hS hl
    rw [rfj_Md_newer_33] at h
    refine lv_iconst (v := (-1)) hx hb drf_Md_newer_33 (by decide) ?_
    exact W.iret (v := (-1)) hx hb hr (fun t ht hW => ⟨⟨(-1), σ, rfl, ob_r h, by rw [ht]; exact hP, va_K.moved hW.alike hK⟩, hS.F ht⟩) hS.2.2 drf_Md_newer_34
  rw [rff_Md_newer] at h
  refine lv_aload_n hx hb drf_Md_newer_0 rfl (lv_at hl 0 rfl) ?_
  refine lv_iconst (v := 0) hx hb drf_Md_newer_1 (by decide) ?_
  refine rfp_Md_68 hx hb hts hown hK hP hAd hS drf_Md_newer_2 (fun H locs hP hS => ?_)
  refine lv_aload_n hx hb drf_Md_newer_5 rfl (lv_at hl 0 rfl) ?_
  refine lv_iload_n hx hb drf_Md_newer_6 rfl (lv_at hl 1 rfl) ?_
  obtain ⟨q1, hq1, h⟩ := ob_b h
  refine rf_cv_ir (As := [.int x1]) (rest := []) ⟨hx, hb, hml, hown, hts⟩ (crf_Md_isName l D a k hAd (wr σ 18 1 0) x1  q1 hq1) (rfc_Md_74 hts ⟨Nat.le_of_ble_eq_true rfl, Nat.le_of_ble_eq_true rfl⟩) (rf_rc0 hK hP) hK hP rfl hl.1 rfl (Nat.le_of_ble_eq_true rfl) drf_Md_newer_7 hS (fun H locs hP hS => ?_)
  refine lv_if_eq (tgt := 33) hx hb drf_Md_newer_10 (by decide) (fun c2 => ?_) (fun c2 => ?_)
  · have h := ob_t c2 h
    exact jp33 (wr σ 18 1 0) x1 x2 _ _ _ h hP hS (lv_sub hl [0, 1, 2] rfl)
  · have h := ob_f c2 h
    refine lv_iload_n hx hb drf_Md_newer_13 rfl (lv_at hl 2 rfl) ?_
    refine lv_if_lt (tgt := 33) hx hb drf_Md_newer_14 (by decide) (fun c3 => ?_) (fun c3 => ?_)
    · have h := ob_t c3 h
      exact jp33 (wr σ 18 1 0) x1 x2 _ _ _ h hP hS (lv_sub hl [0, 1, 2] rfl)
    · have h := ob_f c3 h
      refine lv_iload_n hx hb drf_Md_newer_17 rfl (lv_at hl 2 rfl) ?_
      refine lv_iconst (v := 2) hx hb drf_Md_newer_18 (by decide) ?_
      refine lv_icmp_gt (tgt := 33) hx hb drf_Md_newer_19 (by decide) (fun c4 => ?_) (fun c4 => ?_)
      · have h := ob_t c4 h
        exact jp33 (wr σ 18 1 0) x1 x2 _ _ _ h hP hS (lv_sub hl [0, 1, 2] rfl)
      · have h := ob_f c4 h
        refine lv_aload_n hx hb drf_Md_newer_22 rfl (lv_at hl 0 rfl) ?_
        refine rfg_Md_13 hx hb hts hown hK hP drf_Md_newer_23 ?_
        refine lv_iload_n hx hb drf_Md_newer_26 rfl (lv_at hl 1 rfl) ?_
        obtain ⟨hi5, h⟩ := ob_i h
        refine rf_iald (i := 1) hx hb hK hP (by decide) rfl hi5 drf_Md_newer_27 ?_
        refine W.eq (g2 := F0 m 28 ls [.int (σ 1 x1.toNatClampNeg)]) rfl ?_
        refine lv_bipush (v := 7) hx hb drf_Md_newer_28 (by decide) ?_
        refine lv_icmp_ne (tgt := 35) hx hb drf_Md_newer_30 (by decide) (fun c6 => ?_) (fun c6 => ?_)
        · have h := ob_f c6 h
          refine lv_aload_n hx hb drf_Md_newer_35 rfl (lv_at hl 0 rfl) ?_
          refine rfg_Md_13 hx hb hts hown hK hP drf_Md_newer_36 ?_
          refine lv_iload_n hx hb drf_Md_newer_39 rfl (lv_at hl 1 rfl) ?_
          refine lv_dup2_11 hx hb drf_Md_newer_40 rfl rfl ?_
          obtain ⟨hi7, h⟩ := ob_i h
          refine rf_iald (i := 1) hx hb hK hP (by decide) rfl hi7 drf_Md_newer_41 ?_
          refine W.eq (g2 := F0 m 42 ls [.int (σ 1 x1.toNatClampNeg), .int x1, .ref (a (1 + 1))]) rfl ?_
          refine lv_iconst (v := 1) hx hb drf_Md_newer_42 (by decide) ?_
          refine lv_iadd hx hb drf_Md_newer_43 ?_
          obtain ⟨hi8, h⟩ := ob_i h
          refine rf_iast (i := 1) hx hb hK hP hAd hS (by decide) rfl hi8 drf_Md_newer_44 (fun H locs hP hS => ?_)
          refine lv_aload_n hx hb drf_Md_newer_45 rfl (lv_at hl 0 rfl) ?_
          refine rfg_Md_34 hx hb hts hown hK hP drf_Md_newer_46 ?_
          refine lv_bipush (v := 8) hx hb drf_Md_newer_49 (by decide) ?_
          refine lv_iload_n hx hb drf_Md_newer_51 rfl (lv_at hl 1 rfl) ?_
          refine lv_imul hx hb drf_Md_newer_52 ?_
          refine lv_aload_n hx hb drf_Md_newer_53 rfl (lv_at hl 0 rfl) ?_
          refine rfg_Md_13 hx hb hts hown hK hP drf_Md_newer_54 ?_
          refine lv_iload_n hx hb drf_Md_newer_57 rfl (lv_at hl 1 rfl) ?_
          obtain ⟨hi9, h⟩ := ob_i h
          refine rf_iald (i := 1) hx hb hK hP (by decide) rfl hi9 drf_Md_newer_58 ?_
          refine lv_iadd hx hb drf_Md_newer_59 ?_
          refine lv_iload_n hx hb drf_Md_newer_60 rfl (lv_at hl 2 rfl) ?_
          obtain ⟨hi10, h⟩ := ob_i h
          refine rf_iast (i := 8) hx hb hK hP hAd hS (by decide) rfl hi10 drf_Md_newer_61 (fun H locs hP hS => ?_)
          refine lv_aload_n hx hb drf_Md_newer_62 rfl (lv_at hl 0 rfl) ?_
          refine rfg_Md_37 hx hb hts hown hK hP drf_Md_newer_63 ?_
          refine lv_bipush (v := 8) hx hb drf_Md_newer_66 (by decide) ?_
          refine lv_iload_n hx hb drf_Md_newer_68 rfl (lv_at hl 1 rfl) ?_
          refine lv_imul hx hb drf_Md_newer_69 ?_
          refine lv_aload_n hx hb drf_Md_newer_70 rfl (lv_at hl 0 rfl) ?_
          refine rfg_Md_13 hx hb hts hown hK hP drf_Md_newer_71 ?_
          refine lv_iload_n hx hb drf_Md_newer_74 rfl (lv_at hl 1 rfl) ?_
          obtain ⟨hi11, h⟩ := ob_i h
          refine rf_iald (i := 1) hx hb hK hP (by decide) rfl hi11 drf_Md_newer_75 ?_
          refine W.eq (g2 := F0 m 76 ls [.int ((wr (wr σ 18 1 0) 1 x1.toNatClampNeg ((σ 1 x1.toNatClampNeg) + 1)) 1 x1.toNatClampNeg), .int (8 * x1), .ref (a (9 + 1))]) rfl ?_
          refine lv_iadd hx hb drf_Md_newer_76 ?_
          refine lv_iconst (v := (-1)) hx hb drf_Md_newer_77 (by decide) ?_
          obtain ⟨hi12, h⟩ := ob_i h
          refine rf_iast (i := 9) hx hb hK hP hAd hS (by decide) rfl hi12 drf_Md_newer_78 (fun H locs hP hS => ?_)
          refine lv_aload_n hx hb drf_Md_newer_79 rfl (lv_at hl 0 rfl) ?_
          refine rfg_Md_13 hx hb hts hown hK hP drf_Md_newer_80 ?_
          refine lv_iload_n hx hb drf_Md_newer_83 rfl (lv_at hl 1 rfl) ?_
          obtain ⟨hi13, h⟩ := ob_i h
          refine rf_iald (i := 1) hx hb hK hP (by decide) rfl hi13 drf_Md_newer_84 ?_
          refine W.eq (g2 := F0 m 85 ls [.int ((wr (wr σ 18 1 0) 1 x1.toNatClampNeg ((σ 1 x1.toNatClampNeg) + 1)) 1 x1.toNatClampNeg)]) rfl ?_
          exact W.iret (v := ((wr (wr σ 18 1 0) 1 x1.toNatClampNeg ((σ 1 x1.toNatClampNeg) + 1)) 1 x1.toNatClampNeg)) hx hb hr (fun t ht hW => ⟨⟨((wr (wr σ 18 1 0) 1 x1.toNatClampNeg ((σ 1 x1.toNatClampNeg) + 1)) 1 x1.toNatClampNeg), (wr (wr (wr (wr σ 18 1 0) 1 x1.toNatClampNeg ((σ 1 x1.toNatClampNeg) + 1)) 8 ((8 * x1) + ((wr (wr σ 18 1 0) 1 x1.toNatClampNeg ((σ 1 x1.toNatClampNeg) + 1)) 1 x1.toNatClampNeg)).toNatClampNeg x2) 9 ((8 * x1) + ((wr (wr σ 18 1 0) 1 x1.toNatClampNeg ((σ 1 x1.toNatClampNeg) + 1)) 1 x1.toNatClampNeg)).toNatClampNeg (-1)), rfl, ob_r h, by rw [ht]; exact hP, va_K.moved hW.alike hK⟩, hS.F ht⟩) hS.2.2 drf_Md_newer_85
        · have h := ob_t c6 h
          exact jp33 (wr σ 18 1 0) x1 x2 _ _ _ h hP hS (lv_sub hl [0, 1, 2] rfl)
set_option maxHeartbeats 4000000 in
set_option maxRecDepth 100000 in
theorem crf_Md_needs (l : Launch) (D : va_G) (a : Nat → Nat) (k : Nat → ClassId) (hAd : rf_Ad a) (σ : ST) (x1 : Int32) (x2 : Int32) (x3 : Int32) (x4 : Int32) (res : Int32 × ST) (h : rff_Md_needs σ x1 x2 x3 x4 = some res) : Met l rfy_Md_needs rfs_Md_needs rfr_Md_needs (rf_Pc D a k σ [.ref (a 0), .int x1, .int x2, .int x3, .int x4]) (va_Qi (fun (r : Int32) (u : ST) => r = res.1 ∧ u = res.2) (rf_B D a k) (rf_A a)) 0 0 (rf_A a) := by
  refine Met.ofW (cc := rfb_Md_needs) (maxL := 5) (ret := (some .boolean)) (by decide) rfl ?_
  intro p e s m args below meth c s₁ B hml hv
  obtain ⟨rfl, hP, hK⟩ := hv
  have hx := B.exec
  have hb := B.bytes
  have hr := B.returns
  have hts : ∀ w ∈ ub_T, w.before _ s = true := fun w hw => atoms_spec (ws := rfs_Md_needs) B.pre w (List.mem_cons_of_mem _ hw)
  have hown : s.vm.findClass rfR_Md = some m.cls := findClass_of_methodNamed B.named
  have hlocks := B.notSynchronized
  have hS : va_S (rf_A a) s.heap s.heap [] := va_S.rf
  have hl := lv_entry ([.ref (a 0), .int x1, .int x2, .int x3, .int x4]) (n := 5) (Nat.le_of_ble_eq_true rfl)
  rw [lg_entry_eq]
  generalize (lg_sl ([.ref (a 0), .int x1, .int x2, .int x3, .int x4]) ++ List.replicate (5 - (lg_sl ([.ref (a 0), .int x1, .int x2, .int x3, .int x4])).length) Slot.unset).toArray = ls at hl ⊢
  have hl : lv_has ls 5 [(0, .ref (a 0)), (1, .int x1), (2, .int x2), (3, .int x3), (4, .int x4)] := hl
  have jp52 : ∀ (σ : ST) (y1 : Int32) (y2 : Int32) (y3 : Int32) (y4 : Int32) (H : Heap) (locs : List Loc) (ls : Array Slot), rfj_Md_needs_52 σ y1 y2 y3 y4 = some res → rf_P D a k σ H → va_S (rf_A a) s.heap H locs → lv_has ls 5 [(0, .ref (a 0)), (1, .int y1), (2, .int y2), (3, .int y3), (4, .int y4)] → W p l e (headSpec rfs_Md_needs rfr_Md_needs).room s m (([.ref (a 0), .int x1, .int x2, .int x3, .int x4] : List Value)).toArray below meth c H locs 0 0 (MQ below (va_Qi (fun (r : Int32) (u : ST) => r = res.1 ∧ u = res.2) (rf_B D a k) (rf_A a)) (([.ref (a 0), .int x1, .int x2, .int x3, .int x4] : List Value)).toArray s 0 0 (rf_A a)) (F0 m 52 ls []) := by
    intro σ y1 y2 y3 y4 H locs ls h hP hS hl
    rw [rfj_Md_needs_52] at h
    refine lv_iconst (v := 0) hx hb drf_Md_needs_52 (by decide) ?_
    exact W.zret (ty := .boolean) (v := 0) hx hb hr rfl (fun t ht hW => ⟨⟨0, σ, rfl, ob_r h, by rw [ht]; exact hP, va_K.moved hW.alike hK⟩, hS.F ht⟩) hS.2.2 drf_Md_needs_53
  rw [rff_Md_needs] at h
  refine lv_aload_n hx hb drf_Md_needs_0 rfl (lv_at hl 0 rfl) ?_
  refine lv_iconst (v := 0) hx hb drf_Md_needs_1 (by decide) ?_
  refine rfp_Md_68 hx hb hts hown hK hP hAd hS drf_Md_needs_2 (fun H locs hP hS => ?_)
  refine lv_aload_n hx hb drf_Md_needs_5 rfl (lv_at hl 0 rfl) ?_
  refine lv_iload_n hx hb drf_Md_needs_6 rfl (lv_at hl 1 rfl) ?_
  obtain ⟨q1, hq1, h⟩ := ob_b h
  refine rf_cv_ir (As := [.int x1]) (rest := []) ⟨hx, hb, hml, hown, hts⟩ (crf_Md_isName l D a k hAd (wr σ 18 1 0) x1  q1 hq1) (rfc_Md_74 hts ⟨Nat.le_of_ble_eq_true rfl, Nat.le_of_ble_eq_true rfl⟩) (rf_rc0 hK hP) hK hP rfl hl.1 rfl (Nat.le_of_ble_eq_true rfl) drf_Md_needs_7 hS (fun H locs hP hS => ?_)
  refine lv_if_eq (tgt := 52) hx hb drf_Md_needs_10 (by decide) (fun c2 => ?_) (fun c2 => ?_)
  · have h := ob_t c2 h
    exact jp52 (wr σ 18 1 0) x1 x2 x3 x4 _ _ _ h hP hS (lv_sub hl [0, 1, 2, 3, 4] rfl)
  · have h := ob_f c2 h
    refine lv_iload_n hx hb drf_Md_needs_13 rfl (lv_at hl 2 rfl) ?_
    refine lv_if_lt (tgt := 52) hx hb drf_Md_needs_14 (by decide) (fun c3 => ?_) (fun c3 => ?_)
    · have h := ob_t c3 h
      exact jp52 (wr σ 18 1 0) x1 x2 x3 x4 _ _ _ h hP hS (lv_sub hl [0, 1, 2, 3, 4] rfl)
    · have h := ob_f c3 h
      refine lv_iload_n hx hb drf_Md_needs_17 rfl (lv_at hl 2 rfl) ?_
      refine lv_aload_n hx hb drf_Md_needs_18 rfl (lv_at hl 0 rfl) ?_
      refine rfg_Md_13 hx hb hts hown hK hP drf_Md_needs_19 ?_
      refine lv_iload_n hx hb drf_Md_needs_22 rfl (lv_at hl 1 rfl) ?_
      obtain ⟨hi4, h⟩ := ob_i h
      refine rf_iald (i := 1) hx hb hK hP (by decide) rfl hi4 drf_Md_needs_23 ?_
      refine W.eq (g2 := F0 m 24 ls [.int (σ 1 x1.toNatClampNeg), .int x2]) rfl ?_
      refine lv_icmp_gt (tgt := 52) hx hb drf_Md_needs_24 (by decide) (fun c5 => ?_) (fun c5 => ?_)
      · have h := ob_t c5 h
        exact jp52 (wr σ 18 1 0) x1 x2 x3 x4 _ _ _ h hP hS (lv_sub hl [0, 1, 2, 3, 4] rfl)
      · have h := ob_f c5 h
        refine lv_aload_n hx hb drf_Md_needs_27 rfl (lv_at hl 0 rfl) ?_
        refine lv_iload_n hx hb drf_Md_needs_28 rfl (lv_at hl 3 rfl) ?_
        obtain ⟨q6, hq6, h⟩ := ob_b h
        refine rf_cv_ir (As := [.int x3]) (rest := []) ⟨hx, hb, hml, hown, hts⟩ (crf_Md_isName l D a k hAd (wr σ 18 1 0) x3  q6 hq6) (rfc_Md_74 hts ⟨Nat.le_of_ble_eq_true rfl, Nat.le_of_ble_eq_true rfl⟩) (rf_rc0 hK hP) hK hP rfl hl.1 rfl (Nat.le_of_ble_eq_true rfl) drf_Md_needs_29 hS (fun H locs hP hS => ?_)
        refine lv_if_eq (tgt := 52) hx hb drf_Md_needs_32 (by decide) (fun c7 => ?_) (fun c7 => ?_)
        · have h := ob_t c7 h
          exact jp52 (wr σ 18 1 0) x1 x2 x3 x4 _ _ _ h hP hS (lv_sub hl [0, 1, 2, 3, 4] rfl)
        · have h := ob_f c7 h
          refine lv_iload_n hx hb drf_Md_needs_35 rfl (lv_at hl 3 rfl) ?_
          refine lv_iload_n hx hb drf_Md_needs_36 rfl (lv_at hl 1 rfl) ?_
          refine lv_icmp_eq (tgt := 52) hx hb drf_Md_needs_37 (by decide) (fun c8 => ?_) (fun c8 => ?_)
          · have h := ob_t c8 h
            exact jp52 (wr σ 18 1 0) x1 x2 x3 x4 _ _ _ h hP hS (lv_sub hl [0, 1, 2, 3, 4] rfl)
          · have h := ob_f c8 h
            refine lv_iload hx hb drf_Md_needs_40 (lv_at hl 4 rfl) ?_
            refine lv_if_lt (tgt := 52) hx hb drf_Md_needs_42 (by decide) (fun c9 => ?_) (fun c9 => ?_)
            · have h := ob_t c9 h
              exact jp52 (wr σ 18 1 0) x1 x2 x3 x4 _ _ _ h hP hS (lv_sub hl [0, 1, 2, 3, 4] rfl)
            · have h := ob_f c9 h
              refine lv_iload hx hb drf_Md_needs_45 (lv_at hl 4 rfl) ?_
              refine lv_bipush (v := 7) hx hb drf_Md_needs_47 (by decide) ?_
              refine lv_icmp_le (tgt := 54) hx hb drf_Md_needs_49 (by decide) (fun c10 => ?_) (fun c10 => ?_)
              · have h := ob_t c10 h
                refine lv_aload_n hx hb drf_Md_needs_54 rfl (lv_at hl 0 rfl) ?_
                refine rfg_Md_37 hx hb hts hown hK hP drf_Md_needs_55 ?_
                refine lv_bipush (v := 8) hx hb drf_Md_needs_58 (by decide) ?_
                refine lv_iload_n hx hb drf_Md_needs_60 rfl (lv_at hl 1 rfl) ?_
                refine lv_imul hx hb drf_Md_needs_61 ?_
                refine lv_iload_n hx hb drf_Md_needs_62 rfl (lv_at hl 2 rfl) ?_
                refine lv_iadd hx hb drf_Md_needs_63 ?_
                refine lv_iload_n hx hb drf_Md_needs_64 rfl (lv_at hl 3 rfl) ?_
                obtain ⟨hi11, h⟩ := ob_i h
                refine rf_iast (i := 9) hx hb hK hP hAd hS (by decide) rfl hi11 drf_Md_needs_65 (fun H locs hP hS => ?_)
                refine lv_aload_n hx hb drf_Md_needs_66 rfl (lv_at hl 0 rfl) ?_
                refine rfg_Md_40 hx hb hts hown hK hP drf_Md_needs_67 ?_
                refine lv_bipush (v := 8) hx hb drf_Md_needs_70 (by decide) ?_
                refine lv_iload_n hx hb drf_Md_needs_72 rfl (lv_at hl 1 rfl) ?_
                refine lv_imul hx hb drf_Md_needs_73 ?_
                refine lv_iload_n hx hb drf_Md_needs_74 rfl (lv_at hl 2 rfl) ?_
                refine lv_iadd hx hb drf_Md_needs_75 ?_
                refine lv_iload hx hb drf_Md_needs_76 (lv_at hl 4 rfl) ?_
                obtain ⟨hi12, h⟩ := ob_i h
                refine rf_iast (i := 10) hx hb hK hP hAd hS (by decide) rfl hi12 drf_Md_needs_78 (fun H locs hP hS => ?_)
                refine lv_iconst (v := 1) hx hb drf_Md_needs_79 (by decide) ?_
                exact W.zret (ty := .boolean) (v := 1) hx hb hr rfl (fun t ht hW => ⟨⟨1, (wr (wr (wr σ 18 1 0) 9 ((8 * x1) + x2).toNatClampNeg x3) 10 ((8 * x1) + x2).toNatClampNeg x4), rfl, ob_r h, by rw [ht]; exact hP, va_K.moved hW.alike hK⟩, hS.F ht⟩) hS.2.2 drf_Md_needs_80
              · have h := ob_f c10 h
                exact jp52 (wr σ 18 1 0) x1 x2 x3 x4 _ _ _ h hP hS (lv_sub hl [0, 1, 2, 3, 4] rfl)
set_option maxHeartbeats 4000000 in
set_option maxRecDepth 100000 in
theorem crf_Md_rule (l : Launch) (D : va_G) (a : Nat → Nat) (k : Nat → ClassId) (hAd : rf_Ad a) (σ : ST) (x1 : Int32) (x2 : Int32) (x3 : Int32) (x4 : Int32) (res : Int32 × ST) (h : rff_Md_rule σ x1 x2 x3 x4 = some res) : Met l rfy_Md_rule rfs_Md_rule rfr_Md_rule (rf_Pc D a k σ [.ref (a 0), .int x1, .int x2, .int x3, .int x4]) (va_Qi (fun (r : Int32) (u : ST) => r = res.1 ∧ u = res.2) (rf_B D a k) (rf_A a)) 0 0 (rf_A a) := by
  refine Met.ofW (cc := rfb_Md_rule) (maxL := 5) (ret := (some .boolean)) (by decide) rfl ?_
  intro p e s m args below meth c s₁ B hml hv
  obtain ⟨rfl, hP, hK⟩ := hv
  have hx := B.exec
  have hb := B.bytes
  have hr := B.returns
  have hts : ∀ w ∈ ub_T, w.before _ s = true := fun w hw => atoms_spec (ws := rfs_Md_rule) B.pre w (List.mem_cons_of_mem _ hw)
  have hown : s.vm.findClass rfR_Md = some m.cls := findClass_of_methodNamed B.named
  have hlocks := B.notSynchronized
  have hS : va_S (rf_A a) s.heap s.heap [] := va_S.rf
  have hl := lv_entry ([.ref (a 0), .int x1, .int x2, .int x3, .int x4]) (n := 5) (Nat.le_of_ble_eq_true rfl)
  rw [lg_entry_eq]
  generalize (lg_sl ([.ref (a 0), .int x1, .int x2, .int x3, .int x4]) ++ List.replicate (5 - (lg_sl ([.ref (a 0), .int x1, .int x2, .int x3, .int x4])).length) Slot.unset).toArray = ls at hl ⊢
  have hl : lv_has ls 5 [(0, .ref (a 0)), (1, .int x1), (2, .int x2), (3, .int x3), (4, .int x4)] := hl
  rw [rff_Md_rule] at h
  refine lv_aload_n hx hb drf_Md_rule_0 rfl (lv_at hl 0 rfl) ?_
  refine lv_iconst (v := 0) hx hb drf_Md_rule_1 (by decide) ?_
  refine rfp_Md_68 hx hb hts hown hK hP hAd hS drf_Md_rule_2 (fun H locs hP hS => ?_)
  refine lv_aload_n hx hb drf_Md_rule_5 rfl (lv_at hl 0 rfl) ?_
  refine lv_iload_n hx hb drf_Md_rule_6 rfl (lv_at hl 1 rfl) ?_
  obtain ⟨q1, hq1, h⟩ := ob_b h
  refine rf_cv_ir (As := [.int x1]) (rest := []) ⟨hx, hb, hml, hown, hts⟩ (crf_Md_isName l D a k hAd (wr σ 18 1 0) x1  q1 hq1) (rfc_Md_74 hts ⟨Nat.le_of_ble_eq_true rfl, Nat.le_of_ble_eq_true rfl⟩) (rf_rc0 hK hP) hK hP rfl hl.1 rfl (Nat.le_of_ble_eq_true rfl) drf_Md_rule_7 hS (fun H locs hP hS => ?_)
  refine lv_if_eq (tgt := 47) hx hb drf_Md_rule_10 (by decide) (fun c2 => ?_) (fun c2 => ?_)
  · have h := ob_t c2 h
    refine lv_iconst (v := 0) hx hb drf_Md_rule_47 (by decide) ?_
    exact W.zret (ty := .boolean) (v := 0) hx hb hr rfl (fun t ht hW => ⟨⟨0, (wr σ 18 1 0), rfl, ob_r h, by rw [ht]; exact hP, va_K.moved hW.alike hK⟩, hS.F ht⟩) hS.2.2 drf_Md_rule_48
  · have h := ob_f c2 h
    refine lv_iload_n hx hb drf_Md_rule_13 rfl (lv_at hl 2 rfl) ?_
    refine lv_iconst (v := (-1)) hx hb drf_Md_rule_14 (by decide) ?_
    refine lv_icmp_lt (tgt := 47) hx hb drf_Md_rule_15 (by decide) (fun c3 => ?_) (fun c3 => ?_)
    · have h := ob_t c3 h
      refine lv_iconst (v := 0) hx hb drf_Md_rule_47 (by decide) ?_
      exact W.zret (ty := .boolean) (v := 0) hx hb hr rfl (fun t ht hW => ⟨⟨0, (wr σ 18 1 0), rfl, ob_r h, by rw [ht]; exact hP, va_K.moved hW.alike hK⟩, hS.F ht⟩) hS.2.2 drf_Md_rule_48
    · have h := ob_f c3 h
      refine lv_iload_n hx hb drf_Md_rule_18 rfl (lv_at hl 2 rfl) ?_
      refine lv_iconst (v := 2) hx hb drf_Md_rule_19 (by decide) ?_
      refine lv_icmp_gt (tgt := 47) hx hb drf_Md_rule_20 (by decide) (fun c4 => ?_) (fun c4 => ?_)
      · have h := ob_t c4 h
        refine lv_iconst (v := 0) hx hb drf_Md_rule_47 (by decide) ?_
        exact W.zret (ty := .boolean) (v := 0) hx hb hr rfl (fun t ht hW => ⟨⟨0, (wr σ 18 1 0), rfl, ob_r h, by rw [ht]; exact hP, va_K.moved hW.alike hK⟩, hS.F ht⟩) hS.2.2 drf_Md_rule_48
      · have h := ob_f c4 h
        refine lv_iload_n hx hb drf_Md_rule_23 rfl (lv_at hl 3 rfl) ?_
        refine lv_iconst (v := 1) hx hb drf_Md_rule_24 (by decide) ?_
        refine lv_icmp_lt (tgt := 47) hx hb drf_Md_rule_25 (by decide) (fun c5 => ?_) (fun c5 => ?_)
        · have h := ob_t c5 h
          refine lv_iconst (v := 0) hx hb drf_Md_rule_47 (by decide) ?_
          exact W.zret (ty := .boolean) (v := 0) hx hb hr rfl (fun t ht hW => ⟨⟨0, (wr σ 18 1 0), rfl, ob_r h, by rw [ht]; exact hP, va_K.moved hW.alike hK⟩, hS.F ht⟩) hS.2.2 drf_Md_rule_48
        · have h := ob_f c5 h
          refine lv_iload_n hx hb drf_Md_rule_28 rfl (lv_at hl 3 rfl) ?_
          refine lv_sipush (v := 1000) hx hb drf_Md_rule_29 (by decide) ?_
          refine lv_icmp_gt (tgt := 47) hx hb drf_Md_rule_32 (by decide) (fun c6 => ?_) (fun c6 => ?_)
          · have h := ob_t c6 h
            refine lv_iconst (v := 0) hx hb drf_Md_rule_47 (by decide) ?_
            exact W.zret (ty := .boolean) (v := 0) hx hb hr rfl (fun t ht hW => ⟨⟨0, (wr σ 18 1 0), rfl, ob_r h, by rw [ht]; exact hP, va_K.moved hW.alike hK⟩, hS.F ht⟩) hS.2.2 drf_Md_rule_48
          · have h := ob_f c6 h
            refine lv_iload hx hb drf_Md_rule_35 (lv_at hl 4 rfl) ?_
            refine lv_iconst (v := (-1)) hx hb drf_Md_rule_37 (by decide) ?_
            refine lv_icmp_lt (tgt := 47) hx hb drf_Md_rule_38 (by decide) (fun c7 => ?_) (fun c7 => ?_)
            · have h := ob_t c7 h
              refine lv_iconst (v := 0) hx hb drf_Md_rule_47 (by decide) ?_
              exact W.zret (ty := .boolean) (v := 0) hx hb hr rfl (fun t ht hW => ⟨⟨0, (wr σ 18 1 0), rfl, ob_r h, by rw [ht]; exact hP, va_K.moved hW.alike hK⟩, hS.F ht⟩) hS.2.2 drf_Md_rule_48
            · have h := ob_f c7 h
              refine lv_iload hx hb drf_Md_rule_41 (lv_at hl 4 rfl) ?_
              refine lv_iconst (v := 3) hx hb drf_Md_rule_43 (by decide) ?_
              refine lv_icmp_le (tgt := 49) hx hb drf_Md_rule_44 (by decide) (fun c8 => ?_) (fun c8 => ?_)
              · have h := ob_t c8 h
                refine lv_aload_n hx hb drf_Md_rule_49 rfl (lv_at hl 0 rfl) ?_
                refine rfg_Md_19 hx hb hts hown hK hP drf_Md_rule_50 ?_
                refine lv_iload_n hx hb drf_Md_rule_53 rfl (lv_at hl 1 rfl) ?_
                refine lv_iload_n hx hb drf_Md_rule_54 rfl (lv_at hl 2 rfl) ?_
                obtain ⟨hi9, h⟩ := ob_i h
                refine rf_iast (i := 3) hx hb hK hP hAd hS (by decide) rfl hi9 drf_Md_rule_55 (fun H locs hP hS => ?_)
                refine lv_aload_n hx hb drf_Md_rule_56 rfl (lv_at hl 0 rfl) ?_
                refine rfg_Md_22 hx hb hts hown hK hP drf_Md_rule_57 ?_
                refine lv_iload_n hx hb drf_Md_rule_60 rfl (lv_at hl 1 rfl) ?_
                refine lv_iload_n hx hb drf_Md_rule_61 rfl (lv_at hl 3 rfl) ?_
                obtain ⟨hi10, h⟩ := ob_i h
                refine rf_iast (i := 4) hx hb hK hP hAd hS (by decide) rfl hi10 drf_Md_rule_62 (fun H locs hP hS => ?_)
                refine lv_aload_n hx hb drf_Md_rule_63 rfl (lv_at hl 0 rfl) ?_
                refine rfg_Md_25 hx hb hts hown hK hP drf_Md_rule_64 ?_
                refine lv_iload_n hx hb drf_Md_rule_67 rfl (lv_at hl 1 rfl) ?_
                refine lv_iload hx hb drf_Md_rule_68 (lv_at hl 4 rfl) ?_
                obtain ⟨hi11, h⟩ := ob_i h
                refine rf_iast (i := 5) hx hb hK hP hAd hS (by decide) rfl hi11 drf_Md_rule_70 (fun H locs hP hS => ?_)
                refine lv_iconst (v := 1) hx hb drf_Md_rule_71 (by decide) ?_
                exact W.zret (ty := .boolean) (v := 1) hx hb hr rfl (fun t ht hW => ⟨⟨1, (wr (wr (wr (wr σ 18 1 0) 3 x1.toNatClampNeg x2) 4 x1.toNatClampNeg x3) 5 x1.toNatClampNeg x4), rfl, ob_r h, by rw [ht]; exact hP, va_K.moved hW.alike hK⟩, hS.F ht⟩) hS.2.2 drf_Md_rule_72
              · have h := ob_f c8 h
                refine lv_iconst (v := 0) hx hb drf_Md_rule_47 (by decide) ?_
                exact W.zret (ty := .boolean) (v := 0) hx hb hr rfl (fun t ht hW => ⟨⟨0, (wr σ 18 1 0), rfl, ob_r h, by rw [ht]; exact hP, va_K.moved hW.alike hK⟩, hS.F ht⟩) hS.2.2 drf_Md_rule_48
set_option maxHeartbeats 4000000 in
set_option maxRecDepth 100000 in
theorem crf_Md_advise (l : Launch) (D : va_G) (a : Nat → Nat) (k : Nat → ClassId) (hAd : rf_Ad a) (σ : ST) (x1 : Int32) (x2 : Int32) (res : Int32 × ST) (h : rff_Md_advise σ x1 x2 = some res) : Met l rfy_Md_advise rfs_Md_advise rfr_Md_advise (rf_Pc D a k σ [.ref (a 0), .int x1, .int x2]) (va_Qi (fun (r : Int32) (u : ST) => r = res.1 ∧ u = res.2) (rf_B D a k) (rf_A a)) 0 0 (rf_A a) := by
  refine Met.ofW (cc := rfb_Md_advise) (maxL := 3) (ret := (some .boolean)) (by decide) rfl ?_
  intro p e s m args below meth c s₁ B hml hv
  obtain ⟨rfl, hP, hK⟩ := hv
  have hx := B.exec
  have hb := B.bytes
  have hr := B.returns
  have hts : ∀ w ∈ ub_T, w.before _ s = true := fun w hw => atoms_spec (ws := rfs_Md_advise) B.pre w (List.mem_cons_of_mem _ hw)
  have hown : s.vm.findClass rfR_Md = some m.cls := findClass_of_methodNamed B.named
  have hlocks := B.notSynchronized
  have hS : va_S (rf_A a) s.heap s.heap [] := va_S.rf
  have hl := lv_entry ([.ref (a 0), .int x1, .int x2]) (n := 3) (Nat.le_of_ble_eq_true rfl)
  rw [lg_entry_eq]
  generalize (lg_sl ([.ref (a 0), .int x1, .int x2]) ++ List.replicate (3 - (lg_sl ([.ref (a 0), .int x1, .int x2])).length) Slot.unset).toArray = ls at hl ⊢
  have hl : lv_has ls 3 [(0, .ref (a 0)), (1, .int x1), (2, .int x2)] := hl
  rw [rff_Md_advise] at h
  refine lv_aload_n hx hb drf_Md_advise_0 rfl (lv_at hl 0 rfl) ?_
  refine lv_iconst (v := 0) hx hb drf_Md_advise_1 (by decide) ?_
  refine rfp_Md_68 hx hb hts hown hK hP hAd hS drf_Md_advise_2 (fun H locs hP hS => ?_)
  refine lv_aload_n hx hb drf_Md_advise_5 rfl (lv_at hl 0 rfl) ?_
  refine lv_iload_n hx hb drf_Md_advise_6 rfl (lv_at hl 1 rfl) ?_
  obtain ⟨q1, hq1, h⟩ := ob_b h
  refine rf_cv_ir (As := [.int x1]) (rest := []) ⟨hx, hb, hml, hown, hts⟩ (crf_Md_isName l D a k hAd (wr σ 18 1 0) x1  q1 hq1) (rfc_Md_74 hts ⟨Nat.le_of_ble_eq_true rfl, Nat.le_of_ble_eq_true rfl⟩) (rf_rc0 hK hP) hK hP rfl hl.1 rfl (Nat.le_of_ble_eq_true rfl) drf_Md_advise_7 hS (fun H locs hP hS => ?_)
  refine lv_if_eq (tgt := 28) hx hb drf_Md_advise_10 (by decide) (fun c2 => ?_) (fun c2 => ?_)
  · have h := ob_t c2 h
    refine lv_iconst (v := 0) hx hb drf_Md_advise_28 (by decide) ?_
    exact W.zret (ty := .boolean) (v := 0) hx hb hr rfl (fun t ht hW => ⟨⟨0, (wr σ 18 1 0), rfl, ob_r h, by rw [ht]; exact hP, va_K.moved hW.alike hK⟩, hS.F ht⟩) hS.2.2 drf_Md_advise_29
  · have h := ob_f c2 h
    refine lv_iload_n hx hb drf_Md_advise_13 rfl (lv_at hl 2 rfl) ?_
    refine lv_iconst (v := (-1)) hx hb drf_Md_advise_14 (by decide) ?_
    refine lv_icmp_lt (tgt := 28) hx hb drf_Md_advise_15 (by decide) (fun c3 => ?_) (fun c3 => ?_)
    · have h := ob_t c3 h
      refine lv_iconst (v := 0) hx hb drf_Md_advise_28 (by decide) ?_
      exact W.zret (ty := .boolean) (v := 0) hx hb hr rfl (fun t ht hW => ⟨⟨0, (wr σ 18 1 0), rfl, ob_r h, by rw [ht]; exact hP, va_K.moved hW.alike hK⟩, hS.F ht⟩) hS.2.2 drf_Md_advise_29
    · have h := ob_f c3 h
      refine lv_iload_n hx hb drf_Md_advise_18 rfl (lv_at hl 2 rfl) ?_
      refine lv_aload_n hx hb drf_Md_advise_19 rfl (lv_at hl 0 rfl) ?_
      refine rfg_Md_13 hx hb hts hown hK hP drf_Md_advise_20 ?_
      refine lv_iload_n hx hb drf_Md_advise_23 rfl (lv_at hl 1 rfl) ?_
      obtain ⟨hi4, h⟩ := ob_i h
      refine rf_iald (i := 1) hx hb hK hP (by decide) rfl hi4 drf_Md_advise_24 ?_
      refine W.eq (g2 := F0 m 25 ls [.int (σ 1 x1.toNatClampNeg), .int x2]) rfl ?_
      refine lv_icmp_le (tgt := 30) hx hb drf_Md_advise_25 (by decide) (fun c5 => ?_) (fun c5 => ?_)
      · have h := ob_t c5 h
        refine lv_aload_n hx hb drf_Md_advise_30 rfl (lv_at hl 0 rfl) ?_
        refine rfg_Md_28 hx hb hts hown hK hP drf_Md_advise_31 ?_
        refine lv_iload_n hx hb drf_Md_advise_34 rfl (lv_at hl 1 rfl) ?_
        refine lv_iload_n hx hb drf_Md_advise_35 rfl (lv_at hl 2 rfl) ?_
        obtain ⟨hi6, h⟩ := ob_i h
        refine rf_iast (i := 6) hx hb hK hP hAd hS (by decide) rfl hi6 drf_Md_advise_36 (fun H locs hP hS => ?_)
        refine lv_iconst (v := 1) hx hb drf_Md_advise_37 (by decide) ?_
        exact W.zret (ty := .boolean) (v := 1) hx hb hr rfl (fun t ht hW => ⟨⟨1, (wr (wr σ 18 1 0) 6 x1.toNatClampNeg x2), rfl, ob_r h, by rw [ht]; exact hP, va_K.moved hW.alike hK⟩, hS.F ht⟩) hS.2.2 drf_Md_advise_38
      · have h := ob_f c5 h
        refine lv_iconst (v := 0) hx hb drf_Md_advise_28 (by decide) ?_
        exact W.zret (ty := .boolean) (v := 0) hx hb hr rfl (fun t ht hW => ⟨⟨0, (wr σ 18 1 0), rfl, ob_r h, by rw [ht]; exact hP, va_K.moved hW.alike hK⟩, hS.F ht⟩) hS.2.2 drf_Md_advise_29
set_option maxHeartbeats 4000000 in
set_option maxRecDepth 100000 in
theorem crf_Md_has (l : Launch) (D : va_G) (a : Nat → Nat) (k : Nat → ClassId) (hAd : rf_Ad a) (σ : ST) (x1 : Int32) (res : Int32 × ST) (h : rff_Md_has σ x1 = some res) : Met l rfy_Md_has rfs_Md_has rfr_Md_has (rf_Pc D a k σ [.ref (a 0), .int x1]) (va_Qi (fun (r : Int32) (u : ST) => r = res.1 ∧ u = res.2) (rf_B D a k) (rf_A a)) 0 0 (rf_A a) := by
  refine Met.ofW (cc := rfb_Md_has) (maxL := 2) (ret := (some .int)) (by decide) rfl ?_
  intro p e s m args below meth c s₁ B hml hv
  obtain ⟨rfl, hP, hK⟩ := hv
  have hx := B.exec
  have hb := B.bytes
  have hr := B.returns
  have hts : ∀ w ∈ ub_T, w.before _ s = true := fun w hw => atoms_spec (ws := rfs_Md_has) B.pre w (List.mem_cons_of_mem _ hw)
  have hown : s.vm.findClass rfR_Md = some m.cls := findClass_of_methodNamed B.named
  have hlocks := B.notSynchronized
  have hS : va_S (rf_A a) s.heap s.heap [] := va_S.rf
  have hl := lv_entry ([.ref (a 0), .int x1]) (n := 2) (Nat.le_of_ble_eq_true rfl)
  rw [lg_entry_eq]
  generalize (lg_sl ([.ref (a 0), .int x1]) ++ List.replicate (2 - (lg_sl ([.ref (a 0), .int x1])).length) Slot.unset).toArray = ls at hl ⊢
  have hl : lv_has ls 2 [(0, .ref (a 0)), (1, .int x1)] := hl
  rw [rff_Md_has] at h
  refine lv_aload_n hx hb drf_Md_has_0 rfl (lv_at hl 0 rfl) ?_
  refine lv_iconst (v := 0) hx hb drf_Md_has_1 (by decide) ?_
  refine rfp_Md_68 hx hb hts hown hK hP hAd hS drf_Md_has_2 (fun H locs hP hS => ?_)
  refine lv_aload_n hx hb drf_Md_has_5 rfl (lv_at hl 0 rfl) ?_
  refine lv_iload_n hx hb drf_Md_has_6 rfl (lv_at hl 1 rfl) ?_
  obtain ⟨q1, hq1, h⟩ := ob_b h
  refine rf_cv_ir (As := [.int x1]) (rest := []) ⟨hx, hb, hml, hown, hts⟩ (crf_Md_isName l D a k hAd (wr σ 18 1 0) x1  q1 hq1) (rfc_Md_74 hts ⟨Nat.le_of_ble_eq_true rfl, Nat.le_of_ble_eq_true rfl⟩) (rf_rc0 hK hP) hK hP rfl hl.1 rfl (Nat.le_of_ble_eq_true rfl) drf_Md_has_7 hS (fun H locs hP hS => ?_)
  refine lv_if_eq (tgt := 22) hx hb drf_Md_has_10 (by decide) (fun c2 => ?_) (fun c2 => ?_)
  · have h := ob_t c2 h
    refine lv_iconst (v := (-1)) hx hb drf_Md_has_22 (by decide) ?_
    exact W.iret (v := (-1)) hx hb hr (fun t ht hW => ⟨⟨(-1), (wr σ 18 1 0), rfl, ob_r h, by rw [ht]; exact hP, va_K.moved hW.alike hK⟩, hS.F ht⟩) hS.2.2 drf_Md_has_23
  · have h := ob_f c2 h
    refine lv_aload_n hx hb drf_Md_has_13 rfl (lv_at hl 0 rfl) ?_
    refine rfg_Md_16 hx hb hts hown hK hP drf_Md_has_14 ?_
    refine lv_iload_n hx hb drf_Md_has_17 rfl (lv_at hl 1 rfl) ?_
    obtain ⟨hi3, h⟩ := ob_i h
    refine rf_iald (i := 2) hx hb hK hP (by decide) rfl hi3 drf_Md_has_18 ?_
    refine W.eq (g2 := F0 m 19 ls [.int (σ 2 x1.toNatClampNeg)]) rfl ?_
    refine lv_goto (tgt := 23) hx hb drf_Md_has_19 (by decide) ?_
    exact W.iret (v := (σ 2 x1.toNatClampNeg)) hx hb hr (fun t ht hW => ⟨⟨(σ 2 x1.toNatClampNeg), (wr σ 18 1 0), rfl, ob_r h, by rw [ht]; exact hP, va_K.moved hW.alike hK⟩, hS.F ht⟩) hS.2.2 drf_Md_has_23
set_option maxHeartbeats 4000000 in
set_option maxRecDepth 100000 in
theorem crf_Md_isHit (l : Launch) (D : va_G) (a : Nat → Nat) (k : Nat → ClassId) (hAd : rf_Ad a) (σ : ST) (x1 : Int32) (res : Int32) (h : rff_Md_isHit σ x1 = some res) : Met l rfy_Md_isHit rfs_Md_isHit rfr_Md_isHit (rf_Pc D a k σ [.ref (a 0), .int x1]) (va_Qi (fun (r : Int32) (u : ST) => r = res ∧ u = σ) (rf_B D a k) (rf_A a)) 0 0 (rf_A a) := by
  refine Met.ofW (cc := rfb_Md_isHit) (maxL := 2) (ret := (some .boolean)) (by decide) rfl ?_
  intro p e s m args below meth c s₁ B hml hv
  obtain ⟨rfl, hP, hK⟩ := hv
  have hx := B.exec
  have hb := B.bytes
  have hr := B.returns
  have hts : ∀ w ∈ ub_T, w.before _ s = true := fun w hw => atoms_spec (ws := rfs_Md_isHit) B.pre w (List.mem_cons_of_mem _ hw)
  have hown : s.vm.findClass rfR_Md = some m.cls := findClass_of_methodNamed B.named
  have hlocks := B.notSynchronized
  have hS : va_S (rf_A a) s.heap s.heap [] := va_S.rf
  have hl := lv_entry ([.ref (a 0), .int x1]) (n := 2) (Nat.le_of_ble_eq_true rfl)
  rw [lg_entry_eq]
  generalize (lg_sl ([.ref (a 0), .int x1]) ++ List.replicate (2 - (lg_sl ([.ref (a 0), .int x1])).length) Slot.unset).toArray = ls at hl ⊢
  have hl : lv_has ls 2 [(0, .ref (a 0)), (1, .int x1)] := hl
  rw [rff_Md_isHit] at h
  refine lv_aload_n hx hb drf_Md_isHit_0 rfl (lv_at hl 0 rfl) ?_
  refine rfg_Md_28 hx hb hts hown hK hP drf_Md_isHit_1 ?_
  refine lv_iload_n hx hb drf_Md_isHit_4 rfl (lv_at hl 1 rfl) ?_
  obtain ⟨hi1, h⟩ := ob_i h
  refine rf_iald (i := 6) hx hb hK hP (by decide) rfl hi1 drf_Md_isHit_5 ?_
  refine lv_iconst (v := (-1)) hx hb drf_Md_isHit_6 (by decide) ?_
  refine lv_icmp_eq (tgt := 29) hx hb drf_Md_isHit_7 (by decide) (fun c2 => ?_) (fun c2 => ?_)
  · have h := ob_t c2 h
    refine lv_iconst (v := 0) hx hb drf_Md_isHit_29 (by decide) ?_
    exact W.zret (ty := .boolean) (v := 0) hx hb hr rfl (fun t ht hW => ⟨⟨0, σ, rfl, ⟨Option.some.inj h, rfl⟩, by rw [ht]; exact hP, va_K.moved hW.alike hK⟩, hS.F ht⟩) hS.2.2 drf_Md_isHit_30
  · have h := ob_f c2 h
    refine lv_aload_n hx hb drf_Md_isHit_10 rfl (lv_at hl 0 rfl) ?_
    refine rfg_Md_16 hx hb hts hown hK hP drf_Md_isHit_11 ?_
    refine lv_iload_n hx hb drf_Md_isHit_14 rfl (lv_at hl 1 rfl) ?_
    obtain ⟨hi3, h⟩ := ob_i h
    refine rf_iald (i := 2) hx hb hK hP (by decide) rfl hi3 drf_Md_isHit_15 ?_
    refine lv_aload_n hx hb drf_Md_isHit_16 rfl (lv_at hl 0 rfl) ?_
    refine rfg_Md_28 hx hb hts hown hK hP drf_Md_isHit_17 ?_
    refine lv_iload_n hx hb drf_Md_isHit_20 rfl (lv_at hl 1 rfl) ?_
    obtain ⟨hi4, h⟩ := ob_i h
    refine rf_iald (i := 6) hx hb hK hP (by decide) rfl hi4 drf_Md_isHit_21 ?_
    refine lv_icmp_gt (tgt := 29) hx hb drf_Md_isHit_22 (by decide) (fun c5 => ?_) (fun c5 => ?_)
    · have h := ob_t c5 h
      refine lv_iconst (v := 0) hx hb drf_Md_isHit_29 (by decide) ?_
      exact W.zret (ty := .boolean) (v := 0) hx hb hr rfl (fun t ht hW => ⟨⟨0, σ, rfl, ⟨Option.some.inj h, rfl⟩, by rw [ht]; exact hP, va_K.moved hW.alike hK⟩, hS.F ht⟩) hS.2.2 drf_Md_isHit_30
    · have h := ob_f c5 h
      refine lv_iconst (v := 1) hx hb drf_Md_isHit_25 (by decide) ?_
      refine lv_goto (tgt := 30) hx hb drf_Md_isHit_26 (by decide) ?_
      exact W.zret (ty := .boolean) (v := 1) hx hb hr rfl (fun t ht hW => ⟨⟨1, σ, rfl, ⟨Option.some.inj h, rfl⟩, by rw [ht]; exact hP, va_K.moved hW.alike hK⟩, hS.F ht⟩) hS.2.2 drf_Md_isHit_30
set_option maxHeartbeats 4000000 in
set_option maxRecDepth 100000 in
theorem crf_Md_isAllowed (l : Launch) (D : va_G) (a : Nat → Nat) (k : Nat → ClassId) (hAd : rf_Ad a) (σ : ST) (x1 : Int32) (x2 : Int32) (res : Int32) (h : rff_Md_isAllowed σ x1 x2 = some res) : Met l rfy_Md_isAllowed rfs_Md_isAllowed rfr_Md_isAllowed (rf_Pc D a k σ [.ref (a 0), .int x1, .int x2]) (va_Qi (fun (r : Int32) (u : ST) => r = res ∧ u = σ) (rf_B D a k) (rf_A a)) 0 0 (rf_A a) := by
  refine Met.ofW (cc := rfb_Md_isAllowed) (maxL := 5) (ret := (some .boolean)) (by decide) rfl ?_
  intro p e s m args below meth c s₁ B hml hv
  obtain ⟨rfl, hP, hK⟩ := hv
  have hx := B.exec
  have hb := B.bytes
  have hr := B.returns
  have hts : ∀ w ∈ ub_T, w.before _ s = true := fun w hw => atoms_spec (ws := rfs_Md_isAllowed) B.pre w (List.mem_cons_of_mem _ hw)
  have hown : s.vm.findClass rfR_Md = some m.cls := findClass_of_methodNamed B.named
  have hlocks := B.notSynchronized
  have hS : va_S (rf_A a) s.heap s.heap [] := va_S.rf
  have hl := lv_entry ([.ref (a 0), .int x1, .int x2]) (n := 5) (Nat.le_of_ble_eq_true rfl)
  rw [lg_entry_eq]
  generalize (lg_sl ([.ref (a 0), .int x1, .int x2]) ++ List.replicate (5 - (lg_sl ([.ref (a 0), .int x1, .int x2])).length) Slot.unset).toArray = ls at hl ⊢
  have hl : lv_has ls 5 [(0, .ref (a 0)), (1, .int x1), (2, .int x2)] := hl
  have lp26 : ∀ (n : Nat) (y1 : Int32) (y2 : Int32) (y3 : Int32) (y4 : Int32) (H : Heap) (locs : List Loc) (ls : Array Slot), rfl_Md_isAllowed_26 σ n y1 y2 y3 y4 = some res → rf_P D a k σ H → va_S (rf_A a) s.heap H locs → lv_has ls 5 [(0, .ref (a 0)), (1, .int y1), (2, .int y2), (3, .int y3), (4, .int y4)] → W p l e (headSpec rfs_Md_isAllowed rfr_Md_isAllowed).room s m (([.ref (a 0), .int x1, .int x2] : List Value)).toArray below meth c H locs 0 0 (MQ below (va_Qi (fun (r : Int32) (u : ST) => r = res ∧ u = σ) (rf_B D a k) (rf_A a)) (([.ref (a 0), .int x1, .int x2] : List Value)).toArray s 0 0 (rf_A a)) (F0 m 26 ls []) := by
    intro n
    induction n with
    | zero =>
      intro y1 y2 y3 y4 H locs ls h
      exact absurd h (fun z => by cases z)
    | succ n ih =>
      intro y1 y2 y3 y4 H locs ls h hP hS hl
      rw [rfl_Md_isAllowed_26] at h
      refine lv_iload hx hb drf_Md_isAllowed_26 (lv_at hl 4 rfl) ?_
      refine lv_iload_n hx hb drf_Md_isAllowed_28 rfl (lv_at hl 2 rfl) ?_
      refine lv_icmp_gt (tgt := 69) hx hb drf_Md_isAllowed_29 (by decide) (fun c4 => ?_) (fun c4 => ?_)
      · have h := ob_t c4 h
        refine lv_iload_n hx hb drf_Md_isAllowed_69 rfl (lv_at hl 3 rfl) ?_
        obtain ⟨hz5, h⟩ := ob_i h
        exact W.zret (ty := .boolean) (v := y3) hx hb hr (ub_nar hz5) (fun t ht hW => ⟨⟨y3, σ, rfl, ⟨Option.some.inj h, rfl⟩, by rw [ht]; exact hP, va_K.moved hW.alike hK⟩, hS.F ht⟩) hS.2.2 drf_Md_isAllowed_70
      · have h := ob_f c4 h
        refine lv_iload_n hx hb drf_Md_isAllowed_32 rfl (lv_at hl 3 rfl) ?_
        refine lv_if_eq (tgt := 69) hx hb drf_Md_isAllowed_33 (by decide) (fun c6 => ?_) (fun c6 => ?_)
        · have h := ob_t c6 h
          refine lv_iload_n hx hb drf_Md_isAllowed_69 rfl (lv_at hl 3 rfl) ?_
          obtain ⟨hz7, h⟩ := ob_i h
          exact W.zret (ty := .boolean) (v := y3) hx hb hr (ub_nar hz7) (fun t ht hW => ⟨⟨y3, σ, rfl, ⟨Option.some.inj h, rfl⟩, by rw [ht]; exact hP, va_K.moved hW.alike hK⟩, hS.F ht⟩) hS.2.2 drf_Md_isAllowed_70
        · have h := ob_f c6 h
          refine lv_aload_n hx hb drf_Md_isAllowed_36 rfl (lv_at hl 0 rfl) ?_
          refine rfg_Md_34 hx hb hts hown hK hP drf_Md_isAllowed_37 ?_
          refine lv_bipush (v := 8) hx hb drf_Md_isAllowed_40 (by decide) ?_
          refine lv_iload_n hx hb drf_Md_isAllowed_42 rfl (lv_at hl 1 rfl) ?_
          refine lv_imul hx hb drf_Md_isAllowed_43 ?_
          refine lv_iload hx hb drf_Md_isAllowed_44 (lv_at hl 4 rfl) ?_
          refine lv_iadd hx hb drf_Md_isAllowed_46 ?_
          obtain ⟨hi8, h⟩ := ob_i h
          refine rf_iald (i := 8) hx hb hK hP (by decide) rfl hi8 drf_Md_isAllowed_47 ?_
          refine lv_aload_n hx hb drf_Md_isAllowed_48 rfl (lv_at hl 0 rfl) ?_
          refine rfg_Md_19 hx hb hts hown hK hP drf_Md_isAllowed_49 ?_
          refine lv_iload_n hx hb drf_Md_isAllowed_52 rfl (lv_at hl 1 rfl) ?_
          obtain ⟨hi9, h⟩ := ob_i h
          refine rf_iald (i := 3) hx hb hK hP (by decide) rfl hi9 drf_Md_isAllowed_53 ?_
          refine lv_icmp_gt (tgt := 61) hx hb drf_Md_isAllowed_54 (by decide) (fun c10 => ?_) (fun c10 => ?_)
          · have h := ob_t c10 h
            refine lv_iconst (v := 0) hx hb drf_Md_isAllowed_61 (by decide) ?_
            refine lv_istore_n (lv' := [(3, .int 0), (0, .ref (a 0)), (1, .int y1), (2, .int y2), (4, .int y4)]) hx hb drf_Md_isAllowed_62 rfl hl (by decide) rfl (fun ls hl => ?_)
            refine lv_iinc (v := (y4 + 1)) (lv' := [(4, .int (y4 + 1)), (3, .int 0), (0, .ref (a 0)), (1, .int y1), (2, .int y2)]) hx hb drf_Md_isAllowed_63 hl (k := 4) rfl rfl (by decide) rfl (fun ls hl => ?_)
            refine lv_goto (tgt := 26) hx hb drf_Md_isAllowed_66 (by decide) ?_
            exact ih y1 y2 0 (y4 + 1) _ _ _ h hP hS (lv_sub hl [2, 3, 4, 1, 0] rfl)
          · have h := ob_f c10 h
            refine lv_iconst (v := 1) hx hb drf_Md_isAllowed_57 (by decide) ?_
            refine lv_goto (tgt := 62) hx hb drf_Md_isAllowed_58 (by decide) ?_
            refine lv_istore_n (lv' := [(3, .int 1), (0, .ref (a 0)), (1, .int y1), (2, .int y2), (4, .int y4)]) hx hb drf_Md_isAllowed_62 rfl hl (by decide) rfl (fun ls hl => ?_)
            refine lv_iinc (v := (y4 + 1)) (lv' := [(4, .int (y4 + 1)), (3, .int 1), (0, .ref (a 0)), (1, .int y1), (2, .int y2)]) hx hb drf_Md_isAllowed_63 hl (k := 4) rfl rfl (by decide) rfl (fun ls hl => ?_)
            refine lv_goto (tgt := 26) hx hb drf_Md_isAllowed_66 (by decide) ?_
            exact ih y1 y2 1 (y4 + 1) _ _ _ h hP hS (lv_sub hl [2, 3, 4, 1, 0] rfl)
  rw [rff_Md_isAllowed] at h
  refine lv_iload_n hx hb drf_Md_isAllowed_0 rfl (lv_at hl 2 rfl) ?_
  refine lv_aload_n hx hb drf_Md_isAllowed_1 rfl (lv_at hl 0 rfl) ?_
  refine rfg_Md_13 hx hb hts hown hK hP drf_Md_isAllowed_2 ?_
  refine lv_iload_n hx hb drf_Md_isAllowed_5 rfl (lv_at hl 1 rfl) ?_
  obtain ⟨hi1, h⟩ := ob_i h
  refine rf_iald (i := 1) hx hb hK hP (by decide) rfl hi1 drf_Md_isAllowed_6 ?_
  refine lv_icmp_gt (tgt := 14) hx hb drf_Md_isAllowed_7 (by decide) (fun c2 => ?_) (fun c2 => ?_)
  · have h := ob_t c2 h
    refine lv_iconst (v := 0) hx hb drf_Md_isAllowed_14 (by decide) ?_
    refine lv_istore_n (lv' := [(3, .int 0), (0, .ref (a 0)), (1, .int x1), (2, .int x2)]) hx hb drf_Md_isAllowed_15 rfl hl (by decide) rfl (fun ls hl => ?_)
    refine lv_aload_n hx hb drf_Md_isAllowed_16 rfl (lv_at hl 1 rfl) ?_
    refine rfg_Md_16 hx hb hts hown hK hP drf_Md_isAllowed_17 ?_
    refine lv_iload_n hx hb drf_Md_isAllowed_20 rfl (lv_at hl 2 rfl) ?_
    obtain ⟨hi3, h⟩ := ob_i h
    refine rf_iald (i := 2) hx hb hK hP (by decide) rfl hi3 drf_Md_isAllowed_21 ?_
    refine lv_iconst (v := 1) hx hb drf_Md_isAllowed_22 (by decide) ?_
    refine lv_iadd hx hb drf_Md_isAllowed_23 ?_
    refine lv_istore (lv' := [(4, .int ((σ 2 x1.toNatClampNeg) + 1)), (3, .int 0), (0, .ref (a 0)), (1, .int x1), (2, .int x2)]) hx hb drf_Md_isAllowed_24 hl (by decide) rfl (fun ls hl => ?_)
    exact lp26 200 x1 x2 0 ((σ 2 x1.toNatClampNeg) + 1) _ _ _ h hP hS (lv_sub hl [2, 3, 4, 1, 0] rfl)
  · have h := ob_f c2 h
    refine lv_iconst (v := 1) hx hb drf_Md_isAllowed_10 (by decide) ?_
    refine lv_goto (tgt := 15) hx hb drf_Md_isAllowed_11 (by decide) ?_
    refine lv_istore_n (lv' := [(3, .int 1), (0, .ref (a 0)), (1, .int x1), (2, .int x2)]) hx hb drf_Md_isAllowed_15 rfl hl (by decide) rfl (fun ls hl => ?_)
    refine lv_aload_n hx hb drf_Md_isAllowed_16 rfl (lv_at hl 1 rfl) ?_
    refine rfg_Md_16 hx hb hts hown hK hP drf_Md_isAllowed_17 ?_
    refine lv_iload_n hx hb drf_Md_isAllowed_20 rfl (lv_at hl 2 rfl) ?_
    obtain ⟨hi11, h⟩ := ob_i h
    refine rf_iald (i := 2) hx hb hK hP (by decide) rfl hi11 drf_Md_isAllowed_21 ?_
    refine lv_iconst (v := 1) hx hb drf_Md_isAllowed_22 (by decide) ?_
    refine lv_iadd hx hb drf_Md_isAllowed_23 ?_
    refine lv_istore (lv' := [(4, .int ((σ 2 x1.toNatClampNeg) + 1)), (3, .int 1), (0, .ref (a 0)), (1, .int x1), (2, .int x2)]) hx hb drf_Md_isAllowed_24 hl (by decide) rfl (fun ls hl => ?_)
    exact lp26 200 x1 x2 1 ((σ 2 x1.toNatClampNeg) + 1) _ _ _ h hP hS (lv_sub hl [2, 3, 4, 1, 0] rfl)

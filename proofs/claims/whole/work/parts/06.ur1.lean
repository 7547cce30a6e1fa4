set_option maxHeartbeats 4000000 in
set_option maxRecDepth 100000 in
theorem cur_Rb_isRepository (l : Launch) (D : va_G) (a : Nat → Nat) (k : Nat → ClassId) (hAd : ur_Ad a) (σ : ST) (x0 : Int32) (res : Int32) (h : urf_Rb_isRepository σ x0 = some res) : Met l ury_Rb_isRepository urs_Rb_isRepository urr_Rb_isRepository (ur_Pc D a k σ [.int x0]) (va_Qi (fun (r : Int32) (u : ST) => r = res ∧ u = σ) (ur_B D a k) (ur_A a)) 0 0 (ur_A a) := by
  refine Met.ofW (cc := urb_Rb_isRepository) (maxL := 1) (ret := (some .boolean)) (by decide) rfl ?_
  intro p e s m args below meth c s₁ B hml hv
  obtain ⟨rfl, hP, hK⟩ := hv
  have hx := B.exec
  have hb := B.bytes
  have hr := B.returns
  have hts : ∀ w ∈ ub_T, w.before _ s = true := fun w hw => atoms_spec (ws := urs_Rb_isRepository) B.pre w (List.mem_cons_of_mem _ hw)
  have hown : s.vm.findClass urR_Rb = some m.cls := findClass_of_methodNamed B.named
  have hlocks := B.notSynchronized
  have hS : va_S (ur_A a) s.heap s.heap [] := va_S.rf
  have hl := lv_entry ([.int x0]) (n := 1) (Nat.le_of_ble_eq_true rfl)
  rw [lg_entry_eq]
  generalize (lg_sl ([.int x0]) ++ List.replicate (1 - (lg_sl ([.int x0])).length) Slot.unset).toArray = ls at hl ⊢
  have hl : lv_has ls 1 [(0, .int x0)] := hl
  rw [urf_Rb_isRepository] at h
  refine lv_iload_n hx hb dur_Rb_isRepository_0 rfl (lv_at hl 0 rfl) ?_
  refine lv_if_lt (tgt := 13) hx hb dur_Rb_isRepository_1 (by decide) (fun c1 => ?_) (fun c1 => ?_)
  · have h := ob_t c1 h
    refine lv_iconst (v := 0) hx hb dur_Rb_isRepository_13 (by decide) ?_
    exact W.zret (ty := .boolean) (v := 0) hx hb hr rfl (fun t ht hW => ⟨⟨0, σ, rfl, ⟨Option.some.inj h, rfl⟩, by rw [ht]; exact hP, va_K.moved hW.alike hK⟩, hS.F ht⟩) hS.2.2 dur_Rb_isRepository_14
  · have h := ob_f c1 h
    refine lv_iload_n hx hb dur_Rb_isRepository_4 rfl (lv_at hl 0 rfl) ?_
    refine lv_iconst (v := 3) hx hb dur_Rb_isRepository_5 (by decide) ?_
    refine lv_icmp_ge (tgt := 13) hx hb dur_Rb_isRepository_6 (by decide) (fun c2 => ?_) (fun c2 => ?_)
    · have h := ob_t c2 h
      refine lv_iconst (v := 0) hx hb dur_Rb_isRepository_13 (by decide) ?_
      exact W.zret (ty := .boolean) (v := 0) hx hb hr rfl (fun t ht hW => ⟨⟨0, σ, rfl, ⟨Option.some.inj h, rfl⟩, by rw [ht]; exact hP, va_K.moved hW.alike hK⟩, hS.F ht⟩) hS.2.2 dur_Rb_isRepository_14
    · have h := ob_f c2 h
      refine lv_iconst (v := 1) hx hb dur_Rb_isRepository_9 (by decide) ?_
      refine lv_goto (tgt := 14) hx hb dur_Rb_isRepository_10 (by decide) ?_
      exact W.zret (ty := .boolean) (v := 1) hx hb hr rfl (fun t ht hW => ⟨⟨1, σ, rfl, ⟨Option.some.inj h, rfl⟩, by rw [ht]; exact hP, va_K.moved hW.alike hK⟩, hS.F ht⟩) hS.2.2 dur_Rb_isRepository_14
set_option maxHeartbeats 4000000 in
set_option maxRecDepth 100000 in
theorem cur_Nm_add (l : Launch) (D : va_G) (a : Nat → Nat) (k : Nat → ClassId) (hAd : ur_Ad a) (σ : ST) (x1 : Int32) (res : Int32 × ST) (h : urf_Nm_add σ x1 = some res) : Met l ury_Nm_add urs_Nm_add urr_Nm_add (ur_Pc D a k σ [.ref (a 1), .int x1]) (va_Qi (fun (r : Int32) (u : ST) => r = res.1 ∧ u = res.2) (ur_B D a k) (ur_A a)) 0 0 (ur_A a) := by
  refine Met.ofW (cc := urb_Nm_add) (maxL := 3) (ret := (some .int)) (by decide) rfl ?_
  intro p e s m args below meth c s₁ B hml hv
  obtain ⟨rfl, hP, hK⟩ := hv
  have hx := B.exec
  have hb := B.bytes
  have hr := B.returns
  have hts : ∀ w ∈ ub_T, w.before _ s = true := fun w hw => atoms_spec (ws := urs_Nm_add) B.pre w (List.mem_cons_of_mem _ hw)
  have hown : s.vm.findClass urR_Nm = some m.cls := findClass_of_methodNamed B.named
  have hlocks := B.notSynchronized
  have hS : va_S (ur_A a) s.heap s.heap [] := va_S.rf
  have hl := lv_entry ([.ref (a 1), .int x1]) (n := 3) (Nat.le_of_ble_eq_true rfl)
  rw [lg_entry_eq]
  generalize (lg_sl ([.ref (a 1), .int x1]) ++ List.replicate (3 - (lg_sl ([.ref (a 1), .int x1])).length) Slot.unset).toArray = ls at hl ⊢
  have hl : lv_has ls 3 [(0, .ref (a 1)), (1, .int x1)] := hl
  rw [urf_Nm_add] at h
  refine lv_aload_n hx hb dur_Nm_add_0 rfl (lv_at hl 0 rfl) ?_
  refine urg_Nm_9 hx hb hts hown hK hP dur_Nm_add_1 ?_
  refine lv_bipush (v := 12) hx hb dur_Nm_add_4 (by decide) ?_
  refine lv_icmp_lt (tgt := 11) hx hb dur_Nm_add_6 (by decide) (fun c1 => ?_) (fun c1 => ?_)
  · have h := ob_t c1 h
    refine lv_aload_n hx hb dur_Nm_add_11 rfl (lv_at hl 0 rfl) ?_
    refine urg_Nm_9 hx hb hts hown hK hP dur_Nm_add_12 ?_
    refine lv_istore_n (lv' := [(2, .int (σ 111 3)), (0, .ref (a 1)), (1, .int x1)]) hx hb dur_Nm_add_15 rfl hl (by decide) rfl (fun ls hl => ?_)
    refine lv_aload_n hx hb dur_Nm_add_16 rfl (lv_at hl 1 rfl) ?_
    refine lv_dup hx hb dur_Nm_add_17 rfl ?_
    refine urg_Nm_9 hx hb hts hown hK hP dur_Nm_add_18 ?_
    refine lv_iconst (v := 1) hx hb dur_Nm_add_21 (by decide) ?_
    refine lv_iadd hx hb dur_Nm_add_22 ?_
    refine urp_Nm_9 hx hb hts hown hK hP hAd hS dur_Nm_add_23 (fun H locs hP hS => ?_)
    refine lv_aload_n hx hb dur_Nm_add_26 rfl (lv_at hl 1 rfl) ?_
    refine urg_Nm_15 hx hb hts hown hK hP dur_Nm_add_27 ?_
    refine lv_iload_n hx hb dur_Nm_add_30 rfl (lv_at hl 0 rfl) ?_
    refine lv_iload_n hx hb dur_Nm_add_31 rfl (lv_at hl 2 rfl) ?_
    obtain ⟨hi2, h⟩ := ob_i h
    refine ur_iast (i := 0) hx hb hK hP hAd hS (by decide) rfl hi2 dur_Nm_add_32 (fun H locs hP hS => ?_)
    refine lv_aload_n hx hb dur_Nm_add_33 rfl (lv_at hl 1 rfl) ?_
    refine urg_Nm_19 hx hb hts hown hK hP dur_Nm_add_34 ?_
    refine lv_iload_n hx hb dur_Nm_add_37 rfl (lv_at hl 0 rfl) ?_
    refine lv_iconst (v := 1) hx hb dur_Nm_add_38 (by decide) ?_
    obtain ⟨hi3, h⟩ := ob_i h
    refine ur_iast (i := 1) hx hb hK hP hAd hS (by decide) rfl hi3 dur_Nm_add_39 (fun H locs hP hS => ?_)
    refine lv_aload_n hx hb dur_Nm_add_40 rfl (lv_at hl 1 rfl) ?_
    refine urg_Nm_22 hx hb hts hown hK hP dur_Nm_add_41 ?_
    refine lv_iload_n hx hb dur_Nm_add_44 rfl (lv_at hl 0 rfl) ?_
    refine lv_iconst (v := 0) hx hb dur_Nm_add_45 (by decide) ?_
    obtain ⟨hi4, h⟩ := ob_i h
    refine ur_iast (i := 2) hx hb hK hP hAd hS (by decide) rfl hi4 dur_Nm_add_46 (fun H locs hP hS => ?_)
    refine lv_aload_n hx hb dur_Nm_add_47 rfl (lv_at hl 1 rfl) ?_
    refine urg_Nm_25 hx hb hts hown hK hP dur_Nm_add_48 ?_
    refine lv_iload_n hx hb dur_Nm_add_51 rfl (lv_at hl 0 rfl) ?_
    refine lv_iconst (v := 2) hx hb dur_Nm_add_52 (by decide) ?_
    obtain ⟨hi5, h⟩ := ob_i h
    refine ur_iast (i := 3) hx hb hK hP hAd hS (by decide) rfl hi5 dur_Nm_add_53 (fun H locs hP hS => ?_)
    refine lv_aload_n hx hb dur_Nm_add_54 rfl (lv_at hl 1 rfl) ?_
    refine urg_Nm_28 hx hb hts hown hK hP dur_Nm_add_55 ?_
    refine lv_iload_n hx hb dur_Nm_add_58 rfl (lv_at hl 0 rfl) ?_
    refine lv_iconst (v := 1) hx hb dur_Nm_add_59 (by decide) ?_
    obtain ⟨hi6, h⟩ := ob_i h
    refine ur_iast (i := 4) hx hb hK hP hAd hS (by decide) rfl hi6 dur_Nm_add_60 (fun H locs hP hS => ?_)
    refine lv_aload_n hx hb dur_Nm_add_61 rfl (lv_at hl 1 rfl) ?_
    refine urg_Nm_31 hx hb hts hown hK hP dur_Nm_add_62 ?_
    refine lv_iload_n hx hb dur_Nm_add_65 rfl (lv_at hl 0 rfl) ?_
    refine lv_iconst (v := (-1)) hx hb dur_Nm_add_66 (by decide) ?_
    obtain ⟨hi7, h⟩ := ob_i h
    refine ur_iast (i := 5) hx hb hK hP hAd hS (by decide) rfl hi7 dur_Nm_add_67 (fun H locs hP hS => ?_)
    refine lv_aload_n hx hb dur_Nm_add_68 rfl (lv_at hl 1 rfl) ?_
    refine urg_Nm_34 hx hb hts hown hK hP dur_Nm_add_69 ?_
    refine lv_iload_n hx hb dur_Nm_add_72 rfl (lv_at hl 0 rfl) ?_
    refine lv_iconst (v := (-1)) hx hb dur_Nm_add_73 (by decide) ?_
    obtain ⟨hi8, h⟩ := ob_i h
    refine ur_iast (i := 6) hx hb hK hP hAd hS (by decide) rfl hi8 dur_Nm_add_74 (fun H locs hP hS => ?_)
    refine lv_aload_n hx hb dur_Nm_add_75 rfl (lv_at hl 1 rfl) ?_
    refine urg_Nm_37 hx hb hts hown hK hP dur_Nm_add_76 ?_
    refine lv_iload_n hx hb dur_Nm_add_79 rfl (lv_at hl 0 rfl) ?_
    refine lv_iconst (v := (-1)) hx hb dur_Nm_add_80 (by decide) ?_
    obtain ⟨hi9, h⟩ := ob_i h
    refine ur_iast (i := 7) hx hb hK hP hAd hS (by decide) rfl hi9 dur_Nm_add_81 (fun H locs hP hS => ?_)
    refine lv_aload_n hx hb dur_Nm_add_82 rfl (lv_at hl 1 rfl) ?_
    refine urg_Nm_45 hx hb hts hown hK hP dur_Nm_add_83 ?_
    refine lv_iload_n hx hb dur_Nm_add_86 rfl (lv_at hl 0 rfl) ?_
    obtain ⟨hg10, h⟩ := ob_i h
    refine ur_gald1 hx hb hK hP hg10 dur_Nm_add_87 ?_
    refine lv_iconst (v := 0) hx hb dur_Nm_add_88 (by decide) ?_
    refine lv_iconst (v := (-1)) hx hb dur_Nm_add_89 (by decide) ?_
    obtain ⟨hi11, h⟩ := ob_i h
    refine ur_iast (i := ((σ 111 3).toNatClampNeg + 26)) hx hb hK hP hAd hS (ur_glt1 hg10) (ur_gln1 hg10) hi11 dur_Nm_add_90 (fun H locs hP hS => ?_)
    refine lv_iload_n hx hb dur_Nm_add_91 rfl (lv_at hl 0 rfl) ?_
    exact W.iret (v := (σ 111 3)) hx hb hr (fun t ht hW => ⟨⟨(σ 111 3), (wr (wr (wr (wr (wr (wr (wr (wr (wr (wr σ 111 3 ((σ 111 3) + 1)) 0 (σ 111 3).toNatClampNeg x1) 1 (σ 111 3).toNatClampNeg 1) 2 (σ 111 3).toNatClampNeg 0) 3 (σ 111 3).toNatClampNeg 2) 4 (σ 111 3).toNatClampNeg 1) 5 (σ 111 3).toNatClampNeg (-1)) 6 (σ 111 3).toNatClampNeg (-1)) 7 (σ 111 3).toNatClampNeg (-1)) ((σ 111 3).toNatClampNeg + 26) ((0 : Int32).toNatClampNeg) (-1)), rfl, ob_r h, by rw [ht]; exact hP, va_K.moved hW.alike hK⟩, hS.F ht⟩) hS.2.2 dur_Nm_add_92
  · have h := ob_f c1 h
    refine lv_iconst (v := (-1)) hx hb dur_Nm_add_9 (by decide) ?_
    exact W.iret (v := (-1)) hx hb hr (fun t ht hW => ⟨⟨(-1), σ, rfl, ob_r h, by rw [ht]; exact hP, va_K.moved hW.alike hK⟩, hS.F ht⟩) hS.2.2 dur_Nm_add_10
set_option maxHeartbeats 4000000 in
set_option maxRecDepth 100000 in
theorem cur_Rb_name (l : Launch) (D : va_G) (a : Nat → Nat) (k : Nat → ClassId) (hAd : ur_Ad a) (σ : ST) (x1 : Int32) (res : Int32 × ST) (h : urf_Rb_name σ x1 = some res) : Met l ury_Rb_name urs_Rb_name urr_Rb_name (ur_Pc D a k σ [.ref (a 0), .int x1]) (va_Qi (fun (r : Int32) (u : ST) => r = res.1 ∧ u = res.2) (ur_B D a k) (ur_A a)) 0 0 (ur_A a) := by
  refine Met.ofW (cc := urb_Rb_name) (maxL := 2) (ret := (some .int)) (by decide) rfl ?_
  intro p e s m args below meth c s₁ B hml hv
  obtain ⟨rfl, hP, hK⟩ := hv
  have hx := B.exec
  have hb := B.bytes
  have hr := B.returns
  have hts : ∀ w ∈ ub_T, w.before _ s = true := fun w hw => atoms_spec (ws := urs_Rb_name) B.pre w (List.mem_cons_of_mem _ hw)
  have hown : s.vm.findClass urR_Rb = some m.cls := findClass_of_methodNamed B.named
  have hlocks := B.notSynchronized
  have hS : va_S (ur_A a) s.heap s.heap [] := va_S.rf
  have hl := lv_entry ([.ref (a 0), .int x1]) (n := 2) (Nat.le_of_ble_eq_true rfl)
  rw [lg_entry_eq]
  generalize (lg_sl ([.ref (a 0), .int x1]) ++ List.replicate (2 - (lg_sl ([.ref (a 0), .int x1])).length) Slot.unset).toArray = ls at hl ⊢
  have hl : lv_has ls 2 [(0, .ref (a 0)), (1, .int x1)] := hl
  rw [urf_Rb_name] at h
  refine lv_iload_n hx hb dur_Rb_name_0 rfl (lv_at hl 1 rfl) ?_
  obtain ⟨q1, hq1, h⟩ := ob_b h
  refine ur_cs_ir (As := [.int x1]) (rest := []) ⟨hx, hb, hml, hown, hts⟩ (cur_Rb_isRepository l D a k hAd σ x1  q1 hq1) (urc_Rb_49 hts ⟨Nat.le_of_ble_eq_true rfl, Nat.le_of_ble_eq_true rfl⟩) hK hP rfl hl.1 rfl (Nat.le_of_ble_eq_true rfl) dur_Rb_name_1 hS (fun H locs hP hS => ?_)
  refine lv_if_ne (tgt := 9) hx hb dur_Rb_name_4 (by decide) (fun c2 => ?_) (fun c2 => ?_)
  · have h := ob_f c2 h
    refine lv_aload_n hx hb dur_Rb_name_9 rfl (lv_at hl 0 rfl) ?_
    refine urg_Rb_25 hx hb hts hown hK hP dur_Rb_name_10 ?_
    refine lv_iload_n hx hb dur_Rb_name_13 rfl (lv_at hl 1 rfl) ?_
    obtain ⟨q3, hq3, h⟩ := ob_b h
    refine ur_cv_iw (As := [.int x1]) (rest := []) ⟨hx, hb, hml, hown, hts⟩ (cur_Nm_add l D a k hAd σ x1  q3 hq3) (urc_Rb_53 hts ⟨Nat.le_of_ble_eq_true rfl, Nat.le_of_ble_eq_true rfl⟩) (ur_rc1 hK hP) hK hP rfl hl.1 rfl (Nat.le_of_ble_eq_true rfl) dur_Rb_name_14 hS (fun H locs hP hS => ?_)
    exact W.iret (v := q3.1) hx hb hr (fun t ht hW => ⟨⟨q3.1, q3.2, rfl, ob_r h, by rw [ht]; exact hP, va_K.moved hW.alike hK⟩, hS.F ht⟩) hS.2.2 dur_Rb_name_17
  · have h := ob_t c2 h
    refine lv_iconst (v := (-1)) hx hb dur_Rb_name_7 (by decide) ?_
    exact W.iret (v := (-1)) hx hb hr (fun t ht hW => ⟨⟨(-1), σ, rfl, ob_r h, by rw [ht]; exact hP, va_K.moved hW.alike hK⟩, hS.F ht⟩) hS.2.2 dur_Rb_name_8
set_option maxHeartbeats 4000000 in
set_option maxRecDepth 100000 in
theorem cur_Nm_isKnown (l : Launch) (D : va_G) (a : Nat → Nat) (k : Nat → ClassId) (hAd : ur_Ad a) (σ : ST) (x1 : Int32) (res : Int32) (h : urf_Nm_isKnown σ x1 = some res) : Met l ury_Nm_isKnown urs_Nm_isKnown urr_Nm_isKnown (ur_Pc D a k σ [.ref (a 1), .int x1]) (va_Qi (fun (r : Int32) (u : ST) => r = res ∧ u = σ) (ur_B D a k) (ur_A a)) 0 0 (ur_A a) := by
  refine Met.ofW (cc := urb_Nm_isKnown) (maxL := 2) (ret := (some .boolean)) (by decide) rfl ?_
  intro p e s m args below meth c s₁ B hml hv
  obtain ⟨rfl, hP, hK⟩ := hv
  have hx := B.exec
  have hb := B.bytes
  have hr := B.returns
  have hts : ∀ w ∈ ub_T, w.before _ s = true := fun w hw => atoms_spec (ws := urs_Nm_isKnown) B.pre w (List.mem_cons_of_mem _ hw)
  have hown : s.vm.findClass urR_Nm = some m.cls := findClass_of_methodNamed B.named
  have hlocks := B.notSynchronized
  have hS : va_S (ur_A a) s.heap s.heap [] := va_S.rf
  have hl := lv_entry ([.ref (a 1), .int x1]) (n := 2) (Nat.le_of_ble_eq_true rfl)
  rw [lg_entry_eq]
  generalize (lg_sl ([.ref (a 1), .int x1]) ++ List.replicate (2 - (lg_sl ([.ref (a 1), .int x1])).length) Slot.unset).toArray = ls at hl ⊢
  have hl : lv_has ls 2 [(0, .ref (a 1)), (1, .int x1)] := hl
  rw [urf_Nm_isKnown] at h
  refine lv_iload_n hx hb dur_Nm_isKnown_0 rfl (lv_at hl 1 rfl) ?_
  refine lv_if_lt (tgt := 16) hx hb dur_Nm_isKnown_1 (by decide) (fun c1 => ?_) (fun c1 => ?_)
  · have h := ob_t c1 h
    refine lv_iconst (v := 0) hx hb dur_Nm_isKnown_16 (by decide) ?_
    exact W.zret (ty := .boolean) (v := 0) hx hb hr rfl (fun t ht hW => ⟨⟨0, σ, rfl, ⟨Option.some.inj h, rfl⟩, by rw [ht]; exact hP, va_K.moved hW.alike hK⟩, hS.F ht⟩) hS.2.2 dur_Nm_isKnown_17
  · have h := ob_f c1 h
    refine lv_iload_n hx hb dur_Nm_isKnown_4 rfl (lv_at hl 1 rfl) ?_
    refine lv_aload_n hx hb dur_Nm_isKnown_5 rfl (lv_at hl 0 rfl) ?_
    refine urg_Nm_9 hx hb hts hown hK hP dur_Nm_isKnown_6 ?_
    refine lv_icmp_ge (tgt := 16) hx hb dur_Nm_isKnown_9 (by decide) (fun c2 => ?_) (fun c2 => ?_)
    · have h := ob_t c2 h
      refine lv_iconst (v := 0) hx hb dur_Nm_isKnown_16 (by decide) ?_
      exact W.zret (ty := .boolean) (v := 0) hx hb hr rfl (fun t ht hW => ⟨⟨0, σ, rfl, ⟨Option.some.inj h, rfl⟩, by rw [ht]; exact hP, va_K.moved hW.alike hK⟩, hS.F ht⟩) hS.2.2 dur_Nm_isKnown_17
    · have h := ob_f c2 h
      refine lv_iconst (v := 1) hx hb dur_Nm_isKnown_12 (by decide) ?_
      refine lv_goto (tgt := 17) hx hb dur_Nm_isKnown_13 (by decide) ?_
      exact W.zret (ty := .boolean) (v := 1) hx hb hr rfl (fun t ht hW => ⟨⟨1, σ, rfl, ⟨Option.some.inj h, rfl⟩, by rw [ht]; exact hP, va_K.moved hW.alike hK⟩, hS.F ht⟩) hS.2.2 dur_Nm_isKnown_17
set_option maxHeartbeats 4000000 in
set_option maxRecDepth 100000 in
theorem cur_Nm_addVersion (l : Launch) (D : va_G) (a : Nat → Nat) (k : Nat → ClassId) (hAd : ur_Ad a) (σ : ST) (x1 : Int32) (x2 : Int32) (res : Int32 × ST) (h : urf_Nm_addVersion σ x1 x2 = some res) : Met l ury_Nm_addVersion urs_Nm_addVersion urr_Nm_addVersion (ur_Pc D a k σ [.ref (a 1), .int x1, .int x2]) (va_Qi (fun (r : Int32) (u : ST) => r = res.1 ∧ u = res.2) (ur_B D a k) (ur_A a)) 0 0 (ur_A a) := by
  refine Met.ofW (cc := urb_Nm_addVersion) (maxL := 4) (ret := (some .int)) (by decide) rfl ?_
  intro p e s m args below meth c s₁ B hml hv
  obtain ⟨rfl, hP, hK⟩ := hv
  have hx := B.exec
  have hb := B.bytes
  have hr := B.returns
  have hts : ∀ w ∈ ub_T, w.before _ s = true := fun w hw => atoms_spec (ws := urs_Nm_addVersion) B.pre w (List.mem_cons_of_mem _ hw)
  have hown : s.vm.findClass urR_Nm = some m.cls := findClass_of_methodNamed B.named
  have hlocks := B.notSynchronized
  have hS : va_S (ur_A a) s.heap s.heap [] := va_S.rf
  have hl := lv_entry ([.ref (a 1), .int x1, .int x2]) (n := 4) (Nat.le_of_ble_eq_true rfl)
  rw [lg_entry_eq]
  generalize (lg_sl ([.ref (a 1), .int x1, .int x2]) ++ List.replicate (4 - (lg_sl ([.ref (a 1), .int x1, .int x2])).length) Slot.unset).toArray = ls at hl ⊢
  have hl : lv_has ls 4 [(0, .ref (a 1)), (1, .int x1), (2, .int x2)] := hl
  rw [urf_Nm_addVersion] at h
  refine lv_aload_n hx hb dur_Nm_addVersion_0 rfl (lv_at hl 0 rfl) ?_
  refine urg_Nm_19 hx hb hts hown hK hP dur_Nm_addVersion_1 ?_
  refine lv_iload_n hx hb dur_Nm_addVersion_4 rfl (lv_at hl 1 rfl) ?_
  obtain ⟨hi1, h⟩ := ob_i h
  refine ur_iald (i := 1) hx hb hK hP (by decide) rfl hi1 dur_Nm_addVersion_5 ?_
  refine lv_istore_n (lv' := [(3, .int (σ 1 x1.toNatClampNeg)), (0, .ref (a 1)), (1, .int x1), (2, .int x2)]) hx hb dur_Nm_addVersion_6 rfl hl (by decide) rfl (fun ls hl => ?_)
  refine lv_iload_n hx hb dur_Nm_addVersion_7 rfl (lv_at hl 0 rfl) ?_
  refine lv_bipush (v := 8) hx hb dur_Nm_addVersion_8 (by decide) ?_
  refine lv_icmp_lt (tgt := 15) hx hb dur_Nm_addVersion_10 (by decide) (fun c2 => ?_) (fun c2 => ?_)
  · have h := ob_t c2 h
    refine lv_aload_n hx hb dur_Nm_addVersion_15 rfl (lv_at hl 1 rfl) ?_
    refine urg_Nm_19 hx hb hts hown hK hP dur_Nm_addVersion_16 ?_
    refine lv_iload_n hx hb dur_Nm_addVersion_19 rfl (lv_at hl 2 rfl) ?_
    refine lv_dup2_11 hx hb dur_Nm_addVersion_20 rfl rfl ?_
    obtain ⟨hi3, h⟩ := ob_i h
    refine ur_iald (i := 1) hx hb hK hP (by decide) rfl hi3 dur_Nm_addVersion_21 ?_
    refine lv_iconst (v := 1) hx hb dur_Nm_addVersion_22 (by decide) ?_
    refine lv_iadd hx hb dur_Nm_addVersion_23 ?_
    obtain ⟨hi4, h⟩ := ob_i h
    refine ur_iast (i := 1) hx hb hK hP hAd hS (by decide) rfl hi4 dur_Nm_addVersion_24 (fun H locs hP hS => ?_)
    refine lv_aload_n hx hb dur_Nm_addVersion_25 rfl (lv_at hl 1 rfl) ?_
    refine urg_Nm_42 hx hb hts hown hK hP dur_Nm_addVersion_26 ?_
    refine lv_iload_n hx hb dur_Nm_addVersion_29 rfl (lv_at hl 2 rfl) ?_
    obtain ⟨hg5, h⟩ := ob_i h
    refine ur_gald0 hx hb hK hP hg5 dur_Nm_addVersion_30 ?_
    refine lv_iload_n hx hb dur_Nm_addVersion_31 rfl (lv_at hl 0 rfl) ?_
    refine lv_iload_n hx hb dur_Nm_addVersion_32 rfl (lv_at hl 3 rfl) ?_
    obtain ⟨hi6, h⟩ := ob_i h
    refine ur_iast (i := (x1.toNatClampNeg + 14)) hx hb hK hP hAd hS (ur_glt0 hg5) (ur_gln0 hg5) hi6 dur_Nm_addVersion_33 (fun H locs hP hS => ?_)
    refine lv_aload_n hx hb dur_Nm_addVersion_34 rfl (lv_at hl 1 rfl) ?_
    refine urg_Nm_45 hx hb hts hown hK hP dur_Nm_addVersion_35 ?_
    refine lv_iload_n hx hb dur_Nm_addVersion_38 rfl (lv_at hl 2 rfl) ?_
    obtain ⟨hg7, h⟩ := ob_i h
    refine ur_gald1 hx hb hK hP hg7 dur_Nm_addVersion_39 ?_
    refine lv_iload_n hx hb dur_Nm_addVersion_40 rfl (lv_at hl 0 rfl) ?_
    refine lv_iconst (v := (-1)) hx hb dur_Nm_addVersion_41 (by decide) ?_
    obtain ⟨hi8, h⟩ := ob_i h
    refine ur_iast (i := (x1.toNatClampNeg + 26)) hx hb hK hP hAd hS (ur_glt1 hg7) (ur_gln1 hg7) hi8 dur_Nm_addVersion_42 (fun H locs hP hS => ?_)
    refine lv_iload_n hx hb dur_Nm_addVersion_43 rfl (lv_at hl 0 rfl) ?_
    exact W.iret (v := (σ 1 x1.toNatClampNeg)) hx hb hr (fun t ht hW => ⟨⟨(σ 1 x1.toNatClampNeg), (wr (wr (wr σ 1 x1.toNatClampNeg ((σ 1 x1.toNatClampNeg) + 1)) (x1.toNatClampNeg + 14) (σ 1 x1.toNatClampNeg).toNatClampNeg x2) (x1.toNatClampNeg + 26) (σ 1 x1.toNatClampNeg).toNatClampNeg (-1)), rfl, ob_r h, by rw [ht]; exact hP, va_K.moved hW.alike hK⟩, hS.F ht⟩) hS.2.2 dur_Nm_addVersion_44
  · have h := ob_f c2 h
    refine lv_iconst (v := (-1)) hx hb dur_Nm_addVersion_13 (by decide) ?_
    exact W.iret (v := (-1)) hx hb hr (fun t ht hW => ⟨⟨(-1), σ, rfl, ob_r h, by rw [ht]; exact hP, va_K.moved hW.alike hK⟩, hS.F ht⟩) hS.2.2 dur_Nm_addVersion_14
set_option maxHeartbeats 4000000 in
set_option maxRecDepth 100000 in
theorem cur_Rb_newer (l : Launch) (D : va_G) (a : Nat → Nat) (k : Nat → ClassId) (hAd : ur_Ad a) (σ : ST) (x1 : Int32) (x2 : Int32) (res : Int32 × ST) (h : urf_Rb_newer σ x1 x2 = some res) : Met l ury_Rb_newer urs_Rb_newer urr_Rb_newer (ur_Pc D a k σ [.ref (a 0), .int x1, .int x2]) (va_Qi (fun (r : Int32) (u : ST) => r = res.1 ∧ u = res.2) (ur_B D a k) (ur_A a)) 0 0 (ur_A a) := by
  refine Met.ofW (cc := urb_Rb_newer) (maxL := 3) (ret := (some .int)) (by decide) rfl ?_
  intro p e s m args below meth c s₁ B hml hv
  obtain ⟨rfl, hP, hK⟩ := hv
  have hx := B.exec
  have hb := B.bytes
  have hr := B.returns
  have hts : ∀ w ∈ ub_T, w.before _ s = true := fun w hw => atoms_spec (ws := urs_Rb_newer) B.pre w (List.mem_cons_of_mem _ hw)
  have hown : s.vm.findClass urR_Rb = some m.cls := findClass_of_methodNamed B.named
  have hlocks := B.notSynchronized
  have hS : va_S (ur_A a) s.heap s.heap [] := va_S.rf
  have hl := lv_entry ([.ref (a 0), .int x1, .int x2]) (n := 3) (Nat.le_of_ble_eq_true rfl)
  rw [lg_entry_eq]
  generalize (lg_sl ([.ref (a 0), .int x1, .int x2]) ++ List.replicate (3 - (lg_sl ([.ref (a 0), .int x1, .int x2])).length) Slot.unset).toArray = ls at hl ⊢
  have hl : lv_has ls 3 [(0, .ref (a 0)), (1, .int x1), (2, .int x2)] := hl
  rw [urf_Rb_newer] at h
  refine lv_aload_n hx hb dur_Rb_newer_0 rfl (lv_at hl 0 rfl) ?_
  refine urg_Rb_25 hx hb hts hown hK hP dur_Rb_newer_1 ?_
  refine lv_iload_n hx hb dur_Rb_newer_4 rfl (lv_at hl 1 rfl) ?_
  obtain ⟨q1, hq1, h⟩ := ob_b h
  refine ur_cv_ir (As := [.int x1]) (rest := []) ⟨hx, hb, hml, hown, hts⟩ (cur_Nm_isKnown l D a k hAd σ x1  q1 hq1) (urc_Rb_57 hts ⟨Nat.le_of_ble_eq_true rfl, Nat.le_of_ble_eq_true rfl⟩) (ur_rc1 hK hP) hK hP rfl hl.1 rfl (Nat.le_of_ble_eq_true rfl) dur_Rb_newer_5 hS (fun H locs hP hS => ?_)
  refine lv_if_eq (tgt := 20) hx hb dur_Rb_newer_8 (by decide) (fun c2 => ?_) (fun c2 => ?_)
  · have h := ob_t c2 h
    refine lv_iconst (v := (-1)) hx hb dur_Rb_newer_20 (by decide) ?_
    exact W.iret (v := (-1)) hx hb hr (fun t ht hW => ⟨⟨(-1), σ, rfl, ob_r h, by rw [ht]; exact hP, va_K.moved hW.alike hK⟩, hS.F ht⟩) hS.2.2 dur_Rb_newer_21
  · have h := ob_f c2 h
    refine lv_iload_n hx hb dur_Rb_newer_11 rfl (lv_at hl 2 rfl) ?_
    refine lv_if_lt (tgt := 20) hx hb dur_Rb_newer_12 (by decide) (fun c3 => ?_) (fun c3 => ?_)
    · have h := ob_t c3 h
      refine lv_iconst (v := (-1)) hx hb dur_Rb_newer_20 (by decide) ?_
      exact W.iret (v := (-1)) hx hb hr (fun t ht hW => ⟨⟨(-1), σ, rfl, ob_r h, by rw [ht]; exact hP, va_K.moved hW.alike hK⟩, hS.F ht⟩) hS.2.2 dur_Rb_newer_21
    · have h := ob_f c3 h
      refine lv_iload_n hx hb dur_Rb_newer_15 rfl (lv_at hl 2 rfl) ?_
      refine lv_iconst (v := 3) hx hb dur_Rb_newer_16 (by decide) ?_
      refine lv_icmp_lt (tgt := 22) hx hb dur_Rb_newer_17 (by decide) (fun c4 => ?_) (fun c4 => ?_)
      · have h := ob_t c4 h
        refine lv_aload_n hx hb dur_Rb_newer_22 rfl (lv_at hl 0 rfl) ?_
        refine urg_Rb_25 hx hb hts hown hK hP dur_Rb_newer_23 ?_
        refine lv_iload_n hx hb dur_Rb_newer_26 rfl (lv_at hl 1 rfl) ?_
        refine lv_iload_n hx hb dur_Rb_newer_27 rfl (lv_at hl 2 rfl) ?_
        obtain ⟨q5, hq5, h⟩ := ob_b h
        refine ur_cv_iw (As := [.int x1, .int x2]) (rest := []) ⟨hx, hb, hml, hown, hts⟩ (cur_Nm_addVersion l D a k hAd σ x1 x2  q5 hq5) (urc_Rb_60 hts ⟨Nat.le_of_ble_eq_true rfl, Nat.le_of_ble_eq_true rfl⟩) (ur_rc1 hK hP) hK hP rfl hl.1 rfl (Nat.le_of_ble_eq_true rfl) dur_Rb_newer_28 hS (fun H locs hP hS => ?_)
        exact W.iret (v := q5.1) hx hb hr (fun t ht hW => ⟨⟨q5.1, q5.2, rfl, ob_r h, by rw [ht]; exact hP, va_K.moved hW.alike hK⟩, hS.F ht⟩) hS.2.2 dur_Rb_newer_31
      · have h := ob_f c4 h
        refine lv_iconst (v := (-1)) hx hb dur_Rb_newer_20 (by decide) ?_
        exact W.iret (v := (-1)) hx hb hr (fun t ht hW => ⟨⟨(-1), σ, rfl, ob_r h, by rw [ht]; exact hP, va_K.moved hW.alike hK⟩, hS.F ht⟩) hS.2.2 dur_Rb_newer_21
set_option maxHeartbeats 4000000 in
set_option maxRecDepth 100000 in
theorem cur_Nm_hasVersion (l : Launch) (D : va_G) (a : Nat → Nat) (k : Nat → ClassId) (hAd : ur_Ad a) (σ : ST) (x1 : Int32) (x2 : Int32) (res : Int32) (h : urf_Nm_hasVersion σ x1 x2 = some res) : Met l ury_Nm_hasVersion urs_Nm_hasVersion urr_Nm_hasVersion (ur_Pc D a k σ [.ref (a 1), .int x1, .int x2]) (va_Qi (fun (r : Int32) (u : ST) => r = res ∧ u = σ) (ur_B D a k) (ur_A a)) 0 0 (ur_A a) := by
  refine Met.ofW (cc := urb_Nm_hasVersion) (maxL := 3) (ret := (some .boolean)) (by decide) rfl ?_
  intro p e s m args below meth c s₁ B hml hv
  obtain ⟨rfl, hP, hK⟩ := hv
  have hx := B.exec
  have hb := B.bytes
  have hr := B.returns
  have hts : ∀ w ∈ ub_T, w.before _ s = true := fun w hw => atoms_spec (ws := urs_Nm_hasVersion) B.pre w (List.mem_cons_of_mem _ hw)
  have hown : s.vm.findClass urR_Nm = some m.cls := findClass_of_methodNamed B.named
  have hlocks := B.notSynchronized
  have hS : va_S (ur_A a) s.heap s.heap [] := va_S.rf
  have hl := lv_entry ([.ref (a 1), .int x1, .int x2]) (n := 3) (Nat.le_of_ble_eq_true rfl)
  rw [lg_entry_eq]
  generalize (lg_sl ([.ref (a 1), .int x1, .int x2]) ++ List.replicate (3 - (lg_sl ([.ref (a 1), .int x1, .int x2])).length) Slot.unset).toArray = ls at hl ⊢
  have hl : lv_has ls 3 [(0, .ref (a 1)), (1, .int x1), (2, .int x2)] := hl
  rw [urf_Nm_hasVersion] at h
  refine lv_aload_n hx hb dur_Nm_hasVersion_0 rfl (lv_at hl 0 rfl) ?_
  refine lv_iload_n hx hb dur_Nm_hasVersion_1 rfl (lv_at hl 1 rfl) ?_
  obtain ⟨q1, hq1, h⟩ := ob_b h
  refine ur_cv_ir (As := [.int x1]) (rest := []) ⟨hx, hb, hml, hown, hts⟩ (cur_Nm_isKnown l D a k hAd σ x1  q1 hq1) (urc_Nm_51 hts ⟨Nat.le_of_ble_eq_true rfl, Nat.le_of_ble_eq_true rfl⟩) (ur_rc1 hK hP) hK hP rfl hl.1 rfl (Nat.le_of_ble_eq_true rfl) dur_Nm_hasVersion_2 hS (fun H locs hP hS => ?_)
  refine lv_if_eq (tgt := 26) hx hb dur_Nm_hasVersion_5 (by decide) (fun c2 => ?_) (fun c2 => ?_)
  · have h := ob_t c2 h
    refine lv_iconst (v := 0) hx hb dur_Nm_hasVersion_26 (by decide) ?_
    exact W.zret (ty := .boolean) (v := 0) hx hb hr rfl (fun t ht hW => ⟨⟨0, σ, rfl, ⟨Option.some.inj h, rfl⟩, by rw [ht]; exact hP, va_K.moved hW.alike hK⟩, hS.F ht⟩) hS.2.2 dur_Nm_hasVersion_27
  · have h := ob_f c2 h
    refine lv_iload_n hx hb dur_Nm_hasVersion_8 rfl (lv_at hl 2 rfl) ?_
    refine lv_if_lt (tgt := 26) hx hb dur_Nm_hasVersion_9 (by decide) (fun c3 => ?_) (fun c3 => ?_)
    · have h := ob_t c3 h
      refine lv_iconst (v := 0) hx hb dur_Nm_hasVersion_26 (by decide) ?_
      exact W.zret (ty := .boolean) (v := 0) hx hb hr rfl (fun t ht hW => ⟨⟨0, σ, rfl, ⟨Option.some.inj h, rfl⟩, by rw [ht]; exact hP, va_K.moved hW.alike hK⟩, hS.F ht⟩) hS.2.2 dur_Nm_hasVersion_27
    · have h := ob_f c3 h
      refine lv_iload_n hx hb dur_Nm_hasVersion_12 rfl (lv_at hl 2 rfl) ?_
      refine lv_aload_n hx hb dur_Nm_hasVersion_13 rfl (lv_at hl 0 rfl) ?_
      refine urg_Nm_19 hx hb hts hown hK hP dur_Nm_hasVersion_14 ?_
      refine lv_iload_n hx hb dur_Nm_hasVersion_17 rfl (lv_at hl 1 rfl) ?_
      obtain ⟨hi4, h⟩ := ob_i h
      refine ur_iald (i := 1) hx hb hK hP (by decide) rfl hi4 dur_Nm_hasVersion_18 ?_
      refine lv_icmp_ge (tgt := 26) hx hb dur_Nm_hasVersion_19 (by decide) (fun c5 => ?_) (fun c5 => ?_)
      · have h := ob_t c5 h
        refine lv_iconst (v := 0) hx hb dur_Nm_hasVersion_26 (by decide) ?_
        exact W.zret (ty := .boolean) (v := 0) hx hb hr rfl (fun t ht hW => ⟨⟨0, σ, rfl, ⟨Option.some.inj h, rfl⟩, by rw [ht]; exact hP, va_K.moved hW.alike hK⟩, hS.F ht⟩) hS.2.2 dur_Nm_hasVersion_27
      · have h := ob_f c5 h
        refine lv_iconst (v := 1) hx hb dur_Nm_hasVersion_22 (by decide) ?_
        refine lv_goto (tgt := 27) hx hb dur_Nm_hasVersion_23 (by decide) ?_
        exact W.zret (ty := .boolean) (v := 1) hx hb hr rfl (fun t ht hW => ⟨⟨1, σ, rfl, ⟨Option.some.inj h, rfl⟩, by rw [ht]; exact hP, va_K.moved hW.alike hK⟩, hS.F ht⟩) hS.2.2 dur_Nm_hasVersion_27
set_option maxHeartbeats 4000000 in
set_option maxRecDepth 100000 in
theorem cur_Rb_needs (l : Launch) (D : va_G) (a : Nat → Nat) (k : Nat → ClassId) (hAd : ur_Ad a) (σ : ST) (x1 : Int32) (x2 : Int32) (x3 : Int32) (x4 : Int32) (res : Int32 × ST) (h : urf_Rb_needs σ x1 x2 x3 x4 = some res) : Met l ury_Rb_needs urs_Rb_needs urr_Rb_needs (ur_Pc D a k σ [.ref (a 0), .int x1, .int x2, .int x3, .int x4]) (va_Qi (fun (r : Int32) (u : ST) => r = res.1 ∧ u = res.2) (ur_B D a k) (ur_A a)) 0 0 (ur_A a) := by
  refine Met.ofW (cc := urb_Rb_needs) (maxL := 5) (ret := (some .boolean)) (by decide) rfl ?_
  intro p e s m args below meth c s₁ B hml hv
  obtain ⟨rfl, hP, hK⟩ := hv
  have hx := B.exec
  have hb := B.bytes
  have hr := B.returns
  have hts : ∀ w ∈ ub_T, w.before _ s = true := fun w hw => atoms_spec (ws := urs_Rb_needs) B.pre w (List.mem_cons_of_mem _ hw)
  have hown : s.vm.findClass urR_Rb = some m.cls := findClass_of_methodNamed B.named
  have hlocks := B.notSynchronized
  have hS : va_S (ur_A a) s.heap s.heap [] := va_S.rf
  have hl := lv_entry ([.ref (a 0), .int x1, .int x2, .int x3, .int x4]) (n := 5) (Nat.le_of_ble_eq_true rfl)
  rw [lg_entry_eq]
  generalize (lg_sl ([.ref (a 0), .int x1, .int x2, .int x3, .int x4]) ++ List.replicate (5 - (lg_sl ([.ref (a 0), .int x1, .int x2, .int x3, .int x4])).length) Slot.unset).toArray = ls at hl ⊢
  have hl : lv_has ls 5 [(0, .ref (a 0)), (1, .int x1), (2, .int x2), (3, .int x3), (4, .int x4)] := hl
  have jp28 : ∀ (σ : ST) (y1 : Int32) (y2 : Int32) (y3 : Int32) (y4 : Int32) (H : Heap) (locs : List Loc) (ls : Array Slot), urj_Rb_needs_28 σ y1 y2 y3 y4 = some res → ur_P D a k σ H → va_S (ur_A a) s.heap H locs → lv_has ls 5 [(0, .ref (a 0)), (1, .int y1), (2, .int y2), (3, .int y3), (4, .int y4)] → W p l e (headSpec urs_Rb_needs urr_Rb_needs).room s m (([.ref (a 0), .int x1, .int x2, .int x3, .int x4] : List Value)).toArray below meth c H locs 0 0 (MQ below (va_Qi (fun (r : Int32) (u : ST) => r = res.1 ∧ u = res.2) (ur_B D a k) (ur_A a)) (([.ref (a 0), .int x1, .int x2, .int x3, .int x4] : List Value)).toArray s 0 0 (ur_A a)) (F0 m 28 ls []) := by
    intro σ y1 y2 y3 y4 H locs ls h hP hS hl
    rw [urj_Rb_needs_28] at h
    refine lv_iconst (v := 0) hx hb dur_Rb_needs_28 (by decide) ?_
    exact W.zret (ty := .boolean) (v := 0) hx hb hr rfl (fun t ht hW => ⟨⟨0, σ, rfl, ob_r h, by rw [ht]; exact hP, va_K.moved hW.alike hK⟩, hS.F ht⟩) hS.2.2 dur_Rb_needs_29
  rw [urf_Rb_needs] at h
  refine lv_aload_n hx hb dur_Rb_needs_0 rfl (lv_at hl 0 rfl) ?_
  refine urg_Rb_25 hx hb hts hown hK hP dur_Rb_needs_1 ?_
  refine lv_iload_n hx hb dur_Rb_needs_4 rfl (lv_at hl 1 rfl) ?_
  refine lv_iload_n hx hb dur_Rb_needs_5 rfl (lv_at hl 2 rfl) ?_
  obtain ⟨q1, hq1, h⟩ := ob_b h
  refine ur_cv_ir (As := [.int x1, .int x2]) (rest := []) ⟨hx, hb, hml, hown, hts⟩ (cur_Nm_hasVersion l D a k hAd σ x1 x2  q1 hq1) (urc_Rb_63 hts ⟨Nat.le_of_ble_eq_true rfl, Nat.le_of_ble_eq_true rfl⟩) (ur_rc1 hK hP) hK hP rfl hl.1 rfl (Nat.le_of_ble_eq_true rfl) dur_Rb_needs_6 hS (fun H locs hP hS => ?_)
  refine lv_if_eq (tgt := 28) hx hb dur_Rb_needs_9 (by decide) (fun c2 => ?_) (fun c2 => ?_)
  · have h := ob_t c2 h
    exact jp28 σ x1 x2 x3 x4 _ _ _ h hP hS (lv_sub hl [0, 1, 2, 3, 4] rfl)
  · have h := ob_f c2 h
    refine lv_aload_n hx hb dur_Rb_needs_12 rfl (lv_at hl 0 rfl) ?_
    refine urg_Rb_25 hx hb hts hown hK hP dur_Rb_needs_13 ?_
    refine lv_iload_n hx hb dur_Rb_needs_16 rfl (lv_at hl 3 rfl) ?_
    obtain ⟨q3, hq3, h⟩ := ob_b h
    refine ur_cv_ir (As := [.int x3]) (rest := []) ⟨hx, hb, hml, hown, hts⟩ (cur_Nm_isKnown l D a k hAd σ x3  q3 hq3) (urc_Rb_57 hts ⟨Nat.le_of_ble_eq_true rfl, Nat.le_of_ble_eq_true rfl⟩) (ur_rc1 hK hP) hK hP rfl hl.1 rfl (Nat.le_of_ble_eq_true rfl) dur_Rb_needs_17 hS (fun H locs hP hS => ?_)
    refine lv_if_eq (tgt := 28) hx hb dur_Rb_needs_20 (by decide) (fun c4 => ?_) (fun c4 => ?_)
    · have h := ob_t c4 h
      exact jp28 σ x1 x2 x3 x4 _ _ _ h hP hS (lv_sub hl [0, 1, 2, 3, 4] rfl)
    · have h := ob_f c4 h
      refine lv_iload_n hx hb dur_Rb_needs_23 rfl (lv_at hl 1 rfl) ?_
      refine lv_iload_n hx hb dur_Rb_needs_24 rfl (lv_at hl 3 rfl) ?_
      refine lv_icmp_ne (tgt := 30) hx hb dur_Rb_needs_25 (by decide) (fun c5 => ?_) (fun c5 => ?_)
      · have h := ob_f c5 h
        refine lv_iload hx hb dur_Rb_needs_30 (lv_at hl 4 rfl) ?_
        refine lv_if_lt (tgt := 42) hx hb dur_Rb_needs_32 (by decide) (fun c6 => ?_) (fun c6 => ?_)
        · have h := ob_t c6 h
          refine lv_iconst (v := 0) hx hb dur_Rb_needs_42 (by decide) ?_
          exact W.zret (ty := .boolean) (v := 0) hx hb hr rfl (fun t ht hW => ⟨⟨0, σ, rfl, ob_r h, by rw [ht]; exact hP, va_K.moved hW.alike hK⟩, hS.F ht⟩) hS.2.2 dur_Rb_needs_43
        · have h := ob_f c6 h
          refine lv_iload hx hb dur_Rb_needs_35 (lv_at hl 4 rfl) ?_
          refine lv_bipush (v := 8) hx hb dur_Rb_needs_37 (by decide) ?_
          refine lv_icmp_lt (tgt := 44) hx hb dur_Rb_needs_39 (by decide) (fun c7 => ?_) (fun c7 => ?_)
          · have h := ob_t c7 h
            refine lv_aload_n hx hb dur_Rb_needs_44 rfl (lv_at hl 0 rfl) ?_
            refine urg_Rb_25 hx hb hts hown hK hP dur_Rb_needs_45 ?_
            refine urg_Rb_67 hx hb hts hown hK hP dur_Rb_needs_48 ?_
            refine lv_iload_n hx hb dur_Rb_needs_51 rfl (lv_at hl 1 rfl) ?_
            obtain ⟨hg8, h⟩ := ob_i h
            refine ur_gald1 hx hb hK hP hg8 dur_Rb_needs_52 ?_
            refine lv_iload_n hx hb dur_Rb_needs_53 rfl (lv_at hl 2 rfl) ?_
            refine lv_iload_n hx hb dur_Rb_needs_54 rfl (lv_at hl 3 rfl) ?_
            obtain ⟨hi9, h⟩ := ob_i h
            refine ur_iast (i := (x1.toNatClampNeg + 26)) hx hb hK hP hAd hS (ur_glt1 hg8) (ur_gln1 hg8) hi9 dur_Rb_needs_55 (fun H locs hP hS => ?_)
            refine lv_aload_n hx hb dur_Rb_needs_56 rfl (lv_at hl 0 rfl) ?_
            refine urg_Rb_25 hx hb hts hown hK hP dur_Rb_needs_57 ?_
            refine urg_Rb_71 hx hb hts hown hK hP dur_Rb_needs_60 ?_
            refine lv_iload_n hx hb dur_Rb_needs_63 rfl (lv_at hl 1 rfl) ?_
            obtain ⟨hg10, h⟩ := ob_i h
            refine ur_gald2 hx hb hK hP hg10 dur_Rb_needs_64 ?_
            refine lv_iload_n hx hb dur_Rb_needs_65 rfl (lv_at hl 2 rfl) ?_
            refine lv_iload hx hb dur_Rb_needs_66 (lv_at hl 4 rfl) ?_
            obtain ⟨hi11, h⟩ := ob_i h
            refine ur_iast (i := (x1.toNatClampNeg + 38)) hx hb hK hP hAd hS (ur_glt2 hg10) (ur_gln2 hg10) hi11 dur_Rb_needs_68 (fun H locs hP hS => ?_)
            refine lv_iconst (v := 1) hx hb dur_Rb_needs_69 (by decide) ?_
            exact W.zret (ty := .boolean) (v := 1) hx hb hr rfl (fun t ht hW => ⟨⟨1, (wr (wr σ (x1.toNatClampNeg + 26) x2.toNatClampNeg x3) (x1.toNatClampNeg + 38) x2.toNatClampNeg x4), rfl, ob_r h, by rw [ht]; exact hP, va_K.moved hW.alike hK⟩, hS.F ht⟩) hS.2.2 dur_Rb_needs_70
          · have h := ob_f c7 h
            refine lv_iconst (v := 0) hx hb dur_Rb_needs_42 (by decide) ?_
            exact W.zret (ty := .boolean) (v := 0) hx hb hr rfl (fun t ht hW => ⟨⟨0, σ, rfl, ob_r h, by rw [ht]; exact hP, va_K.moved hW.alike hK⟩, hS.F ht⟩) hS.2.2 dur_Rb_needs_43
      · have h := ob_t c5 h
        exact jp28 σ x1 x2 x3 x4 _ _ _ h hP hS (lv_sub hl [0, 1, 2, 3, 4] rfl)
set_option maxHeartbeats 4000000 in
set_option maxRecDepth 100000 in
theorem cur_Rb_rule (l : Launch) (D : va_G) (a : Nat → Nat) (k : Nat → ClassId) (hAd : ur_Ad a) (σ : ST) (x1 : Int32) (x2 : Int32) (x3 : Int32) (x4 : Int32) (res : Int32 × ST) (h : urf_Rb_rule σ x1 x2 x3 x4 = some res) : Met l ury_Rb_rule urs_Rb_rule urr_Rb_rule (ur_Pc D a k σ [.ref (a 0), .int x1, .int x2, .int x3, .int x4]) (va_Qi (fun (r : Int32) (u : ST) => r = res.1 ∧ u = res.2) (ur_B D a k) (ur_A a)) 0 0 (ur_A a) := by
  refine Met.ofW (cc := urb_Rb_rule) (maxL := 5) (ret := (some .boolean)) (by decide) rfl ?_
  intro p e s m args below meth c s₁ B hml hv
  obtain ⟨rfl, hP, hK⟩ := hv
  have hx := B.exec
  have hb := B.bytes
  have hr := B.returns
  have hts : ∀ w ∈ ub_T, w.before _ s = true := fun w hw => atoms_spec (ws := urs_Rb_rule) B.pre w (List.mem_cons_of_mem _ hw)
  have hown : s.vm.findClass urR_Rb = some m.cls := findClass_of_methodNamed B.named
  have hlocks := B.notSynchronized
  have hS : va_S (ur_A a) s.heap s.heap [] := va_S.rf
  have hl := lv_entry ([.ref (a 0), .int x1, .int x2, .int x3, .int x4]) (n := 5) (Nat.le_of_ble_eq_true rfl)
  rw [lg_entry_eq]
  generalize (lg_sl ([.ref (a 0), .int x1, .int x2, .int x3, .int x4]) ++ List.replicate (5 - (lg_sl ([.ref (a 0), .int x1, .int x2, .int x3, .int x4])).length) Slot.unset).toArray = ls at hl ⊢
  have hl : lv_has ls 5 [(0, .ref (a 0)), (1, .int x1), (2, .int x2), (3, .int x3), (4, .int x4)] := hl
  have jp21 : ∀ (σ : ST) (y1 : Int32) (y2 : Int32) (y3 : Int32) (y4 : Int32) (H : Heap) (locs : List Loc) (ls : Array Slot), urj_Rb_rule_21 σ y1 y2 y3 y4 = some res → ur_P D a k σ H → va_S (ur_A a) s.heap H locs → lv_has ls 5 [(0, .ref (a 0)), (1, .int y1), (2, .int y2), (3, .int y3), (4, .int y4)] → W p l e (headSpec urs_Rb_rule urr_Rb_rule).room s m (([.ref (a 0), .int x1, .int x2, .int x3, .int x4] : List Value)).toArray below meth c H locs 0 0 (MQ below (va_Qi (fun (r : Int32) (u : ST) => r = res.1 ∧ u = res.2) (ur_B D a k) (ur_A a)) (([.ref (a 0), .int x1, .int x2, .int x3, .int x4] : List Value)).toArray s 0 0 (ur_A a)) (F0 m 21 ls []) := by
    intro σ y1 y2 y3 y4 H locs ls h hP hS hl
    rw [urj_Rb_rule_21] at h
    refine lv_iconst (v := 0) hx hb dur_Rb_rule_21 (by decide) ?_
    exact W.zret (ty := .boolean) (v := 0) hx hb hr rfl (fun t ht hW => ⟨⟨0, σ, rfl, ob_r h, by rw [ht]; exact hP, va_K.moved hW.alike hK⟩, hS.F ht⟩) hS.2.2 dur_Rb_rule_22
  have jp47 : ∀ (σ : ST) (y1 : Int32) (y2 : Int32) (y3 : Int32) (y4 : Int32) (H : Heap) (locs : List Loc) (ls : Array Slot), urj_Rb_rule_47 σ y1 y2 y3 y4 = some res → ur_P D a k σ H → va_S (ur_A a) s.heap H locs → lv_has ls 5 [(0, .ref (a 0)), (1, .int y1), (2, .int y2), (3, .int y3), (4, .int y4)] → W p l e (headSpec urs_Rb_rule urr_Rb_rule).room s m (([.ref (a 0), .int x1, .int x2, .int x3, .int x4] : List Value)).toArray below meth c H locs 0 0 (MQ below (va_Qi (fun (r : Int32) (u : ST) => r = res.1 ∧ u = res.2) (ur_B D a k) (ur_A a)) (([.ref (a 0), .int x1, .int x2, .int x3, .int x4] : List Value)).toArray s 0 0 (ur_A a)) (F0 m 47 ls []) := by
    intro σ y1 y2 y3 y4 H locs ls h hP hS hl
    rw [urj_Rb_rule_47] at h
    refine lv_iconst (v := 0) hx hb dur_Rb_rule_47 (by decide) ?_
    exact W.zret (ty := .boolean) (v := 0) hx hb hr rfl (fun t ht hW => ⟨⟨0, σ, rfl, ob_r h, by rw [ht]; exact hP, va_K.moved hW.alike hK⟩, hS.F ht⟩) hS.2.2 dur_Rb_rule_48
  rw [urf_Rb_rule] at h
  refine lv_aload_n hx hb dur_Rb_rule_0 rfl (lv_at hl 0 rfl) ?_
  refine urg_Rb_25 hx hb hts hown hK hP dur_Rb_rule_1 ?_
  refine lv_iload_n hx hb dur_Rb_rule_4 rfl (lv_at hl 1 rfl) ?_
  obtain ⟨q1, hq1, h⟩ := ob_b h
  refine ur_cv_ir (As := [.int x1]) (rest := []) ⟨hx, hb, hml, hown, hts⟩ (cur_Nm_isKnown l D a k hAd σ x1  q1 hq1) (urc_Rb_57 hts ⟨Nat.le_of_ble_eq_true rfl, Nat.le_of_ble_eq_true rfl⟩) (ur_rc1 hK hP) hK hP rfl hl.1 rfl (Nat.le_of_ble_eq_true rfl) dur_Rb_rule_5 hS (fun H locs hP hS => ?_)
  refine lv_if_eq (tgt := 21) hx hb dur_Rb_rule_8 (by decide) (fun c2 => ?_) (fun c2 => ?_)
  · have h := ob_t c2 h
    exact jp21 σ x1 x2 x3 x4 _ _ _ h hP hS (lv_sub hl [0, 1, 2, 3, 4] rfl)
  · have h := ob_f c2 h
    refine lv_iload_n hx hb dur_Rb_rule_11 rfl (lv_at hl 2 rfl) ?_
    refine lv_iconst (v := (-1)) hx hb dur_Rb_rule_12 (by decide) ?_
    refine lv_icmp_lt (tgt := 21) hx hb dur_Rb_rule_13 (by decide) (fun c3 => ?_) (fun c3 => ?_)
    · have h := ob_t c3 h
      exact jp21 σ x1 x2 x3 x4 _ _ _ h hP hS (lv_sub hl [0, 1, 2, 3, 4] rfl)
    · have h := ob_f c3 h
      refine lv_iload_n hx hb dur_Rb_rule_16 rfl (lv_at hl 2 rfl) ?_
      refine lv_iconst (v := 3) hx hb dur_Rb_rule_17 (by decide) ?_
      refine lv_icmp_lt (tgt := 23) hx hb dur_Rb_rule_18 (by decide) (fun c4 => ?_) (fun c4 => ?_)
      · have h := ob_t c4 h
        refine lv_iload_n hx hb dur_Rb_rule_23 rfl (lv_at hl 3 rfl) ?_
        refine lv_iconst (v := 1) hx hb dur_Rb_rule_24 (by decide) ?_
        refine lv_icmp_lt (tgt := 47) hx hb dur_Rb_rule_25 (by decide) (fun c5 => ?_) (fun c5 => ?_)
        · have h := ob_t c5 h
          exact jp47 σ x1 x2 x3 x4 _ _ _ h hP hS (lv_sub hl [0, 1, 2, 3, 4] rfl)
        · have h := ob_f c5 h
          refine lv_iload_n hx hb dur_Rb_rule_28 rfl (lv_at hl 3 rfl) ?_
          refine lv_sipush (v := 1000) hx hb dur_Rb_rule_29 (by decide) ?_
          refine lv_icmp_gt (tgt := 47) hx hb dur_Rb_rule_32 (by decide) (fun c6 => ?_) (fun c6 => ?_)
          · have h := ob_t c6 h
            exact jp47 σ x1 x2 x3 x4 _ _ _ h hP hS (lv_sub hl [0, 1, 2, 3, 4] rfl)
          · have h := ob_f c6 h
            refine lv_iload hx hb dur_Rb_rule_35 (lv_at hl 4 rfl) ?_
            refine lv_iconst (v := (-1)) hx hb dur_Rb_rule_37 (by decide) ?_
            refine lv_icmp_lt (tgt := 47) hx hb dur_Rb_rule_38 (by decide) (fun c7 => ?_) (fun c7 => ?_)
            · have h := ob_t c7 h
              exact jp47 σ x1 x2 x3 x4 _ _ _ h hP hS (lv_sub hl [0, 1, 2, 3, 4] rfl)
            · have h := ob_f c7 h
              refine lv_iload hx hb dur_Rb_rule_41 (lv_at hl 4 rfl) ?_
              refine lv_iconst (v := 4) hx hb dur_Rb_rule_43 (by decide) ?_
              refine lv_icmp_lt (tgt := 49) hx hb dur_Rb_rule_44 (by decide) (fun c8 => ?_) (fun c8 => ?_)
              · have h := ob_t c8 h
                refine lv_aload_n hx hb dur_Rb_rule_49 rfl (lv_at hl 0 rfl) ?_
                refine urg_Rb_25 hx hb hts hown hK hP dur_Rb_rule_50 ?_
                refine urg_Rb_74 hx hb hts hown hK hP dur_Rb_rule_53 ?_
                refine lv_iload_n hx hb dur_Rb_rule_56 rfl (lv_at hl 1 rfl) ?_
                refine lv_iload_n hx hb dur_Rb_rule_57 rfl (lv_at hl 2 rfl) ?_
                obtain ⟨hi9, h⟩ := ob_i h
                refine ur_iast (i := 3) hx hb hK hP hAd hS (by decide) rfl hi9 dur_Rb_rule_58 (fun H locs hP hS => ?_)
                refine lv_aload_n hx hb dur_Rb_rule_59 rfl (lv_at hl 0 rfl) ?_
                refine urg_Rb_25 hx hb hts hown hK hP dur_Rb_rule_60 ?_
                refine urg_Rb_78 hx hb hts hown hK hP dur_Rb_rule_63 ?_
                refine lv_iload_n hx hb dur_Rb_rule_66 rfl (lv_at hl 1 rfl) ?_
                refine lv_iload_n hx hb dur_Rb_rule_67 rfl (lv_at hl 3 rfl) ?_
                obtain ⟨hi10, h⟩ := ob_i h
                refine ur_iast (i := 4) hx hb hK hP hAd hS (by decide) rfl hi10 dur_Rb_rule_68 (fun H locs hP hS => ?_)
                refine lv_aload_n hx hb dur_Rb_rule_69 rfl (lv_at hl 0 rfl) ?_
                refine urg_Rb_25 hx hb hts hown hK hP dur_Rb_rule_70 ?_
                refine urg_Rb_81 hx hb hts hown hK hP dur_Rb_rule_73 ?_
                refine lv_iload_n hx hb dur_Rb_rule_76 rfl (lv_at hl 1 rfl) ?_
                refine lv_iload hx hb dur_Rb_rule_77 (lv_at hl 4 rfl) ?_
                obtain ⟨hi11, h⟩ := ob_i h
                refine ur_iast (i := 5) hx hb hK hP hAd hS (by decide) rfl hi11 dur_Rb_rule_79 (fun H locs hP hS => ?_)
                refine lv_iconst (v := 1) hx hb dur_Rb_rule_80 (by decide) ?_
                exact W.zret (ty := .boolean) (v := 1) hx hb hr rfl (fun t ht hW => ⟨⟨1, (wr (wr (wr σ 3 x1.toNatClampNeg x2) 4 x1.toNatClampNeg x3) 5 x1.toNatClampNeg x4), rfl, ob_r h, by rw [ht]; exact hP, va_K.moved hW.alike hK⟩, hS.F ht⟩) hS.2.2 dur_Rb_rule_81
              · have h := ob_f c8 h
                exact jp47 σ x1 x2 x3 x4 _ _ _ h hP hS (lv_sub hl [0, 1, 2, 3, 4] rfl)
      · have h := ob_f c4 h
        exact jp21 σ x1 x2 x3 x4 _ _ _ h hP hS (lv_sub hl [0, 1, 2, 3, 4] rfl)
set_option maxHeartbeats 4000000 in
set_option maxRecDepth 100000 in
theorem cur_Rb_advise (l : Launch) (D : va_G) (a : Nat → Nat) (k : Nat → ClassId) (hAd : ur_Ad a) (σ : ST) (x1 : Int32) (x2 : Int32) (res : Int32 × ST) (h : urf_Rb_advise σ x1 x2 = some res) : Met l ury_Rb_advise urs_Rb_advise urr_Rb_advise (ur_Pc D a k σ [.ref (a 0), .int x1, .int x2]) (va_Qi (fun (r : Int32) (u : ST) => r = res.1 ∧ u = res.2) (ur_B D a k) (ur_A a)) 0 0 (ur_A a) := by
  refine Met.ofW (cc := urb_Rb_advise) (maxL := 3) (ret := (some .boolean)) (by decide) rfl ?_
  intro p e s m args below meth c s₁ B hml hv
  obtain ⟨rfl, hP, hK⟩ := hv
  have hx := B.exec
  have hb := B.bytes
  have hr := B.returns
  have hts : ∀ w ∈ ub_T, w.before _ s = true := fun w hw => atoms_spec (ws := urs_Rb_advise) B.pre w (List.mem_cons_of_mem _ hw)
  have hown : s.vm.findClass urR_Rb = some m.cls := findClass_of_methodNamed B.named
  have hlocks := B.notSynchronized
  have hS : va_S (ur_A a) s.heap s.heap [] := va_S.rf
  have hl := lv_entry ([.ref (a 0), .int x1, .int x2]) (n := 3) (Nat.le_of_ble_eq_true rfl)
  rw [lg_entry_eq]
  generalize (lg_sl ([.ref (a 0), .int x1, .int x2]) ++ List.replicate (3 - (lg_sl ([.ref (a 0), .int x1, .int x2])).length) Slot.unset).toArray = ls at hl ⊢
  have hl : lv_has ls 3 [(0, .ref (a 0)), (1, .int x1), (2, .int x2)] := hl
  rw [urf_Rb_advise] at h
  refine lv_aload_n hx hb dur_Rb_advise_0 rfl (lv_at hl 0 rfl) ?_
  refine urg_Rb_25 hx hb hts hown hK hP dur_Rb_advise_1 ?_
  refine lv_iload_n hx hb dur_Rb_advise_4 rfl (lv_at hl 1 rfl) ?_
  obtain ⟨q1, hq1, h⟩ := ob_b h
  refine ur_cv_ir (As := [.int x1]) (rest := []) ⟨hx, hb, hml, hown, hts⟩ (cur_Nm_isKnown l D a k hAd σ x1  q1 hq1) (urc_Rb_57 hts ⟨Nat.le_of_ble_eq_true rfl, Nat.le_of_ble_eq_true rfl⟩) (ur_rc1 hK hP) hK hP rfl hl.1 rfl (Nat.le_of_ble_eq_true rfl) dur_Rb_advise_5 hS (fun H locs hP hS => ?_)
  refine lv_if_ne (tgt := 13) hx hb dur_Rb_advise_8 (by decide) (fun c2 => ?_) (fun c2 => ?_)
  · have h := ob_f c2 h
    refine lv_iload_n hx hb dur_Rb_advise_13 rfl (lv_at hl 2 rfl) ?_
    refine lv_iconst (v := (-1)) hx hb dur_Rb_advise_14 (by decide) ?_
    refine lv_icmp_eq (tgt := 32) hx hb dur_Rb_advise_15 (by decide) (fun c3 => ?_) (fun c3 => ?_)
    · have h := ob_t c3 h
      refine lv_aload_n hx hb dur_Rb_advise_32 rfl (lv_at hl 0 rfl) ?_
      refine urg_Rb_25 hx hb hts hown hK hP dur_Rb_advise_33 ?_
      refine urg_Rb_84 hx hb hts hown hK hP dur_Rb_advise_36 ?_
      refine lv_iload_n hx hb dur_Rb_advise_39 rfl (lv_at hl 1 rfl) ?_
      refine lv_iload_n hx hb dur_Rb_advise_40 rfl (lv_at hl 2 rfl) ?_
      obtain ⟨hi4, h⟩ := ob_i h
      refine ur_iast (i := 6) hx hb hK hP hAd hS (by decide) rfl hi4 dur_Rb_advise_41 (fun H locs hP hS => ?_)
      refine lv_iconst (v := 1) hx hb dur_Rb_advise_42 (by decide) ?_
      exact W.zret (ty := .boolean) (v := 1) hx hb hr rfl (fun t ht hW => ⟨⟨1, (wr σ 6 x1.toNatClampNeg x2), rfl, ob_r h, by rw [ht]; exact hP, va_K.moved hW.alike hK⟩, hS.F ht⟩) hS.2.2 dur_Rb_advise_43
    · have h := ob_f c3 h
      refine lv_aload_n hx hb dur_Rb_advise_18 rfl (lv_at hl 0 rfl) ?_
      refine urg_Rb_25 hx hb hts hown hK hP dur_Rb_advise_19 ?_
      refine lv_iload_n hx hb dur_Rb_advise_22 rfl (lv_at hl 1 rfl) ?_
      refine lv_iload_n hx hb dur_Rb_advise_23 rfl (lv_at hl 2 rfl) ?_
      obtain ⟨q5, hq5, h⟩ := ob_b h
      refine ur_cv_ir (As := [.int x1, .int x2]) (rest := []) ⟨hx, hb, hml, hown, hts⟩ (cur_Nm_hasVersion l D a k hAd σ x1 x2  q5 hq5) (urc_Rb_63 hts ⟨Nat.le_of_ble_eq_true rfl, Nat.le_of_ble_eq_true rfl⟩) (ur_rc1 hK hP) hK hP rfl hl.1 rfl (Nat.le_of_ble_eq_true rfl) dur_Rb_advise_24 hS (fun H locs hP hS => ?_)
      refine lv_if_ne (tgt := 32) hx hb dur_Rb_advise_27 (by decide) (fun c6 => ?_) (fun c6 => ?_)
      · have h := ob_f c6 h
        refine lv_aload_n hx hb dur_Rb_advise_32 rfl (lv_at hl 0 rfl) ?_
        refine urg_Rb_25 hx hb hts hown hK hP dur_Rb_advise_33 ?_
        refine urg_Rb_84 hx hb hts hown hK hP dur_Rb_advise_36 ?_
        refine lv_iload_n hx hb dur_Rb_advise_39 rfl (lv_at hl 1 rfl) ?_
        refine lv_iload_n hx hb dur_Rb_advise_40 rfl (lv_at hl 2 rfl) ?_
        obtain ⟨hi7, h⟩ := ob_i h
        refine ur_iast (i := 6) hx hb hK hP hAd hS (by decide) rfl hi7 dur_Rb_advise_41 (fun H locs hP hS => ?_)
        refine lv_iconst (v := 1) hx hb dur_Rb_advise_42 (by decide) ?_
        exact W.zret (ty := .boolean) (v := 1) hx hb hr rfl (fun t ht hW => ⟨⟨1, (wr σ 6 x1.toNatClampNeg x2), rfl, ob_r h, by rw [ht]; exact hP, va_K.moved hW.alike hK⟩, hS.F ht⟩) hS.2.2 dur_Rb_advise_43
      · have h := ob_t c6 h
        refine lv_iconst (v := 0) hx hb dur_Rb_advise_30 (by decide) ?_
        exact W.zret (ty := .boolean) (v := 0) hx hb hr rfl (fun t ht hW => ⟨⟨0, σ, rfl, ob_r h, by rw [ht]; exact hP, va_K.moved hW.alike hK⟩, hS.F ht⟩) hS.2.2 dur_Rb_advise_31
  · have h := ob_t c2 h
    refine lv_iconst (v := 0) hx hb dur_Rb_advise_11 (by decide) ?_
    exact W.zret (ty := .boolean) (v := 0) hx hb hr rfl (fun t ht hW => ⟨⟨0, σ, rfl, ob_r h, by rw [ht]; exact hP, va_K.moved hW.alike hK⟩, hS.F ht⟩) hS.2.2 dur_Rb_advise_12
set_option maxHeartbeats 4000000 in
set_option maxRecDepth 100000 in
theorem cur_Rb_has (l : Launch) (D : va_G) (a : Nat → Nat) (k : Nat → ClassId) (hAd : ur_Ad a) (σ : ST) (x1 : Int32) (res : Int32) (h : urf_Rb_has σ x1 = some res) : Met l ury_Rb_has urs_Rb_has urr_Rb_has (ur_Pc D a k σ [.ref (a 0), .int x1]) (va_Qi (fun (r : Int32) (u : ST) => r = res ∧ u = σ) (ur_B D a k) (ur_A a)) 0 0 (ur_A a) := by
  refine Met.ofW (cc := urb_Rb_has) (maxL := 2) (ret := (some .int)) (by decide) rfl ?_
  intro p e s m args below meth c s₁ B hml hv
  obtain ⟨rfl, hP, hK⟩ := hv
  have hx := B.exec
  have hb := B.bytes
  have hr := B.returns
  have hts : ∀ w ∈ ub_T, w.before _ s = true := fun w hw => atoms_spec (ws := urs_Rb_has) B.pre w (List.mem_cons_of_mem _ hw)
  have hown : s.vm.findClass urR_Rb = some m.cls := findClass_of_methodNamed B.named
  have hlocks := B.notSynchronized
  have hS : va_S (ur_A a) s.heap s.heap [] := va_S.rf
  have hl := lv_entry ([.ref (a 0), .int x1]) (n := 2) (Nat.le_of_ble_eq_true rfl)
  rw [lg_entry_eq]
  generalize (lg_sl ([.ref (a 0), .int x1]) ++ List.replicate (2 - (lg_sl ([.ref (a 0), .int x1])).length) Slot.unset).toArray = ls at hl ⊢
  have hl : lv_has ls 2 [(0, .ref (a 0)), (1, .int x1)] := hl
  rw [urf_Rb_has] at h
  refine lv_aload_n hx hb dur_Rb_has_0 rfl (lv_at hl 0 rfl) ?_
  refine urg_Rb_25 hx hb hts hown hK hP dur_Rb_has_1 ?_
  refine lv_iload_n hx hb dur_Rb_has_4 rfl (lv_at hl 1 rfl) ?_
  obtain ⟨q1, hq1, h⟩ := ob_b h
  refine ur_cv_ir (As := [.int x1]) (rest := []) ⟨hx, hb, hml, hown, hts⟩ (cur_Nm_isKnown l D a k hAd σ x1  q1 hq1) (urc_Rb_57 hts ⟨Nat.le_of_ble_eq_true rfl, Nat.le_of_ble_eq_true rfl⟩) (ur_rc1 hK hP) hK hP rfl hl.1 rfl (Nat.le_of_ble_eq_true rfl) dur_Rb_has_5 hS (fun H locs hP hS => ?_)
  refine lv_if_eq (tgt := 23) hx hb dur_Rb_has_8 (by decide) (fun c2 => ?_) (fun c2 => ?_)
  · have h := ob_t c2 h
    refine lv_iconst (v := (-1)) hx hb dur_Rb_has_23 (by decide) ?_
    exact W.iret (v := (-1)) hx hb hr (fun t ht hW => ⟨⟨(-1), σ, rfl, ⟨Option.some.inj h, rfl⟩, by rw [ht]; exact hP, va_K.moved hW.alike hK⟩, hS.F ht⟩) hS.2.2 dur_Rb_has_24
  · have h := ob_f c2 h
    refine lv_aload_n hx hb dur_Rb_has_11 rfl (lv_at hl 0 rfl) ?_
    refine urg_Rb_25 hx hb hts hown hK hP dur_Rb_has_12 ?_
    refine urg_Rb_87 hx hb hts hown hK hP dur_Rb_has_15 ?_
    refine lv_iload_n hx hb dur_Rb_has_18 rfl (lv_at hl 1 rfl) ?_
    obtain ⟨hi3, h⟩ := ob_i h
    refine ur_iald (i := 2) hx hb hK hP (by decide) rfl hi3 dur_Rb_has_19 ?_
    refine lv_goto (tgt := 24) hx hb dur_Rb_has_20 (by decide) ?_
    exact W.iret (v := (σ 2 x1.toNatClampNeg)) hx hb hr (fun t ht hW => ⟨⟨(σ 2 x1.toNatClampNeg), σ, rfl, ⟨Option.some.inj h, rfl⟩, by rw [ht]; exact hP, va_K.moved hW.alike hK⟩, hS.F ht⟩) hS.2.2 dur_Rb_has_24

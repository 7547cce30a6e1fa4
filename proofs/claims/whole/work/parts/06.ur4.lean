set_option maxHeartbeats 4000000 in
set_option maxRecDepth 100000 in
theorem cur_Pr_isFull (l : Launch) (D : va_G) (a : Nat → Nat) (k : Nat → ClassId) (hAd : ur_Ad a) (σ : ST) (res : Int32) (h : urf_Pr_isFull σ  = some res) : Met l ury_Pr_isFull urs_Pr_isFull urr_Pr_isFull (ur_Pc D a k σ [.ref (a 3)]) (va_Qi (fun (r : Int32) (u : ST) => r = res ∧ u = σ) (ur_B D a k) (ur_A a)) 0 0 (ur_A a) := by
  refine Met.ofW (cc := urb_Pr_isFull) (maxL := 1) (ret := (some .boolean)) (by decide) rfl ?_
  intro p e s m args below meth c s₁ B hml hv
  obtain ⟨rfl, hP, hK⟩ := hv
  have hx := B.exec
  have hb := B.bytes
  have hr := B.returns
  have hts : ∀ w ∈ ub_T, w.before _ s = true := fun w hw => atoms_spec (ws := urs_Pr_isFull) B.pre w (List.mem_cons_of_mem _ hw)
  have hown : s.vm.findClass urR_Pr = some m.cls := findClass_of_methodNamed B.named
  have hlocks := B.notSynchronized
  have hS : va_S (ur_A a) s.heap s.heap [] := va_S.rf
  have hl := lv_entry ([.ref (a 3)]) (n := 1) (Nat.le_of_ble_eq_true rfl)
  rw [lg_entry_eq]
  generalize (lg_sl ([.ref (a 3)]) ++ List.replicate (1 - (lg_sl ([.ref (a 3)])).length) Slot.unset).toArray = ls at hl ⊢
  have hl : lv_has ls 1 [(0, .ref (a 3))] := hl
  rw [urf_Pr_isFull] at h
  refine lv_aload_n hx hb dur_Pr_isFull_0 rfl (lv_at hl 0 rfl) ?_
  refine urg_Pr_9 hx hb hts hown hK hP dur_Pr_isFull_1 ?_
  refine lv_bipush (v := 60) hx hb dur_Pr_isFull_4 (by decide) ?_
  refine lv_icmp_lt (tgt := 13) hx hb dur_Pr_isFull_6 (by decide) (fun c1 => ?_) (fun c1 => ?_)
  · have h := ob_t c1 h
    refine lv_iconst (v := 0) hx hb dur_Pr_isFull_13 (by decide) ?_
    exact W.zret (ty := .boolean) (v := 0) hx hb hr rfl (fun t ht hW => ⟨⟨0, σ, rfl, ⟨Option.some.inj h, rfl⟩, by rw [ht]; exact hP, va_K.moved hW.alike hK⟩, hS.F ht⟩) hS.2.2 dur_Pr_isFull_14
  · have h := ob_f c1 h
    refine lv_iconst (v := 1) hx hb dur_Pr_isFull_9 (by decide) ?_
    refine lv_goto (tgt := 14) hx hb dur_Pr_isFull_10 (by decide) ?_
    exact W.zret (ty := .boolean) (v := 1) hx hb hr rfl (fun t ht hW => ⟨⟨1, σ, rfl, ⟨Option.some.inj h, rfl⟩, by rw [ht]; exact hP, va_K.moved hW.alike hK⟩, hS.F ht⟩) hS.2.2 dur_Pr_isFull_14
set_option maxHeartbeats 4000000 in
set_option maxRecDepth 100000 in
theorem cur_Pr_isOpen (l : Launch) (D : va_G) (a : Nat → Nat) (k : Nat → ClassId) (hAd : ur_Ad a) (σ : ST) (x1 : Int32) (res : Int32) (h : urf_Pr_isOpen σ x1 = some res) : Met l ury_Pr_isOpen urs_Pr_isOpen urr_Pr_isOpen (ur_Pc D a k σ [.ref (a 3), .int x1]) (va_Qi (fun (r : Int32) (u : ST) => r = res ∧ u = σ) (ur_B D a k) (ur_A a)) 0 0 (ur_A a) := by
  refine Met.ofW (cc := urb_Pr_isOpen) (maxL := 2) (ret := (some .boolean)) (by decide) rfl ?_
  intro p e s m args below meth c s₁ B hml hv
  obtain ⟨rfl, hP, hK⟩ := hv
  have hx := B.exec
  have hb := B.bytes
  have hr := B.returns
  have hts : ∀ w ∈ ub_T, w.before _ s = true := fun w hw => atoms_spec (ws := urs_Pr_isOpen) B.pre w (List.mem_cons_of_mem _ hw)
  have hown : s.vm.findClass urR_Pr = some m.cls := findClass_of_methodNamed B.named
  have hlocks := B.notSynchronized
  have hS : va_S (ur_A a) s.heap s.heap [] := va_S.rf
  have hl := lv_entry ([.ref (a 3), .int x1]) (n := 2) (Nat.le_of_ble_eq_true rfl)
  rw [lg_entry_eq]
  generalize (lg_sl ([.ref (a 3), .int x1]) ++ List.replicate (2 - (lg_sl ([.ref (a 3), .int x1])).length) Slot.unset).toArray = ls at hl ⊢
  have hl : lv_has ls 2 [(0, .ref (a 3)), (1, .int x1)] := hl
  rw [urf_Pr_isOpen] at h
  refine lv_aload_n hx hb dur_Pr_isOpen_0 rfl (lv_at hl 0 rfl) ?_
  refine lv_iload_n hx hb dur_Pr_isOpen_1 rfl (lv_at hl 1 rfl) ?_
  obtain ⟨q1, hq1, h⟩ := ob_b h
  refine ur_cv_ir (As := [.int x1]) (rest := []) ⟨hx, hb, hml, hown, hts⟩ (cur_Pr_isKnown l D a k hAd σ x1  q1 hq1) (urc_Pr_37 hts ⟨Nat.le_of_ble_eq_true rfl, Nat.le_of_ble_eq_true rfl⟩) (ur_rc3 hK hP) hK hP rfl hl.1 rfl (Nat.le_of_ble_eq_true rfl) dur_Pr_isOpen_2 hS (fun H locs hP hS => ?_)
  refine lv_if_eq (tgt := 21) hx hb dur_Pr_isOpen_5 (by decide) (fun c2 => ?_) (fun c2 => ?_)
  · have h := ob_t c2 h
    refine lv_iconst (v := 0) hx hb dur_Pr_isOpen_21 (by decide) ?_
    exact W.zret (ty := .boolean) (v := 0) hx hb hr rfl (fun t ht hW => ⟨⟨0, σ, rfl, ⟨Option.some.inj h, rfl⟩, by rw [ht]; exact hP, va_K.moved hW.alike hK⟩, hS.F ht⟩) hS.2.2 dur_Pr_isOpen_22
  · have h := ob_f c2 h
    refine lv_aload_n hx hb dur_Pr_isOpen_8 rfl (lv_at hl 0 rfl) ?_
    refine urg_Pr_15 hx hb hts hown hK hP dur_Pr_isOpen_9 ?_
    refine lv_iload_n hx hb dur_Pr_isOpen_12 rfl (lv_at hl 1 rfl) ?_
    obtain ⟨hi3, h⟩ := ob_i h
    refine ur_iald (i := 10) hx hb hK hP (by decide) rfl hi3 dur_Pr_isOpen_13 ?_
    refine lv_if_ne (tgt := 21) hx hb dur_Pr_isOpen_14 (by decide) (fun c4 => ?_) (fun c4 => ?_)
    · have h := ob_f c4 h
      refine lv_iconst (v := 0) hx hb dur_Pr_isOpen_21 (by decide) ?_
      exact W.zret (ty := .boolean) (v := 0) hx hb hr rfl (fun t ht hW => ⟨⟨0, σ, rfl, ⟨Option.some.inj h, rfl⟩, by rw [ht]; exact hP, va_K.moved hW.alike hK⟩, hS.F ht⟩) hS.2.2 dur_Pr_isOpen_22
    · have h := ob_t c4 h
      refine lv_iconst (v := 1) hx hb dur_Pr_isOpen_17 (by decide) ?_
      refine lv_goto (tgt := 22) hx hb dur_Pr_isOpen_18 (by decide) ?_
      exact W.zret (ty := .boolean) (v := 1) hx hb hr rfl (fun t ht hW => ⟨⟨1, σ, rfl, ⟨Option.some.inj h, rfl⟩, by rw [ht]; exact hP, va_K.moved hW.alike hK⟩, hS.F ht⟩) hS.2.2 dur_Pr_isOpen_22
set_option maxHeartbeats 4000000 in
set_option maxRecDepth 100000 in
theorem cur_Rb_openIn (l : Launch) (D : va_G) (a : Nat → Nat) (k : Nat → ClassId) (hAd : ur_Ad a) (σ : ST) (x1 : Int32) (res : Int32) (h : urf_Rb_openIn σ x1 = some res) : Met l ury_Rb_openIn urs_Rb_openIn urr_Rb_openIn (ur_Pc D a k σ [.ref (a 0), .int x1]) (va_Qi (fun (r : Int32) (u : ST) => r = res ∧ u = σ) (ur_B D a k) (ur_A a)) 0 0 (ur_A a) := by
  refine Met.ofW (cc := urb_Rb_openIn) (maxL := 4) (ret := (some .int)) (by decide) rfl ?_
  intro p e s m args below meth c s₁ B hml hv
  obtain ⟨rfl, hP, hK⟩ := hv
  have hx := B.exec
  have hb := B.bytes
  have hr := B.returns
  have hts : ∀ w ∈ ub_T, w.before _ s = true := fun w hw => atoms_spec (ws := urs_Rb_openIn) B.pre w (List.mem_cons_of_mem _ hw)
  have hown : s.vm.findClass urR_Rb = some m.cls := findClass_of_methodNamed B.named
  have hlocks := B.notSynchronized
  have hS : va_S (ur_A a) s.heap s.heap [] := va_S.rf
  have hl := lv_entry ([.ref (a 0), .int x1]) (n := 4) (Nat.le_of_ble_eq_true rfl)
  rw [lg_entry_eq]
  generalize (lg_sl ([.ref (a 0), .int x1]) ++ List.replicate (4 - (lg_sl ([.ref (a 0), .int x1])).length) Slot.unset).toArray = ls at hl ⊢
  have hl : lv_has ls 4 [(0, .ref (a 0)), (1, .int x1)] := hl
  have lp4 : ∀ (n : Nat) (y1 : Int32) (y2 : Int32) (y3 : Int32) (H : Heap) (locs : List Loc) (ls : Array Slot), url_Rb_openIn_4 σ n y1 y2 y3 = some res → ur_P D a k σ H → va_S (ur_A a) s.heap H locs → lv_has ls 4 [(0, .ref (a 0)), (1, .int y1), (2, .int y2), (3, .int y3)] → W p l e (headSpec urs_Rb_openIn urr_Rb_openIn).room s m (([.ref (a 0), .int x1] : List Value)).toArray below meth c H locs 0 0 (MQ below (va_Qi (fun (r : Int32) (u : ST) => r = res ∧ u = σ) (ur_B D a k) (ur_A a)) (([.ref (a 0), .int x1] : List Value)).toArray s 0 0 (ur_A a)) (F0 m 4 ls []) := by
    intro n
    induction n with
    | zero =>
      intro y1 y2 y3 H locs ls h
      exact absurd h (fun z => by cases z)
    | succ n ih =>
      intro y1 y2 y3 H locs ls h hP hS hl
      rw [url_Rb_openIn_4] at h
      refine lv_iload_n hx hb dur_Rb_openIn_4 rfl (lv_at hl 3 rfl) ?_
      refine lv_aload_n hx hb dur_Rb_openIn_5 rfl (lv_at hl 0 rfl) ?_
      refine urg_Rb_39 hx hb hts hown hK hP dur_Rb_openIn_6 ?_
      refine urg_Rb_105 hx hb hts hown hK hP dur_Rb_openIn_9 ?_
      refine lv_icmp_ge (tgt := 56) hx hb dur_Rb_openIn_12 (by decide) (fun c1 => ?_) (fun c1 => ?_)
      · have h := ob_t c1 h
        refine lv_iload_n hx hb dur_Rb_openIn_56 rfl (lv_at hl 2 rfl) ?_
        exact W.iret (v := y2) hx hb hr (fun t ht hW => ⟨⟨y2, σ, rfl, ⟨Option.some.inj h, rfl⟩, by rw [ht]; exact hP, va_K.moved hW.alike hK⟩, hS.F ht⟩) hS.2.2 dur_Rb_openIn_57
      · have h := ob_f c1 h
        refine lv_aload_n hx hb dur_Rb_openIn_15 rfl (lv_at hl 0 rfl) ?_
        refine urg_Rb_39 hx hb hts hown hK hP dur_Rb_openIn_16 ?_
        refine lv_iload_n hx hb dur_Rb_openIn_19 rfl (lv_at hl 3 rfl) ?_
        obtain ⟨q2, hq2, h⟩ := ob_b h
        refine ur_cv_ir (As := [.int y3]) (rest := []) ⟨hx, hb, hml, hown, hts⟩ (cur_Pr_isOpen l D a k hAd σ y3  q2 hq2) (urc_Rb_139 hts ⟨Nat.le_of_ble_eq_true rfl, Nat.le_of_ble_eq_true rfl⟩) (ur_rc3 hK hP) hK hP rfl hl.1 rfl (Nat.le_of_ble_eq_true rfl) dur_Rb_openIn_20 hS (fun H locs hP hS => ?_)
        refine lv_if_eq (tgt := 50) hx hb dur_Rb_openIn_23 (by decide) (fun c3 => ?_) (fun c3 => ?_)
        · have h := ob_t c3 h
          refine lv_iinc (v := (y3 + 1)) (lv' := [(3, .int (y3 + 1)), (0, .ref (a 0)), (1, .int y1), (2, .int y2)]) hx hb dur_Rb_openIn_50 hl (k := 3) rfl rfl (by decide) rfl (fun ls hl => ?_)
          refine lv_goto (tgt := 4) hx hb dur_Rb_openIn_53 (by decide) ?_
          exact ih y1 y2 (y3 + 1) _ _ _ h hP hS (lv_sub hl [1, 2, 3, 0] rfl)
        · have h := ob_f c3 h
          refine lv_aload_n hx hb dur_Rb_openIn_26 rfl (lv_at hl 0 rfl) ?_
          refine urg_Rb_25 hx hb hts hown hK hP dur_Rb_openIn_27 ?_
          refine urg_Rb_184 hx hb hts hown hK hP dur_Rb_openIn_30 ?_
          refine lv_aload_n hx hb dur_Rb_openIn_33 rfl (lv_at hl 0 rfl) ?_
          refine urg_Rb_39 hx hb hts hown hK hP dur_Rb_openIn_34 ?_
          refine urg_Rb_123 hx hb hts hown hK hP dur_Rb_openIn_37 ?_
          refine lv_iload_n hx hb dur_Rb_openIn_40 rfl (lv_at hl 3 rfl) ?_
          obtain ⟨hi4, h⟩ := ob_i h
          refine ur_iald (i := 11) hx hb hK hP (by decide) rfl hi4 dur_Rb_openIn_41 ?_
          obtain ⟨hi5, h⟩ := ob_i h
          refine ur_iald (i := 0) hx hb hK hP (by decide) rfl hi5 dur_Rb_openIn_42 ?_
          refine lv_iload_n hx hb dur_Rb_openIn_43 rfl (lv_at hl 1 rfl) ?_
          refine lv_icmp_ne (tgt := 50) hx hb dur_Rb_openIn_44 (by decide) (fun c6 => ?_) (fun c6 => ?_)
          · have h := ob_f c6 h
            refine lv_iinc (v := (y3 + 1)) (lv' := [(3, .int (y3 + 1)), (0, .ref (a 0)), (1, .int y1), (2, .int y2)]) hx hb dur_Rb_openIn_50 hl (k := 3) rfl rfl (by decide) rfl (fun ls hl => ?_)
            refine lv_goto (tgt := 4) hx hb dur_Rb_openIn_53 (by decide) ?_
            exact ih y1 y2 (y3 + 1) _ _ _ h hP hS (lv_sub hl [1, 2, 3, 0] rfl)
          · have h := ob_t c6 h
            refine lv_iinc (v := (y2 + 1)) (lv' := [(2, .int (y2 + 1)), (0, .ref (a 0)), (1, .int y1), (3, .int y3)]) hx hb dur_Rb_openIn_47 hl (k := 2) rfl rfl (by decide) rfl (fun ls hl => ?_)
            refine lv_iinc (v := (y3 + 1)) (lv' := [(3, .int (y3 + 1)), (2, .int (y2 + 1)), (0, .ref (a 0)), (1, .int y1)]) hx hb dur_Rb_openIn_50 hl (k := 3) rfl rfl (by decide) rfl (fun ls hl => ?_)
            refine lv_goto (tgt := 4) hx hb dur_Rb_openIn_53 (by decide) ?_
            exact ih y1 (y2 + 1) (y3 + 1) _ _ _ h hP hS (lv_sub hl [2, 3, 1, 0] rfl)
  rw [urf_Rb_openIn] at h
  refine lv_iconst (v := 0) hx hb dur_Rb_openIn_0 (by decide) ?_
  refine lv_istore_n (lv' := [(2, .int 0), (0, .ref (a 0)), (1, .int x1)]) hx hb dur_Rb_openIn_1 rfl hl (by decide) rfl (fun ls hl => ?_)
  refine lv_iconst (v := 0) hx hb dur_Rb_openIn_2 (by decide) ?_
  refine lv_istore_n (lv' := [(3, .int 0), (2, .int 0), (0, .ref (a 0)), (1, .int x1)]) hx hb dur_Rb_openIn_3 rfl hl (by decide) rfl (fun ls hl => ?_)
  exact lp4 200 x1 0 0 _ _ _ h hP hS (lv_sub hl [2, 3, 1, 0] rfl)
set_option maxHeartbeats 4000000 in
set_option maxRecDepth 100000 in
theorem cur_Rb_mayOpen (l : Launch) (D : va_G) (a : Nat → Nat) (k : Nat → ClassId) (hAd : ur_Ad a) (σ : ST) (x1 : Int32) (x2 : Int32) (res : Int32) (h : urf_Rb_mayOpen σ x1 x2 = some res) : Met l ury_Rb_mayOpen urs_Rb_mayOpen urr_Rb_mayOpen (ur_Pc D a k σ [.ref (a 0), .int x1, .int x2]) (va_Qi (fun (r : Int32) (u : ST) => r = res ∧ u = σ) (ur_B D a k) (ur_A a)) 0 0 (ur_A a) := by
  refine Met.ofW (cc := urb_Rb_mayOpen) (maxL := 3) (ret := (some .boolean)) (by decide) rfl ?_
  intro p e s m args below meth c s₁ B hml hv
  obtain ⟨rfl, hP, hK⟩ := hv
  have hx := B.exec
  have hb := B.bytes
  have hr := B.returns
  have hts : ∀ w ∈ ub_T, w.before _ s = true := fun w hw => atoms_spec (ws := urs_Rb_mayOpen) B.pre w (List.mem_cons_of_mem _ hw)
  have hown : s.vm.findClass urR_Rb = some m.cls := findClass_of_methodNamed B.named
  have hlocks := B.notSynchronized
  have hS : va_S (ur_A a) s.heap s.heap [] := va_S.rf
  have hl := lv_entry ([.ref (a 0), .int x1, .int x2]) (n := 3) (Nat.le_of_ble_eq_true rfl)
  rw [lg_entry_eq]
  generalize (lg_sl ([.ref (a 0), .int x1, .int x2]) ++ List.replicate (3 - (lg_sl ([.ref (a 0), .int x1, .int x2])).length) Slot.unset).toArray = ls at hl ⊢
  have hl : lv_has ls 3 [(0, .ref (a 0)), (1, .int x1), (2, .int x2)] := hl
  rw [urf_Rb_mayOpen] at h
  refine lv_aload_n hx hb dur_Rb_mayOpen_0 rfl (lv_at hl 0 rfl) ?_
  refine urg_Rb_39 hx hb hts hown hK hP dur_Rb_mayOpen_1 ?_
  obtain ⟨q1, hq1, h⟩ := ob_b h
  refine ur_cv_ir (As := []) (rest := []) ⟨hx, hb, hml, hown, hts⟩ (cur_Pr_isFull l D a k hAd σ   q1 hq1) (urc_Rb_180 hts ⟨Nat.le_of_ble_eq_true rfl, Nat.le_of_ble_eq_true rfl⟩) (ur_rc3 hK hP) hK hP rfl hl.1 rfl (Nat.le_of_ble_eq_true rfl) dur_Rb_mayOpen_4 hS (fun H locs hP hS => ?_)
  refine lv_if_eq (tgt := 12) hx hb dur_Rb_mayOpen_7 (by decide) (fun c2 => ?_) (fun c2 => ?_)
  · have h := ob_t c2 h
    refine lv_iload_n hx hb dur_Rb_mayOpen_12 rfl (lv_at hl 2 rfl) ?_
    refine lv_iconst (v := (-1)) hx hb dur_Rb_mayOpen_13 (by decide) ?_
    refine lv_icmp_ne (tgt := 48) hx hb dur_Rb_mayOpen_14 (by decide) (fun c3 => ?_) (fun c3 => ?_)
    · have h := ob_f c3 h
      refine lv_iconst (v := 1) hx hb dur_Rb_mayOpen_48 (by decide) ?_
      refine lv_goto (tgt := 53) hx hb dur_Rb_mayOpen_49 (by decide) ?_
      exact W.zret (ty := .boolean) (v := 1) hx hb hr rfl (fun t ht hW => ⟨⟨1, σ, rfl, ⟨Option.some.inj h, rfl⟩, by rw [ht]; exact hP, va_K.moved hW.alike hK⟩, hS.F ht⟩) hS.2.2 dur_Rb_mayOpen_53
    · have h := ob_t c3 h
      refine lv_aload_n hx hb dur_Rb_mayOpen_17 rfl (lv_at hl 0 rfl) ?_
      refine urg_Rb_25 hx hb hts hown hK hP dur_Rb_mayOpen_18 ?_
      refine lv_iload_n hx hb dur_Rb_mayOpen_21 rfl (lv_at hl 1 rfl) ?_
      obtain ⟨q4, hq4, h⟩ := ob_b h
      refine ur_cv_ir (As := [.int x1]) (rest := []) ⟨hx, hb, hml, hown, hts⟩ (cur_Nm_isUnitHit l D a k hAd σ x1  q4 hq4) (urc_Rb_152 hts ⟨Nat.le_of_ble_eq_true rfl, Nat.le_of_ble_eq_true rfl⟩) (ur_rc1 hK hP) hK hP rfl hl.1 rfl (Nat.le_of_ble_eq_true rfl) dur_Rb_mayOpen_22 hS (fun H locs hP hS => ?_)
      refine lv_if_ne (tgt := 48) hx hb dur_Rb_mayOpen_25 (by decide) (fun c5 => ?_) (fun c5 => ?_)
      · have h := ob_f c5 h
        refine lv_iconst (v := 1) hx hb dur_Rb_mayOpen_48 (by decide) ?_
        refine lv_goto (tgt := 53) hx hb dur_Rb_mayOpen_49 (by decide) ?_
        exact W.zret (ty := .boolean) (v := 1) hx hb hr rfl (fun t ht hW => ⟨⟨1, σ, rfl, ⟨Option.some.inj h, rfl⟩, by rw [ht]; exact hP, va_K.moved hW.alike hK⟩, hS.F ht⟩) hS.2.2 dur_Rb_mayOpen_53
      · have h := ob_t c5 h
        refine lv_aload_n hx hb dur_Rb_mayOpen_28 rfl (lv_at hl 0 rfl) ?_
        refine lv_aload_n hx hb dur_Rb_mayOpen_29 rfl (lv_at hl 0 rfl) ?_
        refine urg_Rb_25 hx hb hts hown hK hP dur_Rb_mayOpen_30 ?_
        refine urg_Rb_184 hx hb hts hown hK hP dur_Rb_mayOpen_33 ?_
        refine lv_iload_n hx hb dur_Rb_mayOpen_36 rfl (lv_at hl 1 rfl) ?_
        obtain ⟨hi6, h⟩ := ob_i h
        refine ur_iald (i := 0) hx hb hK hP (by decide) rfl hi6 dur_Rb_mayOpen_37 ?_
        obtain ⟨q7, hq7, h⟩ := ob_b h
        refine ur_cv_ir (As := [.int (σ 0 x1.toNatClampNeg)]) (rest := []) ⟨hx, hb, hml, hown, hts⟩ (cur_Rb_openIn l D a k hAd σ (σ 0 x1.toNatClampNeg)  q7 hq7) (urc_Rb_149 hts ⟨Nat.le_of_ble_eq_true rfl, Nat.le_of_ble_eq_true rfl⟩) (ur_rc0 hK hP) hK hP rfl hl.1 rfl (Nat.le_of_ble_eq_true rfl) dur_Rb_mayOpen_38 hS (fun H locs hP hS => ?_)
        refine lv_aload_n hx hb dur_Rb_mayOpen_41 rfl (lv_at hl 0 rfl) ?_
        refine urg_Rb_18 hx hb hts hown hK hP dur_Rb_mayOpen_42 ?_
        refine lv_icmp_ge (tgt := 52) hx hb dur_Rb_mayOpen_45 (by decide) (fun c8 => ?_) (fun c8 => ?_)
        · have h := ob_t c8 h
          refine lv_iconst (v := 0) hx hb dur_Rb_mayOpen_52 (by decide) ?_
          exact W.zret (ty := .boolean) (v := 0) hx hb hr rfl (fun t ht hW => ⟨⟨0, σ, rfl, ⟨Option.some.inj h, rfl⟩, by rw [ht]; exact hP, va_K.moved hW.alike hK⟩, hS.F ht⟩) hS.2.2 dur_Rb_mayOpen_53
        · have h := ob_f c8 h
          refine lv_iconst (v := 1) hx hb dur_Rb_mayOpen_48 (by decide) ?_
          refine lv_goto (tgt := 53) hx hb dur_Rb_mayOpen_49 (by decide) ?_
          exact W.zret (ty := .boolean) (v := 1) hx hb hr rfl (fun t ht hW => ⟨⟨1, σ, rfl, ⟨Option.some.inj h, rfl⟩, by rw [ht]; exact hP, va_K.moved hW.alike hK⟩, hS.F ht⟩) hS.2.2 dur_Rb_mayOpen_53
  · have h := ob_f c2 h
    refine lv_iconst (v := 0) hx hb dur_Rb_mayOpen_10 (by decide) ?_
    exact W.zret (ty := .boolean) (v := 0) hx hb hr rfl (fun t ht hW => ⟨⟨0, σ, rfl, ⟨Option.some.inj h, rfl⟩, by rw [ht]; exact hP, va_K.moved hW.alike hK⟩, hS.F ht⟩) hS.2.2 dur_Rb_mayOpen_11
set_option maxHeartbeats 4000000 in
set_option maxRecDepth 100000 in
theorem cur_Pr_setRaised (l : Launch) (D : va_G) (a : Nat → Nat) (k : Nat → ClassId) (hAd : ur_Ad a) (σ : ST) (x1 : Int32) (k2 : Nat) (hk2 : k2 < 110) (res : ST) (h : urf_Pr_setRaised σ x1 k2 = some res) : Met l ury_Pr_setRaised urs_Pr_setRaised urr_Pr_setRaised (ur_Pc D a k σ [.ref (a 3), .int x1, .ref (a (k2 + 9))]) (va_Qv (fun (u : ST) => u = res) (ur_B D a k) (ur_A a)) 0 0 (ur_A a) := by
  refine Met.ofW (cc := urb_Pr_setRaised) (maxL := 4) (ret := none) (by decide) rfl ?_
  intro p e s m args below meth c s₁ B hml hv
  obtain ⟨rfl, hP, hK⟩ := hv
  have hx := B.exec
  have hb := B.bytes
  have hr := B.returns
  have hts : ∀ w ∈ ub_T, w.before _ s = true := fun w hw => atoms_spec (ws := urs_Pr_setRaised) B.pre w (List.mem_cons_of_mem _ hw)
  have hown : s.vm.findClass urR_Pr = some m.cls := findClass_of_methodNamed B.named
  have hlocks := B.notSynchronized
  have hS : va_S (ur_A a) s.heap s.heap [] := va_S.rf
  have hl := lv_entry ([.ref (a 3), .int x1, .ref (a (k2 + 9))]) (n := 4) (Nat.le_of_ble_eq_true rfl)
  rw [lg_entry_eq]
  generalize (lg_sl ([.ref (a 3), .int x1, .ref (a (k2 + 9))]) ++ List.replicate (4 - (lg_sl ([.ref (a 3), .int x1, .ref (a (k2 + 9))])).length) Slot.unset).toArray = ls at hl ⊢
  have hl : lv_has ls 4 [(0, .ref (a 3)), (1, .int x1), (2, .ref (a (k2 + 9)))] := hl
  have lp2 : ∀ (n : Nat) (σ : ST) (y1 : Int32) (y3 : Int32) (H : Heap) (locs : List Loc) (ls : Array Slot), url_Pr_setRaised_2 k2 n σ y1 y3 = some res → ur_P D a k σ H → va_S (ur_A a) s.heap H locs → lv_has ls 4 [(0, .ref (a 3)), (1, .int y1), (2, .ref (a (k2 + 9))), (3, .int y3)] → W p l e (headSpec urs_Pr_setRaised urr_Pr_setRaised).room s m (([.ref (a 3), .int x1, .ref (a (k2 + 9))] : List Value)).toArray below meth c H locs 0 0 (MQ below (va_Qv (fun (u : ST) => u = res) (ur_B D a k) (ur_A a)) (([.ref (a 3), .int x1, .ref (a (k2 + 9))] : List Value)).toArray s 0 0 (ur_A a)) (F0 m 2 ls []) := by
    intro n
    induction n with
    | zero =>
      intro σ y1 y3 H locs ls h
      exact absurd h (fun z => by cases z)
    | succ n ih =>
      intro σ y1 y3 H locs ls h hP hS hl
      rw [url_Pr_setRaised_2] at h
      refine lv_iload_n hx hb dur_Pr_setRaised_2 rfl (lv_at hl 3 rfl) ?_
      refine lv_bipush (v := 12) hx hb dur_Pr_setRaised_3 (by decide) ?_
      refine lv_icmp_ge (tgt := 31) hx hb dur_Pr_setRaised_5 (by decide) (fun c1 => ?_) (fun c1 => ?_)
      · have h := ob_t c1 h
        exact W.vret hx hb hr (fun t ht hW => ⟨⟨σ, rfl, Option.some.inj h, by rw [ht]; exact hP, va_K.moved hW.alike hK⟩, hS.F ht⟩) hS.2.2 dur_Pr_setRaised_31
      · have h := ob_f c1 h
        refine lv_iload_n hx hb dur_Pr_setRaised_8 rfl (lv_at hl 3 rfl) ?_
        refine lv_aload_n hx hb dur_Pr_setRaised_9 rfl (lv_at hl 2 rfl) ?_
        refine ur_alen (i := k2) hx hb hK hP hk2 dur_Pr_setRaised_10 ?_
        refine lv_icmp_ge (tgt := 31) hx hb dur_Pr_setRaised_11 (by decide) (fun c2 => ?_) (fun c2 => ?_)
        · have h := ob_t c2 h
          exact W.vret hx hb hr (fun t ht hW => ⟨⟨σ, rfl, Option.some.inj h, by rw [ht]; exact hP, va_K.moved hW.alike hK⟩, hS.F ht⟩) hS.2.2 dur_Pr_setRaised_31
        · have h := ob_f c2 h
          refine lv_aload_n hx hb dur_Pr_setRaised_14 rfl (lv_at hl 0 rfl) ?_
          refine urg_Pr_34 hx hb hts hown hK hP dur_Pr_setRaised_15 ?_
          refine lv_iload_n hx hb dur_Pr_setRaised_18 rfl (lv_at hl 1 rfl) ?_
          obtain ⟨hg3, h⟩ := ob_i h
          refine ur_gald3 hx hb hK hP hg3 dur_Pr_setRaised_19 ?_
          refine lv_iload_n hx hb dur_Pr_setRaised_20 rfl (lv_at hl 3 rfl) ?_
          refine lv_aload_n hx hb dur_Pr_setRaised_21 rfl (lv_at hl 2 rfl) ?_
          refine lv_iload_n hx hb dur_Pr_setRaised_22 rfl (lv_at hl 3 rfl) ?_
          obtain ⟨hi4, h⟩ := ob_i h
          refine ur_iald (i := k2) hx hb hK hP hk2 rfl hi4 dur_Pr_setRaised_23 ?_
          obtain ⟨hi5, h⟩ := ob_i h
          refine ur_iast (i := (y1.toNatClampNeg + 50)) hx hb hK hP hAd hS (ur_glt3 hg3) (ur_gln3 hg3) hi5 dur_Pr_setRaised_24 (fun H locs hP hS => ?_)
          refine lv_iinc (v := (y3 + 1)) (lv' := [(3, .int (y3 + 1)), (0, .ref (a 3)), (1, .int y1), (2, .ref (a (k2 + 9)))]) hx hb dur_Pr_setRaised_25 hl (k := 3) rfl rfl (by decide) rfl (fun ls hl => ?_)
          refine lv_goto (tgt := 2) hx hb dur_Pr_setRaised_28 (by decide) ?_
          exact ih (wr σ (y1.toNatClampNeg + 50) y3.toNatClampNeg (σ k2 y3.toNatClampNeg)) y1 (y3 + 1) _ _ _ h hP hS (lv_sub hl [1, 2, 3, 0] rfl)
  rw [urf_Pr_setRaised] at h
  refine lv_iconst (v := 0) hx hb dur_Pr_setRaised_0 (by decide) ?_
  refine lv_istore_n (lv' := [(3, .int 0), (0, .ref (a 3)), (1, .int x1), (2, .ref (a (k2 + 9)))]) hx hb dur_Pr_setRaised_1 rfl hl (by decide) rfl (fun ls hl => ?_)
  exact lp2 200 σ x1 0 _ _ _ h hP hS (lv_sub hl [1, 2, 3, 0] rfl)
set_option maxHeartbeats 4000000 in
set_option maxRecDepth 100000 in
theorem cur_Pr_add (l : Launch) (D : va_G) (a : Nat → Nat) (k : Nat → ClassId) (hAd : ur_Ad a) (σ : ST) (x1 : Int32) (x2 : Int32) (x3 : Int32) (k4 : Nat) (hk4 : k4 < 110) (res : ST) (h : urf_Pr_add σ x1 x2 x3 k4 = some res) : Met l ury_Pr_add urs_Pr_add urr_Pr_add (ur_Pc D a k σ [.ref (a 3), .int x1, .int x2, .int x3, .ref (a (k4 + 9))]) (va_Qv (fun (u : ST) => u = res) (ur_B D a k) (ur_A a)) 0 0 (ur_A a) := by
  refine Met.ofW (cc := urb_Pr_add) (maxL := 6) (ret := none) (by decide) rfl ?_
  intro p e s m args below meth c s₁ B hml hv
  obtain ⟨rfl, hP, hK⟩ := hv
  have hx := B.exec
  have hb := B.bytes
  have hr := B.returns
  have hts : ∀ w ∈ ub_T, w.before _ s = true := fun w hw => atoms_spec (ws := urs_Pr_add) B.pre w (List.mem_cons_of_mem _ hw)
  have hown : s.vm.findClass urR_Pr = some m.cls := findClass_of_methodNamed B.named
  have hlocks := B.notSynchronized
  have hS : va_S (ur_A a) s.heap s.heap [] := va_S.rf
  have hl := lv_entry ([.ref (a 3), .int x1, .int x2, .int x3, .ref (a (k4 + 9))]) (n := 6) (Nat.le_of_ble_eq_true rfl)
  rw [lg_entry_eq]
  generalize (lg_sl ([.ref (a 3), .int x1, .int x2, .int x3, .ref (a (k4 + 9))]) ++ List.replicate (6 - (lg_sl ([.ref (a 3), .int x1, .int x2, .int x3, .ref (a (k4 + 9))])).length) Slot.unset).toArray = ls at hl ⊢
  have hl : lv_has ls 6 [(0, .ref (a 3)), (1, .int x1), (2, .int x2), (3, .int x3), (4, .ref (a (k4 + 9)))] := hl
  rw [urf_Pr_add] at h
  refine lv_aload_n hx hb dur_Pr_add_0 rfl (lv_at hl 0 rfl) ?_
  obtain ⟨q1, hq1, h⟩ := ob_b h
  refine ur_cv_ir (As := []) (rest := []) ⟨hx, hb, hml, hown, hts⟩ (cur_Pr_isFull l D a k hAd σ   q1 hq1) (urc_Pr_41 hts ⟨Nat.le_of_ble_eq_true rfl, Nat.le_of_ble_eq_true rfl⟩) (ur_rc3 hK hP) hK hP rfl hl.1 rfl (Nat.le_of_ble_eq_true rfl) dur_Pr_add_1 hS (fun H locs hP hS => ?_)
  refine lv_if_eq (tgt := 8) hx hb dur_Pr_add_4 (by decide) (fun c2 => ?_) (fun c2 => ?_)
  · have h := ob_t c2 h
    refine lv_aload_n hx hb dur_Pr_add_8 rfl (lv_at hl 0 rfl) ?_
    refine urg_Pr_9 hx hb hts hown hK hP dur_Pr_add_9 ?_
    refine lv_istore (lv' := [(5, .int (σ 111 4)), (0, .ref (a 3)), (1, .int x1), (2, .int x2), (3, .int x3), (4, .ref (a (k4 + 9)))]) hx hb dur_Pr_add_12 hl (by decide) rfl (fun ls hl => ?_)
    refine lv_aload_n hx hb dur_Pr_add_14 rfl (lv_at hl 1 rfl) ?_
    refine lv_dup hx hb dur_Pr_add_15 rfl ?_
    refine urg_Pr_9 hx hb hts hown hK hP dur_Pr_add_16 ?_
    refine lv_iconst (v := 1) hx hb dur_Pr_add_19 (by decide) ?_
    refine lv_iadd hx hb dur_Pr_add_20 ?_
    refine urp_Pr_9 hx hb hts hown hK hP hAd hS dur_Pr_add_21 (fun H locs hP hS => ?_)
    refine lv_aload_n hx hb dur_Pr_add_24 rfl (lv_at hl 1 rfl) ?_
    refine urg_Pr_15 hx hb hts hown hK hP dur_Pr_add_25 ?_
    refine lv_iload hx hb dur_Pr_add_28 (lv_at hl 0 rfl) ?_
    refine lv_iconst (v := 0) hx hb dur_Pr_add_30 (by decide) ?_
    obtain ⟨hi3, h⟩ := ob_i h
    refine ur_iast (i := 10) hx hb hK hP hAd hS (by decide) rfl hi3 dur_Pr_add_31 (fun H locs hP hS => ?_)
    refine lv_aload_n hx hb dur_Pr_add_32 rfl (lv_at hl 1 rfl) ?_
    refine urg_Pr_19 hx hb hts hown hK hP dur_Pr_add_33 ?_
    refine lv_iload hx hb dur_Pr_add_36 (lv_at hl 0 rfl) ?_
    refine lv_iload_n hx hb dur_Pr_add_38 rfl (lv_at hl 2 rfl) ?_
    obtain ⟨hi4, h⟩ := ob_i h
    refine ur_iast (i := 11) hx hb hK hP hAd hS (by decide) rfl hi4 dur_Pr_add_39 (fun H locs hP hS => ?_)
    refine lv_aload_n hx hb dur_Pr_add_40 rfl (lv_at hl 1 rfl) ?_
    refine urg_Pr_22 hx hb hts hown hK hP dur_Pr_add_41 ?_
    refine lv_iload hx hb dur_Pr_add_44 (lv_at hl 0 rfl) ?_
    refine lv_iconst (v := 0) hx hb dur_Pr_add_46 (by decide) ?_
    obtain ⟨hi5, h⟩ := ob_i h
    refine ur_iast (i := 12) hx hb hK hP hAd hS (by decide) rfl hi5 dur_Pr_add_47 (fun H locs hP hS => ?_)
    refine lv_aload_n hx hb dur_Pr_add_48 rfl (lv_at hl 1 rfl) ?_
    refine urg_Pr_25 hx hb hts hown hK hP dur_Pr_add_49 ?_
    refine lv_iload hx hb dur_Pr_add_52 (lv_at hl 0 rfl) ?_
    refine lv_iload_n hx hb dur_Pr_add_54 rfl (lv_at hl 3 rfl) ?_
    obtain ⟨hi6, h⟩ := ob_i h
    refine ur_iast (i := 13) hx hb hK hP hAd hS (by decide) rfl hi6 dur_Pr_add_55 (fun H locs hP hS => ?_)
    refine lv_aload_n hx hb dur_Pr_add_56 rfl (lv_at hl 1 rfl) ?_
    refine urg_Pr_28 hx hb hts hown hK hP dur_Pr_add_57 ?_
    refine lv_iload hx hb dur_Pr_add_60 (lv_at hl 0 rfl) ?_
    refine lv_iload_n hx hb dur_Pr_add_62 rfl (lv_at hl 4 rfl) ?_
    obtain ⟨hi7, h⟩ := ob_i h
    refine ur_zast hx hb hK hP hAd hS hi7 dur_Pr_add_63 (fun H locs hP hS => ?_)
    refine lv_aload_n hx hb dur_Pr_add_64 rfl (lv_at hl 1 rfl) ?_
    refine lv_iload hx hb dur_Pr_add_65 (lv_at hl 0 rfl) ?_
    refine lv_aload hx hb dur_Pr_add_67 (lv_at hl 5 rfl) ?_
    obtain ⟨q8, hq8, h⟩ := ob_b h
    refine ur_cv_v (As := [.int (σ 111 4), .ref (a (k4 + 9))]) (rest := []) ⟨hx, hb, hml, hown, hts⟩ (cur_Pr_setRaised l D a k hAd (wr (wr (wr (wr (wr (wr σ 111 4 ((σ 111 4) + 1)) 10 (σ 111 4).toNatClampNeg 0) 11 (σ 111 4).toNatClampNeg x1) 12 (σ 111 4).toNatClampNeg 0) 13 (σ 111 4).toNatClampNeg x2) 110 (σ 111 4).toNatClampNeg (vp_nar .boolean x3)) (σ 111 4) k4 hk4 q8 hq8) (urc_Pr_45 hts ⟨Nat.le_of_ble_eq_true rfl, Nat.le_of_ble_eq_true rfl⟩) (ur_rc3 hK hP) hK hP rfl hl.1 rfl (Nat.le_of_ble_eq_true rfl) dur_Pr_add_69 hS (fun H locs hP hS => ?_)
    exact W.vret hx hb hr (fun t ht hW => ⟨⟨q8, rfl, Option.some.inj h, by rw [ht]; exact hP, va_K.moved hW.alike hK⟩, hS.F ht⟩) hS.2.2 dur_Pr_add_72
  · have h := ob_f c2 h
    exact W.vret hx hb hr (fun t ht hW => ⟨⟨σ, rfl, Option.some.inj h, by rw [ht]; exact hP, va_K.moved hW.alike hK⟩, hS.F ht⟩) hS.2.2 dur_Pr_add_7
set_option maxHeartbeats 4000000 in
set_option maxRecDepth 100000 in
theorem cur_Rb_review (l : Launch) (D : va_G) (a : Nat → Nat) (k : Nat → ClassId) (hAd : ur_Ad a) (σ : ST) (x1 : Int32) (res : ST) (h : urf_Rb_review σ x1 = some res) : Met l ury_Rb_review urs_Rb_review urr_Rb_review (ur_Pc D a k σ [.ref (a 0), .int x1]) (va_Qv (fun (u : ST) => u = res) (ur_B D a k) (ur_A a)) 0 0 (ur_A a) := by
  refine Met.ofW (cc := urb_Rb_review) (maxL := 3) (ret := none) (by decide) rfl ?_
  intro p e s m args below meth c s₁ B hml hv
  obtain ⟨rfl, hP, hK⟩ := hv
  have hx := B.exec
  have hb := B.bytes
  have hr := B.returns
  have hts : ∀ w ∈ ub_T, w.before _ s = true := fun w hw => atoms_spec (ws := urs_Rb_review) B.pre w (List.mem_cons_of_mem _ hw)
  have hown : s.vm.findClass urR_Rb = some m.cls := findClass_of_methodNamed B.named
  have hlocks := B.notSynchronized
  have hS : va_S (ur_A a) s.heap s.heap [] := va_S.rf
  have hl := lv_entry ([.ref (a 0), .int x1]) (n := 3) (Nat.le_of_ble_eq_true rfl)
  rw [lg_entry_eq]
  generalize (lg_sl ([.ref (a 0), .int x1]) ++ List.replicate (3 - (lg_sl ([.ref (a 0), .int x1])).length) Slot.unset).toArray = ls at hl ⊢
  have hl : lv_has ls 3 [(0, .ref (a 0)), (1, .int x1)] := hl
  rw [urf_Rb_review] at h
  refine lv_aload_n hx hb dur_Rb_review_0 rfl (lv_at hl 0 rfl) ?_
  refine urg_Rb_39 hx hb hts hown hK hP dur_Rb_review_1 ?_
  refine lv_iload_n hx hb dur_Rb_review_4 rfl (lv_at hl 1 rfl) ?_
  obtain ⟨q1, hq1, h⟩ := ob_b h
  refine ur_cv_ir (As := [.int x1]) (rest := []) ⟨hx, hb, hml, hown, hts⟩ (cur_Pr_openOf l D a k hAd σ x1  q1 hq1) (urc_Rb_158 hts ⟨Nat.le_of_ble_eq_true rfl, Nat.le_of_ble_eq_true rfl⟩) (ur_rc3 hK hP) hK hP rfl hl.1 rfl (Nat.le_of_ble_eq_true rfl) dur_Rb_review_5 hS (fun H locs hP hS => ?_)
  refine lv_istore_n (lv' := [(2, .int q1), (0, .ref (a 0)), (1, .int x1)]) hx hb dur_Rb_review_8 rfl hl (by decide) rfl (fun ls hl => ?_)
  refine lv_aload_n hx hb dur_Rb_review_9 rfl (lv_at hl 1 rfl) ?_
  refine urg_Rb_32 hx hb hts hown hK hP dur_Rb_review_10 ?_
  refine lv_aload_n hx hb dur_Rb_review_13 rfl (lv_at hl 1 rfl) ?_
  refine urg_Rb_25 hx hb hts hown hK hP dur_Rb_review_14 ?_
  refine lv_iload_n hx hb dur_Rb_review_17 rfl (lv_at hl 2 rfl) ?_
  obtain ⟨q2, hq2, h⟩ := ob_b h
  refine ur_cv_iw (As := [.ref (a 1), .int x1]) (rest := []) ⟨hx, hb, hml, hown, hts⟩ (cur_So_solveUnit l D a k hAd σ x1  q2 hq2) (urc_Rb_99 hts ⟨Nat.le_of_ble_eq_true rfl, Nat.le_of_ble_eq_true rfl⟩) (ur_rc2 hK hP) hK hP rfl hl.1 rfl (Nat.le_of_ble_eq_true rfl) dur_Rb_review_18 hS (fun H locs hP hS => ?_)
  refine lv_if_gt (tgt := 34) hx hb dur_Rb_review_21 (by decide) (fun c3 => ?_) (fun c3 => ?_)
  · have h := ob_t c3 h
    refine lv_aload_n hx hb dur_Rb_review_34 rfl (lv_at hl 1 rfl) ?_
    refine urg_Rb_39 hx hb hts hown hK hP dur_Rb_review_35 ?_
    refine lv_iload_n hx hb dur_Rb_review_38 rfl (lv_at hl 0 rfl) ?_
    refine lv_aload_n hx hb dur_Rb_review_39 rfl (lv_at hl 1 rfl) ?_
    refine urg_Rb_32 hx hb hts hown hK hP dur_Rb_review_40 ?_
    refine urg_Rb_165 hx hb hts hown hK hP dur_Rb_review_43 ?_
    obtain ⟨q4, hq4, h⟩ := ob_b h
    refine ur_cv_ir (As := [.int q1, .ref (a (9 + 9))]) (rest := []) ⟨hx, hb, hml, hown, hts⟩ (cur_Pr_raisesJust l D a k hAd q2.2 q1 9 (by decide) q4 hq4) (urc_Rb_167 hts ⟨Nat.le_of_ble_eq_true rfl, Nat.le_of_ble_eq_true rfl⟩) (ur_rc3 hK hP) hK hP rfl hl.1 rfl (Nat.le_of_ble_eq_true rfl) dur_Rb_review_46 hS (fun H locs hP hS => ?_)
    refine lv_if_eq (tgt := 53) hx hb dur_Rb_review_49 (by decide) (fun c5 => ?_) (fun c5 => ?_)
    · have h := ob_t c5 h
      refine lv_aload_n hx hb dur_Rb_review_53 rfl (lv_at hl 1 rfl) ?_
      refine urg_Rb_39 hx hb hts hown hK hP dur_Rb_review_54 ?_
      refine lv_aload_n hx hb dur_Rb_review_57 rfl (lv_at hl 1 rfl) ?_
      refine urg_Rb_39 hx hb hts hown hK hP dur_Rb_review_58 ?_
      refine lv_iload_n hx hb dur_Rb_review_61 rfl (lv_at hl 2 rfl) ?_
      obtain ⟨q6, hq6, h⟩ := ob_b h
      refine ur_cv_ir (As := [.int x1]) (rest := [.ref (a 3)]) ⟨hx, hb, hml, hown, hts⟩ (cur_Pr_latestFailedOf l D a k hAd q2.2 x1  q6 hq6) (urc_Rb_171 hts ⟨Nat.le_of_ble_eq_true rfl, Nat.le_of_ble_eq_true rfl⟩) (ur_rc3 hK hP) hK hP rfl hl.1 rfl (Nat.le_of_ble_eq_true rfl) dur_Rb_review_62 hS (fun H locs hP hS => ?_)
      refine lv_aload_n hx hb dur_Rb_review_65 rfl (lv_at hl 1 rfl) ?_
      refine urg_Rb_32 hx hb hts hown hK hP dur_Rb_review_66 ?_
      refine urg_Rb_165 hx hb hts hown hK hP dur_Rb_review_69 ?_
      obtain ⟨q7, hq7, h⟩ := ob_b h
      refine ur_cv_ir (As := [.int q6, .ref (a (9 + 9))]) (rest := []) ⟨hx, hb, hml, hown, hts⟩ (cur_Pr_raisesJust l D a k hAd q2.2 q6 9 (by decide) q7 hq7) (urc_Rb_167 hts ⟨Nat.le_of_ble_eq_true rfl, Nat.le_of_ble_eq_true rfl⟩) (ur_rc3 hK hP) hK hP rfl hl.1 rfl (Nat.le_of_ble_eq_true rfl) dur_Rb_review_72 hS (fun H locs hP hS => ?_)
      refine lv_if_eq (tgt := 88) hx hb dur_Rb_review_75 (by decide) (fun c8 => ?_) (fun c8 => ?_)
      · have h := ob_t c8 h
        refine lv_aload_n hx hb dur_Rb_review_88 rfl (lv_at hl 1 rfl) ?_
        refine lv_iload_n hx hb dur_Rb_review_89 rfl (lv_at hl 2 rfl) ?_
        refine lv_iload_n hx hb dur_Rb_review_90 rfl (lv_at hl 0 rfl) ?_
        obtain ⟨q9, hq9, h⟩ := ob_b h
        refine ur_cv_ir (As := [.int x1, .int q1]) (rest := []) ⟨hx, hb, hml, hown, hts⟩ (cur_Rb_mayOpen l D a k hAd q2.2 x1 q1  q9 hq9) (urc_Rb_174 hts ⟨Nat.le_of_ble_eq_true rfl, Nat.le_of_ble_eq_true rfl⟩) (ur_rc0 hK hP) hK hP rfl hl.1 rfl (Nat.le_of_ble_eq_true rfl) dur_Rb_review_91 hS (fun H locs hP hS => ?_)
        refine lv_if_ne (tgt := 108) hx hb dur_Rb_review_94 (by decide) (fun c10 => ?_) (fun c10 => ?_)
        · have h := ob_f c10 h
          refine lv_aload_n hx hb dur_Rb_review_108 rfl (lv_at hl 1 rfl) ?_
          refine urg_Rb_39 hx hb hts hown hK hP dur_Rb_review_109 ?_
          refine lv_iload_n hx hb dur_Rb_review_112 rfl (lv_at hl 0 rfl) ?_
          refine lv_iconst (v := 2) hx hb dur_Rb_review_113 (by decide) ?_
          obtain ⟨q11, hq11, h⟩ := ob_b h
          refine ur_cv_v (As := [.int q1, .int 2]) (rest := []) ⟨hx, hb, hml, hown, hts⟩ (cur_Pr_closeIfAny l D a k hAd q2.2 q1 2  q11 hq11) (urc_Rb_161 hts ⟨Nat.le_of_ble_eq_true rfl, Nat.le_of_ble_eq_true rfl⟩) (ur_rc3 hK hP) hK hP rfl hl.1 rfl (Nat.le_of_ble_eq_true rfl) dur_Rb_review_114 hS (fun H locs hP hS => ?_)
          refine lv_aload_n hx hb dur_Rb_review_117 rfl (lv_at hl 1 rfl) ?_
          refine urg_Rb_39 hx hb hts hown hK hP dur_Rb_review_118 ?_
          refine lv_iload_n hx hb dur_Rb_review_121 rfl (lv_at hl 2 rfl) ?_
          refine lv_aload_n hx hb dur_Rb_review_122 rfl (lv_at hl 1 rfl) ?_
          refine urg_Rb_43 hx hb hts hown hK hP dur_Rb_review_123 ?_
          refine lv_aload_n hx hb dur_Rb_review_126 rfl (lv_at hl 1 rfl) ?_
          refine urg_Rb_25 hx hb hts hown hK hP dur_Rb_review_127 ?_
          refine lv_iload_n hx hb dur_Rb_review_130 rfl (lv_at hl 2 rfl) ?_
          obtain ⟨q12, hq12, h⟩ := ob_b h
          refine ur_cv_ir (As := [.int x1]) (rest := [.int (q11 111 1), .int x1, .ref (a 3)]) ⟨hx, hb, hml, hown, hts⟩ (cur_Nm_isUnitHit l D a k hAd q11 x1  q12 hq12) (urc_Rb_152 hts ⟨Nat.le_of_ble_eq_true rfl, Nat.le_of_ble_eq_true rfl⟩) (ur_rc1 hK hP) hK hP rfl hl.1 rfl (Nat.le_of_ble_eq_true rfl) dur_Rb_review_131 hS (fun H locs hP hS => ?_)
          refine lv_aload_n hx hb dur_Rb_review_134 rfl (lv_at hl 1 rfl) ?_
          refine urg_Rb_32 hx hb hts hown hK hP dur_Rb_review_135 ?_
          refine urg_Rb_165 hx hb hts hown hK hP dur_Rb_review_138 ?_
          obtain ⟨q13, hq13, h⟩ := ob_b h
          refine ur_cv_v (As := [.int x1, .int (q11 111 1), .int q12, .ref (a (9 + 9))]) (rest := []) ⟨hx, hb, hml, hown, hts⟩ (cur_Pr_add l D a k hAd q11 x1 (q11 111 1) q12 9 (by decide) q13 hq13) (urc_Rb_177 hts ⟨Nat.le_of_ble_eq_true rfl, Nat.le_of_ble_eq_true rfl⟩) (ur_rc3 hK hP) hK hP rfl hl.1 rfl (Nat.le_of_ble_eq_true rfl) dur_Rb_review_141 hS (fun H locs hP hS => ?_)
          exact W.vret hx hb hr (fun t ht hW => ⟨⟨q13, rfl, Option.some.inj h, by rw [ht]; exact hP, va_K.moved hW.alike hK⟩, hS.F ht⟩) hS.2.2 dur_Rb_review_144
        · have h := ob_t c10 h
          refine lv_aload_n hx hb dur_Rb_review_97 rfl (lv_at hl 1 rfl) ?_
          refine lv_dup hx hb dur_Rb_review_98 rfl ?_
          refine urg_Rb_46 hx hb hts hown hK hP dur_Rb_review_99 ?_
          refine lv_iconst (v := 1) hx hb dur_Rb_review_102 (by decide) ?_
          refine lv_iadd hx hb dur_Rb_review_103 ?_
          refine urp_Rb_46 hx hb hts hown hK hP hAd hS dur_Rb_review_104 (fun H locs hP hS => ?_)
          exact W.vret hx hb hr (fun t ht hW => ⟨⟨(wr q2.2 111 2 ((q2.2 111 2) + 1)), rfl, Option.some.inj h, by rw [ht]; exact hP, va_K.moved hW.alike hK⟩, hS.F ht⟩) hS.2.2 dur_Rb_review_107
      · have h := ob_f c8 h
        refine lv_aload_n hx hb dur_Rb_review_78 rfl (lv_at hl 1 rfl) ?_
        refine urg_Rb_39 hx hb hts hown hK hP dur_Rb_review_79 ?_
        refine lv_iload_n hx hb dur_Rb_review_82 rfl (lv_at hl 0 rfl) ?_
        refine lv_iconst (v := 3) hx hb dur_Rb_review_83 (by decide) ?_
        obtain ⟨q14, hq14, h⟩ := ob_b h
        refine ur_cv_v (As := [.int q1, .int 3]) (rest := []) ⟨hx, hb, hml, hown, hts⟩ (cur_Pr_closeIfAny l D a k hAd q2.2 q1 3  q14 hq14) (urc_Rb_161 hts ⟨Nat.le_of_ble_eq_true rfl, Nat.le_of_ble_eq_true rfl⟩) (ur_rc3 hK hP) hK hP rfl hl.1 rfl (Nat.le_of_ble_eq_true rfl) dur_Rb_review_84 hS (fun H locs hP hS => ?_)
        exact W.vret hx hb hr (fun t ht hW => ⟨⟨q14, rfl, Option.some.inj h, by rw [ht]; exact hP, va_K.moved hW.alike hK⟩, hS.F ht⟩) hS.2.2 dur_Rb_review_87
    · have h := ob_f c5 h
      exact W.vret hx hb hr (fun t ht hW => ⟨⟨q2.2, rfl, Option.some.inj h, by rw [ht]; exact hP, va_K.moved hW.alike hK⟩, hS.F ht⟩) hS.2.2 dur_Rb_review_52
  · have h := ob_f c3 h
    refine lv_aload_n hx hb dur_Rb_review_24 rfl (lv_at hl 1 rfl) ?_
    refine urg_Rb_39 hx hb hts hown hK hP dur_Rb_review_25 ?_
    refine lv_iload_n hx hb dur_Rb_review_28 rfl (lv_at hl 0 rfl) ?_
    refine lv_iconst (v := 3) hx hb dur_Rb_review_29 (by decide) ?_
    obtain ⟨q15, hq15, h⟩ := ob_b h
    refine ur_cv_v (As := [.int q1, .int 3]) (rest := []) ⟨hx, hb, hml, hown, hts⟩ (cur_Pr_closeIfAny l D a k hAd q2.2 q1 3  q15 hq15) (urc_Rb_161 hts ⟨Nat.le_of_ble_eq_true rfl, Nat.le_of_ble_eq_true rfl⟩) (ur_rc3 hK hP) hK hP rfl hl.1 rfl (Nat.le_of_ble_eq_true rfl) dur_Rb_review_30 hS (fun H locs hP hS => ?_)
    exact W.vret hx hb hr (fun t ht hW => ⟨⟨q15, rfl, Option.some.inj h, by rw [ht]; exact hP, va_K.moved hW.alike hK⟩, hS.F ht⟩) hS.2.2 dur_Rb_review_33
set_option maxHeartbeats 4000000 in
set_option maxRecDepth 100000 in
theorem cur_Rb_run (l : Launch) (D : va_G) (a : Nat → Nat) (k : Nat → ClassId) (hAd : ur_Ad a) (σ : ST) (res : Int32 × ST) (h : urf_Rb_run σ  = some res) : Met l ury_Rb_run urs_Rb_run urr_Rb_run (ur_Pc D a k σ [.ref (a 0)]) (va_Qi (fun (r : Int32) (u : ST) => r = res.1 ∧ u = res.2) (ur_B D a k) (ur_A a)) 0 0 (ur_A a) := by
  refine Met.ofW (cc := urb_Rb_run) (maxL := 3) (ret := (some .int)) (by decide) rfl ?_
  intro p e s m args below meth c s₁ B hml hv
  obtain ⟨rfl, hP, hK⟩ := hv
  have hx := B.exec
  have hb := B.bytes
  have hr := B.returns
  have hts : ∀ w ∈ ub_T, w.before _ s = true := fun w hw => atoms_spec (ws := urs_Rb_run) B.pre w (List.mem_cons_of_mem _ hw)
  have hown : s.vm.findClass urR_Rb = some m.cls := findClass_of_methodNamed B.named
  have hlocks := B.notSynchronized
  have hS : va_S (ur_A a) s.heap s.heap [] := va_S.rf
  have hl := lv_entry ([.ref (a 0)]) (n := 3) (Nat.le_of_ble_eq_true rfl)
  rw [lg_entry_eq]
  generalize (lg_sl ([.ref (a 0)]) ++ List.replicate (3 - (lg_sl ([.ref (a 0)])).length) Slot.unset).toArray = ls at hl ⊢
  have hl : lv_has ls 3 [(0, .ref (a 0))] := hl
  have lp15 : ∀ (n : Nat) (σ : ST) (y1 : Int32) (y2 : Int32) (H : Heap) (locs : List Loc) (ls : Array Slot), url_Rb_run_15 n σ y1 y2 = some res → ur_P D a k σ H → va_S (ur_A a) s.heap H locs → lv_has ls 3 [(0, .ref (a 0)), (1, .int y1), (2, .int y2)] → W p l e (headSpec urs_Rb_run urr_Rb_run).room s m (([.ref (a 0)] : List Value)).toArray below meth c H locs 0 0 (MQ below (va_Qi (fun (r : Int32) (u : ST) => r = res.1 ∧ u = res.2) (ur_B D a k) (ur_A a)) (([.ref (a 0)] : List Value)).toArray s 0 0 (ur_A a)) (F0 m 15 ls []) := by
    intro n
    induction n with
    | zero =>
      intro σ y1 y2 H locs ls h
      exact absurd h (fun z => by cases z)
    | succ n ih =>
      intro σ y1 y2 H locs ls h hP hS hl
      rw [url_Rb_run_15] at h
      refine lv_iload_n hx hb dur_Rb_run_15 rfl (lv_at hl 2 rfl) ?_
      refine lv_aload_n hx hb dur_Rb_run_16 rfl (lv_at hl 0 rfl) ?_
      refine urg_Rb_25 hx hb hts hown hK hP dur_Rb_run_17 ?_
      refine urg_Rb_108 hx hb hts hown hK hP dur_Rb_run_20 ?_
      refine lv_icmp_ge (tgt := 69) hx hb dur_Rb_run_23 (by decide) (fun c1 => ?_) (fun c1 => ?_)
      · have h := ob_t c1 h
        refine lv_aload_n hx hb dur_Rb_run_69 rfl (lv_at hl 0 rfl) ?_
        refine urg_Rb_39 hx hb hts hown hK hP dur_Rb_run_70 ?_
        refine urg_Rb_105 hx hb hts hown hK hP dur_Rb_run_73 ?_
        refine lv_iload_n hx hb dur_Rb_run_76 rfl (lv_at hl 1 rfl) ?_
        refine lv_isub hx hb dur_Rb_run_77 ?_
        exact W.iret (v := ((σ 111 4) - y1)) hx hb hr (fun t ht hW => ⟨⟨((σ 111 4) - y1), σ, rfl, ob_r h, by rw [ht]; exact hP, va_K.moved hW.alike hK⟩, hS.F ht⟩) hS.2.2 dur_Rb_run_78
      · have h := ob_f c1 h
        refine lv_aload_n hx hb dur_Rb_run_26 rfl (lv_at hl 0 rfl) ?_
        refine urg_Rb_25 hx hb hts hown hK hP dur_Rb_run_27 ?_
        refine lv_iload_n hx hb dur_Rb_run_30 rfl (lv_at hl 2 rfl) ?_
        obtain ⟨q2, hq2, h⟩ := ob_b h
        refine ur_cv_ir (As := [.int y2]) (rest := []) ⟨hx, hb, hml, hown, hts⟩ (cur_Nm_isChief l D a k hAd σ y2  q2 hq2) (urc_Rb_96 hts ⟨Nat.le_of_ble_eq_true rfl, Nat.le_of_ble_eq_true rfl⟩) (ur_rc1 hK hP) hK hP rfl hl.1 rfl (Nat.le_of_ble_eq_true rfl) dur_Rb_run_31 hS (fun H locs hP hS => ?_)
        refine lv_if_eq (tgt := 63) hx hb dur_Rb_run_34 (by decide) (fun c3 => ?_) (fun c3 => ?_)
        · have h := ob_t c3 h
          refine lv_iinc (v := (y2 + 1)) (lv' := [(2, .int (y2 + 1)), (0, .ref (a 0)), (1, .int y1)]) hx hb dur_Rb_run_63 hl (k := 2) rfl rfl (by decide) rfl (fun ls hl => ?_)
          refine lv_goto (tgt := 15) hx hb dur_Rb_run_66 (by decide) ?_
          exact ih σ y1 (y2 + 1) _ _ _ h hP hS (lv_sub hl [1, 2, 0] rfl)
        · have h := ob_f c3 h
          refine lv_aload_n hx hb dur_Rb_run_37 rfl (lv_at hl 0 rfl) ?_
          refine lv_iload_n hx hb dur_Rb_run_38 rfl (lv_at hl 2 rfl) ?_
          obtain ⟨q4, hq4, h⟩ := ob_b h
          refine ur_cv_ir (As := [.int y2]) (rest := []) ⟨hx, hb, hml, hown, hts⟩ (cur_Rb_isDue l D a k hAd σ y2  q4 hq4) (urc_Rb_109 hts ⟨Nat.le_of_ble_eq_true rfl, Nat.le_of_ble_eq_true rfl⟩) (ur_rc0 hK hP) hK hP rfl hl.1 rfl (Nat.le_of_ble_eq_true rfl) dur_Rb_run_39 hS (fun H locs hP hS => ?_)
          refine lv_if_eq (tgt := 63) hx hb dur_Rb_run_42 (by decide) (fun c5 => ?_) (fun c5 => ?_)
          · have h := ob_t c5 h
            refine lv_iinc (v := (y2 + 1)) (lv' := [(2, .int (y2 + 1)), (0, .ref (a 0)), (1, .int y1)]) hx hb dur_Rb_run_63 hl (k := 2) rfl rfl (by decide) rfl (fun ls hl => ?_)
            refine lv_goto (tgt := 15) hx hb dur_Rb_run_66 (by decide) ?_
            exact ih σ y1 (y2 + 1) _ _ _ h hP hS (lv_sub hl [1, 2, 0] rfl)
          · have h := ob_f c5 h
            refine lv_aload_n hx hb dur_Rb_run_45 rfl (lv_at hl 0 rfl) ?_
            refine urg_Rb_25 hx hb hts hown hK hP dur_Rb_run_46 ?_
            refine urg_Rb_112 hx hb hts hown hK hP dur_Rb_run_49 ?_
            refine lv_iload_n hx hb dur_Rb_run_52 rfl (lv_at hl 2 rfl) ?_
            refine lv_aload_n hx hb dur_Rb_run_53 rfl (lv_at hl 0 rfl) ?_
            refine urg_Rb_43 hx hb hts hown hK hP dur_Rb_run_54 ?_
            obtain ⟨hi6, h⟩ := ob_i h
            refine ur_iast (i := 7) hx hb hK hP hAd hS (by decide) rfl hi6 dur_Rb_run_57 (fun H locs hP hS => ?_)
            refine lv_aload_n hx hb dur_Rb_run_58 rfl (lv_at hl 0 rfl) ?_
            refine lv_iload_n hx hb dur_Rb_run_59 rfl (lv_at hl 2 rfl) ?_
            obtain ⟨q7, hq7, h⟩ := ob_b h
            refine ur_cv_v (As := [.int y2]) (rest := []) ⟨hx, hb, hml, hown, hts⟩ (cur_Rb_review l D a k hAd (wr σ 7 y2.toNatClampNeg (σ 111 1)) y2  q7 hq7) (urc_Rb_115 hts ⟨Nat.le_of_ble_eq_true rfl, Nat.le_of_ble_eq_true rfl⟩) (ur_rc0 hK hP) hK hP rfl hl.1 rfl (Nat.le_of_ble_eq_true rfl) dur_Rb_run_60 hS (fun H locs hP hS => ?_)
            refine lv_iinc (v := (y2 + 1)) (lv' := [(2, .int (y2 + 1)), (0, .ref (a 0)), (1, .int y1)]) hx hb dur_Rb_run_63 hl (k := 2) rfl rfl (by decide) rfl (fun ls hl => ?_)
            refine lv_goto (tgt := 15) hx hb dur_Rb_run_66 (by decide) ?_
            exact ih q7 y1 (y2 + 1) _ _ _ h hP hS (lv_sub hl [1, 2, 0] rfl)
  rw [urf_Rb_run] at h
  refine lv_aload_n hx hb dur_Rb_run_0 rfl (lv_at hl 0 rfl) ?_
  refine urg_Rb_39 hx hb hts hown hK hP dur_Rb_run_1 ?_
  refine urg_Rb_105 hx hb hts hown hK hP dur_Rb_run_4 ?_
  refine lv_istore_n (lv' := [(1, .int (σ 111 4)), (0, .ref (a 0))]) hx hb dur_Rb_run_7 rfl hl (by decide) rfl (fun ls hl => ?_)
  refine lv_aload_n hx hb dur_Rb_run_8 rfl (lv_at hl 1 rfl) ?_
  refine lv_iconst (v := 0) hx hb dur_Rb_run_9 (by decide) ?_
  refine urp_Rb_46 hx hb hts hown hK hP hAd hS dur_Rb_run_10 (fun H locs hP hS => ?_)
  refine lv_iconst (v := 0) hx hb dur_Rb_run_13 (by decide) ?_
  refine lv_istore_n (lv' := [(2, .int 0), (1, .int (σ 111 4)), (0, .ref (a 0))]) hx hb dur_Rb_run_14 rfl hl (by decide) rfl (fun ls hl => ?_)
  exact lp15 200 (wr σ 111 2 0) (σ 111 4) 0 _ _ _ h hP hS (lv_sub hl [2, 1, 0] rfl)
set_option maxHeartbeats 4000000 in
set_option maxRecDepth 100000 in
theorem cur_Rb_waiting (l : Launch) (D : va_G) (a : Nat → Nat) (k : Nat → ClassId) (hAd : ur_Ad a) (σ : ST) (res : Int32) (h : urf_Rb_waiting σ  = some res) : Met l ury_Rb_waiting urs_Rb_waiting urr_Rb_waiting (ur_Pc D a k σ [.ref (a 0)]) (va_Qi (fun (r : Int32) (u : ST) => r = res ∧ u = σ) (ur_B D a k) (ur_A a)) 0 0 (ur_A a) := by
  refine Met.ofW (cc := urb_Rb_waiting) (maxL := 1) (ret := (some .int)) (by decide) rfl ?_
  intro p e s m args below meth c s₁ B hml hv
  obtain ⟨rfl, hP, hK⟩ := hv
  have hx := B.exec
  have hb := B.bytes
  have hr := B.returns
  have hts : ∀ w ∈ ub_T, w.before _ s = true := fun w hw => atoms_spec (ws := urs_Rb_waiting) B.pre w (List.mem_cons_of_mem _ hw)
  have hown : s.vm.findClass urR_Rb = some m.cls := findClass_of_methodNamed B.named
  have hlocks := B.notSynchronized
  have hS : va_S (ur_A a) s.heap s.heap [] := va_S.rf
  have hl := lv_entry ([.ref (a 0)]) (n := 1) (Nat.le_of_ble_eq_true rfl)
  rw [lg_entry_eq]
  generalize (lg_sl ([.ref (a 0)]) ++ List.replicate (1 - (lg_sl ([.ref (a 0)])).length) Slot.unset).toArray = ls at hl ⊢
  have hl : lv_has ls 1 [(0, .ref (a 0))] := hl
  rw [urf_Rb_waiting] at h
  refine lv_aload_n hx hb dur_Rb_waiting_0 rfl (lv_at hl 0 rfl) ?_
  refine urg_Rb_46 hx hb hts hown hK hP dur_Rb_waiting_1 ?_
  exact W.iret (v := (σ 111 2)) hx hb hr (fun t ht hW => ⟨⟨(σ 111 2), σ, rfl, ⟨Option.some.inj h, rfl⟩, by rw [ht]; exact hP, va_K.moved hW.alike hK⟩, hS.F ht⟩) hS.2.2 dur_Rb_waiting_4
set_option maxHeartbeats 4000000 in
set_option maxRecDepth 100000 in
theorem cur_Rb_about (l : Launch) (D : va_G) (a : Nat → Nat) (k : Nat → ClassId) (hAd : ur_Ad a) (σ : ST) (x1 : Int32) (x2 : Int32) (res : Int32) (h : urf_Rb_about σ x1 x2 = some res) : Met l ury_Rb_about urs_Rb_about urr_Rb_about (ur_Pc D a k σ [.ref (a 0), .int x1, .int x2]) (va_Qi (fun (r : Int32) (u : ST) => r = res ∧ u = σ) (ur_B D a k) (ur_A a)) 0 0 (ur_A a) := by
  refine Met.ofW (cc := urb_Rb_about) (maxL := 3) (ret := (some .int)) (by decide) rfl ?_
  intro p e s m args below meth c s₁ B hml hv
  obtain ⟨rfl, hP, hK⟩ := hv
  have hx := B.exec
  have hb := B.bytes
  have hr := B.returns
  have hts : ∀ w ∈ ub_T, w.before _ s = true := fun w hw => atoms_spec (ws := urs_Rb_about) B.pre w (List.mem_cons_of_mem _ hw)
  have hown : s.vm.findClass urR_Rb = some m.cls := findClass_of_methodNamed B.named
  have hlocks := B.notSynchronized
  have hS : va_S (ur_A a) s.heap s.heap [] := va_S.rf
  have hl := lv_entry ([.ref (a 0), .int x1, .int x2]) (n := 3) (Nat.le_of_ble_eq_true rfl)
  rw [lg_entry_eq]
  generalize (lg_sl ([.ref (a 0), .int x1, .int x2]) ++ List.replicate (3 - (lg_sl ([.ref (a 0), .int x1, .int x2])).length) Slot.unset).toArray = ls at hl ⊢
  have hl : lv_has ls 3 [(0, .ref (a 0)), (1, .int x1), (2, .int x2)] := hl
  rw [urf_Rb_about] at h
  refine lv_aload_n hx hb dur_Rb_about_0 rfl (lv_at hl 0 rfl) ?_
  refine urg_Rb_39 hx hb hts hown hK hP dur_Rb_about_1 ?_
  refine lv_iload_n hx hb dur_Rb_about_4 rfl (lv_at hl 1 rfl) ?_
  obtain ⟨q1, hq1, h⟩ := ob_b h
  refine ur_cv_ir (As := [.int x1]) (rest := []) ⟨hx, hb, hml, hown, hts⟩ (cur_Pr_isKnown l D a k hAd σ x1  q1 hq1) (urc_Rb_119 hts ⟨Nat.le_of_ble_eq_true rfl, Nat.le_of_ble_eq_true rfl⟩) (ur_rc3 hK hP) hK hP rfl hl.1 rfl (Nat.le_of_ble_eq_true rfl) dur_Rb_about_5 hS (fun H locs hP hS => ?_)
  refine lv_if_ne (tgt := 13) hx hb dur_Rb_about_8 (by decide) (fun c2 => ?_) (fun c2 => ?_)
  · have h := ob_f c2 h
    refine lv_iload_n hx hb dur_Rb_about_13 rfl (lv_at hl 2 rfl) ?_
    refine ob_cs (c := x2 = 0) (fun c3 => ?_) (fun c3 => ?_)
    · have h := ob_t c3 h
      refine lv_tableIn (tgt := 48) hx hb dur_Rb_about_14 (by rw [c3]; decide) (by rw [c3]; decide) (by rw [c3]; rfl) (by decide) ?_
      refine lv_aload_n hx hb dur_Rb_about_48 rfl (lv_at hl 0 rfl) ?_
      refine urg_Rb_39 hx hb hts hown hK hP dur_Rb_about_49 ?_
      refine urg_Rb_120 hx hb hts hown hK hP dur_Rb_about_52 ?_
      refine lv_iload_n hx hb dur_Rb_about_55 rfl (lv_at hl 1 rfl) ?_
      obtain ⟨hi4, h⟩ := ob_i h
      refine ur_iald (i := 10) hx hb hK hP (by decide) rfl hi4 dur_Rb_about_56 ?_
      exact W.iret (v := (σ 10 x1.toNatClampNeg)) hx hb hr (fun t ht hW => ⟨⟨(σ 10 x1.toNatClampNeg), σ, rfl, ⟨Option.some.inj h, rfl⟩, by rw [ht]; exact hP, va_K.moved hW.alike hK⟩, hS.F ht⟩) hS.2.2 dur_Rb_about_57
    · have h := ob_f c3 h
      refine ob_cs (c := x2 = 1) (fun c5 => ?_) (fun c5 => ?_)
      · have h := ob_t c5 h
        refine lv_tableIn (tgt := 58) hx hb dur_Rb_about_14 (by rw [c5]; decide) (by rw [c5]; decide) (by rw [c5]; rfl) (by decide) ?_
        refine lv_aload_n hx hb dur_Rb_about_58 rfl (lv_at hl 0 rfl) ?_
        refine urg_Rb_39 hx hb hts hown hK hP dur_Rb_about_59 ?_
        refine urg_Rb_123 hx hb hts hown hK hP dur_Rb_about_62 ?_
        refine lv_iload_n hx hb dur_Rb_about_65 rfl (lv_at hl 1 rfl) ?_
        obtain ⟨hi6, h⟩ := ob_i h
        refine ur_iald (i := 11) hx hb hK hP (by decide) rfl hi6 dur_Rb_about_66 ?_
        exact W.iret (v := (σ 11 x1.toNatClampNeg)) hx hb hr (fun t ht hW => ⟨⟨(σ 11 x1.toNatClampNeg), σ, rfl, ⟨Option.some.inj h, rfl⟩, by rw [ht]; exact hP, va_K.moved hW.alike hK⟩, hS.F ht⟩) hS.2.2 dur_Rb_about_67
      · have h := ob_f c5 h
        refine ob_cs (c := x2 = 2) (fun c7 => ?_) (fun c7 => ?_)
        · have h := ob_t c7 h
          refine lv_tableIn (tgt := 68) hx hb dur_Rb_about_14 (by rw [c7]; decide) (by rw [c7]; decide) (by rw [c7]; rfl) (by decide) ?_
          refine lv_aload_n hx hb dur_Rb_about_68 rfl (lv_at hl 0 rfl) ?_
          refine urg_Rb_39 hx hb hts hown hK hP dur_Rb_about_69 ?_
          refine urg_Rb_126 hx hb hts hown hK hP dur_Rb_about_72 ?_
          refine lv_iload_n hx hb dur_Rb_about_75 rfl (lv_at hl 1 rfl) ?_
          obtain ⟨hi8, h⟩ := ob_i h
          refine ur_iald (i := 12) hx hb hK hP (by decide) rfl hi8 dur_Rb_about_76 ?_
          exact W.iret (v := (σ 12 x1.toNatClampNeg)) hx hb hr (fun t ht hW => ⟨⟨(σ 12 x1.toNatClampNeg), σ, rfl, ⟨Option.some.inj h, rfl⟩, by rw [ht]; exact hP, va_K.moved hW.alike hK⟩, hS.F ht⟩) hS.2.2 dur_Rb_about_77
        · have h := ob_f c7 h
          refine ob_cs (c := x2 = 3) (fun c9 => ?_) (fun c9 => ?_)
          · have h := ob_t c9 h
            refine lv_tableIn (tgt := 78) hx hb dur_Rb_about_14 (by rw [c9]; decide) (by rw [c9]; decide) (by rw [c9]; rfl) (by decide) ?_
            refine lv_aload_n hx hb dur_Rb_about_78 rfl (lv_at hl 0 rfl) ?_
            refine urg_Rb_39 hx hb hts hown hK hP dur_Rb_about_79 ?_
            refine urg_Rb_129 hx hb hts hown hK hP dur_Rb_about_82 ?_
            refine lv_iload_n hx hb dur_Rb_about_85 rfl (lv_at hl 1 rfl) ?_
            obtain ⟨hi10, h⟩ := ob_i h
            refine ur_iald (i := 13) hx hb hK hP (by decide) rfl hi10 dur_Rb_about_86 ?_
            exact W.iret (v := (σ 13 x1.toNatClampNeg)) hx hb hr (fun t ht hW => ⟨⟨(σ 13 x1.toNatClampNeg), σ, rfl, ⟨Option.some.inj h, rfl⟩, by rw [ht]; exact hP, va_K.moved hW.alike hK⟩, hS.F ht⟩) hS.2.2 dur_Rb_about_87
          · have h := ob_f c9 h
            refine ob_cs (c := x2 = 4) (fun c11 => ?_) (fun c11 => ?_)
            · have h := ob_t c11 h
              refine lv_tableIn (tgt := 88) hx hb dur_Rb_about_14 (by rw [c11]; decide) (by rw [c11]; decide) (by rw [c11]; rfl) (by decide) ?_
              refine lv_aload_n hx hb dur_Rb_about_88 rfl (lv_at hl 0 rfl) ?_
              refine urg_Rb_39 hx hb hts hown hK hP dur_Rb_about_89 ?_
              refine urg_Rb_132 hx hb hts hown hK hP dur_Rb_about_92 ?_
              refine lv_iload_n hx hb dur_Rb_about_95 rfl (lv_at hl 1 rfl) ?_
              obtain ⟨hi12, h⟩ := ob_i h
              refine ur_zald hx hb hK hP hi12 dur_Rb_about_96 ?_
              refine lv_if_eq (tgt := 104) hx hb dur_Rb_about_97 (by decide) (fun c13 => ?_) (fun c13 => ?_)
              · have h := ob_t c13 h
                refine lv_iconst (v := 0) hx hb dur_Rb_about_104 (by decide) ?_
                exact W.iret (v := 0) hx hb hr (fun t ht hW => ⟨⟨0, σ, rfl, ⟨Option.some.inj h, rfl⟩, by rw [ht]; exact hP, va_K.moved hW.alike hK⟩, hS.F ht⟩) hS.2.2 dur_Rb_about_105
              · have h := ob_f c13 h
                refine lv_iconst (v := 1) hx hb dur_Rb_about_100 (by decide) ?_
                refine lv_goto (tgt := 105) hx hb dur_Rb_about_101 (by decide) ?_
                exact W.iret (v := 1) hx hb hr (fun t ht hW => ⟨⟨1, σ, rfl, ⟨Option.some.inj h, rfl⟩, by rw [ht]; exact hP, va_K.moved hW.alike hK⟩, hS.F ht⟩) hS.2.2 dur_Rb_about_105
            · have h := ob_f c11 h
              refine lv_tableOut (tgt := 106) hx hb dur_Rb_about_14 (by have q0 := lv_neT c3 (show (0 : Int32).toInt = 0 by decide); have q1 := lv_neT c5 (show (1 : Int32).toInt = 1 by decide); have q2 := lv_neT c7 (show (2 : Int32).toInt = 2 by decide); have q3 := lv_neT c9 (show (3 : Int32).toInt = 3 by decide); have q4 := lv_neT c11 (show (4 : Int32).toInt = 4 by decide); omega) (by decide) ?_
              refine lv_iconst (v := (-1)) hx hb dur_Rb_about_106 (by decide) ?_
              exact W.iret (v := (-1)) hx hb hr (fun t ht hW => ⟨⟨(-1), σ, rfl, ⟨Option.some.inj h, rfl⟩, by rw [ht]; exact hP, va_K.moved hW.alike hK⟩, hS.F ht⟩) hS.2.2 dur_Rb_about_107
  · have h := ob_t c2 h
    refine lv_iconst (v := (-1)) hx hb dur_Rb_about_11 (by decide) ?_
    exact W.iret (v := (-1)) hx hb hr (fun t ht hW => ⟨⟨(-1), σ, rfl, ⟨Option.some.inj h, rfl⟩, by rw [ht]; exact hP, va_K.moved hW.alike hK⟩, hS.F ht⟩) hS.2.2 dur_Rb_about_12

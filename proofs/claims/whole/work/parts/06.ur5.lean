set_option maxHeartbeats 4000000 in
set_option maxRecDepth 100000 in
theorem cur_Rb_target (l : Launch) (D : va_G) (a : Nat → Nat) (k : Nat → ClassId) (hAd : ur_Ad a) (σ : ST) (x1 : Int32) (x2 : Int32) (res : Int32) (h : urf_Rb_target σ x1 x2 = some res) : Met l ury_Rb_target urs_Rb_target urr_Rb_target (ur_Pc D a k σ [.ref (a 0), .int x1, .int x2]) (va_Qi (fun (r : Int32) (u : ST) => r = res ∧ u = σ) (ur_B D a k) (ur_A a)) 0 0 (ur_A a) := by
  refine Met.ofW (cc := urb_Rb_target) (maxL := 3) (ret := (some .int)) (by decide) rfl ?_
  intro p e s m args below meth c s₁ B hml hv
  obtain ⟨rfl, hP, hK⟩ := hv
  have hx := B.exec
  have hb := B.bytes
  have hr := B.returns
  have hts : ∀ w ∈ ub_T, w.before _ s = true := fun w hw => atoms_spec (ws := urs_Rb_target) B.pre w (List.mem_cons_of_mem _ hw)
  have hown : s.vm.findClass urR_Rb = some m.cls := findClass_of_methodNamed B.named
  have hlocks := B.notSynchronized
  have hS : va_S (ur_A a) s.heap s.heap [] := va_S.rf
  have hl := lv_entry ([.ref (a 0), .int x1, .int x2]) (n := 3) (Nat.le_of_ble_eq_true rfl)
  rw [lg_entry_eq]
  generalize (lg_sl ([.ref (a 0), .int x1, .int x2]) ++ List.replicate (3 - (lg_sl ([.ref (a 0), .int x1, .int x2])).length) Slot.unset).toArray = ls at hl ⊢
  have hl : lv_has ls 3 [(0, .ref (a 0)), (1, .int x1), (2, .int x2)] := hl
  rw [urf_Rb_target] at h
  refine lv_aload_n hx hb dur_Rb_target_0 rfl (lv_at hl 0 rfl) ?_
  refine urg_Rb_39 hx hb hts hown hK hP dur_Rb_target_1 ?_
  refine lv_iload_n hx hb dur_Rb_target_4 rfl (lv_at hl 1 rfl) ?_
  obtain ⟨q1, hq1, h⟩ := ob_b h
  refine ur_cv_ir (As := [.int x1]) (rest := []) ⟨hx, hb, hml, hown, hts⟩ (cur_Pr_isKnown l D a k hAd σ x1  q1 hq1) (urc_Rb_119 hts ⟨Nat.le_of_ble_eq_true rfl, Nat.le_of_ble_eq_true rfl⟩) (ur_rc3 hK hP) hK hP rfl hl.1 rfl (Nat.le_of_ble_eq_true rfl) dur_Rb_target_5 hS (fun H locs hP hS => ?_)
  refine lv_if_eq (tgt := 22) hx hb dur_Rb_target_8 (by decide) (fun c2 => ?_) (fun c2 => ?_)
  · have h := ob_t c2 h
    refine lv_iconst (v := (-1)) hx hb dur_Rb_target_22 (by decide) ?_
    exact W.iret (v := (-1)) hx hb hr (fun t ht hW => ⟨⟨(-1), σ, rfl, ⟨Option.some.inj h, rfl⟩, by rw [ht]; exact hP, va_K.moved hW.alike hK⟩, hS.F ht⟩) hS.2.2 dur_Rb_target_23
  · have h := ob_f c2 h
    refine lv_aload_n hx hb dur_Rb_target_11 rfl (lv_at hl 0 rfl) ?_
    refine urg_Rb_25 hx hb hts hown hK hP dur_Rb_target_12 ?_
    refine lv_iload_n hx hb dur_Rb_target_15 rfl (lv_at hl 2 rfl) ?_
    obtain ⟨q3, hq3, h⟩ := ob_b h
    refine ur_cv_ir (As := [.int x2]) (rest := []) ⟨hx, hb, hml, hown, hts⟩ (cur_Nm_isKnown l D a k hAd σ x2  q3 hq3) (urc_Rb_57 hts ⟨Nat.le_of_ble_eq_true rfl, Nat.le_of_ble_eq_true rfl⟩) (ur_rc1 hK hP) hK hP rfl hl.1 rfl (Nat.le_of_ble_eq_true rfl) dur_Rb_target_16 hS (fun H locs hP hS => ?_)
    refine lv_if_ne (tgt := 24) hx hb dur_Rb_target_19 (by decide) (fun c4 => ?_) (fun c4 => ?_)
    · have h := ob_f c4 h
      refine lv_aload_n hx hb dur_Rb_target_24 rfl (lv_at hl 0 rfl) ?_
      refine urg_Rb_39 hx hb hts hown hK hP dur_Rb_target_25 ?_
      refine urg_Rb_136 hx hb hts hown hK hP dur_Rb_target_28 ?_
      refine lv_iload_n hx hb dur_Rb_target_31 rfl (lv_at hl 1 rfl) ?_
      obtain ⟨hg5, h⟩ := ob_i h
      refine ur_gald3 hx hb hK hP hg5 dur_Rb_target_32 ?_
      refine lv_iload_n hx hb dur_Rb_target_33 rfl (lv_at hl 2 rfl) ?_
      obtain ⟨hi6, h⟩ := ob_i h
      refine ur_iald (i := (x1.toNatClampNeg + 50)) hx hb hK hP (ur_glt3 hg5) (ur_gln3 hg5) hi6 dur_Rb_target_34 ?_
      exact W.iret (v := (σ (x1.toNatClampNeg + 50) x2.toNatClampNeg)) hx hb hr (fun t ht hW => ⟨⟨(σ (x1.toNatClampNeg + 50) x2.toNatClampNeg), σ, rfl, ⟨Option.some.inj h, rfl⟩, by rw [ht]; exact hP, va_K.moved hW.alike hK⟩, hS.F ht⟩) hS.2.2 dur_Rb_target_35
    · have h := ob_t c4 h
      refine lv_iconst (v := (-1)) hx hb dur_Rb_target_22 (by decide) ?_
      exact W.iret (v := (-1)) hx hb hr (fun t ht hW => ⟨⟨(-1), σ, rfl, ⟨Option.some.inj h, rfl⟩, by rw [ht]; exact hP, va_K.moved hW.alike hK⟩, hS.F ht⟩) hS.2.2 dur_Rb_target_23
set_option maxHeartbeats 4000000 in
set_option maxRecDepth 100000 in
theorem cur_Nm_moveUp (l : Launch) (D : va_G) (a : Nat → Nat) (k : Nat → ClassId) (hAd : ur_Ad a) (σ : ST) (k1 : Nat) (hk1 : k1 < 110) (res : Int32 × ST) (h : urf_Nm_moveUp σ k1 = some res) : Met l ury_Nm_moveUp urs_Nm_moveUp urr_Nm_moveUp (ur_Pc D a k σ [.ref (a 1), .ref (a (k1 + 9))]) (va_Qi (fun (r : Int32) (u : ST) => r = res.1 ∧ u = res.2) (ur_B D a k) (ur_A a)) 0 0 (ur_A a) := by
  refine Met.ofW (cc := urb_Nm_moveUp) (maxL := 4) (ret := (some .int)) (by decide) rfl ?_
  intro p e s m args below meth c s₁ B hml hv
  obtain ⟨rfl, hP, hK⟩ := hv
  have hx := B.exec
  have hb := B.bytes
  have hr := B.returns
  have hts : ∀ w ∈ ub_T, w.before _ s = true := fun w hw => atoms_spec (ws := urs_Nm_moveUp) B.pre w (List.mem_cons_of_mem _ hw)
  have hown : s.vm.findClass urR_Nm = some m.cls := findClass_of_methodNamed B.named
  have hlocks := B.notSynchronized
  have hS : va_S (ur_A a) s.heap s.heap [] := va_S.rf
  have hl := lv_entry ([.ref (a 1), .ref (a (k1 + 9))]) (n := 4) (Nat.le_of_ble_eq_true rfl)
  rw [lg_entry_eq]
  generalize (lg_sl ([.ref (a 1), .ref (a (k1 + 9))]) ++ List.replicate (4 - (lg_sl ([.ref (a 1), .ref (a (k1 + 9))])).length) Slot.unset).toArray = ls at hl ⊢
  have hl : lv_has ls 4 [(0, .ref (a 1)), (1, .ref (a (k1 + 9)))] := hl
  have lp4 : ∀ (n : Nat) (σ : ST) (y2 : Int32) (y3 : Int32) (H : Heap) (locs : List Loc) (ls : Array Slot), url_Nm_moveUp_4 k1 n σ y2 y3 = some res → ur_P D a k σ H → va_S (ur_A a) s.heap H locs → lv_has ls 4 [(0, .ref (a 1)), (1, .ref (a (k1 + 9))), (2, .int y2), (3, .int y3)] → W p l e (headSpec urs_Nm_moveUp urr_Nm_moveUp).room s m (([.ref (a 1), .ref (a (k1 + 9))] : List Value)).toArray below meth c H locs 0 0 (MQ below (va_Qi (fun (r : Int32) (u : ST) => r = res.1 ∧ u = res.2) (ur_B D a k) (ur_A a)) (([.ref (a 1), .ref (a (k1 + 9))] : List Value)).toArray s 0 0 (ur_A a)) (F0 m 4 ls []) := by
    intro n
    induction n with
    | zero =>
      intro σ y2 y3 H locs ls h
      exact absurd h (fun z => by cases z)
    | succ n ih =>
      intro σ y2 y3 H locs ls h hP hS hl
      rw [url_Nm_moveUp_4] at h
      refine lv_iload_n hx hb dur_Nm_moveUp_4 rfl (lv_at hl 3 rfl) ?_
      refine lv_aload_n hx hb dur_Nm_moveUp_5 rfl (lv_at hl 0 rfl) ?_
      refine urg_Nm_9 hx hb hts hown hK hP dur_Nm_moveUp_6 ?_
      refine lv_icmp_ge (tgt := 48) hx hb dur_Nm_moveUp_9 (by decide) (fun c1 => ?_) (fun c1 => ?_)
      · have h := ob_t c1 h
        refine lv_iload_n hx hb dur_Nm_moveUp_48 rfl (lv_at hl 2 rfl) ?_
        exact W.iret (v := y2) hx hb hr (fun t ht hW => ⟨⟨y2, σ, rfl, ob_r h, by rw [ht]; exact hP, va_K.moved hW.alike hK⟩, hS.F ht⟩) hS.2.2 dur_Nm_moveUp_49
      · have h := ob_f c1 h
        refine lv_iload_n hx hb dur_Nm_moveUp_12 rfl (lv_at hl 3 rfl) ?_
        refine lv_aload_n hx hb dur_Nm_moveUp_13 rfl (lv_at hl 1 rfl) ?_
        refine ur_alen (i := k1) hx hb hK hP hk1 dur_Nm_moveUp_14 ?_
        refine lv_icmp_ge (tgt := 48) hx hb dur_Nm_moveUp_15 (by decide) (fun c2 => ?_) (fun c2 => ?_)
        · have h := ob_t c2 h
          refine lv_iload_n hx hb dur_Nm_moveUp_48 rfl (lv_at hl 2 rfl) ?_
          exact W.iret (v := y2) hx hb hr (fun t ht hW => ⟨⟨y2, σ, rfl, ob_r h, by rw [ht]; exact hP, va_K.moved hW.alike hK⟩, hS.F ht⟩) hS.2.2 dur_Nm_moveUp_49
        · have h := ob_f c2 h
          refine lv_aload_n hx hb dur_Nm_moveUp_18 rfl (lv_at hl 1 rfl) ?_
          refine lv_iload_n hx hb dur_Nm_moveUp_19 rfl (lv_at hl 3 rfl) ?_
          obtain ⟨hi3, h⟩ := ob_i h
          refine ur_iald (i := k1) hx hb hK hP hk1 rfl hi3 dur_Nm_moveUp_20 ?_
          refine lv_aload_n hx hb dur_Nm_moveUp_21 rfl (lv_at hl 0 rfl) ?_
          refine urg_Nm_22 hx hb hts hown hK hP dur_Nm_moveUp_22 ?_
          refine lv_iload_n hx hb dur_Nm_moveUp_25 rfl (lv_at hl 3 rfl) ?_
          obtain ⟨hi4, h⟩ := ob_i h
          refine ur_iald (i := 2) hx hb hK hP (by decide) rfl hi4 dur_Nm_moveUp_26 ?_
          refine lv_icmp_le (tgt := 42) hx hb dur_Nm_moveUp_27 (by decide) (fun c5 => ?_) (fun c5 => ?_)
          · have h := ob_t c5 h
            refine lv_iinc (v := (y3 + 1)) (lv' := [(3, .int (y3 + 1)), (0, .ref (a 1)), (1, .ref (a (k1 + 9))), (2, .int y2)]) hx hb dur_Nm_moveUp_42 hl (k := 3) rfl rfl (by decide) rfl (fun ls hl => ?_)
            refine lv_goto (tgt := 4) hx hb dur_Nm_moveUp_45 (by decide) ?_
            exact ih σ y2 (y3 + 1) _ _ _ h hP hS (lv_sub hl [1, 2, 3, 0] rfl)
          · have h := ob_f c5 h
            refine lv_aload_n hx hb dur_Nm_moveUp_30 rfl (lv_at hl 0 rfl) ?_
            refine urg_Nm_22 hx hb hts hown hK hP dur_Nm_moveUp_31 ?_
            refine lv_iload_n hx hb dur_Nm_moveUp_34 rfl (lv_at hl 3 rfl) ?_
            refine lv_aload_n hx hb dur_Nm_moveUp_35 rfl (lv_at hl 1 rfl) ?_
            refine lv_iload_n hx hb dur_Nm_moveUp_36 rfl (lv_at hl 3 rfl) ?_
            obtain ⟨hi6, h⟩ := ob_i h
            refine ur_iald (i := k1) hx hb hK hP hk1 rfl hi6 dur_Nm_moveUp_37 ?_
            obtain ⟨hi7, h⟩ := ob_i h
            refine ur_iast (i := 2) hx hb hK hP hAd hS (by decide) rfl hi7 dur_Nm_moveUp_38 (fun H locs hP hS => ?_)
            refine lv_iinc (v := (y2 + 1)) (lv' := [(2, .int (y2 + 1)), (0, .ref (a 1)), (1, .ref (a (k1 + 9))), (3, .int y3)]) hx hb dur_Nm_moveUp_39 hl (k := 2) rfl rfl (by decide) rfl (fun ls hl => ?_)
            refine lv_iinc (v := (y3 + 1)) (lv' := [(3, .int (y3 + 1)), (2, .int (y2 + 1)), (0, .ref (a 1)), (1, .ref (a (k1 + 9)))]) hx hb dur_Nm_moveUp_42 hl (k := 3) rfl rfl (by decide) rfl (fun ls hl => ?_)
            refine lv_goto (tgt := 4) hx hb dur_Nm_moveUp_45 (by decide) ?_
            exact ih (wr σ 2 y3.toNatClampNeg (σ k1 y3.toNatClampNeg)) (y2 + 1) (y3 + 1) _ _ _ h hP hS (lv_sub hl [2, 3, 1, 0] rfl)
  rw [urf_Nm_moveUp] at h
  refine lv_iconst (v := 0) hx hb dur_Nm_moveUp_0 (by decide) ?_
  refine lv_istore_n (lv' := [(2, .int 0), (0, .ref (a 1)), (1, .ref (a (k1 + 9)))]) hx hb dur_Nm_moveUp_1 rfl hl (by decide) rfl (fun ls hl => ?_)
  refine lv_iconst (v := 0) hx hb dur_Nm_moveUp_2 (by decide) ?_
  refine lv_istore_n (lv' := [(3, .int 0), (2, .int 0), (0, .ref (a 1)), (1, .ref (a (k1 + 9)))]) hx hb dur_Nm_moveUp_3 rfl hl (by decide) rfl (fun ls hl => ?_)
  exact lp4 200 σ 0 0 _ _ _ h hP hS (lv_sub hl [2, 3, 1, 0] rfl)
set_option maxHeartbeats 4000000 in
set_option maxRecDepth 100000 in
theorem cur_Pr_overlap (l : Launch) (D : va_G) (a : Nat → Nat) (k : Nat → ClassId) (hAd : ur_Ad a) (σ : ST) (x1 : Int32) (x2 : Int32) (res : Int32) (h : urf_Pr_overlap σ x1 x2 = some res) : Met l ury_Pr_overlap urs_Pr_overlap urr_Pr_overlap (ur_Pc D a k σ [.ref (a 3), .int x1, .int x2]) (va_Qi (fun (r : Int32) (u : ST) => r = res ∧ u = σ) (ur_B D a k) (ur_A a)) 0 0 (ur_A a) := by
  refine Met.ofW (cc := urb_Pr_overlap) (maxL := 4) (ret := (some .boolean)) (by decide) rfl ?_
  intro p e s m args below meth c s₁ B hml hv
  obtain ⟨rfl, hP, hK⟩ := hv
  have hx := B.exec
  have hb := B.bytes
  have hr := B.returns
  have hts : ∀ w ∈ ub_T, w.before _ s = true := fun w hw => atoms_spec (ws := urs_Pr_overlap) B.pre w (List.mem_cons_of_mem _ hw)
  have hown : s.vm.findClass urR_Pr = some m.cls := findClass_of_methodNamed B.named
  have hlocks := B.notSynchronized
  have hS : va_S (ur_A a) s.heap s.heap [] := va_S.rf
  have hl := lv_entry ([.ref (a 3), .int x1, .int x2]) (n := 4) (Nat.le_of_ble_eq_true rfl)
  rw [lg_entry_eq]
  generalize (lg_sl ([.ref (a 3), .int x1, .int x2]) ++ List.replicate (4 - (lg_sl ([.ref (a 3), .int x1, .int x2])).length) Slot.unset).toArray = ls at hl ⊢
  have hl : lv_has ls 4 [(0, .ref (a 3)), (1, .int x1), (2, .int x2)] := hl
  have lp2 : ∀ (n : Nat) (y1 : Int32) (y2 : Int32) (y3 : Int32) (H : Heap) (locs : List Loc) (ls : Array Slot), url_Pr_overlap_2 σ n y1 y2 y3 = some res → ur_P D a k σ H → va_S (ur_A a) s.heap H locs → lv_has ls 4 [(0, .ref (a 3)), (1, .int y1), (2, .int y2), (3, .int y3)] → W p l e (headSpec urs_Pr_overlap urr_Pr_overlap).room s m (([.ref (a 3), .int x1, .int x2] : List Value)).toArray below meth c H locs 0 0 (MQ below (va_Qi (fun (r : Int32) (u : ST) => r = res ∧ u = σ) (ur_B D a k) (ur_A a)) (([.ref (a 3), .int x1, .int x2] : List Value)).toArray s 0 0 (ur_A a)) (F0 m 2 ls []) := by
    intro n
    induction n with
    | zero =>
      intro y1 y2 y3 H locs ls h
      exact absurd h (fun z => by cases z)
    | succ n ih =>
      intro y1 y2 y3 H locs ls h hP hS hl
      rw [url_Pr_overlap_2] at h
      refine lv_iload_n hx hb dur_Pr_overlap_2 rfl (lv_at hl 3 rfl) ?_
      refine lv_bipush (v := 12) hx hb dur_Pr_overlap_3 (by decide) ?_
      refine lv_icmp_ge (tgt := 40) hx hb dur_Pr_overlap_5 (by decide) (fun c1 => ?_) (fun c1 => ?_)
      · have h := ob_t c1 h
        refine lv_iconst (v := 0) hx hb dur_Pr_overlap_40 (by decide) ?_
        exact W.zret (ty := .boolean) (v := 0) hx hb hr rfl (fun t ht hW => ⟨⟨0, σ, rfl, ⟨Option.some.inj h, rfl⟩, by rw [ht]; exact hP, va_K.moved hW.alike hK⟩, hS.F ht⟩) hS.2.2 dur_Pr_overlap_41
      · have h := ob_f c1 h
        refine lv_aload_n hx hb dur_Pr_overlap_8 rfl (lv_at hl 0 rfl) ?_
        refine urg_Pr_34 hx hb hts hown hK hP dur_Pr_overlap_9 ?_
        refine lv_iload_n hx hb dur_Pr_overlap_12 rfl (lv_at hl 1 rfl) ?_
        obtain ⟨hg2, h⟩ := ob_i h
        refine ur_gald3 hx hb hK hP hg2 dur_Pr_overlap_13 ?_
        refine lv_iload_n hx hb dur_Pr_overlap_14 rfl (lv_at hl 3 rfl) ?_
        obtain ⟨hi3, h⟩ := ob_i h
        refine ur_iald (i := (y1.toNatClampNeg + 50)) hx hb hK hP (ur_glt3 hg2) (ur_gln3 hg2) hi3 dur_Pr_overlap_15 ?_
        refine lv_iconst (v := (-1)) hx hb dur_Pr_overlap_16 (by decide) ?_
        refine lv_icmp_eq (tgt := 34) hx hb dur_Pr_overlap_17 (by decide) (fun c4 => ?_) (fun c4 => ?_)
        · have h := ob_t c4 h
          refine lv_iinc (v := (y3 + 1)) (lv' := [(3, .int (y3 + 1)), (0, .ref (a 3)), (1, .int y1), (2, .int y2)]) hx hb dur_Pr_overlap_34 hl (k := 3) rfl rfl (by decide) rfl (fun ls hl => ?_)
          refine lv_goto (tgt := 2) hx hb dur_Pr_overlap_37 (by decide) ?_
          exact ih y1 y2 (y3 + 1) _ _ _ h hP hS (lv_sub hl [1, 2, 3, 0] rfl)
        · have h := ob_f c4 h
          refine lv_aload_n hx hb dur_Pr_overlap_20 rfl (lv_at hl 0 rfl) ?_
          refine urg_Pr_34 hx hb hts hown hK hP dur_Pr_overlap_21 ?_
          refine lv_iload_n hx hb dur_Pr_overlap_24 rfl (lv_at hl 2 rfl) ?_
          obtain ⟨hg5, h⟩ := ob_i h
          refine ur_gald3 hx hb hK hP hg5 dur_Pr_overlap_25 ?_
          refine lv_iload_n hx hb dur_Pr_overlap_26 rfl (lv_at hl 3 rfl) ?_
          obtain ⟨hi6, h⟩ := ob_i h
          refine ur_iald (i := (y2.toNatClampNeg + 50)) hx hb hK hP (ur_glt3 hg5) (ur_gln3 hg5) hi6 dur_Pr_overlap_27 ?_
          refine lv_iconst (v := (-1)) hx hb dur_Pr_overlap_28 (by decide) ?_
          refine lv_icmp_eq (tgt := 34) hx hb dur_Pr_overlap_29 (by decide) (fun c7 => ?_) (fun c7 => ?_)
          · have h := ob_t c7 h
            refine lv_iinc (v := (y3 + 1)) (lv' := [(3, .int (y3 + 1)), (0, .ref (a 3)), (1, .int y1), (2, .int y2)]) hx hb dur_Pr_overlap_34 hl (k := 3) rfl rfl (by decide) rfl (fun ls hl => ?_)
            refine lv_goto (tgt := 2) hx hb dur_Pr_overlap_37 (by decide) ?_
            exact ih y1 y2 (y3 + 1) _ _ _ h hP hS (lv_sub hl [1, 2, 3, 0] rfl)
          · have h := ob_f c7 h
            refine lv_iconst (v := 1) hx hb dur_Pr_overlap_32 (by decide) ?_
            exact W.zret (ty := .boolean) (v := 1) hx hb hr rfl (fun t ht hW => ⟨⟨1, σ, rfl, ⟨Option.some.inj h, rfl⟩, by rw [ht]; exact hP, va_K.moved hW.alike hK⟩, hS.F ht⟩) hS.2.2 dur_Pr_overlap_33
  rw [urf_Pr_overlap] at h
  refine lv_iconst (v := 0) hx hb dur_Pr_overlap_0 (by decide) ?_
  refine lv_istore_n (lv' := [(3, .int 0), (0, .ref (a 3)), (1, .int x1), (2, .int x2)]) hx hb dur_Pr_overlap_1 rfl hl (by decide) rfl (fun ls hl => ?_)
  exact lp2 200 x1 x2 0 _ _ _ h hP hS (lv_sub hl [1, 2, 3, 0] rfl)
set_option maxHeartbeats 4000000 in
set_option maxRecDepth 100000 in
theorem cur_Rb_redo (l : Launch) (D : va_G) (a : Nat → Nat) (k : Nat → ClassId) (hAd : ur_Ad a) (σ : ST) (x1 : Int32) (res : ST) (h : urf_Rb_redo σ x1 = some res) : Met l ury_Rb_redo urs_Rb_redo urr_Rb_redo (ur_Pc D a k σ [.ref (a 0), .int x1]) (va_Qv (fun (u : ST) => u = res) (ur_B D a k) (ur_A a)) 0 0 (ur_A a) := by
  refine Met.ofW (cc := urb_Rb_redo) (maxL := 3) (ret := none) (by decide) rfl ?_
  intro p e s m args below meth c s₁ B hml hv
  obtain ⟨rfl, hP, hK⟩ := hv
  have hx := B.exec
  have hb := B.bytes
  have hr := B.returns
  have hts : ∀ w ∈ ub_T, w.before _ s = true := fun w hw => atoms_spec (ws := urs_Rb_redo) B.pre w (List.mem_cons_of_mem _ hw)
  have hown : s.vm.findClass urR_Rb = some m.cls := findClass_of_methodNamed B.named
  have hlocks := B.notSynchronized
  have hS : va_S (ur_A a) s.heap s.heap [] := va_S.rf
  have hl := lv_entry ([.ref (a 0), .int x1]) (n := 3) (Nat.le_of_ble_eq_true rfl)
  rw [lg_entry_eq]
  generalize (lg_sl ([.ref (a 0), .int x1]) ++ List.replicate (3 - (lg_sl ([.ref (a 0), .int x1])).length) Slot.unset).toArray = ls at hl ⊢
  have hl : lv_has ls 3 [(0, .ref (a 0)), (1, .int x1)] := hl
  rw [urf_Rb_redo] at h
  refine lv_aload_n hx hb dur_Rb_redo_0 rfl (lv_at hl 0 rfl) ?_
  refine urg_Rb_39 hx hb hts hown hK hP dur_Rb_redo_1 ?_
  refine urg_Rb_123 hx hb hts hown hK hP dur_Rb_redo_4 ?_
  refine lv_iload_n hx hb dur_Rb_redo_7 rfl (lv_at hl 1 rfl) ?_
  obtain ⟨hi1, h⟩ := ob_i h
  refine ur_iald (i := 11) hx hb hK hP (by decide) rfl hi1 dur_Rb_redo_8 ?_
  refine lv_istore_n (lv' := [(2, .int (σ 11 x1.toNatClampNeg)), (0, .ref (a 0)), (1, .int x1)]) hx hb dur_Rb_redo_9 rfl hl (by decide) rfl (fun ls hl => ?_)
  refine lv_aload_n hx hb dur_Rb_redo_10 rfl (lv_at hl 1 rfl) ?_
  refine urg_Rb_25 hx hb hts hown hK hP dur_Rb_redo_11 ?_
  refine lv_iload_n hx hb dur_Rb_redo_14 rfl (lv_at hl 0 rfl) ?_
  obtain ⟨q2, hq2, h⟩ := ob_b h
  refine ur_cv_ir (As := [.int (σ 11 x1.toNatClampNeg)]) (rest := []) ⟨hx, hb, hml, hown, hts⟩ (cur_Nm_isChief l D a k hAd σ (σ 11 x1.toNatClampNeg)  q2 hq2) (urc_Rb_96 hts ⟨Nat.le_of_ble_eq_true rfl, Nat.le_of_ble_eq_true rfl⟩) (ur_rc1 hK hP) hK hP rfl hl.1 rfl (Nat.le_of_ble_eq_true rfl) dur_Rb_redo_15 hS (fun H locs hP hS => ?_)
  refine lv_if_eq (tgt := 67) hx hb dur_Rb_redo_18 (by decide) (fun c3 => ?_) (fun c3 => ?_)
  · have h := ob_t c3 h
    refine lv_aload_n hx hb dur_Rb_redo_67 rfl (lv_at hl 1 rfl) ?_
    refine urg_Rb_39 hx hb hts hown hK hP dur_Rb_redo_68 ?_
    refine urg_Rb_120 hx hb hts hown hK hP dur_Rb_redo_71 ?_
    refine lv_iload_n hx hb dur_Rb_redo_74 rfl (lv_at hl 2 rfl) ?_
    refine lv_iconst (v := 3) hx hb dur_Rb_redo_75 (by decide) ?_
    obtain ⟨hi4, h⟩ := ob_i h
    refine ur_iast (i := 10) hx hb hK hP hAd hS (by decide) rfl hi4 dur_Rb_redo_76 (fun H locs hP hS => ?_)
    exact W.vret hx hb hr (fun t ht hW => ⟨⟨(wr σ 10 x1.toNatClampNeg 3), rfl, Option.some.inj h, by rw [ht]; exact hP, va_K.moved hW.alike hK⟩, hS.F ht⟩) hS.2.2 dur_Rb_redo_77
  · have h := ob_f c3 h
    refine lv_aload_n hx hb dur_Rb_redo_21 rfl (lv_at hl 1 rfl) ?_
    refine urg_Rb_32 hx hb hts hown hK hP dur_Rb_redo_22 ?_
    refine lv_aload_n hx hb dur_Rb_redo_25 rfl (lv_at hl 1 rfl) ?_
    refine urg_Rb_25 hx hb hts hown hK hP dur_Rb_redo_26 ?_
    refine lv_iload_n hx hb dur_Rb_redo_29 rfl (lv_at hl 0 rfl) ?_
    obtain ⟨q5, hq5, h⟩ := ob_b h
    refine ur_cv_iw (As := [.ref (a 1), .int (σ 11 x1.toNatClampNeg)]) (rest := []) ⟨hx, hb, hml, hown, hts⟩ (cur_So_solveUnit l D a k hAd σ (σ 11 x1.toNatClampNeg)  q5 hq5) (urc_Rb_99 hts ⟨Nat.le_of_ble_eq_true rfl, Nat.le_of_ble_eq_true rfl⟩) (ur_rc2 hK hP) hK hP rfl hl.1 rfl (Nat.le_of_ble_eq_true rfl) dur_Rb_redo_30 hS (fun H locs hP hS => ?_)
    refine lv_if_le (tgt := 67) hx hb dur_Rb_redo_33 (by decide) (fun c6 => ?_) (fun c6 => ?_)
    · have h := ob_t c6 h
      refine lv_aload_n hx hb dur_Rb_redo_67 rfl (lv_at hl 1 rfl) ?_
      refine urg_Rb_39 hx hb hts hown hK hP dur_Rb_redo_68 ?_
      refine urg_Rb_120 hx hb hts hown hK hP dur_Rb_redo_71 ?_
      refine lv_iload_n hx hb dur_Rb_redo_74 rfl (lv_at hl 2 rfl) ?_
      refine lv_iconst (v := 3) hx hb dur_Rb_redo_75 (by decide) ?_
      obtain ⟨hi7, h⟩ := ob_i h
      refine ur_iast (i := 10) hx hb hK hP hAd hS (by decide) rfl hi7 dur_Rb_redo_76 (fun H locs hP hS => ?_)
      exact W.vret hx hb hr (fun t ht hW => ⟨⟨(wr q5.2 10 x1.toNatClampNeg 3), rfl, Option.some.inj h, by rw [ht]; exact hP, va_K.moved hW.alike hK⟩, hS.F ht⟩) hS.2.2 dur_Rb_redo_77
    · have h := ob_f c6 h
      refine lv_aload_n hx hb dur_Rb_redo_36 rfl (lv_at hl 1 rfl) ?_
      refine urg_Rb_39 hx hb hts hown hK hP dur_Rb_redo_37 ?_
      refine lv_iload_n hx hb dur_Rb_redo_40 rfl (lv_at hl 2 rfl) ?_
      refine lv_aload_n hx hb dur_Rb_redo_41 rfl (lv_at hl 1 rfl) ?_
      refine urg_Rb_32 hx hb hts hown hK hP dur_Rb_redo_42 ?_
      refine urg_Rb_165 hx hb hts hown hK hP dur_Rb_redo_45 ?_
      obtain ⟨q8, hq8, h⟩ := ob_b h
      refine ur_cv_v (As := [.int x1, .ref (a (9 + 9))]) (rest := []) ⟨hx, hb, hml, hown, hts⟩ (cur_Pr_setRaised l D a k hAd q5.2 x1 9 (by decide) q8 hq8) (urc_Rb_193 hts ⟨Nat.le_of_ble_eq_true rfl, Nat.le_of_ble_eq_true rfl⟩) (ur_rc3 hK hP) hK hP rfl hl.1 rfl (Nat.le_of_ble_eq_true rfl) dur_Rb_redo_48 hS (fun H locs hP hS => ?_)
      refine lv_aload_n hx hb dur_Rb_redo_51 rfl (lv_at hl 1 rfl) ?_
      refine urg_Rb_39 hx hb hts hown hK hP dur_Rb_redo_52 ?_
      refine urg_Rb_126 hx hb hts hown hK hP dur_Rb_redo_55 ?_
      refine lv_iload_n hx hb dur_Rb_redo_58 rfl (lv_at hl 2 rfl) ?_
      refine lv_dup2_11 hx hb dur_Rb_redo_59 rfl rfl ?_
      obtain ⟨hi9, h⟩ := ob_i h
      refine ur_iald (i := 12) hx hb hK hP (by decide) rfl hi9 dur_Rb_redo_60 ?_
      refine lv_iconst (v := 1) hx hb dur_Rb_redo_61 (by decide) ?_
      refine lv_iadd hx hb dur_Rb_redo_62 ?_
      obtain ⟨hi10, h⟩ := ob_i h
      refine ur_iast (i := 12) hx hb hK hP hAd hS (by decide) rfl hi10 dur_Rb_redo_63 (fun H locs hP hS => ?_)
      refine lv_goto (tgt := 77) hx hb dur_Rb_redo_64 (by decide) ?_
      exact W.vret hx hb hr (fun t ht hW => ⟨⟨(wr q8 12 x1.toNatClampNeg ((q8 12 x1.toNatClampNeg) + 1)), rfl, Option.some.inj h, by rw [ht]; exact hP, va_K.moved hW.alike hK⟩, hS.F ht⟩) hS.2.2 dur_Rb_redo_77
set_option maxHeartbeats 4000000 in
set_option maxRecDepth 100000 in
theorem cur_Rb_redoAllTouchedBy (l : Launch) (D : va_G) (a : Nat → Nat) (k : Nat → ClassId) (hAd : ur_Ad a) (σ : ST) (x1 : Int32) (res : ST) (h : urf_Rb_redoAllTouchedBy σ x1 = some res) : Met l ury_Rb_redoAllTouchedBy urs_Rb_redoAllTouchedBy urr_Rb_redoAllTouchedBy (ur_Pc D a k σ [.ref (a 0), .int x1]) (va_Qv (fun (u : ST) => u = res) (ur_B D a k) (ur_A a)) 0 0 (ur_A a) := by
  refine Met.ofW (cc := urb_Rb_redoAllTouchedBy) (maxL := 3) (ret := none) (by decide) rfl ?_
  intro p e s m args below meth c s₁ B hml hv
  obtain ⟨rfl, hP, hK⟩ := hv
  have hx := B.exec
  have hb := B.bytes
  have hr := B.returns
  have hts : ∀ w ∈ ub_T, w.before _ s = true := fun w hw => atoms_spec (ws := urs_Rb_redoAllTouchedBy) B.pre w (List.mem_cons_of_mem _ hw)
  have hown : s.vm.findClass urR_Rb = some m.cls := findClass_of_methodNamed B.named
  have hlocks := B.notSynchronized
  have hS : va_S (ur_A a) s.heap s.heap [] := va_S.rf
  have hl := lv_entry ([.ref (a 0), .int x1]) (n := 3) (Nat.le_of_ble_eq_true rfl)
  rw [lg_entry_eq]
  generalize (lg_sl ([.ref (a 0), .int x1]) ++ List.replicate (3 - (lg_sl ([.ref (a 0), .int x1])).length) Slot.unset).toArray = ls at hl ⊢
  have hl : lv_has ls 3 [(0, .ref (a 0)), (1, .int x1)] := hl
  have lp2 : ∀ (n : Nat) (σ : ST) (y1 : Int32) (y2 : Int32) (H : Heap) (locs : List Loc) (ls : Array Slot), url_Rb_redoAllTouchedBy_2 n σ y1 y2 = some res → ur_P D a k σ H → va_S (ur_A a) s.heap H locs → lv_has ls 3 [(0, .ref (a 0)), (1, .int y1), (2, .int y2)] → W p l e (headSpec urs_Rb_redoAllTouchedBy urr_Rb_redoAllTouchedBy).room s m (([.ref (a 0), .int x1] : List Value)).toArray below meth c H locs 0 0 (MQ below (va_Qv (fun (u : ST) => u = res) (ur_B D a k) (ur_A a)) (([.ref (a 0), .int x1] : List Value)).toArray s 0 0 (ur_A a)) (F0 m 2 ls []) := by
    intro n
    induction n with
    | zero =>
      intro σ y1 y2 H locs ls h
      exact absurd h (fun z => by cases z)
    | succ n ih =>
      intro σ y1 y2 H locs ls h hP hS hl
      rw [url_Rb_redoAllTouchedBy_2] at h
      refine lv_iload_n hx hb dur_Rb_redoAllTouchedBy_2 rfl (lv_at hl 2 rfl) ?_
      refine lv_aload_n hx hb dur_Rb_redoAllTouchedBy_3 rfl (lv_at hl 0 rfl) ?_
      refine urg_Rb_39 hx hb hts hown hK hP dur_Rb_redoAllTouchedBy_4 ?_
      refine urg_Rb_105 hx hb hts hown hK hP dur_Rb_redoAllTouchedBy_7 ?_
      refine lv_icmp_ge (tgt := 47) hx hb dur_Rb_redoAllTouchedBy_10 (by decide) (fun c1 => ?_) (fun c1 => ?_)
      · have h := ob_t c1 h
        exact W.vret hx hb hr (fun t ht hW => ⟨⟨σ, rfl, Option.some.inj h, by rw [ht]; exact hP, va_K.moved hW.alike hK⟩, hS.F ht⟩) hS.2.2 dur_Rb_redoAllTouchedBy_47
      · have h := ob_f c1 h
        refine lv_aload_n hx hb dur_Rb_redoAllTouchedBy_13 rfl (lv_at hl 0 rfl) ?_
        refine urg_Rb_39 hx hb hts hown hK hP dur_Rb_redoAllTouchedBy_14 ?_
        refine lv_iload_n hx hb dur_Rb_redoAllTouchedBy_17 rfl (lv_at hl 2 rfl) ?_
        obtain ⟨q2, hq2, h⟩ := ob_b h
        refine ur_cv_ir (As := [.int y2]) (rest := []) ⟨hx, hb, hml, hown, hts⟩ (cur_Pr_isOpen l D a k hAd σ y2  q2 hq2) (urc_Rb_139 hts ⟨Nat.le_of_ble_eq_true rfl, Nat.le_of_ble_eq_true rfl⟩) (ur_rc3 hK hP) hK hP rfl hl.1 rfl (Nat.le_of_ble_eq_true rfl) dur_Rb_redoAllTouchedBy_18 hS (fun H locs hP hS => ?_)
        refine lv_if_eq (tgt := 41) hx hb dur_Rb_redoAllTouchedBy_21 (by decide) (fun c3 => ?_) (fun c3 => ?_)
        · have h := ob_t c3 h
          refine lv_iinc (v := (y2 + 1)) (lv' := [(2, .int (y2 + 1)), (0, .ref (a 0)), (1, .int y1)]) hx hb dur_Rb_redoAllTouchedBy_41 hl (k := 2) rfl rfl (by decide) rfl (fun ls hl => ?_)
          refine lv_goto (tgt := 2) hx hb dur_Rb_redoAllTouchedBy_44 (by decide) ?_
          exact ih σ y1 (y2 + 1) _ _ _ h hP hS (lv_sub hl [1, 2, 0] rfl)
        · have h := ob_f c3 h
          refine lv_aload_n hx hb dur_Rb_redoAllTouchedBy_24 rfl (lv_at hl 0 rfl) ?_
          refine urg_Rb_39 hx hb hts hown hK hP dur_Rb_redoAllTouchedBy_25 ?_
          refine lv_iload_n hx hb dur_Rb_redoAllTouchedBy_28 rfl (lv_at hl 2 rfl) ?_
          refine lv_iload_n hx hb dur_Rb_redoAllTouchedBy_29 rfl (lv_at hl 1 rfl) ?_
          obtain ⟨q4, hq4, h⟩ := ob_b h
          refine ur_cv_ir (As := [.int y2, .int y1]) (rest := []) ⟨hx, hb, hml, hown, hts⟩ (cur_Pr_overlap l D a k hAd σ y2 y1  q4 hq4) (urc_Rb_187 hts ⟨Nat.le_of_ble_eq_true rfl, Nat.le_of_ble_eq_true rfl⟩) (ur_rc3 hK hP) hK hP rfl hl.1 rfl (Nat.le_of_ble_eq_true rfl) dur_Rb_redoAllTouchedBy_30 hS (fun H locs hP hS => ?_)
          refine lv_if_eq (tgt := 41) hx hb dur_Rb_redoAllTouchedBy_33 (by decide) (fun c5 => ?_) (fun c5 => ?_)
          · have h := ob_t c5 h
            refine lv_iinc (v := (y2 + 1)) (lv' := [(2, .int (y2 + 1)), (0, .ref (a 0)), (1, .int y1)]) hx hb dur_Rb_redoAllTouchedBy_41 hl (k := 2) rfl rfl (by decide) rfl (fun ls hl => ?_)
            refine lv_goto (tgt := 2) hx hb dur_Rb_redoAllTouchedBy_44 (by decide) ?_
            exact ih σ y1 (y2 + 1) _ _ _ h hP hS (lv_sub hl [1, 2, 0] rfl)
          · have h := ob_f c5 h
            refine lv_aload_n hx hb dur_Rb_redoAllTouchedBy_36 rfl (lv_at hl 0 rfl) ?_
            refine lv_iload_n hx hb dur_Rb_redoAllTouchedBy_37 rfl (lv_at hl 2 rfl) ?_
            obtain ⟨q6, hq6, h⟩ := ob_b h
            refine ur_cv_v (As := [.int y2]) (rest := []) ⟨hx, hb, hml, hown, hts⟩ (cur_Rb_redo l D a k hAd σ y2  q6 hq6) (urc_Rb_190 hts ⟨Nat.le_of_ble_eq_true rfl, Nat.le_of_ble_eq_true rfl⟩) (ur_rc0 hK hP) hK hP rfl hl.1 rfl (Nat.le_of_ble_eq_true rfl) dur_Rb_redoAllTouchedBy_38 hS (fun H locs hP hS => ?_)
            refine lv_iinc (v := (y2 + 1)) (lv' := [(2, .int (y2 + 1)), (0, .ref (a 0)), (1, .int y1)]) hx hb dur_Rb_redoAllTouchedBy_41 hl (k := 2) rfl rfl (by decide) rfl (fun ls hl => ?_)
            refine lv_goto (tgt := 2) hx hb dur_Rb_redoAllTouchedBy_44 (by decide) ?_
            exact ih q6 y1 (y2 + 1) _ _ _ h hP hS (lv_sub hl [1, 2, 0] rfl)
  rw [urf_Rb_redoAllTouchedBy] at h
  refine lv_iconst (v := 0) hx hb dur_Rb_redoAllTouchedBy_0 (by decide) ?_
  refine lv_istore_n (lv' := [(2, .int 0), (0, .ref (a 0)), (1, .int x1)]) hx hb dur_Rb_redoAllTouchedBy_1 rfl hl (by decide) rfl (fun ls hl => ?_)
  exact lp2 200 σ x1 0 _ _ _ h hP hS (lv_sub hl [1, 2, 0] rfl)
set_option maxHeartbeats 4000000 in
set_option maxRecDepth 100000 in
theorem cur_Rb_pass (l : Launch) (D : va_G) (a : Nat → Nat) (k : Nat → ClassId) (hAd : ur_Ad a) (σ : ST) (x1 : Int32) (x2 : Int32) (res : Int32 × ST) (h : urf_Rb_pass σ x1 x2 = some res) : Met l ury_Rb_pass urs_Rb_pass urr_Rb_pass (ur_Pc D a k σ [.ref (a 0), .int x1, .int x2]) (va_Qi (fun (r : Int32) (u : ST) => r = res.1 ∧ u = res.2) (ur_B D a k) (ur_A a)) 0 0 (ur_A a) := by
  refine Met.ofW (cc := urb_Rb_pass) (maxL := 4) (ret := (some .int)) (by decide) rfl ?_
  intro p e s m args below meth c s₁ B hml hv
  obtain ⟨rfl, hP, hK⟩ := hv
  have hx := B.exec
  have hb := B.bytes
  have hr := B.returns
  have hts : ∀ w ∈ ub_T, w.before _ s = true := fun w hw => atoms_spec (ws := urs_Rb_pass) B.pre w (List.mem_cons_of_mem _ hw)
  have hown : s.vm.findClass urR_Rb = some m.cls := findClass_of_methodNamed B.named
  have hlocks := B.notSynchronized
  have hS : va_S (ur_A a) s.heap s.heap [] := va_S.rf
  have hl := lv_entry ([.ref (a 0), .int x1, .int x2]) (n := 4) (Nat.le_of_ble_eq_true rfl)
  rw [lg_entry_eq]
  generalize (lg_sl ([.ref (a 0), .int x1, .int x2]) ++ List.replicate (4 - (lg_sl ([.ref (a 0), .int x1, .int x2])).length) Slot.unset).toArray = ls at hl ⊢
  have hl : lv_has ls 4 [(0, .ref (a 0)), (1, .int x1), (2, .int x2)] := hl
  rw [urf_Rb_pass] at h
  refine lv_aload_n hx hb dur_Rb_pass_0 rfl (lv_at hl 0 rfl) ?_
  refine urg_Rb_39 hx hb hts hown hK hP dur_Rb_pass_1 ?_
  refine lv_iload_n hx hb dur_Rb_pass_4 rfl (lv_at hl 1 rfl) ?_
  obtain ⟨q1, hq1, h⟩ := ob_b h
  refine ur_cv_ir (As := [.int x1]) (rest := []) ⟨hx, hb, hml, hown, hts⟩ (cur_Pr_isOpen l D a k hAd σ x1  q1 hq1) (urc_Rb_139 hts ⟨Nat.le_of_ble_eq_true rfl, Nat.le_of_ble_eq_true rfl⟩) (ur_rc3 hK hP) hK hP rfl hl.1 rfl (Nat.le_of_ble_eq_true rfl) dur_Rb_pass_5 hS (fun H locs hP hS => ?_)
  refine lv_if_ne (tgt := 13) hx hb dur_Rb_pass_8 (by decide) (fun c2 => ?_) (fun c2 => ?_)
  · have h := ob_f c2 h
    refine lv_iload_n hx hb dur_Rb_pass_13 rfl (lv_at hl 2 rfl) ?_
    refine lv_if_ne (tgt := 29) hx hb dur_Rb_pass_14 (by decide) (fun c3 => ?_) (fun c3 => ?_)
    · have h := ob_f c3 h
      refine lv_aload_n hx hb dur_Rb_pass_29 rfl (lv_at hl 0 rfl) ?_
      refine urg_Rb_39 hx hb hts hown hK hP dur_Rb_pass_30 ?_
      refine urg_Rb_120 hx hb hts hown hK hP dur_Rb_pass_33 ?_
      refine lv_iload_n hx hb dur_Rb_pass_36 rfl (lv_at hl 1 rfl) ?_
      refine lv_iconst (v := 1) hx hb dur_Rb_pass_37 (by decide) ?_
      obtain ⟨hi4, h⟩ := ob_i h
      refine ur_iast (i := 10) hx hb hK hP hAd hS (by decide) rfl hi4 dur_Rb_pass_38 (fun H locs hP hS => ?_)
      refine lv_aload_n hx hb dur_Rb_pass_39 rfl (lv_at hl 0 rfl) ?_
      refine urg_Rb_25 hx hb hts hown hK hP dur_Rb_pass_40 ?_
      refine lv_aload_n hx hb dur_Rb_pass_43 rfl (lv_at hl 0 rfl) ?_
      refine urg_Rb_39 hx hb hts hown hK hP dur_Rb_pass_44 ?_
      refine urg_Rb_136 hx hb hts hown hK hP dur_Rb_pass_47 ?_
      refine lv_iload_n hx hb dur_Rb_pass_50 rfl (lv_at hl 1 rfl) ?_
      obtain ⟨hg5, h⟩ := ob_i h
      refine ur_gald3 hx hb hK hP hg5 dur_Rb_pass_51 ?_
      obtain ⟨q6, hq6, h⟩ := ob_b h
      refine ur_cv_iw (As := [.ref (a ((x1.toNatClampNeg + 50) + 9))]) (rest := []) ⟨hx, hb, hml, hown, hts⟩ (cur_Nm_moveUp l D a k hAd (wr σ 10 x1.toNatClampNeg 1) (x1.toNatClampNeg + 50) (ur_glt3 hg5) q6 hq6) (urc_Rb_142 hts ⟨Nat.le_of_ble_eq_true rfl, Nat.le_of_ble_eq_true rfl⟩) (ur_rc1 hK hP) hK hP rfl hl.1 rfl (Nat.le_of_ble_eq_true rfl) dur_Rb_pass_52 hS (fun H locs hP hS => ?_)
      refine lv_istore_n (lv' := [(3, .int q6.1), (0, .ref (a 0)), (1, .int x1), (2, .int x2)]) hx hb dur_Rb_pass_55 rfl hl (by decide) rfl (fun ls hl => ?_)
      refine lv_aload_n hx hb dur_Rb_pass_56 rfl (lv_at hl 1 rfl) ?_
      refine lv_iload_n hx hb dur_Rb_pass_57 rfl (lv_at hl 2 rfl) ?_
      obtain ⟨q7, hq7, h⟩ := ob_b h
      refine ur_cv_v (As := [.int x1]) (rest := []) ⟨hx, hb, hml, hown, hts⟩ (cur_Rb_redoAllTouchedBy l D a k hAd q6.2 x1  q7 hq7) (urc_Rb_146 hts ⟨Nat.le_of_ble_eq_true rfl, Nat.le_of_ble_eq_true rfl⟩) (ur_rc0 hK hP) hK hP rfl hl.1 rfl (Nat.le_of_ble_eq_true rfl) dur_Rb_pass_58 hS (fun H locs hP hS => ?_)
      refine lv_iload_n hx hb dur_Rb_pass_61 rfl (lv_at hl 0 rfl) ?_
      exact W.iret (v := q6.1) hx hb hr (fun t ht hW => ⟨⟨q6.1, q7, rfl, ob_r h, by rw [ht]; exact hP, va_K.moved hW.alike hK⟩, hS.F ht⟩) hS.2.2 dur_Rb_pass_62
    · have h := ob_t c3 h
      refine lv_aload_n hx hb dur_Rb_pass_17 rfl (lv_at hl 0 rfl) ?_
      refine urg_Rb_39 hx hb hts hown hK hP dur_Rb_pass_18 ?_
      refine urg_Rb_120 hx hb hts hown hK hP dur_Rb_pass_21 ?_
      refine lv_iload_n hx hb dur_Rb_pass_24 rfl (lv_at hl 1 rfl) ?_
      refine lv_iconst (v := 4) hx hb dur_Rb_pass_25 (by decide) ?_
      obtain ⟨hi8, h⟩ := ob_i h
      refine ur_iast (i := 10) hx hb hK hP hAd hS (by decide) rfl hi8 dur_Rb_pass_26 (fun H locs hP hS => ?_)
      refine lv_iconst (v := 0) hx hb dur_Rb_pass_27 (by decide) ?_
      exact W.iret (v := 0) hx hb hr (fun t ht hW => ⟨⟨0, (wr σ 10 x1.toNatClampNeg 4), rfl, ob_r h, by rw [ht]; exact hP, va_K.moved hW.alike hK⟩, hS.F ht⟩) hS.2.2 dur_Rb_pass_28
  · have h := ob_t c2 h
    refine lv_iconst (v := (-1)) hx hb dur_Rb_pass_11 (by decide) ?_
    exact W.iret (v := (-1)) hx hb hr (fun t ht hW => ⟨⟨(-1), σ, rfl, ob_r h, by rw [ht]; exact hP, va_K.moved hW.alike hK⟩, hS.F ht⟩) hS.2.2 dur_Rb_pass_12
set_option maxHeartbeats 4000000 in
set_option maxRecDepth 100000 in
theorem cur_Rb_open (l : Launch) (D : va_G) (a : Nat → Nat) (k : Nat → ClassId) (hAd : ur_Ad a) (σ : ST) (x1 : Int32) (res : Int32) (h : urf_Rb_open σ x1 = some res) : Met l ury_Rb_open urs_Rb_open urr_Rb_open (ur_Pc D a k σ [.ref (a 0), .int x1]) (va_Qi (fun (r : Int32) (u : ST) => r = res ∧ u = σ) (ur_B D a k) (ur_A a)) 0 0 (ur_A a) := by
  refine Met.ofW (cc := urb_Rb_open) (maxL := 2) (ret := (some .int)) (by decide) rfl ?_
  intro p e s m args below meth c s₁ B hml hv
  obtain ⟨rfl, hP, hK⟩ := hv
  have hx := B.exec
  have hb := B.bytes
  have hr := B.returns
  have hts : ∀ w ∈ ub_T, w.before _ s = true := fun w hw => atoms_spec (ws := urs_Rb_open) B.pre w (List.mem_cons_of_mem _ hw)
  have hown : s.vm.findClass urR_Rb = some m.cls := findClass_of_methodNamed B.named
  have hlocks := B.notSynchronized
  have hS : va_S (ur_A a) s.heap s.heap [] := va_S.rf
  have hl := lv_entry ([.ref (a 0), .int x1]) (n := 2) (Nat.le_of_ble_eq_true rfl)
  rw [lg_entry_eq]
  generalize (lg_sl ([.ref (a 0), .int x1]) ++ List.replicate (2 - (lg_sl ([.ref (a 0), .int x1])).length) Slot.unset).toArray = ls at hl ⊢
  have hl : lv_has ls 2 [(0, .ref (a 0)), (1, .int x1)] := hl
  rw [urf_Rb_open] at h
  refine lv_iload_n hx hb dur_Rb_open_0 rfl (lv_at hl 1 rfl) ?_
  obtain ⟨q1, hq1, h⟩ := ob_b h
  refine ur_cs_ir (As := [.int x1]) (rest := []) ⟨hx, hb, hml, hown, hts⟩ (cur_Rb_isRepository l D a k hAd σ x1  q1 hq1) (urc_Rb_49 hts ⟨Nat.le_of_ble_eq_true rfl, Nat.le_of_ble_eq_true rfl⟩) hK hP rfl hl.1 rfl (Nat.le_of_ble_eq_true rfl) dur_Rb_open_1 hS (fun H locs hP hS => ?_)
  refine lv_if_eq (tgt := 15) hx hb dur_Rb_open_4 (by decide) (fun c2 => ?_) (fun c2 => ?_)
  · have h := ob_t c2 h
    refine lv_iconst (v := (-1)) hx hb dur_Rb_open_15 (by decide) ?_
    exact W.iret (v := (-1)) hx hb hr (fun t ht hW => ⟨⟨(-1), σ, rfl, ⟨Option.some.inj h, rfl⟩, by rw [ht]; exact hP, va_K.moved hW.alike hK⟩, hS.F ht⟩) hS.2.2 dur_Rb_open_16
  · have h := ob_f c2 h
    refine lv_aload_n hx hb dur_Rb_open_7 rfl (lv_at hl 0 rfl) ?_
    refine lv_iload_n hx hb dur_Rb_open_8 rfl (lv_at hl 1 rfl) ?_
    obtain ⟨q3, hq3, h⟩ := ob_b h
    refine ur_cv_ir (As := [.int x1]) (rest := []) ⟨hx, hb, hml, hown, hts⟩ (cur_Rb_openIn l D a k hAd σ x1  q3 hq3) (urc_Rb_149 hts ⟨Nat.le_of_ble_eq_true rfl, Nat.le_of_ble_eq_true rfl⟩) (ur_rc0 hK hP) hK hP rfl hl.1 rfl (Nat.le_of_ble_eq_true rfl) dur_Rb_open_9 hS (fun H locs hP hS => ?_)
    refine lv_goto (tgt := 16) hx hb dur_Rb_open_12 (by decide) ?_
    exact W.iret (v := q3) hx hb hr (fun t ht hW => ⟨⟨q3, σ, rfl, ⟨Option.some.inj h, rfl⟩, by rw [ht]; exact hP, va_K.moved hW.alike hK⟩, hS.F ht⟩) hS.2.2 dur_Rb_open_16

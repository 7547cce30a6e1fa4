set_option maxHeartbeats 4000000 in
set_option maxRecDepth 100000 in
theorem cur_So_solveUnit (l : Launch) (D : va_G) (a : Nat → Nat) (k : Nat → ClassId) (hAd : ur_Ad a) (σ : ST) (x2 : Int32) (res : Int32 × ST) (h : urf_So_solveUnit σ x2 = some res) : Met l ury_So_solveUnit urs_So_solveUnit urr_So_solveUnit (ur_Pc D a k σ [.ref (a 2), .ref (a 1), .int x2]) (va_Qi (fun (r : Int32) (u : ST) => r = res.1 ∧ u = res.2) (ur_B D a k) (ur_A a)) 0 0 (ur_A a) := by
  refine Met.ofW (cc := urb_So_solveUnit) (maxL := 7) (ret := (some .int)) (by decide) rfl ?_
  intro p e s m args below meth c s₁ B hml hv
  obtain ⟨rfl, hP, hK⟩ := hv
  have hx := B.exec
  have hb := B.bytes
  have hr := B.returns
  have hts : ∀ w ∈ ub_T, w.before _ s = true := fun w hw => atoms_spec (ws := urs_So_solveUnit) B.pre w (List.mem_cons_of_mem _ hw)
  have hown : s.vm.findClass urR_So = some m.cls := findClass_of_methodNamed B.named
  have hlocks := B.notSynchronized
  have hS : va_S (ur_A a) s.heap s.heap [] := va_S.rf
  have hl := lv_entry ([.ref (a 2), .ref (a 1), .int x2]) (n := 7) (Nat.le_of_ble_eq_true rfl)
  rw [lg_entry_eq]
  generalize (lg_sl ([.ref (a 2), .ref (a 1), .int x2]) ++ List.replicate (7 - (lg_sl ([.ref (a 2), .ref (a 1), .int x2])).length) Slot.unset).toArray = ls at hl ⊢
  have hl : lv_has ls 7 [(0, .ref (a 2)), (1, .ref (a 1)), (2, .int x2)] := hl
  have lp8 : ∀ (n : Nat) (σ : ST) (y2 : Int32) (y3 : Int32) (H : Heap) (locs : List Loc) (ls : Array Slot), url_So_solveUnit_8 n σ y2 y3 = some res → ur_P D a k σ H → va_S (ur_A a) s.heap H locs → lv_has ls 7 [(0, .ref (a 2)), (1, .ref (a 1)), (2, .int y2), (3, .int y3)] → W p l e (headSpec urs_So_solveUnit urr_So_solveUnit).room s m (([.ref (a 2), .ref (a 1), .int x2] : List Value)).toArray below meth c H locs 0 0 (MQ below (va_Qi (fun (r : Int32) (u : ST) => r = res.1 ∧ u = res.2) (ur_B D a k) (ur_A a)) (([.ref (a 2), .ref (a 1), .int x2] : List Value)).toArray s 0 0 (ur_A a)) (F0 m 8 ls []) := by
    intro n
    induction n with
    | zero =>
      intro σ y2 y3 H locs ls h
      exact absurd h (fun z => by cases z)
    | succ n ih =>
      intro σ y2 y3 H locs ls h hP hS hl
      rw [url_So_solveUnit_8] at h
      refine lv_iload_n hx hb dur_So_solveUnit_8 rfl (lv_at hl 3 rfl) ?_
      refine lv_bipush (v := 96) hx hb dur_So_solveUnit_9 (by decide) ?_
      refine lv_icmp_ge (tgt := 96) hx hb dur_So_solveUnit_11 (by decide) (fun c2 => ?_) (fun c2 => ?_)
      · have h := ob_t c2 h
        refine lv_aload_n hx hb dur_So_solveUnit_96 rfl (lv_at hl 0 rfl) ?_
        refine lv_aload_n hx hb dur_So_solveUnit_97 rfl (lv_at hl 1 rfl) ?_
        obtain ⟨q3, hq3, h⟩ := ob_b h
        refine ur_cv_iw (As := [.ref (a 1)]) (rest := []) ⟨hx, hb, hml, hown, hts⟩ (cur_So_keepRaised l D a k hAd σ   q3 hq3) (urc_So_39 hts ⟨Nat.le_of_ble_eq_true rfl, Nat.le_of_ble_eq_true rfl⟩) (ur_rc2 hK hP) hK hP rfl hl.1 rfl (Nat.le_of_ble_eq_true rfl) dur_So_solveUnit_98 hS (fun H locs hP hS => ?_)
        exact W.iret (v := q3.1) hx hb hr (fun t ht hW => ⟨⟨q3.1, q3.2, rfl, ob_r h, by rw [ht]; exact hP, va_K.moved hW.alike hK⟩, hS.F ht⟩) hS.2.2 dur_So_solveUnit_101
      · have h := ob_f c2 h
        refine lv_aload_n hx hb dur_So_solveUnit_14 rfl (lv_at hl 0 rfl) ?_
        refine lv_aload_n hx hb dur_So_solveUnit_15 rfl (lv_at hl 1 rfl) ?_
        obtain ⟨q4, hq4, h⟩ := ob_b h
        refine ur_cv_ir (As := [.ref (a 1)]) (rest := []) ⟨hx, hb, hml, hown, hts⟩ (cur_So_firstNeedy l D a k hAd σ   q4 hq4) (urc_So_22 hts ⟨Nat.le_of_ble_eq_true rfl, Nat.le_of_ble_eq_true rfl⟩) (ur_rc2 hK hP) hK hP rfl hl.1 rfl (Nat.le_of_ble_eq_true rfl) dur_So_solveUnit_16 hS (fun H locs hP hS => ?_)
        refine lv_istore (lv' := [(4, .int q4), (0, .ref (a 2)), (1, .ref (a 1)), (2, .int y2), (3, .int y3)]) hx hb dur_So_solveUnit_19 hl (by decide) rfl (fun ls hl => ?_)
        refine lv_iload hx hb dur_So_solveUnit_21 (lv_at hl 0 rfl) ?_
        refine lv_iconst (v := (-1)) hx hb dur_So_solveUnit_23 (by decide) ?_
        refine lv_icmp_ne (tgt := 30) hx hb dur_So_solveUnit_24 (by decide) (fun c5 => ?_) (fun c5 => ?_)
        · have h := ob_f c5 h
          refine lv_aload_n hx hb dur_So_solveUnit_30 rfl (lv_at hl 2 rfl) ?_
          refine urg_So_26 hx hb hts hown hK hP dur_So_solveUnit_31 ?_
          refine lv_iload hx hb dur_So_solveUnit_34 (lv_at hl 0 rfl) ?_
          obtain ⟨hg6, h⟩ := ob_i h
          refine ur_gald1 hx hb hK hP hg6 dur_So_solveUnit_36 ?_
          refine lv_aload_n hx hb dur_So_solveUnit_37 rfl (lv_at hl 1 rfl) ?_
          refine urg_So_9 hx hb hts hown hK hP dur_So_solveUnit_38 ?_
          refine lv_iload hx hb dur_So_solveUnit_41 (lv_at hl 0 rfl) ?_
          obtain ⟨hi7, h⟩ := ob_i h
          refine ur_iald (i := 8) hx hb hK hP (by decide) rfl hi7 dur_So_solveUnit_43 ?_
          obtain ⟨hi8, h⟩ := ob_i h
          refine ur_iald (i := (q4.toNatClampNeg + 26)) hx hb hK hP (ur_glt1 hg6) (ur_gln1 hg6) hi8 dur_So_solveUnit_44 ?_
          refine lv_istore (lv' := [(5, .int (σ (q4.toNatClampNeg + 26) (σ 8 q4.toNatClampNeg).toNatClampNeg)), (4, .int q4), (0, .ref (a 2)), (1, .ref (a 1)), (2, .int y2), (3, .int y3)]) hx hb dur_So_solveUnit_45 hl (by decide) rfl (fun ls hl => ?_)
          refine lv_aload_n hx hb dur_So_solveUnit_47 rfl (lv_at hl 3 rfl) ?_
          refine urg_So_32 hx hb hts hown hK hP dur_So_solveUnit_48 ?_
          refine lv_iload hx hb dur_So_solveUnit_51 (lv_at hl 1 rfl) ?_
          obtain ⟨hg9, h⟩ := ob_i h
          refine ur_gald2 hx hb hK hP hg9 dur_So_solveUnit_53 ?_
          refine lv_aload_n hx hb dur_So_solveUnit_54 rfl (lv_at hl 2 rfl) ?_
          refine urg_So_9 hx hb hts hown hK hP dur_So_solveUnit_55 ?_
          refine lv_iload hx hb dur_So_solveUnit_58 (lv_at hl 1 rfl) ?_
          obtain ⟨hi10, h⟩ := ob_i h
          refine ur_iald (i := 8) hx hb hK hP (by decide) rfl hi10 dur_So_solveUnit_60 ?_
          obtain ⟨hi11, h⟩ := ob_i h
          refine ur_iald (i := (q4.toNatClampNeg + 38)) hx hb hK hP (ur_glt2 hg9) (ur_gln2 hg9) hi11 dur_So_solveUnit_61 ?_
          refine lv_istore (lv' := [(6, .int (σ (q4.toNatClampNeg + 38) (σ 8 q4.toNatClampNeg).toNatClampNeg)), (5, .int (σ (q4.toNatClampNeg + 26) (σ 8 q4.toNatClampNeg).toNatClampNeg)), (4, .int q4), (0, .ref (a 2)), (1, .ref (a 1)), (2, .int y2), (3, .int y3)]) hx hb dur_So_solveUnit_62 hl (by decide) rfl (fun ls hl => ?_)
          refine lv_iload hx hb dur_So_solveUnit_64 (lv_at hl 0 rfl) ?_
          refine lv_aload_n hx hb dur_So_solveUnit_66 rfl (lv_at hl 4 rfl) ?_
          refine lv_iload hx hb dur_So_solveUnit_67 (lv_at hl 1 rfl) ?_
          obtain ⟨q12, hq12, h⟩ := ob_b h
          refine ur_cv_ir (As := [.int (σ (q4.toNatClampNeg + 26) (σ 8 q4.toNatClampNeg).toNatClampNeg)]) (rest := [.int (σ (q4.toNatClampNeg + 38) (σ 8 q4.toNatClampNeg).toNatClampNeg)]) ⟨hx, hb, hml, hown, hts⟩ (cur_Nm_farthestAllowed l D a k hAd σ (σ (q4.toNatClampNeg + 26) (σ 8 q4.toNatClampNeg).toNatClampNeg)  q12 hq12) (urc_So_35 hts ⟨Nat.le_of_ble_eq_true rfl, Nat.le_of_ble_eq_true rfl⟩) (ur_rc1 hK hP) hK hP rfl hl.1 rfl (Nat.le_of_ble_eq_true rfl) dur_So_solveUnit_69 hS (fun H locs hP hS => ?_)
          refine lv_icmp_le (tgt := 81) hx hb dur_So_solveUnit_72 (by decide) (fun c13 => ?_) (fun c13 => ?_)
          · have h := ob_t c13 h
            refine lv_aload_n hx hb dur_So_solveUnit_81 rfl (lv_at hl 3 rfl) ?_
            refine urg_So_9 hx hb hts hown hK hP dur_So_solveUnit_82 ?_
            refine lv_iload hx hb dur_So_solveUnit_85 (lv_at hl 1 rfl) ?_
            refine lv_iload hx hb dur_So_solveUnit_87 (lv_at hl 0 rfl) ?_
            obtain ⟨hi14, h⟩ := ob_i h
            refine ur_iast (i := 8) hx hb hK hP hAd hS (by decide) rfl hi14 dur_So_solveUnit_89 (fun H locs hP hS => ?_)
            refine lv_iinc (v := (y3 + 1)) (lv' := [(3, .int (y3 + 1)), (6, .int (σ (q4.toNatClampNeg + 38) (σ 8 q4.toNatClampNeg).toNatClampNeg)), (5, .int (σ (q4.toNatClampNeg + 26) (σ 8 q4.toNatClampNeg).toNatClampNeg)), (4, .int q4), (0, .ref (a 2)), (1, .ref (a 1)), (2, .int y2)]) hx hb dur_So_solveUnit_90 hl (k := 6) rfl rfl (by decide) rfl (fun ls hl => ?_)
            refine lv_goto (tgt := 8) hx hb dur_So_solveUnit_93 (by decide) ?_
            exact ih (wr σ 8 (σ (q4.toNatClampNeg + 26) (σ 8 q4.toNatClampNeg).toNatClampNeg).toNatClampNeg (σ (q4.toNatClampNeg + 38) (σ 8 q4.toNatClampNeg).toNatClampNeg)) y2 (y3 + 1) _ _ _ h hP hS (lv_sub hl [4, 5, 6, 0] rfl)
          · have h := ob_f c13 h
            refine lv_bipush (v := (-2)) hx hb dur_So_solveUnit_75 (by decide) ?_
            refine lv_iload hx hb dur_So_solveUnit_77 (lv_at hl 1 rfl) ?_
            refine lv_isub hx hb dur_So_solveUnit_79 ?_
            exact W.iret (v := ((-2) - (σ (q4.toNatClampNeg + 26) (σ 8 q4.toNatClampNeg).toNatClampNeg))) hx hb hr (fun t ht hW => ⟨⟨((-2) - (σ (q4.toNatClampNeg + 26) (σ 8 q4.toNatClampNeg).toNatClampNeg)), σ, rfl, ob_r h, by rw [ht]; exact hP, va_K.moved hW.alike hK⟩, hS.F ht⟩) hS.2.2 dur_So_solveUnit_80
        · have h := ob_t c5 h
          refine lv_goto (tgt := 96) hx hb dur_So_solveUnit_27 (by decide) ?_
          refine lv_aload_n hx hb dur_So_solveUnit_96 rfl (lv_at hl 1 rfl) ?_
          refine lv_aload_n hx hb dur_So_solveUnit_97 rfl (lv_at hl 2 rfl) ?_
          obtain ⟨q15, hq15, h⟩ := ob_b h
          refine ur_cv_iw (As := [.ref (a 1)]) (rest := []) ⟨hx, hb, hml, hown, hts⟩ (cur_So_keepRaised l D a k hAd σ   q15 hq15) (urc_So_39 hts ⟨Nat.le_of_ble_eq_true rfl, Nat.le_of_ble_eq_true rfl⟩) (ur_rc2 hK hP) hK hP rfl hl.1 rfl (Nat.le_of_ble_eq_true rfl) dur_So_solveUnit_98 hS (fun H locs hP hS => ?_)
          exact W.iret (v := q15.1) hx hb hr (fun t ht hW => ⟨⟨q15.1, q15.2, rfl, ob_r h, by rw [ht]; exact hP, va_K.moved hW.alike hK⟩, hS.F ht⟩) hS.2.2 dur_So_solveUnit_101
  rw [urf_So_solveUnit] at h
  refine lv_aload_n hx hb dur_So_solveUnit_0 rfl (lv_at hl 0 rfl) ?_
  refine lv_aload_n hx hb dur_So_solveUnit_1 rfl (lv_at hl 1 rfl) ?_
  refine lv_iload_n hx hb dur_So_solveUnit_2 rfl (lv_at hl 2 rfl) ?_
  obtain ⟨q1, hq1, h⟩ := ob_b h
  refine ur_cv_v (As := [.ref (a 1), .int x2]) (rest := []) ⟨hx, hb, hml, hown, hts⟩ (cur_So_setOut l D a k hAd σ x2  q1 hq1) (urc_So_18 hts ⟨Nat.le_of_ble_eq_true rfl, Nat.le_of_ble_eq_true rfl⟩) (ur_rc2 hK hP) hK hP rfl hl.1 rfl (Nat.le_of_ble_eq_true rfl) dur_So_solveUnit_3 hS (fun H locs hP hS => ?_)
  refine lv_iconst (v := 0) hx hb dur_So_solveUnit_6 (by decide) ?_
  refine lv_istore_n (lv' := [(3, .int 0), (0, .ref (a 2)), (1, .ref (a 1)), (2, .int x2)]) hx hb dur_So_solveUnit_7 rfl hl (by decide) rfl (fun ls hl => ?_)
  exact lp8 200 q1 x2 0 _ _ _ h hP hS (lv_sub hl [1, 2, 3, 0] rfl)
set_option maxHeartbeats 4000000 in
set_option maxRecDepth 100000 in
theorem cur_Rb_solve (l : Launch) (D : va_G) (a : Nat → Nat) (k : Nat → ClassId) (hAd : ur_Ad a) (σ : ST) (x1 : Int32) (res : Int32 × ST) (h : urf_Rb_solve σ x1 = some res) : Met l ury_Rb_solve urs_Rb_solve urr_Rb_solve (ur_Pc D a k σ [.ref (a 0), .int x1]) (va_Qi (fun (r : Int32) (u : ST) => r = res.1 ∧ u = res.2) (ur_B D a k) (ur_A a)) 0 0 (ur_A a) := by
  refine Met.ofW (cc := urb_Rb_solve) (maxL := 2) (ret := (some .int)) (by decide) rfl ?_
  intro p e s m args below meth c s₁ B hml hv
  obtain ⟨rfl, hP, hK⟩ := hv
  have hx := B.exec
  have hb := B.bytes
  have hr := B.returns
  have hts : ∀ w ∈ ub_T, w.before _ s = true := fun w hw => atoms_spec (ws := urs_Rb_solve) B.pre w (List.mem_cons_of_mem _ hw)
  have hown : s.vm.findClass urR_Rb = some m.cls := findClass_of_methodNamed B.named
  have hlocks := B.notSynchronized
  have hS : va_S (ur_A a) s.heap s.heap [] := va_S.rf
  have hl := lv_entry ([.ref (a 0), .int x1]) (n := 2) (Nat.le_of_ble_eq_true rfl)
  rw [lg_entry_eq]
  generalize (lg_sl ([.ref (a 0), .int x1]) ++ List.replicate (2 - (lg_sl ([.ref (a 0), .int x1])).length) Slot.unset).toArray = ls at hl ⊢
  have hl : lv_has ls 2 [(0, .ref (a 0)), (1, .int x1)] := hl
  rw [urf_Rb_solve] at h
  refine lv_aload_n hx hb dur_Rb_solve_0 rfl (lv_at hl 0 rfl) ?_
  refine urg_Rb_25 hx hb hts hown hK hP dur_Rb_solve_1 ?_
  refine lv_iload_n hx hb dur_Rb_solve_4 rfl (lv_at hl 1 rfl) ?_
  obtain ⟨q1, hq1, h⟩ := ob_b h
  refine ur_cv_ir (As := [.int x1]) (rest := []) ⟨hx, hb, hml, hown, hts⟩ (cur_Nm_isChief l D a k hAd σ x1  q1 hq1) (urc_Rb_96 hts ⟨Nat.le_of_ble_eq_true rfl, Nat.le_of_ble_eq_true rfl⟩) (ur_rc1 hK hP) hK hP rfl hl.1 rfl (Nat.le_of_ble_eq_true rfl) dur_Rb_solve_5 hS (fun H locs hP hS => ?_)
  refine lv_if_eq (tgt := 26) hx hb dur_Rb_solve_8 (by decide) (fun c2 => ?_) (fun c2 => ?_)
  · have h := ob_t c2 h
    refine lv_iconst (v := (-1)) hx hb dur_Rb_solve_26 (by decide) ?_
    exact W.iret (v := (-1)) hx hb hr (fun t ht hW => ⟨⟨(-1), σ, rfl, ob_r h, by rw [ht]; exact hP, va_K.moved hW.alike hK⟩, hS.F ht⟩) hS.2.2 dur_Rb_solve_27
  · have h := ob_f c2 h
    refine lv_aload_n hx hb dur_Rb_solve_11 rfl (lv_at hl 0 rfl) ?_
    refine urg_Rb_32 hx hb hts hown hK hP dur_Rb_solve_12 ?_
    refine lv_aload_n hx hb dur_Rb_solve_15 rfl (lv_at hl 0 rfl) ?_
    refine urg_Rb_25 hx hb hts hown hK hP dur_Rb_solve_16 ?_
    refine lv_iload_n hx hb dur_Rb_solve_19 rfl (lv_at hl 1 rfl) ?_
    obtain ⟨q3, hq3, h⟩ := ob_b h
    refine ur_cv_iw (As := [.ref (a 1), .int x1]) (rest := []) ⟨hx, hb, hml, hown, hts⟩ (cur_So_solveUnit l D a k hAd σ x1  q3 hq3) (urc_Rb_99 hts ⟨Nat.le_of_ble_eq_true rfl, Nat.le_of_ble_eq_true rfl⟩) (ur_rc2 hK hP) hK hP rfl hl.1 rfl (Nat.le_of_ble_eq_true rfl) dur_Rb_solve_20 hS (fun H locs hP hS => ?_)
    refine lv_goto (tgt := 27) hx hb dur_Rb_solve_23 (by decide) ?_
    exact W.iret (v := q3.1) hx hb hr (fun t ht hW => ⟨⟨q3.1, q3.2, rfl, ob_r h, by rw [ht]; exact hP, va_K.moved hW.alike hK⟩, hS.F ht⟩) hS.2.2 dur_Rb_solve_27
set_option maxHeartbeats 4000000 in
set_option maxRecDepth 100000 in
theorem cur_Rb_tick (l : Launch) (D : va_G) (a : Nat → Nat) (k : Nat → ClassId) (hAd : ur_Ad a) (σ : ST) (x1 : Int32) (res : Int32 × ST) (h : urf_Rb_tick σ x1 = some res) : Met l ury_Rb_tick urs_Rb_tick urr_Rb_tick (ur_Pc D a k σ [.ref (a 0), .int x1]) (va_Qi (fun (r : Int32) (u : ST) => r = res.1 ∧ u = res.2) (ur_B D a k) (ur_A a)) 0 0 (ur_A a) := by
  refine Met.ofW (cc := urb_Rb_tick) (maxL := 2) (ret := (some .int)) (by decide) rfl ?_
  intro p e s m args below meth c s₁ B hml hv
  obtain ⟨rfl, hP, hK⟩ := hv
  have hx := B.exec
  have hb := B.bytes
  have hr := B.returns
  have hts : ∀ w ∈ ub_T, w.before _ s = true := fun w hw => atoms_spec (ws := urs_Rb_tick) B.pre w (List.mem_cons_of_mem _ hw)
  have hown : s.vm.findClass urR_Rb = some m.cls := findClass_of_methodNamed B.named
  have hlocks := B.notSynchronized
  have hS : va_S (ur_A a) s.heap s.heap [] := va_S.rf
  have hl := lv_entry ([.ref (a 0), .int x1]) (n := 2) (Nat.le_of_ble_eq_true rfl)
  rw [lg_entry_eq]
  generalize (lg_sl ([.ref (a 0), .int x1]) ++ List.replicate (2 - (lg_sl ([.ref (a 0), .int x1])).length) Slot.unset).toArray = ls at hl ⊢
  have hl : lv_has ls 2 [(0, .ref (a 0)), (1, .int x1)] := hl
  rw [urf_Rb_tick] at h
  refine lv_iload_n hx hb dur_Rb_tick_0 rfl (lv_at hl 1 rfl) ?_
  refine lv_if_lt (tgt := 21) hx hb dur_Rb_tick_1 (by decide) (fun c1 => ?_) (fun c1 => ?_)
  · have h := ob_t c1 h
    refine lv_iconst (v := (-1)) hx hb dur_Rb_tick_21 (by decide) ?_
    exact W.iret (v := (-1)) hx hb hr (fun t ht hW => ⟨⟨(-1), σ, rfl, ob_r h, by rw [ht]; exact hP, va_K.moved hW.alike hK⟩, hS.F ht⟩) hS.2.2 dur_Rb_tick_22
  · have h := ob_f c1 h
    refine lv_iload_n hx hb dur_Rb_tick_4 rfl (lv_at hl 1 rfl) ?_
    refine lv_ldc (v := 100000) hx hb hown (hts _ urw_Rb_103) dur_Rb_tick_5 ?_
    refine lv_icmp_gt (tgt := 21) hx hb dur_Rb_tick_7 (by decide) (fun c2 => ?_) (fun c2 => ?_)
    · have h := ob_t c2 h
      refine lv_iconst (v := (-1)) hx hb dur_Rb_tick_21 (by decide) ?_
      exact W.iret (v := (-1)) hx hb hr (fun t ht hW => ⟨⟨(-1), σ, rfl, ob_r h, by rw [ht]; exact hP, va_K.moved hW.alike hK⟩, hS.F ht⟩) hS.2.2 dur_Rb_tick_22
    · have h := ob_f c2 h
      refine lv_iload_n hx hb dur_Rb_tick_10 rfl (lv_at hl 1 rfl) ?_
      refine lv_ldc (v := 1000000000) hx hb hown (hts _ urw_Rb_104) dur_Rb_tick_11 ?_
      refine lv_aload_n hx hb dur_Rb_tick_13 rfl (lv_at hl 0 rfl) ?_
      refine urg_Rb_43 hx hb hts hown hK hP dur_Rb_tick_14 ?_
      refine lv_isub hx hb dur_Rb_tick_17 ?_
      refine lv_icmp_le (tgt := 23) hx hb dur_Rb_tick_18 (by decide) (fun c3 => ?_) (fun c3 => ?_)
      · have h := ob_t c3 h
        refine lv_aload_n hx hb dur_Rb_tick_23 rfl (lv_at hl 0 rfl) ?_
        refine lv_dup hx hb dur_Rb_tick_24 rfl ?_
        refine urg_Rb_43 hx hb hts hown hK hP dur_Rb_tick_25 ?_
        refine lv_iload_n hx hb dur_Rb_tick_28 rfl (lv_at hl 1 rfl) ?_
        refine lv_iadd hx hb dur_Rb_tick_29 ?_
        refine urp_Rb_43 hx hb hts hown hK hP hAd hS dur_Rb_tick_30 (fun H locs hP hS => ?_)
        refine lv_aload_n hx hb dur_Rb_tick_33 rfl (lv_at hl 0 rfl) ?_
        refine urg_Rb_43 hx hb hts hown hK hP dur_Rb_tick_34 ?_
        refine W.eq (g2 := F0 m 37 ls [.int ((σ 111 1) + x1)]) rfl ?_
        exact W.iret (v := ((σ 111 1) + x1)) hx hb hr (fun t ht hW => ⟨⟨((σ 111 1) + x1), (wr σ 111 1 ((σ 111 1) + x1)), rfl, ob_r h, by rw [ht]; exact hP, va_K.moved hW.alike hK⟩, hS.F ht⟩) hS.2.2 dur_Rb_tick_37
      · have h := ob_f c3 h
        refine lv_iconst (v := (-1)) hx hb dur_Rb_tick_21 (by decide) ?_
        exact W.iret (v := (-1)) hx hb hr (fun t ht hW => ⟨⟨(-1), σ, rfl, ob_r h, by rw [ht]; exact hP, va_K.moved hW.alike hK⟩, hS.F ht⟩) hS.2.2 dur_Rb_tick_22
set_option maxHeartbeats 4000000 in
set_option maxRecDepth 100000 in
theorem cur_Nm_isUnitHit (l : Launch) (D : va_G) (a : Nat → Nat) (k : Nat → ClassId) (hAd : ur_Ad a) (σ : ST) (x1 : Int32) (res : Int32) (h : urf_Nm_isUnitHit σ x1 = some res) : Met l ury_Nm_isUnitHit urs_Nm_isUnitHit urr_Nm_isUnitHit (ur_Pc D a k σ [.ref (a 1), .int x1]) (va_Qi (fun (r : Int32) (u : ST) => r = res ∧ u = σ) (ur_B D a k) (ur_A a)) 0 0 (ur_A a) := by
  refine Met.ofW (cc := urb_Nm_isUnitHit) (maxL := 3) (ret := (some .boolean)) (by decide) rfl ?_
  intro p e s m args below meth c s₁ B hml hv
  obtain ⟨rfl, hP, hK⟩ := hv
  have hx := B.exec
  have hb := B.bytes
  have hr := B.returns
  have hts : ∀ w ∈ ub_T, w.before _ s = true := fun w hw => atoms_spec (ws := urs_Nm_isUnitHit) B.pre w (List.mem_cons_of_mem _ hw)
  have hown : s.vm.findClass urR_Nm = some m.cls := findClass_of_methodNamed B.named
  have hlocks := B.notSynchronized
  have hS : va_S (ur_A a) s.heap s.heap [] := va_S.rf
  have hl := lv_entry ([.ref (a 1), .int x1]) (n := 3) (Nat.le_of_ble_eq_true rfl)
  rw [lg_entry_eq]
  generalize (lg_sl ([.ref (a 1), .int x1]) ++ List.replicate (3 - (lg_sl ([.ref (a 1), .int x1])).length) Slot.unset).toArray = ls at hl ⊢
  have hl : lv_has ls 3 [(0, .ref (a 1)), (1, .int x1)] := hl
  have lp2 : ∀ (n : Nat) (y1 : Int32) (y2 : Int32) (H : Heap) (locs : List Loc) (ls : Array Slot), url_Nm_isUnitHit_2 σ n y1 y2 = some res → ur_P D a k σ H → va_S (ur_A a) s.heap H locs → lv_has ls 3 [(0, .ref (a 1)), (1, .int y1), (2, .int y2)] → W p l e (headSpec urs_Nm_isUnitHit urr_Nm_isUnitHit).room s m (([.ref (a 1), .int x1] : List Value)).toArray below meth c H locs 0 0 (MQ below (va_Qi (fun (r : Int32) (u : ST) => r = res ∧ u = σ) (ur_B D a k) (ur_A a)) (([.ref (a 1), .int x1] : List Value)).toArray s 0 0 (ur_A a)) (F0 m 2 ls []) := by
    intro n
    induction n with
    | zero =>
      intro y1 y2 H locs ls h
      exact absurd h (fun z => by cases z)
    | succ n ih =>
      intro y1 y2 H locs ls h hP hS hl
      rw [url_Nm_isUnitHit_2] at h
      refine lv_iload_n hx hb dur_Nm_isUnitHit_2 rfl (lv_at hl 2 rfl) ?_
      refine lv_aload_n hx hb dur_Nm_isUnitHit_3 rfl (lv_at hl 0 rfl) ?_
      refine urg_Nm_9 hx hb hts hown hK hP dur_Nm_isUnitHit_4 ?_
      refine lv_icmp_ge (tgt := 35) hx hb dur_Nm_isUnitHit_7 (by decide) (fun c1 => ?_) (fun c1 => ?_)
      · have h := ob_t c1 h
        refine lv_iconst (v := 0) hx hb dur_Nm_isUnitHit_35 (by decide) ?_
        exact W.zret (ty := .boolean) (v := 0) hx hb hr rfl (fun t ht hW => ⟨⟨0, σ, rfl, ⟨Option.some.inj h, rfl⟩, by rw [ht]; exact hP, va_K.moved hW.alike hK⟩, hS.F ht⟩) hS.2.2 dur_Nm_isUnitHit_36
      · have h := ob_f c1 h
        refine lv_aload_n hx hb dur_Nm_isUnitHit_10 rfl (lv_at hl 0 rfl) ?_
        refine lv_iload_n hx hb dur_Nm_isUnitHit_11 rfl (lv_at hl 2 rfl) ?_
        obtain ⟨q2, hq2, h⟩ := ob_b h
        refine ur_cv_ir (As := [.int y2]) (rest := []) ⟨hx, hb, hml, hown, hts⟩ (cur_Nm_isHit l D a k hAd σ y2  q2 hq2) (urc_Nm_59 hts ⟨Nat.le_of_ble_eq_true rfl, Nat.le_of_ble_eq_true rfl⟩) (ur_rc1 hK hP) hK hP rfl hl.1 rfl (Nat.le_of_ble_eq_true rfl) dur_Nm_isUnitHit_12 hS (fun H locs hP hS => ?_)
        refine lv_if_eq (tgt := 29) hx hb dur_Nm_isUnitHit_15 (by decide) (fun c3 => ?_) (fun c3 => ?_)
        · have h := ob_t c3 h
          refine lv_iinc (v := (y2 + 1)) (lv' := [(2, .int (y2 + 1)), (0, .ref (a 1)), (1, .int y1)]) hx hb dur_Nm_isUnitHit_29 hl (k := 2) rfl rfl (by decide) rfl (fun ls hl => ?_)
          refine lv_goto (tgt := 2) hx hb dur_Nm_isUnitHit_32 (by decide) ?_
          exact ih y1 (y2 + 1) _ _ _ h hP hS (lv_sub hl [1, 2, 0] rfl)
        · have h := ob_f c3 h
          refine lv_aload_n hx hb dur_Nm_isUnitHit_18 rfl (lv_at hl 0 rfl) ?_
          refine lv_iload_n hx hb dur_Nm_isUnitHit_19 rfl (lv_at hl 2 rfl) ?_
          obtain ⟨q4, hq4, h⟩ := ob_b h
          refine ur_cv_ir (As := [.int y2]) (rest := []) ⟨hx, hb, hml, hown, hts⟩ (cur_Nm_chiefOf l D a k hAd σ y2  q4 hq4) (urc_Nm_62 hts ⟨Nat.le_of_ble_eq_true rfl, Nat.le_of_ble_eq_true rfl⟩) (ur_rc1 hK hP) hK hP rfl hl.1 rfl (Nat.le_of_ble_eq_true rfl) dur_Nm_isUnitHit_20 hS (fun H locs hP hS => ?_)
          refine lv_iload_n hx hb dur_Nm_isUnitHit_23 rfl (lv_at hl 1 rfl) ?_
          refine lv_icmp_ne (tgt := 29) hx hb dur_Nm_isUnitHit_24 (by decide) (fun c5 => ?_) (fun c5 => ?_)
          · have h := ob_f c5 h
            refine lv_iinc (v := (y2 + 1)) (lv' := [(2, .int (y2 + 1)), (0, .ref (a 1)), (1, .int y1)]) hx hb dur_Nm_isUnitHit_29 hl (k := 2) rfl rfl (by decide) rfl (fun ls hl => ?_)
            refine lv_goto (tgt := 2) hx hb dur_Nm_isUnitHit_32 (by decide) ?_
            exact ih y1 (y2 + 1) _ _ _ h hP hS (lv_sub hl [1, 2, 0] rfl)
          · have h := ob_t c5 h
            refine lv_iconst (v := 1) hx hb dur_Nm_isUnitHit_27 (by decide) ?_
            exact W.zret (ty := .boolean) (v := 1) hx hb hr rfl (fun t ht hW => ⟨⟨1, σ, rfl, ⟨Option.some.inj h, rfl⟩, by rw [ht]; exact hP, va_K.moved hW.alike hK⟩, hS.F ht⟩) hS.2.2 dur_Nm_isUnitHit_28
  rw [urf_Nm_isUnitHit] at h
  refine lv_iconst (v := 0) hx hb dur_Nm_isUnitHit_0 (by decide) ?_
  refine lv_istore_n (lv' := [(2, .int 0), (0, .ref (a 1)), (1, .int x1)]) hx hb dur_Nm_isUnitHit_1 rfl hl (by decide) rfl (fun ls hl => ?_)
  exact lp2 200 x1 0 _ _ _ h hP hS (lv_sub hl [1, 2, 0] rfl)
set_option maxHeartbeats 4000000 in
set_option maxRecDepth 100000 in
theorem cur_Nm_leastEvery (l : Launch) (D : va_G) (a : Nat → Nat) (k : Nat → ClassId) (hAd : ur_Ad a) (σ : ST) (x1 : Int32) (res : Int32) (h : urf_Nm_leastEvery σ x1 = some res) : Met l ury_Nm_leastEvery urs_Nm_leastEvery urr_Nm_leastEvery (ur_Pc D a k σ [.ref (a 1), .int x1]) (va_Qi (fun (r : Int32) (u : ST) => r = res ∧ u = σ) (ur_B D a k) (ur_A a)) 0 0 (ur_A a) := by
  refine Met.ofW (cc := urb_Nm_leastEvery) (maxL := 4) (ret := (some .int)) (by decide) rfl ?_
  intro p e s m args below meth c s₁ B hml hv
  obtain ⟨rfl, hP, hK⟩ := hv
  have hx := B.exec
  have hb := B.bytes
  have hr := B.returns
  have hts : ∀ w ∈ ub_T, w.before _ s = true := fun w hw => atoms_spec (ws := urs_Nm_leastEvery) B.pre w (List.mem_cons_of_mem _ hw)
  have hown : s.vm.findClass urR_Nm = some m.cls := findClass_of_methodNamed B.named
  have hlocks := B.notSynchronized
  have hS : va_S (ur_A a) s.heap s.heap [] := va_S.rf
  have hl := lv_entry ([.ref (a 1), .int x1]) (n := 4) (Nat.le_of_ble_eq_true rfl)
  rw [lg_entry_eq]
  generalize (lg_sl ([.ref (a 1), .int x1]) ++ List.replicate (4 - (lg_sl ([.ref (a 1), .int x1])).length) Slot.unset).toArray = ls at hl ⊢
  have hl : lv_has ls 4 [(0, .ref (a 1)), (1, .int x1)] := hl
  have lp6 : ∀ (n : Nat) (y1 : Int32) (y2 : Int32) (y3 : Int32) (H : Heap) (locs : List Loc) (ls : Array Slot), url_Nm_leastEvery_6 σ n y1 y2 y3 = some res → ur_P D a k σ H → va_S (ur_A a) s.heap H locs → lv_has ls 4 [(0, .ref (a 1)), (1, .int y1), (2, .int y2), (3, .int y3)] → W p l e (headSpec urs_Nm_leastEvery urr_Nm_leastEvery).room s m (([.ref (a 1), .int x1] : List Value)).toArray below meth c H locs 0 0 (MQ below (va_Qi (fun (r : Int32) (u : ST) => r = res ∧ u = σ) (ur_B D a k) (ur_A a)) (([.ref (a 1), .int x1] : List Value)).toArray s 0 0 (ur_A a)) (F0 m 6 ls []) := by
    intro n
    induction n with
    | zero =>
      intro y1 y2 y3 H locs ls h
      exact absurd h (fun z => by cases z)
    | succ n ih =>
      intro y1 y2 y3 H locs ls h hP hS hl
      rw [url_Nm_leastEvery_6] at h
      refine lv_iload_n hx hb dur_Nm_leastEvery_6 rfl (lv_at hl 3 rfl) ?_
      refine lv_aload_n hx hb dur_Nm_leastEvery_7 rfl (lv_at hl 0 rfl) ?_
      refine urg_Nm_9 hx hb hts hown hK hP dur_Nm_leastEvery_8 ?_
      refine lv_icmp_ge (tgt := 40) hx hb dur_Nm_leastEvery_11 (by decide) (fun c1 => ?_) (fun c1 => ?_)
      · have h := ob_t c1 h
        refine lv_iload_n hx hb dur_Nm_leastEvery_40 rfl (lv_at hl 2 rfl) ?_
        exact W.iret (v := y2) hx hb hr (fun t ht hW => ⟨⟨y2, σ, rfl, ⟨Option.some.inj h, rfl⟩, by rw [ht]; exact hP, va_K.moved hW.alike hK⟩, hS.F ht⟩) hS.2.2 dur_Nm_leastEvery_41
      · have h := ob_f c1 h
        refine lv_aload_n hx hb dur_Nm_leastEvery_14 rfl (lv_at hl 0 rfl) ?_
        refine lv_iload_n hx hb dur_Nm_leastEvery_15 rfl (lv_at hl 3 rfl) ?_
        obtain ⟨q2, hq2, h⟩ := ob_b h
        refine ur_cv_ir (As := [.int y3]) (rest := []) ⟨hx, hb, hml, hown, hts⟩ (cur_Nm_chiefOf l D a k hAd σ y3  q2 hq2) (urc_Nm_62 hts ⟨Nat.le_of_ble_eq_true rfl, Nat.le_of_ble_eq_true rfl⟩) (ur_rc1 hK hP) hK hP rfl hl.1 rfl (Nat.le_of_ble_eq_true rfl) dur_Nm_leastEvery_16 hS (fun H locs hP hS => ?_)
        refine lv_iload_n hx hb dur_Nm_leastEvery_19 rfl (lv_at hl 1 rfl) ?_
        refine lv_icmp_ne (tgt := 34) hx hb dur_Nm_leastEvery_20 (by decide) (fun c3 => ?_) (fun c3 => ?_)
        · have h := ob_f c3 h
          refine lv_iinc (v := (y3 + 1)) (lv' := [(3, .int (y3 + 1)), (0, .ref (a 1)), (1, .int y1), (2, .int y2)]) hx hb dur_Nm_leastEvery_34 hl (k := 3) rfl rfl (by decide) rfl (fun ls hl => ?_)
          refine lv_goto (tgt := 6) hx hb dur_Nm_leastEvery_37 (by decide) ?_
          exact ih y1 y2 (y3 + 1) _ _ _ h hP hS (lv_sub hl [1, 2, 3, 0] rfl)
        · have h := ob_t c3 h
          refine lv_iload_n hx hb dur_Nm_leastEvery_23 rfl (lv_at hl 2 rfl) ?_
          refine lv_aload_n hx hb dur_Nm_leastEvery_24 rfl (lv_at hl 0 rfl) ?_
          refine urg_Nm_28 hx hb hts hown hK hP dur_Nm_leastEvery_25 ?_
          refine lv_iload_n hx hb dur_Nm_leastEvery_28 rfl (lv_at hl 3 rfl) ?_
          obtain ⟨hi4, h⟩ := ob_i h
          refine ur_iald (i := 4) hx hb hK hP (by decide) rfl hi4 dur_Nm_leastEvery_29 ?_
          refine va_mmin hx hb (hml.trans hl.1.symm) hown (hts _ urw_Nm_65) (hts _ ub_w_min_s) (hts _ ub_w_Math_i) (hts _ ub_w_min_c) (Nat.le_of_ble_eq_true rfl) (Nat.le_of_ble_eq_true rfl) (Nat.zero_le _) (Nat.zero_le _) dur_Nm_leastEvery_30 ?_
          refine lv_istore_n (lv' := [(2, .int (if (σ 4 y3.toNatClampNeg) < y2 then (σ 4 y3.toNatClampNeg) else y2)), (0, .ref (a 1)), (1, .int y1), (3, .int y3)]) hx hb dur_Nm_leastEvery_33 rfl hl (by decide) rfl (fun ls hl => ?_)
          refine lv_iinc (v := (y3 + 1)) (lv' := [(3, .int (y3 + 1)), (2, .int (if (σ 4 y3.toNatClampNeg) < y2 then (σ 4 y3.toNatClampNeg) else y2)), (0, .ref (a 1)), (1, .int y1)]) hx hb dur_Nm_leastEvery_34 hl (k := 3) rfl rfl (by decide) rfl (fun ls hl => ?_)
          refine lv_goto (tgt := 6) hx hb dur_Nm_leastEvery_37 (by decide) ?_
          exact ih y1 (if (σ 4 y3.toNatClampNeg) < y2 then (σ 4 y3.toNatClampNeg) else y2) (y3 + 1) _ _ _ h hP hS (lv_sub hl [2, 3, 1, 0] rfl)
  rw [urf_Nm_leastEvery] at h
  refine lv_sipush (v := 1000) hx hb dur_Nm_leastEvery_0 (by decide) ?_
  refine lv_istore_n (lv' := [(2, .int 1000), (0, .ref (a 1)), (1, .int x1)]) hx hb dur_Nm_leastEvery_3 rfl hl (by decide) rfl (fun ls hl => ?_)
  refine lv_iconst (v := 0) hx hb dur_Nm_leastEvery_4 (by decide) ?_
  refine lv_istore_n (lv' := [(3, .int 0), (2, .int 1000), (0, .ref (a 1)), (1, .int x1)]) hx hb dur_Nm_leastEvery_5 rfl hl (by decide) rfl (fun ls hl => ?_)
  exact lp6 200 x1 1000 0 _ _ _ h hP hS (lv_sub hl [2, 3, 1, 0] rfl)
set_option maxHeartbeats 4000000 in
set_option maxRecDepth 100000 in
theorem cur_Rb_isDue (l : Launch) (D : va_G) (a : Nat → Nat) (k : Nat → ClassId) (hAd : ur_Ad a) (σ : ST) (x1 : Int32) (res : Int32) (h : urf_Rb_isDue σ x1 = some res) : Met l ury_Rb_isDue urs_Rb_isDue urr_Rb_isDue (ur_Pc D a k σ [.ref (a 0), .int x1]) (va_Qi (fun (r : Int32) (u : ST) => r = res ∧ u = σ) (ur_B D a k) (ur_A a)) 0 0 (ur_A a) := by
  refine Met.ofW (cc := urb_Rb_isDue) (maxL := 3) (ret := (some .boolean)) (by decide) rfl ?_
  intro p e s m args below meth c s₁ B hml hv
  obtain ⟨rfl, hP, hK⟩ := hv
  have hx := B.exec
  have hb := B.bytes
  have hr := B.returns
  have hts : ∀ w ∈ ub_T, w.before _ s = true := fun w hw => atoms_spec (ws := urs_Rb_isDue) B.pre w (List.mem_cons_of_mem _ hw)
  have hown : s.vm.findClass urR_Rb = some m.cls := findClass_of_methodNamed B.named
  have hlocks := B.notSynchronized
  have hS : va_S (ur_A a) s.heap s.heap [] := va_S.rf
  have hl := lv_entry ([.ref (a 0), .int x1]) (n := 3) (Nat.le_of_ble_eq_true rfl)
  rw [lg_entry_eq]
  generalize (lg_sl ([.ref (a 0), .int x1]) ++ List.replicate (3 - (lg_sl ([.ref (a 0), .int x1])).length) Slot.unset).toArray = ls at hl ⊢
  have hl : lv_has ls 3 [(0, .ref (a 0)), (1, .int x1)] := hl
  rw [urf_Rb_isDue] at h
  refine lv_aload_n hx hb dur_Rb_isDue_0 rfl (lv_at hl 0 rfl) ?_
  refine urg_Rb_25 hx hb hts hown hK hP dur_Rb_isDue_1 ?_
  refine urg_Rb_112 hx hb hts hown hK hP dur_Rb_isDue_4 ?_
  refine lv_iload_n hx hb dur_Rb_isDue_7 rfl (lv_at hl 1 rfl) ?_
  obtain ⟨hi1, h⟩ := ob_i h
  refine ur_iald (i := 7) hx hb hK hP (by decide) rfl hi1 dur_Rb_isDue_8 ?_
  refine lv_istore_n (lv' := [(2, .int (σ 7 x1.toNatClampNeg)), (0, .ref (a 0)), (1, .int x1)]) hx hb dur_Rb_isDue_9 rfl hl (by decide) rfl (fun ls hl => ?_)
  refine lv_iload_n hx hb dur_Rb_isDue_10 rfl (lv_at hl 0 rfl) ?_
  refine lv_iconst (v := (-1)) hx hb dur_Rb_isDue_11 (by decide) ?_
  refine lv_icmp_eq (tgt := 43) hx hb dur_Rb_isDue_12 (by decide) (fun c2 => ?_) (fun c2 => ?_)
  · have h := ob_t c2 h
    refine lv_iconst (v := 1) hx hb dur_Rb_isDue_43 (by decide) ?_
    refine lv_goto (tgt := 48) hx hb dur_Rb_isDue_44 (by decide) ?_
    exact W.zret (ty := .boolean) (v := 1) hx hb hr rfl (fun t ht hW => ⟨⟨1, σ, rfl, ⟨Option.some.inj h, rfl⟩, by rw [ht]; exact hP, va_K.moved hW.alike hK⟩, hS.F ht⟩) hS.2.2 dur_Rb_isDue_48
  · have h := ob_f c2 h
    refine lv_aload_n hx hb dur_Rb_isDue_15 rfl (lv_at hl 1 rfl) ?_
    refine urg_Rb_25 hx hb hts hown hK hP dur_Rb_isDue_16 ?_
    refine lv_iload_n hx hb dur_Rb_isDue_19 rfl (lv_at hl 2 rfl) ?_
    obtain ⟨q3, hq3, h⟩ := ob_b h
    refine ur_cv_ir (As := [.int x1]) (rest := []) ⟨hx, hb, hml, hown, hts⟩ (cur_Nm_isUnitHit l D a k hAd σ x1  q3 hq3) (urc_Rb_152 hts ⟨Nat.le_of_ble_eq_true rfl, Nat.le_of_ble_eq_true rfl⟩) (ur_rc1 hK hP) hK hP rfl hl.1 rfl (Nat.le_of_ble_eq_true rfl) dur_Rb_isDue_20 hS (fun H locs hP hS => ?_)
    refine lv_if_ne (tgt := 43) hx hb dur_Rb_isDue_23 (by decide) (fun c4 => ?_) (fun c4 => ?_)
    · have h := ob_f c4 h
      refine lv_iconst (v := 1) hx hb dur_Rb_isDue_43 (by decide) ?_
      refine lv_goto (tgt := 48) hx hb dur_Rb_isDue_44 (by decide) ?_
      exact W.zret (ty := .boolean) (v := 1) hx hb hr rfl (fun t ht hW => ⟨⟨1, σ, rfl, ⟨Option.some.inj h, rfl⟩, by rw [ht]; exact hP, va_K.moved hW.alike hK⟩, hS.F ht⟩) hS.2.2 dur_Rb_isDue_48
    · have h := ob_t c4 h
      refine lv_aload_n hx hb dur_Rb_isDue_26 rfl (lv_at hl 1 rfl) ?_
      refine urg_Rb_43 hx hb hts hown hK hP dur_Rb_isDue_27 ?_
      refine lv_iload_n hx hb dur_Rb_isDue_30 rfl (lv_at hl 0 rfl) ?_
      refine lv_isub hx hb dur_Rb_isDue_31 ?_
      refine lv_aload_n hx hb dur_Rb_isDue_32 rfl (lv_at hl 1 rfl) ?_
      refine urg_Rb_25 hx hb hts hown hK hP dur_Rb_isDue_33 ?_
      refine lv_iload_n hx hb dur_Rb_isDue_36 rfl (lv_at hl 2 rfl) ?_
      obtain ⟨q5, hq5, h⟩ := ob_b h
      refine ur_cv_ir (As := [.int x1]) (rest := [.int ((σ 111 1) - (σ 7 x1.toNatClampNeg))]) ⟨hx, hb, hml, hown, hts⟩ (cur_Nm_leastEvery l D a k hAd σ x1  q5 hq5) (urc_Rb_155 hts ⟨Nat.le_of_ble_eq_true rfl, Nat.le_of_ble_eq_true rfl⟩) (ur_rc1 hK hP) hK hP rfl hl.1 rfl (Nat.le_of_ble_eq_true rfl) dur_Rb_isDue_37 hS (fun H locs hP hS => ?_)
      refine lv_icmp_lt (tgt := 47) hx hb dur_Rb_isDue_40 (by decide) (fun c6 => ?_) (fun c6 => ?_)
      · have h := ob_t c6 h
        refine lv_iconst (v := 0) hx hb dur_Rb_isDue_47 (by decide) ?_
        exact W.zret (ty := .boolean) (v := 0) hx hb hr rfl (fun t ht hW => ⟨⟨0, σ, rfl, ⟨Option.some.inj h, rfl⟩, by rw [ht]; exact hP, va_K.moved hW.alike hK⟩, hS.F ht⟩) hS.2.2 dur_Rb_isDue_48
      · have h := ob_f c6 h
        refine lv_iconst (v := 1) hx hb dur_Rb_isDue_43 (by decide) ?_
        refine lv_goto (tgt := 48) hx hb dur_Rb_isDue_44 (by decide) ?_
        exact W.zret (ty := .boolean) (v := 1) hx hb hr rfl (fun t ht hW => ⟨⟨1, σ, rfl, ⟨Option.some.inj h, rfl⟩, by rw [ht]; exact hP, va_K.moved hW.alike hK⟩, hS.F ht⟩) hS.2.2 dur_Rb_isDue_48
set_option maxHeartbeats 4000000 in
set_option maxRecDepth 100000 in
theorem cur_Pr_latestOf (l : Launch) (D : va_G) (a : Nat → Nat) (k : Nat → ClassId) (hAd : ur_Ad a) (σ : ST) (x1 : Int32) (x2 : Int32) (res : Int32) (h : urf_Pr_latestOf σ x1 x2 = some res) : Met l ury_Pr_latestOf urs_Pr_latestOf urr_Pr_latestOf (ur_Pc D a k σ [.ref (a 3), .int x1, .int x2]) (va_Qi (fun (r : Int32) (u : ST) => r = res ∧ u = σ) (ur_B D a k) (ur_A a)) 0 0 (ur_A a) := by
  refine Met.ofW (cc := urb_Pr_latestOf) (maxL := 4) (ret := (some .int)) (by decide) rfl ?_
  intro p e s m args below meth c s₁ B hml hv
  obtain ⟨rfl, hP, hK⟩ := hv
  have hx := B.exec
  have hb := B.bytes
  have hr := B.returns
  have hts : ∀ w ∈ ub_T, w.before _ s = true := fun w hw => atoms_spec (ws := urs_Pr_latestOf) B.pre w (List.mem_cons_of_mem _ hw)
  have hown : s.vm.findClass urR_Pr = some m.cls := findClass_of_methodNamed B.named
  have hlocks := B.notSynchronized
  have hS : va_S (ur_A a) s.heap s.heap [] := va_S.rf
  have hl := lv_entry ([.ref (a 3), .int x1, .int x2]) (n := 4) (Nat.le_of_ble_eq_true rfl)
  rw [lg_entry_eq]
  generalize (lg_sl ([.ref (a 3), .int x1, .int x2]) ++ List.replicate (4 - (lg_sl ([.ref (a 3), .int x1, .int x2])).length) Slot.unset).toArray = ls at hl ⊢
  have hl : lv_has ls 4 [(0, .ref (a 3)), (1, .int x1), (2, .int x2)] := hl
  have lp7 : ∀ (n : Nat) (y1 : Int32) (y2 : Int32) (y3 : Int32) (H : Heap) (locs : List Loc) (ls : Array Slot), url_Pr_latestOf_7 σ n y1 y2 y3 = some res → ur_P D a k σ H → va_S (ur_A a) s.heap H locs → lv_has ls 4 [(0, .ref (a 3)), (1, .int y1), (2, .int y2), (3, .int y3)] → W p l e (headSpec urs_Pr_latestOf urr_Pr_latestOf).room s m (([.ref (a 3), .int x1, .int x2] : List Value)).toArray below meth c H locs 0 0 (MQ below (va_Qi (fun (r : Int32) (u : ST) => r = res ∧ u = σ) (ur_B D a k) (ur_A a)) (([.ref (a 3), .int x1, .int x2] : List Value)).toArray s 0 0 (ur_A a)) (F0 m 7 ls []) := by
    intro n
    induction n with
    | zero =>
      intro y1 y2 y3 H locs ls h
      exact absurd h (fun z => by cases z)
    | succ n ih =>
      intro y1 y2 y3 H locs ls h hP hS hl
      rw [url_Pr_latestOf_7] at h
      refine lv_iload_n hx hb dur_Pr_latestOf_7 rfl (lv_at hl 3 rfl) ?_
      refine lv_if_lt (tgt := 39) hx hb dur_Pr_latestOf_8 (by decide) (fun c1 => ?_) (fun c1 => ?_)
      · have h := ob_t c1 h
        refine lv_iconst (v := (-1)) hx hb dur_Pr_latestOf_39 (by decide) ?_
        exact W.iret (v := (-1)) hx hb hr (fun t ht hW => ⟨⟨(-1), σ, rfl, ⟨Option.some.inj h, rfl⟩, by rw [ht]; exact hP, va_K.moved hW.alike hK⟩, hS.F ht⟩) hS.2.2 dur_Pr_latestOf_40
      · have h := ob_f c1 h
        refine lv_aload_n hx hb dur_Pr_latestOf_11 rfl (lv_at hl 0 rfl) ?_
        refine urg_Pr_19 hx hb hts hown hK hP dur_Pr_latestOf_12 ?_
        refine lv_iload_n hx hb dur_Pr_latestOf_15 rfl (lv_at hl 3 rfl) ?_
        obtain ⟨hi2, h⟩ := ob_i h
        refine ur_iald (i := 11) hx hb hK hP (by decide) rfl hi2 dur_Pr_latestOf_16 ?_
        refine lv_iload_n hx hb dur_Pr_latestOf_17 rfl (lv_at hl 1 rfl) ?_
        refine lv_icmp_ne (tgt := 33) hx hb dur_Pr_latestOf_18 (by decide) (fun c3 => ?_) (fun c3 => ?_)
        · have h := ob_f c3 h
          refine lv_iinc (v := (y3 + (-1))) (lv' := [(3, .int (y3 + (-1))), (0, .ref (a 3)), (1, .int y1), (2, .int y2)]) hx hb dur_Pr_latestOf_33 hl (k := 3) rfl rfl (by decide) rfl (fun ls hl => ?_)
          refine lv_goto (tgt := 7) hx hb dur_Pr_latestOf_36 (by decide) ?_
          exact ih y1 y2 (y3 + (-1)) _ _ _ h hP hS (lv_sub hl [1, 2, 3, 0] rfl)
        · have h := ob_t c3 h
          refine lv_aload_n hx hb dur_Pr_latestOf_21 rfl (lv_at hl 0 rfl) ?_
          refine urg_Pr_15 hx hb hts hown hK hP dur_Pr_latestOf_22 ?_
          refine lv_iload_n hx hb dur_Pr_latestOf_25 rfl (lv_at hl 3 rfl) ?_
          obtain ⟨hi4, h⟩ := ob_i h
          refine ur_iald (i := 10) hx hb hK hP (by decide) rfl hi4 dur_Pr_latestOf_26 ?_
          refine lv_iload_n hx hb dur_Pr_latestOf_27 rfl (lv_at hl 2 rfl) ?_
          refine lv_icmp_ne (tgt := 33) hx hb dur_Pr_latestOf_28 (by decide) (fun c5 => ?_) (fun c5 => ?_)
          · have h := ob_f c5 h
            refine lv_iinc (v := (y3 + (-1))) (lv' := [(3, .int (y3 + (-1))), (0, .ref (a 3)), (1, .int y1), (2, .int y2)]) hx hb dur_Pr_latestOf_33 hl (k := 3) rfl rfl (by decide) rfl (fun ls hl => ?_)
            refine lv_goto (tgt := 7) hx hb dur_Pr_latestOf_36 (by decide) ?_
            exact ih y1 y2 (y3 + (-1)) _ _ _ h hP hS (lv_sub hl [1, 2, 3, 0] rfl)
          · have h := ob_t c5 h
            refine lv_iload_n hx hb dur_Pr_latestOf_31 rfl (lv_at hl 3 rfl) ?_
            exact W.iret (v := y3) hx hb hr (fun t ht hW => ⟨⟨y3, σ, rfl, ⟨Option.some.inj h, rfl⟩, by rw [ht]; exact hP, va_K.moved hW.alike hK⟩, hS.F ht⟩) hS.2.2 dur_Pr_latestOf_32
  rw [urf_Pr_latestOf] at h
  refine lv_aload_n hx hb dur_Pr_latestOf_0 rfl (lv_at hl 0 rfl) ?_
  refine urg_Pr_9 hx hb hts hown hK hP dur_Pr_latestOf_1 ?_
  refine lv_iconst (v := 1) hx hb dur_Pr_latestOf_4 (by decide) ?_
  refine lv_isub hx hb dur_Pr_latestOf_5 ?_
  refine lv_istore_n (lv' := [(3, .int ((σ 111 4) - 1)), (0, .ref (a 3)), (1, .int x1), (2, .int x2)]) hx hb dur_Pr_latestOf_6 rfl hl (by decide) rfl (fun ls hl => ?_)
  exact lp7 200 x1 x2 ((σ 111 4) - 1) _ _ _ h hP hS (lv_sub hl [1, 2, 3, 0] rfl)
set_option maxHeartbeats 4000000 in
set_option maxRecDepth 100000 in
theorem cur_Pr_openOf (l : Launch) (D : va_G) (a : Nat → Nat) (k : Nat → ClassId) (hAd : ur_Ad a) (σ : ST) (x1 : Int32) (res : Int32) (h : urf_Pr_openOf σ x1 = some res) : Met l ury_Pr_openOf urs_Pr_openOf urr_Pr_openOf (ur_Pc D a k σ [.ref (a 3), .int x1]) (va_Qi (fun (r : Int32) (u : ST) => r = res ∧ u = σ) (ur_B D a k) (ur_A a)) 0 0 (ur_A a) := by
  refine Met.ofW (cc := urb_Pr_openOf) (maxL := 2) (ret := (some .int)) (by decide) rfl ?_
  intro p e s m args below meth c s₁ B hml hv
  obtain ⟨rfl, hP, hK⟩ := hv
  have hx := B.exec
  have hb := B.bytes
  have hr := B.returns
  have hts : ∀ w ∈ ub_T, w.before _ s = true := fun w hw => atoms_spec (ws := urs_Pr_openOf) B.pre w (List.mem_cons_of_mem _ hw)
  have hown : s.vm.findClass urR_Pr = some m.cls := findClass_of_methodNamed B.named
  have hlocks := B.notSynchronized
  have hS : va_S (ur_A a) s.heap s.heap [] := va_S.rf
  have hl := lv_entry ([.ref (a 3), .int x1]) (n := 2) (Nat.le_of_ble_eq_true rfl)
  rw [lg_entry_eq]
  generalize (lg_sl ([.ref (a 3), .int x1]) ++ List.replicate (2 - (lg_sl ([.ref (a 3), .int x1])).length) Slot.unset).toArray = ls at hl ⊢
  have hl : lv_has ls 2 [(0, .ref (a 3)), (1, .int x1)] := hl
  rw [urf_Pr_openOf] at h
  refine lv_aload_n hx hb dur_Pr_openOf_0 rfl (lv_at hl 0 rfl) ?_
  refine lv_iload_n hx hb dur_Pr_openOf_1 rfl (lv_at hl 1 rfl) ?_
  refine lv_iconst (v := 0) hx hb dur_Pr_openOf_2 (by decide) ?_
  obtain ⟨q1, hq1, h⟩ := ob_b h
  refine ur_cv_ir (As := [.int x1, .int 0]) (rest := []) ⟨hx, hb, hml, hown, hts⟩ (cur_Pr_latestOf l D a k hAd σ x1 0  q1 hq1) (urc_Pr_49 hts ⟨Nat.le_of_ble_eq_true rfl, Nat.le_of_ble_eq_true rfl⟩) (ur_rc3 hK hP) hK hP rfl hl.1 rfl (Nat.le_of_ble_eq_true rfl) dur_Pr_openOf_3 hS (fun H locs hP hS => ?_)
  exact W.iret (v := q1) hx hb hr (fun t ht hW => ⟨⟨q1, σ, rfl, ⟨Option.some.inj h, rfl⟩, by rw [ht]; exact hP, va_K.moved hW.alike hK⟩, hS.F ht⟩) hS.2.2 dur_Pr_openOf_6
set_option maxHeartbeats 4000000 in
set_option maxRecDepth 100000 in
theorem cur_Pr_isKnown (l : Launch) (D : va_G) (a : Nat → Nat) (k : Nat → ClassId) (hAd : ur_Ad a) (σ : ST) (x1 : Int32) (res : Int32) (h : urf_Pr_isKnown σ x1 = some res) : Met l ury_Pr_isKnown urs_Pr_isKnown urr_Pr_isKnown (ur_Pc D a k σ [.ref (a 3), .int x1]) (va_Qi (fun (r : Int32) (u : ST) => r = res ∧ u = σ) (ur_B D a k) (ur_A a)) 0 0 (ur_A a) := by
  refine Met.ofW (cc := urb_Pr_isKnown) (maxL := 2) (ret := (some .boolean)) (by decide) rfl ?_
  intro p e s m args below meth c s₁ B hml hv
  obtain ⟨rfl, hP, hK⟩ := hv
  have hx := B.exec
  have hb := B.bytes
  have hr := B.returns
  have hts : ∀ w ∈ ub_T, w.before _ s = true := fun w hw => atoms_spec (ws := urs_Pr_isKnown) B.pre w (List.mem_cons_of_mem _ hw)
  have hown : s.vm.findClass urR_Pr = some m.cls := findClass_of_methodNamed B.named
  have hlocks := B.notSynchronized
  have hS : va_S (ur_A a) s.heap s.heap [] := va_S.rf
  have hl := lv_entry ([.ref (a 3), .int x1]) (n := 2) (Nat.le_of_ble_eq_true rfl)
  rw [lg_entry_eq]
  generalize (lg_sl ([.ref (a 3), .int x1]) ++ List.replicate (2 - (lg_sl ([.ref (a 3), .int x1])).length) Slot.unset).toArray = ls at hl ⊢
  have hl : lv_has ls 2 [(0, .ref (a 3)), (1, .int x1)] := hl
  rw [urf_Pr_isKnown] at h
  refine lv_iload_n hx hb dur_Pr_isKnown_0 rfl (lv_at hl 1 rfl) ?_
  refine lv_if_lt (tgt := 16) hx hb dur_Pr_isKnown_1 (by decide) (fun c1 => ?_) (fun c1 => ?_)
  · have h := ob_t c1 h
    refine lv_iconst (v := 0) hx hb dur_Pr_isKnown_16 (by decide) ?_
    exact W.zret (ty := .boolean) (v := 0) hx hb hr rfl (fun t ht hW => ⟨⟨0, σ, rfl, ⟨Option.some.inj h, rfl⟩, by rw [ht]; exact hP, va_K.moved hW.alike hK⟩, hS.F ht⟩) hS.2.2 dur_Pr_isKnown_17
  · have h := ob_f c1 h
    refine lv_iload_n hx hb dur_Pr_isKnown_4 rfl (lv_at hl 1 rfl) ?_
    refine lv_aload_n hx hb dur_Pr_isKnown_5 rfl (lv_at hl 0 rfl) ?_
    refine urg_Pr_9 hx hb hts hown hK hP dur_Pr_isKnown_6 ?_
    refine lv_icmp_ge (tgt := 16) hx hb dur_Pr_isKnown_9 (by decide) (fun c2 => ?_) (fun c2 => ?_)
    · have h := ob_t c2 h
      refine lv_iconst (v := 0) hx hb dur_Pr_isKnown_16 (by decide) ?_
      exact W.zret (ty := .boolean) (v := 0) hx hb hr rfl (fun t ht hW => ⟨⟨0, σ, rfl, ⟨Option.some.inj h, rfl⟩, by rw [ht]; exact hP, va_K.moved hW.alike hK⟩, hS.F ht⟩) hS.2.2 dur_Pr_isKnown_17
    · have h := ob_f c2 h
      refine lv_iconst (v := 1) hx hb dur_Pr_isKnown_12 (by decide) ?_
      refine lv_goto (tgt := 17) hx hb dur_Pr_isKnown_13 (by decide) ?_
      exact W.zret (ty := .boolean) (v := 1) hx hb hr rfl (fun t ht hW => ⟨⟨1, σ, rfl, ⟨Option.some.inj h, rfl⟩, by rw [ht]; exact hP, va_K.moved hW.alike hK⟩, hS.F ht⟩) hS.2.2 dur_Pr_isKnown_17
set_option maxHeartbeats 4000000 in
set_option maxRecDepth 100000 in
theorem cur_Pr_closeIfAny (l : Launch) (D : va_G) (a : Nat → Nat) (k : Nat → ClassId) (hAd : ur_Ad a) (σ : ST) (x1 : Int32) (x2 : Int32) (res : ST) (h : urf_Pr_closeIfAny σ x1 x2 = some res) : Met l ury_Pr_closeIfAny urs_Pr_closeIfAny urr_Pr_closeIfAny (ur_Pc D a k σ [.ref (a 3), .int x1, .int x2]) (va_Qv (fun (u : ST) => u = res) (ur_B D a k) (ur_A a)) 0 0 (ur_A a) := by
  refine Met.ofW (cc := urb_Pr_closeIfAny) (maxL := 3) (ret := none) (by decide) rfl ?_
  intro p e s m args below meth c s₁ B hml hv
  obtain ⟨rfl, hP, hK⟩ := hv
  have hx := B.exec
  have hb := B.bytes
  have hr := B.returns
  have hts : ∀ w ∈ ub_T, w.before _ s = true := fun w hw => atoms_spec (ws := urs_Pr_closeIfAny) B.pre w (List.mem_cons_of_mem _ hw)
  have hown : s.vm.findClass urR_Pr = some m.cls := findClass_of_methodNamed B.named
  have hlocks := B.notSynchronized
  have hS : va_S (ur_A a) s.heap s.heap [] := va_S.rf
  have hl := lv_entry ([.ref (a 3), .int x1, .int x2]) (n := 3) (Nat.le_of_ble_eq_true rfl)
  rw [lg_entry_eq]
  generalize (lg_sl ([.ref (a 3), .int x1, .int x2]) ++ List.replicate (3 - (lg_sl ([.ref (a 3), .int x1, .int x2])).length) Slot.unset).toArray = ls at hl ⊢
  have hl : lv_has ls 3 [(0, .ref (a 3)), (1, .int x1), (2, .int x2)] := hl
  rw [urf_Pr_closeIfAny] at h
  refine lv_aload_n hx hb dur_Pr_closeIfAny_0 rfl (lv_at hl 0 rfl) ?_
  refine lv_iload_n hx hb dur_Pr_closeIfAny_1 rfl (lv_at hl 1 rfl) ?_
  obtain ⟨q1, hq1, h⟩ := ob_b h
  refine ur_cv_ir (As := [.int x1]) (rest := []) ⟨hx, hb, hml, hown, hts⟩ (cur_Pr_isKnown l D a k hAd σ x1  q1 hq1) (urc_Pr_37 hts ⟨Nat.le_of_ble_eq_true rfl, Nat.le_of_ble_eq_true rfl⟩) (ur_rc3 hK hP) hK hP rfl hl.1 rfl (Nat.le_of_ble_eq_true rfl) dur_Pr_closeIfAny_2 hS (fun H locs hP hS => ?_)
  refine lv_if_eq (tgt := 15) hx hb dur_Pr_closeIfAny_5 (by decide) (fun c2 => ?_) (fun c2 => ?_)
  · have h := ob_t c2 h
    exact W.vret hx hb hr (fun t ht hW => ⟨⟨σ, rfl, Option.some.inj h, by rw [ht]; exact hP, va_K.moved hW.alike hK⟩, hS.F ht⟩) hS.2.2 dur_Pr_closeIfAny_15
  · have h := ob_f c2 h
    refine lv_aload_n hx hb dur_Pr_closeIfAny_8 rfl (lv_at hl 0 rfl) ?_
    refine urg_Pr_15 hx hb hts hown hK hP dur_Pr_closeIfAny_9 ?_
    refine lv_iload_n hx hb dur_Pr_closeIfAny_12 rfl (lv_at hl 1 rfl) ?_
    refine lv_iload_n hx hb dur_Pr_closeIfAny_13 rfl (lv_at hl 2 rfl) ?_
    obtain ⟨hi3, h⟩ := ob_i h
    refine ur_iast (i := 10) hx hb hK hP hAd hS (by decide) rfl hi3 dur_Pr_closeIfAny_14 (fun H locs hP hS => ?_)
    exact W.vret hx hb hr (fun t ht hW => ⟨⟨(wr σ 10 x1.toNatClampNeg x2), rfl, Option.some.inj h, by rw [ht]; exact hP, va_K.moved hW.alike hK⟩, hS.F ht⟩) hS.2.2 dur_Pr_closeIfAny_15
set_option maxHeartbeats 4000000 in
set_option maxRecDepth 100000 in
theorem cur_Pr_raisesJust (l : Launch) (D : va_G) (a : Nat → Nat) (k : Nat → ClassId) (hAd : ur_Ad a) (σ : ST) (x1 : Int32) (k2 : Nat) (hk2 : k2 < 110) (res : Int32) (h : urf_Pr_raisesJust σ x1 k2 = some res) : Met l ury_Pr_raisesJust urs_Pr_raisesJust urr_Pr_raisesJust (ur_Pc D a k σ [.ref (a 3), .int x1, .ref (a (k2 + 9))]) (va_Qi (fun (r : Int32) (u : ST) => r = res ∧ u = σ) (ur_B D a k) (ur_A a)) 0 0 (ur_A a) := by
  refine Met.ofW (cc := urb_Pr_raisesJust) (maxL := 4) (ret := (some .boolean)) (by decide) rfl ?_
  intro p e s m args below meth c s₁ B hml hv
  obtain ⟨rfl, hP, hK⟩ := hv
  have hx := B.exec
  have hb := B.bytes
  have hr := B.returns
  have hts : ∀ w ∈ ub_T, w.before _ s = true := fun w hw => atoms_spec (ws := urs_Pr_raisesJust) B.pre w (List.mem_cons_of_mem _ hw)
  have hown : s.vm.findClass urR_Pr = some m.cls := findClass_of_methodNamed B.named
  have hlocks := B.notSynchronized
  have hS : va_S (ur_A a) s.heap s.heap [] := va_S.rf
  have hl := lv_entry ([.ref (a 3), .int x1, .ref (a (k2 + 9))]) (n := 4) (Nat.le_of_ble_eq_true rfl)
  rw [lg_entry_eq]
  generalize (lg_sl ([.ref (a 3), .int x1, .ref (a (k2 + 9))]) ++ List.replicate (4 - (lg_sl ([.ref (a 3), .int x1, .ref (a (k2 + 9))])).length) Slot.unset).toArray = ls at hl ⊢
  have hl : lv_has ls 4 [(0, .ref (a 3)), (1, .int x1), (2, .ref (a (k2 + 9)))] := hl
  have lp12 : ∀ (n : Nat) (y1 : Int32) (y3 : Int32) (H : Heap) (locs : List Loc) (ls : Array Slot), url_Pr_raisesJust_12 σ k2 n y1 y3 = some res → ur_P D a k σ H → va_S (ur_A a) s.heap H locs → lv_has ls 4 [(0, .ref (a 3)), (1, .int y1), (2, .ref (a (k2 + 9))), (3, .int y3)] → W p l e (headSpec urs_Pr_raisesJust urr_Pr_raisesJust).room s m (([.ref (a 3), .int x1, .ref (a (k2 + 9))] : List Value)).toArray below meth c H locs 0 0 (MQ below (va_Qi (fun (r : Int32) (u : ST) => r = res ∧ u = σ) (ur_B D a k) (ur_A a)) (([.ref (a 3), .int x1, .ref (a (k2 + 9))] : List Value)).toArray s 0 0 (ur_A a)) (F0 m 12 ls []) := by
    intro n
    induction n with
    | zero =>
      intro y1 y3 H locs ls h
      exact absurd h (fun z => by cases z)
    | succ n ih =>
      intro y1 y3 H locs ls h hP hS hl
      rw [url_Pr_raisesJust_12] at h
      refine lv_iload_n hx hb dur_Pr_raisesJust_12 rfl (lv_at hl 3 rfl) ?_
      refine lv_bipush (v := 12) hx hb dur_Pr_raisesJust_13 (by decide) ?_
      refine lv_icmp_ge (tgt := 46) hx hb dur_Pr_raisesJust_15 (by decide) (fun c3 => ?_) (fun c3 => ?_)
      · have h := ob_t c3 h
        refine lv_iconst (v := 1) hx hb dur_Pr_raisesJust_46 (by decide) ?_
        exact W.zret (ty := .boolean) (v := 1) hx hb hr rfl (fun t ht hW => ⟨⟨1, σ, rfl, ⟨Option.some.inj h, rfl⟩, by rw [ht]; exact hP, va_K.moved hW.alike hK⟩, hS.F ht⟩) hS.2.2 dur_Pr_raisesJust_47
      · have h := ob_f c3 h
        refine lv_iload_n hx hb dur_Pr_raisesJust_18 rfl (lv_at hl 3 rfl) ?_
        refine lv_aload_n hx hb dur_Pr_raisesJust_19 rfl (lv_at hl 2 rfl) ?_
        refine ur_alen (i := k2) hx hb hK hP hk2 dur_Pr_raisesJust_20 ?_
        refine lv_icmp_ge (tgt := 46) hx hb dur_Pr_raisesJust_21 (by decide) (fun c4 => ?_) (fun c4 => ?_)
        · have h := ob_t c4 h
          refine lv_iconst (v := 1) hx hb dur_Pr_raisesJust_46 (by decide) ?_
          exact W.zret (ty := .boolean) (v := 1) hx hb hr rfl (fun t ht hW => ⟨⟨1, σ, rfl, ⟨Option.some.inj h, rfl⟩, by rw [ht]; exact hP, va_K.moved hW.alike hK⟩, hS.F ht⟩) hS.2.2 dur_Pr_raisesJust_47
        · have h := ob_f c4 h
          refine lv_aload_n hx hb dur_Pr_raisesJust_24 rfl (lv_at hl 0 rfl) ?_
          refine urg_Pr_34 hx hb hts hown hK hP dur_Pr_raisesJust_25 ?_
          refine lv_iload_n hx hb dur_Pr_raisesJust_28 rfl (lv_at hl 1 rfl) ?_
          obtain ⟨hg5, h⟩ := ob_i h
          refine ur_gald3 hx hb hK hP hg5 dur_Pr_raisesJust_29 ?_
          refine lv_iload_n hx hb dur_Pr_raisesJust_30 rfl (lv_at hl 3 rfl) ?_
          obtain ⟨hi6, h⟩ := ob_i h
          refine ur_iald (i := (y1.toNatClampNeg + 50)) hx hb hK hP (ur_glt3 hg5) (ur_gln3 hg5) hi6 dur_Pr_raisesJust_31 ?_
          refine lv_aload_n hx hb dur_Pr_raisesJust_32 rfl (lv_at hl 2 rfl) ?_
          refine lv_iload_n hx hb dur_Pr_raisesJust_33 rfl (lv_at hl 3 rfl) ?_
          obtain ⟨hi7, h⟩ := ob_i h
          refine ur_iald (i := k2) hx hb hK hP hk2 rfl hi7 dur_Pr_raisesJust_34 ?_
          refine lv_icmp_eq (tgt := 40) hx hb dur_Pr_raisesJust_35 (by decide) (fun c8 => ?_) (fun c8 => ?_)
          · have h := ob_t c8 h
            refine lv_iinc (v := (y3 + 1)) (lv' := [(3, .int (y3 + 1)), (0, .ref (a 3)), (1, .int y1), (2, .ref (a (k2 + 9)))]) hx hb dur_Pr_raisesJust_40 hl (k := 3) rfl rfl (by decide) rfl (fun ls hl => ?_)
            refine lv_goto (tgt := 12) hx hb dur_Pr_raisesJust_43 (by decide) ?_
            exact ih y1 (y3 + 1) _ _ _ h hP hS (lv_sub hl [1, 2, 3, 0] rfl)
          · have h := ob_f c8 h
            refine lv_iconst (v := 0) hx hb dur_Pr_raisesJust_38 (by decide) ?_
            exact W.zret (ty := .boolean) (v := 0) hx hb hr rfl (fun t ht hW => ⟨⟨0, σ, rfl, ⟨Option.some.inj h, rfl⟩, by rw [ht]; exact hP, va_K.moved hW.alike hK⟩, hS.F ht⟩) hS.2.2 dur_Pr_raisesJust_39
  rw [urf_Pr_raisesJust] at h
  refine lv_aload_n hx hb dur_Pr_raisesJust_0 rfl (lv_at hl 0 rfl) ?_
  refine lv_iload_n hx hb dur_Pr_raisesJust_1 rfl (lv_at hl 1 rfl) ?_
  obtain ⟨q1, hq1, h⟩ := ob_b h
  refine ur_cv_ir (As := [.int x1]) (rest := []) ⟨hx, hb, hml, hown, hts⟩ (cur_Pr_isKnown l D a k hAd σ x1  q1 hq1) (urc_Pr_37 hts ⟨Nat.le_of_ble_eq_true rfl, Nat.le_of_ble_eq_true rfl⟩) (ur_rc3 hK hP) hK hP rfl hl.1 rfl (Nat.le_of_ble_eq_true rfl) dur_Pr_raisesJust_2 hS (fun H locs hP hS => ?_)
  refine lv_if_ne (tgt := 10) hx hb dur_Pr_raisesJust_5 (by decide) (fun c2 => ?_) (fun c2 => ?_)
  · have h := ob_f c2 h
    refine lv_iconst (v := 0) hx hb dur_Pr_raisesJust_10 (by decide) ?_
    refine lv_istore_n (lv' := [(3, .int 0), (0, .ref (a 3)), (1, .int x1), (2, .ref (a (k2 + 9)))]) hx hb dur_Pr_raisesJust_11 rfl hl (by decide) rfl (fun ls hl => ?_)
    exact lp12 200 x1 0 _ _ _ h hP hS (lv_sub hl [1, 2, 3, 0] rfl)
  · have h := ob_t c2 h
    refine lv_iconst (v := 0) hx hb dur_Pr_raisesJust_8 (by decide) ?_
    exact W.zret (ty := .boolean) (v := 0) hx hb hr rfl (fun t ht hW => ⟨⟨0, σ, rfl, ⟨Option.some.inj h, rfl⟩, by rw [ht]; exact hP, va_K.moved hW.alike hK⟩, hS.F ht⟩) hS.2.2 dur_Pr_raisesJust_9
set_option maxHeartbeats 4000000 in
set_option maxRecDepth 100000 in
theorem cur_Pr_latestFailedOf (l : Launch) (D : va_G) (a : Nat → Nat) (k : Nat → ClassId) (hAd : ur_Ad a) (σ : ST) (x1 : Int32) (res : Int32) (h : urf_Pr_latestFailedOf σ x1 = some res) : Met l ury_Pr_latestFailedOf urs_Pr_latestFailedOf urr_Pr_latestFailedOf (ur_Pc D a k σ [.ref (a 3), .int x1]) (va_Qi (fun (r : Int32) (u : ST) => r = res ∧ u = σ) (ur_B D a k) (ur_A a)) 0 0 (ur_A a) := by
  refine Met.ofW (cc := urb_Pr_latestFailedOf) (maxL := 2) (ret := (some .int)) (by decide) rfl ?_
  intro p e s m args below meth c s₁ B hml hv
  obtain ⟨rfl, hP, hK⟩ := hv
  have hx := B.exec
  have hb := B.bytes
  have hr := B.returns
  have hts : ∀ w ∈ ub_T, w.before _ s = true := fun w hw => atoms_spec (ws := urs_Pr_latestFailedOf) B.pre w (List.mem_cons_of_mem _ hw)
  have hown : s.vm.findClass urR_Pr = some m.cls := findClass_of_methodNamed B.named
  have hlocks := B.notSynchronized
  have hS : va_S (ur_A a) s.heap s.heap [] := va_S.rf
  have hl := lv_entry ([.ref (a 3), .int x1]) (n := 2) (Nat.le_of_ble_eq_true rfl)
  rw [lg_entry_eq]
  generalize (lg_sl ([.ref (a 3), .int x1]) ++ List.replicate (2 - (lg_sl ([.ref (a 3), .int x1])).length) Slot.unset).toArray = ls at hl ⊢
  have hl : lv_has ls 2 [(0, .ref (a 3)), (1, .int x1)] := hl
  rw [urf_Pr_latestFailedOf] at h
  refine lv_aload_n hx hb dur_Pr_latestFailedOf_0 rfl (lv_at hl 0 rfl) ?_
  refine lv_iload_n hx hb dur_Pr_latestFailedOf_1 rfl (lv_at hl 1 rfl) ?_
  refine lv_iconst (v := 4) hx hb dur_Pr_latestFailedOf_2 (by decide) ?_
  obtain ⟨q1, hq1, h⟩ := ob_b h
  refine ur_cv_ir (As := [.int x1, .int 4]) (rest := []) ⟨hx, hb, hml, hown, hts⟩ (cur_Pr_latestOf l D a k hAd σ x1 4  q1 hq1) (urc_Pr_49 hts ⟨Nat.le_of_ble_eq_true rfl, Nat.le_of_ble_eq_true rfl⟩) (ur_rc3 hK hP) hK hP rfl hl.1 rfl (Nat.le_of_ble_eq_true rfl) dur_Pr_latestFailedOf_3 hS (fun H locs hP hS => ?_)
  exact W.iret (v := q1) hx hb hr (fun t ht hW => ⟨⟨q1, σ, rfl, ⟨Option.some.inj h, rfl⟩, by rw [ht]; exact hP, va_K.moved hW.alike hK⟩, hS.F ht⟩) hS.2.2 dur_Pr_latestFailedOf_6

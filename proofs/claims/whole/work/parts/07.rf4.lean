set_option maxHeartbeats 4000000 in
set_option maxRecDepth 100000 in
theorem crf_Md_propose (l : Launch) (D : va_G) (a : Nat → Nat) (k : Nat → ClassId) (hAd : rf_Ad a) (σ : ST) (x1 : Int32) (res : Int32 × ST) (h : rff_Md_propose σ x1 = some res) : Met l rfy_Md_propose rfs_Md_propose rfr_Md_propose (rf_Pc D a k σ [.ref (a 0), .int x1]) (va_Qi (fun (r : Int32) (u : ST) => r = res.1 ∧ u = res.2) (rf_B D a k) (rf_A a)) 0 0 (rf_A a) := by
  refine Met.ofW (cc := rfb_Md_propose) (maxL := 6) (ret := (some .int)) (by decide) rfl ?_
  intro p e s m args below meth c s₁ B hml hv
  obtain ⟨rfl, hP, hK⟩ := hv
  have hx := B.exec
  have hb := B.bytes
  have hr := B.returns
  have hts : ∀ w ∈ ub_T, w.before _ s = true := fun w hw => atoms_spec (ws := rfs_Md_propose) B.pre w (List.mem_cons_of_mem _ hw)
  have hown : s.vm.findClass rfR_Md = some m.cls := findClass_of_methodNamed B.named
  have hlocks := B.notSynchronized
  have hS : va_S (rf_A a) s.heap s.heap [] := va_S.rf
  have hl := lv_entry ([.ref (a 0), .int x1]) (n := 6) (Nat.le_of_ble_eq_true rfl)
  rw [lg_entry_eq]
  generalize (lg_sl ([.ref (a 0), .int x1]) ++ List.replicate (6 - (lg_sl ([.ref (a 0), .int x1])).length) Slot.unset).toArray = ls at hl ⊢
  have hl : lv_has ls 6 [(0, .ref (a 0)), (1, .int x1)] := hl
  have jp126 : ∀ (σ : ST) (y1 : Int32) (y2 : Int32) (y3 : Int32) (y4 : Int32) (y5 : Int32) (H : Heap) (locs : List Loc) (ls : Array Slot), rfj_Md_propose_126 σ y1 y2 y3 y4 y5 = some res → rf_P D a k σ H → va_S (rf_A a) s.heap H locs → lv_has ls 6 [(0, .ref (a 0)), (1, .int y1), (2, .int y2), (3, .int y3), (4, .int y4), (5, .int y5)] → W p l e (headSpec rfs_Md_propose rfr_Md_propose).room s m (([.ref (a 0), .int x1] : List Value)).toArray below meth c H locs 0 0 (MQ below (va_Qi (fun (r : Int32) (u : ST) => r = res.1 ∧ u = res.2) (rf_B D a k) (rf_A a)) (([.ref (a 0), .int x1] : List Value)).toArray s 0 0 (rf_A a)) (F0 m 126 ls []) := by
    intro σ y1 y2 y3 y4 y5 H locs ls h hP hS hl
    rw [rfj_Md_propose_126] at h
    refine lv_iconst (v := (-1)) hx hb drf_Md_propose_126 (by decide) ?_
    exact W.iret (v := (-1)) hx hb hr (fun t ht hW => ⟨⟨(-1), σ, rfl, ob_r h, by rw [ht]; exact hP, va_K.moved hW.alike hK⟩, hS.F ht⟩) hS.2.2 drf_Md_propose_127
  have jp140 : ∀ (σ : ST) (y1 : Int32) (y2 : Int32) (y3 : Int32) (y4 : Int32) (y5 : Int32) (H : Heap) (locs : List Loc) (ls : Array Slot), rfj_Md_propose_140 σ y1 y2 y3 y4 y5 = some res → rf_P D a k σ H → va_S (rf_A a) s.heap H locs → lv_has ls 6 [(0, .ref (a 0)), (1, .int y1), (2, .int y2), (3, .int y3), (4, .int y4), (5, .int y5)] → W p l e (headSpec rfs_Md_propose rfr_Md_propose).room s m (([.ref (a 0), .int x1] : List Value)).toArray below meth c H locs 0 0 (MQ below (va_Qi (fun (r : Int32) (u : ST) => r = res.1 ∧ u = res.2) (rf_B D a k) (rf_A a)) (([.ref (a 0), .int x1] : List Value)).toArray s 0 0 (rf_A a)) (F0 m 140 ls []) := by
    intro σ y1 y2 y3 y4 y5 H locs ls h hP hS hl
    rw [rfj_Md_propose_140] at h
    refine lv_aload_n hx hb drf_Md_propose_140 rfl (lv_at hl 0 rfl) ?_
    refine rfg_Md_46 hx hb hts hown hK hP drf_Md_propose_141 ?_
    refine lv_aload_n hx hb drf_Md_propose_144 rfl (lv_at hl 0 rfl) ?_
    refine rfg_Md_113 hx hb hts hown hK hP drf_Md_propose_145 ?_
    refine lv_iconst (v := 0) hx hb drf_Md_propose_148 (by decide) ?_
    obtain ⟨hi11, h⟩ := ob_i h
    refine rf_iast (i := 12) hx hb hK hP hAd hS (by decide) rfl hi11 drf_Md_propose_149 (fun H locs hP hS => ?_)
    refine lv_aload_n hx hb drf_Md_propose_150 rfl (lv_at hl 0 rfl) ?_
    refine rfg_Md_49 hx hb hts hown hK hP drf_Md_propose_151 ?_
    refine lv_aload_n hx hb drf_Md_propose_154 rfl (lv_at hl 0 rfl) ?_
    refine rfg_Md_113 hx hb hts hown hK hP drf_Md_propose_155 ?_
    refine W.eq (g2 := F0 m 158 ls [.int (σ 18 4), .ref (a (13 + 1))]) rfl ?_
    refine lv_iload_n hx hb drf_Md_propose_158 rfl (lv_at hl 1 rfl) ?_
    obtain ⟨hi12, h⟩ := ob_i h
    refine rf_iast (i := 13) hx hb hK hP hAd hS (by decide) rfl hi12 drf_Md_propose_159 (fun H locs hP hS => ?_)
    refine lv_aload_n hx hb drf_Md_propose_160 rfl (lv_at hl 0 rfl) ?_
    refine rfg_Md_55 hx hb hts hown hK hP drf_Md_propose_161 ?_
    refine lv_aload_n hx hb drf_Md_propose_164 rfl (lv_at hl 0 rfl) ?_
    refine rfg_Md_113 hx hb hts hown hK hP drf_Md_propose_165 ?_
    refine W.eq (g2 := F0 m 168 ls [.int (σ 18 4), .ref (a (15 + 1))]) rfl ?_
    refine lv_aload_n hx hb drf_Md_propose_168 rfl (lv_at hl 0 rfl) ?_
    refine rfg_Md_106 hx hb hts hown hK hP drf_Md_propose_169 ?_
    refine W.eq (g2 := F0 m 172 ls [.int (σ 18 2), .int (σ 18 4), .ref (a (15 + 1))]) rfl ?_
    obtain ⟨hi13, h⟩ := ob_i h
    refine rf_iast (i := 15) hx hb hK hP hAd hS (by decide) rfl hi13 drf_Md_propose_172 (fun H locs hP hS => ?_)
    refine lv_aload_n hx hb drf_Md_propose_173 rfl (lv_at hl 0 rfl) ?_
    refine rfg_Md_58 hx hb hts hown hK hP drf_Md_propose_174 ?_
    refine lv_aload_n hx hb drf_Md_propose_177 rfl (lv_at hl 0 rfl) ?_
    refine rfg_Md_113 hx hb hts hown hK hP drf_Md_propose_178 ?_
    refine W.eq (g2 := F0 m 181 ls [.int (σ 18 4), .ref (a (16 + 1))]) rfl ?_
    refine lv_iload hx hb drf_Md_propose_181 (lv_at hl 5 rfl) ?_
    refine lv_if_eq (tgt := 190) hx hb drf_Md_propose_183 (by decide) (fun c14 => ?_) (fun c14 => ?_)
    · have h := ob_t c14 h
      refine lv_iconst (v := 0) hx hb drf_Md_propose_190 (by decide) ?_
      obtain ⟨hi15, h⟩ := ob_i h
      refine rf_iast (i := 16) hx hb hK hP hAd hS (by decide) rfl hi15 drf_Md_propose_191 (fun H locs hP hS => ?_)
      refine lv_aload_n hx hb drf_Md_propose_192 rfl (lv_at hl 0 rfl) ?_
      refine lv_aload_n hx hb drf_Md_propose_193 rfl (lv_at hl 0 rfl) ?_
      refine rfg_Md_113 hx hb hts hown hK hP drf_Md_propose_194 ?_
      refine W.eq (g2 := F0 m 197 ls [.int (σ 18 4), .ref (a 0)]) rfl ?_
      obtain ⟨q16, hq16, h⟩ := ob_b h
      refine rf_cv_v (As := [.int (σ 18 4)]) (rest := []) ⟨hx, hb, hml, hown, hts⟩ (crf_Md_fill l D a k hAd (wr (wr (wr (wr σ 12 (σ 18 4).toNatClampNeg 0) 13 (σ 18 4).toNatClampNeg y1) 15 (σ 18 4).toNatClampNeg (σ 18 2)) 16 (σ 18 4).toNatClampNeg 0) (σ 18 4)  q16 hq16) (rfc_Md_129 hts ⟨Nat.le_of_ble_eq_true rfl, Nat.le_of_ble_eq_true rfl⟩) (rf_rc0 hK hP) hK hP rfl hl.1 rfl (Nat.le_of_ble_eq_true rfl) drf_Md_propose_197 hS (fun H locs hP hS => ?_)
      refine lv_aload_n hx hb drf_Md_propose_200 rfl (lv_at hl 0 rfl) ?_
      refine lv_dup hx hb drf_Md_propose_201 rfl ?_
      refine rfg_Md_113 hx hb hts hown hK hP drf_Md_propose_202 ?_
      refine lv_iconst (v := 1) hx hb drf_Md_propose_205 (by decide) ?_
      refine lv_iadd hx hb drf_Md_propose_206 ?_
      refine rfp_Md_113 hx hb hts hown hK hP hAd hS drf_Md_propose_207 (fun H locs hP hS => ?_)
      refine lv_iconst (v := 1) hx hb drf_Md_propose_210 (by decide) ?_
      exact W.iret (v := 1) hx hb hr (fun t ht hW => ⟨⟨1, (wr q16 18 4 ((q16 18 4) + 1)), rfl, ob_r h, by rw [ht]; exact hP, va_K.moved hW.alike hK⟩, hS.F ht⟩) hS.2.2 drf_Md_propose_211
    · have h := ob_f c14 h
      refine lv_iconst (v := 1) hx hb drf_Md_propose_186 (by decide) ?_
      refine lv_goto (tgt := 191) hx hb drf_Md_propose_187 (by decide) ?_
      obtain ⟨hi17, h⟩ := ob_i h
      refine rf_iast (i := 16) hx hb hK hP hAd hS (by decide) rfl hi17 drf_Md_propose_191 (fun H locs hP hS => ?_)
      refine lv_aload_n hx hb drf_Md_propose_192 rfl (lv_at hl 0 rfl) ?_
      refine lv_aload_n hx hb drf_Md_propose_193 rfl (lv_at hl 0 rfl) ?_
      refine rfg_Md_113 hx hb hts hown hK hP drf_Md_propose_194 ?_
      refine W.eq (g2 := F0 m 197 ls [.int (σ 18 4), .ref (a 0)]) rfl ?_
      obtain ⟨q18, hq18, h⟩ := ob_b h
      refine rf_cv_v (As := [.int (σ 18 4)]) (rest := []) ⟨hx, hb, hml, hown, hts⟩ (crf_Md_fill l D a k hAd (wr (wr (wr (wr σ 12 (σ 18 4).toNatClampNeg 0) 13 (σ 18 4).toNatClampNeg y1) 15 (σ 18 4).toNatClampNeg (σ 18 2)) 16 (σ 18 4).toNatClampNeg 1) (σ 18 4)  q18 hq18) (rfc_Md_129 hts ⟨Nat.le_of_ble_eq_true rfl, Nat.le_of_ble_eq_true rfl⟩) (rf_rc0 hK hP) hK hP rfl hl.1 rfl (Nat.le_of_ble_eq_true rfl) drf_Md_propose_197 hS (fun H locs hP hS => ?_)
      refine lv_aload_n hx hb drf_Md_propose_200 rfl (lv_at hl 0 rfl) ?_
      refine lv_dup hx hb drf_Md_propose_201 rfl ?_
      refine rfg_Md_113 hx hb hts hown hK hP drf_Md_propose_202 ?_
      refine lv_iconst (v := 1) hx hb drf_Md_propose_205 (by decide) ?_
      refine lv_iadd hx hb drf_Md_propose_206 ?_
      refine rfp_Md_113 hx hb hts hown hK hP hAd hS drf_Md_propose_207 (fun H locs hP hS => ?_)
      refine lv_iconst (v := 1) hx hb drf_Md_propose_210 (by decide) ?_
      exact W.iret (v := 1) hx hb hr (fun t ht hW => ⟨⟨1, (wr q18 18 4 ((q18 18 4) + 1)), rfl, ob_r h, by rw [ht]; exact hP, va_K.moved hW.alike hK⟩, hS.F ht⟩) hS.2.2 drf_Md_propose_211
  have jp128 : ∀ (σ : ST) (y1 : Int32) (y2 : Int32) (y3 : Int32) (y4 : Int32) (y5 : Int32) (H : Heap) (locs : List Loc) (ls : Array Slot), rfj_Md_propose_128 σ y1 y2 y3 y4 y5 = some res → rf_P D a k σ H → va_S (rf_A a) s.heap H locs → lv_has ls 6 [(0, .ref (a 0)), (1, .int y1), (2, .int y2), (3, .int y3), (4, .int y4), (5, .int y5)] → W p l e (headSpec rfs_Md_propose rfr_Md_propose).room s m (([.ref (a 0), .int x1] : List Value)).toArray below meth c H locs 0 0 (MQ below (va_Qi (fun (r : Int32) (u : ST) => r = res.1 ∧ u = res.2) (rf_B D a k) (rf_A a)) (([.ref (a 0), .int x1] : List Value)).toArray s 0 0 (rf_A a)) (F0 m 128 ls []) := by
    intro σ y1 y2 y3 y4 y5 H locs ls h hP hS hl
    rw [rfj_Md_propose_128] at h
    refine lv_iload_n hx hb drf_Md_propose_128 rfl (lv_at hl 3 rfl) ?_
    refine lv_iconst (v := (-1)) hx hb drf_Md_propose_129 (by decide) ?_
    refine lv_icmp_eq (tgt := 140) hx hb drf_Md_propose_130 (by decide) (fun c10 => ?_) (fun c10 => ?_)
    · have h := ob_t c10 h
      exact jp140 σ y1 y2 y3 y4 y5 _ _ _ h hP hS (lv_sub hl [0, 1, 2, 3, 4, 5] rfl)
    · have h := ob_f c10 h
      refine lv_aload_n hx hb drf_Md_propose_133 rfl (lv_at hl 0 rfl) ?_
      refine rfg_Md_46 hx hb hts hown hK hP drf_Md_propose_134 ?_
      refine lv_iload_n hx hb drf_Md_propose_137 rfl (lv_at hl 3 rfl) ?_
      refine lv_iconst (v := 2) hx hb drf_Md_propose_138 (by decide) ?_
      obtain ⟨hi19, h⟩ := ob_i h
      refine rf_iast (i := 12) hx hb hK hP hAd hS (by decide) rfl hi19 drf_Md_propose_139 (fun H locs hP hS => ?_)
      exact jp140 (wr σ 12 y3.toNatClampNeg 2) y1 y2 y3 y4 y5 _ _ _ h hP hS (lv_sub hl [0, 1, 2, 3, 4, 5] rfl)
  have jp83 : ∀ (σ : ST) (y1 : Int32) (y2 : Int32) (y3 : Int32) (y4 : Int32) (H : Heap) (locs : List Loc) (ls : Array Slot), rfj_Md_propose_83 σ y1 y2 y3 y4 = some res → rf_P D a k σ H → va_S (rf_A a) s.heap H locs → lv_has ls 6 [(0, .ref (a 0)), (1, .int y1), (2, .int y2), (3, .int y3), (4, .int y4)] → W p l e (headSpec rfs_Md_propose rfr_Md_propose).room s m (([.ref (a 0), .int x1] : List Value)).toArray below meth c H locs 0 0 (MQ below (va_Qi (fun (r : Int32) (u : ST) => r = res.1 ∧ u = res.2) (rf_B D a k) (rf_A a)) (([.ref (a 0), .int x1] : List Value)).toArray s 0 0 (rf_A a)) (F0 m 83 ls []) := by
    intro σ y1 y2 y3 y4 H locs ls h hP hS hl
    rw [rfj_Md_propose_83] at h
    refine lv_aload_n hx hb drf_Md_propose_83 rfl (lv_at hl 0 rfl) ?_
    refine lv_iload_n hx hb drf_Md_propose_84 rfl (lv_at hl 1 rfl) ?_
    obtain ⟨q7, hq7, h⟩ := ob_b h
    refine rf_cv_ir (As := [.int y1]) (rest := []) ⟨hx, hb, hml, hown, hts⟩ (crf_Md_isUnitHit l D a k hAd σ y1  q7 hq7) (rfc_Md_123 hts ⟨Nat.le_of_ble_eq_true rfl, Nat.le_of_ble_eq_true rfl⟩) (rf_rc0 hK hP) hK hP rfl hl.1 rfl (Nat.le_of_ble_eq_true rfl) drf_Md_propose_85 hS (fun H locs hP hS => ?_)
    refine lv_istore (lv' := [(5, .int q7), (0, .ref (a 0)), (1, .int y1), (2, .int y2), (3, .int y3), (4, .int y4)]) hx hb drf_Md_propose_88 hl (by decide) rfl (fun ls hl => ?_)
    refine lv_aload_n hx hb drf_Md_propose_90 rfl (lv_at hl 1 rfl) ?_
    refine rfg_Md_113 hx hb hts hown hK hP drf_Md_propose_91 ?_
    refine lv_bipush (v := 60) hx hb drf_Md_propose_94 (by decide) ?_
    refine lv_icmp_eq (tgt := 126) hx hb drf_Md_propose_96 (by decide) (fun c8 => ?_) (fun c8 => ?_)
    · have h := ob_t c8 h
      exact jp126 σ y1 y2 y3 y4 q7 _ _ _ h hP hS (lv_sub hl [1, 2, 3, 4, 5, 0] rfl)
    · have h := ob_f c8 h
      refine lv_iload_n hx hb drf_Md_propose_99 rfl (lv_at hl 4 rfl) ?_
      refine lv_iconst (v := (-1)) hx hb drf_Md_propose_100 (by decide) ?_
      refine lv_icmp_ne (tgt := 128) hx hb drf_Md_propose_101 (by decide) (fun c9 => ?_) (fun c9 => ?_)
      · have h := ob_f c9 h
        exact jp128 σ y1 y2 y3 y4 q7 _ _ _ h hP hS (lv_sub hl [1, 2, 3, 4, 5, 0] rfl)
      · have h := ob_t c9 h
        refine lv_aload_n hx hb drf_Md_propose_104 rfl (lv_at hl 1 rfl) ?_
        refine lv_aload_n hx hb drf_Md_propose_105 rfl (lv_at hl 1 rfl) ?_
        refine rfg_Md_7 hx hb hts hown hK hP drf_Md_propose_106 ?_
        refine lv_iload_n hx hb drf_Md_propose_109 rfl (lv_at hl 2 rfl) ?_
        obtain ⟨hi20, h⟩ := ob_i h
        refine rf_iald (i := 0) hx hb hK hP (by decide) rfl hi20 drf_Md_propose_110 ?_
        obtain ⟨q21, hq21, h⟩ := ob_b h
        refine rf_cv_ir (As := [.int (σ 0 y1.toNatClampNeg)]) (rest := []) ⟨hx, hb, hml, hown, hts⟩ (crf_Md_opens l D a k hAd σ (σ 0 y1.toNatClampNeg)  q21 hq21) (rfc_Md_126 hts ⟨Nat.le_of_ble_eq_true rfl, Nat.le_of_ble_eq_true rfl⟩) (rf_rc0 hK hP) hK hP rfl hl.1 rfl (Nat.le_of_ble_eq_true rfl) drf_Md_propose_111 hS (fun H locs hP hS => ?_)
        refine lv_aload_n hx hb drf_Md_propose_114 rfl (lv_at hl 1 rfl) ?_
        refine rfg_Md_64 hx hb hts hown hK hP drf_Md_propose_115 ?_
        refine lv_icmp_lt (tgt := 128) hx hb drf_Md_propose_118 (by decide) (fun c22 => ?_) (fun c22 => ?_)
        · have h := ob_t c22 h
          exact jp128 σ y1 y2 y3 y4 q7 _ _ _ h hP hS (lv_sub hl [1, 2, 3, 4, 5, 0] rfl)
        · have h := ob_f c22 h
          refine lv_iload hx hb drf_Md_propose_121 (lv_at hl 0 rfl) ?_
          refine lv_if_ne (tgt := 128) hx hb drf_Md_propose_123 (by decide) (fun c23 => ?_) (fun c23 => ?_)
          · have h := ob_f c23 h
            exact jp128 σ y1 y2 y3 y4 q7 _ _ _ h hP hS (lv_sub hl [1, 2, 3, 4, 5, 0] rfl)
          · have h := ob_t c23 h
            exact jp126 σ y1 y2 y3 y4 q7 _ _ _ h hP hS (lv_sub hl [1, 2, 3, 4, 5, 0] rfl)
  have jp81 : ∀ (σ : ST) (y1 : Int32) (y2 : Int32) (y3 : Int32) (y4 : Int32) (H : Heap) (locs : List Loc) (ls : Array Slot), rfj_Md_propose_81 σ y1 y2 y3 y4 = some res → rf_P D a k σ H → va_S (rf_A a) s.heap H locs → lv_has ls 6 [(0, .ref (a 0)), (1, .int y1), (2, .int y2), (3, .int y3), (4, .int y4)] → W p l e (headSpec rfs_Md_propose rfr_Md_propose).room s m (([.ref (a 0), .int x1] : List Value)).toArray below meth c H locs 0 0 (MQ below (va_Qi (fun (r : Int32) (u : ST) => r = res.1 ∧ u = res.2) (rf_B D a k) (rf_A a)) (([.ref (a 0), .int x1] : List Value)).toArray s 0 0 (rf_A a)) (F0 m 81 ls []) := by
    intro σ y1 y2 y3 y4 H locs ls h hP hS hl
    rw [rfj_Md_propose_81] at h
    refine lv_iconst (v := 0) hx hb drf_Md_propose_81 (by decide) ?_
    exact W.iret (v := 0) hx hb hr (fun t ht hW => ⟨⟨0, σ, rfl, ob_r h, by rw [ht]; exact hP, va_K.moved hW.alike hK⟩, hS.F ht⟩) hS.2.2 drf_Md_propose_82
  have jp46 : ∀ (σ : ST) (y1 : Int32) (y2 : Int32) (y3 : Int32) (H : Heap) (locs : List Loc) (ls : Array Slot), rfj_Md_propose_46 σ y1 y2 y3 = some res → rf_P D a k σ H → va_S (rf_A a) s.heap H locs → lv_has ls 6 [(0, .ref (a 0)), (1, .int y1), (2, .int y2), (3, .int y3)] → W p l e (headSpec rfs_Md_propose rfr_Md_propose).room s m (([.ref (a 0), .int x1] : List Value)).toArray below meth c H locs 0 0 (MQ below (va_Qi (fun (r : Int32) (u : ST) => r = res.1 ∧ u = res.2) (rf_B D a k) (rf_A a)) (([.ref (a 0), .int x1] : List Value)).toArray s 0 0 (rf_A a)) (F0 m 46 ls []) := by
    intro σ y1 y2 y3 H locs ls h hP hS hl
    rw [rfj_Md_propose_46] at h
    refine lv_aload_n hx hb drf_Md_propose_46 rfl (lv_at hl 0 rfl) ?_
    refine lv_iload_n hx hb drf_Md_propose_47 rfl (lv_at hl 1 rfl) ?_
    refine lv_iconst (v := 4) hx hb drf_Md_propose_48 (by decide) ?_
    obtain ⟨q5, hq5, h⟩ := ob_b h
    refine rf_cv_ir (As := [.int y1, .int 4]) (rest := []) ⟨hx, hb, hml, hown, hts⟩ (crf_Md_latest l D a k hAd σ y1 4  q5 hq5) (rfc_Md_116 hts ⟨Nat.le_of_ble_eq_true rfl, Nat.le_of_ble_eq_true rfl⟩) (rf_rc0 hK hP) hK hP rfl hl.1 rfl (Nat.le_of_ble_eq_true rfl) drf_Md_propose_49 hS (fun H locs hP hS => ?_)
    refine lv_istore (lv' := [(4, .int q5), (0, .ref (a 0)), (1, .int y1), (2, .int y2), (3, .int y3)]) hx hb drf_Md_propose_52 hl (by decide) rfl (fun ls hl => ?_)
    refine lv_iload hx hb drf_Md_propose_54 (lv_at hl 0 rfl) ?_
    refine lv_iconst (v := (-1)) hx hb drf_Md_propose_56 (by decide) ?_
    refine lv_icmp_eq (tgt := 83) hx hb drf_Md_propose_57 (by decide) (fun c6 => ?_) (fun c6 => ?_)
    · have h := ob_t c6 h
      exact jp83 σ y1 y2 y3 q5 _ _ _ h hP hS (lv_sub hl [1, 2, 3, 4, 0] rfl)
    · have h := ob_f c6 h
      refine lv_aload_n hx hb drf_Md_propose_60 rfl (lv_at hl 1 rfl) ?_
      refine lv_iload hx hb drf_Md_propose_61 (lv_at hl 0 rfl) ?_
      obtain ⟨q24, hq24, h⟩ := ob_b h
      refine rf_cv_ir (As := [.int q5]) (rest := []) ⟨hx, hb, hml, hown, hts⟩ (crf_Md_isSame l D a k hAd σ q5  q24 hq24) (rfc_Md_120 hts ⟨Nat.le_of_ble_eq_true rfl, Nat.le_of_ble_eq_true rfl⟩) (rf_rc0 hK hP) hK hP rfl hl.1 rfl (Nat.le_of_ble_eq_true rfl) drf_Md_propose_63 hS (fun H locs hP hS => ?_)
      refine lv_if_eq (tgt := 83) hx hb drf_Md_propose_66 (by decide) (fun c25 => ?_) (fun c25 => ?_)
      · have h := ob_t c25 h
        exact jp83 σ y1 y2 y3 q5 _ _ _ h hP hS (lv_sub hl [1, 2, 3, 4, 0] rfl)
      · have h := ob_f c25 h
        refine lv_iload_n hx hb drf_Md_propose_69 rfl (lv_at hl 4 rfl) ?_
        refine lv_iconst (v := (-1)) hx hb drf_Md_propose_70 (by decide) ?_
        refine lv_icmp_eq (tgt := 81) hx hb drf_Md_propose_71 (by decide) (fun c26 => ?_) (fun c26 => ?_)
        · have h := ob_t c26 h
          exact jp81 σ y1 y2 y3 q5 _ _ _ h hP hS (lv_sub hl [1, 2, 3, 4, 0] rfl)
        · have h := ob_f c26 h
          refine lv_aload_n hx hb drf_Md_propose_74 rfl (lv_at hl 1 rfl) ?_
          refine rfg_Md_46 hx hb hts hown hK hP drf_Md_propose_75 ?_
          refine lv_iload_n hx hb drf_Md_propose_78 rfl (lv_at hl 4 rfl) ?_
          refine lv_iconst (v := 3) hx hb drf_Md_propose_79 (by decide) ?_
          obtain ⟨hi27, h⟩ := ob_i h
          refine rf_iast (i := 12) hx hb hK hP hAd hS (by decide) rfl hi27 drf_Md_propose_80 (fun H locs hP hS => ?_)
          exact jp81 (wr σ 12 y3.toNatClampNeg 3) y1 y2 y3 q5 _ _ _ h hP hS (lv_sub hl [1, 2, 3, 4, 0] rfl)
  have jp29 : ∀ (σ : ST) (y1 : Int32) (y2 : Int32) (y3 : Int32) (H : Heap) (locs : List Loc) (ls : Array Slot), rfj_Md_propose_29 σ y1 y2 y3 = some res → rf_P D a k σ H → va_S (rf_A a) s.heap H locs → lv_has ls 6 [(0, .ref (a 0)), (1, .int y1), (2, .int y2), (3, .int y3)] → W p l e (headSpec rfs_Md_propose rfr_Md_propose).room s m (([.ref (a 0), .int x1] : List Value)).toArray below meth c H locs 0 0 (MQ below (va_Qi (fun (r : Int32) (u : ST) => r = res.1 ∧ u = res.2) (rf_B D a k) (rf_A a)) (([.ref (a 0), .int x1] : List Value)).toArray s 0 0 (rf_A a)) (F0 m 29 ls []) := by
    intro σ y1 y2 y3 H locs ls h hP hS hl
    rw [rfj_Md_propose_29] at h
    refine lv_iconst (v := 0) hx hb drf_Md_propose_29 (by decide) ?_
    exact W.iret (v := 0) hx hb hr (fun t ht hW => ⟨⟨0, σ, rfl, ob_r h, by rw [ht]; exact hP, va_K.moved hW.alike hK⟩, hS.F ht⟩) hS.2.2 drf_Md_propose_30
  rw [rff_Md_propose] at h
  refine lv_aload_n hx hb drf_Md_propose_0 rfl (lv_at hl 0 rfl) ?_
  refine lv_iload_n hx hb drf_Md_propose_1 rfl (lv_at hl 1 rfl) ?_
  obtain ⟨q1, hq1, h⟩ := ob_b h
  refine rf_cv_iw (As := [.int x1]) (rest := []) ⟨hx, hb, hml, hown, hts⟩ (crf_Md_find l D a k hAd σ x1  q1 hq1) (rfc_Md_102 hts ⟨Nat.le_of_ble_eq_true rfl, Nat.le_of_ble_eq_true rfl⟩) (rf_rc0 hK hP) hK hP rfl hl.1 rfl (Nat.le_of_ble_eq_true rfl) drf_Md_propose_2 hS (fun H locs hP hS => ?_)
  refine lv_istore_n (lv' := [(2, .int q1.1), (0, .ref (a 0)), (1, .int x1)]) hx hb drf_Md_propose_5 rfl hl (by decide) rfl (fun ls hl => ?_)
  refine lv_aload_n hx hb drf_Md_propose_6 rfl (lv_at hl 1 rfl) ?_
  refine lv_iload_n hx hb drf_Md_propose_7 rfl (lv_at hl 2 rfl) ?_
  refine lv_iconst (v := 0) hx hb drf_Md_propose_8 (by decide) ?_
  obtain ⟨q2, hq2, h⟩ := ob_b h
  refine rf_cv_ir (As := [.int x1, .int 0]) (rest := []) ⟨hx, hb, hml, hown, hts⟩ (crf_Md_latest l D a k hAd q1.2 x1 0  q2 hq2) (rfc_Md_116 hts ⟨Nat.le_of_ble_eq_true rfl, Nat.le_of_ble_eq_true rfl⟩) (rf_rc0 hK hP) hK hP rfl hl.1 rfl (Nat.le_of_ble_eq_true rfl) drf_Md_propose_9 hS (fun H locs hP hS => ?_)
  refine lv_istore_n (lv' := [(3, .int q2), (2, .int q1.1), (0, .ref (a 0)), (1, .int x1)]) hx hb drf_Md_propose_12 rfl hl (by decide) rfl (fun ls hl => ?_)
  refine lv_iload_n hx hb drf_Md_propose_13 rfl (lv_at hl 1 rfl) ?_
  refine lv_if_gt (tgt := 31) hx hb drf_Md_propose_14 (by decide) (fun c3 => ?_) (fun c3 => ?_)
  · have h := ob_t c3 h
    refine lv_iload_n hx hb drf_Md_propose_31 rfl (lv_at hl 0 rfl) ?_
    refine lv_iconst (v := (-1)) hx hb drf_Md_propose_32 (by decide) ?_
    refine lv_icmp_eq (tgt := 46) hx hb drf_Md_propose_33 (by decide) (fun c4 => ?_) (fun c4 => ?_)
    · have h := ob_t c4 h
      exact jp46 q1.2 x1 q1.1 q2 _ _ _ h hP hS (lv_sub hl [2, 3, 1, 0] rfl)
    · have h := ob_f c4 h
      refine lv_aload_n hx hb drf_Md_propose_36 rfl (lv_at hl 2 rfl) ?_
      refine lv_iload_n hx hb drf_Md_propose_37 rfl (lv_at hl 0 rfl) ?_
      obtain ⟨q28, hq28, h⟩ := ob_b h
      refine rf_cv_ir (As := [.int q2]) (rest := []) ⟨hx, hb, hml, hown, hts⟩ (crf_Md_isSame l D a k hAd q1.2 q2  q28 hq28) (rfc_Md_120 hts ⟨Nat.le_of_ble_eq_true rfl, Nat.le_of_ble_eq_true rfl⟩) (rf_rc0 hK hP) hK hP rfl hl.1 rfl (Nat.le_of_ble_eq_true rfl) drf_Md_propose_38 hS (fun H locs hP hS => ?_)
      refine lv_if_eq (tgt := 46) hx hb drf_Md_propose_41 (by decide) (fun c29 => ?_) (fun c29 => ?_)
      · have h := ob_t c29 h
        exact jp46 q1.2 x1 q1.1 q2 _ _ _ h hP hS (lv_sub hl [2, 3, 1, 0] rfl)
      · have h := ob_f c29 h
        refine lv_iconst (v := 0) hx hb drf_Md_propose_44 (by decide) ?_
        exact W.iret (v := 0) hx hb hr (fun t ht hW => ⟨⟨0, q1.2, rfl, ob_r h, by rw [ht]; exact hP, va_K.moved hW.alike hK⟩, hS.F ht⟩) hS.2.2 drf_Md_propose_45
  · have h := ob_f c3 h
    refine lv_iload_n hx hb drf_Md_propose_17 rfl (lv_at hl 0 rfl) ?_
    refine lv_iconst (v := (-1)) hx hb drf_Md_propose_18 (by decide) ?_
    refine lv_icmp_eq (tgt := 29) hx hb drf_Md_propose_19 (by decide) (fun c30 => ?_) (fun c30 => ?_)
    · have h := ob_t c30 h
      exact jp29 q1.2 x1 q1.1 q2 _ _ _ h hP hS (lv_sub hl [2, 3, 1, 0] rfl)
    · have h := ob_f c30 h
      refine lv_aload_n hx hb drf_Md_propose_22 rfl (lv_at hl 2 rfl) ?_
      refine rfg_Md_46 hx hb hts hown hK hP drf_Md_propose_23 ?_
      refine lv_iload_n hx hb drf_Md_propose_26 rfl (lv_at hl 0 rfl) ?_
      refine lv_iconst (v := 3) hx hb drf_Md_propose_27 (by decide) ?_
      obtain ⟨hi31, h⟩ := ob_i h
      refine rf_iast (i := 12) hx hb hK hP hAd hS (by decide) rfl hi31 drf_Md_propose_28 (fun H locs hP hS => ?_)
      exact jp29 (wr q1.2 12 q2.toNatClampNeg 3) x1 q1.1 q2 _ _ _ h hP hS (lv_sub hl [2, 3, 1, 0] rfl)
set_option maxHeartbeats 4000000 in
set_option maxRecDepth 100000 in
theorem crf_Md_run (l : Launch) (D : va_G) (a : Nat → Nat) (k : Nat → ClassId) (hAd : rf_Ad a) (σ : ST) (res : Int32 × ST) (h : rff_Md_run σ  = some res) : Met l rfy_Md_run rfs_Md_run rfr_Md_run (rf_Pc D a k σ [.ref (a 0)]) (va_Qi (fun (r : Int32) (u : ST) => r = res.1 ∧ u = res.2) (rf_B D a k) (rf_A a)) 0 0 (rf_A a) := by
  refine Met.ofW (cc := rfb_Md_run) (maxL := 4) (ret := (some .int)) (by decide) rfl ?_
  intro p e s m args below meth c s₁ B hml hv
  obtain ⟨rfl, hP, hK⟩ := hv
  have hx := B.exec
  have hb := B.bytes
  have hr := B.returns
  have hts : ∀ w ∈ ub_T, w.before _ s = true := fun w hw => atoms_spec (ws := rfs_Md_run) B.pre w (List.mem_cons_of_mem _ hw)
  have hown : s.vm.findClass rfR_Md = some m.cls := findClass_of_methodNamed B.named
  have hlocks := B.notSynchronized
  have hS : va_S (rf_A a) s.heap s.heap [] := va_S.rf
  have hl := lv_entry ([.ref (a 0)]) (n := 4) (Nat.le_of_ble_eq_true rfl)
  rw [lg_entry_eq]
  generalize (lg_sl ([.ref (a 0)]) ++ List.replicate (4 - (lg_sl ([.ref (a 0)])).length) Slot.unset).toArray = ls at hl ⊢
  have hl : lv_has ls 4 [(0, .ref (a 0))] := hl
  have lp14 : ∀ (n : Nat) (σ : ST) (y1 : Int32) (y2 : Int32) (H : Heap) (locs : List Loc) (ls : Array Slot), rfl_Md_run_14 n σ y1 y2 = some res → rf_P D a k σ H → va_S (rf_A a) s.heap H locs → lv_has ls 4 [(0, .ref (a 0)), (1, .int y1), (2, .int y2)] → W p l e (headSpec rfs_Md_run rfr_Md_run).room s m (([.ref (a 0)] : List Value)).toArray below meth c H locs 0 0 (MQ below (va_Qi (fun (r : Int32) (u : ST) => r = res.1 ∧ u = res.2) (rf_B D a k) (rf_A a)) (([.ref (a 0)] : List Value)).toArray s 0 0 (rf_A a)) (F0 m 14 ls []) := by
    intro n
    induction n with
    | zero =>
      intro σ y1 y2 H locs ls h
      exact absurd h (fun z => by cases z)
    | succ n ih =>
      intro σ y1 y2 H locs ls h hP hS hl
      rw [rfl_Md_run_14] at h
      refine lv_iload_n hx hb drf_Md_run_14 rfl (lv_at hl 2 rfl) ?_
      refine lv_aload_n hx hb drf_Md_run_15 rfl (lv_at hl 0 rfl) ?_
      refine rfg_Md_71 hx hb hts hown hK hP drf_Md_run_16 ?_
      refine lv_icmp_ge (tgt := 96) hx hb drf_Md_run_19 (by decide) (fun c1 => ?_) (fun c1 => ?_)
      · have h := ob_t c1 h
        refine lv_iload_n hx hb drf_Md_run_96 rfl (lv_at hl 1 rfl) ?_
        exact W.iret (v := y1) hx hb hr (fun t ht hW => ⟨⟨y1, σ, rfl, ob_r h, by rw [ht]; exact hP, va_K.moved hW.alike hK⟩, hS.F ht⟩) hS.2.2 drf_Md_run_97
      · have h := ob_f c1 h
        refine lv_aload_n hx hb drf_Md_run_22 rfl (lv_at hl 0 rfl) ?_
        refine lv_iload_n hx hb drf_Md_run_23 rfl (lv_at hl 2 rfl) ?_
        obtain ⟨q2, hq2, h⟩ := ob_b h
        refine rf_cv_ir (As := [.int y2]) (rest := []) ⟨hx, hb, hml, hown, hts⟩ (crf_Md_chiefOf l D a k hAd σ y2  q2 hq2) (rfc_Md_92 hts ⟨Nat.le_of_ble_eq_true rfl, Nat.le_of_ble_eq_true rfl⟩) (rf_rc0 hK hP) hK hP rfl hl.1 rfl (Nat.le_of_ble_eq_true rfl) drf_Md_run_24 hS (fun H locs hP hS => ?_)
        refine lv_iload_n hx hb drf_Md_run_27 rfl (lv_at hl 2 rfl) ?_
        refine lv_icmp_ne (tgt := 90) hx hb drf_Md_run_28 (by decide) (fun c3 => ?_) (fun c3 => ?_)
        · have h := ob_f c3 h
          refine lv_iinc (v := (y2 + 1)) (lv' := [(2, .int (y2 + 1)), (0, .ref (a 0)), (1, .int y1)]) hx hb drf_Md_run_90 hl (k := 2) rfl rfl (by decide) rfl (fun ls hl => ?_)
          refine lv_goto (tgt := 14) hx hb drf_Md_run_93 (by decide) ?_
          exact ih σ y1 (y2 + 1) _ _ _ h hP hS (lv_sub hl [1, 2, 0] rfl)
        · have h := ob_t c3 h
          refine lv_aload_n hx hb drf_Md_run_31 rfl (lv_at hl 0 rfl) ?_
          refine lv_iload_n hx hb drf_Md_run_32 rfl (lv_at hl 2 rfl) ?_
          obtain ⟨q4, hq4, h⟩ := ob_b h
          refine rf_cv_ir (As := [.int y2]) (rest := []) ⟨hx, hb, hml, hown, hts⟩ (crf_Md_isDue l D a k hAd σ y2  q4 hq4) (rfc_Md_136 hts ⟨Nat.le_of_ble_eq_true rfl, Nat.le_of_ble_eq_true rfl⟩) (rf_rc0 hK hP) hK hP rfl hl.1 rfl (Nat.le_of_ble_eq_true rfl) drf_Md_run_33 hS (fun H locs hP hS => ?_)
          refine lv_if_ne (tgt := 42) hx hb drf_Md_run_36 (by decide) (fun c5 => ?_) (fun c5 => ?_)
          · have h := ob_f c5 h
            refine lv_aload_n hx hb drf_Md_run_42 rfl (lv_at hl 0 rfl) ?_
            refine rfg_Md_31 hx hb hts hown hK hP drf_Md_run_43 ?_
            refine lv_iload_n hx hb drf_Md_run_46 rfl (lv_at hl 2 rfl) ?_
            refine lv_aload_n hx hb drf_Md_run_47 rfl (lv_at hl 0 rfl) ?_
            refine rfg_Md_106 hx hb hts hown hK hP drf_Md_run_48 ?_
            obtain ⟨hi6, h⟩ := ob_i h
            refine rf_iast (i := 7) hx hb hK hP hAd hS (by decide) rfl hi6 drf_Md_run_51 (fun H locs hP hS => ?_)
            refine lv_aload_n hx hb drf_Md_run_52 rfl (lv_at hl 0 rfl) ?_
            refine lv_iload_n hx hb drf_Md_run_53 rfl (lv_at hl 2 rfl) ?_
            obtain ⟨q7, hq7, h⟩ := ob_b h
            refine rf_cv_iw (As := [.int y2]) (rest := []) ⟨hx, hb, hml, hown, hts⟩ (crf_Md_propose l D a k hAd (wr σ 7 y2.toNatClampNeg (σ 18 2)) y2  q7 hq7) (rfc_Md_139 hts ⟨Nat.le_of_ble_eq_true rfl, Nat.le_of_ble_eq_true rfl⟩) (rf_rc0 hK hP) hK hP rfl hl.1 rfl (Nat.le_of_ble_eq_true rfl) drf_Md_run_54 hS (fun H locs hP hS => ?_)
            refine lv_istore_n (lv' := [(3, .int q7.1), (0, .ref (a 0)), (1, .int y1), (2, .int y2)]) hx hb drf_Md_run_57 rfl hl (by decide) rfl (fun ls hl => ?_)
            refine lv_iload_n hx hb drf_Md_run_58 rfl (lv_at hl 2 rfl) ?_
            refine lv_iload_n hx hb drf_Md_run_59 rfl (lv_at hl 0 rfl) ?_
            refine lv_iconst (v := 1) hx hb drf_Md_run_60 (by decide) ?_
            refine lv_icmp_ne (tgt := 68) hx hb drf_Md_run_61 (by decide) (fun c8 => ?_) (fun c8 => ?_)
            · have h := ob_f c8 h
              refine lv_iconst (v := 0) hx hb drf_Md_run_68 (by decide) ?_
              refine lv_iadd hx hb drf_Md_run_69 ?_
              refine lv_istore_n (lv' := [(1, .int (y1 + 0)), (3, .int q7.1), (0, .ref (a 0)), (2, .int y2)]) hx hb drf_Md_run_70 rfl hl (by decide) rfl (fun ls hl => ?_)
              refine lv_aload_n hx hb drf_Md_run_71 rfl (lv_at hl 2 rfl) ?_
              refine lv_dup hx hb drf_Md_run_72 rfl ?_
              refine rfg_Md_133 hx hb hts hown hK hP drf_Md_run_73 ?_
              refine lv_iload_n hx hb drf_Md_run_76 rfl (lv_at hl 1 rfl) ?_
              refine lv_iconst (v := (-1)) hx hb drf_Md_run_77 (by decide) ?_
              refine lv_icmp_ne (tgt := 85) hx hb drf_Md_run_78 (by decide) (fun c9 => ?_) (fun c9 => ?_)
              · have h := ob_f c9 h
                refine lv_iconst (v := 0) hx hb drf_Md_run_85 (by decide) ?_
                refine lv_iadd hx hb drf_Md_run_86 ?_
                refine rfp_Md_133 hx hb hts hown hK hP hAd hS drf_Md_run_87 (fun H locs hP hS => ?_)
                refine lv_iinc (v := (y2 + 1)) (lv' := [(2, .int (y2 + 1)), (1, .int (y1 + 0)), (3, .int q7.1), (0, .ref (a 0))]) hx hb drf_Md_run_90 hl (k := 3) rfl rfl (by decide) rfl (fun ls hl => ?_)
                refine lv_goto (tgt := 14) hx hb drf_Md_run_93 (by decide) ?_
                exact ih (wr q7.2 18 5 ((q7.2 18 5) + 0)) (y1 + 0) (y2 + 1) _ _ _ h hP hS (lv_sub hl [3, 1, 0] rfl)
              · have h := ob_t c9 h
                refine lv_iconst (v := 1) hx hb drf_Md_run_81 (by decide) ?_
                refine lv_goto (tgt := 86) hx hb drf_Md_run_82 (by decide) ?_
                refine lv_iadd hx hb drf_Md_run_86 ?_
                refine rfp_Md_133 hx hb hts hown hK hP hAd hS drf_Md_run_87 (fun H locs hP hS => ?_)
                refine lv_iinc (v := (y2 + 1)) (lv' := [(2, .int (y2 + 1)), (1, .int (y1 + 0)), (3, .int q7.1), (0, .ref (a 0))]) hx hb drf_Md_run_90 hl (k := 3) rfl rfl (by decide) rfl (fun ls hl => ?_)
                refine lv_goto (tgt := 14) hx hb drf_Md_run_93 (by decide) ?_
                exact ih (wr q7.2 18 5 ((q7.2 18 5) + 1)) (y1 + 0) (y2 + 1) _ _ _ h hP hS (lv_sub hl [3, 1, 0] rfl)
            · have h := ob_t c8 h
              refine lv_iconst (v := 1) hx hb drf_Md_run_64 (by decide) ?_
              refine lv_goto (tgt := 69) hx hb drf_Md_run_65 (by decide) ?_
              refine lv_iadd hx hb drf_Md_run_69 ?_
              refine lv_istore_n (lv' := [(1, .int (y1 + 1)), (3, .int q7.1), (0, .ref (a 0)), (2, .int y2)]) hx hb drf_Md_run_70 rfl hl (by decide) rfl (fun ls hl => ?_)
              refine lv_aload_n hx hb drf_Md_run_71 rfl (lv_at hl 2 rfl) ?_
              refine lv_dup hx hb drf_Md_run_72 rfl ?_
              refine rfg_Md_133 hx hb hts hown hK hP drf_Md_run_73 ?_
              refine lv_iload_n hx hb drf_Md_run_76 rfl (lv_at hl 1 rfl) ?_
              refine lv_iconst (v := (-1)) hx hb drf_Md_run_77 (by decide) ?_
              refine lv_icmp_ne (tgt := 85) hx hb drf_Md_run_78 (by decide) (fun c10 => ?_) (fun c10 => ?_)
              · have h := ob_f c10 h
                refine lv_iconst (v := 0) hx hb drf_Md_run_85 (by decide) ?_
                refine lv_iadd hx hb drf_Md_run_86 ?_
                refine rfp_Md_133 hx hb hts hown hK hP hAd hS drf_Md_run_87 (fun H locs hP hS => ?_)
                refine lv_iinc (v := (y2 + 1)) (lv' := [(2, .int (y2 + 1)), (1, .int (y1 + 1)), (3, .int q7.1), (0, .ref (a 0))]) hx hb drf_Md_run_90 hl (k := 3) rfl rfl (by decide) rfl (fun ls hl => ?_)
                refine lv_goto (tgt := 14) hx hb drf_Md_run_93 (by decide) ?_
                exact ih (wr q7.2 18 5 ((q7.2 18 5) + 0)) (y1 + 1) (y2 + 1) _ _ _ h hP hS (lv_sub hl [3, 1, 0] rfl)
              · have h := ob_t c10 h
                refine lv_iconst (v := 1) hx hb drf_Md_run_81 (by decide) ?_
                refine lv_goto (tgt := 86) hx hb drf_Md_run_82 (by decide) ?_
                refine lv_iadd hx hb drf_Md_run_86 ?_
                refine rfp_Md_133 hx hb hts hown hK hP hAd hS drf_Md_run_87 (fun H locs hP hS => ?_)
                refine lv_iinc (v := (y2 + 1)) (lv' := [(2, .int (y2 + 1)), (1, .int (y1 + 1)), (3, .int q7.1), (0, .ref (a 0))]) hx hb drf_Md_run_90 hl (k := 3) rfl rfl (by decide) rfl (fun ls hl => ?_)
                refine lv_goto (tgt := 14) hx hb drf_Md_run_93 (by decide) ?_
                exact ih (wr q7.2 18 5 ((q7.2 18 5) + 1)) (y1 + 1) (y2 + 1) _ _ _ h hP hS (lv_sub hl [3, 1, 0] rfl)
          · have h := ob_t c5 h
            refine lv_goto (tgt := 90) hx hb drf_Md_run_39 (by decide) ?_
            refine lv_iinc (v := (y2 + 1)) (lv' := [(2, .int (y2 + 1)), (0, .ref (a 0)), (1, .int y1)]) hx hb drf_Md_run_90 hl (k := 2) rfl rfl (by decide) rfl (fun ls hl => ?_)
            refine lv_goto (tgt := 14) hx hb drf_Md_run_93 (by decide) ?_
            exact ih σ y1 (y2 + 1) _ _ _ h hP hS (lv_sub hl [1, 2, 0] rfl)
  rw [rff_Md_run] at h
  refine lv_aload_n hx hb drf_Md_run_0 rfl (lv_at hl 0 rfl) ?_
  refine lv_iconst (v := 0) hx hb drf_Md_run_1 (by decide) ?_
  refine rfp_Md_68 hx hb hts hown hK hP hAd hS drf_Md_run_2 (fun H locs hP hS => ?_)
  refine lv_aload_n hx hb drf_Md_run_5 rfl (lv_at hl 0 rfl) ?_
  refine lv_iconst (v := 0) hx hb drf_Md_run_6 (by decide) ?_
  refine rfp_Md_133 hx hb hts hown hK hP hAd hS drf_Md_run_7 (fun H locs hP hS => ?_)
  refine lv_iconst (v := 0) hx hb drf_Md_run_10 (by decide) ?_
  refine lv_istore_n (lv' := [(1, .int 0), (0, .ref (a 0))]) hx hb drf_Md_run_11 rfl hl (by decide) rfl (fun ls hl => ?_)
  refine lv_iconst (v := 0) hx hb drf_Md_run_12 (by decide) ?_
  refine lv_istore_n (lv' := [(2, .int 0), (1, .int 0), (0, .ref (a 0))]) hx hb drf_Md_run_13 rfl hl (by decide) rfl (fun ls hl => ?_)
  exact lp14 200 (wr (wr σ 18 1 0) 18 5 0) 0 0 _ _ _ h hP hS (lv_sub hl [2, 1, 0] rfl)
set_option maxHeartbeats 4000000 in
set_option maxRecDepth 100000 in
theorem crf_Md_waiting (l : Launch) (D : va_G) (a : Nat → Nat) (k : Nat → ClassId) (hAd : rf_Ad a) (σ : ST) (res : Int32 × ST) (h : rff_Md_waiting σ  = some res) : Met l rfy_Md_waiting rfs_Md_waiting rfr_Md_waiting (rf_Pc D a k σ [.ref (a 0)]) (va_Qi (fun (r : Int32) (u : ST) => r = res.1 ∧ u = res.2) (rf_B D a k) (rf_A a)) 0 0 (rf_A a) := by
  refine Met.ofW (cc := rfb_Md_waiting) (maxL := 1) (ret := (some .int)) (by decide) rfl ?_
  intro p e s m args below meth c s₁ B hml hv
  obtain ⟨rfl, hP, hK⟩ := hv
  have hx := B.exec
  have hb := B.bytes
  have hr := B.returns
  have hts : ∀ w ∈ ub_T, w.before _ s = true := fun w hw => atoms_spec (ws := rfs_Md_waiting) B.pre w (List.mem_cons_of_mem _ hw)
  have hown : s.vm.findClass rfR_Md = some m.cls := findClass_of_methodNamed B.named
  have hlocks := B.notSynchronized
  have hS : va_S (rf_A a) s.heap s.heap [] := va_S.rf
  have hl := lv_entry ([.ref (a 0)]) (n := 1) (Nat.le_of_ble_eq_true rfl)
  rw [lg_entry_eq]
  generalize (lg_sl ([.ref (a 0)]) ++ List.replicate (1 - (lg_sl ([.ref (a 0)])).length) Slot.unset).toArray = ls at hl ⊢
  have hl : lv_has ls 1 [(0, .ref (a 0))] := hl
  rw [rff_Md_waiting] at h
  refine lv_aload_n hx hb drf_Md_waiting_0 rfl (lv_at hl 0 rfl) ?_
  refine lv_iconst (v := 0) hx hb drf_Md_waiting_1 (by decide) ?_
  refine rfp_Md_68 hx hb hts hown hK hP hAd hS drf_Md_waiting_2 (fun H locs hP hS => ?_)
  refine lv_aload_n hx hb drf_Md_waiting_5 rfl (lv_at hl 0 rfl) ?_
  refine rfg_Md_133 hx hb hts hown hK hP drf_Md_waiting_6 ?_
  refine W.eq (g2 := F0 m 9 ls [.int (σ 18 5)]) rfl ?_
  exact W.iret (v := (σ 18 5)) hx hb hr (fun t ht hW => ⟨⟨(σ 18 5), (wr σ 18 1 0), rfl, ob_r h, by rw [ht]; exact hP, va_K.moved hW.alike hK⟩, hS.F ht⟩) hS.2.2 drf_Md_waiting_9
set_option maxHeartbeats 4000000 in
set_option maxRecDepth 100000 in
theorem crf_Md_about (l : Launch) (D : va_G) (a : Nat → Nat) (k : Nat → ClassId) (hAd : rf_Ad a) (σ : ST) (x1 : Int32) (x2 : Int32) (res : Int32 × ST) (h : rff_Md_about σ x1 x2 = some res) : Met l rfy_Md_about rfs_Md_about rfr_Md_about (rf_Pc D a k σ [.ref (a 0), .int x1, .int x2]) (va_Qi (fun (r : Int32) (u : ST) => r = res.1 ∧ u = res.2) (rf_B D a k) (rf_A a)) 0 0 (rf_A a) := by
  refine Met.ofW (cc := rfb_Md_about) (maxL := 3) (ret := (some .int)) (by decide) rfl ?_
  intro p e s m args below meth c s₁ B hml hv
  obtain ⟨rfl, hP, hK⟩ := hv
  have hx := B.exec
  have hb := B.bytes
  have hr := B.returns
  have hts : ∀ w ∈ ub_T, w.before _ s = true := fun w hw => atoms_spec (ws := rfs_Md_about) B.pre w (List.mem_cons_of_mem _ hw)
  have hown : s.vm.findClass rfR_Md = some m.cls := findClass_of_methodNamed B.named
  have hlocks := B.notSynchronized
  have hS : va_S (rf_A a) s.heap s.heap [] := va_S.rf
  have hl := lv_entry ([.ref (a 0), .int x1, .int x2]) (n := 3) (Nat.le_of_ble_eq_true rfl)
  rw [lg_entry_eq]
  generalize (lg_sl ([.ref (a 0), .int x1, .int x2]) ++ List.replicate (3 - (lg_sl ([.ref (a 0), .int x1, .int x2])).length) Slot.unset).toArray = ls at hl ⊢
  have hl : lv_has ls 3 [(0, .ref (a 0)), (1, .int x1), (2, .int x2)] := hl
  have jp17 : ∀ (σ : ST) (y1 : Int32) (y2 : Int32) (H : Heap) (locs : List Loc) (ls : Array Slot), rfj_Md_about_17 σ y1 y2 = some res → rf_P D a k σ H → va_S (rf_A a) s.heap H locs → lv_has ls 3 [(0, .ref (a 0)), (1, .int y1), (2, .int y2)] → W p l e (headSpec rfs_Md_about rfr_Md_about).room s m (([.ref (a 0), .int x1, .int x2] : List Value)).toArray below meth c H locs 0 0 (MQ below (va_Qi (fun (r : Int32) (u : ST) => r = res.1 ∧ u = res.2) (rf_B D a k) (rf_A a)) (([.ref (a 0), .int x1, .int x2] : List Value)).toArray s 0 0 (rf_A a)) (F0 m 17 ls []) := by
    intro σ y1 y2 H locs ls h hP hS hl
    rw [rfj_Md_about_17] at h
    refine lv_iconst (v := (-1)) hx hb drf_Md_about_17 (by decide) ?_
    exact W.iret (v := (-1)) hx hb hr (fun t ht hW => ⟨⟨(-1), σ, rfl, ob_r h, by rw [ht]; exact hP, va_K.moved hW.alike hK⟩, hS.F ht⟩) hS.2.2 drf_Md_about_18
  rw [rff_Md_about] at h
  refine lv_aload_n hx hb drf_Md_about_0 rfl (lv_at hl 0 rfl) ?_
  refine lv_iconst (v := 0) hx hb drf_Md_about_1 (by decide) ?_
  refine rfp_Md_68 hx hb hts hown hK hP hAd hS drf_Md_about_2 (fun H locs hP hS => ?_)
  refine lv_iload_n hx hb drf_Md_about_5 rfl (lv_at hl 1 rfl) ?_
  refine lv_if_lt (tgt := 17) hx hb drf_Md_about_6 (by decide) (fun c1 => ?_) (fun c1 => ?_)
  · have h := ob_t c1 h
    exact jp17 (wr σ 18 1 0) x1 x2 _ _ _ h hP hS (lv_sub hl [0, 1, 2] rfl)
  · have h := ob_f c1 h
    refine lv_iload_n hx hb drf_Md_about_9 rfl (lv_at hl 1 rfl) ?_
    refine lv_aload_n hx hb drf_Md_about_10 rfl (lv_at hl 0 rfl) ?_
    refine rfg_Md_113 hx hb hts hown hK hP drf_Md_about_11 ?_
    refine W.eq (g2 := F0 m 14 ls [.int (σ 18 4), .int x1]) rfl ?_
    refine lv_icmp_lt (tgt := 19) hx hb drf_Md_about_14 (by decide) (fun c2 => ?_) (fun c2 => ?_)
    · have h := ob_t c2 h
      refine lv_iload_n hx hb drf_Md_about_19 rfl (lv_at hl 2 rfl) ?_
      refine ob_cs (c := x2 = 0) (fun c3 => ?_) (fun c3 => ?_)
      · have h := ob_t c3 h
        refine lv_tableIn (tgt := 56) hx hb drf_Md_about_20 (by rw [c3]; decide) (by rw [c3]; decide) (by rw [c3]; rfl) (by decide) ?_
        refine lv_aload_n hx hb drf_Md_about_56 rfl (lv_at hl 0 rfl) ?_
        refine rfg_Md_46 hx hb hts hown hK hP drf_Md_about_57 ?_
        refine lv_iload_n hx hb drf_Md_about_60 rfl (lv_at hl 1 rfl) ?_
        obtain ⟨hi4, h⟩ := ob_i h
        refine rf_iald (i := 12) hx hb hK hP (by decide) rfl hi4 drf_Md_about_61 ?_
        refine W.eq (g2 := F0 m 62 ls [.int (σ 12 x1.toNatClampNeg)]) rfl ?_
        exact W.iret (v := (σ 12 x1.toNatClampNeg)) hx hb hr (fun t ht hW => ⟨⟨(σ 12 x1.toNatClampNeg), (wr σ 18 1 0), rfl, ob_r h, by rw [ht]; exact hP, va_K.moved hW.alike hK⟩, hS.F ht⟩) hS.2.2 drf_Md_about_62
      · have h := ob_f c3 h
        refine ob_cs (c := x2 = 1) (fun c5 => ?_) (fun c5 => ?_)
        · have h := ob_t c5 h
          refine lv_tableIn (tgt := 63) hx hb drf_Md_about_20 (by rw [c5]; decide) (by rw [c5]; decide) (by rw [c5]; rfl) (by decide) ?_
          refine lv_aload_n hx hb drf_Md_about_63 rfl (lv_at hl 0 rfl) ?_
          refine rfg_Md_49 hx hb hts hown hK hP drf_Md_about_64 ?_
          refine lv_iload_n hx hb drf_Md_about_67 rfl (lv_at hl 1 rfl) ?_
          obtain ⟨hi6, h⟩ := ob_i h
          refine rf_iald (i := 13) hx hb hK hP (by decide) rfl hi6 drf_Md_about_68 ?_
          refine W.eq (g2 := F0 m 69 ls [.int (σ 13 x1.toNatClampNeg)]) rfl ?_
          exact W.iret (v := (σ 13 x1.toNatClampNeg)) hx hb hr (fun t ht hW => ⟨⟨(σ 13 x1.toNatClampNeg), (wr σ 18 1 0), rfl, ob_r h, by rw [ht]; exact hP, va_K.moved hW.alike hK⟩, hS.F ht⟩) hS.2.2 drf_Md_about_69
        · have h := ob_f c5 h
          refine ob_cs (c := x2 = 2) (fun c7 => ?_) (fun c7 => ?_)
          · have h := ob_t c7 h
            refine lv_tableIn (tgt := 70) hx hb drf_Md_about_20 (by rw [c7]; decide) (by rw [c7]; decide) (by rw [c7]; rfl) (by decide) ?_
            refine lv_aload_n hx hb drf_Md_about_70 rfl (lv_at hl 0 rfl) ?_
            refine rfg_Md_52 hx hb hts hown hK hP drf_Md_about_71 ?_
            refine lv_iload_n hx hb drf_Md_about_74 rfl (lv_at hl 1 rfl) ?_
            obtain ⟨hi8, h⟩ := ob_i h
            refine rf_iald (i := 14) hx hb hK hP (by decide) rfl hi8 drf_Md_about_75 ?_
            refine W.eq (g2 := F0 m 76 ls [.int (σ 14 x1.toNatClampNeg)]) rfl ?_
            exact W.iret (v := (σ 14 x1.toNatClampNeg)) hx hb hr (fun t ht hW => ⟨⟨(σ 14 x1.toNatClampNeg), (wr σ 18 1 0), rfl, ob_r h, by rw [ht]; exact hP, va_K.moved hW.alike hK⟩, hS.F ht⟩) hS.2.2 drf_Md_about_76
          · have h := ob_f c7 h
            refine ob_cs (c := x2 = 3) (fun c9 => ?_) (fun c9 => ?_)
            · have h := ob_t c9 h
              refine lv_tableIn (tgt := 77) hx hb drf_Md_about_20 (by rw [c9]; decide) (by rw [c9]; decide) (by rw [c9]; rfl) (by decide) ?_
              refine lv_aload_n hx hb drf_Md_about_77 rfl (lv_at hl 0 rfl) ?_
              refine rfg_Md_55 hx hb hts hown hK hP drf_Md_about_78 ?_
              refine lv_iload_n hx hb drf_Md_about_81 rfl (lv_at hl 1 rfl) ?_
              obtain ⟨hi10, h⟩ := ob_i h
              refine rf_iald (i := 15) hx hb hK hP (by decide) rfl hi10 drf_Md_about_82 ?_
              refine W.eq (g2 := F0 m 83 ls [.int (σ 15 x1.toNatClampNeg)]) rfl ?_
              exact W.iret (v := (σ 15 x1.toNatClampNeg)) hx hb hr (fun t ht hW => ⟨⟨(σ 15 x1.toNatClampNeg), (wr σ 18 1 0), rfl, ob_r h, by rw [ht]; exact hP, va_K.moved hW.alike hK⟩, hS.F ht⟩) hS.2.2 drf_Md_about_83
            · have h := ob_f c9 h
              refine ob_cs (c := x2 = 4) (fun c11 => ?_) (fun c11 => ?_)
              · have h := ob_t c11 h
                refine lv_tableIn (tgt := 84) hx hb drf_Md_about_20 (by rw [c11]; decide) (by rw [c11]; decide) (by rw [c11]; rfl) (by decide) ?_
                refine lv_aload_n hx hb drf_Md_about_84 rfl (lv_at hl 0 rfl) ?_
                refine rfg_Md_58 hx hb hts hown hK hP drf_Md_about_85 ?_
                refine lv_iload_n hx hb drf_Md_about_88 rfl (lv_at hl 1 rfl) ?_
                obtain ⟨hi12, h⟩ := ob_i h
                refine rf_iald (i := 16) hx hb hK hP (by decide) rfl hi12 drf_Md_about_89 ?_
                refine W.eq (g2 := F0 m 90 ls [.int (σ 16 x1.toNatClampNeg)]) rfl ?_
                exact W.iret (v := (σ 16 x1.toNatClampNeg)) hx hb hr (fun t ht hW => ⟨⟨(σ 16 x1.toNatClampNeg), (wr σ 18 1 0), rfl, ob_r h, by rw [ht]; exact hP, va_K.moved hW.alike hK⟩, hS.F ht⟩) hS.2.2 drf_Md_about_90
              · have h := ob_f c11 h
                refine lv_tableOut (tgt := 91) hx hb drf_Md_about_20 (by have q0 := lv_neT c3 (show (0 : Int32).toInt = 0 by decide); have q1 := lv_neT c5 (show (1 : Int32).toInt = 1 by decide); have q2 := lv_neT c7 (show (2 : Int32).toInt = 2 by decide); have q3 := lv_neT c9 (show (3 : Int32).toInt = 3 by decide); have q4 := lv_neT c11 (show (4 : Int32).toInt = 4 by decide); omega) (by decide) ?_
                refine lv_iconst (v := (-1)) hx hb drf_Md_about_91 (by decide) ?_
                exact W.iret (v := (-1)) hx hb hr (fun t ht hW => ⟨⟨(-1), (wr σ 18 1 0), rfl, ob_r h, by rw [ht]; exact hP, va_K.moved hW.alike hK⟩, hS.F ht⟩) hS.2.2 drf_Md_about_92
    · have h := ob_f c2 h
      exact jp17 (wr σ 18 1 0) x1 x2 _ _ _ h hP hS (lv_sub hl [0, 1, 2] rfl)
set_option maxHeartbeats 4000000 in
set_option maxRecDepth 100000 in
theorem crf_Md_target (l : Launch) (D : va_G) (a : Nat → Nat) (k : Nat → ClassId) (hAd : rf_Ad a) (σ : ST) (x1 : Int32) (x2 : Int32) (res : Int32 × ST) (h : rff_Md_target σ x1 x2 = some res) : Met l rfy_Md_target rfs_Md_target rfr_Md_target (rf_Pc D a k σ [.ref (a 0), .int x1, .int x2]) (va_Qi (fun (r : Int32) (u : ST) => r = res.1 ∧ u = res.2) (rf_B D a k) (rf_A a)) 0 0 (rf_A a) := by
  refine Met.ofW (cc := rfb_Md_target) (maxL := 3) (ret := (some .int)) (by decide) rfl ?_
  intro p e s m args below meth c s₁ B hml hv
  obtain ⟨rfl, hP, hK⟩ := hv
  have hx := B.exec
  have hb := B.bytes
  have hr := B.returns
  have hts : ∀ w ∈ ub_T, w.before _ s = true := fun w hw => atoms_spec (ws := rfs_Md_target) B.pre w (List.mem_cons_of_mem _ hw)
  have hown : s.vm.findClass rfR_Md = some m.cls := findClass_of_methodNamed B.named
  have hlocks := B.notSynchronized
  have hS : va_S (rf_A a) s.heap s.heap [] := va_S.rf
  have hl := lv_entry ([.ref (a 0), .int x1, .int x2]) (n := 3) (Nat.le_of_ble_eq_true rfl)
  rw [lg_entry_eq]
  generalize (lg_sl ([.ref (a 0), .int x1, .int x2]) ++ List.replicate (3 - (lg_sl ([.ref (a 0), .int x1, .int x2])).length) Slot.unset).toArray = ls at hl ⊢
  have hl : lv_has ls 3 [(0, .ref (a 0)), (1, .int x1), (2, .int x2)] := hl
  rw [rff_Md_target] at h
  refine lv_aload_n hx hb drf_Md_target_0 rfl (lv_at hl 0 rfl) ?_
  refine lv_iconst (v := 0) hx hb drf_Md_target_1 (by decide) ?_
  refine rfp_Md_68 hx hb hts hown hK hP hAd hS drf_Md_target_2 (fun H locs hP hS => ?_)
  refine lv_iload_n hx hb drf_Md_target_5 rfl (lv_at hl 1 rfl) ?_
  refine lv_if_lt (tgt := 25) hx hb drf_Md_target_6 (by decide) (fun c1 => ?_) (fun c1 => ?_)
  · have h := ob_t c1 h
    refine lv_iconst (v := (-1)) hx hb drf_Md_target_25 (by decide) ?_
    refine lv_goto (tgt := 40) hx hb drf_Md_target_26 (by decide) ?_
    exact W.iret (v := (-1)) hx hb hr (fun t ht hW => ⟨⟨(-1), (wr σ 18 1 0), rfl, ob_r h, by rw [ht]; exact hP, va_K.moved hW.alike hK⟩, hS.F ht⟩) hS.2.2 drf_Md_target_40
  · have h := ob_f c1 h
    refine lv_iload_n hx hb drf_Md_target_9 rfl (lv_at hl 1 rfl) ?_
    refine lv_aload_n hx hb drf_Md_target_10 rfl (lv_at hl 0 rfl) ?_
    refine rfg_Md_113 hx hb hts hown hK hP drf_Md_target_11 ?_
    refine W.eq (g2 := F0 m 14 ls [.int (σ 18 4), .int x1]) rfl ?_
    refine lv_icmp_ge (tgt := 25) hx hb drf_Md_target_14 (by decide) (fun c2 => ?_) (fun c2 => ?_)
    · have h := ob_t c2 h
      refine lv_iconst (v := (-1)) hx hb drf_Md_target_25 (by decide) ?_
      refine lv_goto (tgt := 40) hx hb drf_Md_target_26 (by decide) ?_
      exact W.iret (v := (-1)) hx hb hr (fun t ht hW => ⟨⟨(-1), (wr σ 18 1 0), rfl, ob_r h, by rw [ht]; exact hP, va_K.moved hW.alike hK⟩, hS.F ht⟩) hS.2.2 drf_Md_target_40
    · have h := ob_f c2 h
      refine lv_aload_n hx hb drf_Md_target_17 rfl (lv_at hl 0 rfl) ?_
      refine lv_iload_n hx hb drf_Md_target_18 rfl (lv_at hl 2 rfl) ?_
      obtain ⟨q3, hq3, h⟩ := ob_b h
      refine rf_cv_ir (As := [.int x2]) (rest := []) ⟨hx, hb, hml, hown, hts⟩ (crf_Md_isName l D a k hAd (wr σ 18 1 0) x2  q3 hq3) (rfc_Md_74 hts ⟨Nat.le_of_ble_eq_true rfl, Nat.le_of_ble_eq_true rfl⟩) (rf_rc0 hK hP) hK hP rfl hl.1 rfl (Nat.le_of_ble_eq_true rfl) drf_Md_target_19 hS (fun H locs hP hS => ?_)
      refine lv_if_ne (tgt := 29) hx hb drf_Md_target_22 (by decide) (fun c4 => ?_) (fun c4 => ?_)
      · have h := ob_f c4 h
        refine lv_aload_n hx hb drf_Md_target_29 rfl (lv_at hl 0 rfl) ?_
        refine rfg_Md_61 hx hb hts hown hK hP drf_Md_target_30 ?_
        refine lv_bipush (v := 12) hx hb drf_Md_target_33 (by decide) ?_
        refine lv_iload_n hx hb drf_Md_target_35 rfl (lv_at hl 1 rfl) ?_
        refine lv_imul hx hb drf_Md_target_36 ?_
        refine lv_iload_n hx hb drf_Md_target_37 rfl (lv_at hl 2 rfl) ?_
        refine lv_iadd hx hb drf_Md_target_38 ?_
        obtain ⟨hi5, h⟩ := ob_i h
        refine rf_iald (i := 17) hx hb hK hP (by decide) rfl hi5 drf_Md_target_39 ?_
        refine W.eq (g2 := F0 m 40 ls [.int (σ 17 ((12 * x1) + x2).toNatClampNeg)]) rfl ?_
        exact W.iret (v := (σ 17 ((12 * x1) + x2).toNatClampNeg)) hx hb hr (fun t ht hW => ⟨⟨(σ 17 ((12 * x1) + x2).toNatClampNeg), (wr σ 18 1 0), rfl, ob_r h, by rw [ht]; exact hP, va_K.moved hW.alike hK⟩, hS.F ht⟩) hS.2.2 drf_Md_target_40
      · have h := ob_t c4 h
        refine lv_iconst (v := (-1)) hx hb drf_Md_target_25 (by decide) ?_
        refine lv_goto (tgt := 40) hx hb drf_Md_target_26 (by decide) ?_
        exact W.iret (v := (-1)) hx hb hr (fun t ht hW => ⟨⟨(-1), (wr σ 18 1 0), rfl, ob_r h, by rw [ht]; exact hP, va_K.moved hW.alike hK⟩, hS.F ht⟩) hS.2.2 drf_Md_target_40
set_option maxHeartbeats 4000000 in
set_option maxRecDepth 100000 in
theorem crf_Md_redo (l : Launch) (D : va_G) (a : Nat → Nat) (k : Nat → ClassId) (hAd : rf_Ad a) (σ : ST) (x1 : Int32) (res : ST) (h : rff_Md_redo σ x1 = some res) : Met l rfy_Md_redo rfs_Md_redo rfr_Md_redo (rf_Pc D a k σ [.ref (a 0), .int x1]) (va_Qv (fun (u : ST) => u = res) (rf_B D a k) (rf_A a)) 0 0 (rf_A a) := by
  refine Met.ofW (cc := rfb_Md_redo) (maxL := 3) (ret := none) (by decide) rfl ?_
  intro p e s m args below meth c s₁ B hml hv
  obtain ⟨rfl, hP, hK⟩ := hv
  have hx := B.exec
  have hb := B.bytes
  have hr := B.returns
  have hts : ∀ w ∈ ub_T, w.before _ s = true := fun w hw => atoms_spec (ws := rfs_Md_redo) B.pre w (List.mem_cons_of_mem _ hw)
  have hown : s.vm.findClass rfR_Md = some m.cls := findClass_of_methodNamed B.named
  have hlocks := B.notSynchronized
  have hS : va_S (rf_A a) s.heap s.heap [] := va_S.rf
  have hl := lv_entry ([.ref (a 0), .int x1]) (n := 3) (Nat.le_of_ble_eq_true rfl)
  rw [lg_entry_eq]
  generalize (lg_sl ([.ref (a 0), .int x1]) ++ List.replicate (3 - (lg_sl ([.ref (a 0), .int x1])).length) Slot.unset).toArray = ls at hl ⊢
  have hl : lv_has ls 3 [(0, .ref (a 0)), (1, .int x1)] := hl
  rw [rff_Md_redo] at h
  refine lv_aload_n hx hb drf_Md_redo_0 rfl (lv_at hl 0 rfl) ?_
  refine rfg_Md_49 hx hb hts hown hK hP drf_Md_redo_1 ?_
  refine lv_iload_n hx hb drf_Md_redo_4 rfl (lv_at hl 1 rfl) ?_
  obtain ⟨hi1, h⟩ := ob_i h
  refine rf_iald (i := 13) hx hb hK hP (by decide) rfl hi1 drf_Md_redo_5 ?_
  refine lv_istore_n (lv' := [(2, .int (σ 13 x1.toNatClampNeg)), (0, .ref (a 0)), (1, .int x1)]) hx hb drf_Md_redo_6 rfl hl (by decide) rfl (fun ls hl => ?_)
  refine lv_aload_n hx hb drf_Md_redo_7 rfl (lv_at hl 1 rfl) ?_
  refine lv_iload_n hx hb drf_Md_redo_8 rfl (lv_at hl 0 rfl) ?_
  obtain ⟨q2, hq2, h⟩ := ob_b h
  refine rf_cv_ir (As := [.int (σ 13 x1.toNatClampNeg)]) (rest := []) ⟨hx, hb, hml, hown, hts⟩ (crf_Md_chiefOf l D a k hAd σ (σ 13 x1.toNatClampNeg)  q2 hq2) (rfc_Md_92 hts ⟨Nat.le_of_ble_eq_true rfl, Nat.le_of_ble_eq_true rfl⟩) (rf_rc0 hK hP) hK hP rfl hl.1 rfl (Nat.le_of_ble_eq_true rfl) drf_Md_redo_9 hS (fun H locs hP hS => ?_)
  refine lv_iload_n hx hb drf_Md_redo_12 rfl (lv_at hl 0 rfl) ?_
  refine lv_icmp_ne (tgt := 24) hx hb drf_Md_redo_13 (by decide) (fun c3 => ?_) (fun c3 => ?_)
  · have h := ob_f c3 h
    refine lv_aload_n hx hb drf_Md_redo_24 rfl (lv_at hl 1 rfl) ?_
    refine rfg_Md_46 hx hb hts hown hK hP drf_Md_redo_25 ?_
    refine lv_iload_n hx hb drf_Md_redo_28 rfl (lv_at hl 2 rfl) ?_
    refine lv_iconst (v := 3) hx hb drf_Md_redo_29 (by decide) ?_
    obtain ⟨hi4, h⟩ := ob_i h
    refine rf_iast (i := 12) hx hb hK hP hAd hS (by decide) rfl hi4 drf_Md_redo_30 (fun H locs hP hS => ?_)
    exact W.vret hx hb hr (fun t ht hW => ⟨⟨(wr σ 12 x1.toNatClampNeg 3), rfl, Option.some.inj h, by rw [ht]; exact hP, va_K.moved hW.alike hK⟩, hS.F ht⟩) hS.2.2 drf_Md_redo_31
  · have h := ob_t c3 h
    refine lv_aload_n hx hb drf_Md_redo_16 rfl (lv_at hl 1 rfl) ?_
    refine lv_iload_n hx hb drf_Md_redo_17 rfl (lv_at hl 0 rfl) ?_
    obtain ⟨q5, hq5, h⟩ := ob_b h
    refine rf_cv_iw (As := [.int (σ 13 x1.toNatClampNeg)]) (rest := []) ⟨hx, hb, hml, hown, hts⟩ (crf_Md_find l D a k hAd σ (σ 13 x1.toNatClampNeg)  q5 hq5) (rfc_Md_102 hts ⟨Nat.le_of_ble_eq_true rfl, Nat.le_of_ble_eq_true rfl⟩) (rf_rc0 hK hP) hK hP rfl hl.1 rfl (Nat.le_of_ble_eq_true rfl) drf_Md_redo_18 hS (fun H locs hP hS => ?_)
    refine lv_if_gt (tgt := 32) hx hb drf_Md_redo_21 (by decide) (fun c6 => ?_) (fun c6 => ?_)
    · have h := ob_t c6 h
      refine lv_aload_n hx hb drf_Md_redo_32 rfl (lv_at hl 1 rfl) ?_
      refine rfg_Md_52 hx hb hts hown hK hP drf_Md_redo_33 ?_
      refine lv_iload_n hx hb drf_Md_redo_36 rfl (lv_at hl 2 rfl) ?_
      refine lv_dup2_11 hx hb drf_Md_redo_37 rfl rfl ?_
      obtain ⟨hi7, h⟩ := ob_i h
      refine rf_iald (i := 14) hx hb hK hP (by decide) rfl hi7 drf_Md_redo_38 ?_
      refine lv_iconst (v := 1) hx hb drf_Md_redo_39 (by decide) ?_
      refine lv_iadd hx hb drf_Md_redo_40 ?_
      obtain ⟨hi8, h⟩ := ob_i h
      refine rf_iast (i := 14) hx hb hK hP hAd hS (by decide) rfl hi8 drf_Md_redo_41 (fun H locs hP hS => ?_)
      refine lv_aload_n hx hb drf_Md_redo_42 rfl (lv_at hl 1 rfl) ?_
      refine lv_iload_n hx hb drf_Md_redo_43 rfl (lv_at hl 2 rfl) ?_
      obtain ⟨q9, hq9, h⟩ := ob_b h
      refine rf_cv_v (As := [.int x1]) (rest := []) ⟨hx, hb, hml, hown, hts⟩ (crf_Md_fill l D a k hAd (wr q5.2 14 x1.toNatClampNeg ((q5.2 14 x1.toNatClampNeg) + 1)) x1  q9 hq9) (rfc_Md_129 hts ⟨Nat.le_of_ble_eq_true rfl, Nat.le_of_ble_eq_true rfl⟩) (rf_rc0 hK hP) hK hP rfl hl.1 rfl (Nat.le_of_ble_eq_true rfl) drf_Md_redo_44 hS (fun H locs hP hS => ?_)
      exact W.vret hx hb hr (fun t ht hW => ⟨⟨q9, rfl, Option.some.inj h, by rw [ht]; exact hP, va_K.moved hW.alike hK⟩, hS.F ht⟩) hS.2.2 drf_Md_redo_47
    · have h := ob_f c6 h
      refine lv_aload_n hx hb drf_Md_redo_24 rfl (lv_at hl 1 rfl) ?_
      refine rfg_Md_46 hx hb hts hown hK hP drf_Md_redo_25 ?_
      refine lv_iload_n hx hb drf_Md_redo_28 rfl (lv_at hl 2 rfl) ?_
      refine lv_iconst (v := 3) hx hb drf_Md_redo_29 (by decide) ?_
      obtain ⟨hi10, h⟩ := ob_i h
      refine rf_iast (i := 12) hx hb hK hP hAd hS (by decide) rfl hi10 drf_Md_redo_30 (fun H locs hP hS => ?_)
      exact W.vret hx hb hr (fun t ht hW => ⟨⟨(wr q5.2 12 x1.toNatClampNeg 3), rfl, Option.some.inj h, by rw [ht]; exact hP, va_K.moved hW.alike hK⟩, hS.F ht⟩) hS.2.2 drf_Md_redo_31

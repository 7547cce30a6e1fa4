set_option maxHeartbeats 4000000 in
set_option maxRecDepth 100000 in
theorem crf_Md_pass (l : Launch) (D : va_G) (a : Nat → Nat) (k : Nat → ClassId) (hAd : rf_Ad a) (σ : ST) (x1 : Int32) (x2 : Int32) (res : Int32 × ST) (h : rff_Md_pass σ x1 x2 = some res) : Met l rfy_Md_pass rfs_Md_pass rfr_Md_pass (rf_Pc D a k σ [.ref (a 0), .int x1, .int x2]) (va_Qi (fun (r : Int32) (u : ST) => r = res.1 ∧ u = res.2) (rf_B D a k) (rf_A a)) 0 0 (rf_A a) := by
  refine Met.ofW (cc := rfb_Md_pass) (maxL := 8) (ret := (some .int)) (by decide) rfl ?_
  intro p e s m args below meth c s₁ B hml hv
  obtain ⟨rfl, hP, hK⟩ := hv
  have hx := B.exec
  have hb := B.bytes
  have hr := B.returns
  have hts : ∀ w ∈ ub_T, w.before _ s = true := fun w hw => atoms_spec (ws := rfs_Md_pass) B.pre w (List.mem_cons_of_mem _ hw)
  have hown : s.vm.findClass rfR_Md = some m.cls := findClass_of_methodNamed B.named
  have hlocks := B.notSynchronized
  have hS : va_S (rf_A a) s.heap s.heap [] := va_S.rf
  have hl := lv_entry ([.ref (a 0), .int x1, .int x2]) (n := 8) (Nat.le_of_ble_eq_true rfl)
  rw [lg_entry_eq]
  generalize (lg_sl ([.ref (a 0), .int x1, .int x2]) ++ List.replicate (8 - (lg_sl ([.ref (a 0), .int x1, .int x2])).length) Slot.unset).toArray = ls at hl ⊢
  have hl : lv_has ls 8 [(0, .ref (a 0)), (1, .int x1), (2, .int x2)] := hl
  have jp26 : ∀ (σ : ST) (y1 : Int32) (y2 : Int32) (H : Heap) (locs : List Loc) (ls : Array Slot), rfj_Md_pass_26 σ y1 y2 = some res → rf_P D a k σ H → va_S (rf_A a) s.heap H locs → lv_has ls 8 [(0, .ref (a 0)), (1, .int y1), (2, .int y2)] → W p l e (headSpec rfs_Md_pass rfr_Md_pass).room s m (([.ref (a 0), .int x1, .int x2] : List Value)).toArray below meth c H locs 0 0 (MQ below (va_Qi (fun (r : Int32) (u : ST) => r = res.1 ∧ u = res.2) (rf_B D a k) (rf_A a)) (([.ref (a 0), .int x1, .int x2] : List Value)).toArray s 0 0 (rf_A a)) (F0 m 26 ls []) := by
    intro σ y1 y2 H locs ls h hP hS hl
    rw [rfj_Md_pass_26] at h
    refine lv_iconst (v := (-1)) hx hb drf_Md_pass_26 (by decide) ?_
    exact W.iret (v := (-1)) hx hb hr (fun t ht hW => ⟨⟨(-1), σ, rfl, ob_r h, by rw [ht]; exact hP, va_K.moved hW.alike hK⟩, hS.F ht⟩) hS.2.2 drf_Md_pass_27
  have lp144 : ∀ (n : Nat) (σ : ST) (y1 : Int32) (y2 : Int32) (y3 : Int32) (y4 : Int32) (y5 : Int32) (y6 : Int32) (y7 : Int32) (H : Heap) (locs : List Loc) (ls : Array Slot) (rs : ST × Int32 × Int32 × Int32 × Int32 × Int32 × Int32 × Int32), rfl_Md_pass_144 n σ y1 y2 y3 y4 y5 y6 y7 = some rs → rf_P D a k σ H → va_S (rf_A a) s.heap H locs → lv_has ls 8 [(0, .ref (a 0)), (1, .int y1), (2, .int y2), (3, .int y3), (4, .int y4), (5, .int y5), (6, .int y6), (7, .int y7)] → (∀ (H : Heap) (locs : List Loc) (ls : Array Slot), rf_P D a k rs.1 H → va_S (rf_A a) s.heap H locs → lv_has ls 8 [(0, .ref (a 0)), (1, .int rs.2.1), (2, .int rs.2.2.1), (3, .int rs.2.2.2.1), (4, .int rs.2.2.2.2.1), (5, .int rs.2.2.2.2.2.1), (6, .int rs.2.2.2.2.2.2.1), (7, .int rs.2.2.2.2.2.2.2)] → W p l e (headSpec rfs_Md_pass rfr_Md_pass).room s m (([.ref (a 0), .int x1, .int x2] : List Value)).toArray below meth c H locs 0 0 (MQ below (va_Qi (fun (r : Int32) (u : ST) => r = res.1 ∧ u = res.2) (rf_B D a k) (rf_A a)) (([.ref (a 0), .int x1, .int x2] : List Value)).toArray s 0 0 (rf_A a)) (F0 m 198 ls [])) → W p l e (headSpec rfs_Md_pass rfr_Md_pass).room s m (([.ref (a 0), .int x1, .int x2] : List Value)).toArray below meth c H locs 0 0 (MQ below (va_Qi (fun (r : Int32) (u : ST) => r = res.1 ∧ u = res.2) (rf_B D a k) (rf_A a)) (([.ref (a 0), .int x1, .int x2] : List Value)).toArray s 0 0 (rf_A a)) (F0 m 144 ls []) := by
    intro n
    induction n with
    | zero =>
      intro σ y1 y2 y3 y4 y5 y6 y7 H locs ls rs h
      exact absurd h (fun z => by cases z)
    | succ n ih =>
      intro σ y1 y2 y3 y4 y5 y6 y7 H locs ls rs h hP hS hl kx
      rw [rfl_Md_pass_144] at h
      refine lv_iload hx hb drf_Md_pass_144 (lv_at hl 7 rfl) ?_
      refine lv_aload_n hx hb drf_Md_pass_146 rfl (lv_at hl 0 rfl) ?_
      refine rfg_Md_71 hx hb hts hown hK hP drf_Md_pass_147 ?_
      refine lv_icmp_ge (tgt := 198) hx hb drf_Md_pass_150 (by decide) (fun c10 => ?_) (fun c10 => ?_)
      · have h := ob_t c10 h
        obtain rfl := Option.some.inj h
        exact kx _ _ _ hP hS (lv_sub hl [0, 1, 2, 3, 4, 5, 6, 7] rfl)
      · have h := ob_f c10 h
        refine lv_iload hx hb drf_Md_pass_153 (lv_at hl 6 rfl) ?_
        refine lv_if_ne (tgt := 185) hx hb drf_Md_pass_155 (by decide) (fun c11 => ?_) (fun c11 => ?_)
        · have h := ob_f c11 h
          refine lv_iconst (v := 1) hx hb drf_Md_pass_185 (by decide) ?_
          refine lv_goto (tgt := 190) hx hb drf_Md_pass_186 (by decide) ?_
          refine lv_istore (lv' := [(6, .int 1), (0, .ref (a 0)), (1, .int y1), (2, .int y2), (3, .int y3), (4, .int y4), (5, .int y5), (7, .int y7)]) hx hb drf_Md_pass_190 hl (by decide) rfl (fun ls hl => ?_)
          refine lv_iinc (v := (y7 + 1)) (lv' := [(7, .int (y7 + 1)), (6, .int 1), (0, .ref (a 0)), (1, .int y1), (2, .int y2), (3, .int y3), (4, .int y4), (5, .int y5)]) hx hb drf_Md_pass_192 hl (k := 7) rfl rfl (by decide) rfl (fun ls hl => ?_)
          refine lv_goto (tgt := 144) hx hb drf_Md_pass_195 (by decide) ?_
          exact ih σ y1 y2 y3 y4 y5 1 (y7 + 1) _ _ _ rs h hP hS (lv_sub hl [2, 3, 4, 5, 6, 7, 1, 0] rfl) kx
        · have h := ob_t c11 h
          refine lv_iload_n hx hb drf_Md_pass_158 rfl (lv_at hl 3 rfl) ?_
          refine lv_iload hx hb drf_Md_pass_159 (lv_at hl 7 rfl) ?_
          refine lv_ishr hx hb drf_Md_pass_161 ?_
          refine lv_iconst (v := 1) hx hb drf_Md_pass_162 (by decide) ?_
          refine lv_iand hx hb drf_Md_pass_163 ?_
          refine lv_iconst (v := 1) hx hb drf_Md_pass_164 (by decide) ?_
          refine lv_icmp_ne (tgt := 189) hx hb drf_Md_pass_165 (by decide) (fun c12 => ?_) (fun c12 => ?_)
          · have h := ob_f c12 h
            refine lv_iconst (v := 0) hx hb drf_Md_pass_189 (by decide) ?_
            refine lv_istore (lv' := [(6, .int 0), (0, .ref (a 0)), (1, .int y1), (2, .int y2), (3, .int y3), (4, .int y4), (5, .int y5), (7, .int y7)]) hx hb drf_Md_pass_190 hl (by decide) rfl (fun ls hl => ?_)
            refine lv_iinc (v := (y7 + 1)) (lv' := [(7, .int (y7 + 1)), (6, .int 0), (0, .ref (a 0)), (1, .int y1), (2, .int y2), (3, .int y3), (4, .int y4), (5, .int y5)]) hx hb drf_Md_pass_192 hl (k := 7) rfl rfl (by decide) rfl (fun ls hl => ?_)
            refine lv_goto (tgt := 144) hx hb drf_Md_pass_195 (by decide) ?_
            exact ih σ y1 y2 y3 y4 y5 0 (y7 + 1) _ _ _ rs h hP hS (lv_sub hl [2, 3, 4, 5, 6, 7, 1, 0] rfl) kx
          · have h := ob_t c12 h
            refine lv_aload_n hx hb drf_Md_pass_168 rfl (lv_at hl 0 rfl) ?_
            refine rfg_Md_61 hx hb hts hown hK hP drf_Md_pass_169 ?_
            refine lv_bipush (v := 12) hx hb drf_Md_pass_172 (by decide) ?_
            refine lv_iload hx hb drf_Md_pass_174 (lv_at hl 5 rfl) ?_
            refine lv_imul hx hb drf_Md_pass_176 ?_
            refine lv_iload hx hb drf_Md_pass_177 (lv_at hl 7 rfl) ?_
            refine lv_iadd hx hb drf_Md_pass_179 ?_
            obtain ⟨hi13, h⟩ := ob_i h
            refine rf_iald (i := 17) hx hb hK hP (by decide) rfl hi13 drf_Md_pass_180 ?_
            refine lv_iconst (v := (-1)) hx hb drf_Md_pass_181 (by decide) ?_
            refine lv_icmp_eq (tgt := 189) hx hb drf_Md_pass_182 (by decide) (fun c14 => ?_) (fun c14 => ?_)
            · have h := ob_t c14 h
              refine lv_iconst (v := 0) hx hb drf_Md_pass_189 (by decide) ?_
              refine lv_istore (lv' := [(6, .int 0), (0, .ref (a 0)), (1, .int y1), (2, .int y2), (3, .int y3), (4, .int y4), (5, .int y5), (7, .int y7)]) hx hb drf_Md_pass_190 hl (by decide) rfl (fun ls hl => ?_)
              refine lv_iinc (v := (y7 + 1)) (lv' := [(7, .int (y7 + 1)), (6, .int 0), (0, .ref (a 0)), (1, .int y1), (2, .int y2), (3, .int y3), (4, .int y4), (5, .int y5)]) hx hb drf_Md_pass_192 hl (k := 7) rfl rfl (by decide) rfl (fun ls hl => ?_)
              refine lv_goto (tgt := 144) hx hb drf_Md_pass_195 (by decide) ?_
              exact ih σ y1 y2 y3 y4 y5 0 (y7 + 1) _ _ _ rs h hP hS (lv_sub hl [2, 3, 4, 5, 6, 7, 1, 0] rfl) kx
            · have h := ob_f c14 h
              refine lv_iconst (v := 1) hx hb drf_Md_pass_185 (by decide) ?_
              refine lv_goto (tgt := 190) hx hb drf_Md_pass_186 (by decide) ?_
              refine lv_istore (lv' := [(6, .int 1), (0, .ref (a 0)), (1, .int y1), (2, .int y2), (3, .int y3), (4, .int y4), (5, .int y5), (7, .int y7)]) hx hb drf_Md_pass_190 hl (by decide) rfl (fun ls hl => ?_)
              refine lv_iinc (v := (y7 + 1)) (lv' := [(7, .int (y7 + 1)), (6, .int 1), (0, .ref (a 0)), (1, .int y1), (2, .int y2), (3, .int y3), (4, .int y4), (5, .int y5)]) hx hb drf_Md_pass_192 hl (k := 7) rfl rfl (by decide) rfl (fun ls hl => ?_)
              refine lv_goto (tgt := 144) hx hb drf_Md_pass_195 (by decide) ?_
              exact ih σ y1 y2 y3 y4 y5 1 (y7 + 1) _ _ _ rs h hP hS (lv_sub hl [2, 3, 4, 5, 6, 7, 1, 0] rfl) kx
  have lp129 : ∀ (n : Nat) (σ : ST) (y1 : Int32) (y2 : Int32) (y3 : Int32) (y4 : Int32) (y5 : Int32) (H : Heap) (locs : List Loc) (ls : Array Slot), rfl_Md_pass_129 n σ y1 y2 y3 y4 y5 = some res → rf_P D a k σ H → va_S (rf_A a) s.heap H locs → lv_has ls 8 [(0, .ref (a 0)), (1, .int y1), (2, .int y2), (3, .int y3), (4, .int y4), (5, .int y5)] → W p l e (headSpec rfs_Md_pass rfr_Md_pass).room s m (([.ref (a 0), .int x1, .int x2] : List Value)).toArray below meth c H locs 0 0 (MQ below (va_Qi (fun (r : Int32) (u : ST) => r = res.1 ∧ u = res.2) (rf_B D a k) (rf_A a)) (([.ref (a 0), .int x1, .int x2] : List Value)).toArray s 0 0 (rf_A a)) (F0 m 129 ls []) := by
    intro n
    induction n with
    | zero =>
      intro σ y1 y2 y3 y4 y5 H locs ls h
      exact absurd h (fun z => by cases z)
    | succ n ih =>
      intro σ y1 y2 y3 y4 y5 H locs ls h hP hS hl
      rw [rfl_Md_pass_129] at h
      refine lv_iload hx hb drf_Md_pass_129 (lv_at hl 5 rfl) ?_
      refine lv_aload_n hx hb drf_Md_pass_131 rfl (lv_at hl 0 rfl) ?_
      refine rfg_Md_113 hx hb hts hown hK hP drf_Md_pass_132 ?_
      refine lv_icmp_ge (tgt := 225) hx hb drf_Md_pass_135 (by decide) (fun c9 => ?_) (fun c9 => ?_)
      · have h := ob_t c9 h
        refine lv_iload hx hb drf_Md_pass_225 (lv_at hl 4 rfl) ?_
        exact W.iret (v := y4) hx hb hr (fun t ht hW => ⟨⟨y4, σ, rfl, ob_r h, by rw [ht]; exact hP, va_K.moved hW.alike hK⟩, hS.F ht⟩) hS.2.2 drf_Md_pass_227
      · have h := ob_f c9 h
        refine lv_iconst (v := 0) hx hb drf_Md_pass_138 (by decide) ?_
        refine lv_istore (lv' := [(6, .int 0), (0, .ref (a 0)), (1, .int y1), (2, .int y2), (3, .int y3), (4, .int y4), (5, .int y5)]) hx hb drf_Md_pass_139 hl (by decide) rfl (fun ls hl => ?_)
        refine lv_iconst (v := 0) hx hb drf_Md_pass_141 (by decide) ?_
        refine lv_istore (lv' := [(7, .int 0), (6, .int 0), (0, .ref (a 0)), (1, .int y1), (2, .int y2), (3, .int y3), (4, .int y4), (5, .int y5)]) hx hb drf_Md_pass_142 hl (by decide) rfl (fun ls hl => ?_)
        obtain ⟨q15, hq15, h⟩ := ob_b h
        refine lp144 200 σ y1 y2 y3 y4 y5 0 0 _ _ _ q15 hq15 hP hS (lv_sub hl [2, 3, 4, 5, 6, 7, 1, 0] rfl) (fun H locs ls hP hS hl => ?_)
        refine lv_aload_n hx hb drf_Md_pass_198 rfl (lv_at hl 0 rfl) ?_
        refine rfg_Md_46 hx hb hts hown hK hP drf_Md_pass_199 ?_
        refine lv_iload hx hb drf_Md_pass_202 (lv_at hl 5 rfl) ?_
        obtain ⟨hi16, h⟩ := ob_i h
        refine rf_iald (i := 12) hx hb hK hP (by decide) rfl hi16 drf_Md_pass_204 ?_
        refine lv_if_ne (tgt := 219) hx hb drf_Md_pass_205 (by decide) (fun c17 => ?_) (fun c17 => ?_)
        · have h := ob_f c17 h
          refine lv_iinc (v := (q15.2.2.2.2.2.1 + 1)) (lv' := [(5, .int (q15.2.2.2.2.2.1 + 1)), (0, .ref (a 0)), (1, .int q15.2.1), (2, .int q15.2.2.1), (3, .int q15.2.2.2.1), (4, .int q15.2.2.2.2.1), (6, .int q15.2.2.2.2.2.2.1), (7, .int q15.2.2.2.2.2.2.2)]) hx hb drf_Md_pass_219 hl (k := 5) rfl rfl (by decide) rfl (fun ls hl => ?_)
          refine lv_goto (tgt := 129) hx hb drf_Md_pass_222 (by decide) ?_
          exact ih q15.1 q15.2.1 q15.2.2.1 q15.2.2.2.1 q15.2.2.2.2.1 (q15.2.2.2.2.2.1 + 1) _ _ _ h hP hS (lv_sub hl [1, 2, 3, 4, 5, 0] rfl)
        · have h := ob_t c17 h
          refine lv_iload hx hb drf_Md_pass_208 (lv_at hl 6 rfl) ?_
          refine lv_if_eq (tgt := 219) hx hb drf_Md_pass_210 (by decide) (fun c18 => ?_) (fun c18 => ?_)
          · have h := ob_t c18 h
            refine lv_iinc (v := (q15.2.2.2.2.2.1 + 1)) (lv' := [(5, .int (q15.2.2.2.2.2.1 + 1)), (0, .ref (a 0)), (1, .int q15.2.1), (2, .int q15.2.2.1), (3, .int q15.2.2.2.1), (4, .int q15.2.2.2.2.1), (6, .int q15.2.2.2.2.2.2.1), (7, .int q15.2.2.2.2.2.2.2)]) hx hb drf_Md_pass_219 hl (k := 5) rfl rfl (by decide) rfl (fun ls hl => ?_)
            refine lv_goto (tgt := 129) hx hb drf_Md_pass_222 (by decide) ?_
            exact ih q15.1 q15.2.1 q15.2.2.1 q15.2.2.2.1 q15.2.2.2.2.1 (q15.2.2.2.2.2.1 + 1) _ _ _ h hP hS (lv_sub hl [1, 2, 3, 4, 5, 0] rfl)
          · have h := ob_f c18 h
            refine lv_aload_n hx hb drf_Md_pass_213 rfl (lv_at hl 0 rfl) ?_
            refine lv_iload hx hb drf_Md_pass_214 (lv_at hl 5 rfl) ?_
            obtain ⟨q19, hq19, h⟩ := ob_b h
            refine rf_cv_v (As := [.int q15.2.2.2.2.2.1]) (rest := []) ⟨hx, hb, hml, hown, hts⟩ (crf_Md_redo l D a k hAd q15.1 q15.2.2.2.2.2.1  q19 hq19) (rfc_Md_142 hts ⟨Nat.le_of_ble_eq_true rfl, Nat.le_of_ble_eq_true rfl⟩) (rf_rc0 hK hP) hK hP rfl hl.1 rfl (Nat.le_of_ble_eq_true rfl) drf_Md_pass_216 hS (fun H locs hP hS => ?_)
            refine lv_iinc (v := (q15.2.2.2.2.2.1 + 1)) (lv' := [(5, .int (q15.2.2.2.2.2.1 + 1)), (0, .ref (a 0)), (1, .int q15.2.1), (2, .int q15.2.2.1), (3, .int q15.2.2.2.1), (4, .int q15.2.2.2.2.1), (6, .int q15.2.2.2.2.2.2.1), (7, .int q15.2.2.2.2.2.2.2)]) hx hb drf_Md_pass_219 hl (k := 5) rfl rfl (by decide) rfl (fun ls hl => ?_)
            refine lv_goto (tgt := 129) hx hb drf_Md_pass_222 (by decide) ?_
            exact ih q19 q15.2.1 q15.2.2.1 q15.2.2.2.1 q15.2.2.2.2.1 (q15.2.2.2.2.2.1 + 1) _ _ _ h hP hS (lv_sub hl [1, 2, 3, 4, 5, 0] rfl)
  have lp57 : ∀ (n : Nat) (σ : ST) (y1 : Int32) (y2 : Int32) (y3 : Int32) (y4 : Int32) (y5 : Int32) (H : Heap) (locs : List Loc) (ls : Array Slot), rfl_Md_pass_57 n σ y1 y2 y3 y4 y5 = some res → rf_P D a k σ H → va_S (rf_A a) s.heap H locs → lv_has ls 8 [(0, .ref (a 0)), (1, .int y1), (2, .int y2), (3, .int y3), (4, .int y4), (5, .int y5)] → W p l e (headSpec rfs_Md_pass rfr_Md_pass).room s m (([.ref (a 0), .int x1, .int x2] : List Value)).toArray below meth c H locs 0 0 (MQ below (va_Qi (fun (r : Int32) (u : ST) => r = res.1 ∧ u = res.2) (rf_B D a k) (rf_A a)) (([.ref (a 0), .int x1, .int x2] : List Value)).toArray s 0 0 (rf_A a)) (F0 m 57 ls []) := by
    intro n
    induction n with
    | zero =>
      intro σ y1 y2 y3 y4 y5 H locs ls h
      exact absurd h (fun z => by cases z)
    | succ n ih =>
      intro σ y1 y2 y3 y4 y5 H locs ls h hP hS hl
      rw [rfl_Md_pass_57] at h
      refine lv_iload hx hb drf_Md_pass_57 (lv_at hl 5 rfl) ?_
      refine lv_aload_n hx hb drf_Md_pass_59 rfl (lv_at hl 0 rfl) ?_
      refine rfg_Md_71 hx hb hts hown hK hP drf_Md_pass_60 ?_
      refine lv_icmp_ge (tgt := 126) hx hb drf_Md_pass_63 (by decide) (fun c8 => ?_) (fun c8 => ?_)
      · have h := ob_t c8 h
        refine lv_iconst (v := 0) hx hb drf_Md_pass_126 (by decide) ?_
        refine lv_istore (lv' := [(5, .int 0), (0, .ref (a 0)), (1, .int y1), (2, .int y2), (3, .int y3), (4, .int y4)]) hx hb drf_Md_pass_127 hl (by decide) rfl (fun ls hl => ?_)
        exact lp129 200 σ y1 y2 y3 y4 0 _ _ _ h hP hS (lv_sub hl [1, 2, 3, 4, 5, 0] rfl)
      · have h := ob_f c8 h
        refine lv_aload_n hx hb drf_Md_pass_66 rfl (lv_at hl 0 rfl) ?_
        refine rfg_Md_61 hx hb hts hown hK hP drf_Md_pass_67 ?_
        refine lv_bipush (v := 12) hx hb drf_Md_pass_70 (by decide) ?_
        refine lv_iload_n hx hb drf_Md_pass_72 rfl (lv_at hl 1 rfl) ?_
        refine lv_imul hx hb drf_Md_pass_73 ?_
        refine lv_iload hx hb drf_Md_pass_74 (lv_at hl 5 rfl) ?_
        refine lv_iadd hx hb drf_Md_pass_76 ?_
        obtain ⟨hi20, h⟩ := ob_i h
        refine rf_iald (i := 17) hx hb hK hP (by decide) rfl hi20 drf_Md_pass_77 ?_
        refine lv_aload_n hx hb drf_Md_pass_78 rfl (lv_at hl 0 rfl) ?_
        refine rfg_Md_16 hx hb hts hown hK hP drf_Md_pass_79 ?_
        refine lv_iload hx hb drf_Md_pass_82 (lv_at hl 5 rfl) ?_
        obtain ⟨hi21, h⟩ := ob_i h
        refine rf_iald (i := 2) hx hb hK hP (by decide) rfl hi21 drf_Md_pass_84 ?_
        refine lv_icmp_gt (tgt := 91) hx hb drf_Md_pass_85 (by decide) (fun c22 => ?_) (fun c22 => ?_)
        · have h := ob_t c22 h
          refine lv_aload_n hx hb drf_Md_pass_91 rfl (lv_at hl 0 rfl) ?_
          refine rfg_Md_16 hx hb hts hown hK hP drf_Md_pass_92 ?_
          refine lv_iload hx hb drf_Md_pass_95 (lv_at hl 5 rfl) ?_
          refine lv_aload_n hx hb drf_Md_pass_97 rfl (lv_at hl 0 rfl) ?_
          refine rfg_Md_61 hx hb hts hown hK hP drf_Md_pass_98 ?_
          refine lv_bipush (v := 12) hx hb drf_Md_pass_101 (by decide) ?_
          refine lv_iload_n hx hb drf_Md_pass_103 rfl (lv_at hl 1 rfl) ?_
          refine lv_imul hx hb drf_Md_pass_104 ?_
          refine lv_iload hx hb drf_Md_pass_105 (lv_at hl 5 rfl) ?_
          refine lv_iadd hx hb drf_Md_pass_107 ?_
          obtain ⟨hi23, h⟩ := ob_i h
          refine rf_iald (i := 17) hx hb hK hP (by decide) rfl hi23 drf_Md_pass_108 ?_
          obtain ⟨hi24, h⟩ := ob_i h
          refine rf_iast (i := 2) hx hb hK hP hAd hS (by decide) rfl hi24 drf_Md_pass_109 (fun H locs hP hS => ?_)
          refine lv_iload_n hx hb drf_Md_pass_110 rfl (lv_at hl 3 rfl) ?_
          refine lv_iconst (v := 1) hx hb drf_Md_pass_111 (by decide) ?_
          refine lv_iload hx hb drf_Md_pass_112 (lv_at hl 5 rfl) ?_
          refine lv_ishl hx hb drf_Md_pass_114 ?_
          refine lv_ior hx hb drf_Md_pass_115 ?_
          refine lv_istore_n (lv' := [(3, .int (y3 ||| (1 <<< (y5 &&& 31)))), (0, .ref (a 0)), (1, .int y1), (2, .int y2), (4, .int y4), (5, .int y5)]) hx hb drf_Md_pass_116 rfl hl (by decide) rfl (fun ls hl => ?_)
          refine lv_iinc (v := (y4 + 1)) (lv' := [(4, .int (y4 + 1)), (3, .int (y3 ||| (1 <<< (y5 &&& 31)))), (0, .ref (a 0)), (1, .int y1), (2, .int y2), (5, .int y5)]) hx hb drf_Md_pass_117 hl (k := 4) rfl rfl (by decide) rfl (fun ls hl => ?_)
          refine lv_iinc (v := (y5 + 1)) (lv' := [(5, .int (y5 + 1)), (4, .int (y4 + 1)), (3, .int (y3 ||| (1 <<< (y5 &&& 31)))), (0, .ref (a 0)), (1, .int y1), (2, .int y2)]) hx hb drf_Md_pass_120 hl (k := 5) rfl rfl (by decide) rfl (fun ls hl => ?_)
          refine lv_goto (tgt := 57) hx hb drf_Md_pass_123 (by decide) ?_
          exact ih (wr σ 2 y5.toNatClampNeg (σ 17 ((12 * y1) + y5).toNatClampNeg)) y1 y2 (y3 ||| (1 <<< (y5 &&& 31))) (y4 + 1) (y5 + 1) _ _ _ h hP hS (lv_sub hl [3, 4, 5, 2, 1, 0] rfl)
        · have h := ob_f c22 h
          refine lv_goto (tgt := 120) hx hb drf_Md_pass_88 (by decide) ?_
          refine lv_iinc (v := (y5 + 1)) (lv' := [(5, .int (y5 + 1)), (0, .ref (a 0)), (1, .int y1), (2, .int y2), (3, .int y3), (4, .int y4)]) hx hb drf_Md_pass_120 hl (k := 5) rfl rfl (by decide) rfl (fun ls hl => ?_)
          refine lv_goto (tgt := 57) hx hb drf_Md_pass_123 (by decide) ?_
          exact ih σ y1 y2 y3 y4 (y5 + 1) _ _ _ h hP hS (lv_sub hl [1, 2, 3, 4, 5, 0] rfl)
  rw [rff_Md_pass] at h
  refine lv_aload_n hx hb drf_Md_pass_0 rfl (lv_at hl 0 rfl) ?_
  refine lv_iconst (v := 0) hx hb drf_Md_pass_1 (by decide) ?_
  refine rfp_Md_68 hx hb hts hown hK hP hAd hS drf_Md_pass_2 (fun H locs hP hS => ?_)
  refine lv_iload_n hx hb drf_Md_pass_5 rfl (lv_at hl 1 rfl) ?_
  refine lv_if_lt (tgt := 26) hx hb drf_Md_pass_6 (by decide) (fun c1 => ?_) (fun c1 => ?_)
  · have h := ob_t c1 h
    exact jp26 (wr σ 18 1 0) x1 x2 _ _ _ h hP hS (lv_sub hl [0, 1, 2] rfl)
  · have h := ob_f c1 h
    refine lv_iload_n hx hb drf_Md_pass_9 rfl (lv_at hl 1 rfl) ?_
    refine lv_aload_n hx hb drf_Md_pass_10 rfl (lv_at hl 0 rfl) ?_
    refine rfg_Md_113 hx hb hts hown hK hP drf_Md_pass_11 ?_
    refine W.eq (g2 := F0 m 14 ls [.int (σ 18 4), .int x1]) rfl ?_
    refine lv_icmp_ge (tgt := 26) hx hb drf_Md_pass_14 (by decide) (fun c2 => ?_) (fun c2 => ?_)
    · have h := ob_t c2 h
      exact jp26 (wr σ 18 1 0) x1 x2 _ _ _ h hP hS (lv_sub hl [0, 1, 2] rfl)
    · have h := ob_f c2 h
      refine lv_aload_n hx hb drf_Md_pass_17 rfl (lv_at hl 0 rfl) ?_
      refine rfg_Md_46 hx hb hts hown hK hP drf_Md_pass_18 ?_
      refine lv_iload_n hx hb drf_Md_pass_21 rfl (lv_at hl 1 rfl) ?_
      obtain ⟨hi3, h⟩ := ob_i h
      refine rf_iald (i := 12) hx hb hK hP (by decide) rfl hi3 drf_Md_pass_22 ?_
      refine W.eq (g2 := F0 m 23 ls [.int (σ 12 x1.toNatClampNeg)]) rfl ?_
      refine lv_if_eq (tgt := 28) hx hb drf_Md_pass_23 (by decide) (fun c4 => ?_) (fun c4 => ?_)
      · have h := ob_t c4 h
        refine lv_aload_n hx hb drf_Md_pass_28 rfl (lv_at hl 0 rfl) ?_
        refine rfg_Md_46 hx hb hts hown hK hP drf_Md_pass_29 ?_
        refine lv_iload_n hx hb drf_Md_pass_32 rfl (lv_at hl 1 rfl) ?_
        refine lv_iload_n hx hb drf_Md_pass_33 rfl (lv_at hl 2 rfl) ?_
        refine lv_if_eq (tgt := 41) hx hb drf_Md_pass_34 (by decide) (fun c5 => ?_) (fun c5 => ?_)
        · have h := ob_t c5 h
          refine lv_iconst (v := 4) hx hb drf_Md_pass_41 (by decide) ?_
          obtain ⟨hi6, h⟩ := ob_i h
          refine rf_iast (i := 12) hx hb hK hP hAd hS (by decide) rfl hi6 drf_Md_pass_42 (fun H locs hP hS => ?_)
          refine lv_iload_n hx hb drf_Md_pass_43 rfl (lv_at hl 2 rfl) ?_
          refine lv_if_ne (tgt := 49) hx hb drf_Md_pass_44 (by decide) (fun c7 => ?_) (fun c7 => ?_)
          · have h := ob_f c7 h
            refine lv_iconst (v := 0) hx hb drf_Md_pass_49 (by decide) ?_
            refine lv_istore_n (lv' := [(3, .int 0), (0, .ref (a 0)), (1, .int x1), (2, .int x2)]) hx hb drf_Md_pass_50 rfl hl (by decide) rfl (fun ls hl => ?_)
            refine lv_iconst (v := 0) hx hb drf_Md_pass_51 (by decide) ?_
            refine lv_istore (lv' := [(4, .int 0), (3, .int 0), (0, .ref (a 0)), (1, .int x1), (2, .int x2)]) hx hb drf_Md_pass_52 hl (by decide) rfl (fun ls hl => ?_)
            refine lv_iconst (v := 0) hx hb drf_Md_pass_54 (by decide) ?_
            refine lv_istore (lv' := [(5, .int 0), (4, .int 0), (3, .int 0), (0, .ref (a 0)), (1, .int x1), (2, .int x2)]) hx hb drf_Md_pass_55 hl (by decide) rfl (fun ls hl => ?_)
            exact lp57 200 (wr (wr σ 18 1 0) 12 x1.toNatClampNeg 4) x1 x2 0 0 0 _ _ _ h hP hS (lv_sub hl [3, 4, 5, 2, 1, 0] rfl)
          · have h := ob_t c7 h
            refine lv_iconst (v := 0) hx hb drf_Md_pass_47 (by decide) ?_
            exact W.iret (v := 0) hx hb hr (fun t ht hW => ⟨⟨0, (wr (wr σ 18 1 0) 12 x1.toNatClampNeg 4), rfl, ob_r h, by rw [ht]; exact hP, va_K.moved hW.alike hK⟩, hS.F ht⟩) hS.2.2 drf_Md_pass_48
        · have h := ob_f c5 h
          refine lv_iconst (v := 1) hx hb drf_Md_pass_37 (by decide) ?_
          refine lv_goto (tgt := 42) hx hb drf_Md_pass_38 (by decide) ?_
          obtain ⟨hi25, h⟩ := ob_i h
          refine rf_iast (i := 12) hx hb hK hP hAd hS (by decide) rfl hi25 drf_Md_pass_42 (fun H locs hP hS => ?_)
          refine lv_iload_n hx hb drf_Md_pass_43 rfl (lv_at hl 2 rfl) ?_
          refine lv_if_ne (tgt := 49) hx hb drf_Md_pass_44 (by decide) (fun c26 => ?_) (fun c26 => ?_)
          · have h := ob_f c26 h
            refine lv_iconst (v := 0) hx hb drf_Md_pass_49 (by decide) ?_
            refine lv_istore_n (lv' := [(3, .int 0), (0, .ref (a 0)), (1, .int x1), (2, .int x2)]) hx hb drf_Md_pass_50 rfl hl (by decide) rfl (fun ls hl => ?_)
            refine lv_iconst (v := 0) hx hb drf_Md_pass_51 (by decide) ?_
            refine lv_istore (lv' := [(4, .int 0), (3, .int 0), (0, .ref (a 0)), (1, .int x1), (2, .int x2)]) hx hb drf_Md_pass_52 hl (by decide) rfl (fun ls hl => ?_)
            refine lv_iconst (v := 0) hx hb drf_Md_pass_54 (by decide) ?_
            refine lv_istore (lv' := [(5, .int 0), (4, .int 0), (3, .int 0), (0, .ref (a 0)), (1, .int x1), (2, .int x2)]) hx hb drf_Md_pass_55 hl (by decide) rfl (fun ls hl => ?_)
            exact lp57 200 (wr (wr σ 18 1 0) 12 x1.toNatClampNeg 1) x1 x2 0 0 0 _ _ _ h hP hS (lv_sub hl [3, 4, 5, 2, 1, 0] rfl)
          · have h := ob_t c26 h
            refine lv_iconst (v := 0) hx hb drf_Md_pass_47 (by decide) ?_
            exact W.iret (v := 0) hx hb hr (fun t ht hW => ⟨⟨0, (wr (wr σ 18 1 0) 12 x1.toNatClampNeg 1), rfl, ob_r h, by rw [ht]; exact hP, va_K.moved hW.alike hK⟩, hS.F ht⟩) hS.2.2 drf_Md_pass_48
      · have h := ob_f c4 h
        exact jp26 (wr σ 18 1 0) x1 x2 _ _ _ h hP hS (lv_sub hl [0, 1, 2] rfl)
set_option maxHeartbeats 4000000 in
set_option maxRecDepth 100000 in
theorem crf_Md_open (l : Launch) (D : va_G) (a : Nat → Nat) (k : Nat → ClassId) (hAd : rf_Ad a) (σ : ST) (x1 : Int32) (res : Int32 × ST) (h : rff_Md_open σ x1 = some res) : Met l rfy_Md_open rfs_Md_open rfr_Md_open (rf_Pc D a k σ [.ref (a 0), .int x1]) (va_Qi (fun (r : Int32) (u : ST) => r = res.1 ∧ u = res.2) (rf_B D a k) (rf_A a)) 0 0 (rf_A a) := by
  refine Met.ofW (cc := rfb_Md_open) (maxL := 2) (ret := (some .int)) (by decide) rfl ?_
  intro p e s m args below meth c s₁ B hml hv
  obtain ⟨rfl, hP, hK⟩ := hv
  have hx := B.exec
  have hb := B.bytes
  have hr := B.returns
  have hts : ∀ w ∈ ub_T, w.before _ s = true := fun w hw => atoms_spec (ws := rfs_Md_open) B.pre w (List.mem_cons_of_mem _ hw)
  have hown : s.vm.findClass rfR_Md = some m.cls := findClass_of_methodNamed B.named
  have hlocks := B.notSynchronized
  have hS : va_S (rf_A a) s.heap s.heap [] := va_S.rf
  have hl := lv_entry ([.ref (a 0), .int x1]) (n := 2) (Nat.le_of_ble_eq_true rfl)
  rw [lg_entry_eq]
  generalize (lg_sl ([.ref (a 0), .int x1]) ++ List.replicate (2 - (lg_sl ([.ref (a 0), .int x1])).length) Slot.unset).toArray = ls at hl ⊢
  have hl : lv_has ls 2 [(0, .ref (a 0)), (1, .int x1)] := hl
  rw [rff_Md_open] at h
  refine lv_aload_n hx hb drf_Md_open_0 rfl (lv_at hl 0 rfl) ?_
  refine lv_iconst (v := 0) hx hb drf_Md_open_1 (by decide) ?_
  refine rfp_Md_68 hx hb hts hown hK hP hAd hS drf_Md_open_2 (fun H locs hP hS => ?_)
  refine lv_iload_n hx hb drf_Md_open_5 rfl (lv_at hl 1 rfl) ?_
  refine lv_if_lt (tgt := 14) hx hb drf_Md_open_6 (by decide) (fun c1 => ?_) (fun c1 => ?_)
  · have h := ob_t c1 h
    refine lv_iconst (v := (-1)) hx hb drf_Md_open_14 (by decide) ?_
    refine lv_goto (tgt := 23) hx hb drf_Md_open_15 (by decide) ?_
    exact W.iret (v := (-1)) hx hb hr (fun t ht hW => ⟨⟨(-1), (wr σ 18 1 0), rfl, ob_r h, by rw [ht]; exact hP, va_K.moved hW.alike hK⟩, hS.F ht⟩) hS.2.2 drf_Md_open_23
  · have h := ob_f c1 h
    refine lv_iload_n hx hb drf_Md_open_9 rfl (lv_at hl 1 rfl) ?_
    refine lv_iconst (v := 2) hx hb drf_Md_open_10 (by decide) ?_
    refine lv_icmp_le (tgt := 18) hx hb drf_Md_open_11 (by decide) (fun c2 => ?_) (fun c2 => ?_)
    · have h := ob_t c2 h
      refine lv_aload_n hx hb drf_Md_open_18 rfl (lv_at hl 0 rfl) ?_
      refine lv_iload_n hx hb drf_Md_open_19 rfl (lv_at hl 1 rfl) ?_
      obtain ⟨q3, hq3, h⟩ := ob_b h
      refine rf_cv_ir (As := [.int x1]) (rest := []) ⟨hx, hb, hml, hown, hts⟩ (crf_Md_opens l D a k hAd (wr σ 18 1 0) x1  q3 hq3) (rfc_Md_126 hts ⟨Nat.le_of_ble_eq_true rfl, Nat.le_of_ble_eq_true rfl⟩) (rf_rc0 hK hP) hK hP rfl hl.1 rfl (Nat.le_of_ble_eq_true rfl) drf_Md_open_20 hS (fun H locs hP hS => ?_)
      exact W.iret (v := q3) hx hb hr (fun t ht hW => ⟨⟨q3, (wr σ 18 1 0), rfl, ob_r h, by rw [ht]; exact hP, va_K.moved hW.alike hK⟩, hS.F ht⟩) hS.2.2 drf_Md_open_23
    · have h := ob_f c2 h
      refine lv_iconst (v := (-1)) hx hb drf_Md_open_14 (by decide) ?_
      refine lv_goto (tgt := 23) hx hb drf_Md_open_15 (by decide) ?_
      exact W.iret (v := (-1)) hx hb hr (fun t ht hW => ⟨⟨(-1), (wr σ 18 1 0), rfl, ob_r h, by rw [ht]; exact hP, va_K.moved hW.alike hK⟩, hS.F ht⟩) hS.2.2 drf_Md_open_23

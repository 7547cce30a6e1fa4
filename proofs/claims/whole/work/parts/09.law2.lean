/-- each call answers alike on both sides, and they stay alike -/
def lw_Step (I : ST → ST → Prop) : Prop :=
  (∀ (σ τ : ST) (x1 : Int32), I σ τ → ∃ (r : Int32) (σ1 τ1 : ST), urf_Rb_name σ x1 = some (r, σ1) ∧ rff_Md_name τ x1 = some (r, τ1) ∧ I σ1 τ1) ∧
  (∀ (σ τ : ST) (x1 x2 : Int32), I σ τ → ∃ (r : Int32) (σ1 τ1 : ST), urf_Rb_newer σ x1 x2 = some (r, σ1) ∧ rff_Md_newer τ x1 x2 = some (r, τ1) ∧ I σ1 τ1) ∧
  (∀ (σ τ : ST) (x1 x2 x3 x4 : Int32), I σ τ → ∃ (r : Int32) (σ1 τ1 : ST), urf_Rb_needs σ x1 x2 x3 x4 = some (r, σ1) ∧ rff_Md_needs τ x1 x2 x3 x4 = some (r, τ1) ∧ I σ1 τ1) ∧
  (∀ (σ τ : ST) (x1 x2 x3 x4 : Int32), I σ τ → ∃ (r : Int32) (σ1 τ1 : ST), urf_Rb_rule σ x1 x2 x3 x4 = some (r, σ1) ∧ rff_Md_rule τ x1 x2 x3 x4 = some (r, τ1) ∧ I σ1 τ1) ∧
  (∀ (σ τ : ST) (x1 x2 : Int32), I σ τ → ∃ (r : Int32) (σ1 τ1 : ST), urf_Rb_advise σ x1 x2 = some (r, σ1) ∧ rff_Md_advise τ x1 x2 = some (r, τ1) ∧ I σ1 τ1) ∧
  (∀ (σ τ : ST) (x1 : Int32), I σ τ → ∃ (r : Int32) (τ1 : ST), urf_Rb_has σ x1 = some r ∧ rff_Md_has τ x1 = some (r, τ1) ∧ I σ τ1) ∧
  (∀ (σ τ : ST) (x1 : Int32), I σ τ → ∃ (r : Int32) (τ1 : ST), urf_Rb_goal σ x1 = some r ∧ rff_Md_goal τ x1 = some (r, τ1) ∧ I σ τ1) ∧
  (∀ (σ τ : ST) (x1 : Int32), I σ τ → ∃ (r : Int32) (τ1 : ST), urf_Rb_chief σ x1 = some r ∧ rff_Md_chief τ x1 = some (r, τ1) ∧ I σ τ1) ∧
  (∀ (σ τ : ST) (x1 : Int32), I σ τ → ∃ (r : Int32) (σ1 τ1 : ST), urf_Rb_solve σ x1 = some (r, σ1) ∧ rff_Md_solve τ x1 = some (r, τ1) ∧ I σ1 τ1) ∧
  (∀ (σ τ : ST) (x1 : Int32), I σ τ → ∃ (r : Int32) (σ1 τ1 : ST), urf_Rb_tick σ x1 = some (r, σ1) ∧ rff_Md_tick τ x1 = some (r, τ1) ∧ I σ1 τ1) ∧
  (∀ (σ τ : ST), I σ τ → ∃ (r : Int32) (σ1 τ1 : ST), urf_Rb_run σ  = some (r, σ1) ∧ rff_Md_run τ  = some (r, τ1) ∧ I σ1 τ1) ∧
  (∀ (σ τ : ST), I σ τ → ∃ (r : Int32) (τ1 : ST), urf_Rb_waiting σ  = some r ∧ rff_Md_waiting τ  = some (r, τ1) ∧ I σ τ1) ∧
  (∀ (σ τ : ST) (x1 x2 : Int32), I σ τ → ∃ (r : Int32) (τ1 : ST), urf_Rb_about σ x1 x2 = some r ∧ rff_Md_about τ x1 x2 = some (r, τ1) ∧ I σ τ1) ∧
  (∀ (σ τ : ST) (x1 x2 : Int32), I σ τ → ∃ (r : Int32) (τ1 : ST), urf_Rb_target σ x1 x2 = some r ∧ rff_Md_target τ x1 x2 = some (r, τ1) ∧ I σ τ1) ∧
  (∀ (σ τ : ST) (x1 x2 : Int32), I σ τ → (x2 = 0 ∨ x2 = 1) → ∃ (r : Int32) (σ1 τ1 : ST), urf_Rb_pass σ x1 x2 = some (r, σ1) ∧ rff_Md_pass τ x1 x2 = some (r, τ1) ∧ I σ1 τ1) ∧
  (∀ (σ τ : ST) (x1 : Int32), I σ τ → ∃ (r : Int32) (τ1 : ST), urf_Rb_open σ x1 = some r ∧ rff_Md_open τ x1 = some (r, τ1) ∧ I σ τ1)
theorem lw_over {L j : Nat} {y3 : Int32} (hL : L < 2 ^ 20) (e3 : y3 = nI j) (h : L + 5 ≤ j) (hj : j < 2 ^ 20) : Int32.ofNat L - 5 < y3 := by
  have h1 : (nI L - nI 5).toInt = (L : Int) - (5 : Nat) := pk_sub_toInt (by omega) (by omega)
  have h2 : (nI j).toInt = (j : Int) := nI_toInt (by omega)
  rw [e3]
  show nI L - nI 5 < nI j
  rw [Int32.lt_iff_toInt_lt, h1, h2]
  omega
theorem lw_under {L j : Nat} {y3 : Int32} (hL : L < 2 ^ 20) (e3 : y3 = nI j) (h : ¬ Int32.ofNat L - 5 < y3) (hj : j < 2 ^ 20) : j + 5 ≤ L := by
  have h1 : (nI L - nI 5).toInt = (L : Int) - (5 : Nat) := pk_sub_toInt (by omega) (by omega)
  have h2 : (nI j).toInt = (j : Int) := nI_toInt (by omega)
  rw [e3] at h
  have h3 : ¬ (nI L - nI 5 < nI j) := h
  rw [Int32.lt_iff_toInt_lt, h1, h2] at h3
  omega
set_option maxHeartbeats 16000000 in
set_option maxRecDepth 100000 in
theorem lw_loop {p : Program} {l : Launch} {e : Env} {s : State} {m : MethodId} {below : List Frame} {meth : Method} {c : Code} {D : va_G} {k : Nat → ClassId} {a b : Nat → Nat} {sb L : Nat} {xs : Nat → Int32} (hL : L ≤ 2561) (C0 : lw_At p s m meth c sb L xs) (hK : ub_K D k s) (hA : lw_Ads s.heap.size a b) (I : ST → ST → Prop) (hI : lw_Step I) :
    ∀ (n j : Nat) (y3 : Int32), y3 = nI j → L + 5 ≤ j + n → 1 ≤ j → j ≤ L + 5 → ∀ (σ τ : ST), I σ τ → ∀ (H : Heap) (locs : List Loc), ur_P D a k σ H → rf_P D b k τ H → va_S (fun q : Nat => s.heap.size ≤ q) s.heap H locs → ∀ (ls : Array Slot), lv_has ls 4 [(0, .ref sb), (1, .ref (a 0)), (2, .ref (b 0)), (3, .int y3)] → W p l e room_1 s m #[Value.ref sb] below meth c H locs 138 2992 (lw_Z below #[Value.ref sb] s) (F0 m 28 ls []) := by
  obtain ⟨hx, hb, hr, hml, hown, hts0, hX, hbl, hlocks, hgv⟩ := C0
  have hts : ∀ w ∈ ub_T, w.before #[Value.ref sb] s = true := fun w h => hts0 w (List.mem_filter.mp h).1
  have hbA : ¬ (fun q : Nat => s.heap.size ≤ q) sb := Nat.not_le.mpr hbl
  obtain ⟨hI0, hI1, hI2, hI3, hI4, hI5, hI6, hI7, hI8, hI9, hI10, hI11, hI12, hI13, hI14, hI15⟩ := hI
  intro n
  induction n with
  | zero =>
    intro j y3 e3 h1 h2 h3 σ τ hσ H locs hP hR hS ls hl
    refine lv_iload_n hx hb dlw_28 rfl (lv_at hl 3 rfl) ?_
    refine lv_aload_n hx hb dlw_29 rfl (lv_at hl 0 rfl) ?_
    refine va_slen hx hb hX hbl hbA hS dlw_30 ?_
    refine lv_iconst (v := 5) hx hb dlw_31 (by decide) ?_
    refine lv_isub hx hb dlw_32 ?_
    refine lv_icmp_gt (tgt := 600) hx hb dlw_33 (by decide) (fun c0 => ?_) (fun c0 => ?_)
    · refine lv_iconst (v := 1) hx hb dlw_600 (by decide) ?_
      refine va_forget (fun q hq => hS.2.2 q hq) ?_
      refine W.widen (k := 600000) (n := 7302250) (by decide) (by decide) ?_
      exact lw_ret hx hb hr hlocks dlw_601
    · exfalso
      exact c0 (lw_over (by omega) e3 (by omega) (by omega))
  | succ n ih =>
    intro j y3 e3 h1 h2 h3 σ τ hσ H locs hP hR hS ls hl
    refine lv_iload_n hx hb dlw_28 rfl (lv_at hl 3 rfl) ?_
    refine lv_aload_n hx hb dlw_29 rfl (lv_at hl 0 rfl) ?_
    refine va_slen hx hb hX hbl hbA hS dlw_30 ?_
    refine lv_iconst (v := 5) hx hb dlw_31 (by decide) ?_
    refine lv_isub hx hb dlw_32 ?_
    refine lv_icmp_gt (tgt := 600) hx hb dlw_33 (by decide) (fun c0 => ?_) (fun c0 => ?_)
    · refine lv_iconst (v := 1) hx hb dlw_600 (by decide) ?_
      refine va_forget (fun q hq => hS.2.2 q hq) ?_
      refine W.widen (k := 600000) (n := 7302250) (by decide) (by decide) ?_
      exact lw_ret hx hb hr hlocks dlw_601
    · have hj : j + 5 ≤ L := lw_under (by omega) e3 c0 (by omega)
      have hi0 : vp_in y3 L := by rw [e3]; exact vp_in_nI (by omega) (by omega)
      have hi1 : vp_in (y3 + 1) L := by rw [e3, show nI j + 1 = nI (j + 1) from nI_add j 1]; exact vp_in_nI (by omega) (by omega)
      have hi2 : vp_in (y3 + 2) L := by rw [e3, show nI j + 2 = nI (j + 2) from nI_add j 2]; exact vp_in_nI (by omega) (by omega)
      have hi3 : vp_in (y3 + 3) L := by rw [e3, show nI j + 3 = nI (j + 3) from nI_add j 3]; exact vp_in_nI (by omega) (by omega)
      have hi4 : vp_in (y3 + 4) L := by rw [e3, show nI j + 4 = nI (j + 4) from nI_add j 4]; exact vp_in_nI (by omega) (by omega)
      have back : ∀ (σ τ : ST), I σ τ → ∀ (H : Heap) (locs : List Loc), ur_P D a k σ H → rf_P D b k τ H → va_S (fun q : Nat => s.heap.size ≤ q) s.heap H locs → W p l e room_1 s m #[Value.ref sb] below meth c H locs 138 2992 (lw_Z below #[Value.ref sb] s) (F0 m 594 ls []) := by
        intro σ τ hσ H locs hP hR hS
        refine lv_iinc (v := y3 + 5) (lv' := [(3, .int (y3 + 5)), (0, .ref sb), (1, .ref (a 0)), (2, .ref (b 0))]) hx hb dlw_594 hl (k := 3) rfl rfl (by decide) rfl (fun ls hl => ?_)
        refine lv_goto (tgt := 28) hx hb dlw_597 (by decide) ?_
        exact ih (j + 5) (y3 + 5) (by rw [e3]; exact nI_add j 5) (by omega) (by omega) (by omega) σ τ hσ H locs hP hR hS ls (lv_sub hl [1, 2, 3, 0] rfl)
      refine lv_aload_n hx hb dlw_36 rfl (lv_at hl 0 rfl) ?_
      refine lv_iload_n hx hb dlw_37 rfl (lv_at hl 3 rfl) ?_
      refine va_sld hx hb hX hbl hbA hS hi0 dlw_38 ?_
      refine lv_bipush (v := 15) hx hb dlw_39 (by decide) ?_
      refine lv_iand hx hb dlw_41 ?_
      refine lv_topi (fun z ez => ?_)
      refine ob_cs (c := z = 0) (fun z0 => ?_) (fun z0 => ?_)
      · refine lv_tableIn (tgt := 120) hx hb dlw_42 (by rw [z0]; decide) (by rw [z0]; decide) (by rw [z0]; rfl) (by decide) ?_
        obtain ⟨r, σ1, τ1, e1, e2, e4⟩ := hI0 σ τ (xs (y3 + 1).toNatClampNeg) hσ
        refine lv_aload_n hx hb dlw_120 rfl (lv_at hl 1 rfl) ?_
        refine lv_aload_n hx hb dlw_121 rfl (lv_at hl 0 rfl) ?_
        refine lv_iload_n hx hb dlw_122 rfl (lv_at hl 3 rfl) ?_
        refine lv_iconst (v := 1) hx hb dlw_123 (by decide) ?_
        refine lv_iadd hx hb dlw_124 ?_
        refine va_sld hx hb hX hbl hbA hS hi1 dlw_125 ?_
        refine lw_u_iw (As := [.int (xs (y3 + 1).toNatClampNeg)]) (rest := []) (res := (r, σ1)) ⟨hx, hb, hml, hown, hts⟩ (cur_Rb_name l D a k hA.1 σ (xs (y3 + 1).toNatClampNeg) (r, σ1) e1) (urc_UpdateRobotLaw_21 hts ⟨by decide, by decide⟩) hK hA hP hR rfl hl.1 rfl (Nat.le_of_ble_eq_true rfl) dlw_126 ⟨by decide, by decide⟩ hS (fun H locs hP hR hS => ?_)
        refine lv_aload_n hx hb dlw_129 rfl (lv_at hl 2 rfl) ?_
        refine lv_aload_n hx hb dlw_130 rfl (lv_at hl 0 rfl) ?_
        refine lv_iload_n hx hb dlw_131 rfl (lv_at hl 3 rfl) ?_
        refine lv_iconst (v := 1) hx hb dlw_132 (by decide) ?_
        refine lv_iadd hx hb dlw_133 ?_
        refine va_sld hx hb hX hbl hbA hS hi1 dlw_134 ?_
        refine lw_r_iw (As := [.int (xs (y3 + 1).toNatClampNeg)]) (rest := [.int r]) (res := (r, τ1)) ⟨hx, hb, hml, hown, hts⟩ (crf_Md_name l D b k hA.2.1 τ (xs (y3 + 1).toNatClampNeg) (r, τ1) e2) (rfc_UpdateRobotLaw_25 hts ⟨by decide, by decide⟩) hK hA hP hR rfl hl.1 rfl (Nat.le_of_ble_eq_true rfl) dlw_135 ⟨by decide, by decide⟩ hS (fun H locs hP hR hS => ?_)
        refine lv_icmp_eq (tgt := 594) hx hb dlw_138 (by decide) (fun ce => ?_) (fun ce => ?_)
        · exact back σ1 τ1 e4 H locs hP hR hS
        · exact absurd rfl ce
      · skip
        refine ob_cs (c := z = 1) (fun z1 => ?_) (fun z1 => ?_)
        · refine lv_tableIn (tgt := 143) hx hb dlw_42 (by rw [z1]; decide) (by rw [z1]; decide) (by rw [z1]; rfl) (by decide) ?_
          obtain ⟨r, σ1, τ1, e1, e2, e4⟩ := hI1 σ τ (xs (y3 + 1).toNatClampNeg) (xs (y3 + 2).toNatClampNeg) hσ
          refine lv_aload_n hx hb dlw_143 rfl (lv_at hl 1 rfl) ?_
          refine lv_aload_n hx hb dlw_144 rfl (lv_at hl 0 rfl) ?_
          refine lv_iload_n hx hb dlw_145 rfl (lv_at hl 3 rfl) ?_
          refine lv_iconst (v := 1) hx hb dlw_146 (by decide) ?_
          refine lv_iadd hx hb dlw_147 ?_
          refine va_sld hx hb hX hbl hbA hS hi1 dlw_148 ?_
          refine lv_aload_n hx hb dlw_149 rfl (lv_at hl 0 rfl) ?_
          refine lv_iload_n hx hb dlw_150 rfl (lv_at hl 3 rfl) ?_
          refine lv_iconst (v := 2) hx hb dlw_151 (by decide) ?_
          refine lv_iadd hx hb dlw_152 ?_
          refine va_sld hx hb hX hbl hbA hS hi2 dlw_153 ?_
          refine lw_u_iw (As := [.int (xs (y3 + 1).toNatClampNeg), .int (xs (y3 + 2).toNatClampNeg)]) (rest := []) (res := (r, σ1)) ⟨hx, hb, hml, hown, hts⟩ (cur_Rb_newer l D a k hA.1 σ (xs (y3 + 1).toNatClampNeg) (xs (y3 + 2).toNatClampNeg) (r, σ1) e1) (urc_UpdateRobotLaw_26 hts ⟨by decide, by decide⟩) hK hA hP hR rfl hl.1 rfl (Nat.le_of_ble_eq_true rfl) dlw_154 ⟨by decide, by decide⟩ hS (fun H locs hP hR hS => ?_)
          refine lv_aload_n hx hb dlw_157 rfl (lv_at hl 2 rfl) ?_
          refine lv_aload_n hx hb dlw_158 rfl (lv_at hl 0 rfl) ?_
          refine lv_iload_n hx hb dlw_159 rfl (lv_at hl 3 rfl) ?_
          refine lv_iconst (v := 1) hx hb dlw_160 (by decide) ?_
          refine lv_iadd hx hb dlw_161 ?_
          refine va_sld hx hb hX hbl hbA hS hi1 dlw_162 ?_
          refine lv_aload_n hx hb dlw_163 rfl (lv_at hl 0 rfl) ?_
          refine lv_iload_n hx hb dlw_164 rfl (lv_at hl 3 rfl) ?_
          refine lv_iconst (v := 2) hx hb dlw_165 (by decide) ?_
          refine lv_iadd hx hb dlw_166 ?_
          refine va_sld hx hb hX hbl hbA hS hi2 dlw_167 ?_
          refine lw_r_iw (As := [.int (xs (y3 + 1).toNatClampNeg), .int (xs (y3 + 2).toNatClampNeg)]) (rest := [.int r]) (res := (r, τ1)) ⟨hx, hb, hml, hown, hts⟩ (crf_Md_newer l D b k hA.2.1 τ (xs (y3 + 1).toNatClampNeg) (xs (y3 + 2).toNatClampNeg) (r, τ1) e2) (rfc_UpdateRobotLaw_30 hts ⟨by decide, by decide⟩) hK hA hP hR rfl hl.1 rfl (Nat.le_of_ble_eq_true rfl) dlw_168 ⟨by decide, by decide⟩ hS (fun H locs hP hR hS => ?_)
          refine lv_icmp_eq (tgt := 594) hx hb dlw_171 (by decide) (fun ce => ?_) (fun ce => ?_)
          · exact back σ1 τ1 e4 H locs hP hR hS
          · exact absurd rfl ce
        · skip
          refine ob_cs (c := z = 2) (fun z2 => ?_) (fun z2 => ?_)
          · refine lv_tableIn (tgt := 176) hx hb dlw_42 (by rw [z2]; decide) (by rw [z2]; decide) (by rw [z2]; rfl) (by decide) ?_
            obtain ⟨r, σ1, τ1, e1, e2, e4⟩ := hI2 σ τ (xs (y3 + 1).toNatClampNeg) (xs (y3 + 2).toNatClampNeg) (xs (y3 + 3).toNatClampNeg) (xs (y3 + 4).toNatClampNeg) hσ
            refine lv_aload_n hx hb dlw_176 rfl (lv_at hl 1 rfl) ?_
            refine lv_aload_n hx hb dlw_177 rfl (lv_at hl 0 rfl) ?_
            refine lv_iload_n hx hb dlw_178 rfl (lv_at hl 3 rfl) ?_
            refine lv_iconst (v := 1) hx hb dlw_179 (by decide) ?_
            refine lv_iadd hx hb dlw_180 ?_
            refine va_sld hx hb hX hbl hbA hS hi1 dlw_181 ?_
            refine lv_aload_n hx hb dlw_182 rfl (lv_at hl 0 rfl) ?_
            refine lv_iload_n hx hb dlw_183 rfl (lv_at hl 3 rfl) ?_
            refine lv_iconst (v := 2) hx hb dlw_184 (by decide) ?_
            refine lv_iadd hx hb dlw_185 ?_
            refine va_sld hx hb hX hbl hbA hS hi2 dlw_186 ?_
            refine lv_aload_n hx hb dlw_187 rfl (lv_at hl 0 rfl) ?_
            refine lv_iload_n hx hb dlw_188 rfl (lv_at hl 3 rfl) ?_
            refine lv_iconst (v := 3) hx hb dlw_189 (by decide) ?_
            refine lv_iadd hx hb dlw_190 ?_
            refine va_sld hx hb hX hbl hbA hS hi3 dlw_191 ?_
            refine lv_aload_n hx hb dlw_192 rfl (lv_at hl 0 rfl) ?_
            refine lv_iload_n hx hb dlw_193 rfl (lv_at hl 3 rfl) ?_
            refine lv_iconst (v := 4) hx hb dlw_194 (by decide) ?_
            refine lv_iadd hx hb dlw_195 ?_
            refine va_sld hx hb hX hbl hbA hS hi4 dlw_196 ?_
            refine lw_u_iw (As := [.int (xs (y3 + 1).toNatClampNeg), .int (xs (y3 + 2).toNatClampNeg), .int (xs (y3 + 3).toNatClampNeg), .int (xs (y3 + 4).toNatClampNeg)]) (rest := []) (res := (r, σ1)) ⟨hx, hb, hml, hown, hts⟩ (cur_Rb_needs l D a k hA.1 σ (xs (y3 + 1).toNatClampNeg) (xs (y3 + 2).toNatClampNeg) (xs (y3 + 3).toNatClampNeg) (xs (y3 + 4).toNatClampNeg) (r, σ1) e1) (urc_UpdateRobotLaw_31 hts ⟨by decide, by decide⟩) hK hA hP hR rfl hl.1 rfl (Nat.le_of_ble_eq_true rfl) dlw_197 ⟨by decide, by decide⟩ hS (fun H locs hP hR hS => ?_)
            refine lv_aload_n hx hb dlw_200 rfl (lv_at hl 2 rfl) ?_
            refine lv_aload_n hx hb dlw_201 rfl (lv_at hl 0 rfl) ?_
            refine lv_iload_n hx hb dlw_202 rfl (lv_at hl 3 rfl) ?_
            refine lv_iconst (v := 1) hx hb dlw_203 (by decide) ?_
            refine lv_iadd hx hb dlw_204 ?_
            refine va_sld hx hb hX hbl hbA hS hi1 dlw_205 ?_
            refine lv_aload_n hx hb dlw_206 rfl (lv_at hl 0 rfl) ?_
            refine lv_iload_n hx hb dlw_207 rfl (lv_at hl 3 rfl) ?_
            refine lv_iconst (v := 2) hx hb dlw_208 (by decide) ?_
            refine lv_iadd hx hb dlw_209 ?_
            refine va_sld hx hb hX hbl hbA hS hi2 dlw_210 ?_
            refine lv_aload_n hx hb dlw_211 rfl (lv_at hl 0 rfl) ?_
            refine lv_iload_n hx hb dlw_212 rfl (lv_at hl 3 rfl) ?_
            refine lv_iconst (v := 3) hx hb dlw_213 (by decide) ?_
            refine lv_iadd hx hb dlw_214 ?_
            refine va_sld hx hb hX hbl hbA hS hi3 dlw_215 ?_
            refine lv_aload_n hx hb dlw_216 rfl (lv_at hl 0 rfl) ?_
            refine lv_iload_n hx hb dlw_217 rfl (lv_at hl 3 rfl) ?_
            refine lv_iconst (v := 4) hx hb dlw_218 (by decide) ?_
            refine lv_iadd hx hb dlw_219 ?_
            refine va_sld hx hb hX hbl hbA hS hi4 dlw_220 ?_
            refine lw_r_iw (As := [.int (xs (y3 + 1).toNatClampNeg), .int (xs (y3 + 2).toNatClampNeg), .int (xs (y3 + 3).toNatClampNeg), .int (xs (y3 + 4).toNatClampNeg)]) (rest := [.int r]) (res := (r, τ1)) ⟨hx, hb, hml, hown, hts⟩ (crf_Md_needs l D b k hA.2.1 τ (xs (y3 + 1).toNatClampNeg) (xs (y3 + 2).toNatClampNeg) (xs (y3 + 3).toNatClampNeg) (xs (y3 + 4).toNatClampNeg) (r, τ1) e2) (rfc_UpdateRobotLaw_35 hts ⟨by decide, by decide⟩) hK hA hP hR rfl hl.1 rfl (Nat.le_of_ble_eq_true rfl) dlw_221 ⟨by decide, by decide⟩ hS (fun H locs hP hR hS => ?_)
            refine lv_icmp_eq (tgt := 594) hx hb dlw_224 (by decide) (fun ce => ?_) (fun ce => ?_)
            · exact back σ1 τ1 e4 H locs hP hR hS
            · exact absurd rfl ce
          · skip
            refine ob_cs (c := z = 3) (fun z3 => ?_) (fun z3 => ?_)
            · refine lv_tableIn (tgt := 229) hx hb dlw_42 (by rw [z3]; decide) (by rw [z3]; decide) (by rw [z3]; rfl) (by decide) ?_
              obtain ⟨r, σ1, τ1, e1, e2, e4⟩ := hI3 σ τ (xs (y3 + 1).toNatClampNeg) (xs (y3 + 2).toNatClampNeg) (xs (y3 + 3).toNatClampNeg) (xs (y3 + 4).toNatClampNeg) hσ
              refine lv_aload_n hx hb dlw_229 rfl (lv_at hl 1 rfl) ?_
              refine lv_aload_n hx hb dlw_230 rfl (lv_at hl 0 rfl) ?_
              refine lv_iload_n hx hb dlw_231 rfl (lv_at hl 3 rfl) ?_
              refine lv_iconst (v := 1) hx hb dlw_232 (by decide) ?_
              refine lv_iadd hx hb dlw_233 ?_
              refine va_sld hx hb hX hbl hbA hS hi1 dlw_234 ?_
              refine lv_aload_n hx hb dlw_235 rfl (lv_at hl 0 rfl) ?_
              refine lv_iload_n hx hb dlw_236 rfl (lv_at hl 3 rfl) ?_
              refine lv_iconst (v := 2) hx hb dlw_237 (by decide) ?_
              refine lv_iadd hx hb dlw_238 ?_
              refine va_sld hx hb hX hbl hbA hS hi2 dlw_239 ?_
              refine lv_aload_n hx hb dlw_240 rfl (lv_at hl 0 rfl) ?_
              refine lv_iload_n hx hb dlw_241 rfl (lv_at hl 3 rfl) ?_
              refine lv_iconst (v := 3) hx hb dlw_242 (by decide) ?_
              refine lv_iadd hx hb dlw_243 ?_
              refine va_sld hx hb hX hbl hbA hS hi3 dlw_244 ?_
              refine lv_aload_n hx hb dlw_245 rfl (lv_at hl 0 rfl) ?_
              refine lv_iload_n hx hb dlw_246 rfl (lv_at hl 3 rfl) ?_
              refine lv_iconst (v := 4) hx hb dlw_247 (by decide) ?_
              refine lv_iadd hx hb dlw_248 ?_
              refine va_sld hx hb hX hbl hbA hS hi4 dlw_249 ?_
              refine lw_u_iw (As := [.int (xs (y3 + 1).toNatClampNeg), .int (xs (y3 + 2).toNatClampNeg), .int (xs (y3 + 3).toNatClampNeg), .int (xs (y3 + 4).toNatClampNeg)]) (rest := []) (res := (r, σ1)) ⟨hx, hb, hml, hown, hts⟩ (cur_Rb_rule l D a k hA.1 σ (xs (y3 + 1).toNatClampNeg) (xs (y3 + 2).toNatClampNeg) (xs (y3 + 3).toNatClampNeg) (xs (y3 + 4).toNatClampNeg) (r, σ1) e1) (urc_UpdateRobotLaw_36 hts ⟨by decide, by decide⟩) hK hA hP hR rfl hl.1 rfl (Nat.le_of_ble_eq_true rfl) dlw_250 ⟨by decide, by decide⟩ hS (fun H locs hP hR hS => ?_)
              refine lv_aload_n hx hb dlw_253 rfl (lv_at hl 2 rfl) ?_
              refine lv_aload_n hx hb dlw_254 rfl (lv_at hl 0 rfl) ?_
              refine lv_iload_n hx hb dlw_255 rfl (lv_at hl 3 rfl) ?_
              refine lv_iconst (v := 1) hx hb dlw_256 (by decide) ?_
              refine lv_iadd hx hb dlw_257 ?_
              refine va_sld hx hb hX hbl hbA hS hi1 dlw_258 ?_
              refine lv_aload_n hx hb dlw_259 rfl (lv_at hl 0 rfl) ?_
              refine lv_iload_n hx hb dlw_260 rfl (lv_at hl 3 rfl) ?_
              refine lv_iconst (v := 2) hx hb dlw_261 (by decide) ?_
              refine lv_iadd hx hb dlw_262 ?_
              refine va_sld hx hb hX hbl hbA hS hi2 dlw_263 ?_
              refine lv_aload_n hx hb dlw_264 rfl (lv_at hl 0 rfl) ?_
              refine lv_iload_n hx hb dlw_265 rfl (lv_at hl 3 rfl) ?_
              refine lv_iconst (v := 3) hx hb dlw_266 (by decide) ?_
              refine lv_iadd hx hb dlw_267 ?_
              refine va_sld hx hb hX hbl hbA hS hi3 dlw_268 ?_
              refine lv_aload_n hx hb dlw_269 rfl (lv_at hl 0 rfl) ?_
              refine lv_iload_n hx hb dlw_270 rfl (lv_at hl 3 rfl) ?_
              refine lv_iconst (v := 4) hx hb dlw_271 (by decide) ?_
              refine lv_iadd hx hb dlw_272 ?_
              refine va_sld hx hb hX hbl hbA hS hi4 dlw_273 ?_
              refine lw_r_iw (As := [.int (xs (y3 + 1).toNatClampNeg), .int (xs (y3 + 2).toNatClampNeg), .int (xs (y3 + 3).toNatClampNeg), .int (xs (y3 + 4).toNatClampNeg)]) (rest := [.int r]) (res := (r, τ1)) ⟨hx, hb, hml, hown, hts⟩ (crf_Md_rule l D b k hA.2.1 τ (xs (y3 + 1).toNatClampNeg) (xs (y3 + 2).toNatClampNeg) (xs (y3 + 3).toNatClampNeg) (xs (y3 + 4).toNatClampNeg) (r, τ1) e2) (rfc_UpdateRobotLaw_39 hts ⟨by decide, by decide⟩) hK hA hP hR rfl hl.1 rfl (Nat.le_of_ble_eq_true rfl) dlw_274 ⟨by decide, by decide⟩ hS (fun H locs hP hR hS => ?_)
              refine lv_icmp_eq (tgt := 594) hx hb dlw_277 (by decide) (fun ce => ?_) (fun ce => ?_)
              · exact back σ1 τ1 e4 H locs hP hR hS
              · exact absurd rfl ce
            · skip
              refine ob_cs (c := z = 4) (fun z4 => ?_) (fun z4 => ?_)
              · refine lv_tableIn (tgt := 282) hx hb dlw_42 (by rw [z4]; decide) (by rw [z4]; decide) (by rw [z4]; rfl) (by decide) ?_
                obtain ⟨r, σ1, τ1, e1, e2, e4⟩ := hI4 σ τ (xs (y3 + 1).toNatClampNeg) (xs (y3 + 2).toNatClampNeg) hσ
                refine lv_aload_n hx hb dlw_282 rfl (lv_at hl 1 rfl) ?_
                refine lv_aload_n hx hb dlw_283 rfl (lv_at hl 0 rfl) ?_
                refine lv_iload_n hx hb dlw_284 rfl (lv_at hl 3 rfl) ?_
                refine lv_iconst (v := 1) hx hb dlw_285 (by decide) ?_
                refine lv_iadd hx hb dlw_286 ?_
                refine va_sld hx hb hX hbl hbA hS hi1 dlw_287 ?_
                refine lv_aload_n hx hb dlw_288 rfl (lv_at hl 0 rfl) ?_
                refine lv_iload_n hx hb dlw_289 rfl (lv_at hl 3 rfl) ?_
                refine lv_iconst (v := 2) hx hb dlw_290 (by decide) ?_
                refine lv_iadd hx hb dlw_291 ?_
                refine va_sld hx hb hX hbl hbA hS hi2 dlw_292 ?_
                refine lw_u_iw (As := [.int (xs (y3 + 1).toNatClampNeg), .int (xs (y3 + 2).toNatClampNeg)]) (rest := []) (res := (r, σ1)) ⟨hx, hb, hml, hown, hts⟩ (cur_Rb_advise l D a k hA.1 σ (xs (y3 + 1).toNatClampNeg) (xs (y3 + 2).toNatClampNeg) (r, σ1) e1) (urc_UpdateRobotLaw_40 hts ⟨by decide, by decide⟩) hK hA hP hR rfl hl.1 rfl (Nat.le_of_ble_eq_true rfl) dlw_293 ⟨by decide, by decide⟩ hS (fun H locs hP hR hS => ?_)
                refine lv_aload_n hx hb dlw_296 rfl (lv_at hl 2 rfl) ?_
                refine lv_aload_n hx hb dlw_297 rfl (lv_at hl 0 rfl) ?_
                refine lv_iload_n hx hb dlw_298 rfl (lv_at hl 3 rfl) ?_
                refine lv_iconst (v := 1) hx hb dlw_299 (by decide) ?_
                refine lv_iadd hx hb dlw_300 ?_
                refine va_sld hx hb hX hbl hbA hS hi1 dlw_301 ?_
                refine lv_aload_n hx hb dlw_302 rfl (lv_at hl 0 rfl) ?_
                refine lv_iload_n hx hb dlw_303 rfl (lv_at hl 3 rfl) ?_
                refine lv_iconst (v := 2) hx hb dlw_304 (by decide) ?_
                refine lv_iadd hx hb dlw_305 ?_
                refine va_sld hx hb hX hbl hbA hS hi2 dlw_306 ?_
                refine lw_r_iw (As := [.int (xs (y3 + 1).toNatClampNeg), .int (xs (y3 + 2).toNatClampNeg)]) (rest := [.int r]) (res := (r, τ1)) ⟨hx, hb, hml, hown, hts⟩ (crf_Md_advise l D b k hA.2.1 τ (xs (y3 + 1).toNatClampNeg) (xs (y3 + 2).toNatClampNeg) (r, τ1) e2) (rfc_UpdateRobotLaw_44 hts ⟨by decide, by decide⟩) hK hA hP hR rfl hl.1 rfl (Nat.le_of_ble_eq_true rfl) dlw_307 ⟨by decide, by decide⟩ hS (fun H locs hP hR hS => ?_)
                refine lv_icmp_eq (tgt := 594) hx hb dlw_310 (by decide) (fun ce => ?_) (fun ce => ?_)
                · exact back σ1 τ1 e4 H locs hP hR hS
                · exact absurd rfl ce
              · skip
                refine ob_cs (c := z = 5) (fun z5 => ?_) (fun z5 => ?_)
                · refine lv_tableIn (tgt := 315) hx hb dlw_42 (by rw [z5]; decide) (by rw [z5]; decide) (by rw [z5]; rfl) (by decide) ?_
                  obtain ⟨r, τ1, e1, e2, e4⟩ := hI5 σ τ (xs (y3 + 1).toNatClampNeg) hσ
                  refine lv_aload_n hx hb dlw_315 rfl (lv_at hl 1 rfl) ?_
                  refine lv_aload_n hx hb dlw_316 rfl (lv_at hl 0 rfl) ?_
                  refine lv_iload_n hx hb dlw_317 rfl (lv_at hl 3 rfl) ?_
                  refine lv_iconst (v := 1) hx hb dlw_318 (by decide) ?_
                  refine lv_iadd hx hb dlw_319 ?_
                  refine va_sld hx hb hX hbl hbA hS hi1 dlw_320 ?_
                  refine lw_u_ir (As := [.int (xs (y3 + 1).toNatClampNeg)]) (rest := []) (res := r) ⟨hx, hb, hml, hown, hts⟩ (cur_Rb_has l D a k hA.1 σ (xs (y3 + 1).toNatClampNeg) r e1) (urc_UpdateRobotLaw_45 hts ⟨by decide, by decide⟩) hK hA hP hR rfl hl.1 rfl (Nat.le_of_ble_eq_true rfl) dlw_321 ⟨by decide, by decide⟩ hS (fun H locs hP hR hS => ?_)
                  refine lv_aload_n hx hb dlw_324 rfl (lv_at hl 2 rfl) ?_
                  refine lv_aload_n hx hb dlw_325 rfl (lv_at hl 0 rfl) ?_
                  refine lv_iload_n hx hb dlw_326 rfl (lv_at hl 3 rfl) ?_
                  refine lv_iconst (v := 1) hx hb dlw_327 (by decide) ?_
                  refine lv_iadd hx hb dlw_328 ?_
                  refine va_sld hx hb hX hbl hbA hS hi1 dlw_329 ?_
                  refine lw_r_iw (As := [.int (xs (y3 + 1).toNatClampNeg)]) (rest := [.int r]) (res := (r, τ1)) ⟨hx, hb, hml, hown, hts⟩ (crf_Md_has l D b k hA.2.1 τ (xs (y3 + 1).toNatClampNeg) (r, τ1) e2) (rfc_UpdateRobotLaw_48 hts ⟨by decide, by decide⟩) hK hA hP hR rfl hl.1 rfl (Nat.le_of_ble_eq_true rfl) dlw_330 ⟨by decide, by decide⟩ hS (fun H locs hP hR hS => ?_)
                  refine lv_icmp_eq (tgt := 594) hx hb dlw_333 (by decide) (fun ce => ?_) (fun ce => ?_)
                  · exact back σ τ1 e4 H locs hP hR hS
                  · exact absurd rfl ce
                · skip
                  refine ob_cs (c := z = 6) (fun z6 => ?_) (fun z6 => ?_)
                  · refine lv_tableIn (tgt := 338) hx hb dlw_42 (by rw [z6]; decide) (by rw [z6]; decide) (by rw [z6]; rfl) (by decide) ?_
                    obtain ⟨r, τ1, e1, e2, e4⟩ := hI6 σ τ (xs (y3 + 1).toNatClampNeg) hσ
                    refine lv_aload_n hx hb dlw_338 rfl (lv_at hl 1 rfl) ?_
                    refine lv_aload_n hx hb dlw_339 rfl (lv_at hl 0 rfl) ?_
                    refine lv_iload_n hx hb dlw_340 rfl (lv_at hl 3 rfl) ?_
                    refine lv_iconst (v := 1) hx hb dlw_341 (by decide) ?_
                    refine lv_iadd hx hb dlw_342 ?_
                    refine va_sld hx hb hX hbl hbA hS hi1 dlw_343 ?_
                    refine lw_u_ir (As := [.int (xs (y3 + 1).toNatClampNeg)]) (rest := []) (res := r) ⟨hx, hb, hml, hown, hts⟩ (cur_Rb_goal l D a k hA.1 σ (xs (y3 + 1).toNatClampNeg) r e1) (urc_UpdateRobotLaw_49 hts ⟨by decide, by decide⟩) hK hA hP hR rfl hl.1 rfl (Nat.le_of_ble_eq_true rfl) dlw_344 ⟨by decide, by decide⟩ hS (fun H locs hP hR hS => ?_)
                    refine lv_aload_n hx hb dlw_347 rfl (lv_at hl 2 rfl) ?_
                    refine lv_aload_n hx hb dlw_348 rfl (lv_at hl 0 rfl) ?_
                    refine lv_iload_n hx hb dlw_349 rfl (lv_at hl 3 rfl) ?_
                    refine lv_iconst (v := 1) hx hb dlw_350 (by decide) ?_
                    refine lv_iadd hx hb dlw_351 ?_
                    refine va_sld hx hb hX hbl hbA hS hi1 dlw_352 ?_
                    refine lw_r_iw (As := [.int (xs (y3 + 1).toNatClampNeg)]) (rest := [.int r]) (res := (r, τ1)) ⟨hx, hb, hml, hown, hts⟩ (crf_Md_goal l D b k hA.2.1 τ (xs (y3 + 1).toNatClampNeg) (r, τ1) e2) (rfc_UpdateRobotLaw_52 hts ⟨by decide, by decide⟩) hK hA hP hR rfl hl.1 rfl (Nat.le_of_ble_eq_true rfl) dlw_353 ⟨by decide, by decide⟩ hS (fun H locs hP hR hS => ?_)
                    refine lv_icmp_eq (tgt := 594) hx hb dlw_356 (by decide) (fun ce => ?_) (fun ce => ?_)
                    · exact back σ τ1 e4 H locs hP hR hS
                    · exact absurd rfl ce
                  · skip
                    refine ob_cs (c := z = 7) (fun z7 => ?_) (fun z7 => ?_)
                    · refine lv_tableIn (tgt := 361) hx hb dlw_42 (by rw [z7]; decide) (by rw [z7]; decide) (by rw [z7]; rfl) (by decide) ?_
                      obtain ⟨r, τ1, e1, e2, e4⟩ := hI7 σ τ (xs (y3 + 1).toNatClampNeg) hσ
                      refine lv_aload_n hx hb dlw_361 rfl (lv_at hl 1 rfl) ?_
                      refine lv_aload_n hx hb dlw_362 rfl (lv_at hl 0 rfl) ?_
                      refine lv_iload_n hx hb dlw_363 rfl (lv_at hl 3 rfl) ?_
                      refine lv_iconst (v := 1) hx hb dlw_364 (by decide) ?_
                      refine lv_iadd hx hb dlw_365 ?_
                      refine va_sld hx hb hX hbl hbA hS hi1 dlw_366 ?_
                      refine lw_u_ir (As := [.int (xs (y3 + 1).toNatClampNeg)]) (rest := []) (res := r) ⟨hx, hb, hml, hown, hts⟩ (cur_Rb_chief l D a k hA.1 σ (xs (y3 + 1).toNatClampNeg) r e1) (urc_UpdateRobotLaw_53 hts ⟨by decide, by decide⟩) hK hA hP hR rfl hl.1 rfl (Nat.le_of_ble_eq_true rfl) dlw_367 ⟨by decide, by decide⟩ hS (fun H locs hP hR hS => ?_)
                      refine lv_aload_n hx hb dlw_370 rfl (lv_at hl 2 rfl) ?_
                      refine lv_aload_n hx hb dlw_371 rfl (lv_at hl 0 rfl) ?_
                      refine lv_iload_n hx hb dlw_372 rfl (lv_at hl 3 rfl) ?_
                      refine lv_iconst (v := 1) hx hb dlw_373 (by decide) ?_
                      refine lv_iadd hx hb dlw_374 ?_
                      refine va_sld hx hb hX hbl hbA hS hi1 dlw_375 ?_
                      refine lw_r_iw (As := [.int (xs (y3 + 1).toNatClampNeg)]) (rest := [.int r]) (res := (r, τ1)) ⟨hx, hb, hml, hown, hts⟩ (crf_Md_chief l D b k hA.2.1 τ (xs (y3 + 1).toNatClampNeg) (r, τ1) e2) (rfc_UpdateRobotLaw_56 hts ⟨by decide, by decide⟩) hK hA hP hR rfl hl.1 rfl (Nat.le_of_ble_eq_true rfl) dlw_376 ⟨by decide, by decide⟩ hS (fun H locs hP hR hS => ?_)
                      refine lv_icmp_eq (tgt := 594) hx hb dlw_379 (by decide) (fun ce => ?_) (fun ce => ?_)
                      · exact back σ τ1 e4 H locs hP hR hS
                      · exact absurd rfl ce
                    · skip
                      refine ob_cs (c := z = 8) (fun z8 => ?_) (fun z8 => ?_)
                      · refine lv_tableIn (tgt := 384) hx hb dlw_42 (by rw [z8]; decide) (by rw [z8]; decide) (by rw [z8]; rfl) (by decide) ?_
                        obtain ⟨r, σ1, τ1, e1, e2, e4⟩ := hI8 σ τ (xs (y3 + 1).toNatClampNeg) hσ
                        refine lv_aload_n hx hb dlw_384 rfl (lv_at hl 1 rfl) ?_
                        refine lv_aload_n hx hb dlw_385 rfl (lv_at hl 0 rfl) ?_
                        refine lv_iload_n hx hb dlw_386 rfl (lv_at hl 3 rfl) ?_
                        refine lv_iconst (v := 1) hx hb dlw_387 (by decide) ?_
                        refine lv_iadd hx hb dlw_388 ?_
                        refine va_sld hx hb hX hbl hbA hS hi1 dlw_389 ?_
                        refine lw_u_iw (As := [.int (xs (y3 + 1).toNatClampNeg)]) (rest := []) (res := (r, σ1)) ⟨hx, hb, hml, hown, hts⟩ (cur_Rb_solve l D a k hA.1 σ (xs (y3 + 1).toNatClampNeg) (r, σ1) e1) (urc_UpdateRobotLaw_57 hts ⟨by decide, by decide⟩) hK hA hP hR rfl hl.1 rfl (Nat.le_of_ble_eq_true rfl) dlw_390 ⟨by decide, by decide⟩ hS (fun H locs hP hR hS => ?_)
                        refine lv_aload_n hx hb dlw_393 rfl (lv_at hl 2 rfl) ?_
                        refine lv_aload_n hx hb dlw_394 rfl (lv_at hl 0 rfl) ?_
                        refine lv_iload_n hx hb dlw_395 rfl (lv_at hl 3 rfl) ?_
                        refine lv_iconst (v := 1) hx hb dlw_396 (by decide) ?_
                        refine lv_iadd hx hb dlw_397 ?_
                        refine va_sld hx hb hX hbl hbA hS hi1 dlw_398 ?_
                        refine lw_r_iw (As := [.int (xs (y3 + 1).toNatClampNeg)]) (rest := [.int r]) (res := (r, τ1)) ⟨hx, hb, hml, hown, hts⟩ (crf_Md_solve l D b k hA.2.1 τ (xs (y3 + 1).toNatClampNeg) (r, τ1) e2) (rfc_UpdateRobotLaw_60 hts ⟨by decide, by decide⟩) hK hA hP hR rfl hl.1 rfl (Nat.le_of_ble_eq_true rfl) dlw_399 ⟨by decide, by decide⟩ hS (fun H locs hP hR hS => ?_)
                        refine lv_icmp_eq (tgt := 594) hx hb dlw_402 (by decide) (fun ce => ?_) (fun ce => ?_)
                        · exact back σ1 τ1 e4 H locs hP hR hS
                        · exact absurd rfl ce
                      · skip
                        refine ob_cs (c := z = 9) (fun z9 => ?_) (fun z9 => ?_)
                        · refine lv_tableIn (tgt := 407) hx hb dlw_42 (by rw [z9]; decide) (by rw [z9]; decide) (by rw [z9]; rfl) (by decide) ?_
                          obtain ⟨r, σ1, τ1, e1, e2, e4⟩ := hI9 σ τ (xs (y3 + 1).toNatClampNeg) hσ
                          refine lv_aload_n hx hb dlw_407 rfl (lv_at hl 1 rfl) ?_
                          refine lv_aload_n hx hb dlw_408 rfl (lv_at hl 0 rfl) ?_
                          refine lv_iload_n hx hb dlw_409 rfl (lv_at hl 3 rfl) ?_
                          refine lv_iconst (v := 1) hx hb dlw_410 (by decide) ?_
                          refine lv_iadd hx hb dlw_411 ?_
                          refine va_sld hx hb hX hbl hbA hS hi1 dlw_412 ?_
                          refine lw_u_iw (As := [.int (xs (y3 + 1).toNatClampNeg)]) (rest := []) (res := (r, σ1)) ⟨hx, hb, hml, hown, hts⟩ (cur_Rb_tick l D a k hA.1 σ (xs (y3 + 1).toNatClampNeg) (r, σ1) e1) (urc_UpdateRobotLaw_61 hts ⟨by decide, by decide⟩) hK hA hP hR rfl hl.1 rfl (Nat.le_of_ble_eq_true rfl) dlw_413 ⟨by decide, by decide⟩ hS (fun H locs hP hR hS => ?_)
                          refine lv_aload_n hx hb dlw_416 rfl (lv_at hl 2 rfl) ?_
                          refine lv_aload_n hx hb dlw_417 rfl (lv_at hl 0 rfl) ?_
                          refine lv_iload_n hx hb dlw_418 rfl (lv_at hl 3 rfl) ?_
                          refine lv_iconst (v := 1) hx hb dlw_419 (by decide) ?_
                          refine lv_iadd hx hb dlw_420 ?_
                          refine va_sld hx hb hX hbl hbA hS hi1 dlw_421 ?_
                          refine lw_r_iw (As := [.int (xs (y3 + 1).toNatClampNeg)]) (rest := [.int r]) (res := (r, τ1)) ⟨hx, hb, hml, hown, hts⟩ (crf_Md_tick l D b k hA.2.1 τ (xs (y3 + 1).toNatClampNeg) (r, τ1) e2) (rfc_UpdateRobotLaw_64 hts ⟨by decide, by decide⟩) hK hA hP hR rfl hl.1 rfl (Nat.le_of_ble_eq_true rfl) dlw_422 ⟨by decide, by decide⟩ hS (fun H locs hP hR hS => ?_)
                          refine lv_icmp_eq (tgt := 594) hx hb dlw_425 (by decide) (fun ce => ?_) (fun ce => ?_)
                          · exact back σ1 τ1 e4 H locs hP hR hS
                          · exact absurd rfl ce
                        · skip
                          refine ob_cs (c := z = 10) (fun z10 => ?_) (fun z10 => ?_)
                          · refine lv_tableIn (tgt := 430) hx hb dlw_42 (by rw [z10]; decide) (by rw [z10]; decide) (by rw [z10]; rfl) (by decide) ?_
                            obtain ⟨r, σ1, τ1, e1, e2, e4⟩ := hI10 σ τ  hσ
                            refine lv_aload_n hx hb dlw_430 rfl (lv_at hl 1 rfl) ?_
                            refine lw_u_iw (As := []) (rest := []) (res := (r, σ1)) ⟨hx, hb, hml, hown, hts⟩ (cur_Rb_run l D a k hA.1 σ  (r, σ1) e1) (urc_UpdateRobotLaw_65 hts ⟨by decide, by decide⟩) hK hA hP hR rfl hl.1 rfl (Nat.le_of_ble_eq_true rfl) dlw_431 ⟨by decide, by decide⟩ hS (fun H locs hP hR hS => ?_)
                            refine lv_aload_n hx hb dlw_434 rfl (lv_at hl 2 rfl) ?_
                            refine lw_r_iw (As := []) (rest := [.int r]) (res := (r, τ1)) ⟨hx, hb, hml, hown, hts⟩ (crf_Md_run l D b k hA.2.1 τ  (r, τ1) e2) (rfc_UpdateRobotLaw_69 hts ⟨by decide, by decide⟩) hK hA hP hR rfl hl.1 rfl (Nat.le_of_ble_eq_true rfl) dlw_435 ⟨by decide, by decide⟩ hS (fun H locs hP hR hS => ?_)
                            refine lv_icmp_eq (tgt := 594) hx hb dlw_438 (by decide) (fun ce => ?_) (fun ce => ?_)
                            · exact back σ1 τ1 e4 H locs hP hR hS
                            · exact absurd rfl ce
                          · skip
                            refine ob_cs (c := z = 11) (fun z11 => ?_) (fun z11 => ?_)
                            · refine lv_tableIn (tgt := 443) hx hb dlw_42 (by rw [z11]; decide) (by rw [z11]; decide) (by rw [z11]; rfl) (by decide) ?_
                              obtain ⟨r, τ1, e1, e2, e4⟩ := hI11 σ τ  hσ
                              refine lv_aload_n hx hb dlw_443 rfl (lv_at hl 1 rfl) ?_
                              refine lw_u_ir (As := []) (rest := []) (res := r) ⟨hx, hb, hml, hown, hts⟩ (cur_Rb_waiting l D a k hA.1 σ  r e1) (urc_UpdateRobotLaw_70 hts ⟨by decide, by decide⟩) hK hA hP hR rfl hl.1 rfl (Nat.le_of_ble_eq_true rfl) dlw_444 ⟨by decide, by decide⟩ hS (fun H locs hP hR hS => ?_)
                              refine lv_aload_n hx hb dlw_447 rfl (lv_at hl 2 rfl) ?_
                              refine lw_r_iw (As := []) (rest := [.int r]) (res := (r, τ1)) ⟨hx, hb, hml, hown, hts⟩ (crf_Md_waiting l D b k hA.2.1 τ  (r, τ1) e2) (rfc_UpdateRobotLaw_73 hts ⟨by decide, by decide⟩) hK hA hP hR rfl hl.1 rfl (Nat.le_of_ble_eq_true rfl) dlw_448 ⟨by decide, by decide⟩ hS (fun H locs hP hR hS => ?_)
                              refine lv_icmp_eq (tgt := 594) hx hb dlw_451 (by decide) (fun ce => ?_) (fun ce => ?_)
                              · exact back σ τ1 e4 H locs hP hR hS
                              · exact absurd rfl ce
                            · skip
                              refine ob_cs (c := z = 12) (fun z12 => ?_) (fun z12 => ?_)
                              · refine lv_tableIn (tgt := 456) hx hb dlw_42 (by rw [z12]; decide) (by rw [z12]; decide) (by rw [z12]; rfl) (by decide) ?_
                                obtain ⟨r, τ1, e1, e2, e4⟩ := hI12 σ τ (xs (y3 + 1).toNatClampNeg) (xs (y3 + 2).toNatClampNeg) hσ
                                refine lv_aload_n hx hb dlw_456 rfl (lv_at hl 1 rfl) ?_
                                refine lv_aload_n hx hb dlw_457 rfl (lv_at hl 0 rfl) ?_
                                refine lv_iload_n hx hb dlw_458 rfl (lv_at hl 3 rfl) ?_
                                refine lv_iconst (v := 1) hx hb dlw_459 (by decide) ?_
                                refine lv_iadd hx hb dlw_460 ?_
                                refine va_sld hx hb hX hbl hbA hS hi1 dlw_461 ?_
                                refine lv_aload_n hx hb dlw_462 rfl (lv_at hl 0 rfl) ?_
                                refine lv_iload_n hx hb dlw_463 rfl (lv_at hl 3 rfl) ?_
                                refine lv_iconst (v := 2) hx hb dlw_464 (by decide) ?_
                                refine lv_iadd hx hb dlw_465 ?_
                                refine va_sld hx hb hX hbl hbA hS hi2 dlw_466 ?_
                                refine lw_u_ir (As := [.int (xs (y3 + 1).toNatClampNeg), .int (xs (y3 + 2).toNatClampNeg)]) (rest := []) (res := r) ⟨hx, hb, hml, hown, hts⟩ (cur_Rb_about l D a k hA.1 σ (xs (y3 + 1).toNatClampNeg) (xs (y3 + 2).toNatClampNeg) r e1) (urc_UpdateRobotLaw_74 hts ⟨by decide, by decide⟩) hK hA hP hR rfl hl.1 rfl (Nat.le_of_ble_eq_true rfl) dlw_467 ⟨by decide, by decide⟩ hS (fun H locs hP hR hS => ?_)
                                refine lv_aload_n hx hb dlw_470 rfl (lv_at hl 2 rfl) ?_
                                refine lv_aload_n hx hb dlw_471 rfl (lv_at hl 0 rfl) ?_
                                refine lv_iload_n hx hb dlw_472 rfl (lv_at hl 3 rfl) ?_
                                refine lv_iconst (v := 1) hx hb dlw_473 (by decide) ?_
                                refine lv_iadd hx hb dlw_474 ?_
                                refine va_sld hx hb hX hbl hbA hS hi1 dlw_475 ?_
                                refine lv_aload_n hx hb dlw_476 rfl (lv_at hl 0 rfl) ?_
                                refine lv_iload_n hx hb dlw_477 rfl (lv_at hl 3 rfl) ?_
                                refine lv_iconst (v := 2) hx hb dlw_478 (by decide) ?_
                                refine lv_iadd hx hb dlw_479 ?_
                                refine va_sld hx hb hX hbl hbA hS hi2 dlw_480 ?_
                                refine lw_r_iw (As := [.int (xs (y3 + 1).toNatClampNeg), .int (xs (y3 + 2).toNatClampNeg)]) (rest := [.int r]) (res := (r, τ1)) ⟨hx, hb, hml, hown, hts⟩ (crf_Md_about l D b k hA.2.1 τ (xs (y3 + 1).toNatClampNeg) (xs (y3 + 2).toNatClampNeg) (r, τ1) e2) (rfc_UpdateRobotLaw_77 hts ⟨by decide, by decide⟩) hK hA hP hR rfl hl.1 rfl (Nat.le_of_ble_eq_true rfl) dlw_481 ⟨by decide, by decide⟩ hS (fun H locs hP hR hS => ?_)
                                refine lv_icmp_eq (tgt := 594) hx hb dlw_484 (by decide) (fun ce => ?_) (fun ce => ?_)
                                · exact back σ τ1 e4 H locs hP hR hS
                                · exact absurd rfl ce
                              · skip
                                refine ob_cs (c := z = 13) (fun z13 => ?_) (fun z13 => ?_)
                                · refine lv_tableIn (tgt := 489) hx hb dlw_42 (by rw [z13]; decide) (by rw [z13]; decide) (by rw [z13]; rfl) (by decide) ?_
                                  obtain ⟨r, τ1, e1, e2, e4⟩ := hI13 σ τ (xs (y3 + 1).toNatClampNeg) (xs (y3 + 2).toNatClampNeg) hσ
                                  refine lv_aload_n hx hb dlw_489 rfl (lv_at hl 1 rfl) ?_
                                  refine lv_aload_n hx hb dlw_490 rfl (lv_at hl 0 rfl) ?_
                                  refine lv_iload_n hx hb dlw_491 rfl (lv_at hl 3 rfl) ?_
                                  refine lv_iconst (v := 1) hx hb dlw_492 (by decide) ?_
                                  refine lv_iadd hx hb dlw_493 ?_
                                  refine va_sld hx hb hX hbl hbA hS hi1 dlw_494 ?_
                                  refine lv_aload_n hx hb dlw_495 rfl (lv_at hl 0 rfl) ?_
                                  refine lv_iload_n hx hb dlw_496 rfl (lv_at hl 3 rfl) ?_
                                  refine lv_iconst (v := 2) hx hb dlw_497 (by decide) ?_
                                  refine lv_iadd hx hb dlw_498 ?_
                                  refine va_sld hx hb hX hbl hbA hS hi2 dlw_499 ?_
                                  refine lw_u_ir (As := [.int (xs (y3 + 1).toNatClampNeg), .int (xs (y3 + 2).toNatClampNeg)]) (rest := []) (res := r) ⟨hx, hb, hml, hown, hts⟩ (cur_Rb_target l D a k hA.1 σ (xs (y3 + 1).toNatClampNeg) (xs (y3 + 2).toNatClampNeg) r e1) (urc_UpdateRobotLaw_78 hts ⟨by decide, by decide⟩) hK hA hP hR rfl hl.1 rfl (Nat.le_of_ble_eq_true rfl) dlw_500 ⟨by decide, by decide⟩ hS (fun H locs hP hR hS => ?_)
                                  refine lv_aload_n hx hb dlw_503 rfl (lv_at hl 2 rfl) ?_
                                  refine lv_aload_n hx hb dlw_504 rfl (lv_at hl 0 rfl) ?_
                                  refine lv_iload_n hx hb dlw_505 rfl (lv_at hl 3 rfl) ?_
                                  refine lv_iconst (v := 1) hx hb dlw_506 (by decide) ?_
                                  refine lv_iadd hx hb dlw_507 ?_
                                  refine va_sld hx hb hX hbl hbA hS hi1 dlw_508 ?_
                                  refine lv_aload_n hx hb dlw_509 rfl (lv_at hl 0 rfl) ?_
                                  refine lv_iload_n hx hb dlw_510 rfl (lv_at hl 3 rfl) ?_
                                  refine lv_iconst (v := 2) hx hb dlw_511 (by decide) ?_
                                  refine lv_iadd hx hb dlw_512 ?_
                                  refine va_sld hx hb hX hbl hbA hS hi2 dlw_513 ?_
                                  refine lw_r_iw (As := [.int (xs (y3 + 1).toNatClampNeg), .int (xs (y3 + 2).toNatClampNeg)]) (rest := [.int r]) (res := (r, τ1)) ⟨hx, hb, hml, hown, hts⟩ (crf_Md_target l D b k hA.2.1 τ (xs (y3 + 1).toNatClampNeg) (xs (y3 + 2).toNatClampNeg) (r, τ1) e2) (rfc_UpdateRobotLaw_81 hts ⟨by decide, by decide⟩) hK hA hP hR rfl hl.1 rfl (Nat.le_of_ble_eq_true rfl) dlw_514 ⟨by decide, by decide⟩ hS (fun H locs hP hR hS => ?_)
                                  refine lv_icmp_eq (tgt := 594) hx hb dlw_517 (by decide) (fun ce => ?_) (fun ce => ?_)
                                  · exact back σ τ1 e4 H locs hP hR hS
                                  · exact absurd rfl ce
                                · skip
                                  refine ob_cs (c := z = 14) (fun z14 => ?_) (fun z14 => ?_)
                                  · refine lv_tableIn (tgt := 522) hx hb dlw_42 (by rw [z14]; decide) (by rw [z14]; decide) (by rw [z14]; rfl) (by decide) ?_
                                    refine ob_cs (c := (xs (y3 + 2).toNatClampNeg) = 0) (fun cz => ?_) (fun cz => ?_)
                                    · obtain ⟨r, σ1, τ1, e1, e2, e4⟩ := hI14 σ τ (xs (y3 + 1).toNatClampNeg) 0 hσ (by decide)
                                      refine lv_aload_n hx hb dlw_522 rfl (lv_at hl 1 rfl) ?_
                                      refine lv_aload_n hx hb dlw_523 rfl (lv_at hl 0 rfl) ?_
                                      refine lv_iload_n hx hb dlw_524 rfl (lv_at hl 3 rfl) ?_
                                      refine lv_iconst (v := 1) hx hb dlw_525 (by decide) ?_
                                      refine lv_iadd hx hb dlw_526 ?_
                                      refine va_sld hx hb hX hbl hbA hS hi1 dlw_527 ?_
                                      refine lv_aload_n hx hb dlw_528 rfl (lv_at hl 0 rfl) ?_
                                      refine lv_iload_n hx hb dlw_529 rfl (lv_at hl 3 rfl) ?_
                                      refine lv_iconst (v := 2) hx hb dlw_530 (by decide) ?_
                                      refine lv_iadd hx hb dlw_531 ?_
                                      refine va_sld hx hb hX hbl hbA hS hi2 dlw_532 ?_
                                      refine lv_if_eq (tgt := 540) hx hb dlw_533 (by decide) (fun cb => ?_) (fun cb => ?_)
                                      rotate_left
                                      · exact absurd cz cb
                                      refine lv_iconst (v := 0) hx hb dlw_540 (by decide) ?_
                                      refine lw_u_iw (As := [.int (xs (y3 + 1).toNatClampNeg), .int 0]) (rest := []) (res := (r, σ1)) ⟨hx, hb, hml, hown, hts⟩ (cur_Rb_pass l D a k hA.1 σ (xs (y3 + 1).toNatClampNeg) 0 (r, σ1) e1) (urc_UpdateRobotLaw_82 hts ⟨by decide, by decide⟩) hK hA hP hR rfl hl.1 rfl (Nat.le_of_ble_eq_true rfl) dlw_541 ⟨by decide, by decide⟩ hS (fun H locs hP hR hS => ?_)
                                      refine lv_aload_n hx hb dlw_544 rfl (lv_at hl 2 rfl) ?_
                                      refine lv_aload_n hx hb dlw_545 rfl (lv_at hl 0 rfl) ?_
                                      refine lv_iload_n hx hb dlw_546 rfl (lv_at hl 3 rfl) ?_
                                      refine lv_iconst (v := 1) hx hb dlw_547 (by decide) ?_
                                      refine lv_iadd hx hb dlw_548 ?_
                                      refine va_sld hx hb hX hbl hbA hS hi1 dlw_549 ?_
                                      refine lv_aload_n hx hb dlw_550 rfl (lv_at hl 0 rfl) ?_
                                      refine lv_iload_n hx hb dlw_551 rfl (lv_at hl 3 rfl) ?_
                                      refine lv_iconst (v := 2) hx hb dlw_552 (by decide) ?_
                                      refine lv_iadd hx hb dlw_553 ?_
                                      refine va_sld hx hb hX hbl hbA hS hi2 dlw_554 ?_
                                      refine lv_if_eq (tgt := 562) hx hb dlw_555 (by decide) (fun cb => ?_) (fun cb => ?_)
                                      rotate_left
                                      · exact absurd cz cb
                                      refine lv_iconst (v := 0) hx hb dlw_562 (by decide) ?_
                                      refine lw_r_iw (As := [.int (xs (y3 + 1).toNatClampNeg), .int 0]) (rest := [.int r]) (res := (r, τ1)) ⟨hx, hb, hml, hown, hts⟩ (crf_Md_pass l D b k hA.2.1 τ (xs (y3 + 1).toNatClampNeg) 0 (r, τ1) e2) (rfc_UpdateRobotLaw_86 hts ⟨by decide, by decide⟩) hK hA hP hR rfl hl.1 rfl (Nat.le_of_ble_eq_true rfl) dlw_563 ⟨by decide, by decide⟩ hS (fun H locs hP hR hS => ?_)
                                      refine lv_icmp_eq (tgt := 594) hx hb dlw_566 (by decide) (fun ce => ?_) (fun ce => ?_)
                                      · exact back σ1 τ1 e4 H locs hP hR hS
                                      · exact absurd rfl ce
                                    · obtain ⟨r, σ1, τ1, e1, e2, e4⟩ := hI14 σ τ (xs (y3 + 1).toNatClampNeg) 1 hσ (by decide)
                                      refine lv_aload_n hx hb dlw_522 rfl (lv_at hl 1 rfl) ?_
                                      refine lv_aload_n hx hb dlw_523 rfl (lv_at hl 0 rfl) ?_
                                      refine lv_iload_n hx hb dlw_524 rfl (lv_at hl 3 rfl) ?_
                                      refine lv_iconst (v := 1) hx hb dlw_525 (by decide) ?_
                                      refine lv_iadd hx hb dlw_526 ?_
                                      refine va_sld hx hb hX hbl hbA hS hi1 dlw_527 ?_
                                      refine lv_aload_n hx hb dlw_528 rfl (lv_at hl 0 rfl) ?_
                                      refine lv_iload_n hx hb dlw_529 rfl (lv_at hl 3 rfl) ?_
                                      refine lv_iconst (v := 2) hx hb dlw_530 (by decide) ?_
                                      refine lv_iadd hx hb dlw_531 ?_
                                      refine va_sld hx hb hX hbl hbA hS hi2 dlw_532 ?_
                                      refine lv_if_eq (tgt := 540) hx hb dlw_533 (by decide) (fun cb => ?_) (fun cb => ?_)
                                      · exact absurd cb cz
                                      refine lv_iconst (v := 1) hx hb dlw_536 (by decide) ?_
                                      refine lv_goto (tgt := 541) hx hb dlw_537 (by decide) ?_
                                      refine lw_u_iw (As := [.int (xs (y3 + 1).toNatClampNeg), .int 1]) (rest := []) (res := (r, σ1)) ⟨hx, hb, hml, hown, hts⟩ (cur_Rb_pass l D a k hA.1 σ (xs (y3 + 1).toNatClampNeg) 1 (r, σ1) e1) (urc_UpdateRobotLaw_82 hts ⟨by decide, by decide⟩) hK hA hP hR rfl hl.1 rfl (Nat.le_of_ble_eq_true rfl) dlw_541 ⟨by decide, by decide⟩ hS (fun H locs hP hR hS => ?_)
                                      refine lv_aload_n hx hb dlw_544 rfl (lv_at hl 2 rfl) ?_
                                      refine lv_aload_n hx hb dlw_545 rfl (lv_at hl 0 rfl) ?_
                                      refine lv_iload_n hx hb dlw_546 rfl (lv_at hl 3 rfl) ?_
                                      refine lv_iconst (v := 1) hx hb dlw_547 (by decide) ?_
                                      refine lv_iadd hx hb dlw_548 ?_
                                      refine va_sld hx hb hX hbl hbA hS hi1 dlw_549 ?_
                                      refine lv_aload_n hx hb dlw_550 rfl (lv_at hl 0 rfl) ?_
                                      refine lv_iload_n hx hb dlw_551 rfl (lv_at hl 3 rfl) ?_
                                      refine lv_iconst (v := 2) hx hb dlw_552 (by decide) ?_
                                      refine lv_iadd hx hb dlw_553 ?_
                                      refine va_sld hx hb hX hbl hbA hS hi2 dlw_554 ?_
                                      refine lv_if_eq (tgt := 562) hx hb dlw_555 (by decide) (fun cb => ?_) (fun cb => ?_)
                                      · exact absurd cb cz
                                      refine lv_iconst (v := 1) hx hb dlw_558 (by decide) ?_
                                      refine lv_goto (tgt := 563) hx hb dlw_559 (by decide) ?_
                                      refine lw_r_iw (As := [.int (xs (y3 + 1).toNatClampNeg), .int 1]) (rest := [.int r]) (res := (r, τ1)) ⟨hx, hb, hml, hown, hts⟩ (crf_Md_pass l D b k hA.2.1 τ (xs (y3 + 1).toNatClampNeg) 1 (r, τ1) e2) (rfc_UpdateRobotLaw_86 hts ⟨by decide, by decide⟩) hK hA hP hR rfl hl.1 rfl (Nat.le_of_ble_eq_true rfl) dlw_563 ⟨by decide, by decide⟩ hS (fun H locs hP hR hS => ?_)
                                      refine lv_icmp_eq (tgt := 594) hx hb dlw_566 (by decide) (fun ce => ?_) (fun ce => ?_)
                                      · exact back σ1 τ1 e4 H locs hP hR hS
                                      · exact absurd rfl ce
                                  · skip
                                    refine ob_cs (c := z = 15) (fun z15 => ?_) (fun z15 => ?_)
                                    · refine lv_tableIn (tgt := 571) hx hb dlw_42 (by rw [z15]; decide) (by rw [z15]; decide) (by rw [z15]; rfl) (by decide) ?_
                                      obtain ⟨r, τ1, e1, e2, e4⟩ := hI15 σ τ (xs (y3 + 1).toNatClampNeg) hσ
                                      refine lv_aload_n hx hb dlw_571 rfl (lv_at hl 1 rfl) ?_
                                      refine lv_aload_n hx hb dlw_572 rfl (lv_at hl 0 rfl) ?_
                                      refine lv_iload_n hx hb dlw_573 rfl (lv_at hl 3 rfl) ?_
                                      refine lv_iconst (v := 1) hx hb dlw_574 (by decide) ?_
                                      refine lv_iadd hx hb dlw_575 ?_
                                      refine va_sld hx hb hX hbl hbA hS hi1 dlw_576 ?_
                                      refine lw_u_ir (As := [.int (xs (y3 + 1).toNatClampNeg)]) (rest := []) (res := r) ⟨hx, hb, hml, hown, hts⟩ (cur_Rb_open l D a k hA.1 σ (xs (y3 + 1).toNatClampNeg) r e1) (urc_UpdateRobotLaw_87 hts ⟨by decide, by decide⟩) hK hA hP hR rfl hl.1 rfl (Nat.le_of_ble_eq_true rfl) dlw_577 ⟨by decide, by decide⟩ hS (fun H locs hP hR hS => ?_)
                                      refine lv_aload_n hx hb dlw_580 rfl (lv_at hl 2 rfl) ?_
                                      refine lv_aload_n hx hb dlw_581 rfl (lv_at hl 0 rfl) ?_
                                      refine lv_iload_n hx hb dlw_582 rfl (lv_at hl 3 rfl) ?_
                                      refine lv_iconst (v := 1) hx hb dlw_583 (by decide) ?_
                                      refine lv_iadd hx hb dlw_584 ?_
                                      refine va_sld hx hb hX hbl hbA hS hi1 dlw_585 ?_
                                      refine lw_r_iw (As := [.int (xs (y3 + 1).toNatClampNeg)]) (rest := [.int r]) (res := (r, τ1)) ⟨hx, hb, hml, hown, hts⟩ (crf_Md_open l D b k hA.2.1 τ (xs (y3 + 1).toNatClampNeg) (r, τ1) e2) (rfc_UpdateRobotLaw_90 hts ⟨by decide, by decide⟩) hK hA hP hR rfl hl.1 rfl (Nat.le_of_ble_eq_true rfl) dlw_586 ⟨by decide, by decide⟩ hS (fun H locs hP hR hS => ?_)
                                      refine lv_icmp_eq (tgt := 594) hx hb dlw_589 (by decide) (fun ce => ?_) (fun ce => ?_)
                                      · exact back σ τ1 e4 H locs hP hR hS
                                      · exact absurd rfl ce
                                    · skip
                                      refine lv_tableOut (tgt := 594) hx hb dlw_42 (by have q0 := lv_neT z0 (show (0 : Int32).toInt = 0 by decide); have q1 := lv_neT z1 (show (1 : Int32).toInt = 1 by decide); have q2 := lv_neT z2 (show (2 : Int32).toInt = 2 by decide); have q3 := lv_neT z3 (show (3 : Int32).toInt = 3 by decide); have q4 := lv_neT z4 (show (4 : Int32).toInt = 4 by decide); have q5 := lv_neT z5 (show (5 : Int32).toInt = 5 by decide); have q6 := lv_neT z6 (show (6 : Int32).toInt = 6 by decide); have q7 := lv_neT z7 (show (7 : Int32).toInt = 7 by decide); have q8 := lv_neT z8 (show (8 : Int32).toInt = 8 by decide); have q9 := lv_neT z9 (show (9 : Int32).toInt = 9 by decide); have q10 := lv_neT z10 (show (10 : Int32).toInt = 10 by decide); have q11 := lv_neT z11 (show (11 : Int32).toInt = 11 by decide); have q12 := lv_neT z12 (show (12 : Int32).toInt = 12 by decide); have q13 := lv_neT z13 (show (13 : Int32).toInt = 13 by decide); have q14 := lv_neT z14 (show (14 : Int32).toInt = 14 by decide); have q15 := lv_neT z15 (show (15 : Int32).toInt = 15 by decide); omega) (by decide) ?_
                                      exact back σ τ hσ H locs hP hR hS

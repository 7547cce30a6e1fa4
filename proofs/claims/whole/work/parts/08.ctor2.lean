def ur_es_Nm (k : Nat → ClassId) (h0 : Nat) : List va_E := [.inr (1, [.int 0, .ref (h0 + 1), .ref (h0 + 2), .ref (h0 + 3), .ref (h0 + 4), .ref (h0 + 5), .ref (h0 + 6), .ref (h0 + 7), .ref (h0 + 8), .ref (h0 + 9), .ref (h0 + 22), .ref (h0 + 35)]), .inl (k 0, 12, .inl (fun _ => 0)), .inl (k 0, 12, .inl (fun _ => 0)), .inl (k 0, 12, .inl (fun _ => 0)), .inl (k 0, 12, .inl (fun _ => 0)), .inl (k 0, 12, .inl (fun _ => 0)), .inl (k 0, 12, .inl (fun _ => 0)), .inl (k 0, 12, .inl (fun _ => 0)), .inl (k 0, 12, .inl (fun _ => 0)), .inl (k 2, 12, .inr (.inr (.inr (.inr (fun i => if i < 12 then some (h0 + 9 + 1 + i) else none))))), .inl (k 0, 8, .inl (fun _ => 0)), .inl (k 0, 8, .inl (fun _ => 0)), .inl (k 0, 8, .inl (fun _ => 0)), .inl (k 0, 8, .inl (fun _ => 0)), .inl (k 0, 8, .inl (fun _ => 0)), .inl (k 0, 8, .inl (fun _ => 0)), .inl (k 0, 8, .inl (fun _ => 0)), .inl (k 0, 8, .inl (fun _ => 0)), .inl (k 0, 8, .inl (fun _ => 0)), .inl (k 0, 8, .inl (fun _ => 0)), .inl (k 0, 8, .inl (fun _ => 0)), .inl (k 0, 8, .inl (fun _ => 0)), .inl (k 2, 12, .inr (.inr (.inr (.inr (fun i => if i < 12 then some (h0 + 22 + 1 + i) else none))))), .inl (k 0, 8, .inl (fun _ => 0)), .inl (k 0, 8, .inl (fun _ => 0)), .inl (k 0, 8, .inl (fun _ => 0)), .inl (k 0, 8, .inl (fun _ => 0)), .inl (k 0, 8, .inl (fun _ => 0)), .inl (k 0, 8, .inl (fun _ => 0)), .inl (k 0, 8, .inl (fun _ => 0)), .inl (k 0, 8, .inl (fun _ => 0)), .inl (k 0, 8, .inl (fun _ => 0)), .inl (k 0, 8, .inl (fun _ => 0)), .inl (k 0, 8, .inl (fun _ => 0)), .inl (k 0, 8, .inl (fun _ => 0)), .inl (k 2, 12, .inr (.inr (.inr (.inr (fun i => if i < 12 then some (h0 + 35 + 1 + i) else none))))), .inl (k 0, 8, .inl (fun _ => 0)), .inl (k 0, 8, .inl (fun _ => 0)), .inl (k 0, 8, .inl (fun _ => 0)), .inl (k 0, 8, .inl (fun _ => 0)), .inl (k 0, 8, .inl (fun _ => 0)), .inl (k 0, 8, .inl (fun _ => 0)), .inl (k 0, 8, .inl (fun _ => 0)), .inl (k 0, 8, .inl (fun _ => 0)), .inl (k 0, 8, .inl (fun _ => 0)), .inl (k 0, 8, .inl (fun _ => 0)), .inl (k 0, 8, .inl (fun _ => 0)), .inl (k 0, 8, .inl (fun _ => 0))]
set_option maxHeartbeats 4000000 in
set_option maxRecDepth 100000 in
theorem cur_Nm_init (l : Launch) (D : va_G) (k : Nat → ClassId) (h0 : Nat) : Met l ury_Nm_init urs_Nm_init urr_Nm_init (va_Pc [.ref h0] (fun U => lyP D h0 [.inr (1, [.int 0, .null, .null, .null, .null, .null, .null, .null, .null, .null, .null, .null])] U.heap ∧ ub_K D k U ∧ ub_O U)) (va_Qv (fun (_ : Unit) => True) (fun _ t => lyP D h0 (ur_es_Nm k h0) t.heap ∧ ub_K D k t) (fun q => h0 ≤ q)) 47 420 (fun q => h0 ≤ q) := by
  refine Met.ofW (cc := urb_Nm_init) (maxL := 1) (ret := none) (by decide) rfl ?_
  intro p e s m args below meth c s₁ B hml hv
  obtain ⟨rfl, hP, hK, hO⟩ := hv
  have hx := B.exec
  have hb := B.bytes
  have hr := B.returns
  have hts : ∀ w ∈ ub_T, w.before _ s = true := fun w hw => atoms_spec (ws := urs_Nm_init) B.pre w (List.mem_cons_of_mem _ hw)
  have hown : s.vm.findClass urR_Nm = some m.cls := findClass_of_methodNamed B.named
  have hlocks := B.notSynchronized
  have hin : meth.name = "<init>" := (name_of_methodNamed B.named B.method).1
  have hsz0 : s.heap.size = h0 + 1 := hP.1
  have hS : va_S (fun q => h0 ≤ q) s.heap s.heap [] := va_S.rf
  have hl := lv_entry ([.ref h0]) (n := 1) (Nat.le_of_ble_eq_true rfl)
  rw [lg_entry_eq]
  generalize (lg_sl ([.ref h0]) ++ List.replicate (1 - (lg_sl ([.ref h0])).length) Slot.unset).toArray = ls at hl ⊢
  have hl : lv_has ls 1 [(0, .ref h0)] := hl
  refine lv_aload_n hx hb dur_Nm_init_0 rfl (lv_at hl 0 rfl) ?_
  refine W.objInit hx hb hown (hts _ ubw_54) (hts _ ubw_41) (hts _ ubw_42) rfl (by rw [hml]; exact hl.1) rfl dur_Nm_init_1 (Nat.le_of_ble_eq_true rfl) (Nat.le_of_ble_eq_true rfl) ?_
  refine W.eq (g2 := F0 m 4 ls []) rfl ?_
  refine lv_aload_n hx hb dur_Nm_init_4 rfl (lv_at hl 0 rfl) ?_
  refine lv_iconst (v := 0) hx hb dur_Nm_init_5 (by decide) ?_
  refine ly_put (ci := 1) (v := .int 0) (ty := .int) (C := urR_Nm) (T := urF_Nm) (N := 12) hx hb hts uri_Nm urt_Nm urto_Nm urn_Nm hown hK hP hS rfl rfl 0 (by decide) (hts _ ubw_57) (fun _ h => h) rfl (by decide +kernel) rfl rfl (Nat.le_of_ble_eq_true rfl) (by rw [hsz0]; rfl) dur_Nm_init_6 (fun H locs hP hS => ?_)
  have hP : lyP D h0 [.inr (1, [.int 0, .null, .null, .null, .null, .null, .null, .null, .null, .null, .null, .null])] H := hP
  refine lv_aload_n hx hb dur_Nm_init_9 rfl (lv_at hl 0 rfl) ?_
  refine lv_bipush (v := 12) hx hb dur_Nm_init_10 (by decide) ?_
  refine ly_newa (n := 12) (N := 12) hx hb (hts _ ubw_108) hK hP hS (by decide) (by decide) (by decide) (Nat.le_of_ble_eq_true rfl) (Nat.le_of_ble_eq_true rfl) dur_Nm_init_12 (fun H hP hS => ?_)
  have hP : lyP D h0 [.inr (1, [.int 0, .null, .null, .null, .null, .null, .null, .null, .null, .null, .null, .null]), .inl (k 0, 12, .inl (fun _ => 0))] H := hP
  refine W.eq (g2 := F0 m 14 ls [.ref (h0 + 1), .ref h0]) rfl ?_
  refine W.widen (k := 1) (n := 12) (by decide) (by decide) ?_
  refine ly_putF (ci := 1) (v := .ref (h0 + 1)) (ty := (.array .int)) (C := urR_Nm) (T := urF_Nm) (N := 12) hx hb hts uri_Nm urt_Nm urto_Nm urn_Nm hown hK hP hS rfl rfl 1 (by decide) (hts _ ubw_60) (fun _ h => h) rfl hin rfl (by decide +kernel) rfl rfl (Nat.le_of_ble_eq_true rfl) (by rw [hsz0]; rfl) dur_Nm_init_14 (fun H locs hP hS => ?_)
  have hP : lyP D h0 [.inr (1, [.int 0, .ref (h0 + 1), .null, .null, .null, .null, .null, .null, .null, .null, .null, .null]), .inl (k 0, 12, .inl (fun _ => 0))] H := hP
  refine lv_aload_n hx hb dur_Nm_init_17 rfl (lv_at hl 0 rfl) ?_
  refine lv_bipush (v := 12) hx hb dur_Nm_init_18 (by decide) ?_
  refine ly_newa (n := 12) (N := 12) hx hb (hts _ ubw_108) hK hP hS (by decide) (by decide) (by decide) (Nat.le_of_ble_eq_true rfl) (Nat.le_of_ble_eq_true rfl) dur_Nm_init_20 (fun H hP hS => ?_)
  have hP : lyP D h0 [.inr (1, [.int 0, .ref (h0 + 1), .null, .null, .null, .null, .null, .null, .null, .null, .null, .null]), .inl (k 0, 12, .inl (fun _ => 0)), .inl (k 0, 12, .inl (fun _ => 0))] H := hP
  refine W.eq (g2 := F0 m 22 ls [.ref (h0 + 2), .ref h0]) rfl ?_
  refine W.widen (k := 2) (n := 24) (by decide) (by decide) ?_
  refine ly_putF (ci := 1) (v := .ref (h0 + 2)) (ty := (.array .int)) (C := urR_Nm) (T := urF_Nm) (N := 12) hx hb hts uri_Nm urt_Nm urto_Nm urn_Nm hown hK hP hS rfl rfl 2 (by decide) (hts _ ubw_62) (fun _ h => h) rfl hin rfl (by decide +kernel) rfl rfl (Nat.le_of_ble_eq_true rfl) (by rw [hsz0]; rfl) dur_Nm_init_22 (fun H locs hP hS => ?_)
  have hP : lyP D h0 [.inr (1, [.int 0, .ref (h0 + 1), .ref (h0 + 2), .null, .null, .null, .null, .null, .null, .null, .null, .null]), .inl (k 0, 12, .inl (fun _ => 0)), .inl (k 0, 12, .inl (fun _ => 0))] H := hP
  refine lv_aload_n hx hb dur_Nm_init_25 rfl (lv_at hl 0 rfl) ?_
  refine lv_bipush (v := 12) hx hb dur_Nm_init_26 (by decide) ?_
  refine ly_newa (n := 12) (N := 12) hx hb (hts _ ubw_108) hK hP hS (by decide) (by decide) (by decide) (Nat.le_of_ble_eq_true rfl) (Nat.le_of_ble_eq_true rfl) dur_Nm_init_28 (fun H hP hS => ?_)
  have hP : lyP D h0 [.inr (1, [.int 0, .ref (h0 + 1), .ref (h0 + 2), .null, .null, .null, .null, .null, .null, .null, .null, .null]), .inl (k 0, 12, .inl (fun _ => 0)), .inl (k 0, 12, .inl (fun _ => 0)), .inl (k 0, 12, .inl (fun _ => 0))] H := hP
  refine W.eq (g2 := F0 m 30 ls [.ref (h0 + 3), .ref h0]) rfl ?_
  refine W.widen (k := 3) (n := 36) (by decide) (by decide) ?_
  refine ly_putF (ci := 1) (v := .ref (h0 + 3)) (ty := (.array .int)) (C := urR_Nm) (T := urF_Nm) (N := 12) hx hb hts uri_Nm urt_Nm urto_Nm urn_Nm hown hK hP hS rfl rfl 3 (by decide) (hts _ ubw_63) (fun _ h => h) rfl hin rfl (by decide +kernel) rfl rfl (Nat.le_of_ble_eq_true rfl) (by rw [hsz0]; rfl) dur_Nm_init_30 (fun H locs hP hS => ?_)
  have hP : lyP D h0 [.inr (1, [.int 0, .ref (h0 + 1), .ref (h0 + 2), .ref (h0 + 3), .null, .null, .null, .null, .null, .null, .null, .null]), .inl (k 0, 12, .inl (fun _ => 0)), .inl (k 0, 12, .inl (fun _ => 0)), .inl (k 0, 12, .inl (fun _ => 0))] H := hP
  refine lv_aload_n hx hb dur_Nm_init_33 rfl (lv_at hl 0 rfl) ?_
  refine lv_bipush (v := 12) hx hb dur_Nm_init_34 (by decide) ?_
  refine ly_newa (n := 12) (N := 12) hx hb (hts _ ubw_108) hK hP hS (by decide) (by decide) (by decide) (Nat.le_of_ble_eq_true rfl) (Nat.le_of_ble_eq_true rfl) dur_Nm_init_36 (fun H hP hS => ?_)
  have hP : lyP D h0 [.inr (1, [.int 0, .ref (h0 + 1), .ref (h0 + 2), .ref (h0 + 3), .null, .null, .null, .null, .null, .null, .null, .null]), .inl (k 0, 12, .inl (fun _ => 0)), .inl (k 0, 12, .inl (fun _ => 0)), .inl (k 0, 12, .inl (fun _ => 0)), .inl (k 0, 12, .inl (fun _ => 0))] H := hP
  refine W.eq (g2 := F0 m 38 ls [.ref (h0 + 4), .ref h0]) rfl ?_
  refine W.widen (k := 4) (n := 48) (by decide) (by decide) ?_
  refine ly_putF (ci := 1) (v := .ref (h0 + 4)) (ty := (.array .int)) (C := urR_Nm) (T := urF_Nm) (N := 12) hx hb hts uri_Nm urt_Nm urto_Nm urn_Nm hown hK hP hS rfl rfl 4 (by decide) (hts _ ubw_66) (fun _ h => h) rfl hin rfl (by decide +kernel) rfl rfl (Nat.le_of_ble_eq_true rfl) (by rw [hsz0]; rfl) dur_Nm_init_38 (fun H locs hP hS => ?_)
  have hP : lyP D h0 [.inr (1, [.int 0, .ref (h0 + 1), .ref (h0 + 2), .ref (h0 + 3), .ref (h0 + 4), .null, .null, .null, .null, .null, .null, .null]), .inl (k 0, 12, .inl (fun _ => 0)), .inl (k 0, 12, .inl (fun _ => 0)), .inl (k 0, 12, .inl (fun _ => 0)), .inl (k 0, 12, .inl (fun _ => 0))] H := hP
  refine lv_aload_n hx hb dur_Nm_init_41 rfl (lv_at hl 0 rfl) ?_
  refine lv_bipush (v := 12) hx hb dur_Nm_init_42 (by decide) ?_
  refine ly_newa (n := 12) (N := 12) hx hb (hts _ ubw_108) hK hP hS (by decide) (by decide) (by decide) (Nat.le_of_ble_eq_true rfl) (Nat.le_of_ble_eq_true rfl) dur_Nm_init_44 (fun H hP hS => ?_)
  have hP : lyP D h0 [.inr (1, [.int 0, .ref (h0 + 1), .ref (h0 + 2), .ref (h0 + 3), .ref (h0 + 4), .null, .null, .null, .null, .null, .null, .null]), .inl (k 0, 12, .inl (fun _ => 0)), .inl (k 0, 12, .inl (fun _ => 0)), .inl (k 0, 12, .inl (fun _ => 0)), .inl (k 0, 12, .inl (fun _ => 0)), .inl (k 0, 12, .inl (fun _ => 0))] H := hP
  refine W.eq (g2 := F0 m 46 ls [.ref (h0 + 5), .ref h0]) rfl ?_
  refine W.widen (k := 5) (n := 60) (by decide) (by decide) ?_
  refine ly_putF (ci := 1) (v := .ref (h0 + 5)) (ty := (.array .int)) (C := urR_Nm) (T := urF_Nm) (N := 12) hx hb hts uri_Nm urt_Nm urto_Nm urn_Nm hown hK hP hS rfl rfl 5 (by decide) (hts _ ubw_68) (fun _ h => h) rfl hin rfl (by decide +kernel) rfl rfl (Nat.le_of_ble_eq_true rfl) (by rw [hsz0]; rfl) dur_Nm_init_46 (fun H locs hP hS => ?_)
  have hP : lyP D h0 [.inr (1, [.int 0, .ref (h0 + 1), .ref (h0 + 2), .ref (h0 + 3), .ref (h0 + 4), .ref (h0 + 5), .null, .null, .null, .null, .null, .null]), .inl (k 0, 12, .inl (fun _ => 0)), .inl (k 0, 12, .inl (fun _ => 0)), .inl (k 0, 12, .inl (fun _ => 0)), .inl (k 0, 12, .inl (fun _ => 0)), .inl (k 0, 12, .inl (fun _ => 0))] H := hP
  refine lv_aload_n hx hb dur_Nm_init_49 rfl (lv_at hl 0 rfl) ?_
  refine lv_bipush (v := 12) hx hb dur_Nm_init_50 (by decide) ?_
  refine ly_newa (n := 12) (N := 12) hx hb (hts _ ubw_108) hK hP hS (by decide) (by decide) (by decide) (Nat.le_of_ble_eq_true rfl) (Nat.le_of_ble_eq_true rfl) dur_Nm_init_52 (fun H hP hS => ?_)
  have hP : lyP D h0 [.inr (1, [.int 0, .ref (h0 + 1), .ref (h0 + 2), .ref (h0 + 3), .ref (h0 + 4), .ref (h0 + 5), .null, .null, .null, .null, .null, .null]), .inl (k 0, 12, .inl (fun _ => 0)), .inl (k 0, 12, .inl (fun _ => 0)), .inl (k 0, 12, .inl (fun _ => 0)), .inl (k 0, 12, .inl (fun _ => 0)), .inl (k 0, 12, .inl (fun _ => 0)), .inl (k 0, 12, .inl (fun _ => 0))] H := hP
  refine W.eq (g2 := F0 m 54 ls [.ref (h0 + 6), .ref h0]) rfl ?_
  refine W.widen (k := 6) (n := 72) (by decide) (by decide) ?_
  refine ly_putF (ci := 1) (v := .ref (h0 + 6)) (ty := (.array .int)) (C := urR_Nm) (T := urF_Nm) (N := 12) hx hb hts uri_Nm urt_Nm urto_Nm urn_Nm hown hK hP hS rfl rfl 6 (by decide) (hts _ ubw_70) (fun _ h => h) rfl hin rfl (by decide +kernel) rfl rfl (Nat.le_of_ble_eq_true rfl) (by rw [hsz0]; rfl) dur_Nm_init_54 (fun H locs hP hS => ?_)
  have hP : lyP D h0 [.inr (1, [.int 0, .ref (h0 + 1), .ref (h0 + 2), .ref (h0 + 3), .ref (h0 + 4), .ref (h0 + 5), .ref (h0 + 6), .null, .null, .null, .null, .null]), .inl (k 0, 12, .inl (fun _ => 0)), .inl (k 0, 12, .inl (fun _ => 0)), .inl (k 0, 12, .inl (fun _ => 0)), .inl (k 0, 12, .inl (fun _ => 0)), .inl (k 0, 12, .inl (fun _ => 0)), .inl (k 0, 12, .inl (fun _ => 0))] H := hP
  refine lv_aload_n hx hb dur_Nm_init_57 rfl (lv_at hl 0 rfl) ?_
  refine lv_bipush (v := 12) hx hb dur_Nm_init_58 (by decide) ?_
  refine ly_newa (n := 12) (N := 12) hx hb (hts _ ubw_108) hK hP hS (by decide) (by decide) (by decide) (Nat.le_of_ble_eq_true rfl) (Nat.le_of_ble_eq_true rfl) dur_Nm_init_60 (fun H hP hS => ?_)
  have hP : lyP D h0 [.inr (1, [.int 0, .ref (h0 + 1), .ref (h0 + 2), .ref (h0 + 3), .ref (h0 + 4), .ref (h0 + 5), .ref (h0 + 6), .null, .null, .null, .null, .null]), .inl (k 0, 12, .inl (fun _ => 0)), .inl (k 0, 12, .inl (fun _ => 0)), .inl (k 0, 12, .inl (fun _ => 0)), .inl (k 0, 12, .inl (fun _ => 0)), .inl (k 0, 12, .inl (fun _ => 0)), .inl (k 0, 12, .inl (fun _ => 0)), .inl (k 0, 12, .inl (fun _ => 0))] H := hP
  refine W.eq (g2 := F0 m 62 ls [.ref (h0 + 7), .ref h0]) rfl ?_
  refine W.widen (k := 7) (n := 84) (by decide) (by decide) ?_
  refine ly_putF (ci := 1) (v := .ref (h0 + 7)) (ty := (.array .int)) (C := urR_Nm) (T := urF_Nm) (N := 12) hx hb hts uri_Nm urt_Nm urto_Nm urn_Nm hown hK hP hS rfl rfl 7 (by decide) (hts _ ubw_72) (fun _ h => h) rfl hin rfl (by decide +kernel) rfl rfl (Nat.le_of_ble_eq_true rfl) (by rw [hsz0]; rfl) dur_Nm_init_62 (fun H locs hP hS => ?_)
  have hP : lyP D h0 [.inr (1, [.int 0, .ref (h0 + 1), .ref (h0 + 2), .ref (h0 + 3), .ref (h0 + 4), .ref (h0 + 5), .ref (h0 + 6), .ref (h0 + 7), .null, .null, .null, .null]), .inl (k 0, 12, .inl (fun _ => 0)), .inl (k 0, 12, .inl (fun _ => 0)), .inl (k 0, 12, .inl (fun _ => 0)), .inl (k 0, 12, .inl (fun _ => 0)), .inl (k 0, 12, .inl (fun _ => 0)), .inl (k 0, 12, .inl (fun _ => 0)), .inl (k 0, 12, .inl (fun _ => 0))] H := hP
  refine lv_aload_n hx hb dur_Nm_init_65 rfl (lv_at hl 0 rfl) ?_
  refine lv_bipush (v := 12) hx hb dur_Nm_init_66 (by decide) ?_
  refine ly_newa (n := 12) (N := 12) hx hb (hts _ ubw_108) hK hP hS (by decide) (by decide) (by decide) (Nat.le_of_ble_eq_true rfl) (Nat.le_of_ble_eq_true rfl) dur_Nm_init_68 (fun H hP hS => ?_)
  have hP : lyP D h0 [.inr (1, [.int 0, .ref (h0 + 1), .ref (h0 + 2), .ref (h0 + 3), .ref (h0 + 4), .ref (h0 + 5), .ref (h0 + 6), .ref (h0 + 7), .null, .null, .null, .null]), .inl (k 0, 12, .inl (fun _ => 0)), .inl (k 0, 12, .inl (fun _ => 0)), .inl (k 0, 12, .inl (fun _ => 0)), .inl (k 0, 12, .inl (fun _ => 0)), .inl (k 0, 12, .inl (fun _ => 0)), .inl (k 0, 12, .inl (fun _ => 0)), .inl (k 0, 12, .inl (fun _ => 0)), .inl (k 0, 12, .inl (fun _ => 0))] H := hP
  refine W.eq (g2 := F0 m 70 ls [.ref (h0 + 8), .ref h0]) rfl ?_
  refine W.widen (k := 8) (n := 96) (by decide) (by decide) ?_
  refine ly_putF (ci := 1) (v := .ref (h0 + 8)) (ty := (.array .int)) (C := urR_Nm) (T := urF_Nm) (N := 12) hx hb hts uri_Nm urt_Nm urto_Nm urn_Nm hown hK hP hS rfl rfl 8 (by decide) (hts _ ubw_74) (fun _ h => h) rfl hin rfl (by decide +kernel) rfl rfl (Nat.le_of_ble_eq_true rfl) (by rw [hsz0]; rfl) dur_Nm_init_70 (fun H locs hP hS => ?_)
  have hP : lyP D h0 [.inr (1, [.int 0, .ref (h0 + 1), .ref (h0 + 2), .ref (h0 + 3), .ref (h0 + 4), .ref (h0 + 5), .ref (h0 + 6), .ref (h0 + 7), .ref (h0 + 8), .null, .null, .null]), .inl (k 0, 12, .inl (fun _ => 0)), .inl (k 0, 12, .inl (fun _ => 0)), .inl (k 0, 12, .inl (fun _ => 0)), .inl (k 0, 12, .inl (fun _ => 0)), .inl (k 0, 12, .inl (fun _ => 0)), .inl (k 0, 12, .inl (fun _ => 0)), .inl (k 0, 12, .inl (fun _ => 0)), .inl (k 0, 12, .inl (fun _ => 0))] H := hP
  refine lv_aload_n hx hb dur_Nm_init_73 rfl (lv_at hl 0 rfl) ?_
  refine lv_bipush (v := 12) hx hb dur_Nm_init_74 (by decide) ?_
  refine lv_bipush (v := 8) hx hb dur_Nm_init_76 (by decide) ?_
  refine ly_mna (n := 12) (z := 8) (N := 12) (M := 8) hx hb hown (hts _ ubw_55) hO (hts _ ubw_108) hK hP hS (by decide) (by decide) (by decide) (by decide) (by decide) (by decide) (Nat.le_of_ble_eq_true rfl) (Nat.le_of_ble_eq_true rfl) dur_Nm_init_78 (fun H hP hS => ?_)
  have hP : lyP D h0 [.inr (1, [.int 0, .ref (h0 + 1), .ref (h0 + 2), .ref (h0 + 3), .ref (h0 + 4), .ref (h0 + 5), .ref (h0 + 6), .ref (h0 + 7), .ref (h0 + 8), .null, .null, .null]), .inl (k 0, 12, .inl (fun _ => 0)), .inl (k 0, 12, .inl (fun _ => 0)), .inl (k 0, 12, .inl (fun _ => 0)), .inl (k 0, 12, .inl (fun _ => 0)), .inl (k 0, 12, .inl (fun _ => 0)), .inl (k 0, 12, .inl (fun _ => 0)), .inl (k 0, 12, .inl (fun _ => 0)), .inl (k 0, 12, .inl (fun _ => 0)), .inl (k 2, 12, .inr (.inr (.inr (.inr (fun i => if i < 12 then some (h0 + 9 + 1 + i) else none))))), .inl (k 0, 8, .inl (fun _ => 0)), .inl (k 0, 8, .inl (fun _ => 0)), .inl (k 0, 8, .inl (fun _ => 0)), .inl (k 0, 8, .inl (fun _ => 0)), .inl (k 0, 8, .inl (fun _ => 0)), .inl (k 0, 8, .inl (fun _ => 0)), .inl (k 0, 8, .inl (fun _ => 0)), .inl (k 0, 8, .inl (fun _ => 0)), .inl (k 0, 8, .inl (fun _ => 0)), .inl (k 0, 8, .inl (fun _ => 0)), .inl (k 0, 8, .inl (fun _ => 0)), .inl (k 0, 8, .inl (fun _ => 0))] H := hP
  refine W.eq (g2 := F0 m 82 ls [.ref (h0 + 9), .ref h0]) rfl ?_
  refine W.widen (k := 21) (n := 204) (by decide) (by decide) ?_
  refine ly_putF (ci := 1) (v := .ref (h0 + 9)) (ty := (.array (.array .int))) (C := urR_Nm) (T := urF_Nm) (N := 12) hx hb hts uri_Nm urt_Nm urto_Nm urn_Nm hown hK hP hS rfl rfl 9 (by decide) (hts _ ubw_76) (fun _ h => h) rfl hin rfl (by decide +kernel) rfl rfl (Nat.le_of_ble_eq_true rfl) (by rw [hsz0]; rfl) dur_Nm_init_82 (fun H locs hP hS => ?_)
  have hP : lyP D h0 [.inr (1, [.int 0, .ref (h0 + 1), .ref (h0 + 2), .ref (h0 + 3), .ref (h0 + 4), .ref (h0 + 5), .ref (h0 + 6), .ref (h0 + 7), .ref (h0 + 8), .ref (h0 + 9), .null, .null]), .inl (k 0, 12, .inl (fun _ => 0)), .inl (k 0, 12, .inl (fun _ => 0)), .inl (k 0, 12, .inl (fun _ => 0)), .inl (k 0, 12, .inl (fun _ => 0)), .inl (k 0, 12, .inl (fun _ => 0)), .inl (k 0, 12, .inl (fun _ => 0)), .inl (k 0, 12, .inl (fun _ => 0)), .inl (k 0, 12, .inl (fun _ => 0)), .inl (k 2, 12, .inr (.inr (.inr (.inr (fun i => if i < 12 then some (h0 + 9 + 1 + i) else none))))), .inl (k 0, 8, .inl (fun _ => 0)), .inl (k 0, 8, .inl (fun _ => 0)), .inl (k 0, 8, .inl (fun _ => 0)), .inl (k 0, 8, .inl (fun _ => 0)), .inl (k 0, 8, .inl (fun _ => 0)), .inl (k 0, 8, .inl (fun _ => 0)), .inl (k 0, 8, .inl (fun _ => 0)), .inl (k 0, 8, .inl (fun _ => 0)), .inl (k 0, 8, .inl (fun _ => 0)), .inl (k 0, 8, .inl (fun _ => 0)), .inl (k 0, 8, .inl (fun _ => 0)), .inl (k 0, 8, .inl (fun _ => 0))] H := hP
  refine lv_aload_n hx hb dur_Nm_init_85 rfl (lv_at hl 0 rfl) ?_
  refine lv_bipush (v := 12) hx hb dur_Nm_init_86 (by decide) ?_
  refine lv_bipush (v := 8) hx hb dur_Nm_init_88 (by decide) ?_
  refine ly_mna (n := 12) (z := 8) (N := 12) (M := 8) hx hb hown (hts _ ubw_55) hO (hts _ ubw_108) hK hP hS (by decide) (by decide) (by decide) (by decide) (by decide) (by decide) (Nat.le_of_ble_eq_true rfl) (Nat.le_of_ble_eq_true rfl) dur_Nm_init_90 (fun H hP hS => ?_)
  have hP : lyP D h0 [.inr (1, [.int 0, .ref (h0 + 1), .ref (h0 + 2), .ref (h0 + 3), .ref (h0 + 4), .ref (h0 + 5), .ref (h0 + 6), .ref (h0 + 7), .ref (h0 + 8), .ref (h0 + 9), .null, .null]), .inl (k 0, 12, .inl (fun _ => 0)), .inl (k 0, 12, .inl (fun _ => 0)), .inl (k 0, 12, .inl (fun _ => 0)), .inl (k 0, 12, .inl (fun _ => 0)), .inl (k 0, 12, .inl (fun _ => 0)), .inl (k 0, 12, .inl (fun _ => 0)), .inl (k 0, 12, .inl (fun _ => 0)), .inl (k 0, 12, .inl (fun _ => 0)), .inl (k 2, 12, .inr (.inr (.inr (.inr (fun i => if i < 12 then some (h0 + 9 + 1 + i) else none))))), .inl (k 0, 8, .inl (fun _ => 0)), .inl (k 0, 8, .inl (fun _ => 0)), .inl (k 0, 8, .inl (fun _ => 0)), .inl (k 0, 8, .inl (fun _ => 0)), .inl (k 0, 8, .inl (fun _ => 0)), .inl (k 0, 8, .inl (fun _ => 0)), .inl (k 0, 8, .inl (fun _ => 0)), .inl (k 0, 8, .inl (fun _ => 0)), .inl (k 0, 8, .inl (fun _ => 0)), .inl (k 0, 8, .inl (fun _ => 0)), .inl (k 0, 8, .inl (fun _ => 0)), .inl (k 0, 8, .inl (fun _ => 0)), .inl (k 2, 12, .inr (.inr (.inr (.inr (fun i => if i < 12 then some (h0 + 22 + 1 + i) else none))))), .inl (k 0, 8, .inl (fun _ => 0)), .inl (k 0, 8, .inl (fun _ => 0)), .inl (k 0, 8, .inl (fun _ => 0)), .inl (k 0, 8, .inl (fun _ => 0)), .inl (k 0, 8, .inl (fun _ => 0)), .inl (k 0, 8, .inl (fun _ => 0)), .inl (k 0, 8, .inl (fun _ => 0)), .inl (k 0, 8, .inl (fun _ => 0)), .inl (k 0, 8, .inl (fun _ => 0)), .inl (k 0, 8, .inl (fun _ => 0)), .inl (k 0, 8, .inl (fun _ => 0)), .inl (k 0, 8, .inl (fun _ => 0))] H := hP
  refine W.eq (g2 := F0 m 94 ls [.ref (h0 + 22), .ref h0]) rfl ?_
  refine W.widen (k := 34) (n := 312) (by decide) (by decide) ?_
  refine ly_putF (ci := 1) (v := .ref (h0 + 22)) (ty := (.array (.array .int))) (C := urR_Nm) (T := urF_Nm) (N := 12) hx hb hts uri_Nm urt_Nm urto_Nm urn_Nm hown hK hP hS rfl rfl 10 (by decide) (hts _ ubw_77) (fun _ h => h) rfl hin rfl (by decide +kernel) rfl rfl (Nat.le_of_ble_eq_true rfl) (by rw [hsz0]; rfl) dur_Nm_init_94 (fun H locs hP hS => ?_)
  have hP : lyP D h0 [.inr (1, [.int 0, .ref (h0 + 1), .ref (h0 + 2), .ref (h0 + 3), .ref (h0 + 4), .ref (h0 + 5), .ref (h0 + 6), .ref (h0 + 7), .ref (h0 + 8), .ref (h0 + 9), .ref (h0 + 22), .null]), .inl (k 0, 12, .inl (fun _ => 0)), .inl (k 0, 12, .inl (fun _ => 0)), .inl (k 0, 12, .inl (fun _ => 0)), .inl (k 0, 12, .inl (fun _ => 0)), .inl (k 0, 12, .inl (fun _ => 0)), .inl (k 0, 12, .inl (fun _ => 0)), .inl (k 0, 12, .inl (fun _ => 0)), .inl (k 0, 12, .inl (fun _ => 0)), .inl (k 2, 12, .inr (.inr (.inr (.inr (fun i => if i < 12 then some (h0 + 9 + 1 + i) else none))))), .inl (k 0, 8, .inl (fun _ => 0)), .inl (k 0, 8, .inl (fun _ => 0)), .inl (k 0, 8, .inl (fun _ => 0)), .inl (k 0, 8, .inl (fun _ => 0)), .inl (k 0, 8, .inl (fun _ => 0)), .inl (k 0, 8, .inl (fun _ => 0)), .inl (k 0, 8, .inl (fun _ => 0)), .inl (k 0, 8, .inl (fun _ => 0)), .inl (k 0, 8, .inl (fun _ => 0)), .inl (k 0, 8, .inl (fun _ => 0)), .inl (k 0, 8, .inl (fun _ => 0)), .inl (k 0, 8, .inl (fun _ => 0)), .inl (k 2, 12, .inr (.inr (.inr (.inr (fun i => if i < 12 then some (h0 + 22 + 1 + i) else none))))), .inl (k 0, 8, .inl (fun _ => 0)), .inl (k 0, 8, .inl (fun _ => 0)), .inl (k 0, 8, .inl (fun _ => 0)), .inl (k 0, 8, .inl (fun _ => 0)), .inl (k 0, 8, .inl (fun _ => 0)), .inl (k 0, 8, .inl (fun _ => 0)), .inl (k 0, 8, .inl (fun _ => 0)), .inl (k 0, 8, .inl (fun _ => 0)), .inl (k 0, 8, .inl (fun _ => 0)), .inl (k 0, 8, .inl (fun _ => 0)), .inl (k 0, 8, .inl (fun _ => 0)), .inl (k 0, 8, .inl (fun _ => 0))] H := hP
  refine lv_aload_n hx hb dur_Nm_init_97 rfl (lv_at hl 0 rfl) ?_
  refine lv_bipush (v := 12) hx hb dur_Nm_init_98 (by decide) ?_
  refine lv_bipush (v := 8) hx hb dur_Nm_init_100 (by decide) ?_
  refine ly_mna (n := 12) (z := 8) (N := 12) (M := 8) hx hb hown (hts _ ubw_55) hO (hts _ ubw_108) hK hP hS (by decide) (by decide) (by decide) (by decide) (by decide) (by decide) (Nat.le_of_ble_eq_true rfl) (Nat.le_of_ble_eq_true rfl) dur_Nm_init_102 (fun H hP hS => ?_)
  have hP : lyP D h0 [.inr (1, [.int 0, .ref (h0 + 1), .ref (h0 + 2), .ref (h0 + 3), .ref (h0 + 4), .ref (h0 + 5), .ref (h0 + 6), .ref (h0 + 7), .ref (h0 + 8), .ref (h0 + 9), .ref (h0 + 22), .null]), .inl (k 0, 12, .inl (fun _ => 0)), .inl (k 0, 12, .inl (fun _ => 0)), .inl (k 0, 12, .inl (fun _ => 0)), .inl (k 0, 12, .inl (fun _ => 0)), .inl (k 0, 12, .inl (fun _ => 0)), .inl (k 0, 12, .inl (fun _ => 0)), .inl (k 0, 12, .inl (fun _ => 0)), .inl (k 0, 12, .inl (fun _ => 0)), .inl (k 2, 12, .inr (.inr (.inr (.inr (fun i => if i < 12 then some (h0 + 9 + 1 + i) else none))))), .inl (k 0, 8, .inl (fun _ => 0)), .inl (k 0, 8, .inl (fun _ => 0)), .inl (k 0, 8, .inl (fun _ => 0)), .inl (k 0, 8, .inl (fun _ => 0)), .inl (k 0, 8, .inl (fun _ => 0)), .inl (k 0, 8, .inl (fun _ => 0)), .inl (k 0, 8, .inl (fun _ => 0)), .inl (k 0, 8, .inl (fun _ => 0)), .inl (k 0, 8, .inl (fun _ => 0)), .inl (k 0, 8, .inl (fun _ => 0)), .inl (k 0, 8, .inl (fun _ => 0)), .inl (k 0, 8, .inl (fun _ => 0)), .inl (k 2, 12, .inr (.inr (.inr (.inr (fun i => if i < 12 then some (h0 + 22 + 1 + i) else none))))), .inl (k 0, 8, .inl (fun _ => 0)), .inl (k 0, 8, .inl (fun _ => 0)), .inl (k 0, 8, .inl (fun _ => 0)), .inl (k 0, 8, .inl (fun _ => 0)), .inl (k 0, 8, .inl (fun _ => 0)), .inl (k 0, 8, .inl (fun _ => 0)), .inl (k 0, 8, .inl (fun _ => 0)), .inl (k 0, 8, .inl (fun _ => 0)), .inl (k 0, 8, .inl (fun _ => 0)), .inl (k 0, 8, .inl (fun _ => 0)), .inl (k 0, 8, .inl (fun _ => 0)), .inl (k 0, 8, .inl (fun _ => 0)), .inl (k 2, 12, .inr (.inr (.inr (.inr (fun i => if i < 12 then some (h0 + 35 + 1 + i) else none))))), .inl (k 0, 8, .inl (fun _ => 0)), .inl (k 0, 8, .inl (fun _ => 0)), .inl (k 0, 8, .inl (fun _ => 0)), .inl (k 0, 8, .inl (fun _ => 0)), .inl (k 0, 8, .inl (fun _ => 0)), .inl (k 0, 8, .inl (fun _ => 0)), .inl (k 0, 8, .inl (fun _ => 0)), .inl (k 0, 8, .inl (fun _ => 0)), .inl (k 0, 8, .inl (fun _ => 0)), .inl (k 0, 8, .inl (fun _ => 0)), .inl (k 0, 8, .inl (fun _ => 0)), .inl (k 0, 8, .inl (fun _ => 0))] H := hP
  refine W.eq (g2 := F0 m 106 ls [.ref (h0 + 35), .ref h0]) rfl ?_
  refine W.widen (k := 47) (n := 420) (by decide) (by decide) ?_
  refine ly_putF (ci := 1) (v := .ref (h0 + 35)) (ty := (.array (.array .int))) (C := urR_Nm) (T := urF_Nm) (N := 12) hx hb hts uri_Nm urt_Nm urto_Nm urn_Nm hown hK hP hS rfl rfl 11 (by decide) (hts _ ubw_80) (fun _ h => h) rfl hin rfl (by decide +kernel) rfl rfl (Nat.le_of_ble_eq_true rfl) (by rw [hsz0]; rfl) dur_Nm_init_106 (fun H locs hP hS => ?_)
  have hP : lyP D h0 [.inr (1, [.int 0, .ref (h0 + 1), .ref (h0 + 2), .ref (h0 + 3), .ref (h0 + 4), .ref (h0 + 5), .ref (h0 + 6), .ref (h0 + 7), .ref (h0 + 8), .ref (h0 + 9), .ref (h0 + 22), .ref (h0 + 35)]), .inl (k 0, 12, .inl (fun _ => 0)), .inl (k 0, 12, .inl (fun _ => 0)), .inl (k 0, 12, .inl (fun _ => 0)), .inl (k 0, 12, .inl (fun _ => 0)), .inl (k 0, 12, .inl (fun _ => 0)), .inl (k 0, 12, .inl (fun _ => 0)), .inl (k 0, 12, .inl (fun _ => 0)), .inl (k 0, 12, .inl (fun _ => 0)), .inl (k 2, 12, .inr (.inr (.inr (.inr (fun i => if i < 12 then some (h0 + 9 + 1 + i) else none))))), .inl (k 0, 8, .inl (fun _ => 0)), .inl (k 0, 8, .inl (fun _ => 0)), .inl (k 0, 8, .inl (fun _ => 0)), .inl (k 0, 8, .inl (fun _ => 0)), .inl (k 0, 8, .inl (fun _ => 0)), .inl (k 0, 8, .inl (fun _ => 0)), .inl (k 0, 8, .inl (fun _ => 0)), .inl (k 0, 8, .inl (fun _ => 0)), .inl (k 0, 8, .inl (fun _ => 0)), .inl (k 0, 8, .inl (fun _ => 0)), .inl (k 0, 8, .inl (fun _ => 0)), .inl (k 0, 8, .inl (fun _ => 0)), .inl (k 2, 12, .inr (.inr (.inr (.inr (fun i => if i < 12 then some (h0 + 22 + 1 + i) else none))))), .inl (k 0, 8, .inl (fun _ => 0)), .inl (k 0, 8, .inl (fun _ => 0)), .inl (k 0, 8, .inl (fun _ => 0)), .inl (k 0, 8, .inl (fun _ => 0)), .inl (k 0, 8, .inl (fun _ => 0)), .inl (k 0, 8, .inl (fun _ => 0)), .inl (k 0, 8, .inl (fun _ => 0)), .inl (k 0, 8, .inl (fun _ => 0)), .inl (k 0, 8, .inl (fun _ => 0)), .inl (k 0, 8, .inl (fun _ => 0)), .inl (k 0, 8, .inl (fun _ => 0)), .inl (k 0, 8, .inl (fun _ => 0)), .inl (k 2, 12, .inr (.inr (.inr (.inr (fun i => if i < 12 then some (h0 + 35 + 1 + i) else none))))), .inl (k 0, 8, .inl (fun _ => 0)), .inl (k 0, 8, .inl (fun _ => 0)), .inl (k 0, 8, .inl (fun _ => 0)), .inl (k 0, 8, .inl (fun _ => 0)), .inl (k 0, 8, .inl (fun _ => 0)), .inl (k 0, 8, .inl (fun _ => 0)), .inl (k 0, 8, .inl (fun _ => 0)), .inl (k 0, 8, .inl (fun _ => 0)), .inl (k 0, 8, .inl (fun _ => 0)), .inl (k 0, 8, .inl (fun _ => 0)), .inl (k 0, 8, .inl (fun _ => 0)), .inl (k 0, 8, .inl (fun _ => 0))] H := hP
  exact W.vret hx hb hr (fun t ht hW => ⟨⟨(), rfl, trivial, by rw [ht]; exact hP, va_K.moved hW.alike hK⟩, hS.F ht⟩) hS.2.2 dur_Nm_init_109
def ur_es_So (k : Nat → ClassId) (h0 : Nat) : List va_E := [.inr (2, [.ref (h0 + 1), .ref (h0 + 2)]), .inl (k 0, 12, .inl (fun _ => 0)), .inl (k 0, 12, .inl (fun _ => 0))]
set_option maxHeartbeats 4000000 in
set_option maxRecDepth 100000 in
theorem cur_So_init (l : Launch) (D : va_G) (k : Nat → ClassId) (h0 : Nat) : Met l ury_So_init urs_So_init urr_So_init (va_Pc [.ref h0] (fun U => lyP D h0 [.inr (2, [.null, .null])] U.heap ∧ ub_K D k U ∧ ub_O U)) (va_Qv (fun (_ : Unit) => True) (fun _ t => lyP D h0 (ur_es_So k h0) t.heap ∧ ub_K D k t) (fun q => h0 ≤ q)) 2 24 (fun q => h0 ≤ q) := by
  refine Met.ofW (cc := urb_So_init) (maxL := 1) (ret := none) (by decide) rfl ?_
  intro p e s m args below meth c s₁ B hml hv
  obtain ⟨rfl, hP, hK, hO⟩ := hv
  have hx := B.exec
  have hb := B.bytes
  have hr := B.returns
  have hts : ∀ w ∈ ub_T, w.before _ s = true := fun w hw => atoms_spec (ws := urs_So_init) B.pre w (List.mem_cons_of_mem _ hw)
  have hown : s.vm.findClass urR_So = some m.cls := findClass_of_methodNamed B.named
  have hlocks := B.notSynchronized
  have hin : meth.name = "<init>" := (name_of_methodNamed B.named B.method).1
  have hsz0 : s.heap.size = h0 + 1 := hP.1
  have hS : va_S (fun q => h0 ≤ q) s.heap s.heap [] := va_S.rf
  have hl := lv_entry ([.ref h0]) (n := 1) (Nat.le_of_ble_eq_true rfl)
  rw [lg_entry_eq]
  generalize (lg_sl ([.ref h0]) ++ List.replicate (1 - (lg_sl ([.ref h0])).length) Slot.unset).toArray = ls at hl ⊢
  have hl : lv_has ls 1 [(0, .ref h0)] := hl
  refine lv_aload_n hx hb dur_So_init_0 rfl (lv_at hl 0 rfl) ?_
  refine W.objInit hx hb hown (hts _ ubw_114) (hts _ ubw_41) (hts _ ubw_42) rfl (by rw [hml]; exact hl.1) rfl dur_So_init_1 (Nat.le_of_ble_eq_true rfl) (Nat.le_of_ble_eq_true rfl) ?_
  refine W.eq (g2 := F0 m 4 ls []) rfl ?_
  refine lv_aload_n hx hb dur_So_init_4 rfl (lv_at hl 0 rfl) ?_
  refine lv_bipush (v := 12) hx hb dur_So_init_5 (by decide) ?_
  refine ly_newa (n := 12) (N := 12) hx hb (hts _ ubw_108) hK hP hS (by decide) (by decide) (by decide) (Nat.le_of_ble_eq_true rfl) (Nat.le_of_ble_eq_true rfl) dur_So_init_7 (fun H hP hS => ?_)
  have hP : lyP D h0 [.inr (2, [.null, .null]), .inl (k 0, 12, .inl (fun _ => 0))] H := hP
  refine W.eq (g2 := F0 m 9 ls [.ref (h0 + 1), .ref h0]) rfl ?_
  refine W.widen (k := 1) (n := 12) (by decide) (by decide) ?_
  refine ly_putF (ci := 2) (v := .ref (h0 + 1)) (ty := (.array .int)) (C := urR_So) (T := urF_So) (N := 2) hx hb hts uri_So urt_So urto_So urn_So hown hK hP hS rfl rfl 0 (by decide) (hts _ ubw_115) (fun _ h => h) rfl hin rfl (by decide +kernel) rfl rfl (Nat.le_of_ble_eq_true rfl) (by rw [hsz0]; rfl) dur_So_init_9 (fun H locs hP hS => ?_)
  have hP : lyP D h0 [.inr (2, [.ref (h0 + 1), .null]), .inl (k 0, 12, .inl (fun _ => 0))] H := hP
  refine lv_aload_n hx hb dur_So_init_12 rfl (lv_at hl 0 rfl) ?_
  refine lv_bipush (v := 12) hx hb dur_So_init_13 (by decide) ?_
  refine ly_newa (n := 12) (N := 12) hx hb (hts _ ubw_108) hK hP hS (by decide) (by decide) (by decide) (Nat.le_of_ble_eq_true rfl) (Nat.le_of_ble_eq_true rfl) dur_So_init_15 (fun H hP hS => ?_)
  have hP : lyP D h0 [.inr (2, [.ref (h0 + 1), .null]), .inl (k 0, 12, .inl (fun _ => 0)), .inl (k 0, 12, .inl (fun _ => 0))] H := hP
  refine W.eq (g2 := F0 m 17 ls [.ref (h0 + 2), .ref h0]) rfl ?_
  refine W.widen (k := 2) (n := 24) (by decide) (by decide) ?_
  refine ly_putF (ci := 2) (v := .ref (h0 + 2)) (ty := (.array .int)) (C := urR_So) (T := urF_So) (N := 2) hx hb hts uri_So urt_So urto_So urn_So hown hK hP hS rfl rfl 1 (by decide) (hts _ ubw_116) (fun _ h => h) rfl hin rfl (by decide +kernel) rfl rfl (Nat.le_of_ble_eq_true rfl) (by rw [hsz0]; rfl) dur_So_init_17 (fun H locs hP hS => ?_)
  have hP : lyP D h0 [.inr (2, [.ref (h0 + 1), .ref (h0 + 2)]), .inl (k 0, 12, .inl (fun _ => 0)), .inl (k 0, 12, .inl (fun _ => 0))] H := hP
  exact W.vret hx hb hr (fun t ht hW => ⟨⟨(), rfl, trivial, by rw [ht]; exact hP, va_K.moved hW.alike hK⟩, hS.F ht⟩) hS.2.2 dur_So_init_20
def ur_es_Pr (k : Nat → ClassId) (h0 : Nat) : List va_E := [.inr (3, [.int 0, .ref (h0 + 1), .ref (h0 + 2), .ref (h0 + 3), .ref (h0 + 4), .ref (h0 + 5), .ref (h0 + 6)]), .inl (k 0, 60, .inl (fun _ => 0)), .inl (k 0, 60, .inl (fun _ => 0)), .inl (k 0, 60, .inl (fun _ => 0)), .inl (k 0, 60, .inl (fun _ => 0)), .inl (k 1, 60, .inl (fun _ => 0)), .inl (k 2, 60, .inr (.inr (.inr (.inr (fun i => if i < 60 then some (h0 + 6 + 1 + i) else none))))), .inl (k 0, 12, .inl (fun _ => 0)), .inl (k 0, 12, .inl (fun _ => 0)), .inl (k 0, 12, .inl (fun _ => 0)), .inl (k 0, 12, .inl (fun _ => 0)), .inl (k 0, 12, .inl (fun _ => 0)), .inl (k 0, 12, .inl (fun _ => 0)), .inl (k 0, 12, .inl (fun _ => 0)), .inl (k 0, 12, .inl (fun _ => 0)), .inl (k 0, 12, .inl (fun _ => 0)), .inl (k 0, 12, .inl (fun _ => 0)), .inl (k 0, 12, .inl (fun _ => 0)), .inl (k 0, 12, .inl (fun _ => 0)), .inl (k 0, 12, .inl (fun _ => 0)), .inl (k 0, 12, .inl (fun _ => 0)), .inl (k 0, 12, .inl (fun _ => 0)), .inl (k 0, 12, .inl (fun _ => 0)), .inl (k 0, 12, .inl (fun _ => 0)), .inl (k 0, 12, .inl (fun _ => 0)), .inl (k 0, 12, .inl (fun _ => 0)), .inl (k 0, 12, .inl (fun _ => 0)), .inl (k 0, 12, .inl (fun _ => 0)), .inl (k 0, 12, .inl (fun _ => 0)), .inl (k 0, 12, .inl (fun _ => 0)), .inl (k 0, 12, .inl (fun _ => 0)), .inl (k 0, 12, .inl (fun _ => 0)), .inl (k 0, 12, .inl (fun _ => 0)), .inl (k 0, 12, .inl (fun _ => 0)), .inl (k 0, 12, .inl (fun _ => 0)), .inl (k 0, 12, .inl (fun _ => 0)), .inl (k 0, 12, .inl (fun _ => 0)), .inl (k 0, 12, .inl (fun _ => 0)), .inl (k 0, 12, .inl (fun _ => 0)), .inl (k 0, 12, .inl (fun _ => 0)), .inl (k 0, 12, .inl (fun _ => 0)), .inl (k 0, 12, .inl (fun _ => 0)), .inl (k 0, 12, .inl (fun _ => 0)), .inl (k 0, 12, .inl (fun _ => 0)), .inl (k 0, 12, .inl (fun _ => 0)), .inl (k 0, 12, .inl (fun _ => 0)), .inl (k 0, 12, .inl (fun _ => 0)), .inl (k 0, 12, .inl (fun _ => 0)), .inl (k 0, 12, .inl (fun _ => 0)), .inl (k 0, 12, .inl (fun _ => 0)), .inl (k 0, 12, .inl (fun _ => 0)), .inl (k 0, 12, .inl (fun _ => 0)), .inl (k 0, 12, .inl (fun _ => 0)), .inl (k 0, 12, .inl (fun _ => 0)), .inl (k 0, 12, .inl (fun _ => 0)), .inl (k 0, 12, .inl (fun _ => 0)), .inl (k 0, 12, .inl (fun _ => 0)), .inl (k 0, 12, .inl (fun _ => 0)), .inl (k 0, 12, .inl (fun _ => 0)), .inl (k 0, 12, .inl (fun _ => 0)), .inl (k 0, 12, .inl (fun _ => 0)), .inl (k 0, 12, .inl (fun _ => 0)), .inl (k 0, 12, .inl (fun _ => 0)), .inl (k 0, 12, .inl (fun _ => 0)), .inl (k 0, 12, .inl (fun _ => 0)), .inl (k 0, 12, .inl (fun _ => 0)), .inl (k 0, 12, .inl (fun _ => 0))]
set_option maxHeartbeats 4000000 in
set_option maxRecDepth 100000 in
theorem cur_Pr_init (l : Launch) (D : va_G) (k : Nat → ClassId) (h0 : Nat) : Met l ury_Pr_init urs_Pr_init urr_Pr_init (va_Pc [.ref h0] (fun U => lyP D h0 [.inr (3, [.int 0, .null, .null, .null, .null, .null, .null])] U.heap ∧ ub_K D k U ∧ ub_O U)) (va_Qv (fun (_ : Unit) => True) (fun _ t => lyP D h0 (ur_es_Pr k h0) t.heap ∧ ub_K D k t) (fun q => h0 ≤ q)) 66 1080 (fun q => h0 ≤ q) := by
  refine Met.ofW (cc := urb_Pr_init) (maxL := 1) (ret := none) (by decide) rfl ?_
  intro p e s m args below meth c s₁ B hml hv
  obtain ⟨rfl, hP, hK, hO⟩ := hv
  have hx := B.exec
  have hb := B.bytes
  have hr := B.returns
  have hts : ∀ w ∈ ub_T, w.before _ s = true := fun w hw => atoms_spec (ws := urs_Pr_init) B.pre w (List.mem_cons_of_mem _ hw)
  have hown : s.vm.findClass urR_Pr = some m.cls := findClass_of_methodNamed B.named
  have hlocks := B.notSynchronized
  have hin : meth.name = "<init>" := (name_of_methodNamed B.named B.method).1
  have hsz0 : s.heap.size = h0 + 1 := hP.1
  have hS : va_S (fun q => h0 ≤ q) s.heap s.heap [] := va_S.rf
  have hl := lv_entry ([.ref h0]) (n := 1) (Nat.le_of_ble_eq_true rfl)
  rw [lg_entry_eq]
  generalize (lg_sl ([.ref h0]) ++ List.replicate (1 - (lg_sl ([.ref h0])).length) Slot.unset).toArray = ls at hl ⊢
  have hl : lv_has ls 1 [(0, .ref h0)] := hl
  refine lv_aload_n hx hb dur_Pr_init_0 rfl (lv_at hl 0 rfl) ?_
  refine W.objInit hx hb hown (hts _ ubw_128) (hts _ ubw_41) (hts _ ubw_42) rfl (by rw [hml]; exact hl.1) rfl dur_Pr_init_1 (Nat.le_of_ble_eq_true rfl) (Nat.le_of_ble_eq_true rfl) ?_
  refine W.eq (g2 := F0 m 4 ls []) rfl ?_
  refine lv_aload_n hx hb dur_Pr_init_4 rfl (lv_at hl 0 rfl) ?_
  refine lv_iconst (v := 0) hx hb dur_Pr_init_5 (by decide) ?_
  refine ly_put (ci := 3) (v := .int 0) (ty := .int) (C := urR_Pr) (T := urF_Pr) (N := 7) hx hb hts uri_Pr urt_Pr urto_Pr urn_Pr hown hK hP hS rfl rfl 0 (by decide) (hts _ ubw_130) (fun _ h => h) rfl (by decide +kernel) rfl rfl (Nat.le_of_ble_eq_true rfl) (by rw [hsz0]; rfl) dur_Pr_init_6 (fun H locs hP hS => ?_)
  have hP : lyP D h0 [.inr (3, [.int 0, .null, .null, .null, .null, .null, .null])] H := hP
  refine lv_aload_n hx hb dur_Pr_init_9 rfl (lv_at hl 0 rfl) ?_
  refine lv_bipush (v := 60) hx hb dur_Pr_init_10 (by decide) ?_
  refine ly_newa (n := 60) (N := 60) hx hb (hts _ ubw_108) hK hP hS (by decide) (by decide) (by decide) (Nat.le_of_ble_eq_true rfl) (Nat.le_of_ble_eq_true rfl) dur_Pr_init_12 (fun H hP hS => ?_)
  have hP : lyP D h0 [.inr (3, [.int 0, .null, .null, .null, .null, .null, .null]), .inl (k 0, 60, .inl (fun _ => 0))] H := hP
  refine W.eq (g2 := F0 m 14 ls [.ref (h0 + 1), .ref h0]) rfl ?_
  refine W.widen (k := 1) (n := 60) (by decide) (by decide) ?_
  refine ly_putF (ci := 3) (v := .ref (h0 + 1)) (ty := (.array .int)) (C := urR_Pr) (T := urF_Pr) (N := 7) hx hb hts uri_Pr urt_Pr urto_Pr urn_Pr hown hK hP hS rfl rfl 1 (by decide) (hts _ ubw_132) (fun _ h => h) rfl hin rfl (by decide +kernel) rfl rfl (Nat.le_of_ble_eq_true rfl) (by rw [hsz0]; rfl) dur_Pr_init_14 (fun H locs hP hS => ?_)
  have hP : lyP D h0 [.inr (3, [.int 0, .ref (h0 + 1), .null, .null, .null, .null, .null]), .inl (k 0, 60, .inl (fun _ => 0))] H := hP
  refine lv_aload_n hx hb dur_Pr_init_17 rfl (lv_at hl 0 rfl) ?_
  refine lv_bipush (v := 60) hx hb dur_Pr_init_18 (by decide) ?_
  refine ly_newa (n := 60) (N := 60) hx hb (hts _ ubw_108) hK hP hS (by decide) (by decide) (by decide) (Nat.le_of_ble_eq_true rfl) (Nat.le_of_ble_eq_true rfl) dur_Pr_init_20 (fun H hP hS => ?_)
  have hP : lyP D h0 [.inr (3, [.int 0, .ref (h0 + 1), .null, .null, .null, .null, .null]), .inl (k 0, 60, .inl (fun _ => 0)), .inl (k 0, 60, .inl (fun _ => 0))] H := hP
  refine W.eq (g2 := F0 m 22 ls [.ref (h0 + 2), .ref h0]) rfl ?_
  refine W.widen (k := 2) (n := 120) (by decide) (by decide) ?_
  refine ly_putF (ci := 3) (v := .ref (h0 + 2)) (ty := (.array .int)) (C := urR_Pr) (T := urF_Pr) (N := 7) hx hb hts uri_Pr urt_Pr urto_Pr urn_Pr hown hK hP hS rfl rfl 2 (by decide) (hts _ ubw_134) (fun _ h => h) rfl hin rfl (by decide +kernel) rfl rfl (Nat.le_of_ble_eq_true rfl) (by rw [hsz0]; rfl) dur_Pr_init_22 (fun H locs hP hS => ?_)
  have hP : lyP D h0 [.inr (3, [.int 0, .ref (h0 + 1), .ref (h0 + 2), .null, .null, .null, .null]), .inl (k 0, 60, .inl (fun _ => 0)), .inl (k 0, 60, .inl (fun _ => 0))] H := hP
  refine lv_aload_n hx hb dur_Pr_init_25 rfl (lv_at hl 0 rfl) ?_
  refine lv_bipush (v := 60) hx hb dur_Pr_init_26 (by decide) ?_
  refine ly_newa (n := 60) (N := 60) hx hb (hts _ ubw_108) hK hP hS (by decide) (by decide) (by decide) (Nat.le_of_ble_eq_true rfl) (Nat.le_of_ble_eq_true rfl) dur_Pr_init_28 (fun H hP hS => ?_)
  have hP : lyP D h0 [.inr (3, [.int 0, .ref (h0 + 1), .ref (h0 + 2), .null, .null, .null, .null]), .inl (k 0, 60, .inl (fun _ => 0)), .inl (k 0, 60, .inl (fun _ => 0)), .inl (k 0, 60, .inl (fun _ => 0))] H := hP
  refine W.eq (g2 := F0 m 30 ls [.ref (h0 + 3), .ref h0]) rfl ?_
  refine W.widen (k := 3) (n := 180) (by decide) (by decide) ?_
  refine ly_putF (ci := 3) (v := .ref (h0 + 3)) (ty := (.array .int)) (C := urR_Pr) (T := urF_Pr) (N := 7) hx hb hts uri_Pr urt_Pr urto_Pr urn_Pr hown hK hP hS rfl rfl 3 (by decide) (hts _ ubw_136) (fun _ h => h) rfl hin rfl (by decide +kernel) rfl rfl (Nat.le_of_ble_eq_true rfl) (by rw [hsz0]; rfl) dur_Pr_init_30 (fun H locs hP hS => ?_)
  have hP : lyP D h0 [.inr (3, [.int 0, .ref (h0 + 1), .ref (h0 + 2), .ref (h0 + 3), .null, .null, .null]), .inl (k 0, 60, .inl (fun _ => 0)), .inl (k 0, 60, .inl (fun _ => 0)), .inl (k 0, 60, .inl (fun _ => 0))] H := hP
  refine lv_aload_n hx hb dur_Pr_init_33 rfl (lv_at hl 0 rfl) ?_
  refine lv_bipush (v := 60) hx hb dur_Pr_init_34 (by decide) ?_
  refine ly_newa (n := 60) (N := 60) hx hb (hts _ ubw_108) hK hP hS (by decide) (by decide) (by decide) (Nat.le_of_ble_eq_true rfl) (Nat.le_of_ble_eq_true rfl) dur_Pr_init_36 (fun H hP hS => ?_)
  have hP : lyP D h0 [.inr (3, [.int 0, .ref (h0 + 1), .ref (h0 + 2), .ref (h0 + 3), .null, .null, .null]), .inl (k 0, 60, .inl (fun _ => 0)), .inl (k 0, 60, .inl (fun _ => 0)), .inl (k 0, 60, .inl (fun _ => 0)), .inl (k 0, 60, .inl (fun _ => 0))] H := hP
  refine W.eq (g2 := F0 m 38 ls [.ref (h0 + 4), .ref h0]) rfl ?_
  refine W.widen (k := 4) (n := 240) (by decide) (by decide) ?_
  refine ly_putF (ci := 3) (v := .ref (h0 + 4)) (ty := (.array .int)) (C := urR_Pr) (T := urF_Pr) (N := 7) hx hb hts uri_Pr urt_Pr urto_Pr urn_Pr hown hK hP hS rfl rfl 4 (by decide) (hts _ ubw_138) (fun _ h => h) rfl hin rfl (by decide +kernel) rfl rfl (Nat.le_of_ble_eq_true rfl) (by rw [hsz0]; rfl) dur_Pr_init_38 (fun H locs hP hS => ?_)
  have hP : lyP D h0 [.inr (3, [.int 0, .ref (h0 + 1), .ref (h0 + 2), .ref (h0 + 3), .ref (h0 + 4), .null, .null]), .inl (k 0, 60, .inl (fun _ => 0)), .inl (k 0, 60, .inl (fun _ => 0)), .inl (k 0, 60, .inl (fun _ => 0)), .inl (k 0, 60, .inl (fun _ => 0))] H := hP
  refine lv_aload_n hx hb dur_Pr_init_41 rfl (lv_at hl 0 rfl) ?_
  refine lv_bipush (v := 60) hx hb dur_Pr_init_42 (by decide) ?_
  refine ly_newz (n := 60) (N := 60) hx hb (hts _ ubw_159) hK hP hS (by decide) (by decide) (by decide) (Nat.le_of_ble_eq_true rfl) (Nat.le_of_ble_eq_true rfl) dur_Pr_init_44 (fun H hP hS => ?_)
  have hP : lyP D h0 [.inr (3, [.int 0, .ref (h0 + 1), .ref (h0 + 2), .ref (h0 + 3), .ref (h0 + 4), .null, .null]), .inl (k 0, 60, .inl (fun _ => 0)), .inl (k 0, 60, .inl (fun _ => 0)), .inl (k 0, 60, .inl (fun _ => 0)), .inl (k 0, 60, .inl (fun _ => 0)), .inl (k 1, 60, .inl (fun _ => 0))] H := hP
  refine W.eq (g2 := F0 m 46 ls [.ref (h0 + 5), .ref h0]) rfl ?_
  refine W.widen (k := 5) (n := 300) (by decide) (by decide) ?_
  refine ly_putF (ci := 3) (v := .ref (h0 + 5)) (ty := (.array .boolean)) (C := urR_Pr) (T := urF_Pr) (N := 7) hx hb hts uri_Pr urt_Pr urto_Pr urn_Pr hown hK hP hS rfl rfl 5 (by decide) (hts _ ubw_140) (fun _ h => h) rfl hin rfl (by decide +kernel) rfl rfl (Nat.le_of_ble_eq_true rfl) (by rw [hsz0]; rfl) dur_Pr_init_46 (fun H locs hP hS => ?_)
  have hP : lyP D h0 [.inr (3, [.int 0, .ref (h0 + 1), .ref (h0 + 2), .ref (h0 + 3), .ref (h0 + 4), .ref (h0 + 5), .null]), .inl (k 0, 60, .inl (fun _ => 0)), .inl (k 0, 60, .inl (fun _ => 0)), .inl (k 0, 60, .inl (fun _ => 0)), .inl (k 0, 60, .inl (fun _ => 0)), .inl (k 1, 60, .inl (fun _ => 0))] H := hP
  refine lv_aload_n hx hb dur_Pr_init_49 rfl (lv_at hl 0 rfl) ?_
  refine lv_bipush (v := 60) hx hb dur_Pr_init_50 (by decide) ?_
  refine lv_bipush (v := 12) hx hb dur_Pr_init_52 (by decide) ?_
  refine ly_mna (n := 60) (z := 12) (N := 60) (M := 12) hx hb hown (hts _ ubw_129) hO (hts _ ubw_108) hK hP hS (by decide) (by decide) (by decide) (by decide) (by decide) (by decide) (Nat.le_of_ble_eq_true rfl) (Nat.le_of_ble_eq_true rfl) dur_Pr_init_54 (fun H hP hS => ?_)
  have hP : lyP D h0 [.inr (3, [.int 0, .ref (h0 + 1), .ref (h0 + 2), .ref (h0 + 3), .ref (h0 + 4), .ref (h0 + 5), .null]), .inl (k 0, 60, .inl (fun _ => 0)), .inl (k 0, 60, .inl (fun _ => 0)), .inl (k 0, 60, .inl (fun _ => 0)), .inl (k 0, 60, .inl (fun _ => 0)), .inl (k 1, 60, .inl (fun _ => 0)), .inl (k 2, 60, .inr (.inr (.inr (.inr (fun i => if i < 60 then some (h0 + 6 + 1 + i) else none))))), .inl (k 0, 12, .inl (fun _ => 0)), .inl (k 0, 12, .inl (fun _ => 0)), .inl (k 0, 12, .inl (fun _ => 0)), .inl (k 0, 12, .inl (fun _ => 0)), .inl (k 0, 12, .inl (fun _ => 0)), .inl (k 0, 12, .inl (fun _ => 0)), .inl (k 0, 12, .inl (fun _ => 0)), .inl (k 0, 12, .inl (fun _ => 0)), .inl (k 0, 12, .inl (fun _ => 0)), .inl (k 0, 12, .inl (fun _ => 0)), .inl (k 0, 12, .inl (fun _ => 0)), .inl (k 0, 12, .inl (fun _ => 0)), .inl (k 0, 12, .inl (fun _ => 0)), .inl (k 0, 12, .inl (fun _ => 0)), .inl (k 0, 12, .inl (fun _ => 0)), .inl (k 0, 12, .inl (fun _ => 0)), .inl (k 0, 12, .inl (fun _ => 0)), .inl (k 0, 12, .inl (fun _ => 0)), .inl (k 0, 12, .inl (fun _ => 0)), .inl (k 0, 12, .inl (fun _ => 0)), .inl (k 0, 12, .inl (fun _ => 0)), .inl (k 0, 12, .inl (fun _ => 0)), .inl (k 0, 12, .inl (fun _ => 0)), .inl (k 0, 12, .inl (fun _ => 0)), .inl (k 0, 12, .inl (fun _ => 0)), .inl (k 0, 12, .inl (fun _ => 0)), .inl (k 0, 12, .inl (fun _ => 0)), .inl (k 0, 12, .inl (fun _ => 0)), .inl (k 0, 12, .inl (fun _ => 0)), .inl (k 0, 12, .inl (fun _ => 0)), .inl (k 0, 12, .inl (fun _ => 0)), .inl (k 0, 12, .inl (fun _ => 0)), .inl (k 0, 12, .inl (fun _ => 0)), .inl (k 0, 12, .inl (fun _ => 0)), .inl (k 0, 12, .inl (fun _ => 0)), .inl (k 0, 12, .inl (fun _ => 0)), .inl (k 0, 12, .inl (fun _ => 0)), .inl (k 0, 12, .inl (fun _ => 0)), .inl (k 0, 12, .inl (fun _ => 0)), .inl (k 0, 12, .inl (fun _ => 0)), .inl (k 0, 12, .inl (fun _ => 0)), .inl (k 0, 12, .inl (fun _ => 0)), .inl (k 0, 12, .inl (fun _ => 0)), .inl (k 0, 12, .inl (fun _ => 0)), .inl (k 0, 12, .inl (fun _ => 0)), .inl (k 0, 12, .inl (fun _ => 0)), .inl (k 0, 12, .inl (fun _ => 0)), .inl (k 0, 12, .inl (fun _ => 0)), .inl (k 0, 12, .inl (fun _ => 0)), .inl (k 0, 12, .inl (fun _ => 0)), .inl (k 0, 12, .inl (fun _ => 0)), .inl (k 0, 12, .inl (fun _ => 0)), .inl (k 0, 12, .inl (fun _ => 0)), .inl (k 0, 12, .inl (fun _ => 0)), .inl (k 0, 12, .inl (fun _ => 0)), .inl (k 0, 12, .inl (fun _ => 0)), .inl (k 0, 12, .inl (fun _ => 0)), .inl (k 0, 12, .inl (fun _ => 0)), .inl (k 0, 12, .inl (fun _ => 0)), .inl (k 0, 12, .inl (fun _ => 0))] H := hP
  refine W.eq (g2 := F0 m 58 ls [.ref (h0 + 6), .ref h0]) rfl ?_
  refine W.widen (k := 66) (n := 1080) (by decide) (by decide) ?_
  refine ly_putF (ci := 3) (v := .ref (h0 + 6)) (ty := (.array (.array .int))) (C := urR_Pr) (T := urF_Pr) (N := 7) hx hb hts uri_Pr urt_Pr urto_Pr urn_Pr hown hK hP hS rfl rfl 6 (by decide) (hts _ ubw_142) (fun _ h => h) rfl hin rfl (by decide +kernel) rfl rfl (Nat.le_of_ble_eq_true rfl) (by rw [hsz0]; rfl) dur_Pr_init_58 (fun H locs hP hS => ?_)
  have hP : lyP D h0 [.inr (3, [.int 0, .ref (h0 + 1), .ref (h0 + 2), .ref (h0 + 3), .ref (h0 + 4), .ref (h0 + 5), .ref (h0 + 6)]), .inl (k 0, 60, .inl (fun _ => 0)), .inl (k 0, 60, .inl (fun _ => 0)), .inl (k 0, 60, .inl (fun _ => 0)), .inl (k 0, 60, .inl (fun _ => 0)), .inl (k 1, 60, .inl (fun _ => 0)), .inl (k 2, 60, .inr (.inr (.inr (.inr (fun i => if i < 60 then some (h0 + 6 + 1 + i) else none))))), .inl (k 0, 12, .inl (fun _ => 0)), .inl (k 0, 12, .inl (fun _ => 0)), .inl (k 0, 12, .inl (fun _ => 0)), .inl (k 0, 12, .inl (fun _ => 0)), .inl (k 0, 12, .inl (fun _ => 0)), .inl (k 0, 12, .inl (fun _ => 0)), .inl (k 0, 12, .inl (fun _ => 0)), .inl (k 0, 12, .inl (fun _ => 0)), .inl (k 0, 12, .inl (fun _ => 0)), .inl (k 0, 12, .inl (fun _ => 0)), .inl (k 0, 12, .inl (fun _ => 0)), .inl (k 0, 12, .inl (fun _ => 0)), .inl (k 0, 12, .inl (fun _ => 0)), .inl (k 0, 12, .inl (fun _ => 0)), .inl (k 0, 12, .inl (fun _ => 0)), .inl (k 0, 12, .inl (fun _ => 0)), .inl (k 0, 12, .inl (fun _ => 0)), .inl (k 0, 12, .inl (fun _ => 0)), .inl (k 0, 12, .inl (fun _ => 0)), .inl (k 0, 12, .inl (fun _ => 0)), .inl (k 0, 12, .inl (fun _ => 0)), .inl (k 0, 12, .inl (fun _ => 0)), .inl (k 0, 12, .inl (fun _ => 0)), .inl (k 0, 12, .inl (fun _ => 0)), .inl (k 0, 12, .inl (fun _ => 0)), .inl (k 0, 12, .inl (fun _ => 0)), .inl (k 0, 12, .inl (fun _ => 0)), .inl (k 0, 12, .inl (fun _ => 0)), .inl (k 0, 12, .inl (fun _ => 0)), .inl (k 0, 12, .inl (fun _ => 0)), .inl (k 0, 12, .inl (fun _ => 0)), .inl (k 0, 12, .inl (fun _ => 0)), .inl (k 0, 12, .inl (fun _ => 0)), .inl (k 0, 12, .inl (fun _ => 0)), .inl (k 0, 12, .inl (fun _ => 0)), .inl (k 0, 12, .inl (fun _ => 0)), .inl (k 0, 12, .inl (fun _ => 0)), .inl (k 0, 12, .inl (fun _ => 0)), .inl (k 0, 12, .inl (fun _ => 0)), .inl (k 0, 12, .inl (fun _ => 0)), .inl (k 0, 12, .inl (fun _ => 0)), .inl (k 0, 12, .inl (fun _ => 0)), .inl (k 0, 12, .inl (fun _ => 0)), .inl (k 0, 12, .inl (fun _ => 0)), .inl (k 0, 12, .inl (fun _ => 0)), .inl (k 0, 12, .inl (fun _ => 0)), .inl (k 0, 12, .inl (fun _ => 0)), .inl (k 0, 12, .inl (fun _ => 0)), .inl (k 0, 12, .inl (fun _ => 0)), .inl (k 0, 12, .inl (fun _ => 0)), .inl (k 0, 12, .inl (fun _ => 0)), .inl (k 0, 12, .inl (fun _ => 0)), .inl (k 0, 12, .inl (fun _ => 0)), .inl (k 0, 12, .inl (fun _ => 0)), .inl (k 0, 12, .inl (fun _ => 0)), .inl (k 0, 12, .inl (fun _ => 0)), .inl (k 0, 12, .inl (fun _ => 0)), .inl (k 0, 12, .inl (fun _ => 0)), .inl (k 0, 12, .inl (fun _ => 0)), .inl (k 0, 12, .inl (fun _ => 0))] H := hP
  exact W.vret hx hb hr (fun t ht hW => ⟨⟨(), rfl, trivial, by rw [ht]; exact hP, va_K.moved hW.alike hK⟩, hS.F ht⟩) hS.2.2 dur_Pr_init_61
def ur_es_Rb (k : Nat → ClassId) (h0 : Nat) (x1 : Int32) : List va_E := ((([.inr (0, [.int (if 0 < (if x1 < 20 then x1 else 20) then (if x1 < 20 then x1 else 20) else 0), .ref (h0 + 1), .ref (h0 + 49), .ref (h0 + 52), .int 0, .int 0])] ++ ur_es_Nm k (h0 + 1)) ++ ur_es_So k (h0 + 49)) ++ ur_es_Pr k (h0 + 52))
set_option maxHeartbeats 4000000 in
set_option maxRecDepth 100000 in
theorem cur_Rb_init (l : Launch) (D : va_G) (k : Nat → ClassId) (h0 : Nat) (x1 : Int32) : Met l ury_Rb_init urs_Rb_init urr_Rb_init (va_Pc [.ref h0, .int x1] (fun U => lyP D h0 [.inr (0, [.int 0, .null, .null, .null, .int 0, .int 0])] U.heap ∧ ub_K D k U ∧ ub_O U)) (va_Qv (fun (_ : Unit) => True) (fun _ t => lyP D h0 (ur_es_Rb k h0 x1) t.heap ∧ ub_K D k t) (fun q => h0 ≤ q)) 118 1545 (fun q => h0 ≤ q) := by
  refine Met.ofW (cc := urb_Rb_init) (maxL := 2) (ret := none) (by decide) rfl ?_
  intro p e s m args below meth c s₁ B hml hv
  obtain ⟨rfl, hP, hK, hO⟩ := hv
  have hx := B.exec
  have hb := B.bytes
  have hr := B.returns
  have hts : ∀ w ∈ ub_T, w.before _ s = true := fun w hw => atoms_spec (ws := urs_Rb_init) B.pre w (List.mem_cons_of_mem _ hw)
  have hown : s.vm.findClass urR_Rb = some m.cls := findClass_of_methodNamed B.named
  have hlocks := B.notSynchronized
  have hin : meth.name = "<init>" := (name_of_methodNamed B.named B.method).1
  have hsz0 : s.heap.size = h0 + 1 := hP.1
  have hS : va_S (fun q => h0 ≤ q) s.heap s.heap [] := va_S.rf
  have hl := lv_entry ([.ref h0, .int x1]) (n := 2) (Nat.le_of_ble_eq_true rfl)
  rw [lg_entry_eq]
  generalize (lg_sl ([.ref h0, .int x1]) ++ List.replicate (2 - (lg_sl ([.ref h0, .int x1])).length) Slot.unset).toArray = ls at hl ⊢
  have hl : lv_has ls 2 [(0, .ref h0), (1, .int x1)] := hl
  refine lv_aload_n hx hb dur_Rb_init_0 rfl (lv_at hl 0 rfl) ?_
  refine W.objInit hx hb hown (hts _ ubw_40) (hts _ ubw_41) (hts _ ubw_42) rfl (by rw [hml]; exact hl.1) rfl dur_Rb_init_1 (Nat.le_of_ble_eq_true rfl) (Nat.le_of_ble_eq_true rfl) ?_
  refine W.eq (g2 := F0 m 4 ls []) rfl ?_
  refine lv_aload_n hx hb dur_Rb_init_4 rfl (lv_at hl 0 rfl) ?_
  refine lv_iconst (v := 0) hx hb dur_Rb_init_5 (by decide) ?_
  refine lv_bipush (v := 20) hx hb dur_Rb_init_6 (by decide) ?_
  refine lv_iload_n hx hb dur_Rb_init_8 rfl (lv_at hl 1 rfl) ?_
  refine va_mmin hx hb (hml.trans hl.1.symm) hown (hts _ urw_Rb_9) (hts _ ub_w_min_s) (hts _ ub_w_Math_i) (hts _ ub_w_min_c) (Nat.le_of_ble_eq_true rfl) (Nat.le_of_ble_eq_true rfl) (Nat.zero_le _) (Nat.zero_le _) dur_Rb_init_9 ?_
  refine va_mmax hx hb (hml.trans hl.1.symm) hown (hts _ urw_Rb_15) (hts _ ub_w_max_s) (hts _ ub_w_Math_i) (hts _ ub_w_max_c) (Nat.le_of_ble_eq_true rfl) (Nat.le_of_ble_eq_true rfl) (Nat.zero_le _) (Nat.zero_le _) dur_Rb_init_12 ?_
  refine ly_putF (ci := 0) (v := .int (if 0 < (if x1 < 20 then x1 else 20) then (if x1 < 20 then x1 else 20) else 0)) (ty := .int) (C := urR_Rb) (T := urF_Rb) (N := 6) hx hb hts uri_Rb urt_Rb urto_Rb urn_Rb hown hK hP hS rfl rfl 0 (by decide) (hts _ ubw_160) (fun _ h => h) rfl hin rfl (by decide +kernel) rfl rfl (Nat.le_of_ble_eq_true rfl) (by rw [hsz0]; rfl) dur_Rb_init_15 (fun H locs hP hS => ?_)
  have hP : lyP D h0 [.inr (0, [.int (if 0 < (if x1 < 20 then x1 else 20) then (if x1 < 20 then x1 else 20) else 0), .null, .null, .null, .int 0, .int 0])] H := hP
  refine lv_aload_n hx hb dur_Rb_init_18 rfl (lv_at hl 0 rfl) ?_
  refine ly_new (ci := 1) (fs := [.int 0, .null, .null, .null, .null, .null, .null, .null, .null, .null, .null, .null]) (C := urR_Nm) (T := urF_Nm) (N := 12) hx hb hts uri_Nm urt_Nm urto_Nm hown (hts _ ubw_49) (hts _ ubw_50) (hts _ ubw_31) hK hP hS rfl (by decide) (Nat.le_of_ble_eq_true rfl) (Nat.le_of_ble_eq_true rfl) dur_Rb_init_19 (fun H hP hS => ?_)
  have hP : lyP D h0 ([.inr (0, [.int (if 0 < (if x1 < 20 then x1 else 20) then (if x1 < 20 then x1 else 20) else 0), .null, .null, .null, .int 0, .int 0])] ++ [.inr (1, [.int 0, .null, .null, .null, .null, .null, .null, .null, .null, .null, .null, .null])]) H := hP
  refine W.eq (g2 := F0 m 22 ls [.ref (h0 + 1), .ref h0]) rfl ?_
  refine W.widen (k := 1) (n := 12) (by decide) (by decide) ?_
  refine lv_dup hx hb dur_Rb_init_22 rfl ?_
  have hPc : lyP D (h0 + 1) [.inr (1, [.int 0, .null, .null, .null, .null, .null, .null, .null, .null, .null, .null, .null])] H := lyP_part (es := [.inr (0, [.int (if 0 < (if x1 < 20 then x1 else 20) then (if x1 < 20 then x1 else 20) else 0), .null, .null, .null, .int 0, .int 0])]) (fs := [.inr (1, [.int 0, .null, .null, .null, .null, .null, .null, .null, .null, .null, .null, .null])]) hP
  refine va_callv (va_runI (As := []) (rest := [.ref (h0 + 1), .ref h0]) ⟨hx, hb, hml, hown, hts⟩ (cur_Nm_init l D k (h0 + 1)) (urc_Rb_24 hts ⟨Nat.le_of_ble_eq_true rfl, Nat.le_of_ble_eq_true rfl⟩) ⟨ly_blind, fun U hU hW => ⟨rfl, by rw [hU]; exact hPc, va_K.moved hW.alike hK, ub_O.moved hW.alike hO⟩⟩ rfl rfl hl.1 rfl (lv_room (Nat.le_of_ble_eq_true rfl)) dur_Rb_init_23 ⟨Nat.le_of_ble_eq_true rfl, Nat.le_of_ble_eq_true rfl⟩) hS (fun q _ h => Nat.le_trans (Nat.le_add_right _ _) h) (fun q h => Nat.le_trans (Nat.le_add_right _ _) h) (fun u t H1 locs ht hvm hw hB hz1 hk1 hS => ?_)
  have hP1 : lyP D (h0 + 1) (ur_es_Nm k (h0 + 1)) H1 := by rw [← ht]; exact hB.1
  have hP := lyP_join (es := [.inr (0, [.int (if 0 < (if x1 < 20 then x1 else 20) then (if x1 < 20 then x1 else 20) else 0), .null, .null, .null, .int 0, .int 0])]) (fs := [.inr (1, [.int 0, .null, .null, .null, .null, .null, .null, .null, .null, .null, .null, .null])]) (gs := ur_es_Nm k (h0 + 1)) hP hP1 hk1
  generalize H1 = H at hP hS ⊢
  have hP : lyP D h0 ([.inr (0, [.int (if 0 < (if x1 < 20 then x1 else 20) then (if x1 < 20 then x1 else 20) else 0), .null, .null, .null, .int 0, .int 0])] ++ ur_es_Nm k (h0 + 1)) H := hP
  refine W.eq (g2 := F0 m 26 ls [.ref (h0 + 1), .ref h0]) rfl ?_
  refine W.widen (k := 48) (n := 432) (by decide) (by decide) ?_
  refine ly_putF (ci := 0) (v := .ref (h0 + 1)) (ty := (.object "UpdateRobot$Names")) (C := urR_Rb) (T := urF_Rb) (N := 6) hx hb hts uri_Rb urt_Rb urto_Rb urn_Rb hown hK hP hS rfl rfl 1 (by decide) (hts _ ubw_161) (fun _ h => h) rfl hin rfl (by decide +kernel) rfl rfl (Nat.le_of_ble_eq_true rfl) (by rw [hsz0]; rfl) dur_Rb_init_26 (fun H locs hP hS => ?_)
  have hP : lyP D h0 ([.inr (0, [.int (if 0 < (if x1 < 20 then x1 else 20) then (if x1 < 20 then x1 else 20) else 0), .ref (h0 + 1), .null, .null, .int 0, .int 0])] ++ ur_es_Nm k (h0 + 1)) H := hP
  refine lv_aload_n hx hb dur_Rb_init_29 rfl (lv_at hl 0 rfl) ?_
  refine ly_new (ci := 2) (fs := [.null, .null]) (C := urR_So) (T := urF_So) (N := 2) hx hb hts uri_So urt_So urto_So hown (hts _ ubw_109) (hts _ ubw_110) (hts _ ubw_32) hK hP hS rfl (by decide) (Nat.le_of_ble_eq_true rfl) (Nat.le_of_ble_eq_true rfl) dur_Rb_init_30 (fun H hP hS => ?_)
  have hP : lyP D h0 (([.inr (0, [.int (if 0 < (if x1 < 20 then x1 else 20) then (if x1 < 20 then x1 else 20) else 0), .ref (h0 + 1), .null, .null, .int 0, .int 0])] ++ ur_es_Nm k (h0 + 1)) ++ [.inr (2, [.null, .null])]) H := hP
  refine W.eq (g2 := F0 m 33 ls [.ref (h0 + 49), .ref h0]) rfl ?_
  refine W.widen (k := 49) (n := 434) (by decide) (by decide) ?_
  refine lv_dup hx hb dur_Rb_init_33 rfl ?_
  have hPc : lyP D (h0 + 49) [.inr (2, [.null, .null])] H := lyP_part (es := ([.inr (0, [.int (if 0 < (if x1 < 20 then x1 else 20) then (if x1 < 20 then x1 else 20) else 0), .ref (h0 + 1), .null, .null, .int 0, .int 0])] ++ ur_es_Nm k (h0 + 1))) (fs := [.inr (2, [.null, .null])]) hP
  refine va_callv (va_runI (As := []) (rest := [.ref (h0 + 49), .ref h0]) ⟨hx, hb, hml, hown, hts⟩ (cur_So_init l D k (h0 + 49)) (urc_Rb_31 hts ⟨Nat.le_of_ble_eq_true rfl, Nat.le_of_ble_eq_true rfl⟩) ⟨ly_blind, fun U hU hW => ⟨rfl, by rw [hU]; exact hPc, va_K.moved hW.alike hK, ub_O.moved hW.alike hO⟩⟩ rfl rfl hl.1 rfl (lv_room (Nat.le_of_ble_eq_true rfl)) dur_Rb_init_34 ⟨Nat.le_of_ble_eq_true rfl, Nat.le_of_ble_eq_true rfl⟩) hS (fun q _ h => Nat.le_trans (Nat.le_add_right _ _) h) (fun q h => Nat.le_trans (Nat.le_add_right _ _) h) (fun u t H1 locs ht hvm hw hB hz1 hk1 hS => ?_)
  have hP1 : lyP D (h0 + 49) (ur_es_So k (h0 + 49)) H1 := by rw [← ht]; exact hB.1
  have hP := lyP_join (es := ([.inr (0, [.int (if 0 < (if x1 < 20 then x1 else 20) then (if x1 < 20 then x1 else 20) else 0), .ref (h0 + 1), .null, .null, .int 0, .int 0])] ++ ur_es_Nm k (h0 + 1))) (fs := [.inr (2, [.null, .null])]) (gs := ur_es_So k (h0 + 49)) hP hP1 hk1
  generalize H1 = H at hP hS ⊢
  have hP : lyP D h0 (([.inr (0, [.int (if 0 < (if x1 < 20 then x1 else 20) then (if x1 < 20 then x1 else 20) else 0), .ref (h0 + 1), .null, .null, .int 0, .int 0])] ++ ur_es_Nm k (h0 + 1)) ++ ur_es_So k (h0 + 49)) H := hP
  refine W.eq (g2 := F0 m 37 ls [.ref (h0 + 49), .ref h0]) rfl ?_
  refine W.widen (k := 51) (n := 458) (by decide) (by decide) ?_
  refine ly_putF (ci := 0) (v := .ref (h0 + 49)) (ty := (.object "UpdateRobot$Solver")) (C := urR_Rb) (T := urF_Rb) (N := 6) hx hb hts uri_Rb urt_Rb urto_Rb urn_Rb hown hK hP hS rfl rfl 2 (by decide) (hts _ ubw_162) (fun _ h => h) rfl hin rfl (by decide +kernel) rfl rfl (Nat.le_of_ble_eq_true rfl) (by rw [hsz0]; rfl) dur_Rb_init_37 (fun H locs hP hS => ?_)
  have hP : lyP D h0 (([.inr (0, [.int (if 0 < (if x1 < 20 then x1 else 20) then (if x1 < 20 then x1 else 20) else 0), .ref (h0 + 1), .ref (h0 + 49), .null, .int 0, .int 0])] ++ ur_es_Nm k (h0 + 1)) ++ ur_es_So k (h0 + 49)) H := hP
  refine lv_aload_n hx hb dur_Rb_init_40 rfl (lv_at hl 0 rfl) ?_
  refine ly_new (ci := 3) (fs := [.int 0, .null, .null, .null, .null, .null, .null]) (C := urR_Pr) (T := urF_Pr) (N := 7) hx hb hts uri_Pr urt_Pr urto_Pr hown (hts _ ubw_123) (hts _ ubw_124) (hts _ ubw_33) hK hP hS rfl (by decide) (Nat.le_of_ble_eq_true rfl) (Nat.le_of_ble_eq_true rfl) dur_Rb_init_41 (fun H hP hS => ?_)
  have hP : lyP D h0 ((([.inr (0, [.int (if 0 < (if x1 < 20 then x1 else 20) then (if x1 < 20 then x1 else 20) else 0), .ref (h0 + 1), .ref (h0 + 49), .null, .int 0, .int 0])] ++ ur_es_Nm k (h0 + 1)) ++ ur_es_So k (h0 + 49)) ++ [.inr (3, [.int 0, .null, .null, .null, .null, .null, .null])]) H := hP
  refine W.eq (g2 := F0 m 44 ls [.ref (h0 + 52), .ref h0]) rfl ?_
  refine W.widen (k := 52) (n := 465) (by decide) (by decide) ?_
  refine lv_dup hx hb dur_Rb_init_44 rfl ?_
  have hPc : lyP D (h0 + 52) [.inr (3, [.int 0, .null, .null, .null, .null, .null, .null])] H := lyP_part (es := (([.inr (0, [.int (if 0 < (if x1 < 20 then x1 else 20) then (if x1 < 20 then x1 else 20) else 0), .ref (h0 + 1), .ref (h0 + 49), .null, .int 0, .int 0])] ++ ur_es_Nm k (h0 + 1)) ++ ur_es_So k (h0 + 49))) (fs := [.inr (3, [.int 0, .null, .null, .null, .null, .null, .null])]) hP
  refine va_callv (va_runI (As := []) (rest := [.ref (h0 + 52), .ref h0]) ⟨hx, hb, hml, hown, hts⟩ (cur_Pr_init l D k (h0 + 52)) (urc_Rb_38 hts ⟨Nat.le_of_ble_eq_true rfl, Nat.le_of_ble_eq_true rfl⟩) ⟨ly_blind, fun U hU hW => ⟨rfl, by rw [hU]; exact hPc, va_K.moved hW.alike hK, ub_O.moved hW.alike hO⟩⟩ rfl rfl hl.1 rfl (lv_room (Nat.le_of_ble_eq_true rfl)) dur_Rb_init_45 ⟨Nat.le_of_ble_eq_true rfl, Nat.le_of_ble_eq_true rfl⟩) hS (fun q _ h => Nat.le_trans (Nat.le_add_right _ _) h) (fun q h => Nat.le_trans (Nat.le_add_right _ _) h) (fun u t H1 locs ht hvm hw hB hz1 hk1 hS => ?_)
  have hP1 : lyP D (h0 + 52) (ur_es_Pr k (h0 + 52)) H1 := by rw [← ht]; exact hB.1
  have hP := lyP_join (es := (([.inr (0, [.int (if 0 < (if x1 < 20 then x1 else 20) then (if x1 < 20 then x1 else 20) else 0), .ref (h0 + 1), .ref (h0 + 49), .null, .int 0, .int 0])] ++ ur_es_Nm k (h0 + 1)) ++ ur_es_So k (h0 + 49))) (fs := [.inr (3, [.int 0, .null, .null, .null, .null, .null, .null])]) (gs := ur_es_Pr k (h0 + 52)) hP hP1 hk1
  generalize H1 = H at hP hS ⊢
  have hP : lyP D h0 ((([.inr (0, [.int (if 0 < (if x1 < 20 then x1 else 20) then (if x1 < 20 then x1 else 20) else 0), .ref (h0 + 1), .ref (h0 + 49), .null, .int 0, .int 0])] ++ ur_es_Nm k (h0 + 1)) ++ ur_es_So k (h0 + 49)) ++ ur_es_Pr k (h0 + 52)) H := hP
  refine W.eq (g2 := F0 m 48 ls [.ref (h0 + 52), .ref h0]) rfl ?_
  refine W.widen (k := 118) (n := 1545) (by decide) (by decide) ?_
  refine ly_putF (ci := 0) (v := .ref (h0 + 52)) (ty := (.object "UpdateRobot$Proposals")) (C := urR_Rb) (T := urF_Rb) (N := 6) hx hb hts uri_Rb urt_Rb urto_Rb urn_Rb hown hK hP hS rfl rfl 3 (by decide) (hts _ ubw_163) (fun _ h => h) rfl hin rfl (by decide +kernel) rfl rfl (Nat.le_of_ble_eq_true rfl) (by rw [hsz0]; rfl) dur_Rb_init_48 (fun H locs hP hS => ?_)
  have hP : lyP D h0 ((([.inr (0, [.int (if 0 < (if x1 < 20 then x1 else 20) then (if x1 < 20 then x1 else 20) else 0), .ref (h0 + 1), .ref (h0 + 49), .ref (h0 + 52), .int 0, .int 0])] ++ ur_es_Nm k (h0 + 1)) ++ ur_es_So k (h0 + 49)) ++ ur_es_Pr k (h0 + 52)) H := hP
  refine lv_aload_n hx hb dur_Rb_init_51 rfl (lv_at hl 0 rfl) ?_
  refine lv_iconst (v := 0) hx hb dur_Rb_init_52 (by decide) ?_
  refine ly_put (ci := 0) (v := .int 0) (ty := .int) (C := urR_Rb) (T := urF_Rb) (N := 6) hx hb hts uri_Rb urt_Rb urto_Rb urn_Rb hown hK hP hS rfl rfl 4 (by decide) (hts _ ubw_164) (fun _ h => h) rfl (by decide +kernel) rfl rfl (Nat.le_of_ble_eq_true rfl) (by rw [hsz0]; rfl) dur_Rb_init_53 (fun H locs hP hS => ?_)
  have hP : lyP D h0 ((([.inr (0, [.int (if 0 < (if x1 < 20 then x1 else 20) then (if x1 < 20 then x1 else 20) else 0), .ref (h0 + 1), .ref (h0 + 49), .ref (h0 + 52), .int 0, .int 0])] ++ ur_es_Nm k (h0 + 1)) ++ ur_es_So k (h0 + 49)) ++ ur_es_Pr k (h0 + 52)) H := hP
  refine lv_aload_n hx hb dur_Rb_init_56 rfl (lv_at hl 0 rfl) ?_
  refine lv_iconst (v := 0) hx hb dur_Rb_init_57 (by decide) ?_
  refine ly_put (ci := 0) (v := .int 0) (ty := .int) (C := urR_Rb) (T := urF_Rb) (N := 6) hx hb hts uri_Rb urt_Rb urto_Rb urn_Rb hown hK hP hS rfl rfl 5 (by decide) (hts _ ubw_165) (fun _ h => h) rfl (by decide +kernel) rfl rfl (Nat.le_of_ble_eq_true rfl) (by rw [hsz0]; rfl) dur_Rb_init_58 (fun H locs hP hS => ?_)
  have hP : lyP D h0 ((([.inr (0, [.int (if 0 < (if x1 < 20 then x1 else 20) then (if x1 < 20 then x1 else 20) else 0), .ref (h0 + 1), .ref (h0 + 49), .ref (h0 + 52), .int 0, .int 0])] ++ ur_es_Nm k (h0 + 1)) ++ ur_es_So k (h0 + 49)) ++ ur_es_Pr k (h0 + 52)) H := hP
  exact W.vret hx hb hr (fun t ht hW => ⟨⟨(), rfl, trivial, by rw [ht]; exact hP, va_K.moved hW.alike hK⟩, hS.F ht⟩) hS.2.2 dur_Rb_init_61

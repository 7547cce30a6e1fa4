def ur_pil : List Nat := [0, 1, 49, 52, 57, 10, 23, 36, 58, 2, 3, 4, 5, 6, 7, 8, 9, 50, 51, 53, 54, 55, 56, 11, 12, 13, 14, 15, 16, 17, 18, 19, 20, 21, 22, 24, 25, 26, 27, 28, 29, 30, 31, 32, 33, 34, 35, 37, 38, 39, 40, 41, 42, 43, 44, 45, 46, 47, 48, 59] ++ [60, 61, 62, 63, 64, 65, 66, 67, 68, 69, 70, 71, 72, 73, 74, 75, 76, 77, 78, 79, 80, 81, 82, 83, 84, 85, 86, 87, 88, 89, 90, 91, 92, 93, 94, 95, 96, 97, 98, 99, 100, 101, 102, 103, 104, 105, 106, 107, 108, 109, 110, 111, 112, 113, 114, 115, 116, 117, 118]
def ur_pi (i : Nat) : Nat := ur_pil.getD i 0
def ur_a (sz : Nat) (i : Nat) : Nat := sz + ur_pi i
def rf_a (sz : Nat) (i : Nat) : Nat := sz + 119 + i
def ur_s0 (v : Int32) : ST := wr (fun _ _ => 0) 111 0 (if 0 < (if v < 20 then v else 20) then (if v < 20 then v else 20) else 0)
def rf_s0 (v : Int32) : ST := wr (fun _ _ => 0) 18 0 (if 0 ≤ v then (if v ≤ 20 then v else 20) else 0)
theorem ur_pi_inj : ∀ i, i < 119 → ∀ j, j < 119 → ur_pi i = ur_pi j → i = j := by decide +kernel
theorem ur_pi_lt : ∀ i, i < 119 → ur_pi i < 119 := by decide +kernel
theorem lw_ads (sz : Nat) : lw_Ads sz (ur_a sz) (rf_a sz) := by
  refine ⟨fun i j hi hj h => ur_pi_inj i hi j hj ?_, fun i j hi hj h => ?_, fun i j hi hj h => ?_, fun i hi => Nat.le_add_right _ _, fun i hi => ?_⟩
  · have h1 : sz + ur_pi i = sz + ur_pi j := h
    omega
  · have h1 : sz + 119 + i = sz + 119 + j := h
    omega
  · have h1 : sz + ur_pi i = sz + 119 + j := h
    have h2 := ur_pi_lt i hi
    omega
  · show sz ≤ sz + 119 + i
    omega
theorem ub_outer {c : ClassId} {N : Nat} {f g : Nat → Option Nat} (h : ∀ i, i < N → f i = g i) : vp_cell c (N, .inr (.inr (.inr (.inr f)))) = vp_cell c (N, .inr (.inr (.inr (.inr g)))) := by
  show arrV c N (fun j => va_rf (f j)) = arrV c N (fun j => va_rf (g j))
  unfold arrV
  congr 2
  funext j
  show va_rf (f j.val) = va_rf (g j.val)
  rw [h j.val j.isLt]
set_option maxRecDepth 100000 in
theorem ur_es_at (k : Nat → ClassId) (sz : Nat) (v : Int32) : ∀ j, j < 110 → (ur_es_Rb k sz v)[ur_pi (j + 9)]? = some (.inl (k 0, ur_len j, .inl (fun _ => 0))) := by
  intro j hj
  match j, hj with
  | 0, _ => rfl
  | 1, _ => rfl
  | 2, _ => rfl
  | 3, _ => rfl
  | 4, _ => rfl
  | 5, _ => rfl
  | 6, _ => rfl
  | 7, _ => rfl
  | 8, _ => rfl
  | 9, _ => rfl
  | 10, _ => rfl
  | 11, _ => rfl
  | 12, _ => rfl
  | 13, _ => rfl
  | 14, _ => rfl
  | 15, _ => rfl
  | 16, _ => rfl
  | 17, _ => rfl
  | 18, _ => rfl
  | 19, _ => rfl
  | 20, _ => rfl
  | 21, _ => rfl
  | 22, _ => rfl
  | 23, _ => rfl
  | 24, _ => rfl
  | 25, _ => rfl
  | 26, _ => rfl
  | 27, _ => rfl
  | 28, _ => rfl
  | 29, _ => rfl
  | 30, _ => rfl
  | 31, _ => rfl
  | 32, _ => rfl
  | 33, _ => rfl
  | 34, _ => rfl
  | 35, _ => rfl
  | 36, _ => rfl
  | 37, _ => rfl
  | 38, _ => rfl
  | 39, _ => rfl
  | 40, _ => rfl
  | 41, _ => rfl
  | 42, _ => rfl
  | 43, _ => rfl
  | 44, _ => rfl
  | 45, _ => rfl
  | 46, _ => rfl
  | 47, _ => rfl
  | 48, _ => rfl
  | 49, _ => rfl
  | 50, _ => rfl
  | 51, _ => rfl
  | 52, _ => rfl
  | 53, _ => rfl
  | 54, _ => rfl
  | 55, _ => rfl
  | 56, _ => rfl
  | 57, _ => rfl
  | 58, _ => rfl
  | 59, _ => rfl
  | 60, _ => rfl
  | 61, _ => rfl
  | 62, _ => rfl
  | 63, _ => rfl
  | 64, _ => rfl
  | 65, _ => rfl
  | 66, _ => rfl
  | 67, _ => rfl
  | 68, _ => rfl
  | 69, _ => rfl
  | 70, _ => rfl
  | 71, _ => rfl
  | 72, _ => rfl
  | 73, _ => rfl
  | 74, _ => rfl
  | 75, _ => rfl
  | 76, _ => rfl
  | 77, _ => rfl
  | 78, _ => rfl
  | 79, _ => rfl
  | 80, _ => rfl
  | 81, _ => rfl
  | 82, _ => rfl
  | 83, _ => rfl
  | 84, _ => rfl
  | 85, _ => rfl
  | 86, _ => rfl
  | 87, _ => rfl
  | 88, _ => rfl
  | 89, _ => rfl
  | 90, _ => rfl
  | 91, _ => rfl
  | 92, _ => rfl
  | 93, _ => rfl
  | 94, _ => rfl
  | 95, _ => rfl
  | 96, _ => rfl
  | 97, _ => rfl
  | 98, _ => rfl
  | 99, _ => rfl
  | 100, _ => rfl
  | 101, _ => rfl
  | 102, _ => rfl
  | 103, _ => rfl
  | 104, _ => rfl
  | 105, _ => rfl
  | 106, _ => rfl
  | 107, _ => rfl
  | 108, _ => rfl
  | 109, _ => rfl
  | n + 110, h => exact absurd h (by omega)
set_option maxRecDepth 100000 in
set_option maxHeartbeats 4000000 in
theorem ur_of_ly {D : va_G} {k : Nat → ClassId} {sz : Nat} {v : Int32} {H : Heap} (h : va_P D ub_cl (ly sz (ur_es_Rb k sz v)) H) : ur_P D (ur_a sz) k (ur_s0 v) H := by
  intro i q hi
  obtain ⟨hlt, hq1⟩ := ur_fst hi
  by_cases h0 : i < 9
  · rw [ur_at0 h0] at hi
    match i, h0, hi with
    | 0, _, hi => cases hi; exact h 0 _ (ly_at (sz := sz) (es := ur_es_Rb k sz v) (i := 0) rfl)
    | 1, _, hi => cases hi; exact h 1 _ (ly_at (sz := sz) (es := ur_es_Rb k sz v) (i := 1) rfl)
    | 2, _, hi => cases hi; exact h 49 _ (ly_at (sz := sz) (es := ur_es_Rb k sz v) (i := 49) rfl)
    | 3, _, hi => cases hi; exact h 52 _ (ly_at (sz := sz) (es := ur_es_Rb k sz v) (i := 52) rfl)
    | 4, _, hi => cases hi; exact h 57 _ (ly_at (sz := sz) (es := ur_es_Rb k sz v) (i := 57) rfl)
    | 5, _, hi =>
      cases hi
      have h1 := h 10 _ (ly_at (sz := sz) (es := ur_es_Rb k sz v) (i := 10) rfl)
      show H[sz + 10]? = some (vp_cell _ _)
      refine Eq.trans h1 (congrArg some (ub_outer fun i hi => ?_))
      rw [if_pos hi]
      have h2 : ∀ i, i < 12 → ur_pi (i + 14 + 9) = i + 11 := by decide +kernel
      show _ = some (sz + ur_pi (i + 14 + 9))
      rw [h2 i hi]
      congr 1
      omega
    | 6, _, hi =>
      cases hi
      have h1 := h 23 _ (ly_at (sz := sz) (es := ur_es_Rb k sz v) (i := 23) rfl)
      show H[sz + 23]? = some (vp_cell _ _)
      refine Eq.trans h1 (congrArg some (ub_outer fun i hi => ?_))
      rw [if_pos hi]
      have h2 : ∀ i, i < 12 → ur_pi (i + 26 + 9) = i + 24 := by decide +kernel
      show _ = some (sz + ur_pi (i + 26 + 9))
      rw [h2 i hi]
      congr 1
      omega
    | 7, _, hi =>
      cases hi
      have h1 := h 36 _ (ly_at (sz := sz) (es := ur_es_Rb k sz v) (i := 36) rfl)
      show H[sz + 36]? = some (vp_cell _ _)
      refine Eq.trans h1 (congrArg some (ub_outer fun i hi => ?_))
      rw [if_pos hi]
      have h2 : ∀ i, i < 12 → ur_pi (i + 38 + 9) = i + 37 := by decide +kernel
      show _ = some (sz + ur_pi (i + 38 + 9))
      rw [h2 i hi]
      congr 1
      omega
    | 8, _, hi =>
      cases hi
      have h1 := h 58 _ (ly_at (sz := sz) (es := ur_es_Rb k sz v) (i := 58) rfl)
      show H[sz + 58]? = some (vp_cell _ _)
      refine Eq.trans h1 (congrArg some (ub_outer fun i hi => ?_))
      rw [if_pos hi]
      have h2 : ∀ i, i < 60 → ur_pi (i + 50 + 9) = i + 59 := by decide +kernel
      show _ = some (sz + ur_pi (i + 50 + 9))
      rw [h2 i hi]
      congr 1
      omega
    | j + 9, h0, _ => exact absurd h0 (by omega)
  · obtain ⟨j, rfl⟩ : ∃ j, i = j + 9 := ⟨i - 9, by omega⟩
    have hj : j < 110 := by omega
    rw [ur_at hj] at hi
    cases hi
    have h1 := h _ _ (ly_at (sz := sz) (ur_es_at k sz v j hj))
    rw [show ur_s0 v j = fun _ => 0 from wr_ne (by omega)]
    exact h1
set_option maxRecDepth 100000 in
theorem rf_es_at (k : Nat → ClassId) (sz : Nat) (v : Int32) : ∀ j, j < 18 → (rf_es_Md k sz v)[j + 1]? = some (.inl (k 0, rf_len j, .inl (fun _ => 0))) := by
  intro j hj
  match j, hj with
  | 0, _ => rfl
  | 1, _ => rfl
  | 2, _ => rfl
  | 3, _ => rfl
  | 4, _ => rfl
  | 5, _ => rfl
  | 6, _ => rfl
  | 7, _ => rfl
  | 8, _ => rfl
  | 9, _ => rfl
  | 10, _ => rfl
  | 11, _ => rfl
  | 12, _ => rfl
  | 13, _ => rfl
  | 14, _ => rfl
  | 15, _ => rfl
  | 16, _ => rfl
  | 17, _ => rfl
  | n + 18, h => exact absurd h (by omega)
set_option maxRecDepth 100000 in
set_option maxHeartbeats 4000000 in
theorem rf_of_ly {D : va_G} {k : Nat → ClassId} {sz : Nat} {v : Int32} {H : Heap} (h : va_P D ub_cl (ly (sz + 119) (rf_es_Md k (sz + 119) v)) H) : rf_P D (rf_a sz) k (rf_s0 v) H := by
  intro i q hi
  obtain ⟨hlt, hq1⟩ := rf_fst hi
  by_cases h0 : i < 1
  · rw [rf_at0 h0] at hi
    have e0 : i = 0 := by omega
    subst e0
    cases hi
    exact h 0 _ (ly_at (sz := sz + 119) (es := rf_es_Md k (sz + 119) v) (i := 0) rfl)
  · obtain ⟨j, rfl⟩ : ∃ j, i = j + 1 := ⟨i - 1, by omega⟩
    have hj : j < 18 := by omega
    rw [rf_at hj] at hi
    cases hi
    have h1 := h _ _ (ly_at (sz := sz + 119) (rf_es_at k (sz + 119) v j hj))
    rw [show rf_s0 v j = fun _ => 0 from wr_ne (by omega)]
    exact h1

set_option maxHeartbeats 16000000 in
set_option maxRecDepth 100000 in
/-- THE LAW from its entry, given what each call does on both sides -/
theorem whole_start_open {p : Program} {e : Env} {s : State} {m : MethodId} {below : List Frame} {meth : Method} {c : Code} (l : Launch) {b L : Nat} {xs : Nat → Int32} (hL : L ≤ 2561) (C0 : lw_At p s m meth c b L xs) (I : ST → ST → Prop) (hI : lw_Step I) (hI0 : ∀ v : Int32, I (ur_s0 v) (rf_s0 v)) : W p l e room_1 s m #[Value.ref b] below meth c s.heap [] 0 0 (lw_Z below #[Value.ref b] s) (entryFrame m ([Value.ref b] : List Value).toArray 4) := by
  obtain ⟨hx, hb, hr, hml, hown, hts0, hX, hbl, hlocks, hgv⟩ := id C0
  have hts : ∀ w ∈ ub_T, w.before #[Value.ref b] s = true := fun w h => hts0 w (List.mem_filter.mp h).1
  have hbA : ¬ (fun q : Nat => s.heap.size ≤ q) b := Nat.not_le.mpr hbl
  obtain ⟨c0, iS0, hKn0⟩ := u_known (C := urR_Rb) (T := urF_Rb) (N := 6) (n := 6) hts uri_Rb (hts _ ubw_36)
  obtain ⟨c1, iS1, hKn1⟩ := u_known (C := urR_Nm) (T := urF_Nm) (N := 12) (n := 12) hts uri_Nm (hts _ ubw_50)
  obtain ⟨c2, iS2, hKn2⟩ := u_known (C := urR_So) (T := urF_So) (N := 2) (n := 2) hts uri_So (hts _ ubw_110)
  obtain ⟨c3, iS3, hKn3⟩ := u_known (C := urR_Pr) (T := urF_Pr) (N := 7) (n := 7) hts uri_Pr (hts _ ubw_124)
  obtain ⟨c4, iS4, hKn4⟩ := u_known (C := rfR_Md) (T := rfF_Md) (N := 25) (n := 25) hts rfi_Md (hts _ ubw_398)
  obtain ⟨dC, dI, hKc⟩ : ∃ (dC : Nat → ClassId) (dI : Nat → Nat → Nat), ∀ (k : Nat) (q : vw_C), ub_cl[k]? = some q → u_Kn s q.1 q.2.1 q.2.2 (dC k) (dI k) := by
    refine ⟨fun k => if k = 0 then c0 else if k = 1 then c1 else if k = 2 then c2 else if k = 3 then c3 else c4, fun k => if k = 0 then iS0 else if k = 1 then iS1 else if k = 2 then iS2 else if k = 3 then iS3 else iS4, ?_⟩
    intro k q hq
    match k, hq with
    | 0, hq => cases hq; exact hKn0
    | 1, hq => cases hq; exact hKn1
    | 2, hq => cases hq; exact hKn2
    | 3, hq => cases hq; exact hKn3
    | 4, hq => cases hq; exact hKn4
    | k + 5, hq => simp [ub_cl] at hq
  obtain ⟨cI, kI, compI, i1, i2, i3⟩ := Cond.arrayClass_spec (hts _ ubw_108)
  obtain ⟨cZ, kZ, compZ, z1, z2, z3⟩ := Cond.arrayClass_spec (hts _ ubw_159)
  have hO : ub_O s := (hts0 (Cond.arrayOver (.array .int)) (List.mem_of_getElem? (i := 56) (by decide +kernel)) : (Cond.arrayOver (.array .int)).before #[Value.ref b] s = true)
  obtain ⟨compG, cG, kG, g3, -, g1, g2, g4⟩ := arrayOverA_spec (ub_O.use (A := #[Value.ref b]) hO)
  obtain ⟨k, hk⟩ : ∃ k : Nat → ClassId, k = fun j => if j = 0 then cI else if j = 1 then cZ else cG := ⟨_, rfl⟩
  have hK : ub_K (dC, dI) k s := by
    refine ⟨hKc, fun j q hq => ?_⟩
    subst hk
    match j, hq with
    | 0, hq => cases hq; exact ⟨fun N z => ⟨(fun q hq => by cases hq), kI, i2, compI, i3⟩, i1⟩
    | 1, hq => cases hq; exact ⟨fun N z => ⟨(fun q hq => by cases hq), kZ, z2, compZ, z3⟩, z1⟩
    | 2, hq => cases hq; exact ⟨fun N z => ⟨(fun q hq => by cases hq), kG, g1, compG, g2⟩, g4⟩
    | j + 3, hq => simp at hq
  have hS : va_S (fun q : Nat => s.heap.size ≤ q) s.heap s.heap [] := va_S.rf
  have hP : lyP (dC, dI) s.heap.size [] s.heap := ⟨rfl, fun k q h => by simp [ly] at h⟩
  obtain ⟨v, hv⟩ : ∃ v : Int32, v = if 0 < L then xs 0 else 0 := ⟨_, rfl⟩
  have hl := lv_entry ([.ref b]) (n := 4) (Nat.le_of_ble_eq_true rfl)
  rw [lg_entry_eq]
  generalize (lg_sl ([.ref b]) ++ List.replicate (4 - (lg_sl ([.ref b])).length) Slot.unset).toArray = ls at hl ⊢
  have hl : lv_has ls 4 [(0, .ref b)] := hl
  have hXk : ∀ {H : Heap} {locs : List Loc}, va_S (fun q : Nat => s.heap.size ≤ q) s.heap H locs → ∀ U : State, U.heap = H → s.WarmedH U.vm → va_X b L xs U U.heap ∧ b < U.heap.size := fun {H} {locs} hS U hU hW => by
    refine ⟨?_, by rw [hU]; exact Nat.lt_of_lt_of_le hbl hS.1⟩
    rw [hU]
    exact (hX.kept (hS.2.1 b hbl hbA)).moved hW.alike
  have hbl2 : FrameBlind (va_Pc [.ref b, .int 0] (fun U => va_X b L xs U U.heap ∧ b < U.heap.size)) := fun v U g mk q => by
    obtain ⟨q0, q1, q2⟩ := q
    exact ⟨q0, q1.moved (u := U) (U := U.calling g mk v) (Vm.Alike.refl U.vm), q2⟩
  refine ly_new (ci := 0) (fs := [.int 0, .null, .null, .null, .int 0, .int 0]) (C := urR_Rb) (T := urF_Rb) (N := 6) hx hb hts uri_Rb urt_Rb urto_Rb hown (hts _ ubw_35) (hts _ ubw_36) (hts _ ubw_29) hK hP hS rfl (by decide) (Nat.le_of_ble_eq_true rfl) (Nat.le_of_ble_eq_true rfl) dlw_0 (fun H hP hS => ?_)
  have hP : lyP (dC, dI) s.heap.size [.inr (0, [.int 0, .null, .null, .null, .int 0, .int 0])] H := hP
  refine W.eq (g2 := F0 m 3 ls [.ref s.heap.size]) rfl ?_
  refine W.widen (k := 1) (n := 6) (by decide) (by decide) ?_
  refine lv_dup hx hb dlw_3 rfl ?_
  refine lv_aload_n hx hb dlw_4 rfl (lv_at hl 0 rfl) ?_
  refine lv_iconst (v := 0) hx hb dlw_5 (by decide) ?_
  refine lw_cell (Pc := va_Pc [.ref b, .int 0] (fun U => va_X b L xs U U.heap ∧ b < U.heap.size)) (v := v) (va_runS (As := [.ref b, .int 0]) (rest := [.ref s.heap.size, .ref s.heap.size]) ⟨hx, hb, hml, hown, hts⟩ (clw_cell l b L xs hL) (lwc_cell hts ⟨by decide, by decide⟩) ⟨hbl2, fun U hU hW => ⟨rfl, hXk hS U hU hW⟩⟩ rfl rfl hl.1 rfl (lv_room (Nat.le_of_ble_eq_true rfl)) dlw_6 ⟨by decide, by decide⟩) (fun st o t hq => ⟨by rw [hv]; exact hq.1, hq.2⟩) ?_
  refine va_callv (va_runI (As := [.int v]) (rest := [.ref s.heap.size]) ⟨hx, hb, hml, hown, hts⟩ (cur_Rb_init l (dC, dI) k s.heap.size v) (urc_UpdateRobotLaw_15 hts ⟨by decide, by decide⟩) ⟨ly_blind, fun U hU hW => ⟨rfl, by rw [hU]; exact hP, va_K.moved hW.alike hK, ub_O.moved hW.alike hO⟩⟩ rfl rfl hl.1 rfl (lv_room (Nat.le_of_ble_eq_true rfl)) dlw_9 ⟨by decide, by decide⟩) hS (fun q _ h => h) (fun q h => h) (fun u t H1 locs ht hvm hw hB hz1 hk1 hS => ?_)
  have hP : lyP (dC, dI) s.heap.size (ur_es_Rb k s.heap.size v) H1 := by rw [← ht]; exact hB.1
  generalize H1 = H at hP hS ⊢
  refine W.eq (g2 := F0 m 12 ls [.ref s.heap.size]) rfl ?_
  refine W.widen (k := 119) (n := 1551) (by decide) (by decide) ?_
  refine lv_astore_n (lv' := [(1, .ref s.heap.size), (0, .ref b)]) hx hb dlw_12 rfl hl (by decide) rfl (fun ls hl => ?_)
  refine ly_new (ci := 4) (fs := [.int 0, .int 0, .int 0, .int 0, .int 0, .int 0, .null, .null, .null, .null, .null, .null, .null, .null, .null, .null, .null, .null, .int 0, .null, .null, .null, .null, .null, .null]) (C := rfR_Md) (T := rfF_Md) (N := 25) hx hb hts rfi_Md rft_Md rfto_Md hown (hts _ ubw_397) (hts _ ubw_398) (hts _ ubw_34) hK hP hS rfl (by decide) (Nat.le_of_ble_eq_true rfl) (Nat.le_of_ble_eq_true rfl) dlw_13 (fun H hP hS => ?_)
  refine W.eq (g2 := F0 m 16 ls [.ref (s.heap.size + 119)]) rfl ?_
  refine W.widen (k := 120) (n := 1576) (by decide) (by decide) ?_
  refine lv_dup hx hb dlw_16 rfl ?_
  refine lv_aload_n hx hb dlw_17 rfl (lv_at hl 1 rfl) ?_
  refine lv_iconst (v := 0) hx hb dlw_18 (by decide) ?_
  refine lw_cell (Pc := va_Pc [.ref b, .int 0] (fun U => va_X b L xs U U.heap ∧ b < U.heap.size)) (v := v) (va_runS (As := [.ref b, .int 0]) (rest := [.ref (s.heap.size + 119), .ref (s.heap.size + 119)]) ⟨hx, hb, hml, hown, hts⟩ (clw_cell l b L xs hL) (lwc_cell hts ⟨by decide, by decide⟩) ⟨hbl2, fun U hU hW => ⟨rfl, hXk hS U hU hW⟩⟩ rfl rfl hl.1 rfl (lv_room (Nat.le_of_ble_eq_true rfl)) dlw_19 ⟨by decide, by decide⟩) (fun st o t hq => ⟨by rw [hv]; exact hq.1, hq.2⟩) ?_
  have hPc : lyP (dC, dI) (s.heap.size + 119) [.inr (4, [.int 0, .int 0, .int 0, .int 0, .int 0, .int 0, .null, .null, .null, .null, .null, .null, .null, .null, .null, .null, .null, .null, .int 0, .null, .null, .null, .null, .null, .null])] H := lyP_part (es := ur_es_Rb k s.heap.size v) hP
  refine va_callv (va_runI (As := [.int v]) (rest := [.ref (s.heap.size + 119)]) ⟨hx, hb, hml, hown, hts⟩ (crf_Md_init l (dC, dI) k (s.heap.size + 119) v) (rfc_UpdateRobotLaw_20 hts ⟨by decide, by decide⟩) ⟨ly_blind, fun U hU hW => ⟨rfl, by rw [hU]; exact hPc, va_K.moved hW.alike hK, ub_O.moved hW.alike hO⟩⟩ rfl rfl hl.1 rfl (lv_room (Nat.le_of_ble_eq_true rfl)) dlw_22 ⟨by decide, by decide⟩) hS (fun q _ h => Nat.le_trans (Nat.le_add_right _ _) h) (fun q h => Nat.le_trans (Nat.le_add_right _ _) h) (fun u t H1 locs ht hvm hw hB hz1 hk1 hS => ?_)
  have hP1 : lyP (dC, dI) (s.heap.size + 119) (rf_es_Md k (s.heap.size + 119) v) H1 := by rw [← ht]; exact hB.1
  have hP := lyP_join (es := ur_es_Rb k s.heap.size v) hP hP1 hk1
  generalize H1 = H at hP hS hP1 ⊢
  refine W.eq (g2 := F0 m 25 ls [.ref (s.heap.size + 119)]) rfl ?_
  refine W.widen (k := 138) (n := 2992) (by decide) (by decide) ?_
  refine lv_astore_n (lv' := [(2, .ref (s.heap.size + 119)), (1, .ref s.heap.size), (0, .ref b)]) hx hb dlw_25 rfl hl (by decide) rfl (fun ls hl => ?_)
  refine lv_iconst (v := 1) hx hb dlw_26 (by decide) ?_
  refine lv_istore_n (lv' := [(3, .int 1), (2, .ref (s.heap.size + 119)), (1, .ref s.heap.size), (0, .ref b)]) hx hb dlw_27 rfl hl (by decide) rfl (fun ls hl => ?_)
  have hU : ur_P (dC, dI) (ur_a s.heap.size) k (ur_s0 v) H := ur_of_ly (by
    have h2 := hP.2
    rw [ly_app] at h2
    intro i q hi
    exact h2 i q (by rw [List.getElem?_append_left (List.getElem?_eq_some_iff.mp hi).1]; exact hi))
  have hR : rf_P (dC, dI) (rf_a s.heap.size) k (rf_s0 v) H := rf_of_ly hP1.2
  exact lw_loop hL C0 hK (lw_ads s.heap.size) I hI (L + 5) 1 1 rfl (by omega) (by omega) (by omega) (ur_s0 v) (rf_s0 v) (hI0 v) H locs hU hR hS ls (lv_sub hl [3, 2, 1, 0] rfl)

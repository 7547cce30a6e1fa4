variable {X : Nat → Prop}
/-- what a solving leaves to be raised -/
def mu (f : Nat → Int32) : Nat → Nat
  | 0 => 0
  | n + 1 => mu f n + (7 - (f n).toNatClampNeg)
theorem mu_le (f : Nat → Int32) : ∀ n, mu f n ≤ 7 * n
  | 0 => Nat.le_refl 0
  | n + 1 => by
    have := mu_le f n
    show mu f n + (7 - (f n).toNatClampNeg) ≤ 7 * (n + 1)
    omega
theorem mu_lo {f : Nat → Int32} {o : Nat} {x : Int32} : ∀ n, n ≤ o → mu (upd f o x) n = mu f n
  | 0, _ => rfl
  | n + 1, h => by
    show mu (upd f o x) n + (7 - (upd f o x n).toNatClampNeg) = mu f n + (7 - (f n).toNatClampNeg)
    rw [mu_lo n (by omega)]
    unfold upd
    rw [if_neg (by omega)]
theorem mu_hi {f : Nat → Int32} {o l s : Nat} (hs : s < l) (hl : l ≤ 7) (e : f o = nI s) : ∀ n, o < n → mu (upd f o (nI l)) n < mu f n
  | 0, h => absurd h (by omega)
  | n + 1, h => by
    show mu (upd f o (nI l)) n + (7 - (upd f o (nI l) n).toNatClampNeg) < mu f n + (7 - (f n).toNatClampNeg)
    by_cases q : n = o
    · subst q
      rw [mu_lo n (Nat.le_refl n), e]
      unfold upd
      rw [if_pos rfl, cl_nI (by omega), cl_nI (by omega)]
      omega
    · have := mu_hi hs hl e n (by omega)
      have e2 : upd f o (nI l) n = f n := by
        unfold upd
        rw [if_neg q]
      rw [e2]
      omega
/-- the rows of what is raised: the class keeps them, the reference tells them -/
def Rz (c : Nat) (σ τ : ST) : Prop := (∀ n, c ≤ n → n < 12 → σ 9 n = -1) ∧ ∀ n, n < c → rff_Md_raised τ (nI n) = some (σ 9 n) ∧ (σ 9 n = -1 ∨ ∃ t h v : Nat, σ 9 n = nI t ∧ σ 2 n = nI h ∧ σ 1 n = nI (v + 1) ∧ h < t ∧ t ≤ v ∧ v ≤ 7)
theorem keep_tail {c : Nat} : ∀ (n j : Nat) (σ : ST) (a : Int32), σ 111 3 = nI c → c ≤ j → j ≤ 12 → 12 - j < n → ∃ σ1 : ST, url_So_keepRaised_4 n σ a (nI j) = some (a, σ1) ∧ (∀ i, i ≠ 9 → σ1 i = σ i) ∧ (∀ i, i < j → σ1 9 i = σ 9 i) ∧ ∀ i, j ≤ i → i < 12 → σ1 9 i = -1 := by
  intro n
  induction n with
  | zero => intro j σ a h0 h1 h2 h3; omega
  | succ n ih =>
    intro j σ a h0 h1 h2 h3
    rw [url_So_keepRaised_4]
    by_cases e : j = 12
    · subst e
      have z : (12 : Int32) ≤ nI 12 := by decide
      rw [if_pos z]
      exact ⟨σ, rfl, fun _ _ => rfl, fun _ _ => rfl, fun i q1 q2 => by omega⟩
    · have z : ¬ (12 : Int32) ≤ nI j := nI_ge (b := 12) (by omega) (by decide)
      have h0' : (wr σ 9 j (-1)) 111 3 = nI c := h0
      have z2 : nI c ≤ nI j := nI_le h1 (by omega)
      obtain ⟨σ1, q1, q2, q3, q4⟩ := ih (j + 1) (wr σ 9 j (-1)) a h0 (by omega) (by omega) (by omega)
      simp only [if_neg z, if_pos (in_nI (show j < 12 by omega) (by decide)), cl_nI (show j < 2 ^ 31 by omega), h0, if_pos z2, nI_1]
      refine ⟨σ1, q1, fun i hi => (q2 i hi).trans (wr_ne hi), fun i hi => (q3 i (by omega)).trans ?_, fun i q5 q6 => ?_⟩
      · rw [wr_at, if_pos rfl, if_neg (by omega)]
      · by_cases q7 : i = j
        · subst q7
          rw [q3 i (by omega)]
          exact wr_eq _ _ _ _
        · exact q4 i (by omega) q6
theorem keep_eq {c m : Nat} {τ : ST} (hc : c ≤ 12) (x : Int32) : ∀ (d j n n' a : Nat) (σ : ST), j + d = c → 13 - j ≤ n → d < n' → Wf X c m σ → Rl c σ τ → Tp c σ τ → ∃ (k : Nat) (σ1 : ST), url_So_keepRaised_4 n σ (nI a) (nI j) = some (nI k, σ1) ∧ rfl_Md_find_127 n' τ x (nI a) (nI j) = some (nI k, τ) ∧ k ≤ a + d ∧ (∀ i, i ≠ 9 → σ1 i = σ i) ∧ (∀ i, i < j → σ1 9 i = σ 9 i) ∧ (∀ i, c ≤ i → i < 12 → σ1 9 i = -1) ∧ ∀ i, j ≤ i → i < c → σ1 9 i = if σ 2 i < σ 8 i then σ 8 i else -1 := by
  intro d
  induction d with
  | zero =>
    intro j n n' a σ h1 h2 h3 w r ht
    have hj : j = c := by omega
    subst hj
    obtain ⟨σ1, q1, q2, q3, q4⟩ := keep_tail n j σ (nI a) w.cn (Nat.le_refl j) hc (by omega)
    obtain ⟨n'', rfl⟩ : ∃ z, n' = z + 1 := ⟨n' - 1, by omega⟩
    refine ⟨a, σ1, q1, ?_, by omega, q2, q3, q4, fun i q5 q6 => by omega⟩
    rw [rfl_Md_find_127, r.t3, if_pos (Int32.le_refl (nI j))]
  | succ d ih =>
    intro j n n' a σ h1 h2 h3 w r ht
    have hj : j < c := by omega
    obtain ⟨n1, rfl⟩ : ∃ z, n = z + 1 := ⟨n - 1, by omega⟩
    obtain ⟨n2, rfl⟩ : ∃ z, n' = z + 1 := ⟨n' - 1, by omega⟩
    obtain ⟨t, h, v, e1, e2, e3, e4, e5, g1, g2, g3⟩ := ht j hj
    have z : ¬ (12 : Int32) ≤ nI j := nI_ge (b := 12) (by omega) (by decide)
    have z2 : ¬ nI c ≤ nI j := nI_ge hj (by omega)
    have p1 : (wr σ 9 j (-1)) 111 3 = nI c := w.cn
    have p2 : (wr σ 9 j (-1)) 8 j = nI t := e1
    have p3 : (wr σ 9 j (-1)) 2 j = nI h := e3
    rw [url_So_keepRaised_4, rfl_Md_find_127]
    simp only [if_neg z, if_pos (in_nI (show j < 12 by omega) (by decide)), cl_nI (show j < 2 ^ 31 by omega), p1, p2, p3, r.t3, if_neg z2, nI_1, ← r.a2, e2, e3, Int32.add_zero, w.cn, e1]
    by_cases q : t ≤ h
    · have b1 : nI t ≤ nI h := nI_le q (by omega)
      simp only [if_pos b1]
      obtain ⟨k, σ1, k1, k2, k3, k4, k5, k6, k7⟩ := ih (j + 1) n1 n2 a (wr σ 9 j (-1)) (by omega) (by omega) (by omega) (w.w9 j _) (r.w9 j _) ht
      refine ⟨k, σ1, k1, k2, by omega, fun i hi => (k4 i hi).trans (wr_ne hi), fun i hi => (k5 i (by omega)).trans ?_, k6, fun i q1 q2 => ?_⟩
      · rw [wr_at, if_pos rfl, if_neg (by omega)]
      · by_cases q3 : i = j
        · subst q3
          rw [k5 i (by omega), e1, e3, if_neg (Int32.not_lt.mpr b1)]
          exact wr_eq _ _ _ _
        · exact k7 i (by omega) q2
    · have b1 : ¬ nI t ≤ nI h := nI_ge (by omega) (by omega)
      simp only [if_neg b1]
      obtain ⟨k, σ1, k1, k2, k3, k4, k5, k6, k7⟩ := ih (j + 1) n1 n2 (a + 1) (wr (wr σ 9 j (-1)) 9 j (nI t)) (by omega) (by omega) (by omega) ((w.w9 j _).w9 j _) ((r.w9 j _).w9 j _) ht
      refine ⟨k, σ1, k1, k2, by omega, fun i hi => (k4 i hi).trans ((wr_ne hi).trans (wr_ne hi)), fun i hi => (k5 i (by omega)).trans ?_, k6, fun i q1 q2 => ?_⟩
      · rw [wr_at, if_pos rfl, if_neg (by omega), wr_at, if_pos rfl, if_neg (by omega)]
      · by_cases q3 : i = j
        · subst q3
          rw [k5 i (by omega), e1, e3, if_pos (Int32.not_le.mp b1)]
          exact wr_eq _ _ _ _
        · exact k7 i (by omega) q2
/-- what a solving answers, and leaves -/
def Sol (c : Nat) (σ τ : ST) (z : Int32) (σ1 : ST) (z' : Int32) (τ1 : ST) : Prop := kU σ σ1 ∧ kR τ τ1 ∧ ((∃ o : Nat, o < c ∧ z = -2 - nI o ∧ z' = -1 ∧ τ1 18 6 = nI o) ∨ ∃ k : Nat, k ≤ 12 ∧ z = nI k ∧ z' = nI k ∧ Rz c σ1 τ1)
theorem keep_end {c m : Nat} {σ τ : ST} (w : Wf X c m σ) (r : Rl c σ τ) (ht : Tp c σ τ) (x : Int32) : ∃ (k : Nat) (σ1 : ST), urf_So_keepRaised σ = some (nI k, σ1) ∧ rfl_Md_find_127 200 τ x 0 0 = some (nI k, τ) ∧ k ≤ 12 ∧ kU σ σ1 ∧ Rz c σ1 τ := by
  have hc := w.c12
  obtain ⟨k, σ1, k1, k2, k3, k4, k5, k6, k7⟩ := keep_eq hc x c 0 200 200 0 σ (by omega) (by omega) (by omega) w r ht
  refine ⟨k, σ1, k1, k2, by omega, fun i _ h2 => k4 i h2, k6, fun n hn => ?_⟩
  obtain ⟨t, h, v, e1, e2, e3, e4, e5, g1, g2, g3⟩ := ht n hn
  rw [k7 n (by omega) hn, e1, e3]
  unfold rff_Md_raised
  simp only [if_pos (in_nI (show n < 12 by omega) (by decide)), cl_nI (show n < 2 ^ 31 by omega), ← r.a2, e2, e3]
  by_cases q : t ≤ h
  · have b1 : nI t ≤ nI h := nI_le q (by omega)
    rw [if_pos b1, if_neg (Int32.not_lt.mpr b1)]
    exact ⟨rfl, Or.inl rfl⟩
  · have b1 : ¬ nI t ≤ nI h := nI_ge (by omega) (by omega)
    rw [if_neg b1, if_pos (Int32.not_le.mp b1)]
    refine ⟨rfl, Or.inr ⟨t, h, v, rfl, ?_, ?_, by omega, g2, g3⟩⟩
    · rw [k4 2 (by omega)]
      exact e3
    · rw [k4 1 (by omega)]
      exact e4
theorem loop_eq {c m : Nat} (x : Int32) : ∀ (M q n n' : Nat) (σ τ : ST), mu (σ 8) c ≤ M → q + M ≤ 95 → M < n → M < n' → Wf X c m σ → Rl c σ τ → Tp c σ τ → ∃ (z z' : Int32) (σ1 τ1 : ST), url_So_solveUnit_8 n σ x (nI q) = some (z, σ1) ∧ Option.bind (rff_Md_wanting τ) (fun y => rfl_Md_find_50 n' τ x y) = some (z', τ1) ∧ Sol c σ τ z σ1 z' τ1 := by
  intro M
  induction M with
  | zero =>
    intro q n n' σ τ hM hq hn hn' w r ht
    have hc := w.c12
    obtain ⟨n1, rfl⟩ : ∃ z, n = z + 1 := ⟨n - 1, by omega⟩
    obtain ⟨n2, rfl⟩ : ∃ z, n' = z + 1 := ⟨n' - 1, by omega⟩
    obtain ⟨y, y1, y2, y3⟩ := needy_eq w r ht 200 0 (by omega) (by omega)
    have y1 : urf_So_firstNeedy σ = some y := y1
    have y2 : rff_Md_wanting τ = some y := y2
    have z96 : ¬ (96 : Int32) ≤ nI q := nI_ge (b := 96) (by omega) (by decide)
    rw [url_So_solveUnit_8, y2]
    simp only [if_neg z96, y1, ob_s]
    rw [rfl_Md_find_50]
    rcases y3 with y3 | ⟨a, t, o, l, s, b1, b2, b3, b4, b5, b6, b7, b8, b9, b10⟩
    · subst y3
      obtain ⟨k, σ1, k1, k2, k3, k4, k5⟩ := keep_end w r ht x
      simp only [if_pos, k1, k2, ob_s]
      exact ⟨_, _, _, _, rfl, rfl, k4, kR.rf τ, Or.inr ⟨k, k3, rfl, rfl, k5⟩⟩
    · have := mu_hi b10 b8 b9 c b6
      omega
  | succ M ih =>
    intro q n n' σ τ hM hq hn hn' w r ht
    have hc := w.c12
    obtain ⟨n1, rfl⟩ : ∃ z, n = z + 1 := ⟨n - 1, by omega⟩
    obtain ⟨n2, rfl⟩ : ∃ z, n' = z + 1 := ⟨n' - 1, by omega⟩
    obtain ⟨y, y1, y2, y3⟩ := needy_eq w r ht 200 0 (by omega) (by omega)
    have y1 : urf_So_firstNeedy σ = some y := y1
    have y2 : rff_Md_wanting τ = some y := y2
    have z96 : ¬ (96 : Int32) ≤ nI q := nI_ge (b := 96) (by omega) (by decide)
    rw [url_So_solveUnit_8, y2]
    simp only [if_neg z96, y1, ob_s]
    rw [rfl_Md_find_50]
    rcases y3 with y3 | ⟨a, t, o, l, s, b1, b2, b3, b4, b5, b6, b7, b8, b9, b10⟩
    · subst y3
      obtain ⟨k, σ1, k1, k2, k3, k4, k5⟩ := keep_end w r ht x
      simp only [if_pos, k1, k2, ob_s]
      exact ⟨_, _, _, _, rfl, rfl, k4, kR.rf τ, Or.inr ⟨k, k3, rfl, rfl, k5⟩⟩
    · subst b1
      obtain ⟨t', h', v', e1, e2, e3, e4, e5, g1, g2, g3⟩ := ht a b2
      have et : τ 11 a = nI t := by rw [e2, ← e1, b3]
      obtain ⟨so, ho, vo, o1, o2, o3, o4, o5, o6, o7, o8⟩ := ht o b6
      have es : so = s := by
        rw [b9] at o1
        have hs : s < 2 ^ 31 := by omega
        have hso : so < 2 ^ 31 := by omega
        exact ((nI_eq hs hso).mp o1).symm
      subst es
      obtain ⟨f, hf⟩ := far_ex σ o (show ho ≤ vo by omega)
      have e8 : (8 : Int32) * nI a + nI t = nI (8 * a + t) := by rw [show (8 : Int32) * nI a = nI (8 * a) from pk_mul 8 a, nI_add]
      simp only [if_neg (m1_ne (show a < 2 ^ 31 by omega)), if_pos (in_nI (show a < 12 by omega) (by decide)), cl_nI (show a < 2 ^ 31 by omega), b3, et, e8, cl_nI (show t < 2 ^ 31 by omega), cl_nI (show 8 * a + t < 2 ^ 31 by omega), if_pos (in_nI (show t < 8 by omega) (by decide)), if_pos (in_nI (show 8 * a + t < 96 by omega) (by decide)), b5, b7, ← r.k26 a t (by omega) (by omega), ← r.k38 a t (by omega) (by omega), ur_far w b6 o8 o3 o4 hf, rf_al r (show o < 12 by omega) o8 o3 o5 hf (show ho ≤ l by omega) (show l ≤ 100 by omega), ob_s, cl_nI (show o < 2 ^ 31 by omega), if_pos (in_nI (show o < 12 by omega) (by decide)), nI_1]
      have f2 := hf.2.1
      by_cases p : l ≤ f
      · simp only [if_pos p, if_pos (nI_le p (show f < 2 ^ 31 by omega)), if_neg one_ne]
        have ht' : Tp c (wr σ 8 o (nI l)) (wr τ 11 o (nI l)) := by
          intro i hi
          by_cases ei : i = o
          · subst ei
            exact ⟨l, ho, vo, wr_eq _ _ _ _, wr_eq _ _ _ _, o3, o4, o5, by omega, by omega, o8⟩
          · obtain ⟨t2, h2, v2, q1, q2, q3⟩ := ht i hi
            refine ⟨t2, h2, v2, ?_, ?_, q3⟩
            · rw [wr_at, if_pos rfl, if_neg ei]
              exact q1
            · rw [wr_at, if_pos rfl, if_neg ei]
              exact q2
        have hmu : mu ((wr σ 8 o (nI l)) 8) c ≤ M := by
          rw [wr_row]
          have := mu_hi b10 b8 b9 c b6
          omega
        obtain ⟨z, z', σ1, τ1, k1, k2, k3, k4, k5⟩ := ih (q + 1) n1 n2 (wr σ 8 o (nI l)) (wr τ 11 o (nI l)) hmu (by omega) (by omega) (by omega) (w.w8 o _) ((r.w8 o _).t11 o _) ht'
        exact ⟨z, z', σ1, τ1, k1, k2, (kU.w8 σ o _).tr k3, (kR.w11 τ o _).tr k4, k5⟩
      · simp only [if_neg p, if_neg (nI_ge (show f < l by omega) (show l < 2 ^ 31 by omega)), if_pos]
        exact ⟨_, _, _, _, rfl, rfl, kU.rf σ, kR.w6 τ _, Or.inl ⟨o, b6, rfl, rfl, wr_eq _ _ _ _⟩⟩
/-- THE SOLVING of a chief's unit: both alike -/
theorem solve_eq {c m ch : Nat} {σ τ : ST} (w : Wf X c m σ) (r : Rl c σ τ) (hch : ch < c) (hc : isCh σ ch ch) : ∃ (z z' : Int32) (σ1 τ1 : ST), urf_So_solveUnit σ (nI ch) = some (z, σ1) ∧ rff_Md_find τ (nI ch) = some (z', τ1) ∧ Sol c σ τ z σ1 z' τ1 := by
  have h12 := w.c12
  obtain ⟨σ1, τ1, q1, q2, q3, q4, q5⟩ := setOut_eq hch 200 0 σ τ w r hc (fun n hn => by omega) (by omega) (by omega)
  have hmu := mu_le (σ1 8) c
  obtain ⟨z, z', σ2, τ2, k1, k2, k3, k4, k5⟩ := loop_eq (nI ch) 84 0 200 200 σ1 τ1 (by omega) (by omega) (by omega) (by omega) (w.k q3) (r.k q3 q4) q5
  refine ⟨z, z', σ2, τ2, ?_, q2.trans k2, q3.tr k3, q4.tr k4, k5⟩
  unfold urf_So_solveUnit urf_So_setOut
  have q1 : url_So_setOut_2 200 σ (nI ch) 0 = some σ1 := q1
  rw [q1]
  exact k1
theorem st_solve (σ τ : ST) (x1 : Int32) (h : Iv σ τ) : ∃ (r : Int32) (σ1 τ1 : ST), urf_Rb_solve σ x1 = some (r, σ1) ∧ rff_Md_solve τ x1 = some (r, τ1) ∧ Iv σ1 τ1 := by
  obtain ⟨c, m, w, r⟩ := h
  have h3 : (wr τ 18 1 0) 18 3 = nI c := r.t3
  have hc := w.c12
  have no : ∃ (r : Int32) (σ1 τ1 : ST), some ((-1 : Int32), σ) = some (r, σ1) ∧ some ((-1 : Int32), wr τ 18 1 0) = some (r, τ1) ∧ Iv σ1 τ1 := ⟨-1, _, _, rfl, rfl, c, m, w, r.code⟩
  unfold urf_Rb_solve rff_Md_solve
  rcases cs_ix x1 (n := c) (by omega) with hx | ⟨n, hn, rfl⟩
  · have e : urf_Nm_isChief σ x1 = some 0 := by
      unfold urf_Nm_isChief
      rw [kn0 w.cn hx]
      rfl
    rw [e, km0 h3 hx]
    exact no
  · obtain ⟨k, hk⟩ := ch_ex σ n
    have hk1 := hk.1
    by_cases e : k = n
    · subst e
      obtain ⟨z, z', σ1, τ1, q1, q2, q3, q4, q5⟩ := solve_eq w r.code hn hk
      rw [ur_isch w hn hk, km1 h3 (by omega) hn]
      simp only [ob_s, if_neg one_ne, rf_ch r.code (show k < 12 by omega) hk, if_pos, q1, q2]
      rcases q5 with ⟨o, o1, o2, o3, o4⟩ | ⟨j, j1, j2, j3, j4⟩
      · subst o2
        subst o3
        simp only [if_pos, o4]
        exact ⟨_, _, _, rfl, rfl, c, m, w.k q3, r.code.k q3 q4⟩
      · subst j2
        subst j3
        simp only [if_neg (m1_ne (show j < 2 ^ 31 by omega))]
        exact ⟨_, _, _, rfl, rfl, c, m, w.k q3, r.code.k q3 q4⟩
    · rw [ur_noch w hn hk e, km1 h3 (by omega) hn]
      have ne : ¬ nI k = nI n := fun q => e ((nI_eq (by omega) (by omega)).mp q)
      simp only [ob_s, if_neg one_ne, rf_ch r.code (show n < 12 by omega) hk, if_neg ne, if_pos]
      exact no

variable {X : Nat → Prop}
/-! hit, due -/
def hitP (σ : ST) (i : Nat) : Prop := ¬ σ 6 i = -1 ∧ ¬ σ 6 i < σ 2 i
theorem hit_same {c : Nat} {σ τ : ST} (r : Rl c σ τ) (x : Int32) : rff_Md_isHit τ x = urf_Nm_isHit σ x := by
  unfold urf_Nm_isHit rff_Md_isHit
  rw [r.a6, r.a2]
theorem hit1 {σ : ST} {i : Nat} (hi : i < 12) (h : hitP σ i) : urf_Nm_isHit σ (nI i) = some 1 := by
  unfold urf_Nm_isHit
  simp only [if_pos (in_nI hi (by decide)), cl_nI (show i < 2 ^ 31 by omega), if_neg h.1, if_neg h.2]
theorem hit0 {σ : ST} {i : Nat} (hi : i < 12) (h : ¬ hitP σ i) : urf_Nm_isHit σ (nI i) = some 0 := by
  unfold urf_Nm_isHit
  simp only [if_pos (in_nI hi (by decide)), cl_nI (show i < 2 ^ 31 by omega)]
  by_cases a : σ 6 i = -1
  · rw [if_pos a]
  · rw [if_neg a]
    by_cases b : σ 6 i < σ 2 i
    · rw [if_pos b]
    · exact absurd ⟨a, b⟩ h
theorem uh_one {c m ch : Nat} {σ τ : ST} (w : Wf X c m σ) (r : Rl c σ τ) : ∀ (n j : Nat), j ≤ c → c - j < n → rfl_Md_isUnitHit_4 τ n (nI ch) 1 (nI j) = some 1 := by
  have hc := w.c12
  intro n
  induction n with
  | zero => intro j h1 h2; omega
  | succ n ih =>
    intro j h1 h2
    rw [rfl_Md_isUnitHit_4, r.t3]
    by_cases e : j = c
    · subst e
      have z : (1 : Int32) = 0 ∨ (1 : Int32) = 1 := Or.inr rfl
      rw [if_pos (Int32.le_refl (nI j)), if_pos z]
    · simp only [if_neg (nI_ge (show j < c by omega) (by omega)), if_neg one_ne, nI_1]
      exact ih (j + 1) (by omega) (by omega)
theorem due_one {c m ch : Nat} {σ τ : ST} (w : Wf X c m σ) (r : Rl c σ τ) (hch : ch < c) : ∀ (n j : Nat) (L : Int32), j ≤ c → c - j < n → rfl_Md_isDue_23 τ n (nI ch) 1 L (nI j) = some 1 := by
  have hc := w.c12
  intro n
  induction n with
  | zero => intro j L h1 h2; omega
  | succ n ih =>
    intro j L h1 h2
    rw [rfl_Md_isDue_23, r.t3]
    by_cases e : j = c
    · subst e
      rw [if_pos (Int32.le_refl (nI j)), if_neg one_ne]
    · simp only [if_neg (nI_ge (show j < c by omega) (by omega)), if_pos (in_nI (show j < 12 by omega) (by decide)), cl_nI (show j < 2 ^ 31 by omega), if_neg one_ne, nI_1]
      by_cases a : on1 σ j ch
      · rw [rf_on r (show j < 12 by omega) (show ch < 12 by omega) a]
        simp only [ob_s, if_neg one_ne]
        by_cases b : L ≤ τ 4 j
        · rw [if_pos b]
          exact ih (j + 1) _ (by omega) (by omega)
        · rw [if_neg b]
          exact ih (j + 1) _ (by omega) (by omega)
      · rw [rf_no r (show j < 12 by omega) (show ch < 12 by omega) a]
        simp only [ob_s, if_pos]
        exact ih (j + 1) _ (by omega) (by omega)
theorem unit_eq {c m ch : Nat} {σ τ : ST} (w : Wf X c m σ) (r : Rl c σ τ) (hch : ch < c) (hc : isCh σ ch ch) : ∀ (n j : Nat) (L : Int32), j ≤ c → c - j < n → ∃ (b L' : Int32), (b = 0 ∨ b = 1) ∧ url_Nm_isUnitHit_2 σ n (nI ch) (nI j) = some b ∧ rfl_Md_isUnitHit_4 τ n (nI ch) 0 (nI j) = some b ∧ url_Nm_leastEvery_6 σ n (nI ch) L (nI j) = some L' ∧ rfl_Md_isDue_23 τ n (nI ch) 0 L (nI j) = some (if b = 0 then (if σ 111 1 - σ 7 ch < L' then 0 else 1) else 1) := by
  have h12 := w.c12
  intro n
  induction n with
  | zero => intro j L h1 h2; omega
  | succ n ih =>
    intro j L h1 h2
    rw [url_Nm_isUnitHit_2, rfl_Md_isUnitHit_4, url_Nm_leastEvery_6, rfl_Md_isDue_23, r.t3, w.cn]
    by_cases e : j = c
    · subst e
      have z : (0 : Int32) = 0 ∨ (0 : Int32) = 1 := Or.inl rfl
      refine ⟨0, L, Or.inl rfl, ?_, ?_, ?_, ?_⟩
      · rw [if_pos (Int32.le_refl (nI j))]
      · rw [if_pos (Int32.le_refl (nI j)), if_pos z]
      · rw [if_pos (Int32.le_refl (nI j))]
      · simp only [if_pos (Int32.le_refl (nI j)), if_pos, if_pos (in_nI (show ch < 12 by omega) (by decide)), cl_nI (show ch < 2 ^ 31 by omega), ← r.s1, ← r.a7]
        by_cases q : σ 111 1 - σ 7 ch < L
        · rw [if_pos q, if_pos q]
        · rw [if_neg q, if_neg q]
    · have hj : j < c := by omega
      obtain ⟨k, hk⟩ := ch_ex σ j
      have hk1 := hk.1
      simp only [if_neg (nI_ge hj (by omega)), if_pos (in_nI (show j < 12 by omega) (by decide)), cl_nI (show j < 2 ^ 31 by omega), nI_1, ur_ch w hj hk, ob_s, hit_same r, if_pos, ← r.a4]
      by_cases a : on1 σ j ch
      · have ek : k = ch := (ch_on hc hk).mpr a
        have el : (if σ 4 j < L then σ 4 j else L) = (if L ≤ σ 4 j then L else σ 4 j) := by
          by_cases q : L ≤ σ 4 j
          · rw [if_pos q, if_neg (Int32.not_lt.mpr q)]
          · rw [if_neg q, if_pos (Int32.not_le.mp q)]
        simp only [ek, if_pos, rf_on r (show j < 12 by omega) (show ch < 12 by omega) a, ob_s, if_neg one_ne, el]
        obtain ⟨b, L', q0, q1, q2, q3, q4⟩ := ih (j + 1) (if L ≤ σ 4 j then L else σ 4 j) (by omega) (by omega)
        by_cases p : hitP σ j
        · simp only [hit1 (show j < 12 by omega) p, ob_s, if_neg one_ne]
          refine ⟨1, L', Or.inr rfl, rfl, uh_one w r n (j + 1) (by omega) (by omega), q3, ?_⟩
          rw [if_neg one_ne]
          by_cases q : L ≤ σ 4 j
          · rw [if_pos q]
            exact due_one w r hch n (j + 1) _ (by omega) (by omega)
          · rw [if_neg q]
            exact due_one w r hch n (j + 1) _ (by omega) (by omega)
        · simp only [hit0 (show j < 12 by omega) p, ob_s, if_pos]
          refine ⟨b, L', q0, q1, q2, q3, ?_⟩
          by_cases q : L ≤ σ 4 j
          · rw [if_pos q] at q4 ⊢
            exact q4
          · rw [if_neg q] at q4 ⊢
            exact q4
      · have ne : ¬ nI k = nI ch := fun q => a ((ch_on hc hk).mp ((nI_eq (by omega) (by omega)).mp q))
        simp only [if_neg ne, rf_no r (show j < 12 by omega) (show ch < 12 by omega) a, ob_s, if_pos]
        obtain ⟨b, L', q0, q1, q2, q3, q4⟩ := ih (j + 1) L (by omega) (by omega)
        refine ⟨b, L', q0, ?_, q2, q3, q4⟩
        by_cases p : hitP σ j
        · simp only [hit1 (show j < 12 by omega) p, ob_s, if_neg one_ne]
          exact q1
        · simp only [hit0 (show j < 12 by omega) p, ob_s, if_pos]
          exact q1
theorem uhit_eq {c m ch : Nat} {σ τ : ST} (w : Wf X c m σ) (r : Rl c σ τ) (hch : ch < c) (hc : isCh σ ch ch) : ∃ b : Int32, (b = 0 ∨ b = 1) ∧ urf_Nm_isUnitHit σ (nI ch) = some b ∧ rff_Md_isUnitHit τ (nI ch) = some b := by
  have h12 := w.c12
  obtain ⟨b, L', q0, q1, q2, -, -⟩ := unit_eq w r hch hc 200 0 1000 (by omega) (by omega)
  exact ⟨b, q0, q1, q2⟩
theorem isDue_eq {c m ch : Nat} {σ τ : ST} (w : Wf X c m σ) (r : Rl c σ τ) (hch : ch < c) (hc : isCh σ ch ch) : ∃ b : Int32, urf_Rb_isDue σ (nI ch) = some b ∧ rff_Md_isDue τ (nI ch) = some b := by
  have h12 := w.c12
  obtain ⟨b, L', q0, q1, q2, q3, q4⟩ := unit_eq w r hch hc 200 0 1000 (by omega) (by omega)
  have q1 : urf_Nm_isUnitHit σ (nI ch) = some b := q1
  have q3 : urf_Nm_leastEvery σ (nI ch) = some L' := q3
  unfold urf_Rb_isDue rff_Md_isDue
  simp only [if_pos (in_nI (show ch < 12 by omega) (by decide)), cl_nI (show ch < 2 ^ 31 by omega), ← r.a7, q1, q3, ob_s]
  by_cases a : σ 7 ch = -1
  · simp only [if_pos a]
    exact ⟨1, rfl, due_one w r hch 200 0 1000 (by omega) (by omega)⟩
  · simp only [if_neg a]
    refine ⟨_, ?_, q4⟩
    rcases q0 with q | q
    · subst q
      simp only [if_pos]
      by_cases p : σ 111 1 - σ 7 ch < L'
      · rw [if_pos p, if_pos p]
      · rw [if_neg p, if_neg p]
    · subst q
      rw [if_neg one_ne, if_neg one_ne]
/-! the latest of a chief in a state -/
def Lt (σ : ST) (m : Nat) (x s : Int32) (q : Int32) : Prop := (q = -1 ∧ ∀ p, p < m → ¬ (σ 11 p = x ∧ σ 10 p = s)) ∨ ∃ p : Nat, p < m ∧ q = nI p ∧ (σ 11 p = x ∧ σ 10 p = s) ∧ ∀ p', p < p' → p' < m → ¬ (σ 11 p' = x ∧ σ 10 p' = s)
theorem lat_u {σ : ST} {m : Nat} (hm : m ≤ 60) (x s : Int32) : ∀ (n j : Nat), j ≤ m → j < n → (∀ p, j ≤ p → p < m → ¬ (σ 11 p = x ∧ σ 10 p = s)) → ∃ q : Int32, url_Pr_latestOf_7 σ n x s (nI j - 1) = some q ∧ Lt σ m x s q := by
  intro n
  induction n with
  | zero => intro j h1 h2; omega
  | succ n ih =>
    intro j h1 h2 h3
    rw [url_Pr_latestOf_7]
    cases j with
    | zero =>
      have z : nI 0 - 1 < 0 := by decide
      rw [if_pos z]
      exact ⟨-1, rfl, Or.inl ⟨rfl, fun p hp => h3 p (by omega) hp⟩⟩
    | succ p =>
      have e : nI p + (-1) = nI p - 1 := by rw [Int32.sub_eq_add_neg]
      rw [nI_pred]
      simp only [if_neg (nI_pos (show p < 2 ^ 31 by omega)), if_pos (in_nI (show p < 60 by omega) (by decide)), cl_nI (show p < 2 ^ 31 by omega), e]
      by_cases a : σ 11 p = x ∧ σ 10 p = s
      · rw [if_pos a.1, if_pos a.2]
        exact ⟨nI p, rfl, Or.inr ⟨p, by omega, rfl, a, fun p' q1 q2 => h3 p' (by omega) q2⟩⟩
      · have next := ih p (by omega) (by omega) (fun p' q1 q2 => by
          by_cases q : p' = p
          · rw [q]; exact a
          · exact h3 p' (by omega) q2)
        by_cases b : σ 11 p = x
        · rw [if_pos b, if_neg (fun q => a ⟨b, q⟩)]
          exact next
        · rw [if_neg b]
          exact next
theorem lat_r {c m : Nat} {σ τ : ST} (w : Wf X c m σ) (r : Rl c σ τ) (x s : Int32) : ∀ (n j : Nat) (q : Int32), j ≤ m → m - j < n → Lt σ j x s q → ∃ q' : Int32, rfl_Md_latest_5 τ n x s q (nI j) = some q' ∧ Lt σ m x s q' := by
  have hm := w.m60
  intro n
  induction n with
  | zero => intro j q h1 h2; omega
  | succ n ih =>
    intro j q h1 h2 h3
    rw [rfl_Md_latest_5, ← r.s4, w.mn, ← r.a10, ← r.a11]
    by_cases e : j = m
    · subst e
      rw [if_pos (Int32.le_refl (nI j))]
      exact ⟨q, rfl, h3⟩
    · simp only [if_neg (nI_ge (show j < m by omega) (by omega)), if_pos (in_nI (show j < 60 by omega) (by decide)), cl_nI (show j < 2 ^ 31 by omega), nI_1]
      by_cases a : σ 11 j = x ∧ σ 10 j = s
      · rw [if_pos a.1, if_pos a.2]
        exact ih (j + 1) (nI j) (by omega) (by omega) (Or.inr ⟨j, by omega, rfl, a, fun p' q1 q2 => by omega⟩)
      · have next := ih (j + 1) q (by omega) (by omega) (by
          rcases h3 with ⟨q1, q2⟩ | ⟨p, q1, q2, q3, q4⟩
          · refine Or.inl ⟨q1, fun p hp => ?_⟩
            by_cases z : p = j
            · rw [z]; exact a
            · exact q2 p (by omega)
          · refine Or.inr ⟨p, by omega, q2, q3, fun p' z1 z2 => ?_⟩
            by_cases z : p' = j
            · rw [z]; exact a
            · exact q4 p' z1 (by omega))
        by_cases b : σ 11 j = x
        · rw [if_pos b, if_neg (fun z => a ⟨b, z⟩)]
          exact next
        · rw [if_neg b]
          exact next
theorem lat_un {σ : ST} {m : Nat} {x s q q' : Int32} (h : Lt σ m x s q) (g : Lt σ m x s q') : q = q' := by
  rcases h with ⟨h1, h2⟩ | ⟨p, h1, h2, h3, h4⟩
  · rcases g with ⟨g1, g2⟩ | ⟨p', g1, g2, g3, g4⟩
    · rw [h1, g1]
    · exact absurd g3 (h2 p' g1)
  · rcases g with ⟨g1, g2⟩ | ⟨p', g1, g2, g3, g4⟩
    · exact absurd h3 (g2 p h1)
    · rcases Nat.lt_trichotomy p p' with z | z | z
      · exact absurd g3 (h4 p' z g1)
      · rw [h2, g2, z]
      · exact absurd h3 (g4 p z h1)
theorem lat_eq {c m : Nat} {σ τ : ST} (w : Wf X c m σ) (r : Rl c σ τ) (x s : Int32) : ∃ q : Int32, urf_Pr_latestOf σ x s = some q ∧ rff_Md_latest τ x s = some q ∧ (q = -1 ∨ ∃ p : Nat, p < m ∧ q = nI p ∧ σ 10 p = s) := by
  have hm := w.m60
  obtain ⟨q, q1, q2⟩ := lat_u hm x s 200 m (by omega) (by omega) (fun p h1 h2 => by omega)
  obtain ⟨q', q3, q4⟩ := lat_r w r x s 200 0 (-1) (by omega) (by omega) (Or.inl ⟨rfl, fun p hp => by omega⟩)
  have e := lat_un q2 q4
  subst e
  refine ⟨q, ?_, q3, ?_⟩
  · unfold urf_Pr_latestOf
    rw [w.mn]
    exact q1
  · rcases q2 with ⟨z, -⟩ | ⟨p, z1, z2, z3, -⟩
    · exact Or.inl z
    · exact Or.inr ⟨p, z1, z2, z3.2⟩
/-! the same targets -/
theorem same0 {c m : Nat} {σ τ : ST} (w : Wf X c m σ) (r : Rl c σ τ) (x : Int32) : ∀ (n j : Nat), j ≤ c → c - j < n → rfl_Md_isSame_4 τ n x 0 (nI j) = some 0 := by
  have hc := w.c12
  intro n
  induction n with
  | zero => intro j h1 h2; omega
  | succ n ih =>
    intro j h1 h2
    rw [rfl_Md_isSame_4, r.t3]
    by_cases e : j = c
    · subst e
      have z : (0 : Int32) = 0 ∨ (0 : Int32) = 1 := Or.inl rfl
      rw [if_pos (Int32.le_refl (nI j)), if_pos z]
    · simp only [if_neg (nI_ge (show j < c by omega) (by omega)), if_pos, nI_1]
      exact ih (j + 1) (by omega) (by omega)
theorem same_tail {c m p : Nat} {σ : ST} (w : Wf X c m σ) (hp : p < m) (hz : ∀ n, c ≤ n → n < 12 → σ 9 n = -1) : ∀ (n j : Nat), c ≤ j → j ≤ 12 → 12 - j < n → url_Pr_raisesJust_12 σ 9 n (nI p) (nI j) = some 1 := by
  have hm := w.m60
  intro n
  induction n with
  | zero => intro j h1 h2 h3; omega
  | succ n ih =>
    intro j h1 h2 h3
    rw [url_Pr_raisesJust_12]
    by_cases e : j = 12
    · subst e
      have z : (12 : Int32) ≤ nI 12 := by decide
      rw [if_pos z]
    · have z : ¬ (12 : Int32) ≤ nI j := nI_ge (b := 12) (by omega) (by decide)
      have z2 : ¬ nI (ur_len 9) ≤ nI j := z
      have z3 : ub_in (nI j) (ur_len 9) := in_nI (show j < 12 by omega) (by decide)
      have eq : σ (p + 50) j = σ 9 j := by rw [w.row p j hp h1 (by omega), hz j h1 (by omega)]
      simp only [if_neg z, if_neg z2, if_pos z3, if_pos (in_nI (show p < 60 by omega) (by decide)), if_pos (in_nI (show j < 12 by omega) (by decide)), cl_nI (show p < 2 ^ 31 by omega), cl_nI (show j < 2 ^ 31 by omega), if_pos eq, nI_1]
      exact ih (j + 1) (by omega) (by omega) (by omega)
theorem same_eq {c m p : Nat} {σ τ : ST} (w : Wf X c m σ) (r : Rl c σ τ) (hz : Rz c σ τ) (hp : p < m) : ∀ (d j n n' : Nat), j + d = c → 13 - j ≤ n → d < n' → ∃ b : Int32, url_Pr_raisesJust_12 σ 9 n (nI p) (nI j) = some b ∧ rfl_Md_isSame_4 τ n' (nI p) 1 (nI j) = some b := by
  have hm := w.m60
  have hc := w.c12
  intro d
  induction d with
  | zero =>
    intro j n n' h1 h2 h3
    have hj : j = c := by omega
    subst hj
    obtain ⟨n2, rfl⟩ : ∃ z, n' = z + 1 := ⟨n' - 1, by omega⟩
    refine ⟨1, same_tail w hp hz.1 n j (Nat.le_refl j) hc (by omega), ?_⟩
    have z : (1 : Int32) = 0 ∨ (1 : Int32) = 1 := Or.inr rfl
    rw [rfl_Md_isSame_4, r.t3, if_pos (Int32.le_refl (nI j)), if_pos z]
  | succ d ih =>
    intro j n n' h1 h2 h3
    have hj : j < c := by omega
    obtain ⟨n1, rfl⟩ : ∃ z, n = z + 1 := ⟨n - 1, by omega⟩
    obtain ⟨n2, rfl⟩ : ∃ z, n' = z + 1 := ⟨n' - 1, by omega⟩
    rw [url_Pr_raisesJust_12, rfl_Md_isSame_4, r.t3]
    have z : ¬ (12 : Int32) ≤ nI j := nI_ge (b := 12) (by omega) (by decide)
    have z2 : ¬ nI (ur_len 9) ≤ nI j := z
    have z3 : ub_in (nI j) (ur_len 9) := in_nI (show j < 12 by omega) (by decide)
    have e8 : (12 : Int32) * nI p + nI j = nI (12 * p + j) := by rw [show (12 : Int32) * nI p = nI (12 * p) from pk_mul 12 p, nI_add]
    simp only [if_neg z, if_neg z2, if_pos z3, if_pos (in_nI (show p < 60 by omega) (by decide)), if_pos (in_nI (show j < 12 by omega) (by decide)), cl_nI (show p < 2 ^ 31 by omega), cl_nI (show j < 2 ^ 31 by omega), if_neg (nI_ge hj (show c < 2 ^ 31 by omega)), if_neg one_ne, e8, if_pos (in_nI (show 12 * p + j < 720 by omega) (by decide)), cl_nI (show 12 * p + j < 2 ^ 31 by omega), (hz.2 j hj).1, ob_s, ← r.k50 p j (by omega) (by omega), nI_1]
    by_cases q : σ (p + 50) j = σ 9 j
    · simp only [if_pos q]
      exact ih (j + 1) n1 n2 (by omega) (by omega) (by omega)
    · simp only [if_neg q]
      exact ⟨0, rfl, same0 w r (nI p) n2 (j + 1) (by omega) (by omega)⟩
theorem just_eq {c m p : Nat} {σ τ : ST} (w : Wf X c m σ) (r : Rl c σ τ) (hz : Rz c σ τ) (hp : p < m) : ∃ b : Int32, urf_Pr_raisesJust σ (nI p) 9 = some b ∧ rff_Md_isSame τ (nI p) = some b := by
  have hm := w.m60
  have hc := w.c12
  obtain ⟨b, q1, q2⟩ := same_eq w r hz hp c 0 200 200 (by omega) (by omega) (by omega)
  refine ⟨b, ?_, q2⟩
  unfold urf_Pr_raisesJust
  rw [pn1 w.mn hm hp]
  simp only [ob_s, if_neg one_ne]
  exact q1
theorem just_no {c m : Nat} {σ : ST} (w : Wf X c m σ) : urf_Pr_raisesJust σ (-1) 9 = some 0 := by
  unfold urf_Pr_raisesJust
  rw [pn0 w.mn (Or.inl (by decide))]
  rfl

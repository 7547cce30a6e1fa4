variable {X : Nat → Prop}
/-! units: who is one with whom; the chief -/
def on1 (σ : ST) (a b : Nat) : Prop := a = b ∨ (¬ σ 5 a = -1 ∧ σ 5 a = σ 5 b ∧ σ 0 a = σ 0 b)
theorem on1.rf (σ : ST) (a : Nat) : on1 σ a a := Or.inl rfl
theorem on1.sy {σ : ST} {a b : Nat} (h : on1 σ a b) : on1 σ b a := by
  rcases h with h | ⟨h1, h2, h3⟩
  · exact Or.inl h.symm
  · exact Or.inr ⟨by rw [← h2]; exact h1, h2.symm, h3.symm⟩
theorem on1.tr {σ : ST} {a b d : Nat} (h : on1 σ a b) (k : on1 σ b d) : on1 σ a d := by
  rcases h with h | ⟨h1, h2, h3⟩
  · rw [h]; exact k
  · rcases k with k | ⟨k1, k2, k3⟩
    · rw [← k]; exact Or.inr ⟨h1, h2, h3⟩
    · exact Or.inr ⟨h1, h2.trans k2, h3.trans k3⟩
def isCh (σ : ST) (i k : Nat) : Prop := k ≤ i ∧ on1 σ k i ∧ ∀ j, j < k → ¬ on1 σ j i
theorem ch_ex (σ : ST) (i : Nat) : ∃ k, isCh σ i k := by
  obtain ⟨k, h1, h2⟩ := pk_least (fun k => on1 σ k i) ⟨i, on1.rf σ i⟩
  exact ⟨k, Nat.le_of_not_lt fun q => h2 i q (on1.rf σ i), h1, h2⟩
theorem ch_un {σ : ST} {i k l : Nat} (h : isCh σ i k) (g : isCh σ i l) : k = l := by
  rcases Nat.lt_trichotomy k l with q | q | q
  · exact absurd h.2.1 (g.2.2 k q)
  · exact q
  · exact absurd g.2.1 (h.2.2 l q)
/-- a name's chief is c, a chief, just if they are one -/
theorem ch_on {σ : ST} {c n k : Nat} (hc : isCh σ c c) (h : isCh σ n k) : k = c ↔ on1 σ n c := by
  constructor
  · intro e
    subst e
    exact h.2.1.sy
  · intro e
    rcases Nat.lt_trichotomy k c with q | q | q
    · exact absurd (h.2.1.tr e) (hc.2.2 k q)
    · exact q
    · exact absurd e.sy (h.2.2 c q)
theorem ur_chl {c m : Nat} {σ : ST} (w : Wf X c m σ) {i k : Nat} (hi : i < c) (h : isCh σ i k) (g : ¬ σ 5 i = -1) : ∀ (n j : Nat), j ≤ k → i - j < n → url_Nm_chiefOf_14 σ n (nI i) (nI j) = some (nI k) := by
  have hc := w.c12
  intro n
  induction n with
  | zero => intro j h1 h2; omega
  | succ n ih =>
    intro j h1 h2
    have h3 := h.1
    rw [url_Nm_chiefOf_14]
    by_cases e : i ≤ j
    · rw [if_pos (nI_le e (by omega))]
      congr 2
      omega
    · simp only [if_neg (nI_ge (show j < i by omega) (by omega)), if_pos (in_nI (show j < 12 by omega) (by decide)), if_pos (in_nI (show i < 12 by omega) (by decide)), cl_nI (show j < 2 ^ 31 by omega), cl_nI (show i < 2 ^ 31 by omega), nI_1]
      by_cases a1 : σ 0 j = σ 0 i ∧ σ 5 j = σ 5 i
      · rw [if_pos a1.1, if_pos a1.2]
        have : on1 σ j i := Or.inr ⟨by rw [a1.2]; exact g, a1.2, a1.1⟩
        have : ¬ j < k := fun q => h.2.2 j q this
        congr 2
        omega
      · have no : ¬ on1 σ j i := fun q => by
          rcases q with q | q
          · omega
          · exact a1 ⟨q.2.2, q.2.1⟩
        have ne : ¬ j = k := fun q => no (by rw [q]; exact h.2.1)
        have next := ih (j + 1) (by omega) (by omega)
        by_cases b1 : σ 0 j = σ 0 i
        · rw [if_pos b1, if_neg (fun q => a1 ⟨b1, q⟩)]
          exact next
        · rw [if_neg b1]
          exact next
theorem ur_ch {c m : Nat} {σ : ST} (w : Wf X c m σ) {i k : Nat} (hi : i < c) (h : isCh σ i k) : urf_Nm_chiefOf σ (nI i) = some (nI k) := by
  have hc := w.c12
  unfold urf_Nm_chiefOf
  simp only [if_pos (in_nI (show i < 12 by omega) (by decide)), cl_nI (show i < 2 ^ 31 by omega)]
  by_cases g : σ 5 i = -1
  · rw [if_pos g]
    have : k = i := by
      rcases h.2.1 with q | q
      · exact q
      · exact absurd (q.2.1.trans g) q.1
    rw [this]
  · rw [if_neg g]
    exact ur_chl w hi h g 200 0 (by omega) (by omega)
theorem rf_on {c : Nat} {σ τ : ST} (r : Rl c σ τ) {a b : Nat} (ha : a < 12) (hb : b < 12) (h : on1 σ a b) : rff_Md_areOne τ (nI a) (nI b) = some 1 := by
  unfold rff_Md_areOne
  rw [← r.a5, ← r.a0]
  simp only [if_pos (in_nI ha (by decide)), if_pos (in_nI hb (by decide)), cl_nI (show a < 2 ^ 31 by omega), cl_nI (show b < 2 ^ 31 by omega)]
  rcases h with h | ⟨h1, h2, h3⟩
  · rw [if_pos (by rw [h])]
  · by_cases e : nI a = nI b
    · rw [if_pos e]
    · rw [if_neg e, if_neg h1, if_pos h2, if_pos h3]
theorem rf_no {c : Nat} {σ τ : ST} (r : Rl c σ τ) {a b : Nat} (ha : a < 12) (hb : b < 12) (h : ¬ on1 σ a b) : rff_Md_areOne τ (nI a) (nI b) = some 0 := by
  unfold rff_Md_areOne
  rw [← r.a5, ← r.a0]
  simp only [if_pos (in_nI ha (by decide)), if_pos (in_nI hb (by decide)), cl_nI (show a < 2 ^ 31 by omega), cl_nI (show b < 2 ^ 31 by omega)]
  have ne : ¬ nI a = nI b := fun q => h (Or.inl ((nI_eq (by omega) (by omega)).mp q))
  rw [if_neg ne]
  by_cases h1 : σ 5 a = -1
  · rw [if_pos h1]
  · rw [if_neg h1]
    by_cases h2 : σ 5 a = σ 5 b
    · rw [if_pos h2, if_neg (fun q => h (Or.inr ⟨h1, h2, q⟩))]
    · rw [if_neg h2]
theorem rf_chl {c : Nat} {σ τ : ST} (r : Rl c σ τ) {i k : Nat} (hi : i < 12) (h : isCh σ i k) : ∀ (n j : Nat), j ≤ k → k - j < n → rfl_Md_chiefOf_2 τ n (nI i) (nI j) = some (nI k) := by
  intro n
  induction n with
  | zero => intro j h1 h2; omega
  | succ n ih =>
    intro j h1 h2
    have h3 := h.1
    rw [rfl_Md_chiefOf_2]
    by_cases e : j = k
    · subst e
      rw [rf_on r (by omega) hi h.2.1]
      simp only [ob_s, if_neg one_ne]
    · rw [rf_no r (by omega) hi (h.2.2 j (by omega))]
      simp only [ob_s, if_pos, nI_1]
      exact ih (j + 1) (by omega) (by omega)
theorem rf_ch {c : Nat} {σ τ : ST} (r : Rl c σ τ) {i k : Nat} (hi : i < 12) (h : isCh σ i k) : rff_Md_chiefOf τ (nI i) = some (nI k) := by
  have := h.1
  exact rf_chl r hi h 200 0 (by omega) (by omega)
theorem st_chief (σ τ : ST) (x1 : Int32) (h : Iv σ τ) : ∃ (r : Int32) (τ1 : ST), urf_Rb_chief σ x1 = some r ∧ rff_Md_chief τ x1 = some (r, τ1) ∧ Iv σ τ1 := by
  obtain ⟨c, m, w, r⟩ := h
  have h3 : (wr τ 18 1 0) 18 3 = nI c := r.t3
  have hc := w.c12
  unfold urf_Rb_chief rff_Md_chief
  rcases cs_ix x1 (n := c) (by omega) with hx | ⟨n, hn, rfl⟩
  · rw [kn0 w.cn hx, km0 h3 hx]
    exact ⟨-1, _, rfl, rfl, c, m, w, r.code⟩
  · obtain ⟨k, hk⟩ := ch_ex σ n
    rw [kn1 w.cn (by omega) hn, km1 h3 (by omega) hn]
    simp only [ob_s, if_neg one_ne, ur_ch w hn hk, rf_ch r.code (show n < 12 by omega) hk]
    exact ⟨nI k, _, rfl, rfl, c, m, w, r.code⟩
/-- is it a chief: on the class's side -/
theorem ur_isch {c m : Nat} {σ : ST} (w : Wf X c m σ) {i : Nat} (hi : i < c) (h : isCh σ i i) : urf_Nm_isChief σ (nI i) = some 1 := by
  have hc := w.c12
  unfold urf_Nm_isChief
  rw [kn1 w.cn (by omega) hi]
  simp only [ob_s, if_neg one_ne, ur_ch w hi h, if_pos]
theorem ur_noch {c m : Nat} {σ : ST} (w : Wf X c m σ) {i k : Nat} (hi : i < c) (h : isCh σ i k) (hk : ¬ k = i) : urf_Nm_isChief σ (nI i) = some 0 := by
  have hc := w.c12
  have h1 := h.1
  unfold urf_Nm_isChief
  rw [kn1 w.cn (by omega) hi]
  have ne : ¬ nI k = nI i := fun q => hk ((nI_eq (by omega) (by omega)).mp q)
  simp only [ob_s, if_neg one_ne, ur_ch w hi h, if_neg ne]
/-! how far allowed steps lead -/
def isFar (σ : ST) (i h v f : Nat) : Prop := h ≤ f ∧ f ≤ v ∧ (∀ u, h < u → u ≤ f → σ (i + 14) u ≤ σ 3 i) ∧ (f < v → ¬ σ (i + 14) (f + 1) ≤ σ 3 i)
theorem far_ex (σ : ST) (i : Nat) {h v : Nat} (hv : h ≤ v) : ∃ f, isFar σ i h v f := by
  obtain ⟨f, ⟨h1, h2⟩, h3⟩ := pk_least (fun f => h ≤ f ∧ (f = v ∨ ¬ σ (i + 14) (f + 1) ≤ σ 3 i)) ⟨v, hv, Or.inl rfl⟩
  have h4 : f ≤ v := Nat.le_of_not_lt fun q => h3 v q ⟨hv, Or.inl rfl⟩
  refine ⟨f, h1, h4, fun u q1 q2 => ?_, fun q => ?_⟩
  · have h5 := h3 (u - 1) (by omega)
    have h6 : u - 1 + 1 = u := by omega
    rw [h6] at h5
    exact Classical.byContradiction fun z => h5 ⟨by omega, Or.inr z⟩
  · rcases h2 with z | z
    · omega
    · exact z
theorem ur_farl {c m : Nat} {σ : ST} (w : Wf X c m σ) {i h v f : Nat} (hi : i < c) (hv : v ≤ 7) (ev : σ 1 i = nI (v + 1)) (g : isFar σ i h v f) : ∀ (n u : Nat), h ≤ u → u ≤ f → f - u < n → url_Nm_farthestAllowed_11 σ n (nI i) (nI u) (nI (u + 1)) = some (nI f) := by
  have hc := w.c12
  obtain ⟨g1, g2, g3, g4⟩ := g
  intro n
  induction n with
  | zero => intro u h1 h2 h3; omega
  | succ n ih =>
    intro u h1 h2 h3
    rw [url_Nm_farthestAllowed_11]
    simp only [if_pos (in_nI (show i < 12 by omega) (by decide)), cl_nI (show i < 2 ^ 31 by omega), ev]
    by_cases e : v ≤ u
    · rw [if_pos (nI_le (by omega) (by omega))]
      congr 2
      omega
    · rw [if_neg (nI_ge (show u + 1 < v + 1 by omega) (by omega))]
      simp only [if_pos (in_nI (show u + 1 < 8 by omega) (by decide)), cl_nI (show u + 1 < 2 ^ 31 by omega), nI_1]
      by_cases a : σ (i + 14) (u + 1) ≤ σ 3 i
      · rw [if_neg (Int32.not_lt.mpr a)]
        have : u < f := by
          rcases Nat.lt_or_ge u f with q | q
          · exact q
          · have : u = f := by omega
            subst this
            exact absurd a (g4 (by omega))
        exact ih (u + 1) (by omega) (by omega) (by omega)
      · rw [if_pos (Int32.not_le.mp a)]
        have : ¬ u < f := fun q => a (g3 (u + 1) (by omega) (by omega))
        congr 2
        omega
theorem ur_far {c m : Nat} {σ : ST} (w : Wf X c m σ) {i h v f : Nat} (hi : i < c) (hv : v ≤ 7) (eh : σ 2 i = nI h) (ev : σ 1 i = nI (v + 1)) (g : isFar σ i h v f) : urf_Nm_farthestAllowed σ (nI i) = some (nI f) := by
  have hc := w.c12
  unfold urf_Nm_farthestAllowed
  simp only [if_pos (in_nI (show i < 12 by omega) (by decide)), cl_nI (show i < 2 ^ 31 by omega), eh, nI_1]
  have := g.1
  have := g.2.1
  exact ur_farl w hi hv ev g 200 h (by omega) (by omega) (by omega)
theorem rf_al0 (τ : ST) (n : Nat) (a b d : Int32) : rfl_Md_isAllowed_26 τ (n + 1) a b 0 d = some 0 := by
  rw [rfl_Md_isAllowed_26]
  have z : (0 : Int32) = 0 ∨ (0 : Int32) = 1 := Or.inl rfl
  by_cases q : b < d
  · rw [if_pos q, if_pos z]
  · rw [if_neg q, if_pos rfl, if_pos z]
theorem rf_all {c : Nat} {σ τ : ST} (r : Rl c σ τ) {i h v f x : Nat} (hi : i < 12) (hv : v ≤ 7) (g : isFar σ i h v f) (hx : x ≤ v) : ∀ (n u : Nat), h ≤ u → u ≤ x → u ≤ f → x - u + 1 < n → rfl_Md_isAllowed_26 τ n (nI i) (nI x) 1 (nI (u + 1)) = some (if x ≤ f then 1 else 0) := by
  obtain ⟨g1, g2, g3, g4⟩ := g
  intro n
  induction n with
  | zero => intro u h1 h2 h3 h4; omega
  | succ n ih =>
    intro u h1 h2 h3 h4
    rw [rfl_Md_isAllowed_26]
    have z : (1 : Int32) = 0 ∨ (1 : Int32) = 1 := Or.inr rfl
    by_cases e : x ≤ u
    · rw [if_pos (nI_lt (by omega) (by omega)), if_pos z, if_pos (by omega)]
    · have e8 : (8 : Int32) * nI i + nI (u + 1) = nI (8 * i + (u + 1)) := by rw [show (8 : Int32) * nI i = nI (8 * i) from pk_mul 8 i, nI_add]
      rw [if_neg (nI_nlt (by omega) (by omega))]
      simp only [if_neg one_ne, e8, if_pos (in_nI (show 8 * i + (u + 1) < 96 by omega) (by decide)), if_pos (in_nI hi (by decide)), cl_nI (show i < 2 ^ 31 by omega), cl_nI (show 8 * i + (u + 1) < 2 ^ 31 by omega), nI_1]
      rw [← r.a3, ← r.k14 i (u + 1) hi (by omega)]
      by_cases a : σ (i + 14) (u + 1) ≤ σ 3 i
      · rw [if_neg (Int32.not_lt.mpr a)]
        have : u < f := by
          rcases Nat.lt_or_ge u f with q | q
          · exact q
          · have : u = f := by omega
            subst this
            exact absurd a (g4 (by omega))
        exact ih (u + 1) (by omega) (by omega) (by omega) (by omega)
      · rw [if_pos (Int32.not_le.mp a)]
        have : ¬ u < f := fun q => a (g3 (u + 1) (by omega) (by omega))
        obtain ⟨n', rfl⟩ : ∃ n', n = n' + 1 := ⟨n - 1, by omega⟩
        rw [rf_al0, if_neg (by omega)]
theorem rf_al {c : Nat} {σ τ : ST} (r : Rl c σ τ) {i h v f x : Nat} (hi : i < 12) (hv : v ≤ 7) (eh : σ 2 i = nI h) (ev : τ 1 i = nI v) (g : isFar σ i h v f) (hx : h ≤ x) (hx8 : x ≤ 100) : rff_Md_isAllowed τ (nI i) (nI x) = some (if x ≤ f then 1 else 0) := by
  have g1 := g.1
  have g2 := g.2.1
  unfold rff_Md_isAllowed
  rw [← r.a2]
  simp only [if_pos (in_nI hi (by decide)), cl_nI (show i < 2 ^ 31 by omega), eh, ev, nI_1]
  by_cases a : v < x
  · rw [if_pos (nI_lt a (by omega)), if_neg (by omega)]
    exact rf_al0 τ 199 _ _ _
  · rw [if_neg (nI_nlt (by omega) (by omega))]
    exact rf_all r hi hv g (by omega) 200 h (by omega) (by omega) (by omega) (by omega)
/-- the tail of a goal: where an advisory hits -/
theorem goal_ex {c m : Nat} {σ τ : ST} (w : Wf X c m σ) (r : Rl c σ τ) {i h v : Nat} (hi : i < c) (hhv : h ≤ v) (hv : v ≤ 7) (eh : σ 2 i = nI h) (ev : σ 1 i = nI (v + 1)) (ev2 : τ 1 i = nI v) : ∃ g : Nat, h ≤ g ∧ g ≤ v ∧ urf_Nm_goalOf σ (nI i) = some (nI g) ∧ rff_Md_goalOf τ (nI i) = some (nI g) := by
  have hc := w.c12
  obtain ⟨f, hf⟩ := far_ex σ i hhv
  have f1 := hf.1
  have f2 := hf.2.1
  have hi12 : i < 12 := by omega
  -- what the class answers
  have hu : urf_Nm_goalOf σ (nI i) = Option.bind (urf_Nm_isHit σ (nI i)) (fun q2 => if q2 = 0 then some (nI f) else if nI f ≤ σ 6 i then if nI (v + 1) ≤ σ 6 i + 1 then some (nI f) else some (σ 6 i + 1) else some (nI f)) := by
    unfold urf_Nm_goalOf
    rw [ur_far w hi hv eh ev hf]
    simp only [ob_s, if_pos (in_nI hi12 (by decide)), cl_nI (show i < 2 ^ 31 by omega), ev]
  -- what the reference answers
  have hr : rff_Md_goalOf τ (nI i) = Option.bind (rff_Md_isHit τ (nI i)) (fun q4 => if q4 = 0 then some (nI f) else if σ 6 i < nI f then some (nI f) else if nI v ≤ σ 6 i then some (nI f) else some (σ 6 i + 1)) := by
    have lp : ∀ (n u : Nat), h ≤ u → u ≤ f → f - u < n → rfl_Md_goalOf_7 τ n (nI i) (nI u) = Option.bind (rff_Md_isHit τ (nI i)) (fun q4 => if q4 = 0 then some (nI f) else if σ 6 i < nI f then some (nI f) else if nI v ≤ σ 6 i then some (nI f) else some (σ 6 i + 1)) := by
      intro n
      induction n with
      | zero => intro u h1 h2 h3; omega
      | succ n ih =>
        intro u h1 h2 h3
        rw [rfl_Md_goalOf_7, nI_1, rf_al r hi12 hv eh ev2 hf (by omega) (by omega)]
        by_cases e : u = f
        · subst e
          have ne : ¬ u + 1 ≤ u := by omega
          simp only [if_neg ne, ob_s, if_pos, if_pos (in_nI hi12 (by decide)), cl_nI (show i < 2 ^ 31 by omega), ← r.a6, ev2]
        · have le : u + 1 ≤ f := by omega
          simp only [if_pos le, ob_s, if_neg one_ne]
          exact ih (u + 1) (by omega) (by omega) (by omega)
    unfold rff_Md_goalOf
    rw [← r.a2]
    simp only [if_pos (in_nI hi12 (by decide)), cl_nI (show i < 2 ^ 31 by omega), eh]
    exact lp 200 h (by omega) (by omega) (by omega)
  have hh : urf_Nm_isHit σ (nI i) = rff_Md_isHit τ (nI i) := by
    unfold urf_Nm_isHit rff_Md_isHit
    rw [r.a6, r.a2]
  have hz : urf_Nm_isHit σ (nI i) = some (if σ 6 i = -1 then 0 else if σ 6 i < σ 2 i then 0 else 1) := by
    unfold urf_Nm_isHit
    simp only [if_pos (in_nI hi12 (by decide)), cl_nI (show i < 2 ^ 31 by omega)]
    by_cases a : σ 6 i = -1
    · simp only [if_pos a]
    · simp only [if_neg a]
      by_cases b : σ 6 i < σ 2 i
      · simp only [if_pos b]
      · simp only [if_neg b]
  rw [hu, hr, ← hh, hz]
  simp only [ob_s]
  by_cases a : σ 6 i = -1
  · simp only [if_pos a, if_pos]
    exact ⟨f, f1, f2, rfl, rfl⟩
  rcases w.adv i hi with q | ⟨b, y, b1, b2, b3, b4⟩
  · exact absurd q a
  · simp only [if_neg a]
    rw [b3, eh]
    have hy : y = v + 1 := by
      rw [ev] at b4
      exact ((nI_eq (by omega) (by omega)).mp b4).symm
    by_cases e1 : b < h
    · simp only [if_pos (nI_lt e1 (by omega)), if_pos]
      exact ⟨f, f1, f2, rfl, rfl⟩
    · simp only [if_neg (nI_nlt (show h ≤ b by omega) (by omega)), if_neg one_ne, nI_1]
      by_cases e2 : b < f
      · simp only [if_neg (nI_ge e2 (by omega)), if_pos (nI_lt e2 (by omega))]
        exact ⟨f, f1, f2, rfl, rfl⟩
      · simp only [if_pos (nI_le (show f ≤ b by omega) (by omega)), if_neg (nI_nlt (show f ≤ b by omega) (by omega))]
        by_cases e3 : v ≤ b
        · simp only [if_pos (nI_le e3 (by omega)), if_pos (nI_le (show v + 1 ≤ b + 1 by omega) (by omega))]
          exact ⟨f, f1, f2, rfl, rfl⟩
        · simp only [if_neg (nI_ge (show b < v by omega) (by omega)), if_neg (nI_ge (show b + 1 < v + 1 by omega) (by omega))]
          exact ⟨b + 1, by omega, by omega, rfl, rfl⟩
theorem st_goal (σ τ : ST) (x1 : Int32) (h : Iv σ τ) : ∃ (r : Int32) (τ1 : ST), urf_Rb_goal σ x1 = some r ∧ rff_Md_goal τ x1 = some (r, τ1) ∧ Iv σ τ1 := by
  obtain ⟨c, m, w, r⟩ := h
  have h3 : (wr τ 18 1 0) 18 3 = nI c := r.t3
  have hc := w.c12
  unfold urf_Rb_goal rff_Md_goal
  rcases cs_ix x1 (n := c) (by omega) with hx | ⟨n, hn, rfl⟩
  · rw [kn0 w.cn hx, km0 h3 hx]
    exact ⟨-1, _, rfl, rfl, c, m, w, r.code⟩
  · obtain ⟨hh, v, e1, e2, e3, e4, e5⟩ := vnew w r hn
    obtain ⟨g, -, -, g1, g2⟩ := goal_ex w r.code hn e1 e2 e3 e4 e5
    rw [kn1 w.cn (by omega) hn, km1 h3 (by omega) hn]
    simp only [ob_s, if_neg one_ne, g1, g2]
    exact ⟨nI g, _, rfl, rfl, c, m, w, r.code⟩

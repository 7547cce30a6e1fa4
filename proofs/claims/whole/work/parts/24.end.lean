theorem limit_eq (v : Int32) : (if 0 < (if v < 20 then v else 20) then (if v < 20 then v else 20) else 0) = (if 0 ≤ v then (if v ≤ 20 then v else 20) else (0 : Int32)) := by
  have t0 : (0 : Int32).toInt = 0 := by decide
  have t20 : (20 : Int32).toInt = 20 := by decide
  by_cases a : v < 20
  · have a' : v ≤ 20 := Int32.le_of_lt a
    rw [if_pos a, if_pos a']
    by_cases b : 0 < v
    · rw [if_pos b, if_pos (Int32.le_of_lt b)]
    · rw [if_neg b]
      by_cases d : 0 ≤ v
      · rw [if_pos d, i_eq, t0]
        rw [i_lt, t0] at b
        rw [i_le, t0] at d
        omega
      · rw [if_neg d]
  · have p : (0 : Int32) < 20 := by decide
    rw [if_neg a, if_pos p]
    rw [i_lt, t20] at a
    have d : (0 : Int32) ≤ v := by
      rw [i_le, t0]
      omega
    rw [if_pos d]
    by_cases b : v ≤ 20
    · rw [if_pos b, i_eq, t20]
      rw [i_le, t20] at b
      omega
    · rw [if_neg b]
theorem u0 (v : Int32) {i : Nat} (h : i ≠ 111) : ur_s0 v i = fun _ => 0 := by
  unfold ur_s0
  rw [wr_ne h]
theorem r0 (v : Int32) {i : Nat} (h : i ≠ 18) : rf_s0 v i = fun _ => 0 := by
  unfold rf_s0
  rw [wr_ne h]
theorem us (v : Int32) {j : Nat} (h : j ≠ 0) : ur_s0 v 111 j = 0 := by
  unfold ur_s0
  rw [wr_at, if_pos rfl, if_neg h]
theorem rs (v : Int32) {j : Nat} (h : j ≠ 0) : rf_s0 v 18 j = 0 := by
  unfold rf_s0
  rw [wr_at, if_pos rfl, if_neg h]
theorem wf0 (v : Int32) : Wf (fun _ => False) 0 0 (ur_s0 v) := by
  refine ⟨by omega, ?_, by omega, ?_, fun n hn => by omega, fun n hn => ?_, fun n hn => by omega, fun n u hn hu hl => by omega, fun n u hn hu => ⟨0, by omega, ?_⟩, ⟨0, by omega, ?_⟩, fun p hp => by omega, fun p hp => ?_, fun p => Or.inl ?_, fun p n hp hn h12 => by omega, fun p n hp hn ho => by omega, fun p n hp hn => by omega⟩
  · rw [us v (by omega), nI_0]
  · rw [us v (by omega), nI_0]
  · rw [u0 v (by omega)]
  · rw [u0 v (by omega), nI_0]
  · rw [us v (by omega), nI_0]
  · rw [u0 v (by omega)]
  · rw [u0 v (by omega)]
theorem rl0 (v : Int32) : Rl 0 (ur_s0 v) (rf_s0 v) := by
  refine ⟨?_, ?_, ?_, ?_, ?_, ?_, ?_, ?_, ?_, ?_, ?_, ?_, fun n u hn hu => ?_, fun n u hn hu => ?_, fun n u hn hu => ?_, fun p n hp hn => ?_, fun n hn => by omega, fun n hn => ?_, ?_, ?_, ?_, ?_, ?_⟩
  · rw [u0 v (by omega), r0 v (by omega)]
  · rw [u0 v (by omega), r0 v (by omega)]
  · rw [u0 v (by omega), r0 v (by omega)]
  · rw [u0 v (by omega), r0 v (by omega)]
  · rw [u0 v (by omega), r0 v (by omega)]
  · rw [u0 v (by omega), r0 v (by omega)]
  · rw [u0 v (by omega), r0 v (by omega)]
  · rw [u0 v (by omega), r0 v (by omega)]
  · rw [u0 v (by omega), r0 v (by omega)]
  · rw [u0 v (by omega), r0 v (by omega)]
  · rw [u0 v (by omega), r0 v (by omega)]
  · rw [u0 v (by omega), r0 v (by omega)]
  · rw [u0 v (by omega), r0 v (by omega)]
  · rw [u0 v (by omega), r0 v (by omega)]
  · rw [u0 v (by omega), r0 v (by omega)]
  · rw [u0 v (by omega), r0 v (by omega)]
  · rw [r0 v (by omega)]
  · unfold ur_s0 rf_s0
    rw [wr_eq, wr_eq]
    exact limit_eq v
  · rw [us v (by omega), rs v (by omega)]
  · rw [us v (by omega), rs v (by omega)]
  · rw [rs v (by omega), nI_0]
  · rw [us v (by omega), rs v (by omega)]
theorem iv0 (v : Int32) : Iv (ur_s0 v) (rf_s0 v) := ⟨0, 0, wf0 v, rl0 v⟩
theorem step_all : lw_Step Iv := ⟨st_name, st_newer, st_needs, st_rule, st_advise, st_has, st_goal, st_chief, st_solve, st_tick, st_run, st_waiting, st_about, st_target, st_pass, st_open⟩

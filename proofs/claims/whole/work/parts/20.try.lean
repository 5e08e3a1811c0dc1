theorem sp_X0_rides {E : xm_E} {l : Launch} {M : xm_M} {b : Nat} (hb : b < M.1) (hk : ly_k b = 0) : xm_Met E l mt_X0_rides 0 0 0 [.ref b] M (fun v M1 => M1 = M ∧ v = some (.int (if M.2.1 b 3 = 0 ∨ M.2.1 b 3 = 1 then 1 else 0))) := by
  refine xm_met mo_X0_rides (by simp [xm_j, Value.category]) (Nat.le_of_ble_eq_true rfl) (fun Z hl hY => ?_)
  refine xm_run hY kc_X0_rides [] 9 ?_
  simp (config := {underLambda := false}) only [kb_X0_rides, xm_r0, xm_lk, xm_r_s, kX0_rides_0, kX0_rides_15, kX0_rides_19, kX0_rides_20, xm_b, xm_i, xm_g, xi_al, xi_get, xi_rd, xi_if, xi_cmp, xi_ret, xm_cnd, hb, hk, true_and, List.cons_append, List.nil_append, List.not_mem_nil, if_true, if_false, Nat.reduceEqDiff, ↓reduceIte]
  trace_state
  sorry

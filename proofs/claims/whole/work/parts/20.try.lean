theorem sp_X0_rides {E : xm_E} {l : Launch} {M : xm_M} {b : Nat} (hb : b < M.1) (hk : ly_k b = 0) : xm_Met E l mt_X0_rides 0 0 0 [.ref b] M (fun v M1 => M1 = M ∧ v = some (.int (if M.2.1 b 3 = 0 ∨ M.2.1 b 3 = 1 then 1 else 0))) := by
  refine xm_met mo_X0_rides (by simp [xm_j, Value.category]) (by decide) (fun Z hl hY => ?_)
  refine xm_blk hY bk_X0_rides_0 ?_
  simp only [kX0_rides_0, xm_b, xm_i, xm_g, xi_al, xi_get, xi_rd, xi_if, xi_cmp, xm_cnd, hb, hk, true_and, List.cons_append, List.nil_append]
  sorry

def fm_isIn (v lo hi : Int) : Int := if v < lo then 0 else if hi < v then 0 else 1
theorem km_isIn {sc : List Int} {d : Nat} {h : px_H} {v lo hi : Int} {t : Nat} : px_D sc d 146 0 [(0, .inr (.inr (t + 1))), (1, .inl v), (2, .inl lo), (3, .inl hi)] [] h (fun r h1 => r = some (.inl (fm_isIn v lo hi)) ∧ h1 = h) := by
  refine px_D_st 2 rfl ?_
  refine px_D_icmp rfl (fun hc => ?_) (fun hc => ?_)
  · have hc : v < lo := of_decide_eq_true hc
    refine px_D_st 1 rfl ?_
    exact px_D_iret rfl rfl ⟨by rw [fm_isIn, if_pos hc], rfl⟩
  · have hc : ¬ v < lo := of_decide_eq_false hc
    refine px_D_st 2 rfl ?_
    refine px_D_icmp rfl (fun hc2 => ?_) (fun hc2 => ?_)
    · have hc2 : hi < v := of_decide_eq_true hc2
      refine px_D_st 1 rfl ?_
      exact px_D_iret rfl rfl ⟨by rw [fm_isIn, if_neg hc, if_pos hc2], rfl⟩
    · have hc2 : ¬ hi < v := of_decide_eq_false hc2
      refine px_D_st 2 rfl ?_
      exact px_D_iret rfl rfl ⟨by rw [fm_isIn, if_neg hc, if_neg hc2], rfl⟩

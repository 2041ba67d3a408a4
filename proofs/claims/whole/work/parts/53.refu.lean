/-! what the other system says where a call is refused -/
section REFU
variable {σ μ : MZ_} {a b : Int32}
theorem no_rule1 (h : rn_ a 5 = false) : f_R_rule μ a b = some (0, va_up (va_up μ 30 (fun _ => 0)) 30 (fun _ => 1)) := by
  unfold f_R_rule
  rw [st_e, bd_s (rn_in _ _), h, if_pos (bI_0 rfl)]
  rfl
theorem no_rule2 (h : rn_ a 5 = true) (h2 : f_R_isNode (va_up μ 30 (fun _ => 0)) b = some 0) : f_R_rule μ a b = some (0, va_up (va_up μ 30 (fun _ => 0)) 30 (fun _ => 1)) := by
  unfold f_R_rule
  rw [st_e, bd_s (rn_in _ _), h, if_neg (bI_1 rfl), bd_s h2, if_pos rfl]
  rfl
theorem no_empty (h2 : f_R_isNode (va_up μ 30 (fun _ => 0)) a = some 0) : f_R_empty μ a = some (0, va_up (va_up μ 30 (fun _ => 0)) 30 (fun _ => 1)) := by
  unfold f_R_empty
  rw [st_e, bd_s h2, if_pos rfl]
  rfl
theorem no_begins1 (h2 : f_R_isNode (va_up μ 30 (fun _ => 0)) a = some 0) : f_R_begins μ a b = some (0, va_up (va_up μ 30 (fun _ => 0)) 30 (fun _ => 1)) := by
  unfold f_R_begins
  rw [st_e, bd_s h2, if_pos rfl]
  rfl
theorem no_begins2 (h2 : f_R_isNode (va_up μ 30 (fun _ => 0)) a = some 1) (h : rn_ b 255 = false) : f_R_begins μ a b = some (0, va_up (va_up μ 30 (fun _ => 0)) 30 (fun _ => 1)) := by
  unfold f_R_begins
  rw [st_e, bd_s h2, if_neg (show ¬ (1 : Int32) = 0 by decide), bd_s (rn_in _ _), h, if_pos (bI_0 rfl)]
  rfl
theorem no_leads (h : rn_ a 5 = false) : f_R_leads μ a = some (0, va_up (va_up μ 30 (fun _ => 0)) 30 (fun _ => 1)) := by
  unfold f_R_leads
  rw [st_e, bd_s (rn_in _ _), h, if_pos (bI_0 rfl)]
  rfl
end REFU

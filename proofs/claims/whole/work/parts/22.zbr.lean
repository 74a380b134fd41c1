/-! Branches whose side is known. -/
section
variable (J K : ms_K) (L r : List ms_V) (G : ms_G) (h : ms_H)
theorem if_eq_t (x : Int) (hc : x = 0) : o_if .eq J K L (mI x :: r) G h = J L r G h := propext ⟨fun q => q.1 hc, fun q => ⟨fun _ => q, fun w => absurd hc (by omega)⟩⟩
theorem if_eq_f (x : Int) (hc : ¬ x = 0) : o_if .eq J K L (mI x :: r) G h = K L r G h := propext ⟨fun q => q.2 hc, fun q => ⟨fun w => absurd hc (by omega), fun _ => q⟩⟩
theorem ic_eq_t (x y : Int) (hc : x = y) : o_icmp .eq J K L (mI y :: mI x :: r) G h = J L r G h := propext ⟨fun q => q.1 hc, fun q => ⟨fun _ => q, fun w => absurd hc (by omega)⟩⟩
theorem ic_eq_f (x y : Int) (hc : ¬ x = y) : o_icmp .eq J K L (mI y :: mI x :: r) G h = K L r G h := propext ⟨fun q => q.2 hc, fun q => ⟨fun w => absurd hc (by omega), fun _ => q⟩⟩
theorem if_ne_t (x : Int) (hc : ¬ x = 0) : o_if .ne J K L (mI x :: r) G h = J L r G h := propext ⟨fun q => q.1 hc, fun q => ⟨fun _ => q, fun w => absurd hc (by omega)⟩⟩
theorem if_ne_f (x : Int) (hc : x = 0) : o_if .ne J K L (mI x :: r) G h = K L r G h := propext ⟨fun q => q.2 hc, fun q => ⟨fun w => absurd hc (by omega), fun _ => q⟩⟩
theorem ic_ne_t (x y : Int) (hc : ¬ x = y) : o_icmp .ne J K L (mI y :: mI x :: r) G h = J L r G h := propext ⟨fun q => q.1 hc, fun q => ⟨fun _ => q, fun w => absurd hc (by omega)⟩⟩
theorem ic_ne_f (x y : Int) (hc : x = y) : o_icmp .ne J K L (mI y :: mI x :: r) G h = K L r G h := propext ⟨fun q => q.2 hc, fun q => ⟨fun w => absurd hc (by omega), fun _ => q⟩⟩
theorem if_lt_t (x : Int) (hc : x < 0) : o_if .lt J K L (mI x :: r) G h = J L r G h := propext ⟨fun q => q.1 hc, fun q => ⟨fun _ => q, fun w => absurd hc (by omega)⟩⟩
theorem if_lt_f (x : Int) (hc : 0 ≤ x) : o_if .lt J K L (mI x :: r) G h = K L r G h := propext ⟨fun q => q.2 hc, fun q => ⟨fun w => absurd hc (by omega), fun _ => q⟩⟩
theorem ic_lt_t (x y : Int) (hc : x < y) : o_icmp .lt J K L (mI y :: mI x :: r) G h = J L r G h := propext ⟨fun q => q.1 hc, fun q => ⟨fun _ => q, fun w => absurd hc (by omega)⟩⟩
theorem ic_lt_f (x y : Int) (hc : y ≤ x) : o_icmp .lt J K L (mI y :: mI x :: r) G h = K L r G h := propext ⟨fun q => q.2 hc, fun q => ⟨fun w => absurd hc (by omega), fun _ => q⟩⟩
theorem if_ge_t (x : Int) (hc : 0 ≤ x) : o_if .ge J K L (mI x :: r) G h = J L r G h := propext ⟨fun q => q.1 hc, fun q => ⟨fun _ => q, fun w => absurd hc (by omega)⟩⟩
theorem if_ge_f (x : Int) (hc : x < 0) : o_if .ge J K L (mI x :: r) G h = K L r G h := propext ⟨fun q => q.2 hc, fun q => ⟨fun w => absurd hc (by omega), fun _ => q⟩⟩
theorem ic_ge_t (x y : Int) (hc : y ≤ x) : o_icmp .ge J K L (mI y :: mI x :: r) G h = J L r G h := propext ⟨fun q => q.1 hc, fun q => ⟨fun _ => q, fun w => absurd hc (by omega)⟩⟩
theorem ic_ge_f (x y : Int) (hc : x < y) : o_icmp .ge J K L (mI y :: mI x :: r) G h = K L r G h := propext ⟨fun q => q.2 hc, fun q => ⟨fun w => absurd hc (by omega), fun _ => q⟩⟩
theorem if_gt_t (x : Int) (hc : 0 < x) : o_if .gt J K L (mI x :: r) G h = J L r G h := propext ⟨fun q => q.1 hc, fun q => ⟨fun _ => q, fun w => absurd hc (by omega)⟩⟩
theorem if_gt_f (x : Int) (hc : x ≤ 0) : o_if .gt J K L (mI x :: r) G h = K L r G h := propext ⟨fun q => q.2 hc, fun q => ⟨fun w => absurd hc (by omega), fun _ => q⟩⟩
theorem ic_gt_t (x y : Int) (hc : y < x) : o_icmp .gt J K L (mI y :: mI x :: r) G h = J L r G h := propext ⟨fun q => q.1 hc, fun q => ⟨fun _ => q, fun w => absurd hc (by omega)⟩⟩
theorem ic_gt_f (x y : Int) (hc : x ≤ y) : o_icmp .gt J K L (mI y :: mI x :: r) G h = K L r G h := propext ⟨fun q => q.2 hc, fun q => ⟨fun w => absurd hc (by omega), fun _ => q⟩⟩
theorem if_le_t (x : Int) (hc : x ≤ 0) : o_if .le J K L (mI x :: r) G h = J L r G h := propext ⟨fun q => q.1 hc, fun q => ⟨fun _ => q, fun w => absurd hc (by omega)⟩⟩
theorem if_le_f (x : Int) (hc : 0 < x) : o_if .le J K L (mI x :: r) G h = K L r G h := propext ⟨fun q => q.2 hc, fun q => ⟨fun w => absurd hc (by omega), fun _ => q⟩⟩
theorem ic_le_t (x y : Int) (hc : x ≤ y) : o_icmp .le J K L (mI y :: mI x :: r) G h = J L r G h := propext ⟨fun q => q.1 hc, fun q => ⟨fun _ => q, fun w => absurd hc (by omega)⟩⟩
theorem ic_le_f (x y : Int) (hc : y < x) : o_icmp .le J K L (mI y :: mI x :: r) G h = K L r G h := propext ⟨fun q => q.2 hc, fun q => ⟨fun w => absurd hc (by omega), fun _ => q⟩⟩
end

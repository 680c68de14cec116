set_option maxRecDepth 100000 in
theorem xK_154_0 : xR_154_0.all (xa_ckW xcl xT_154 xth xm 156 xM_154) = true := by decide +kernel
set_option maxRecDepth 100000 in
theorem xK_154_1 : xR_154_1.all (xa_ckW xcl xT_154 xth xm 156 xM_154) = true := by decide +kernel
set_option maxRecDepth 100000 in
theorem xK_154_2 : xR_154_2.all (xa_ckW xcl xT_154 xth xm 156 xM_154) = true := by decide +kernel
set_option maxRecDepth 100000 in
theorem xK_154_3 : xR_154_3.all (xa_ckW xcl xT_154 xth xm 156 xM_154) = true := by decide +kernel
set_option maxRecDepth 100000 in
theorem xK_154_4 : xR_154_4.all (xa_ckW xcl xT_154 xth xm 156 xM_154) = true := by decide +kernel
set_option maxRecDepth 100000 in
theorem xK_154_5 : xR_154_5.all (xa_ckW xcl xT_154 xth xm 156 xM_154) = true := by decide +kernel
set_option maxRecDepth 100000 in
theorem xK_154_6 : xR_154_6.all (xa_ckW xcl xT_154 xth xm 156 xM_154) = true := by decide +kernel
set_option maxRecDepth 100000 in
theorem xK_154_7 : xR_154_7.all (xa_ckW xcl xT_154 xth xm 156 xM_154) = true := by decide +kernel
set_option maxRecDepth 100000 in
theorem xK_154_8 : xR_154_8.all (xa_ckW xcl xT_154 xth xm 156 xM_154) = true := by decide +kernel
set_option maxRecDepth 100000 in
theorem xK_154_9 : xR_154_9.all (xa_ckW xcl xT_154 xth xm 156 xM_154) = true := by decide +kernel
theorem xK_154 : xa_ckM xcl xT_154 xth xm 156 xM_154 = true := by
  have h : (xa_rows xM_154).all (xa_ckW xcl xT_154 xth xm 156 xM_154) = true := by
    show xR_154.all _ = true
    unfold xR_154
    rw [List.all_append, xK_154_0, Bool.true_and, List.all_append, xK_154_1, Bool.true_and, List.all_append, xK_154_2, Bool.true_and, List.all_append, xK_154_3, Bool.true_and, List.all_append, xK_154_4, Bool.true_and, List.all_append, xK_154_5, Bool.true_and, List.all_append, xK_154_6, Bool.true_and, List.all_append, xK_154_7, Bool.true_and, List.all_append, xK_154_8, Bool.true_and, xK_154_9]
  unfold xa_ckM
  rw [h]
  decide +kernel

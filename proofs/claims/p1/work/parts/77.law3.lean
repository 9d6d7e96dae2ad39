theorem dL_law_2778 : decode cL_law 2778 = .ok (.iinc 5 7, 3) := by decide +kernel
theorem dL_law_2781 : decode cL_law 2781 = .ok (.goto (-2753), 3) := by decide +kernel
theorem dL_law_28 : decode cL_law 28 = .ok (.iload 5, 2) := by decide +kernel
theorem dL_law_30 : decode cL_law 30 = .ok (.aload_n 0, 1) := by decide +kernel
theorem dL_law_31 : decode cL_law 31 = .ok (.arraylength, 1) := by decide +kernel
theorem dL_law_32 : decode cL_law 32 = .ok (.bipush 7, 2) := by decide +kernel
theorem dL_law_34 : decode cL_law 34 = .ok (.isub, 1) := by decide +kernel
theorem dL_law_35 : decode cL_law 35 = .ok (.if_icmp .gt 2749, 3) := by decide +kernel
theorem dL_law_2784 : decode cL_law 2784 = .ok (.iconst 1, 1) := by decide +kernel
theorem dL_law_2785 : decode cL_law 2785 = .ok (.ireturn, 1) := by decide +kernel
theorem wsL_law_x0 : ∀ w ∈ (vx_atM "java/lang/ArrayIndexOutOfBoundsException" ["java/lang/IndexOutOfBoundsException", "java/lang/RuntimeException", "java/lang/Exception"]).filter goodWord, w ∈ lw_tbl9 := by decide +kernel
theorem wsL_law_x1 : ∀ w ∈ (vx_at0 RX11 301 "java/lang/IllegalArgumentException" ["java/lang/RuntimeException", "java/lang/Exception"]).filter goodWord, w ∈ lw_tbl9 := by decide +kernel
theorem wsL_law_x2 : ∀ w ∈ (vx_at0 RX11 230 "java/lang/IllegalStateException" ["java/lang/RuntimeException", "java/lang/Exception"]).filter goodWord, w ∈ lw_tbl9 := by decide +kernel
theorem wsL_law_x3 : ∀ w ∈ (vx_at0 RX11 240 "java/lang/IndexOutOfBoundsException" ["java/lang/RuntimeException", "java/lang/Exception"]).filter goodWord, w ∈ lw_tbl9 := by decide +kernel
theorem wsL_law_x4 : ∀ w ∈ (vx_at0 RX11 304 "java/util/NoSuchElementException" ["java/lang/RuntimeException", "java/lang/Exception"]).filter goodWord, w ∈ lw_tbl9 := by decide +kernel
theorem wsL_law_x5 : ∀ w ∈ (vx_at0 RX11 160 "java/lang/UnsupportedOperationException" ["java/lang/RuntimeException", "java/lang/Exception"]).filter goodWord, w ∈ lw_tbl9 := by decide +kernel
theorem wsL_law_x6 : ∀ w ∈ (vx_atM "java/lang/ArithmeticException" ["java/lang/RuntimeException", "java/lang/Exception"]).filter goodWord, w ∈ lw_tbl9 := by decide +kernel
theorem wsL_law_x7 : ∀ w ∈ (vx_at0 RX11 289 "java/lang/ArithmeticException" ["java/lang/RuntimeException", "java/lang/Exception"]).filter goodWord, w ∈ lw_tbl9 := by decide +kernel
theorem wsL_law_in : ∀ w ∈ wsL_law, w ∈ lw_tbl9 := fun w h => (List.mem_append.mp h).elim (fun h => (List.mem_append.mp h).elim (fun h => (List.mem_append.mp h).elim (fun h => (List.mem_append.mp h).elim (fun h => (List.mem_append.mp h).elim (fun h => (List.mem_append.mp h).elim (fun h => (List.mem_append.mp h).elim (fun h => (List.mem_append.mp h).elim (fun h => wsL_law_in0 w h) (fun h => wsL_law_x0 w h)) (fun h => wsL_law_x1 w h)) (fun h => wsL_law_x2 w h)) (fun h => wsL_law_x3 w h)) (fun h => wsL_law_x4 w h)) (fun h => wsL_law_x5 w h)) (fun h => wsL_law_x6 w h)) (fun h => wsL_law_x7 w h)
theorem inlX0 : ∀ w ∈ wsX00, w ∈ wsL_law := fun _ h => List.mem_append_left _ (List.mem_append_left _ (List.mem_append_left _ (List.mem_append_left _ (List.mem_append_left _ (List.mem_append_left _ (List.mem_append_left _ (List.mem_append_left _ (List.mem_append_left _ (List.mem_append_left _ (List.mem_append_left _ (List.mem_append_left _ (List.mem_append_left _ (List.mem_append_left _ (List.mem_append_left _ (List.mem_append_left _ (List.mem_append_left _ (List.mem_append_left _ (List.mem_append_left _ (List.mem_append_left _ (List.mem_append_left _ (List.mem_append_left _ (List.mem_append_left _ (List.mem_append_left _ (List.mem_append_right _ h))))))))))))))))))))))))
theorem inX0 : ∀ w ∈ wsX00, w ∈ lw_tbl9 := fun w h => wsL_law_in w (inlX0 w h)
theorem inlX1 : ∀ w ∈ wsX10, w ∈ wsL_law := fun _ h => List.mem_append_left _ (List.mem_append_left _ (List.mem_append_left _ (List.mem_append_left _ (List.mem_append_left _ (List.mem_append_left _ (List.mem_append_left _ (List.mem_append_left _ (List.mem_append_left _ (List.mem_append_left _ (List.mem_append_left _ (List.mem_append_left _ (List.mem_append_left _ (List.mem_append_left _ (List.mem_append_left _ (List.mem_append_left _ (List.mem_append_left _ (List.mem_append_left _ (List.mem_append_left _ (List.mem_append_left _ (List.mem_append_left _ (List.mem_append_left _ (List.mem_append_right _ h))))))))))))))))))))))
theorem inX1 : ∀ w ∈ wsX10, w ∈ lw_tbl9 := fun w h => wsL_law_in w (inlX1 w h)
theorem inlX2 : ∀ w ∈ wsX20, w ∈ wsL_law := fun _ h => List.mem_append_left _ (List.mem_append_left _ (List.mem_append_left _ (List.mem_append_left _ (List.mem_append_left _ (List.mem_append_left _ (List.mem_append_left _ (List.mem_append_left _ (List.mem_append_left _ (List.mem_append_left _ (List.mem_append_left _ (List.mem_append_left _ (List.mem_append_left _ (List.mem_append_left _ (List.mem_append_left _ (List.mem_append_left _ (List.mem_append_left _ (List.mem_append_left _ (List.mem_append_left _ (List.mem_append_left _ (List.mem_append_left _ (List.mem_append_left _ (List.mem_append_left _ (List.mem_append_left _ (List.mem_append_left _ (List.mem_append_left _ (List.mem_append_right _ h))))))))))))))))))))))))))
theorem inX2 : ∀ w ∈ wsX20, w ∈ lw_tbl9 := fun w h => wsL_law_in w (inlX2 w h)
theorem inlX3 : ∀ w ∈ wsX30, w ∈ wsL_law := fun _ h => List.mem_append_left _ (List.mem_append_left _ (List.mem_append_left _ (List.mem_append_left _ (List.mem_append_left _ (List.mem_append_left _ (List.mem_append_left _ (List.mem_append_left _ (List.mem_append_left _ (List.mem_append_left _ (List.mem_append_left _ (List.mem_append_left _ (List.mem_append_left _ (List.mem_append_left _ (List.mem_append_left _ (List.mem_append_left _ (List.mem_append_left _ (List.mem_append_left _ (List.mem_append_left _ (List.mem_append_left _ (List.mem_append_left _ (List.mem_append_left _ (List.mem_append_left _ (List.mem_append_left _ (List.mem_append_left _ (List.mem_append_right _ h)))))))))))))))))))))))))
theorem inX3 : ∀ w ∈ wsX30, w ∈ lw_tbl9 := fun w h => wsL_law_in w (inlX3 w h)
theorem inlX4 : ∀ w ∈ wsX40, w ∈ wsL_law := fun _ h => List.mem_append_left _ (List.mem_append_left _ (List.mem_append_left _ (List.mem_append_left _ (List.mem_append_left _ (List.mem_append_left _ (List.mem_append_left _ (List.mem_append_left _ (List.mem_append_left _ (List.mem_append_left _ (List.mem_append_left _ (List.mem_append_left _ (List.mem_append_left _ (List.mem_append_left _ (List.mem_append_left _ (List.mem_append_left _ (List.mem_append_left _ (List.mem_append_right _ h)))))))))))))))))
theorem inX4 : ∀ w ∈ wsX40, w ∈ lw_tbl9 := fun w h => wsL_law_in w (inlX4 w h)
theorem inlX5 : ∀ w ∈ wsX50, w ∈ wsL_law := fun _ h => List.mem_append_left _ (List.mem_append_left _ (List.mem_append_left _ (List.mem_append_left _ (List.mem_append_left _ (List.mem_append_left _ (List.mem_append_left _ (List.mem_append_left _ (List.mem_append_left _ (List.mem_append_left _ (List.mem_append_left _ (List.mem_append_left _ (List.mem_append_left _ (List.mem_append_left _ (List.mem_append_left _ (List.mem_append_left _ (List.mem_append_right _ h))))))))))))))))
theorem inX5 : ∀ w ∈ wsX50, w ∈ lw_tbl9 := fun w h => wsL_law_in w (inlX5 w h)
theorem inlX6 : ∀ w ∈ wsX60, w ∈ wsL_law := fun _ h => List.mem_append_left _ (List.mem_append_left _ (List.mem_append_left _ (List.mem_append_left _ (List.mem_append_left _ (List.mem_append_left _ (List.mem_append_left _ (List.mem_append_left _ (List.mem_append_left _ (List.mem_append_left _ (List.mem_append_left _ (List.mem_append_left _ (List.mem_append_left _ (List.mem_append_left _ (List.mem_append_left _ (List.mem_append_left _ (List.mem_append_left _ (List.mem_append_left _ (List.mem_append_left _ (List.mem_append_left _ (List.mem_append_right _ h))))))))))))))))))))
theorem inX6 : ∀ w ∈ wsX60, w ∈ lw_tbl9 := fun w h => wsL_law_in w (inlX6 w h)
theorem inlX7 : ∀ w ∈ wsX70, w ∈ wsL_law := fun _ h => List.mem_append_left _ (List.mem_append_left _ (List.mem_append_left _ (List.mem_append_left _ (List.mem_append_left _ (List.mem_append_left _ (List.mem_append_left _ (List.mem_append_left _ (List.mem_append_left _ (List.mem_append_left _ (List.mem_append_left _ (List.mem_append_left _ (List.mem_append_left _ (List.mem_append_left _ (List.mem_append_left _ (List.mem_append_left _ (List.mem_append_left _ (List.mem_append_left _ (List.mem_append_left _ (List.mem_append_left _ (List.mem_append_left _ (List.mem_append_right _ h)))))))))))))))))))))
theorem inX7 : ∀ w ∈ wsX70, w ∈ lw_tbl9 := fun w h => wsL_law_in w (inlX7 w h)
theorem inlX8 : ∀ w ∈ wsX80, w ∈ wsL_law := fun _ h => List.mem_append_left _ (List.mem_append_left _ (List.mem_append_left _ (List.mem_append_left _ (List.mem_append_left _ (List.mem_append_left _ (List.mem_append_left _ (List.mem_append_left _ (List.mem_append_left _ (List.mem_append_left _ (List.mem_append_left _ (List.mem_append_left _ (List.mem_append_left _ (List.mem_append_left _ (List.mem_append_left _ (List.mem_append_left _ (List.mem_append_left _ (List.mem_append_left _ (List.mem_append_right _ h))))))))))))))))))
theorem inX8 : ∀ w ∈ wsX80, w ∈ lw_tbl9 := fun w h => wsL_law_in w (inlX8 w h)
theorem inlX9 : ∀ w ∈ wsX90, w ∈ wsL_law := fun _ h => List.mem_append_left _ (List.mem_append_left _ (List.mem_append_left _ (List.mem_append_left _ (List.mem_append_left _ (List.mem_append_left _ (List.mem_append_left _ (List.mem_append_left _ (List.mem_append_left _ (List.mem_append_left _ (List.mem_append_left _ (List.mem_append_left _ (List.mem_append_left _ (List.mem_append_left _ (List.mem_append_left _ (List.mem_append_left _ (List.mem_append_left _ (List.mem_append_left _ (List.mem_append_left _ (List.mem_append_left _ (List.mem_append_left _ (List.mem_append_left _ (List.mem_append_left _ (List.mem_append_right _ h)))))))))))))))))))))))
theorem inX9 : ∀ w ∈ wsX90, w ∈ lw_tbl9 := fun w h => wsL_law_in w (inlX9 w h)
theorem inlX10 : ∀ w ∈ wsX100, w ∈ wsL_law := fun _ h => List.mem_append_left _ (List.mem_append_left _ (List.mem_append_left _ (List.mem_append_left _ (List.mem_append_left _ (List.mem_append_left _ (List.mem_append_left _ (List.mem_append_left _ (List.mem_append_left _ (List.mem_append_left _ (List.mem_append_left _ (List.mem_append_left _ (List.mem_append_left _ (List.mem_append_left _ (List.mem_append_left _ (List.mem_append_left _ (List.mem_append_left _ (List.mem_append_left _ (List.mem_append_left _ (List.mem_append_right _ h)))))))))))))))))))
theorem inX10 : ∀ w ∈ wsX100, w ∈ lw_tbl9 := fun w h => wsL_law_in w (inlX10 w h)
theorem inlX11 : ∀ w ∈ wsX110, w ∈ wsL_law := fun _ h => List.mem_append_left _ (List.mem_append_left _ (List.mem_append_left _ (List.mem_append_left _ (List.mem_append_left _ (List.mem_append_left _ (List.mem_append_left _ (List.mem_append_left _ (List.mem_append_left _ (List.mem_append_left _ (List.mem_append_left _ (List.mem_append_left _ (List.mem_append_left _ (List.mem_append_left _ (List.mem_append_left _ (List.mem_append_left _ (List.mem_append_left _ (List.mem_append_left _ (List.mem_append_left _ (List.mem_append_left _ (List.mem_append_left _ (List.mem_append_left _ (List.mem_append_left _ (List.mem_append_left _ (List.mem_append_left _ (List.mem_append_left _ (List.mem_append_left _ (List.mem_append_left _ (List.mem_append_right _ h))))))))))))))))))))))))))))
theorem inX11 : ∀ w ∈ wsX110, w ∈ lw_tbl9 := fun w h => wsL_law_in w (inlX11 w h)
theorem inlX12 : ∀ w ∈ wsX120, w ∈ wsL_law := fun _ h => List.mem_append_left _ (List.mem_append_left _ (List.mem_append_left _ (List.mem_append_left _ (List.mem_append_left _ (List.mem_append_left _ (List.mem_append_left _ (List.mem_append_left _ (List.mem_append_left _ (List.mem_append_left _ (List.mem_append_left _ (List.mem_append_right _ h)))))))))))
theorem inX12 : ∀ w ∈ wsX120, w ∈ lw_tbl9 := fun w h => wsL_law_in w (inlX12 w h)
theorem inlX13 : ∀ w ∈ wsX130, w ∈ wsL_law := fun _ h => List.mem_append_left _ (List.mem_append_left _ (List.mem_append_left _ (List.mem_append_left _ (List.mem_append_left _ (List.mem_append_left _ (List.mem_append_left _ (List.mem_append_left _ (List.mem_append_left _ (List.mem_append_left _ (List.mem_append_left _ (List.mem_append_left _ (List.mem_append_left _ (List.mem_append_left _ (List.mem_append_right _ h))))))))))))))
theorem inX13 : ∀ w ∈ wsX130, w ∈ lw_tbl9 := fun w h => wsL_law_in w (inlX13 w h)
theorem inlX14 : ∀ w ∈ wsX140, w ∈ wsL_law := fun _ h => List.mem_append_left _ (List.mem_append_left _ (List.mem_append_left _ (List.mem_append_left _ (List.mem_append_left _ (List.mem_append_left _ (List.mem_append_left _ (List.mem_append_left _ (List.mem_append_left _ (List.mem_append_left _ (List.mem_append_left _ (List.mem_append_left _ (List.mem_append_left _ (List.mem_append_right _ h)))))))))))))
theorem inX14 : ∀ w ∈ wsX140, w ∈ lw_tbl9 := fun w h => wsL_law_in w (inlX14 w h)
theorem inlX15 : ∀ w ∈ wsX150, w ∈ wsL_law := fun _ h => List.mem_append_left _ (List.mem_append_left _ (List.mem_append_left _ (List.mem_append_left _ (List.mem_append_left _ (List.mem_append_left _ (List.mem_append_left _ (List.mem_append_left _ (List.mem_append_left _ (List.mem_append_left _ (List.mem_append_left _ (List.mem_append_left _ (List.mem_append_left _ (List.mem_append_left _ (List.mem_append_left _ (List.mem_append_left _ (List.mem_append_left _ (List.mem_append_left _ (List.mem_append_left _ (List.mem_append_left _ (List.mem_append_left _ (List.mem_append_left _ (List.mem_append_left _ (List.mem_append_left _ (List.mem_append_left _ (List.mem_append_left _ (List.mem_append_left _ (List.mem_append_right _ h)))))))))))))))))))))))))))
theorem inX15 : ∀ w ∈ wsX150, w ∈ lw_tbl9 := fun w h => wsL_law_in w (inlX15 w h)
theorem inJx145de : ∀ w ∈ wsJx145de0, w ∈ lw_tbl9 := by decide +kernel
theorem inJ5 : ∀ w ∈ wsJ50, w ∈ lw_tbl9 := by decide +kernel
theorem inJx2cfe8 : ∀ w ∈ wsJx2cfe80, w ∈ lw_tbl9 := by decide +kernel
theorem inJx00060 : ∀ w ∈ wsJx000600, w ∈ lw_tbl9 := by decide +kernel
theorem inJx9f9b0 : ∀ w ∈ wsJx9f9b00, w ∈ lw_tbl9 := by decide +kernel
theorem inJ11 : ∀ w ∈ wsJ110, w ∈ lw_tbl9 := by decide +kernel
theorem inJx8e188 : ∀ w ∈ wsJx8e1880, w ∈ lw_tbl9 := by decide +kernel
theorem inJxb160c : ∀ w ∈ wsJxb160c0, w ∈ lw_tbl9 := by decide +kernel
theorem inJ6 : ∀ w ∈ wsJ60, w ∈ lw_tbl9 := by decide +kernel
theorem inJxab1ab : ∀ w ∈ wsJxab1ab0, w ∈ lw_tbl9 := by decide +kernel
theorem inJ13 : ∀ w ∈ wsJ130, w ∈ lw_tbl9 := by decide +kernel
theorem inJ9 : ∀ w ∈ wsJ90, w ∈ lw_tbl9 := by decide +kernel
theorem inJxd2413 : ∀ w ∈ wsJxd24130, w ∈ lw_tbl9 := by decide +kernel
theorem inlJ0 : ∀ w ∈ wsJ00, w ∈ wsL_law := fun _ h => List.mem_append_left _ (List.mem_append_left _ (List.mem_append_left _ (List.mem_append_left _ (List.mem_append_left _ (List.mem_append_left _ (List.mem_append_left _ (List.mem_append_left _ (List.mem_append_left _ (List.mem_append_left _ (List.mem_append_left _ (List.mem_append_left _ (List.mem_append_right _ h))))))))))))
theorem inJ0 : ∀ w ∈ wsJ00, w ∈ lw_tbl9 := fun w h => wsL_law_in w (inlJ0 w h)
theorem inlJ4 : ∀ w ∈ wsJ40, w ∈ wsL_law := fun _ h => List.mem_append_left _ (List.mem_append_left _ (List.mem_append_left _ (List.mem_append_left _ (List.mem_append_left _ (List.mem_append_left _ (List.mem_append_left _ (List.mem_append_left _ (List.mem_append_left _ (List.mem_append_right _ h)))))))))
theorem inJ4 : ∀ w ∈ wsJ40, w ∈ lw_tbl9 := fun w h => wsL_law_in w (inlJ4 w h)
theorem inJ1 : ∀ w ∈ wsJ10, w ∈ lw_tbl9 := by decide +kernel
theorem inJ2 : ∀ w ∈ wsJ20, w ∈ lw_tbl9 := by decide +kernel
theorem inJ10 : ∀ w ∈ wsJ100, w ∈ lw_tbl9 := by decide +kernel
theorem inJxfd54e : ∀ w ∈ wsJxfd54e0, w ∈ lw_tbl9 := by decide +kernel
theorem inJx3cf43 : ∀ w ∈ wsJx3cf430, w ∈ lw_tbl9 := by decide +kernel
theorem inJxa1e45 : ∀ w ∈ wsJxa1e450, w ∈ lw_tbl9 := by decide +kernel
theorem inJxc12de : ∀ w ∈ wsJxc12de0, w ∈ lw_tbl9 := by decide +kernel
theorem inlJx35411 : ∀ w ∈ wsJx354110, w ∈ wsL_law := fun _ h => List.mem_append_left _ (List.mem_append_left _ (List.mem_append_left _ (List.mem_append_left _ (List.mem_append_left _ (List.mem_append_left _ (List.mem_append_left _ (List.mem_append_left _ (List.mem_append_left _ (List.mem_append_left _ (List.mem_append_right _ h))))))))))
theorem inJx35411 : ∀ w ∈ wsJx354110, w ∈ lw_tbl9 := fun w h => wsL_law_in w (inlJx35411 w h)
theorem inlJx4a65c : ∀ w ∈ wsJx4a65c0, w ∈ wsL_law := fun _ h => List.mem_append_left _ (List.mem_append_left _ (List.mem_append_left _ (List.mem_append_left _ (List.mem_append_left _ (List.mem_append_left _ (List.mem_append_left _ (List.mem_append_left _ (List.mem_append_left _ (List.mem_append_left _ (List.mem_append_left _ (List.mem_append_left _ (List.mem_append_left _ (List.mem_append_left _ (List.mem_append_left _ (List.mem_append_right _ h)))))))))))))))
theorem inJx4a65c : ∀ w ∈ wsJx4a65c0, w ∈ lw_tbl9 := fun w h => wsL_law_in w (inlJx4a65c w h)
theorem inJ7 : ∀ w ∈ wsJ70, w ∈ lw_tbl9 := by decide +kernel
theorem inJx5ef63 : ∀ w ∈ wsJx5ef630, w ∈ lw_tbl9 := by decide +kernel
theorem inJx4d0d8 : ∀ w ∈ wsJx4d0d80, w ∈ lw_tbl9 := by decide +kernel
theorem inJxbd725 : ∀ w ∈ wsJxbd7250, w ∈ lw_tbl9 := by decide +kernel
theorem inJ15 : ∀ w ∈ wsJ150, w ∈ lw_tbl9 := by decide +kernel
theorem inJxf0a74 : ∀ w ∈ wsJxf0a740, w ∈ lw_tbl9 := by decide +kernel
theorem inJxa66e6 : ∀ w ∈ wsJxa66e60, w ∈ lw_tbl9 := by decide +kernel
theorem inJ8 : ∀ w ∈ wsJ80, w ∈ lw_tbl9 := by decide +kernel
theorem inJ3 : ∀ w ∈ wsJ30, w ∈ lw_tbl9 := by decide +kernel
-- ===== the law =====
theorem arrV_same {cI : ClassId} {N : Nat} {f g : Nat → Value} (h : ∀ j : Nat, j < N → f j = g j) : arrV cI N f = arrV cI N g := by
  unfold arrV
  rw [show (fun j : Fin N => f j.val) = (fun j : Fin N => g j.val) from funext fun j => h j.val j.isLt]
theorem tr_eq {cS : ClassId} {a : Nat} : vp_cell cS (4, .inr (.inr (.inr (.inr (va_up (va_up (va_up (va_up (fun _ => none) (Int32.toNatClampNeg 0) (some a)) (Int32.toNatClampNeg 1) (some a)) (Int32.toNatClampNeg 2) (some a)) (Int32.toNatClampNeg 3) (some a)))))) = vp_cell cS (4, .inr (.inr (.inr (.inr (fun _ => some a))))) := by
  rw [vp_cell_q, vp_cell_q]
  refine arrV_same (fun j hj => ?_)
  rcases (show j = 0 ∨ j = 1 ∨ j = 2 ∨ j = 3 by omega) with rfl | rfl | rfl | rfl <;> rfl
theorem P_swap {D : va_G} {cl : List vw_C} {pre : va_W} {a : Nat} {e1 e2 : ClassId × vp_A} {H : Heap} (he : vp_cell e1.1 e1.2 = vp_cell e2.1 e2.2) (hP : va_P D cl (pre ++ [(a, .inl e1)]) H) : va_P D cl (pre ++ [(a, .inl e2)]) H := by
  intro k q hq
  rcases Nat.lt_trichotomy k pre.length with h | h | h
  · rw [List.getElem?_append_left h] at hq
    exact hP k q (by rw [List.getElem?_append_left h]; exact hq)
  · subst h
    rw [List.getElem?_append_right (Nat.le_refl _), Nat.sub_self] at hq
    cases hq
    have h1 := hP pre.length (a, .inl e1) (by rw [List.getElem?_append_right (Nat.le_refl _), Nat.sub_self]; rfl)
    show H[a]? = some (vp_cell e2.1 e2.2)
    rw [← he]
    exact h1
  · rw [List.getElem?_eq_none (by simp; omega)] at hq
    cases hq
theorem D_swap {A : Nat → Prop} {pre : va_W} {a : Nat} {e1 e2 : va_E} (hD : va_D A (pre ++ [(a, e1)])) : va_D A (pre ++ [(a, e2)]) := by
  have key : ∀ (k : Nat) (q : Nat × va_E), (pre ++ [(a, e2)])[k]? = some q → ∃ q' : Nat × va_E, (pre ++ [(a, e1)])[k]? = some q' ∧ q'.1 = q.1 := by
    intro k q hq
    rcases Nat.lt_trichotomy k pre.length with h | h | h
    · rw [List.getElem?_append_left h] at hq
      exact ⟨q, by rw [List.getElem?_append_left h]; exact hq, rfl⟩
    · subst h
      rw [List.getElem?_append_right (Nat.le_refl _), Nat.sub_self] at hq
      cases hq
      exact ⟨(a, e1), by rw [List.getElem?_append_right (Nat.le_refl _), Nat.sub_self]; rfl, rfl⟩
    · rw [List.getElem?_eq_none (by simp; omega)] at hq
      cases hq
  refine ⟨fun i j p q h1 h2 e => ?_, fun k q h => ?_⟩
  · obtain ⟨p', g1, f1⟩ := key i p h1
    obtain ⟨q', g2, f2⟩ := key j q h2
    exact hD.1 i j p' q' g1 g2 (by rw [f1, f2, e])
  · obtain ⟨q', g1, f1⟩ := key k q h
    rw [← f1]
    exact hD.2 k q' g1
theorem K_int {args : Array Value} {s : State} (h : (Cond.arrayClass .int).before args s = true) : ∃ c, ArrOfT s c .int ∧ va_RA s c .int := by
  obtain ⟨c, k, comp, h1, h2, h3⟩ := Cond.arrayClass_spec h
  exact ⟨c, fun n z => ⟨fun k h => (by cases h), k, h2, comp, h3⟩, h1⟩
theorem K_byte {args : Array Value} {s : State} (h : (Cond.arrayClass .byte).before args s = true) : ∃ c, ArrOfT s c .byte ∧ va_RA s c .byte := by
  obtain ⟨c, k, comp, h1, h2, h3⟩ := Cond.arrayClass_spec h
  exact ⟨c, fun n z => ⟨fun k h => (by cases h), k, h2, comp, h3⟩, h1⟩
theorem sh_cmp {c : Cnt} (h : ¬ totC c = 0) : Op.cmpValue (FP.dcmp (FP.f2d (shV c)) (FP.f2d (shV c))) .l = 0 := fl_cmp ((fl_f2d _).trans (sh_nan h))
theorem nwL_tab : ∀ w ∈ nwL, w.onTables = true := by decide +kernel
theorem nwL_in : ∀ w ∈ nwL, w ∈ lw_tbl9 := by decide +kernel
theorem zB_in : ∀ w ∈ zB, w ∈ lw_tbl9 := by decide +kernel
theorem sx0 : vp_in (0 : Int32) 7 := by unfold vp_in; decide
theorem sx1 : vp_in ((0 : Int32) + 1) 7 := by unfold vp_in; decide
theorem sx2 : vp_in ((0 : Int32) + 2) 7 := by unfold vp_in; decide
theorem sx3 : vp_in ((0 : Int32) + 3) 7 := by unfold vp_in; decide
theorem sx4 : vp_in ((0 : Int32) + 4) 7 := by unfold vp_in; decide
theorem sx5 : vp_in ((0 : Int32) + 5) 7 := by unfold vp_in; decide
theorem sx6 : vp_in ((0 : Int32) + 6) 7 := by unfold vp_in; decide
theorem law_end {p : Program} {e : Env} {s : State} {m : MethodId} {below : List Frame} {meth : Method} {c : Code} {l : Launch} {b : Nat} {xs : Nat → Int32} (hx : p.tables.exec = Jvm.exec) (hb : c.code = cL_law) (hr : meth.sig.returnType = ret) (hml : c.maxLocals = 9) (hX : va_X b 7 xs s s.heap) (hbl : b < s.heap.size) (hlocks : meth.locks = false) {A : Nat → Prop} (hbA : ¬ A b) (hAo : ∀ q, A q → s.heap.size ≤ q) {H : Heap} {locs : List Loc} (hS : va_S A s.heap H locs) {ls : Array Slot} (hl : lv_has ls 9 [(0, .ref b), (5, .int 0)]) : W p l e room_1 s m #[Value.ref b] below meth c H locs 600006 7302039 (lw_Z below #[Value.ref b] s) (F0 m 2778 ls []) := by
  refine lv_iinc (v := 7) (lv' := [(5, .int 7), (0, .ref b)]) hx hb dL_law_2778 hl (k := 1) rfl (by decide) (by decide) rfl (fun ls hl => ?_)
  refine lv_goto (tgt := 28) hx hb dL_law_2781 (by decide) ?_
  refine lv_iload hx hb dL_law_28 (lv_at hl 0 rfl) ?_
  refine lv_aload_n hx hb dL_law_30 rfl (lv_at hl 1 rfl) ?_
  refine va_slen hx hb hX hbl hbA hS dL_law_31 ?_
  refine lv_bipush (v := 7) hx hb dL_law_32 (by decide) ?_
  refine lv_isub hx hb dL_law_34 ?_
  refine lv_icmp_gt (tgt := 2784) hx hb dL_law_35 (by decide) (fun hc => ?_) (fun hc => absurd (by decide) hc)
  refine lv_iconst (v := 1) hx hb dL_law_2784 (by decide) ?_
  refine va_forget (fun q hq => hAo _ (hS.2.2 q hq)) ?_
  refine W.base ?_
  exact lw_ret (Drawn.sameBut.refl s.drawn lw_cs) hx hb hr hlocks dL_law_2785
/-- what lies there at the entry, out of the premises -/
theorem zs_start {s : State} {b : Nat} {A : Nat → Prop} (hts : ∀ w ∈ lw_tbl9, w.before #[Value.ref b] s = true) (hgv : (Jvm.Cond.and given_1 narrow_1).before #[Value.ref b] s = true) (hAn : ∀ a : Nat, a < s.heap.size → ¬ A a) : nwA s ∧ zX A s s.heap ∧ ∃ (e0 : Nat) (aK aV : Nat → Nat), zM e0 aK aV A s s.heap := by
  have hs := flat_of_before _ hgv
  have hN : nwA s := fun w hw => va_Nw.of (nwL_tab w hw) (hts w (nwL_in w hw))
  refine ⟨hN, ⟨⟨vx_Zqof (hts _ (by decide +kernel)) (hts _ (by decide +kernel)) (hs _ (by decide +kernel)) hAn, vx_Zqof (hts _ (by decide +kernel)) (hts _ (by decide +kernel)) (hs _ (by decide +kernel)) hAn⟩, fun w hw => va_Nw.of (zB_tab w hw) (hts w (zB_in w hw)), va_AO.of (hts _ (by decide +kernel)), va_Nc.of (hs _ (by decide +kernel))⟩, ?_⟩
  obtain ⟨e0, he0, hT0⟩ := va_Tof (s := s) (tm := .static "java/util/ArrayList" "DEFAULTCAPACITY_EMPTY_ELEMENTDATA" "[Ljava/lang/Object;") (ty := .object "java/lang/Object") (N := 0) (f := fun _ => .null) (by decide) (hs _ (by decide +kernel)) (va_eqt (hs (.eq (.length (.static "java/util/ArrayList" "DEFAULTCAPACITY_EMPTY_ELEMENTDATA" "[Ljava/lang/Object;")) (.int 0)) (by decide +kernel))) (fun j hj => absurd hj (Nat.not_lt_zero j)) hAn
  obtain ⟨aK, aV, hSS, hSe⟩ := vk_Sof (s := s) (N := 2) (tm := (fun i : Nat => if i = 0 then Term.string "BeaverhallModel" 193 else Term.string "BeaverhallModel" 331)) (len := [0, 5]) (byt := [[], [104, 110, 111, 115, 109]]) (A := A) (fun i hi => by rcases (show i = 0 ∨ i = 1 by omega) with rfl | rfl; exact (by decide); exact (by decide)) (fun i hi => by rcases (show i = 0 ∨ i = 1 by omega) with rfl | rfl; exact hs (.exactly (.string "BeaverhallModel" 193) "java/lang/String") (by decide +kernel); exact hs (.exactly (.string "BeaverhallModel" 331) "java/lang/String") (by decide +kernel)) (fun i hi => by rcases (show i = 0 ∨ i = 1 by omega) with rfl | rfl; exact hs (.eq (.field (.string "BeaverhallModel" 193) "java/lang/String" "coder" "B") (.int 0)) (by decide +kernel); exact hs (.eq (.field (.string "BeaverhallModel" 331) "java/lang/String" "coder" "B") (.int 0)) (by decide +kernel)) (fun i hi => by rcases (show i = 0 ∨ i = 1 by omega) with rfl | rfl; exact hs (.arrayOf (.field (.string "BeaverhallModel" 193) "java/lang/String" "value" "[B") .byte) (by decide +kernel); exact hs (.arrayOf (.field (.string "BeaverhallModel" 331) "java/lang/String" "value" "[B") .byte) (by decide +kernel)) (fun i hi => by rcases (show i = 0 ∨ i = 1 by omega) with rfl | rfl; exact hs (.eq (.length (.field (.string "BeaverhallModel" 193) "java/lang/String" "value" "[B")) (.int 0)) (by decide +kernel); exact hs (.eq (.length (.field (.string "BeaverhallModel" 331) "java/lang/String" "value" "[B")) (.int 5)) (by decide +kernel)) (fun i hi j hj => by rcases (show i = 0 ∨ i = 1 by omega) with rfl | rfl; exact absurd hj (Nat.not_lt_zero j); rcases (show j = 0 ∨ j = 1 ∨ j = 2 ∨ j = 3 ∨ j = 4 from (by have h5 : j < 5 := hj; omega)) with rfl | rfl | rfl | rfl | rfl; exact hs (.eq (.elem (.field (.string "BeaverhallModel" 331) "java/lang/String" "value" "[B") (.int 0)) (.int 104)) (by decide +kernel); exact hs (.eq (.elem (.field (.string "BeaverhallModel" 331) "java/lang/String" "value" "[B") (.int 1)) (.int 110)) (by decide +kernel); exact hs (.eq (.elem (.field (.string "BeaverhallModel" 331) "java/lang/String" "value" "[B") (.int 2)) (.int 111)) (by decide +kernel); exact hs (.eq (.elem (.field (.string "BeaverhallModel" 331) "java/lang/String" "value" "[B") (.int 3)) (.int 115)) (by decide +kernel); exact hs (.eq (.elem (.field (.string "BeaverhallModel" 331) "java/lang/String" "value" "[B") (.int 4)) (.int 109)) (by decide +kernel)) (fun i j hi hj hij => by rcases (show i = 0 ∨ i = 1 by omega) with rfl | rfl <;> rcases (show j = 0 ∨ j = 1 by omega) with rfl | rfl; exact absurd rfl hij; exact Or.inl (hs (.not (.eq (.string "BeaverhallModel" 193) (.string "BeaverhallModel" 331))) (by decide +kernel)); exact Or.inr (hs (.not (.eq (.string "BeaverhallModel" 193) (.string "BeaverhallModel" 331))) (by decide +kernel)); exact absurd rfl hij) hAn
  refine ⟨e0, aK, aV, ⟨va_Zof (hts _ (by decide +kernel)) (hts _ (by decide +kernel)) he0 hAn, hT0, va_Zof (hts _ (by decide +kernel)) (hts _ (by decide +kernel)) (va_eqt (hs (.eq (.static "java/lang/String" "COMPACT_STRINGS" "Z") (.int 1)) (by decide +kernel))) hAn, hSS⟩, ⟨vk_R.of (hts _ (by decide +kernel)) (hSe 0 (by decide)), vk_R.of (hts _ (by decide +kernel)) (hSe 1 (by decide))⟩, va_AO.of (hts _ (by decide +kernel)), va_AO.of (hts _ (by decide +kernel)), va_Nw.of rfl (hts _ (by decide +kernel)), va_Nw.of rfl (hts _ (by decide +kernel)), va_Fw.of (hts _ (by decide +kernel)) (hts _ (by decide +kernel)) (hts _ (by decide +kernel)) (hts _ (by decide +kernel)) (hts _ (by decide +kernel)), va_Nw.of rfl (hts _ (by decide +kernel))⟩
/-- the classes of which objects are made or asked -/
theorem cl_start {s : State} {b : Nat} (hts : ∀ w ∈ lw_tbl9, w.before #[Value.ref b] s = true) : ∃ (dC : Nat → ClassId) (dI : Nat → Nat → Nat), ∀ (k : Nat) (q : vw_C), vwCl[k]? = some q → u_Kn s q.1 q.2.1 q.2.2 (dC k) (dI k) := by
  obtain ⟨c0, iS0, hKn0⟩ := u_known (C := RJ0) (T := TJ0) (N := 4) (n := 4) hts inJ0 (hts (.instantiable RJ0 4) (by decide +kernel))
  obtain ⟨c1, iS1, hKn1⟩ := u_known (C := RJ4) (T := TJ4) (N := 4) (n := 4) hts inJ4 (hts (.instantiable RJ4 4) (by decide +kernel))
  obtain ⟨c2, iS2, hKn2⟩ := u_known (C := RJx00060) (T := TJx00060) (N := 6) (n := 6) hts inJx00060 (hts (.instantiable RJx00060 6) (by decide +kernel))
  obtain ⟨c3, iS3, hKn3⟩ := u_known (C := RJx35411) (T := TJx35411) (N := 4) (n := 4) hts inJx35411 (hts (.instantiable RJx35411 4) (by decide +kernel))
  obtain ⟨c4, iS4, hKn4⟩ := u_known (C := RJx4a65c) (T := TJx4a65c) (N := 3) (n := 3) hts inJx4a65c (hts (.instantiable RJx4a65c 3) (by decide +kernel))
  obtain ⟨c5, iS5, hKn5⟩ := u_known (C := RX0) (T := TX0) (N := 6) (n := 6) hts inX0 (hts (.instantiable RX0 6) (by decide +kernel))
  obtain ⟨c6, iS6, hKn6⟩ := u_known (C := RX1) (T := TX1) (N := 6) (n := 6) hts inX1 (hts (.instantiable RX1 6) (by decide +kernel))
  obtain ⟨c7, iS7, hKn7⟩ := u_known (C := RX2) (T := TX2) (N := 6) (n := 6) hts inX2 (hts (.instantiable RX2 6) (by decide +kernel))
  obtain ⟨c8, iS8, hKn8⟩ := u_known (C := RX3) (T := TX3) (N := 9) (n := 9) hts inX3 (hts (.instantiable RX3 9) (by decide +kernel))
  obtain ⟨c9, iS9, hKn9⟩ := u_known (C := RX4) (T := TX4) (N := 7) (n := 7) hts inX4 (hts (.instantiable RX4 7) (by decide +kernel))
  obtain ⟨c10, iS10, hKn10⟩ := u_known (C := RX5) (T := TX5) (N := 11) (n := 11) hts inX5 (hts (.instantiable RX5 11) (by decide +kernel))
  obtain ⟨c11, iS11, hKn11⟩ := u_known (C := RX6) (T := TX6) (N := 9) (n := 9) hts inX6 (hts (.instantiable RX6 9) (by decide +kernel))
  obtain ⟨c12, iS12, hKn12⟩ := u_known (C := RX7) (T := TX7) (N := 7) (n := 7) hts inX7 (hts (.instantiable RX7 7) (by decide +kernel))
  obtain ⟨c13, iS13, hKn13⟩ := u_known (C := RX8) (T := TX8) (N := 8) (n := 8) hts inX8 (hts (.instantiable RX8 8) (by decide +kernel))
  obtain ⟨c14, iS14, hKn14⟩ := u_known (C := RX9) (T := TX9) (N := 6) (n := 6) hts inX9 (hts (.instantiable RX9 6) (by decide +kernel))
  obtain ⟨c15, iS15, hKn15⟩ := u_known (C := RX10) (T := TX10) (N := 5) (n := 5) hts inX10 (hts (.instantiable RX10 5) (by decide +kernel))
  obtain ⟨c16, iS16, hKn16⟩ := u_known (C := RX11) (T := TX11) (N := 7) (n := 7) hts inX11 (hts (.instantiable RX11 7) (by decide +kernel))
  obtain ⟨c17, iS17, hKn17⟩ := u_known (C := RX12) (T := TX12) (N := 11) (n := 11) hts inX12 (hts (.instantiable RX12 11) (by decide +kernel))
  obtain ⟨c18, iS18, hKn18⟩ := u_known (C := RX13) (T := TX13) (N := 12) (n := 12) hts inX13 (hts (.instantiable RX13 12) (by decide +kernel))
  obtain ⟨c19, iS19, hKn19⟩ := u_known (C := RX14) (T := TX14) (N := 9) (n := 9) hts inX14 (hts (.instantiable RX14 9) (by decide +kernel))
  obtain ⟨c20, iS20, hKn20⟩ := u_known (C := RX15) (T := TX15) (N := 21) (n := 21) hts inX15 (hts (.instantiable RX15 21) (by decide +kernel))
  refine ⟨fun k => ([c0, c1, c2, c3, c4, c5, c6, c7, c8, c9, c10, c11, c12, c13, c14, c15, c16, c17, c18, c19, c20] : List ClassId).getD k c0, fun k => ([iS0, iS1, iS2, iS3, iS4, iS5, iS6, iS7, iS8, iS9, iS10, iS11, iS12, iS13, iS14, iS15, iS16, iS17, iS18, iS19, iS20] : List (Nat → Nat)).getD k iS0, ?_⟩
  intro k q hq
  match k, hq with
  | 0, hq => cases hq; exact hKn0
  | 1, hq => cases hq; exact hKn1
  | 2, hq => cases hq; exact hKn2
  | 3, hq => cases hq; exact hKn3
  | 4, hq => cases hq; exact hKn4
  | 5, hq => cases hq; exact hKn5
  | 6, hq => cases hq; exact hKn6
  | 7, hq => cases hq; exact hKn7
  | 8, hq => cases hq; exact hKn8
  | 9, hq => cases hq; exact hKn9
  | 10, hq => cases hq; exact hKn10
  | 11, hq => cases hq; exact hKn11
  | 12, hq => cases hq; exact hKn12
  | 13, hq => cases hq; exact hKn13
  | 14, hq => cases hq; exact hKn14
  | 15, hq => cases hq; exact hKn15
  | 16, hq => cases hq; exact hKn16
  | 17, hq => cases hq; exact hKn17
  | 18, hq => cases hq; exact hKn18
  | 19, hq => cases hq; exact hKn19
  | 20, hq => cases hq; exact hKn20
  | k + 21, hq => simp [vwCl] at hq

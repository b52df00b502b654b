theorem wd_443 : Cond.classLink RX8 57 "java/lang/IllegalArgumentException" ∈ zv_U := zv_in (n := 443) (by decide +kernel) (by decide +kernel)
theorem wd_107 : Cond.initialized "java/lang/IllegalArgumentException" ∈ zv_U := zv_in (n := 107) (by decide +kernel) (by decide +kernel)
theorem tw_57 : zx_tw "java/lang/IllegalArgumentException" 57 61 := ⟨by decide +kernel, wd_443, wd_107, by decide +kernel, by decide +kernel, by decide +kernel, by decide⟩
theorem wd_511 : Cond.classLink RX8 68 "java/lang/UnsupportedOperationException" ∈ zv_U := zv_in (n := 511) (by decide +kernel) (by decide +kernel)
theorem wd_108 : Cond.initialized "java/lang/UnsupportedOperationException" ∈ zv_U := zv_in (n := 108) (by decide +kernel) (by decide +kernel)
theorem tw_68 : zx_tw "java/lang/UnsupportedOperationException" 68 72 := ⟨by decide +kernel, wd_511, wd_108, by decide +kernel, by decide +kernel, by decide +kernel, by decide⟩
theorem wd_544 : Cond.classLink RX8 81 "java/lang/IndexOutOfBoundsException" ∈ zv_U := zv_in (n := 544) (by decide +kernel) (by decide +kernel)
theorem wd_109 : Cond.initialized "java/lang/IndexOutOfBoundsException" ∈ zv_U := zv_in (n := 109) (by decide +kernel) (by decide +kernel)
theorem tw_81 : zx_tw "java/lang/IndexOutOfBoundsException" 81 85 := ⟨by decide +kernel, wd_544, wd_109, by decide +kernel, by decide +kernel, by decide +kernel, by decide⟩

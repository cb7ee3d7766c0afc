theorem wc_J7_311 : Cond.classLink RJ7 311 "[B" ∈ gw_t := gw_in (in_2 _ (List.mem_of_getElem? (i := 52) (by decide +kernel))) (by decide +kernel)
theorem wl_J7_310 : Cond.methodLink RJ7 310 ⟨"[B", "clone", "()Ljava/lang/Object;"⟩ ∈ gw_t := gw_in (in_2 _ (List.mem_of_getElem? (i := 46) (by decide +kernel))) (by decide +kernel)

theorem law_need : ∀ e ∈ kL_law, ∀ w ∈ needE RL e, w ∈ wsG := List.forall_mem_append.mpr ⟨lnd_0, List.forall_mem_append.mpr ⟨lnd_1, List.forall_mem_append.mpr ⟨lnd_2, List.forall_mem_append.mpr ⟨lnd_3, List.forall_mem_append.mpr ⟨lnd_4, List.forall_mem_append.mpr ⟨lnd_5, List.forall_mem_append.mpr ⟨lnd_6, List.forall_mem_append.mpr ⟨lnd_7, List.forall_mem_append.mpr ⟨lnd_8, List.forall_mem_append.mpr ⟨lnd_9, List.forall_mem_append.mpr ⟨lnd_10, List.forall_mem_append.mpr ⟨lnd_11, List.forall_mem_append.mpr ⟨lnd_12, lnd_13⟩⟩⟩⟩⟩⟩⟩⟩⟩⟩⟩⟩⟩
theorem inst_all : ∀ k, k < 13 → Cond.instantiable (clC k) (clN k) ∈ lw_tbl
  | 0, _ => List.mem_of_getElem? (i := 293) (by decide +kernel)
  | 1, _ => List.mem_of_getElem? (i := 263) (by decide +kernel)
  | 2, _ => List.mem_of_getElem? (i := 344) (by decide +kernel)
  | 3, _ => List.mem_of_getElem? (i := 279) (by decide +kernel)
  | 4, _ => List.mem_of_getElem? (i := 481) (by decide +kernel)
  | 5, _ => List.mem_of_getElem? (i := 442) (by decide +kernel)
  | 6, _ => List.mem_of_getElem? (i := 153) (by decide +kernel)
  | 7, _ => List.mem_of_getElem? (i := 388) (by decide +kernel)
  | 8, _ => List.mem_of_getElem? (i := 423) (by decide +kernel)
  | 9, _ => List.mem_of_getElem? (i := 460) (by decide +kernel)
  | 10, _ => List.mem_of_getElem? (i := 521) (by decide +kernel)
  | 11, _ => List.mem_of_getElem? (i := 143) (by decide +kernel)
  | 12, _ => List.mem_of_getElem? (i := 1305) (by decide +kernel)
theorem nest_mem : ∀ q ∈ nestW, Cond.methodLinkNest q.1 q.2.1 q.2.2 "BreadScribes" ∈ lw_tbl := by
  have h : nestW.map (fun q => Cond.methodLinkNest q.1 q.2.1 q.2.2 "BreadScribes") = [264, 280, 294, 345, 389, 424, 443, 461, 482, 522, 759, 762, 765, 871, 886, 894, 957, 1036, 1042, 1043, 1116, 1117, 1118, 1141, 1175, 1180, 1235].filterMap (fun i => lw_tbl[i]?) := by decide +kernel
  intro q hq
  have h1 := List.mem_map_of_mem (f := fun q : String × Nat × MethodName => Cond.methodLinkNest q.1 q.2.1 q.2.2 "BreadScribes") hq
  rw [h] at h1
  obtain ⟨i, -, hi⟩ := List.mem_filterMap.mp h1
  exact List.mem_of_getElem? hi
theorem acm_int : Cond.arrayClass .int ∈ lw_tbl := List.mem_of_getElem? (i := 291) (by decide +kernel)
theorem acm_long : Cond.arrayClass .long ∈ lw_tbl := List.mem_of_getElem? (i := 261) (by decide +kernel)
theorem acm_byte : Cond.arrayClass .byte ∈ lw_tbl := List.mem_of_getElem? (i := 260) (by decide +kernel)
theorem aom_0 : Cond.arrayOver (.object (elC 0)) ∈ lw_tbl := List.mem_of_getElem? (i := 151) (by decide +kernel)
theorem aom_1 : Cond.arrayOver (.object (elC 1)) ∈ lw_tbl := List.mem_of_getElem? (i := 385) (by decide +kernel)
theorem aom_2 : Cond.arrayOver (.object (elC 2)) ∈ lw_tbl := List.mem_of_getElem? (i := 386) (by decide +kernel)

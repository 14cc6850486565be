/-! the words of the exceptions: by program -/
theorem xa_NS : ∀ w ∈ (Bundle.ownAtoms0 "TypedMill" 106 "java/util/NoSuchElementException" ["java/lang/RuntimeException", "java/lang/Exception"]), w ∈ smT ∨ w ∈ xt_L ++ xt_S := by
  have h1 : ((Bundle.ownAtoms0 "TypedMill" 106 "java/util/NoSuchElementException" ["java/lang/RuntimeException", "java/lang/Exception"]).filter (fun w => !decide (w ∈ xt_L ++ xt_S))) = ([115, 834, 843, 848, 851, 853, 835, 836, 128, 129, 837, 842, 849, 865, 824, 866, 826, 867, 828, 838, 840, 830, 855, 856, 857, 858, 858, 859, 860, 861, 861, 862, 863, 835, 854, 813, 821, 822, 823, 825, 827, 829, 833, 832, 831] : List Nat).filterMap (fun i => lw_tbl[i]?) := by decide +kernel
  have h2 : ((Bundle.ownAtoms0 "TypedMill" 106 "java/util/NoSuchElementException" ["java/lang/RuntimeException", "java/lang/Exception"]).filter (fun w => !decide (w ∈ xt_L ++ xt_S))).all goodWord = true := by decide +kernel
  intro w hw
  by_cases hm : w ∈ xt_L ++ xt_S
  · exact Or.inr hm
  · exact Or.inl (sm_memr _ h1 h2 w (List.mem_filter.mpr ⟨hw, by simpa using hm⟩))
theorem xa_IA : ∀ w ∈ (Bundle.ownAtoms0 "TypedMill" 109 "java/lang/IllegalArgumentException" ["java/lang/RuntimeException", "java/lang/Exception"]), w ∈ smT ∨ w ∈ xt_L ++ xt_S := by
  have h1 : ((Bundle.ownAtoms0 "TypedMill" 109 "java/lang/IllegalArgumentException" ["java/lang/RuntimeException", "java/lang/Exception"]).filter (fun w => !decide (w ∈ xt_L ++ xt_S))) = ([115, 834, 843, 848, 851, 853, 835, 836, 128, 129, 837, 842, 849, 865, 824, 866, 826, 867, 828, 838, 840, 830, 886, 887, 888, 858, 858, 859, 860, 861, 861, 862, 863, 835, 885, 877, 879, 845, 880, 881, 882, 883, 833, 832, 884] : List Nat).filterMap (fun i => lw_tbl[i]?) := by decide +kernel
  have h2 : ((Bundle.ownAtoms0 "TypedMill" 109 "java/lang/IllegalArgumentException" ["java/lang/RuntimeException", "java/lang/Exception"]).filter (fun w => !decide (w ∈ xt_L ++ xt_S))).all goodWord = true := by decide +kernel
  intro w hw
  by_cases hm : w ∈ xt_L ++ xt_S
  · exact Or.inr hm
  · exact Or.inl (sm_memr _ h1 h2 w (List.mem_filter.mpr ⟨hw, by simpa using hm⟩))
theorem xa_IS : ∀ w ∈ (Bundle.ownAtoms0 "TypedMill" 119 "java/lang/IllegalStateException" ["java/lang/RuntimeException", "java/lang/Exception"]), w ∈ smT ∨ w ∈ xt_L ++ xt_S := by
  have h1 : ((Bundle.ownAtoms0 "TypedMill" 119 "java/lang/IllegalStateException" ["java/lang/RuntimeException", "java/lang/Exception"]).filter (fun w => !decide (w ∈ xt_L ++ xt_S))) = ([115, 834, 843, 848, 851, 853, 835, 836, 128, 129, 837, 842, 849, 865, 824, 866, 826, 867, 828, 838, 840, 830, 933, 934, 935, 858, 858, 859, 860, 861, 861, 862, 863, 835, 932, 924, 926, 846, 927, 928, 929, 930, 833, 832, 931] : List Nat).filterMap (fun i => lw_tbl[i]?) := by decide +kernel
  have h2 : ((Bundle.ownAtoms0 "TypedMill" 119 "java/lang/IllegalStateException" ["java/lang/RuntimeException", "java/lang/Exception"]).filter (fun w => !decide (w ∈ xt_L ++ xt_S))).all goodWord = true := by decide +kernel
  intro w hw
  by_cases hm : w ∈ xt_L ++ xt_S
  · exact Or.inr hm
  · exact Or.inl (sm_memr _ h1 h2 w (List.mem_filter.mpr ⟨hw, by simpa using hm⟩))
theorem xa_UO : ∀ w ∈ (Bundle.ownAtoms0 "TypedMill" 144 "java/lang/UnsupportedOperationException" ["java/lang/RuntimeException", "java/lang/Exception"]), w ∈ smT ∨ w ∈ xt_L ++ xt_S := by
  have h1 : ((Bundle.ownAtoms0 "TypedMill" 144 "java/lang/UnsupportedOperationException" ["java/lang/RuntimeException", "java/lang/Exception"]).filter (fun w => !decide (w ∈ xt_L ++ xt_S))) = ([115, 834, 843, 848, 851, 853, 835, 836, 128, 129, 837, 842, 849, 865, 824, 866, 826, 867, 828, 838, 840, 830, 1006, 1007, 1008, 858, 858, 859, 860, 861, 861, 862, 863, 835, 1005, 997, 999, 847, 1000, 1001, 1002, 1003, 833, 832, 1004] : List Nat).filterMap (fun i => lw_tbl[i]?) := by decide +kernel
  have h2 : ((Bundle.ownAtoms0 "TypedMill" 144 "java/lang/UnsupportedOperationException" ["java/lang/RuntimeException", "java/lang/Exception"]).filter (fun w => !decide (w ∈ xt_L ++ xt_S))).all goodWord = true := by decide +kernel
  intro w hw
  by_cases hm : w ∈ xt_L ++ xt_S
  · exact Or.inr hm
  · exact Or.inl (sm_memr _ h1 h2 w (List.mem_filter.mpr ⟨hw, by simpa using hm⟩))

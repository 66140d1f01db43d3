theorem ca_17 {p : Program} {l : Launch} {e : Env} {s : State} {m : MethodId} {below : List Frame} {meth : Method} {c : Code} {b k n L : Nat} {xs : Nat → Int32} {ls : Array Slot} {Λ : Lay} {σ : Mem} {i : Int} (C0 : lw_At p s m meth c b L xs) (hL : L ≤ 3072) (hi : 0 ≤ i ∧ i + 6 ≤ L) (hl : lv_has ls 4 [(3, .int (Int32.ofInt i)), (2, .ref (s.heap.size + 646)), (1, .ref (s.heap.size + 0)), (0, .ref b)]) (hk : k ≤ 600000 ∧ n ≤ 7302250) (hI : LI Λ σ) (hE : ∀ Λ' σ', LI Λ' σ' → LW p l e s m below meth c b k n 1460 ls [] 669 Λ' σ') : LW p l e s m below meth c b k n 903 ls [] 669 Λ σ := by
  refine L_al C0 dl_903 rfl (lv_at hl 2 rfl) ?_
  refine L_arg 1 C0 hL hi hl dl_904 dl_905 dl_906 dl_907 dl_908 rfl (by decide) ?_
  refine L_callI (t := 0) (d := 20) (As := [(0, (xs (i + ((1 : Nat) : Int)).toNat).toInt)]) (rest := []) C0 hl dl_909 ok_mX11_terms ml_L_87 rfl (by decide) (by decide) hk (by decide) rfl (okl [(xs (i + ((1 : Nat) : Int)).toNat)]) kX11 hI.1.1 (G_terms hI.1 hI.2.1 (by decide) fun v1 σ1 hG1 => ?_)
  have hI1 := hI.cls hG1
  refine L_pop C0 dl_912 ?_
  refine L_al C0 dl_913 rfl (lv_at hl 1 rfl) ?_
  refine L_arg 1 C0 hL hi hl dl_914 dl_915 dl_916 dl_917 dl_918 rfl (by decide) ?_
  refine L_callI (t := 646) (d := 20) (As := [(0, (xs (i + ((1 : Nat) : Int)).toNat).toInt)]) (rest := []) C0 hl dl_919 ok_mX12_terms ml_L_90 rfl (by decide) (by decide) hk (by decide) rfl (okl [(xs (i + ((1 : Nat) : Int)).toNat)]) kX12 (show LI Λ _ from hI1).2.2.1.1 (Q_terms hI1.2.2.1 hI1.2.2.2.1 (by decide) fun v2 σ2 hR2 => ?_)
  refine L_pop C0 dl_922 ?_
  exact L_goto C0 dl_923 rfl (hE _ _ (hI1.ref hR2))
theorem ca_18 {p : Program} {l : Launch} {e : Env} {s : State} {m : MethodId} {below : List Frame} {meth : Method} {c : Code} {b k n L : Nat} {xs : Nat → Int32} {ls : Array Slot} {Λ : Lay} {σ : Mem} {i : Int} (C0 : lw_At p s m meth c b L xs) (hL : L ≤ 3072) (hi : 0 ≤ i ∧ i + 6 ≤ L) (hl : lv_has ls 4 [(3, .int (Int32.ofInt i)), (2, .ref (s.heap.size + 646)), (1, .ref (s.heap.size + 0)), (0, .ref b)]) (hk : k ≤ 600000 ∧ n ≤ 7302250) (hI : LI Λ σ) (hE : ∀ Λ' σ', LI Λ' σ' → LW p l e s m below meth c b k n 1460 ls [] 669 Λ' σ') : LW p l e s m below meth c b k n 926 ls [] 669 Λ σ := by
  refine L_al C0 dl_926 rfl (lv_at hl 2 rfl) ?_
  refine L_arg 1 C0 hL hi hl dl_927 dl_928 dl_929 dl_930 dl_931 rfl (by decide) ?_
  refine L_arg 2 C0 hL hi hl dl_932 dl_933 dl_934 dl_935 dl_936 rfl (by decide) ?_
  refine L_arg 3 C0 hL hi hl dl_937 dl_938 dl_939 dl_940 dl_941 rfl (by decide) ?_
  refine L_callI (t := 0) (d := 20) (As := [(0, (xs (i + ((1 : Nat) : Int)).toNat).toInt), (0, (xs (i + ((2 : Nat) : Int)).toNat).toInt), (0, (xs (i + ((3 : Nat) : Int)).toNat).toInt)]) (rest := []) C0 hl dl_942 ok_mX11_term ml_L_91 rfl (by decide) (by decide) hk (by decide) rfl (okl [(xs (i + ((1 : Nat) : Int)).toNat), (xs (i + ((2 : Nat) : Int)).toNat), (xs (i + ((3 : Nat) : Int)).toNat)]) kX11 hI.1.1 (G_term hI.1 hI.2.1 (by decide) fun v1 σ1 hG1 => ?_)
  have hI1 := hI.cls hG1
  refine L_pop C0 dl_945 ?_
  refine L_al C0 dl_946 rfl (lv_at hl 1 rfl) ?_
  refine L_arg 1 C0 hL hi hl dl_947 dl_948 dl_949 dl_950 dl_951 rfl (by decide) ?_
  refine L_arg 2 C0 hL hi hl dl_952 dl_953 dl_954 dl_955 dl_956 rfl (by decide) ?_
  refine L_arg 3 C0 hL hi hl dl_957 dl_958 dl_959 dl_960 dl_961 rfl (by decide) ?_
  refine L_callI (t := 646) (d := 20) (As := [(0, (xs (i + ((1 : Nat) : Int)).toNat).toInt), (0, (xs (i + ((2 : Nat) : Int)).toNat).toInt), (0, (xs (i + ((3 : Nat) : Int)).toNat).toInt)]) (rest := []) C0 hl dl_962 ok_mX12_term_ ml_L_94 rfl (by decide) (by decide) hk (by decide) rfl (okl [(xs (i + ((1 : Nat) : Int)).toNat), (xs (i + ((2 : Nat) : Int)).toNat), (xs (i + ((3 : Nat) : Int)).toNat)]) kX12 (show LI Λ _ from hI1).2.2.1.1 (Q_term hI1.2.2.1 hI1.2.2.2.1 (by decide) fun v2 σ2 hR2 => ?_)
  refine L_pop C0 dl_965 ?_
  exact L_goto C0 dl_966 rfl (hE _ _ (hI1.ref hR2))
theorem ca_19 {p : Program} {l : Launch} {e : Env} {s : State} {m : MethodId} {below : List Frame} {meth : Method} {c : Code} {b k n L : Nat} {xs : Nat → Int32} {ls : Array Slot} {Λ : Lay} {σ : Mem} {i : Int} (C0 : lw_At p s m meth c b L xs) (hL : L ≤ 3072) (hi : 0 ≤ i ∧ i + 6 ≤ L) (hl : lv_has ls 4 [(3, .int (Int32.ofInt i)), (2, .ref (s.heap.size + 646)), (1, .ref (s.heap.size + 0)), (0, .ref b)]) (hk : k ≤ 600000 ∧ n ≤ 7302250) (hI : LI Λ σ) (hE : ∀ Λ' σ', LI Λ' σ' → LW p l e s m below meth c b k n 1460 ls [] 669 Λ' σ') : LW p l e s m below meth c b k n 969 ls [] 669 Λ σ := by
  refine L_al C0 dl_969 rfl (lv_at hl 2 rfl) ?_
  refine L_arg 1 C0 hL hi hl dl_970 dl_971 dl_972 dl_973 dl_974 rfl (by decide) ?_
  refine L_arg 2 C0 hL hi hl dl_975 dl_976 dl_977 dl_978 dl_979 rfl (by decide) ?_
  refine L_callI (t := 0) (d := 20) (As := [(0, (xs (i + ((1 : Nat) : Int)).toNat).toInt), (0, (xs (i + ((2 : Nat) : Int)).toNat).toInt)]) (rest := []) C0 hl dl_980 ok_mX11_degree ml_L_95 rfl (by decide) (by decide) hk (by decide) rfl (okl [(xs (i + ((1 : Nat) : Int)).toNat), (xs (i + ((2 : Nat) : Int)).toNat)]) kX11 hI.1.1 (G_degree hI.1 hI.2.1 (by decide) fun v1 σ1 hG1 => ?_)
  have hI1 := hI.cls hG1
  refine L_pop C0 dl_983 ?_
  refine L_al C0 dl_984 rfl (lv_at hl 1 rfl) ?_
  refine L_arg 1 C0 hL hi hl dl_985 dl_986 dl_987 dl_988 dl_989 rfl (by decide) ?_
  refine L_arg 2 C0 hL hi hl dl_990 dl_991 dl_992 dl_993 dl_994 rfl (by decide) ?_
  refine L_callI (t := 646) (d := 20) (As := [(0, (xs (i + ((1 : Nat) : Int)).toNat).toInt), (0, (xs (i + ((2 : Nat) : Int)).toNat).toInt)]) (rest := []) C0 hl dl_995 ok_mX12_degree ml_L_98 rfl (by decide) (by decide) hk (by decide) rfl (okl [(xs (i + ((1 : Nat) : Int)).toNat), (xs (i + ((2 : Nat) : Int)).toNat)]) kX12 (show LI Λ _ from hI1).2.2.1.1 (Q_degree hI1.2.2.1 hI1.2.2.2.1 (by decide) fun v2 σ2 hR2 => ?_)
  refine L_pop C0 dl_998 ?_
  exact L_goto C0 dl_999 rfl (hE _ _ (hI1.ref hR2))
theorem ca_20 {p : Program} {l : Launch} {e : Env} {s : State} {m : MethodId} {below : List Frame} {meth : Method} {c : Code} {b k n L : Nat} {xs : Nat → Int32} {ls : Array Slot} {Λ : Lay} {σ : Mem} {i : Int} (C0 : lw_At p s m meth c b L xs) (hL : L ≤ 3072) (hi : 0 ≤ i ∧ i + 6 ≤ L) (hl : lv_has ls 4 [(3, .int (Int32.ofInt i)), (2, .ref (s.heap.size + 646)), (1, .ref (s.heap.size + 0)), (0, .ref b)]) (hk : k ≤ 600000 ∧ n ≤ 7302250) (hI : LI Λ σ) (hE : ∀ Λ' σ', LI Λ' σ' → LW p l e s m below meth c b k n 1460 ls [] 669 Λ' σ') : LW p l e s m below meth c b k n 1002 ls [] 669 Λ σ := by
  refine L_al C0 dl_1002 rfl (lv_at hl 2 rfl) ?_
  refine L_arg 1 C0 hL hi hl dl_1003 dl_1004 dl_1005 dl_1006 dl_1007 rfl (by decide) ?_
  refine L_callI (t := 0) (d := 20) (As := [(0, (xs (i + ((1 : Nat) : Int)).toNat).toInt)]) (rest := []) C0 hl dl_1008 ok_mX11_steps ml_L_99 rfl (by decide) (by decide) hk (by decide) rfl (okl [(xs (i + ((1 : Nat) : Int)).toNat)]) kX11 hI.1.1 (G_steps hI.1 hI.2.1 (by decide) fun v1 σ1 hG1 => ?_)
  have hI1 := hI.cls hG1
  refine L_pop C0 dl_1011 ?_
  refine L_al C0 dl_1012 rfl (lv_at hl 1 rfl) ?_
  refine L_arg 1 C0 hL hi hl dl_1013 dl_1014 dl_1015 dl_1016 dl_1017 rfl (by decide) ?_
  refine L_callI (t := 646) (d := 20) (As := [(0, (xs (i + ((1 : Nat) : Int)).toNat).toInt)]) (rest := []) C0 hl dl_1018 ok_mX12_steps_ ml_L_102 rfl (by decide) (by decide) hk (by decide) rfl (okl [(xs (i + ((1 : Nat) : Int)).toNat)]) kX12 (show LI Λ _ from hI1).2.2.1.1 (Q_steps hI1.2.2.1 hI1.2.2.2.1 (by decide) fun v2 σ2 hR2 => ?_)
  refine L_pop C0 dl_1021 ?_
  exact L_goto C0 dl_1022 rfl (hE _ _ (hI1.ref hR2))
theorem ca_21 {p : Program} {l : Launch} {e : Env} {s : State} {m : MethodId} {below : List Frame} {meth : Method} {c : Code} {b k n L : Nat} {xs : Nat → Int32} {ls : Array Slot} {Λ : Lay} {σ : Mem} {i : Int} (C0 : lw_At p s m meth c b L xs) (hL : L ≤ 3072) (hi : 0 ≤ i ∧ i + 6 ≤ L) (hl : lv_has ls 4 [(3, .int (Int32.ofInt i)), (2, .ref (s.heap.size + 646)), (1, .ref (s.heap.size + 0)), (0, .ref b)]) (hk : k ≤ 600000 ∧ n ≤ 7302250) (hI : LI Λ σ) (hE : ∀ Λ' σ', LI Λ' σ' → LW p l e s m below meth c b k n 1460 ls [] 669 Λ' σ') : LW p l e s m below meth c b k n 1025 ls [] 669 Λ σ := by
  refine L_al C0 dl_1025 rfl (lv_at hl 2 rfl) ?_
  refine L_arg 1 C0 hL hi hl dl_1026 dl_1027 dl_1028 dl_1029 dl_1030 rfl (by decide) ?_
  refine L_callI (t := 0) (d := 20) (As := [(0, (xs (i + ((1 : Nat) : Int)).toNat).toInt)]) (rest := []) C0 hl dl_1031 ok_mX11_left ml_L_103 rfl (by decide) (by decide) hk (by decide) rfl (okl [(xs (i + ((1 : Nat) : Int)).toNat)]) kX11 hI.1.1 (G_left hI.1 hI.2.1 (by decide) fun v1 σ1 hG1 => ?_)
  have hI1 := hI.cls hG1
  refine L_pop C0 dl_1034 ?_
  refine L_al C0 dl_1035 rfl (lv_at hl 1 rfl) ?_
  refine L_arg 1 C0 hL hi hl dl_1036 dl_1037 dl_1038 dl_1039 dl_1040 rfl (by decide) ?_
  refine L_callI (t := 646) (d := 20) (As := [(0, (xs (i + ((1 : Nat) : Int)).toNat).toInt)]) (rest := []) C0 hl dl_1041 ok_mX12_left ml_L_106 rfl (by decide) (by decide) hk (by decide) rfl (okl [(xs (i + ((1 : Nat) : Int)).toNat)]) kX12 (show LI Λ _ from hI1).2.2.1.1 (Q_left hI1.2.2.1 hI1.2.2.2.1 (by decide) fun v2 σ2 hR2 => ?_)
  refine L_pop C0 dl_1044 ?_
  exact L_goto C0 dl_1045 rfl (hE _ _ (hI1.ref hR2))
theorem ca_22 {p : Program} {l : Launch} {e : Env} {s : State} {m : MethodId} {below : List Frame} {meth : Method} {c : Code} {b k n L : Nat} {xs : Nat → Int32} {ls : Array Slot} {Λ : Lay} {σ : Mem} {i : Int} (C0 : lw_At p s m meth c b L xs) (hL : L ≤ 3072) (hi : 0 ≤ i ∧ i + 6 ≤ L) (hl : lv_has ls 4 [(3, .int (Int32.ofInt i)), (2, .ref (s.heap.size + 646)), (1, .ref (s.heap.size + 0)), (0, .ref b)]) (hk : k ≤ 600000 ∧ n ≤ 7302250) (hI : LI Λ σ) (hE : ∀ Λ' σ', LI Λ' σ' → LW p l e s m below meth c b k n 1460 ls [] 669 Λ' σ') : LW p l e s m below meth c b k n 1048 ls [] 669 Λ σ := by
  refine L_al C0 dl_1048 rfl (lv_at hl 2 rfl) ?_
  refine L_arg 1 C0 hL hi hl dl_1049 dl_1050 dl_1051 dl_1052 dl_1053 rfl (by decide) ?_
  refine L_arg 2 C0 hL hi hl dl_1054 dl_1055 dl_1056 dl_1057 dl_1058 rfl (by decide) ?_
  refine L_callI (t := 0) (d := 20) (As := [(0, (xs (i + ((1 : Nat) : Int)).toNat).toInt), (0, (xs (i + ((2 : Nat) : Int)).toNat).toInt)]) (rest := []) C0 hl dl_1059 ok_mX11_equal ml_L_107 rfl (by decide) (by decide) hk (by decide) rfl (okl [(xs (i + ((1 : Nat) : Int)).toNat), (xs (i + ((2 : Nat) : Int)).toNat)]) kX11 hI.1.1 (G_equal hI.1 hI.2.1 (by decide) fun v1 σ1 hG1 => ?_)
  have hI1 := hI.cls hG1
  refine L_pop C0 dl_1062 ?_
  refine L_al C0 dl_1063 rfl (lv_at hl 1 rfl) ?_
  refine L_arg 1 C0 hL hi hl dl_1064 dl_1065 dl_1066 dl_1067 dl_1068 rfl (by decide) ?_
  refine L_arg 2 C0 hL hi hl dl_1069 dl_1070 dl_1071 dl_1072 dl_1073 rfl (by decide) ?_
  refine L_callI (t := 646) (d := 20) (As := [(0, (xs (i + ((1 : Nat) : Int)).toNat).toInt), (0, (xs (i + ((2 : Nat) : Int)).toNat).toInt)]) (rest := []) C0 hl dl_1074 ok_mX12_equal ml_L_110 rfl (by decide) (by decide) hk (by decide) rfl (okl [(xs (i + ((1 : Nat) : Int)).toNat), (xs (i + ((2 : Nat) : Int)).toNat)]) kX12 (show LI Λ _ from hI1).2.2.1.1 (Q_equal hI1.2.2.1 hI1.2.2.2.1 (by decide) fun v2 σ2 hR2 => ?_)
  refine L_pop C0 dl_1077 ?_
  exact L_goto C0 dl_1078 rfl (hE _ _ (hI1.ref hR2))
theorem ca_23 {p : Program} {l : Launch} {e : Env} {s : State} {m : MethodId} {below : List Frame} {meth : Method} {c : Code} {b k n L : Nat} {xs : Nat → Int32} {ls : Array Slot} {Λ : Lay} {σ : Mem} {i : Int} (C0 : lw_At p s m meth c b L xs) (hL : L ≤ 3072) (hi : 0 ≤ i ∧ i + 6 ≤ L) (hl : lv_has ls 4 [(3, .int (Int32.ofInt i)), (2, .ref (s.heap.size + 646)), (1, .ref (s.heap.size + 0)), (0, .ref b)]) (hk : k ≤ 600000 ∧ n ≤ 7302250) (hI : LI Λ σ) (hE : ∀ Λ' σ', LI Λ' σ' → LW p l e s m below meth c b k n 1460 ls [] 669 Λ' σ') : LW p l e s m below meth c b k n 1081 ls [] 669 Λ σ := by
  refine L_al C0 dl_1081 rfl (lv_at hl 2 rfl) ?_
  refine L_arg 1 C0 hL hi hl dl_1082 dl_1083 dl_1084 dl_1085 dl_1086 rfl (by decide) ?_
  refine L_callI (t := 0) (d := 20) (As := [(0, (xs (i + ((1 : Nat) : Int)).toNat).toInt)]) (rest := []) C0 hl dl_1087 ok_mX11_forms ml_L_111 rfl (by decide) (by decide) hk (by decide) rfl (okl [(xs (i + ((1 : Nat) : Int)).toNat)]) kX11 hI.1.1 (G_forms hI.1 hI.2.1 (by decide) fun v1 σ1 hG1 => ?_)
  have hI1 := hI.cls hG1
  refine L_pop C0 dl_1090 ?_
  refine L_al C0 dl_1091 rfl (lv_at hl 1 rfl) ?_
  refine L_arg 1 C0 hL hi hl dl_1092 dl_1093 dl_1094 dl_1095 dl_1096 rfl (by decide) ?_
  refine L_callI (t := 646) (d := 20) (As := [(0, (xs (i + ((1 : Nat) : Int)).toNat).toInt)]) (rest := []) C0 hl dl_1097 ok_mX12_forms ml_L_114 rfl (by decide) (by decide) hk (by decide) rfl (okl [(xs (i + ((1 : Nat) : Int)).toNat)]) kX12 (show LI Λ _ from hI1).2.2.1.1 (Q_forms hI1.2.2.1 hI1.2.2.2.1 (by decide) fun v2 σ2 hR2 => ?_)
  refine L_pop C0 dl_1100 ?_
  exact L_goto C0 dl_1101 rfl (hE _ _ (hI1.ref hR2))
theorem ca_24 {p : Program} {l : Launch} {e : Env} {s : State} {m : MethodId} {below : List Frame} {meth : Method} {c : Code} {b k n L : Nat} {xs : Nat → Int32} {ls : Array Slot} {Λ : Lay} {σ : Mem} {i : Int} (C0 : lw_At p s m meth c b L xs) (hL : L ≤ 3072) (hi : 0 ≤ i ∧ i + 6 ≤ L) (hl : lv_has ls 4 [(3, .int (Int32.ofInt i)), (2, .ref (s.heap.size + 646)), (1, .ref (s.heap.size + 0)), (0, .ref b)]) (hk : k ≤ 600000 ∧ n ≤ 7302250) (hI : LI Λ σ) (hE : ∀ Λ' σ', LI Λ' σ' → LW p l e s m below meth c b k n 1460 ls [] 669 Λ' σ') : LW p l e s m below meth c b k n 1104 ls [] 669 Λ σ := by
  refine L_al C0 dl_1104 rfl (lv_at hl 2 rfl) ?_
  refine L_arg 1 C0 hL hi hl dl_1105 dl_1106 dl_1107 dl_1108 dl_1109 rfl (by decide) ?_
  refine L_arg 2 C0 hL hi hl dl_1110 dl_1111 dl_1112 dl_1113 dl_1114 rfl (by decide) ?_
  refine L_arg 3 C0 hL hi hl dl_1115 dl_1116 dl_1117 dl_1118 dl_1119 rfl (by decide) ?_
  refine L_callI (t := 0) (d := 20) (As := [(0, (xs (i + ((1 : Nat) : Int)).toNat).toInt), (0, (xs (i + ((2 : Nat) : Int)).toNat).toInt), (0, (xs (i + ((3 : Nat) : Int)).toNat).toInt)]) (rest := []) C0 hl dl_1120 ok_mX11_form ml_L_115 rfl (by decide) (by decide) hk (by decide) rfl (okl [(xs (i + ((1 : Nat) : Int)).toNat), (xs (i + ((2 : Nat) : Int)).toNat), (xs (i + ((3 : Nat) : Int)).toNat)]) kX11 hI.1.1 (G_form hI.1 hI.2.1 (by decide) fun v1 σ1 hG1 => ?_)
  have hI1 := hI.cls hG1
  refine L_pop C0 dl_1123 ?_
  refine L_al C0 dl_1124 rfl (lv_at hl 1 rfl) ?_
  refine L_arg 1 C0 hL hi hl dl_1125 dl_1126 dl_1127 dl_1128 dl_1129 rfl (by decide) ?_
  refine L_arg 2 C0 hL hi hl dl_1130 dl_1131 dl_1132 dl_1133 dl_1134 rfl (by decide) ?_
  refine L_arg 3 C0 hL hi hl dl_1135 dl_1136 dl_1137 dl_1138 dl_1139 rfl (by decide) ?_
  refine L_callI (t := 646) (d := 20) (As := [(0, (xs (i + ((1 : Nat) : Int)).toNat).toInt), (0, (xs (i + ((2 : Nat) : Int)).toNat).toInt), (0, (xs (i + ((3 : Nat) : Int)).toNat).toInt)]) (rest := []) C0 hl dl_1140 ok_mX12_form ml_L_118 rfl (by decide) (by decide) hk (by decide) rfl (okl [(xs (i + ((1 : Nat) : Int)).toNat), (xs (i + ((2 : Nat) : Int)).toNat), (xs (i + ((3 : Nat) : Int)).toNat)]) kX12 (show LI Λ _ from hI1).2.2.1.1 (Q_form hI1.2.2.1 hI1.2.2.2.1 (by decide) fun v2 σ2 hR2 => ?_)
  refine L_pop C0 dl_1143 ?_
  exact L_goto C0 dl_1144 rfl (hE _ _ (hI1.ref hR2))
theorem ca_25 {p : Program} {l : Launch} {e : Env} {s : State} {m : MethodId} {below : List Frame} {meth : Method} {c : Code} {b k n L : Nat} {xs : Nat → Int32} {ls : Array Slot} {Λ : Lay} {σ : Mem} {i : Int} (C0 : lw_At p s m meth c b L xs) (hL : L ≤ 3072) (hi : 0 ≤ i ∧ i + 6 ≤ L) (hl : lv_has ls 4 [(3, .int (Int32.ofInt i)), (2, .ref (s.heap.size + 646)), (1, .ref (s.heap.size + 0)), (0, .ref b)]) (hk : k ≤ 600000 ∧ n ≤ 7302250) (hI : LI Λ σ) (hE : ∀ Λ' σ', LI Λ' σ' → LW p l e s m below meth c b k n 1460 ls [] 669 Λ' σ') : LW p l e s m below meth c b k n 1147 ls [] 669 Λ σ := by
  refine L_al C0 dl_1147 rfl (lv_at hl 2 rfl) ?_
  refine L_arg 1 C0 hL hi hl dl_1148 dl_1149 dl_1150 dl_1151 dl_1152 rfl (by decide) ?_
  refine L_callX (t := 0) (d := 20) (As := [(0, (xs (i + ((1 : Nat) : Int)).toNat).toInt)]) (rest := []) C0 hl dl_1153 ok_mX11_rank ml_L_119 rfl (by decide) (by decide) hk (by decide) rfl (okl [(xs (i + ((1 : Nat) : Int)).toNat)]) kX11 hI.1.1 (G_rank hI.1 hI.2.1 (by decide) fun v1 Λ1 σ1 hX1 hL1 hG1 => ?_)
  have hI1 : LI Λ1 σ1 := ⟨hX1, (hI.cls hG1).2.1, hI.2.2.1.lay (fun c c0 => hL1 c (by omega)), (hI.cls hG1).2.2.2⟩
  refine L_pop C0 dl_1156 ?_
  refine L_al C0 dl_1157 rfl (lv_at hl 1 rfl) ?_
  refine L_arg 1 C0 hL hi hl dl_1158 dl_1159 dl_1160 dl_1161 dl_1162 rfl (by decide) ?_
  refine L_callI (t := 646) (d := 20) (As := [(0, (xs (i + ((1 : Nat) : Int)).toNat).toInt)]) (rest := []) C0 hl dl_1163 ok_mX12_rank ml_L_122 rfl (by decide) (by decide) hk (by decide) rfl (okl [(xs (i + ((1 : Nat) : Int)).toNat)]) kX12 (show LI Λ1 _ from hI1).2.2.1.1 (K_rank hI1.2.2.1 hI1.2.2.2.1 (by decide) fun v2 σ2 hR2 => ?_)
  refine L_pop C0 dl_1166 ?_
  exact L_goto C0 dl_1167 rfl (hE _ _ (hI1.ref hR2))
theorem ca_26 {p : Program} {l : Launch} {e : Env} {s : State} {m : MethodId} {below : List Frame} {meth : Method} {c : Code} {b k n L : Nat} {xs : Nat → Int32} {ls : Array Slot} {Λ : Lay} {σ : Mem} {i : Int} (C0 : lw_At p s m meth c b L xs) (hL : L ≤ 3072) (hi : 0 ≤ i ∧ i + 6 ≤ L) (hl : lv_has ls 4 [(3, .int (Int32.ofInt i)), (2, .ref (s.heap.size + 646)), (1, .ref (s.heap.size + 0)), (0, .ref b)]) (hk : k ≤ 600000 ∧ n ≤ 7302250) (hI : LI Λ σ) (hE : ∀ Λ' σ', LI Λ' σ' → LW p l e s m below meth c b k n 1460 ls [] 669 Λ' σ') : LW p l e s m below meth c b k n 1170 ls [] 669 Λ σ := by
  refine L_al C0 dl_1170 rfl (lv_at hl 2 rfl) ?_
  refine L_arg 1 C0 hL hi hl dl_1171 dl_1172 dl_1173 dl_1174 dl_1175 rfl (by decide) ?_
  refine L_arg 2 C0 hL hi hl dl_1176 dl_1177 dl_1178 dl_1179 dl_1180 rfl (by decide) ?_
  refine L_callI (t := 0) (d := 20) (As := [(0, (xs (i + ((1 : Nat) : Int)).toNat).toInt), (0, (xs (i + ((2 : Nat) : Int)).toNat).toInt)]) (rest := []) C0 hl dl_1181 ok_mX11_factor ml_L_123 rfl (by decide) (by decide) hk (by decide) rfl (okl [(xs (i + ((1 : Nat) : Int)).toNat), (xs (i + ((2 : Nat) : Int)).toNat)]) kX11 hI.1.1 (G_factor hI.1 hI.2.1 (by decide) fun v1 σ1 hG1 => ?_)
  have hI1 := hI.cls hG1
  refine L_pop C0 dl_1184 ?_
  refine L_al C0 dl_1185 rfl (lv_at hl 1 rfl) ?_
  refine L_arg 1 C0 hL hi hl dl_1186 dl_1187 dl_1188 dl_1189 dl_1190 rfl (by decide) ?_
  refine L_arg 2 C0 hL hi hl dl_1191 dl_1192 dl_1193 dl_1194 dl_1195 rfl (by decide) ?_
  refine L_callI (t := 646) (d := 20) (As := [(0, (xs (i + ((1 : Nat) : Int)).toNat).toInt), (0, (xs (i + ((2 : Nat) : Int)).toNat).toInt)]) (rest := []) C0 hl dl_1196 ok_mX12_factor ml_L_126 rfl (by decide) (by decide) hk (by decide) rfl (okl [(xs (i + ((1 : Nat) : Int)).toNat), (xs (i + ((2 : Nat) : Int)).toNat)]) kX12 (show LI Λ _ from hI1).2.2.1.1 (Q_factor hI1.2.2.1 hI1.2.2.2.1 (by decide) fun v2 σ2 hR2 => ?_)
  refine L_pop C0 dl_1199 ?_
  exact L_goto C0 dl_1200 rfl (hE _ _ (hI1.ref hR2))
theorem ca_27 {p : Program} {l : Launch} {e : Env} {s : State} {m : MethodId} {below : List Frame} {meth : Method} {c : Code} {b k n L : Nat} {xs : Nat → Int32} {ls : Array Slot} {Λ : Lay} {σ : Mem} {i : Int} (C0 : lw_At p s m meth c b L xs) (hL : L ≤ 3072) (hi : 0 ≤ i ∧ i + 6 ≤ L) (hl : lv_has ls 4 [(3, .int (Int32.ofInt i)), (2, .ref (s.heap.size + 646)), (1, .ref (s.heap.size + 0)), (0, .ref b)]) (hk : k ≤ 600000 ∧ n ≤ 7302250) (hI : LI Λ σ) (hE : ∀ Λ' σ', LI Λ' σ' → LW p l e s m below meth c b k n 1460 ls [] 669 Λ' σ') : LW p l e s m below meth c b k n 1203 ls [] 669 Λ σ := by
  refine L_al C0 dl_1203 rfl (lv_at hl 2 rfl) ?_
  refine L_arg 1 C0 hL hi hl dl_1204 dl_1205 dl_1206 dl_1207 dl_1208 rfl (by decide) ?_
  refine L_callI (t := 0) (d := 20) (As := [(0, (xs (i + ((1 : Nat) : Int)).toNat).toInt)]) (rest := []) C0 hl dl_1209 ok_mX11_isFinal ml_L_127 rfl (by decide) (by decide) hk (by decide) rfl (okl [(xs (i + ((1 : Nat) : Int)).toNat)]) kX11 hI.1.1 (G_isFinal hI.1 hI.2.1 (by decide) fun v1 σ1 hG1 => ?_)
  have hI1 := hI.cls hG1
  refine L_pop C0 dl_1212 ?_
  refine L_al C0 dl_1213 rfl (lv_at hl 1 rfl) ?_
  refine L_arg 1 C0 hL hi hl dl_1214 dl_1215 dl_1216 dl_1217 dl_1218 rfl (by decide) ?_
  refine L_callI (t := 646) (d := 20) (As := [(0, (xs (i + ((1 : Nat) : Int)).toNat).toInt)]) (rest := []) C0 hl dl_1219 ok_mX12_isFinal ml_L_130 rfl (by decide) (by decide) hk (by decide) rfl (okl [(xs (i + ((1 : Nat) : Int)).toNat)]) kX12 (show LI Λ _ from hI1).2.2.1.1 (Q_isFinal hI1.2.2.1 hI1.2.2.2.1 (by decide) fun v2 σ2 hR2 => ?_)
  refine L_pop C0 dl_1222 ?_
  exact L_goto C0 dl_1223 rfl (hE _ _ (hI1.ref hR2))
theorem ca_28 {p : Program} {l : Launch} {e : Env} {s : State} {m : MethodId} {below : List Frame} {meth : Method} {c : Code} {b k n L : Nat} {xs : Nat → Int32} {ls : Array Slot} {Λ : Lay} {σ : Mem} {i : Int} (C0 : lw_At p s m meth c b L xs) (hL : L ≤ 3072) (hi : 0 ≤ i ∧ i + 6 ≤ L) (hl : lv_has ls 4 [(3, .int (Int32.ofInt i)), (2, .ref (s.heap.size + 646)), (1, .ref (s.heap.size + 0)), (0, .ref b)]) (hk : k ≤ 600000 ∧ n ≤ 7302250) (hI : LI Λ σ) (hE : ∀ Λ' σ', LI Λ' σ' → LW p l e s m below meth c b k n 1460 ls [] 669 Λ' σ') : LW p l e s m below meth c b k n 1226 ls [] 669 Λ σ := by
  refine L_al C0 dl_1226 rfl (lv_at hl 2 rfl) ?_
  refine L_arg 1 C0 hL hi hl dl_1227 dl_1228 dl_1229 dl_1230 dl_1231 rfl (by decide) ?_
  refine L_arg 2 C0 hL hi hl dl_1232 dl_1233 dl_1234 dl_1235 dl_1236 rfl (by decide) ?_
  refine L_arg 3 C0 hL hi hl dl_1237 dl_1238 dl_1239 dl_1240 dl_1241 rfl (by decide) ?_
  refine L_callI (t := 0) (d := 20) (As := [(0, (xs (i + ((1 : Nat) : Int)).toNat).toInt), (0, (xs (i + ((2 : Nat) : Int)).toNat).toInt), (0, (xs (i + ((3 : Nat) : Int)).toNat).toInt)]) (rest := []) C0 hl dl_1242 ok_mX11_known ml_L_131 rfl (by decide) (by decide) hk (by decide) rfl (okl [(xs (i + ((1 : Nat) : Int)).toNat), (xs (i + ((2 : Nat) : Int)).toNat), (xs (i + ((3 : Nat) : Int)).toNat)]) kX11 hI.1.1 (G_known hI.1 hI.2.1 (by decide) fun v1 σ1 hG1 => ?_)
  have hI1 := hI.cls hG1
  refine L_pop C0 dl_1245 ?_
  refine L_al C0 dl_1246 rfl (lv_at hl 1 rfl) ?_
  refine L_arg 1 C0 hL hi hl dl_1247 dl_1248 dl_1249 dl_1250 dl_1251 rfl (by decide) ?_
  refine L_arg 2 C0 hL hi hl dl_1252 dl_1253 dl_1254 dl_1255 dl_1256 rfl (by decide) ?_
  refine L_arg 3 C0 hL hi hl dl_1257 dl_1258 dl_1259 dl_1260 dl_1261 rfl (by decide) ?_
  refine L_callI (t := 646) (d := 20) (As := [(0, (xs (i + ((1 : Nat) : Int)).toNat).toInt), (0, (xs (i + ((2 : Nat) : Int)).toNat).toInt), (0, (xs (i + ((3 : Nat) : Int)).toNat).toInt)]) (rest := []) C0 hl dl_1262 ok_mX12_known ml_L_134 rfl (by decide) (by decide) hk (by decide) rfl (okl [(xs (i + ((1 : Nat) : Int)).toNat), (xs (i + ((2 : Nat) : Int)).toNat), (xs (i + ((3 : Nat) : Int)).toNat)]) kX12 (show LI Λ _ from hI1).2.2.1.1 (Q_known hI1.2.2.1 hI1.2.2.2.1 (by decide) fun v2 σ2 hR2 => ?_)
  refine L_pop C0 dl_1265 ?_
  exact L_goto C0 dl_1266 rfl (hE _ _ (hI1.ref hR2))
theorem ca_29 {p : Program} {l : Launch} {e : Env} {s : State} {m : MethodId} {below : List Frame} {meth : Method} {c : Code} {b k n L : Nat} {xs : Nat → Int32} {ls : Array Slot} {Λ : Lay} {σ : Mem} {i : Int} (C0 : lw_At p s m meth c b L xs) (hL : L ≤ 3072) (hi : 0 ≤ i ∧ i + 6 ≤ L) (hl : lv_has ls 4 [(3, .int (Int32.ofInt i)), (2, .ref (s.heap.size + 646)), (1, .ref (s.heap.size + 0)), (0, .ref b)]) (hk : k ≤ 600000 ∧ n ≤ 7302250) (hI : LI Λ σ) (hE : ∀ Λ' σ', LI Λ' σ' → LW p l e s m below meth c b k n 1460 ls [] 669 Λ' σ') : LW p l e s m below meth c b k n 1269 ls [] 669 Λ σ := by
  refine L_al C0 dl_1269 rfl (lv_at hl 2 rfl) ?_
  refine L_arg 1 C0 hL hi hl dl_1270 dl_1271 dl_1272 dl_1273 dl_1274 rfl (by decide) ?_
  refine L_arg 2 C0 hL hi hl dl_1275 dl_1276 dl_1277 dl_1278 dl_1279 rfl (by decide) ?_
  refine L_callI (t := 0) (d := 20) (As := [(0, (xs (i + ((1 : Nat) : Int)).toNat).toInt), (0, (xs (i + ((2 : Nat) : Int)).toNat).toInt)]) (rest := []) C0 hl dl_1280 ok_mX11_at ml_L_135 rfl (by decide) (by decide) hk (by decide) rfl (okl [(xs (i + ((1 : Nat) : Int)).toNat), (xs (i + ((2 : Nat) : Int)).toNat)]) kX11 hI.1.1 (G_atc hI.1 hI.2.1 (by decide) fun v1 σ1 hG1 => ?_)
  have hI1 := hI.cls hG1
  refine L_pop C0 dl_1283 ?_
  refine L_al C0 dl_1284 rfl (lv_at hl 1 rfl) ?_
  refine L_arg 1 C0 hL hi hl dl_1285 dl_1286 dl_1287 dl_1288 dl_1289 rfl (by decide) ?_
  refine L_arg 2 C0 hL hi hl dl_1290 dl_1291 dl_1292 dl_1293 dl_1294 rfl (by decide) ?_
  refine L_callI (t := 646) (d := 20) (As := [(0, (xs (i + ((1 : Nat) : Int)).toNat).toInt), (0, (xs (i + ((2 : Nat) : Int)).toNat).toInt)]) (rest := []) C0 hl dl_1295 ok_mX12_at ml_L_138 rfl (by decide) (by decide) hk (by decide) rfl (okl [(xs (i + ((1 : Nat) : Int)).toNat), (xs (i + ((2 : Nat) : Int)).toNat)]) kX12 (show LI Λ _ from hI1).2.2.1.1 (Q_at hI1.2.2.1 hI1.2.2.2.1 (by decide) fun v2 σ2 hR2 => ?_)
  refine L_pop C0 dl_1298 ?_
  exact L_goto C0 dl_1299 rfl (hE _ _ (hI1.ref hR2))
theorem ca_30 {p : Program} {l : Launch} {e : Env} {s : State} {m : MethodId} {below : List Frame} {meth : Method} {c : Code} {b k n L : Nat} {xs : Nat → Int32} {ls : Array Slot} {Λ : Lay} {σ : Mem} {i : Int} (C0 : lw_At p s m meth c b L xs) (hL : L ≤ 3072) (hi : 0 ≤ i ∧ i + 6 ≤ L) (hl : lv_has ls 4 [(3, .int (Int32.ofInt i)), (2, .ref (s.heap.size + 646)), (1, .ref (s.heap.size + 0)), (0, .ref b)]) (hk : k ≤ 600000 ∧ n ≤ 7302250) (hI : LI Λ σ) (hE : ∀ Λ' σ', LI Λ' σ' → LW p l e s m below meth c b k n 1460 ls [] 669 Λ' σ') : LW p l e s m below meth c b k n 1302 ls [] 669 Λ σ := by
  refine L_al C0 dl_1302 rfl (lv_at hl 2 rfl) ?_
  refine L_arg 1 C0 hL hi hl dl_1303 dl_1304 dl_1305 dl_1306 dl_1307 rfl (by decide) ?_
  refine L_arg 2 C0 hL hi hl dl_1308 dl_1309 dl_1310 dl_1311 dl_1312 rfl (by decide) ?_
  refine L_arg 3 C0 hL hi hl dl_1313 dl_1314 dl_1315 dl_1316 dl_1317 rfl (by decide) ?_
  refine L_callI (t := 0) (d := 20) (As := [(0, (xs (i + ((1 : Nat) : Int)).toNat).toInt), (0, (xs (i + ((2 : Nat) : Int)).toNat).toInt), (0, (xs (i + ((3 : Nat) : Int)).toNat).toInt)]) (rest := []) C0 hl dl_1318 ok_mX11_worth ml_L_139 rfl (by decide) (by decide) hk (by decide) rfl (okl [(xs (i + ((1 : Nat) : Int)).toNat), (xs (i + ((2 : Nat) : Int)).toNat), (xs (i + ((3 : Nat) : Int)).toNat)]) kX11 hI.1.1 (G_worth hI.1 hI.2.1 (by decide) fun v1 σ1 hG1 => ?_)
  have hI1 := hI.cls hG1
  refine L_pop C0 dl_1321 ?_
  refine L_al C0 dl_1322 rfl (lv_at hl 1 rfl) ?_
  refine L_arg 1 C0 hL hi hl dl_1323 dl_1324 dl_1325 dl_1326 dl_1327 rfl (by decide) ?_
  refine L_arg 2 C0 hL hi hl dl_1328 dl_1329 dl_1330 dl_1331 dl_1332 rfl (by decide) ?_
  refine L_arg 3 C0 hL hi hl dl_1333 dl_1334 dl_1335 dl_1336 dl_1337 rfl (by decide) ?_
  refine L_callI (t := 646) (d := 20) (As := [(0, (xs (i + ((1 : Nat) : Int)).toNat).toInt), (0, (xs (i + ((2 : Nat) : Int)).toNat).toInt), (0, (xs (i + ((3 : Nat) : Int)).toNat).toInt)]) (rest := []) C0 hl dl_1338 ok_mX12_worth ml_L_142 rfl (by decide) (by decide) hk (by decide) rfl (okl [(xs (i + ((1 : Nat) : Int)).toNat), (xs (i + ((2 : Nat) : Int)).toNat), (xs (i + ((3 : Nat) : Int)).toNat)]) kX12 (show LI Λ _ from hI1).2.2.1.1 (Q_worth hI1.2.2.1 hI1.2.2.2.1 (by decide) fun v2 σ2 hR2 => ?_)
  refine L_pop C0 dl_1341 ?_
  exact L_goto C0 dl_1342 rfl (hE _ _ (hI1.ref hR2))
theorem ca_31 {p : Program} {l : Launch} {e : Env} {s : State} {m : MethodId} {below : List Frame} {meth : Method} {c : Code} {b k n L : Nat} {xs : Nat → Int32} {ls : Array Slot} {Λ : Lay} {σ : Mem} {i : Int} (C0 : lw_At p s m meth c b L xs) (hL : L ≤ 3072) (hi : 0 ≤ i ∧ i + 6 ≤ L) (hl : lv_has ls 4 [(3, .int (Int32.ofInt i)), (2, .ref (s.heap.size + 646)), (1, .ref (s.heap.size + 0)), (0, .ref b)]) (hk : k ≤ 600000 ∧ n ≤ 7302250) (hI : LI Λ σ) (hE : ∀ Λ' σ', LI Λ' σ' → LW p l e s m below meth c b k n 1460 ls [] 669 Λ' σ') : LW p l e s m below meth c b k n 1345 ls [] 669 Λ σ := by
  refine L_al C0 dl_1345 rfl (lv_at hl 2 rfl) ?_
  refine L_arg 1 C0 hL hi hl dl_1346 dl_1347 dl_1348 dl_1349 dl_1350 rfl (by decide) ?_
  refine L_callL (t := 0) (d := 20) (As := [(0, (xs (i + ((1 : Nat) : Int)).toNat).toInt)]) (rest := []) C0 hl dl_1351 ok_mX11_value ml_L_143 rfl (by decide) (by decide) hk (by decide) rfl (okl [(xs (i + ((1 : Nat) : Int)).toNat)]) kX11 hI.1.1 (G_value hI.1 hI.2.1 (by decide) fun v1 σ1 hG1 => ?_)
  have hI1 := hI.cls hG1
  refine L_pop2 C0 dl_1354 ?_
  refine L_al C0 dl_1355 rfl (lv_at hl 1 rfl) ?_
  refine L_arg 1 C0 hL hi hl dl_1356 dl_1357 dl_1358 dl_1359 dl_1360 rfl (by decide) ?_
  refine L_callL (t := 646) (d := 20) (As := [(0, (xs (i + ((1 : Nat) : Int)).toNat).toInt)]) (rest := []) C0 hl dl_1361 ok_mX12_value ml_L_147 rfl (by decide) (by decide) hk (by decide) rfl (okl [(xs (i + ((1 : Nat) : Int)).toNat)]) kX12 (show LI Λ _ from hI1).2.2.1.1 (Q_value hI1.2.2.1 hI1.2.2.2.1 (by decide) fun v2 σ2 hR2 => ?_)
  refine L_pop2 C0 dl_1364 ?_
  exact L_goto C0 dl_1365 rfl (hE _ _ (hI1.ref hR2))
theorem ca_32 {p : Program} {l : Launch} {e : Env} {s : State} {m : MethodId} {below : List Frame} {meth : Method} {c : Code} {b k n L : Nat} {xs : Nat → Int32} {ls : Array Slot} {Λ : Lay} {σ : Mem} {i : Int} (C0 : lw_At p s m meth c b L xs) (hL : L ≤ 3072) (hi : 0 ≤ i ∧ i + 6 ≤ L) (hl : lv_has ls 4 [(3, .int (Int32.ofInt i)), (2, .ref (s.heap.size + 646)), (1, .ref (s.heap.size + 0)), (0, .ref b)]) (hk : k ≤ 600000 ∧ n ≤ 7302250) (hI : LI Λ σ) (hE : ∀ Λ' σ', LI Λ' σ' → LW p l e s m below meth c b k n 1460 ls [] 669 Λ' σ') : LW p l e s m below meth c b k n 1368 ls [] 669 Λ σ := by
  refine L_al C0 dl_1368 rfl (lv_at hl 2 rfl) ?_
  refine L_arg 1 C0 hL hi hl dl_1369 dl_1370 dl_1371 dl_1372 dl_1373 rfl (by decide) ?_
  refine L_callI (t := 0) (d := 20) (As := [(0, (xs (i + ((1 : Nat) : Int)).toNat).toInt)]) (rest := []) C0 hl dl_1374 ok_mX11_undo ml_L_148 rfl (by decide) (by decide) hk (by decide) rfl (okl [(xs (i + ((1 : Nat) : Int)).toNat)]) kX11 hI.1.1 (G_undo hI.1 hI.2.1 (by decide) fun v1 σ1 hG1 => ?_)
  have hI1 := hI.cls hG1
  refine L_pop C0 dl_1377 ?_
  refine L_al C0 dl_1378 rfl (lv_at hl 1 rfl) ?_
  refine L_arg 1 C0 hL hi hl dl_1379 dl_1380 dl_1381 dl_1382 dl_1383 rfl (by decide) ?_
  refine L_callI (t := 646) (d := 20) (As := [(0, (xs (i + ((1 : Nat) : Int)).toNat).toInt)]) (rest := []) C0 hl dl_1384 ok_mX12_undo ml_L_151 rfl (by decide) (by decide) hk (by decide) rfl (okl [(xs (i + ((1 : Nat) : Int)).toNat)]) kX12 (show LI Λ _ from hI1).2.2.1.1 (Q_undo hI1.2.2.1 hI1.2.2.2.1 (by decide) fun v2 σ2 hR2 => ?_)
  refine L_pop C0 dl_1387 ?_
  exact L_goto C0 dl_1388 rfl (hE _ _ (hI1.ref hR2))
theorem ca_33 {p : Program} {l : Launch} {e : Env} {s : State} {m : MethodId} {below : List Frame} {meth : Method} {c : Code} {b k n L : Nat} {xs : Nat → Int32} {ls : Array Slot} {Λ : Lay} {σ : Mem} {i : Int} (C0 : lw_At p s m meth c b L xs) (hL : L ≤ 3072) (hi : 0 ≤ i ∧ i + 6 ≤ L) (hl : lv_has ls 4 [(3, .int (Int32.ofInt i)), (2, .ref (s.heap.size + 646)), (1, .ref (s.heap.size + 0)), (0, .ref b)]) (hk : k ≤ 600000 ∧ n ≤ 7302250) (hI : LI Λ σ) (hE : ∀ Λ' σ', LI Λ' σ' → LW p l e s m below meth c b k n 1460 ls [] 669 Λ' σ') : LW p l e s m below meth c b k n 1391 ls [] 669 Λ σ := by
  refine L_al C0 dl_1391 rfl (lv_at hl 2 rfl) ?_
  refine L_arg 1 C0 hL hi hl dl_1392 dl_1393 dl_1394 dl_1395 dl_1396 rfl (by decide) ?_
  refine L_callI (t := 0) (d := 20) (As := [(0, (xs (i + ((1 : Nat) : Int)).toNat).toInt)]) (rest := []) C0 hl dl_1397 ok_mX11_image ml_L_152 rfl (by decide) (by decide) hk (by decide) rfl (okl [(xs (i + ((1 : Nat) : Int)).toNat)]) kX11 hI.1.1 (G_image hI.1 hI.2.1 (by decide) (fun hn => ?_) (fun hx σ1 hG1 => ?_))
  · refine L_pop C0 dl_1400 ?_
    refine L_al C0 dl_1401 rfl (lv_at hl 1 rfl) ?_
    refine L_arg 1 C0 hL hi hl dl_1402 dl_1403 dl_1404 dl_1405 dl_1406 rfl (by decide) ?_
    refine L_callI (t := 646) (d := 20) (As := [(0, (xs (i + ((1 : Nat) : Int)).toNat).toInt)]) (rest := []) C0 hl dl_1407 ok_mX12_image ml_L_155 rfl (by decide) (by decide) hk (by decide) rfl (okl [(xs (i + ((1 : Nat) : Int)).toNat)]) kX12 (show LI Λ _ from hI).2.2.1.1 (Q_image hI.2.2.1 hI.2.2.2.1 (by decide) (fun _ σ2 hR2 => ?_) (fun hx => absurd hx hn))
    refine L_pop C0 dl_1410 ?_
    exact L_goto C0 dl_1411 rfl (hE _ _ (hI.ref hR2))
  · refine L_pop C0 dl_1400 ?_
    have hI1 := hI.cls hG1
    refine L_al C0 dl_1401 rfl (lv_at hl 1 rfl) ?_
    refine L_arg 1 C0 hL hi hl dl_1402 dl_1403 dl_1404 dl_1405 dl_1406 rfl (by decide) ?_
    refine L_callI (t := 646) (d := 20) (As := [(0, (xs (i + ((1 : Nat) : Int)).toNat).toInt)]) (rest := []) C0 hl dl_1407 ok_mX12_image ml_L_155 rfl (by decide) (by decide) hk (by decide) rfl (okl [(xs (i + ((1 : Nat) : Int)).toNat)]) kX12 (show LI Λ _ from hI1).2.2.1.1 (Q_image hI1.2.2.1 (RI.at1 hI1) (by decide) (fun hn => absurd hx hn) (fun _ σ2 hR2 => ?_))
    refine L_pop C0 dl_1410 ?_
    exact L_goto C0 dl_1411 rfl (hE _ _ (hI.img hG1 hR2))
theorem ca_34 {p : Program} {l : Launch} {e : Env} {s : State} {m : MethodId} {below : List Frame} {meth : Method} {c : Code} {b k n L : Nat} {xs : Nat → Int32} {ls : Array Slot} {Λ : Lay} {σ : Mem} {i : Int} (C0 : lw_At p s m meth c b L xs) (hL : L ≤ 3072) (hi : 0 ≤ i ∧ i + 6 ≤ L) (hl : lv_has ls 4 [(3, .int (Int32.ofInt i)), (2, .ref (s.heap.size + 646)), (1, .ref (s.heap.size + 0)), (0, .ref b)]) (hk : k ≤ 600000 ∧ n ≤ 7302250) (hI : LI Λ σ) (hE : ∀ Λ' σ', LI Λ' σ' → LW p l e s m below meth c b k n 1460 ls [] 669 Λ' σ') : LW p l e s m below meth c b k n 1414 ls [] 669 Λ σ := by
  refine L_al C0 dl_1414 rfl (lv_at hl 2 rfl) ?_
  refine L_arg 1 C0 hL hi hl dl_1415 dl_1416 dl_1417 dl_1418 dl_1419 rfl (by decide) ?_
  refine L_callI (t := 0) (d := 20) (As := [(0, (xs (i + ((1 : Nat) : Int)).toNat).toInt)]) (rest := []) C0 hl dl_1420 ok_mX11_restore ml_L_156 rfl (by decide) (by decide) hk (by decide) rfl (okl [(xs (i + ((1 : Nat) : Int)).toNat)]) kX11 hI.1.1 (G_restore hI.1 hI.2.1 (by decide) (fun hn => ?_) (fun hx hm => ?_) (fun hx hm σ1 hG1 => ?_))
  · refine L_pop C0 dl_1423 ?_
    refine L_al C0 dl_1424 rfl (lv_at hl 1 rfl) ?_
    refine L_arg 1 C0 hL hi hl dl_1425 dl_1426 dl_1427 dl_1428 dl_1429 rfl (by decide) ?_
    refine L_callI (t := 646) (d := 20) (As := [(0, (xs (i + ((1 : Nat) : Int)).toNat).toInt)]) (rest := []) C0 hl dl_1430 ok_mX12_restore ml_L_159 rfl (by decide) (by decide) hk (by decide) rfl (okl [(xs (i + ((1 : Nat) : Int)).toNat)]) kX12 (show LI Λ _ from hI).2.2.1.1 (Q_restore hI.2.2.1 hI.2.2.2.1 (by decide) (fun _ σ2 hR2 => ?_) (fun _ _ σ2 hR2 => ?_) (fun _ _ σ2 hR2 => ?_))
    · refine L_pop C0 dl_1433 ?_
      exact L_goto C0 dl_1434 rfl (hE _ _ (hI.ref hR2))
    · refine L_pop C0 dl_1433 ?_
      exact L_goto C0 dl_1434 rfl (hE _ _ (hI.ref hR2))
    · refine L_pop C0 dl_1433 ?_
      exact L_goto C0 dl_1434 rfl (hE _ _ (hI.ref hR2))
  · refine L_pop C0 dl_1423 ?_
    refine L_al C0 dl_1424 rfl (lv_at hl 1 rfl) ?_
    refine L_arg 1 C0 hL hi hl dl_1425 dl_1426 dl_1427 dl_1428 dl_1429 rfl (by decide) ?_
    refine L_callI (t := 646) (d := 20) (As := [(0, (xs (i + ((1 : Nat) : Int)).toNat).toInt)]) (rest := []) C0 hl dl_1430 ok_mX12_restore ml_L_159 rfl (by decide) (by decide) hk (by decide) rfl (okl [(xs (i + ((1 : Nat) : Int)).toNat)]) kX12 (show LI Λ _ from hI).2.2.1.1 (Q_restore hI.2.2.1 hI.2.2.2.1 (by decide) (fun _ σ2 hR2 => ?_) (fun _ _ σ2 hR2 => ?_) (fun _ _ σ2 hR2 => ?_))
    · refine L_pop C0 dl_1433 ?_
      exact L_goto C0 dl_1434 rfl (hE _ _ (hI.ref hR2))
    · refine L_pop C0 dl_1433 ?_
      exact L_goto C0 dl_1434 rfl (hE _ _ (hI.ref hR2))
    · refine L_pop C0 dl_1433 ?_
      exact L_goto C0 dl_1434 rfl (hE _ _ (hI.ref hR2))
  · refine L_pop C0 dl_1423 ?_
    have hI1 := hI.cls hG1
    refine L_al C0 dl_1424 rfl (lv_at hl 1 rfl) ?_
    refine L_arg 1 C0 hL hi hl dl_1425 dl_1426 dl_1427 dl_1428 dl_1429 rfl (by decide) ?_
    refine L_callI (t := 646) (d := 20) (As := [(0, (xs (i + ((1 : Nat) : Int)).toNat).toInt)]) (rest := []) C0 hl dl_1430 ok_mX12_restore ml_L_159 rfl (by decide) (by decide) hk (by decide) rfl (okl [(xs (i + ((1 : Nat) : Int)).toNat)]) kX12 (show LI Λ _ from hI1).2.2.1.1 (Q_restore hI1.2.2.1 hI1.2.2.2.1 (by decide) (fun _ σ2 hR2 => ?_) (fun _ _ σ2 hR2 => ?_) (fun _ _ σ2 hR2 => ?_))
    · refine L_pop C0 dl_1433 ?_
      exact L_goto C0 dl_1434 rfl (hE _ _ (hI1.ref hR2))
    · refine L_pop C0 dl_1433 ?_
      exact L_goto C0 dl_1434 rfl (hE _ _ (hI1.ref hR2))
    · refine L_pop C0 dl_1433 ?_
      exact L_goto C0 dl_1434 rfl (hE _ _ (hI1.ref hR2))
theorem ca_35 {p : Program} {l : Launch} {e : Env} {s : State} {m : MethodId} {below : List Frame} {meth : Method} {c : Code} {b k n L : Nat} {xs : Nat → Int32} {ls : Array Slot} {Λ : Lay} {σ : Mem} {i : Int} (C0 : lw_At p s m meth c b L xs) (hL : L ≤ 3072) (hi : 0 ≤ i ∧ i + 6 ≤ L) (hl : lv_has ls 4 [(3, .int (Int32.ofInt i)), (2, .ref (s.heap.size + 646)), (1, .ref (s.heap.size + 0)), (0, .ref b)]) (hk : k ≤ 600000 ∧ n ≤ 7302250) (hI : LI Λ σ) (hE : ∀ Λ' σ', LI Λ' σ' → LW p l e s m below meth c b k n 1460 ls [] 669 Λ' σ') : LW p l e s m below meth c b k n 1437 ls [] 669 Λ σ := by
  refine L_al C0 dl_1437 rfl (lv_at hl 2 rfl) ?_
  refine L_arg 1 C0 hL hi hl dl_1438 dl_1439 dl_1440 dl_1441 dl_1442 rfl (by decide) ?_
  refine L_callI (t := 0) (d := 20) (As := [(0, (xs (i + ((1 : Nat) : Int)).toNat).toInt)]) (rest := []) C0 hl dl_1443 ok_mX11_count ml_L_160 rfl (by decide) (by decide) hk (by decide) rfl (okl [(xs (i + ((1 : Nat) : Int)).toNat)]) kX11 hI.1.1 (G_count hI.1 hI.2.1 (by decide) fun v1 σ1 hG1 => ?_)
  have hI1 := hI.cls hG1
  refine L_pop C0 dl_1446 ?_
  refine L_al C0 dl_1447 rfl (lv_at hl 1 rfl) ?_
  refine L_arg 1 C0 hL hi hl dl_1448 dl_1449 dl_1450 dl_1451 dl_1452 rfl (by decide) ?_
  refine L_callI (t := 646) (d := 20) (As := [(0, (xs (i + ((1 : Nat) : Int)).toNat).toInt)]) (rest := []) C0 hl dl_1453 ok_mX12_count ml_L_163 rfl (by decide) (by decide) hk (by decide) rfl (okl [(xs (i + ((1 : Nat) : Int)).toNat)]) kX12 (show LI Λ _ from hI1).2.2.1.1 (Q_count hI1.2.2.1 hI1.2.2.2.1 (by decide) fun v2 σ2 hR2 => ?_)
  refine L_pop C0 dl_1456 ?_
  exact L_goto C0 dl_1457 rfl (hE _ _ (hI1.ref hR2))

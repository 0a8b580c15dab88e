/-! THE LAW's cases, 2 -/
section LW2
variable {p : Program} {l : Launch} {e : Env} {s : State} {m : MethodId} {below : List Frame} {meth : Method} {c : Code} {cells slots b : Nat} {Q : State → Prop} {D : va_G} {B : nBT} {L : Nat} {xs : Nat → Int32} {σ : nS} {i : Nat}
theorem lw_c20 (C : lC p s m b meth c cells slots D B L xs) (hi : i + 5 < L) (I : Inv σ) (K : ∀ τ, Inv τ → lJ p l e s m b below meth c cells slots Q D B 1844 (lvL B b i) [] τ) : lJ p l e s m b below meth c cells slots Q D B 852 (lvL B b i) [] σ := by
  obtain ⟨r, τ, h1, h2, h3⟩ := S_chain I (xs (i + 1)) (xs (i + 2)) (xs (i + 3)) (xs (i + 4))
  refine nx_aload_n C.1 2 dL_law_852 rfl ?_
  refine nx_arg (k := 1) C 1 0 rfl rfl (by decide) (by omega) dL_law_853 dL_law_854 dL_law_856 dL_law_857 dL_law_858 ?_
  refine nx_arg (k := 2) C 1 0 rfl rfl (by decide) (by omega) dL_law_859 dL_law_860 dL_law_862 dL_law_863 dL_law_864 ?_
  refine nx_arg (k := 3) C 1 0 rfl rfl (by decide) (by omega) dL_law_865 dL_law_866 dL_law_868 dL_law_869 dL_law_870 ?_
  refine nx_arg (k := 4) C 1 0 rfl rfl (by decide) (by omega) dL_law_871 dL_law_872 dL_law_874 dL_law_875 dL_law_876 ?_
  refine nx_cVi (C := RX5) (k := 0) (ci := 5) (n := 4) (As := [.int (xs (i + 1)), .int (xs (i + 2)), .int (xs (i + 3)), .int (xs (i + 4))]) (st := []) C.1 (mX5_chain l D B (lC_inj C) (xs (i + 1)) (xs (i + 2)) (xs (i + 3)) (xs (i + 4)) σ h1) gL_law_X5_chain rfl rfl rfl ndX5_chain ⟨(Nat.le_of_ble_eq_true rfl), (Nat.le_of_ble_eq_true rfl)⟩ (by decide) rfl rfl rfl rfl (Nat.le_of_ble_eq_true rfl) rfl dL_law_877 ?_
  refine nx_aload_n C.1 3 dL_law_880 rfl ?_
  refine nx_arg (k := 1) C 1 0 rfl rfl (by decide) (by omega) dL_law_881 dL_law_882 dL_law_884 dL_law_885 dL_law_886 ?_
  refine nx_arg (k := 2) C 1 0 rfl rfl (by decide) (by omega) dL_law_887 dL_law_888 dL_law_890 dL_law_891 dL_law_892 ?_
  refine nx_arg (k := 3) C 1 0 rfl rfl (by decide) (by omega) dL_law_893 dL_law_894 dL_law_896 dL_law_897 dL_law_898 ?_
  refine nx_arg (k := 4) C 1 0 rfl rfl (by decide) (by omega) dL_law_899 dL_law_900 dL_law_902 dL_law_903 dL_law_904 ?_
  refine nx_cVi (C := RX6) (k := 63) (ci := 6) (n := 4) (As := [.int (xs (i + 1)), .int (xs (i + 2)), .int (xs (i + 3)), .int (xs (i + 4))]) (st := [.int r]) C.1 (mX6_chain l D B (lC_inj C) (xs (i + 1)) (xs (i + 2)) (xs (i + 3)) (xs (i + 4)) τ h2) gL_law_X6_chain rfl rfl rfl ndX6_chain ⟨(Nat.le_of_ble_eq_true rfl), (Nat.le_of_ble_eq_true rfl)⟩ (by decide) rfl rfl rfl rfl (Nat.le_of_ble_eq_true rfl) rfl dL_law_905 ?_
  exact nx_icmp_eq (tgt := 1844) C.1 dL_law_908 (by decide) (fun _ => K τ h3) (fun z => absurd rfl z)
theorem lw_c21 (C : lC p s m b meth c cells slots D B L xs) (hi : i + 5 < L) (I : Inv σ) (K : ∀ τ, Inv τ → lJ p l e s m b below meth c cells slots Q D B 1844 (lvL B b i) [] τ) : lJ p l e s m b below meth c cells slots Q D B 913 (lvL B b i) [] σ := by
  obtain ⟨r, τ, h1, h2, h3⟩ := S_climb I (xs (i + 1)) (xs (i + 2))
  refine nx_aload_n C.1 2 dL_law_913 rfl ?_
  refine nx_arg (k := 1) C 1 0 rfl rfl (by decide) (by omega) dL_law_914 dL_law_915 dL_law_917 dL_law_918 dL_law_919 ?_
  refine nx_arg (k := 2) C 1 0 rfl rfl (by decide) (by omega) dL_law_920 dL_law_921 dL_law_923 dL_law_924 dL_law_925 ?_
  refine nx_cVi (C := RX5) (k := 0) (ci := 5) (n := 2) (As := [.int (xs (i + 1)), .int (xs (i + 2))]) (st := []) C.1 (mX5_climb l D B (lC_inj C) (xs (i + 1)) (xs (i + 2)) σ h1) gL_law_X5_climb rfl rfl rfl ndX5_climb ⟨(Nat.le_of_ble_eq_true rfl), (Nat.le_of_ble_eq_true rfl)⟩ (by decide) rfl rfl rfl rfl (Nat.le_of_ble_eq_true rfl) rfl dL_law_926 ?_
  refine nx_aload_n C.1 3 dL_law_929 rfl ?_
  refine nx_arg (k := 1) C 1 0 rfl rfl (by decide) (by omega) dL_law_930 dL_law_931 dL_law_933 dL_law_934 dL_law_935 ?_
  refine nx_arg (k := 2) C 1 0 rfl rfl (by decide) (by omega) dL_law_936 dL_law_937 dL_law_939 dL_law_940 dL_law_941 ?_
  refine nx_cVi (C := RX6) (k := 63) (ci := 6) (n := 2) (As := [.int (xs (i + 1)), .int (xs (i + 2))]) (st := [.int r]) C.1 (mX6_climb l D B (lC_inj C) (xs (i + 1)) (xs (i + 2)) τ h2) gL_law_X6_climb rfl rfl rfl ndX6_climb ⟨(Nat.le_of_ble_eq_true rfl), (Nat.le_of_ble_eq_true rfl)⟩ (by decide) rfl rfl rfl rfl (Nat.le_of_ble_eq_true rfl) rfl dL_law_942 ?_
  exact nx_icmp_eq (tgt := 1844) C.1 dL_law_945 (by decide) (fun _ => K τ h3) (fun z => absurd rfl z)
theorem lw_c22 (C : lC p s m b meth c cells slots D B L xs) (hi : i + 5 < L) (I : Inv σ) (K : ∀ τ, Inv τ → lJ p l e s m b below meth c cells slots Q D B 1844 (lvL B b i) [] τ) : lJ p l e s m b below meth c cells slots Q D B 950 (lvL B b i) [] σ := by
  obtain ⟨r, τ, υ, h1, h2, h3⟩ := S_clearing I (xs (i + 1))
  refine nx_aload_n C.1 2 dL_law_950 rfl ?_
  refine nx_arg (k := 1) C 1 0 rfl rfl (by decide) (by omega) dL_law_951 dL_law_952 dL_law_954 dL_law_955 dL_law_956 ?_
  refine nx_cVi (C := RX5) (k := 0) (ci := 5) (n := 1) (As := [.int (xs (i + 1))]) (st := []) C.1 (mX5_clearing l D B (lC_inj C) (xs (i + 1)) σ h1) gL_law_X5_clearing rfl rfl rfl ndX5_clearing ⟨(Nat.le_of_ble_eq_true rfl), (Nat.le_of_ble_eq_true rfl)⟩ (by decide) rfl rfl rfl rfl (Nat.le_of_ble_eq_true rfl) rfl dL_law_957 ?_
  refine nx_aload_n C.1 3 dL_law_960 rfl ?_
  refine nx_arg (k := 1) C 1 0 rfl rfl (by decide) (by omega) dL_law_961 dL_law_962 dL_law_964 dL_law_965 dL_law_966 ?_
  refine nx_cVi (C := RX6) (k := 63) (ci := 6) (n := 1) (As := [.int (xs (i + 1))]) (st := [.int r]) C.1 (mX6_clearing l D B (lC_inj C) (xs (i + 1)) τ h2) gL_law_X6_clearing rfl rfl rfl ndX6_clearing ⟨(Nat.le_of_ble_eq_true rfl), (Nat.le_of_ble_eq_true rfl)⟩ (by decide) rfl rfl rfl rfl (Nat.le_of_ble_eq_true rfl) rfl dL_law_967 ?_
  exact nx_icmp_eq (tgt := 1844) C.1 dL_law_970 (by decide) (fun _ => K υ h3) (fun z => absurd rfl z)
theorem lw_c23 (C : lC p s m b meth c cells slots D B L xs) (hi : i + 5 < L) (I : Inv σ) (K : ∀ τ, Inv τ → lJ p l e s m b below meth c cells slots Q D B 1844 (lvL B b i) [] τ) : lJ p l e s m b below meth c cells slots Q D B 975 (lvL B b i) [] σ := by
  obtain ⟨r, h1, h2⟩ := S_quarrel I (xs (i + 1)) (xs (i + 2))
  refine nx_aload_n C.1 2 dL_law_975 rfl ?_
  refine nx_arg (k := 1) C 1 0 rfl rfl (by decide) (by omega) dL_law_976 dL_law_977 dL_law_979 dL_law_980 dL_law_981 ?_
  refine nx_arg (k := 2) C 1 0 rfl rfl (by decide) (by omega) dL_law_982 dL_law_983 dL_law_985 dL_law_986 dL_law_987 ?_
  refine nx_cVi (C := RX5) (k := 0) (ci := 5) (n := 2) (As := [.int (xs (i + 1)), .int (xs (i + 2))]) (st := []) C.1 (mX5_quarrel l D B (lC_inj C) (xs (i + 1)) (xs (i + 2)) σ h1) gL_law_X5_quarrel rfl rfl rfl ndX5_quarrel ⟨(Nat.le_of_ble_eq_true rfl), (Nat.le_of_ble_eq_true rfl)⟩ (by decide) rfl rfl rfl rfl (Nat.le_of_ble_eq_true rfl) rfl dL_law_988 ?_
  refine nx_aload_n C.1 3 dL_law_991 rfl ?_
  refine nx_arg (k := 1) C 1 0 rfl rfl (by decide) (by omega) dL_law_992 dL_law_993 dL_law_995 dL_law_996 dL_law_997 ?_
  refine nx_arg (k := 2) C 1 0 rfl rfl (by decide) (by omega) dL_law_998 dL_law_999 dL_law_1001 dL_law_1002 dL_law_1003 ?_
  refine nx_cVi (C := RX6) (k := 63) (ci := 6) (n := 2) (As := [.int (xs (i + 1)), .int (xs (i + 2))]) (st := [.int r]) C.1 (mX6_quarrel l D B (lC_inj C) (xs (i + 1)) (xs (i + 2)) σ h2) gL_law_X6_quarrel rfl rfl rfl ndX6_quarrel ⟨(Nat.le_of_ble_eq_true rfl), (Nat.le_of_ble_eq_true rfl)⟩ (by decide) rfl rfl rfl rfl (Nat.le_of_ble_eq_true rfl) rfl dL_law_1004 ?_
  exact nx_icmp_eq (tgt := 1844) C.1 dL_law_1007 (by decide) (fun _ => K σ I) (fun z => absurd rfl z)
theorem lw_c24 (C : lC p s m b meth c cells slots D B L xs) (hi : i + 5 < L) (I : Inv σ) (K : ∀ τ, Inv τ → lJ p l e s m b below meth c cells slots Q D B 1844 (lvL B b i) [] τ) : lJ p l e s m b below meth c cells slots Q D B 1012 (lvL B b i) [] σ := by
  obtain ⟨r, τ, υ, h1, h2, h3⟩ := S_shortest I (xs (i + 1)) (xs (i + 2))
  refine nx_aload_n C.1 2 dL_law_1012 rfl ?_
  refine nx_arg (k := 1) C 1 0 rfl rfl (by decide) (by omega) dL_law_1013 dL_law_1014 dL_law_1016 dL_law_1017 dL_law_1018 ?_
  refine nx_arg (k := 2) C 1 0 rfl rfl (by decide) (by omega) dL_law_1019 dL_law_1020 dL_law_1022 dL_law_1023 dL_law_1024 ?_
  refine nx_cVi (C := RX5) (k := 0) (ci := 5) (n := 2) (As := [.int (xs (i + 1)), .int (xs (i + 2))]) (st := []) C.1 (mX5_shortest l D B (lC_inj C) (xs (i + 1)) (xs (i + 2)) σ h1) gL_law_X5_shortest rfl rfl rfl ndX5_shortest ⟨(Nat.le_of_ble_eq_true rfl), (Nat.le_of_ble_eq_true rfl)⟩ (by decide) rfl rfl rfl rfl (Nat.le_of_ble_eq_true rfl) rfl dL_law_1025 ?_
  refine nx_aload_n C.1 3 dL_law_1028 rfl ?_
  refine nx_arg (k := 1) C 1 0 rfl rfl (by decide) (by omega) dL_law_1029 dL_law_1030 dL_law_1032 dL_law_1033 dL_law_1034 ?_
  refine nx_arg (k := 2) C 1 0 rfl rfl (by decide) (by omega) dL_law_1035 dL_law_1036 dL_law_1038 dL_law_1039 dL_law_1040 ?_
  refine nx_cVi (C := RX6) (k := 63) (ci := 6) (n := 2) (As := [.int (xs (i + 1)), .int (xs (i + 2))]) (st := [.int r]) C.1 (mX6_shortest l D B (lC_inj C) (xs (i + 1)) (xs (i + 2)) τ h2) gL_law_X6_shortest rfl rfl rfl ndX6_shortest ⟨(Nat.le_of_ble_eq_true rfl), (Nat.le_of_ble_eq_true rfl)⟩ (by decide) rfl rfl rfl rfl (Nat.le_of_ble_eq_true rfl) rfl dL_law_1041 ?_
  exact nx_icmp_eq (tgt := 1844) C.1 dL_law_1044 (by decide) (fun _ => K υ h3) (fun z => absurd rfl z)
theorem lw_c25 (C : lC p s m b meth c cells slots D B L xs) (hi : i + 5 < L) (I : Inv σ) (K : ∀ τ, Inv τ → lJ p l e s m b below meth c cells slots Q D B 1844 (lvL B b i) [] τ) : lJ p l e s m b below meth c cells slots Q D B 1049 (lvL B b i) [] σ := by
  obtain ⟨r, h1, h2⟩ := S_lent I (xs (i + 1)) (xs (i + 2)) (xs (i + 3))
  refine nx_aload_n C.1 2 dL_law_1049 rfl ?_
  refine nx_arg (k := 1) C 1 0 rfl rfl (by decide) (by omega) dL_law_1050 dL_law_1051 dL_law_1053 dL_law_1054 dL_law_1055 ?_
  refine nx_arg (k := 2) C 1 0 rfl rfl (by decide) (by omega) dL_law_1056 dL_law_1057 dL_law_1059 dL_law_1060 dL_law_1061 ?_
  refine nx_arg (k := 3) C 1 0 rfl rfl (by decide) (by omega) dL_law_1062 dL_law_1063 dL_law_1065 dL_law_1066 dL_law_1067 ?_
  refine nx_cVi (C := RX5) (k := 0) (ci := 5) (n := 3) (As := [.int (xs (i + 1)), .int (xs (i + 2)), .int (xs (i + 3))]) (st := []) C.1 (mX5_lent l D B (lC_inj C) (xs (i + 1)) (xs (i + 2)) (xs (i + 3)) σ h1) gL_law_X5_lent rfl rfl rfl ndX5_lent ⟨(Nat.le_of_ble_eq_true rfl), (Nat.le_of_ble_eq_true rfl)⟩ (by decide) rfl rfl rfl rfl (Nat.le_of_ble_eq_true rfl) rfl dL_law_1068 ?_
  refine nx_aload_n C.1 3 dL_law_1071 rfl ?_
  refine nx_arg (k := 1) C 1 0 rfl rfl (by decide) (by omega) dL_law_1072 dL_law_1073 dL_law_1075 dL_law_1076 dL_law_1077 ?_
  refine nx_arg (k := 2) C 1 0 rfl rfl (by decide) (by omega) dL_law_1078 dL_law_1079 dL_law_1081 dL_law_1082 dL_law_1083 ?_
  refine nx_arg (k := 3) C 1 0 rfl rfl (by decide) (by omega) dL_law_1084 dL_law_1085 dL_law_1087 dL_law_1088 dL_law_1089 ?_
  refine nx_cVi (C := RX6) (k := 63) (ci := 6) (n := 3) (As := [.int (xs (i + 1)), .int (xs (i + 2)), .int (xs (i + 3))]) (st := [.int r]) C.1 (mX6_lent l D B (lC_inj C) (xs (i + 1)) (xs (i + 2)) (xs (i + 3)) σ h2) gL_law_X6_lent rfl rfl rfl ndX6_lent ⟨(Nat.le_of_ble_eq_true rfl), (Nat.le_of_ble_eq_true rfl)⟩ (by decide) rfl rfl rfl rfl (Nat.le_of_ble_eq_true rfl) rfl dL_law_1090 ?_
  exact nx_icmp_eq (tgt := 1844) C.1 dL_law_1093 (by decide) (fun _ => K σ I) (fun z => absurd rfl z)
theorem lw_c26 (C : lC p s m b meth c cells slots D B L xs) (hi : i + 5 < L) (I : Inv σ) (K : ∀ τ, Inv τ → lJ p l e s m b below meth c cells slots Q D B 1844 (lvL B b i) [] τ) : lJ p l e s m b below meth c cells slots Q D B 1098 (lvL B b i) [] σ := by
  obtain ⟨r, h1, h2⟩ := S_whatIs I (xs (i + 1)) (xs (i + 2)) (xs (i + 3)) (xs (i + 4))
  refine nx_aload_n C.1 2 dL_law_1098 rfl ?_
  refine nx_arg (k := 1) C 1 0 rfl rfl (by decide) (by omega) dL_law_1099 dL_law_1100 dL_law_1102 dL_law_1103 dL_law_1104 ?_
  refine nx_arg (k := 2) C 1 0 rfl rfl (by decide) (by omega) dL_law_1105 dL_law_1106 dL_law_1108 dL_law_1109 dL_law_1110 ?_
  refine nx_arg (k := 3) C 1 0 rfl rfl (by decide) (by omega) dL_law_1111 dL_law_1112 dL_law_1114 dL_law_1115 dL_law_1116 ?_
  refine nx_arg (k := 4) C 1 0 rfl rfl (by decide) (by omega) dL_law_1117 dL_law_1118 dL_law_1120 dL_law_1121 dL_law_1122 ?_
  refine nx_cVi (C := RX5) (k := 0) (ci := 5) (n := 4) (As := [.int (xs (i + 1)), .int (xs (i + 2)), .int (xs (i + 3)), .int (xs (i + 4))]) (st := []) C.1 (mX5_whatIs l D B (lC_inj C) (xs (i + 1)) (xs (i + 2)) (xs (i + 3)) (xs (i + 4)) σ h1) gL_law_X5_whatIs rfl rfl rfl ndX5_whatIs ⟨(Nat.le_of_ble_eq_true rfl), (Nat.le_of_ble_eq_true rfl)⟩ (by decide) rfl rfl rfl rfl (Nat.le_of_ble_eq_true rfl) rfl dL_law_1123 ?_
  refine nx_aload_n C.1 3 dL_law_1126 rfl ?_
  refine nx_arg (k := 1) C 1 0 rfl rfl (by decide) (by omega) dL_law_1127 dL_law_1128 dL_law_1130 dL_law_1131 dL_law_1132 ?_
  refine nx_arg (k := 2) C 1 0 rfl rfl (by decide) (by omega) dL_law_1133 dL_law_1134 dL_law_1136 dL_law_1137 dL_law_1138 ?_
  refine nx_arg (k := 3) C 1 0 rfl rfl (by decide) (by omega) dL_law_1139 dL_law_1140 dL_law_1142 dL_law_1143 dL_law_1144 ?_
  refine nx_arg (k := 4) C 1 0 rfl rfl (by decide) (by omega) dL_law_1145 dL_law_1146 dL_law_1148 dL_law_1149 dL_law_1150 ?_
  refine nx_cVi (C := RX6) (k := 63) (ci := 6) (n := 4) (As := [.int (xs (i + 1)), .int (xs (i + 2)), .int (xs (i + 3)), .int (xs (i + 4))]) (st := [.int r]) C.1 (mX6_whatIs l D B (lC_inj C) (xs (i + 1)) (xs (i + 2)) (xs (i + 3)) (xs (i + 4)) σ h2) gL_law_X6_whatIs rfl rfl rfl ndX6_whatIs ⟨(Nat.le_of_ble_eq_true rfl), (Nat.le_of_ble_eq_true rfl)⟩ (by decide) rfl rfl rfl rfl (Nat.le_of_ble_eq_true rfl) rfl dL_law_1151 ?_
  exact nx_icmp_eq (tgt := 1844) C.1 dL_law_1154 (by decide) (fun _ => K σ I) (fun z => absurd rfl z)
theorem lw_c27 (C : lC p s m b meth c cells slots D B L xs) (hi : i + 5 < L) (I : Inv σ) (K : ∀ τ, Inv τ → lJ p l e s m b below meth c cells slots Q D B 1844 (lvL B b i) [] τ) : lJ p l e s m b below meth c cells slots Q D B 1159 (lvL B b i) [] σ := by
  obtain ⟨r, υ, h1, h2, h3⟩ := S_tastes I (xs (i + 1)) (xs (i + 2))
  refine nx_aload_n C.1 2 dL_law_1159 rfl ?_
  refine nx_arg (k := 1) C 1 0 rfl rfl (by decide) (by omega) dL_law_1160 dL_law_1161 dL_law_1163 dL_law_1164 dL_law_1165 ?_
  refine nx_arg (k := 2) C 1 0 rfl rfl (by decide) (by omega) dL_law_1166 dL_law_1167 dL_law_1169 dL_law_1170 dL_law_1171 ?_
  refine nx_cVi (C := RX5) (k := 0) (ci := 5) (n := 2) (As := [.int (xs (i + 1)), .int (xs (i + 2))]) (st := []) C.1 (mX5_tastes l D B (lC_inj C) (xs (i + 1)) (xs (i + 2)) σ h1) gL_law_X5_tastes rfl rfl rfl ndX5_tastes ⟨(Nat.le_of_ble_eq_true rfl), (Nat.le_of_ble_eq_true rfl)⟩ (by decide) rfl rfl rfl rfl (Nat.le_of_ble_eq_true rfl) rfl dL_law_1172 ?_
  refine nx_aload_n C.1 3 dL_law_1175 rfl ?_
  refine nx_arg (k := 1) C 1 0 rfl rfl (by decide) (by omega) dL_law_1176 dL_law_1177 dL_law_1179 dL_law_1180 dL_law_1181 ?_
  refine nx_arg (k := 2) C 1 0 rfl rfl (by decide) (by omega) dL_law_1182 dL_law_1183 dL_law_1185 dL_law_1186 dL_law_1187 ?_
  refine nx_cVi (C := RX6) (k := 63) (ci := 6) (n := 2) (As := [.int (xs (i + 1)), .int (xs (i + 2))]) (st := [.int r]) C.1 (mX6_tastes l D B (lC_inj C) (xs (i + 1)) (xs (i + 2)) σ h2) gL_law_X6_tastes rfl rfl rfl ndX6_tastes ⟨(Nat.le_of_ble_eq_true rfl), (Nat.le_of_ble_eq_true rfl)⟩ (by decide) rfl rfl rfl rfl (Nat.le_of_ble_eq_true rfl) rfl dL_law_1188 ?_
  exact nx_icmp_eq (tgt := 1844) C.1 dL_law_1191 (by decide) (fun _ => K υ h3) (fun z => absurd rfl z)
theorem lw_c28 (C : lC p s m b meth c cells slots D B L xs) (hi : i + 5 < L) (I : Inv σ) (K : ∀ τ, Inv τ → lJ p l e s m b below meth c cells slots Q D B 1844 (lvL B b i) [] τ) : lJ p l e s m b below meth c cells slots Q D B 1196 (lvL B b i) [] σ := by
  obtain ⟨r, h1, h2⟩ := S_two I (xs (i + 1)) (xs (i + 2))
  refine nx_aload_n C.1 2 dL_law_1196 rfl ?_
  refine nx_arg (k := 1) C 1 0 rfl rfl (by decide) (by omega) dL_law_1197 dL_law_1198 dL_law_1200 dL_law_1201 dL_law_1202 ?_
  refine nx_arg (k := 2) C 1 0 rfl rfl (by decide) (by omega) dL_law_1203 dL_law_1204 dL_law_1206 dL_law_1207 dL_law_1208 ?_
  refine nx_cVi (C := RX5) (k := 0) (ci := 5) (n := 2) (As := [.int (xs (i + 1)), .int (xs (i + 2))]) (st := []) C.1 (mX5_two l D B (lC_inj C) (xs (i + 1)) (xs (i + 2)) σ h1) gL_law_X5_two rfl rfl rfl ndX5_two ⟨(Nat.le_of_ble_eq_true rfl), (Nat.le_of_ble_eq_true rfl)⟩ (by decide) rfl rfl rfl rfl (Nat.le_of_ble_eq_true rfl) rfl dL_law_1209 ?_
  refine nx_aload_n C.1 3 dL_law_1212 rfl ?_
  refine nx_arg (k := 1) C 1 0 rfl rfl (by decide) (by omega) dL_law_1213 dL_law_1214 dL_law_1216 dL_law_1217 dL_law_1218 ?_
  refine nx_arg (k := 2) C 1 0 rfl rfl (by decide) (by omega) dL_law_1219 dL_law_1220 dL_law_1222 dL_law_1223 dL_law_1224 ?_
  refine nx_cVi (C := RX6) (k := 63) (ci := 6) (n := 2) (As := [.int (xs (i + 1)), .int (xs (i + 2))]) (st := [.int r]) C.1 (mX6_two l D B (lC_inj C) (xs (i + 1)) (xs (i + 2)) σ h2) gL_law_X6_two rfl rfl rfl ndX6_two ⟨(Nat.le_of_ble_eq_true rfl), (Nat.le_of_ble_eq_true rfl)⟩ (by decide) rfl rfl rfl rfl (Nat.le_of_ble_eq_true rfl) rfl dL_law_1225 ?_
  exact nx_icmp_eq (tgt := 1844) C.1 dL_law_1228 (by decide) (fun _ => K σ I) (fun z => absurd rfl z)
theorem lw_c29 (C : lC p s m b meth c cells slots D B L xs) (hi : i + 5 < L) (I : Inv σ) (K : ∀ τ, Inv τ → lJ p l e s m b below meth c cells slots Q D B 1844 (lvL B b i) [] τ) : lJ p l e s m b below meth c cells slots Q D B 1233 (lvL B b i) [] σ := by
  obtain ⟨r, h1, h2⟩ := S_market I (xs (i + 1)) (xs (i + 2)) (xs (i + 3)) (xs (i + 4))
  refine nx_aload_n C.1 2 dL_law_1233 rfl ?_
  refine nx_arg (k := 1) C 1 0 rfl rfl (by decide) (by omega) dL_law_1234 dL_law_1235 dL_law_1237 dL_law_1238 dL_law_1239 ?_
  refine nx_arg (k := 2) C 1 0 rfl rfl (by decide) (by omega) dL_law_1240 dL_law_1241 dL_law_1243 dL_law_1244 dL_law_1245 ?_
  refine nx_arg (k := 3) C 1 0 rfl rfl (by decide) (by omega) dL_law_1246 dL_law_1247 dL_law_1249 dL_law_1250 dL_law_1251 ?_
  refine nx_arg (k := 4) C 1 0 rfl rfl (by decide) (by omega) dL_law_1252 dL_law_1253 dL_law_1255 dL_law_1256 dL_law_1257 ?_
  refine nx_cVl (C := RX5) (k := 0) (ci := 5) (n := 4) (As := [.int (xs (i + 1)), .int (xs (i + 2)), .int (xs (i + 3)), .int (xs (i + 4))]) (st := []) C.1 (mX5_market l D B (lC_inj C) (xs (i + 1)) (xs (i + 2)) (xs (i + 3)) (xs (i + 4)) σ h1) gL_law_X5_market rfl rfl rfl ndX5_market ⟨(Nat.le_of_ble_eq_true rfl), (Nat.le_of_ble_eq_true rfl)⟩ (by decide) rfl rfl rfl rfl (Nat.le_of_ble_eq_true rfl) rfl dL_law_1258 ?_
  refine nx_aload_n C.1 3 dL_law_1261 rfl ?_
  refine nx_arg (k := 1) C 1 0 rfl rfl (by decide) (by omega) dL_law_1262 dL_law_1263 dL_law_1265 dL_law_1266 dL_law_1267 ?_
  refine nx_arg (k := 2) C 1 0 rfl rfl (by decide) (by omega) dL_law_1268 dL_law_1269 dL_law_1271 dL_law_1272 dL_law_1273 ?_
  refine nx_arg (k := 3) C 1 0 rfl rfl (by decide) (by omega) dL_law_1274 dL_law_1275 dL_law_1277 dL_law_1278 dL_law_1279 ?_
  refine nx_arg (k := 4) C 1 0 rfl rfl (by decide) (by omega) dL_law_1280 dL_law_1281 dL_law_1283 dL_law_1284 dL_law_1285 ?_
  refine nx_cVl (C := RX6) (k := 63) (ci := 6) (n := 4) (As := [.int (xs (i + 1)), .int (xs (i + 2)), .int (xs (i + 3)), .int (xs (i + 4))]) (st := [.long r]) C.1 (mX6_market l D B (lC_inj C) (xs (i + 1)) (xs (i + 2)) (xs (i + 3)) (xs (i + 4)) σ h2) gL_law_X6_market rfl rfl rfl ndX6_market ⟨(Nat.le_of_ble_eq_true rfl), (Nat.le_of_ble_eq_true rfl)⟩ (by decide) rfl rfl rfl rfl (Nat.le_of_ble_eq_true rfl) rfl dL_law_1286 ?_
  refine nx_lcmp C.1 dL_law_1289 ?_
  exact nx_if_eq (tgt := 1844) C.1 dL_law_1290 (by decide) (fun _ => K σ I) (fun z => absurd (lg_cmp_self r) z)
theorem lw_c30 (C : lC p s m b meth c cells slots D B L xs) (hi : i + 5 < L) (I : Inv σ) (K : ∀ τ, Inv τ → lJ p l e s m b below meth c cells slots Q D B 1844 (lvL B b i) [] τ) : lJ p l e s m b below meth c cells slots Q D B 1295 (lvL B b i) [] σ := by
  obtain ⟨r, h1, h2⟩ := S_mean I (xs (i + 1)) (xs (i + 2))
  refine nx_aload_n C.1 2 dL_law_1295 rfl ?_
  refine nx_arg (k := 1) C 1 0 rfl rfl (by decide) (by omega) dL_law_1296 dL_law_1297 dL_law_1299 dL_law_1300 dL_law_1301 ?_
  refine nx_arg (k := 2) C 1 0 rfl rfl (by decide) (by omega) dL_law_1302 dL_law_1303 dL_law_1305 dL_law_1306 dL_law_1307 ?_
  refine nx_cVl (C := RX5) (k := 0) (ci := 5) (n := 2) (As := [.int (xs (i + 1)), .int (xs (i + 2))]) (st := []) C.1 (mX5_mean l D B (lC_inj C) (xs (i + 1)) (xs (i + 2)) σ h1) gL_law_X5_mean rfl rfl rfl ndX5_mean ⟨(Nat.le_of_ble_eq_true rfl), (Nat.le_of_ble_eq_true rfl)⟩ (by decide) rfl rfl rfl rfl (Nat.le_of_ble_eq_true rfl) rfl dL_law_1308 ?_
  refine nx_aload_n C.1 3 dL_law_1311 rfl ?_
  refine nx_arg (k := 1) C 1 0 rfl rfl (by decide) (by omega) dL_law_1312 dL_law_1313 dL_law_1315 dL_law_1316 dL_law_1317 ?_
  refine nx_arg (k := 2) C 1 0 rfl rfl (by decide) (by omega) dL_law_1318 dL_law_1319 dL_law_1321 dL_law_1322 dL_law_1323 ?_
  refine nx_cVl (C := RX6) (k := 63) (ci := 6) (n := 2) (As := [.int (xs (i + 1)), .int (xs (i + 2))]) (st := [.long r]) C.1 (mX6_mean l D B (lC_inj C) (xs (i + 1)) (xs (i + 2)) σ h2) gL_law_X6_mean rfl rfl rfl ndX6_mean ⟨(Nat.le_of_ble_eq_true rfl), (Nat.le_of_ble_eq_true rfl)⟩ (by decide) rfl rfl rfl rfl (Nat.le_of_ble_eq_true rfl) rfl dL_law_1324 ?_
  refine nx_lcmp C.1 dL_law_1327 ?_
  exact nx_if_eq (tgt := 1844) C.1 dL_law_1328 (by decide) (fun _ => K σ I) (fun z => absurd (lg_cmp_self r) z)
theorem lw_c31 (C : lC p s m b meth c cells slots D B L xs) (hi : i + 5 < L) (I : Inv σ) (K : ∀ τ, Inv τ → lJ p l e s m b below meth c cells slots Q D B 1844 (lvL B b i) [] τ) : lJ p l e s m b below meth c cells slots Q D B 1333 (lvL B b i) [] σ := by
  obtain ⟨r, h1, h2⟩ := S_forged I (xs (i + 1)) (xs (i + 2))
  refine nx_aload_n C.1 2 dL_law_1333 rfl ?_
  refine nx_arg (k := 1) C 1 0 rfl rfl (by decide) (by omega) dL_law_1334 dL_law_1335 dL_law_1337 dL_law_1338 dL_law_1339 ?_
  refine nx_arg (k := 2) C 1 0 rfl rfl (by decide) (by omega) dL_law_1340 dL_law_1341 dL_law_1343 dL_law_1344 dL_law_1345 ?_
  refine nx_cVi (C := RX5) (k := 0) (ci := 5) (n := 2) (As := [.int (xs (i + 1)), .int (xs (i + 2))]) (st := []) C.1 (mX5_forged l D B (lC_inj C) (xs (i + 1)) (xs (i + 2)) σ h1) gL_law_X5_forged rfl rfl rfl ndX5_forged ⟨(Nat.le_of_ble_eq_true rfl), (Nat.le_of_ble_eq_true rfl)⟩ (by decide) rfl rfl rfl rfl (Nat.le_of_ble_eq_true rfl) rfl dL_law_1346 ?_
  refine nx_aload_n C.1 3 dL_law_1349 rfl ?_
  refine nx_arg (k := 1) C 1 0 rfl rfl (by decide) (by omega) dL_law_1350 dL_law_1351 dL_law_1353 dL_law_1354 dL_law_1355 ?_
  refine nx_arg (k := 2) C 1 0 rfl rfl (by decide) (by omega) dL_law_1356 dL_law_1357 dL_law_1359 dL_law_1360 dL_law_1361 ?_
  refine nx_cVi (C := RX6) (k := 63) (ci := 6) (n := 2) (As := [.int (xs (i + 1)), .int (xs (i + 2))]) (st := [.int r]) C.1 (mX6_forged l D B (lC_inj C) (xs (i + 1)) (xs (i + 2)) σ h2) gL_law_X6_forged rfl rfl rfl ndX6_forged ⟨(Nat.le_of_ble_eq_true rfl), (Nat.le_of_ble_eq_true rfl)⟩ (by decide) rfl rfl rfl rfl (Nat.le_of_ble_eq_true rfl) rfl dL_law_1362 ?_
  exact nx_icmp_eq (tgt := 1844) C.1 dL_law_1365 (by decide) (fun _ => K σ I) (fun z => absurd rfl z)
theorem lw_c32 (C : lC p s m b meth c cells slots D B L xs) (hi : i + 5 < L) (I : Inv σ) (K : ∀ τ, Inv τ → lJ p l e s m b below meth c cells slots Q D B 1844 (lvL B b i) [] τ) : lJ p l e s m b below meth c cells slots Q D B 1370 (lvL B b i) [] σ := by
  obtain ⟨r, τ, υ, h1, h2, h3⟩ := S_judge I (xs (i + 1))
  refine nx_aload_n C.1 2 dL_law_1370 rfl ?_
  refine nx_arg (k := 1) C 1 0 rfl rfl (by decide) (by omega) dL_law_1371 dL_law_1372 dL_law_1374 dL_law_1375 dL_law_1376 ?_
  refine nx_cVi (C := RX5) (k := 0) (ci := 5) (n := 1) (As := [.int (xs (i + 1))]) (st := []) C.1 (mX5_judge l D B (lC_inj C) (xs (i + 1)) σ h1) gL_law_X5_judge rfl rfl rfl ndX5_judge ⟨(Nat.le_of_ble_eq_true rfl), (Nat.le_of_ble_eq_true rfl)⟩ (by decide) rfl rfl rfl rfl (Nat.le_of_ble_eq_true rfl) rfl dL_law_1377 ?_
  refine nx_aload_n C.1 3 dL_law_1380 rfl ?_
  refine nx_arg (k := 1) C 1 0 rfl rfl (by decide) (by omega) dL_law_1381 dL_law_1382 dL_law_1384 dL_law_1385 dL_law_1386 ?_
  refine nx_cVi (C := RX6) (k := 63) (ci := 6) (n := 1) (As := [.int (xs (i + 1))]) (st := [.int r]) C.1 (mX6_judge l D B (lC_inj C) (xs (i + 1)) τ h2) gL_law_X6_judge rfl rfl rfl ndX6_judge ⟨(Nat.le_of_ble_eq_true rfl), (Nat.le_of_ble_eq_true rfl)⟩ (by decide) rfl rfl rfl rfl (Nat.le_of_ble_eq_true rfl) rfl dL_law_1387 ?_
  exact nx_icmp_eq (tgt := 1844) C.1 dL_law_1390 (by decide) (fun _ => K υ h3) (fun z => absurd rfl z)
theorem lw_c33 (C : lC p s m b meth c cells slots D B L xs) (hi : i + 5 < L) (I : Inv σ) (K : ∀ τ, Inv τ → lJ p l e s m b below meth c cells slots Q D B 1844 (lvL B b i) [] τ) : lJ p l e s m b below meth c cells slots Q D B 1395 (lvL B b i) [] σ := by
  obtain ⟨r, τ, υ, h1, h2, h3⟩ := S_towns I (xs (i + 1)) (xs (i + 2)) (xs (i + 3))
  refine nx_aload_n C.1 2 dL_law_1395 rfl ?_
  refine nx_arg (k := 1) C 1 0 rfl rfl (by decide) (by omega) dL_law_1396 dL_law_1397 dL_law_1399 dL_law_1400 dL_law_1401 ?_
  refine nx_arg (k := 2) C 1 0 rfl rfl (by decide) (by omega) dL_law_1402 dL_law_1403 dL_law_1405 dL_law_1406 dL_law_1407 ?_
  refine nx_arg (k := 3) C 1 0 rfl rfl (by decide) (by omega) dL_law_1408 dL_law_1409 dL_law_1411 dL_law_1412 dL_law_1413 ?_
  refine nx_cVi (C := RX5) (k := 0) (ci := 5) (n := 3) (As := [.int (xs (i + 1)), .int (xs (i + 2)), .int (xs (i + 3))]) (st := []) C.1 (mX5_towns l D B (lC_inj C) (xs (i + 1)) (xs (i + 2)) (xs (i + 3)) σ h1) gL_law_X5_towns rfl rfl rfl ndX5_towns ⟨(Nat.le_of_ble_eq_true rfl), (Nat.le_of_ble_eq_true rfl)⟩ (by decide) rfl rfl rfl rfl (Nat.le_of_ble_eq_true rfl) rfl dL_law_1414 ?_
  refine nx_aload_n C.1 3 dL_law_1417 rfl ?_
  refine nx_arg (k := 1) C 1 0 rfl rfl (by decide) (by omega) dL_law_1418 dL_law_1419 dL_law_1421 dL_law_1422 dL_law_1423 ?_
  refine nx_arg (k := 2) C 1 0 rfl rfl (by decide) (by omega) dL_law_1424 dL_law_1425 dL_law_1427 dL_law_1428 dL_law_1429 ?_
  refine nx_arg (k := 3) C 1 0 rfl rfl (by decide) (by omega) dL_law_1430 dL_law_1431 dL_law_1433 dL_law_1434 dL_law_1435 ?_
  refine nx_cVi (C := RX6) (k := 63) (ci := 6) (n := 3) (As := [.int (xs (i + 1)), .int (xs (i + 2)), .int (xs (i + 3))]) (st := [.int r]) C.1 (mX6_towns l D B (lC_inj C) (xs (i + 1)) (xs (i + 2)) (xs (i + 3)) τ h2) gL_law_X6_towns rfl rfl rfl ndX6_towns ⟨(Nat.le_of_ble_eq_true rfl), (Nat.le_of_ble_eq_true rfl)⟩ (by decide) rfl rfl rfl rfl (Nat.le_of_ble_eq_true rfl) rfl dL_law_1436 ?_
  exact nx_icmp_eq (tgt := 1844) C.1 dL_law_1439 (by decide) (fun _ => K υ h3) (fun z => absurd rfl z)
theorem lw_c34 (C : lC p s m b meth c cells slots D B L xs) (hi : i + 5 < L) (I : Inv σ) (K : ∀ τ, Inv τ → lJ p l e s m b below meth c cells slots Q D B 1844 (lvL B b i) [] τ) : lJ p l e s m b below meth c cells slots Q D B 1444 (lvL B b i) [] σ := by
  obtain ⟨r, τ, υ, h1, h2, h3⟩ := S_image I
  refine nx_aload_n C.1 2 dL_law_1444 rfl ?_
  refine nx_cVi (C := RX5) (k := 0) (ci := 5) (n := 0) (As := []) (st := []) C.1 (mX5_image l D B (lC_inj C) σ h1) gL_law_X5_image rfl rfl rfl ndX5_image ⟨(Nat.le_of_ble_eq_true rfl), (Nat.le_of_ble_eq_true rfl)⟩ (by decide) rfl rfl rfl rfl (Nat.le_of_ble_eq_true rfl) rfl dL_law_1445 ?_
  refine nx_aload_n C.1 3 dL_law_1448 rfl ?_
  refine nx_cVi (C := RX6) (k := 63) (ci := 6) (n := 0) (As := []) (st := [.int r]) C.1 (mX6_image l D B (lC_inj C) τ h2) gL_law_X6_image rfl rfl rfl ndX6_image ⟨(Nat.le_of_ble_eq_true rfl), (Nat.le_of_ble_eq_true rfl)⟩ (by decide) rfl rfl rfl rfl (Nat.le_of_ble_eq_true rfl) rfl dL_law_1449 ?_
  exact nx_icmp_eq (tgt := 1844) C.1 dL_law_1452 (by decide) (fun _ => K υ h3) (fun z => absurd rfl z)
theorem lw_c35 (C : lC p s m b meth c cells slots D B L xs) (hi : i + 5 < L) (I : Inv σ) (K : ∀ τ, Inv τ → lJ p l e s m b below meth c cells slots Q D B 1844 (lvL B b i) [] τ) : lJ p l e s m b below meth c cells slots Q D B 1457 (lvL B b i) [] σ := by
  obtain ⟨r, τ, υ, h1, h2, h3⟩ := S_restore I
  refine nx_aload_n C.1 2 dL_law_1457 rfl ?_
  refine nx_cVi (C := RX5) (k := 0) (ci := 5) (n := 0) (As := []) (st := []) C.1 (mX5_restore l D B (lC_inj C) σ h1) gL_law_X5_restore rfl rfl rfl ndX5_restore ⟨(Nat.le_of_ble_eq_true rfl), (Nat.le_of_ble_eq_true rfl)⟩ (by decide) rfl rfl rfl rfl (Nat.le_of_ble_eq_true rfl) rfl dL_law_1458 ?_
  refine nx_aload_n C.1 3 dL_law_1461 rfl ?_
  refine nx_cVi (C := RX6) (k := 63) (ci := 6) (n := 0) (As := []) (st := [.int r]) C.1 (mX6_restore l D B (lC_inj C) τ h2) gL_law_X6_restore rfl rfl rfl ndX6_restore ⟨(Nat.le_of_ble_eq_true rfl), (Nat.le_of_ble_eq_true rfl)⟩ (by decide) rfl rfl rfl rfl (Nat.le_of_ble_eq_true rfl) rfl dL_law_1462 ?_
  exact nx_icmp_eq (tgt := 1844) C.1 dL_law_1465 (by decide) (fun _ => K υ h3) (fun z => absurd rfl z)
theorem lw_c36 (C : lC p s m b meth c cells slots D B L xs) (hi : i + 5 < L) (I : Inv σ) (K : ∀ τ, Inv τ → lJ p l e s m b below meth c cells slots Q D B 1844 (lvL B b i) [] τ) : lJ p l e s m b below meth c cells slots Q D B 1470 (lvL B b i) [] σ := by
  obtain ⟨r, h1, h2⟩ := S_count I (xs (i + 1))
  refine nx_aload_n C.1 2 dL_law_1470 rfl ?_
  refine nx_arg (k := 1) C 1 0 rfl rfl (by decide) (by omega) dL_law_1471 dL_law_1472 dL_law_1474 dL_law_1475 dL_law_1476 ?_
  refine nx_cVi (C := RX5) (k := 0) (ci := 5) (n := 1) (As := [.int (xs (i + 1))]) (st := []) C.1 (mX5_count l D B (lC_inj C) (xs (i + 1)) σ h1) gL_law_X5_count rfl rfl rfl ndX5_count ⟨(Nat.le_of_ble_eq_true rfl), (Nat.le_of_ble_eq_true rfl)⟩ (by decide) rfl rfl rfl rfl (Nat.le_of_ble_eq_true rfl) rfl dL_law_1477 ?_
  refine nx_aload_n C.1 3 dL_law_1480 rfl ?_
  refine nx_arg (k := 1) C 1 0 rfl rfl (by decide) (by omega) dL_law_1481 dL_law_1482 dL_law_1484 dL_law_1485 dL_law_1486 ?_
  refine nx_cVi (C := RX6) (k := 63) (ci := 6) (n := 1) (As := [.int (xs (i + 1))]) (st := [.int r]) C.1 (mX6_count l D B (lC_inj C) (xs (i + 1)) σ h2) gL_law_X6_count rfl rfl rfl ndX6_count ⟨(Nat.le_of_ble_eq_true rfl), (Nat.le_of_ble_eq_true rfl)⟩ (by decide) rfl rfl rfl rfl (Nat.le_of_ble_eq_true rfl) rfl dL_law_1487 ?_
  exact nx_icmp_eq (tgt := 1844) C.1 dL_law_1490 (by decide) (fun _ => K σ I) (fun z => absurd rfl z)
theorem lw_c37 (C : lC p s m b meth c cells slots D B L xs) (hi : i + 5 < L) (I : Inv σ) (K : ∀ τ, Inv τ → lJ p l e s m b below meth c cells slots Q D B 1844 (lvL B b i) [] τ) : lJ p l e s m b below meth c cells slots Q D B 1495 (lvL B b i) [] σ := by
  obtain ⟨r, τ, υ, h1, h2, h3⟩ := S_keep I (xs (i + 1)) (xs (i + 2)) (xs (i + 3)) (xs (i + 4))
  refine nx_aload_n C.1 2 dL_law_1495 rfl ?_
  refine nx_arg (k := 1) C 1 0 rfl rfl (by decide) (by omega) dL_law_1496 dL_law_1497 dL_law_1499 dL_law_1500 dL_law_1501 ?_
  refine nx_arg (k := 2) C 1 0 rfl rfl (by decide) (by omega) dL_law_1502 dL_law_1503 dL_law_1505 dL_law_1506 dL_law_1507 ?_
  refine nx_arg (k := 3) C 1 0 rfl rfl (by decide) (by omega) dL_law_1508 dL_law_1509 dL_law_1511 dL_law_1512 dL_law_1513 ?_
  refine nx_arg (k := 4) C 1 0 rfl rfl (by decide) (by omega) dL_law_1514 dL_law_1515 dL_law_1517 dL_law_1518 dL_law_1519 ?_
  refine nx_cVi (C := RX5) (k := 0) (ci := 5) (n := 4) (As := [.int (xs (i + 1)), .int (xs (i + 2)), .int (xs (i + 3)), .int (xs (i + 4))]) (st := []) C.1 (mX5_keep l D B (lC_inj C) (xs (i + 1)) (xs (i + 2)) (xs (i + 3)) (xs (i + 4)) σ h1) gL_law_X5_keep rfl rfl rfl ndX5_keep ⟨(Nat.le_of_ble_eq_true rfl), (Nat.le_of_ble_eq_true rfl)⟩ (by decide) rfl rfl rfl rfl (Nat.le_of_ble_eq_true rfl) rfl dL_law_1520 ?_
  refine nx_aload_n C.1 3 dL_law_1523 rfl ?_
  refine nx_arg (k := 1) C 1 0 rfl rfl (by decide) (by omega) dL_law_1524 dL_law_1525 dL_law_1527 dL_law_1528 dL_law_1529 ?_
  refine nx_arg (k := 2) C 1 0 rfl rfl (by decide) (by omega) dL_law_1530 dL_law_1531 dL_law_1533 dL_law_1534 dL_law_1535 ?_
  refine nx_arg (k := 3) C 1 0 rfl rfl (by decide) (by omega) dL_law_1536 dL_law_1537 dL_law_1539 dL_law_1540 dL_law_1541 ?_
  refine nx_arg (k := 4) C 1 0 rfl rfl (by decide) (by omega) dL_law_1542 dL_law_1543 dL_law_1545 dL_law_1546 dL_law_1547 ?_
  refine nx_cVi (C := RX6) (k := 63) (ci := 6) (n := 4) (As := [.int (xs (i + 1)), .int (xs (i + 2)), .int (xs (i + 3)), .int (xs (i + 4))]) (st := [.int r]) C.1 (mX6_keep l D B (lC_inj C) (xs (i + 1)) (xs (i + 2)) (xs (i + 3)) (xs (i + 4)) τ h2) gL_law_X6_keep rfl rfl rfl ndX6_keep ⟨(Nat.le_of_ble_eq_true rfl), (Nat.le_of_ble_eq_true rfl)⟩ (by decide) rfl rfl rfl rfl (Nat.le_of_ble_eq_true rfl) rfl dL_law_1548 ?_
  exact nx_icmp_eq (tgt := 1844) C.1 dL_law_1551 (by decide) (fun _ => K υ h3) (fun z => absurd rfl z)
theorem lw_c38 (C : lC p s m b meth c cells slots D B L xs) (hi : i + 5 < L) (I : Inv σ) (K : ∀ τ, Inv τ → lJ p l e s m b below meth c cells slots Q D B 1844 (lvL B b i) [] τ) : lJ p l e s m b below meth c cells slots Q D B 1556 (lvL B b i) [] σ := by
  obtain ⟨r, τ, υ, h1, h2, h3⟩ := S_row I (xs (i + 1)) (xs (i + 2)) (xs (i + 3))
  refine nx_aload_n C.1 2 dL_law_1556 rfl ?_
  refine nx_arg (k := 1) C 1 0 rfl rfl (by decide) (by omega) dL_law_1557 dL_law_1558 dL_law_1560 dL_law_1561 dL_law_1562 ?_
  refine nx_arg (k := 2) C 1 0 rfl rfl (by decide) (by omega) dL_law_1563 dL_law_1564 dL_law_1566 dL_law_1567 dL_law_1568 ?_
  refine nx_arg (k := 3) C 1 0 rfl rfl (by decide) (by omega) dL_law_1569 dL_law_1570 dL_law_1572 dL_law_1573 dL_law_1574 ?_
  refine nx_cVi (C := RX5) (k := 0) (ci := 5) (n := 3) (As := [.int (xs (i + 1)), .int (xs (i + 2)), .int (xs (i + 3))]) (st := []) C.1 (mX5_row l D B (lC_inj C) (xs (i + 1)) (xs (i + 2)) (xs (i + 3)) σ h1) gL_law_X5_row rfl rfl rfl ndX5_row ⟨(Nat.le_of_ble_eq_true rfl), (Nat.le_of_ble_eq_true rfl)⟩ (by decide) rfl rfl rfl rfl (Nat.le_of_ble_eq_true rfl) rfl dL_law_1575 ?_
  refine nx_aload_n C.1 3 dL_law_1578 rfl ?_
  refine nx_arg (k := 1) C 1 0 rfl rfl (by decide) (by omega) dL_law_1579 dL_law_1580 dL_law_1582 dL_law_1583 dL_law_1584 ?_
  refine nx_arg (k := 2) C 1 0 rfl rfl (by decide) (by omega) dL_law_1585 dL_law_1586 dL_law_1588 dL_law_1589 dL_law_1590 ?_
  refine nx_arg (k := 3) C 1 0 rfl rfl (by decide) (by omega) dL_law_1591 dL_law_1592 dL_law_1594 dL_law_1595 dL_law_1596 ?_
  refine nx_cVi (C := RX6) (k := 63) (ci := 6) (n := 3) (As := [.int (xs (i + 1)), .int (xs (i + 2)), .int (xs (i + 3))]) (st := [.int r]) C.1 (mX6_row l D B (lC_inj C) (xs (i + 1)) (xs (i + 2)) (xs (i + 3)) τ h2) gL_law_X6_row rfl rfl rfl ndX6_row ⟨(Nat.le_of_ble_eq_true rfl), (Nat.le_of_ble_eq_true rfl)⟩ (by decide) rfl rfl rfl rfl (Nat.le_of_ble_eq_true rfl) rfl dL_law_1597 ?_
  exact nx_icmp_eq (tgt := 1844) C.1 dL_law_1600 (by decide) (fun _ => K υ h3) (fun z => absurd rfl z)
theorem lw_c39 (C : lC p s m b meth c cells slots D B L xs) (hi : i + 5 < L) (I : Inv σ) (K : ∀ τ, Inv τ → lJ p l e s m b below meth c cells slots Q D B 1844 (lvL B b i) [] τ) : lJ p l e s m b below meth c cells slots Q D B 1605 (lvL B b i) [] σ := by
  obtain ⟨r, τ, υ, h1, h2, h3⟩ := S_put I (xs (i + 1)) (xs (i + 2)) (xs (i + 3))
  refine nx_aload_n C.1 2 dL_law_1605 rfl ?_
  refine nx_arg (k := 1) C 1 0 rfl rfl (by decide) (by omega) dL_law_1606 dL_law_1607 dL_law_1609 dL_law_1610 dL_law_1611 ?_
  refine nx_arg (k := 2) C 1 0 rfl rfl (by decide) (by omega) dL_law_1612 dL_law_1613 dL_law_1615 dL_law_1616 dL_law_1617 ?_
  refine nx_arg (k := 3) C 1 0 rfl rfl (by decide) (by omega) dL_law_1618 dL_law_1619 dL_law_1621 dL_law_1622 dL_law_1623 ?_
  refine nx_cVi (C := RX5) (k := 0) (ci := 5) (n := 3) (As := [.int (xs (i + 1)), .int (xs (i + 2)), .int (xs (i + 3))]) (st := []) C.1 (mX5_put l D B (lC_inj C) (xs (i + 1)) (xs (i + 2)) (xs (i + 3)) σ h1) gL_law_X5_put rfl rfl rfl ndX5_put ⟨(Nat.le_of_ble_eq_true rfl), (Nat.le_of_ble_eq_true rfl)⟩ (by decide) rfl rfl rfl rfl (Nat.le_of_ble_eq_true rfl) rfl dL_law_1624 ?_
  refine nx_aload_n C.1 3 dL_law_1627 rfl ?_
  refine nx_arg (k := 1) C 1 0 rfl rfl (by decide) (by omega) dL_law_1628 dL_law_1629 dL_law_1631 dL_law_1632 dL_law_1633 ?_
  refine nx_arg (k := 2) C 1 0 rfl rfl (by decide) (by omega) dL_law_1634 dL_law_1635 dL_law_1637 dL_law_1638 dL_law_1639 ?_
  refine nx_arg (k := 3) C 1 0 rfl rfl (by decide) (by omega) dL_law_1640 dL_law_1641 dL_law_1643 dL_law_1644 dL_law_1645 ?_
  refine nx_cVi (C := RX6) (k := 63) (ci := 6) (n := 3) (As := [.int (xs (i + 1)), .int (xs (i + 2)), .int (xs (i + 3))]) (st := [.int r]) C.1 (mX6_put l D B (lC_inj C) (xs (i + 1)) (xs (i + 2)) (xs (i + 3)) τ h2) gL_law_X6_put rfl rfl rfl ndX6_put ⟨(Nat.le_of_ble_eq_true rfl), (Nat.le_of_ble_eq_true rfl)⟩ (by decide) rfl rfl rfl rfl (Nat.le_of_ble_eq_true rfl) rfl dL_law_1646 ?_
  exact nx_icmp_eq (tgt := 1844) C.1 dL_law_1649 (by decide) (fun _ => K υ h3) (fun z => absurd rfl z)
theorem lw_c41 (C : lC p s m b meth c cells slots D B L xs) (hi : i + 5 < L) (I : Inv σ) (K : ∀ τ, Inv τ → lJ p l e s m b below meth c cells slots Q D B 1844 (lvL B b i) [] τ) : lJ p l e s m b below meth c cells slots Q D B 1721 (lvL B b i) [] σ := by
  obtain ⟨r, τ, υ, h1, h2, h3⟩ := S_copy I (xs (i + 1)) (xs (i + 2)) (xs (i + 3)) (xs (i + 4)) (xs (i + 5))
  refine nx_aload_n C.1 2 dL_law_1721 rfl ?_
  refine nx_arg (k := 1) C 1 0 rfl rfl (by decide) (by omega) dL_law_1722 dL_law_1723 dL_law_1725 dL_law_1726 dL_law_1727 ?_
  refine nx_arg (k := 2) C 1 0 rfl rfl (by decide) (by omega) dL_law_1728 dL_law_1729 dL_law_1731 dL_law_1732 dL_law_1733 ?_
  refine nx_arg (k := 3) C 1 0 rfl rfl (by decide) (by omega) dL_law_1734 dL_law_1735 dL_law_1737 dL_law_1738 dL_law_1739 ?_
  refine nx_arg (k := 4) C 1 0 rfl rfl (by decide) (by omega) dL_law_1740 dL_law_1741 dL_law_1743 dL_law_1744 dL_law_1745 ?_
  refine nx_arg (k := 5) C 1 0 rfl rfl (by decide) (by omega) dL_law_1746 dL_law_1747 dL_law_1749 dL_law_1750 dL_law_1751 ?_
  refine nx_cVi (C := RX5) (k := 0) (ci := 5) (n := 5) (As := [.int (xs (i + 1)), .int (xs (i + 2)), .int (xs (i + 3)), .int (xs (i + 4)), .int (xs (i + 5))]) (st := []) C.1 (mX5_copy l D B (lC_inj C) (xs (i + 1)) (xs (i + 2)) (xs (i + 3)) (xs (i + 4)) (xs (i + 5)) σ h1) gL_law_X5_copy rfl rfl rfl ndX5_copy ⟨(Nat.le_of_ble_eq_true rfl), (Nat.le_of_ble_eq_true rfl)⟩ (by decide) rfl rfl rfl rfl (Nat.le_of_ble_eq_true rfl) rfl dL_law_1752 ?_
  refine nx_aload_n C.1 3 dL_law_1755 rfl ?_
  refine nx_arg (k := 1) C 1 0 rfl rfl (by decide) (by omega) dL_law_1756 dL_law_1757 dL_law_1759 dL_law_1760 dL_law_1761 ?_
  refine nx_arg (k := 2) C 1 0 rfl rfl (by decide) (by omega) dL_law_1762 dL_law_1763 dL_law_1765 dL_law_1766 dL_law_1767 ?_
  refine nx_arg (k := 3) C 1 0 rfl rfl (by decide) (by omega) dL_law_1768 dL_law_1769 dL_law_1771 dL_law_1772 dL_law_1773 ?_
  refine nx_arg (k := 4) C 1 0 rfl rfl (by decide) (by omega) dL_law_1774 dL_law_1775 dL_law_1777 dL_law_1778 dL_law_1779 ?_
  refine nx_arg (k := 5) C 1 0 rfl rfl (by decide) (by omega) dL_law_1780 dL_law_1781 dL_law_1783 dL_law_1784 dL_law_1785 ?_
  refine nx_cVi (C := RX6) (k := 63) (ci := 6) (n := 5) (As := [.int (xs (i + 1)), .int (xs (i + 2)), .int (xs (i + 3)), .int (xs (i + 4)), .int (xs (i + 5))]) (st := [.int r]) C.1 (mX6_copy l D B (lC_inj C) (xs (i + 1)) (xs (i + 2)) (xs (i + 3)) (xs (i + 4)) (xs (i + 5)) τ h2) gL_law_X6_copy rfl rfl rfl ndX6_copy ⟨(Nat.le_of_ble_eq_true rfl), (Nat.le_of_ble_eq_true rfl)⟩ (by decide) rfl rfl rfl rfl (Nat.le_of_ble_eq_true rfl) rfl dL_law_1786 ?_
  exact nx_icmp_eq (tgt := 1844) C.1 dL_law_1789 (by decide) (fun _ => K υ h3) (fun z => absurd rfl z)
theorem lw_c42 (C : lC p s m b meth c cells slots D B L xs) (hi : i + 5 < L) (I : Inv σ) (K : ∀ τ, Inv τ → lJ p l e s m b below meth c cells slots Q D B 1844 (lvL B b i) [] τ) : lJ p l e s m b below meth c cells slots Q D B 1794 (lvL B b i) [] σ := by
  obtain ⟨r, h1, h2⟩ := S_cost I (xs (i + 1))
  refine nx_aload_n C.1 2 dL_law_1794 rfl ?_
  refine nx_arg (k := 1) C 1 0 rfl rfl (by decide) (by omega) dL_law_1795 dL_law_1796 dL_law_1798 dL_law_1799 dL_law_1800 ?_
  refine nx_cVi (C := RX5) (k := 0) (ci := 5) (n := 1) (As := [.int (xs (i + 1))]) (st := []) C.1 (mX5_cost l D B (lC_inj C) (xs (i + 1)) σ h1) gL_law_X5_cost rfl rfl rfl ndX5_cost ⟨(Nat.le_of_ble_eq_true rfl), (Nat.le_of_ble_eq_true rfl)⟩ (by decide) rfl rfl rfl rfl (Nat.le_of_ble_eq_true rfl) rfl dL_law_1801 ?_
  refine nx_aload_n C.1 3 dL_law_1804 rfl ?_
  refine nx_arg (k := 1) C 1 0 rfl rfl (by decide) (by omega) dL_law_1805 dL_law_1806 dL_law_1808 dL_law_1809 dL_law_1810 ?_
  refine nx_cVi (C := RX6) (k := 63) (ci := 6) (n := 1) (As := [.int (xs (i + 1))]) (st := [.int r]) C.1 (mX6_cost l D B (lC_inj C) (xs (i + 1)) σ h2) gL_law_X6_cost rfl rfl rfl ndX6_cost ⟨(Nat.le_of_ble_eq_true rfl), (Nat.le_of_ble_eq_true rfl)⟩ (by decide) rfl rfl rfl rfl (Nat.le_of_ble_eq_true rfl) rfl dL_law_1811 ?_
  exact nx_icmp_eq (tgt := 1844) C.1 dL_law_1814 (by decide) (fun _ => K σ I) (fun z => absurd rfl z)
theorem lw_c43 (C : lC p s m b meth c cells slots D B L xs) (C1 : lC p s m b meth c (cells + 1) (slots + 6) D B L xs) (hl : l.stackTraces = false) (hZ : nEz B s.heap.size s s.heap) (hE : nEs s) (hi : i + 5 < L) (I : Inv σ) (K : ∀ τ, Inv τ → lJ p l e s m b below meth c (cells + 1) (slots + 6) Q D B 1844 (lvL B b i) [] τ) : lJ p l e s m b below meth c cells slots Q D B 1819 (lvL B b i) [] σ := by
  obtain ⟨r, h1, h2⟩ := S_toss I (xs (i + 1))
  refine nx_aload_n C.1 2 dL_law_1819 rfl ?_
  refine nx_arg (k := 1) C 1 0 rfl rfl (by decide) (by omega) dL_law_1820 dL_law_1821 dL_law_1823 dL_law_1824 dL_law_1825 ?_
  refine nx_cVWi (C := RX5) (k := 0) (ci := 5) (n := 1) (As := [.int (xs (i + 1))]) (st := []) C.1 hZ hE (mX5_toss l hl D B (lC_inj C) (xs (i + 1)) σ h1) gL_law_X5_toss rfl rfl rfl (by decide +kernel) ⟨(Nat.le_of_ble_eq_true rfl), (Nat.le_of_ble_eq_true rfl)⟩ (by decide) rfl rfl rfl rfl (Nat.le_of_ble_eq_true rfl) rfl dL_law_1826 ⟨C1.1.2.2.2.2.2.2.2.2.2.1, C1.1.2.2.2.2.2.2.2.2.2.2⟩ ?_
  refine nx_aload_n C1.1 3 dL_law_1829 rfl ?_
  refine nx_arg (k := 1) C1 1 0 rfl rfl (by decide) (by omega) dL_law_1830 dL_law_1831 dL_law_1833 dL_law_1834 dL_law_1835 ?_
  refine nx_cVi (C := RX6) (k := 63) (ci := 6) (n := 1) (As := [.int (xs (i + 1))]) (st := [.int r]) C1.1 (mX6_toss l D B (lC_inj C) (xs (i + 1)) σ h2) gL_law_X6_toss rfl rfl rfl ndX6_toss ⟨(Nat.le_of_ble_eq_true rfl), (Nat.le_of_ble_eq_true rfl)⟩ (by decide) rfl rfl rfl rfl (Nat.le_of_ble_eq_true rfl) rfl dL_law_1836 ?_
  exact nx_icmp_eq (tgt := 1844) C1.1 dL_law_1839 (by decide) (fun _ => K σ I) (fun z => absurd rfl z)
theorem lw_c40 (C : lC p s m b meth c cells slots D B L xs) (C1 : lC p s m b meth c (cells + 1) (slots + 6) D B L xs) (hl : l.stackTraces = false) (hZ : nEz B s.heap.size s s.heap) (hE : nEs s) (hi : i + 5 < L) (I : Inv σ) (K : ∀ τ, Inv τ → lJ p l e s m b below meth c (cells + 1) (slots + 6) Q D B 1844 (lvL B b i) [] τ) : lJ p l e s m b below meth c cells slots Q D B 1654 (lvL B b i) [] σ := by
  obtain ⟨kk, v, h1, hk, hu⟩ := S_element I (xs (i + 1)) (xs (i + 2))
  obtain ⟨b2, τ, h2, h3, h4, h5, h6⟩ := hu (oL σ kk v) (fun j hj => by
    unfold oL
    split
    · exact nU_n _ _ hj
    · rfl)
  refine nx_aload_n C.1 2 dL_law_1654 rfl ?_
  refine nx_arg (k := 1) C 1 0 rfl rfl (by decide) (by omega) dL_law_1655 dL_law_1656 dL_law_1658 dL_law_1659 dL_law_1660 ?_
  refine nx_arg (k := 2) C 1 0 rfl rfl (by decide) (by omega) dL_law_1661 dL_law_1662 dL_law_1664 dL_law_1665 dL_law_1666 ?_
  refine nx_aload_n C.1 4 dL_law_1667 rfl ?_
  refine nx_cSWi (n := 4) (As := [.ref (na B 0), .int (xs (i + 1)), .int (xs (i + 2)), .ref (na B 78)]) (st := []) C.1 hZ hE (mL_element l hl D B (lC_inj C) (xs (i + 1)) (xs (i + 2)) σ h1) gL_law_L_element rfl rfl rfl (by decide +kernel) ⟨Nat.le_of_ble_eq_true rfl, Nat.le_of_ble_eq_true rfl⟩ rfl (Nat.le_of_ble_eq_true rfl) rfl dL_law_1668 ⟨C1.1.2.2.2.2.2.2.2.2.2.1, C1.1.2.2.2.2.2.2.2.2.2.2⟩ ?_
  refine nx_istore (lv' := [(5, .int (nI kk)), (4, .int (nI i)), (0, .ref b), (1, .ref (na B 0)), (2, .ref (na B 63)), (3, .ref (na B 78))]) C1.1 dL_law_1671 (by decide) rfl rfl ?_
  refine nx_aload_n C1.1 4 dL_law_1673 rfl ?_
  refine nx_arg (k := 1) C1 2 1 rfl rfl (by decide) (by omega) dL_law_1674 dL_law_1675 dL_law_1677 dL_law_1678 dL_law_1679 ?_
  refine nx_arg (k := 2) C1 2 1 rfl rfl (by decide) (by omega) dL_law_1680 dL_law_1681 dL_law_1683 dL_law_1684 dL_law_1685 ?_
  refine nx_cVl (C := RX6) (k := 63) (ci := 6) (n := 2) (As := [.int (xs (i + 1)), .int (xs (i + 2))]) (st := []) C1.1 (mX6_element l D B (lC_inj C) (xs (i + 1)) (xs (i + 2)) (oL σ kk v) h2) gL_law_X6_element rfl rfl rfl ndX6_element ⟨Nat.le_of_ble_eq_true rfl, Nat.le_of_ble_eq_true rfl⟩ (by decide) rfl rfl rfl rfl (Nat.le_of_ble_eq_true rfl) rfl dL_law_1686 ?_
  refine nx_lstore (lv' := [(6, .long b2), (5, .int (nI kk)), (4, .int (nI i)), (0, .ref b), (1, .ref (na B 0)), (2, .ref (na B 63)), (3, .ref (na B 78))]) C1.1 dL_law_1689 (by decide) rfl rfl ?_
  refine nx_aload_n C1.1 5 dL_law_1691 rfl ?_
  refine nx_cVi (C := RX6) (k := 63) (ci := 6) (n := 0) (As := []) (st := []) C1.1 (mX6_thrown l D B (lC_inj C) τ rfl) gL_law_X6_thrown rfl rfl rfl ndX6_thrown ⟨Nat.le_of_ble_eq_true rfl, Nat.le_of_ble_eq_true rfl⟩ (by decide) rfl rfl rfl rfl (Nat.le_of_ble_eq_true rfl) rfl dL_law_1692 ?_
  refine nx_iload C1.1 1 dL_law_1695 rfl ?_
  refine nx_icmp_eq (tgt := 1702) C1.1 dL_law_1697 (by decide) (fun _ => ?_) (fun z => absurd h3 z)
  have kend : lJ p l e s m b below meth c (cells + 1) (slots + 6) Q D B 1718 [(6, .long b2), (5, .int (nI kk)), (4, .int (nI i)), (0, .ref b), (1, .ref (na B 0)), (2, .ref (na B 63)), (3, .ref (na B 78))] [] τ := by
    refine nx_goto (tgt := 1844) C1.1 dL_law_1718 (by decide) ?_
    exact nx_lv [2, 3, 4, 5, 6] rfl (K τ h6)
  refine nx_iload C1.1 1 dL_law_1702 rfl ?_
  refine nx_if_ne (tgt := 1718) C1.1 dL_law_1704 (by decide) (fun _ => kend) (fun q => ?_)
  have hk0 : kk = 0 := nI0_of hk q
  have hb2 : b2 = v.toInt64 := h4 hk0
  have e78 : τ 78 0 = v := by
    rw [h5 78 (by omega), oL, if_pos hk0, nU_s, upd_s]
  refine nx_aload_n C1.1 6 dL_law_1707 rfl ?_
  refine nx_iconst (v := 0) C1.1 dL_law_1708 (by decide) ?_
  refine nx_lald C1.1 dL_law_1709 ?_
  refine nx_lload C1.1 0 dL_law_1710 rfl ?_
  refine nx_lcmp C1.1 dL_law_1712 ?_
  exact nx_if_eq (tgt := 1718) C1.1 dL_law_1713 (by decide) (fun _ => kend) (fun z => absurd (by rw [e78, hb2]; exact lg_cmp_self _) z)
end LW2

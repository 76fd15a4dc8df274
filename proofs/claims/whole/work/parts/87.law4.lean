/-! the law: its cases 27 to 39 -/
section LC
variable {p : Program} {l : Launch} {e : Env} {s : State} {m : MethodId} {below : List Frame} {meth : Method} {c : Code} {D : va_G} {G : sG} {Q : State → Prop} {b Ls i n : Nat} {xs : Nat → Int32} {M : sM} {L : sL}
set_option maxHeartbeats 4000000 in
theorem q_27 (X : lX p s m b c D G Ls xs) (hi : i + 5 ≤ Ls) (h : Inv M L n) (hn : n + 1 ≤ 64) (K : ∀ M2 L2, Inv M2 L2 (n + 1) → lA p l e s m b below meth c D G Q 1230 i [] M2 L2) : lA p l e s m b below meth c D G Q 899 i [] M L := by
  obtain ⟨C, hX, hbl, hbA, hLs⟩ := X
  refine at_aload_n C 2 dL_law_899 rfl ?_
  refine at_scr C hX hbl hbA hLs 1 (by omega) 1 rfl dL_law_900 dL_law_901 dL_law_902 dL_law_903 dL_law_904 ?_
  refine at_call_i C (c_X6_is l D G ((xs (i + 1)).toInt) (sI_ofR _) h.2.1 (i_ct h)) (As := [.int (sI ((xs (i + 1)).toInt))]) (obj_Sho G) (ci := 6) rfl qw_769 qw_766 qw_1 qw_767 qw_768 ⟨by decide, by decide, show (parseMethodDescriptor yX6_is.desc).map (fun d => d.parameters.length) = some 1 by decide +kernel⟩ ⟨Nat.le_of_ble_eq_true rfl, Nat.le_of_ble_eq_true rfl⟩ ⟨Nat.le_of_ble_eq_true rfl, Nat.le_of_ble_eq_true rfl⟩ (Nat.le_of_ble_eq_true rfl) dL_law_905 rfl (fun r M1 L1 hp => ?_)
  obtain ⟨rfl, hB, hT1, rfl⟩ := hp
  refine at_aload_n C 1 dL_law_908 rfl ?_
  refine at_scr C hX hbl hbA hLs 1 (by omega) 1 rfl dL_law_909 dL_law_910 dL_law_911 dL_law_912 dL_law_913 ?_
  have hx : okX M M1 := by rw [hB]; exact ox_b
  refine at_call_i C (c_X7_is l D G ((xs (i + 1)).toInt) (sI_ofR _) hT1 (mid_q h hx)) (As := [.int (sI ((xs (i + 1)).toInt))]) (obj_Ref G) (ci := 7) rfl qw_1344 qw_1341 qw_8 qw_1342 qw_1343 ⟨by decide, by decide, show (parseMethodDescriptor yX7_is.desc).map (fun d => d.parameters.length) = some 1 by decide +kernel⟩ ⟨Nat.le_of_ble_eq_true rfl, Nat.le_of_ble_eq_true rfl⟩ ⟨Nat.le_of_ble_eq_true rfl, Nat.le_of_ble_eq_true rfl⟩ (Nat.le_of_ble_eq_true rfl) dL_law_914 rfl (fun r2 M2 L2 hp => ?_)
  obtain ⟨rfl, rfl, hT2, rfl⟩ := hp
  obtain ⟨ee, hI⟩ := k_is h hn ((xs (i + 1)).toInt) hB hT1 hT2
  rw [ee]
  exact at_same C 1230 dL_law_917 (by decide) (K _ _ hI)
set_option maxHeartbeats 4000000 in
theorem q_28 (X : lX p s m b c D G Ls xs) (hi : i + 5 ≤ Ls) (h : Inv M L n) (hn : n + 1 ≤ 64) (K : ∀ M2 L2, Inv M2 L2 (n + 1) → lA p l e s m b below meth c D G Q 1230 i [] M2 L2) : lA p l e s m b below meth c D G Q 922 i [] M L := by
  obtain ⟨C, hX, hbl, hbA, hLs⟩ := X
  refine at_aload_n C 2 dL_law_922 rfl ?_
  refine at_scr C hX hbl hbA hLs 1 (by omega) 1 rfl dL_law_923 dL_law_924 dL_law_925 dL_law_926 dL_law_927 ?_
  refine at_call_i C (c_X6_look l D G ((xs (i + 1)).toInt) (sI_ofR _) h.2.1 (i_ct h)) (As := [.int (sI ((xs (i + 1)).toInt))]) (obj_Sho G) (ci := 6) rfl qw_781 qw_778 qw_1 qw_779 qw_780 ⟨by decide, by decide, show (parseMethodDescriptor yX6_look.desc).map (fun d => d.parameters.length) = some 1 by decide +kernel⟩ ⟨Nat.le_of_ble_eq_true rfl, Nat.le_of_ble_eq_true rfl⟩ ⟨Nat.le_of_ble_eq_true rfl, Nat.le_of_ble_eq_true rfl⟩ (Nat.le_of_ble_eq_true rfl) dL_law_928 rfl (fun r M1 L1 hp => ?_)
  obtain ⟨rfl, hB, hT1, rfl⟩ := hp
  refine at_aload_n C 1 dL_law_931 rfl ?_
  refine at_scr C hX hbl hbA hLs 1 (by omega) 1 rfl dL_law_932 dL_law_933 dL_law_934 dL_law_935 dL_law_936 ?_
  have hx : okX M M1 := ox_look h hB
  refine at_call_i C (c_X7_look l D G ((xs (i + 1)).toInt) (sI_ofR _) hT1 (mid_q h hx)) (As := [.int (sI ((xs (i + 1)).toInt))]) (obj_Ref G) (ci := 7) rfl qw_1360 qw_1357 qw_8 qw_1358 qw_1359 ⟨by decide, by decide, show (parseMethodDescriptor yX7_look.desc).map (fun d => d.parameters.length) = some 1 by decide +kernel⟩ ⟨Nat.le_of_ble_eq_true rfl, Nat.le_of_ble_eq_true rfl⟩ ⟨Nat.le_of_ble_eq_true rfl, Nat.le_of_ble_eq_true rfl⟩ (Nat.le_of_ble_eq_true rfl) dL_law_937 rfl (fun r2 M2 L2 hp => ?_)
  obtain ⟨rfl, rfl, hT2, rfl⟩ := hp
  obtain ⟨ee, hI⟩ := k_look h hn ((xs (i + 1)).toInt) hB hT1 hT2
  rw [ee]
  exact at_same C 1230 dL_law_940 (by decide) (K _ _ hI)
set_option maxHeartbeats 4000000 in
theorem q_29 (X : lX p s m b c D G Ls xs) (hi : i + 5 ≤ Ls) (h : Inv M L n) (hn : n + 1 ≤ 64) (K : ∀ M2 L2, Inv M2 L2 (n + 1) → lA p l e s m b below meth c D G Q 1230 i [] M2 L2) : lA p l e s m b below meth c D G Q 945 i [] M L := by
  obtain ⟨C, hX, hbl, hbA, hLs⟩ := X
  refine at_aload_n C 2 dL_law_945 rfl ?_
  refine at_scr C hX hbl hbA hLs 1 (by omega) 1 rfl dL_law_946 dL_law_947 dL_law_948 dL_law_949 dL_law_950 ?_
  refine at_call_i C (c_X6_kinds l D G ((xs (i + 1)).toInt) (sI_ofR _) h.2.1 (i_ct h)) (As := [.int (sI ((xs (i + 1)).toInt))]) (obj_Sho G) (ci := 6) rfl qw_785 qw_782 qw_1 qw_783 qw_784 ⟨by decide, by decide, show (parseMethodDescriptor yX6_kinds.desc).map (fun d => d.parameters.length) = some 1 by decide +kernel⟩ ⟨Nat.le_of_ble_eq_true rfl, Nat.le_of_ble_eq_true rfl⟩ ⟨Nat.le_of_ble_eq_true rfl, Nat.le_of_ble_eq_true rfl⟩ (Nat.le_of_ble_eq_true rfl) dL_law_951 rfl (fun r M1 L1 hp => ?_)
  obtain ⟨rfl, hB, hT1, rfl⟩ := hp
  refine at_aload_n C 1 dL_law_954 rfl ?_
  refine at_scr C hX hbl hbA hLs 1 (by omega) 1 rfl dL_law_955 dL_law_956 dL_law_957 dL_law_958 dL_law_959 ?_
  have hx : okX M M1 := by rw [hB]; exact ox_b
  refine at_call_i C (c_X7_kinds l D G ((xs (i + 1)).toInt) (sI_ofR _) hT1 (mid_q h hx)) (As := [.int (sI ((xs (i + 1)).toInt))]) (obj_Ref G) (ci := 7) rfl qw_1352 qw_1349 qw_8 qw_1350 qw_1351 ⟨by decide, by decide, show (parseMethodDescriptor yX7_kinds.desc).map (fun d => d.parameters.length) = some 1 by decide +kernel⟩ ⟨Nat.le_of_ble_eq_true rfl, Nat.le_of_ble_eq_true rfl⟩ ⟨Nat.le_of_ble_eq_true rfl, Nat.le_of_ble_eq_true rfl⟩ (Nat.le_of_ble_eq_true rfl) dL_law_960 rfl (fun r2 M2 L2 hp => ?_)
  obtain ⟨rfl, rfl, hT2, rfl⟩ := hp
  obtain ⟨ee, hI⟩ := k_kinds h hn ((xs (i + 1)).toInt) hB hT1 hT2
  rw [ee]
  exact at_same C 1230 dL_law_963 (by decide) (K _ _ hI)
set_option maxHeartbeats 4000000 in
theorem q_30 (X : lX p s m b c D G Ls xs) (hi : i + 5 ≤ Ls) (h : Inv M L n) (hn : n + 1 ≤ 64) (K : ∀ M2 L2, Inv M2 L2 (n + 1) → lA p l e s m b below meth c D G Q 1230 i [] M2 L2) : lA p l e s m b below meth c D G Q 968 i [] M L := by
  obtain ⟨C, hX, hbl, hbA, hLs⟩ := X
  refine at_aload_n C 2 dL_law_968 rfl ?_
  refine at_scr C hX hbl hbA hLs 1 (by omega) 1 rfl dL_law_969 dL_law_970 dL_law_971 dL_law_972 dL_law_973 ?_
  refine at_call_i C (c_X6_ask l D G ((xs (i + 1)).toInt) (sI_ofR _) h.2.1 (i_ct h)) (As := [.int (sI ((xs (i + 1)).toInt))]) (obj_Sho G) (ci := 6) rfl qw_797 qw_794 qw_1 qw_795 qw_796 ⟨by decide, by decide, show (parseMethodDescriptor yX6_ask.desc).map (fun d => d.parameters.length) = some 1 by decide +kernel⟩ ⟨Nat.le_of_ble_eq_true rfl, Nat.le_of_ble_eq_true rfl⟩ ⟨Nat.le_of_ble_eq_true rfl, Nat.le_of_ble_eq_true rfl⟩ (Nat.le_of_ble_eq_true rfl) dL_law_974 rfl (fun r M1 L1 hp => ?_)
  obtain ⟨rfl, hB, hT1, rfl⟩ := hp
  refine at_aload_n C 1 dL_law_977 rfl ?_
  refine at_scr C hX hbl hbA hLs 1 (by omega) 1 rfl dL_law_978 dL_law_979 dL_law_980 dL_law_981 dL_law_982 ?_
  have hx : okX M M1 := ox_ask h hB
  refine at_call_i C (c_X7_ask l D G ((xs (i + 1)).toInt) (sI_ofR _) hT1 (mid_q h hx)) (As := [.int (sI ((xs (i + 1)).toInt))]) (obj_Ref G) (ci := 7) rfl qw_1364 qw_1361 qw_8 qw_1362 qw_1363 ⟨by decide, by decide, show (parseMethodDescriptor yX7_ask.desc).map (fun d => d.parameters.length) = some 1 by decide +kernel⟩ ⟨Nat.le_of_ble_eq_true rfl, Nat.le_of_ble_eq_true rfl⟩ ⟨Nat.le_of_ble_eq_true rfl, Nat.le_of_ble_eq_true rfl⟩ (Nat.le_of_ble_eq_true rfl) dL_law_983 rfl (fun r2 M2 L2 hp => ?_)
  obtain ⟨rfl, rfl, hT2, rfl⟩ := hp
  obtain ⟨ee, hI⟩ := k_ask h hn ((xs (i + 1)).toInt) hB hT1 hT2
  rw [ee]
  exact at_same C 1230 dL_law_986 (by decide) (K _ _ hI)
set_option maxHeartbeats 4000000 in
theorem q_31 (X : lX p s m b c D G Ls xs) (hi : i + 5 ≤ Ls) (h : Inv M L n) (hn : n + 1 ≤ 64) (K : ∀ M2 L2, Inv M2 L2 (n + 1) → lA p l e s m b below meth c D G Q 1230 i [] M2 L2) : lA p l e s m b below meth c D G Q 991 i [] M L := by
  obtain ⟨C, hX, hbl, hbA, hLs⟩ := X
  refine at_aload_n C 2 dL_law_991 rfl ?_
  refine at_scr C hX hbl hbA hLs 1 (by omega) 1 rfl dL_law_992 dL_law_993 dL_law_994 dL_law_995 dL_law_996 ?_
  refine at_scr C hX hbl hbA hLs 2 (by omega) 2 rfl dL_law_997 dL_law_998 dL_law_999 dL_law_1000 dL_law_1001 ?_
  refine at_scr C hX hbl hbA hLs 3 (by omega) 3 rfl dL_law_1002 dL_law_1003 dL_law_1004 dL_law_1005 dL_law_1006 ?_
  refine at_scr C hX hbl hbA hLs 4 (by omega) 4 rfl dL_law_1007 dL_law_1008 dL_law_1009 dL_law_1010 dL_law_1011 ?_
  refine at_call_i C (c_X6_claim l D G ((xs (i + 1)).toInt) ((xs (i + 2)).toInt) ((xs (i + 3)).toInt) ((xs (i + 4)).toInt) (sI_ofR _) (sI_ofR _) (sI_ofR _) (sI_ofR _) h.2.1 (i_ct h)) (As := [.int (sI ((xs (i + 1)).toInt)), .int (sI ((xs (i + 2)).toInt)), .int (sI ((xs (i + 3)).toInt)), .int (sI ((xs (i + 4)).toInt))]) (obj_Sho G) (ci := 6) rfl qw_801 qw_798 qw_1 qw_799 qw_800 ⟨by decide, by decide, show (parseMethodDescriptor yX6_claim.desc).map (fun d => d.parameters.length) = some 4 by decide +kernel⟩ ⟨Nat.le_of_ble_eq_true rfl, Nat.le_of_ble_eq_true rfl⟩ ⟨Nat.le_of_ble_eq_true rfl, Nat.le_of_ble_eq_true rfl⟩ (Nat.le_of_ble_eq_true rfl) dL_law_1012 rfl (fun r M1 L1 hp => ?_)
  obtain ⟨rfl, hB, hT1, rfl⟩ := hp
  refine at_aload_n C 1 dL_law_1015 rfl ?_
  refine at_scr C hX hbl hbA hLs 1 (by omega) 1 rfl dL_law_1016 dL_law_1017 dL_law_1018 dL_law_1019 dL_law_1020 ?_
  refine at_scr C hX hbl hbA hLs 2 (by omega) 2 rfl dL_law_1021 dL_law_1022 dL_law_1023 dL_law_1024 dL_law_1025 ?_
  refine at_scr C hX hbl hbA hLs 3 (by omega) 3 rfl dL_law_1026 dL_law_1027 dL_law_1028 dL_law_1029 dL_law_1030 ?_
  refine at_scr C hX hbl hbA hLs 4 (by omega) 4 rfl dL_law_1031 dL_law_1032 dL_law_1033 dL_law_1034 dL_law_1035 ?_
  have hx : okX M M1 := by rw [hB]; exact ox_b
  refine at_call_i C (c_X7_claim l D G ((xs (i + 1)).toInt) ((xs (i + 2)).toInt) ((xs (i + 3)).toInt) ((xs (i + 4)).toInt) (sI_ofR _) (sI_ofR _) (sI_ofR _) (sI_ofR _) hT1 (mid_q h hx)) (As := [.int (sI ((xs (i + 1)).toInt)), .int (sI ((xs (i + 2)).toInt)), .int (sI ((xs (i + 3)).toInt)), .int (sI ((xs (i + 4)).toInt))]) (obj_Ref G) (ci := 7) rfl qw_1368 qw_1365 qw_8 qw_1366 qw_1367 ⟨by decide, by decide, show (parseMethodDescriptor yX7_claim.desc).map (fun d => d.parameters.length) = some 4 by decide +kernel⟩ ⟨Nat.le_of_ble_eq_true rfl, Nat.le_of_ble_eq_true rfl⟩ ⟨Nat.le_of_ble_eq_true rfl, Nat.le_of_ble_eq_true rfl⟩ (Nat.le_of_ble_eq_true rfl) dL_law_1036 rfl (fun r2 M2 L2 hp => ?_)
  obtain ⟨rfl, rfl, hT2, rfl⟩ := hp
  obtain ⟨ee, hI⟩ := k_claim h hn ((xs (i + 1)).toInt) ((xs (i + 2)).toInt) ((xs (i + 3)).toInt) ((xs (i + 4)).toInt) hB hT1 hT2
  rw [ee]
  exact at_same C 1230 dL_law_1039 (by decide) (K _ _ hI)
set_option maxHeartbeats 4000000 in
theorem q_32 (X : lX p s m b c D G Ls xs) (hi : i + 5 ≤ Ls) (h : Inv M L n) (hn : n + 1 ≤ 64) (K : ∀ M2 L2, Inv M2 L2 (n + 1) → lA p l e s m b below meth c D G Q 1230 i [] M2 L2) : lA p l e s m b below meth c D G Q 1044 i [] M L := by
  obtain ⟨C, hX, hbl, hbA, hLs⟩ := X
  refine at_aload_n C 2 dL_law_1044 rfl ?_
  refine at_scr C hX hbl hbA hLs 1 (by omega) 1 rfl dL_law_1045 dL_law_1046 dL_law_1047 dL_law_1048 dL_law_1049 ?_
  refine at_call_i C (c_X6_gulls l D G ((xs (i + 1)).toInt) (sI_ofR _) h.2.1 (i_ct h)) (As := [.int (sI ((xs (i + 1)).toInt))]) (obj_Sho G) (ci := 6) rfl qw_815 qw_812 qw_1 qw_813 qw_814 ⟨by decide, by decide, show (parseMethodDescriptor yX6_gulls.desc).map (fun d => d.parameters.length) = some 1 by decide +kernel⟩ ⟨Nat.le_of_ble_eq_true rfl, Nat.le_of_ble_eq_true rfl⟩ ⟨Nat.le_of_ble_eq_true rfl, Nat.le_of_ble_eq_true rfl⟩ (Nat.le_of_ble_eq_true rfl) dL_law_1050 rfl (fun r M1 L1 hp => ?_)
  obtain ⟨rfl, rfl, hT1, rfl⟩ := hp
  refine at_aload_n C 1 dL_law_1053 rfl ?_
  refine at_scr C hX hbl hbA hLs 1 (by omega) 1 rfl dL_law_1054 dL_law_1055 dL_law_1056 dL_law_1057 dL_law_1058 ?_
  refine at_call_i C (c_X7_gulls l D G ((xs (i + 1)).toInt) (sI_ofR _) hT1 (mid_q h ox_gulls)) (As := [.int (sI ((xs (i + 1)).toInt))]) (obj_Ref G) (ci := 7) rfl qw_1378 qw_1375 qw_8 qw_1376 qw_1377 ⟨by decide, by decide, show (parseMethodDescriptor yX7_gulls.desc).map (fun d => d.parameters.length) = some 1 by decide +kernel⟩ ⟨Nat.le_of_ble_eq_true rfl, Nat.le_of_ble_eq_true rfl⟩ ⟨Nat.le_of_ble_eq_true rfl, Nat.le_of_ble_eq_true rfl⟩ (Nat.le_of_ble_eq_true rfl) dL_law_1059 rfl (fun r2 M2 L2 hp => ?_)
  obtain ⟨rfl, rfl, hT2, rfl⟩ := hp
  have hI := k_gulls h hn ((xs (i + 1)).toInt) hT1 hT2
  exact at_same C 1230 dL_law_1062 (by decide) (K _ _ hI)
set_option maxHeartbeats 4000000 in
theorem q_33 (X : lX p s m b c D G Ls xs) (hi : i + 5 ≤ Ls) (h : Inv M L n) (hn : n + 1 ≤ 64) (K : ∀ M2 L2, Inv M2 L2 (n + 1) → lA p l e s m b below meth c D G Q 1230 i [] M2 L2) : lA p l e s m b below meth c D G Q 1067 i [] M L := by
  obtain ⟨C, hX, hbl, hbA, hLs⟩ := X
  refine at_aload_n C 2 dL_law_1067 rfl ?_
  refine at_scr C hX hbl hbA hLs 1 (by omega) 1 rfl dL_law_1068 dL_law_1069 dL_law_1070 dL_law_1071 dL_law_1072 ?_
  refine at_scr C hX hbl hbA hLs 2 (by omega) 2 rfl dL_law_1073 dL_law_1074 dL_law_1075 dL_law_1076 dL_law_1077 ?_
  refine at_call_i C (c_X6_years l D G ((xs (i + 1)).toInt) ((xs (i + 2)).toInt) (sI_ofR _) (sI_ofR _) h.2.2.1.2.1 h.2.1 (i_ct h)) (As := [.int (sI ((xs (i + 1)).toInt)), .int (sI ((xs (i + 2)).toInt))]) (obj_Sho G) (ci := 6) rfl qw_824 qw_821 qw_1 qw_822 qw_823 ⟨by decide, by decide, show (parseMethodDescriptor yX6_years.desc).map (fun d => d.parameters.length) = some 2 by decide +kernel⟩ ⟨Nat.le_of_ble_eq_true rfl, Nat.le_of_ble_eq_true rfl⟩ ⟨Nat.le_of_ble_eq_true rfl, Nat.le_of_ble_eq_true rfl⟩ (Nat.le_of_ble_eq_true rfl) dL_law_1078 rfl (fun r M1 L1 hp => ?_)
  obtain ⟨rfl, rfl, hT1, rfl⟩ := hp
  refine at_aload_n C 1 dL_law_1081 rfl ?_
  refine at_scr C hX hbl hbA hLs 1 (by omega) 1 rfl dL_law_1082 dL_law_1083 dL_law_1084 dL_law_1085 dL_law_1086 ?_
  refine at_scr C hX hbl hbA hLs 2 (by omega) 2 rfl dL_law_1087 dL_law_1088 dL_law_1089 dL_law_1090 dL_law_1091 ?_
  refine at_call_i C (c_X7_years l D G ((xs (i + 1)).toInt) ((xs (i + 2)).toInt) (sI_ofR _) (sI_ofR _) (mid_t h ox_years) hT1 (mid_q h ox_years)) (As := [.int (sI ((xs (i + 1)).toInt)), .int (sI ((xs (i + 2)).toInt))]) (obj_Ref G) (ci := 7) rfl qw_1387 qw_1384 qw_8 qw_1385 qw_1386 ⟨by decide, by decide, show (parseMethodDescriptor yX7_years.desc).map (fun d => d.parameters.length) = some 2 by decide +kernel⟩ ⟨Nat.le_of_ble_eq_true rfl, Nat.le_of_ble_eq_true rfl⟩ ⟨Nat.le_of_ble_eq_true rfl, Nat.le_of_ble_eq_true rfl⟩ (Nat.le_of_ble_eq_true rfl) dL_law_1092 rfl (fun r2 M2 L2 hp => ?_)
  obtain ⟨rfl, rfl, hT2, rfl⟩ := hp
  obtain ⟨ee, hI⟩ := k_years h hn _ _ hT1 hT2
  rw [ee]
  exact at_same C 1230 dL_law_1095 (by decide) (K _ _ hI)
set_option maxHeartbeats 4000000 in
theorem q_34 (X : lX p s m b c D G Ls xs) (hi : i + 5 ≤ Ls) (h : Inv M L n) (hn : n + 1 ≤ 64) (K : ∀ M2 L2, Inv M2 L2 (n + 1) → lA p l e s m b below meth c D G Q 1230 i [] M2 L2) : lA p l e s m b below meth c D G Q 1100 i [] M L := by
  obtain ⟨C, hX, hbl, hbA, hLs⟩ := X
  refine at_aload_n C 2 dL_law_1100 rfl ?_
  refine at_scr C hX hbl hbA hLs 1 (by omega) 1 rfl dL_law_1101 dL_law_1102 dL_law_1103 dL_law_1104 dL_law_1105 ?_
  refine at_call_l C (c_X6_part l D G ((xs (i + 1)).toInt) (sI_ofR _) h.2.1 (i_ct h)) (As := [.int (sI ((xs (i + 1)).toInt))]) (obj_Sho G) (ci := 6) rfl qw_836 qw_833 qw_1 qw_834 qw_835 ⟨by decide, by decide, show (parseMethodDescriptor yX6_part.desc).map (fun d => d.parameters.length) = some 1 by decide +kernel⟩ ⟨Nat.le_of_ble_eq_true rfl, Nat.le_of_ble_eq_true rfl⟩ ⟨Nat.le_of_ble_eq_true rfl, Nat.le_of_ble_eq_true rfl⟩ (Nat.le_of_ble_eq_true rfl) dL_law_1106 rfl (fun r M1 L1 hp => ?_)
  obtain ⟨rfl, hB, hT1, rfl⟩ := hp
  refine at_aload_n C 1 dL_law_1109 rfl ?_
  refine at_scr C hX hbl hbA hLs 1 (by omega) 1 rfl dL_law_1110 dL_law_1111 dL_law_1112 dL_law_1113 dL_law_1114 ?_
  have hx : okX M M1 := by rw [hB]; exact ox_b
  refine at_call_l C (c_X7_part l D G ((xs (i + 1)).toInt) (sI_ofR _) hT1 (mid_q h hx)) (As := [.int (sI ((xs (i + 1)).toInt))]) (obj_Ref G) (ci := 7) rfl qw_1399 qw_1396 qw_8 qw_1397 qw_1398 ⟨by decide, by decide, show (parseMethodDescriptor yX7_part.desc).map (fun d => d.parameters.length) = some 1 by decide +kernel⟩ ⟨Nat.le_of_ble_eq_true rfl, Nat.le_of_ble_eq_true rfl⟩ ⟨Nat.le_of_ble_eq_true rfl, Nat.le_of_ble_eq_true rfl⟩ (Nat.le_of_ble_eq_true rfl) dL_law_1115 rfl (fun r2 M2 L2 hp => ?_)
  obtain ⟨rfl, rfl, hT2, rfl⟩ := hp
  obtain ⟨ee, hI⟩ := k_part h hn ((xs (i + 1)).toInt) hB hT1 hT2
  rw [ee]
  exact at_lsame C 1230 dL_law_1118 dL_law_1119 (by decide) (K _ _ hI)
set_option maxHeartbeats 4000000 in
theorem q_35 (X : lX p s m b c D G Ls xs) (hi : i + 5 ≤ Ls) (h : Inv M L n) (hn : n + 1 ≤ 64) (K : ∀ M2 L2, Inv M2 L2 (n + 1) → lA p l e s m b below meth c D G Q 1230 i [] M2 L2) : lA p l e s m b below meth c D G Q 1124 i [] M L := by
  obtain ⟨C, hX, hbl, hbA, hLs⟩ := X
  refine at_aload_n C 2 dL_law_1124 rfl ?_
  refine at_scr C hX hbl hbA hLs 1 (by omega) 1 rfl dL_law_1125 dL_law_1126 dL_law_1127 dL_law_1128 dL_law_1129 ?_
  refine at_call_i C (c_X6_image l D G ((xs (i + 1)).toInt) (sI_ofR _) h.2.1 (i_ct h)) (As := [.int (sI ((xs (i + 1)).toInt))]) (obj_Sho G) (ci := 6) rfl qw_840 qw_837 qw_1 qw_838 qw_839 ⟨by decide, by decide, show (parseMethodDescriptor yX6_image.desc).map (fun d => d.parameters.length) = some 1 by decide +kernel⟩ ⟨Nat.le_of_ble_eq_true rfl, Nat.le_of_ble_eq_true rfl⟩ ⟨Nat.le_of_ble_eq_true rfl, Nat.le_of_ble_eq_true rfl⟩ (Nat.le_of_ble_eq_true rfl) dL_law_1130 rfl (fun r M1 L1 hp => ?_)
  obtain ⟨rfl, rfl, hT1, rfl⟩ := hp
  refine at_aload_n C 1 dL_law_1133 rfl ?_
  refine at_scr C hX hbl hbA hLs 1 (by omega) 1 rfl dL_law_1134 dL_law_1135 dL_law_1136 dL_law_1137 dL_law_1138 ?_
  refine at_call_i C (c_X7_image l D G ((xs (i + 1)).toInt) (sI_ofR _) hT1 (mid_q h ox_image)) (As := [.int (sI ((xs (i + 1)).toInt))]) (obj_Ref G) (ci := 7) rfl qw_1403 qw_1400 qw_8 qw_1401 qw_1402 ⟨by decide, by decide, show (parseMethodDescriptor yX7_image.desc).map (fun d => d.parameters.length) = some 1 by decide +kernel⟩ ⟨Nat.le_of_ble_eq_true rfl, Nat.le_of_ble_eq_true rfl⟩ ⟨Nat.le_of_ble_eq_true rfl, Nat.le_of_ble_eq_true rfl⟩ (Nat.le_of_ble_eq_true rfl) dL_law_1139 rfl (fun r2 M2 L2 hp => ?_)
  obtain ⟨rfl, rfl, hT2, rfl⟩ := hp
  obtain ⟨ee, hI⟩ := k_image h hn _ hT1 hT2
  rw [ee]
  exact at_same C 1230 dL_law_1142 (by decide) (K _ _ hI)
set_option maxHeartbeats 4000000 in
theorem q_36 (X : lX p s m b c D G Ls xs) (hi : i + 5 ≤ Ls) (h : Inv M L n) (hn : n + 1 ≤ 64) (K : ∀ M2 L2, Inv M2 L2 (n + 1) → lA p l e s m b below meth c D G Q 1230 i [] M2 L2) : lA p l e s m b below meth c D G Q 1147 i [] M L := by
  obtain ⟨C, hX, hbl, hbA, hLs⟩ := X
  refine at_aload_n C 2 dL_law_1147 rfl ?_
  refine at_scr C hX hbl hbA hLs 1 (by omega) 1 rfl dL_law_1148 dL_law_1149 dL_law_1150 dL_law_1151 dL_law_1152 ?_
  refine at_call_i C (c_X6_from l D G ((xs (i + 1)).toInt) (sI_ofR _) h.2.1 (i_ct h)) (As := [.int (sI ((xs (i + 1)).toInt))]) (obj_Sho G) (ci := 6) rfl qw_844 qw_841 qw_1 qw_842 qw_843 ⟨by decide, by decide, show (parseMethodDescriptor yX6_from.desc).map (fun d => d.parameters.length) = some 1 by decide +kernel⟩ ⟨Nat.le_of_ble_eq_true rfl, Nat.le_of_ble_eq_true rfl⟩ ⟨Nat.le_of_ble_eq_true rfl, Nat.le_of_ble_eq_true rfl⟩ (Nat.le_of_ble_eq_true rfl) dL_law_1153 rfl (fun r M1 L1 hp => ?_)
  obtain ⟨rfl, rfl, hT1, rfl⟩ := hp
  refine at_aload_n C 1 dL_law_1156 rfl ?_
  refine at_scr C hX hbl hbA hLs 1 (by omega) 1 rfl dL_law_1157 dL_law_1158 dL_law_1159 dL_law_1160 dL_law_1161 ?_
  refine at_call_i C (c_X7_from l D G ((xs (i + 1)).toInt) (sI_ofR _) hT1 (mid_q h ox_from)) (As := [.int (sI ((xs (i + 1)).toInt))]) (obj_Ref G) (ci := 7) rfl qw_1407 qw_1404 qw_8 qw_1405 qw_1406 ⟨by decide, by decide, show (parseMethodDescriptor yX7_from.desc).map (fun d => d.parameters.length) = some 1 by decide +kernel⟩ ⟨Nat.le_of_ble_eq_true rfl, Nat.le_of_ble_eq_true rfl⟩ ⟨Nat.le_of_ble_eq_true rfl, Nat.le_of_ble_eq_true rfl⟩ (Nat.le_of_ble_eq_true rfl) dL_law_1162 rfl (fun r2 M2 L2 hp => ?_)
  obtain ⟨rfl, rfl, hT2, rfl⟩ := hp
  obtain ⟨ee, hI⟩ := k_from h hn _ hT1 hT2
  rw [ee]
  exact at_same C 1230 dL_law_1165 (by decide) (K _ _ hI)
set_option maxHeartbeats 4000000 in
theorem q_37 (X : lX p s m b c D G Ls xs) (hi : i + 5 ≤ Ls) (h : Inv M L n) (hn : n + 1 ≤ 64) (K : ∀ M2 L2, Inv M2 L2 (n + 1) → lA p l e s m b below meth c D G Q 1230 i [] M2 L2) : lA p l e s m b below meth c D G Q 1170 i [] M L := by
  obtain ⟨C, hX, hbl, hbA, hLs⟩ := X
  refine at_aload_n C 2 dL_law_1170 rfl ?_
  refine at_scr C hX hbl hbA hLs 1 (by omega) 1 rfl dL_law_1171 dL_law_1172 dL_law_1173 dL_law_1174 dL_law_1175 ?_
  refine at_call_i C (c_X6_status l D G ((xs (i + 1)).toInt) (sI_ofR _) h.2.1 (i_ct h)) (As := [.int (sI ((xs (i + 1)).toInt))]) (obj_Sho G) (ci := 6) rfl qw_848 qw_845 qw_1 qw_846 qw_847 ⟨by decide, by decide, show (parseMethodDescriptor yX6_status.desc).map (fun d => d.parameters.length) = some 1 by decide +kernel⟩ ⟨Nat.le_of_ble_eq_true rfl, Nat.le_of_ble_eq_true rfl⟩ ⟨Nat.le_of_ble_eq_true rfl, Nat.le_of_ble_eq_true rfl⟩ (Nat.le_of_ble_eq_true rfl) dL_law_1176 rfl (fun r M1 L1 hp => ?_)
  obtain ⟨rfl, hB, hT1, rfl⟩ := hp
  refine at_aload_n C 1 dL_law_1179 rfl ?_
  refine at_scr C hX hbl hbA hLs 1 (by omega) 1 rfl dL_law_1180 dL_law_1181 dL_law_1182 dL_law_1183 dL_law_1184 ?_
  have hx : okX M M1 := by rw [hB]; exact ox_b
  refine at_call_i C (c_X7_status l D G ((xs (i + 1)).toInt) (sI_ofR _) hT1 (mid_q h hx)) (As := [.int (sI ((xs (i + 1)).toInt))]) (obj_Ref G) (ci := 7) rfl qw_1411 qw_1408 qw_8 qw_1409 qw_1410 ⟨by decide, by decide, show (parseMethodDescriptor yX7_status.desc).map (fun d => d.parameters.length) = some 1 by decide +kernel⟩ ⟨Nat.le_of_ble_eq_true rfl, Nat.le_of_ble_eq_true rfl⟩ ⟨Nat.le_of_ble_eq_true rfl, Nat.le_of_ble_eq_true rfl⟩ (Nat.le_of_ble_eq_true rfl) dL_law_1185 rfl (fun r2 M2 L2 hp => ?_)
  obtain ⟨rfl, rfl, hT2, rfl⟩ := hp
  obtain ⟨ee, hI⟩ := k_status h hn ((xs (i + 1)).toInt) hB hT1 hT2
  rw [ee]
  exact at_same C 1230 dL_law_1188 (by decide) (K _ _ hI)
set_option maxHeartbeats 4000000 in
theorem q_38 (X : lX p s m b c D G Ls xs) (hi : i + 5 ≤ Ls) (h : Inv M L n) (hn : n + 1 ≤ 64) (K : ∀ M2 L2, Inv M2 L2 (n + 1) → lA p l e s m b below meth c D G Q 1230 i [] M2 L2) : lA p l e s m b below meth c D G Q 1193 i [] M L := by
  obtain ⟨C, hX, hbl, hbA, hLs⟩ := X
  refine at_aload_n C 2 dL_law_1193 rfl ?_
  refine at_scr C hX hbl hbA hLs 1 (by omega) 1 rfl dL_law_1194 dL_law_1195 dL_law_1196 dL_law_1197 dL_law_1198 ?_
  refine at_call_i C (c_X6_count l D G ((xs (i + 1)).toInt) (sI_ofR _) h.2.1 (i_ct h)) (As := [.int (sI ((xs (i + 1)).toInt))]) (obj_Sho G) (ci := 6) rfl qw_852 qw_849 qw_1 qw_850 qw_851 ⟨by decide, by decide, show (parseMethodDescriptor yX6_count.desc).map (fun d => d.parameters.length) = some 1 by decide +kernel⟩ ⟨Nat.le_of_ble_eq_true rfl, Nat.le_of_ble_eq_true rfl⟩ ⟨Nat.le_of_ble_eq_true rfl, Nat.le_of_ble_eq_true rfl⟩ (Nat.le_of_ble_eq_true rfl) dL_law_1199 rfl (fun r M1 L1 hp => ?_)
  obtain ⟨rfl, hB, hT1, rfl⟩ := hp
  refine at_aload_n C 1 dL_law_1202 rfl ?_
  refine at_scr C hX hbl hbA hLs 1 (by omega) 1 rfl dL_law_1203 dL_law_1204 dL_law_1205 dL_law_1206 dL_law_1207 ?_
  have hx : okX M M1 := by rw [hB]; exact ox_b
  refine at_call_i C (c_X7_count l D G ((xs (i + 1)).toInt) (sI_ofR _) hT1 (mid_q h hx)) (As := [.int (sI ((xs (i + 1)).toInt))]) (obj_Ref G) (ci := 7) rfl qw_1415 qw_1412 qw_8 qw_1413 qw_1414 ⟨by decide, by decide, show (parseMethodDescriptor yX7_count.desc).map (fun d => d.parameters.length) = some 1 by decide +kernel⟩ ⟨Nat.le_of_ble_eq_true rfl, Nat.le_of_ble_eq_true rfl⟩ ⟨Nat.le_of_ble_eq_true rfl, Nat.le_of_ble_eq_true rfl⟩ (Nat.le_of_ble_eq_true rfl) dL_law_1208 rfl (fun r2 M2 L2 hp => ?_)
  obtain ⟨rfl, rfl, hT2, rfl⟩ := hp
  obtain ⟨ee, hI⟩ := k_count h hn ((xs (i + 1)).toInt) hB hT1 hT2
  rw [ee]
  exact at_same C 1230 dL_law_1211 (by decide) (K _ _ hI)
set_option maxHeartbeats 4000000 in
theorem q_39 (X : lX p s m b c D G Ls xs) (hi : i + 5 ≤ Ls) (h : Inv M L n) (hn : n + 1 ≤ 64) (K : ∀ M2 L2, Inv M2 L2 (n + 1) → lA p l e s m b below meth c D G Q 1230 i [] M2 L2) : lA p l e s m b below meth c D G Q 1216 i [] M L := by
  obtain ⟨C, hX, hbl, hbA, hLs⟩ := X
  refine at_aload_n C 2 dL_law_1216 rfl ?_
  refine at_call_l C (c_X6_digest l D G h.2.1) (As := []) (obj_Sho G) (ci := 6) rfl qw_864 qw_861 qw_1 qw_862 qw_863 ⟨by decide, by decide, show (parseMethodDescriptor yX6_digest.desc).map (fun d => d.parameters.length) = some 0 by decide +kernel⟩ ⟨Nat.le_of_ble_eq_true rfl, Nat.le_of_ble_eq_true rfl⟩ ⟨Nat.le_of_ble_eq_true rfl, Nat.le_of_ble_eq_true rfl⟩ (Nat.le_of_ble_eq_true rfl) dL_law_1217 rfl (fun r M1 L1 hp => ?_)
  obtain ⟨rfl, rfl, rfl⟩ := hp
  refine at_aload_n C 1 dL_law_1220 rfl ?_
  refine at_call_l C (c_X7_digest l D G h.2.1) (As := []) (obj_Ref G) (ci := 7) rfl qw_1423 qw_1420 qw_8 qw_1421 qw_1422 ⟨by decide, by decide, show (parseMethodDescriptor yX7_digest.desc).map (fun d => d.parameters.length) = some 0 by decide +kernel⟩ ⟨Nat.le_of_ble_eq_true rfl, Nat.le_of_ble_eq_true rfl⟩ ⟨Nat.le_of_ble_eq_true rfl, Nat.le_of_ble_eq_true rfl⟩ (Nat.le_of_ble_eq_true rfl) dL_law_1221 rfl (fun r2 M2 L2 hp => ?_)
  obtain ⟨rfl, rfl, rfl⟩ := hp
  obtain ⟨ee, hI⟩ := k_digest h hn
  rw [ee]
  exact at_lsame C 1230 dL_law_1224 dL_law_1225 (by decide) (K _ _ hI)
end LC

theorem dL_law_861 : decode cL_law 861 = .ok (.aload_n 1, 1) := by decide +kernel
theorem dL_law_862 : decode cL_law 862 = .ok (.aload_n 0, 1) := by decide +kernel
theorem dL_law_863 : decode cL_law 863 = .ok (.iload 4, 2) := by decide +kernel
theorem dL_law_865 : decode cL_law 865 = .ok (.iconst 1, 1) := by decide +kernel
theorem dL_law_866 : decode cL_law 866 = .ok (.iadd, 1) := by decide +kernel
theorem dL_law_867 : decode cL_law 867 = .ok (.iaload, 1) := by decide +kernel
theorem dL_law_868 : decode cL_law 868 = .ok (.aload_n 0, 1) := by decide +kernel
theorem dL_law_869 : decode cL_law 869 = .ok (.iload 4, 2) := by decide +kernel
theorem dL_law_871 : decode cL_law 871 = .ok (.iconst 2, 1) := by decide +kernel
theorem dL_law_872 : decode cL_law 872 = .ok (.iadd, 1) := by decide +kernel
theorem dL_law_873 : decode cL_law 873 = .ok (.iaload, 1) := by decide +kernel
theorem dL_law_874 : decode cL_law 874 = .ok (.aload_n 0, 1) := by decide +kernel
theorem dL_law_875 : decode cL_law 875 = .ok (.iload 4, 2) := by decide +kernel
theorem dL_law_877 : decode cL_law 877 = .ok (.iconst 3, 1) := by decide +kernel
theorem dL_law_878 : decode cL_law 878 = .ok (.iadd, 1) := by decide +kernel
theorem dL_law_879 : decode cL_law 879 = .ok (.iaload, 1) := by decide +kernel
theorem dL_law_880 : decode cL_law 880 = .ok (.invokevirtual 87, 3) := by decide +kernel
theorem dL_law_883 : decode cL_law 883 = .ok (.aload_n 2, 1) := by decide +kernel
theorem dL_law_884 : decode cL_law 884 = .ok (.aload_n 0, 1) := by decide +kernel
theorem dL_law_885 : decode cL_law 885 = .ok (.iload 4, 2) := by decide +kernel
theorem dL_law_887 : decode cL_law 887 = .ok (.iconst 1, 1) := by decide +kernel
theorem dL_law_888 : decode cL_law 888 = .ok (.iadd, 1) := by decide +kernel
theorem dL_law_889 : decode cL_law 889 = .ok (.iaload, 1) := by decide +kernel
theorem dL_law_890 : decode cL_law 890 = .ok (.aload_n 0, 1) := by decide +kernel
theorem dL_law_891 : decode cL_law 891 = .ok (.iload 4, 2) := by decide +kernel
theorem dL_law_893 : decode cL_law 893 = .ok (.iconst 2, 1) := by decide +kernel
theorem dL_law_894 : decode cL_law 894 = .ok (.iadd, 1) := by decide +kernel
theorem dL_law_895 : decode cL_law 895 = .ok (.iaload, 1) := by decide +kernel
theorem dL_law_896 : decode cL_law 896 = .ok (.aload_n 0, 1) := by decide +kernel
theorem dL_law_897 : decode cL_law 897 = .ok (.iload 4, 2) := by decide +kernel
theorem dL_law_899 : decode cL_law 899 = .ok (.iconst 3, 1) := by decide +kernel
theorem dL_law_900 : decode cL_law 900 = .ok (.iadd, 1) := by decide +kernel
theorem dL_law_901 : decode cL_law 901 = .ok (.iaload, 1) := by decide +kernel
theorem dL_law_902 : decode cL_law 902 = .ok (.invokevirtual 90, 3) := by decide +kernel
theorem dL_law_905 : decode cL_law 905 = .ok (.if_icmp .eq 982, 3) := by decide +kernel
theorem dL_law_910 : decode cL_law 910 = .ok (.aload_n 1, 1) := by decide +kernel
theorem dL_law_911 : decode cL_law 911 = .ok (.aload_n 0, 1) := by decide +kernel
theorem dL_law_912 : decode cL_law 912 = .ok (.iload 4, 2) := by decide +kernel
theorem dL_law_914 : decode cL_law 914 = .ok (.iconst 1, 1) := by decide +kernel
theorem dL_law_915 : decode cL_law 915 = .ok (.iadd, 1) := by decide +kernel
theorem dL_law_916 : decode cL_law 916 = .ok (.iaload, 1) := by decide +kernel
theorem dL_law_917 : decode cL_law 917 = .ok (.aload_n 0, 1) := by decide +kernel
theorem dL_law_918 : decode cL_law 918 = .ok (.iload 4, 2) := by decide +kernel
theorem dL_law_920 : decode cL_law 920 = .ok (.iconst 2, 1) := by decide +kernel
theorem dL_law_921 : decode cL_law 921 = .ok (.iadd, 1) := by decide +kernel
theorem dL_law_922 : decode cL_law 922 = .ok (.iaload, 1) := by decide +kernel
theorem dL_law_923 : decode cL_law 923 = .ok (.aload_n 0, 1) := by decide +kernel
theorem dL_law_924 : decode cL_law 924 = .ok (.iload 4, 2) := by decide +kernel
theorem dL_law_926 : decode cL_law 926 = .ok (.iconst 3, 1) := by decide +kernel
theorem dL_law_927 : decode cL_law 927 = .ok (.iadd, 1) := by decide +kernel
theorem dL_law_928 : decode cL_law 928 = .ok (.iaload, 1) := by decide +kernel
theorem dL_law_929 : decode cL_law 929 = .ok (.invokevirtual 91, 3) := by decide +kernel
theorem dL_law_932 : decode cL_law 932 = .ok (.aload_n 2, 1) := by decide +kernel
theorem dL_law_933 : decode cL_law 933 = .ok (.aload_n 0, 1) := by decide +kernel
theorem dL_law_934 : decode cL_law 934 = .ok (.iload 4, 2) := by decide +kernel
theorem dL_law_936 : decode cL_law 936 = .ok (.iconst 1, 1) := by decide +kernel
theorem dL_law_937 : decode cL_law 937 = .ok (.iadd, 1) := by decide +kernel
theorem dL_law_938 : decode cL_law 938 = .ok (.iaload, 1) := by decide +kernel
theorem dL_law_939 : decode cL_law 939 = .ok (.aload_n 0, 1) := by decide +kernel
theorem dL_law_940 : decode cL_law 940 = .ok (.iload 4, 2) := by decide +kernel
theorem dL_law_942 : decode cL_law 942 = .ok (.iconst 2, 1) := by decide +kernel
theorem dL_law_943 : decode cL_law 943 = .ok (.iadd, 1) := by decide +kernel
theorem dL_law_944 : decode cL_law 944 = .ok (.iaload, 1) := by decide +kernel
theorem dL_law_945 : decode cL_law 945 = .ok (.aload_n 0, 1) := by decide +kernel
theorem dL_law_946 : decode cL_law 946 = .ok (.iload 4, 2) := by decide +kernel
theorem dL_law_948 : decode cL_law 948 = .ok (.iconst 3, 1) := by decide +kernel
theorem dL_law_949 : decode cL_law 949 = .ok (.iadd, 1) := by decide +kernel
theorem dL_law_950 : decode cL_law 950 = .ok (.iaload, 1) := by decide +kernel
theorem dL_law_951 : decode cL_law 951 = .ok (.invokevirtual 94, 3) := by decide +kernel
theorem dL_law_954 : decode cL_law 954 = .ok (.if_icmp .eq 933, 3) := by decide +kernel
theorem dL_law_959 : decode cL_law 959 = .ok (.aload_n 1, 1) := by decide +kernel
theorem dL_law_960 : decode cL_law 960 = .ok (.aload_n 0, 1) := by decide +kernel
theorem dL_law_961 : decode cL_law 961 = .ok (.iload 4, 2) := by decide +kernel
theorem dL_law_963 : decode cL_law 963 = .ok (.iconst 1, 1) := by decide +kernel
theorem dL_law_964 : decode cL_law 964 = .ok (.iadd, 1) := by decide +kernel
theorem dL_law_965 : decode cL_law 965 = .ok (.iaload, 1) := by decide +kernel
theorem dL_law_966 : decode cL_law 966 = .ok (.aload_n 0, 1) := by decide +kernel
theorem dL_law_967 : decode cL_law 967 = .ok (.iload 4, 2) := by decide +kernel
theorem dL_law_969 : decode cL_law 969 = .ok (.iconst 2, 1) := by decide +kernel
theorem dL_law_970 : decode cL_law 970 = .ok (.iadd, 1) := by decide +kernel
theorem dL_law_971 : decode cL_law 971 = .ok (.iaload, 1) := by decide +kernel
theorem dL_law_972 : decode cL_law 972 = .ok (.invokevirtual 95, 3) := by decide +kernel
theorem dL_law_975 : decode cL_law 975 = .ok (.aload_n 2, 1) := by decide +kernel
theorem dL_law_976 : decode cL_law 976 = .ok (.aload_n 0, 1) := by decide +kernel
theorem dL_law_977 : decode cL_law 977 = .ok (.iload 4, 2) := by decide +kernel
theorem dL_law_979 : decode cL_law 979 = .ok (.iconst 1, 1) := by decide +kernel
theorem dL_law_980 : decode cL_law 980 = .ok (.iadd, 1) := by decide +kernel
theorem dL_law_981 : decode cL_law 981 = .ok (.iaload, 1) := by decide +kernel
theorem dL_law_982 : decode cL_law 982 = .ok (.aload_n 0, 1) := by decide +kernel
theorem dL_law_983 : decode cL_law 983 = .ok (.iload 4, 2) := by decide +kernel
theorem dL_law_985 : decode cL_law 985 = .ok (.iconst 2, 1) := by decide +kernel
theorem dL_law_986 : decode cL_law 986 = .ok (.iadd, 1) := by decide +kernel
theorem dL_law_987 : decode cL_law 987 = .ok (.iaload, 1) := by decide +kernel
theorem dL_law_988 : decode cL_law 988 = .ok (.invokevirtual 98, 3) := by decide +kernel
theorem dL_law_991 : decode cL_law 991 = .ok (.if_icmp .eq 896, 3) := by decide +kernel
theorem dL_law_996 : decode cL_law 996 = .ok (.aload_n 1, 1) := by decide +kernel
theorem dL_law_997 : decode cL_law 997 = .ok (.aload_n 0, 1) := by decide +kernel
theorem dL_law_998 : decode cL_law 998 = .ok (.iload 4, 2) := by decide +kernel
theorem dL_law_1000 : decode cL_law 1000 = .ok (.iconst 1, 1) := by decide +kernel
theorem dL_law_1001 : decode cL_law 1001 = .ok (.iadd, 1) := by decide +kernel
theorem dL_law_1002 : decode cL_law 1002 = .ok (.iaload, 1) := by decide +kernel
theorem dL_law_1003 : decode cL_law 1003 = .ok (.aload_n 0, 1) := by decide +kernel
theorem dL_law_1004 : decode cL_law 1004 = .ok (.iload 4, 2) := by decide +kernel
theorem dL_law_1006 : decode cL_law 1006 = .ok (.iconst 2, 1) := by decide +kernel
theorem dL_law_1007 : decode cL_law 1007 = .ok (.iadd, 1) := by decide +kernel
theorem dL_law_1008 : decode cL_law 1008 = .ok (.iaload, 1) := by decide +kernel
theorem dL_law_1009 : decode cL_law 1009 = .ok (.aload_n 0, 1) := by decide +kernel
theorem dL_law_1010 : decode cL_law 1010 = .ok (.iload 4, 2) := by decide +kernel
theorem dL_law_1012 : decode cL_law 1012 = .ok (.iconst 3, 1) := by decide +kernel
theorem dL_law_1013 : decode cL_law 1013 = .ok (.iadd, 1) := by decide +kernel
theorem dL_law_1014 : decode cL_law 1014 = .ok (.iaload, 1) := by decide +kernel
theorem dL_law_1015 : decode cL_law 1015 = .ok (.invokevirtual 99, 3) := by decide +kernel
theorem dL_law_1018 : decode cL_law 1018 = .ok (.aload_n 2, 1) := by decide +kernel
theorem dL_law_1019 : decode cL_law 1019 = .ok (.aload_n 0, 1) := by decide +kernel
theorem dL_law_1020 : decode cL_law 1020 = .ok (.iload 4, 2) := by decide +kernel
theorem dL_law_1022 : decode cL_law 1022 = .ok (.iconst 1, 1) := by decide +kernel
theorem dL_law_1023 : decode cL_law 1023 = .ok (.iadd, 1) := by decide +kernel
theorem dL_law_1024 : decode cL_law 1024 = .ok (.iaload, 1) := by decide +kernel
theorem dL_law_1025 : decode cL_law 1025 = .ok (.aload_n 0, 1) := by decide +kernel
theorem dL_law_1026 : decode cL_law 1026 = .ok (.iload 4, 2) := by decide +kernel
theorem dL_law_1028 : decode cL_law 1028 = .ok (.iconst 2, 1) := by decide +kernel
theorem dL_law_1029 : decode cL_law 1029 = .ok (.iadd, 1) := by decide +kernel
theorem dL_law_1030 : decode cL_law 1030 = .ok (.iaload, 1) := by decide +kernel
theorem dL_law_1031 : decode cL_law 1031 = .ok (.aload_n 0, 1) := by decide +kernel
theorem dL_law_1032 : decode cL_law 1032 = .ok (.iload 4, 2) := by decide +kernel
theorem dL_law_1034 : decode cL_law 1034 = .ok (.iconst 3, 1) := by decide +kernel
theorem dL_law_1035 : decode cL_law 1035 = .ok (.iadd, 1) := by decide +kernel
theorem dL_law_1036 : decode cL_law 1036 = .ok (.iaload, 1) := by decide +kernel
theorem dL_law_1037 : decode cL_law 1037 = .ok (.invokevirtual 102, 3) := by decide +kernel
theorem dL_law_1040 : decode cL_law 1040 = .ok (.if_icmp .eq 847, 3) := by decide +kernel
set_option maxHeartbeats 4000000 in
set_option maxRecDepth 100000 in
theorem law_case_15 {p : Program} {e : Env} {s : State} {m : MethodId} {below : List Frame} {meth : Method} {c : Code} (l : Launch) (hfl : l.stackTraces = false) {b L : Nat} {xs : Nat → Int32} (hL8 : L = 8) (C0 : lw_At p s m meth c b L xs) {A : Nat → Prop} (hAe : A = fun q => s.heap.size ≤ q) (dC : Nat → ClassId) (dI : Nat → Nat → Nat) (x : Nat) (ed : Nat) (bk : Nat) (lc : Nat) (lr : Nat) (la : Nat) (le : Nat) (lw : Nat) (lp : Nat) (ltr : Nat) (stk : Nat) (tp : Nat) (tby : Nat) (tst : Nat) (tla : Nat) (tbe : Nat) (tsu : Nat) (sh : Nat) (sc : Nat) (spl : Nat) (spo : Nat) (sou : Nat) (ssc : Nat) (sto : Nat) (smi : Nat) (sth : Nat) (he : Nat) (of : Nat) (o2 : Nat) (o3 : Nat) (o4 : Nat) (o5 : Nat) (o6 : Nat) (o7 : Nat) (o8 : Nat) (o9 : Nat) (o10 : Nat) (o11 : Nat) (o12 : Nat) (o13 : Nat) (o14 : Nat) (o17 : Nat) (h : Nat) (f : Nat → Value) (tb : Nat) (mlt : Nat) (z0 : Nat) (z1 : Nat) (z2 : Nat) (z3 : Nat) (z4 : Nat) (z5 : Nat) (z6 : Nat) (z7 : Nat) (z8 : Nat) (z9 : Nat) (ou : Nat) (cI : ClassId) (cZ : ClassId) (cB : ClassId) (hN : ub_NX s) (hT : ub_ST s) (hZ : ub_ZE ed A s s.heap) (hKO : ub_KO s) (hEX : ub_EX A s s.heap) (hM0 : f 0 = .int 0) (hM1 : f 1 = .int 0) (hM2 : f 8 = .int 0) (hM3 : f 9 = .int 0) (hM4 : f 16 = .int 0) (hM5 : f 17 = .int 0) (hM6 : f 46 = .int 0) (hM7 : f 47 = .int 0) (hM8 : f 48 = .int 0) (hM9 : f 74 = .int 0) (hM10 : f 75 = .int 0) (hM11 : f 55 = .int 0) (hR0 : f 10 = .ref tb) (hR1 : f 15 = .ref mlt) (hR2 : f 27 = .ref z0) (hR3 : f 28 = .ref z1) (hR4 : f 29 = .ref z2) (hR5 : f 30 = .ref z3) (hR6 : f 31 = .ref z4) (hR7 : f 32 = .ref z5) (hR8 : f 33 = .ref z6) (hR9 : f 34 = .ref z7) (hR10 : f 35 = .ref z8) (hR11 : f 36 = .ref z9) (H : Heap) (locs : List Loc) (ls : Array Slot) (hK : va_K (dC, dI) vwCl [(cI, .int), (cZ, .boolean), (cB, .byte)] s) (hP : va_P (dC, dI) vwCl [(x, .inr (13, [.ref bk, .ref tp, .ref sh, .ref sc, .ref he, .ref of])), (bk, .inr (1, [.int 0, .int 0, .int 0, .ref lc, .ref lr, .ref la, .ref le, .ref lw, .ref lp, .ref ltr, .ref stk])), (la, .inr (0, [.int 0, .ref ed, .int 0])), (h, .inr (14, mL f))] H) (hD : va_D A [(x, .inr (13, [.ref bk, .ref tp, .ref sh, .ref sc, .ref he, .ref of])), (bk, .inr (1, [.int 0, .int 0, .int 0, .ref lc, .ref lr, .ref la, .ref le, .ref lw, .ref lp, .ref ltr, .ref stk])), (la, .inr (0, [.int 0, .ref ed, .int 0])), (h, .inr (14, mL f))]) (hS : va_S A s.heap H locs) (hl : lv_has ls 7 [(0, .ref b), (1, .ref x), (2, .ref h), (3, .ref ou), (4, .int 0)]) : W p l e room_1 s m #[Value.ref b] below meth c H locs 1000 100000 (lw_Z below #[Value.ref b] s) (F0 m 861 ls []) := by
  obtain ⟨hx, hb, hr, hml, hown, hts0, hX, hbl, hlocks, hgv⟩ := id C0
  have hts := fun w h => hts0 w (v_law_in w h)
  have hbA : ¬ A b := by rw [hAe]; exact Nat.not_le.mpr hbl
  have hA : ∀ q : Nat, s.heap.size ≤ q → A q := fun q h9 => by rw [hAe]; exact h9
  refine lv_aload_n hx hb dL_law_861 rfl (lv_at hl 1 rfl) ?_
  refine lv_aload_n hx hb dL_law_862 rfl (lv_at hl 0 rfl) ?_
  refine lv_iload hx hb dL_law_863 (lv_at hl 4 rfl) ?_
  refine lv_iconst (v := 1) hx hb dL_law_865 (by decide) ?_
  refine lv_iadd hx hb dL_law_866 ?_
  refine lv_topi (fun y1 ey1 => ?_)
  obtain rfl : (1 : Int32) = y1 := (ey1.trans (by decide)).symm
  refine va_sld hx hb hX hbl hbA hS (by rw [hL8]; exact vp_in_nI (n := 1) (N := 8) (by decide) (by decide)) dL_law_867 ?_
  refine lv_aload_n hx hb dL_law_868 rfl (lv_at hl 0 rfl) ?_
  refine lv_iload hx hb dL_law_869 (lv_at hl 4 rfl) ?_
  refine lv_iconst (v := 2) hx hb dL_law_871 (by decide) ?_
  refine lv_iadd hx hb dL_law_872 ?_
  refine lv_topi (fun y2 ey2 => ?_)
  obtain rfl : (2 : Int32) = y2 := (ey2.trans (by decide)).symm
  refine va_sld hx hb hX hbl hbA hS (by rw [hL8]; exact vp_in_nI (n := 2) (N := 8) (by decide) (by decide)) dL_law_873 ?_
  refine lv_aload_n hx hb dL_law_874 rfl (lv_at hl 0 rfl) ?_
  refine lv_iload hx hb dL_law_875 (lv_at hl 4 rfl) ?_
  refine lv_iconst (v := 3) hx hb dL_law_877 (by decide) ?_
  refine lv_iadd hx hb dL_law_878 ?_
  refine lv_topi (fun y3 ey3 => ?_)
  obtain rfl : (3 : Int32) = y3 := (ey3.trans (by decide)).symm
  refine va_sld hx hb hX hbl hbA hS (by rw [hL8]; exact vp_in_nI (n := 3) (N := 8) (by decide) (by decide)) dL_law_879 ?_
  have hPc := hP.sub (ws' := [(x, .inr (13, [.ref bk, .ref tp, .ref sh, .ref sc, .ref he, .ref of])), (bk, .inr (1, [.int 0, .int 0, .int 0, .ref lc, .ref lr, .ref la, .ref le, .ref lw, .ref lp, .ref ltr, .ref stk])), (la, .inr (0, [.int 0, .ref ed, .int 0]))]) [0, 1, 2] rfl
  have hKc := hK.sub (tys' := []) [] rfl
  refine va_calli (va_runV (As := [.int (xs (1 : Int32).toNatClampNeg), .int (xs (2 : Int32).toNatClampNeg), .int (xs (3 : Int32).toNatClampNeg)]) (rest := []) ⟨hx, hb, hml, hown, hts⟩ (c_corrected l dC dI x bk tp sh sc he of lc lr la le lw lp ltr stk ed (xs (1 : Int32).toNatClampNeg) (xs (2 : Int32).toNatClampNeg) (xs (3 : Int32).toNatClampNeg)) (cwV 3 hts g_law_c_corrected_87 rfl rfl rfl (by decide +kernel) ⟨Nat.le_of_ble_eq_true rfl, Nat.le_of_ble_eq_true rfl⟩) ⟨fun a U g mk q => by obtain ⟨e0, qP, qK, qN⟩ := q; exact ⟨e0, qP, va_K.moved (u := U) (U := U.calling g mk a) (Vm.Alike.refl U.vm) qK, ub_NX_c qN⟩, va_recv hK hP (ci := 13) (q0 := 0) rfl rfl, fun U hU hW => ⟨rfl, by rw [hU]; exact hPc, va_K.moved hW.alike hKc, ub_NX_w hW hN⟩⟩ rfl rfl hl.1 rfl (lv_room (Nat.le_of_ble_eq_true rfl)) dL_law_880 ⟨Nat.le_of_ble_eq_true rfl, Nat.le_of_ble_eq_true rfl⟩) hS (fun _ _ h => h.elim) (fun _ h => h.elim) (fun r4 u5 t H1 locs ht hvm hw hB hz1 hk1 hS => ?_)
  have hP := ub_keep hP hk1
  generalize H1 = H at hP hS ⊢
  have hr_r4 := hw
  refine lv_aload_n hx hb dL_law_883 rfl (lv_at hl 2 rfl) ?_
  refine lv_aload_n hx hb dL_law_884 rfl (lv_at hl 0 rfl) ?_
  refine lv_iload hx hb dL_law_885 (lv_at hl 4 rfl) ?_
  refine lv_iconst (v := 1) hx hb dL_law_887 (by decide) ?_
  refine lv_iadd hx hb dL_law_888 ?_
  refine lv_topi (fun y6 ey6 => ?_)
  obtain rfl : (1 : Int32) = y6 := (ey6.trans (by decide)).symm
  refine va_sld hx hb hX hbl hbA hS (by rw [hL8]; exact vp_in_nI (n := 1) (N := 8) (by decide) (by decide)) dL_law_889 ?_
  refine lv_aload_n hx hb dL_law_890 rfl (lv_at hl 0 rfl) ?_
  refine lv_iload hx hb dL_law_891 (lv_at hl 4 rfl) ?_
  refine lv_iconst (v := 2) hx hb dL_law_893 (by decide) ?_
  refine lv_iadd hx hb dL_law_894 ?_
  refine lv_topi (fun y7 ey7 => ?_)
  obtain rfl : (2 : Int32) = y7 := (ey7.trans (by decide)).symm
  refine va_sld hx hb hX hbl hbA hS (by rw [hL8]; exact vp_in_nI (n := 2) (N := 8) (by decide) (by decide)) dL_law_895 ?_
  refine lv_aload_n hx hb dL_law_896 rfl (lv_at hl 0 rfl) ?_
  refine lv_iload hx hb dL_law_897 (lv_at hl 4 rfl) ?_
  refine lv_iconst (v := 3) hx hb dL_law_899 (by decide) ?_
  refine lv_iadd hx hb dL_law_900 ?_
  refine lv_topi (fun y8 ey8 => ?_)
  obtain rfl : (3 : Int32) = y8 := (ey8.trans (by decide)).symm
  refine va_sld hx hb hX hbl hbA hS (by rw [hL8]; exact vp_in_nI (n := 3) (N := 8) (by decide) (by decide)) dL_law_901 ?_
  have hPc := hP.sub (ws' := [(h, .inr (14, mL f))]) [3] rfl
  have hKc := hK.sub (tys' := []) [] rfl
  have hDc := hD.sub (ws' := [(h, .inr (14, mL f))]) [3] (by decide) rfl
  have hFc := va_free (wc := [(h, .inr (14, mL f))]) hD hS hA [3] rfl
  refine va_calli (va_runV (As := [.int (xs (1 : Int32).toNatClampNeg), .int (xs (2 : Int32).toNatClampNeg), .int (xs (3 : Int32).toNatClampNeg)]) (rest := [.int r4]) ⟨hx, hb, hml, hown, hts⟩ (m_corrected l dC dI h f (xs (1 : Int32).toNatClampNeg) (xs (2 : Int32).toNatClampNeg) (xs (3 : Int32).toNatClampNeg) H.size hM0 hM6) (cwV 3 hts g_law_m_corrected_90 rfl rfl rfl (by decide +kernel) ⟨Nat.le_of_ble_eq_true rfl, Nat.le_of_ble_eq_true rfl⟩) ⟨fun a U g mk q => by obtain ⟨e0, e1, qP, qK, qD⟩ := q; exact ⟨e0, e1, qP, va_K.moved (u := U) (U := U.calling g mk a) (Vm.Alike.refl U.vm) qK, qD⟩, va_recv hK hP (ci := 14) (q0 := 3) rfl rfl, fun U hU hW => ⟨rfl, by rw [hU], by rw [hU]; exact hPc, va_K.moved hW.alike hKc, hDc.weaken (fun _ _ _ _ => trivial)⟩⟩ rfl rfl hl.1 rfl (lv_room (Nat.le_of_ble_eq_true rfl)) dL_law_902 ⟨Nat.le_of_ble_eq_true rfl, Nat.le_of_ble_eq_true rfl⟩) hS (fun q _ h => hFc q h) hFc (fun r9 u10 t H1 locs ht hvm hw hB hz1 hk1 hS => ?_)
  have hP1 : va_P (dC, dI) vwCl [] H1 := ub_P0
  have hD1 : va_D (va_A [(h, .inr (14, mL f))] H.size) [] := ub_D0
  obtain ⟨hP, hD⟩ := va_join (wr := [(x, .inr (13, [.ref bk, .ref tp, .ref sh, .ref sc, .ref he, .ref of])), (bk, .inr (1, [.int 0, .int 0, .int 0, .ref lc, .ref lr, .ref la, .ref le, .ref lw, .ref lp, .ref ltr, .ref stk])), (la, .inr (0, [.int 0, .ref ed, .int 0]))]) (w1 := []) hP hD [3] [0, 1, 2] rfl rfl (by decide) (by decide) hk1 hFc hP1 hD1
  generalize H1 = H at hP hS ⊢
  have hP : va_P (dC, dI) vwCl [(x, .inr (13, [.ref bk, .ref tp, .ref sh, .ref sc, .ref he, .ref of])), (bk, .inr (1, [.int 0, .int 0, .int 0, .ref lc, .ref lr, .ref la, .ref le, .ref lw, .ref lp, .ref ltr, .ref stk])), (la, .inr (0, [.int 0, .ref ed, .int 0]))] H := hP
  have hD : va_D A [(x, .inr (13, [.ref bk, .ref tp, .ref sh, .ref sc, .ref he, .ref of])), (bk, .inr (1, [.int 0, .int 0, .int 0, .ref lc, .ref lr, .ref la, .ref le, .ref lw, .ref lp, .ref ltr, .ref stk])), (la, .inr (0, [.int 0, .ref ed, .int 0]))] := hD
  refine W.widen (k := 1000) (n := 100000) (by omega) (by omega) ?_
  have hr_r9 := hw
  refine lv_icmp_eq (tgt := 1887) hx hb dL_law_905 (by decide) (fun c11 => ?_) (fun c11 => by first | exact absurd c11 (hr_r4.trans hr_r9.symm) | exact absurd (hr_r4.trans hr_r9.symm) c11)
  refine W.widen (k := 600002) (n := 7302232) (by omega) (by omega) ?_
  exact law_tail l hL8 C0 hAe _ _ ls hS (lv_sub hl [0, 4] rfl)
set_option maxHeartbeats 4000000 in
set_option maxRecDepth 100000 in
theorem law_case_16 {p : Program} {e : Env} {s : State} {m : MethodId} {below : List Frame} {meth : Method} {c : Code} (l : Launch) (hfl : l.stackTraces = false) {b L : Nat} {xs : Nat → Int32} (hL8 : L = 8) (C0 : lw_At p s m meth c b L xs) {A : Nat → Prop} (hAe : A = fun q => s.heap.size ≤ q) (dC : Nat → ClassId) (dI : Nat → Nat → Nat) (x : Nat) (ed : Nat) (bk : Nat) (lc : Nat) (lr : Nat) (la : Nat) (le : Nat) (lw : Nat) (lp : Nat) (ltr : Nat) (stk : Nat) (tp : Nat) (tby : Nat) (tst : Nat) (tla : Nat) (tbe : Nat) (tsu : Nat) (sh : Nat) (sc : Nat) (spl : Nat) (spo : Nat) (sou : Nat) (ssc : Nat) (sto : Nat) (smi : Nat) (sth : Nat) (he : Nat) (of : Nat) (o2 : Nat) (o3 : Nat) (o4 : Nat) (o5 : Nat) (o6 : Nat) (o7 : Nat) (o8 : Nat) (o9 : Nat) (o10 : Nat) (o11 : Nat) (o12 : Nat) (o13 : Nat) (o14 : Nat) (o17 : Nat) (h : Nat) (f : Nat → Value) (tb : Nat) (mlt : Nat) (z0 : Nat) (z1 : Nat) (z2 : Nat) (z3 : Nat) (z4 : Nat) (z5 : Nat) (z6 : Nat) (z7 : Nat) (z8 : Nat) (z9 : Nat) (ou : Nat) (cI : ClassId) (cZ : ClassId) (cB : ClassId) (hN : ub_NX s) (hT : ub_ST s) (hZ : ub_ZE ed A s s.heap) (hKO : ub_KO s) (hEX : ub_EX A s s.heap) (hM0 : f 0 = .int 0) (hM1 : f 1 = .int 0) (hM2 : f 8 = .int 0) (hM3 : f 9 = .int 0) (hM4 : f 16 = .int 0) (hM5 : f 17 = .int 0) (hM6 : f 46 = .int 0) (hM7 : f 47 = .int 0) (hM8 : f 48 = .int 0) (hM9 : f 74 = .int 0) (hM10 : f 75 = .int 0) (hM11 : f 55 = .int 0) (hR0 : f 10 = .ref tb) (hR1 : f 15 = .ref mlt) (hR2 : f 27 = .ref z0) (hR3 : f 28 = .ref z1) (hR4 : f 29 = .ref z2) (hR5 : f 30 = .ref z3) (hR6 : f 31 = .ref z4) (hR7 : f 32 = .ref z5) (hR8 : f 33 = .ref z6) (hR9 : f 34 = .ref z7) (hR10 : f 35 = .ref z8) (hR11 : f 36 = .ref z9) (H : Heap) (locs : List Loc) (ls : Array Slot) (hK : va_K (dC, dI) vwCl [(cI, .int), (cZ, .boolean), (cB, .byte)] s) (hP : va_P (dC, dI) vwCl [(x, .inr (13, [.ref bk, .ref tp, .ref sh, .ref sc, .ref he, .ref of])), (bk, .inr (1, [.int 0, .int 0, .int 0, .ref lc, .ref lr, .ref la, .ref le, .ref lw, .ref lp, .ref ltr, .ref stk])), (la, .inr (0, [.int 0, .ref ed, .int 0])), (h, .inr (14, mL f))] H) (hD : va_D A [(x, .inr (13, [.ref bk, .ref tp, .ref sh, .ref sc, .ref he, .ref of])), (bk, .inr (1, [.int 0, .int 0, .int 0, .ref lc, .ref lr, .ref la, .ref le, .ref lw, .ref lp, .ref ltr, .ref stk])), (la, .inr (0, [.int 0, .ref ed, .int 0])), (h, .inr (14, mL f))]) (hS : va_S A s.heap H locs) (hl : lv_has ls 7 [(0, .ref b), (1, .ref x), (2, .ref h), (3, .ref ou), (4, .int 0)]) : W p l e room_1 s m #[Value.ref b] below meth c H locs 1000 100000 (lw_Z below #[Value.ref b] s) (F0 m 910 ls []) := by
  obtain ⟨hx, hb, hr, hml, hown, hts0, hX, hbl, hlocks, hgv⟩ := id C0
  have hts := fun w h => hts0 w (v_law_in w h)
  have hbA : ¬ A b := by rw [hAe]; exact Nat.not_le.mpr hbl
  have hA : ∀ q : Nat, s.heap.size ≤ q → A q := fun q h9 => by rw [hAe]; exact h9
  refine lv_aload_n hx hb dL_law_910 rfl (lv_at hl 1 rfl) ?_
  refine lv_aload_n hx hb dL_law_911 rfl (lv_at hl 0 rfl) ?_
  refine lv_iload hx hb dL_law_912 (lv_at hl 4 rfl) ?_
  refine lv_iconst (v := 1) hx hb dL_law_914 (by decide) ?_
  refine lv_iadd hx hb dL_law_915 ?_
  refine lv_topi (fun y1 ey1 => ?_)
  obtain rfl : (1 : Int32) = y1 := (ey1.trans (by decide)).symm
  refine va_sld hx hb hX hbl hbA hS (by rw [hL8]; exact vp_in_nI (n := 1) (N := 8) (by decide) (by decide)) dL_law_916 ?_
  refine lv_aload_n hx hb dL_law_917 rfl (lv_at hl 0 rfl) ?_
  refine lv_iload hx hb dL_law_918 (lv_at hl 4 rfl) ?_
  refine lv_iconst (v := 2) hx hb dL_law_920 (by decide) ?_
  refine lv_iadd hx hb dL_law_921 ?_
  refine lv_topi (fun y2 ey2 => ?_)
  obtain rfl : (2 : Int32) = y2 := (ey2.trans (by decide)).symm
  refine va_sld hx hb hX hbl hbA hS (by rw [hL8]; exact vp_in_nI (n := 2) (N := 8) (by decide) (by decide)) dL_law_922 ?_
  refine lv_aload_n hx hb dL_law_923 rfl (lv_at hl 0 rfl) ?_
  refine lv_iload hx hb dL_law_924 (lv_at hl 4 rfl) ?_
  refine lv_iconst (v := 3) hx hb dL_law_926 (by decide) ?_
  refine lv_iadd hx hb dL_law_927 ?_
  refine lv_topi (fun y3 ey3 => ?_)
  obtain rfl : (3 : Int32) = y3 := (ey3.trans (by decide)).symm
  refine va_sld hx hb hX hbl hbA hS (by rw [hL8]; exact vp_in_nI (n := 3) (N := 8) (by decide) (by decide)) dL_law_928 ?_
  have hPc := hP.sub (ws' := [(x, .inr (13, [.ref bk, .ref tp, .ref sh, .ref sc, .ref he, .ref of])), (bk, .inr (1, [.int 0, .int 0, .int 0, .ref lc, .ref lr, .ref la, .ref le, .ref lw, .ref lp, .ref ltr, .ref stk])), (la, .inr (0, [.int 0, .ref ed, .int 0]))]) [0, 1, 2] rfl
  have hKc := hK.sub (tys' := []) [] rfl
  refine va_calli (va_runV (As := [.int (xs (1 : Int32).toNatClampNeg), .int (xs (2 : Int32).toNatClampNeg), .int (xs (3 : Int32).toNatClampNeg)]) (rest := []) ⟨hx, hb, hml, hown, hts⟩ (c_placed l dC dI x bk tp sh sc he of lc lr la le lw lp ltr stk ed (xs (1 : Int32).toNatClampNeg) (xs (2 : Int32).toNatClampNeg) (xs (3 : Int32).toNatClampNeg)) (cwV 3 hts g_law_c_placed_91 rfl rfl rfl (by decide +kernel) ⟨Nat.le_of_ble_eq_true rfl, Nat.le_of_ble_eq_true rfl⟩) ⟨fun a U g mk q => by obtain ⟨e0, qP, qK, qN⟩ := q; exact ⟨e0, qP, va_K.moved (u := U) (U := U.calling g mk a) (Vm.Alike.refl U.vm) qK, ub_NX_c qN⟩, va_recv hK hP (ci := 13) (q0 := 0) rfl rfl, fun U hU hW => ⟨rfl, by rw [hU]; exact hPc, va_K.moved hW.alike hKc, ub_NX_w hW hN⟩⟩ rfl rfl hl.1 rfl (lv_room (Nat.le_of_ble_eq_true rfl)) dL_law_929 ⟨Nat.le_of_ble_eq_true rfl, Nat.le_of_ble_eq_true rfl⟩) hS (fun _ _ h => h.elim) (fun _ h => h.elim) (fun r4 u5 t H1 locs ht hvm hw hB hz1 hk1 hS => ?_)
  have hP := ub_keep hP hk1
  generalize H1 = H at hP hS ⊢
  have hr_r4 := hw
  refine lv_aload_n hx hb dL_law_932 rfl (lv_at hl 2 rfl) ?_
  refine lv_aload_n hx hb dL_law_933 rfl (lv_at hl 0 rfl) ?_
  refine lv_iload hx hb dL_law_934 (lv_at hl 4 rfl) ?_
  refine lv_iconst (v := 1) hx hb dL_law_936 (by decide) ?_
  refine lv_iadd hx hb dL_law_937 ?_
  refine lv_topi (fun y6 ey6 => ?_)
  obtain rfl : (1 : Int32) = y6 := (ey6.trans (by decide)).symm
  refine va_sld hx hb hX hbl hbA hS (by rw [hL8]; exact vp_in_nI (n := 1) (N := 8) (by decide) (by decide)) dL_law_938 ?_
  refine lv_aload_n hx hb dL_law_939 rfl (lv_at hl 0 rfl) ?_
  refine lv_iload hx hb dL_law_940 (lv_at hl 4 rfl) ?_
  refine lv_iconst (v := 2) hx hb dL_law_942 (by decide) ?_
  refine lv_iadd hx hb dL_law_943 ?_
  refine lv_topi (fun y7 ey7 => ?_)
  obtain rfl : (2 : Int32) = y7 := (ey7.trans (by decide)).symm
  refine va_sld hx hb hX hbl hbA hS (by rw [hL8]; exact vp_in_nI (n := 2) (N := 8) (by decide) (by decide)) dL_law_944 ?_
  refine lv_aload_n hx hb dL_law_945 rfl (lv_at hl 0 rfl) ?_
  refine lv_iload hx hb dL_law_946 (lv_at hl 4 rfl) ?_
  refine lv_iconst (v := 3) hx hb dL_law_948 (by decide) ?_
  refine lv_iadd hx hb dL_law_949 ?_
  refine lv_topi (fun y8 ey8 => ?_)
  obtain rfl : (3 : Int32) = y8 := (ey8.trans (by decide)).symm
  refine va_sld hx hb hX hbl hbA hS (by rw [hL8]; exact vp_in_nI (n := 3) (N := 8) (by decide) (by decide)) dL_law_950 ?_
  have hPc := hP.sub (ws' := [(h, .inr (14, mL f))]) [3] rfl
  have hKc := hK.sub (tys' := []) [] rfl
  have hDc := hD.sub (ws' := [(h, .inr (14, mL f))]) [3] (by decide) rfl
  have hFc := va_free (wc := [(h, .inr (14, mL f))]) hD hS hA [3] rfl
  refine va_calli (va_runV (As := [.int (xs (1 : Int32).toNatClampNeg), .int (xs (2 : Int32).toNatClampNeg), .int (xs (3 : Int32).toNatClampNeg)]) (rest := [.int r4]) ⟨hx, hb, hml, hown, hts⟩ (m_placed l dC dI h f (xs (1 : Int32).toNatClampNeg) (xs (2 : Int32).toNatClampNeg) (xs (3 : Int32).toNatClampNeg) H.size hM0 hM6) (cwV 3 hts g_law_m_placed_94 rfl rfl rfl (by decide +kernel) ⟨Nat.le_of_ble_eq_true rfl, Nat.le_of_ble_eq_true rfl⟩) ⟨fun a U g mk q => by obtain ⟨e0, e1, qP, qK, qD⟩ := q; exact ⟨e0, e1, qP, va_K.moved (u := U) (U := U.calling g mk a) (Vm.Alike.refl U.vm) qK, qD⟩, va_recv hK hP (ci := 14) (q0 := 3) rfl rfl, fun U hU hW => ⟨rfl, by rw [hU], by rw [hU]; exact hPc, va_K.moved hW.alike hKc, hDc.weaken (fun _ _ _ _ => trivial)⟩⟩ rfl rfl hl.1 rfl (lv_room (Nat.le_of_ble_eq_true rfl)) dL_law_951 ⟨Nat.le_of_ble_eq_true rfl, Nat.le_of_ble_eq_true rfl⟩) hS (fun q _ h => hFc q h) hFc (fun r9 u10 t H1 locs ht hvm hw hB hz1 hk1 hS => ?_)
  have hP1 : va_P (dC, dI) vwCl [] H1 := ub_P0
  have hD1 : va_D (va_A [(h, .inr (14, mL f))] H.size) [] := ub_D0
  obtain ⟨hP, hD⟩ := va_join (wr := [(x, .inr (13, [.ref bk, .ref tp, .ref sh, .ref sc, .ref he, .ref of])), (bk, .inr (1, [.int 0, .int 0, .int 0, .ref lc, .ref lr, .ref la, .ref le, .ref lw, .ref lp, .ref ltr, .ref stk])), (la, .inr (0, [.int 0, .ref ed, .int 0]))]) (w1 := []) hP hD [3] [0, 1, 2] rfl rfl (by decide) (by decide) hk1 hFc hP1 hD1
  generalize H1 = H at hP hS ⊢
  have hP : va_P (dC, dI) vwCl [(x, .inr (13, [.ref bk, .ref tp, .ref sh, .ref sc, .ref he, .ref of])), (bk, .inr (1, [.int 0, .int 0, .int 0, .ref lc, .ref lr, .ref la, .ref le, .ref lw, .ref lp, .ref ltr, .ref stk])), (la, .inr (0, [.int 0, .ref ed, .int 0]))] H := hP
  have hD : va_D A [(x, .inr (13, [.ref bk, .ref tp, .ref sh, .ref sc, .ref he, .ref of])), (bk, .inr (1, [.int 0, .int 0, .int 0, .ref lc, .ref lr, .ref la, .ref le, .ref lw, .ref lp, .ref ltr, .ref stk])), (la, .inr (0, [.int 0, .ref ed, .int 0]))] := hD
  refine W.widen (k := 1000) (n := 100000) (by omega) (by omega) ?_
  have hr_r9 := hw
  refine lv_icmp_eq (tgt := 1887) hx hb dL_law_954 (by decide) (fun c11 => ?_) (fun c11 => by first | exact absurd c11 (hr_r4.trans hr_r9.symm) | exact absurd (hr_r4.trans hr_r9.symm) c11)
  refine W.widen (k := 600002) (n := 7302232) (by omega) (by omega) ?_
  exact law_tail l hL8 C0 hAe _ _ ls hS (lv_sub hl [0, 4] rfl)
set_option maxHeartbeats 4000000 in
set_option maxRecDepth 100000 in
theorem law_case_17 {p : Program} {e : Env} {s : State} {m : MethodId} {below : List Frame} {meth : Method} {c : Code} (l : Launch) (hfl : l.stackTraces = false) {b L : Nat} {xs : Nat → Int32} (hL8 : L = 8) (C0 : lw_At p s m meth c b L xs) {A : Nat → Prop} (hAe : A = fun q => s.heap.size ≤ q) (dC : Nat → ClassId) (dI : Nat → Nat → Nat) (x : Nat) (ed : Nat) (bk : Nat) (lc : Nat) (lr : Nat) (la : Nat) (le : Nat) (lw : Nat) (lp : Nat) (ltr : Nat) (stk : Nat) (tp : Nat) (tby : Nat) (tst : Nat) (tla : Nat) (tbe : Nat) (tsu : Nat) (sh : Nat) (sc : Nat) (spl : Nat) (spo : Nat) (sou : Nat) (ssc : Nat) (sto : Nat) (smi : Nat) (sth : Nat) (he : Nat) (of : Nat) (o2 : Nat) (o3 : Nat) (o4 : Nat) (o5 : Nat) (o6 : Nat) (o7 : Nat) (o8 : Nat) (o9 : Nat) (o10 : Nat) (o11 : Nat) (o12 : Nat) (o13 : Nat) (o14 : Nat) (o17 : Nat) (h : Nat) (f : Nat → Value) (tb : Nat) (mlt : Nat) (z0 : Nat) (z1 : Nat) (z2 : Nat) (z3 : Nat) (z4 : Nat) (z5 : Nat) (z6 : Nat) (z7 : Nat) (z8 : Nat) (z9 : Nat) (ou : Nat) (cI : ClassId) (cZ : ClassId) (cB : ClassId) (hN : ub_NX s) (hT : ub_ST s) (hZ : ub_ZE ed A s s.heap) (hKO : ub_KO s) (hEX : ub_EX A s s.heap) (hM0 : f 0 = .int 0) (hM1 : f 1 = .int 0) (hM2 : f 8 = .int 0) (hM3 : f 9 = .int 0) (hM4 : f 16 = .int 0) (hM5 : f 17 = .int 0) (hM6 : f 46 = .int 0) (hM7 : f 47 = .int 0) (hM8 : f 48 = .int 0) (hM9 : f 74 = .int 0) (hM10 : f 75 = .int 0) (hM11 : f 55 = .int 0) (hR0 : f 10 = .ref tb) (hR1 : f 15 = .ref mlt) (hR2 : f 27 = .ref z0) (hR3 : f 28 = .ref z1) (hR4 : f 29 = .ref z2) (hR5 : f 30 = .ref z3) (hR6 : f 31 = .ref z4) (hR7 : f 32 = .ref z5) (hR8 : f 33 = .ref z6) (hR9 : f 34 = .ref z7) (hR10 : f 35 = .ref z8) (hR11 : f 36 = .ref z9) (H : Heap) (locs : List Loc) (ls : Array Slot) (hK : va_K (dC, dI) vwCl [(cI, .int), (cZ, .boolean), (cB, .byte)] s) (hP : va_P (dC, dI) vwCl [(x, .inr (13, [.ref bk, .ref tp, .ref sh, .ref sc, .ref he, .ref of])), (bk, .inr (1, [.int 0, .int 0, .int 0, .ref lc, .ref lr, .ref la, .ref le, .ref lw, .ref lp, .ref ltr, .ref stk])), (la, .inr (0, [.int 0, .ref ed, .int 0])), (h, .inr (14, mL f))] H) (hD : va_D A [(x, .inr (13, [.ref bk, .ref tp, .ref sh, .ref sc, .ref he, .ref of])), (bk, .inr (1, [.int 0, .int 0, .int 0, .ref lc, .ref lr, .ref la, .ref le, .ref lw, .ref lp, .ref ltr, .ref stk])), (la, .inr (0, [.int 0, .ref ed, .int 0])), (h, .inr (14, mL f))]) (hS : va_S A s.heap H locs) (hl : lv_has ls 7 [(0, .ref b), (1, .ref x), (2, .ref h), (3, .ref ou), (4, .int 0)]) : W p l e room_1 s m #[Value.ref b] below meth c H locs 1000 100000 (lw_Z below #[Value.ref b] s) (F0 m 959 ls []) := by
  obtain ⟨hx, hb, hr, hml, hown, hts0, hX, hbl, hlocks, hgv⟩ := id C0
  have hts := fun w h => hts0 w (v_law_in w h)
  have hbA : ¬ A b := by rw [hAe]; exact Nat.not_le.mpr hbl
  have hA : ∀ q : Nat, s.heap.size ≤ q → A q := fun q h9 => by rw [hAe]; exact h9
  refine lv_aload_n hx hb dL_law_959 rfl (lv_at hl 1 rfl) ?_
  refine lv_aload_n hx hb dL_law_960 rfl (lv_at hl 0 rfl) ?_
  refine lv_iload hx hb dL_law_961 (lv_at hl 4 rfl) ?_
  refine lv_iconst (v := 1) hx hb dL_law_963 (by decide) ?_
  refine lv_iadd hx hb dL_law_964 ?_
  refine lv_topi (fun y1 ey1 => ?_)
  obtain rfl : (1 : Int32) = y1 := (ey1.trans (by decide)).symm
  refine va_sld hx hb hX hbl hbA hS (by rw [hL8]; exact vp_in_nI (n := 1) (N := 8) (by decide) (by decide)) dL_law_965 ?_
  refine lv_aload_n hx hb dL_law_966 rfl (lv_at hl 0 rfl) ?_
  refine lv_iload hx hb dL_law_967 (lv_at hl 4 rfl) ?_
  refine lv_iconst (v := 2) hx hb dL_law_969 (by decide) ?_
  refine lv_iadd hx hb dL_law_970 ?_
  refine lv_topi (fun y2 ey2 => ?_)
  obtain rfl : (2 : Int32) = y2 := (ey2.trans (by decide)).symm
  refine va_sld hx hb hX hbl hbA hS (by rw [hL8]; exact vp_in_nI (n := 2) (N := 8) (by decide) (by decide)) dL_law_971 ?_
  have hPc := hP.sub (ws' := [(x, .inr (13, [.ref bk, .ref tp, .ref sh, .ref sc, .ref he, .ref of])), (bk, .inr (1, [.int 0, .int 0, .int 0, .ref lc, .ref lr, .ref la, .ref le, .ref lw, .ref lp, .ref ltr, .ref stk])), (la, .inr (0, [.int 0, .ref ed, .int 0]))]) [0, 1, 2] rfl
  have hKc := hK.sub (tys' := []) [] rfl
  refine va_calli (va_runV (As := [.int (xs (1 : Int32).toNatClampNeg), .int (xs (2 : Int32).toNatClampNeg)]) (rest := []) ⟨hx, hb, hml, hown, hts⟩ (c_redress l dC dI x bk tp sh sc he of lc lr la le lw lp ltr stk ed (xs (1 : Int32).toNatClampNeg) (xs (2 : Int32).toNatClampNeg)) (cwV 2 hts g_law_c_redress_95 rfl rfl rfl (by decide +kernel) ⟨Nat.le_of_ble_eq_true rfl, Nat.le_of_ble_eq_true rfl⟩) ⟨fun a U g mk q => by obtain ⟨e0, qP, qK, qN⟩ := q; exact ⟨e0, qP, va_K.moved (u := U) (U := U.calling g mk a) (Vm.Alike.refl U.vm) qK, ub_NX_c qN⟩, va_recv hK hP (ci := 13) (q0 := 0) rfl rfl, fun U hU hW => ⟨rfl, by rw [hU]; exact hPc, va_K.moved hW.alike hKc, ub_NX_w hW hN⟩⟩ rfl rfl hl.1 rfl (lv_room (Nat.le_of_ble_eq_true rfl)) dL_law_972 ⟨Nat.le_of_ble_eq_true rfl, Nat.le_of_ble_eq_true rfl⟩) hS (fun _ _ h => h.elim) (fun _ h => h.elim) (fun r3 u4 t H1 locs ht hvm hw hB hz1 hk1 hS => ?_)
  have hP := ub_keep hP hk1
  generalize H1 = H at hP hS ⊢
  have hr_r3 := hw
  refine lv_aload_n hx hb dL_law_975 rfl (lv_at hl 2 rfl) ?_
  refine lv_aload_n hx hb dL_law_976 rfl (lv_at hl 0 rfl) ?_
  refine lv_iload hx hb dL_law_977 (lv_at hl 4 rfl) ?_
  refine lv_iconst (v := 1) hx hb dL_law_979 (by decide) ?_
  refine lv_iadd hx hb dL_law_980 ?_
  refine lv_topi (fun y5 ey5 => ?_)
  obtain rfl : (1 : Int32) = y5 := (ey5.trans (by decide)).symm
  refine va_sld hx hb hX hbl hbA hS (by rw [hL8]; exact vp_in_nI (n := 1) (N := 8) (by decide) (by decide)) dL_law_981 ?_
  refine lv_aload_n hx hb dL_law_982 rfl (lv_at hl 0 rfl) ?_
  refine lv_iload hx hb dL_law_983 (lv_at hl 4 rfl) ?_
  refine lv_iconst (v := 2) hx hb dL_law_985 (by decide) ?_
  refine lv_iadd hx hb dL_law_986 ?_
  refine lv_topi (fun y6 ey6 => ?_)
  obtain rfl : (2 : Int32) = y6 := (ey6.trans (by decide)).symm
  refine va_sld hx hb hX hbl hbA hS (by rw [hL8]; exact vp_in_nI (n := 2) (N := 8) (by decide) (by decide)) dL_law_987 ?_
  have hPc := hP.sub (ws' := [(h, .inr (14, mL f))]) [3] rfl
  have hKc := hK.sub (tys' := []) [] rfl
  have hDc := hD.sub (ws' := [(h, .inr (14, mL f))]) [3] (by decide) rfl
  have hFc := va_free (wc := [(h, .inr (14, mL f))]) hD hS hA [3] rfl
  refine va_calli (va_runV (As := [.int (xs (1 : Int32).toNatClampNeg), .int (xs (2 : Int32).toNatClampNeg)]) (rest := [.int r3]) ⟨hx, hb, hml, hown, hts⟩ (m_redress l dC dI h f (xs (1 : Int32).toNatClampNeg) (xs (2 : Int32).toNatClampNeg) H.size hM0 hM8 hM6) (cwV 2 hts g_law_m_redress_98 rfl rfl rfl (by decide +kernel) ⟨Nat.le_of_ble_eq_true rfl, Nat.le_of_ble_eq_true rfl⟩) ⟨fun a U g mk q => by obtain ⟨e0, e1, qP, qK, qD⟩ := q; exact ⟨e0, e1, qP, va_K.moved (u := U) (U := U.calling g mk a) (Vm.Alike.refl U.vm) qK, qD⟩, va_recv hK hP (ci := 14) (q0 := 3) rfl rfl, fun U hU hW => ⟨rfl, by rw [hU], by rw [hU]; exact hPc, va_K.moved hW.alike hKc, hDc.weaken (fun _ _ _ _ => trivial)⟩⟩ rfl rfl hl.1 rfl (lv_room (Nat.le_of_ble_eq_true rfl)) dL_law_988 ⟨Nat.le_of_ble_eq_true rfl, Nat.le_of_ble_eq_true rfl⟩) hS (fun q _ h => hFc q h) hFc (fun r7 u8 t H1 locs ht hvm hw hB hz1 hk1 hS => ?_)
  have hP1 : va_P (dC, dI) vwCl [] H1 := ub_P0
  have hD1 : va_D (va_A [(h, .inr (14, mL f))] H.size) [] := ub_D0
  obtain ⟨hP, hD⟩ := va_join (wr := [(x, .inr (13, [.ref bk, .ref tp, .ref sh, .ref sc, .ref he, .ref of])), (bk, .inr (1, [.int 0, .int 0, .int 0, .ref lc, .ref lr, .ref la, .ref le, .ref lw, .ref lp, .ref ltr, .ref stk])), (la, .inr (0, [.int 0, .ref ed, .int 0]))]) (w1 := []) hP hD [3] [0, 1, 2] rfl rfl (by decide) (by decide) hk1 hFc hP1 hD1
  generalize H1 = H at hP hS ⊢
  have hP : va_P (dC, dI) vwCl [(x, .inr (13, [.ref bk, .ref tp, .ref sh, .ref sc, .ref he, .ref of])), (bk, .inr (1, [.int 0, .int 0, .int 0, .ref lc, .ref lr, .ref la, .ref le, .ref lw, .ref lp, .ref ltr, .ref stk])), (la, .inr (0, [.int 0, .ref ed, .int 0]))] H := hP
  have hD : va_D A [(x, .inr (13, [.ref bk, .ref tp, .ref sh, .ref sc, .ref he, .ref of])), (bk, .inr (1, [.int 0, .int 0, .int 0, .ref lc, .ref lr, .ref la, .ref le, .ref lw, .ref lp, .ref ltr, .ref stk])), (la, .inr (0, [.int 0, .ref ed, .int 0]))] := hD
  refine W.widen (k := 1000) (n := 100000) (by omega) (by omega) ?_
  have hr_r7 := hw
  refine lv_icmp_eq (tgt := 1887) hx hb dL_law_991 (by decide) (fun c9 => ?_) (fun c9 => by first | exact absurd c9 (hr_r3.trans hr_r7.symm) | exact absurd (hr_r3.trans hr_r7.symm) c9)
  refine W.widen (k := 600002) (n := 7302232) (by omega) (by omega) ?_
  exact law_tail l hL8 C0 hAe _ _ ls hS (lv_sub hl [0, 4] rfl)
set_option maxHeartbeats 4000000 in
set_option maxRecDepth 100000 in
theorem law_case_18 {p : Program} {e : Env} {s : State} {m : MethodId} {below : List Frame} {meth : Method} {c : Code} (l : Launch) (hfl : l.stackTraces = false) {b L : Nat} {xs : Nat → Int32} (hL8 : L = 8) (C0 : lw_At p s m meth c b L xs) {A : Nat → Prop} (hAe : A = fun q => s.heap.size ≤ q) (dC : Nat → ClassId) (dI : Nat → Nat → Nat) (x : Nat) (ed : Nat) (bk : Nat) (lc : Nat) (lr : Nat) (la : Nat) (le : Nat) (lw : Nat) (lp : Nat) (ltr : Nat) (stk : Nat) (tp : Nat) (tby : Nat) (tst : Nat) (tla : Nat) (tbe : Nat) (tsu : Nat) (sh : Nat) (sc : Nat) (spl : Nat) (spo : Nat) (sou : Nat) (ssc : Nat) (sto : Nat) (smi : Nat) (sth : Nat) (he : Nat) (of : Nat) (o2 : Nat) (o3 : Nat) (o4 : Nat) (o5 : Nat) (o6 : Nat) (o7 : Nat) (o8 : Nat) (o9 : Nat) (o10 : Nat) (o11 : Nat) (o12 : Nat) (o13 : Nat) (o14 : Nat) (o17 : Nat) (h : Nat) (f : Nat → Value) (tb : Nat) (mlt : Nat) (z0 : Nat) (z1 : Nat) (z2 : Nat) (z3 : Nat) (z4 : Nat) (z5 : Nat) (z6 : Nat) (z7 : Nat) (z8 : Nat) (z9 : Nat) (ou : Nat) (cI : ClassId) (cZ : ClassId) (cB : ClassId) (hN : ub_NX s) (hT : ub_ST s) (hZ : ub_ZE ed A s s.heap) (hKO : ub_KO s) (hEX : ub_EX A s s.heap) (hM0 : f 0 = .int 0) (hM1 : f 1 = .int 0) (hM2 : f 8 = .int 0) (hM3 : f 9 = .int 0) (hM4 : f 16 = .int 0) (hM5 : f 17 = .int 0) (hM6 : f 46 = .int 0) (hM7 : f 47 = .int 0) (hM8 : f 48 = .int 0) (hM9 : f 74 = .int 0) (hM10 : f 75 = .int 0) (hM11 : f 55 = .int 0) (hR0 : f 10 = .ref tb) (hR1 : f 15 = .ref mlt) (hR2 : f 27 = .ref z0) (hR3 : f 28 = .ref z1) (hR4 : f 29 = .ref z2) (hR5 : f 30 = .ref z3) (hR6 : f 31 = .ref z4) (hR7 : f 32 = .ref z5) (hR8 : f 33 = .ref z6) (hR9 : f 34 = .ref z7) (hR10 : f 35 = .ref z8) (hR11 : f 36 = .ref z9) (H : Heap) (locs : List Loc) (ls : Array Slot) (hK : va_K (dC, dI) vwCl [(cI, .int), (cZ, .boolean), (cB, .byte)] s) (hP : va_P (dC, dI) vwCl [(x, .inr (13, [.ref bk, .ref tp, .ref sh, .ref sc, .ref he, .ref of])), (bk, .inr (1, [.int 0, .int 0, .int 0, .ref lc, .ref lr, .ref la, .ref le, .ref lw, .ref lp, .ref ltr, .ref stk])), (la, .inr (0, [.int 0, .ref ed, .int 0])), (h, .inr (14, mL f))] H) (hD : va_D A [(x, .inr (13, [.ref bk, .ref tp, .ref sh, .ref sc, .ref he, .ref of])), (bk, .inr (1, [.int 0, .int 0, .int 0, .ref lc, .ref lr, .ref la, .ref le, .ref lw, .ref lp, .ref ltr, .ref stk])), (la, .inr (0, [.int 0, .ref ed, .int 0])), (h, .inr (14, mL f))]) (hS : va_S A s.heap H locs) (hl : lv_has ls 7 [(0, .ref b), (1, .ref x), (2, .ref h), (3, .ref ou), (4, .int 0)]) : W p l e room_1 s m #[Value.ref b] below meth c H locs 1000 100000 (lw_Z below #[Value.ref b] s) (F0 m 996 ls []) := by
  obtain ⟨hx, hb, hr, hml, hown, hts0, hX, hbl, hlocks, hgv⟩ := id C0
  have hts := fun w h => hts0 w (v_law_in w h)
  have hbA : ¬ A b := by rw [hAe]; exact Nat.not_le.mpr hbl
  have hA : ∀ q : Nat, s.heap.size ≤ q → A q := fun q h9 => by rw [hAe]; exact h9
  refine lv_aload_n hx hb dL_law_996 rfl (lv_at hl 1 rfl) ?_
  refine lv_aload_n hx hb dL_law_997 rfl (lv_at hl 0 rfl) ?_
  refine lv_iload hx hb dL_law_998 (lv_at hl 4 rfl) ?_
  refine lv_iconst (v := 1) hx hb dL_law_1000 (by decide) ?_
  refine lv_iadd hx hb dL_law_1001 ?_
  refine lv_topi (fun y1 ey1 => ?_)
  obtain rfl : (1 : Int32) = y1 := (ey1.trans (by decide)).symm
  refine va_sld hx hb hX hbl hbA hS (by rw [hL8]; exact vp_in_nI (n := 1) (N := 8) (by decide) (by decide)) dL_law_1002 ?_
  refine lv_aload_n hx hb dL_law_1003 rfl (lv_at hl 0 rfl) ?_
  refine lv_iload hx hb dL_law_1004 (lv_at hl 4 rfl) ?_
  refine lv_iconst (v := 2) hx hb dL_law_1006 (by decide) ?_
  refine lv_iadd hx hb dL_law_1007 ?_
  refine lv_topi (fun y2 ey2 => ?_)
  obtain rfl : (2 : Int32) = y2 := (ey2.trans (by decide)).symm
  refine va_sld hx hb hX hbl hbA hS (by rw [hL8]; exact vp_in_nI (n := 2) (N := 8) (by decide) (by decide)) dL_law_1008 ?_
  refine lv_aload_n hx hb dL_law_1009 rfl (lv_at hl 0 rfl) ?_
  refine lv_iload hx hb dL_law_1010 (lv_at hl 4 rfl) ?_
  refine lv_iconst (v := 3) hx hb dL_law_1012 (by decide) ?_
  refine lv_iadd hx hb dL_law_1013 ?_
  refine lv_topi (fun y3 ey3 => ?_)
  obtain rfl : (3 : Int32) = y3 := (ey3.trans (by decide)).symm
  refine va_sld hx hb hX hbl hbA hS (by rw [hL8]; exact vp_in_nI (n := 3) (N := 8) (by decide) (by decide)) dL_law_1014 ?_
  have hPc := hP.sub (ws' := [(x, .inr (13, [.ref bk, .ref tp, .ref sh, .ref sc, .ref he, .ref of])), (bk, .inr (1, [.int 0, .int 0, .int 0, .ref lc, .ref lr, .ref la, .ref le, .ref lw, .ref lp, .ref ltr, .ref stk])), (la, .inr (0, [.int 0, .ref ed, .int 0]))]) [0, 1, 2] rfl
  have hKc := hK.sub (tys' := []) [] rfl
  refine va_calli (va_runV (As := [.int (xs (1 : Int32).toNatClampNeg), .int (xs (2 : Int32).toNatClampNeg), .int (xs (3 : Int32).toNatClampNeg)]) (rest := []) ⟨hx, hb, hml, hown, hts⟩ (c_points l dC dI x bk tp sh sc he of lc lr la le lw lp ltr stk ed (xs (1 : Int32).toNatClampNeg) (xs (2 : Int32).toNatClampNeg) (xs (3 : Int32).toNatClampNeg)) (cwV 3 hts g_law_c_points_99 rfl rfl rfl (by decide +kernel) ⟨Nat.le_of_ble_eq_true rfl, Nat.le_of_ble_eq_true rfl⟩) ⟨fun a U g mk q => by obtain ⟨e0, qP, qK, qN⟩ := q; exact ⟨e0, qP, va_K.moved (u := U) (U := U.calling g mk a) (Vm.Alike.refl U.vm) qK, ub_NX_c qN⟩, va_recv hK hP (ci := 13) (q0 := 0) rfl rfl, fun U hU hW => ⟨rfl, by rw [hU]; exact hPc, va_K.moved hW.alike hKc, ub_NX_w hW hN⟩⟩ rfl rfl hl.1 rfl (lv_room (Nat.le_of_ble_eq_true rfl)) dL_law_1015 ⟨Nat.le_of_ble_eq_true rfl, Nat.le_of_ble_eq_true rfl⟩) hS (fun _ _ h => h.elim) (fun _ h => h.elim) (fun r4 u5 t H1 locs ht hvm hw hB hz1 hk1 hS => ?_)
  have hP := ub_keep hP hk1
  generalize H1 = H at hP hS ⊢
  have hr_r4 := hw
  refine lv_aload_n hx hb dL_law_1018 rfl (lv_at hl 2 rfl) ?_
  refine lv_aload_n hx hb dL_law_1019 rfl (lv_at hl 0 rfl) ?_
  refine lv_iload hx hb dL_law_1020 (lv_at hl 4 rfl) ?_
  refine lv_iconst (v := 1) hx hb dL_law_1022 (by decide) ?_
  refine lv_iadd hx hb dL_law_1023 ?_
  refine lv_topi (fun y6 ey6 => ?_)
  obtain rfl : (1 : Int32) = y6 := (ey6.trans (by decide)).symm
  refine va_sld hx hb hX hbl hbA hS (by rw [hL8]; exact vp_in_nI (n := 1) (N := 8) (by decide) (by decide)) dL_law_1024 ?_
  refine lv_aload_n hx hb dL_law_1025 rfl (lv_at hl 0 rfl) ?_
  refine lv_iload hx hb dL_law_1026 (lv_at hl 4 rfl) ?_
  refine lv_iconst (v := 2) hx hb dL_law_1028 (by decide) ?_
  refine lv_iadd hx hb dL_law_1029 ?_
  refine lv_topi (fun y7 ey7 => ?_)
  obtain rfl : (2 : Int32) = y7 := (ey7.trans (by decide)).symm
  refine va_sld hx hb hX hbl hbA hS (by rw [hL8]; exact vp_in_nI (n := 2) (N := 8) (by decide) (by decide)) dL_law_1030 ?_
  refine lv_aload_n hx hb dL_law_1031 rfl (lv_at hl 0 rfl) ?_
  refine lv_iload hx hb dL_law_1032 (lv_at hl 4 rfl) ?_
  refine lv_iconst (v := 3) hx hb dL_law_1034 (by decide) ?_
  refine lv_iadd hx hb dL_law_1035 ?_
  refine lv_topi (fun y8 ey8 => ?_)
  obtain rfl : (3 : Int32) = y8 := (ey8.trans (by decide)).symm
  refine va_sld hx hb hX hbl hbA hS (by rw [hL8]; exact vp_in_nI (n := 3) (N := 8) (by decide) (by decide)) dL_law_1036 ?_
  have hPc := hP.sub (ws' := [(h, .inr (14, mL f))]) [3] rfl
  have hKc := hK.sub (tys' := []) [] rfl
  have hDc := hD.sub (ws' := [(h, .inr (14, mL f))]) [3] (by decide) rfl
  have hFc := va_free (wc := [(h, .inr (14, mL f))]) hD hS hA [3] rfl
  refine va_calli (va_runV (As := [.int (xs (1 : Int32).toNatClampNeg), .int (xs (2 : Int32).toNatClampNeg), .int (xs (3 : Int32).toNatClampNeg)]) (rest := [.int r4]) ⟨hx, hb, hml, hown, hts⟩ (m_points l dC dI h f (xs (1 : Int32).toNatClampNeg) (xs (2 : Int32).toNatClampNeg) (xs (3 : Int32).toNatClampNeg) H.size hM0 hM6) (cwV 3 hts g_law_m_points_102 rfl rfl rfl (by decide +kernel) ⟨Nat.le_of_ble_eq_true rfl, Nat.le_of_ble_eq_true rfl⟩) ⟨fun a U g mk q => by obtain ⟨e0, e1, qP, qK, qD⟩ := q; exact ⟨e0, e1, qP, va_K.moved (u := U) (U := U.calling g mk a) (Vm.Alike.refl U.vm) qK, qD⟩, va_recv hK hP (ci := 14) (q0 := 3) rfl rfl, fun U hU hW => ⟨rfl, by rw [hU], by rw [hU]; exact hPc, va_K.moved hW.alike hKc, hDc.weaken (fun _ _ _ _ => trivial)⟩⟩ rfl rfl hl.1 rfl (lv_room (Nat.le_of_ble_eq_true rfl)) dL_law_1037 ⟨Nat.le_of_ble_eq_true rfl, Nat.le_of_ble_eq_true rfl⟩) hS (fun q _ h => hFc q h) hFc (fun r9 u10 t H1 locs ht hvm hw hB hz1 hk1 hS => ?_)
  have hP1 : va_P (dC, dI) vwCl [] H1 := ub_P0
  have hD1 : va_D (va_A [(h, .inr (14, mL f))] H.size) [] := ub_D0
  obtain ⟨hP, hD⟩ := va_join (wr := [(x, .inr (13, [.ref bk, .ref tp, .ref sh, .ref sc, .ref he, .ref of])), (bk, .inr (1, [.int 0, .int 0, .int 0, .ref lc, .ref lr, .ref la, .ref le, .ref lw, .ref lp, .ref ltr, .ref stk])), (la, .inr (0, [.int 0, .ref ed, .int 0]))]) (w1 := []) hP hD [3] [0, 1, 2] rfl rfl (by decide) (by decide) hk1 hFc hP1 hD1
  generalize H1 = H at hP hS ⊢
  have hP : va_P (dC, dI) vwCl [(x, .inr (13, [.ref bk, .ref tp, .ref sh, .ref sc, .ref he, .ref of])), (bk, .inr (1, [.int 0, .int 0, .int 0, .ref lc, .ref lr, .ref la, .ref le, .ref lw, .ref lp, .ref ltr, .ref stk])), (la, .inr (0, [.int 0, .ref ed, .int 0]))] H := hP
  have hD : va_D A [(x, .inr (13, [.ref bk, .ref tp, .ref sh, .ref sc, .ref he, .ref of])), (bk, .inr (1, [.int 0, .int 0, .int 0, .ref lc, .ref lr, .ref la, .ref le, .ref lw, .ref lp, .ref ltr, .ref stk])), (la, .inr (0, [.int 0, .ref ed, .int 0]))] := hD
  refine W.widen (k := 1000) (n := 100000) (by omega) (by omega) ?_
  have hr_r9 := hw
  refine lv_icmp_eq (tgt := 1887) hx hb dL_law_1040 (by decide) (fun c11 => ?_) (fun c11 => by first | exact absurd c11 (hr_r4.trans hr_r9.symm) | exact absurd (hr_r4.trans hr_r9.symm) c11)
  refine W.widen (k := 600002) (n := 7302232) (by omega) (by omega) ?_
  exact law_tail l hL8 C0 hAe _ _ ls hS (lv_sub hl [0, 4] rfl)

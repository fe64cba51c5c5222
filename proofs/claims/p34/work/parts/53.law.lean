/-! the law's loop, its start, its end -/
def lwE : zQ := fun ex pc _ st _ _ => ex = none ∧ pc = 1082 ∧ st = [.int (jI 1)]
section LW
variable {Γ : zΓ} {σ : zC} {τ : zTau} {u : zW} {B : zB} {n9 : Nat} {g9 : Bool} {kc ks L : Nat} {xs : Nat → Int32} {i : Int}
theorem lw_end (h : jin B) {o3 o4 o5 o6 o7 o8 o9 o10 o11 o12 o13 o14 o15 o16 o17 o18 : Option Value} : zRun Γ md_L_law 10 none 818 [some (.ref 0), some (.ref 5), some (.int (jI (1))), o3, o4, o5, o6, o7, o8, o9, o10, o11, o12, o13, o14, o15, o16, o17, o18] [] (n9, g9, 23, 138) (bk 6 B (cr σ τ u)) lwE := by
  have hg9 := hg (Γ := Γ) (d := 0) (σ := σ) (τ := τ) (u := u) h
  refine zr_iload_n dL_law_818 (rfl : 818 + 1 = 819) rfl ?_
  refine zr_if_eq (tgt := 1081) dL_law_819 (by decide) (rfl : 819 + 3 = 822) (by first | exact jb_iff | exact jI_z (by first | omega | (simp only [bset, reduceIte, Nat.reduceEqDiff]; omega)) (by first | omega | (simp only [bset, reduceIte, Nat.reduceEqDiff]; omega))) (fun h819 => ?_) (fun h819 => ?_)
  · exfalso
    omega
  refine zr_aload_n dL_law_822 (rfl : 822 + 1 = 823) rfl ?_
  refine zr_ot dL_law_823 (rfl : 823 + 3 = 826) l_L_180 hg9 rfl rfl (Nat.le_of_ble_eq_true rfl) (by first | omega | (simp only [bset, reduceIte, Nat.reduceEqDiff]; omega)) (by first | omega | (simp only [bset, reduceIte, Nat.reduceEqDiff]; omega)) ?_
  rintro _ g1 _ ⟨rfl, τ2, rfl⟩
  show zRun _ _ _ _ _ _ [.int (jI 1)] _ _ _
  refine zr_if_eq (tgt := 1081) dL_law_826 (by decide) (rfl : 826 + 3 = 829) (by first | exact jb_iff | exact jI_z (by first | omega | (simp only [bset, reduceIte, Nat.reduceEqDiff]; omega)) (by first | omega | (simp only [bset, reduceIte, Nat.reduceEqDiff]; omega))) (fun h826 => ?_) (fun h826 => ?_)
  · exfalso
    omega
  refine zr_aload_n dL_law_829 (rfl : 829 + 1 = 830) rfl ?_
  refine zr_bipush dL_law_830 (rfl : 830 + 2 = 832) (by decide) ?_
  refine zr_iconst dL_law_832 (rfl : 832 + 1 = 833) ?_
  refine zr_iconst dL_law_833 (rfl : 833 + 1 = 834) ?_
  refine zr_otH dL_law_834 (rfl : 834 + 3 = 837) l_L_99 (lt_put1 lc_5 (t_put1 (d := 1) 6 0 1 (by decide) (by decide) (by decide))) rfl rfl (Nat.le_of_ble_eq_true rfl) (by first | omega | (simp only [bset, reduceIte, Nat.reduceEqDiff]; omega)) (by first | omega | (simp only [bset, reduceIte, Nat.reduceEqDiff]; omega)) ?_
  intro g834
  refine zr_ldc dL_law_837 (rfl : 837 + 2 = 839) kj_L_17 ?_
  refine zr_icmp_ne (tgt := 1081) dL_law_839 (by decide) (rfl : 839 + 3 = 842) (jI_eq (by first | omega | (simp only [bset, reduceIte, Nat.reduceEqDiff]; omega)) (by first | omega | (simp only [bset, reduceIte, Nat.reduceEqDiff]; omega)) (by first | omega | (simp only [bset, reduceIte, Nat.reduceEqDiff]; omega)) (by first | omega | (simp only [bset, reduceIte, Nat.reduceEqDiff]; omega))) (fun h839 => ?_) (fun h839 => ?_)
  · exfalso
    omega
  refine zr_aload_n dL_law_842 (rfl : 842 + 1 = 843) rfl ?_
  refine zr_iconst dL_law_843 (rfl : 843 + 1 = 844) ?_
  refine zr_iconst dL_law_844 (rfl : 844 + 1 = 845) ?_
  refine zr_bipush dL_law_845 (rfl : 845 + 2 = 847) (by decide) ?_
  refine zr_otH dL_law_847 (rfl : 847 + 3 = 850) l_L_99 (lt_put2 lc_5 (t_put2 (d := 1) 0 0 91 (by decide) (by decide) (by decide))) rfl rfl (Nat.le_of_ble_eq_true rfl) (by first | omega | (simp only [bset, reduceIte, Nat.reduceEqDiff]; omega)) (by first | omega | (simp only [bset, reduceIte, Nat.reduceEqDiff]; omega)) ?_
  intro g847
  refine zr_ldc dL_law_850 (rfl : 850 + 2 = 852) kj_L_20 ?_
  refine zr_icmp_ne (tgt := 1081) dL_law_852 (by decide) (rfl : 852 + 3 = 855) (jI_eq (by first | omega | (simp only [bset, reduceIte, Nat.reduceEqDiff]; omega)) (by first | omega | (simp only [bset, reduceIte, Nat.reduceEqDiff]; omega)) (by first | omega | (simp only [bset, reduceIte, Nat.reduceEqDiff]; omega)) (by first | omega | (simp only [bset, reduceIte, Nat.reduceEqDiff]; omega))) (fun h852 => ?_) (fun h852 => ?_)
  · exfalso
    omega
  refine zr_aload_n dL_law_855 (rfl : 855 + 1 = 856) rfl ?_
  refine zr_iconst dL_law_856 (rfl : 856 + 1 = 857) ?_
  refine zr_otH dL_law_857 (rfl : 857 + 3 = 860) l_L_104 (lt_take1 lc_5 (t_take1 (d := 1) 0 (by decide) (by decide))) rfl rfl (Nat.le_of_ble_eq_true rfl) (by first | omega | (simp only [bset, reduceIte, Nat.reduceEqDiff]; omega)) (by first | omega | (simp only [bset, reduceIte, Nat.reduceEqDiff]; omega)) ?_
  intro g857
  refine zr_ldc dL_law_860 (rfl : 860 + 2 = 862) kj_L_17 ?_
  refine zr_icmp_ne (tgt := 1081) dL_law_862 (by decide) (rfl : 862 + 3 = 865) (jI_eq (by first | omega | (simp only [bset, reduceIte, Nat.reduceEqDiff]; omega)) (by first | omega | (simp only [bset, reduceIte, Nat.reduceEqDiff]; omega)) (by first | omega | (simp only [bset, reduceIte, Nat.reduceEqDiff]; omega)) (by first | omega | (simp only [bset, reduceIte, Nat.reduceEqDiff]; omega))) (fun h862 => ?_) (fun h862 => ?_)
  · exfalso
    omega
  refine zr_aload_n dL_law_865 (rfl : 865 + 1 = 866) rfl ?_
  refine zr_iconst dL_law_866 (rfl : 866 + 1 = 867) ?_
  refine zr_bipush dL_law_867 (rfl : 867 + 2 = 869) (by decide) ?_
  refine zr_otH dL_law_869 (rfl : 869 + 3 = 872) l_L_107 (lt_fill2 lc_5 (t_fill2 (d := 1) 0 61 (by decide) (by decide) (by decide))) rfl rfl (Nat.le_of_ble_eq_true rfl) (by first | omega | (simp only [bset, reduceIte, Nat.reduceEqDiff]; omega)) (by first | omega | (simp only [bset, reduceIte, Nat.reduceEqDiff]; omega)) ?_
  intro g869
  refine zr_ldc dL_law_872 (rfl : 872 + 2 = 874) kj_L_20 ?_
  refine zr_icmp_ne (tgt := 1081) dL_law_874 (by decide) (rfl : 874 + 3 = 877) (jI_eq (by first | omega | (simp only [bset, reduceIte, Nat.reduceEqDiff]; omega)) (by first | omega | (simp only [bset, reduceIte, Nat.reduceEqDiff]; omega)) (by first | omega | (simp only [bset, reduceIte, Nat.reduceEqDiff]; omega)) (by first | omega | (simp only [bset, reduceIte, Nat.reduceEqDiff]; omega))) (fun h874 => ?_) (fun h874 => ?_)
  · exfalso
    omega
  refine zr_aload_n dL_law_877 (rfl : 877 + 1 = 878) rfl ?_
  refine zr_iconst dL_law_878 (rfl : 878 + 1 = 879) ?_
  refine zr_otH dL_law_879 (rfl : 879 + 3 = 882) l_L_110 (lt_buy1 lc_5 (t_buy1 (d := 1) (-1) (by decide) (by decide))) rfl rfl (Nat.le_of_ble_eq_true rfl) (by first | omega | (simp only [bset, reduceIte, Nat.reduceEqDiff]; omega)) (by first | omega | (simp only [bset, reduceIte, Nat.reduceEqDiff]; omega)) ?_
  intro g879
  refine zr_ldc dL_law_882 (rfl : 882 + 2 = 884) kj_L_17 ?_
  refine zr_icmp_ne (tgt := 1081) dL_law_884 (by decide) (rfl : 884 + 3 = 887) (jI_eq (by first | omega | (simp only [bset, reduceIte, Nat.reduceEqDiff]; omega)) (by first | omega | (simp only [bset, reduceIte, Nat.reduceEqDiff]; omega)) (by first | omega | (simp only [bset, reduceIte, Nat.reduceEqDiff]; omega)) (by first | omega | (simp only [bset, reduceIte, Nat.reduceEqDiff]; omega))) (fun h884 => ?_) (fun h884 => ?_)
  · exfalso
    omega
  refine zr_aload_n dL_law_887 (rfl : 887 + 1 = 888) rfl ?_
  refine zr_sipush dL_law_888 (rfl : 888 + 3 = 891) (by decide) ?_
  refine zr_otH dL_law_891 (rfl : 891 + 3 = 894) l_L_112 (lt_seed1 lc_5 (t_seed1 (d := 1) 10000 (by decide) (by decide))) rfl rfl (Nat.le_of_ble_eq_true rfl) (by first | omega | (simp only [bset, reduceIte, Nat.reduceEqDiff]; omega)) (by first | omega | (simp only [bset, reduceIte, Nat.reduceEqDiff]; omega)) ?_
  intro g891
  refine zr_ldc dL_law_894 (rfl : 894 + 2 = 896) kj_L_17 ?_
  refine zr_icmp_ne (tgt := 1081) dL_law_896 (by decide) (rfl : 896 + 3 = 899) (jI_eq (by first | omega | (simp only [bset, reduceIte, Nat.reduceEqDiff]; omega)) (by first | omega | (simp only [bset, reduceIte, Nat.reduceEqDiff]; omega)) (by first | omega | (simp only [bset, reduceIte, Nat.reduceEqDiff]; omega)) (by first | omega | (simp only [bset, reduceIte, Nat.reduceEqDiff]; omega))) (fun h896 => ?_) (fun h896 => ?_)
  · exfalso
    omega
  refine zr_aload_n dL_law_899 (rfl : 899 + 1 = 900) rfl ?_
  refine zr_iconst dL_law_900 (rfl : 900 + 1 = 901) ?_
  refine zr_iconst dL_law_901 (rfl : 901 + 1 = 902) ?_
  refine zr_otH dL_law_902 (rfl : 902 + 3 = 905) l_L_114 (lt_set1 lc_5 (t_set1 (d := 1) 3 0 (by decide) (by decide))) rfl rfl (Nat.le_of_ble_eq_true rfl) (by first | omega | (simp only [bset, reduceIte, Nat.reduceEqDiff]; omega)) (by first | omega | (simp only [bset, reduceIte, Nat.reduceEqDiff]; omega)) ?_
  intro g902
  refine zr_ldc dL_law_905 (rfl : 905 + 2 = 907) kj_L_17 ?_
  refine zr_icmp_ne (tgt := 1081) dL_law_907 (by decide) (rfl : 907 + 3 = 910) (jI_eq (by first | omega | (simp only [bset, reduceIte, Nat.reduceEqDiff]; omega)) (by first | omega | (simp only [bset, reduceIte, Nat.reduceEqDiff]; omega)) (by first | omega | (simp only [bset, reduceIte, Nat.reduceEqDiff]; omega)) (by first | omega | (simp only [bset, reduceIte, Nat.reduceEqDiff]; omega))) (fun h907 => ?_) (fun h907 => ?_)
  · exfalso
    omega
  refine zr_aload_n dL_law_910 (rfl : 910 + 1 = 911) rfl ?_
  refine zr_iconst dL_law_911 (rfl : 911 + 1 = 912) ?_
  refine zr_iconst dL_law_912 (rfl : 912 + 1 = 913) ?_
  refine zr_otH dL_law_913 (rfl : 913 + 3 = 916) l_L_114 (lt_set2 lc_5 (t_set2 (d := 1) 0 0 (by decide) (by decide) (by decide))) rfl rfl (Nat.le_of_ble_eq_true rfl) (by first | omega | (simp only [bset, reduceIte, Nat.reduceEqDiff]; omega)) (by first | omega | (simp only [bset, reduceIte, Nat.reduceEqDiff]; omega)) ?_
  intro g913
  refine zr_ldc dL_law_916 (rfl : 916 + 2 = 918) kj_L_20 ?_
  refine zr_icmp_ne (tgt := 1081) dL_law_918 (by decide) (rfl : 918 + 3 = 921) (jI_eq (by first | omega | (simp only [bset, reduceIte, Nat.reduceEqDiff]; omega)) (by first | omega | (simp only [bset, reduceIte, Nat.reduceEqDiff]; omega)) (by first | omega | (simp only [bset, reduceIte, Nat.reduceEqDiff]; omega)) (by first | omega | (simp only [bset, reduceIte, Nat.reduceEqDiff]; omega))) (fun h918 => ?_) (fun h918 => ?_)
  · exfalso
    omega
  refine zr_aload_n dL_law_921 (rfl : 921 + 1 = 922) rfl ?_
  refine zr_bipush dL_law_922 (rfl : 922 + 2 = 924) (by decide) ?_
  refine zr_otH dL_law_924 (rfl : 924 + 3 = 927) l_L_119 (lt_draw1 lc_5 (t_draw1 (d := 1) 91 (by decide) (by decide))) rfl rfl (Nat.le_of_ble_eq_true rfl) (by first | omega | (simp only [bset, reduceIte, Nat.reduceEqDiff]; omega)) (by first | omega | (simp only [bset, reduceIte, Nat.reduceEqDiff]; omega)) ?_
  intro g924
  refine zr_ldc dL_law_927 (rfl : 927 + 2 = 929) kj_L_17 ?_
  refine zr_icmp_ne (tgt := 1081) dL_law_929 (by decide) (rfl : 929 + 3 = 932) (jI_eq (by first | omega | (simp only [bset, reduceIte, Nat.reduceEqDiff]; omega)) (by first | omega | (simp only [bset, reduceIte, Nat.reduceEqDiff]; omega)) (by first | omega | (simp only [bset, reduceIte, Nat.reduceEqDiff]; omega)) (by first | omega | (simp only [bset, reduceIte, Nat.reduceEqDiff]; omega))) (fun h929 => ?_) (fun h929 => ?_)
  · exfalso
    omega
  refine zr_aload_n dL_law_932 (rfl : 932 + 1 = 933) rfl ?_
  refine zr_iconst dL_law_933 (rfl : 933 + 1 = 934) ?_
  refine zr_iconst dL_law_934 (rfl : 934 + 1 = 935) ?_
  refine zr_otH dL_law_935 (rfl : 935 + 3 = 938) l_L_121 (lt_claim1 lc_5 (t_claim1 (d := 1) 0 4 (by decide) (by decide) (by decide))) rfl rfl (Nat.le_of_ble_eq_true rfl) (by first | omega | (simp only [bset, reduceIte, Nat.reduceEqDiff]; omega)) (by first | omega | (simp only [bset, reduceIte, Nat.reduceEqDiff]; omega)) ?_
  intro g935
  refine zr_ldc dL_law_938 (rfl : 938 + 2 = 940) kj_L_17 ?_
  refine zr_icmp_ne (tgt := 1081) dL_law_940 (by decide) (rfl : 940 + 3 = 943) (jI_eq (by first | omega | (simp only [bset, reduceIte, Nat.reduceEqDiff]; omega)) (by first | omega | (simp only [bset, reduceIte, Nat.reduceEqDiff]; omega)) (by first | omega | (simp only [bset, reduceIte, Nat.reduceEqDiff]; omega)) (by first | omega | (simp only [bset, reduceIte, Nat.reduceEqDiff]; omega))) (fun h940 => ?_) (fun h940 => ?_)
  · exfalso
    omega
  refine zr_aload_n dL_law_943 (rfl : 943 + 1 = 944) rfl ?_
  refine zr_bipush dL_law_944 (rfl : 944 + 2 = 946) (by decide) ?_
  refine zr_otH dL_law_946 (rfl : 946 + 3 = 949) l_L_184 (lt_append1 lc_5 (t_append1 (d := 1) 32 (by decide) (by decide))) rfl rfl (Nat.le_of_ble_eq_true rfl) (by first | omega | (simp only [bset, reduceIte, Nat.reduceEqDiff]; omega)) (by first | omega | (simp only [bset, reduceIte, Nat.reduceEqDiff]; omega)) ?_
  intro g946
  refine zr_ldc dL_law_949 (rfl : 949 + 2 = 951) kj_L_17 ?_
  refine zr_icmp_ne (tgt := 1081) dL_law_951 (by decide) (rfl : 951 + 3 = 954) (jI_eq (by first | omega | (simp only [bset, reduceIte, Nat.reduceEqDiff]; omega)) (by first | omega | (simp only [bset, reduceIte, Nat.reduceEqDiff]; omega)) (by first | omega | (simp only [bset, reduceIte, Nat.reduceEqDiff]; omega)) (by first | omega | (simp only [bset, reduceIte, Nat.reduceEqDiff]; omega))) (fun h951 => ?_) (fun h951 => ?_)
  · exfalso
    omega
  refine zr_aload_n dL_law_954 (rfl : 954 + 1 = 955) rfl ?_
  refine zr_iconst dL_law_955 (rfl : 955 + 1 = 956) ?_
  refine zr_otH dL_law_956 (rfl : 956 + 3 = 959) l_L_125 (lt_keep1 lc_5 (t_keep1 (d := 1) 2 (by decide) (by decide))) rfl rfl (Nat.le_of_ble_eq_true rfl) (by first | omega | (simp only [bset, reduceIte, Nat.reduceEqDiff]; omega)) (by first | omega | (simp only [bset, reduceIte, Nat.reduceEqDiff]; omega)) ?_
  intro g956
  refine zr_ldc dL_law_959 (rfl : 959 + 2 = 961) kj_L_17 ?_
  refine zr_icmp_ne (tgt := 1081) dL_law_961 (by decide) (rfl : 961 + 3 = 964) (jI_eq (by first | omega | (simp only [bset, reduceIte, Nat.reduceEqDiff]; omega)) (by first | omega | (simp only [bset, reduceIte, Nat.reduceEqDiff]; omega)) (by first | omega | (simp only [bset, reduceIte, Nat.reduceEqDiff]; omega)) (by first | omega | (simp only [bset, reduceIte, Nat.reduceEqDiff]; omega))) (fun h961 => ?_) (fun h961 => ?_)
  · exfalso
    omega
  refine zr_aload_n dL_law_964 (rfl : 964 + 1 = 965) rfl ?_
  refine zr_iconst dL_law_965 (rfl : 965 + 1 = 966) ?_
  refine zr_iconst dL_law_966 (rfl : 966 + 1 = 967) ?_
  refine zr_bipush dL_law_967 (rfl : 967 + 2 = 969) (by decide) ?_
  refine zr_otH dL_law_969 (rfl : 969 + 3 = 972) l_L_134 (lt_at1 lc_5 (t_at1 (d := 1) 0 0 9 (by decide) (by decide) (by decide) (by decide))) rfl rfl (Nat.le_of_ble_eq_true rfl) (by first | omega | (simp only [bset, reduceIte, Nat.reduceEqDiff]; omega)) (by first | omega | (simp only [bset, reduceIte, Nat.reduceEqDiff]; omega)) ?_
  intro g969
  refine zr_ldc dL_law_972 (rfl : 972 + 2 = 974) kj_L_17 ?_
  refine zr_icmp_ne (tgt := 1081) dL_law_974 (by decide) (rfl : 974 + 3 = 977) (jI_eq (by first | omega | (simp only [bset, reduceIte, Nat.reduceEqDiff]; omega)) (by first | omega | (simp only [bset, reduceIte, Nat.reduceEqDiff]; omega)) (by first | omega | (simp only [bset, reduceIte, Nat.reduceEqDiff]; omega)) (by first | omega | (simp only [bset, reduceIte, Nat.reduceEqDiff]; omega))) (fun h974 => ?_) (fun h974 => ?_)
  · exfalso
    omega
  refine zr_aload_n dL_law_977 (rfl : 977 + 1 = 978) rfl ?_
  refine zr_iconst dL_law_978 (rfl : 978 + 1 = 979) ?_
  refine zr_bipush dL_law_979 (rfl : 979 + 2 = 981) (by decide) ?_
  refine zr_otH dL_law_981 (rfl : 981 + 3 = 984) l_L_136 (lt_cardOf2 lc_5 (t_cardOf2 (d := 1) 0 9 (by decide) (by decide) (by decide))) rfl rfl (Nat.le_of_ble_eq_true rfl) (by first | omega | (simp only [bset, reduceIte, Nat.reduceEqDiff]; omega)) (by first | omega | (simp only [bset, reduceIte, Nat.reduceEqDiff]; omega)) ?_
  intro g981
  refine zr_ldc dL_law_984 (rfl : 984 + 2 = 986) kj_L_20 ?_
  refine zr_icmp_ne (tgt := 1081) dL_law_986 (by decide) (rfl : 986 + 3 = 989) (jI_eq (by first | omega | (simp only [bset, reduceIte, Nat.reduceEqDiff]; omega)) (by first | omega | (simp only [bset, reduceIte, Nat.reduceEqDiff]; omega)) (by first | omega | (simp only [bset, reduceIte, Nat.reduceEqDiff]; omega)) (by first | omega | (simp only [bset, reduceIte, Nat.reduceEqDiff]; omega))) (fun h986 => ?_) (fun h986 => ?_)
  · exfalso
    omega
  refine zr_aload_n dL_law_989 (rfl : 989 + 1 = 990) rfl ?_
  refine zr_iconst dL_law_990 (rfl : 990 + 1 = 991) ?_
  refine zr_iconst dL_law_991 (rfl : 991 + 1 = 992) ?_
  refine zr_otH dL_law_992 (rfl : 992 + 3 = 995) l_L_129 (lt_called1 lc_5 (t_call1 (d := 1) (-1) 0 (by decide) (by decide) (by decide))) rfl rfl (Nat.le_of_ble_eq_true rfl) (by first | omega | (simp only [bset, reduceIte, Nat.reduceEqDiff]; omega)) (by first | omega | (simp only [bset, reduceIte, Nat.reduceEqDiff]; omega)) ?_
  intro g992
  refine zr_ldc dL_law_995 (rfl : 995 + 2 = 997) kj_L_17 ?_
  refine zr_icmp_ne (tgt := 1081) dL_law_997 (by decide) (rfl : 997 + 3 = 1000) (jI_eq (by first | omega | (simp only [bset, reduceIte, Nat.reduceEqDiff]; omega)) (by first | omega | (simp only [bset, reduceIte, Nat.reduceEqDiff]; omega)) (by first | omega | (simp only [bset, reduceIte, Nat.reduceEqDiff]; omega)) (by first | omega | (simp only [bset, reduceIte, Nat.reduceEqDiff]; omega))) (fun h997 => ?_) (fun h997 => ?_)
  · exfalso
    omega
  refine zr_aload_n dL_law_1000 (rfl : 1000 + 1 = 1001) rfl ?_
  refine zr_iconst dL_law_1001 (rfl : 1001 + 1 = 1002) ?_
  refine zr_iconst dL_law_1002 (rfl : 1002 + 1 = 1003) ?_
  refine zr_otH dL_law_1003 (rfl : 1003 + 3 = 1006) l_L_144 (lt_gameOf1 lc_5 (t_gameOf1 (d := 1) 4 0 (by decide) (by decide))) rfl rfl (Nat.le_of_ble_eq_true rfl) (by first | omega | (simp only [bset, reduceIte, Nat.reduceEqDiff]; omega)) (by first | omega | (simp only [bset, reduceIte, Nat.reduceEqDiff]; omega)) ?_
  intro g1003
  refine zr_ldc dL_law_1006 (rfl : 1006 + 2 = 1008) kj_L_17 ?_
  refine zr_icmp_ne (tgt := 1081) dL_law_1008 (by decide) (rfl : 1008 + 3 = 1011) (jI_eq (by first | omega | (simp only [bset, reduceIte, Nat.reduceEqDiff]; omega)) (by first | omega | (simp only [bset, reduceIte, Nat.reduceEqDiff]; omega)) (by first | omega | (simp only [bset, reduceIte, Nat.reduceEqDiff]; omega)) (by first | omega | (simp only [bset, reduceIte, Nat.reduceEqDiff]; omega))) (fun h1008 => ?_) (fun h1008 => ?_)
  · exfalso
    omega
  refine zr_aload_n dL_law_1011 (rfl : 1011 + 1 = 1012) rfl ?_
  refine zr_bipush dL_law_1012 (rfl : 1012 + 2 = 1014) (by decide) ?_
  refine zr_otH dL_law_1014 (rfl : 1014 + 3 = 1017) l_L_127 (lt_count1 lc_5 (t_count1 (d := 1) 15 (by decide) (by decide))) rfl rfl (Nat.le_of_ble_eq_true rfl) (by first | omega | (simp only [bset, reduceIte, Nat.reduceEqDiff]; omega)) (by first | omega | (simp only [bset, reduceIte, Nat.reduceEqDiff]; omega)) ?_
  intro g1014
  refine zr_ldc dL_law_1017 (rfl : 1017 + 2 = 1019) kj_L_17 ?_
  refine zr_icmp_ne (tgt := 1081) dL_law_1019 (by decide) (rfl : 1019 + 3 = 1022) (jI_eq (by first | omega | (simp only [bset, reduceIte, Nat.reduceEqDiff]; omega)) (by first | omega | (simp only [bset, reduceIte, Nat.reduceEqDiff]; omega)) (by first | omega | (simp only [bset, reduceIte, Nat.reduceEqDiff]; omega)) (by first | omega | (simp only [bset, reduceIte, Nat.reduceEqDiff]; omega))) (fun h1019 => ?_) (fun h1019 => ?_)
  · exfalso
    omega
  refine zr_aload_n dL_law_1022 (rfl : 1022 + 1 = 1023) rfl ?_
  refine zr_iconst dL_law_1023 (rfl : 1023 + 1 = 1024) ?_
  refine zr_otH dL_law_1024 (rfl : 1024 + 3 = 1027) l_L_178 (lt_setting1 lc_5 (t_setting1 (d := 1) 3 (by decide) (by decide))) rfl rfl (Nat.le_of_ble_eq_true rfl) (by first | omega | (simp only [bset, reduceIte, Nat.reduceEqDiff]; omega)) (by first | omega | (simp only [bset, reduceIte, Nat.reduceEqDiff]; omega)) ?_
  intro g1024
  refine zr_ldc dL_law_1027 (rfl : 1027 + 2 = 1029) kj_L_17 ?_
  refine zr_icmp_ne (tgt := 1081) dL_law_1029 (by decide) (rfl : 1029 + 3 = 1032) (jI_eq (by first | omega | (simp only [bset, reduceIte, Nat.reduceEqDiff]; omega)) (by first | omega | (simp only [bset, reduceIte, Nat.reduceEqDiff]; omega)) (by first | omega | (simp only [bset, reduceIte, Nat.reduceEqDiff]; omega)) (by first | omega | (simp only [bset, reduceIte, Nat.reduceEqDiff]; omega))) (fun h1029 => ?_) (fun h1029 => ?_)
  · exfalso
    omega
  refine zr_aload_n dL_law_1032 (rfl : 1032 + 1 = 1033) rfl ?_
  refine zr_bipush dL_law_1033 (rfl : 1033 + 2 = 1035) (by decide) ?_
  refine zr_iconst dL_law_1035 (rfl : 1035 + 1 = 1036) ?_
  refine zr_otH dL_law_1036 (rfl : 1036 + 3 = 1039) l_L_170 (lt_ifClaimed1 lc_5 (t_ifClaimed1 (d := 1) 6 0 (by decide) (by decide) (by decide))) rfl rfl (Nat.le_of_ble_eq_true rfl) (by first | omega | (simp only [bset, reduceIte, Nat.reduceEqDiff]; omega)) (by first | omega | (simp only [bset, reduceIte, Nat.reduceEqDiff]; omega)) ?_
  intro g1036
  refine zr_ldc dL_law_1039 (rfl : 1039 + 2 = 1041) kj_L_17 ?_
  refine zr_icmp_ne (tgt := 1081) dL_law_1041 (by decide) (rfl : 1041 + 3 = 1044) (jI_eq (by first | omega | (simp only [bset, reduceIte, Nat.reduceEqDiff]; omega)) (by first | omega | (simp only [bset, reduceIte, Nat.reduceEqDiff]; omega)) (by first | omega | (simp only [bset, reduceIte, Nat.reduceEqDiff]; omega)) (by first | omega | (simp only [bset, reduceIte, Nat.reduceEqDiff]; omega))) (fun h1041 => ?_) (fun h1041 => ?_)
  · exfalso
    omega
  refine zr_aload_n dL_law_1044 (rfl : 1044 + 1 = 1045) rfl ?_
  refine zr_iconst dL_law_1045 (rfl : 1045 + 1 = 1046) ?_
  refine zr_iconst dL_law_1046 (rfl : 1046 + 1 = 1047) ?_
  refine zr_iconst dL_law_1047 (rfl : 1047 + 1 = 1048) ?_
  refine zr_otH dL_law_1048 (rfl : 1048 + 3 = 1051) l_L_140 (lt_missing2 lc_5 (t_missing2 (d := 1) 0 0 2 (by decide) (by decide) (by decide))) rfl rfl (Nat.le_of_ble_eq_true rfl) (by first | omega | (simp only [bset, reduceIte, Nat.reduceEqDiff]; omega)) (by first | omega | (simp only [bset, reduceIte, Nat.reduceEqDiff]; omega)) ?_
  intro g1048
  refine zr_ldc dL_law_1051 (rfl : 1051 + 2 = 1053) kj_L_20 ?_
  refine zr_icmp_ne (tgt := 1081) dL_law_1053 (by decide) (rfl : 1053 + 3 = 1056) (jI_eq (by first | omega | (simp only [bset, reduceIte, Nat.reduceEqDiff]; omega)) (by first | omega | (simp only [bset, reduceIte, Nat.reduceEqDiff]; omega)) (by first | omega | (simp only [bset, reduceIte, Nat.reduceEqDiff]; omega)) (by first | omega | (simp only [bset, reduceIte, Nat.reduceEqDiff]; omega))) (fun h1053 => ?_) (fun h1053 => ?_)
  · exfalso
    omega
  refine zr_aload_n dL_law_1056 (rfl : 1056 + 1 = 1057) rfl ?_
  refine zr_iconst dL_law_1057 (rfl : 1057 + 1 = 1058) ?_
  refine zr_iconst dL_law_1058 (rfl : 1058 + 1 = 1059) ?_
  refine zr_otH dL_law_1059 (rfl : 1059 + 3 = 1062) l_L_138 (lt_fullAt2 lc_5 (t_fullAt2 (d := 1) 0 2 (by decide) (by decide) (by decide))) rfl rfl (Nat.le_of_ble_eq_true rfl) (by first | omega | (simp only [bset, reduceIte, Nat.reduceEqDiff]; omega)) (by first | omega | (simp only [bset, reduceIte, Nat.reduceEqDiff]; omega)) ?_
  intro g1059
  refine zr_ldc dL_law_1062 (rfl : 1062 + 2 = 1064) kj_L_20 ?_
  refine zr_icmp_ne (tgt := 1081) dL_law_1064 (by decide) (rfl : 1064 + 3 = 1067) (jI_eq (by first | omega | (simp only [bset, reduceIte, Nat.reduceEqDiff]; omega)) (by first | omega | (simp only [bset, reduceIte, Nat.reduceEqDiff]; omega)) (by first | omega | (simp only [bset, reduceIte, Nat.reduceEqDiff]; omega)) (by first | omega | (simp only [bset, reduceIte, Nat.reduceEqDiff]; omega))) (fun h1064 => ?_) (fun h1064 => ?_)
  · exfalso
    omega
  refine zr_aload_n dL_law_1067 (rfl : 1067 + 1 = 1068) rfl ?_
  refine zr_iconst dL_law_1068 (rfl : 1068 + 1 = 1069) ?_
  refine zr_otH dL_law_1069 (rfl : 1069 + 3 = 1072) l_L_142 (lt_next1 lc_5 (t_next1 (d := 1) 0 (by decide) (by decide))) rfl rfl (Nat.le_of_ble_eq_true rfl) (by first | omega | (simp only [bset, reduceIte, Nat.reduceEqDiff]; omega)) (by first | omega | (simp only [bset, reduceIte, Nat.reduceEqDiff]; omega)) ?_
  intro g1069
  refine zr_ldc dL_law_1072 (rfl : 1072 + 2 = 1074) kj_L_17 ?_
  refine zr_icmp_ne (tgt := 1081) dL_law_1074 (by decide) (rfl : 1074 + 3 = 1077) (jI_eq (by first | omega | (simp only [bset, reduceIte, Nat.reduceEqDiff]; omega)) (by first | omega | (simp only [bset, reduceIte, Nat.reduceEqDiff]; omega)) (by first | omega | (simp only [bset, reduceIte, Nat.reduceEqDiff]; omega)) (by first | omega | (simp only [bset, reduceIte, Nat.reduceEqDiff]; omega))) (fun h1074 => ?_) (fun h1074 => ?_)
  · exfalso
    omega
  refine zr_iconst dL_law_1077 (rfl : 1077 + 1 = 1078) ?_
  refine zr_goto (tgt := 1082) dL_law_1078 (by decide) ?_
  exact zRun.now ⟨rfl, rfl, rfl⟩
theorem lw_loop (hx : zOld Γ 0 L xs) (hL : L ≤ 260) : ∀ (N : Nat) (t : Int), t + N = 24 → 0 ≤ t → ∀ (g9 : Bool) (B : zB) (σ : zC) (τ : zTau) (o4 o5 o6 o7 o8 o9 o10 o11 o12 o13 o14 o15 o16 o17 o18 : Option Value), jin B → jsn σ → σ.sc = 6 → zRun Γ md_L_law 10 none 119 [some (.ref 0), some (.ref 5), some (.int (jI (1))), some (.int (jI (t))), o4, o5, o6, o7, o8, o9, o10, o11, o12, o13, o14, o15, o16, o17, o18] [] (n9, g9, 2 * N + 23, 6 * (2 * N + 23)) (bk 6 B (cr σ τ u)) lwE
  | 0, t, ht, t0, g9, B, σ, τ, o4, o5, o6, o7, o8, o9, o10, o11, o12, o13, o14, o15, o16, o17, o18, h, hs, h6 => by
    have e : t = 24 := by omega
    subst e
    refine zr_iload_n dL_law_119 (rfl : 119 + 1 = 120) rfl ?_
    refine zr_bipush dL_law_120 (rfl : 120 + 2 = 122) (by decide) ?_
    refine zr_icmp_ge (tgt := 818) dL_law_122 (by decide) (rfl : 122 + 3 = 125) (jI_le (by first | omega | (simp only [bset, reduceIte, Nat.reduceEqDiff]; omega)) (by first | omega | (simp only [bset, reduceIte, Nat.reduceEqDiff]; omega)) (by first | omega | (simp only [bset, reduceIte, Nat.reduceEqDiff]; omega)) (by first | omega | (simp only [bset, reduceIte, Nat.reduceEqDiff]; omega))) (fun h122 => ?_) (fun h122 => ?_)
    rotate_left
    · exfalso
      omega
    exact lw_end h
  | N + 1, t, ht, t0, g9, B, σ, τ, o4, o5, o6, o7, o8, o9, o10, o11, o12, o13, o14, o15, o16, o17, o18, h, hs, h6 => by
    rw [show 2 * (N + 1) + 23 = 2 * N + 23 + 1 + 1 by omega, show 6 * (2 * N + 23 + 1 + 1) = 6 * (2 * N + 23) + 6 + 6 by omega]
    refine lw_0 hx hL ⟨t0, by omega⟩ h h6 (fun y hy => lw_1 hy h (fun due d1 d2 => lw_2 hy (fun balls b1 b2 => lw_3 hy h b1 (fun ball τ1 e1 e2 => lw_4 hy h (fun why w1 w2 => lw_5 hy h hs h6 (fun v B' σ' τ2 g2 hst => ?_))))))
    have hb := hst.1
    refine lw_6 hy hst.2.1 hb.1 hb.2.2 (lw_7 hy h hst d2 b1 b2 e2 w2 (lw_8 ⟨t0, by omega⟩ hb.1 (fun τ3 g3 => ?_)))
    exact lw_loop hx hL N (t + 1) (by omega) (by omega) g3 B' σ' τ3 _ _ _ _ _ _ _ _ _ _ _ _ _ _ _ hb.1 hb.2.1 hb.2.2
def jσu : zC := zC.os (jsv jσ0 jB0) (jsv jσ0 jB0).old ((jsv jσ0 jB0).sc - 1)
theorem jσu_n : jsn jσu := by
  have h := jsn_sv jsn_0 jok_B0
  have hsc : (jsv jσ0 jB0).sc = 1 := rfl
  refine ⟨⟨h.1.X, h.1.kp, h.1.old, ?_, h.1.T, h.1.L⟩, h.2⟩
  show 0 ≤ (jsv jσ0 jB0).sc - 1 ∧ (jsv jσ0 jB0).sc - 1 ≤ 6
  rw [hsc]
  decide
theorem w_undo0 {d : Nat} : zFnH Γ md_L_undo (d + 8) [.ref 5] (bk 6 (jend jB0) (cr (jsv jσ0 jB0) τ u)) (some (.int (jI 0))) (bk 6 jBu (cr jσu τ u)) := by
  have hx := s_undo (Γ := Γ) (d := d + 2) (σ := jsv jσ0 jB0) (τ := τ) (u := u) (B := jend jB0) (cok_save cok_0 jok_B0) (by decide)
  have e1 : (jsv jσ0 jB0).sc - 1 = 0 := rfl
  have e2 : (jsv jσ0 jB0).X (jui (jsv jσ0 jB0)) = jcp jB0 jB0 := rfl
  have hx : zFn Γ md_X6_undo (d + 7) [.ref 5] (bk 6 (jend jB0) (cr (jsv jσ0 jB0) τ u)) (some (.int (jI ((jsv jσ0 jB0).sc - 1)))) (bk 6 (jcp (jend jB0) ((jsv jσ0 jB0).X (jui (jsv jσ0 jB0)))) (cr jσu τ u)) := hx
  rw [e1, e2] at hx
  exact fun n9 g9 => lo_undo lc_5 hx n9 g9
def jσ1 : zC := jlyS 0 15 jσu jBu
def jσ2 : zC := jlyS 1 15 jσ1 (jlyB 0 15 jBu)
theorem jσ1_n : jsn jσ1 := (jsn_ly jin_Bu jσu_n (by decide) hB_0 15 (Nat.le_refl _)).1
theorem jσ2_n : jsn jσ2 ∧ jσ2.sc = 6 := by
  obtain ⟨h1, h2, h3, -⟩ := jsn_ly jin_B1 jσ1_n (by decide) hB_1 15 (Nat.le_refl _)
  have h0 := jσ1_n.1.sc
  exact ⟨h1, by unfold jσ2; omega⟩
theorem w_buy0 {d : Nat} : zFnH Γ md_L_buy (d + 8) [.ref 5, .int (jI 0)] (bk 6 jBl (cr jσ2 τ u)) (some (.int (jI 10))) (bk 6 (jsell jBl 0) (cr (jsv jσ2 jBl) τ u)) := by
  have hx := s_buy (Γ := Γ) (d := d + 2) (σ := jσ2) (τ := τ) (u := u) (B := jBl) 0 (by decide) jBl_s jσ2_n.1.1 jin_Bl.ok
  rw [jBl_p] at hx
  exact fun n9 g9 => lo_buy lc_5 hx n9 g9
theorem w_seed0 {d : Nat} {x : Int} (hx : 0 ≤ x ∧ x < 10000) : zFnH Γ md_L_seed (d + 8) [.ref 5, .int (jI x)] (bk 6 (jsell jBl 0) (cr (jsv jσ2 jBl) τ u)) (some (.int (jI 1))) (bk 6 (bset (jsell jBl 0) 24 (fun _ => x)) (cr (jsv (jsv jσ2 jBl) (jsell jBl 0)) τ u)) := by
  have ok := (jin_sell jin_Bl (by decide : 0 ≤ (0 : Int) ∧ (0 : Int) < 6) jBl_s).ok
  have hx := s_seed (Γ := Γ) (d := d + 2) (σ := jsv jσ2 jBl) (τ := τ) (u := u) (B := jsell jBl 0) x hx (cok_save jσ2_n.1.1 jin_Bl.ok) ok
  rw [jBl_x] at hx
  exact fun n9 g9 => lo_seed lc_5 hx n9 g9
def zwe : zW := fun _ => none
theorem ls_2 (hx : zOld Γ 0 L xs) (hL : L ≤ 260) : zRun Γ md_L_law 10 none 93 [some (.ref 0), some (.ref 5), none, none, none, none, none, none, none, none, none, none, none, none, none, none, none, none, none] [] (n9, g9, 71, 426) (bk 6 (jsell jBl 0) (cr (jsv jσ2 jBl) τ u)) lwE := by
  obtain ⟨y, hy, hc⟩ := s_cell (Γ := Γ) (d := 9) (w := bk 6 (jsell jBl 0) (cr (jsv jσ2 jBl) τ u)) hx hL 39 (by decide)
  have hin := jin_lot (x := y % 10000) (jin_sell jin_Bl (by decide : 0 ≤ (0 : Int) ∧ (0 : Int) < 6) jBl_s) (by omega)
  have hok := (jin_sell jin_Bl (by decide : 0 ≤ (0 : Int) ∧ (0 : Int) < 6) jBl_s).ok
  have hsn := jsn_sv (jsn_sv jσ2_n.1 jin_Bl.ok) hok
  have hsc : (jsv (jsv jσ2 jBl) (jsell jBl 0)).sc = 6 := js2_6 (js2_6 jσ2_n.2)
  refine zr_aload_n dL_law_93 (rfl : 93 + 1 = 94) rfl ?_
  refine zr_aload_n dL_law_94 (rfl : 94 + 1 = 95) rfl ?_
  refine zr_bipush dL_law_95 (rfl : 95 + 2 = 97) (by decide) ?_
  refine zr_fnS dL_law_97 (rfl : 97 + 3 = 100) l_L_166 (hc) rfl rfl (Nat.le_of_ble_eq_true rfl) ?_
  refine zr_sipush dL_law_100 (rfl : 100 + 3 = 103) (by decide) ?_
  refine zr_irem dL_law_103 (rfl : 103 + 1 = 104) (fun q => absurd ((jI_z (by first | omega | (simp only [bset, reduceIte, Nat.reduceEqDiff]; omega)) (by first | omega | (simp only [bset, reduceIte, Nat.reduceEqDiff]; omega))).mp q) (by first | omega | (simp only [bset, reduceIte, Nat.reduceEqDiff]; omega))) (jI_rem (by first | omega | (simp only [bset, reduceIte, Nat.reduceEqDiff]; omega)) (by first | omega | (simp only [bset, reduceIte, Nat.reduceEqDiff]; omega)) (by first | omega | (simp only [bset, reduceIte, Nat.reduceEqDiff]; omega)) (by first | omega | (simp only [bset, reduceIte, Nat.reduceEqDiff]; omega))) ?_
  refine zr_fnH dL_law_104 (rfl : 104 + 3 = 107) l_L_112 (w_seed0 (d := 1) (x := y % 10000) (by first | omega | (simp only [bset, reduceIte, Nat.reduceEqDiff]; omega))) rfl rfl (Nat.le_of_ble_eq_true rfl) ?_
  refine zr_iconst dL_law_107 (rfl : 107 + 1 = 108) ?_
  refine zr_icmp_ne (tgt := 115) dL_law_108 (by decide) (rfl : 108 + 3 = 111) (jI_eq (by first | omega | (simp only [bset, reduceIte, Nat.reduceEqDiff]; omega)) (by first | omega | (simp only [bset, reduceIte, Nat.reduceEqDiff]; omega)) (by first | omega | (simp only [bset, reduceIte, Nat.reduceEqDiff]; omega)) (by first | omega | (simp only [bset, reduceIte, Nat.reduceEqDiff]; omega))) (fun h108 => ?_) (fun h108 => ?_)
  · exfalso
    omega
  refine zr_iconst dL_law_111 (rfl : 111 + 1 = 112) ?_
  refine zr_goto (tgt := 116) dL_law_112 (by decide) ?_
  refine zr_istore_n (lv' := [_, _, _, _, _, _, _, _, _, _, _, _, _, _, _, _, _, _, _]) dL_law_116 (rfl : 116 + 1 = 117) (Nat.le_of_ble_eq_true rfl) rfl ?_
  refine zr_iconst dL_law_117 (rfl : 117 + 1 = 118) ?_
  refine zr_istore_n (lv' := [_, _, _, _, _, _, _, _, _, _, _, _, _, _, _, _, _, _, _]) dL_law_118 (rfl : 118 + 1 = 119) (Nat.le_of_ble_eq_true rfl) rfl ?_
  exact lw_loop hx hL 24 0 rfl (by decide) g9 _ _ τ _ _ _ _ _ _ _ _ _ _ _ _ _ _ _ hin hsn hsc
theorem law_run (hx : zOld Γ 0 L xs) (hL : L ≤ 260) : zRun Γ md_L_law 10 none 0 [some (.ref 0), none, none, none, none, none, none, none, none, none, none, none, none, none, none, none, none, none, none] [] (0, true, 236, 7520) zwe lwE := by
  refine zr_new dL_law_0 (rfl : 0 + 3 = 3) nc_L_10 (by first | omega | (simp only [bset, reduceIte, Nat.reduceEqDiff]; omega)) (by first | omega | (simp only [bset, reduceIte, Nat.reduceEqDiff]; omega)) ?_
  refine zr_dup dL_law_3 (rfl : 3 + 1 = 4) rfl ?_
  refine zr_newI dL_law_4 (rfl : 4 + 3 = 7) l_L_152 (n_TombolaBooks (d := 4) zup_self) rfl rfl (Nat.le_of_ble_eq_true rfl) (by first | omega | (simp only [bset, reduceIte, Nat.reduceEqDiff]; omega)) (by first | omega | (simp only [bset, reduceIte, Nat.reduceEqDiff]; omega)) ?_
  obtain ⟨τ2, hff⟩ := s_firstFull (Γ := Γ) (d := 4) (σ := jσ0) (τ := jτ0) (u := zup zwe 5 (.inr (6, [.null, .null, .null, .null, .int (jI 0), .int (jI 0), .null, .null, .null]))) jok_B0
  rw [jff_0] at hff
  have hend := s_end (Γ := Γ) (d := 4) (σ := jσ0) (τ := τ2) (u := zup zwe 5 (.inr (6, [.null, .null, .null, .null, .int (jI 0), .int (jI 0), .null, .null, .null]))) cok_0 jok_B0
  rw [jleft_0] at hend
  generalize zup zwe (5 + 0) (.inr (6, [.null, .null, .null, .null, .int (jI 0), .int (jI 0), .null, .null, .null])) = u at hff hend ⊢
  refine zr_astore_n (lv' := [_, _, _, _, _, _, _, _, _, _, _, _, _, _, _, _, _, _, _]) dL_law_7 (rfl : 7 + 1 = 8) (Nat.le_of_ble_eq_true rfl) rfl ?_
  refine zr_aload_n dL_law_8 (rfl : 8 + 1 = 9) rfl ?_
  refine zr_otH dL_law_9 (rfl : 9 + 3 = 12) l_L_153 (lt_undo1 lc_5 (t_undo1 (d := 1) cok_0 (by decide))) rfl rfl (Nat.le_of_ble_eq_true rfl) (by first | omega | (simp only [bset, reduceIte, Nat.reduceEqDiff]; omega)) (by first | omega | (simp only [bset, reduceIte, Nat.reduceEqDiff]; omega)) ?_
  intro g9
  refine zr_ldc dL_law_12 (rfl : 12 + 2 = 14) kj_L_17 ?_
  refine zr_icmp_ne (tgt := 115) dL_law_14 (by decide) (rfl : 14 + 3 = 17) (jI_eq (by first | omega | (simp only [bset, reduceIte, Nat.reduceEqDiff]; omega)) (by first | omega | (simp only [bset, reduceIte, Nat.reduceEqDiff]; omega)) (by first | omega | (simp only [bset, reduceIte, Nat.reduceEqDiff]; omega)) (by first | omega | (simp only [bset, reduceIte, Nat.reduceEqDiff]; omega))) (fun h14 => ?_) (fun h14 => ?_)
  · exfalso
    omega
  refine zr_aload_n dL_law_17 (rfl : 17 + 1 = 18) rfl ?_
  refine zr_iconst dL_law_18 (rfl : 18 + 1 = 19) ?_
  refine zr_otH dL_law_19 (rfl : 19 + 3 = 22) l_L_123 (lt_goBack2 lc_5 (t_goBack2 (d := 1) 0 (by decide) rfl)) rfl rfl (Nat.le_of_ble_eq_true rfl) (by first | omega | (simp only [bset, reduceIte, Nat.reduceEqDiff]; omega)) (by first | omega | (simp only [bset, reduceIte, Nat.reduceEqDiff]; omega)) ?_
  intro g19
  refine zr_ldc dL_law_22 (rfl : 22 + 2 = 24) kj_L_20 ?_
  refine zr_icmp_ne (tgt := 115) dL_law_24 (by decide) (rfl : 24 + 3 = 27) (jI_eq (by first | omega | (simp only [bset, reduceIte, Nat.reduceEqDiff]; omega)) (by first | omega | (simp only [bset, reduceIte, Nat.reduceEqDiff]; omega)) (by first | omega | (simp only [bset, reduceIte, Nat.reduceEqDiff]; omega)) (by first | omega | (simp only [bset, reduceIte, Nat.reduceEqDiff]; omega))) (fun h24 => ?_) (fun h24 => ?_)
  · exfalso
    omega
  refine zr_aload_n dL_law_27 (rfl : 27 + 1 = 28) rfl ?_
  refine zr_otH dL_law_28 (rfl : 28 + 3 = 31) l_L_156 (lt_run1 lc_5 (t_run0 (d := 1) cok_0 rfl)) rfl rfl (Nat.le_of_ble_eq_true rfl) (by first | omega | (simp only [bset, reduceIte, Nat.reduceEqDiff]; omega)) (by first | omega | (simp only [bset, reduceIte, Nat.reduceEqDiff]; omega)) ?_
  intro g28
  refine zr_ldc dL_law_31 (rfl : 31 + 2 = 33) kj_L_17 ?_
  refine zr_icmp_ne (tgt := 115) dL_law_33 (by decide) (rfl : 33 + 3 = 36) (jI_eq (by first | omega | (simp only [bset, reduceIte, Nat.reduceEqDiff]; omega)) (by first | omega | (simp only [bset, reduceIte, Nat.reduceEqDiff]; omega)) (by first | omega | (simp only [bset, reduceIte, Nat.reduceEqDiff]; omega)) (by first | omega | (simp only [bset, reduceIte, Nat.reduceEqDiff]; omega))) (fun h33 => ?_) (fun h33 => ?_)
  · exfalso
    omega
  refine zr_aload_n dL_law_36 (rfl : 36 + 1 = 37) rfl ?_
  refine zr_fnV dL_law_37 (rfl : 37 + 3 = 40) l_L_149 hff lc_5 rfl rfl rfl (Nat.le_of_ble_eq_true rfl) ?_
  refine zr_iconst dL_law_40 (rfl : 40 + 1 = 41) ?_
  refine zr_icmp_ne (tgt := 115) dL_law_41 (by decide) (rfl : 41 + 3 = 44) (jI_eq (by first | omega | (simp only [bset, reduceIte, Nat.reduceEqDiff]; omega)) (by first | omega | (simp only [bset, reduceIte, Nat.reduceEqDiff]; omega)) (by first | omega | (simp only [bset, reduceIte, Nat.reduceEqDiff]; omega)) (by first | omega | (simp only [bset, reduceIte, Nat.reduceEqDiff]; omega))) (fun h41 => ?_) (fun h41 => ?_)
  · exfalso
    omega
  refine zr_aload_n dL_law_44 (rfl : 44 + 1 = 45) rfl ?_
  refine zr_fnV dL_law_45 (rfl : 45 + 3 = 48) l_L_158 (s_share0 (d := 5) rfl) lc_5 rfl rfl rfl (Nat.le_of_ble_eq_true rfl) ?_
  refine zr_dconst0 dL_law_48 (rfl : 48 + 1 = 49) ?_
  refine zr_dcmp dL_law_49 (rfl : 49 + 1 = 50) ?_
  refine zr_if_ne (tgt := 115) dL_law_50 (by decide) (rfl : 50 + 3 = 53) ((⟨fun _ => trivial, fun _ => by decide +kernel⟩ : Op.cmpValue (FP.dcmp FP.dconst0 FP.dconst0) .l = 0 ↔ True)) (fun h50 => ?_) (fun h50 => ?_)
  · exact absurd trivial h50
  refine zr_aload_n dL_law_53 (rfl : 53 + 1 = 54) rfl ?_
  refine zr_fnV dL_law_54 (rfl : 54 + 3 = 57) l_L_116 hend lc_5 rfl rfl rfl (Nat.le_of_ble_eq_true rfl) ?_
  refine zr_if_ne (tgt := 115) dL_law_57 (by decide) (rfl : 57 + 3 = 60) (by first | exact jb_iff | exact jI_z (by first | omega | (simp only [bset, reduceIte, Nat.reduceEqDiff]; omega)) (by first | omega | (simp only [bset, reduceIte, Nat.reduceEqDiff]; omega))) (fun h57 => ?_) (fun h57 => ?_)
  · exfalso
    omega
  refine zr_aload_n dL_law_60 (rfl : 60 + 1 = 61) rfl ?_
  refine zr_fnH dL_law_61 (rfl : 61 + 3 = 64) l_L_153 (w_undo0 (d := 1)) rfl rfl (Nat.le_of_ble_eq_true rfl) ?_
  refine zr_if_ne (tgt := 115) dL_law_64 (by decide) (rfl : 64 + 3 = 67) (by first | exact jb_iff | exact jI_z (by first | omega | (simp only [bset, reduceIte, Nat.reduceEqDiff]; omega)) (by first | omega | (simp only [bset, reduceIte, Nat.reduceEqDiff]; omega))) (fun h64 => ?_) (fun h64 => ?_)
  · exfalso
    omega
  refine zr_aload_n dL_law_67 (rfl : 67 + 1 = 68) rfl ?_
  refine zr_iconst dL_law_68 (rfl : 68 + 1 = 69) ?_
  refine zr_fnS dL_law_69 (rfl : 69 + 3 = 72) l_L_162 (s_lays (d := 0) (c := 0) jin_Bu jσu_n (by decide) hB_0) rfl rfl (Nat.le_of_ble_eq_true rfl) ?_
  refine zr_if_eq (tgt := 115) dL_law_72 (by decide) (rfl : 72 + 3 = 75) (by first | exact jb_iff | exact jI_z (by first | omega | (simp only [bset, reduceIte, Nat.reduceEqDiff]; omega)) (by first | omega | (simp only [bset, reduceIte, Nat.reduceEqDiff]; omega))) (fun h72 => ?_) (fun h72 => ?_)
  · exfalso
    omega
  refine zr_aload_n dL_law_75 (rfl : 75 + 1 = 76) rfl ?_
  refine zr_iconst dL_law_76 (rfl : 76 + 1 = 77) ?_
  refine zr_fnS dL_law_77 (rfl : 77 + 3 = 80) l_L_162 (s_lays (d := 0) (c := 1) jin_B1 jσ1_n (by decide) hB_1) rfl rfl (Nat.le_of_ble_eq_true rfl) ?_
  refine zr_if_eq (tgt := 115) dL_law_80 (by decide) (rfl : 80 + 3 = 83) (by first | exact jb_iff | exact jI_z (by first | omega | (simp only [bset, reduceIte, Nat.reduceEqDiff]; omega)) (by first | omega | (simp only [bset, reduceIte, Nat.reduceEqDiff]; omega))) (fun h80 => ?_) (fun h80 => ?_)
  · exfalso
    omega
  refine zr_aload_n dL_law_83 (rfl : 83 + 1 = 84) rfl ?_
  refine zr_iconst dL_law_84 (rfl : 84 + 1 = 85) ?_
  refine zr_fnH dL_law_85 (rfl : 85 + 3 = 88) l_L_110 (w_buy0 (d := 1)) rfl rfl (Nat.le_of_ble_eq_true rfl) ?_
  refine zr_bipush dL_law_88 (rfl : 88 + 2 = 90) (by decide) ?_
  refine zr_icmp_ne (tgt := 115) dL_law_90 (by decide) (rfl : 90 + 3 = 93) (jI_eq (by first | omega | (simp only [bset, reduceIte, Nat.reduceEqDiff]; omega)) (by first | omega | (simp only [bset, reduceIte, Nat.reduceEqDiff]; omega)) (by first | omega | (simp only [bset, reduceIte, Nat.reduceEqDiff]; omega)) (by first | omega | (simp only [bset, reduceIte, Nat.reduceEqDiff]; omega))) (fun h90 => ?_) (fun h90 => ?_)
  · exfalso
    omega
  exact ls_2 hx hL
end LW


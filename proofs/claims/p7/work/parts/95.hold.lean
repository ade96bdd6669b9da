/-! Every contract holds -/
theorem ho_0 : x_OK p_GT p_MT x_EE cc0 := x_chk_OK x_EE_EO x_EE_KO (g_n) (fun _ _ => g_n) ct0
theorem ho_1 : x_OK p_GT p_MT x_EE cc1 := x_chk_OK x_EE_EO x_EE_KO (g_n) (fun _ _ => g_n) ct1
theorem ho_2 : x_OK p_GT p_MT x_EE cc2 := x_chk_OK x_EE_EO x_EE_KO (g_c (ho_1) (g_n)) (fun _ _ => g_n) ct2
theorem ho_3 : x_OK p_GT p_MT x_EE cc3 := x_chk_OK x_EE_EO x_EE_KO (g_c (ho_2) (g_n)) (fun _ _ => g_n) ct3
theorem ho_4 : x_OK p_GT p_MT x_EE cc4 := x_chk_OK x_EE_EO x_EE_KO (g_c (ho_3) (g_c (ho_0) (g_n))) (fun _ _ => g_n) ct4
theorem ho_5 : x_OK p_GT p_MT x_EE cc5 := x_chk_OK x_EE_EO x_EE_KO (g_c (ho_0) (g_n)) (fun _ _ => g_n) ct5
theorem ho_6 : x_OK p_GT p_MT x_EE cc6 := x_chk_OK x_EE_EO x_EE_KO (g_n) (fun _ _ => g_n) ct6
theorem ho_7 : x_OK p_GT p_MT x_EE cc7 := x_chk_OK x_EE_EO x_EE_KO (g_n) (fun _ _ => g_n) ct7
theorem ho_8 : x_OK p_GT p_MT x_EE cc8 := x_chk_OK x_EE_EO x_EE_KO (g_c (ho_6) (g_c (ho_7) (g_n))) (fun _ _ => g_n) ct8
theorem ho_9 : x_OK p_GT p_MT x_EE cc9 := x_chk_OK x_EE_EO x_EE_KO (g_c (ho_0) (g_n)) (fun _ _ => g_n) ct9
theorem ho_10 : x_OK p_GT p_MT x_EE cc10 := x_chk_OK x_EE_EO x_EE_KO (g_n) (fun _ _ => g_n) ct10
theorem ho_11 : x_OK p_GT p_MT x_EE cc11 := x_chk_OK x_EE_EO x_EE_KO (g_n) (fun _ _ => g_n) ct11
theorem ho_12 : x_OK p_GT p_MT x_EE cc12 := x_chk_OK x_EE_EO x_EE_KO (g_c (ho_11) (g_n)) (fun _ _ => g_n) ct12
theorem ho_13 : x_OK p_GT p_MT x_EE cc13 := x_chk_OK x_EE_EO x_EE_KO (g_n) (fun _ _ => g_n) ct13
theorem ho_14 : x_OK p_GT p_MT x_EE cc14 := x_chk_OK x_EE_EO x_EE_KO (g_n) (fun _ _ => g_n) ct14
theorem ho_15 : x_OK p_GT p_MT x_EE cc15 := x_chk_OK x_EE_EO x_EE_KO (g_n) (fun _ _ => g_n) ct15
theorem ho_16 : x_OK p_GT p_MT x_EE cc16 := x_chk_OK x_EE_EO x_EE_KO (g_c (ho_14) (g_c (ho_15) (g_n))) (fun _ _ => g_n) ct16
theorem ho_17 : x_OK p_GT p_MT x_EE cc17 := x_chk_OK x_EE_EO x_EE_KO (g_c (ho_3) (g_c (ho_16) (g_c (ho_13) (g_c (ho_0) (g_n))))) (fun _ _ => g_n) ct17
theorem ho_18 : x_OK p_GT p_MT x_EE cc18 := x_chk_OK x_EE_EO x_EE_KO (g_c (ho_17) (g_n)) (fun _ _ => g_n) ct18
theorem ho_19 : x_OK p_GT p_MT x_EE cc19 := x_chk_OK x_EE_EO x_EE_KO (g_c (ho_0) (g_n)) (fun _ _ => g_n) ct19
theorem ho_20 : x_OK p_GT p_MT x_EE cc20 := x_chk_OK x_EE_EO x_EE_KO (g_n) (fun _ _ => g_n) ct20
theorem ho_21 : x_OK p_GT p_MT x_EE cc21 := x_chk_OK x_EE_EO x_EE_KO (g_c (ho_20) (g_n)) (fun _ _ => g_n) ct21
theorem ho_22 : x_OK p_GT p_MT x_EE cc22 := x_chk_OK x_EE_EO x_EE_KO (g_c (ho_20) (g_n)) (fun _ _ => g_n) ct22
theorem ho_23 : x_OK p_GT p_MT x_EE cc23 := x_chk_OK x_EE_EO x_EE_KO (g_c (ho_19) (g_c (ho_21) (g_c (ho_22) (g_c (ho_0) (g_n))))) (fun _ _ => g_n) ct23
theorem ho_24 : x_OK p_GT p_MT x_EE cc24 := x_chk_OK x_EE_EO x_EE_KO (g_c (ho_20) (g_n)) (fun _ _ => g_n) ct24
theorem ho_25 : x_OK p_GT p_MT x_EE cc25 := x_chk_OK x_EE_EO x_EE_KO (g_c (ho_1) (g_n)) (fun _ _ => g_n) ct25
theorem ho_26 : x_OK p_GT p_MT x_EE cc26 := x_chk_OK x_EE_EO x_EE_KO (g_c (ho_22) (g_c (ho_24) (g_c (ho_25) (g_n)))) (fun _ _ => g_n) ct26
theorem ho_27 : x_OK p_GT p_MT x_EE cc27 := x_chk_OK x_EE_EO x_EE_KO (g_c (ho_16) (g_c (ho_23) (g_c (ho_26) (g_n)))) (fun _ _ => g_n) ct27
theorem ho_28 : x_OK p_GT p_MT x_EE cc28 := x_chk_OK x_EE_EO x_EE_KO (g_c (ho_22) (g_c (ho_27) (g_n))) (fun _ _ => g_n) ct28
theorem ho_29 : x_OK p_GT p_MT x_EE cc29 := x_chk_OK x_EE_EO x_EE_KO (g_c (ho_11) (g_n)) (fun _ _ => g_n) ct29
theorem ho_30 : x_OK p_GT p_MT x_EE cc30 := x_chk_OK x_EE_EO x_EE_KO (g_n) (fun _ _ => g_n) ct30
theorem ho_31 : x_OK p_GT p_MT x_EE cc31 := x_chk_OK x_EE_EO x_EE_KO (g_n) (fun _ _ => g_n) ct31
theorem ho_32 : x_OK p_GT p_MT x_EE cc32 := x_chk_OK x_EE_EO x_EE_KO (g_c (ho_30) (g_c (ho_31) (g_n))) (fun _ _ => g_n) ct32
theorem ho_33 : x_OK p_GT p_MT x_EE cc33 := x_chk_OK x_EE_EO x_EE_KO (g_n) (fun _ _ => g_n) ct33
theorem ho_34 : x_OK p_GT p_MT x_EE cc34 := x_chk_OK x_EE_EO x_EE_KO (g_c (ho_33) (g_n)) (fun _ _ => g_n) ct34
theorem ho_35 : x_OK p_GT p_MT x_EE cc35 := x_chk_OK x_EE_EO x_EE_KO (g_n) (fun _ _ => g_n) ct35
theorem ho_36 : x_OK p_GT p_MT x_EE cc36 := x_chk_OK x_EE_EO x_EE_KO (g_c (ho_29) (g_c (ho_21) (g_c (ho_22) (g_c (ho_24) (g_c (ho_32) (g_c (ho_34) (g_c (ho_35) (g_n)))))))) (fun _ _ => g_n) ct36
theorem ho_37 : x_OK p_GT p_MT x_EE cc37 := x_chk_OK x_EE_EO x_EE_KO (g_n) (fun _ _ => g_n) ct37
theorem ho_38 : x_OK p_GT p_MT x_EE cc38 := x_chk_OK x_EE_EO x_EE_KO (g_n) (fun _ _ => g_n) ct38
theorem ho_39 : x_OK p_GT p_MT x_EE cc39 := x_chk_OK x_EE_EO x_EE_KO (g_n) (fun _ _ => g_n) ct39
theorem ho_40 : x_OK p_GT p_MT x_EE cc40 := x_chk_OK x_EE_EO x_EE_KO (g_c (ho_38) (g_c (ho_39) (g_n))) (fun _ _ => g_n) ct40
theorem ho_41 : x_OK p_GT p_MT x_EE cc41 := x_chk_OK x_EE_EO x_EE_KO (g_n) (fun _ _ => g_n) ct41
theorem ho_42 : x_OK p_GT p_MT x_EE cc42 := x_chk_OK x_EE_EO x_EE_KO (g_c (ho_40) (g_c (ho_15) (g_c (ho_41) (g_n)))) (fun _ _ => g_n) ct42
theorem ho_43 : x_OK p_GT p_MT x_EE cc43 := x_chk_OK x_EE_EO x_EE_KO (g_c (ho_15) (g_c (ho_41) (g_n))) (fun _ _ => g_n) ct43
theorem ho_44 : x_OK p_GT p_MT x_EE cc44 := x_chk_OK x_EE_EO x_EE_KO (g_c (ho_43) (g_c (ho_42) (g_c (ho_37) (g_c (ho_15) (g_n))))) (fun _ _ => g_n) ct44
theorem ho_45 : x_OK p_GT p_MT x_EE cc45 := x_chk_OK x_EE_EO x_EE_KO (g_n) (fun _ _ => g_n) ct45
theorem ho_46 : x_OK p_GT p_MT x_EE cc46 := x_chk_OK x_EE_EO x_EE_KO (g_c (ho_40) (g_c (ho_15) (g_c (ho_41) (g_n)))) (fun _ _ => g_n) ct46
theorem ho_47 : x_OK p_GT p_MT x_EE cc47 := x_chk_OK x_EE_EO x_EE_KO (g_n) (fun _ _ => g_n) ct47
theorem ho_48 : x_OK p_GT p_MT x_EE cc48 := x_chk_OK x_EE_EO x_EE_KO (g_c (ho_47) (g_c (ho_46) (g_c (ho_37) (g_c (ho_41) (g_n))))) (fun _ _ => g_n) ct48
theorem ho_49 : x_OK p_GT p_MT x_EE cc49 := x_chk_OK x_EE_EO x_EE_KO (g_c (ho_44) (g_c (ho_48) (g_c (ho_45) (g_n)))) (fun _ _ => g_n) ct49
theorem ho_50 : x_OK p_GT p_MT x_EE cc50 := x_chk_OK x_EE_EO x_EE_KO (g_c (ho_45) (g_n)) (fun _ _ => g_n) ct50
theorem ho_51 : x_OK p_GT p_MT x_EE cc51 := x_chk_OK x_EE_EO x_EE_KO (g_c (ho_50) (g_c (ho_36) (g_c (ho_49) (g_c (ho_25) (g_n))))) (fun _ _ => g_n) ct51
theorem ho_52 : x_OK p_GT p_MT x_EE cc52 := x_chk_OK x_EE_EO x_EE_KO (g_c (ho_16) (g_c (ho_51) (g_n))) (fun _ _ => g_n) ct52
theorem ho_53 : x_OK p_GT p_MT x_EE cc53 := x_chk_OK x_EE_EO x_EE_KO (g_c (ho_52) (g_c (ho_0) (g_n))) (fun _ _ => g_n) ct53
theorem ho_54 : x_OK p_GT p_MT x_EE cc54 := x_chk_OK x_EE_EO x_EE_KO (g_c (ho_19) (g_c (ho_21) (g_c (ho_24) (g_n)))) (fun _ _ => g_n) ct54
theorem ho_55 : x_OK p_GT p_MT x_EE cc55 := x_chk_OK x_EE_EO x_EE_KO (g_n) (fun _ _ => g_n) ct55
theorem ho_56 : x_OK p_GT p_MT x_EE cc56 := x_chk_OK x_EE_EO x_EE_KO (g_c (ho_55) (g_c (ho_15) (g_c (ho_41) (g_n)))) (fun _ _ => g_n) ct56
theorem ho_57 : x_OK p_GT p_MT x_EE cc57 := x_chk_OK x_EE_EO x_EE_KO (g_c (ho_56) (g_c (ho_1) (g_n))) (fun _ _ => g_n) ct57
theorem ho_58 : x_OK p_GT p_MT x_EE cc58 := x_chk_OK x_EE_EO x_EE_KO (g_n) (fun _ _ => g_n) ct58
theorem ho_59 : x_OK p_GT p_MT x_EE cc59 := x_chk_OK x_EE_EO x_EE_KO (g_c (ho_56) (g_c (ho_55) (g_c (ho_1) (g_n)))) (fun _ _ => g_n) ct59
theorem ho_60 : x_OK p_GT p_MT x_EE cc60 := x_chk_OK x_EE_EO x_EE_KO (g_n) (fun _ _ => g_n) ct60
theorem ho_61 : x_OK p_GT p_MT x_EE cc61 := x_chk_OK x_EE_EO x_EE_KO (g_c (ho_40) (g_c (ho_15) (g_c (ho_41) (g_n)))) (fun _ _ => g_n) ct61
theorem ho_62 : x_OK p_GT p_MT x_EE cc62 := x_chk_OK x_EE_EO x_EE_KO (g_c (ho_15) (g_c (ho_41) (g_n))) (fun _ _ => g_n) ct62
theorem ho_63 : x_OK p_GT p_MT x_EE cc63 := x_chk_OK x_EE_EO x_EE_KO (g_c (ho_62) (g_c (ho_57) (g_c (ho_59) (g_c (ho_61) (g_c (ho_60) (g_c (ho_37) (g_c (ho_58) (g_n)))))))) (fun _ _ => g_n) ct63
theorem ho_64 : x_OK p_GT p_MT x_EE cc64 := x_chk_OK x_EE_EO x_EE_KO (g_c (ho_63) (g_c (ho_22) (g_c (ho_24) (g_c (ho_36) (g_c (ho_25) (g_c (ho_15) (g_n))))))) (fun _ _ => g_n) ct64
theorem ho_65 : x_OK p_GT p_MT x_EE cc65 := x_chk_OK x_EE_EO x_EE_KO (g_c (ho_16) (g_c (ho_54) (g_c (ho_64) (g_n)))) (fun _ _ => g_n) ct65
theorem ho_66 : x_OK p_GT p_MT x_EE cc66 := x_chk_OK x_EE_EO x_EE_KO (g_c (ho_65) (g_n)) (fun _ _ => g_n) ct66
theorem ho_67 : x_OK p_GT p_MT x_EE cc67 := x_chk_OK x_EE_EO x_EE_KO (g_n) (fun _ _ => g_n) ct67
theorem ho_68 : x_OK p_GT p_MT x_EE cc68 := x_chk_OK x_EE_EO x_EE_KO (g_c (ho_52) (g_c (ho_65) (g_c (ho_17) (g_c (ho_4) (g_c (ho_27) (g_c (ho_5) (g_c (ho_67) (g_n)))))))) (fun _ _ => g_n) ct68
theorem ho_69 : x_OK p_GT p_MT x_EE cc69 := x_chk_OK x_EE_EO x_EE_KO (g_c (ho_11) (g_c (ho_68) (g_n))) (fun _ _ => g_n) ct69
theorem ho_70 : x_OK p_GT p_MT x_EE cc70 := x_chk_OK x_EE_EO x_EE_KO (g_c (ho_16) (g_c (ho_50) (g_c (ho_51) (g_c (ho_54) (g_c (ho_64) (g_c (ho_23) (g_c (ho_26) (g_c (ho_0) (g_n))))))))) (fun _ _ => g_n) ct70
theorem ho_71 : x_OK p_GT p_MT x_EE cc71 := x_chk_OK x_EE_EO x_EE_KO (g_n) (fun _ _ => g_n) ct71
theorem ho_72 : x_OK p_GT p_MT x_EE cc72 := x_chk_OK x_EE_EO x_EE_KO (g_c (ho_71) (g_n)) (fun _ _ => g_n) ct72
theorem ho_73 : x_OK p_GT p_MT x_EE cc73 := x_chk_OK x_EE_EO x_EE_KO (g_c (ho_3) (g_c (ho_72) (g_n))) (fun _ _ => g_n) ct73
theorem ho_74 : x_OK p_GT p_MT x_EE cc74 := x_chk_OK x_EE_EO x_EE_KO (g_c (ho_63) (g_c (ho_36) (g_n))) (fun _ _ => g_n) ct74
theorem ho_75 : x_OK p_GT p_MT x_EE cc75 := x_chk_OK x_EE_EO x_EE_KO (g_c (ho_42) (g_c (ho_37) (g_n))) (fun _ _ => g_n) ct75
theorem ho_76 : x_OK p_GT p_MT x_EE cc76 := x_chk_OK x_EE_EO x_EE_KO (g_c (ho_43) (g_c (ho_37) (g_n))) (fun _ _ => g_n) ct76
theorem ho_77 : x_OK p_GT p_MT x_EE cc77 := x_chk_OK x_EE_EO x_EE_KO (g_c (ho_76) (g_c (ho_75) (g_n))) (fun _ _ => g_n) ct77
theorem ho_78 : x_OK p_GT p_MT x_EE cc78 := x_chk_OK x_EE_EO x_EE_KO (g_c (ho_77) (g_c (ho_36) (g_n))) (fun _ _ => g_n) ct78
theorem ho_79 : x_OK p_GT p_MT x_EE cc79 := x_chk_OK x_EE_EO x_EE_KO (g_c (ho_31) (g_n)) (fun _ _ => g_n) ct79
theorem ho_80 : x_OK p_GT p_MT x_EE cc80 := x_chk_OK x_EE_EO x_EE_KO (g_c (ho_30) (g_n)) (fun _ _ => g_n) ct80
theorem ho_81 : x_OK p_GT p_MT x_EE cc81 := x_chk_OK x_EE_EO x_EE_KO (g_n) (fun _ _ => g_n) ct81
theorem ho_82 : x_OK p_GT p_MT x_EE cc82 := x_chk_OK x_EE_EO x_EE_KO (g_c (ho_81) (g_n)) (fun _ _ => g_n) ct82
theorem ho_83 : x_OK p_GT p_MT x_EE cc83 := x_chk_OK x_EE_EO x_EE_KO (g_n) (fun _ _ => g_n) ct83
theorem ho_84 : x_OK p_GT p_MT x_EE cc84 := x_chk_OK x_EE_EO x_EE_KO (g_c (ho_83) (g_n)) (fun _ _ => g_n) ct84
theorem ho_85 : x_OK p_GT p_MT x_EE cc85 := x_chk_OK x_EE_EO x_EE_KO (g_c (ho_57) (g_c (ho_19) (g_c (ho_21) (g_c (ho_22) (g_c (ho_24) (g_c (ho_34) (g_c (ho_74) (g_c (ho_78) (g_c (ho_79) (g_c (ho_80) (g_c (ho_82) (g_c (ho_84) (g_c (ho_1) (g_n)))))))))))))) (fun _ _ => g_n) ct85
theorem ho_86 : x_OK p_GT p_MT x_EE cc86 := x_chk_OK x_EE_EO x_EE_KO (g_c (ho_79) (g_c (ho_80) (g_c (ho_82) (g_c (ho_84) (g_c (ho_0) (g_n)))))) (fun _ _ => g_n) ct86
theorem ho_87 : x_OK p_GT p_MT x_EE cc87 := x_chk_OK x_EE_EO x_EE_KO (g_c (ho_0) (g_n)) (fun _ _ => g_n) ct87
theorem ho_88 : x_OK p_GT p_MT x_EE cc88 := x_chk_OK x_EE_EO x_EE_KO (g_c (ho_55) (g_n)) (fun _ _ => g_n) ct88
theorem ho_89 : x_OK p_GT p_MT x_EE cc89 := x_chk_OK x_EE_EO x_EE_KO (g_c (ho_88) (g_c (ho_1) (g_n))) (fun _ _ => g_n) ct89
theorem ho_90 : x_OK p_GT p_MT x_EE cc90 := x_chk_OK x_EE_EO x_EE_KO (g_c (ho_56) (g_c (ho_55) (g_c (ho_1) (g_n)))) (fun _ _ => g_n) ct90
theorem ho_91 : x_OK p_GT p_MT x_EE cc91 := x_chk_OK x_EE_EO x_EE_KO (g_c (ho_90) (g_c (ho_24) (g_n))) (fun _ _ => g_n) ct91
theorem ho_92 : x_OK p_GT p_MT x_EE cc92 := x_chk_OK x_EE_EO x_EE_KO (g_c (ho_89) (g_c (ho_91) (g_c (ho_87) (g_c (ho_55) (g_c (ho_0) (g_n)))))) (fun _ _ => g_n) ct92
theorem ho_93 : x_OK p_GT p_MT x_EE cc93 := x_chk_OK x_EE_EO x_EE_KO (g_n) (fun _ _ => g_n) ct93
theorem ho_94 : x_OK p_GT p_MT x_EE cc94 := x_chk_OK x_EE_EO x_EE_KO (g_c (ho_89) (g_n)) (fun _ _ => g_n) ct94
theorem ho_95 : x_OK p_GT p_MT x_EE cc95 := x_chk_OK x_EE_EO x_EE_KO (g_n) (fun _ _ => g_n) ct95
theorem ho_96 : x_OK p_GT p_MT x_EE cc96 := x_chk_OK x_EE_EO x_EE_KO (g_c (ho_15) (g_n)) (fun _ _ => g_n) ct96
theorem ho_97 : x_OK p_GT p_MT x_EE cc97 := x_chk_OK x_EE_EO x_EE_KO (g_c (ho_95) (g_c (ho_58) (g_c (ho_96) (g_n)))) (fun _ _ => g_n) ct97
theorem ho_98 : x_OK p_GT p_MT x_EE cc98 := x_chk_OK x_EE_EO x_EE_KO (g_c (ho_0) (g_n)) (fun _ _ => g_n) ct98
theorem ho_99 : x_OK p_GT p_MT x_EE cc99 := x_chk_OK x_EE_EO x_EE_KO (g_c (ho_97) (g_c (ho_88) (g_c (ho_98) (g_c (ho_58) (g_c (ho_96) (g_c (ho_0) (g_n))))))) (fun _ _ => g_n) ct99
theorem ho_100 : x_OK p_GT p_MT x_EE cc100 := x_chk_OK x_EE_EO x_EE_KO (g_c (ho_57) (g_c (ho_90) (g_c (ho_36) (g_c (ho_49) (g_n))))) (fun _ _ => g_n) ct100
theorem ho_101 : x_OK p_GT p_MT x_EE cc101 := x_chk_OK x_EE_EO x_EE_KO (g_c (ho_19) (g_c (ho_36) (g_c (ho_49) (g_c (ho_100) (g_c (ho_0) (g_n)))))) (fun _ _ => g_n) ct101
theorem ho_102 : x_OK p_GT p_MT x_EE cc102 := x_chk_OK x_EE_EO x_EE_KO (g_c (ho_36) (g_c (ho_49) (g_n))) (fun _ _ => g_n) ct102
theorem ho_103 : x_OK p_GT p_MT x_EE cc103 := x_chk_OK x_EE_EO x_EE_KO (g_c (ho_56) (g_c (ho_87) (g_c (ho_55) (g_c (ho_102) (g_c (ho_15) (g_n)))))) (fun _ _ => g_n) ct103
theorem ho_104 : x_OK p_GT p_MT x_EE cc104 := x_chk_OK x_EE_EO x_EE_KO (g_n) (fun _ _ => g_n) ct104
theorem ho_105 : x_OK p_GT p_MT x_EE cc105 := x_chk_OK x_EE_EO x_EE_KO (g_c (ho_54) (g_c (ho_74) (g_c (ho_104) (g_n)))) (fun _ _ => g_n) ct105
theorem ho_106 : x_OK p_GT p_MT x_EE cc106 := x_chk_OK x_EE_EO x_EE_KO (g_c (ho_57) (g_c (ho_19) (g_c (ho_55) (g_n)))) (fun _ _ => g_n) ct106
theorem ho_107 : x_OK p_GT p_MT x_EE cc107 := x_chk_OK x_EE_EO x_EE_KO (g_c (ho_21) (g_c (ho_32) (g_n))) (fun _ _ => g_n) ct107
theorem ho_108 : x_OK p_GT p_MT x_EE cc108 := x_chk_OK x_EE_EO x_EE_KO (g_c (ho_24) (g_c (ho_1) (g_n))) (fun _ _ => g_n) ct108
theorem ho_109 : x_OK p_GT p_MT x_EE cc109 := x_chk_OK x_EE_EO x_EE_KO (g_c (ho_22) (g_n)) (fun _ _ => g_n) ct109
theorem ho_110 : x_OK p_GT p_MT x_EE cc110 := x_chk_OK x_EE_EO x_EE_KO (g_n) (fun _ _ => g_n) ct110
theorem ho_111 : x_OK p_GT p_MT x_EE cc111 := x_chk_OK x_EE_EO x_EE_KO (g_n) (fun _ _ => g_n) ct111
theorem ho_112 : x_OK p_GT p_MT x_EE cc112 := x_chk_OK x_EE_EO x_EE_KO (g_c (ho_44) (g_c (ho_48) (g_n))) (fun _ _ => g_n) ct112
theorem ho_113 : x_OK p_GT p_MT x_EE cc113 := x_chk_OK x_EE_EO x_EE_KO (g_c (ho_111) (g_c (ho_112) (g_n))) (fun _ _ => g_n) ct113
theorem ho_114 : x_OK p_GT p_MT x_EE cc114 := x_chk_OK x_EE_EO x_EE_KO (g_c (ho_112) (g_n)) (fun _ _ => g_n) ct114
theorem ho_115 : x_OK p_GT p_MT x_EE cc115 := x_chk_OK x_EE_EO x_EE_KO (g_c (ho_36) (g_c (ho_110) (g_c (ho_113) (g_c (ho_114) (g_c (ho_44) (g_c (ho_1) (g_n))))))) (fun _ _ => g_n) ct115
theorem ho_116 : x_OK p_GT p_MT x_EE cc116 := x_chk_OK x_EE_EO x_EE_KO (g_n) (fun _ _ => g_n) ct116
theorem ho_117 : x_OK p_GT p_MT x_EE cc117 := x_chk_OK x_EE_EO x_EE_KO (g_c (ho_116) (g_c (ho_41) (g_n))) (fun _ _ => g_n) ct117
theorem ho_118 : x_OK p_GT p_MT x_EE cc118 := x_chk_OK x_EE_EO x_EE_KO (g_c (ho_19) (g_c (ho_110) (g_c (ho_115) (g_c (ho_117) (g_c (ho_0) (g_n)))))) (fun _ _ => g_n) ct118
theorem ho_119 : x_OK p_GT p_MT x_EE cc119 := x_chk_OK x_EE_EO x_EE_KO (g_c (ho_20) (g_n)) (fun _ _ => g_n) ct119
theorem ho_120 : x_OK p_GT p_MT x_EE cc120 := x_chk_OK x_EE_EO x_EE_KO (g_c (ho_32) (g_c (ho_34) (g_c (ho_119) (g_n)))) (fun _ _ => g_n) ct120
theorem ho_121 : x_OK p_GT p_MT x_EE cc121 := x_chk_OK x_EE_EO x_EE_KO (g_c (ho_54) (g_c (ho_120) (g_c (ho_115) (g_c (ho_0) (g_n))))) (fun _ _ => g_n) ct121
theorem ho_122 : x_OK p_GT p_MT x_EE cc122 := x_chk_OK x_EE_EO x_EE_KO (g_n) (fun _ _ => g_n) ct122
theorem ho_123 : x_OK p_GT p_MT x_EE cc123 := x_chk_OK x_EE_EO x_EE_KO (g_n) (fun _ _ => g_n) ct123
theorem ho_124 : x_OK p_GT p_MT x_EE cc124 := x_chk_OK x_EE_EO x_EE_KO (g_c (ho_122) (g_c (ho_123) (g_c (ho_0) (g_n)))) (fun _ _ => g_n) ct124
theorem ho_125 : x_OK p_GT p_MT x_EE cc125 := x_chk_OK x_EE_EO x_EE_KO (g_n) (fun _ _ => g_n) ct125
theorem ho_126 : x_OK p_GT p_MT x_EE cc126 := x_chk_OK x_EE_EO x_EE_KO (g_c (ho_56) (g_c (ho_55) (g_c (ho_41) (g_n)))) (fun _ _ => g_n) ct126
theorem ho_127 : x_OK p_GT p_MT x_EE cc127 := x_chk_OK x_EE_EO x_EE_KO (g_c (ho_21) (g_c (ho_36) (g_c (ho_49) (g_c (ho_125) (g_c (ho_126) (g_c (ho_0) (g_n))))))) (fun _ _ => g_n) ct127
theorem ho_128 : x_OK p_GT p_MT x_EE cc128 := x_chk_OK x_EE_EO x_EE_KO (g_c (ho_127) (g_c (ho_0) (g_n))) (fun _ _ => g_n) ct128
theorem ho_129 : x_OK p_GT p_MT x_EE cc129 := x_chk_OK x_EE_EO x_EE_KO (g_n) (fun _ _ => g_n) ct129
theorem ho_130 : x_OK p_GT p_MT x_EE cc130 := x_chk_OK x_EE_EO x_EE_KO (g_n) (fun _ _ => g_n) ct130
theorem ho_131 : x_OK p_GT p_MT x_EE cc131 := x_chk_OK x_EE_EO x_EE_KO (g_c (ho_130) (g_c (ho_125) (g_c (ho_129) (g_n)))) (fun _ _ => g_n) ct131
theorem ho_132 : x_OK p_GT p_MT x_EE cc132 := x_chk_OK x_EE_EO x_EE_KO (g_c (ho_131) (g_c (ho_125) (g_c (ho_129) (g_n)))) (fun _ _ => g_n) ct132
theorem ho_133 : x_OK p_GT p_MT x_EE cc133 := x_chk_OK x_EE_EO x_EE_KO (g_c (ho_132) (g_c (ho_125) (g_c (ho_129) (g_n)))) (fun _ _ => g_n) ct133
theorem ho_134 : x_OK p_GT p_MT x_EE cc134 := x_chk_OK x_EE_EO x_EE_KO (g_c (ho_133) (g_c (ho_125) (g_c (ho_129) (g_n)))) (fun _ _ => g_n) ct134
theorem ho_135 : x_OK p_GT p_MT x_EE cc135 := x_chk_OK x_EE_EO x_EE_KO (g_c (ho_134) (g_c (ho_125) (g_c (ho_129) (g_n)))) (fun _ _ => g_n) ct135
theorem ho_136 : x_OK p_GT p_MT x_EE cc136 := x_chk_OK x_EE_EO x_EE_KO (g_c (ho_135) (g_c (ho_128) (g_c (ho_125) (g_n)))) (fun _ _ => g_n) ct136
theorem ho_137 : x_OK p_GT p_MT x_EE cc137 := x_chk_OK x_EE_EO x_EE_KO (g_c (ho_0) (g_n)) (fun _ _ => g_n) ct137
theorem ho_138 : x_OK p_GT p_MT x_EE cc138 := x_chk_OK x_EE_EO x_EE_KO (g_c (ho_136) (g_c (ho_137) (g_c (ho_0) (g_n)))) (fun _ _ => g_n) ct138
theorem ho_139 : x_OK p_GT p_MT x_EE cc139 := x_chk_OK x_EE_EO x_EE_KO (g_n) (fun _ _ => g_n) ct139
theorem ho_140 : x_OK p_GT p_MT x_EE cc140 := x_chk_OK x_EE_EO x_EE_KO (g_n) (fun _ _ => g_n) ct140
theorem ho_141 : x_OK p_GT p_MT x_EE cc141 := x_chk_OK x_EE_EO x_EE_KO (g_c (ho_139) (g_c (ho_140) (g_c (ho_1) (g_c (ho_0) (g_n))))) (fun _ _ => g_n) ct141
theorem ho_142 : x_OK p_GT p_MT x_EE cc142 := x_chk_OK x_EE_EO x_EE_KO (g_n) (fun _ _ => g_n) ct142
theorem ho_143 : x_OK p_GT p_MT x_EE cc143 := x_chk_OK x_EE_EO x_EE_KO (g_c (ho_142) (g_n)) (fun _ _ => g_n) ct143
theorem ho_144 : x_OK p_GT p_MT x_EE cc144 := x_chk_OK x_EE_EO x_EE_KO (g_c (ho_143) (g_c (ho_1) (g_c (ho_0) (g_n)))) (fun _ _ => g_n) ct144
theorem ho_145 : x_OK p_GT p_MT x_EE cc145 := x_chk_OK x_EE_EO x_EE_KO (g_n) (fun _ _ => g_n) ct145
theorem ho_146 : x_OK p_GT p_MT x_EE cc146 := x_chk_OK x_EE_EO x_EE_KO (g_n) (fun _ _ => g_n) ct146
theorem ho_147 : x_OK p_GT p_MT x_EE cc147 := x_chk_OK x_EE_EO x_EE_KO (g_c (ho_145) (g_c (ho_146) (g_c (ho_0) (g_n)))) (fun _ _ => g_n) ct147
theorem ho_148 : x_OK p_GT p_MT x_EE cc148 := x_chk_OK x_EE_EO x_EE_KO (g_n) (fun _ _ => g_n) ct148
theorem ho_149 : x_OK p_GT p_MT x_EE cc149 := x_chk_OK x_EE_EO x_EE_KO (g_c (ho_148) (g_n)) (fun _ _ => g_n) ct149
theorem ho_150 : x_OK p_GT p_MT x_EE cc150 := x_chk_OK x_EE_EO x_EE_KO (g_c (ho_148) (g_c (ho_41) (g_n))) (fun _ _ => g_n) ct150
theorem ho_151 : x_OK p_GT p_MT x_EE cc151 := x_chk_OK x_EE_EO x_EE_KO (g_c (ho_149) (g_c (ho_150) (g_c (ho_0) (g_n)))) (fun _ _ => g_n) ct151
theorem ho_152 : x_OK p_GT p_MT x_EE cc152 := x_chk_OK x_EE_EO x_EE_KO (g_c (ho_149) (g_c (ho_150) (g_c (ho_148) (g_c (ho_41) (g_c (ho_0) (g_n)))))) (fun _ _ => g_n) ct152
theorem ho_153 : x_OK p_GT p_MT x_EE cc153 := x_chk_OK x_EE_EO x_EE_KO (g_c (ho_56) (g_c (ho_19) (g_c (ho_87) (g_c (ho_55) (g_c (ho_117) (g_n)))))) (fun _ _ => g_n) ct153
theorem ho_154 : x_OK p_GT p_MT x_EE cc154 := x_chk_OK x_EE_EO x_EE_KO (g_c (ho_55) (g_c (ho_1) (g_n))) (fun _ _ => g_n) ct154
theorem ho_155 : x_OK p_GT p_MT x_EE cc155 := x_chk_OK x_EE_EO x_EE_KO (g_c (ho_57) (g_c (ho_91) (g_c (ho_21) (g_c (ho_74) (g_c (ho_154) (g_c (ho_1) (g_c (ho_0) (g_n)))))))) (fun _ _ => g_n) ct155
theorem ho_156 : x_OK p_GT p_MT x_EE cc156 := x_chk_OK x_EE_EO x_EE_KO (g_n) (fun _ _ => g_n) ct156
theorem ho_157 : x_OK p_GT p_MT x_EE cc157 := x_chk_OK x_EE_EO x_EE_KO (g_n) (fun _ _ => g_n) ct157
theorem ho_158 : x_OK p_GT p_MT x_EE cc158 := x_chk_OK x_EE_EO x_EE_KO (g_c (ho_156) (g_c (ho_157) (g_c (ho_0) (g_n)))) (fun _ _ => g_n) ct158
theorem ho_159 : x_OK p_GT p_MT x_EE cc159 := x_chk_OK x_EE_EO x_EE_KO (g_n) (fun _ _ => g_n) ct159
theorem ho_160 : x_OK p_GT p_MT x_EE cc160 := x_chk_OK x_EE_EO x_EE_KO (g_c (ho_159) (g_c (ho_117) (g_c (ho_0) (g_n)))) (fun _ _ => g_n) ct160
theorem ho_161 : x_OK p_GT p_MT x_EE cc161 := x_chk_OK x_EE_EO x_EE_KO (g_c (ho_1) (g_c (ho_41) (g_n))) (fun _ _ => g_n) ct161
theorem ho_162 : x_OK p_GT p_MT x_EE cc162 := x_chk_OK x_EE_EO x_EE_KO (g_c (ho_161) (g_c (ho_21) (g_c (ho_74) (g_c (ho_0) (g_n))))) (fun _ _ => g_n) ct162
theorem ho_163 : x_OK p_GT p_MT x_EE cc163 := x_chk_OK x_EE_EO x_EE_KO (g_c (ho_63) (g_c (ho_36) (g_c (ho_49) (g_c (ho_15) (g_n))))) (fun _ _ => g_n) ct163
theorem ho_164 : x_OK p_GT p_MT x_EE cc164 := x_chk_OK x_EE_EO x_EE_KO (g_c (ho_21) (g_c (ho_163) (g_c (ho_0) (g_n)))) (fun _ _ => g_n) ct164
theorem ho_165 : x_OK p_GT p_MT x_EE cc165 := x_chk_OK x_EE_EO x_EE_KO (g_n) (fun _ _ => g_n) ct165
theorem ho_166 : x_OK p_GT p_MT x_EE cc166 := x_chk_OK x_EE_EO x_EE_KO (g_n) (fun _ _ => g_n) ct166
theorem ho_167 : x_OK p_GT p_MT x_EE cc167 := x_chk_OK x_EE_EO x_EE_KO (g_c (ho_165) (g_c (ho_19) (g_c (ho_166) (g_c (ho_0) (g_n))))) (fun _ _ => g_n) ct167
theorem ho_168 : x_OK p_GT p_MT x_EE cc168 := x_chk_OK x_EE_EO x_EE_KO (g_n) (fun _ _ => g_n) ct168
theorem ho_169 : x_OK p_GT p_MT x_EE cc169 := x_chk_OK x_EE_EO x_EE_KO (g_c (ho_76) (g_c (ho_19) (g_c (ho_36) (g_c (ho_168) (g_n))))) (fun _ _ => g_n) ct169
theorem ho_170 : x_OK p_GT p_MT x_EE cc170 := x_chk_OK x_EE_EO x_EE_KO (g_c (ho_19) (g_c (ho_36) (g_c (ho_75) (g_c (ho_168) (g_n))))) (fun _ _ => g_n) ct170
theorem ho_171 : x_OK p_GT p_MT x_EE cc171 := x_chk_OK x_EE_EO x_EE_KO (g_c (ho_169) (g_c (ho_170) (g_c (ho_11) (g_c (ho_1) (g_n))))) (fun _ _ => g_n) ct171
theorem ho_172 : x_OK p_GT p_MT x_EE cc172 := x_chk_OK x_EE_EO x_EE_KO (g_n) (fun _ _ => g_n) ct172
theorem ho_173 : x_OK p_GT p_MT x_EE cc173 := x_chk_OK x_EE_EO x_EE_KO (g_n) (fun _ _ => g_n) ct173
theorem ho_174 : x_OK p_GT p_MT x_EE cc174 := x_chk_OK x_EE_EO x_EE_KO (g_n) (fun _ _ => g_n) ct174
theorem ho_175 : x_OK p_GT p_MT x_EE cc175 := x_chk_OK x_EE_EO x_EE_KO (g_n) (fun _ _ => g_n) ct175
theorem ho_176 : x_OK p_GT p_MT x_EE cc176 := x_chk_OK x_EE_EO x_EE_KO (g_n) (fun _ _ => g_n) ct176
theorem ho_177 : x_OK p_GT p_MT x_EE cc177 := x_chk_OK x_EE_EO x_EE_KO (g_n) (fun _ _ => g_n) ct177
theorem ho_178 : x_OK p_GT p_MT x_EE cc178 := x_chk_OK x_EE_EO x_EE_KO (g_n) (fun _ _ => g_n) ct178
theorem ho_179 : x_OK p_GT p_MT x_EE cc179 := x_chk_OK x_EE_EO x_EE_KO (g_c (ho_172) (g_c (ho_173) (g_c (ho_174) (g_c (ho_175) (g_c (ho_176) (g_c (ho_177) (g_c (ho_178) (g_n)))))))) (fun _ _ => g_n) ct179
theorem ho_180 : x_OK p_GT p_MT x_EE cc180 := x_chk_OK x_EE_EO x_EE_KO (g_c (ho_179) (g_n)) (fun _ _ => g_n) ct180
theorem ho_181 : x_OK p_GT p_MT x_EE cc181 := x_chk_OK x_EE_EO x_EE_KO (g_n) (fun _ _ => g_n) ct181
theorem ho_182 : x_OK p_GT p_MT x_EE cc182 := x_chk_OK x_EE_EO x_EE_KO (g_n) (fun _ _ => g_n) ct182
theorem ho_183 : x_OK p_GT p_MT x_EE cc183 := x_chk_OK x_EE_EO x_EE_KO (g_n) (fun _ _ => g_n) ct183
theorem ho_184 : x_OK p_GT p_MT x_EE cc184 := x_chk_OK x_EE_EO x_EE_KO (g_n) (fun _ _ => g_n) ct184
theorem ho_185 : x_OK p_GT p_MT x_EE cc185 := x_chk_OK x_EE_EO x_EE_KO (g_n) (fun _ _ => g_n) ct185
theorem ho_186 : x_OK p_GT p_MT x_EE cc186 := x_chk_OK x_EE_EO x_EE_KO (g_n) (fun _ _ => g_n) ct186
theorem ho_187 : x_OK p_GT p_MT x_EE cc187 := x_chk_OK x_EE_EO x_EE_KO (g_n) (fun _ _ => g_n) ct187
theorem ho_188 : x_OK p_GT p_MT x_EE cc188 := x_chk_OK x_EE_EO x_EE_KO (g_c (ho_181) (g_c (ho_182) (g_c (ho_183) (g_c (ho_184) (g_c (ho_185) (g_c (ho_186) (g_c (ho_187) (g_n)))))))) (fun _ _ => g_n) ct188
theorem ho_189 : x_OK p_GT p_MT x_EE cc189 := x_chk_OK x_EE_EO x_EE_KO (g_c (ho_3) (g_c (ho_188) (g_n))) (fun _ _ => g_n) ct189
theorem ho_190 : x_OK p_GT p_MT x_EE cc190 := x_chk_OK x_EE_EO x_EE_KO (g_n) (fun _ _ => g_n) ct190
theorem ho_191 : x_OK p_GT p_MT x_EE cc191 := x_chk_OK x_EE_EO x_EE_KO (g_n) (fun _ _ => g_n) ct191
theorem ho_192 : x_OK p_GT p_MT x_EE cc192 := x_chk_OK x_EE_EO x_EE_KO (g_c (ho_191) (g_n)) (fun _ _ => g_n) ct192
set_option maxRecDepth 100000 in
theorem ho_193 : x_OK p_GT p_MT x_EE cc193 := x_chk_OK x_EE_EO x_EE_KO (g_c (ho_191) (g_n)) (fun M' hM => by
  cases (show some m_X12_sight = some M' from hM)
  exact g_c (g_c (hr_sightSet0 rfl) (g_n)) (g_c (g_c (hr_sightSet1 rfl) (g_n)) (g_c (g_c (hr_sightSet2 rfl) (g_n)) (g_c (g_c (hr_sightSet3 rfl) (g_n)) (g_c (g_c (hr_sightSet4 rfl) (g_n)) (g_c (g_c (hr_sightSet5 rfl) (g_n)) (g_c (g_c (hr_sightTold rfl) (g_n)) (g_n)))))))) ct193
theorem ho_194 : x_OK p_GT p_MT x_EE cc194 := x_chk_OK x_EE_EO x_EE_KO (g_n) (fun _ _ => g_n) ct194
theorem ho_195 : x_OK p_GT p_MT x_EE cc195 := x_chk_OK x_EE_EO x_EE_KO (g_c (ho_194) (g_n)) (fun _ _ => g_n) ct195
theorem ho_196 : x_OK p_GT p_MT x_EE cc196 := x_chk_OK x_EE_EO x_EE_KO (g_c (ho_191) (g_n)) (fun _ _ => g_n) ct196
theorem ho_197 : x_OK p_GT p_MT x_EE cc197 := x_chk_OK x_EE_EO x_EE_KO (g_n) (fun _ _ => g_n) ct197
theorem ho_198 : x_OK p_GT p_MT x_EE cc198 := x_chk_OK x_EE_EO x_EE_KO (g_n) (fun _ _ => g_n) ct198
theorem ho_199 : x_OK p_GT p_MT x_EE cc199 := x_chk_OK x_EE_EO x_EE_KO (g_n) (fun _ _ => g_n) ct199
theorem ho_200 : x_OK p_GT p_MT x_EE cc200 := x_chk_OK x_EE_EO x_EE_KO (g_c (ho_ch1) (g_c (ho_ch0) (g_c (ho_197) (g_c (ho_198) (g_c (ho_199) (g_n)))))) (fun _ _ => g_n) ct200
theorem ho_201 : x_OK p_GT p_MT x_EE cc201 := x_chk_OK x_EE_EO x_EE_KO (g_n) (fun _ _ => g_n) ct201
theorem ho_202 : x_OK p_GT p_MT x_EE cc202 := x_chk_OK x_EE_EO x_EE_KO (g_c (ho_201) (g_n)) (fun _ _ => g_n) ct202
theorem ho_203 : x_OK p_GT p_MT x_EE cc203 := x_chk_OK x_EE_EO x_EE_KO (g_c (ho_202) (g_n)) (fun _ _ => g_n) ct203
theorem ho_204 : x_OK p_GT p_MT x_EE cc204 := x_chk_OK x_EE_EO x_EE_KO (g_c (ho_203) (g_n)) (fun _ _ => g_n) ct204
theorem ho_205 : x_OK p_GT p_MT x_EE cc205 := x_chk_OK x_EE_EO x_EE_KO (g_n) (fun _ _ => g_n) ct205
theorem ho_206 : x_OK p_GT p_MT x_EE cc206 := x_chk_OK x_EE_EO x_EE_KO (g_n) (fun _ _ => g_n) ct206
theorem ho_207 : x_OK p_GT p_MT x_EE cc207 := x_chk_OK x_EE_EO x_EE_KO (g_c (ho_206) (g_n)) (fun _ _ => g_n) ct207
theorem ho_208 : x_OK p_GT p_MT x_EE cc208 := x_chk_OK x_EE_EO x_EE_KO (g_c (ho_207) (g_n)) (fun _ _ => g_n) ct208
theorem ho_209 : x_OK p_GT p_MT x_EE cc209 := x_chk_OK x_EE_EO x_EE_KO (g_c (ho_208) (g_n)) (fun _ _ => g_n) ct209
theorem ho_210 : x_OK p_GT p_MT x_EE cc210 := x_chk_OK x_EE_EO x_EE_KO (g_n) (fun _ _ => g_n) ct210
theorem ho_211 : x_OK p_GT p_MT x_EE cc211 := x_chk_OK x_EE_EO x_EE_KO (g_c (ho_210) (g_n)) (fun _ _ => g_n) ct211
theorem ho_212 : x_OK p_GT p_MT x_EE cc212 := x_chk_OK x_EE_EO x_EE_KO (g_c (ho_211) (g_n)) (fun _ _ => g_n) ct212
theorem ho_213 : x_OK p_GT p_MT x_EE cc213 := x_chk_OK x_EE_EO x_EE_KO (g_n) (fun _ _ => g_n) ct213
theorem ho_214 : x_OK p_GT p_MT x_EE cc214 := x_chk_OK x_EE_EO x_EE_KO (g_c (ho_213) (g_n)) (fun _ _ => g_n) ct214
theorem ho_215 : x_OK p_GT p_MT x_EE cc215 := x_chk_OK x_EE_EO x_EE_KO (g_c (ho_214) (g_n)) (fun _ _ => g_n) ct215
theorem ho_216 : x_OK p_GT p_MT x_EE cc216 := x_chk_OK x_EE_EO x_EE_KO (g_n) (fun _ _ => g_n) ct216
theorem ho_217 : x_OK p_GT p_MT x_EE cc217 := x_chk_OK x_EE_EO x_EE_KO (g_c (ho_216) (g_n)) (fun _ _ => g_n) ct217
theorem ho_218 : x_OK p_GT p_MT x_EE cc218 := x_chk_OK x_EE_EO x_EE_KO (g_c (ho_217) (g_n)) (fun _ _ => g_n) ct218
theorem ho_219 : x_OK p_GT p_MT x_EE cc219 := x_chk_OK x_EE_EO x_EE_KO (g_c (ho_218) (g_n)) (fun _ _ => g_n) ct219
theorem ho_220 : x_OK p_GT p_MT x_EE cc220 := x_chk_OK x_EE_EO x_EE_KO (g_n) (fun _ _ => g_n) ct220
theorem ho_221 : x_OK p_GT p_MT x_EE cc221 := x_chk_OK x_EE_EO x_EE_KO (g_c (ho_220) (g_n)) (fun _ _ => g_n) ct221
theorem ho_222 : x_OK p_GT p_MT x_EE cc222 := x_chk_OK x_EE_EO x_EE_KO (g_n) (fun _ _ => g_n) ct222
theorem ho_223 : x_OK p_GT p_MT x_EE cc223 := x_chk_OK x_EE_EO x_EE_KO (g_c (ho_222) (g_n)) (fun _ _ => g_n) ct223
theorem ho_224 : x_OK p_GT p_MT x_EE cc224 := x_chk_OK x_EE_EO x_EE_KO (g_c (ho_223) (g_n)) (fun _ _ => g_n) ct224
theorem ho_225 : x_OK p_GT p_MT x_EE cc225 := x_chk_OK x_EE_EO x_EE_KO (g_c (ho_224) (g_n)) (fun _ _ => g_n) ct225
theorem ho_226 : x_OK p_GT p_MT x_EE cc226 := x_chk_OK x_EE_EO x_EE_KO (g_n) (fun _ _ => g_n) ct226
theorem ho_227 : x_OK p_GT p_MT x_EE cc227 := x_chk_OK x_EE_EO x_EE_KO (g_c (ho_226) (g_n)) (fun _ _ => g_n) ct227
theorem ho_228 : x_OK p_GT p_MT x_EE cc228 := x_chk_OK x_EE_EO x_EE_KO (g_c (ho_227) (g_n)) (fun _ _ => g_n) ct228
theorem ho_229 : x_OK p_GT p_MT x_EE cc229 := x_chk_OK x_EE_EO x_EE_KO (g_c (ho_228) (g_n)) (fun _ _ => g_n) ct229
theorem ho_230 : x_OK p_GT p_MT x_EE cc230 := x_chk_OK x_EE_EO x_EE_KO (g_n) (fun _ _ => g_n) ct230
theorem ho_231 : x_OK p_GT p_MT x_EE cc231 := x_chk_OK x_EE_EO x_EE_KO (g_c (ho_230) (g_n)) (fun _ _ => g_n) ct231
theorem ho_232 : x_OK p_GT p_MT x_EE cc232 := x_chk_OK x_EE_EO x_EE_KO (g_c (ho_205) (g_c (ho_204) (g_c (ho_209) (g_c (ho_219) (g_c (ho_225) (g_c (ho_229) (g_c (ho_208) (g_c (ho_212) (g_c (ho_215) (g_c (ho_221) (g_c (ho_231) (g_n)))))))))))) (fun _ _ => g_n) ct232
theorem ho_233 : x_OK p_GT p_MT x_EE cc233 := x_chk_OK x_EE_EO x_EE_KO (g_n) (fun _ _ => g_n) ct233
theorem ho_234 : x_OK p_GT p_MT x_EE cc234 := x_chk_OK x_EE_EO x_EE_KO (g_n) (fun _ _ => g_n) ct234
theorem ho_235 : x_OK p_GT p_MT x_EE cc235 := x_chk_OK x_EE_EO x_EE_KO (g_n) (fun _ _ => g_n) ct235
theorem ho_236 : x_OK p_GT p_MT x_EE cc236 := x_chk_OK x_EE_EO x_EE_KO (g_c (ho_235) (g_n)) (fun _ _ => g_n) ct236
theorem ho_237 : x_OK p_GT p_MT x_EE cc237 := x_chk_OK x_EE_EO x_EE_KO (g_c (ho_205) (g_c (ho_236) (g_n))) (fun _ _ => g_n) ct237
theorem ho_238 : x_OK p_GT p_MT x_EE cc238 := x_chk_OK x_EE_EO x_EE_KO (g_c (ho_234) (g_c (ho_237) (g_n))) (fun _ _ => g_n) ct238
set_option maxRecDepth 100000 in
theorem ho_239 : x_OK p_GT p_MT x_EE cc239 := x_chk_OK x_EE_EO x_EE_KO (g_c (ho_238) (g_n)) (fun M' hM => by
  cases (show some m_X12_beginOne = some M' from hM)
  exact g_c (g_c (hr_push40 rfl) (g_c (hr_push3 rfl) (g_c (hr_push41 rfl) (g_n)))) (g_n)) ct239
set_option maxRecDepth 100000 in
theorem ho_240 : x_OK p_GT p_MT x_EE cc240 := x_chk_OK x_EE_EO x_EE_KO (g_c (ho_239) (g_n)) (fun M' hM => by
  cases (show some m_X12_summed = some M' from hM)
  exact g_c (g_c (hr_noPile rfl) (g_n)) (g_n)) ct240
set_option maxRecDepth 100000 in
theorem ho_241 : x_OK p_GT p_MT x_EE cc241 := x_chk_OK x_EE_EO x_EE_KO (g_c (ho_240) (g_n)) (fun M' hM => by
  cases (show some m_X12_lawClause = some M' from hM)
  exact g_c (g_c (hr_fromSet rfl) (g_n)) (g_c (g_c (hr_toSet rfl) (g_n)) (g_n))) ct241
theorem ho_242 : x_OK p_GT p_MT x_EE cc242 := x_chk_OK x_EE_EO x_EE_KO (g_c (ho_241) (g_n)) (fun _ _ => g_n) ct242
theorem ho_243 : x_OK p_GT p_MT x_EE cc243 := x_chk_OK x_EE_EO x_EE_KO (g_n) (fun _ _ => g_n) ct243
theorem ho_244 : x_OK p_GT p_MT x_EE cc244 := x_chk_OK x_EE_EO x_EE_KO (g_c (ho_243) (g_n)) (fun _ _ => g_n) ct244
theorem ho_245 : x_OK p_GT p_MT x_EE cc245 := x_chk_OK x_EE_EO x_EE_KO (g_c (ho_244) (g_n)) (fun _ _ => g_n) ct245
theorem ho_246 : x_OK p_GT p_MT x_EE cc246 := x_chk_OK x_EE_EO x_EE_KO (g_c (ho_216) (g_n)) (fun _ _ => g_n) ct246
theorem ho_247 : x_OK p_GT p_MT x_EE cc247 := x_chk_OK x_EE_EO x_EE_KO (g_c (ho_246) (g_n)) (fun _ _ => g_n) ct247
theorem ho_248 : x_OK p_GT p_MT x_EE cc248 := x_chk_OK x_EE_EO x_EE_KO (g_c (ho_203) (g_n)) (fun _ _ => g_n) ct248
theorem ho_249 : x_OK p_GT p_MT x_EE cc249 := x_chk_OK x_EE_EO x_EE_KO (g_c (ho_248) (g_n)) (fun _ _ => g_n) ct249
theorem ho_250 : x_OK p_GT p_MT x_EE cc250 := x_chk_OK x_EE_EO x_EE_KO (g_n) (fun _ _ => g_n) ct250
theorem ho_251 : x_OK p_GT p_MT x_EE cc251 := x_chk_OK x_EE_EO x_EE_KO (g_c (ho_250) (g_n)) (fun _ _ => g_n) ct251
theorem ho_252 : x_OK p_GT p_MT x_EE cc252 := x_chk_OK x_EE_EO x_EE_KO (g_c (ho_251) (g_n)) (fun _ _ => g_n) ct252
theorem ho_253 : x_OK p_GT p_MT x_EE cc253 := x_chk_OK x_EE_EO x_EE_KO (g_c (ho_219) (g_n)) (fun _ _ => g_n) ct253
theorem ho_254 : x_OK p_GT p_MT x_EE cc254 := x_chk_OK x_EE_EO x_EE_KO (g_n) (fun _ _ => g_n) ct254
theorem ho_255 : x_OK p_GT p_MT x_EE cc255 := x_chk_OK x_EE_EO x_EE_KO (g_c (ho_254) (g_n)) (fun _ _ => g_n) ct255
theorem ho_256 : x_OK p_GT p_MT x_EE cc256 := x_chk_OK x_EE_EO x_EE_KO (g_c (ho_255) (g_n)) (fun _ _ => g_n) ct256
theorem ho_257 : x_OK p_GT p_MT x_EE cc257 := x_chk_OK x_EE_EO x_EE_KO (g_c (ho_256) (g_n)) (fun _ _ => g_n) ct257
theorem ho_258 : x_OK p_GT p_MT x_EE cc258 := x_chk_OK x_EE_EO x_EE_KO (g_c (ho_249) (g_c (ho_253) (g_c (ho_229) (g_c (ho_257) (g_c (ho_245) (g_c (ho_247) (g_c (ho_252) (g_c (ho_231) (g_n))))))))) (fun _ _ => g_n) ct258
theorem ho_259 : x_OK p_GT p_MT x_EE cc259 := x_chk_OK x_EE_EO x_EE_KO (g_c (ho_205) (g_c (ho_236) (g_n))) (fun _ _ => g_n) ct259
theorem ho_260 : x_OK p_GT p_MT x_EE cc260 := x_chk_OK x_EE_EO x_EE_KO (g_n) (fun _ _ => g_n) ct260
theorem ho_261 : x_OK p_GT p_MT x_EE cc261 := x_chk_OK x_EE_EO x_EE_KO (g_c (ho_258) (g_c (ho_259) (g_c (ho_260) (g_n)))) (fun _ _ => g_n) ct261
theorem ho_262 : x_OK p_GT p_MT x_EE cc262 := x_chk_OK x_EE_EO x_EE_KO (g_n) (fun _ _ => g_n) ct262
set_option maxRecDepth 100000 in
theorem ho_263 : x_OK p_GT p_MT x_EE cc263 := x_chk_OK x_EE_EO x_EE_KO (g_c (ho_ch4) (g_c (ho_ch5) (g_c (ho_262) (g_n)))) (fun M' hM => by
  cases (show some m_X12_settle = some M' from hM)
  exact g_c (g_c (hr_pileTopIn rfl) (g_c (hr_pileTop rfl) (g_n))) (g_c (g_c (hr_known1 rfl) (g_n)) (g_c (g_c (hr_known1 rfl) (g_n)) (g_n)))) ct263
set_option maxRecDepth 100000 in
theorem ho_264 : x_OK p_GT p_MT x_EE cc264 := x_chk_OK x_EE_EO x_EE_KO (g_c (ho_263) (g_c (ho_261) (g_c (ho_ch2) (g_c (ho_ch3) (g_c (ho_200) (g_c (ho_258) (g_n))))))) (fun M' hM => by
  cases (show some m_X12_beginOne = some M' from hM)
  exact g_c (g_c (hr_push40 rfl) (g_c (hr_push3 rfl) (g_c (hr_push41 rfl) (g_n)))) (g_n)) ct264
theorem ho_265 : x_OK p_GT p_MT x_EE cc265 := x_chk_OK x_EE_EO x_EE_KO (g_n) (fun _ _ => g_n) ct265
set_option maxRecDepth 100000 in
theorem ho_266 : x_OK p_GT p_MT x_EE cc266 := x_chk_OK x_EE_EO x_EE_KO (g_c (ho_200) (g_c (ho_205) (g_c (ho_265) (g_n)))) (fun M' hM => by
  cases (show some m_X12_ofNth = some M' from hM)
  exact g_c (g_c (hr_topIn rfl) (g_n)) (g_c (g_c (hr_count rfl) (g_c (hr_count1 rfl) (g_n))) (g_n))) ct266
set_option maxRecDepth 100000 in
theorem ho_267 : x_OK p_GT p_MT x_EE cc267 := x_chk_OK x_EE_EO x_EE_KO (g_c (ho_ch4) (g_c (ho_ch5) (g_c (ho_262) (g_n)))) (fun M' hM => by
  cases (show some m_X12_settle = some M' from hM)
  exact g_c (g_c (hr_pileTopIn rfl) (g_c (hr_pileTop rfl) (g_n))) (g_c (g_c (hr_known1 rfl) (g_n)) (g_c (g_c (hr_known1 rfl) (g_n)) (g_n)))) ct267
set_option maxRecDepth 100000 in
theorem ho_268 : x_OK p_GT p_MT x_EE cc268 := x_chk_OK x_EE_EO x_EE_KO (g_n) (fun M' hM => by
  cases (show some m_X12_openNow = some M' from hM)
  exact g_c (g_c (hr_pileOpen rfl) (g_n)) (g_c (g_c (hr_known1 rfl) (g_n)) (g_n))) ct268
set_option maxRecDepth 100000 in
theorem ho_269 : x_OK p_GT p_MT x_EE cc269 := x_chk_OK x_EE_EO x_EE_KO (g_c (ho_ch4) (g_c (ho_ch5) (g_c (ho_262) (g_n)))) (fun M' hM => by
  cases (show some m_X12_settle = some M' from hM)
  exact g_c (g_c (hr_pileTopIn rfl) (g_c (hr_pileTop rfl) (g_n))) (g_c (g_c (hr_known1 rfl) (g_n)) (g_c (g_c (hr_known1 rfl) (g_n)) (g_n)))) ct269
set_option maxRecDepth 100000 in
theorem ho_270 : x_OK p_GT p_MT x_EE cc270 := x_chk_OK x_EE_EO x_EE_KO (g_c (ho_269) (g_c (ho_238) (g_c (ho_261) (g_c (ho_200) (g_n))))) (fun M' hM => by
  cases (show some m_X12_nextOfNth = some M' from hM)
  exact g_c (g_c (hr_known6 rfl) (g_n)) (g_c (g_c (hr_known6 rfl) (g_n)) (g_c (g_c (hr_count rfl) (g_c (hr_count1 rfl) (g_n))) (g_n)))) ct270
set_option maxRecDepth 100000 in
theorem ho_271 : x_OK p_GT p_MT x_EE cc271 := x_chk_OK x_EE_EO x_EE_KO (g_c (ho_266) (g_c (ho_270) (g_c (ho_269) (g_c (ho_267) (g_c (ho_263) (g_c (ho_ch6) (g_c (ho_268) (g_c (ho_200) (g_c (ho_262) (g_n)))))))))) (fun M' hM => by
  cases (show some m_X12_behindOne = some M' from hM)
  exact g_c (g_c (hr_pileTopIn rfl) (g_c (hr_pileTop rfl) (g_n))) (g_c (g_c (hr_pushBinary rfl) (g_n)) (g_c (g_c (hr_known6 rfl) (g_n)) (g_n)))) ct271
set_option maxRecDepth 100000 in
theorem ho_272 : x_OK p_GT p_MT x_EE cc272 := x_chk_OK x_EE_EO x_EE_KO (g_c (ho_205) (g_c (ho_265) (g_n))) (fun M' hM => by
  cases (show some m_X12_ofNth = some M' from hM)
  exact g_c (g_c (hr_topIn rfl) (g_n)) (g_c (g_c (hr_count rfl) (g_c (hr_count1 rfl) (g_n))) (g_n))) ct272
set_option maxRecDepth 100000 in
theorem ho_273 : x_OK p_GT p_MT x_EE cc273 := x_chk_OK x_EE_EO x_EE_KO (g_c (ho_272) (g_c (ho_268) (g_n))) (fun M' hM => by
  cases (show some m_X12_behindOne = some M' from hM)
  exact g_c (g_c (hr_pileTopIn rfl) (g_c (hr_pileTop rfl) (g_n))) (g_c (g_c (hr_pushBinary rfl) (g_n)) (g_c (g_c (hr_known6 rfl) (g_n)) (g_n)))) ct273
set_option maxRecDepth 100000 in
theorem ho_274 : x_OK p_GT p_MT x_EE cc274 := x_chk_OK x_EE_EO x_EE_KO (g_c (ho_239) (g_c (ho_273) (g_c (ho_264) (g_c (ho_271) (g_c (ho_267) (g_c (ho_268) (g_n))))))) (fun M' hM => by
  cases (show some m_X12_summed = some M' from hM)
  exact g_c (g_c (hr_noPile rfl) (g_n)) (g_n)) ct274
set_option maxRecDepth 100000 in
theorem ho_275 : x_OK p_GT p_MT x_EE cc275 := x_chk_OK x_EE_EO x_EE_KO (g_c (ho_274) (g_n)) (fun M' hM => by
  cases (show some m_X12_lawClause = some M' from hM)
  exact g_c (g_c (hr_fromSet rfl) (g_n)) (g_c (g_c (hr_toSet rfl) (g_n)) (g_n))) ct275
theorem ho_276 : x_OK p_GT p_MT x_EE cc276 := x_chk_OK x_EE_EO x_EE_KO (g_c (ho_275) (g_n)) (fun _ _ => g_n) ct276
theorem ho_277 : x_OK p_GT p_MT x_EE cc277 := x_chk_OK x_EE_EO x_EE_KO (g_c (ho_241) (g_n)) (fun _ _ => g_n) ct277
theorem ho_278 : x_OK p_GT p_MT x_EE cc278 := x_chk_OK x_EE_EO x_EE_KO (g_c (ho_275) (g_n)) (fun _ _ => g_n) ct278
theorem ho_279 : x_OK p_GT p_MT x_EE cc279 := x_chk_OK x_EE_EO x_EE_KO (g_c (ho_241) (g_n)) (fun _ _ => g_n) ct279
theorem ho_280 : x_OK p_GT p_MT x_EE cc280 := x_chk_OK x_EE_EO x_EE_KO (g_c (ho_275) (g_n)) (fun _ _ => g_n) ct280
set_option maxRecDepth 100000 in
theorem ho_281 : x_OK p_GT p_MT x_EE cc281 := x_chk_OK x_EE_EO x_EE_KO (g_n) (fun M' hM => by
  cases (show some m_X12_figure = some M' from hM)
  exact g_c (g_c (hr_partSet1 rfl) (g_c (hr_partSet2 rfl) (g_c (hr_partSet3 rfl) (g_c (hr_partSet4 rfl) (g_c (hr_partSet5 rfl) (g_c (hr_partSet6 rfl) (g_n))))))) (g_n)) ct281
theorem ho_282 : x_OK p_GT p_MT x_EE cc282 := x_chk_OK x_EE_EO x_EE_KO (g_c (ho_281) (g_n)) (fun _ _ => g_n) ct282
theorem ho_283 : x_OK p_GT p_MT x_EE cc283 := x_chk_OK x_EE_EO x_EE_KO (g_c (ho_282) (g_n)) (fun _ _ => g_n) ct283
set_option maxRecDepth 100000 in
theorem ho_284 : x_OK p_GT p_MT x_EE cc284 := x_chk_OK x_EE_EO x_EE_KO (g_c (ho_200) (g_c (ho_191) (g_n))) (fun M' hM => by
  cases (show some m_X12_figure = some M' from hM)
  exact g_c (g_c (hr_partSet1 rfl) (g_c (hr_partSet2 rfl) (g_c (hr_partSet3 rfl) (g_c (hr_partSet4 rfl) (g_c (hr_partSet5 rfl) (g_c (hr_partSet6 rfl) (g_n))))))) (g_n)) ct284
theorem ho_285 : x_OK p_GT p_MT x_EE cc285 := x_chk_OK x_EE_EO x_EE_KO (g_n) (fun _ _ => g_n) ct285
theorem ho_286 : x_OK p_GT p_MT x_EE cc286 := x_chk_OK x_EE_EO x_EE_KO (g_n) (fun _ _ => g_n) ct286
set_option maxRecDepth 100000 in
theorem ho_287 : x_OK p_GT p_MT x_EE cc287 := x_chk_OK x_EE_EO x_EE_KO (g_n) (fun M' hM => by
  cases (show some m_X12_figure = some M' from hM)
  exact g_c (g_c (hr_partSet1 rfl) (g_c (hr_partSet2 rfl) (g_c (hr_partSet3 rfl) (g_c (hr_partSet4 rfl) (g_c (hr_partSet5 rfl) (g_c (hr_partSet6 rfl) (g_n))))))) (g_n)) ct287
set_option maxRecDepth 100000 in
theorem ho_288 : x_OK p_GT p_MT x_EE cc288 := x_chk_OK x_EE_EO x_EE_KO (g_c (ho_200) (g_c (ho_191) (g_n))) (fun M' hM => by
  cases (show some m_X12_figure = some M' from hM)
  exact g_c (g_c (hr_partSet1 rfl) (g_c (hr_partSet2 rfl) (g_c (hr_partSet3 rfl) (g_c (hr_partSet4 rfl) (g_c (hr_partSet5 rfl) (g_c (hr_partSet6 rfl) (g_n))))))) (g_n)) ct288
theorem ho_289 : x_OK p_GT p_MT x_EE cc289 := x_chk_OK x_EE_EO x_EE_KO (g_c (ho_287) (g_c (ho_288) (g_c (ho_200) (g_c (ho_286) (g_n))))) (fun _ _ => g_n) ct289
theorem ho_290 : x_OK p_GT p_MT x_EE cc290 := x_chk_OK x_EE_EO x_EE_KO (g_c (ho_286) (g_n)) (fun _ _ => g_n) ct290
theorem ho_291 : x_OK p_GT p_MT x_EE cc291 := x_chk_OK x_EE_EO x_EE_KO (g_c (ho_284) (g_c (ho_290) (g_c (ho_289) (g_c (ho_285) (g_n))))) (fun _ _ => g_n) ct291
theorem ho_292 : x_OK p_GT p_MT x_EE cc292 := x_chk_OK x_EE_EO x_EE_KO (g_c (ho_291) (g_n)) (fun _ _ => g_n) ct292
theorem ho_293 : x_OK p_GT p_MT x_EE cc293 := x_chk_OK x_EE_EO x_EE_KO (g_c (ho_281) (g_n)) (fun _ _ => g_n) ct293
theorem ho_294 : x_OK p_GT p_MT x_EE cc294 := x_chk_OK x_EE_EO x_EE_KO (g_c (ho_293) (g_n)) (fun _ _ => g_n) ct294
theorem ho_295 : x_OK p_GT p_MT x_EE cc295 := x_chk_OK x_EE_EO x_EE_KO (g_n) (fun _ _ => g_n) ct295
set_option maxRecDepth 100000 in
theorem ho_296 : x_OK p_GT p_MT x_EE cc296 := x_chk_OK x_EE_EO x_EE_KO (g_n) (fun M' hM => by
  cases (show some m_X12_figure = some M' from hM)
  exact g_c (g_c (hr_partSet1 rfl) (g_c (hr_partSet2 rfl) (g_c (hr_partSet3 rfl) (g_c (hr_partSet4 rfl) (g_c (hr_partSet5 rfl) (g_c (hr_partSet6 rfl) (g_n))))))) (g_n)) ct296
set_option maxRecDepth 100000 in
theorem ho_297 : x_OK p_GT p_MT x_EE cc297 := x_chk_OK x_EE_EO x_EE_KO (g_c (ho_200) (g_c (ho_191) (g_n))) (fun M' hM => by
  cases (show some m_X12_figure = some M' from hM)
  exact g_c (g_c (hr_partSet1 rfl) (g_c (hr_partSet2 rfl) (g_c (hr_partSet3 rfl) (g_c (hr_partSet4 rfl) (g_c (hr_partSet5 rfl) (g_c (hr_partSet6 rfl) (g_n))))))) (g_n)) ct297
theorem ho_298 : x_OK p_GT p_MT x_EE cc298 := x_chk_OK x_EE_EO x_EE_KO (g_c (ho_296) (g_c (ho_297) (g_c (ho_200) (g_n)))) (fun _ _ => g_n) ct298
theorem ho_299 : x_OK p_GT p_MT x_EE cc299 := x_chk_OK x_EE_EO x_EE_KO (g_c (ho_296) (g_c (ho_297) (g_c (ho_200) (g_n)))) (fun _ _ => g_n) ct299
set_option maxRecDepth 100000 in
theorem ho_300 : x_OK p_GT p_MT x_EE cc300 := x_chk_OK x_EE_EO x_EE_KO (g_n) (fun M' hM => by
  cases (show some m_X12_figure = some M' from hM)
  exact g_c (g_c (hr_partSet1 rfl) (g_c (hr_partSet2 rfl) (g_c (hr_partSet3 rfl) (g_c (hr_partSet4 rfl) (g_c (hr_partSet5 rfl) (g_c (hr_partSet6 rfl) (g_n))))))) (g_n)) ct300
set_option maxRecDepth 100000 in
theorem ho_301 : x_OK p_GT p_MT x_EE cc301 := x_chk_OK x_EE_EO x_EE_KO (g_c (ho_200) (g_c (ho_191) (g_n))) (fun M' hM => by
  cases (show some m_X12_figure = some M' from hM)
  exact g_c (g_c (hr_partSet1 rfl) (g_c (hr_partSet2 rfl) (g_c (hr_partSet3 rfl) (g_c (hr_partSet4 rfl) (g_c (hr_partSet5 rfl) (g_c (hr_partSet6 rfl) (g_n))))))) (g_n)) ct301
theorem ho_302 : x_OK p_GT p_MT x_EE cc302 := x_chk_OK x_EE_EO x_EE_KO (g_c (ho_300) (g_c (ho_301) (g_c (ho_200) (g_n)))) (fun _ _ => g_n) ct302
theorem ho_303 : x_OK p_GT p_MT x_EE cc303 := x_chk_OK x_EE_EO x_EE_KO (g_c (ho_300) (g_c (ho_301) (g_c (ho_200) (g_n)))) (fun _ _ => g_n) ct303
set_option maxRecDepth 100000 in
theorem ho_304 : x_OK p_GT p_MT x_EE cc304 := x_chk_OK x_EE_EO x_EE_KO (g_n) (fun M' hM => by
  cases (show some m_X12_figure = some M' from hM)
  exact g_c (g_c (hr_partSet1 rfl) (g_c (hr_partSet2 rfl) (g_c (hr_partSet3 rfl) (g_c (hr_partSet4 rfl) (g_c (hr_partSet5 rfl) (g_c (hr_partSet6 rfl) (g_n))))))) (g_n)) ct304
set_option maxRecDepth 100000 in
theorem ho_305 : x_OK p_GT p_MT x_EE cc305 := x_chk_OK x_EE_EO x_EE_KO (g_c (ho_200) (g_c (ho_191) (g_n))) (fun M' hM => by
  cases (show some m_X12_figure = some M' from hM)
  exact g_c (g_c (hr_partSet1 rfl) (g_c (hr_partSet2 rfl) (g_c (hr_partSet3 rfl) (g_c (hr_partSet4 rfl) (g_c (hr_partSet5 rfl) (g_c (hr_partSet6 rfl) (g_n))))))) (g_n)) ct305
theorem ho_306 : x_OK p_GT p_MT x_EE cc306 := x_chk_OK x_EE_EO x_EE_KO (g_c (ho_304) (g_c (ho_305) (g_c (ho_200) (g_n)))) (fun _ _ => g_n) ct306
theorem ho_307 : x_OK p_GT p_MT x_EE cc307 := x_chk_OK x_EE_EO x_EE_KO (g_c (ho_304) (g_c (ho_305) (g_c (ho_200) (g_n)))) (fun _ _ => g_n) ct307
theorem ho_308 : x_OK p_GT p_MT x_EE cc308 := x_chk_OK x_EE_EO x_EE_KO (g_n) (fun _ _ => g_n) ct308
theorem ho_309 : x_OK p_GT p_MT x_EE cc309 := x_chk_OK x_EE_EO x_EE_KO (g_c (ho_308) (g_n)) (fun _ _ => g_n) ct309
theorem ho_310 : x_OK p_GT p_MT x_EE cc310 := x_chk_OK x_EE_EO x_EE_KO (g_c (ho_309) (g_n)) (fun _ _ => g_n) ct310
theorem ho_311 : x_OK p_GT p_MT x_EE cc311 := x_chk_OK x_EE_EO x_EE_KO (g_c (ho_286) (g_n)) (fun _ _ => g_n) ct311
set_option maxRecDepth 100000 in
theorem ho_312 : x_OK p_GT p_MT x_EE cc312 := x_chk_OK x_EE_EO x_EE_KO (g_n) (fun M' hM => by
  cases (show some m_X12_figure = some M' from hM)
  exact g_c (g_c (hr_partSet1 rfl) (g_c (hr_partSet2 rfl) (g_c (hr_partSet3 rfl) (g_c (hr_partSet4 rfl) (g_c (hr_partSet5 rfl) (g_c (hr_partSet6 rfl) (g_n))))))) (g_n)) ct312
set_option maxRecDepth 100000 in
theorem ho_313 : x_OK p_GT p_MT x_EE cc313 := x_chk_OK x_EE_EO x_EE_KO (g_c (ho_200) (g_c (ho_191) (g_n))) (fun M' hM => by
  cases (show some m_X12_figure = some M' from hM)
  exact g_c (g_c (hr_partSet1 rfl) (g_c (hr_partSet2 rfl) (g_c (hr_partSet3 rfl) (g_c (hr_partSet4 rfl) (g_c (hr_partSet5 rfl) (g_c (hr_partSet6 rfl) (g_n))))))) (g_n)) ct313
theorem ho_314 : x_OK p_GT p_MT x_EE cc314 := x_chk_OK x_EE_EO x_EE_KO (g_c (ho_312) (g_c (ho_313) (g_c (ho_200) (g_c (ho_286) (g_n))))) (fun _ _ => g_n) ct314
theorem ho_315 : x_OK p_GT p_MT x_EE cc315 := x_chk_OK x_EE_EO x_EE_KO (g_c (ho_284) (g_c (ho_298) (g_c (ho_302) (g_c (ho_306) (g_c (ho_299) (g_c (ho_303) (g_c (ho_307) (g_c (ho_290) (g_c (ho_311) (g_c (ho_289) (g_c (ho_314) (g_c (ho_310) (g_c (ho_295) (g_n)))))))))))))) (fun _ _ => g_n) ct315
theorem ho_316 : x_OK p_GT p_MT x_EE cc316 := x_chk_OK x_EE_EO x_EE_KO (g_c (ho_315) (g_n)) (fun _ _ => g_n) ct316
theorem ho_317 : x_OK p_GT p_MT x_EE cc317 := x_chk_OK x_EE_EO x_EE_KO (g_c (ho_281) (g_n)) (fun _ _ => g_n) ct317
theorem ho_318 : x_OK p_GT p_MT x_EE cc318 := x_chk_OK x_EE_EO x_EE_KO (g_c (ho_284) (g_n)) (fun _ _ => g_n) ct318
theorem ho_319 : x_OK p_GT p_MT x_EE cc319 := x_chk_OK x_EE_EO x_EE_KO (g_c (ho_281) (g_n)) (fun _ _ => g_n) ct319
theorem ho_320 : x_OK p_GT p_MT x_EE cc320 := x_chk_OK x_EE_EO x_EE_KO (g_c (ho_284) (g_n)) (fun _ _ => g_n) ct320
theorem ho_321 : x_OK p_GT p_MT x_EE cc321 := x_chk_OK x_EE_EO x_EE_KO (g_c (ho_281) (g_n)) (fun _ _ => g_n) ct321
theorem ho_322 : x_OK p_GT p_MT x_EE cc322 := x_chk_OK x_EE_EO x_EE_KO (g_c (ho_321) (g_n)) (fun _ _ => g_n) ct322
theorem ho_323 : x_OK p_GT p_MT x_EE cc323 := x_chk_OK x_EE_EO x_EE_KO (g_n) (fun _ _ => g_n) ct323
theorem ho_324 : x_OK p_GT p_MT x_EE cc324 := x_chk_OK x_EE_EO x_EE_KO (g_c (ho_284) (g_c (ho_290) (g_c (ho_289) (g_c (ho_323) (g_n))))) (fun _ _ => g_n) ct324
theorem ho_325 : x_OK p_GT p_MT x_EE cc325 := x_chk_OK x_EE_EO x_EE_KO (g_c (ho_324) (g_n)) (fun _ _ => g_n) ct325
theorem ho_326 : x_OK p_GT p_MT x_EE cc326 := x_chk_OK x_EE_EO x_EE_KO (g_c (ho_281) (g_n)) (fun _ _ => g_n) ct326
theorem ho_327 : x_OK p_GT p_MT x_EE cc327 := x_chk_OK x_EE_EO x_EE_KO (g_c (ho_284) (g_n)) (fun _ _ => g_n) ct327
theorem ho_328 : x_OK p_GT p_MT x_EE cc328 := x_chk_OK x_EE_EO x_EE_KO (g_c (ho_281) (g_n)) (fun _ _ => g_n) ct328
theorem ho_329 : x_OK p_GT p_MT x_EE cc329 := x_chk_OK x_EE_EO x_EE_KO (g_c (ho_284) (g_n)) (fun _ _ => g_n) ct329
set_option maxRecDepth 100000 in
theorem ho_330 : x_OK p_GT p_MT x_EE cc330 := x_chk_OK x_EE_EO x_EE_KO (g_c (ho_283) (g_c (ho_294) (g_c (ho_317) (g_c (ho_319) (g_c (ho_322) (g_c (ho_326) (g_c (ho_328) (g_c (ho_292) (g_c (ho_316) (g_c (ho_318) (g_c (ho_320) (g_c (ho_325) (g_c (ho_327) (g_c (ho_329) (g_c (ho_242) (g_c (ho_277) (g_c (ho_279) (g_c (ho_276) (g_c (ho_278) (g_c (ho_280) (g_c (ho_200) (g_c (ho_232) (g_c (ho_233) (g_n)))))))))))))))))))))))) (fun M' hM => by
  cases (show some m_X12_clause = some M' from hM)
  exact g_c (g_c (hr_countRead rfl) (g_n)) (g_c (g_c (hr_sortSet rfl) (g_n)) (g_c (g_c (hr_known7 rfl) (g_n)) (g_c (g_c (hr_counted rfl) (g_c (hr_countedOther rfl) (g_n))) (g_n))))) ct330
set_option maxRecDepth 100000 in
theorem ho_331 : x_OK p_GT p_MT x_EE cc331 := x_chk_OK x_EE_EO x_EE_KO (g_c (ho_330) (g_c (ho_200) (g_n))) (fun M' hM => by
  cases (show some m_X12_readText = some M' from hM)
  exact g_c (g_c (hr_noClause rfl) (g_n)) (g_n)) ct331
theorem ho_332 : x_OK p_GT p_MT x_EE cc332 := x_chk_OK x_EE_EO x_EE_KO (g_c (ho_331) (g_n)) (fun _ _ => g_n) ct332
theorem ho_333 : x_OK p_GT p_MT x_EE cc333 := x_chk_OK x_EE_EO x_EE_KO (g_n) (fun _ _ => g_n) ct333
theorem ho_334 : x_OK p_GT p_MT x_EE cc334 := x_chk_OK x_EE_EO x_EE_KO (g_c (ho_191) (g_n)) (fun _ _ => g_n) ct334
theorem ho_335 : x_OK p_GT p_MT x_EE cc335 := x_chk_OK x_EE_EO x_EE_KO (g_n) (fun _ _ => g_n) ct335
set_option maxRecDepth 100000 in
theorem ho_336 : x_OK p_GT p_MT x_EE cc336 := x_chk_OK x_EE_EO x_EE_KO (g_c (ho_335) (g_n)) (fun M' hM => by
  cases (show some m_X12_keep = some M' from hM)
  exact g_c (g_c (hr_shift rfl rfl) (g_n)) (g_c (g_c (hr_stepSet rfl) (g_n)) (g_n))) ct336
theorem ho_337 : x_OK p_GT p_MT x_EE cc337 := x_chk_OK x_EE_EO x_EE_KO (g_c (ho_ch7) (g_c (ho_336) (g_c (ho_233) (g_c (ho_191) (g_n))))) (fun _ _ => g_n) ct337
theorem ho_338 : x_OK p_GT p_MT x_EE cc338 := x_chk_OK x_EE_EO x_EE_KO (g_c (ho_ch7) (g_c (ho_191) (g_n))) (fun _ _ => g_n) ct338
theorem ho_339 : x_OK p_GT p_MT x_EE cc339 := x_chk_OK x_EE_EO x_EE_KO (g_c (ho_335) (g_n)) (fun _ _ => g_n) ct339
theorem ho_340 : x_OK p_GT p_MT x_EE cc340 := x_chk_OK x_EE_EO x_EE_KO (g_c (ho_338) (g_c (ho_339) (g_c (ho_335) (g_c (ho_191) (g_n))))) (fun _ _ => g_n) ct340
theorem ho_341 : x_OK p_GT p_MT x_EE cc341 := x_chk_OK x_EE_EO x_EE_KO (g_n) (fun _ _ => g_n) ct341
theorem ho_342 : x_OK p_GT p_MT x_EE cc342 := x_chk_OK x_EE_EO x_EE_KO (g_c (ho_335) (g_c (ho_341) (g_n))) (fun _ _ => g_n) ct342
theorem ho_343 : x_OK p_GT p_MT x_EE cc343 := x_chk_OK x_EE_EO x_EE_KO (g_c (ho_340) (g_c (ho_336) (g_c (ho_335) (g_c (ho_342) (g_c (ho_191) (g_n)))))) (fun _ _ => g_n) ct343
theorem ho_344 : x_OK p_GT p_MT x_EE cc344 := x_chk_OK x_EE_EO x_EE_KO (g_c (ho_ch8) (g_n)) (fun _ _ => g_n) ct344
theorem ho_345 : x_OK p_GT p_MT x_EE cc345 := x_chk_OK x_EE_EO x_EE_KO (g_c (ho_ch8) (g_n)) (fun _ _ => g_n) ct345
theorem ho_346 : x_OK p_GT p_MT x_EE cc346 := x_chk_OK x_EE_EO x_EE_KO (g_c (ho_345) (g_n)) (fun _ _ => g_n) ct346
theorem ho_347 : x_OK p_GT p_MT x_EE cc347 := x_chk_OK x_EE_EO x_EE_KO (g_c (ho_344) (g_c (ho_346) (g_n))) (fun _ _ => g_n) ct347
theorem ho_348 : x_OK p_GT p_MT x_EE cc348 := x_chk_OK x_EE_EO x_EE_KO (g_c (ho_344) (g_c (ho_346) (g_n))) (fun _ _ => g_n) ct348
theorem ho_349 : x_OK p_GT p_MT x_EE cc349 := x_chk_OK x_EE_EO x_EE_KO (g_c (ho_347) (g_c (ho_348) (g_c (ho_ch9) (g_c (ho_ch10) (g_n))))) (fun _ _ => g_n) ct349
theorem ho_350 : x_OK p_GT p_MT x_EE cc350 := x_chk_OK x_EE_EO x_EE_KO (g_c (ho_347) (g_c (ho_348) (g_c (ho_349) (g_n)))) (fun _ _ => g_n) ct350
theorem ho_351 : x_OK p_GT p_MT x_EE cc351 := x_chk_OK x_EE_EO x_EE_KO (g_c (ho_350) (g_c (ho_ch11) (g_n))) (fun _ _ => g_n) ct351
theorem ho_352 : x_OK p_GT p_MT x_EE cc352 := x_chk_OK x_EE_EO x_EE_KO (g_c (ho_351) (g_c (ho_335) (g_n))) (fun _ _ => g_n) ct352
theorem ho_353 : x_OK p_GT p_MT x_EE cc353 := x_chk_OK x_EE_EO x_EE_KO (g_n) (fun _ _ => g_n) ct353
theorem ho_354 : x_OK p_GT p_MT x_EE cc354 := x_chk_OK x_EE_EO x_EE_KO (g_n) (fun _ _ => g_n) ct354
theorem ho_355 : x_OK p_GT p_MT x_EE cc355 := x_chk_OK x_EE_EO x_EE_KO (g_c (ho_354) (g_n)) (fun _ _ => g_n) ct355
theorem ho_356 : x_OK p_GT p_MT x_EE cc356 := x_chk_OK x_EE_EO x_EE_KO (g_c (ho_350) (g_c (ho_ch11) (g_n))) (fun _ _ => g_n) ct356
theorem ho_357 : x_OK p_GT p_MT x_EE cc357 := x_chk_OK x_EE_EO x_EE_KO (g_c (ho_ch12) (g_c (ho_ch7) (g_c (ho_352) (g_c (ho_356) (g_c (ho_339) (g_c (ho_335) (g_c (ho_355) (g_c (ho_341) (g_c (ho_353) (g_n)))))))))) (fun _ _ => g_n) ct357
theorem ho_358 : x_OK p_GT p_MT x_EE cc358 := x_chk_OK x_EE_EO x_EE_KO (g_c (ho_357) (g_c (ho_336) (g_n))) (fun _ _ => g_n) ct358
theorem ho_359 : x_OK p_GT p_MT x_EE cc359 := x_chk_OK x_EE_EO x_EE_KO (g_c (ho_358) (g_c (ho_191) (g_n))) (fun _ _ => g_n) ct359
theorem ho_360 : x_OK p_GT p_MT x_EE cc360 := x_chk_OK x_EE_EO x_EE_KO (g_c (ho_335) (g_n)) (fun _ _ => g_n) ct360
theorem ho_361 : x_OK p_GT p_MT x_EE cc361 := x_chk_OK x_EE_EO x_EE_KO (g_c (ho_338) (g_c (ho_339) (g_c (ho_360) (g_n)))) (fun _ _ => g_n) ct361
theorem ho_362 : x_OK p_GT p_MT x_EE cc362 := x_chk_OK x_EE_EO x_EE_KO (g_n) (fun _ _ => g_n) ct362
theorem ho_363 : x_OK p_GT p_MT x_EE cc363 := x_chk_OK x_EE_EO x_EE_KO (g_n) (fun _ _ => g_n) ct363
theorem ho_364 : x_OK p_GT p_MT x_EE cc364 := x_chk_OK x_EE_EO x_EE_KO (g_c (ho_347) (g_c (ho_348) (g_c (ho_ch9) (g_c (ho_ch10) (g_c (ho_362) (g_c (ho_363) (g_n))))))) (fun _ _ => g_n) ct364
theorem ho_365 : x_OK p_GT p_MT x_EE cc365 := x_chk_OK x_EE_EO x_EE_KO (g_c (ho_364) (g_n)) (fun _ _ => g_n) ct365
theorem ho_366 : x_OK p_GT p_MT x_EE cc366 := x_chk_OK x_EE_EO x_EE_KO (g_n) (fun _ _ => g_n) ct366
theorem ho_367 : x_OK p_GT p_MT x_EE cc367 := x_chk_OK x_EE_EO x_EE_KO (g_c (ho_364) (g_c (ho_362) (g_c (ho_366) (g_n)))) (fun _ _ => g_n) ct367
theorem ho_368 : x_OK p_GT p_MT x_EE cc368 := x_chk_OK x_EE_EO x_EE_KO (g_c (ho_365) (g_c (ho_367) (g_c (ho_350) (g_c (ho_335) (g_c (ho_ch11) (g_c (ho_366) (g_n))))))) (fun _ _ => g_n) ct368
theorem ho_369 : x_OK p_GT p_MT x_EE cc369 := x_chk_OK x_EE_EO x_EE_KO (g_c (ho_368) (g_c (ho_335) (g_c (ho_341) (g_c (ho_353) (g_n))))) (fun _ _ => g_n) ct369
theorem ho_370 : x_OK p_GT p_MT x_EE cc370 := x_chk_OK x_EE_EO x_EE_KO (g_c (ho_369) (g_c (ho_361) (g_c (ho_336) (g_n)))) (fun _ _ => g_n) ct370
theorem ho_371 : x_OK p_GT p_MT x_EE cc371 := x_chk_OK x_EE_EO x_EE_KO (g_c (ho_358) (g_c (ho_370) (g_c (ho_337) (g_c (ho_343) (g_c (ho_193) (g_c (ho_192) (g_n))))))) (fun _ _ => g_n) ct371
theorem ho_372 : x_OK p_GT p_MT x_EE cc372 := x_chk_OK x_EE_EO x_EE_KO (g_c (ho_371) (g_c (ho_191) (g_n))) (fun _ _ => g_n) ct372
theorem ho_373 : x_OK p_GT p_MT x_EE cc373 := x_chk_OK x_EE_EO x_EE_KO (g_c (ho_ch7) (g_c (ho_357) (g_c (ho_369) (g_c (ho_361) (g_c (ho_340) (g_c (ho_342) (g_n))))))) (fun _ _ => g_n) ct373
theorem ho_374 : x_OK p_GT p_MT x_EE cc374 := x_chk_OK x_EE_EO x_EE_KO (g_c (ho_373) (g_c (ho_336) (g_c (ho_354) (g_c (ho_191) (g_n))))) (fun _ _ => g_n) ct374
theorem ho_375 : x_OK p_GT p_MT x_EE cc375 := x_chk_OK x_EE_EO x_EE_KO (g_c (ho_341) (g_n)) (fun _ _ => g_n) ct375
theorem ho_376 : x_OK p_GT p_MT x_EE cc376 := x_chk_OK x_EE_EO x_EE_KO (g_c (ho_347) (g_c (ho_348) (g_c (ho_ch9) (g_c (ho_ch10) (g_c (ho_349) (g_c (ho_352) (g_c (ho_365) (g_c (ho_368) (g_c (ho_338) (g_c (ho_335) (g_n))))))))))) (fun _ _ => g_n) ct376
theorem ho_377 : x_OK p_GT p_MT x_EE cc377 := x_chk_OK x_EE_EO x_EE_KO (g_c (ho_344) (g_c (ho_345) (g_c (ho_191) (g_n)))) (fun _ _ => g_n) ct377
theorem ho_378 : x_OK p_GT p_MT x_EE cc378 := x_chk_OK x_EE_EO x_EE_KO (g_c (ho_191) (g_n)) (fun _ _ => g_n) ct378
theorem ho_379 : x_OK p_GT p_MT x_EE cc379 := x_chk_OK x_EE_EO x_EE_KO (g_n) (fun _ _ => g_n) ct379
theorem ho_380 : x_OK p_GT p_MT x_EE cc380 := x_chk_OK x_EE_EO x_EE_KO (g_c (ho_362) (g_c (ho_379) (g_n))) (fun _ _ => g_n) ct380
theorem ho_381 : x_OK p_GT p_MT x_EE cc381 := x_chk_OK x_EE_EO x_EE_KO (g_c (ho_ch7) (g_c (ho_364) (g_c (ho_362) (g_c (ho_335) (g_n))))) (fun _ _ => g_n) ct381
theorem ho_382 : x_OK p_GT p_MT x_EE cc382 := x_chk_OK x_EE_EO x_EE_KO (g_c (ho_381) (g_c (ho_362) (g_c (ho_378) (g_c (ho_380) (g_c (ho_191) (g_n)))))) (fun _ _ => g_n) ct382
theorem ho_383 : x_OK p_GT p_MT x_EE cc383 := x_chk_OK x_EE_EO x_EE_KO (g_c (ho_ch7) (g_c (ho_191) (g_n))) (fun _ _ => g_n) ct383
theorem ho_384 : x_OK p_GT p_MT x_EE cc384 := x_chk_OK x_EE_EO x_EE_KO (g_c (ho_380) (g_n)) (fun _ _ => g_n) ct384
theorem ho_385 : x_OK p_GT p_MT x_EE cc385 := x_chk_OK x_EE_EO x_EE_KO (g_c (ho_384) (g_n)) (fun _ _ => g_n) ct385
theorem ho_386 : x_OK p_GT p_MT x_EE cc386 := x_chk_OK x_EE_EO x_EE_KO (g_c (ho_ch8) (g_c (ho_346) (g_n))) (fun _ _ => g_n) ct386
set_option maxRecDepth 100000 in
theorem ho_387 : x_OK p_GT p_MT x_EE cc387 := x_chk_OK x_EE_EO x_EE_KO (g_c (ho_384) (g_c (ho_ch8) (g_c (ho_386) (g_c (ho_191) (g_n))))) (fun M' hM => by
  cases (show some m_X12_sawing = some M' from hM)
  exact g_c (g_c (hr_shl1 rfl) (g_n)) (g_c (g_c (hr_shl1 rfl) (g_n)) (g_n))) ct387
set_option maxRecDepth 100000 in
theorem ho_388 : x_OK p_GT p_MT x_EE cc388 := x_chk_OK x_EE_EO x_EE_KO (g_n) (fun M' hM => by
  cases (show some m_X12_begin = some M' from hM)
  exact g_c (g_c (hr_asideSet rfl rfl) (g_n)) (g_n)) ct388
theorem ho_389 : x_OK p_GT p_MT x_EE cc389 := x_chk_OK x_EE_EO x_EE_KO (g_c (ho_357) (g_n)) (fun _ _ => g_n) ct389
theorem ho_390 : x_OK p_GT p_MT x_EE cc390 := x_chk_OK x_EE_EO x_EE_KO (g_c (ho_381) (g_n)) (fun _ _ => g_n) ct390
set_option maxRecDepth 100000 in
theorem ho_391 : x_OK p_GT p_MT x_EE cc391 := x_chk_OK x_EE_EO x_EE_KO (g_n) (fun M' hM => by
  cases (show some m_X12_putBack = some M' from hM)
  exact g_c (g_c (hr_asideBack rfl rfl) (g_n)) (g_n)) ct391
theorem ho_392 : x_OK p_GT p_MT x_EE cc392 := x_chk_OK x_EE_EO x_EE_KO (g_c (ho_389) (g_c (ho_390) (g_c (ho_338) (g_c (ho_388) (g_c (ho_391) (g_c (ho_335) (g_c (ho_191) (g_n)))))))) (fun _ _ => g_n) ct392
theorem ho_393 : x_OK p_GT p_MT x_EE cc393 := x_chk_OK x_EE_EO x_EE_KO (g_c (ho_389) (g_c (ho_381) (g_c (ho_388) (g_c (ho_391) (g_c (ho_378) (g_n)))))) (fun _ _ => g_n) ct393
set_option maxRecDepth 100000 in
theorem ho_394 : x_OK p_GT p_MT x_EE cc394 := x_chk_OK x_EE_EO x_EE_KO (g_c (ho_ch12) (g_c (ho_ch7) (g_c (ho_368) (g_c (ho_361) (g_n))))) (fun M' hM => by
  cases (show some m_X12_dearest = some M' from hM)
  exact g_c (g_c (hr_takenCount rfl) (g_n)) (g_c (g_c (hr_takenRead2 rfl) (g_n)) (g_c (g_c (hr_takenSet rfl) (g_n)) (g_n)))) ct394
theorem ho_395 : x_OK p_GT p_MT x_EE cc395 := x_chk_OK x_EE_EO x_EE_KO (g_c (ho_365) (g_c (ho_338) (g_c (ho_362) (g_c (ho_233) (g_n))))) (fun _ _ => g_n) ct395
theorem ho_396 : x_OK p_GT p_MT x_EE cc396 := x_chk_OK x_EE_EO x_EE_KO (g_c (ho_ch7) (g_c (ho_347) (g_c (ho_348) (g_c (ho_339) (g_n))))) (fun _ _ => g_n) ct396
theorem ho_397 : x_OK p_GT p_MT x_EE cc397 := x_chk_OK x_EE_EO x_EE_KO (g_c (ho_ch7) (g_c (ho_360) (g_n))) (fun _ _ => g_n) ct397
theorem ho_398 : x_OK p_GT p_MT x_EE cc398 := x_chk_OK x_EE_EO x_EE_KO (g_c (ho_ch7) (g_c (ho_335) (g_n))) (fun _ _ => g_n) ct398
theorem ho_399 : x_OK p_GT p_MT x_EE cc399 := x_chk_OK x_EE_EO x_EE_KO (g_n) (fun _ _ => g_n) ct399
theorem ho_400 : x_OK p_GT p_MT x_EE cc400 := x_chk_OK x_EE_EO x_EE_KO (g_c (ho_356) (g_c (ho_351) (g_c (ho_335) (g_c (ho_353) (g_n))))) (fun _ _ => g_n) ct400
theorem ho_401 : x_OK p_GT p_MT x_EE cc401 := x_chk_OK x_EE_EO x_EE_KO (g_c (ho_400) (g_c (ho_399) (g_n))) (fun _ _ => g_n) ct401
theorem ho_402 : x_OK p_GT p_MT x_EE cc402 := x_chk_OK x_EE_EO x_EE_KO (g_n) (fun _ _ => g_n) ct402
theorem ho_403 : x_OK p_GT p_MT x_EE cc403 := x_chk_OK x_EE_EO x_EE_KO (g_c (ho_402) (g_n)) (fun _ _ => g_n) ct403
theorem ho_404 : x_OK p_GT p_MT x_EE cc404 := x_chk_OK x_EE_EO x_EE_KO (g_c (ho_401) (g_c (ho_338) (g_c (ho_399) (g_c (ho_403) (g_c (ho_191) (g_n)))))) (fun _ _ => g_n) ct404
theorem ho_405 : x_OK p_GT p_MT x_EE cc405 := x_chk_OK x_EE_EO x_EE_KO (g_c (ho_ch7) (g_c (ho_401) (g_c (ho_361) (g_c (ho_191) (g_n))))) (fun _ _ => g_n) ct405
theorem ho_406 : x_OK p_GT p_MT x_EE cc406 := x_chk_OK x_EE_EO x_EE_KO (g_c (ho_191) (g_n)) (fun _ _ => g_n) ct406
theorem ho_407 : x_OK p_GT p_MT x_EE cc407 := x_chk_OK x_EE_EO x_EE_KO (g_c (ho_ch13) (g_c (ho_364) (g_c (ho_362) (g_c (ho_339) (g_c (ho_335) (g_n)))))) (fun _ _ => g_n) ct407
theorem ho_408 : x_OK p_GT p_MT x_EE cc408 := x_chk_OK x_EE_EO x_EE_KO (g_c (ho_ch7) (g_c (ho_389) (g_c (ho_407) (g_c (ho_388) (g_c (ho_391) (g_n)))))) (fun _ _ => g_n) ct408
theorem ho_409 : x_OK p_GT p_MT x_EE cc409 := x_chk_OK x_EE_EO x_EE_KO (g_c (ho_ch7) (g_c (ho_233) (g_n))) (fun _ _ => g_n) ct409
theorem ho_410 : x_OK p_GT p_MT x_EE cc410 := x_chk_OK x_EE_EO x_EE_KO (g_c (ho_ch7) (g_c (ho_409) (g_n))) (fun _ _ => g_n) ct410
theorem ho_411 : x_OK p_GT p_MT x_EE cc411 := x_chk_OK x_EE_EO x_EE_KO (g_c (ho_408) (g_c (ho_409) (g_c (ho_410) (g_c (ho_191) (g_n))))) (fun _ _ => g_n) ct411
theorem ho_412 : x_OK p_GT p_MT x_EE cc412 := x_chk_OK x_EE_EO x_EE_KO (g_c (ho_191) (g_n)) (fun _ _ => g_n) ct412
theorem ho_413 : x_OK p_GT p_MT x_EE cc413 := x_chk_OK x_EE_EO x_EE_KO (g_c (ho_191) (g_n)) (fun _ _ => g_n) ct413
theorem ho_414 : x_OK p_GT p_MT x_EE cc414 := x_chk_OK x_EE_EO x_EE_KO (g_c (ho_191) (g_n)) (fun _ _ => g_n) ct414
theorem ho_415 : x_OK p_GT p_MT x_EE cc415 := x_chk_OK x_EE_EO x_EE_KO (g_n) (fun _ _ => g_n) ct415
theorem ho_416 : x_OK p_GT p_MT x_EE cc416 := x_chk_OK x_EE_EO x_EE_KO (g_c (ho_415) (g_n)) (fun _ _ => g_n) ct416
theorem ho_417 : x_OK p_GT p_MT x_EE cc417 := x_chk_OK x_EE_EO x_EE_KO (g_c (ho_415) (g_c (ho_416) (g_c (ho_191) (g_n)))) (fun _ _ => g_n) ct417
theorem ho_418 : x_OK p_GT p_MT x_EE cc418 := x_chk_OK x_EE_EO x_EE_KO (g_c (ho_415) (g_c (ho_416) (g_c (ho_191) (g_n)))) (fun _ _ => g_n) ct418
theorem ho_419 : x_OK p_GT p_MT x_EE cc419 := x_chk_OK x_EE_EO x_EE_KO (g_c (ho_ch13) (g_c (ho_364) (g_c (ho_338) (g_c (ho_378) (g_c (ho_403) (g_n)))))) (fun _ _ => g_n) ct419
theorem ho_420 : x_OK p_GT p_MT x_EE cc420 := x_chk_OK x_EE_EO x_EE_KO (g_c (ho_ch7) (g_c (ho_381) (g_c (ho_368) (g_c (ho_364) (g_c (ho_362) (g_c (ho_339) (g_c (ho_191) (g_n)))))))) (fun _ _ => g_n) ct420
theorem ho_421 : x_OK p_GT p_MT x_EE cc421 := x_chk_OK x_EE_EO x_EE_KO (g_c (ho_191) (g_n)) (fun _ _ => g_n) ct421
theorem ho_422 : x_OK p_GT p_MT x_EE cc422 := x_chk_OK x_EE_EO x_EE_KO (g_c (ho_403) (g_c (ho_191) (g_n))) (fun _ _ => g_n) ct422
theorem ho_423 : x_OK p_GT p_MT x_EE cc423 := x_chk_OK x_EE_EO x_EE_KO (g_c (ho_ch7) (g_c (ho_368) (g_c (ho_339) (g_c (ho_191) (g_n))))) (fun _ _ => g_n) ct423
theorem ho_424 : x_OK p_GT p_MT x_EE cc424 := x_chk_OK x_EE_EO x_EE_KO (g_c (ho_ch7) (g_c (ho_389) (g_c (ho_368) (g_c (ho_361) (g_n))))) (fun _ _ => g_n) ct424
theorem ho_425 : x_OK p_GT p_MT x_EE cc425 := x_chk_OK x_EE_EO x_EE_KO (g_c (ho_ch7) (g_c (ho_424) (g_c (ho_388) (g_c (ho_391) (g_c (ho_339) (g_c (ho_335) (g_c (ho_341) (g_c (ho_191) (g_c (ho_353) (g_n)))))))))) (fun _ _ => g_n) ct425
theorem ho_426 : x_OK p_GT p_MT x_EE cc426 := x_chk_OK x_EE_EO x_EE_KO (g_c (ho_338) (g_c (ho_191) (g_n))) (fun _ _ => g_n) ct426
theorem ho_427 : x_OK p_GT p_MT x_EE cc427 := x_chk_OK x_EE_EO x_EE_KO (g_c (ho_338) (g_c (ho_351) (g_c (ho_335) (g_n)))) (fun _ _ => g_n) ct427
theorem ho_428 : x_OK p_GT p_MT x_EE cc428 := x_chk_OK x_EE_EO x_EE_KO (g_c (ho_427) (g_n)) (fun _ _ => g_n) ct428
theorem ho_429 : x_OK p_GT p_MT x_EE cc429 := x_chk_OK x_EE_EO x_EE_KO (g_c (ho_ch14) (g_n)) (fun _ _ => g_n) ct429
theorem ho_430 : x_OK p_GT p_MT x_EE cc430 := x_chk_OK x_EE_EO x_EE_KO (g_c (ho_ch15) (g_n)) (fun _ _ => g_n) ct430
theorem ho_431 : x_OK p_GT p_MT x_EE cc431 := x_chk_OK x_EE_EO x_EE_KO (g_n) (fun _ _ => g_n) ct431
theorem ho_432 : x_OK p_GT p_MT x_EE cc432 := x_chk_OK x_EE_EO x_EE_KO (g_n) (fun _ _ => g_n) ct432
theorem ho_433 : x_OK p_GT p_MT x_EE cc433 := x_chk_OK x_EE_EO x_EE_KO (g_n) (fun _ _ => g_n) ct433
theorem ho_434 : x_OK p_GT p_MT x_EE cc434 := x_chk_OK x_EE_EO x_EE_KO (g_n) (fun _ _ => g_n) ct434
theorem ho_435 : x_OK p_GT p_MT x_EE cc435 := x_chk_OK x_EE_EO x_EE_KO (g_c (ho_434) (g_c (ho_432) (g_c (ho_433) (g_c (ho_15) (g_n))))) (fun _ _ => g_n) ct435
theorem ho_436 : x_OK p_GT p_MT x_EE cc436 := x_chk_OK x_EE_EO x_EE_KO (g_n) (fun _ _ => g_n) ct436
theorem ho_437 : x_OK p_GT p_MT x_EE cc437 := x_chk_OK x_EE_EO x_EE_KO (g_c (ho_0) (g_n)) (fun _ _ => g_n) ct437
theorem ho_438 : x_OK p_GT p_MT x_EE cc438 := x_chk_OK x_EE_EO x_EE_KO (g_n) (fun _ _ => g_n) ct438
theorem ho_439 : x_OK p_GT p_MT x_EE cc439 := x_chk_OK x_EE_EO x_EE_KO (g_n) (fun _ _ => g_n) ct439
theorem ho_440 : x_OK p_GT p_MT x_EE cc440 := x_chk_OK x_EE_EO x_EE_KO (g_n) (fun _ _ => g_n) ct440
theorem ho_441 : x_OK p_GT p_MT x_EE cc441 := x_chk_OK x_EE_EO x_EE_KO (g_c (ho_436) (g_n)) (fun _ _ => g_n) ct441
theorem ho_442 : x_OK p_GT p_MT x_EE cc442 := x_chk_OK x_EE_EO x_EE_KO (g_n) (fun _ _ => g_n) ct442
theorem ho_443 : x_OK p_GT p_MT x_EE cc443 := x_chk_OK x_EE_EO x_EE_KO (g_n) (fun _ _ => g_n) ct443
theorem ho_444 : x_OK p_GT p_MT x_EE cc444 := x_chk_OK x_EE_EO x_EE_KO (g_n) (fun _ _ => g_n) ct444
theorem ho_445 : x_OK p_GT p_MT x_EE cc445 := x_chk_OK x_EE_EO x_EE_KO (g_n) (fun _ _ => g_n) ct445
theorem ho_446 : x_OK p_GT p_MT x_EE cc446 := x_chk_OK x_EE_EO x_EE_KO (g_n) (fun _ _ => g_n) ct446
theorem ho_447 : x_OK p_GT p_MT x_EE cc447 := x_chk_OK x_EE_EO x_EE_KO (g_n) (fun _ _ => g_n) ct447
theorem ho_448 : x_OK p_GT p_MT x_EE cc448 := x_chk_OK x_EE_EO x_EE_KO (g_n) (fun _ _ => g_n) ct448
theorem ho_449 : x_OK p_GT p_MT x_EE cc449 := x_chk_OK x_EE_EO x_EE_KO (g_n) (fun _ _ => g_n) ct449
theorem ho_450 : x_OK p_GT p_MT x_EE cc450 := x_chk_OK x_EE_EO x_EE_KO (g_n) (fun _ _ => g_n) ct450
theorem ho_451 : x_OK p_GT p_MT x_EE cc451 := x_chk_OK x_EE_EO x_EE_KO (g_n) (fun _ _ => g_n) ct451
theorem ho_452 : x_OK p_GT p_MT x_EE cc452 := x_chk_OK x_EE_EO x_EE_KO (g_n) (fun _ _ => g_n) ct452
theorem ho_453 : x_OK p_GT p_MT x_EE cc453 := x_chk_OK x_EE_EO x_EE_KO (g_n) (fun _ _ => g_n) ct453
theorem ho_454 : x_OK p_GT p_MT x_EE cc454 := x_chk_OK x_EE_EO x_EE_KO (g_n) (fun _ _ => g_n) ct454
theorem ho_455 : x_OK p_GT p_MT x_EE cc455 := x_chk_OK x_EE_EO x_EE_KO (g_n) (fun _ _ => g_n) ct455
theorem ho_456 : x_OK p_GT p_MT x_EE cc456 := x_chk_OK x_EE_EO x_EE_KO (g_n) (fun _ _ => g_n) ct456
theorem ho_457 : x_OK p_GT p_MT x_EE cc457 := x_chk_OK x_EE_EO x_EE_KO (g_n) (fun _ _ => g_n) ct457
theorem ho_458 : x_OK p_GT p_MT x_EE cc458 := x_chk_OK x_EE_EO x_EE_KO (g_n) (fun _ _ => g_n) ct458
theorem ho_459 : x_OK p_GT p_MT x_EE cc459 := x_chk_OK x_EE_EO x_EE_KO (g_n) (fun _ _ => g_n) ct459
theorem ho_460 : x_OK p_GT p_MT x_EE cc460 := x_chk_OK x_EE_EO x_EE_KO (g_n) (fun _ _ => g_n) ct460
theorem ho_461 : x_OK p_GT p_MT x_EE cc461 := x_chk_OK x_EE_EO x_EE_KO (g_n) (fun _ _ => g_n) ct461
theorem ho_462 : x_OK p_GT p_MT x_EE cc462 := x_chk_OK x_EE_EO x_EE_KO (g_n) (fun _ _ => g_n) ct462
theorem ho_463 : x_OK p_GT p_MT x_EE cc463 := x_chk_OK x_EE_EO x_EE_KO (g_n) (fun _ _ => g_n) ct463
theorem ho_464 : x_OK p_GT p_MT x_EE cc464 := x_chk_OK x_EE_EO x_EE_KO (g_n) (fun _ _ => g_n) ct464
theorem ho_465 : x_OK p_GT p_MT x_EE cc465 := x_chk_OK x_EE_EO x_EE_KO (g_n) (fun _ _ => g_n) ct465
theorem ho_466 : x_OK p_GT p_MT x_EE cc466 := x_chk_OK x_EE_EO x_EE_KO (g_n) (fun _ _ => g_n) ct466
theorem ho_467 : x_OK p_GT p_MT x_EE cc467 := x_chk_OK x_EE_EO x_EE_KO (g_n) (fun _ _ => g_n) ct467
theorem ho_468 : x_OK p_GT p_MT x_EE cc468 := x_chk_OK x_EE_EO x_EE_KO (g_n) (fun _ _ => g_n) ct468
theorem ho_469 : x_OK p_GT p_MT x_EE cc469 := x_chk_OK x_EE_EO x_EE_KO (g_c (ho_435) (g_c (ho_465) (g_c (ho_466) (g_c (ho_467) (g_c (ho_468) (g_c (ho_436) (g_c (ho_438) (g_c (ho_439) (g_c (ho_441) (g_c (ho_0) (g_n))))))))))) (fun _ _ => g_n) ct469
theorem ho_470 : x_OK p_GT p_MT x_EE cc470 := x_chk_OK x_EE_EO x_EE_KO (g_c (ho_469) (g_c (ho_435) (g_c (ho_438) (g_c (ho_441) (g_n))))) (fun _ _ => g_n) ct470
theorem ho_471 : x_OK p_GT p_MT x_EE cc471 := x_chk_OK x_EE_EO x_EE_KO (g_c (ho_470) (g_c (ho_435) (g_c (ho_438) (g_c (ho_441) (g_n))))) (fun _ _ => g_n) ct471
theorem ho_472 : x_OK p_GT p_MT x_EE cc472 := x_chk_OK x_EE_EO x_EE_KO (g_c (ho_435) (g_c (ho_436) (g_c (ho_438) (g_n)))) (fun _ _ => g_n) ct472
theorem ho_473 : x_OK p_GT p_MT x_EE cc473 := x_chk_OK x_EE_EO x_EE_KO (g_c (ho_435) (g_c (ho_436) (g_c (ho_439) (g_n)))) (fun _ _ => g_n) ct473
theorem ho_474 : x_OK p_GT p_MT x_EE cc474 := x_chk_OK x_EE_EO x_EE_KO (g_c (ho_0) (g_n)) (fun _ _ => g_n) ct474
theorem ho_475 : x_OK p_GT p_MT x_EE cc475 := x_chk_OK x_EE_EO x_EE_KO (g_c (ho_474) (g_c (ho_0) (g_n))) (fun _ _ => g_n) ct475
theorem ho_476 : x_OK p_GT p_MT x_EE cc476 := x_chk_OK x_EE_EO x_EE_KO (g_c (ho_469) (g_c (ho_471) (g_c (ho_435) (g_c (ho_472) (g_c (ho_473) (g_c (ho_438) (g_c (ho_475) (g_c (ho_441) (g_c (ho_474) (g_n)))))))))) (fun _ _ => g_n) ct476
theorem ho_477 : x_OK p_GT p_MT x_EE cc477 := x_chk_OK x_EE_EO x_EE_KO (g_n) (fun _ _ => g_n) ct477
theorem ho_478 : x_OK p_GT p_MT x_EE cc478 := x_chk_OK x_EE_EO x_EE_KO (g_c (ho_469) (g_c (ho_471) (g_c (ho_476) (g_c (ho_435) (g_c (ho_472) (g_c (ho_462) (g_c (ho_463) (g_c (ho_464) (g_c (ho_477) (g_c (ho_436) (g_c (ho_438) (g_c (ho_439) (g_c (ho_441) (g_c (ho_0) (g_n))))))))))))))) (fun _ _ => g_n) ct478
theorem ho_479 : x_OK p_GT p_MT x_EE cc479 := x_chk_OK x_EE_EO x_EE_KO (g_c (ho_478) (g_c (ho_435) (g_c (ho_438) (g_c (ho_441) (g_n))))) (fun _ _ => g_n) ct479
theorem ho_480 : x_OK p_GT p_MT x_EE cc480 := x_chk_OK x_EE_EO x_EE_KO (g_c (ho_479) (g_c (ho_435) (g_c (ho_438) (g_c (ho_441) (g_n))))) (fun _ _ => g_n) ct480
theorem ho_481 : x_OK p_GT p_MT x_EE cc481 := x_chk_OK x_EE_EO x_EE_KO (g_c (ho_478) (g_c (ho_480) (g_c (ho_435) (g_c (ho_472) (g_c (ho_473) (g_c (ho_438) (g_c (ho_475) (g_c (ho_441) (g_c (ho_474) (g_n)))))))))) (fun _ _ => g_n) ct481
theorem ho_482 : x_OK p_GT p_MT x_EE cc482 := x_chk_OK x_EE_EO x_EE_KO (g_n) (fun _ _ => g_n) ct482
theorem ho_483 : x_OK p_GT p_MT x_EE cc483 := x_chk_OK x_EE_EO x_EE_KO (g_c (ho_478) (g_c (ho_480) (g_c (ho_481) (g_c (ho_435) (g_c (ho_472) (g_c (ho_459) (g_c (ho_460) (g_c (ho_461) (g_c (ho_482) (g_c (ho_436) (g_c (ho_438) (g_c (ho_439) (g_c (ho_441) (g_c (ho_0) (g_n))))))))))))))) (fun _ _ => g_n) ct483
theorem ho_484 : x_OK p_GT p_MT x_EE cc484 := x_chk_OK x_EE_EO x_EE_KO (g_c (ho_483) (g_c (ho_435) (g_c (ho_438) (g_c (ho_441) (g_n))))) (fun _ _ => g_n) ct484
theorem ho_485 : x_OK p_GT p_MT x_EE cc485 := x_chk_OK x_EE_EO x_EE_KO (g_c (ho_484) (g_c (ho_435) (g_c (ho_438) (g_c (ho_441) (g_n))))) (fun _ _ => g_n) ct485
theorem ho_486 : x_OK p_GT p_MT x_EE cc486 := x_chk_OK x_EE_EO x_EE_KO (g_c (ho_483) (g_c (ho_485) (g_c (ho_435) (g_c (ho_472) (g_c (ho_473) (g_c (ho_438) (g_c (ho_475) (g_c (ho_441) (g_c (ho_474) (g_n)))))))))) (fun _ _ => g_n) ct486
theorem ho_487 : x_OK p_GT p_MT x_EE cc487 := x_chk_OK x_EE_EO x_EE_KO (g_n) (fun _ _ => g_n) ct487
theorem ho_488 : x_OK p_GT p_MT x_EE cc488 := x_chk_OK x_EE_EO x_EE_KO (g_c (ho_483) (g_c (ho_485) (g_c (ho_486) (g_c (ho_435) (g_c (ho_472) (g_c (ho_456) (g_c (ho_457) (g_c (ho_458) (g_c (ho_487) (g_c (ho_436) (g_c (ho_438) (g_c (ho_439) (g_c (ho_441) (g_c (ho_0) (g_n))))))))))))))) (fun _ _ => g_n) ct488
theorem ho_489 : x_OK p_GT p_MT x_EE cc489 := x_chk_OK x_EE_EO x_EE_KO (g_c (ho_488) (g_c (ho_435) (g_c (ho_438) (g_c (ho_441) (g_n))))) (fun _ _ => g_n) ct489
theorem ho_490 : x_OK p_GT p_MT x_EE cc490 := x_chk_OK x_EE_EO x_EE_KO (g_c (ho_489) (g_c (ho_435) (g_c (ho_438) (g_c (ho_441) (g_n))))) (fun _ _ => g_n) ct490
theorem ho_491 : x_OK p_GT p_MT x_EE cc491 := x_chk_OK x_EE_EO x_EE_KO (g_c (ho_488) (g_c (ho_490) (g_c (ho_435) (g_c (ho_472) (g_c (ho_473) (g_c (ho_438) (g_c (ho_475) (g_c (ho_441) (g_c (ho_474) (g_n)))))))))) (fun _ _ => g_n) ct491
theorem ho_492 : x_OK p_GT p_MT x_EE cc492 := x_chk_OK x_EE_EO x_EE_KO (g_n) (fun _ _ => g_n) ct492
theorem ho_493 : x_OK p_GT p_MT x_EE cc493 := x_chk_OK x_EE_EO x_EE_KO (g_c (ho_488) (g_c (ho_490) (g_c (ho_491) (g_c (ho_435) (g_c (ho_472) (g_c (ho_453) (g_c (ho_454) (g_c (ho_455) (g_c (ho_492) (g_c (ho_436) (g_c (ho_438) (g_c (ho_439) (g_c (ho_441) (g_c (ho_0) (g_n))))))))))))))) (fun _ _ => g_n) ct493
theorem ho_494 : x_OK p_GT p_MT x_EE cc494 := x_chk_OK x_EE_EO x_EE_KO (g_c (ho_493) (g_c (ho_435) (g_c (ho_438) (g_c (ho_441) (g_n))))) (fun _ _ => g_n) ct494
theorem ho_495 : x_OK p_GT p_MT x_EE cc495 := x_chk_OK x_EE_EO x_EE_KO (g_c (ho_494) (g_c (ho_435) (g_c (ho_438) (g_c (ho_441) (g_n))))) (fun _ _ => g_n) ct495
theorem ho_496 : x_OK p_GT p_MT x_EE cc496 := x_chk_OK x_EE_EO x_EE_KO (g_c (ho_493) (g_c (ho_495) (g_c (ho_435) (g_c (ho_472) (g_c (ho_473) (g_c (ho_438) (g_c (ho_475) (g_c (ho_441) (g_c (ho_474) (g_n)))))))))) (fun _ _ => g_n) ct496
theorem ho_497 : x_OK p_GT p_MT x_EE cc497 := x_chk_OK x_EE_EO x_EE_KO (g_n) (fun _ _ => g_n) ct497
theorem ho_498 : x_OK p_GT p_MT x_EE cc498 := x_chk_OK x_EE_EO x_EE_KO (g_c (ho_493) (g_c (ho_495) (g_c (ho_496) (g_c (ho_435) (g_c (ho_472) (g_c (ho_450) (g_c (ho_451) (g_c (ho_452) (g_c (ho_497) (g_c (ho_436) (g_c (ho_438) (g_c (ho_439) (g_c (ho_441) (g_c (ho_0) (g_n))))))))))))))) (fun _ _ => g_n) ct498
theorem ho_499 : x_OK p_GT p_MT x_EE cc499 := x_chk_OK x_EE_EO x_EE_KO (g_c (ho_498) (g_c (ho_435) (g_c (ho_438) (g_c (ho_441) (g_n))))) (fun _ _ => g_n) ct499
theorem ho_500 : x_OK p_GT p_MT x_EE cc500 := x_chk_OK x_EE_EO x_EE_KO (g_c (ho_499) (g_c (ho_435) (g_c (ho_438) (g_c (ho_441) (g_n))))) (fun _ _ => g_n) ct500
theorem ho_501 : x_OK p_GT p_MT x_EE cc501 := x_chk_OK x_EE_EO x_EE_KO (g_c (ho_498) (g_c (ho_500) (g_c (ho_435) (g_c (ho_472) (g_c (ho_473) (g_c (ho_438) (g_c (ho_475) (g_c (ho_441) (g_c (ho_474) (g_n)))))))))) (fun _ _ => g_n) ct501
theorem ho_502 : x_OK p_GT p_MT x_EE cc502 := x_chk_OK x_EE_EO x_EE_KO (g_n) (fun _ _ => g_n) ct502
theorem ho_503 : x_OK p_GT p_MT x_EE cc503 := x_chk_OK x_EE_EO x_EE_KO (g_c (ho_498) (g_c (ho_500) (g_c (ho_501) (g_c (ho_435) (g_c (ho_472) (g_c (ho_447) (g_c (ho_448) (g_c (ho_449) (g_c (ho_502) (g_c (ho_436) (g_c (ho_438) (g_c (ho_439) (g_c (ho_441) (g_c (ho_0) (g_n))))))))))))))) (fun _ _ => g_n) ct503
theorem ho_504 : x_OK p_GT p_MT x_EE cc504 := x_chk_OK x_EE_EO x_EE_KO (g_c (ho_503) (g_c (ho_435) (g_c (ho_438) (g_c (ho_441) (g_n))))) (fun _ _ => g_n) ct504
theorem ho_505 : x_OK p_GT p_MT x_EE cc505 := x_chk_OK x_EE_EO x_EE_KO (g_c (ho_504) (g_c (ho_435) (g_c (ho_438) (g_c (ho_441) (g_n))))) (fun _ _ => g_n) ct505
theorem ho_506 : x_OK p_GT p_MT x_EE cc506 := x_chk_OK x_EE_EO x_EE_KO (g_c (ho_503) (g_c (ho_505) (g_c (ho_435) (g_c (ho_472) (g_c (ho_473) (g_c (ho_438) (g_c (ho_475) (g_c (ho_441) (g_c (ho_474) (g_n)))))))))) (fun _ _ => g_n) ct506
theorem ho_507 : x_OK p_GT p_MT x_EE cc507 := x_chk_OK x_EE_EO x_EE_KO (g_n) (fun _ _ => g_n) ct507
theorem ho_508 : x_OK p_GT p_MT x_EE cc508 := x_chk_OK x_EE_EO x_EE_KO (g_c (ho_503) (g_c (ho_505) (g_c (ho_506) (g_c (ho_435) (g_c (ho_472) (g_c (ho_444) (g_c (ho_445) (g_c (ho_446) (g_c (ho_507) (g_c (ho_436) (g_c (ho_438) (g_c (ho_439) (g_c (ho_441) (g_c (ho_0) (g_n))))))))))))))) (fun _ _ => g_n) ct508
theorem ho_509 : x_OK p_GT p_MT x_EE cc509 := x_chk_OK x_EE_EO x_EE_KO (g_c (ho_508) (g_c (ho_435) (g_c (ho_438) (g_c (ho_441) (g_n))))) (fun _ _ => g_n) ct509
theorem ho_510 : x_OK p_GT p_MT x_EE cc510 := x_chk_OK x_EE_EO x_EE_KO (g_c (ho_509) (g_c (ho_435) (g_c (ho_438) (g_c (ho_441) (g_n))))) (fun _ _ => g_n) ct510
theorem ho_511 : x_OK p_GT p_MT x_EE cc511 := x_chk_OK x_EE_EO x_EE_KO (g_c (ho_508) (g_c (ho_510) (g_c (ho_435) (g_c (ho_472) (g_c (ho_473) (g_c (ho_438) (g_c (ho_475) (g_c (ho_441) (g_c (ho_474) (g_n)))))))))) (fun _ _ => g_n) ct511
theorem ho_512 : x_OK p_GT p_MT x_EE cc512 := x_chk_OK x_EE_EO x_EE_KO (g_n) (fun _ _ => g_n) ct512
theorem ho_513 : x_OK p_GT p_MT x_EE cc513 := x_chk_OK x_EE_EO x_EE_KO (g_c (ho_508) (g_c (ho_510) (g_c (ho_511) (g_c (ho_435) (g_c (ho_472) (g_c (ho_440) (g_c (ho_442) (g_c (ho_443) (g_c (ho_512) (g_c (ho_436) (g_c (ho_438) (g_c (ho_439) (g_c (ho_441) (g_c (ho_0) (g_n))))))))))))))) (fun _ _ => g_n) ct513
theorem ho_514 : x_OK p_GT p_MT x_EE cc514 := x_chk_OK x_EE_EO x_EE_KO (g_c (ho_513) (g_c (ho_435) (g_c (ho_438) (g_c (ho_441) (g_n))))) (fun _ _ => g_n) ct514
theorem ho_515 : x_OK p_GT p_MT x_EE cc515 := x_chk_OK x_EE_EO x_EE_KO (g_c (ho_514) (g_c (ho_435) (g_c (ho_438) (g_c (ho_441) (g_n))))) (fun _ _ => g_n) ct515
theorem ho_516 : x_OK p_GT p_MT x_EE cc516 := x_chk_OK x_EE_EO x_EE_KO (g_c (ho_515) (g_c (ho_ch16) (g_n))) (fun _ _ => g_n) ct516
theorem ho_517 : x_OK p_GT p_MT x_EE cc517 := x_chk_OK x_EE_EO x_EE_KO (g_c (ho_435) (g_c (ho_436) (g_c (ho_437) (g_c (ho_0) (g_n))))) (fun _ _ => g_n) ct517
theorem ho_518 : x_OK p_GT p_MT x_EE cc518 := x_chk_OK x_EE_EO x_EE_KO (g_c (ho_472) (g_c (ho_473) (g_c (ho_517) (g_n)))) (fun _ _ => g_n) ct518
theorem ho_519 : x_OK p_GT p_MT x_EE cc519 := x_chk_OK x_EE_EO x_EE_KO (g_c (ho_516) (g_c (ho_435) (g_c (ho_472) (g_c (ho_518) (g_c (ho_436) (g_c (ho_437) (g_c (ho_0) (g_n)))))))) (fun _ _ => g_n) ct519
theorem ho_520 : x_OK p_GT p_MT x_EE cc520 := x_chk_OK x_EE_EO x_EE_KO (g_c (ho_515) (g_c (ho_ch16) (g_n))) (fun _ _ => g_n) ct520
theorem ho_521 : x_OK p_GT p_MT x_EE cc521 := x_chk_OK x_EE_EO x_EE_KO (g_c (ho_520) (g_c (ho_435) (g_c (ho_472) (g_c (ho_518) (g_c (ho_436) (g_c (ho_437) (g_c (ho_0) (g_n)))))))) (fun _ _ => g_n) ct521
theorem ho_522 : x_OK p_GT p_MT x_EE cc522 := x_chk_OK x_EE_EO x_EE_KO (g_c (ho_515) (g_c (ho_ch16) (g_n))) (fun _ _ => g_n) ct522
theorem ho_523 : x_OK p_GT p_MT x_EE cc523 := x_chk_OK x_EE_EO x_EE_KO (g_c (ho_522) (g_c (ho_435) (g_c (ho_472) (g_c (ho_518) (g_c (ho_436) (g_c (ho_437) (g_c (ho_0) (g_n)))))))) (fun _ _ => g_n) ct523
theorem ho_524 : x_OK p_GT p_MT x_EE cc524 := x_chk_OK x_EE_EO x_EE_KO (g_c (ho_515) (g_c (ho_ch16) (g_n))) (fun _ _ => g_n) ct524
theorem ho_525 : x_OK p_GT p_MT x_EE cc525 := x_chk_OK x_EE_EO x_EE_KO (g_c (ho_524) (g_c (ho_435) (g_c (ho_472) (g_c (ho_518) (g_c (ho_436) (g_c (ho_437) (g_c (ho_0) (g_n)))))))) (fun _ _ => g_n) ct525
theorem ho_526 : x_OK p_GT p_MT x_EE cc526 := x_chk_OK x_EE_EO x_EE_KO (g_c (ho_515) (g_c (ho_ch16) (g_n))) (fun _ _ => g_n) ct526
theorem ho_527 : x_OK p_GT p_MT x_EE cc527 := x_chk_OK x_EE_EO x_EE_KO (g_c (ho_526) (g_c (ho_435) (g_c (ho_472) (g_c (ho_518) (g_c (ho_436) (g_c (ho_437) (g_c (ho_0) (g_n)))))))) (fun _ _ => g_n) ct527
theorem ho_528 : x_OK p_GT p_MT x_EE cc528 := x_chk_OK x_EE_EO x_EE_KO (g_c (ho_515) (g_c (ho_ch16) (g_n))) (fun _ _ => g_n) ct528
theorem ho_529 : x_OK p_GT p_MT x_EE cc529 := x_chk_OK x_EE_EO x_EE_KO (g_c (ho_528) (g_c (ho_435) (g_c (ho_472) (g_c (ho_518) (g_c (ho_436) (g_c (ho_437) (g_c (ho_0) (g_n)))))))) (fun _ _ => g_n) ct529
theorem ho_530 : x_OK p_GT p_MT x_EE cc530 := x_chk_OK x_EE_EO x_EE_KO (g_c (ho_515) (g_c (ho_ch16) (g_n))) (fun _ _ => g_n) ct530
theorem ho_531 : x_OK p_GT p_MT x_EE cc531 := x_chk_OK x_EE_EO x_EE_KO (g_c (ho_530) (g_c (ho_435) (g_c (ho_472) (g_c (ho_518) (g_c (ho_436) (g_c (ho_437) (g_c (ho_0) (g_n)))))))) (fun _ _ => g_n) ct531
theorem ho_532 : x_OK p_GT p_MT x_EE cc532 := x_chk_OK x_EE_EO x_EE_KO (g_c (ho_435) (g_c (ho_472) (g_c (ho_518) (g_c (ho_436) (g_c (ho_437) (g_c (ho_0) (g_n))))))) (fun _ _ => g_n) ct532
set_option maxRecDepth 100000 in
theorem ho_533 : x_OK p_GT p_MT x_EE cc533 := by
  refine ⟨x_chk_ok x_EE_EO x_EE_KO (fun d hd => ((g_c (ho_519) (g_c (ho_521) (g_c (ho_523) (g_c (ho_525) (g_c (ho_527) (g_c (ho_529) (g_c (ho_531) (g_c (ho_532) (g_c (ho_435) (g_n))))))))) : ∀ d ∈ _, x_OK p_GT p_MT x_EE d) d hd).1) (fun d hd => ((g_c (ho_519) (g_c (ho_521) (g_c (ho_523) (g_c (ho_525) (g_c (ho_527) (g_c (ho_529) (g_c (ho_531) (g_c (ho_532) (g_c (ho_435) (g_n))))))))) : ∀ d ∈ _, x_OK p_GT p_MT x_EE d) d hd).2) (fun _ _ => g_n) ?_ ct533, m_X3_read, rfl⟩
  intro M' hM T hT τ0 r0 h0 τ1 r1 h1 ls st hJ hO hr
  cases (show some m_X3_read = some M' from hM)
  exact g_tail_of T (List.all_eq_true.mp (show cv533.all g_tl = true by decide +kernel) T hT) hJ hO
theorem ho_534 : x_OK p_GT p_MT x_EE cc534 := x_chk_OK x_EE_EO x_EE_KO (g_c (ho_533) (g_c (ho_0) (g_n))) (fun _ _ => g_n) ct534

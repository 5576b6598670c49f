set_option maxRecDepth 100000 in
theorem q_om_0 : q_okm qm_0 = true := by decide +kernel
set_option maxRecDepth 100000 in
theorem q_oc_0 : qc_0.all (q_ok 0 qm_0) = true := by decide +kernel
set_option maxRecDepth 100000 in
theorem q_om_1 : q_okm qm_1 = true := by decide +kernel
set_option maxRecDepth 100000 in
theorem q_oc_1 : qc_1.all (q_ok 1 qm_1) = true := by decide +kernel
set_option maxRecDepth 100000 in
theorem q_om_2 : q_okm qm_2 = true := by decide +kernel
set_option maxRecDepth 100000 in
theorem q_oc_2 : qc_2.all (q_ok 2 qm_2) = true := by decide +kernel
set_option maxRecDepth 100000 in
theorem q_om_3 : q_okm qm_3 = true := by decide +kernel
set_option maxRecDepth 100000 in
theorem q_oc_3 : qc_3.all (q_ok 3 qm_3) = true := by decide +kernel
set_option maxRecDepth 100000 in
theorem q_om_4 : q_okm qm_4 = true := by decide +kernel
set_option maxRecDepth 100000 in
theorem q_oc_4 : qc_4.all (q_ok 4 qm_4) = true := by decide +kernel
set_option maxRecDepth 100000 in
theorem q_om_5 : q_okm qm_5 = true := by decide +kernel
set_option maxRecDepth 100000 in
theorem q_oc_5 : qc_5.all (q_ok 5 qm_5) = true := by decide +kernel
set_option maxRecDepth 100000 in
theorem q_om_6 : q_okm qm_6 = true := by decide +kernel
set_option maxRecDepth 100000 in
theorem q_oc_6 : qc_6.all (q_ok 6 qm_6) = true := by decide +kernel
set_option maxRecDepth 100000 in
theorem q_om_7 : q_okm qm_7 = true := by decide +kernel
set_option maxRecDepth 100000 in
theorem q_oc_7 : qc_7.all (q_ok 7 qm_7) = true := by decide +kernel
set_option maxRecDepth 100000 in
theorem q_om_8 : q_okm qm_8 = true := by decide +kernel
set_option maxRecDepth 100000 in
theorem q_oc_8 : qc_8.all (q_ok 8 qm_8) = true := by decide +kernel
set_option maxRecDepth 100000 in
theorem q_om_9 : q_okm qm_9 = true := by decide +kernel
set_option maxRecDepth 100000 in
theorem q_oc_9 : qc_9.all (q_ok 9 qm_9) = true := by decide +kernel
set_option maxRecDepth 100000 in
theorem q_om_10 : q_okm qm_10 = true := by decide +kernel
set_option maxRecDepth 100000 in
theorem q_oc_10 : qc_10.all (q_ok 10 qm_10) = true := by decide +kernel
set_option maxRecDepth 100000 in
theorem q_om_11 : q_okm qm_11 = true := by decide +kernel
set_option maxRecDepth 100000 in
theorem q_oc_11 : qc_11.all (q_ok 11 qm_11) = true := by decide +kernel
set_option maxRecDepth 100000 in
theorem q_om_12 : q_okm qm_12 = true := by decide +kernel
set_option maxRecDepth 100000 in
theorem q_oc_12 : qc_12.all (q_ok 12 qm_12) = true := by decide +kernel
set_option maxRecDepth 100000 in
theorem q_om_13 : q_okm qm_13 = true := by decide +kernel
set_option maxRecDepth 100000 in
theorem q_oc_13 : qc_13.all (q_ok 13 qm_13) = true := by decide +kernel
set_option maxRecDepth 100000 in
theorem q_om_14 : q_okm qm_14 = true := by decide +kernel
set_option maxRecDepth 100000 in
theorem q_oc_14 : qc_14.all (q_ok 14 qm_14) = true := by decide +kernel
set_option maxRecDepth 100000 in
theorem q_om_15 : q_okm qm_15 = true := by decide +kernel
set_option maxRecDepth 100000 in
theorem q_oc_15 : qc_15.all (q_ok 15 qm_15) = true := by decide +kernel
set_option maxRecDepth 100000 in
theorem q_om_16 : q_okm qm_16 = true := by decide +kernel
set_option maxRecDepth 100000 in
theorem q_oc_16 : qc_16.all (q_ok 16 qm_16) = true := by decide +kernel
set_option maxRecDepth 100000 in
theorem q_om_17 : q_okm qm_17 = true := by decide +kernel
set_option maxRecDepth 100000 in
theorem q_oc_17 : qc_17.all (q_ok 17 qm_17) = true := by decide +kernel
set_option maxRecDepth 100000 in
theorem q_om_18 : q_okm qm_18 = true := by decide +kernel
set_option maxRecDepth 100000 in
theorem q_oc_18 : qc_18.all (q_ok 18 qm_18) = true := by decide +kernel
set_option maxRecDepth 100000 in
theorem q_om_19 : q_okm qm_19 = true := by decide +kernel
set_option maxRecDepth 100000 in
theorem q_oc_19 : qc_19.all (q_ok 19 qm_19) = true := by decide +kernel
set_option maxRecDepth 100000 in
theorem q_om_20 : q_okm qm_20 = true := by decide +kernel
set_option maxRecDepth 100000 in
theorem q_oc_20 : qc_20.all (q_ok 20 qm_20) = true := by decide +kernel
set_option maxRecDepth 100000 in
theorem q_om_21 : q_okm qm_21 = true := by decide +kernel
set_option maxRecDepth 100000 in
theorem q_oc_21 : qc_21.all (q_ok 21 qm_21) = true := by decide +kernel
set_option maxRecDepth 100000 in
theorem q_om_22 : q_okm qm_22 = true := by decide +kernel
set_option maxRecDepth 100000 in
theorem q_oc_22 : qc_22.all (q_ok 22 qm_22) = true := by decide +kernel
set_option maxRecDepth 100000 in
theorem q_om_23 : q_okm qm_23 = true := by decide +kernel
set_option maxRecDepth 100000 in
theorem q_oc_23 : qc_23.all (q_ok 23 qm_23) = true := by decide +kernel
set_option maxRecDepth 100000 in
theorem q_om_24 : q_okm qm_24 = true := by decide +kernel
set_option maxRecDepth 100000 in
theorem q_oc_24 : qc_24.all (q_ok 24 qm_24) = true := by decide +kernel
set_option maxRecDepth 100000 in
theorem q_om_25 : q_okm qm_25 = true := by decide +kernel
set_option maxRecDepth 100000 in
theorem q_oc_25 : qc_25.all (q_ok 25 qm_25) = true := by decide +kernel
set_option maxRecDepth 100000 in
theorem q_om_26 : q_okm qm_26 = true := by decide +kernel
set_option maxRecDepth 100000 in
theorem q_oc_26 : qc_26.all (q_ok 26 qm_26) = true := by decide +kernel
set_option maxRecDepth 100000 in
theorem q_om_27 : q_okm qm_27 = true := by decide +kernel
set_option maxRecDepth 100000 in
theorem q_oc_27 : qc_27.all (q_ok 27 qm_27) = true := by decide +kernel
set_option maxRecDepth 100000 in
theorem q_om_28 : q_okm qm_28 = true := by decide +kernel
set_option maxRecDepth 100000 in
theorem q_oc_28 : qc_28.all (q_ok 28 qm_28) = true := by decide +kernel
set_option maxRecDepth 100000 in
theorem q_om_29 : q_okm qm_29 = true := by decide +kernel
set_option maxRecDepth 100000 in
theorem q_oc_29 : qc_29.all (q_ok 29 qm_29) = true := by decide +kernel
set_option maxRecDepth 100000 in
theorem q_om_30 : q_okm qm_30 = true := by decide +kernel
set_option maxRecDepth 100000 in
theorem q_oc_30 : qc_30.all (q_ok 30 qm_30) = true := by decide +kernel
set_option maxRecDepth 100000 in
theorem q_om_31 : q_okm qm_31 = true := by decide +kernel
set_option maxRecDepth 100000 in
theorem q_oc_31 : qc_31.all (q_ok 31 qm_31) = true := by decide +kernel
set_option maxRecDepth 100000 in
theorem q_om_32 : q_okm qm_32 = true := by decide +kernel
set_option maxRecDepth 100000 in
theorem q_oc_32 : qc_32.all (q_ok 32 qm_32) = true := by decide +kernel
set_option maxRecDepth 100000 in
theorem q_om_33 : q_okm qm_33 = true := by decide +kernel
set_option maxRecDepth 100000 in
theorem q_oc_33 : qc_33.all (q_ok 33 qm_33) = true := by decide +kernel
set_option maxRecDepth 100000 in
theorem q_om_34 : q_okm qm_34 = true := by decide +kernel
set_option maxRecDepth 100000 in
theorem q_oc_34 : qc_34.all (q_ok 34 qm_34) = true := by decide +kernel
set_option maxRecDepth 100000 in
theorem q_om_35 : q_okm qm_35 = true := by decide +kernel
set_option maxRecDepth 100000 in
theorem q_oc_35 : qc_35.all (q_ok 35 qm_35) = true := by decide +kernel
set_option maxRecDepth 100000 in
theorem q_om_36 : q_okm qm_36 = true := by decide +kernel
set_option maxRecDepth 100000 in
theorem q_oc_36 : qc_36.all (q_ok 36 qm_36) = true := by decide +kernel
set_option maxRecDepth 100000 in
theorem q_om_37 : q_okm qm_37 = true := by decide +kernel
set_option maxRecDepth 100000 in
theorem q_oc_37 : qc_37.all (q_ok 37 qm_37) = true := by decide +kernel
set_option maxRecDepth 100000 in
theorem q_om_38 : q_okm qm_38 = true := by decide +kernel
set_option maxRecDepth 100000 in
theorem q_oc_38 : qc_38.all (q_ok 38 qm_38) = true := by decide +kernel
set_option maxRecDepth 100000 in
theorem q_om_39 : q_okm qm_39 = true := by decide +kernel
set_option maxRecDepth 100000 in
theorem q_oc_39 : qc_39.all (q_ok 39 qm_39) = true := by decide +kernel
set_option maxRecDepth 100000 in
theorem q_om_40 : q_okm qm_40 = true := by decide +kernel
set_option maxRecDepth 100000 in
theorem q_oc_40 : qc_40.all (q_ok 40 qm_40) = true := by decide +kernel
set_option maxRecDepth 100000 in
theorem q_om_41 : q_okm qm_41 = true := by decide +kernel
set_option maxRecDepth 100000 in
theorem q_oc_41 : qc_41.all (q_ok 41 qm_41) = true := by decide +kernel
set_option maxRecDepth 100000 in
theorem q_om_42 : q_okm qm_42 = true := by decide +kernel
set_option maxRecDepth 100000 in
theorem q_oc_42 : qc_42.all (q_ok 42 qm_42) = true := by decide +kernel
set_option maxRecDepth 100000 in
theorem q_om_43 : q_okm qm_43 = true := by decide +kernel
set_option maxRecDepth 100000 in
theorem q_oc_43 : qc_43.all (q_ok 43 qm_43) = true := by decide +kernel
set_option maxRecDepth 100000 in
theorem q_om_44 : q_okm qm_44 = true := by decide +kernel
set_option maxRecDepth 100000 in
theorem q_oc_44 : qc_44.all (q_ok 44 qm_44) = true := by decide +kernel
set_option maxRecDepth 100000 in
theorem q_om_45 : q_okm qm_45 = true := by decide +kernel
set_option maxRecDepth 100000 in
theorem q_oc_45 : qc_45.all (q_ok 45 qm_45) = true := by decide +kernel
set_option maxRecDepth 100000 in
theorem q_om_46 : q_okm qm_46 = true := by decide +kernel
set_option maxRecDepth 100000 in
theorem q_oc_46 : qc_46.all (q_ok 46 qm_46) = true := by decide +kernel
set_option maxRecDepth 100000 in
theorem q_om_47 : q_okm qm_47 = true := by decide +kernel
set_option maxRecDepth 100000 in
theorem q_oc_47 : qc_47.all (q_ok 47 qm_47) = true := by decide +kernel
set_option maxRecDepth 100000 in
theorem q_om_48 : q_okm qm_48 = true := by decide +kernel
set_option maxRecDepth 100000 in
theorem q_oc_48 : qc_48.all (q_ok 48 qm_48) = true := by decide +kernel
set_option maxRecDepth 100000 in
theorem q_om_49 : q_okm qm_49 = true := by decide +kernel
set_option maxRecDepth 100000 in
theorem q_oc_49 : qc_49.all (q_ok 49 qm_49) = true := by decide +kernel
set_option maxRecDepth 100000 in
theorem q_om_50 : q_okm qm_50 = true := by decide +kernel
set_option maxRecDepth 100000 in
theorem q_oc_50 : qc_50.all (q_ok 50 qm_50) = true := by decide +kernel
set_option maxRecDepth 100000 in
theorem q_om_51 : q_okm qm_51 = true := by decide +kernel
set_option maxRecDepth 100000 in
theorem q_oc_51 : qc_51.all (q_ok 51 qm_51) = true := by decide +kernel
set_option maxRecDepth 100000 in
theorem q_om_52 : q_okm qm_52 = true := by decide +kernel
set_option maxRecDepth 100000 in
theorem q_oc_52 : qc_52.all (q_ok 52 qm_52) = true := by decide +kernel
set_option maxRecDepth 100000 in
theorem q_om_53 : q_okm qm_53 = true := by decide +kernel
set_option maxRecDepth 100000 in
theorem q_oc_53 : qc_53.all (q_ok 53 qm_53) = true := by decide +kernel
set_option maxRecDepth 100000 in
theorem q_om_54 : q_okm qm_54 = true := by decide +kernel
set_option maxRecDepth 100000 in
theorem q_oc_54 : qc_54.all (q_ok 54 qm_54) = true := by decide +kernel
set_option maxRecDepth 100000 in
theorem q_om_55 : q_okm qm_55 = true := by decide +kernel
set_option maxRecDepth 100000 in
theorem q_oc_55 : qc_55.all (q_ok 55 qm_55) = true := by decide +kernel
set_option maxRecDepth 100000 in
theorem q_om_56 : q_okm qm_56 = true := by decide +kernel
set_option maxRecDepth 100000 in
theorem q_oc_56 : qc_56.all (q_ok 56 qm_56) = true := by decide +kernel
set_option maxRecDepth 100000 in
theorem q_om_57 : q_okm qm_57 = true := by decide +kernel
set_option maxRecDepth 100000 in
theorem q_oc_57 : qc_57.all (q_ok 57 qm_57) = true := by decide +kernel
set_option maxRecDepth 100000 in
theorem q_om_58 : q_okm qm_58 = true := by decide +kernel
set_option maxRecDepth 100000 in
theorem q_oc_58 : qc_58.all (q_ok 58 qm_58) = true := by decide +kernel
set_option maxRecDepth 100000 in
theorem q_om_59 : q_okm qm_59 = true := by decide +kernel
set_option maxRecDepth 100000 in
theorem q_oc_59 : qc_59.all (q_ok 59 qm_59) = true := by decide +kernel
set_option maxRecDepth 100000 in
theorem q_om_60 : q_okm qm_60 = true := by decide +kernel
set_option maxRecDepth 100000 in
theorem q_oc_60 : qc_60.all (q_ok 60 qm_60) = true := by decide +kernel
set_option maxRecDepth 100000 in
theorem q_om_61 : q_okm qm_61 = true := by decide +kernel
set_option maxRecDepth 100000 in
theorem q_oc_61 : qc_61.all (q_ok 61 qm_61) = true := by decide +kernel
set_option maxRecDepth 100000 in
theorem q_om_62 : q_okm qm_62 = true := by decide +kernel
set_option maxRecDepth 100000 in
theorem q_oc_62 : qc_62.all (q_ok 62 qm_62) = true := by decide +kernel
set_option maxRecDepth 100000 in
theorem q_om_63 : q_okm qm_63 = true := by decide +kernel
set_option maxRecDepth 100000 in
theorem q_oc_63 : qc_63.all (q_ok 63 qm_63) = true := by decide +kernel
set_option maxRecDepth 100000 in
theorem q_om_64 : q_okm qm_64 = true := by decide +kernel
set_option maxRecDepth 100000 in
theorem q_oc_64 : qc_64.all (q_ok 64 qm_64) = true := by decide +kernel
set_option maxRecDepth 100000 in
theorem q_om_65 : q_okm qm_65 = true := by decide +kernel
set_option maxRecDepth 100000 in
theorem q_oc_65 : qc_65.all (q_ok 65 qm_65) = true := by decide +kernel
set_option maxRecDepth 100000 in
theorem q_om_66 : q_okm qm_66 = true := by decide +kernel
set_option maxRecDepth 100000 in
theorem q_oc_66 : qc_66.all (q_ok 66 qm_66) = true := by decide +kernel
set_option maxRecDepth 100000 in
theorem q_om_67 : q_okm qm_67 = true := by decide +kernel
set_option maxRecDepth 100000 in
theorem q_oc_67 : qc_67.all (q_ok 67 qm_67) = true := by decide +kernel
set_option maxRecDepth 100000 in
theorem q_om_68 : q_okm qm_68 = true := by decide +kernel
set_option maxRecDepth 100000 in
theorem q_oc_68 : qc_68.all (q_ok 68 qm_68) = true := by decide +kernel
set_option maxRecDepth 100000 in
theorem q_om_69 : q_okm qm_69 = true := by decide +kernel
set_option maxRecDepth 100000 in
theorem q_oc_69 : qc_69.all (q_ok 69 qm_69) = true := by decide +kernel
set_option maxRecDepth 100000 in
theorem q_om_70 : q_okm qm_70 = true := by decide +kernel
set_option maxRecDepth 100000 in
theorem q_oc_70 : qc_70.all (q_ok 70 qm_70) = true := by decide +kernel
set_option maxRecDepth 100000 in
theorem q_om_71 : q_okm qm_71 = true := by decide +kernel
set_option maxRecDepth 100000 in
theorem q_oc_71 : qc_71.all (q_ok 71 qm_71) = true := by decide +kernel
set_option maxRecDepth 100000 in
theorem q_om_72 : q_okm qm_72 = true := by decide +kernel
set_option maxRecDepth 100000 in
theorem q_oc_72 : qc_72.all (q_ok 72 qm_72) = true := by decide +kernel
set_option maxRecDepth 100000 in
theorem q_om_73 : q_okm qm_73 = true := by decide +kernel
set_option maxRecDepth 100000 in
theorem q_oc_73 : qc_73.all (q_ok 73 qm_73) = true := by decide +kernel
set_option maxRecDepth 100000 in
theorem q_om_74 : q_okm qm_74 = true := by decide +kernel
set_option maxRecDepth 100000 in
theorem q_oc_74 : qc_74.all (q_ok 74 qm_74) = true := by decide +kernel
set_option maxRecDepth 100000 in
theorem q_om_75 : q_okm qm_75 = true := by decide +kernel
set_option maxRecDepth 100000 in
theorem q_oc_75 : qc_75.all (q_ok 75 qm_75) = true := by decide +kernel
set_option maxRecDepth 100000 in
theorem q_om_76 : q_okm qm_76 = true := by decide +kernel
set_option maxRecDepth 100000 in
theorem q_oc_76 : qc_76.all (q_ok 76 qm_76) = true := by decide +kernel
set_option maxRecDepth 100000 in
theorem q_om_77 : q_okm qm_77 = true := by decide +kernel
set_option maxRecDepth 100000 in
theorem q_oc_77 : qc_77.all (q_ok 77 qm_77) = true := by decide +kernel
set_option maxRecDepth 100000 in
theorem q_om_78 : q_okm qm_78 = true := by decide +kernel
set_option maxRecDepth 100000 in
theorem q_oc_78 : qc_78.all (q_ok 78 qm_78) = true := by decide +kernel
set_option maxRecDepth 100000 in
theorem q_om_79 : q_okm qm_79 = true := by decide +kernel
set_option maxRecDepth 100000 in
theorem q_oc_79 : qc_79.all (q_ok 79 qm_79) = true := by decide +kernel
set_option maxRecDepth 100000 in
theorem q_om_80 : q_okm qm_80 = true := by decide +kernel
set_option maxRecDepth 100000 in
theorem q_oc_80 : qc_80.all (q_ok 80 qm_80) = true := by decide +kernel
set_option maxRecDepth 100000 in
theorem q_om_81 : q_okm qm_81 = true := by decide +kernel
set_option maxRecDepth 100000 in
theorem q_oc_81 : qc_81.all (q_ok 81 qm_81) = true := by decide +kernel
set_option maxRecDepth 100000 in
theorem q_om_82 : q_okm qm_82 = true := by decide +kernel
set_option maxRecDepth 100000 in
theorem q_oc_82 : qc_82.all (q_ok 82 qm_82) = true := by decide +kernel
set_option maxRecDepth 100000 in
theorem q_om_83 : q_okm qm_83 = true := by decide +kernel
set_option maxRecDepth 100000 in
theorem q_oc_83 : qc_83.all (q_ok 83 qm_83) = true := by decide +kernel
set_option maxRecDepth 100000 in
theorem q_om_84 : q_okm qm_84 = true := by decide +kernel
set_option maxRecDepth 100000 in
theorem q_oc_84 : qc_84.all (q_ok 84 qm_84) = true := by decide +kernel
set_option maxRecDepth 100000 in
theorem q_om_85 : q_okm qm_85 = true := by decide +kernel
set_option maxRecDepth 100000 in
theorem q_oc_85 : qc_85.all (q_ok 85 qm_85) = true := by decide +kernel
set_option maxRecDepth 100000 in
theorem q_om_86 : q_okm qm_86 = true := by decide +kernel
set_option maxRecDepth 100000 in
theorem q_oc_86 : qc_86.all (q_ok 86 qm_86) = true := by decide +kernel
set_option maxRecDepth 100000 in
theorem q_om_87 : q_okm qm_87 = true := by decide +kernel
set_option maxRecDepth 100000 in
theorem q_oc_87 : qc_87.all (q_ok 87 qm_87) = true := by decide +kernel
set_option maxRecDepth 100000 in
theorem q_om_88 : q_okm qm_88 = true := by decide +kernel
set_option maxRecDepth 100000 in
theorem q_oc_88 : qc_88.all (q_ok 88 qm_88) = true := by decide +kernel
set_option maxRecDepth 100000 in
theorem q_om_89 : q_okm qm_89 = true := by decide +kernel
set_option maxRecDepth 100000 in
theorem q_oc_89 : qc_89.all (q_ok 89 qm_89) = true := by decide +kernel
set_option maxRecDepth 100000 in
theorem q_om_90 : q_okm qm_90 = true := by decide +kernel
set_option maxRecDepth 100000 in
theorem q_oc_90 : qc_90.all (q_ok 90 qm_90) = true := by decide +kernel
set_option maxRecDepth 100000 in
theorem q_om_91 : q_okm qm_91 = true := by decide +kernel
set_option maxRecDepth 100000 in
theorem q_oc_91 : qc_91.all (q_ok 91 qm_91) = true := by decide +kernel
set_option maxRecDepth 100000 in
theorem q_om_92 : q_okm qm_92 = true := by decide +kernel
set_option maxRecDepth 100000 in
theorem q_oc_92 : qc_92.all (q_ok 92 qm_92) = true := by decide +kernel
set_option maxRecDepth 100000 in
theorem q_om_93 : q_okm qm_93 = true := by decide +kernel
set_option maxRecDepth 100000 in
theorem q_oc_93 : qc_93.all (q_ok 93 qm_93) = true := by decide +kernel
set_option maxRecDepth 100000 in
theorem q_om_94 : q_okm qm_94 = true := by decide +kernel
set_option maxRecDepth 100000 in
theorem q_oc_94 : qc_94.all (q_ok 94 qm_94) = true := by decide +kernel
set_option maxRecDepth 100000 in
theorem q_om_95 : q_okm qm_95 = true := by decide +kernel
set_option maxRecDepth 100000 in
theorem q_oc_95 : qc_95.all (q_ok 95 qm_95) = true := by decide +kernel
set_option maxRecDepth 100000 in
theorem q_om_96 : q_okm qm_96 = true := by decide +kernel
set_option maxRecDepth 100000 in
theorem q_oc_96 : qc_96.all (q_ok 96 qm_96) = true := by decide +kernel
set_option maxRecDepth 100000 in
theorem q_om_97 : q_okm qm_97 = true := by decide +kernel
set_option maxRecDepth 100000 in
theorem q_oc_97 : qc_97.all (q_ok 97 qm_97) = true := by decide +kernel
set_option maxRecDepth 100000 in
theorem q_om_98 : q_okm qm_98 = true := by decide +kernel
set_option maxRecDepth 100000 in
theorem q_oc_98 : qc_98.all (q_ok 98 qm_98) = true := by decide +kernel
set_option maxRecDepth 100000 in
theorem q_om_99 : q_okm qm_99 = true := by decide +kernel
set_option maxRecDepth 100000 in
theorem q_oc_99 : qc_99.all (q_ok 99 qm_99) = true := by decide +kernel
set_option maxRecDepth 100000 in
theorem q_om_100 : q_okm qm_100 = true := by decide +kernel
set_option maxRecDepth 100000 in
theorem q_oc_100 : qc_100.all (q_ok 100 qm_100) = true := by decide +kernel
set_option maxRecDepth 100000 in
theorem q_om_101 : q_okm qm_101 = true := by decide +kernel
set_option maxRecDepth 100000 in
theorem q_oc_101 : qc_101.all (q_ok 101 qm_101) = true := by decide +kernel
set_option maxRecDepth 100000 in
theorem q_om_102 : q_okm qm_102 = true := by decide +kernel
set_option maxRecDepth 100000 in
theorem q_oc_102 : qc_102.all (q_ok 102 qm_102) = true := by decide +kernel
set_option maxRecDepth 100000 in
theorem q_om_103 : q_okm qm_103 = true := by decide +kernel
set_option maxRecDepth 100000 in
theorem q_oc_103 : qc_103.all (q_ok 103 qm_103) = true := by decide +kernel
set_option maxRecDepth 100000 in
theorem q_om_104 : q_okm qm_104 = true := by decide +kernel
set_option maxRecDepth 100000 in
theorem q_oc_104 : qc_104.all (q_ok 104 qm_104) = true := by decide +kernel
set_option maxRecDepth 100000 in
theorem q_om_105 : q_okm qm_105 = true := by decide +kernel
set_option maxRecDepth 100000 in
theorem q_oc_105 : qc_105.all (q_ok 105 qm_105) = true := by decide +kernel
set_option maxRecDepth 100000 in
theorem q_om_106 : q_okm qm_106 = true := by decide +kernel
set_option maxRecDepth 100000 in
theorem q_oc_106 : qc_106.all (q_ok 106 qm_106) = true := by decide +kernel
set_option maxRecDepth 100000 in
theorem q_om_107 : q_okm qm_107 = true := by decide +kernel
set_option maxRecDepth 100000 in
theorem q_oc_107 : qc_107.all (q_ok 107 qm_107) = true := by decide +kernel
set_option maxRecDepth 100000 in
theorem q_om_108 : q_okm qm_108 = true := by decide +kernel
set_option maxRecDepth 100000 in
theorem q_oc_108 : qc_108.all (q_ok 108 qm_108) = true := by decide +kernel
set_option maxRecDepth 100000 in
theorem q_om_109 : q_okm qm_109 = true := by decide +kernel
set_option maxRecDepth 100000 in
theorem q_oc_109 : qc_109.all (q_ok 109 qm_109) = true := by decide +kernel
set_option maxRecDepth 100000 in
theorem q_om_110 : q_okm qm_110 = true := by decide +kernel
set_option maxRecDepth 100000 in
theorem q_oc_110 : qc_110.all (q_ok 110 qm_110) = true := by decide +kernel
set_option maxRecDepth 100000 in
theorem q_om_111 : q_okm qm_111 = true := by decide +kernel
set_option maxRecDepth 100000 in
theorem q_oc_111 : qc_111.all (q_ok 111 qm_111) = true := by decide +kernel
set_option maxRecDepth 100000 in
theorem q_om_112 : q_okm qm_112 = true := by decide +kernel
set_option maxRecDepth 100000 in
theorem q_oc_112 : qc_112.all (q_ok 112 qm_112) = true := by decide +kernel
set_option maxRecDepth 100000 in
theorem q_om_113 : q_okm qm_113 = true := by decide +kernel
set_option maxRecDepth 100000 in
theorem q_oc_113 : qc_113.all (q_ok 113 qm_113) = true := by decide +kernel
set_option maxRecDepth 100000 in
theorem q_om_114 : q_okm qm_114 = true := by decide +kernel
set_option maxRecDepth 100000 in
theorem q_oc_114 : qc_114.all (q_ok 114 qm_114) = true := by decide +kernel
set_option maxRecDepth 100000 in
theorem q_om_115 : q_okm qm_115 = true := by decide +kernel
set_option maxRecDepth 100000 in
theorem q_oc_115 : qc_115.all (q_ok 115 qm_115) = true := by decide +kernel
set_option maxRecDepth 100000 in
theorem q_om_116 : q_okm qm_116 = true := by decide +kernel
set_option maxRecDepth 100000 in
theorem q_oc_116 : qc_116.all (q_ok 116 qm_116) = true := by decide +kernel
set_option maxRecDepth 100000 in
theorem q_om_117 : q_okm qm_117 = true := by decide +kernel
set_option maxRecDepth 100000 in
theorem q_oc_117 : qc_117.all (q_ok 117 qm_117) = true := by decide +kernel
set_option maxRecDepth 100000 in
theorem q_om_118 : q_okm qm_118 = true := by decide +kernel
set_option maxRecDepth 100000 in
theorem q_oc_118 : qc_118.all (q_ok 118 qm_118) = true := by decide +kernel
set_option maxRecDepth 100000 in
theorem q_om_119 : q_okm qm_119 = true := by decide +kernel
set_option maxRecDepth 100000 in
theorem q_oc_119 : qc_119.all (q_ok 119 qm_119) = true := by decide +kernel
set_option maxRecDepth 100000 in
theorem q_om_120 : q_okm qm_120 = true := by decide +kernel
set_option maxRecDepth 100000 in
theorem q_oc_120 : qc_120.all (q_ok 120 qm_120) = true := by decide +kernel
set_option maxRecDepth 100000 in
theorem q_om_121 : q_okm qm_121 = true := by decide +kernel
set_option maxRecDepth 100000 in
theorem q_oc_121 : qc_121.all (q_ok 121 qm_121) = true := by decide +kernel
set_option maxRecDepth 100000 in
theorem q_om_122 : q_okm qm_122 = true := by decide +kernel
set_option maxRecDepth 100000 in
theorem q_oc_122 : qc_122.all (q_ok 122 qm_122) = true := by decide +kernel
set_option maxRecDepth 100000 in
theorem q_om_123 : q_okm qm_123 = true := by decide +kernel
set_option maxRecDepth 100000 in
theorem q_oc_123 : qc_123.all (q_ok 123 qm_123) = true := by decide +kernel
set_option maxRecDepth 100000 in
theorem q_om_124 : q_okm qm_124 = true := by decide +kernel
set_option maxRecDepth 100000 in
theorem q_oc_124 : qc_124.all (q_ok 124 qm_124) = true := by decide +kernel
set_option maxRecDepth 100000 in
theorem q_om_125 : q_okm qm_125 = true := by decide +kernel
set_option maxRecDepth 100000 in
theorem q_oc_125 : qc_125.all (q_ok 125 qm_125) = true := by decide +kernel
set_option maxRecDepth 100000 in
theorem q_om_126 : q_okm qm_126 = true := by decide +kernel
set_option maxRecDepth 100000 in
theorem q_oc_126 : qc_126.all (q_ok 126 qm_126) = true := by decide +kernel
set_option maxRecDepth 100000 in
theorem q_om_127 : q_okm qm_127 = true := by decide +kernel
set_option maxRecDepth 100000 in
theorem q_oc_127 : qc_127.all (q_ok 127 qm_127) = true := by decide +kernel
set_option maxRecDepth 100000 in
theorem q_om_128 : q_okm qm_128 = true := by decide +kernel
set_option maxRecDepth 100000 in
theorem q_oc_128 : qc_128.all (q_ok 128 qm_128) = true := by decide +kernel
set_option maxRecDepth 100000 in
theorem q_om_129 : q_okm qm_129 = true := by decide +kernel
set_option maxRecDepth 100000 in
theorem q_oc_129 : qc_129.all (q_ok 129 qm_129) = true := by decide +kernel
set_option maxRecDepth 100000 in
theorem q_om_130 : q_okm qm_130 = true := by decide +kernel
set_option maxRecDepth 100000 in
theorem q_oc_130 : qc_130.all (q_ok 130 qm_130) = true := by decide +kernel
set_option maxRecDepth 100000 in
theorem q_om_131 : q_okm qm_131 = true := by decide +kernel
set_option maxRecDepth 100000 in
theorem q_oc_131 : qc_131.all (q_ok 131 qm_131) = true := by decide +kernel
set_option maxRecDepth 100000 in
theorem q_om_132 : q_okm qm_132 = true := by decide +kernel
set_option maxRecDepth 100000 in
theorem q_oc_132 : qc_132.all (q_ok 132 qm_132) = true := by decide +kernel
set_option maxRecDepth 100000 in
theorem q_om_133 : q_okm qm_133 = true := by decide +kernel
set_option maxRecDepth 100000 in
theorem q_oc_133 : qc_133.all (q_ok 133 qm_133) = true := by decide +kernel
set_option maxRecDepth 100000 in
theorem q_om_134 : q_okm qm_134 = true := by decide +kernel
set_option maxRecDepth 100000 in
theorem q_oc_134 : qc_134.all (q_ok 134 qm_134) = true := by decide +kernel
set_option maxRecDepth 100000 in
theorem q_om_135 : q_okm qm_135 = true := by decide +kernel
set_option maxRecDepth 100000 in
theorem q_oc_135 : qc_135.all (q_ok 135 qm_135) = true := by decide +kernel
set_option maxRecDepth 100000 in
theorem q_om_136 : q_okm qm_136 = true := by decide +kernel
set_option maxRecDepth 100000 in
theorem q_oc_136 : qc_136.all (q_ok 136 qm_136) = true := by decide +kernel
set_option maxRecDepth 100000 in
theorem q_om_137 : q_okm qm_137 = true := by decide +kernel
set_option maxRecDepth 100000 in
theorem q_oc_137 : qc_137.all (q_ok 137 qm_137) = true := by decide +kernel
set_option maxRecDepth 100000 in
theorem q_om_138 : q_okm qm_138 = true := by decide +kernel
set_option maxRecDepth 100000 in
theorem q_oc_138 : qc_138.all (q_ok 138 qm_138) = true := by decide +kernel
set_option maxRecDepth 100000 in
theorem q_om_139 : q_okm qm_139 = true := by decide +kernel
set_option maxRecDepth 100000 in
theorem q_oc_139 : qc_139.all (q_ok 139 qm_139) = true := by decide +kernel
set_option maxRecDepth 100000 in
theorem q_om_140 : q_okm qm_140 = true := by decide +kernel
set_option maxRecDepth 100000 in
theorem q_oc_140 : qc_140.all (q_ok 140 qm_140) = true := by decide +kernel
set_option maxRecDepth 100000 in
theorem q_om_141 : q_okm qm_141 = true := by decide +kernel
set_option maxRecDepth 100000 in
theorem q_oc_141 : qc_141.all (q_ok 141 qm_141) = true := by decide +kernel
set_option maxRecDepth 100000 in
theorem q_om_142 : q_okm qm_142 = true := by decide +kernel
set_option maxRecDepth 100000 in
theorem q_oc_142 : qc_142.all (q_ok 142 qm_142) = true := by decide +kernel
set_option maxRecDepth 100000 in
theorem q_om_143 : q_okm qm_143 = true := by decide +kernel
set_option maxRecDepth 100000 in
theorem q_oc_143 : qc_143.all (q_ok 143 qm_143) = true := by decide +kernel
set_option maxRecDepth 100000 in
theorem q_om_144 : q_okm qm_144 = true := by decide +kernel
set_option maxRecDepth 100000 in
theorem q_oc_144 : qc_144.all (q_ok 144 qm_144) = true := by decide +kernel
set_option maxRecDepth 100000 in
theorem q_om_145 : q_okm qm_145 = true := by decide +kernel
set_option maxRecDepth 100000 in
theorem q_oc_145 : qc_145.all (q_ok 145 qm_145) = true := by decide +kernel
set_option maxRecDepth 100000 in
theorem q_om_146 : q_okm qm_146 = true := by decide +kernel
set_option maxRecDepth 100000 in
theorem q_oc_146 : qc_146.all (q_ok 146 qm_146) = true := by decide +kernel
set_option maxRecDepth 100000 in
theorem q_om_147 : q_okm qm_147 = true := by decide +kernel
set_option maxRecDepth 100000 in
theorem q_oc_147 : qc_147.all (q_ok 147 qm_147) = true := by decide +kernel
set_option maxRecDepth 100000 in
theorem q_om_148 : q_okm qm_148 = true := by decide +kernel
set_option maxRecDepth 100000 in
theorem q_oc_148 : qc_148.all (q_ok 148 qm_148) = true := by decide +kernel
set_option maxRecDepth 100000 in
theorem q_om_149 : q_okm qm_149 = true := by decide +kernel
set_option maxRecDepth 100000 in
theorem q_oc_149 : qc_149.all (q_ok 149 qm_149) = true := by decide +kernel
set_option maxRecDepth 100000 in
theorem q_om_150 : q_okm qm_150 = true := by decide +kernel
set_option maxRecDepth 100000 in
theorem q_oc_150 : qc_150.all (q_ok 150 qm_150) = true := by decide +kernel
set_option maxRecDepth 100000 in
theorem q_om_151 : q_okm qm_151 = true := by decide +kernel
set_option maxRecDepth 100000 in
theorem q_oc_151 : qc_151.all (q_ok 151 qm_151) = true := by decide +kernel
set_option maxRecDepth 100000 in
theorem q_om_152 : q_okm qm_152 = true := by decide +kernel
set_option maxRecDepth 100000 in
theorem q_oc_152 : qc_152.all (q_ok 152 qm_152) = true := by decide +kernel
set_option maxRecDepth 100000 in
theorem q_om_153 : q_okm qm_153 = true := by decide +kernel
set_option maxRecDepth 100000 in
theorem q_oc_153 : qc_153.all (q_ok 153 qm_153) = true := by decide +kernel
set_option maxRecDepth 100000 in
theorem q_om_154 : q_okm qm_154 = true := by decide +kernel
set_option maxRecDepth 100000 in
theorem q_oc_154 : qc_154.all (q_ok 154 qm_154) = true := by decide +kernel
set_option maxRecDepth 100000 in
theorem q_om_155 : q_okm qm_155 = true := by decide +kernel
set_option maxRecDepth 100000 in
theorem q_oc_155 : qc_155.all (q_ok 155 qm_155) = true := by decide +kernel
set_option maxRecDepth 100000 in
theorem q_om_156 : q_okm qm_156 = true := by decide +kernel
set_option maxRecDepth 100000 in
theorem q_oc_156 : qc_156.all (q_ok 156 qm_156) = true := by decide +kernel
set_option maxRecDepth 100000 in
theorem q_om_157 : q_okm qm_157 = true := by decide +kernel
set_option maxRecDepth 100000 in
theorem q_oc_157 : qc_157.all (q_ok 157 qm_157) = true := by decide +kernel
set_option maxRecDepth 100000 in
theorem q_om_158 : q_okm qm_158 = true := by decide +kernel
set_option maxRecDepth 100000 in
theorem q_oc_158 : qc_158.all (q_ok 158 qm_158) = true := by decide +kernel
set_option maxRecDepth 100000 in
theorem q_oc_159 : qc_159.all (q_ok 159 qm_159) = true := by decide +kernel
theorem q_all_ok : ∀ k, k < 159 → q_okm (q_ms k) = true ∧ (q_ms k).2.2.2.all (q_ok k (q_ms k)) = true := fun k h => match k, h with
  | 0, _ => ⟨q_om_0, q_oc_0⟩
  | 1, _ => ⟨q_om_1, q_oc_1⟩
  | 2, _ => ⟨q_om_2, q_oc_2⟩
  | 3, _ => ⟨q_om_3, q_oc_3⟩
  | 4, _ => ⟨q_om_4, q_oc_4⟩
  | 5, _ => ⟨q_om_5, q_oc_5⟩
  | 6, _ => ⟨q_om_6, q_oc_6⟩
  | 7, _ => ⟨q_om_7, q_oc_7⟩
  | 8, _ => ⟨q_om_8, q_oc_8⟩
  | 9, _ => ⟨q_om_9, q_oc_9⟩
  | 10, _ => ⟨q_om_10, q_oc_10⟩
  | 11, _ => ⟨q_om_11, q_oc_11⟩
  | 12, _ => ⟨q_om_12, q_oc_12⟩
  | 13, _ => ⟨q_om_13, q_oc_13⟩
  | 14, _ => ⟨q_om_14, q_oc_14⟩
  | 15, _ => ⟨q_om_15, q_oc_15⟩
  | 16, _ => ⟨q_om_16, q_oc_16⟩
  | 17, _ => ⟨q_om_17, q_oc_17⟩
  | 18, _ => ⟨q_om_18, q_oc_18⟩
  | 19, _ => ⟨q_om_19, q_oc_19⟩
  | 20, _ => ⟨q_om_20, q_oc_20⟩
  | 21, _ => ⟨q_om_21, q_oc_21⟩
  | 22, _ => ⟨q_om_22, q_oc_22⟩
  | 23, _ => ⟨q_om_23, q_oc_23⟩
  | 24, _ => ⟨q_om_24, q_oc_24⟩
  | 25, _ => ⟨q_om_25, q_oc_25⟩
  | 26, _ => ⟨q_om_26, q_oc_26⟩
  | 27, _ => ⟨q_om_27, q_oc_27⟩
  | 28, _ => ⟨q_om_28, q_oc_28⟩
  | 29, _ => ⟨q_om_29, q_oc_29⟩
  | 30, _ => ⟨q_om_30, q_oc_30⟩
  | 31, _ => ⟨q_om_31, q_oc_31⟩
  | 32, _ => ⟨q_om_32, q_oc_32⟩
  | 33, _ => ⟨q_om_33, q_oc_33⟩
  | 34, _ => ⟨q_om_34, q_oc_34⟩
  | 35, _ => ⟨q_om_35, q_oc_35⟩
  | 36, _ => ⟨q_om_36, q_oc_36⟩
  | 37, _ => ⟨q_om_37, q_oc_37⟩
  | 38, _ => ⟨q_om_38, q_oc_38⟩
  | 39, _ => ⟨q_om_39, q_oc_39⟩
  | 40, _ => ⟨q_om_40, q_oc_40⟩
  | 41, _ => ⟨q_om_41, q_oc_41⟩
  | 42, _ => ⟨q_om_42, q_oc_42⟩
  | 43, _ => ⟨q_om_43, q_oc_43⟩
  | 44, _ => ⟨q_om_44, q_oc_44⟩
  | 45, _ => ⟨q_om_45, q_oc_45⟩
  | 46, _ => ⟨q_om_46, q_oc_46⟩
  | 47, _ => ⟨q_om_47, q_oc_47⟩
  | 48, _ => ⟨q_om_48, q_oc_48⟩
  | 49, _ => ⟨q_om_49, q_oc_49⟩
  | 50, _ => ⟨q_om_50, q_oc_50⟩
  | 51, _ => ⟨q_om_51, q_oc_51⟩
  | 52, _ => ⟨q_om_52, q_oc_52⟩
  | 53, _ => ⟨q_om_53, q_oc_53⟩
  | 54, _ => ⟨q_om_54, q_oc_54⟩
  | 55, _ => ⟨q_om_55, q_oc_55⟩
  | 56, _ => ⟨q_om_56, q_oc_56⟩
  | 57, _ => ⟨q_om_57, q_oc_57⟩
  | 58, _ => ⟨q_om_58, q_oc_58⟩
  | 59, _ => ⟨q_om_59, q_oc_59⟩
  | 60, _ => ⟨q_om_60, q_oc_60⟩
  | 61, _ => ⟨q_om_61, q_oc_61⟩
  | 62, _ => ⟨q_om_62, q_oc_62⟩
  | 63, _ => ⟨q_om_63, q_oc_63⟩
  | 64, _ => ⟨q_om_64, q_oc_64⟩
  | 65, _ => ⟨q_om_65, q_oc_65⟩
  | 66, _ => ⟨q_om_66, q_oc_66⟩
  | 67, _ => ⟨q_om_67, q_oc_67⟩
  | 68, _ => ⟨q_om_68, q_oc_68⟩
  | 69, _ => ⟨q_om_69, q_oc_69⟩
  | 70, _ => ⟨q_om_70, q_oc_70⟩
  | 71, _ => ⟨q_om_71, q_oc_71⟩
  | 72, _ => ⟨q_om_72, q_oc_72⟩
  | 73, _ => ⟨q_om_73, q_oc_73⟩
  | 74, _ => ⟨q_om_74, q_oc_74⟩
  | 75, _ => ⟨q_om_75, q_oc_75⟩
  | 76, _ => ⟨q_om_76, q_oc_76⟩
  | 77, _ => ⟨q_om_77, q_oc_77⟩
  | 78, _ => ⟨q_om_78, q_oc_78⟩
  | 79, _ => ⟨q_om_79, q_oc_79⟩
  | 80, _ => ⟨q_om_80, q_oc_80⟩
  | 81, _ => ⟨q_om_81, q_oc_81⟩
  | 82, _ => ⟨q_om_82, q_oc_82⟩
  | 83, _ => ⟨q_om_83, q_oc_83⟩
  | 84, _ => ⟨q_om_84, q_oc_84⟩
  | 85, _ => ⟨q_om_85, q_oc_85⟩
  | 86, _ => ⟨q_om_86, q_oc_86⟩
  | 87, _ => ⟨q_om_87, q_oc_87⟩
  | 88, _ => ⟨q_om_88, q_oc_88⟩
  | 89, _ => ⟨q_om_89, q_oc_89⟩
  | 90, _ => ⟨q_om_90, q_oc_90⟩
  | 91, _ => ⟨q_om_91, q_oc_91⟩
  | 92, _ => ⟨q_om_92, q_oc_92⟩
  | 93, _ => ⟨q_om_93, q_oc_93⟩
  | 94, _ => ⟨q_om_94, q_oc_94⟩
  | 95, _ => ⟨q_om_95, q_oc_95⟩
  | 96, _ => ⟨q_om_96, q_oc_96⟩
  | 97, _ => ⟨q_om_97, q_oc_97⟩
  | 98, _ => ⟨q_om_98, q_oc_98⟩
  | 99, _ => ⟨q_om_99, q_oc_99⟩
  | 100, _ => ⟨q_om_100, q_oc_100⟩
  | 101, _ => ⟨q_om_101, q_oc_101⟩
  | 102, _ => ⟨q_om_102, q_oc_102⟩
  | 103, _ => ⟨q_om_103, q_oc_103⟩
  | 104, _ => ⟨q_om_104, q_oc_104⟩
  | 105, _ => ⟨q_om_105, q_oc_105⟩
  | 106, _ => ⟨q_om_106, q_oc_106⟩
  | 107, _ => ⟨q_om_107, q_oc_107⟩
  | 108, _ => ⟨q_om_108, q_oc_108⟩
  | 109, _ => ⟨q_om_109, q_oc_109⟩
  | 110, _ => ⟨q_om_110, q_oc_110⟩
  | 111, _ => ⟨q_om_111, q_oc_111⟩
  | 112, _ => ⟨q_om_112, q_oc_112⟩
  | 113, _ => ⟨q_om_113, q_oc_113⟩
  | 114, _ => ⟨q_om_114, q_oc_114⟩
  | 115, _ => ⟨q_om_115, q_oc_115⟩
  | 116, _ => ⟨q_om_116, q_oc_116⟩
  | 117, _ => ⟨q_om_117, q_oc_117⟩
  | 118, _ => ⟨q_om_118, q_oc_118⟩
  | 119, _ => ⟨q_om_119, q_oc_119⟩
  | 120, _ => ⟨q_om_120, q_oc_120⟩
  | 121, _ => ⟨q_om_121, q_oc_121⟩
  | 122, _ => ⟨q_om_122, q_oc_122⟩
  | 123, _ => ⟨q_om_123, q_oc_123⟩
  | 124, _ => ⟨q_om_124, q_oc_124⟩
  | 125, _ => ⟨q_om_125, q_oc_125⟩
  | 126, _ => ⟨q_om_126, q_oc_126⟩
  | 127, _ => ⟨q_om_127, q_oc_127⟩
  | 128, _ => ⟨q_om_128, q_oc_128⟩
  | 129, _ => ⟨q_om_129, q_oc_129⟩
  | 130, _ => ⟨q_om_130, q_oc_130⟩
  | 131, _ => ⟨q_om_131, q_oc_131⟩
  | 132, _ => ⟨q_om_132, q_oc_132⟩
  | 133, _ => ⟨q_om_133, q_oc_133⟩
  | 134, _ => ⟨q_om_134, q_oc_134⟩
  | 135, _ => ⟨q_om_135, q_oc_135⟩
  | 136, _ => ⟨q_om_136, q_oc_136⟩
  | 137, _ => ⟨q_om_137, q_oc_137⟩
  | 138, _ => ⟨q_om_138, q_oc_138⟩
  | 139, _ => ⟨q_om_139, q_oc_139⟩
  | 140, _ => ⟨q_om_140, q_oc_140⟩
  | 141, _ => ⟨q_om_141, q_oc_141⟩
  | 142, _ => ⟨q_om_142, q_oc_142⟩
  | 143, _ => ⟨q_om_143, q_oc_143⟩
  | 144, _ => ⟨q_om_144, q_oc_144⟩
  | 145, _ => ⟨q_om_145, q_oc_145⟩
  | 146, _ => ⟨q_om_146, q_oc_146⟩
  | 147, _ => ⟨q_om_147, q_oc_147⟩
  | 148, _ => ⟨q_om_148, q_oc_148⟩
  | 149, _ => ⟨q_om_149, q_oc_149⟩
  | 150, _ => ⟨q_om_150, q_oc_150⟩
  | 151, _ => ⟨q_om_151, q_oc_151⟩
  | 152, _ => ⟨q_om_152, q_oc_152⟩
  | 153, _ => ⟨q_om_153, q_oc_153⟩
  | 154, _ => ⟨q_om_154, q_oc_154⟩
  | 155, _ => ⟨q_om_155, q_oc_155⟩
  | 156, _ => ⟨q_om_156, q_oc_156⟩
  | 157, _ => ⟨q_om_157, q_oc_157⟩
  | 158, _ => ⟨q_om_158, q_oc_158⟩
  | n + 159, h => absurd h (by omega)

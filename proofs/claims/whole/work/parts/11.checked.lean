set_option maxRecDepth 100000 in
theorem ch_0 : (il_0.all (fun q => in_ok mt_m 115 0 q.1 q.2)) = true := by decide +kernel
set_option maxRecDepth 100000 in
theorem ch_1 : (il_1.all (fun q => in_ok mt_m 115 1 q.1 q.2)) = true := by decide +kernel
set_option maxRecDepth 100000 in
theorem ch_2 : (il_2.all (fun q => in_ok mt_m 115 2 q.1 q.2)) = true := by decide +kernel
set_option maxRecDepth 100000 in
theorem ch_3 : (il_3.all (fun q => in_ok mt_m 115 3 q.1 q.2)) = true := by decide +kernel
set_option maxRecDepth 100000 in
theorem ch_4 : (il_4.all (fun q => in_ok mt_m 115 4 q.1 q.2)) = true := by decide +kernel
set_option maxRecDepth 100000 in
theorem ch_5 : (il_5.all (fun q => in_ok mt_m 115 5 q.1 q.2)) = true := by decide +kernel
set_option maxRecDepth 100000 in
theorem ch_6 : (il_6.all (fun q => in_ok mt_m 115 6 q.1 q.2)) = true := by decide +kernel
set_option maxRecDepth 100000 in
theorem ch_7 : (il_7.all (fun q => in_ok mt_m 115 7 q.1 q.2)) = true := by decide +kernel
set_option maxRecDepth 100000 in
theorem ch_8 : (il_8.all (fun q => in_ok mt_m 115 8 q.1 q.2)) = true := by decide +kernel
set_option maxRecDepth 100000 in
theorem ch_9 : (il_9.all (fun q => in_ok mt_m 115 9 q.1 q.2)) = true := by decide +kernel
set_option maxRecDepth 100000 in
theorem ch_10 : (il_10.all (fun q => in_ok mt_m 115 10 q.1 q.2)) = true := by decide +kernel
set_option maxRecDepth 100000 in
theorem ch_11 : (il_11.all (fun q => in_ok mt_m 115 11 q.1 q.2)) = true := by decide +kernel
set_option maxRecDepth 100000 in
theorem ch_12 : (il_12.all (fun q => in_ok mt_m 115 12 q.1 q.2)) = true := by decide +kernel
set_option maxRecDepth 100000 in
theorem ch_13 : (il_13.all (fun q => in_ok mt_m 115 13 q.1 q.2)) = true := by decide +kernel
set_option maxRecDepth 100000 in
theorem ch_14 : (il_14.all (fun q => in_ok mt_m 115 14 q.1 q.2)) = true := by decide +kernel
set_option maxRecDepth 100000 in
theorem ch_15 : (il_15.all (fun q => in_ok mt_m 115 15 q.1 q.2)) = true := by decide +kernel
set_option maxRecDepth 100000 in
theorem ch_16 : (il_16.all (fun q => in_ok mt_m 115 16 q.1 q.2)) = true := by decide +kernel
set_option maxRecDepth 100000 in
theorem ch_17 : (il_17.all (fun q => in_ok mt_m 115 17 q.1 q.2)) = true := by decide +kernel
set_option maxRecDepth 100000 in
theorem ch_18 : (il_18.all (fun q => in_ok mt_m 115 18 q.1 q.2)) = true := by decide +kernel
set_option maxRecDepth 100000 in
theorem ch_19 : (il_19.all (fun q => in_ok mt_m 115 19 q.1 q.2)) = true := by decide +kernel
set_option maxRecDepth 100000 in
theorem ch_20 : (il_20.all (fun q => in_ok mt_m 115 20 q.1 q.2)) = true := by decide +kernel
set_option maxRecDepth 100000 in
theorem ch_21 : (il_21.all (fun q => in_ok mt_m 115 21 q.1 q.2)) = true := by decide +kernel
set_option maxRecDepth 100000 in
theorem ch_22 : (il_22.all (fun q => in_ok mt_m 115 22 q.1 q.2)) = true := by decide +kernel
set_option maxRecDepth 100000 in
theorem ch_23 : (il_23.all (fun q => in_ok mt_m 115 23 q.1 q.2)) = true := by decide +kernel
set_option maxRecDepth 100000 in
theorem ch_24 : (il_24.all (fun q => in_ok mt_m 115 24 q.1 q.2)) = true := by decide +kernel
set_option maxRecDepth 100000 in
theorem ch_25 : (il_25.all (fun q => in_ok mt_m 115 25 q.1 q.2)) = true := by decide +kernel
set_option maxRecDepth 100000 in
theorem ch_26 : (il_26.all (fun q => in_ok mt_m 115 26 q.1 q.2)) = true := by decide +kernel
set_option maxRecDepth 100000 in
theorem ch_27 : (il_27.all (fun q => in_ok mt_m 115 27 q.1 q.2)) = true := by decide +kernel
set_option maxRecDepth 100000 in
theorem ch_28 : (il_28.all (fun q => in_ok mt_m 115 28 q.1 q.2)) = true := by decide +kernel
set_option maxRecDepth 100000 in
theorem ch_29 : (il_29.all (fun q => in_ok mt_m 115 29 q.1 q.2)) = true := by decide +kernel
set_option maxRecDepth 100000 in
theorem ch_30 : (il_30.all (fun q => in_ok mt_m 115 30 q.1 q.2)) = true := by decide +kernel
set_option maxRecDepth 100000 in
theorem ch_31 : (il_31.all (fun q => in_ok mt_m 115 31 q.1 q.2)) = true := by decide +kernel
set_option maxRecDepth 100000 in
theorem ch_32 : (il_32.all (fun q => in_ok mt_m 115 32 q.1 q.2)) = true := by decide +kernel
set_option maxRecDepth 100000 in
theorem ch_33 : (il_33.all (fun q => in_ok mt_m 115 33 q.1 q.2)) = true := by decide +kernel
set_option maxRecDepth 100000 in
theorem ch_34 : (il_34.all (fun q => in_ok mt_m 115 34 q.1 q.2)) = true := by decide +kernel
set_option maxRecDepth 100000 in
theorem ch_35 : (il_35.all (fun q => in_ok mt_m 115 35 q.1 q.2)) = true := by decide +kernel
set_option maxRecDepth 100000 in
theorem ch_36 : (il_36.all (fun q => in_ok mt_m 115 36 q.1 q.2)) = true := by decide +kernel
set_option maxRecDepth 100000 in
theorem ch_37 : (il_37.all (fun q => in_ok mt_m 115 37 q.1 q.2)) = true := by decide +kernel
set_option maxRecDepth 100000 in
theorem ch_38 : (il_38.all (fun q => in_ok mt_m 115 38 q.1 q.2)) = true := by decide +kernel
set_option maxRecDepth 100000 in
theorem ch_39 : (il_39.all (fun q => in_ok mt_m 115 39 q.1 q.2)) = true := by decide +kernel
set_option maxRecDepth 100000 in
theorem ch_40 : (il_40.all (fun q => in_ok mt_m 115 40 q.1 q.2)) = true := by decide +kernel
set_option maxRecDepth 100000 in
theorem ch_41 : (il_41.all (fun q => in_ok mt_m 115 41 q.1 q.2)) = true := by decide +kernel
set_option maxRecDepth 100000 in
theorem ch_42 : (il_42.all (fun q => in_ok mt_m 115 42 q.1 q.2)) = true := by decide +kernel
set_option maxRecDepth 100000 in
theorem ch_43 : (il_43.all (fun q => in_ok mt_m 115 43 q.1 q.2)) = true := by decide +kernel
set_option maxRecDepth 100000 in
theorem ch_44 : (il_44.all (fun q => in_ok mt_m 115 44 q.1 q.2)) = true := by decide +kernel
set_option maxRecDepth 100000 in
theorem ch_45 : (il_45.all (fun q => in_ok mt_m 115 45 q.1 q.2)) = true := by decide +kernel
set_option maxRecDepth 100000 in
theorem ch_46 : (il_46.all (fun q => in_ok mt_m 115 46 q.1 q.2)) = true := by decide +kernel
set_option maxRecDepth 100000 in
theorem ch_47 : (il_47.all (fun q => in_ok mt_m 115 47 q.1 q.2)) = true := by decide +kernel
set_option maxRecDepth 100000 in
theorem ch_48 : (il_48.all (fun q => in_ok mt_m 115 48 q.1 q.2)) = true := by decide +kernel
set_option maxRecDepth 100000 in
theorem ch_49 : (il_49.all (fun q => in_ok mt_m 115 49 q.1 q.2)) = true := by decide +kernel
set_option maxRecDepth 100000 in
theorem ch_50 : (il_50.all (fun q => in_ok mt_m 115 50 q.1 q.2)) = true := by decide +kernel
set_option maxRecDepth 100000 in
theorem ch_51 : (il_51.all (fun q => in_ok mt_m 115 51 q.1 q.2)) = true := by decide +kernel
set_option maxRecDepth 100000 in
theorem ch_52 : (il_52.all (fun q => in_ok mt_m 115 52 q.1 q.2)) = true := by decide +kernel
set_option maxRecDepth 100000 in
theorem ch_53 : (il_53.all (fun q => in_ok mt_m 115 53 q.1 q.2)) = true := by decide +kernel
set_option maxRecDepth 100000 in
theorem ch_54 : (il_54.all (fun q => in_ok mt_m 115 54 q.1 q.2)) = true := by decide +kernel
set_option maxRecDepth 100000 in
theorem ch_55 : (il_55.all (fun q => in_ok mt_m 115 55 q.1 q.2)) = true := by decide +kernel
set_option maxRecDepth 100000 in
theorem ch_56 : (il_56.all (fun q => in_ok mt_m 115 56 q.1 q.2)) = true := by decide +kernel
set_option maxRecDepth 100000 in
theorem ch_57 : (il_57.all (fun q => in_ok mt_m 115 57 q.1 q.2)) = true := by decide +kernel
set_option maxRecDepth 100000 in
theorem ch_58 : (il_58.all (fun q => in_ok mt_m 115 58 q.1 q.2)) = true := by decide +kernel
set_option maxRecDepth 100000 in
theorem ch_59 : (il_59.all (fun q => in_ok mt_m 115 59 q.1 q.2)) = true := by decide +kernel
set_option maxRecDepth 100000 in
theorem ch_60 : (il_60.all (fun q => in_ok mt_m 115 60 q.1 q.2)) = true := by decide +kernel
set_option maxRecDepth 100000 in
theorem ch_61 : (il_61.all (fun q => in_ok mt_m 115 61 q.1 q.2)) = true := by decide +kernel
set_option maxRecDepth 100000 in
theorem ch_62 : (il_62.all (fun q => in_ok mt_m 115 62 q.1 q.2)) = true := by decide +kernel
set_option maxRecDepth 100000 in
theorem ch_63 : (il_63.all (fun q => in_ok mt_m 115 63 q.1 q.2)) = true := by decide +kernel
set_option maxRecDepth 100000 in
theorem ch_64 : (il_64.all (fun q => in_ok mt_m 115 64 q.1 q.2)) = true := by decide +kernel
set_option maxRecDepth 100000 in
theorem ch_65 : (il_65.all (fun q => in_ok mt_m 115 65 q.1 q.2)) = true := by decide +kernel
set_option maxRecDepth 100000 in
theorem ch_66 : (il_66.all (fun q => in_ok mt_m 115 66 q.1 q.2)) = true := by decide +kernel
set_option maxRecDepth 100000 in
theorem ch_67 : (il_67.all (fun q => in_ok mt_m 115 67 q.1 q.2)) = true := by decide +kernel
set_option maxRecDepth 100000 in
theorem ch_68 : (il_68.all (fun q => in_ok mt_m 115 68 q.1 q.2)) = true := by decide +kernel
set_option maxRecDepth 100000 in
theorem ch_69 : (il_69.all (fun q => in_ok mt_m 115 69 q.1 q.2)) = true := by decide +kernel
set_option maxRecDepth 100000 in
theorem ch_70 : (il_70.all (fun q => in_ok mt_m 115 70 q.1 q.2)) = true := by decide +kernel
set_option maxRecDepth 100000 in
theorem ch_71 : (il_71.all (fun q => in_ok mt_m 115 71 q.1 q.2)) = true := by decide +kernel
set_option maxRecDepth 100000 in
theorem ch_72 : (il_72.all (fun q => in_ok mt_m 115 72 q.1 q.2)) = true := by decide +kernel
set_option maxRecDepth 100000 in
theorem ch_73 : (il_73.all (fun q => in_ok mt_m 115 73 q.1 q.2)) = true := by decide +kernel
set_option maxRecDepth 100000 in
theorem ch_74 : (il_74.all (fun q => in_ok mt_m 115 74 q.1 q.2)) = true := by decide +kernel
set_option maxRecDepth 100000 in
theorem ch_75 : (il_75.all (fun q => in_ok mt_m 115 75 q.1 q.2)) = true := by decide +kernel
set_option maxRecDepth 100000 in
theorem ch_76 : (il_76.all (fun q => in_ok mt_m 115 76 q.1 q.2)) = true := by decide +kernel
set_option maxRecDepth 100000 in
theorem ch_77 : (il_77.all (fun q => in_ok mt_m 115 77 q.1 q.2)) = true := by decide +kernel
set_option maxRecDepth 100000 in
theorem ch_78 : (il_78.all (fun q => in_ok mt_m 115 78 q.1 q.2)) = true := by decide +kernel
set_option maxRecDepth 100000 in
theorem ch_79 : (il_79.all (fun q => in_ok mt_m 115 79 q.1 q.2)) = true := by decide +kernel
set_option maxRecDepth 100000 in
theorem ch_80 : (il_80.all (fun q => in_ok mt_m 115 80 q.1 q.2)) = true := by decide +kernel
set_option maxRecDepth 100000 in
theorem ch_81 : (il_81.all (fun q => in_ok mt_m 115 81 q.1 q.2)) = true := by decide +kernel
set_option maxRecDepth 100000 in
theorem ch_82 : (il_82.all (fun q => in_ok mt_m 115 82 q.1 q.2)) = true := by decide +kernel
set_option maxRecDepth 100000 in
theorem ch_83 : (il_83.all (fun q => in_ok mt_m 115 83 q.1 q.2)) = true := by decide +kernel
set_option maxRecDepth 100000 in
theorem ch_84 : (il_84.all (fun q => in_ok mt_m 115 84 q.1 q.2)) = true := by decide +kernel
set_option maxRecDepth 100000 in
theorem ch_85 : (il_85.all (fun q => in_ok mt_m 115 85 q.1 q.2)) = true := by decide +kernel
set_option maxRecDepth 100000 in
theorem ch_86 : (il_86.all (fun q => in_ok mt_m 115 86 q.1 q.2)) = true := by decide +kernel
set_option maxRecDepth 100000 in
theorem ch_87 : (il_87.all (fun q => in_ok mt_m 115 87 q.1 q.2)) = true := by decide +kernel
set_option maxRecDepth 100000 in
theorem ch_88 : (il_88.all (fun q => in_ok mt_m 115 88 q.1 q.2)) = true := by decide +kernel
set_option maxRecDepth 100000 in
theorem ch_89 : (il_89.all (fun q => in_ok mt_m 115 89 q.1 q.2)) = true := by decide +kernel
set_option maxRecDepth 100000 in
theorem ch_90 : (il_90.all (fun q => in_ok mt_m 115 90 q.1 q.2)) = true := by decide +kernel
set_option maxRecDepth 100000 in
theorem ch_91 : (il_91.all (fun q => in_ok mt_m 115 91 q.1 q.2)) = true := by decide +kernel
set_option maxRecDepth 100000 in
theorem ch_92 : (il_92.all (fun q => in_ok mt_m 115 92 q.1 q.2)) = true := by decide +kernel
set_option maxRecDepth 100000 in
theorem ch_93 : (il_93.all (fun q => in_ok mt_m 115 93 q.1 q.2)) = true := by decide +kernel
set_option maxRecDepth 100000 in
theorem ch_94 : (il_94.all (fun q => in_ok mt_m 115 94 q.1 q.2)) = true := by decide +kernel
set_option maxRecDepth 100000 in
theorem ch_95 : (il_95.all (fun q => in_ok mt_m 115 95 q.1 q.2)) = true := by decide +kernel
set_option maxRecDepth 100000 in
theorem ch_96 : (il_96.all (fun q => in_ok mt_m 115 96 q.1 q.2)) = true := by decide +kernel
set_option maxRecDepth 100000 in
theorem ch_97 : (il_97.all (fun q => in_ok mt_m 115 97 q.1 q.2)) = true := by decide +kernel
set_option maxRecDepth 100000 in
theorem ch_98 : (il_98.all (fun q => in_ok mt_m 115 98 q.1 q.2)) = true := by decide +kernel
set_option maxRecDepth 100000 in
theorem ch_99 : (il_99.all (fun q => in_ok mt_m 115 99 q.1 q.2)) = true := by decide +kernel
set_option maxRecDepth 100000 in
theorem ch_100 : (il_100.all (fun q => in_ok mt_m 115 100 q.1 q.2)) = true := by decide +kernel
set_option maxRecDepth 100000 in
theorem ch_101 : (il_101.all (fun q => in_ok mt_m 115 101 q.1 q.2)) = true := by decide +kernel
set_option maxRecDepth 100000 in
theorem ch_102 : (il_102.all (fun q => in_ok mt_m 115 102 q.1 q.2)) = true := by decide +kernel
set_option maxRecDepth 100000 in
theorem ch_103 : (il_103.all (fun q => in_ok mt_m 115 103 q.1 q.2)) = true := by decide +kernel
set_option maxRecDepth 100000 in
theorem ch_104 : (il_104.all (fun q => in_ok mt_m 115 104 q.1 q.2)) = true := by decide +kernel
set_option maxRecDepth 100000 in
theorem ch_105 : (il_105.all (fun q => in_ok mt_m 115 105 q.1 q.2)) = true := by decide +kernel
set_option maxRecDepth 100000 in
theorem ch_106 : (il_106.all (fun q => in_ok mt_m 115 106 q.1 q.2)) = true := by decide +kernel
set_option maxRecDepth 100000 in
theorem ch_107 : (il_107.all (fun q => in_ok mt_m 115 107 q.1 q.2)) = true := by decide +kernel
set_option maxRecDepth 100000 in
theorem ch_108 : (il_108.all (fun q => in_ok mt_m 115 108 q.1 q.2)) = true := by decide +kernel
set_option maxRecDepth 100000 in
theorem ch_109 : (il_109.all (fun q => in_ok mt_m 115 109 q.1 q.2)) = true := by decide +kernel
set_option maxRecDepth 100000 in
theorem ch_110 : (il_110.all (fun q => in_ok mt_m 115 110 q.1 q.2)) = true := by decide +kernel
set_option maxRecDepth 100000 in
theorem ch_111 : (il_111.all (fun q => in_ok mt_m 115 111 q.1 q.2)) = true := by decide +kernel
set_option maxRecDepth 100000 in
theorem ch_112 : (il_112.all (fun q => in_ok mt_m 115 112 q.1 q.2)) = true := by decide +kernel
set_option maxRecDepth 100000 in
theorem ch_113 : (il_113.all (fun q => in_ok mt_m 115 113 q.1 q.2)) = true := by decide +kernel
set_option maxRecDepth 100000 in
theorem ch_114 : (il_114.all (fun q => in_ok mt_m 115 114 q.1 q.2)) = true := by decide +kernel
theorem ch_all : ∀ i, i < 115 → (((il_l[i]?).getD []).all (fun q => in_ok mt_m 115 i q.1 q.2)) = true := fun j => match j with
  | 0 => fun _ => ch_0
  | 1 => fun _ => ch_1
  | 2 => fun _ => ch_2
  | 3 => fun _ => ch_3
  | 4 => fun _ => ch_4
  | 5 => fun _ => ch_5
  | 6 => fun _ => ch_6
  | 7 => fun _ => ch_7
  | 8 => fun _ => ch_8
  | 9 => fun _ => ch_9
  | 10 => fun _ => ch_10
  | 11 => fun _ => ch_11
  | 12 => fun _ => ch_12
  | 13 => fun _ => ch_13
  | 14 => fun _ => ch_14
  | 15 => fun _ => ch_15
  | 16 => fun _ => ch_16
  | 17 => fun _ => ch_17
  | 18 => fun _ => ch_18
  | 19 => fun _ => ch_19
  | 20 => fun _ => ch_20
  | 21 => fun _ => ch_21
  | 22 => fun _ => ch_22
  | 23 => fun _ => ch_23
  | 24 => fun _ => ch_24
  | 25 => fun _ => ch_25
  | 26 => fun _ => ch_26
  | 27 => fun _ => ch_27
  | 28 => fun _ => ch_28
  | 29 => fun _ => ch_29
  | 30 => fun _ => ch_30
  | 31 => fun _ => ch_31
  | 32 => fun _ => ch_32
  | 33 => fun _ => ch_33
  | 34 => fun _ => ch_34
  | 35 => fun _ => ch_35
  | 36 => fun _ => ch_36
  | 37 => fun _ => ch_37
  | 38 => fun _ => ch_38
  | 39 => fun _ => ch_39
  | 40 => fun _ => ch_40
  | 41 => fun _ => ch_41
  | 42 => fun _ => ch_42
  | 43 => fun _ => ch_43
  | 44 => fun _ => ch_44
  | 45 => fun _ => ch_45
  | 46 => fun _ => ch_46
  | 47 => fun _ => ch_47
  | 48 => fun _ => ch_48
  | 49 => fun _ => ch_49
  | 50 => fun _ => ch_50
  | 51 => fun _ => ch_51
  | 52 => fun _ => ch_52
  | 53 => fun _ => ch_53
  | 54 => fun _ => ch_54
  | 55 => fun _ => ch_55
  | 56 => fun _ => ch_56
  | 57 => fun _ => ch_57
  | 58 => fun _ => ch_58
  | 59 => fun _ => ch_59
  | 60 => fun _ => ch_60
  | 61 => fun _ => ch_61
  | 62 => fun _ => ch_62
  | 63 => fun _ => ch_63
  | 64 => fun _ => ch_64
  | 65 => fun _ => ch_65
  | 66 => fun _ => ch_66
  | 67 => fun _ => ch_67
  | 68 => fun _ => ch_68
  | 69 => fun _ => ch_69
  | 70 => fun _ => ch_70
  | 71 => fun _ => ch_71
  | 72 => fun _ => ch_72
  | 73 => fun _ => ch_73
  | 74 => fun _ => ch_74
  | 75 => fun _ => ch_75
  | 76 => fun _ => ch_76
  | 77 => fun _ => ch_77
  | 78 => fun _ => ch_78
  | 79 => fun _ => ch_79
  | 80 => fun _ => ch_80
  | 81 => fun _ => ch_81
  | 82 => fun _ => ch_82
  | 83 => fun _ => ch_83
  | 84 => fun _ => ch_84
  | 85 => fun _ => ch_85
  | 86 => fun _ => ch_86
  | 87 => fun _ => ch_87
  | 88 => fun _ => ch_88
  | 89 => fun _ => ch_89
  | 90 => fun _ => ch_90
  | 91 => fun _ => ch_91
  | 92 => fun _ => ch_92
  | 93 => fun _ => ch_93
  | 94 => fun _ => ch_94
  | 95 => fun _ => ch_95
  | 96 => fun _ => ch_96
  | 97 => fun _ => ch_97
  | 98 => fun _ => ch_98
  | 99 => fun _ => ch_99
  | 100 => fun _ => ch_100
  | 101 => fun _ => ch_101
  | 102 => fun _ => ch_102
  | 103 => fun _ => ch_103
  | 104 => fun _ => ch_104
  | 105 => fun _ => ch_105
  | 106 => fun _ => ch_106
  | 107 => fun _ => ch_107
  | 108 => fun _ => ch_108
  | 109 => fun _ => ch_109
  | 110 => fun _ => ch_110
  | 111 => fun _ => ch_111
  | 112 => fun _ => ch_112
  | 113 => fun _ => ch_113
  | 114 => fun _ => ch_114
  | n + 115 => fun h => absurd h (by omega)
theorem ft_ok (i pc : Nat) (q : Ins) (hi : i < 115) (h : ft_m i pc = some q) : in_ok mt_m 115 i pc q = true := by
  unfold ft_m at h
  cases hf : ((il_l[i]?).getD []).find? (fun q => q.1 == pc) with
  | none => rw [hf] at h; cases h
  | some z =>
    rw [hf] at h
    have e1 : z.2 = q := Option.some.inj h
    have e2 : z.1 = pc := by have := List.find?_some hf; simpa using this
    have := List.all_eq_true.mp (ch_all i hi) z (List.mem_of_find?_eq_some hf)
    rw [e1, e2] at this
    exact this
/-- the rest of method i from pc on -/
noncomputable def rn (i pc : Nat) (lv : LVs) (st : List Value) (mem : Mem) : Option Rs := rn_o mt_m ft_m i pc lv st mem
/-- a call of method j -/
noncomputable def cl (j : Nat) (as : List Value) (mem : Mem) : Option Rs := rn j 0 (pad_v (mt_m j).2.2.1 as) [] mem
theorem met_c (l : Launch) (D : va_G) (dA : Nat → ClassId) (A : Nat → Prop) {j : Nat} {as : List Value} {mem mem' : Mem} {r : Option Value} (hj : j < 115) (hc : cs_v as ≤ (mt_m j).2.2.1) (h : cl j as mem = some (r, mem')) :
    Met l (mt_m j).1 (Cond.code (mt_m j).1 (mt_m j).2.1 (mt_m j).2.2.1 (mt_m j).2.2.2.1 :: gw_m) (rm_m mt_m j) (pc_m D dA A as mem) (qm_m D dA A r mem') 0 0 A := met_m ft_ok me_all sys_m l D dA A hj hc h

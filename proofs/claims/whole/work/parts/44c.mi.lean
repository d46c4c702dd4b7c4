theorem fk_X12_1 : fty 14 1 = 2 := by decide
theorem fk_X12_2 : fty 14 2 = 2 := by decide
theorem fk_X12_3 : fty 14 3 = 2 := by decide
theorem fk_X12_4 : fty 14 4 = 2 := by decide
theorem fk_X12_5 : fty 14 5 = 2 := by decide
theorem fk_X12_6 : fty 14 6 = 2 := by decide
theorem fk_X12_7 : fty 14 7 = 2 := by decide
theorem fk_X12_8 : fty 14 8 = 2 := by decide
theorem fk_X12_9 : fty 14 9 = 2 := by decide
theorem fk_X12_10 : fty 14 10 = 2 := by decide
theorem fk_X12_11 : fty 14 11 = 2 := by decide
theorem fk_X12_12 : fty 14 12 = 2 := by decide
theorem fk_X12_13 : fty 14 13 = 2 := by decide
theorem fk_X12_14 : fty 14 14 = 2 := by decide
theorem fk_X12_15 : fty 14 15 = 2 := by decide
theorem fk_X12_16 : fty 14 16 = 2 := by decide
theorem fk_X12_17 : fty 14 17 = 2 := by decide
theorem fk_X12_18 : fty 14 18 = 2 := by decide
theorem fk_X12_19 : fty 14 19 = 2 := by decide
theorem fk_X12_20 : fty 14 20 = 2 := by decide
theorem fk_X12_21 : fty 14 21 = 2 := by decide
theorem fk_X12_22 : fty 14 22 = 2 := by decide
theorem fk_X12_23 : fty 14 23 = 2 := by decide
theorem fk_X12_24 : fty 14 24 = 2 := by decide
theorem fk_X12_25 : fty 14 25 = 2 := by decide
theorem fk_X12_26 : fty 14 26 = 2 := by decide
theorem fk_X12_27 : fty 14 27 = 2 := by decide
theorem fk_X12_28 : fty 14 28 = 2 := by decide
theorem fk_X12_29 : fty 14 29 = 2 := by decide
theorem fk_X12_30 : fty 14 30 = 2 := by decide
theorem fk_X12_31 : fty 14 31 = 2 := by decide
theorem fk_X12_32 : fty 14 32 = 2 := by decide
theorem fk_X12_33 : fty 14 33 = 2 := by decide
theorem fk_X12_34 : fty 14 34 = 2 := by decide
theorem fk_X12_35 : fty 14 35 = 2 := by decide
theorem fk_X12_36 : fty 14 36 = 2 := by decide
theorem fk_X12_37 : fty 14 37 = 2 := by decide
theorem fk_X12_38 : fty 14 38 = 2 := by decide
theorem fk_X12_39 : fty 14 39 = 2 := by decide
theorem fk_X12_40 : fty 14 40 = 2 := by decide
theorem fk_X12_41 : fty 14 41 = 2 := by decide
theorem fk_X12_42 : fty 14 42 = 2 := by decide
theorem fk_X12_43 : fty 14 43 = 2 := by decide
theorem fk_X12_44 : fty 14 44 = 2 := by decide
theorem fk_X12_45 : fty 14 45 = 2 := by decide
theorem fk_X12_46 : fty 14 46 = 2 := by decide
theorem fk_X12_47 : fty 14 47 = 2 := by decide
theorem fk_X12_48 : fty 14 48 = 2 := by decide
theorem fk_X12_49 : fty 14 49 = 2 := by decide
theorem fk_X12_50 : fty 14 50 = 2 := by decide
theorem fk_X12_51 : fty 14 51 = 2 := by decide
theorem fk_X12_52 : fty 14 52 = 2 := by decide
theorem fk_X12_53 : fty 14 53 = 2 := by decide
theorem fk_X12_54 : fty 14 54 = 2 := by decide
theorem fk_X12_55 : fty 14 55 = 2 := by decide
theorem fk_X12_56 : fty 14 56 = 2 := by decide
theorem fk_X12_57 : fty 14 57 = 2 := by decide
theorem fk_X12_58 : fty 14 58 = 2 := by decide
theorem fk_X12_59 : fty 14 59 = 2 := by decide
theorem fk_X12_60 : fty 14 60 = 2 := by decide
theorem fk_X12_61 : fty 14 61 = 2 := by decide
theorem fk_X12_62 : fty 14 62 = 2 := by decide
theorem fk_X12_63 : fty 14 63 = 2 := by decide
theorem fk_X12_64 : fty 14 64 = 2 := by decide
theorem fk_X12_82 : fty 14 82 = 2 := by decide
theorem fk_X12_83 : fty 14 83 = 2 := by decide
theorem fk_X12_84 : fty 14 84 = 2 := by decide
theorem fk_X12_85 : fty 14 85 = 2 := by decide
theorem fk_X12_86 : fty 14 86 = 2 := by decide
theorem fk_X12_88 : fty 14 88 = 2 := by decide
theorem fk_X12_90 : fty 14 90 = 2 := by decide
theorem fk_X12_92 : fty 14 92 = 2 := by decide
theorem fk_X12_93 : fty 14 93 = 2 := by decide
theorem fk_X12_94 : fty 14 94 = 2 := by decide
theorem fk_X12_95 : fty 14 95 = 2 := by decide
theorem fk_X12_96 : fty 14 96 = 2 := by decide
theorem fk_X12_97 : fty 14 97 = 2 := by decide
theorem ft_X12_1 : parseFieldDescriptor (TX12 1).2.2.1 = some (.array .boolean) := by decide +kernel
theorem ft_X12_2 : parseFieldDescriptor (TX12 2).2.2.1 = some (.array .boolean) := by decide +kernel
theorem ft_X12_3 : parseFieldDescriptor (TX12 3).2.2.1 = some (.array .int) := by decide +kernel
theorem ft_X12_4 : parseFieldDescriptor (TX12 4).2.2.1 = some (.array .byte) := by decide +kernel
theorem ft_X12_5 : parseFieldDescriptor (TX12 5).2.2.1 = some (.array .int) := by decide +kernel
theorem ft_X12_6 : parseFieldDescriptor (TX12 6).2.2.1 = some (.array .byte) := by decide +kernel
theorem ft_X12_7 : parseFieldDescriptor (TX12 7).2.2.1 = some (.array .int) := by decide +kernel
theorem ft_X12_8 : parseFieldDescriptor (TX12 8).2.2.1 = some (.array .int) := by decide +kernel
theorem ft_X12_9 : parseFieldDescriptor (TX12 9).2.2.1 = some (.array .int) := by decide +kernel
theorem ft_X12_10 : parseFieldDescriptor (TX12 10).2.2.1 = some (.array .byte) := by decide +kernel
theorem ft_X12_11 : parseFieldDescriptor (TX12 11).2.2.1 = some (.array .boolean) := by decide +kernel
theorem ft_X12_12 : parseFieldDescriptor (TX12 12).2.2.1 = some (.array .int) := by decide +kernel
theorem ft_X12_13 : parseFieldDescriptor (TX12 13).2.2.1 = some (.array .int) := by decide +kernel
theorem ft_X12_14 : parseFieldDescriptor (TX12 14).2.2.1 = some (.array .byte) := by decide +kernel
theorem ft_X12_15 : parseFieldDescriptor (TX12 15).2.2.1 = some (.array .int) := by decide +kernel
theorem ft_X12_16 : parseFieldDescriptor (TX12 16).2.2.1 = some (.array .long) := by decide +kernel
theorem ft_X12_17 : parseFieldDescriptor (TX12 17).2.2.1 = some (.array .int) := by decide +kernel
theorem ft_X12_18 : parseFieldDescriptor (TX12 18).2.2.1 = some (.array .long) := by decide +kernel
theorem ft_X12_19 : parseFieldDescriptor (TX12 19).2.2.1 = some (.array .int) := by decide +kernel
theorem ft_X12_20 : parseFieldDescriptor (TX12 20).2.2.1 = some (.array .int) := by decide +kernel
theorem ft_X12_21 : parseFieldDescriptor (TX12 21).2.2.1 = some (.array .long) := by decide +kernel
theorem ft_X12_22 : parseFieldDescriptor (TX12 22).2.2.1 = some (.array .long) := by decide +kernel
theorem ft_X12_23 : parseFieldDescriptor (TX12 23).2.2.1 = some (.array .long) := by decide +kernel
theorem ft_X12_24 : parseFieldDescriptor (TX12 24).2.2.1 = some (.array .int) := by decide +kernel
theorem ft_X12_25 : parseFieldDescriptor (TX12 25).2.2.1 = some (.array .int) := by decide +kernel
theorem ft_X12_26 : parseFieldDescriptor (TX12 26).2.2.1 = some (.array .byte) := by decide +kernel
theorem ft_X12_27 : parseFieldDescriptor (TX12 27).2.2.1 = some (.array .int) := by decide +kernel
theorem ft_X12_28 : parseFieldDescriptor (TX12 28).2.2.1 = some (.array .int) := by decide +kernel
theorem ft_X12_29 : parseFieldDescriptor (TX12 29).2.2.1 = some (.array .int) := by decide +kernel
theorem ft_X12_30 : parseFieldDescriptor (TX12 30).2.2.1 = some (.array .int) := by decide +kernel
theorem ft_X12_31 : parseFieldDescriptor (TX12 31).2.2.1 = some (.array .int) := by decide +kernel
theorem ft_X12_32 : parseFieldDescriptor (TX12 32).2.2.1 = some (.array .int) := by decide +kernel
theorem ft_X12_33 : parseFieldDescriptor (TX12 33).2.2.1 = some (.array .int) := by decide +kernel
theorem ft_X12_34 : parseFieldDescriptor (TX12 34).2.2.1 = some (.array .int) := by decide +kernel
theorem ft_X12_35 : parseFieldDescriptor (TX12 35).2.2.1 = some (.array .int) := by decide +kernel
theorem ft_X12_36 : parseFieldDescriptor (TX12 36).2.2.1 = some (.array .int) := by decide +kernel
theorem ft_X12_37 : parseFieldDescriptor (TX12 37).2.2.1 = some (.array .boolean) := by decide +kernel
theorem ft_X12_38 : parseFieldDescriptor (TX12 38).2.2.1 = some (.array .int) := by decide +kernel
theorem ft_X12_39 : parseFieldDescriptor (TX12 39).2.2.1 = some (.array .int) := by decide +kernel
theorem ft_X12_40 : parseFieldDescriptor (TX12 40).2.2.1 = some (.array .int) := by decide +kernel
theorem ft_X12_41 : parseFieldDescriptor (TX12 41).2.2.1 = some (.array .int) := by decide +kernel
theorem ft_X12_42 : parseFieldDescriptor (TX12 42).2.2.1 = some (.array .int) := by decide +kernel
theorem ft_X12_43 : parseFieldDescriptor (TX12 43).2.2.1 = some (.array .int) := by decide +kernel
theorem ft_X12_44 : parseFieldDescriptor (TX12 44).2.2.1 = some (.array .int) := by decide +kernel
theorem ft_X12_45 : parseFieldDescriptor (TX12 45).2.2.1 = some (.array .byte) := by decide +kernel
theorem ft_X12_46 : parseFieldDescriptor (TX12 46).2.2.1 = some (.array .int) := by decide +kernel
theorem ft_X12_47 : parseFieldDescriptor (TX12 47).2.2.1 = some (.array .int) := by decide +kernel
theorem ft_X12_48 : parseFieldDescriptor (TX12 48).2.2.1 = some (.array .int) := by decide +kernel
theorem ft_X12_49 : parseFieldDescriptor (TX12 49).2.2.1 = some (.array .int) := by decide +kernel
theorem ft_X12_50 : parseFieldDescriptor (TX12 50).2.2.1 = some (.array .long) := by decide +kernel
theorem ft_X12_51 : parseFieldDescriptor (TX12 51).2.2.1 = some (.array .int) := by decide +kernel
theorem ft_X12_52 : parseFieldDescriptor (TX12 52).2.2.1 = some (.array .int) := by decide +kernel
theorem ft_X12_53 : parseFieldDescriptor (TX12 53).2.2.1 = some (.array .int) := by decide +kernel
theorem ft_X12_54 : parseFieldDescriptor (TX12 54).2.2.1 = some (.array .int) := by decide +kernel
theorem ft_X12_55 : parseFieldDescriptor (TX12 55).2.2.1 = some (.array .int) := by decide +kernel
theorem ft_X12_56 : parseFieldDescriptor (TX12 56).2.2.1 = some (.array .int) := by decide +kernel
theorem ft_X12_57 : parseFieldDescriptor (TX12 57).2.2.1 = some (.array .int) := by decide +kernel
theorem ft_X12_58 : parseFieldDescriptor (TX12 58).2.2.1 = some (.array .int) := by decide +kernel
theorem ft_X12_59 : parseFieldDescriptor (TX12 59).2.2.1 = some (.array .int) := by decide +kernel
theorem ft_X12_60 : parseFieldDescriptor (TX12 60).2.2.1 = some (.array .int) := by decide +kernel
theorem ft_X12_61 : parseFieldDescriptor (TX12 61).2.2.1 = some (.array .int) := by decide +kernel
theorem ft_X12_62 : parseFieldDescriptor (TX12 62).2.2.1 = some (.array .int) := by decide +kernel
theorem ft_X12_63 : parseFieldDescriptor (TX12 63).2.2.1 = some (.array .boolean) := by decide +kernel
theorem ft_X12_64 : parseFieldDescriptor (TX12 64).2.2.1 = some (.array .int) := by decide +kernel
theorem ft_X12_82 : parseFieldDescriptor (TX12 82).2.2.1 = some (.array .boolean) := by decide +kernel
theorem ft_X12_83 : parseFieldDescriptor (TX12 83).2.2.1 = some (.array .long) := by decide +kernel
theorem ft_X12_84 : parseFieldDescriptor (TX12 84).2.2.1 = some (.array .int) := by decide +kernel
theorem ft_X12_85 : parseFieldDescriptor (TX12 85).2.2.1 = some (.array .int) := by decide +kernel
theorem ft_X12_86 : parseFieldDescriptor (TX12 86).2.2.1 = some (.array .byte) := by decide +kernel
theorem ft_X12_88 : parseFieldDescriptor (TX12 88).2.2.1 = some (.array .byte) := by decide +kernel
theorem ft_X12_90 : parseFieldDescriptor (TX12 90).2.2.1 = some (.array .byte) := by decide +kernel
theorem ft_X12_92 : parseFieldDescriptor (TX12 92).2.2.1 = some (.array .int) := by decide +kernel
theorem ft_X12_93 : parseFieldDescriptor (TX12 93).2.2.1 = some (.array .int) := by decide +kernel
theorem ft_X12_94 : parseFieldDescriptor (TX12 94).2.2.1 = some (.array .int) := by decide +kernel
theorem ft_X12_95 : parseFieldDescriptor (TX12 95).2.2.1 = some (.array .int) := by decide +kernel
theorem ft_X12_96 : parseFieldDescriptor (TX12 96).2.2.1 = some (.array .boolean) := by decide +kernel
theorem ft_X12_97 : parseFieldDescriptor (TX12 97).2.2.1 = some (.array .byte) := by decide +kernel
theorem cf_X12_101 : Cond.fieldLink RX12 101 (TX12 29).1 (TX12 29).2.1 (TX12 29).2.2.1 ∈ TB := tw_1599
theorem cf_X12_104 : Cond.fieldLink RX12 104 (TX12 30).1 (TX12 30).2.1 (TX12 30).2.2.1 ∈ TB := tw_1600
theorem cf_X12_107 : Cond.fieldLink RX12 107 (TX12 31).1 (TX12 31).2.1 (TX12 31).2.2.1 ∈ TB := tw_1601
theorem cf_X12_110 : Cond.fieldLink RX12 110 (TX12 32).1 (TX12 32).2.1 (TX12 32).2.2.1 ∈ TB := tw_1602
theorem cf_X12_113 : Cond.fieldLink RX12 113 (TX12 33).1 (TX12 33).2.1 (TX12 33).2.2.1 ∈ TB := tw_1603
theorem cf_X12_116 : Cond.fieldLink RX12 116 (TX12 34).1 (TX12 34).2.1 (TX12 34).2.2.1 ∈ TB := tw_1604
theorem cf_X12_119 : Cond.fieldLink RX12 119 (TX12 35).1 (TX12 35).2.1 (TX12 35).2.2.1 ∈ TB := tw_1605
theorem cf_X12_122 : Cond.fieldLink RX12 122 (TX12 36).1 (TX12 36).2.1 (TX12 36).2.2.1 ∈ TB := tw_1606
theorem cf_X12_125 : Cond.fieldLink RX12 125 (TX12 37).1 (TX12 37).2.1 (TX12 37).2.2.1 ∈ TB := tw_1607
theorem cf_X12_128 : Cond.fieldLink RX12 128 (TX12 38).1 (TX12 38).2.1 (TX12 38).2.2.1 ∈ TB := tw_1608
theorem cf_X12_13 : Cond.fieldLink RX12 13 (TX12 1).1 (TX12 1).2.1 (TX12 1).2.2.1 ∈ TB := tw_1571
theorem cf_X12_131 : Cond.fieldLink RX12 131 (TX12 39).1 (TX12 39).2.1 (TX12 39).2.2.1 ∈ TB := tw_1609
theorem cf_X12_134 : Cond.fieldLink RX12 134 (TX12 40).1 (TX12 40).2.1 (TX12 40).2.2.1 ∈ TB := tw_1610
theorem cf_X12_137 : Cond.fieldLink RX12 137 (TX12 41).1 (TX12 41).2.1 (TX12 41).2.2.1 ∈ TB := tw_1611
theorem cf_X12_140 : Cond.fieldLink RX12 140 (TX12 42).1 (TX12 42).2.1 (TX12 42).2.2.1 ∈ TB := tw_1612
theorem cf_X12_143 : Cond.fieldLink RX12 143 (TX12 43).1 (TX12 43).2.1 (TX12 43).2.2.1 ∈ TB := tw_1613
theorem cf_X12_146 : Cond.fieldLink RX12 146 (TX12 44).1 (TX12 44).2.1 (TX12 44).2.2.1 ∈ TB := tw_1614
theorem cf_X12_150 : Cond.fieldLink RX12 150 (TX12 45).1 (TX12 45).2.1 (TX12 45).2.2.1 ∈ TB := tw_1615
theorem cf_X12_153 : Cond.fieldLink RX12 153 (TX12 46).1 (TX12 46).2.1 (TX12 46).2.2.1 ∈ TB := tw_1616
theorem cf_X12_156 : Cond.fieldLink RX12 156 (TX12 47).1 (TX12 47).2.1 (TX12 47).2.2.1 ∈ TB := tw_1617
theorem cf_X12_159 : Cond.fieldLink RX12 159 (TX12 48).1 (TX12 48).2.1 (TX12 48).2.2.1 ∈ TB := tw_1618
theorem cf_X12_162 : Cond.fieldLink RX12 162 (TX12 49).1 (TX12 49).2.1 (TX12 49).2.2.1 ∈ TB := tw_1619
theorem cf_X12_165 : Cond.fieldLink RX12 165 (TX12 50).1 (TX12 50).2.1 (TX12 50).2.2.1 ∈ TB := tw_1620
theorem cf_X12_168 : Cond.fieldLink RX12 168 (TX12 51).1 (TX12 51).2.1 (TX12 51).2.2.1 ∈ TB := tw_1621
theorem cf_X12_17 : Cond.fieldLink RX12 17 (TX12 2).1 (TX12 2).2.1 (TX12 2).2.2.1 ∈ TB := tw_1572
theorem cf_X12_171 : Cond.fieldLink RX12 171 (TX12 52).1 (TX12 52).2.1 (TX12 52).2.2.1 ∈ TB := tw_1622
theorem cf_X12_174 : Cond.fieldLink RX12 174 (TX12 53).1 (TX12 53).2.1 (TX12 53).2.2.1 ∈ TB := tw_1623
theorem cf_X12_177 : Cond.fieldLink RX12 177 (TX12 54).1 (TX12 54).2.1 (TX12 54).2.2.1 ∈ TB := tw_1624
theorem cf_X12_180 : Cond.fieldLink RX12 180 (TX12 55).1 (TX12 55).2.1 (TX12 55).2.2.1 ∈ TB := tw_1625
theorem cf_X12_183 : Cond.fieldLink RX12 183 (TX12 56).1 (TX12 56).2.1 (TX12 56).2.2.1 ∈ TB := tw_1626
theorem cf_X12_186 : Cond.fieldLink RX12 186 (TX12 57).1 (TX12 57).2.1 (TX12 57).2.2.1 ∈ TB := tw_1627
theorem cf_X12_189 : Cond.fieldLink RX12 189 (TX12 58).1 (TX12 58).2.1 (TX12 58).2.2.1 ∈ TB := tw_1628
theorem cf_X12_192 : Cond.fieldLink RX12 192 (TX12 59).1 (TX12 59).2.1 (TX12 59).2.2.1 ∈ TB := tw_1629
theorem cf_X12_195 : Cond.fieldLink RX12 195 (TX12 60).1 (TX12 60).2.1 (TX12 60).2.2.1 ∈ TB := tw_1630
theorem cf_X12_198 : Cond.fieldLink RX12 198 (TX12 61).1 (TX12 61).2.1 (TX12 61).2.2.1 ∈ TB := tw_1631
theorem cf_X12_20 : Cond.fieldLink RX12 20 (TX12 3).1 (TX12 3).2.1 (TX12 3).2.2.1 ∈ TB := tw_1573
theorem cf_X12_201 : Cond.fieldLink RX12 201 (TX12 62).1 (TX12 62).2.1 (TX12 62).2.2.1 ∈ TB := tw_1632
theorem cf_X12_204 : Cond.fieldLink RX12 204 (TX12 63).1 (TX12 63).2.1 (TX12 63).2.2.1 ∈ TB := tw_1633
theorem cf_X12_207 : Cond.fieldLink RX12 207 (TX12 64).1 (TX12 64).2.1 (TX12 64).2.2.1 ∈ TB := tw_1634
theorem cf_X12_210 : Cond.fieldLink RX12 210 (TX12 82).1 (TX12 82).2.1 (TX12 82).2.2.1 ∈ TB := tw_1652
theorem cf_X12_213 : Cond.fieldLink RX12 213 (TX12 83).1 (TX12 83).2.1 (TX12 83).2.2.1 ∈ TB := tw_1653
theorem cf_X12_216 : Cond.fieldLink RX12 216 (TX12 84).1 (TX12 84).2.1 (TX12 84).2.2.1 ∈ TB := tw_1654
theorem cf_X12_219 : Cond.fieldLink RX12 219 (TX12 85).1 (TX12 85).2.1 (TX12 85).2.2.1 ∈ TB := tw_1655
theorem cf_X12_222 : Cond.fieldLink RX12 222 (TX12 86).1 (TX12 86).2.1 (TX12 86).2.2.1 ∈ TB := tw_1656
theorem cf_X12_225 : Cond.fieldLink RX12 225 (TX12 88).1 (TX12 88).2.1 (TX12 88).2.2.1 ∈ TB := tw_1658
theorem cf_X12_228 : Cond.fieldLink RX12 228 (TX12 90).1 (TX12 90).2.1 (TX12 90).2.2.1 ∈ TB := tw_1660
theorem cf_X12_231 : Cond.fieldLink RX12 231 (TX12 92).1 (TX12 92).2.1 (TX12 92).2.2.1 ∈ TB := tw_1662
theorem cf_X12_234 : Cond.fieldLink RX12 234 (TX12 93).1 (TX12 93).2.1 (TX12 93).2.2.1 ∈ TB := tw_1663
theorem cf_X12_237 : Cond.fieldLink RX12 237 (TX12 94).1 (TX12 94).2.1 (TX12 94).2.2.1 ∈ TB := tw_1664
theorem cf_X12_24 : Cond.fieldLink RX12 24 (TX12 4).1 (TX12 4).2.1 (TX12 4).2.2.1 ∈ TB := tw_1574
theorem cf_X12_240 : Cond.fieldLink RX12 240 (TX12 95).1 (TX12 95).2.1 (TX12 95).2.2.1 ∈ TB := tw_1665
theorem cf_X12_243 : Cond.fieldLink RX12 243 (TX12 96).1 (TX12 96).2.1 (TX12 96).2.2.1 ∈ TB := tw_1666
theorem cf_X12_246 : Cond.fieldLink RX12 246 (TX12 97).1 (TX12 97).2.1 (TX12 97).2.2.1 ∈ TB := tw_1667
theorem cf_X12_28 : Cond.fieldLink RX12 28 (TX12 5).1 (TX12 5).2.1 (TX12 5).2.2.1 ∈ TB := tw_1575
theorem cf_X12_31 : Cond.fieldLink RX12 31 (TX12 6).1 (TX12 6).2.1 (TX12 6).2.2.1 ∈ TB := tw_1576
theorem cf_X12_34 : Cond.fieldLink RX12 34 (TX12 7).1 (TX12 7).2.1 (TX12 7).2.2.1 ∈ TB := tw_1577
theorem cf_X12_37 : Cond.fieldLink RX12 37 (TX12 8).1 (TX12 8).2.1 (TX12 8).2.2.1 ∈ TB := tw_1578
theorem cf_X12_40 : Cond.fieldLink RX12 40 (TX12 9).1 (TX12 9).2.1 (TX12 9).2.2.1 ∈ TB := tw_1579
theorem cf_X12_43 : Cond.fieldLink RX12 43 (TX12 10).1 (TX12 10).2.1 (TX12 10).2.2.1 ∈ TB := tw_1580
theorem cf_X12_46 : Cond.fieldLink RX12 46 (TX12 11).1 (TX12 11).2.1 (TX12 11).2.2.1 ∈ TB := tw_1581
theorem cf_X12_49 : Cond.fieldLink RX12 49 (TX12 12).1 (TX12 12).2.1 (TX12 12).2.2.1 ∈ TB := tw_1582
theorem cf_X12_52 : Cond.fieldLink RX12 52 (TX12 13).1 (TX12 13).2.1 (TX12 13).2.2.1 ∈ TB := tw_1583
theorem cf_X12_55 : Cond.fieldLink RX12 55 (TX12 14).1 (TX12 14).2.1 (TX12 14).2.2.1 ∈ TB := tw_1584
theorem cf_X12_58 : Cond.fieldLink RX12 58 (TX12 15).1 (TX12 15).2.1 (TX12 15).2.2.1 ∈ TB := tw_1585
theorem cf_X12_61 : Cond.fieldLink RX12 61 (TX12 16).1 (TX12 16).2.1 (TX12 16).2.2.1 ∈ TB := tw_1586
theorem cf_X12_65 : Cond.fieldLink RX12 65 (TX12 17).1 (TX12 17).2.1 (TX12 17).2.2.1 ∈ TB := tw_1587
theorem cf_X12_68 : Cond.fieldLink RX12 68 (TX12 18).1 (TX12 18).2.1 (TX12 18).2.2.1 ∈ TB := tw_1588
theorem cf_X12_71 : Cond.fieldLink RX12 71 (TX12 19).1 (TX12 19).2.1 (TX12 19).2.2.1 ∈ TB := tw_1589
theorem cf_X12_74 : Cond.fieldLink RX12 74 (TX12 20).1 (TX12 20).2.1 (TX12 20).2.2.1 ∈ TB := tw_1590
theorem cf_X12_77 : Cond.fieldLink RX12 77 (TX12 21).1 (TX12 21).2.1 (TX12 21).2.2.1 ∈ TB := tw_1591
theorem cf_X12_80 : Cond.fieldLink RX12 80 (TX12 22).1 (TX12 22).2.1 (TX12 22).2.2.1 ∈ TB := tw_1592
theorem cf_X12_83 : Cond.fieldLink RX12 83 (TX12 23).1 (TX12 23).2.1 (TX12 23).2.2.1 ∈ TB := tw_1593
theorem cf_X12_86 : Cond.fieldLink RX12 86 (TX12 24).1 (TX12 24).2.1 (TX12 24).2.2.1 ∈ TB := tw_1594
theorem cf_X12_89 : Cond.fieldLink RX12 89 (TX12 25).1 (TX12 25).2.1 (TX12 25).2.2.1 ∈ TB := tw_1595
theorem cf_X12_92 : Cond.fieldLink RX12 92 (TX12 26).1 (TX12 26).2.1 (TX12 26).2.2.1 ∈ TB := tw_1596
theorem cf_X12_95 : Cond.fieldLink RX12 95 (TX12 27).1 (TX12 27).2.1 (TX12 27).2.2.1 ∈ TB := tw_1597
theorem cf_X12_98 : Cond.fieldLink RX12 98 (TX12 28).1 (TX12 28).2.1 (TX12 28).2.2.1 ∈ TB := tw_1598
def C_X12_init_J682 (l0 : Nat) : Hp → Option (Unit × Hp) :=
  rt ()
set_option maxRecDepth 10000 in
theorem mo_C_X12_init_J682 (l0 : Nat) : Mo (C_X12_init_J682 l0) := by
  unfold C_X12_init_J682
  repeat' (with_reducible first | assumption | exact mo_rt _ | exact mo_zt _ | exact mo_no | refine mo_ite ?_ ?_ | refine mo_hgI (fun _ => ?_) | refine mo_hgR (fun _ => ?_) | refine mo_hCv (fun _ => ?_) (fun _ => ?_) | refine mo_lq (fun _ => ?_) | refine mo_hpI ?_ | refine mo_hpR ?_ | refine mo_hAi (fun _ => ?_) | refine mo_hAr (fun _ => ?_) | refine mo_hWi ?_ | refine mo_hWr ?_ | refine mo_hLn (fun _ => ?_) | refine mo_hgL (fun _ => ?_) | refine mo_hpL ?_ | refine mo_hpZ ?_ | refine mo_bd ?_ (fun _ => ?_) | refine mo_hCi (fun _ => ?_) (fun _ => ?_) | refine mo_hNw (fun _ => ?_) | refine mo_hNa (fun _ => ?_) | refine mo_hCp ?_ | refine mo_hOi ?_ | refine mo_hAl (fun _ => ?_) | refine mo_hWl ?_ | refine mo_gd ?_ | refine mo_sLn (fun _ => ?_) | refine mo_sAt (fun _ => ?_) | refine mo_kLn (fun _ => ?_) | refine mo_kAt (fun _ => ?_))
set_option maxRecDepth 10000 in
theorem sc_X12_init_J682 {g : Gm Hp Unit} (B : Bx g cX12_init 2 RX12 voV none 1 20 "<init>") {l0 : Nat} : Sm g 2 682 [] [] (C_X12_init_J682 l0) := by
  unfold C_X12_init_J682
  exact s_vret B.1.1 B.2.2.2.2 dX12_init_682
def C_X12_init_B663 (l0 : Nat) (kb : Int32 → Hp → Option (Unit × Hp)) (ke682 : Hp → Option (Unit × Hp)) (l1 : Int32) : Hp → Option (Unit × Hp) :=
  if (8 : Int32) ≤ l1 then (
    ke682
  ) else (
    hgR 14 7 (some l0) fun v1 =>
    hWi v1 l1 (-1 : Int32) <|
    kb (l1 + 1)
  )
def C_X12_init_L663 (l0 : Nat) (ke682 : Hp → Option (Unit × Hp)) : Nat → Int32 → Hp → Option (Unit × Hp)
  | 0, _ => no
  | n + 1, l1 => C_X12_init_B663 l0 (fun l1 => C_X12_init_L663 l0 ke682 n l1) ke682 l1
set_option maxRecDepth 10000 in
theorem mo_C_X12_init_B663 (l0 : Nat) (kb : Int32 → Hp → Option (Unit × Hp)) (ke682 : Hp → Option (Unit × Hp)) (hkb : ∀ (l1 : Int32), Mo (kb l1)) (hke682 : Mo (ke682)) (l1 : Int32) : Mo (C_X12_init_B663 l0 kb ke682 l1) := by
  unfold C_X12_init_B663
  repeat' (with_reducible first | assumption | exact mo_rt _ | exact mo_zt _ | exact mo_no | apply hkb | apply hke682 | refine mo_ite ?_ ?_ | refine mo_hgI (fun _ => ?_) | refine mo_hgR (fun _ => ?_) | refine mo_hCv (fun _ => ?_) (fun _ => ?_) | refine mo_lq (fun _ => ?_) | refine mo_hpI ?_ | refine mo_hpR ?_ | refine mo_hAi (fun _ => ?_) | refine mo_hAr (fun _ => ?_) | refine mo_hWi ?_ | refine mo_hWr ?_ | refine mo_hLn (fun _ => ?_) | refine mo_hgL (fun _ => ?_) | refine mo_hpL ?_ | refine mo_hpZ ?_ | refine mo_bd ?_ (fun _ => ?_) | refine mo_hCi (fun _ => ?_) (fun _ => ?_) | refine mo_hNw (fun _ => ?_) | refine mo_hNa (fun _ => ?_) | refine mo_hCp ?_ | refine mo_hOi ?_ | refine mo_hAl (fun _ => ?_) | refine mo_hWl ?_ | refine mo_gd ?_ | refine mo_sLn (fun _ => ?_) | refine mo_sAt (fun _ => ?_) | refine mo_kLn (fun _ => ?_) | refine mo_kAt (fun _ => ?_))
set_option maxRecDepth 10000 in
theorem mo_C_X12_init_L663 (l0 : Nat) (ke682 : Hp → Option (Unit × Hp)) (hke682 : Mo (ke682)) : ∀ (n : Nat) (l1 : Int32), Mo (C_X12_init_L663 l0 ke682 n l1)
  | 0, _ => mo_no
  | n + 1, l1 => mo_C_X12_init_B663 l0 _ ke682 (mo_C_X12_init_L663 l0 ke682 hke682 n) hke682 l1
set_option maxRecDepth 10000 in
theorem sc_X12_init_B663 {g : Gm Hp Unit} {kb : Int32 → Hp → Option (Unit × Hp)} {ke682 : Hp → Option (Unit × Hp)} (B : Bx g cX12_init 2 RX12 voV none 1 20 "<init>") {l0 : Nat} (hkb : ∀ (l1 : Int32), Sm g 2 663 [(0, va_rf (some l0)), (1, .int l1)] [] (kb l1)) (hke682 : Sm g 2 682 [] [] (ke682)) (l1 : Int32) : Sm g 2 663 [(0, va_rf (some l0)), (1, .int l1)] [] (C_X12_init_B663 l0 kb ke682 l1) := by
  unfold C_X12_init_B663
  refine s_iload_n B.1.1 1 dX12_init_663 rfl rfl ?_
  refine s_bipush (v := (8)) B.1.1 dX12_init_664 (by decide) ?_
  refine s_icmp_ge B.1.1 682 dX12_init_666 (by decide) ?_ ?_
  · exact Sm.lvs [] rfl (hke682)
  · refine s_rload_n B.1.1 0 dX12_init_669 rfl rfl ?_
    refine hp_getR B.1 14 7 rfl (by decide) inX12 (by decide) fk_X12_7 cf_X12_34 dX12_init_670 (fun v1 => ?_)
    refine s_iload_n B.1.1 1 dX12_init_673 rfl rfl ?_
    refine s_iconst (v := (-1)) B.1.1 dX12_init_674 (by decide) ?_
    refine hp_Wi B.1 dX12_init_675 ?_
    refine s_iinc (v := l1 + 1) (lv' := [(1, .int (l1 + 1)), (0, va_rf (some l0))]) B.1.1 1 dX12_init_676 rfl rfl (by decide) rfl ?_
    refine s_goto B.1.1 663 dX12_init_679 (by decide) ?_
    exact Sm.lvs [1, 0] rfl (hkb (l1 + 1))
set_option maxRecDepth 10000 in
theorem sc_X12_init_L663 {g : Gm Hp Unit} {ke682 : Hp → Option (Unit × Hp)} (B : Bx g cX12_init 2 RX12 voV none 1 20 "<init>") {l0 : Nat} (hke682 : Sm g 2 682 [] [] (ke682)) : ∀ (n : Nat) (l1 : Int32), Sm g 2 663 [(0, va_rf (some l0)), (1, .int l1)] [] (C_X12_init_L663 l0 ke682 n l1)
  | 0, _ => Sm.fail
  | n + 1, l1 => sc_X12_init_B663 B (sc_X12_init_L663 B hke682 n) hke682 l1
def C_X12_init (l0 : Nat) : Hp → Option (Unit × Hp) :=
  hOi (some l0) <|
  hNa 2 (8 : Int32) fun o2 =>
  hpR 14 1 (some l0) o2 <|
  hNa 2 (8 : Int32) fun o3 =>
  hpR 14 2 (some l0) o3 <|
  hNa 0 (8 : Int32) fun o4 =>
  hpR 14 3 (some l0) o4 <|
  hNa 1 (16000 : Int32) fun o5 =>
  hpR 14 4 (some l0) o5 <|
  hNa 0 (8 : Int32) fun o6 =>
  hpR 14 5 (some l0) o6 <|
  hNa 1 (3280 : Int32) fun o7 =>
  hpR 14 6 (some l0) o7 <|
  hNa 0 (8 : Int32) fun o8 =>
  hpR 14 7 (some l0) o8 <|
  hNa 0 (8 : Int32) fun o9 =>
  hpR 14 8 (some l0) o9 <|
  hNa 0 (32 : Int32) fun o10 =>
  hpR 14 9 (some l0) o10 <|
  hNa 1 (2048 : Int32) fun o11 =>
  hpR 14 10 (some l0) o11 <|
  hNa 2 (12 : Int32) fun o12 =>
  hpR 14 11 (some l0) o12 <|
  hNa 0 (12 : Int32) fun o13 =>
  hpR 14 12 (some l0) o13 <|
  hNa 0 (12 : Int32) fun o14 =>
  hpR 14 13 (some l0) o14 <|
  hNa 1 (240 : Int32) fun o15 =>
  hpR 14 14 (some l0) o15 <|
  hNa 0 (12 : Int32) fun o16 =>
  hpR 14 15 (some l0) o16 <|
  hNa 3 (12 : Int32) fun o17 =>
  hpR 14 16 (some l0) o17 <|
  hNa 0 (12 : Int32) fun o18 =>
  hpR 14 17 (some l0) o18 <|
  hNa 3 (12 : Int32) fun o19 =>
  hpR 14 18 (some l0) o19 <|
  hNa 0 (12 : Int32) fun o20 =>
  hpR 14 19 (some l0) o20 <|
  hNa 0 (12 : Int32) fun o21 =>
  hpR 14 20 (some l0) o21 <|
  hNa 3 (12 : Int32) fun o22 =>
  hpR 14 21 (some l0) o22 <|
  hNa 3 (12 : Int32) fun o23 =>
  hpR 14 22 (some l0) o23 <|
  hNa 3 (12 : Int32) fun o24 =>
  hpR 14 23 (some l0) o24 <|
  hNa 0 (12 : Int32) fun o25 =>
  hpR 14 24 (some l0) o25 <|
  hNa 0 (96 : Int32) fun o26 =>
  hpR 14 25 (some l0) o26 <|
  hNa 1 (6144 : Int32) fun o27 =>
  hpR 14 26 (some l0) o27 <|
  hNa 0 (96 : Int32) fun o28 =>
  hpR 14 27 (some l0) o28 <|
  hNa 0 (96 : Int32) fun o29 =>
  hpR 14 28 (some l0) o29 <|
  hNa 0 (96 : Int32) fun o30 =>
  hpR 14 29 (some l0) o30 <|
  hNa 0 (96 : Int32) fun o31 =>
  hpR 14 30 (some l0) o31 <|
  hNa 0 (12 : Int32) fun o32 =>
  hpR 14 31 (some l0) o32 <|
  hNa 0 (192 : Int32) fun o33 =>
  hpR 14 32 (some l0) o33 <|
  hNa 0 (192 : Int32) fun o34 =>
  hpR 14 33 (some l0) o34 <|
  hNa 0 (192 : Int32) fun o35 =>
  hpR 14 34 (some l0) o35 <|
  hNa 0 (192 : Int32) fun o36 =>
  hpR 14 35 (some l0) o36 <|
  hNa 0 (192 : Int32) fun o37 =>
  hpR 14 36 (some l0) o37 <|
  hNa 2 (192 : Int32) fun o38 =>
  hpR 14 37 (some l0) o38 <|
  hNa 0 (12 : Int32) fun o39 =>
  hpR 14 38 (some l0) o39 <|
  hNa 0 (288 : Int32) fun o40 =>
  hpR 14 39 (some l0) o40 <|
  hNa 0 (288 : Int32) fun o41 =>
  hpR 14 40 (some l0) o41 <|
  hNa 0 (288 : Int32) fun o42 =>
  hpR 14 41 (some l0) o42 <|
  hNa 0 (288 : Int32) fun o43 =>
  hpR 14 42 (some l0) o43 <|
  hNa 0 (12 : Int32) fun o44 =>
  hpR 14 43 (some l0) o44 <|
  hNa 0 (96 : Int32) fun o45 =>
  hpR 14 44 (some l0) o45 <|
  hNa 1 (307200 : Int32) fun o46 =>
  hpR 14 45 (some l0) o46 <|
  hNa 0 (640 : Int32) fun o47 =>
  hpR 14 46 (some l0) o47 <|
  hNa 0 (640 : Int32) fun o48 =>
  hpR 14 47 (some l0) o48 <|
  hNa 0 (640 : Int32) fun o49 =>
  hpR 14 48 (some l0) o49 <|
  hNa 0 (640 : Int32) fun o50 =>
  hpR 14 49 (some l0) o50 <|
  hNa 3 (640 : Int32) fun o51 =>
  hpR 14 50 (some l0) o51 <|
  hNa 0 (640 : Int32) fun o52 =>
  hpR 14 51 (some l0) o52 <|
  hNa 0 (640 : Int32) fun o53 =>
  hpR 14 52 (some l0) o53 <|
  hNa 0 (640 : Int32) fun o54 =>
  hpR 14 53 (some l0) o54 <|
  hNa 0 (640 : Int32) fun o55 =>
  hpR 14 54 (some l0) o55 <|
  hNa 0 (640 : Int32) fun o56 =>
  hpR 14 55 (some l0) o56 <|
  hNa 0 (640 : Int32) fun o57 =>
  hpR 14 56 (some l0) o57 <|
  hNa 0 (640 : Int32) fun o58 =>
  hpR 14 57 (some l0) o58 <|
  hNa 0 (640 : Int32) fun o59 =>
  hpR 14 58 (some l0) o59 <|
  hNa 0 (640 : Int32) fun o60 =>
  hpR 14 59 (some l0) o60 <|
  hNa 0 (640 : Int32) fun o61 =>
  hpR 14 60 (some l0) o61 <|
  hNa 0 (640 : Int32) fun o62 =>
  hpR 14 61 (some l0) o62 <|
  hNa 0 (640 : Int32) fun o63 =>
  hpR 14 62 (some l0) o63 <|
  hNa 2 (640 : Int32) fun o64 =>
  hpR 14 63 (some l0) o64 <|
  hNa 0 (16 : Int32) fun o65 =>
  hpR 14 64 (some l0) o65 <|
  hNa 2 (64 : Int32) fun o66 =>
  hpR 14 82 (some l0) o66 <|
  hNa 3 (64 : Int32) fun o67 =>
  hpR 14 83 (some l0) o67 <|
  hNa 0 (64 : Int32) fun o68 =>
  hpR 14 84 (some l0) o68 <|
  hNa 0 (64 : Int32) fun o69 =>
  hpR 14 85 (some l0) o69 <|
  hNa 1 (410 : Int32) fun o70 =>
  hpR 14 86 (some l0) o70 <|
  hNa 1 (1200 : Int32) fun o71 =>
  hpR 14 88 (some l0) o71 <|
  hNa 1 (1200 : Int32) fun o72 =>
  hpR 14 90 (some l0) o72 <|
  hNa 0 (410 : Int32) fun o73 =>
  hpR 14 92 (some l0) o73 <|
  hNa 0 (410 : Int32) fun o74 =>
  hpR 14 93 (some l0) o74 <|
  hNa 0 (410 : Int32) fun o75 =>
  hpR 14 94 (some l0) o75 <|
  hNa 0 (410 : Int32) fun o76 =>
  hpR 14 95 (some l0) o76 <|
  hNa 2 (410 : Int32) fun o77 =>
  hpR 14 96 (some l0) o77 <|
  hNa 1 (64 : Int32) fun o78 =>
  hpR 14 97 (some l0) o78 <|
  C_X12_init_L663 l0 (C_X12_init_J682 l0) fu (0 : Int32)
set_option maxRecDepth 10000 in
theorem mo_C_X12_init (l0 : Nat) : Mo (C_X12_init l0) := by
  unfold C_X12_init
  repeat' (with_reducible first | assumption | exact mo_rt _ | exact mo_zt _ | exact mo_no | apply mo_C_X12_init_L663 | apply mo_C_X12_init_J682 | refine mo_ite ?_ ?_ | refine mo_hgI (fun _ => ?_) | refine mo_hgR (fun _ => ?_) | refine mo_hCv (fun _ => ?_) (fun _ => ?_) | refine mo_lq (fun _ => ?_) | refine mo_hpI ?_ | refine mo_hpR ?_ | refine mo_hAi (fun _ => ?_) | refine mo_hAr (fun _ => ?_) | refine mo_hWi ?_ | refine mo_hWr ?_ | refine mo_hLn (fun _ => ?_) | refine mo_hgL (fun _ => ?_) | refine mo_hpL ?_ | refine mo_hpZ ?_ | refine mo_bd ?_ (fun _ => ?_) | refine mo_hCi (fun _ => ?_) (fun _ => ?_) | refine mo_hNw (fun _ => ?_) | refine mo_hNa (fun _ => ?_) | refine mo_hCp ?_ | refine mo_hOi ?_ | refine mo_hAl (fun _ => ?_) | refine mo_hWl ?_ | refine mo_gd ?_ | refine mo_sLn (fun _ => ?_) | refine mo_sAt (fun _ => ?_) | refine mo_kLn (fun _ => ?_) | refine mo_kAt (fun _ => ?_))
set_option maxRecDepth 10000 in
theorem mC_X12_init {w : Wd} (hw : Wc w) (l0 : Nat) : MH w yX12_init cX12_init 2 none 1 20 voV [va_rf (some l0)] (C_X12_init l0) := by
  have M0 : ∀ g : Gm Hp Unit, g.1 = w → Bx g cX12_init 2 RX12 voV none 1 20 "<init>" → Sm g 2 0 (lv_args 0 [va_rf (some l0)]) [] (C_X12_init l0) := by
    intro g hg B
    subst hg
    unfold C_X12_init
    refine W_lva (lv := [(0, va_rf (some l0))]) (by simp [lv_args, va_rf_cat, cat_i, cat_l, cat_r]) ?_
    refine s_rload_n B.1.1 0 dX12_init_0 rfl rfl ?_
    refine hp_Oi B.1 tw_1568 oi_in oi_code (by decide) (Nat.le_of_ble_eq_true rfl) dX12_init_1 ?_
    refine s_rload_n B.1.1 0 dX12_init_4 rfl rfl ?_
    refine s_bipush (v := (8)) B.1.1 dX12_init_5 (by decide) ?_
    refine hp_Na (atype := .boolean) B.1 2 rfl (by decide) tw_1868 (fun _ => rfl) (fun _ _ => rfl) rfl (by decide) dX12_init_7 (fun o2 => ?_)
    refine hp_putRF B.1 14 1 rfl (by decide) inX12 tyX12 tyX12_ok nmX12 (by decide) fk_X12_1 ft_X12_1 rfA rfl rfl B.2.2.2.1 cf_X12_13 dX12_init_9 ?_
    refine s_rload_n B.1.1 0 dX12_init_12 rfl rfl ?_
    refine s_bipush (v := (8)) B.1.1 dX12_init_13 (by decide) ?_
    refine hp_Na (atype := .boolean) B.1 2 rfl (by decide) tw_1868 (fun _ => rfl) (fun _ _ => rfl) rfl (by decide) dX12_init_15 (fun o3 => ?_)
    refine hp_putRF B.1 14 2 rfl (by decide) inX12 tyX12 tyX12_ok nmX12 (by decide) fk_X12_2 ft_X12_2 rfA rfl rfl B.2.2.2.1 cf_X12_17 dX12_init_17 ?_
    refine s_rload_n B.1.1 0 dX12_init_20 rfl rfl ?_
    refine s_bipush (v := (8)) B.1.1 dX12_init_21 (by decide) ?_
    refine hp_Na (atype := .int) B.1 0 rfl (by decide) tw_100 (fun _ => rfl) (fun _ _ => rfl) rfl (by decide) dX12_init_23 (fun o4 => ?_)
    refine hp_putRF B.1 14 3 rfl (by decide) inX12 tyX12 tyX12_ok nmX12 (by decide) fk_X12_3 ft_X12_3 rfA rfl rfl B.2.2.2.1 cf_X12_20 dX12_init_25 ?_
    refine s_rload_n B.1.1 0 dX12_init_28 rfl rfl ?_
    refine s_sipush (v := (16000)) B.1.1 dX12_init_29 (by decide) ?_
    refine hp_Na (atype := .byte) B.1 1 rfl (by decide) tw_545 (fun _ => rfl) (fun _ _ => rfl) rfl (by decide) dX12_init_32 (fun o5 => ?_)
    refine hp_putRF B.1 14 4 rfl (by decide) inX12 tyX12 tyX12_ok nmX12 (by decide) fk_X12_4 ft_X12_4 rfA rfl rfl B.2.2.2.1 cf_X12_24 dX12_init_34 ?_
    refine s_rload_n B.1.1 0 dX12_init_37 rfl rfl ?_
    refine s_bipush (v := (8)) B.1.1 dX12_init_38 (by decide) ?_
    refine hp_Na (atype := .int) B.1 0 rfl (by decide) tw_100 (fun _ => rfl) (fun _ _ => rfl) rfl (by decide) dX12_init_40 (fun o6 => ?_)
    refine hp_putRF B.1 14 5 rfl (by decide) inX12 tyX12 tyX12_ok nmX12 (by decide) fk_X12_5 ft_X12_5 rfA rfl rfl B.2.2.2.1 cf_X12_28 dX12_init_42 ?_
    refine s_rload_n B.1.1 0 dX12_init_45 rfl rfl ?_
    refine s_sipush (v := (3280)) B.1.1 dX12_init_46 (by decide) ?_
    refine hp_Na (atype := .byte) B.1 1 rfl (by decide) tw_545 (fun _ => rfl) (fun _ _ => rfl) rfl (by decide) dX12_init_49 (fun o7 => ?_)
    refine hp_putRF B.1 14 6 rfl (by decide) inX12 tyX12 tyX12_ok nmX12 (by decide) fk_X12_6 ft_X12_6 rfA rfl rfl B.2.2.2.1 cf_X12_31 dX12_init_51 ?_
    refine s_rload_n B.1.1 0 dX12_init_54 rfl rfl ?_
    refine s_bipush (v := (8)) B.1.1 dX12_init_55 (by decide) ?_
    refine hp_Na (atype := .int) B.1 0 rfl (by decide) tw_100 (fun _ => rfl) (fun _ _ => rfl) rfl (by decide) dX12_init_57 (fun o8 => ?_)
    refine hp_putRF B.1 14 7 rfl (by decide) inX12 tyX12 tyX12_ok nmX12 (by decide) fk_X12_7 ft_X12_7 rfA rfl rfl B.2.2.2.1 cf_X12_34 dX12_init_59 ?_
    refine s_rload_n B.1.1 0 dX12_init_62 rfl rfl ?_
    refine s_bipush (v := (8)) B.1.1 dX12_init_63 (by decide) ?_
    refine hp_Na (atype := .int) B.1 0 rfl (by decide) tw_100 (fun _ => rfl) (fun _ _ => rfl) rfl (by decide) dX12_init_65 (fun o9 => ?_)
    refine hp_putRF B.1 14 8 rfl (by decide) inX12 tyX12 tyX12_ok nmX12 (by decide) fk_X12_8 ft_X12_8 rfA rfl rfl B.2.2.2.1 cf_X12_37 dX12_init_67 ?_
    refine s_rload_n B.1.1 0 dX12_init_70 rfl rfl ?_
    refine s_bipush (v := (32)) B.1.1 dX12_init_71 (by decide) ?_
    refine hp_Na (atype := .int) B.1 0 rfl (by decide) tw_100 (fun _ => rfl) (fun _ _ => rfl) rfl (by decide) dX12_init_73 (fun o10 => ?_)
    refine hp_putRF B.1 14 9 rfl (by decide) inX12 tyX12 tyX12_ok nmX12 (by decide) fk_X12_9 ft_X12_9 rfA rfl rfl B.2.2.2.1 cf_X12_40 dX12_init_75 ?_
    refine s_rload_n B.1.1 0 dX12_init_78 rfl rfl ?_
    refine s_sipush (v := (2048)) B.1.1 dX12_init_79 (by decide) ?_
    refine hp_Na (atype := .byte) B.1 1 rfl (by decide) tw_545 (fun _ => rfl) (fun _ _ => rfl) rfl (by decide) dX12_init_82 (fun o11 => ?_)
    refine hp_putRF B.1 14 10 rfl (by decide) inX12 tyX12 tyX12_ok nmX12 (by decide) fk_X12_10 ft_X12_10 rfA rfl rfl B.2.2.2.1 cf_X12_43 dX12_init_84 ?_
    refine s_rload_n B.1.1 0 dX12_init_87 rfl rfl ?_
    refine s_bipush (v := (12)) B.1.1 dX12_init_88 (by decide) ?_
    refine hp_Na (atype := .boolean) B.1 2 rfl (by decide) tw_1868 (fun _ => rfl) (fun _ _ => rfl) rfl (by decide) dX12_init_90 (fun o12 => ?_)
    refine hp_putRF B.1 14 11 rfl (by decide) inX12 tyX12 tyX12_ok nmX12 (by decide) fk_X12_11 ft_X12_11 rfA rfl rfl B.2.2.2.1 cf_X12_46 dX12_init_92 ?_
    refine s_rload_n B.1.1 0 dX12_init_95 rfl rfl ?_
    refine s_bipush (v := (12)) B.1.1 dX12_init_96 (by decide) ?_
    refine hp_Na (atype := .int) B.1 0 rfl (by decide) tw_100 (fun _ => rfl) (fun _ _ => rfl) rfl (by decide) dX12_init_98 (fun o13 => ?_)
    refine hp_putRF B.1 14 12 rfl (by decide) inX12 tyX12 tyX12_ok nmX12 (by decide) fk_X12_12 ft_X12_12 rfA rfl rfl B.2.2.2.1 cf_X12_49 dX12_init_100 ?_
    refine s_rload_n B.1.1 0 dX12_init_103 rfl rfl ?_
    refine s_bipush (v := (12)) B.1.1 dX12_init_104 (by decide) ?_
    refine hp_Na (atype := .int) B.1 0 rfl (by decide) tw_100 (fun _ => rfl) (fun _ _ => rfl) rfl (by decide) dX12_init_106 (fun o14 => ?_)
    refine hp_putRF B.1 14 13 rfl (by decide) inX12 tyX12 tyX12_ok nmX12 (by decide) fk_X12_13 ft_X12_13 rfA rfl rfl B.2.2.2.1 cf_X12_52 dX12_init_108 ?_
    refine s_rload_n B.1.1 0 dX12_init_111 rfl rfl ?_
    refine s_sipush (v := (240)) B.1.1 dX12_init_112 (by decide) ?_
    refine hp_Na (atype := .byte) B.1 1 rfl (by decide) tw_545 (fun _ => rfl) (fun _ _ => rfl) rfl (by decide) dX12_init_115 (fun o15 => ?_)
    refine hp_putRF B.1 14 14 rfl (by decide) inX12 tyX12 tyX12_ok nmX12 (by decide) fk_X12_14 ft_X12_14 rfA rfl rfl B.2.2.2.1 cf_X12_55 dX12_init_117 ?_
    refine s_rload_n B.1.1 0 dX12_init_120 rfl rfl ?_
    refine s_bipush (v := (12)) B.1.1 dX12_init_121 (by decide) ?_
    refine hp_Na (atype := .int) B.1 0 rfl (by decide) tw_100 (fun _ => rfl) (fun _ _ => rfl) rfl (by decide) dX12_init_123 (fun o16 => ?_)
    refine hp_putRF B.1 14 15 rfl (by decide) inX12 tyX12 tyX12_ok nmX12 (by decide) fk_X12_15 ft_X12_15 rfA rfl rfl B.2.2.2.1 cf_X12_58 dX12_init_125 ?_
    refine s_rload_n B.1.1 0 dX12_init_128 rfl rfl ?_
    refine s_bipush (v := (12)) B.1.1 dX12_init_129 (by decide) ?_
    refine hp_Na (atype := .long) B.1 3 rfl (by decide) tw_191 (fun _ => rfl) (fun _ _ => rfl) rfl (by decide) dX12_init_131 (fun o17 => ?_)
    refine hp_putRF B.1 14 16 rfl (by decide) inX12 tyX12 tyX12_ok nmX12 (by decide) fk_X12_16 ft_X12_16 rfA rfl rfl B.2.2.2.1 cf_X12_61 dX12_init_133 ?_
    refine s_rload_n B.1.1 0 dX12_init_136 rfl rfl ?_
    refine s_bipush (v := (12)) B.1.1 dX12_init_137 (by decide) ?_
    refine hp_Na (atype := .int) B.1 0 rfl (by decide) tw_100 (fun _ => rfl) (fun _ _ => rfl) rfl (by decide) dX12_init_139 (fun o18 => ?_)
    refine hp_putRF B.1 14 17 rfl (by decide) inX12 tyX12 tyX12_ok nmX12 (by decide) fk_X12_17 ft_X12_17 rfA rfl rfl B.2.2.2.1 cf_X12_65 dX12_init_141 ?_
    refine s_rload_n B.1.1 0 dX12_init_144 rfl rfl ?_
    refine s_bipush (v := (12)) B.1.1 dX12_init_145 (by decide) ?_
    refine hp_Na (atype := .long) B.1 3 rfl (by decide) tw_191 (fun _ => rfl) (fun _ _ => rfl) rfl (by decide) dX12_init_147 (fun o19 => ?_)
    refine hp_putRF B.1 14 18 rfl (by decide) inX12 tyX12 tyX12_ok nmX12 (by decide) fk_X12_18 ft_X12_18 rfA rfl rfl B.2.2.2.1 cf_X12_68 dX12_init_149 ?_
    refine s_rload_n B.1.1 0 dX12_init_152 rfl rfl ?_
    refine s_bipush (v := (12)) B.1.1 dX12_init_153 (by decide) ?_
    refine hp_Na (atype := .int) B.1 0 rfl (by decide) tw_100 (fun _ => rfl) (fun _ _ => rfl) rfl (by decide) dX12_init_155 (fun o20 => ?_)
    refine hp_putRF B.1 14 19 rfl (by decide) inX12 tyX12 tyX12_ok nmX12 (by decide) fk_X12_19 ft_X12_19 rfA rfl rfl B.2.2.2.1 cf_X12_71 dX12_init_157 ?_
    refine s_rload_n B.1.1 0 dX12_init_160 rfl rfl ?_
    refine s_bipush (v := (12)) B.1.1 dX12_init_161 (by decide) ?_
    refine hp_Na (atype := .int) B.1 0 rfl (by decide) tw_100 (fun _ => rfl) (fun _ _ => rfl) rfl (by decide) dX12_init_163 (fun o21 => ?_)
    refine hp_putRF B.1 14 20 rfl (by decide) inX12 tyX12 tyX12_ok nmX12 (by decide) fk_X12_20 ft_X12_20 rfA rfl rfl B.2.2.2.1 cf_X12_74 dX12_init_165 ?_
    refine s_rload_n B.1.1 0 dX12_init_168 rfl rfl ?_
    refine s_bipush (v := (12)) B.1.1 dX12_init_169 (by decide) ?_
    refine hp_Na (atype := .long) B.1 3 rfl (by decide) tw_191 (fun _ => rfl) (fun _ _ => rfl) rfl (by decide) dX12_init_171 (fun o22 => ?_)
    refine hp_putRF B.1 14 21 rfl (by decide) inX12 tyX12 tyX12_ok nmX12 (by decide) fk_X12_21 ft_X12_21 rfA rfl rfl B.2.2.2.1 cf_X12_77 dX12_init_173 ?_
    refine s_rload_n B.1.1 0 dX12_init_176 rfl rfl ?_
    refine s_bipush (v := (12)) B.1.1 dX12_init_177 (by decide) ?_
    refine hp_Na (atype := .long) B.1 3 rfl (by decide) tw_191 (fun _ => rfl) (fun _ _ => rfl) rfl (by decide) dX12_init_179 (fun o23 => ?_)
    refine hp_putRF B.1 14 22 rfl (by decide) inX12 tyX12 tyX12_ok nmX12 (by decide) fk_X12_22 ft_X12_22 rfA rfl rfl B.2.2.2.1 cf_X12_80 dX12_init_181 ?_
    refine s_rload_n B.1.1 0 dX12_init_184 rfl rfl ?_
    refine s_bipush (v := (12)) B.1.1 dX12_init_185 (by decide) ?_
    refine hp_Na (atype := .long) B.1 3 rfl (by decide) tw_191 (fun _ => rfl) (fun _ _ => rfl) rfl (by decide) dX12_init_187 (fun o24 => ?_)
    refine hp_putRF B.1 14 23 rfl (by decide) inX12 tyX12 tyX12_ok nmX12 (by decide) fk_X12_23 ft_X12_23 rfA rfl rfl B.2.2.2.1 cf_X12_83 dX12_init_189 ?_
    refine s_rload_n B.1.1 0 dX12_init_192 rfl rfl ?_
    refine s_bipush (v := (12)) B.1.1 dX12_init_193 (by decide) ?_
    refine hp_Na (atype := .int) B.1 0 rfl (by decide) tw_100 (fun _ => rfl) (fun _ _ => rfl) rfl (by decide) dX12_init_195 (fun o25 => ?_)
    refine hp_putRF B.1 14 24 rfl (by decide) inX12 tyX12 tyX12_ok nmX12 (by decide) fk_X12_24 ft_X12_24 rfA rfl rfl B.2.2.2.1 cf_X12_86 dX12_init_197 ?_
    refine s_rload_n B.1.1 0 dX12_init_200 rfl rfl ?_
    refine s_bipush (v := (96)) B.1.1 dX12_init_201 (by decide) ?_
    refine hp_Na (atype := .int) B.1 0 rfl (by decide) tw_100 (fun _ => rfl) (fun _ _ => rfl) rfl (by decide) dX12_init_203 (fun o26 => ?_)
    refine hp_putRF B.1 14 25 rfl (by decide) inX12 tyX12 tyX12_ok nmX12 (by decide) fk_X12_25 ft_X12_25 rfA rfl rfl B.2.2.2.1 cf_X12_89 dX12_init_205 ?_
    refine s_rload_n B.1.1 0 dX12_init_208 rfl rfl ?_
    refine s_sipush (v := (6144)) B.1.1 dX12_init_209 (by decide) ?_
    refine hp_Na (atype := .byte) B.1 1 rfl (by decide) tw_545 (fun _ => rfl) (fun _ _ => rfl) rfl (by decide) dX12_init_212 (fun o27 => ?_)
    refine hp_putRF B.1 14 26 rfl (by decide) inX12 tyX12 tyX12_ok nmX12 (by decide) fk_X12_26 ft_X12_26 rfA rfl rfl B.2.2.2.1 cf_X12_92 dX12_init_214 ?_
    refine s_rload_n B.1.1 0 dX12_init_217 rfl rfl ?_
    refine s_bipush (v := (96)) B.1.1 dX12_init_218 (by decide) ?_
    refine hp_Na (atype := .int) B.1 0 rfl (by decide) tw_100 (fun _ => rfl) (fun _ _ => rfl) rfl (by decide) dX12_init_220 (fun o28 => ?_)
    refine hp_putRF B.1 14 27 rfl (by decide) inX12 tyX12 tyX12_ok nmX12 (by decide) fk_X12_27 ft_X12_27 rfA rfl rfl B.2.2.2.1 cf_X12_95 dX12_init_222 ?_
    refine s_rload_n B.1.1 0 dX12_init_225 rfl rfl ?_
    refine s_bipush (v := (96)) B.1.1 dX12_init_226 (by decide) ?_
    refine hp_Na (atype := .int) B.1 0 rfl (by decide) tw_100 (fun _ => rfl) (fun _ _ => rfl) rfl (by decide) dX12_init_228 (fun o29 => ?_)
    refine hp_putRF B.1 14 28 rfl (by decide) inX12 tyX12 tyX12_ok nmX12 (by decide) fk_X12_28 ft_X12_28 rfA rfl rfl B.2.2.2.1 cf_X12_98 dX12_init_230 ?_
    refine s_rload_n B.1.1 0 dX12_init_233 rfl rfl ?_
    refine s_bipush (v := (96)) B.1.1 dX12_init_234 (by decide) ?_
    refine hp_Na (atype := .int) B.1 0 rfl (by decide) tw_100 (fun _ => rfl) (fun _ _ => rfl) rfl (by decide) dX12_init_236 (fun o30 => ?_)
    refine hp_putRF B.1 14 29 rfl (by decide) inX12 tyX12 tyX12_ok nmX12 (by decide) fk_X12_29 ft_X12_29 rfA rfl rfl B.2.2.2.1 cf_X12_101 dX12_init_238 ?_
    refine s_rload_n B.1.1 0 dX12_init_241 rfl rfl ?_
    refine s_bipush (v := (96)) B.1.1 dX12_init_242 (by decide) ?_
    refine hp_Na (atype := .int) B.1 0 rfl (by decide) tw_100 (fun _ => rfl) (fun _ _ => rfl) rfl (by decide) dX12_init_244 (fun o31 => ?_)
    refine hp_putRF B.1 14 30 rfl (by decide) inX12 tyX12 tyX12_ok nmX12 (by decide) fk_X12_30 ft_X12_30 rfA rfl rfl B.2.2.2.1 cf_X12_104 dX12_init_246 ?_
    refine s_rload_n B.1.1 0 dX12_init_249 rfl rfl ?_
    refine s_bipush (v := (12)) B.1.1 dX12_init_250 (by decide) ?_
    refine hp_Na (atype := .int) B.1 0 rfl (by decide) tw_100 (fun _ => rfl) (fun _ _ => rfl) rfl (by decide) dX12_init_252 (fun o32 => ?_)
    refine hp_putRF B.1 14 31 rfl (by decide) inX12 tyX12 tyX12_ok nmX12 (by decide) fk_X12_31 ft_X12_31 rfA rfl rfl B.2.2.2.1 cf_X12_107 dX12_init_254 ?_
    refine s_rload_n B.1.1 0 dX12_init_257 rfl rfl ?_
    refine s_sipush (v := (192)) B.1.1 dX12_init_258 (by decide) ?_
    refine hp_Na (atype := .int) B.1 0 rfl (by decide) tw_100 (fun _ => rfl) (fun _ _ => rfl) rfl (by decide) dX12_init_261 (fun o33 => ?_)
    refine hp_putRF B.1 14 32 rfl (by decide) inX12 tyX12 tyX12_ok nmX12 (by decide) fk_X12_32 ft_X12_32 rfA rfl rfl B.2.2.2.1 cf_X12_110 dX12_init_263 ?_
    refine s_rload_n B.1.1 0 dX12_init_266 rfl rfl ?_
    refine s_sipush (v := (192)) B.1.1 dX12_init_267 (by decide) ?_
    refine hp_Na (atype := .int) B.1 0 rfl (by decide) tw_100 (fun _ => rfl) (fun _ _ => rfl) rfl (by decide) dX12_init_270 (fun o34 => ?_)
    refine hp_putRF B.1 14 33 rfl (by decide) inX12 tyX12 tyX12_ok nmX12 (by decide) fk_X12_33 ft_X12_33 rfA rfl rfl B.2.2.2.1 cf_X12_113 dX12_init_272 ?_
    refine s_rload_n B.1.1 0 dX12_init_275 rfl rfl ?_
    refine s_sipush (v := (192)) B.1.1 dX12_init_276 (by decide) ?_
    refine hp_Na (atype := .int) B.1 0 rfl (by decide) tw_100 (fun _ => rfl) (fun _ _ => rfl) rfl (by decide) dX12_init_279 (fun o35 => ?_)
    refine hp_putRF B.1 14 34 rfl (by decide) inX12 tyX12 tyX12_ok nmX12 (by decide) fk_X12_34 ft_X12_34 rfA rfl rfl B.2.2.2.1 cf_X12_116 dX12_init_281 ?_
    refine s_rload_n B.1.1 0 dX12_init_284 rfl rfl ?_
    refine s_sipush (v := (192)) B.1.1 dX12_init_285 (by decide) ?_
    refine hp_Na (atype := .int) B.1 0 rfl (by decide) tw_100 (fun _ => rfl) (fun _ _ => rfl) rfl (by decide) dX12_init_288 (fun o36 => ?_)
    refine hp_putRF B.1 14 35 rfl (by decide) inX12 tyX12 tyX12_ok nmX12 (by decide) fk_X12_35 ft_X12_35 rfA rfl rfl B.2.2.2.1 cf_X12_119 dX12_init_290 ?_
    refine s_rload_n B.1.1 0 dX12_init_293 rfl rfl ?_
    refine s_sipush (v := (192)) B.1.1 dX12_init_294 (by decide) ?_
    refine hp_Na (atype := .int) B.1 0 rfl (by decide) tw_100 (fun _ => rfl) (fun _ _ => rfl) rfl (by decide) dX12_init_297 (fun o37 => ?_)
    refine hp_putRF B.1 14 36 rfl (by decide) inX12 tyX12 tyX12_ok nmX12 (by decide) fk_X12_36 ft_X12_36 rfA rfl rfl B.2.2.2.1 cf_X12_122 dX12_init_299 ?_
    refine s_rload_n B.1.1 0 dX12_init_302 rfl rfl ?_
    refine s_sipush (v := (192)) B.1.1 dX12_init_303 (by decide) ?_
    refine hp_Na (atype := .boolean) B.1 2 rfl (by decide) tw_1868 (fun _ => rfl) (fun _ _ => rfl) rfl (by decide) dX12_init_306 (fun o38 => ?_)
    refine hp_putRF B.1 14 37 rfl (by decide) inX12 tyX12 tyX12_ok nmX12 (by decide) fk_X12_37 ft_X12_37 rfA rfl rfl B.2.2.2.1 cf_X12_125 dX12_init_308 ?_
    refine s_rload_n B.1.1 0 dX12_init_311 rfl rfl ?_
    refine s_bipush (v := (12)) B.1.1 dX12_init_312 (by decide) ?_
    refine hp_Na (atype := .int) B.1 0 rfl (by decide) tw_100 (fun _ => rfl) (fun _ _ => rfl) rfl (by decide) dX12_init_314 (fun o39 => ?_)
    refine hp_putRF B.1 14 38 rfl (by decide) inX12 tyX12 tyX12_ok nmX12 (by decide) fk_X12_38 ft_X12_38 rfA rfl rfl B.2.2.2.1 cf_X12_128 dX12_init_316 ?_
    refine s_rload_n B.1.1 0 dX12_init_319 rfl rfl ?_
    refine s_sipush (v := (288)) B.1.1 dX12_init_320 (by decide) ?_
    refine hp_Na (atype := .int) B.1 0 rfl (by decide) tw_100 (fun _ => rfl) (fun _ _ => rfl) rfl (by decide) dX12_init_323 (fun o40 => ?_)
    refine hp_putRF B.1 14 39 rfl (by decide) inX12 tyX12 tyX12_ok nmX12 (by decide) fk_X12_39 ft_X12_39 rfA rfl rfl B.2.2.2.1 cf_X12_131 dX12_init_325 ?_
    refine s_rload_n B.1.1 0 dX12_init_328 rfl rfl ?_
    refine s_sipush (v := (288)) B.1.1 dX12_init_329 (by decide) ?_
    refine hp_Na (atype := .int) B.1 0 rfl (by decide) tw_100 (fun _ => rfl) (fun _ _ => rfl) rfl (by decide) dX12_init_332 (fun o41 => ?_)
    refine hp_putRF B.1 14 40 rfl (by decide) inX12 tyX12 tyX12_ok nmX12 (by decide) fk_X12_40 ft_X12_40 rfA rfl rfl B.2.2.2.1 cf_X12_134 dX12_init_334 ?_
    refine s_rload_n B.1.1 0 dX12_init_337 rfl rfl ?_
    refine s_sipush (v := (288)) B.1.1 dX12_init_338 (by decide) ?_
    refine hp_Na (atype := .int) B.1 0 rfl (by decide) tw_100 (fun _ => rfl) (fun _ _ => rfl) rfl (by decide) dX12_init_341 (fun o42 => ?_)
    refine hp_putRF B.1 14 41 rfl (by decide) inX12 tyX12 tyX12_ok nmX12 (by decide) fk_X12_41 ft_X12_41 rfA rfl rfl B.2.2.2.1 cf_X12_137 dX12_init_343 ?_
    refine s_rload_n B.1.1 0 dX12_init_346 rfl rfl ?_
    refine s_sipush (v := (288)) B.1.1 dX12_init_347 (by decide) ?_
    refine hp_Na (atype := .int) B.1 0 rfl (by decide) tw_100 (fun _ => rfl) (fun _ _ => rfl) rfl (by decide) dX12_init_350 (fun o43 => ?_)
    refine hp_putRF B.1 14 42 rfl (by decide) inX12 tyX12 tyX12_ok nmX12 (by decide) fk_X12_42 ft_X12_42 rfA rfl rfl B.2.2.2.1 cf_X12_140 dX12_init_352 ?_
    refine s_rload_n B.1.1 0 dX12_init_355 rfl rfl ?_
    refine s_bipush (v := (12)) B.1.1 dX12_init_356 (by decide) ?_
    refine hp_Na (atype := .int) B.1 0 rfl (by decide) tw_100 (fun _ => rfl) (fun _ _ => rfl) rfl (by decide) dX12_init_358 (fun o44 => ?_)
    refine hp_putRF B.1 14 43 rfl (by decide) inX12 tyX12 tyX12_ok nmX12 (by decide) fk_X12_43 ft_X12_43 rfA rfl rfl B.2.2.2.1 cf_X12_143 dX12_init_360 ?_
    refine s_rload_n B.1.1 0 dX12_init_363 rfl rfl ?_
    refine s_bipush (v := (96)) B.1.1 dX12_init_364 (by decide) ?_
    refine hp_Na (atype := .int) B.1 0 rfl (by decide) tw_100 (fun _ => rfl) (fun _ _ => rfl) rfl (by decide) dX12_init_366 (fun o45 => ?_)
    refine hp_putRF B.1 14 44 rfl (by decide) inX12 tyX12 tyX12_ok nmX12 (by decide) fk_X12_44 ft_X12_44 rfA rfl rfl B.2.2.2.1 cf_X12_146 dX12_init_368 ?_
    refine s_rload_n B.1.1 0 dX12_init_371 rfl rfl ?_
    refine s_ldc (v := (307200)) B.1.1 tw_1569 dX12_init_372 ?_
    refine hp_Na (atype := .byte) B.1 1 rfl (by decide) tw_545 (fun _ => rfl) (fun _ _ => rfl) rfl (by decide) dX12_init_374 (fun o46 => ?_)
    refine hp_putRF B.1 14 45 rfl (by decide) inX12 tyX12 tyX12_ok nmX12 (by decide) fk_X12_45 ft_X12_45 rfA rfl rfl B.2.2.2.1 cf_X12_150 dX12_init_376 ?_
    refine s_rload_n B.1.1 0 dX12_init_379 rfl rfl ?_
    refine s_sipush (v := (640)) B.1.1 dX12_init_380 (by decide) ?_
    refine hp_Na (atype := .int) B.1 0 rfl (by decide) tw_100 (fun _ => rfl) (fun _ _ => rfl) rfl (by decide) dX12_init_383 (fun o47 => ?_)
    refine hp_putRF B.1 14 46 rfl (by decide) inX12 tyX12 tyX12_ok nmX12 (by decide) fk_X12_46 ft_X12_46 rfA rfl rfl B.2.2.2.1 cf_X12_153 dX12_init_385 ?_
    refine s_rload_n B.1.1 0 dX12_init_388 rfl rfl ?_
    refine s_sipush (v := (640)) B.1.1 dX12_init_389 (by decide) ?_
    refine hp_Na (atype := .int) B.1 0 rfl (by decide) tw_100 (fun _ => rfl) (fun _ _ => rfl) rfl (by decide) dX12_init_392 (fun o48 => ?_)
    refine hp_putRF B.1 14 47 rfl (by decide) inX12 tyX12 tyX12_ok nmX12 (by decide) fk_X12_47 ft_X12_47 rfA rfl rfl B.2.2.2.1 cf_X12_156 dX12_init_394 ?_
    refine s_rload_n B.1.1 0 dX12_init_397 rfl rfl ?_
    refine s_sipush (v := (640)) B.1.1 dX12_init_398 (by decide) ?_
    refine hp_Na (atype := .int) B.1 0 rfl (by decide) tw_100 (fun _ => rfl) (fun _ _ => rfl) rfl (by decide) dX12_init_401 (fun o49 => ?_)
    refine hp_putRF B.1 14 48 rfl (by decide) inX12 tyX12 tyX12_ok nmX12 (by decide) fk_X12_48 ft_X12_48 rfA rfl rfl B.2.2.2.1 cf_X12_159 dX12_init_403 ?_
    refine s_rload_n B.1.1 0 dX12_init_406 rfl rfl ?_
    refine s_sipush (v := (640)) B.1.1 dX12_init_407 (by decide) ?_
    refine hp_Na (atype := .int) B.1 0 rfl (by decide) tw_100 (fun _ => rfl) (fun _ _ => rfl) rfl (by decide) dX12_init_410 (fun o50 => ?_)
    refine hp_putRF B.1 14 49 rfl (by decide) inX12 tyX12 tyX12_ok nmX12 (by decide) fk_X12_49 ft_X12_49 rfA rfl rfl B.2.2.2.1 cf_X12_162 dX12_init_412 ?_
    refine s_rload_n B.1.1 0 dX12_init_415 rfl rfl ?_
    refine s_sipush (v := (640)) B.1.1 dX12_init_416 (by decide) ?_
    refine hp_Na (atype := .long) B.1 3 rfl (by decide) tw_191 (fun _ => rfl) (fun _ _ => rfl) rfl (by decide) dX12_init_419 (fun o51 => ?_)
    refine hp_putRF B.1 14 50 rfl (by decide) inX12 tyX12 tyX12_ok nmX12 (by decide) fk_X12_50 ft_X12_50 rfA rfl rfl B.2.2.2.1 cf_X12_165 dX12_init_421 ?_
    refine s_rload_n B.1.1 0 dX12_init_424 rfl rfl ?_
    refine s_sipush (v := (640)) B.1.1 dX12_init_425 (by decide) ?_
    refine hp_Na (atype := .int) B.1 0 rfl (by decide) tw_100 (fun _ => rfl) (fun _ _ => rfl) rfl (by decide) dX12_init_428 (fun o52 => ?_)
    refine hp_putRF B.1 14 51 rfl (by decide) inX12 tyX12 tyX12_ok nmX12 (by decide) fk_X12_51 ft_X12_51 rfA rfl rfl B.2.2.2.1 cf_X12_168 dX12_init_430 ?_
    refine s_rload_n B.1.1 0 dX12_init_433 rfl rfl ?_
    refine s_sipush (v := (640)) B.1.1 dX12_init_434 (by decide) ?_
    refine hp_Na (atype := .int) B.1 0 rfl (by decide) tw_100 (fun _ => rfl) (fun _ _ => rfl) rfl (by decide) dX12_init_437 (fun o53 => ?_)
    refine hp_putRF B.1 14 52 rfl (by decide) inX12 tyX12 tyX12_ok nmX12 (by decide) fk_X12_52 ft_X12_52 rfA rfl rfl B.2.2.2.1 cf_X12_171 dX12_init_439 ?_
    refine s_rload_n B.1.1 0 dX12_init_442 rfl rfl ?_
    refine s_sipush (v := (640)) B.1.1 dX12_init_443 (by decide) ?_
    refine hp_Na (atype := .int) B.1 0 rfl (by decide) tw_100 (fun _ => rfl) (fun _ _ => rfl) rfl (by decide) dX12_init_446 (fun o54 => ?_)
    refine hp_putRF B.1 14 53 rfl (by decide) inX12 tyX12 tyX12_ok nmX12 (by decide) fk_X12_53 ft_X12_53 rfA rfl rfl B.2.2.2.1 cf_X12_174 dX12_init_448 ?_
    refine s_rload_n B.1.1 0 dX12_init_451 rfl rfl ?_
    refine s_sipush (v := (640)) B.1.1 dX12_init_452 (by decide) ?_
    refine hp_Na (atype := .int) B.1 0 rfl (by decide) tw_100 (fun _ => rfl) (fun _ _ => rfl) rfl (by decide) dX12_init_455 (fun o55 => ?_)
    refine hp_putRF B.1 14 54 rfl (by decide) inX12 tyX12 tyX12_ok nmX12 (by decide) fk_X12_54 ft_X12_54 rfA rfl rfl B.2.2.2.1 cf_X12_177 dX12_init_457 ?_
    refine s_rload_n B.1.1 0 dX12_init_460 rfl rfl ?_
    refine s_sipush (v := (640)) B.1.1 dX12_init_461 (by decide) ?_
    refine hp_Na (atype := .int) B.1 0 rfl (by decide) tw_100 (fun _ => rfl) (fun _ _ => rfl) rfl (by decide) dX12_init_464 (fun o56 => ?_)
    refine hp_putRF B.1 14 55 rfl (by decide) inX12 tyX12 tyX12_ok nmX12 (by decide) fk_X12_55 ft_X12_55 rfA rfl rfl B.2.2.2.1 cf_X12_180 dX12_init_466 ?_
    refine s_rload_n B.1.1 0 dX12_init_469 rfl rfl ?_
    refine s_sipush (v := (640)) B.1.1 dX12_init_470 (by decide) ?_
    refine hp_Na (atype := .int) B.1 0 rfl (by decide) tw_100 (fun _ => rfl) (fun _ _ => rfl) rfl (by decide) dX12_init_473 (fun o57 => ?_)
    refine hp_putRF B.1 14 56 rfl (by decide) inX12 tyX12 tyX12_ok nmX12 (by decide) fk_X12_56 ft_X12_56 rfA rfl rfl B.2.2.2.1 cf_X12_183 dX12_init_475 ?_
    refine s_rload_n B.1.1 0 dX12_init_478 rfl rfl ?_
    refine s_sipush (v := (640)) B.1.1 dX12_init_479 (by decide) ?_
    refine hp_Na (atype := .int) B.1 0 rfl (by decide) tw_100 (fun _ => rfl) (fun _ _ => rfl) rfl (by decide) dX12_init_482 (fun o58 => ?_)
    refine hp_putRF B.1 14 57 rfl (by decide) inX12 tyX12 tyX12_ok nmX12 (by decide) fk_X12_57 ft_X12_57 rfA rfl rfl B.2.2.2.1 cf_X12_186 dX12_init_484 ?_
    refine s_rload_n B.1.1 0 dX12_init_487 rfl rfl ?_
    refine s_sipush (v := (640)) B.1.1 dX12_init_488 (by decide) ?_
    refine hp_Na (atype := .int) B.1 0 rfl (by decide) tw_100 (fun _ => rfl) (fun _ _ => rfl) rfl (by decide) dX12_init_491 (fun o59 => ?_)
    refine hp_putRF B.1 14 58 rfl (by decide) inX12 tyX12 tyX12_ok nmX12 (by decide) fk_X12_58 ft_X12_58 rfA rfl rfl B.2.2.2.1 cf_X12_189 dX12_init_493 ?_
    refine s_rload_n B.1.1 0 dX12_init_496 rfl rfl ?_
    refine s_sipush (v := (640)) B.1.1 dX12_init_497 (by decide) ?_
    refine hp_Na (atype := .int) B.1 0 rfl (by decide) tw_100 (fun _ => rfl) (fun _ _ => rfl) rfl (by decide) dX12_init_500 (fun o60 => ?_)
    refine hp_putRF B.1 14 59 rfl (by decide) inX12 tyX12 tyX12_ok nmX12 (by decide) fk_X12_59 ft_X12_59 rfA rfl rfl B.2.2.2.1 cf_X12_192 dX12_init_502 ?_
    refine s_rload_n B.1.1 0 dX12_init_505 rfl rfl ?_
    refine s_sipush (v := (640)) B.1.1 dX12_init_506 (by decide) ?_
    refine hp_Na (atype := .int) B.1 0 rfl (by decide) tw_100 (fun _ => rfl) (fun _ _ => rfl) rfl (by decide) dX12_init_509 (fun o61 => ?_)
    refine hp_putRF B.1 14 60 rfl (by decide) inX12 tyX12 tyX12_ok nmX12 (by decide) fk_X12_60 ft_X12_60 rfA rfl rfl B.2.2.2.1 cf_X12_195 dX12_init_511 ?_
    refine s_rload_n B.1.1 0 dX12_init_514 rfl rfl ?_
    refine s_sipush (v := (640)) B.1.1 dX12_init_515 (by decide) ?_
    refine hp_Na (atype := .int) B.1 0 rfl (by decide) tw_100 (fun _ => rfl) (fun _ _ => rfl) rfl (by decide) dX12_init_518 (fun o62 => ?_)
    refine hp_putRF B.1 14 61 rfl (by decide) inX12 tyX12 tyX12_ok nmX12 (by decide) fk_X12_61 ft_X12_61 rfA rfl rfl B.2.2.2.1 cf_X12_198 dX12_init_520 ?_
    refine s_rload_n B.1.1 0 dX12_init_523 rfl rfl ?_
    refine s_sipush (v := (640)) B.1.1 dX12_init_524 (by decide) ?_
    refine hp_Na (atype := .int) B.1 0 rfl (by decide) tw_100 (fun _ => rfl) (fun _ _ => rfl) rfl (by decide) dX12_init_527 (fun o63 => ?_)
    refine hp_putRF B.1 14 62 rfl (by decide) inX12 tyX12 tyX12_ok nmX12 (by decide) fk_X12_62 ft_X12_62 rfA rfl rfl B.2.2.2.1 cf_X12_201 dX12_init_529 ?_
    refine s_rload_n B.1.1 0 dX12_init_532 rfl rfl ?_
    refine s_sipush (v := (640)) B.1.1 dX12_init_533 (by decide) ?_
    refine hp_Na (atype := .boolean) B.1 2 rfl (by decide) tw_1868 (fun _ => rfl) (fun _ _ => rfl) rfl (by decide) dX12_init_536 (fun o64 => ?_)
    refine hp_putRF B.1 14 63 rfl (by decide) inX12 tyX12 tyX12_ok nmX12 (by decide) fk_X12_63 ft_X12_63 rfA rfl rfl B.2.2.2.1 cf_X12_204 dX12_init_538 ?_
    refine s_rload_n B.1.1 0 dX12_init_541 rfl rfl ?_
    refine s_bipush (v := (16)) B.1.1 dX12_init_542 (by decide) ?_
    refine hp_Na (atype := .int) B.1 0 rfl (by decide) tw_100 (fun _ => rfl) (fun _ _ => rfl) rfl (by decide) dX12_init_544 (fun o65 => ?_)
    refine hp_putRF B.1 14 64 rfl (by decide) inX12 tyX12 tyX12_ok nmX12 (by decide) fk_X12_64 ft_X12_64 rfA rfl rfl B.2.2.2.1 cf_X12_207 dX12_init_546 ?_
    refine s_rload_n B.1.1 0 dX12_init_549 rfl rfl ?_
    refine s_bipush (v := (64)) B.1.1 dX12_init_550 (by decide) ?_
    refine hp_Na (atype := .boolean) B.1 2 rfl (by decide) tw_1868 (fun _ => rfl) (fun _ _ => rfl) rfl (by decide) dX12_init_552 (fun o66 => ?_)
    refine hp_putRF B.1 14 82 rfl (by decide) inX12 tyX12 tyX12_ok nmX12 (by decide) fk_X12_82 ft_X12_82 rfA rfl rfl B.2.2.2.1 cf_X12_210 dX12_init_554 ?_
    refine s_rload_n B.1.1 0 dX12_init_557 rfl rfl ?_
    refine s_bipush (v := (64)) B.1.1 dX12_init_558 (by decide) ?_
    refine hp_Na (atype := .long) B.1 3 rfl (by decide) tw_191 (fun _ => rfl) (fun _ _ => rfl) rfl (by decide) dX12_init_560 (fun o67 => ?_)
    refine hp_putRF B.1 14 83 rfl (by decide) inX12 tyX12 tyX12_ok nmX12 (by decide) fk_X12_83 ft_X12_83 rfA rfl rfl B.2.2.2.1 cf_X12_213 dX12_init_562 ?_
    refine s_rload_n B.1.1 0 dX12_init_565 rfl rfl ?_
    refine s_bipush (v := (64)) B.1.1 dX12_init_566 (by decide) ?_
    refine hp_Na (atype := .int) B.1 0 rfl (by decide) tw_100 (fun _ => rfl) (fun _ _ => rfl) rfl (by decide) dX12_init_568 (fun o68 => ?_)
    refine hp_putRF B.1 14 84 rfl (by decide) inX12 tyX12 tyX12_ok nmX12 (by decide) fk_X12_84 ft_X12_84 rfA rfl rfl B.2.2.2.1 cf_X12_216 dX12_init_570 ?_
    refine s_rload_n B.1.1 0 dX12_init_573 rfl rfl ?_
    refine s_bipush (v := (64)) B.1.1 dX12_init_574 (by decide) ?_
    refine hp_Na (atype := .int) B.1 0 rfl (by decide) tw_100 (fun _ => rfl) (fun _ _ => rfl) rfl (by decide) dX12_init_576 (fun o69 => ?_)
    refine hp_putRF B.1 14 85 rfl (by decide) inX12 tyX12 tyX12_ok nmX12 (by decide) fk_X12_85 ft_X12_85 rfA rfl rfl B.2.2.2.1 cf_X12_219 dX12_init_578 ?_
    refine s_rload_n B.1.1 0 dX12_init_581 rfl rfl ?_
    refine s_sipush (v := (410)) B.1.1 dX12_init_582 (by decide) ?_
    refine hp_Na (atype := .byte) B.1 1 rfl (by decide) tw_545 (fun _ => rfl) (fun _ _ => rfl) rfl (by decide) dX12_init_585 (fun o70 => ?_)
    refine hp_putRF B.1 14 86 rfl (by decide) inX12 tyX12 tyX12_ok nmX12 (by decide) fk_X12_86 ft_X12_86 rfA rfl rfl B.2.2.2.1 cf_X12_222 dX12_init_587 ?_
    refine s_rload_n B.1.1 0 dX12_init_590 rfl rfl ?_
    refine s_sipush (v := (1200)) B.1.1 dX12_init_591 (by decide) ?_
    refine hp_Na (atype := .byte) B.1 1 rfl (by decide) tw_545 (fun _ => rfl) (fun _ _ => rfl) rfl (by decide) dX12_init_594 (fun o71 => ?_)
    refine hp_putRF B.1 14 88 rfl (by decide) inX12 tyX12 tyX12_ok nmX12 (by decide) fk_X12_88 ft_X12_88 rfA rfl rfl B.2.2.2.1 cf_X12_225 dX12_init_596 ?_
    refine s_rload_n B.1.1 0 dX12_init_599 rfl rfl ?_
    refine s_sipush (v := (1200)) B.1.1 dX12_init_600 (by decide) ?_
    refine hp_Na (atype := .byte) B.1 1 rfl (by decide) tw_545 (fun _ => rfl) (fun _ _ => rfl) rfl (by decide) dX12_init_603 (fun o72 => ?_)
    refine hp_putRF B.1 14 90 rfl (by decide) inX12 tyX12 tyX12_ok nmX12 (by decide) fk_X12_90 ft_X12_90 rfA rfl rfl B.2.2.2.1 cf_X12_228 dX12_init_605 ?_
    refine s_rload_n B.1.1 0 dX12_init_608 rfl rfl ?_
    refine s_sipush (v := (410)) B.1.1 dX12_init_609 (by decide) ?_
    refine hp_Na (atype := .int) B.1 0 rfl (by decide) tw_100 (fun _ => rfl) (fun _ _ => rfl) rfl (by decide) dX12_init_612 (fun o73 => ?_)
    refine hp_putRF B.1 14 92 rfl (by decide) inX12 tyX12 tyX12_ok nmX12 (by decide) fk_X12_92 ft_X12_92 rfA rfl rfl B.2.2.2.1 cf_X12_231 dX12_init_614 ?_
    refine s_rload_n B.1.1 0 dX12_init_617 rfl rfl ?_
    refine s_sipush (v := (410)) B.1.1 dX12_init_618 (by decide) ?_
    refine hp_Na (atype := .int) B.1 0 rfl (by decide) tw_100 (fun _ => rfl) (fun _ _ => rfl) rfl (by decide) dX12_init_621 (fun o74 => ?_)
    refine hp_putRF B.1 14 93 rfl (by decide) inX12 tyX12 tyX12_ok nmX12 (by decide) fk_X12_93 ft_X12_93 rfA rfl rfl B.2.2.2.1 cf_X12_234 dX12_init_623 ?_
    refine s_rload_n B.1.1 0 dX12_init_626 rfl rfl ?_
    refine s_sipush (v := (410)) B.1.1 dX12_init_627 (by decide) ?_
    refine hp_Na (atype := .int) B.1 0 rfl (by decide) tw_100 (fun _ => rfl) (fun _ _ => rfl) rfl (by decide) dX12_init_630 (fun o75 => ?_)
    refine hp_putRF B.1 14 94 rfl (by decide) inX12 tyX12 tyX12_ok nmX12 (by decide) fk_X12_94 ft_X12_94 rfA rfl rfl B.2.2.2.1 cf_X12_237 dX12_init_632 ?_
    refine s_rload_n B.1.1 0 dX12_init_635 rfl rfl ?_
    refine s_sipush (v := (410)) B.1.1 dX12_init_636 (by decide) ?_
    refine hp_Na (atype := .int) B.1 0 rfl (by decide) tw_100 (fun _ => rfl) (fun _ _ => rfl) rfl (by decide) dX12_init_639 (fun o76 => ?_)
    refine hp_putRF B.1 14 95 rfl (by decide) inX12 tyX12 tyX12_ok nmX12 (by decide) fk_X12_95 ft_X12_95 rfA rfl rfl B.2.2.2.1 cf_X12_240 dX12_init_641 ?_
    refine s_rload_n B.1.1 0 dX12_init_644 rfl rfl ?_
    refine s_sipush (v := (410)) B.1.1 dX12_init_645 (by decide) ?_
    refine hp_Na (atype := .boolean) B.1 2 rfl (by decide) tw_1868 (fun _ => rfl) (fun _ _ => rfl) rfl (by decide) dX12_init_648 (fun o77 => ?_)
    refine hp_putRF B.1 14 96 rfl (by decide) inX12 tyX12 tyX12_ok nmX12 (by decide) fk_X12_96 ft_X12_96 rfA rfl rfl B.2.2.2.1 cf_X12_243 dX12_init_650 ?_
    refine s_rload_n B.1.1 0 dX12_init_653 rfl rfl ?_
    refine s_bipush (v := (64)) B.1.1 dX12_init_654 (by decide) ?_
    refine hp_Na (atype := .byte) B.1 1 rfl (by decide) tw_545 (fun _ => rfl) (fun _ _ => rfl) rfl (by decide) dX12_init_656 (fun o78 => ?_)
    refine hp_putRF B.1 14 97 rfl (by decide) inX12 tyX12 tyX12_ok nmX12 (by decide) fk_X12_97 ft_X12_97 rfA rfl rfl B.2.2.2.1 cf_X12_246 dX12_init_658 ?_
    refine s_iconst (v := 0) B.1.1 dX12_init_661 (by decide) ?_
    refine s_istore_n (i := 1) (lv' := [(1, .int (0 : Int32)), (0, va_rf (some l0))]) B.1.1 dX12_init_662 rfl (by decide) rfl ?_
    exact Sm.lvs [1, 0] rfl (sc_X12_init_L663 B (sc_X12_init_J682 B) fu (0 : Int32))
  exact MH.of hw ⟨rfl, rfl⟩ (by decide) (by simp [lg_sl, va_rf_cat, cat_i, cat_l, cat_r]) (mo_C_X12_init l0) M0

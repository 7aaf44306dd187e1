/-! Every row and every method of the tables holds: by the kernel. -/
set_option maxRecDepth 1000000 in
theorem rk0 : (p0).all (rowC 0) = true := by decide +kernel
set_option maxRecDepth 1000000 in
theorem rk1 : (p1).all (rowC 1) = true := by decide +kernel
set_option maxRecDepth 1000000 in
theorem rk2 : (p2).all (rowC 2) = true := by decide +kernel
set_option maxRecDepth 1000000 in
theorem rk3 : (p3).all (rowC 3) = true := by decide +kernel
set_option maxRecDepth 1000000 in
theorem rk4 : (p4).all (rowC 4) = true := by decide +kernel
set_option maxRecDepth 1000000 in
theorem rk5 : (p5).all (rowC 5) = true := by decide +kernel
set_option maxRecDepth 1000000 in
theorem rk6 : (p6).all (rowC 6) = true := by decide +kernel
set_option maxRecDepth 1000000 in
theorem rk7 : (p7).all (rowC 7) = true := by decide +kernel
set_option maxRecDepth 1000000 in
theorem rk8 : (p8).all (rowC 8) = true := by decide +kernel
set_option maxRecDepth 1000000 in
theorem rk9 : (p9).all (rowC 9) = true := by decide +kernel
set_option maxRecDepth 1000000 in
theorem rk10 : (p10).all (rowC 10) = true := by decide +kernel
set_option maxRecDepth 1000000 in
theorem rk11 : (p11).all (rowC 11) = true := by decide +kernel
set_option maxRecDepth 1000000 in
theorem rk12 : (p12).all (rowC 12) = true := by decide +kernel
set_option maxRecDepth 1000000 in
theorem rk13 : (p13).all (rowC 13) = true := by decide +kernel
set_option maxRecDepth 1000000 in
theorem rk14 : (p14).all (rowC 14) = true := by decide +kernel
set_option maxRecDepth 1000000 in
theorem rk15 : (p15).all (rowC 15) = true := by decide +kernel
set_option maxRecDepth 1000000 in
theorem rk16 : (p16).all (rowC 16) = true := by decide +kernel
set_option maxRecDepth 1000000 in
theorem rk17 : (p17).all (rowC 17) = true := by decide +kernel
set_option maxRecDepth 1000000 in
theorem rk18 : (p18).all (rowC 18) = true := by decide +kernel
set_option maxRecDepth 1000000 in
theorem rk19 : (p19).all (rowC 19) = true := by decide +kernel
set_option maxRecDepth 1000000 in
theorem rk20 : (p20).all (rowC 20) = true := by decide +kernel
set_option maxRecDepth 1000000 in
theorem rk21 : (p21).all (rowC 21) = true := by decide +kernel
set_option maxRecDepth 1000000 in
theorem rk22 : (p22).all (rowC 22) = true := by decide +kernel
set_option maxRecDepth 1000000 in
theorem rk23 : (p23).all (rowC 23) = true := by decide +kernel
set_option maxRecDepth 1000000 in
theorem rk24 : (p24).all (rowC 24) = true := by decide +kernel
set_option maxRecDepth 1000000 in
theorem rk25 : (p25).all (rowC 25) = true := by decide +kernel
set_option maxRecDepth 1000000 in
theorem rk26 : (p26).all (rowC 26) = true := by decide +kernel
set_option maxRecDepth 1000000 in
theorem rk27 : (p27).all (rowC 27) = true := by decide +kernel
set_option maxRecDepth 1000000 in
theorem rk28 : (p28).all (rowC 28) = true := by decide +kernel
set_option maxRecDepth 1000000 in
theorem rk29 : (p29).all (rowC 29) = true := by decide +kernel
set_option maxRecDepth 1000000 in
theorem rk30 : (p30).all (rowC 30) = true := by decide +kernel
set_option maxRecDepth 1000000 in
theorem rk31 : (p31).all (rowC 31) = true := by decide +kernel
set_option maxRecDepth 1000000 in
theorem rk32 : (p32).all (rowC 32) = true := by decide +kernel
set_option maxRecDepth 1000000 in
theorem rk33 : (p33).all (rowC 33) = true := by decide +kernel
set_option maxRecDepth 1000000 in
theorem rk34 : (p34).all (rowC 34) = true := by decide +kernel
set_option maxRecDepth 1000000 in
theorem rk35 : (p35).all (rowC 35) = true := by decide +kernel
set_option maxRecDepth 1000000 in
theorem rk36 : (p36).all (rowC 36) = true := by decide +kernel
set_option maxRecDepth 1000000 in
theorem rk37 : (p37).all (rowC 37) = true := by decide +kernel
set_option maxRecDepth 1000000 in
theorem rk38 : (p38).all (rowC 38) = true := by decide +kernel
set_option maxRecDepth 1000000 in
theorem rk39 : (p39).all (rowC 39) = true := by decide +kernel
set_option maxRecDepth 1000000 in
theorem rk40 : (p40).all (rowC 40) = true := by decide +kernel
set_option maxRecDepth 1000000 in
theorem rk41 : (p41).all (rowC 41) = true := by decide +kernel
set_option maxRecDepth 1000000 in
theorem rk42 : (p42).all (rowC 42) = true := by decide +kernel
set_option maxRecDepth 1000000 in
theorem rk43 : (p43).all (rowC 43) = true := by decide +kernel
set_option maxRecDepth 1000000 in
theorem rk44 : (p44).all (rowC 44) = true := by decide +kernel
set_option maxRecDepth 1000000 in
theorem rk45 : (p45).all (rowC 45) = true := by decide +kernel
set_option maxRecDepth 1000000 in
theorem rk46 : (p46).all (rowC 46) = true := by decide +kernel
set_option maxRecDepth 1000000 in
theorem rk47 : (p47).all (rowC 47) = true := by decide +kernel
set_option maxRecDepth 1000000 in
theorem rk48 : (p48).all (rowC 48) = true := by decide +kernel
set_option maxRecDepth 1000000 in
theorem rk49 : (p49).all (rowC 49) = true := by decide +kernel
set_option maxRecDepth 1000000 in
theorem rk50 : (p50).all (rowC 50) = true := by decide +kernel
set_option maxRecDepth 1000000 in
theorem rk51 : (p51).all (rowC 51) = true := by decide +kernel
set_option maxRecDepth 1000000 in
theorem rk52 : (p52).all (rowC 52) = true := by decide +kernel
set_option maxRecDepth 1000000 in
theorem rk53 : (p53).all (rowC 53) = true := by decide +kernel
set_option maxRecDepth 1000000 in
theorem rk54 : (p54).all (rowC 54) = true := by decide +kernel
set_option maxRecDepth 1000000 in
theorem rk55 : (p55).all (rowC 55) = true := by decide +kernel
set_option maxRecDepth 1000000 in
theorem rk56 : (p56).all (rowC 56) = true := by decide +kernel
set_option maxRecDepth 1000000 in
theorem rk57 : (p57).all (rowC 57) = true := by decide +kernel
set_option maxRecDepth 1000000 in
theorem rk58 : (p58).all (rowC 58) = true := by decide +kernel
set_option maxRecDepth 1000000 in
theorem rk59 : (p59).all (rowC 59) = true := by decide +kernel
set_option maxRecDepth 1000000 in
theorem rk60 : (p60).all (rowC 60) = true := by decide +kernel
set_option maxRecDepth 1000000 in
theorem rk61 : (p61).all (rowC 61) = true := by decide +kernel
set_option maxRecDepth 1000000 in
theorem rk62 : (p62).all (rowC 62) = true := by decide +kernel
set_option maxRecDepth 1000000 in
theorem rk63 : (p63).all (rowC 63) = true := by decide +kernel
set_option maxRecDepth 1000000 in
theorem rk64 : (p64).all (rowC 64) = true := by decide +kernel
set_option maxRecDepth 1000000 in
theorem rk65 : (p65).all (rowC 65) = true := by decide +kernel
set_option maxRecDepth 1000000 in
theorem rk66 : (p66).all (rowC 66) = true := by decide +kernel
set_option maxRecDepth 1000000 in
theorem rk67 : (p67).all (rowC 67) = true := by decide +kernel
set_option maxRecDepth 1000000 in
theorem rk68 : (p68).all (rowC 68) = true := by decide +kernel
set_option maxRecDepth 1000000 in
theorem rk69 : (p69).all (rowC 69) = true := by decide +kernel
set_option maxRecDepth 1000000 in
theorem rk70 : (p70).all (rowC 70) = true := by decide +kernel
set_option maxRecDepth 1000000 in
theorem rk71 : (p71).all (rowC 71) = true := by decide +kernel
set_option maxRecDepth 1000000 in
theorem rk72 : (p72).all (rowC 72) = true := by decide +kernel
set_option maxRecDepth 1000000 in
theorem rk73 : (p73).all (rowC 73) = true := by decide +kernel
set_option maxRecDepth 1000000 in
theorem rk74 : (p74).all (rowC 74) = true := by decide +kernel
set_option maxRecDepth 1000000 in
theorem rk75 : (p75).all (rowC 75) = true := by decide +kernel
set_option maxRecDepth 1000000 in
theorem rk76 : (p76).all (rowC 76) = true := by decide +kernel
set_option maxRecDepth 1000000 in
theorem rk77 : (p77).all (rowC 77) = true := by decide +kernel
set_option maxRecDepth 1000000 in
theorem rk78 : (p78).all (rowC 78) = true := by decide +kernel
set_option maxRecDepth 1000000 in
theorem rk79 : (p79).all (rowC 79) = true := by decide +kernel
set_option maxRecDepth 1000000 in
theorem rk80 : (p80).all (rowC 80) = true := by decide +kernel
set_option maxRecDepth 1000000 in
theorem rk81 : (p81).all (rowC 81) = true := by decide +kernel
set_option maxRecDepth 1000000 in
theorem rk82 : (p82).all (rowC 82) = true := by decide +kernel
set_option maxRecDepth 1000000 in
theorem rk83 : (p83).all (rowC 83) = true := by decide +kernel
set_option maxRecDepth 1000000 in
theorem rk84 : (p84).all (rowC 84) = true := by decide +kernel
set_option maxRecDepth 1000000 in
theorem rk85 : (p85).all (rowC 85) = true := by decide +kernel
set_option maxRecDepth 1000000 in
theorem rk86 : (p86).all (rowC 86) = true := by decide +kernel
set_option maxRecDepth 1000000 in
theorem rk87 : (p87).all (rowC 87) = true := by decide +kernel
set_option maxRecDepth 1000000 in
theorem rk88 : (p88).all (rowC 88) = true := by decide +kernel
set_option maxRecDepth 1000000 in
theorem rk89 : (p89).all (rowC 89) = true := by decide +kernel
set_option maxRecDepth 1000000 in
theorem rk90 : (p90).all (rowC 90) = true := by decide +kernel
set_option maxRecDepth 1000000 in
theorem rk91 : (p91).all (rowC 91) = true := by decide +kernel
set_option maxRecDepth 1000000 in
theorem rk92 : (p92).all (rowC 92) = true := by decide +kernel
set_option maxRecDepth 1000000 in
theorem rk93 : (p93).all (rowC 93) = true := by decide +kernel
set_option maxRecDepth 1000000 in
theorem rk94 : (p94).all (rowC 94) = true := by decide +kernel
set_option maxRecDepth 1000000 in
theorem rk95 : (p95).all (rowC 95) = true := by decide +kernel
set_option maxRecDepth 1000000 in
theorem rk96 : (p96).all (rowC 96) = true := by decide +kernel
set_option maxRecDepth 1000000 in
theorem rk97 : (p97).all (rowC 97) = true := by decide +kernel
set_option maxRecDepth 1000000 in
theorem rk98 : (p98).all (rowC 98) = true := by decide +kernel
set_option maxRecDepth 1000000 in
theorem rk99 : (p99).all (rowC 99) = true := by decide +kernel
set_option maxRecDepth 1000000 in
theorem rk100 : (p100).all (rowC 100) = true := by decide +kernel
set_option maxRecDepth 1000000 in
theorem rk101 : (p101).all (rowC 101) = true := by decide +kernel
set_option maxRecDepth 1000000 in
theorem rk102 : (p102).all (rowC 102) = true := by decide +kernel
set_option maxRecDepth 1000000 in
theorem rk103 : (p103).all (rowC 103) = true := by decide +kernel
set_option maxRecDepth 1000000 in
theorem rk104 : (p104).all (rowC 104) = true := by decide +kernel
set_option maxRecDepth 1000000 in
theorem rk105 : (p105).all (rowC 105) = true := by decide +kernel
set_option maxRecDepth 1000000 in
theorem rk106 : (p106).all (rowC 106) = true := by decide +kernel
set_option maxRecDepth 1000000 in
theorem rk107 : (p107).all (rowC 107) = true := by decide +kernel
set_option maxRecDepth 1000000 in
theorem rk108 : (p108).all (rowC 108) = true := by decide +kernel
set_option maxRecDepth 1000000 in
theorem rk109 : (p109).all (rowC 109) = true := by decide +kernel
set_option maxRecDepth 1000000 in
theorem rk110 : (p110).all (rowC 110) = true := by decide +kernel
set_option maxRecDepth 1000000 in
theorem rk111 : (p111).all (rowC 111) = true := by decide +kernel
set_option maxRecDepth 1000000 in
theorem rk112 : (p112).all (rowC 112) = true := by decide +kernel
set_option maxRecDepth 1000000 in
theorem rk113 : (p113).all (rowC 113) = true := by decide +kernel
set_option maxRecDepth 1000000 in
theorem rk114 : (p114).all (rowC 114) = true := by decide +kernel
set_option maxRecDepth 1000000 in
theorem rk115 : (p115).all (rowC 115) = true := by decide +kernel
set_option maxRecDepth 1000000 in
theorem rk116 : (p116).all (rowC 116) = true := by decide +kernel
set_option maxRecDepth 1000000 in
theorem rk117 : (p117).all (rowC 117) = true := by decide +kernel
set_option maxRecDepth 1000000 in
theorem rk118 : (p118).all (rowC 118) = true := by decide +kernel
set_option maxRecDepth 1000000 in
theorem rk119 : (p119).all (rowC 119) = true := by decide +kernel
set_option maxRecDepth 1000000 in
theorem rk120 : (p120).all (rowC 120) = true := by decide +kernel
set_option maxRecDepth 1000000 in
theorem rk121 : (p121).all (rowC 121) = true := by decide +kernel
set_option maxRecDepth 1000000 in
theorem rk122 : (p122).all (rowC 122) = true := by decide +kernel
set_option maxRecDepth 1000000 in
theorem rk123 : (p123).all (rowC 123) = true := by decide +kernel
set_option maxRecDepth 1000000 in
theorem rk124 : (p124).all (rowC 124) = true := by decide +kernel
set_option maxRecDepth 1000000 in
theorem rk125 : (p125).all (rowC 125) = true := by decide +kernel
set_option maxRecDepth 1000000 in
theorem rk126 : (p126).all (rowC 126) = true := by decide +kernel
set_option maxRecDepth 1000000 in
theorem rk127 : (p127).all (rowC 127) = true := by decide +kernel
set_option maxRecDepth 1000000 in
theorem rk128 : (p128).all (rowC 128) = true := by decide +kernel
set_option maxRecDepth 1000000 in
theorem rk129 : (p129).all (rowC 129) = true := by decide +kernel
set_option maxRecDepth 1000000 in
theorem rk130 : (p130).all (rowC 130) = true := by decide +kernel
set_option maxRecDepth 1000000 in
theorem rk131 : (p131).all (rowC 131) = true := by decide +kernel
set_option maxRecDepth 1000000 in
theorem rk132 : (p132).all (rowC 132) = true := by decide +kernel
set_option maxRecDepth 1000000 in
theorem rk133 : (p133).all (rowC 133) = true := by decide +kernel
set_option maxRecDepth 1000000 in
theorem rk134 : (p134).all (rowC 134) = true := by decide +kernel
set_option maxRecDepth 1000000 in
theorem rk135 : (p135).all (rowC 135) = true := by decide +kernel
set_option maxRecDepth 1000000 in
theorem rk136 : (p136).all (rowC 136) = true := by decide +kernel
set_option maxRecDepth 1000000 in
theorem rk137 : (p137).all (rowC 137) = true := by decide +kernel
set_option maxRecDepth 1000000 in
theorem rk138 : (p138).all (rowC 138) = true := by decide +kernel
set_option maxRecDepth 1000000 in
theorem rk139 : (p139).all (rowC 139) = true := by decide +kernel
set_option maxRecDepth 1000000 in
theorem rk140 : (p140).all (rowC 140) = true := by decide +kernel
set_option maxRecDepth 1000000 in
theorem rk141 : (p141).all (rowC 141) = true := by decide +kernel
set_option maxRecDepth 1000000 in
theorem rk142 : (p142).all (rowC 142) = true := by decide +kernel
set_option maxRecDepth 1000000 in
theorem rk143 : (p143).all (rowC 143) = true := by decide +kernel
set_option maxRecDepth 1000000 in
theorem rk144 : (p144).all (rowC 144) = true := by decide +kernel
set_option maxRecDepth 1000000 in
theorem rk145 : (p145).all (rowC 145) = true := by decide +kernel
set_option maxRecDepth 1000000 in
theorem rk146 : (p146).all (rowC 146) = true := by decide +kernel
set_option maxRecDepth 1000000 in
theorem rk147 : (p147).all (rowC 147) = true := by decide +kernel
set_option maxRecDepth 1000000 in
theorem rk148 : (p148).all (rowC 148) = true := by decide +kernel
set_option maxRecDepth 1000000 in
theorem rk149 : (p149).all (rowC 149) = true := by decide +kernel
set_option maxRecDepth 1000000 in
theorem rk150 : (p150).all (rowC 150) = true := by decide +kernel
set_option maxRecDepth 1000000 in
theorem rk151 : (p151).all (rowC 151) = true := by decide +kernel
set_option maxRecDepth 1000000 in
theorem rk152 : (p152).all (rowC 152) = true := by decide +kernel
set_option maxRecDepth 1000000 in
theorem rk153 : (p153).all (rowC 153) = true := by decide +kernel
set_option maxRecDepth 1000000 in
theorem rk154 : (p154).all (rowC 154) = true := by decide +kernel
set_option maxRecDepth 1000000 in
theorem rk155 : (p155).all (rowC 155) = true := by decide +kernel
set_option maxRecDepth 1000000 in
theorem rk156 : (p156).all (rowC 156) = true := by decide +kernel
set_option maxRecDepth 1000000 in
theorem rk157 : (p157).all (rowC 157) = true := by decide +kernel
set_option maxRecDepth 1000000 in
theorem rk158 : (p158).all (rowC 158) = true := by decide +kernel
set_option maxRecDepth 1000000 in
theorem rk159 : (p159).all (rowC 159) = true := by decide +kernel
set_option maxRecDepth 1000000 in
theorem rk160 : (p160).all (rowC 160) = true := by decide +kernel
set_option maxRecDepth 1000000 in
theorem rk161 : (p161).all (rowC 161) = true := by decide +kernel
set_option maxRecDepth 1000000 in
theorem rk162 : (p162).all (rowC 162) = true := by decide +kernel
set_option maxRecDepth 1000000 in
theorem rk163 : (p163).all (rowC 163) = true := by decide +kernel
set_option maxRecDepth 1000000 in
theorem rk164 : (p164).all (rowC 164) = true := by decide +kernel
set_option maxRecDepth 1000000 in
theorem rk165 : (p165).all (rowC 165) = true := by decide +kernel
set_option maxRecDepth 1000000 in
theorem rk166 : (p166).all (rowC 166) = true := by decide +kernel
set_option maxRecDepth 1000000 in
theorem rk167 : (p167).all (rowC 167) = true := by decide +kernel
set_option maxRecDepth 1000000 in
theorem rk168 : (p168).all (rowC 168) = true := by decide +kernel
set_option maxRecDepth 1000000 in
theorem rk169 : (p169).all (rowC 169) = true := by decide +kernel
set_option maxRecDepth 1000000 in
theorem rk170 : (p170).all (rowC 170) = true := by decide +kernel
set_option maxRecDepth 1000000 in
theorem rk171 : (p171).all (rowC 171) = true := by decide +kernel
set_option maxRecDepth 1000000 in
theorem rk172 : (p172).all (rowC 172) = true := by decide +kernel
set_option maxRecDepth 1000000 in
theorem rk173 : (p173).all (rowC 173) = true := by decide +kernel
set_option maxRecDepth 1000000 in
theorem rk174 : (p174).all (rowC 174) = true := by decide +kernel
set_option maxRecDepth 1000000 in
theorem rk175 : (p175).all (rowC 175) = true := by decide +kernel
set_option maxRecDepth 1000000 in
theorem rk176 : (p176).all (rowC 176) = true := by decide +kernel
set_option maxRecDepth 1000000 in
theorem rk177 : (p177).all (rowC 177) = true := by decide +kernel
set_option maxRecDepth 1000000 in
theorem rk178 : (p178).all (rowC 178) = true := by decide +kernel
set_option maxRecDepth 1000000 in
theorem rk179 : (p179).all (rowC 179) = true := by decide +kernel
set_option maxRecDepth 1000000 in
theorem rk180 : (p180).all (rowC 180) = true := by decide +kernel
set_option maxRecDepth 1000000 in
theorem rk181 : (p181).all (rowC 181) = true := by decide +kernel
set_option maxRecDepth 1000000 in
theorem rk182 : (p182).all (rowC 182) = true := by decide +kernel
set_option maxRecDepth 1000000 in
theorem rk183 : (p183).all (rowC 183) = true := by decide +kernel
set_option maxRecDepth 1000000 in
theorem rk184 : (p184).all (rowC 184) = true := by decide +kernel
set_option maxRecDepth 1000000 in
theorem rk185 : (p185).all (rowC 185) = true := by decide +kernel
set_option maxRecDepth 1000000 in
theorem rk186 : (p186).all (rowC 186) = true := by decide +kernel
set_option maxRecDepth 1000000 in
theorem rk187 : (p187).all (rowC 187) = true := by decide +kernel
set_option maxRecDepth 1000000 in
theorem rk188 : (p188).all (rowC 188) = true := by decide +kernel
set_option maxRecDepth 1000000 in
theorem rk189 : (p189).all (rowC 189) = true := by decide +kernel
set_option maxRecDepth 1000000 in
theorem rk190 : (p190).all (rowC 190) = true := by decide +kernel
set_option maxRecDepth 1000000 in
theorem rk191 : (p191).all (rowC 191) = true := by decide +kernel
set_option maxRecDepth 1000000 in
theorem rk192 : (p192).all (rowC 192) = true := by decide +kernel
set_option maxRecDepth 1000000 in
theorem rk193 : (p193).all (rowC 193) = true := by decide +kernel
set_option maxRecDepth 1000000 in
theorem rk194 : (p194).all (rowC 194) = true := by decide +kernel
set_option maxRecDepth 1000000 in
theorem rk195 : (p195).all (rowC 195) = true := by decide +kernel
set_option maxRecDepth 1000000 in
theorem rk196 : (p196).all (rowC 196) = true := by decide +kernel
set_option maxRecDepth 1000000 in
theorem rk197 : (p197).all (rowC 197) = true := by decide +kernel
set_option maxRecDepth 1000000 in
theorem rk198 : (p198).all (rowC 198) = true := by decide +kernel
set_option maxRecDepth 1000000 in
theorem rk199 : (p199).all (rowC 199) = true := by decide +kernel
set_option maxRecDepth 1000000 in
theorem rk200 : (p200).all (rowC 200) = true := by decide +kernel
set_option maxRecDepth 1000000 in
theorem rk201 : (p201).all (rowC 201) = true := by decide +kernel
set_option maxRecDepth 1000000 in
theorem rk202 : (p202).all (rowC 202) = true := by decide +kernel
set_option maxRecDepth 1000000 in
theorem rk203 : (p203).all (rowC 203) = true := by decide +kernel
set_option maxRecDepth 1000000 in
theorem rk204 : (p204).all (rowC 204) = true := by decide +kernel
set_option maxRecDepth 1000000 in
theorem rk205 : (p205).all (rowC 205) = true := by decide +kernel
set_option maxRecDepth 1000000 in
theorem rk206 : (p206).all (rowC 206) = true := by decide +kernel
set_option maxRecDepth 1000000 in
theorem rk207 : (p207).all (rowC 207) = true := by decide +kernel
set_option maxRecDepth 1000000 in
theorem rk208 : (p208).all (rowC 208) = true := by decide +kernel
set_option maxRecDepth 1000000 in
theorem rk209 : (p209).all (rowC 209) = true := by decide +kernel
set_option maxRecDepth 1000000 in
theorem rk210 : (p210).all (rowC 210) = true := by decide +kernel
set_option maxRecDepth 1000000 in
theorem rk211 : (p211).all (rowC 211) = true := by decide +kernel
set_option maxRecDepth 1000000 in
theorem rk212 : (p212).all (rowC 212) = true := by decide +kernel
set_option maxRecDepth 1000000 in
theorem rk213 : (p213).all (rowC 213) = true := by decide +kernel
set_option maxRecDepth 1000000 in
theorem rk214 : (p214).all (rowC 214) = true := by decide +kernel
set_option maxRecDepth 1000000 in
theorem rk215 : (p215).all (rowC 215) = true := by decide +kernel
set_option maxRecDepth 1000000 in
theorem rk216 : (p216).all (rowC 216) = true := by decide +kernel
set_option maxRecDepth 1000000 in
theorem rk217 : (p217).all (rowC 217) = true := by decide +kernel
set_option maxRecDepth 1000000 in
theorem rk218 : (p218).all (rowC 218) = true := by decide +kernel
set_option maxRecDepth 1000000 in
theorem rk219 : (p219).all (rowC 219) = true := by decide +kernel
set_option maxRecDepth 1000000 in
theorem rk220 : (p220).all (rowC 220) = true := by decide +kernel
set_option maxRecDepth 1000000 in
theorem rk221 : (p221).all (rowC 221) = true := by decide +kernel
set_option maxRecDepth 1000000 in
theorem rk222 : (p222).all (rowC 222) = true := by decide +kernel
set_option maxRecDepth 1000000 in
theorem rk223 : (p223).all (rowC 223) = true := by decide +kernel
set_option maxRecDepth 1000000 in
theorem rk224 : (p224).all (rowC 224) = true := by decide +kernel
set_option maxRecDepth 1000000 in
theorem rk225 : (p225).all (rowC 225) = true := by decide +kernel
set_option maxRecDepth 1000000 in
theorem rk226 : (p226).all (rowC 226) = true := by decide +kernel
set_option maxRecDepth 1000000 in
theorem rk227 : (p227).all (rowC 227) = true := by decide +kernel
set_option maxRecDepth 1000000 in
theorem rk228 : (p228).all (rowC 228) = true := by decide +kernel
set_option maxRecDepth 1000000 in
theorem rk229 : (p229).all (rowC 229) = true := by decide +kernel
set_option maxRecDepth 1000000 in
theorem rk230 : (p230).all (rowC 230) = true := by decide +kernel
set_option maxRecDepth 1000000 in
theorem rk231 : (p231).all (rowC 231) = true := by decide +kernel
set_option maxRecDepth 1000000 in
theorem rk232 : (p232).all (rowC 232) = true := by decide +kernel
set_option maxRecDepth 1000000 in
theorem rk233 : (p233).all (rowC 233) = true := by decide +kernel
set_option maxRecDepth 1000000 in
theorem rk234 : (p234).all (rowC 234) = true := by decide +kernel
set_option maxRecDepth 1000000 in
theorem rk235 : (p235).all (rowC 235) = true := by decide +kernel
set_option maxRecDepth 1000000 in
theorem rk236 : (p236).all (rowC 236) = true := by decide +kernel
set_option maxRecDepth 1000000 in
theorem rk237 : (p237).all (rowC 237) = true := by decide +kernel
set_option maxRecDepth 1000000 in
theorem rk238 : (p238).all (rowC 238) = true := by decide +kernel
set_option maxRecDepth 1000000 in
theorem rk239 : (p239).all (rowC 239) = true := by decide +kernel
set_option maxRecDepth 1000000 in
theorem rk240 : (p240).all (rowC 240) = true := by decide +kernel
set_option maxRecDepth 1000000 in
theorem rk241 : (p241).all (rowC 241) = true := by decide +kernel
set_option maxRecDepth 1000000 in
theorem rk242 : (p242).all (rowC 242) = true := by decide +kernel
set_option maxRecDepth 1000000 in
theorem rk243 : (p243).all (rowC 243) = true := by decide +kernel
set_option maxRecDepth 1000000 in
theorem rk244 : (p244).all (rowC 244) = true := by decide +kernel
set_option maxRecDepth 1000000 in
theorem rk245 : (p245).all (rowC 245) = true := by decide +kernel
set_option maxRecDepth 1000000 in
theorem rk246 : (p246).all (rowC 246) = true := by decide +kernel
set_option maxRecDepth 1000000 in
theorem rk247 : (p247).all (rowC 247) = true := by decide +kernel
set_option maxRecDepth 1000000 in
theorem rk248 : (p248).all (rowC 248) = true := by decide +kernel
set_option maxRecDepth 1000000 in
theorem rk249 : (p249).all (rowC 249) = true := by decide +kernel
set_option maxRecDepth 1000000 in
theorem rk250 : (p250).all (rowC 250) = true := by decide +kernel
set_option maxRecDepth 1000000 in
theorem rk251 : (p251).all (rowC 251) = true := by decide +kernel
set_option maxRecDepth 1000000 in
theorem rk252 : (p252).all (rowC 252) = true := by decide +kernel
set_option maxRecDepth 1000000 in
theorem rk253 : (p253).all (rowC 253) = true := by decide +kernel
set_option maxRecDepth 1000000 in
theorem rk254 : (p254).all (rowC 254) = true := by decide +kernel
set_option maxRecDepth 1000000 in
theorem rk255 : (p255).all (rowC 255) = true := by decide +kernel
set_option maxRecDepth 1000000 in
theorem rk256 : (p256).all (rowC 256) = true := by decide +kernel
set_option maxRecDepth 1000000 in
theorem rk257 : (p257).all (rowC 257) = true := by decide +kernel
set_option maxRecDepth 1000000 in
theorem rk258 : (p258).all (rowC 258) = true := by decide +kernel
set_option maxRecDepth 1000000 in
theorem rk259 : (p259).all (rowC 259) = true := by decide +kernel
set_option maxRecDepth 1000000 in
theorem rk260 : (p260).all (rowC 260) = true := by decide +kernel
set_option maxRecDepth 1000000 in
theorem rk261 : (p261).all (rowC 261) = true := by decide +kernel
set_option maxRecDepth 1000000 in
theorem rk262 : (p262).all (rowC 262) = true := by decide +kernel
set_option maxRecDepth 1000000 in
theorem rk263 : (p263).all (rowC 263) = true := by decide +kernel
set_option maxRecDepth 1000000 in
theorem rk264 : (p264).all (rowC 264) = true := by decide +kernel
set_option maxRecDepth 1000000 in
theorem rk265 : (p265).all (rowC 265) = true := by decide +kernel
set_option maxRecDepth 1000000 in
theorem rk266 : (p266).all (rowC 266) = true := by decide +kernel
set_option maxRecDepth 1000000 in
theorem rk267 : (p267).all (rowC 267) = true := by decide +kernel
set_option maxRecDepth 1000000 in
theorem rk268 : (p268).all (rowC 268) = true := by decide +kernel
set_option maxRecDepth 1000000 in
theorem rk269 : (p269).all (rowC 269) = true := by decide +kernel
set_option maxRecDepth 1000000 in
theorem rk270 : (p270).all (rowC 270) = true := by decide +kernel
set_option maxRecDepth 1000000 in
theorem rk271 : (p271).all (rowC 271) = true := by decide +kernel
set_option maxRecDepth 1000000 in
theorem rk272 : (p272).all (rowC 272) = true := by decide +kernel
set_option maxRecDepth 1000000 in
theorem rk273 : (p273).all (rowC 273) = true := by decide +kernel
set_option maxRecDepth 1000000 in
theorem rk274 : (p274).all (rowC 274) = true := by decide +kernel
set_option maxRecDepth 1000000 in
theorem rk275 : (p275).all (rowC 275) = true := by decide +kernel
set_option maxRecDepth 1000000 in
theorem rk276 : (p276).all (rowC 276) = true := by decide +kernel
set_option maxRecDepth 1000000 in
theorem rk277 : (p277).all (rowC 277) = true := by decide +kernel
set_option maxRecDepth 1000000 in
theorem rk278 : (p278).all (rowC 278) = true := by decide +kernel
set_option maxRecDepth 1000000 in
theorem rk279 : (p279).all (rowC 279) = true := by decide +kernel
set_option maxRecDepth 1000000 in
theorem rk280 : (p280).all (rowC 280) = true := by decide +kernel
set_option maxRecDepth 1000000 in
theorem rk281 : (p281).all (rowC 281) = true := by decide +kernel
set_option maxRecDepth 1000000 in
theorem rk282 : (p282).all (rowC 282) = true := by decide +kernel
set_option maxRecDepth 1000000 in
theorem rk283 : (p283).all (rowC 283) = true := by decide +kernel
set_option maxRecDepth 1000000 in
theorem rk284 : (p284).all (rowC 284) = true := by decide +kernel
set_option maxRecDepth 1000000 in
theorem rk285 : (p285).all (rowC 285) = true := by decide +kernel
set_option maxRecDepth 1000000 in
theorem rk286 : (p286).all (rowC 286) = true := by decide +kernel
set_option maxRecDepth 1000000 in
theorem rk287 : (p287).all (rowC 287) = true := by decide +kernel
set_option maxRecDepth 1000000 in
theorem rk288 : (p288).all (rowC 288) = true := by decide +kernel
set_option maxRecDepth 1000000 in
theorem rk289 : (p289).all (rowC 289) = true := by decide +kernel
set_option maxRecDepth 1000000 in
theorem rk290 : (p290).all (rowC 290) = true := by decide +kernel
set_option maxRecDepth 1000000 in
theorem rk291 : (p291).all (rowC 291) = true := by decide +kernel
set_option maxRecDepth 1000000 in
theorem rk292 : (p292).all (rowC 292) = true := by decide +kernel
set_option maxRecDepth 1000000 in
theorem rk293 : (p293).all (rowC 293) = true := by decide +kernel
set_option maxRecDepth 1000000 in
theorem rk294 : (p294).all (rowC 294) = true := by decide +kernel
set_option maxRecDepth 1000000 in
theorem rk295 : (p295).all (rowC 295) = true := by decide +kernel
set_option maxRecDepth 1000000 in
theorem rk296 : (p296).all (rowC 296) = true := by decide +kernel
set_option maxRecDepth 1000000 in
theorem rk297 : (p297).all (rowC 297) = true := by decide +kernel
set_option maxRecDepth 1000000 in
theorem rk298 : (p298).all (rowC 298) = true := by decide +kernel
set_option maxRecDepth 1000000 in
theorem rk299 : (p299).all (rowC 299) = true := by decide +kernel
set_option maxRecDepth 1000000 in
theorem rk300 : (p300).all (rowC 300) = true := by decide +kernel
set_option maxRecDepth 1000000 in
theorem rk301 : (p301).all (rowC 301) = true := by decide +kernel
set_option maxRecDepth 1000000 in
theorem rk302 : (p302).all (rowC 302) = true := by decide +kernel
set_option maxRecDepth 1000000 in
theorem rk303 : (p303).all (rowC 303) = true := by decide +kernel
set_option maxRecDepth 1000000 in
theorem rk304 : (p304).all (rowC 304) = true := by decide +kernel
set_option maxRecDepth 1000000 in
theorem rk305 : (p305).all (rowC 305) = true := by decide +kernel
set_option maxRecDepth 1000000 in
theorem rk306 : (p306).all (rowC 306) = true := by decide +kernel
set_option maxRecDepth 1000000 in
theorem rk307 : (p307).all (rowC 307) = true := by decide +kernel
set_option maxRecDepth 1000000 in
theorem rk308 : (p308).all (rowC 308) = true := by decide +kernel
set_option maxRecDepth 1000000 in
theorem rk309 : (p309).all (rowC 309) = true := by decide +kernel
set_option maxRecDepth 1000000 in
theorem rk310 : (p310).all (rowC 310) = true := by decide +kernel
set_option maxRecDepth 1000000 in
theorem rk311 : (p311).all (rowC 311) = true := by decide +kernel
set_option maxRecDepth 1000000 in
theorem rk312 : (p312).all (rowC 312) = true := by decide +kernel
set_option maxRecDepth 1000000 in
theorem rk313 : (p313).all (rowC 313) = true := by decide +kernel
set_option maxRecDepth 1000000 in
theorem rk314 : (p314).all (rowC 314) = true := by decide +kernel
set_option maxRecDepth 1000000 in
theorem rk315 : (p315).all (rowC 315) = true := by decide +kernel
set_option maxRecDepth 1000000 in
theorem rk316 : (p316).all (rowC 316) = true := by decide +kernel
set_option maxRecDepth 1000000 in
theorem rk317 : (p317).all (rowC 317) = true := by decide +kernel
set_option maxRecDepth 1000000 in
theorem rk318 : (p318).all (rowC 318) = true := by decide +kernel
set_option maxRecDepth 1000000 in
theorem rk319 : (p319).all (rowC 319) = true := by decide +kernel
set_option maxRecDepth 1000000 in
theorem rk320 : (p320).all (rowC 320) = true := by decide +kernel
set_option maxRecDepth 1000000 in
theorem rk321 : (p321).all (rowC 321) = true := by decide +kernel
set_option maxRecDepth 1000000 in
theorem rk322 : (p322).all (rowC 322) = true := by decide +kernel
set_option maxRecDepth 1000000 in
theorem rk323 : (p323).all (rowC 323) = true := by decide +kernel
set_option maxRecDepth 1000000 in
theorem rk324 : (p324).all (rowC 324) = true := by decide +kernel
set_option maxRecDepth 1000000 in
theorem rk325 : (p325).all (rowC 325) = true := by decide +kernel
set_option maxRecDepth 1000000 in
theorem rk326 : (p326).all (rowC 326) = true := by decide +kernel
set_option maxRecDepth 1000000 in
theorem rk327 : (p327).all (rowC 327) = true := by decide +kernel
set_option maxRecDepth 1000000 in
theorem rk328 : (p328).all (rowC 328) = true := by decide +kernel
set_option maxRecDepth 1000000 in
theorem rk329 : (p329).all (rowC 329) = true := by decide +kernel
set_option maxRecDepth 1000000 in
theorem rk330 : (p330).all (rowC 330) = true := by decide +kernel
set_option maxRecDepth 1000000 in
theorem rk331 : (p331).all (rowC 331) = true := by decide +kernel
set_option maxRecDepth 1000000 in
theorem rk332 : (p332).all (rowC 332) = true := by decide +kernel
set_option maxRecDepth 1000000 in
theorem rk333 : (p333).all (rowC 333) = true := by decide +kernel
set_option maxRecDepth 1000000 in
theorem rk334 : (p334).all (rowC 334) = true := by decide +kernel
set_option maxRecDepth 1000000 in
theorem rk335 : (p335).all (rowC 335) = true := by decide +kernel
set_option maxRecDepth 1000000 in
theorem rk336 : (p336).all (rowC 336) = true := by decide +kernel
set_option maxRecDepth 1000000 in
theorem rk337 : (p337).all (rowC 337) = true := by decide +kernel
set_option maxRecDepth 1000000 in
theorem rk338 : (p338).all (rowC 338) = true := by decide +kernel
set_option maxRecDepth 1000000 in
theorem rk339 : (p339).all (rowC 339) = true := by decide +kernel
set_option maxRecDepth 1000000 in
theorem rk340 : (p340).all (rowC 340) = true := by decide +kernel
set_option maxRecDepth 1000000 in
theorem rk341 : (p341).all (rowC 341) = true := by decide +kernel
set_option maxRecDepth 1000000 in
theorem rk342 : (p342).all (rowC 342) = true := by decide +kernel
set_option maxRecDepth 1000000 in
theorem rk343 : (p343).all (rowC 343) = true := by decide +kernel
set_option maxRecDepth 1000000 in
theorem rk344 : (p344).all (rowC 344) = true := by decide +kernel
set_option maxRecDepth 1000000 in
theorem rk345 : (p345).all (rowC 345) = true := by decide +kernel
set_option maxRecDepth 1000000 in
theorem rk346 : (p346).all (rowC 346) = true := by decide +kernel
set_option maxRecDepth 1000000 in
theorem rk347 : (p347).all (rowC 347) = true := by decide +kernel
set_option maxRecDepth 1000000 in
theorem rk348 : (p348).all (rowC 348) = true := by decide +kernel
set_option maxRecDepth 1000000 in
theorem rk349 : (p349).all (rowC 349) = true := by decide +kernel
set_option maxRecDepth 1000000 in
theorem rk350 : (p350).all (rowC 350) = true := by decide +kernel
set_option maxRecDepth 1000000 in
theorem rk351 : (p351).all (rowC 351) = true := by decide +kernel
set_option maxRecDepth 1000000 in
theorem rk352 : (p352).all (rowC 352) = true := by decide +kernel
set_option maxRecDepth 1000000 in
theorem rk353 : (p353).all (rowC 353) = true := by decide +kernel
set_option maxRecDepth 1000000 in
theorem rk354 : (p354).all (rowC 354) = true := by decide +kernel
set_option maxRecDepth 1000000 in
theorem rk355 : (p355).all (rowC 355) = true := by decide +kernel
set_option maxRecDepth 1000000 in
theorem rk356 : (p356).all (rowC 356) = true := by decide +kernel
set_option maxRecDepth 1000000 in
theorem rk357 : (p357).all (rowC 357) = true := by decide +kernel
set_option maxRecDepth 1000000 in
theorem rk358 : (p358).all (rowC 358) = true := by decide +kernel
set_option maxRecDepth 1000000 in
theorem rk359 : (p359).all (rowC 359) = true := by decide +kernel
set_option maxRecDepth 1000000 in
theorem rk360 : (p360).all (rowC 360) = true := by decide +kernel
set_option maxRecDepth 1000000 in
theorem rk361 : (p361).all (rowC 361) = true := by decide +kernel
set_option maxRecDepth 1000000 in
theorem rk362 : (p362).all (rowC 362) = true := by decide +kernel
set_option maxRecDepth 1000000 in
theorem rk363 : (p363).all (rowC 363) = true := by decide +kernel
set_option maxRecDepth 1000000 in
theorem rk364 : (p364).all (rowC 364) = true := by decide +kernel
set_option maxRecDepth 1000000 in
theorem rk365 : (p365).all (rowC 365) = true := by decide +kernel
set_option maxRecDepth 1000000 in
theorem rk366 : (p366).all (rowC 366) = true := by decide +kernel
set_option maxRecDepth 1000000 in
theorem rk367 : (p367).all (rowC 367) = true := by decide +kernel
set_option maxRecDepth 1000000 in
theorem rk368 : (p368).all (rowC 368) = true := by decide +kernel
set_option maxRecDepth 1000000 in
theorem rk369 : (p369).all (rowC 369) = true := by decide +kernel
set_option maxRecDepth 1000000 in
theorem rk370 : (p370).all (rowC 370) = true := by decide +kernel
set_option maxRecDepth 1000000 in
theorem rk371 : (p371).all (rowC 371) = true := by decide +kernel
set_option maxRecDepth 1000000 in
theorem rk372 : (p372).all (rowC 372) = true := by decide +kernel
set_option maxRecDepth 1000000 in
theorem rk373 : (p373).all (rowC 373) = true := by decide +kernel
set_option maxRecDepth 1000000 in
theorem rk374 : (p374).all (rowC 374) = true := by decide +kernel
set_option maxRecDepth 1000000 in
theorem rk375 : (p375).all (rowC 375) = true := by decide +kernel
set_option maxRecDepth 1000000 in
theorem rk376 : (p376).all (rowC 376) = true := by decide +kernel
set_option maxRecDepth 1000000 in
theorem rk377 : (p377).all (rowC 377) = true := by decide +kernel
set_option maxRecDepth 1000000 in
theorem rk378 : (p378).all (rowC 378) = true := by decide +kernel
set_option maxRecDepth 1000000 in
theorem rk379 : (p379).all (rowC 379) = true := by decide +kernel
set_option maxRecDepth 1000000 in
theorem rk380 : (p380).all (rowC 380) = true := by decide +kernel
set_option maxRecDepth 1000000 in
theorem rk381 : (p381).all (rowC 381) = true := by decide +kernel
set_option maxRecDepth 1000000 in
theorem rk382 : (p382).all (rowC 382) = true := by decide +kernel
set_option maxRecDepth 1000000 in
theorem rk383 : (p383).all (rowC 383) = true := by decide +kernel
set_option maxRecDepth 1000000 in
theorem rk384 : (p384).all (rowC 384) = true := by decide +kernel
set_option maxRecDepth 1000000 in
theorem rk385 : (p385).all (rowC 385) = true := by decide +kernel
set_option maxRecDepth 1000000 in
theorem rk386 : (p386).all (rowC 386) = true := by decide +kernel
set_option maxRecDepth 1000000 in
theorem rk387 : (p387).all (rowC 387) = true := by decide +kernel
set_option maxRecDepth 1000000 in
theorem rk388 : (p388).all (rowC 388) = true := by decide +kernel
set_option maxRecDepth 1000000 in
theorem rk389 : (p389).all (rowC 389) = true := by decide +kernel
set_option maxRecDepth 1000000 in
theorem rk390 : (p390).all (rowC 390) = true := by decide +kernel
set_option maxRecDepth 1000000 in
theorem rk391 : (p391).all (rowC 391) = true := by decide +kernel
set_option maxRecDepth 1000000 in
theorem rk392 : (p392).all (rowC 392) = true := by decide +kernel
set_option maxRecDepth 1000000 in
theorem rk393 : (p393).all (rowC 393) = true := by decide +kernel
set_option maxRecDepth 1000000 in
theorem rk394 : (p394).all (rowC 394) = true := by decide +kernel
set_option maxRecDepth 1000000 in
theorem rk395 : (p395).all (rowC 395) = true := by decide +kernel
set_option maxRecDepth 1000000 in
theorem rk396 : (p396).all (rowC 396) = true := by decide +kernel
set_option maxRecDepth 1000000 in
theorem rk397 : (p397).all (rowC 397) = true := by decide +kernel
set_option maxRecDepth 1000000 in
theorem rk398 : (p398).all (rowC 398) = true := by decide +kernel
set_option maxRecDepth 1000000 in
theorem rk399 : (p399).all (rowC 399) = true := by decide +kernel
set_option maxRecDepth 1000000 in
theorem rk400 : (p400).all (rowC 400) = true := by decide +kernel
set_option maxRecDepth 1000000 in
theorem rk401 : (p401).all (rowC 401) = true := by decide +kernel
set_option maxRecDepth 1000000 in
theorem rk402 : (p402).all (rowC 402) = true := by decide +kernel
set_option maxRecDepth 1000000 in
theorem rk403 : (p403).all (rowC 403) = true := by decide +kernel
set_option maxRecDepth 1000000 in
theorem rk404 : (p404).all (rowC 404) = true := by decide +kernel
set_option maxRecDepth 1000000 in
theorem rk405 : (p405).all (rowC 405) = true := by decide +kernel
set_option maxRecDepth 1000000 in
theorem rk406 : (p406).all (rowC 406) = true := by decide +kernel
set_option maxRecDepth 1000000 in
theorem rk407 : (p407).all (rowC 407) = true := by decide +kernel
set_option maxRecDepth 1000000 in
theorem rk408 : (p408).all (rowC 408) = true := by decide +kernel
set_option maxRecDepth 1000000 in
theorem rk409 : (p409).all (rowC 409) = true := by decide +kernel
set_option maxRecDepth 1000000 in
theorem rk410 : (p410).all (rowC 410) = true := by decide +kernel
set_option maxRecDepth 1000000 in
theorem rk411 : (p411).all (rowC 411) = true := by decide +kernel
set_option maxRecDepth 1000000 in
theorem rk412 : (p412).all (rowC 412) = true := by decide +kernel
set_option maxRecDepth 1000000 in
theorem rk413 : (p413).all (rowC 413) = true := by decide +kernel
set_option maxRecDepth 1000000 in
theorem rk414 : (p414).all (rowC 414) = true := by decide +kernel
set_option maxRecDepth 1000000 in
theorem rk415 : (p415).all (rowC 415) = true := by decide +kernel
set_option maxRecDepth 1000000 in
theorem rk416 : (p416).all (rowC 416) = true := by decide +kernel
set_option maxRecDepth 1000000 in
theorem rk417 : (p417).all (rowC 417) = true := by decide +kernel
set_option maxRecDepth 1000000 in
theorem rk418 : (p418).all (rowC 418) = true := by decide +kernel
set_option maxRecDepth 1000000 in
theorem rk419 : (p419).all (rowC 419) = true := by decide +kernel

/-! links by name -/
set_option maxRecDepth 100000 in
theorem sa_hm0 : sa_M[0]? = some sa_e0 := rfl
theorem sa_he0 : sa_Ma[0]? = some sa_e0 := sa_Ma_of sa_hm0
set_option maxRecDepth 100000 in
theorem sa_hm1 : sa_M[1]? = some sa_e1 := rfl
theorem sa_he1 : sa_Ma[1]? = some sa_e1 := sa_Ma_of sa_hm1
set_option maxRecDepth 100000 in
theorem sa_hm2 : sa_M[2]? = some sa_e2 := rfl
theorem sa_he2 : sa_Ma[2]? = some sa_e2 := sa_Ma_of sa_hm2
set_option maxRecDepth 100000 in
theorem sa_hm3 : sa_M[3]? = some sa_e3 := rfl
theorem sa_he3 : sa_Ma[3]? = some sa_e3 := sa_Ma_of sa_hm3
set_option maxRecDepth 100000 in
theorem sa_hm4 : sa_M[4]? = some sa_e4 := rfl
theorem sa_he4 : sa_Ma[4]? = some sa_e4 := sa_Ma_of sa_hm4
set_option maxRecDepth 100000 in
theorem sa_hm5 : sa_M[5]? = some sa_e5 := rfl
theorem sa_he5 : sa_Ma[5]? = some sa_e5 := sa_Ma_of sa_hm5
set_option maxRecDepth 100000 in
theorem sa_hm6 : sa_M[6]? = some sa_e6 := rfl
theorem sa_he6 : sa_Ma[6]? = some sa_e6 := sa_Ma_of sa_hm6
set_option maxRecDepth 100000 in
theorem sa_hm7 : sa_M[7]? = some sa_e7 := rfl
theorem sa_he7 : sa_Ma[7]? = some sa_e7 := sa_Ma_of sa_hm7
set_option maxRecDepth 100000 in
theorem sa_hm8 : sa_M[8]? = some sa_e8 := rfl
theorem sa_he8 : sa_Ma[8]? = some sa_e8 := sa_Ma_of sa_hm8
set_option maxRecDepth 100000 in
theorem sa_hm9 : sa_M[9]? = some sa_e9 := rfl
theorem sa_he9 : sa_Ma[9]? = some sa_e9 := sa_Ma_of sa_hm9
set_option maxRecDepth 100000 in
theorem sa_hm10 : sa_M[10]? = some sa_e10 := rfl
theorem sa_he10 : sa_Ma[10]? = some sa_e10 := sa_Ma_of sa_hm10
set_option maxRecDepth 100000 in
theorem sa_hm11 : sa_M[11]? = some sa_e11 := rfl
theorem sa_he11 : sa_Ma[11]? = some sa_e11 := sa_Ma_of sa_hm11
set_option maxRecDepth 100000 in
theorem sa_hm12 : sa_M[12]? = some sa_e12 := rfl
theorem sa_he12 : sa_Ma[12]? = some sa_e12 := sa_Ma_of sa_hm12
set_option maxRecDepth 100000 in
theorem sa_hm13 : sa_M[13]? = some sa_e13 := rfl
theorem sa_he13 : sa_Ma[13]? = some sa_e13 := sa_Ma_of sa_hm13
set_option maxRecDepth 100000 in
theorem sa_hm14 : sa_M[14]? = some sa_e14 := rfl
theorem sa_he14 : sa_Ma[14]? = some sa_e14 := sa_Ma_of sa_hm14
set_option maxRecDepth 100000 in
theorem sa_hm15 : sa_M[15]? = some sa_e15 := rfl
theorem sa_he15 : sa_Ma[15]? = some sa_e15 := sa_Ma_of sa_hm15
set_option maxRecDepth 100000 in
theorem sa_hm16 : sa_M[16]? = some sa_e16 := rfl
theorem sa_he16 : sa_Ma[16]? = some sa_e16 := sa_Ma_of sa_hm16
set_option maxRecDepth 100000 in
theorem sa_hm17 : sa_M[17]? = some sa_e17 := rfl
theorem sa_he17 : sa_Ma[17]? = some sa_e17 := sa_Ma_of sa_hm17
set_option maxRecDepth 100000 in
theorem sa_hm18 : sa_M[18]? = some sa_e18 := rfl
theorem sa_he18 : sa_Ma[18]? = some sa_e18 := sa_Ma_of sa_hm18
set_option maxRecDepth 100000 in
theorem sa_hm19 : sa_M[19]? = some sa_e19 := rfl
theorem sa_he19 : sa_Ma[19]? = some sa_e19 := sa_Ma_of sa_hm19
set_option maxRecDepth 100000 in
theorem sa_hm20 : sa_M[20]? = some sa_e20 := rfl
theorem sa_he20 : sa_Ma[20]? = some sa_e20 := sa_Ma_of sa_hm20
set_option maxRecDepth 100000 in
theorem sa_hm21 : sa_M[21]? = some sa_e21 := rfl
theorem sa_he21 : sa_Ma[21]? = some sa_e21 := sa_Ma_of sa_hm21
set_option maxRecDepth 100000 in
theorem sa_hm22 : sa_M[22]? = some sa_e22 := rfl
theorem sa_he22 : sa_Ma[22]? = some sa_e22 := sa_Ma_of sa_hm22
set_option maxRecDepth 100000 in
theorem sa_hm23 : sa_M[23]? = some sa_e23 := rfl
theorem sa_he23 : sa_Ma[23]? = some sa_e23 := sa_Ma_of sa_hm23
set_option maxRecDepth 100000 in
theorem sa_hm24 : sa_M[24]? = some sa_e24 := rfl
theorem sa_he24 : sa_Ma[24]? = some sa_e24 := sa_Ma_of sa_hm24
set_option maxRecDepth 100000 in
theorem sa_hm25 : sa_M[25]? = some sa_e25 := rfl
theorem sa_he25 : sa_Ma[25]? = some sa_e25 := sa_Ma_of sa_hm25
set_option maxRecDepth 100000 in
theorem sa_hm26 : sa_M[26]? = some sa_e26 := rfl
theorem sa_he26 : sa_Ma[26]? = some sa_e26 := sa_Ma_of sa_hm26
set_option maxRecDepth 100000 in
theorem sa_hm27 : sa_M[27]? = some sa_e27 := rfl
theorem sa_he27 : sa_Ma[27]? = some sa_e27 := sa_Ma_of sa_hm27
set_option maxRecDepth 100000 in
theorem sa_hm28 : sa_M[28]? = some sa_e28 := rfl
theorem sa_he28 : sa_Ma[28]? = some sa_e28 := sa_Ma_of sa_hm28
set_option maxRecDepth 100000 in
theorem sa_hm29 : sa_M[29]? = some sa_e29 := rfl
theorem sa_he29 : sa_Ma[29]? = some sa_e29 := sa_Ma_of sa_hm29
set_option maxRecDepth 100000 in
theorem sa_hm30 : sa_M[30]? = some sa_e30 := rfl
theorem sa_he30 : sa_Ma[30]? = some sa_e30 := sa_Ma_of sa_hm30
set_option maxRecDepth 100000 in
theorem sa_hm31 : sa_M[31]? = some sa_e31 := rfl
theorem sa_he31 : sa_Ma[31]? = some sa_e31 := sa_Ma_of sa_hm31
set_option maxRecDepth 100000 in
theorem sa_hm32 : sa_M[32]? = some sa_e32 := rfl
theorem sa_he32 : sa_Ma[32]? = some sa_e32 := sa_Ma_of sa_hm32
set_option maxRecDepth 100000 in
theorem sa_hm33 : sa_M[33]? = some sa_e33 := rfl
theorem sa_he33 : sa_Ma[33]? = some sa_e33 := sa_Ma_of sa_hm33
set_option maxRecDepth 100000 in
theorem sa_hm34 : sa_M[34]? = some sa_e34 := rfl
theorem sa_he34 : sa_Ma[34]? = some sa_e34 := sa_Ma_of sa_hm34
set_option maxRecDepth 100000 in
theorem sa_hm35 : sa_M[35]? = some sa_e35 := rfl
theorem sa_he35 : sa_Ma[35]? = some sa_e35 := sa_Ma_of sa_hm35
set_option maxRecDepth 100000 in
theorem sa_hm36 : sa_M[36]? = some sa_e36 := rfl
theorem sa_he36 : sa_Ma[36]? = some sa_e36 := sa_Ma_of sa_hm36
set_option maxRecDepth 100000 in
theorem sa_hm37 : sa_M[37]? = some sa_e37 := rfl
theorem sa_he37 : sa_Ma[37]? = some sa_e37 := sa_Ma_of sa_hm37
set_option maxRecDepth 100000 in
theorem sa_hm38 : sa_M[38]? = some sa_e38 := rfl
theorem sa_he38 : sa_Ma[38]? = some sa_e38 := sa_Ma_of sa_hm38
set_option maxRecDepth 100000 in
theorem sa_hm39 : sa_M[39]? = some sa_e39 := rfl
theorem sa_he39 : sa_Ma[39]? = some sa_e39 := sa_Ma_of sa_hm39
set_option maxRecDepth 100000 in
theorem sa_hm40 : sa_M[40]? = some sa_e40 := rfl
theorem sa_he40 : sa_Ma[40]? = some sa_e40 := sa_Ma_of sa_hm40
set_option maxRecDepth 100000 in
theorem sa_hm41 : sa_M[41]? = some sa_e41 := rfl
theorem sa_he41 : sa_Ma[41]? = some sa_e41 := sa_Ma_of sa_hm41
set_option maxRecDepth 100000 in
theorem sa_hm42 : sa_M[42]? = some sa_e42 := rfl
theorem sa_he42 : sa_Ma[42]? = some sa_e42 := sa_Ma_of sa_hm42
set_option maxRecDepth 100000 in
theorem sa_hm43 : sa_M[43]? = some sa_e43 := rfl
theorem sa_he43 : sa_Ma[43]? = some sa_e43 := sa_Ma_of sa_hm43
set_option maxRecDepth 100000 in
theorem sa_hm44 : sa_M[44]? = some sa_e44 := rfl
theorem sa_he44 : sa_Ma[44]? = some sa_e44 := sa_Ma_of sa_hm44
set_option maxRecDepth 100000 in
theorem sa_hm45 : sa_M[45]? = some sa_e45 := rfl
theorem sa_he45 : sa_Ma[45]? = some sa_e45 := sa_Ma_of sa_hm45
set_option maxRecDepth 100000 in
theorem sa_hm46 : sa_M[46]? = some sa_e46 := rfl
theorem sa_he46 : sa_Ma[46]? = some sa_e46 := sa_Ma_of sa_hm46
set_option maxRecDepth 100000 in
theorem sa_hm47 : sa_M[47]? = some sa_e47 := rfl
theorem sa_he47 : sa_Ma[47]? = some sa_e47 := sa_Ma_of sa_hm47
set_option maxRecDepth 100000 in
theorem sa_hm48 : sa_M[48]? = some sa_e48 := rfl
theorem sa_he48 : sa_Ma[48]? = some sa_e48 := sa_Ma_of sa_hm48
set_option maxRecDepth 100000 in
theorem sa_hm49 : sa_M[49]? = some sa_e49 := rfl
theorem sa_he49 : sa_Ma[49]? = some sa_e49 := sa_Ma_of sa_hm49
set_option maxRecDepth 100000 in
theorem sa_hm50 : sa_M[50]? = some sa_e50 := rfl
theorem sa_he50 : sa_Ma[50]? = some sa_e50 := sa_Ma_of sa_hm50
set_option maxRecDepth 100000 in
theorem sa_hm51 : sa_M[51]? = some sa_e51 := rfl
theorem sa_he51 : sa_Ma[51]? = some sa_e51 := sa_Ma_of sa_hm51
set_option maxRecDepth 100000 in
theorem sa_hm52 : sa_M[52]? = some sa_e52 := rfl
theorem sa_he52 : sa_Ma[52]? = some sa_e52 := sa_Ma_of sa_hm52
set_option maxRecDepth 100000 in
theorem sa_hm53 : sa_M[53]? = some sa_e53 := rfl
theorem sa_he53 : sa_Ma[53]? = some sa_e53 := sa_Ma_of sa_hm53
set_option maxRecDepth 100000 in
theorem sa_hm54 : sa_M[54]? = some sa_e54 := rfl
theorem sa_he54 : sa_Ma[54]? = some sa_e54 := sa_Ma_of sa_hm54
set_option maxRecDepth 100000 in
theorem sa_hm55 : sa_M[55]? = some sa_e55 := rfl
theorem sa_he55 : sa_Ma[55]? = some sa_e55 := sa_Ma_of sa_hm55
set_option maxRecDepth 100000 in
theorem sa_hm56 : sa_M[56]? = some sa_e56 := rfl
theorem sa_he56 : sa_Ma[56]? = some sa_e56 := sa_Ma_of sa_hm56
set_option maxRecDepth 100000 in
theorem sa_hm57 : sa_M[57]? = some sa_e57 := rfl
theorem sa_he57 : sa_Ma[57]? = some sa_e57 := sa_Ma_of sa_hm57
set_option maxRecDepth 100000 in
theorem sa_hm58 : sa_M[58]? = some sa_e58 := rfl
theorem sa_he58 : sa_Ma[58]? = some sa_e58 := sa_Ma_of sa_hm58
set_option maxRecDepth 100000 in
theorem sa_hm59 : sa_M[59]? = some sa_e59 := rfl
theorem sa_he59 : sa_Ma[59]? = some sa_e59 := sa_Ma_of sa_hm59
set_option maxRecDepth 100000 in
theorem sa_hm60 : sa_M[60]? = some sa_e60 := rfl
theorem sa_he60 : sa_Ma[60]? = some sa_e60 := sa_Ma_of sa_hm60
set_option maxRecDepth 100000 in
theorem sa_hm61 : sa_M[61]? = some sa_e61 := rfl
theorem sa_he61 : sa_Ma[61]? = some sa_e61 := sa_Ma_of sa_hm61
set_option maxRecDepth 100000 in
theorem sa_hm62 : sa_M[62]? = some sa_e62 := rfl
theorem sa_he62 : sa_Ma[62]? = some sa_e62 := sa_Ma_of sa_hm62
set_option maxRecDepth 100000 in
theorem sa_hm63 : sa_M[63]? = some sa_e63 := rfl
theorem sa_he63 : sa_Ma[63]? = some sa_e63 := sa_Ma_of sa_hm63
set_option maxRecDepth 100000 in
theorem sa_hm64 : sa_M[64]? = some sa_e64 := rfl
theorem sa_he64 : sa_Ma[64]? = some sa_e64 := sa_Ma_of sa_hm64
set_option maxRecDepth 100000 in
theorem sa_hm65 : sa_M[65]? = some sa_e65 := rfl
theorem sa_he65 : sa_Ma[65]? = some sa_e65 := sa_Ma_of sa_hm65
set_option maxRecDepth 100000 in
theorem sa_hm66 : sa_M[66]? = some sa_e66 := rfl
theorem sa_he66 : sa_Ma[66]? = some sa_e66 := sa_Ma_of sa_hm66
set_option maxRecDepth 100000 in
theorem sa_hm67 : sa_M[67]? = some sa_e67 := rfl
theorem sa_he67 : sa_Ma[67]? = some sa_e67 := sa_Ma_of sa_hm67
set_option maxRecDepth 100000 in
theorem sa_hm68 : sa_M[68]? = some sa_e68 := rfl
theorem sa_he68 : sa_Ma[68]? = some sa_e68 := sa_Ma_of sa_hm68
set_option maxRecDepth 100000 in
theorem sa_hm69 : sa_M[69]? = some sa_e69 := rfl
theorem sa_he69 : sa_Ma[69]? = some sa_e69 := sa_Ma_of sa_hm69
set_option maxRecDepth 100000 in
theorem sa_hm70 : sa_M[70]? = some sa_e70 := rfl
theorem sa_he70 : sa_Ma[70]? = some sa_e70 := sa_Ma_of sa_hm70
set_option maxRecDepth 100000 in
theorem sa_hm71 : sa_M[71]? = some sa_e71 := rfl
theorem sa_he71 : sa_Ma[71]? = some sa_e71 := sa_Ma_of sa_hm71
set_option maxRecDepth 100000 in
theorem sa_hm72 : sa_M[72]? = some sa_e72 := rfl
theorem sa_he72 : sa_Ma[72]? = some sa_e72 := sa_Ma_of sa_hm72
set_option maxRecDepth 100000 in
theorem sa_hm73 : sa_M[73]? = some sa_e73 := rfl
theorem sa_he73 : sa_Ma[73]? = some sa_e73 := sa_Ma_of sa_hm73
set_option maxRecDepth 100000 in
theorem sa_hm74 : sa_M[74]? = some sa_e74 := rfl
theorem sa_he74 : sa_Ma[74]? = some sa_e74 := sa_Ma_of sa_hm74
set_option maxRecDepth 100000 in
theorem sa_hm75 : sa_M[75]? = some sa_e75 := rfl
theorem sa_he75 : sa_Ma[75]? = some sa_e75 := sa_Ma_of sa_hm75
set_option maxRecDepth 100000 in
theorem sa_hm76 : sa_M[76]? = some sa_e76 := rfl
theorem sa_he76 : sa_Ma[76]? = some sa_e76 := sa_Ma_of sa_hm76
set_option maxRecDepth 100000 in
theorem sa_hm77 : sa_M[77]? = some sa_e77 := rfl
theorem sa_he77 : sa_Ma[77]? = some sa_e77 := sa_Ma_of sa_hm77
set_option maxRecDepth 100000 in
theorem sa_hm78 : sa_M[78]? = some sa_e78 := rfl
theorem sa_he78 : sa_Ma[78]? = some sa_e78 := sa_Ma_of sa_hm78
set_option maxRecDepth 100000 in
theorem sa_hm79 : sa_M[79]? = some sa_e79 := rfl
theorem sa_he79 : sa_Ma[79]? = some sa_e79 := sa_Ma_of sa_hm79
set_option maxRecDepth 100000 in
theorem sa_hm80 : sa_M[80]? = some sa_e80 := rfl
theorem sa_he80 : sa_Ma[80]? = some sa_e80 := sa_Ma_of sa_hm80
set_option maxRecDepth 100000 in
theorem sa_hm81 : sa_M[81]? = some sa_e81 := rfl
theorem sa_he81 : sa_Ma[81]? = some sa_e81 := sa_Ma_of sa_hm81
set_option maxRecDepth 100000 in
theorem sa_hm82 : sa_M[82]? = some sa_e82 := rfl
theorem sa_he82 : sa_Ma[82]? = some sa_e82 := sa_Ma_of sa_hm82
set_option maxRecDepth 100000 in
theorem sa_hm83 : sa_M[83]? = some sa_e83 := rfl
theorem sa_he83 : sa_Ma[83]? = some sa_e83 := sa_Ma_of sa_hm83
set_option maxRecDepth 100000 in
theorem sa_hm84 : sa_M[84]? = some sa_e84 := rfl
theorem sa_he84 : sa_Ma[84]? = some sa_e84 := sa_Ma_of sa_hm84
set_option maxRecDepth 100000 in
theorem sa_hm85 : sa_M[85]? = some sa_e85 := rfl
theorem sa_he85 : sa_Ma[85]? = some sa_e85 := sa_Ma_of sa_hm85
set_option maxRecDepth 100000 in
theorem sa_hm86 : sa_M[86]? = some sa_e86 := rfl
theorem sa_he86 : sa_Ma[86]? = some sa_e86 := sa_Ma_of sa_hm86
set_option maxRecDepth 100000 in
theorem sa_hm87 : sa_M[87]? = some sa_e87 := rfl
theorem sa_he87 : sa_Ma[87]? = some sa_e87 := sa_Ma_of sa_hm87
set_option maxRecDepth 100000 in
theorem sa_hm88 : sa_M[88]? = some sa_e88 := rfl
theorem sa_he88 : sa_Ma[88]? = some sa_e88 := sa_Ma_of sa_hm88
set_option maxRecDepth 100000 in
theorem sa_hm89 : sa_M[89]? = some sa_e89 := rfl
theorem sa_he89 : sa_Ma[89]? = some sa_e89 := sa_Ma_of sa_hm89
set_option maxRecDepth 100000 in
theorem sa_hm90 : sa_M[90]? = some sa_e90 := rfl
theorem sa_he90 : sa_Ma[90]? = some sa_e90 := sa_Ma_of sa_hm90
set_option maxRecDepth 100000 in
theorem sa_hm91 : sa_M[91]? = some sa_e91 := rfl
theorem sa_he91 : sa_Ma[91]? = some sa_e91 := sa_Ma_of sa_hm91
set_option maxRecDepth 100000 in
theorem sa_hm92 : sa_M[92]? = some sa_e92 := rfl
theorem sa_he92 : sa_Ma[92]? = some sa_e92 := sa_Ma_of sa_hm92
set_option maxRecDepth 100000 in
theorem sa_hm93 : sa_M[93]? = some sa_e93 := rfl
theorem sa_he93 : sa_Ma[93]? = some sa_e93 := sa_Ma_of sa_hm93
set_option maxRecDepth 100000 in
theorem sa_hm94 : sa_M[94]? = some sa_e94 := rfl
theorem sa_he94 : sa_Ma[94]? = some sa_e94 := sa_Ma_of sa_hm94
set_option maxRecDepth 100000 in
theorem sa_hm95 : sa_M[95]? = some sa_e95 := rfl
theorem sa_he95 : sa_Ma[95]? = some sa_e95 := sa_Ma_of sa_hm95
set_option maxRecDepth 100000 in
theorem sa_hm96 : sa_M[96]? = some sa_e96 := rfl
theorem sa_he96 : sa_Ma[96]? = some sa_e96 := sa_Ma_of sa_hm96
set_option maxRecDepth 100000 in
theorem sa_hm97 : sa_M[97]? = some sa_e97 := rfl
theorem sa_he97 : sa_Ma[97]? = some sa_e97 := sa_Ma_of sa_hm97
set_option maxRecDepth 100000 in
theorem sa_hm98 : sa_M[98]? = some sa_e98 := rfl
theorem sa_he98 : sa_Ma[98]? = some sa_e98 := sa_Ma_of sa_hm98
set_option maxRecDepth 100000 in
theorem sa_hm99 : sa_M[99]? = some sa_e99 := rfl
theorem sa_he99 : sa_Ma[99]? = some sa_e99 := sa_Ma_of sa_hm99
set_option maxRecDepth 100000 in
theorem sa_hm100 : sa_M[100]? = some sa_e100 := rfl
theorem sa_he100 : sa_Ma[100]? = some sa_e100 := sa_Ma_of sa_hm100
set_option maxRecDepth 100000 in
theorem sa_hm101 : sa_M[101]? = some sa_e101 := rfl
theorem sa_he101 : sa_Ma[101]? = some sa_e101 := sa_Ma_of sa_hm101
set_option maxRecDepth 100000 in
theorem sa_hm102 : sa_M[102]? = some sa_e102 := rfl
theorem sa_he102 : sa_Ma[102]? = some sa_e102 := sa_Ma_of sa_hm102
set_option maxRecDepth 100000 in
theorem sa_hm103 : sa_M[103]? = some sa_e103 := rfl
theorem sa_he103 : sa_Ma[103]? = some sa_e103 := sa_Ma_of sa_hm103
set_option maxRecDepth 100000 in
theorem sa_hm104 : sa_M[104]? = some sa_e104 := rfl
theorem sa_he104 : sa_Ma[104]? = some sa_e104 := sa_Ma_of sa_hm104
set_option maxRecDepth 100000 in
theorem sa_hm105 : sa_M[105]? = some sa_e105 := rfl
theorem sa_he105 : sa_Ma[105]? = some sa_e105 := sa_Ma_of sa_hm105
set_option maxRecDepth 100000 in
theorem sa_hm106 : sa_M[106]? = some sa_e106 := rfl
theorem sa_he106 : sa_Ma[106]? = some sa_e106 := sa_Ma_of sa_hm106
set_option maxRecDepth 100000 in
theorem sa_hm107 : sa_M[107]? = some sa_e107 := rfl
theorem sa_he107 : sa_Ma[107]? = some sa_e107 := sa_Ma_of sa_hm107
set_option maxRecDepth 100000 in
theorem sa_hm108 : sa_M[108]? = some sa_e108 := rfl
theorem sa_he108 : sa_Ma[108]? = some sa_e108 := sa_Ma_of sa_hm108
set_option maxRecDepth 100000 in
theorem sa_hm109 : sa_M[109]? = some sa_e109 := rfl
theorem sa_he109 : sa_Ma[109]? = some sa_e109 := sa_Ma_of sa_hm109
set_option maxRecDepth 100000 in
theorem sa_hm110 : sa_M[110]? = some sa_e110 := rfl
theorem sa_he110 : sa_Ma[110]? = some sa_e110 := sa_Ma_of sa_hm110
set_option maxRecDepth 100000 in
theorem sa_hm111 : sa_M[111]? = some sa_e111 := rfl
theorem sa_he111 : sa_Ma[111]? = some sa_e111 := sa_Ma_of sa_hm111
set_option maxRecDepth 100000 in
theorem sa_hm112 : sa_M[112]? = some sa_e112 := rfl
theorem sa_he112 : sa_Ma[112]? = some sa_e112 := sa_Ma_of sa_hm112
set_option maxRecDepth 100000 in
theorem sa_hm113 : sa_M[113]? = some sa_e113 := rfl
theorem sa_he113 : sa_Ma[113]? = some sa_e113 := sa_Ma_of sa_hm113
set_option maxRecDepth 100000 in
theorem sa_hm114 : sa_M[114]? = some sa_e114 := rfl
theorem sa_he114 : sa_Ma[114]? = some sa_e114 := sa_Ma_of sa_hm114
set_option maxRecDepth 100000 in
theorem sa_hm115 : sa_M[115]? = some sa_e115 := rfl
theorem sa_he115 : sa_Ma[115]? = some sa_e115 := sa_Ma_of sa_hm115
set_option maxRecDepth 100000 in
theorem sa_hm116 : sa_M[116]? = some sa_e116 := rfl
theorem sa_he116 : sa_Ma[116]? = some sa_e116 := sa_Ma_of sa_hm116
set_option maxRecDepth 100000 in
theorem sa_hm117 : sa_M[117]? = some sa_e117 := rfl
theorem sa_he117 : sa_Ma[117]? = some sa_e117 := sa_Ma_of sa_hm117
set_option maxRecDepth 100000 in
theorem sa_hm118 : sa_M[118]? = some sa_e118 := rfl
theorem sa_he118 : sa_Ma[118]? = some sa_e118 := sa_Ma_of sa_hm118
set_option maxRecDepth 100000 in
theorem sa_hm119 : sa_M[119]? = some sa_e119 := rfl
theorem sa_he119 : sa_Ma[119]? = some sa_e119 := sa_Ma_of sa_hm119
set_option maxRecDepth 100000 in
theorem sa_hm120 : sa_M[120]? = some sa_e120 := rfl
theorem sa_he120 : sa_Ma[120]? = some sa_e120 := sa_Ma_of sa_hm120
set_option maxRecDepth 100000 in
theorem sa_hm121 : sa_M[121]? = some sa_e121 := rfl
theorem sa_he121 : sa_Ma[121]? = some sa_e121 := sa_Ma_of sa_hm121
set_option maxRecDepth 100000 in
theorem sa_hm122 : sa_M[122]? = some sa_e122 := rfl
theorem sa_he122 : sa_Ma[122]? = some sa_e122 := sa_Ma_of sa_hm122
set_option maxRecDepth 100000 in
theorem sa_hm123 : sa_M[123]? = some sa_e123 := rfl
theorem sa_he123 : sa_Ma[123]? = some sa_e123 := sa_Ma_of sa_hm123
set_option maxRecDepth 100000 in
theorem sa_hm124 : sa_M[124]? = some sa_e124 := rfl
theorem sa_he124 : sa_Ma[124]? = some sa_e124 := sa_Ma_of sa_hm124
set_option maxRecDepth 100000 in
theorem sa_hm125 : sa_M[125]? = some sa_e125 := rfl
theorem sa_he125 : sa_Ma[125]? = some sa_e125 := sa_Ma_of sa_hm125
set_option maxRecDepth 100000 in
theorem sa_hm126 : sa_M[126]? = some sa_e126 := rfl
theorem sa_he126 : sa_Ma[126]? = some sa_e126 := sa_Ma_of sa_hm126
set_option maxRecDepth 100000 in
theorem sa_hm127 : sa_M[127]? = some sa_e127 := rfl
theorem sa_he127 : sa_Ma[127]? = some sa_e127 := sa_Ma_of sa_hm127
set_option maxRecDepth 100000 in
theorem sa_hm128 : sa_M[128]? = some sa_e128 := rfl
theorem sa_he128 : sa_Ma[128]? = some sa_e128 := sa_Ma_of sa_hm128
set_option maxRecDepth 100000 in
theorem sa_hm129 : sa_M[129]? = some sa_e129 := rfl
theorem sa_he129 : sa_Ma[129]? = some sa_e129 := sa_Ma_of sa_hm129
set_option maxRecDepth 100000 in
theorem sa_hm130 : sa_M[130]? = some sa_e130 := rfl
theorem sa_he130 : sa_Ma[130]? = some sa_e130 := sa_Ma_of sa_hm130
set_option maxRecDepth 100000 in
theorem sa_hm131 : sa_M[131]? = some sa_e131 := rfl
theorem sa_he131 : sa_Ma[131]? = some sa_e131 := sa_Ma_of sa_hm131
set_option maxRecDepth 100000 in
theorem sa_hm132 : sa_M[132]? = some sa_e132 := rfl
theorem sa_he132 : sa_Ma[132]? = some sa_e132 := sa_Ma_of sa_hm132
set_option maxRecDepth 100000 in
theorem sa_hm133 : sa_M[133]? = some sa_e133 := rfl
theorem sa_he133 : sa_Ma[133]? = some sa_e133 := sa_Ma_of sa_hm133
set_option maxRecDepth 100000 in
theorem sa_hm134 : sa_M[134]? = some sa_e134 := rfl
theorem sa_he134 : sa_Ma[134]? = some sa_e134 := sa_Ma_of sa_hm134
set_option maxRecDepth 100000 in
theorem sa_hm135 : sa_M[135]? = some sa_e135 := rfl
theorem sa_he135 : sa_Ma[135]? = some sa_e135 := sa_Ma_of sa_hm135
set_option maxRecDepth 100000 in
theorem sa_hm136 : sa_M[136]? = some sa_e136 := rfl
theorem sa_he136 : sa_Ma[136]? = some sa_e136 := sa_Ma_of sa_hm136
set_option maxRecDepth 100000 in
theorem sa_hm137 : sa_M[137]? = some sa_e137 := rfl
theorem sa_he137 : sa_Ma[137]? = some sa_e137 := sa_Ma_of sa_hm137
set_option maxRecDepth 100000 in
theorem sa_hm138 : sa_M[138]? = some sa_e138 := rfl
theorem sa_he138 : sa_Ma[138]? = some sa_e138 := sa_Ma_of sa_hm138
set_option maxRecDepth 100000 in
theorem sa_hm139 : sa_M[139]? = some sa_e139 := rfl
theorem sa_he139 : sa_Ma[139]? = some sa_e139 := sa_Ma_of sa_hm139
set_option maxRecDepth 100000 in
theorem sa_hm140 : sa_M[140]? = some sa_e140 := rfl
theorem sa_he140 : sa_Ma[140]? = some sa_e140 := sa_Ma_of sa_hm140
set_option maxRecDepth 100000 in
theorem sa_hm141 : sa_M[141]? = some sa_e141 := rfl
theorem sa_he141 : sa_Ma[141]? = some sa_e141 := sa_Ma_of sa_hm141
set_option maxRecDepth 100000 in
theorem sa_hm142 : sa_M[142]? = some sa_e142 := rfl
theorem sa_he142 : sa_Ma[142]? = some sa_e142 := sa_Ma_of sa_hm142
set_option maxRecDepth 100000 in
theorem sa_hm143 : sa_M[143]? = some sa_e143 := rfl
theorem sa_he143 : sa_Ma[143]? = some sa_e143 := sa_Ma_of sa_hm143
set_option maxRecDepth 100000 in
theorem sa_hm144 : sa_M[144]? = some sa_e144 := rfl
theorem sa_he144 : sa_Ma[144]? = some sa_e144 := sa_Ma_of sa_hm144
set_option maxRecDepth 100000 in
theorem sa_hm145 : sa_M[145]? = some sa_e145 := rfl
theorem sa_he145 : sa_Ma[145]? = some sa_e145 := sa_Ma_of sa_hm145
set_option maxRecDepth 100000 in
theorem sa_hm146 : sa_M[146]? = some sa_e146 := rfl
theorem sa_he146 : sa_Ma[146]? = some sa_e146 := sa_Ma_of sa_hm146
set_option maxRecDepth 100000 in
theorem sa_hm147 : sa_M[147]? = some sa_e147 := rfl
theorem sa_he147 : sa_Ma[147]? = some sa_e147 := sa_Ma_of sa_hm147
set_option maxRecDepth 100000 in
theorem sa_hm148 : sa_M[148]? = some sa_e148 := rfl
theorem sa_he148 : sa_Ma[148]? = some sa_e148 := sa_Ma_of sa_hm148
set_option maxRecDepth 100000 in
theorem sa_hm149 : sa_M[149]? = some sa_e149 := rfl
theorem sa_he149 : sa_Ma[149]? = some sa_e149 := sa_Ma_of sa_hm149
set_option maxRecDepth 100000 in
theorem sa_hm150 : sa_M[150]? = some sa_e150 := rfl
theorem sa_he150 : sa_Ma[150]? = some sa_e150 := sa_Ma_of sa_hm150
set_option maxRecDepth 100000 in
theorem sa_hm151 : sa_M[151]? = some sa_e151 := rfl
theorem sa_he151 : sa_Ma[151]? = some sa_e151 := sa_Ma_of sa_hm151
set_option maxRecDepth 100000 in
theorem sa_hm152 : sa_M[152]? = some sa_e152 := rfl
theorem sa_he152 : sa_Ma[152]? = some sa_e152 := sa_Ma_of sa_hm152
set_option maxRecDepth 100000 in
theorem sa_hm153 : sa_M[153]? = some sa_e153 := rfl
theorem sa_he153 : sa_Ma[153]? = some sa_e153 := sa_Ma_of sa_hm153
set_option maxRecDepth 100000 in
theorem sa_hm154 : sa_M[154]? = some sa_e154 := rfl
theorem sa_he154 : sa_Ma[154]? = some sa_e154 := sa_Ma_of sa_hm154
set_option maxRecDepth 100000 in
theorem sa_hm155 : sa_M[155]? = some sa_e155 := rfl
theorem sa_he155 : sa_Ma[155]? = some sa_e155 := sa_Ma_of sa_hm155
set_option maxRecDepth 100000 in
theorem sa_hm156 : sa_M[156]? = some sa_e156 := rfl
theorem sa_he156 : sa_Ma[156]? = some sa_e156 := sa_Ma_of sa_hm156
set_option maxRecDepth 100000 in
theorem sa_hm157 : sa_M[157]? = some sa_e157 := rfl
theorem sa_he157 : sa_Ma[157]? = some sa_e157 := sa_Ma_of sa_hm157
set_option maxRecDepth 100000 in
theorem sa_hm158 : sa_M[158]? = some sa_e158 := rfl
theorem sa_he158 : sa_Ma[158]? = some sa_e158 := sa_Ma_of sa_hm158
set_option maxRecDepth 100000 in
theorem sa_hm159 : sa_M[159]? = some sa_e159 := rfl
theorem sa_he159 : sa_Ma[159]? = some sa_e159 := sa_Ma_of sa_hm159
set_option maxRecDepth 100000 in
theorem sa_hm160 : sa_M[160]? = some sa_e160 := rfl
theorem sa_he160 : sa_Ma[160]? = some sa_e160 := sa_Ma_of sa_hm160
set_option maxRecDepth 100000 in
theorem sa_hm161 : sa_M[161]? = some sa_e161 := rfl
theorem sa_he161 : sa_Ma[161]? = some sa_e161 := sa_Ma_of sa_hm161
set_option maxRecDepth 100000 in
theorem sa_hm162 : sa_M[162]? = some sa_e162 := rfl
theorem sa_he162 : sa_Ma[162]? = some sa_e162 := sa_Ma_of sa_hm162
set_option maxRecDepth 100000 in
theorem sa_hm163 : sa_M[163]? = some sa_e163 := rfl
theorem sa_he163 : sa_Ma[163]? = some sa_e163 := sa_Ma_of sa_hm163
set_option maxRecDepth 100000 in
theorem sa_hm164 : sa_M[164]? = some sa_e164 := rfl
theorem sa_he164 : sa_Ma[164]? = some sa_e164 := sa_Ma_of sa_hm164
set_option maxRecDepth 100000 in
theorem sa_hm165 : sa_M[165]? = some sa_e165 := rfl
theorem sa_he165 : sa_Ma[165]? = some sa_e165 := sa_Ma_of sa_hm165
set_option maxRecDepth 100000 in
theorem sa_hm166 : sa_M[166]? = some sa_e166 := rfl
theorem sa_he166 : sa_Ma[166]? = some sa_e166 := sa_Ma_of sa_hm166
set_option maxRecDepth 100000 in
theorem sa_hm167 : sa_M[167]? = some sa_e167 := rfl
theorem sa_he167 : sa_Ma[167]? = some sa_e167 := sa_Ma_of sa_hm167
set_option maxRecDepth 100000 in
theorem sa_hm168 : sa_M[168]? = some sa_e168 := rfl
theorem sa_he168 : sa_Ma[168]? = some sa_e168 := sa_Ma_of sa_hm168
set_option maxRecDepth 100000 in
theorem sa_hm169 : sa_M[169]? = some sa_e169 := rfl
theorem sa_he169 : sa_Ma[169]? = some sa_e169 := sa_Ma_of sa_hm169
set_option maxRecDepth 100000 in
theorem sa_hm170 : sa_M[170]? = some sa_e170 := rfl
theorem sa_he170 : sa_Ma[170]? = some sa_e170 := sa_Ma_of sa_hm170
set_option maxRecDepth 100000 in
theorem sa_hm171 : sa_M[171]? = some sa_e171 := rfl
theorem sa_he171 : sa_Ma[171]? = some sa_e171 := sa_Ma_of sa_hm171
set_option maxRecDepth 100000 in
theorem sa_hm172 : sa_M[172]? = some sa_e172 := rfl
theorem sa_he172 : sa_Ma[172]? = some sa_e172 := sa_Ma_of sa_hm172
set_option maxRecDepth 100000 in
theorem sa_hm173 : sa_M[173]? = some sa_e173 := rfl
theorem sa_he173 : sa_Ma[173]? = some sa_e173 := sa_Ma_of sa_hm173
set_option maxRecDepth 100000 in
theorem sa_hm174 : sa_M[174]? = some sa_e174 := rfl
theorem sa_he174 : sa_Ma[174]? = some sa_e174 := sa_Ma_of sa_hm174
set_option maxRecDepth 100000 in
theorem sa_hm175 : sa_M[175]? = some sa_e175 := rfl
theorem sa_he175 : sa_Ma[175]? = some sa_e175 := sa_Ma_of sa_hm175
set_option maxRecDepth 100000 in
theorem sa_hm176 : sa_M[176]? = some sa_e176 := rfl
theorem sa_he176 : sa_Ma[176]? = some sa_e176 := sa_Ma_of sa_hm176
set_option maxRecDepth 100000 in
theorem sa_hm177 : sa_M[177]? = some sa_e177 := rfl
theorem sa_he177 : sa_Ma[177]? = some sa_e177 := sa_Ma_of sa_hm177
set_option maxRecDepth 100000 in
theorem sa_hm178 : sa_M[178]? = some sa_e178 := rfl
theorem sa_he178 : sa_Ma[178]? = some sa_e178 := sa_Ma_of sa_hm178
set_option maxRecDepth 100000 in
theorem sa_hm179 : sa_M[179]? = some sa_e179 := rfl
theorem sa_he179 : sa_Ma[179]? = some sa_e179 := sa_Ma_of sa_hm179
set_option maxRecDepth 100000 in
theorem sa_hm180 : sa_M[180]? = some sa_e180 := rfl
theorem sa_he180 : sa_Ma[180]? = some sa_e180 := sa_Ma_of sa_hm180
set_option maxRecDepth 100000 in
theorem sa_hm181 : sa_M[181]? = some sa_e181 := rfl
theorem sa_he181 : sa_Ma[181]? = some sa_e181 := sa_Ma_of sa_hm181
set_option maxRecDepth 100000 in
theorem sa_hm182 : sa_M[182]? = some sa_e182 := rfl
theorem sa_he182 : sa_Ma[182]? = some sa_e182 := sa_Ma_of sa_hm182
set_option maxRecDepth 100000 in
theorem sa_hm183 : sa_M[183]? = some sa_e183 := rfl
theorem sa_he183 : sa_Ma[183]? = some sa_e183 := sa_Ma_of sa_hm183
set_option maxRecDepth 100000 in
theorem sa_hm184 : sa_M[184]? = some sa_e184 := rfl
theorem sa_he184 : sa_Ma[184]? = some sa_e184 := sa_Ma_of sa_hm184
set_option maxRecDepth 100000 in
theorem sa_hm185 : sa_M[185]? = some sa_e185 := rfl
theorem sa_he185 : sa_Ma[185]? = some sa_e185 := sa_Ma_of sa_hm185
set_option maxRecDepth 100000 in
theorem sa_hm186 : sa_M[186]? = some sa_e186 := rfl
theorem sa_he186 : sa_Ma[186]? = some sa_e186 := sa_Ma_of sa_hm186
set_option maxRecDepth 100000 in
theorem sa_hm187 : sa_M[187]? = some sa_e187 := rfl
theorem sa_he187 : sa_Ma[187]? = some sa_e187 := sa_Ma_of sa_hm187
set_option maxRecDepth 100000 in
theorem sa_hm188 : sa_M[188]? = some sa_e188 := rfl
theorem sa_he188 : sa_Ma[188]? = some sa_e188 := sa_Ma_of sa_hm188
set_option maxRecDepth 100000 in
theorem sa_hm189 : sa_M[189]? = some sa_e189 := rfl
theorem sa_he189 : sa_Ma[189]? = some sa_e189 := sa_Ma_of sa_hm189
set_option maxRecDepth 100000 in
theorem sa_hm190 : sa_M[190]? = some sa_e190 := rfl
theorem sa_he190 : sa_Ma[190]? = some sa_e190 := sa_Ma_of sa_hm190
set_option maxRecDepth 100000 in
theorem sa_hm191 : sa_M[191]? = some sa_e191 := rfl
theorem sa_he191 : sa_Ma[191]? = some sa_e191 := sa_Ma_of sa_hm191
set_option maxRecDepth 100000 in
theorem sa_hm192 : sa_M[192]? = some sa_e192 := rfl
theorem sa_he192 : sa_Ma[192]? = some sa_e192 := sa_Ma_of sa_hm192
set_option maxRecDepth 100000 in
theorem sa_hm193 : sa_M[193]? = some sa_e193 := rfl
theorem sa_he193 : sa_Ma[193]? = some sa_e193 := sa_Ma_of sa_hm193
set_option maxRecDepth 100000 in
theorem sa_hm194 : sa_M[194]? = some sa_e194 := rfl
theorem sa_he194 : sa_Ma[194]? = some sa_e194 := sa_Ma_of sa_hm194
set_option maxRecDepth 100000 in
theorem sa_hm195 : sa_M[195]? = some sa_e195 := rfl
theorem sa_he195 : sa_Ma[195]? = some sa_e195 := sa_Ma_of sa_hm195
set_option maxRecDepth 100000 in
theorem sa_hm196 : sa_M[196]? = some sa_e196 := rfl
theorem sa_he196 : sa_Ma[196]? = some sa_e196 := sa_Ma_of sa_hm196
set_option maxRecDepth 100000 in
theorem sa_hm197 : sa_M[197]? = some sa_e197 := rfl
theorem sa_he197 : sa_Ma[197]? = some sa_e197 := sa_Ma_of sa_hm197
set_option maxRecDepth 100000 in
theorem sa_hm198 : sa_M[198]? = some sa_e198 := rfl
theorem sa_he198 : sa_Ma[198]? = some sa_e198 := sa_Ma_of sa_hm198
set_option maxRecDepth 100000 in
theorem sa_hm199 : sa_M[199]? = some sa_e199 := rfl
theorem sa_he199 : sa_Ma[199]? = some sa_e199 := sa_Ma_of sa_hm199
set_option maxRecDepth 100000 in
theorem sa_hm200 : sa_M[200]? = some sa_e200 := rfl
theorem sa_he200 : sa_Ma[200]? = some sa_e200 := sa_Ma_of sa_hm200
set_option maxRecDepth 100000 in
theorem sa_hm201 : sa_M[201]? = some sa_e201 := rfl
theorem sa_he201 : sa_Ma[201]? = some sa_e201 := sa_Ma_of sa_hm201
set_option maxRecDepth 100000 in
theorem sa_hm202 : sa_M[202]? = some sa_e202 := rfl
theorem sa_he202 : sa_Ma[202]? = some sa_e202 := sa_Ma_of sa_hm202
set_option maxRecDepth 100000 in
theorem sa_hm203 : sa_M[203]? = some sa_e203 := rfl
theorem sa_he203 : sa_Ma[203]? = some sa_e203 := sa_Ma_of sa_hm203
set_option maxRecDepth 100000 in
theorem sa_hm204 : sa_M[204]? = some sa_e204 := rfl
theorem sa_he204 : sa_Ma[204]? = some sa_e204 := sa_Ma_of sa_hm204
set_option maxRecDepth 100000 in
theorem sa_hm205 : sa_M[205]? = some sa_e205 := rfl
theorem sa_he205 : sa_Ma[205]? = some sa_e205 := sa_Ma_of sa_hm205
set_option maxRecDepth 100000 in
theorem sa_hm206 : sa_M[206]? = some sa_e206 := rfl
theorem sa_he206 : sa_Ma[206]? = some sa_e206 := sa_Ma_of sa_hm206
set_option maxRecDepth 100000 in
theorem sa_hm207 : sa_M[207]? = some sa_e207 := rfl
theorem sa_he207 : sa_Ma[207]? = some sa_e207 := sa_Ma_of sa_hm207
set_option maxRecDepth 100000 in
theorem sa_hm208 : sa_M[208]? = some sa_e208 := rfl
theorem sa_he208 : sa_Ma[208]? = some sa_e208 := sa_Ma_of sa_hm208
set_option maxRecDepth 100000 in
theorem sa_hm209 : sa_M[209]? = some sa_e209 := rfl
theorem sa_he209 : sa_Ma[209]? = some sa_e209 := sa_Ma_of sa_hm209
set_option maxRecDepth 100000 in
theorem sa_hm210 : sa_M[210]? = some sa_e210 := rfl
theorem sa_he210 : sa_Ma[210]? = some sa_e210 := sa_Ma_of sa_hm210
set_option maxRecDepth 100000 in
theorem sa_hm211 : sa_M[211]? = some sa_e211 := rfl
theorem sa_he211 : sa_Ma[211]? = some sa_e211 := sa_Ma_of sa_hm211
set_option maxRecDepth 100000 in
theorem sa_hm212 : sa_M[212]? = some sa_e212 := rfl
theorem sa_he212 : sa_Ma[212]? = some sa_e212 := sa_Ma_of sa_hm212
set_option maxRecDepth 100000 in
theorem sa_hm213 : sa_M[213]? = some sa_e213 := rfl
theorem sa_he213 : sa_Ma[213]? = some sa_e213 := sa_Ma_of sa_hm213
set_option maxRecDepth 100000 in
theorem sa_hm214 : sa_M[214]? = some sa_e214 := rfl
theorem sa_he214 : sa_Ma[214]? = some sa_e214 := sa_Ma_of sa_hm214
set_option maxRecDepth 100000 in
theorem sa_hm215 : sa_M[215]? = some sa_e215 := rfl
theorem sa_he215 : sa_Ma[215]? = some sa_e215 := sa_Ma_of sa_hm215
set_option maxRecDepth 100000 in
theorem sa_hm216 : sa_M[216]? = some sa_e216 := rfl
theorem sa_he216 : sa_Ma[216]? = some sa_e216 := sa_Ma_of sa_hm216
set_option maxRecDepth 100000 in
theorem sa_hm217 : sa_M[217]? = some sa_e217 := rfl
theorem sa_he217 : sa_Ma[217]? = some sa_e217 := sa_Ma_of sa_hm217
set_option maxRecDepth 100000 in
theorem sa_hm218 : sa_M[218]? = some sa_e218 := rfl
theorem sa_he218 : sa_Ma[218]? = some sa_e218 := sa_Ma_of sa_hm218
set_option maxRecDepth 100000 in
theorem sa_hm219 : sa_M[219]? = some sa_e219 := rfl
theorem sa_he219 : sa_Ma[219]? = some sa_e219 := sa_Ma_of sa_hm219
set_option maxRecDepth 100000 in
theorem sa_hm220 : sa_M[220]? = some sa_e220 := rfl
theorem sa_he220 : sa_Ma[220]? = some sa_e220 := sa_Ma_of sa_hm220
set_option maxRecDepth 100000 in
theorem sa_hm221 : sa_M[221]? = some sa_e221 := rfl
theorem sa_he221 : sa_Ma[221]? = some sa_e221 := sa_Ma_of sa_hm221
set_option maxRecDepth 100000 in
theorem sa_hm222 : sa_M[222]? = some sa_e222 := rfl
theorem sa_he222 : sa_Ma[222]? = some sa_e222 := sa_Ma_of sa_hm222
set_option maxRecDepth 100000 in
theorem sa_hm223 : sa_M[223]? = some sa_e223 := rfl
theorem sa_he223 : sa_Ma[223]? = some sa_e223 := sa_Ma_of sa_hm223
set_option maxRecDepth 100000 in
theorem sa_hm224 : sa_M[224]? = some sa_e224 := rfl
theorem sa_he224 : sa_Ma[224]? = some sa_e224 := sa_Ma_of sa_hm224
set_option maxRecDepth 100000 in
theorem sa_hm225 : sa_M[225]? = some sa_e225 := rfl
theorem sa_he225 : sa_Ma[225]? = some sa_e225 := sa_Ma_of sa_hm225
set_option maxRecDepth 100000 in
theorem sa_hm226 : sa_M[226]? = some sa_e226 := rfl
theorem sa_he226 : sa_Ma[226]? = some sa_e226 := sa_Ma_of sa_hm226
set_option maxRecDepth 100000 in
theorem sa_hm227 : sa_M[227]? = some sa_e227 := rfl
theorem sa_he227 : sa_Ma[227]? = some sa_e227 := sa_Ma_of sa_hm227
set_option maxRecDepth 100000 in
theorem sa_hm228 : sa_M[228]? = some sa_e228 := rfl
theorem sa_he228 : sa_Ma[228]? = some sa_e228 := sa_Ma_of sa_hm228
set_option maxRecDepth 100000 in
theorem sa_hm229 : sa_M[229]? = some sa_e229 := rfl
theorem sa_he229 : sa_Ma[229]? = some sa_e229 := sa_Ma_of sa_hm229
set_option maxRecDepth 100000 in
theorem sa_hm230 : sa_M[230]? = some sa_e230 := rfl
theorem sa_he230 : sa_Ma[230]? = some sa_e230 := sa_Ma_of sa_hm230
set_option maxRecDepth 100000 in
theorem sa_hm231 : sa_M[231]? = some sa_e231 := rfl
theorem sa_he231 : sa_Ma[231]? = some sa_e231 := sa_Ma_of sa_hm231
set_option maxRecDepth 100000 in
theorem sa_hm232 : sa_M[232]? = some sa_e232 := rfl
theorem sa_he232 : sa_Ma[232]? = some sa_e232 := sa_Ma_of sa_hm232
set_option maxRecDepth 100000 in
theorem sa_hm233 : sa_M[233]? = some sa_e233 := rfl
theorem sa_he233 : sa_Ma[233]? = some sa_e233 := sa_Ma_of sa_hm233
set_option maxRecDepth 100000 in
theorem sa_hm234 : sa_M[234]? = some sa_e234 := rfl
theorem sa_he234 : sa_Ma[234]? = some sa_e234 := sa_Ma_of sa_hm234
set_option maxRecDepth 100000 in
theorem sa_hm235 : sa_M[235]? = some sa_e235 := rfl
theorem sa_he235 : sa_Ma[235]? = some sa_e235 := sa_Ma_of sa_hm235
set_option maxRecDepth 100000 in
theorem sa_hm236 : sa_M[236]? = some sa_e236 := rfl
theorem sa_he236 : sa_Ma[236]? = some sa_e236 := sa_Ma_of sa_hm236
set_option maxRecDepth 100000 in
theorem sa_hm237 : sa_M[237]? = some sa_e237 := rfl
theorem sa_he237 : sa_Ma[237]? = some sa_e237 := sa_Ma_of sa_hm237
set_option maxRecDepth 100000 in
theorem sa_hm238 : sa_M[238]? = some sa_e238 := rfl
theorem sa_he238 : sa_Ma[238]? = some sa_e238 := sa_Ma_of sa_hm238
set_option maxRecDepth 100000 in
theorem sa_hm239 : sa_M[239]? = some sa_e239 := rfl
theorem sa_he239 : sa_Ma[239]? = some sa_e239 := sa_Ma_of sa_hm239
set_option maxRecDepth 100000 in
theorem sa_hm240 : sa_M[240]? = some sa_e240 := rfl
theorem sa_he240 : sa_Ma[240]? = some sa_e240 := sa_Ma_of sa_hm240
set_option maxRecDepth 100000 in
theorem sa_hm241 : sa_M[241]? = some sa_e241 := rfl
theorem sa_he241 : sa_Ma[241]? = some sa_e241 := sa_Ma_of sa_hm241
set_option maxRecDepth 100000 in
theorem sa_hm242 : sa_M[242]? = some sa_e242 := rfl
theorem sa_he242 : sa_Ma[242]? = some sa_e242 := sa_Ma_of sa_hm242
set_option maxRecDepth 100000 in
theorem sa_hm243 : sa_M[243]? = some sa_e243 := rfl
theorem sa_he243 : sa_Ma[243]? = some sa_e243 := sa_Ma_of sa_hm243
set_option maxRecDepth 100000 in
theorem sa_hm244 : sa_M[244]? = some sa_e244 := rfl
theorem sa_he244 : sa_Ma[244]? = some sa_e244 := sa_Ma_of sa_hm244
set_option maxRecDepth 100000 in
theorem sa_hm245 : sa_M[245]? = some sa_e245 := rfl
theorem sa_he245 : sa_Ma[245]? = some sa_e245 := sa_Ma_of sa_hm245
set_option maxRecDepth 100000 in
theorem sa_hm246 : sa_M[246]? = some sa_e246 := rfl
theorem sa_he246 : sa_Ma[246]? = some sa_e246 := sa_Ma_of sa_hm246
set_option maxRecDepth 100000 in
theorem sa_hm247 : sa_M[247]? = some sa_e247 := rfl
theorem sa_he247 : sa_Ma[247]? = some sa_e247 := sa_Ma_of sa_hm247
set_option maxRecDepth 100000 in
theorem sa_hm248 : sa_M[248]? = some sa_e248 := rfl
theorem sa_he248 : sa_Ma[248]? = some sa_e248 := sa_Ma_of sa_hm248
set_option maxRecDepth 100000 in
theorem sa_hm249 : sa_M[249]? = some sa_e249 := rfl
theorem sa_he249 : sa_Ma[249]? = some sa_e249 := sa_Ma_of sa_hm249
set_option maxRecDepth 100000 in
theorem sa_hm250 : sa_M[250]? = some sa_e250 := rfl
theorem sa_he250 : sa_Ma[250]? = some sa_e250 := sa_Ma_of sa_hm250
set_option maxRecDepth 100000 in
theorem sa_hm251 : sa_M[251]? = some sa_e251 := rfl
theorem sa_he251 : sa_Ma[251]? = some sa_e251 := sa_Ma_of sa_hm251
set_option maxRecDepth 100000 in
theorem sa_hm252 : sa_M[252]? = some sa_e252 := rfl
theorem sa_he252 : sa_Ma[252]? = some sa_e252 := sa_Ma_of sa_hm252
set_option maxRecDepth 100000 in
theorem sa_hm253 : sa_M[253]? = some sa_e253 := rfl
theorem sa_he253 : sa_Ma[253]? = some sa_e253 := sa_Ma_of sa_hm253
set_option maxRecDepth 100000 in
theorem sa_hm254 : sa_M[254]? = some sa_e254 := rfl
theorem sa_he254 : sa_Ma[254]? = some sa_e254 := sa_Ma_of sa_hm254
set_option maxRecDepth 100000 in
theorem sa_hm255 : sa_M[255]? = some sa_e255 := rfl
theorem sa_he255 : sa_Ma[255]? = some sa_e255 := sa_Ma_of sa_hm255
set_option maxRecDepth 100000 in
theorem sa_hm256 : sa_M[256]? = some sa_e256 := rfl
theorem sa_he256 : sa_Ma[256]? = some sa_e256 := sa_Ma_of sa_hm256
set_option maxRecDepth 100000 in
theorem sa_hm257 : sa_M[257]? = some sa_e257 := rfl
theorem sa_he257 : sa_Ma[257]? = some sa_e257 := sa_Ma_of sa_hm257
set_option maxRecDepth 100000 in
theorem sa_hm258 : sa_M[258]? = some sa_e258 := rfl
theorem sa_he258 : sa_Ma[258]? = some sa_e258 := sa_Ma_of sa_hm258
set_option maxRecDepth 100000 in
theorem sa_hm259 : sa_M[259]? = some sa_e259 := rfl
theorem sa_he259 : sa_Ma[259]? = some sa_e259 := sa_Ma_of sa_hm259
set_option maxRecDepth 100000 in
theorem sa_hm260 : sa_M[260]? = some sa_e260 := rfl
theorem sa_he260 : sa_Ma[260]? = some sa_e260 := sa_Ma_of sa_hm260
set_option maxRecDepth 100000 in
theorem sa_hm261 : sa_M[261]? = some sa_e261 := rfl
theorem sa_he261 : sa_Ma[261]? = some sa_e261 := sa_Ma_of sa_hm261
set_option maxRecDepth 100000 in
theorem sa_hm262 : sa_M[262]? = some sa_e262 := rfl
theorem sa_he262 : sa_Ma[262]? = some sa_e262 := sa_Ma_of sa_hm262
set_option maxRecDepth 100000 in
theorem sa_hm263 : sa_M[263]? = some sa_e263 := rfl
theorem sa_he263 : sa_Ma[263]? = some sa_e263 := sa_Ma_of sa_hm263
set_option maxRecDepth 100000 in
theorem sa_hm264 : sa_M[264]? = some sa_e264 := rfl
theorem sa_he264 : sa_Ma[264]? = some sa_e264 := sa_Ma_of sa_hm264
set_option maxRecDepth 100000 in
theorem sa_hm265 : sa_M[265]? = some sa_e265 := rfl
theorem sa_he265 : sa_Ma[265]? = some sa_e265 := sa_Ma_of sa_hm265
set_option maxRecDepth 100000 in
theorem sa_hm266 : sa_M[266]? = some sa_e266 := rfl
theorem sa_he266 : sa_Ma[266]? = some sa_e266 := sa_Ma_of sa_hm266
set_option maxRecDepth 100000 in
theorem sa_hm267 : sa_M[267]? = some sa_e267 := rfl
theorem sa_he267 : sa_Ma[267]? = some sa_e267 := sa_Ma_of sa_hm267
set_option maxRecDepth 100000 in
theorem sa_hm268 : sa_M[268]? = some sa_e268 := rfl
theorem sa_he268 : sa_Ma[268]? = some sa_e268 := sa_Ma_of sa_hm268
set_option maxRecDepth 100000 in
theorem sa_hm269 : sa_M[269]? = some sa_e269 := rfl
theorem sa_he269 : sa_Ma[269]? = some sa_e269 := sa_Ma_of sa_hm269
set_option maxRecDepth 100000 in
theorem sa_hm270 : sa_M[270]? = some sa_e270 := rfl
theorem sa_he270 : sa_Ma[270]? = some sa_e270 := sa_Ma_of sa_hm270
set_option maxRecDepth 100000 in
theorem sa_hm271 : sa_M[271]? = some sa_e271 := rfl
theorem sa_he271 : sa_Ma[271]? = some sa_e271 := sa_Ma_of sa_hm271
set_option maxRecDepth 100000 in
theorem sa_hm272 : sa_M[272]? = some sa_e272 := rfl
theorem sa_he272 : sa_Ma[272]? = some sa_e272 := sa_Ma_of sa_hm272
set_option maxRecDepth 100000 in
theorem sa_hm273 : sa_M[273]? = some sa_e273 := rfl
theorem sa_he273 : sa_Ma[273]? = some sa_e273 := sa_Ma_of sa_hm273
set_option maxRecDepth 100000 in
theorem sa_hm274 : sa_M[274]? = some sa_e274 := rfl
theorem sa_he274 : sa_Ma[274]? = some sa_e274 := sa_Ma_of sa_hm274
set_option maxRecDepth 100000 in
theorem sa_hm275 : sa_M[275]? = some sa_e275 := rfl
theorem sa_he275 : sa_Ma[275]? = some sa_e275 := sa_Ma_of sa_hm275
set_option maxRecDepth 100000 in
theorem sa_hm276 : sa_M[276]? = some sa_e276 := rfl
theorem sa_he276 : sa_Ma[276]? = some sa_e276 := sa_Ma_of sa_hm276
set_option maxRecDepth 100000 in
theorem sa_hm277 : sa_M[277]? = some sa_e277 := rfl
theorem sa_he277 : sa_Ma[277]? = some sa_e277 := sa_Ma_of sa_hm277
set_option maxRecDepth 100000 in
theorem sa_hm278 : sa_M[278]? = some sa_e278 := rfl
theorem sa_he278 : sa_Ma[278]? = some sa_e278 := sa_Ma_of sa_hm278
set_option maxRecDepth 100000 in
theorem sa_hm279 : sa_M[279]? = some sa_e279 := rfl
theorem sa_he279 : sa_Ma[279]? = some sa_e279 := sa_Ma_of sa_hm279
set_option maxRecDepth 100000 in
theorem sa_hm280 : sa_M[280]? = some sa_e280 := rfl
theorem sa_he280 : sa_Ma[280]? = some sa_e280 := sa_Ma_of sa_hm280
set_option maxRecDepth 100000 in
theorem sa_hm281 : sa_M[281]? = some sa_e281 := rfl
theorem sa_he281 : sa_Ma[281]? = some sa_e281 := sa_Ma_of sa_hm281
set_option maxRecDepth 100000 in
theorem sa_hm282 : sa_M[282]? = some sa_e282 := rfl
theorem sa_he282 : sa_Ma[282]? = some sa_e282 := sa_Ma_of sa_hm282
set_option maxRecDepth 100000 in
theorem sa_hm283 : sa_M[283]? = some sa_e283 := rfl
theorem sa_he283 : sa_Ma[283]? = some sa_e283 := sa_Ma_of sa_hm283
set_option maxRecDepth 100000 in
theorem sa_hm284 : sa_M[284]? = some sa_e284 := rfl
theorem sa_he284 : sa_Ma[284]? = some sa_e284 := sa_Ma_of sa_hm284
set_option maxRecDepth 100000 in
theorem sa_hm285 : sa_M[285]? = some sa_e285 := rfl
theorem sa_he285 : sa_Ma[285]? = some sa_e285 := sa_Ma_of sa_hm285
set_option maxRecDepth 100000 in
theorem sa_hm286 : sa_M[286]? = some sa_e286 := rfl
theorem sa_he286 : sa_Ma[286]? = some sa_e286 := sa_Ma_of sa_hm286
set_option maxRecDepth 100000 in
theorem sa_hm287 : sa_M[287]? = some sa_e287 := rfl
theorem sa_he287 : sa_Ma[287]? = some sa_e287 := sa_Ma_of sa_hm287
set_option maxRecDepth 100000 in
theorem sa_hm288 : sa_M[288]? = some sa_e288 := rfl
theorem sa_he288 : sa_Ma[288]? = some sa_e288 := sa_Ma_of sa_hm288
set_option maxRecDepth 100000 in
theorem sa_hm289 : sa_M[289]? = some sa_e289 := rfl
theorem sa_he289 : sa_Ma[289]? = some sa_e289 := sa_Ma_of sa_hm289
set_option maxRecDepth 100000 in
theorem sa_hm290 : sa_M[290]? = some sa_e290 := rfl
theorem sa_he290 : sa_Ma[290]? = some sa_e290 := sa_Ma_of sa_hm290
set_option maxRecDepth 100000 in
theorem sa_hm291 : sa_M[291]? = some sa_e291 := rfl
theorem sa_he291 : sa_Ma[291]? = some sa_e291 := sa_Ma_of sa_hm291
set_option maxRecDepth 100000 in
theorem sa_hm292 : sa_M[292]? = some sa_e292 := rfl
theorem sa_he292 : sa_Ma[292]? = some sa_e292 := sa_Ma_of sa_hm292
set_option maxRecDepth 100000 in
theorem sa_hm293 : sa_M[293]? = some sa_e293 := rfl
theorem sa_he293 : sa_Ma[293]? = some sa_e293 := sa_Ma_of sa_hm293
set_option maxRecDepth 100000 in
theorem sa_hm294 : sa_M[294]? = some sa_e294 := rfl
theorem sa_he294 : sa_Ma[294]? = some sa_e294 := sa_Ma_of sa_hm294
set_option maxRecDepth 100000 in
theorem sa_hm295 : sa_M[295]? = some sa_e295 := rfl
theorem sa_he295 : sa_Ma[295]? = some sa_e295 := sa_Ma_of sa_hm295
set_option maxRecDepth 100000 in
theorem sa_hm296 : sa_M[296]? = some sa_e296 := rfl
theorem sa_he296 : sa_Ma[296]? = some sa_e296 := sa_Ma_of sa_hm296
set_option maxRecDepth 100000 in
theorem sa_hm297 : sa_M[297]? = some sa_e297 := rfl
theorem sa_he297 : sa_Ma[297]? = some sa_e297 := sa_Ma_of sa_hm297
set_option maxRecDepth 100000 in
theorem sa_hm298 : sa_M[298]? = some sa_e298 := rfl
theorem sa_he298 : sa_Ma[298]? = some sa_e298 := sa_Ma_of sa_hm298
set_option maxRecDepth 100000 in
theorem sa_hm299 : sa_M[299]? = some sa_e299 := rfl
theorem sa_he299 : sa_Ma[299]? = some sa_e299 := sa_Ma_of sa_hm299
set_option maxRecDepth 100000 in
theorem sa_hm300 : sa_M[300]? = some sa_e300 := rfl
theorem sa_he300 : sa_Ma[300]? = some sa_e300 := sa_Ma_of sa_hm300
set_option maxRecDepth 100000 in
theorem sa_hm301 : sa_M[301]? = some sa_e301 := rfl
theorem sa_he301 : sa_Ma[301]? = some sa_e301 := sa_Ma_of sa_hm301
set_option maxRecDepth 100000 in
theorem sa_hm302 : sa_M[302]? = some sa_e302 := rfl
theorem sa_he302 : sa_Ma[302]? = some sa_e302 := sa_Ma_of sa_hm302
set_option maxRecDepth 100000 in
theorem sa_hm303 : sa_M[303]? = some sa_e303 := rfl
theorem sa_he303 : sa_Ma[303]? = some sa_e303 := sa_Ma_of sa_hm303
set_option maxRecDepth 100000 in
theorem sa_hm304 : sa_M[304]? = some sa_e304 := rfl
theorem sa_he304 : sa_Ma[304]? = some sa_e304 := sa_Ma_of sa_hm304
set_option maxRecDepth 100000 in
theorem sa_hm305 : sa_M[305]? = some sa_e305 := rfl
theorem sa_he305 : sa_Ma[305]? = some sa_e305 := sa_Ma_of sa_hm305
set_option maxRecDepth 100000 in
theorem sa_hm306 : sa_M[306]? = some sa_e306 := rfl
theorem sa_he306 : sa_Ma[306]? = some sa_e306 := sa_Ma_of sa_hm306
set_option maxRecDepth 100000 in
theorem sa_hm307 : sa_M[307]? = some sa_e307 := rfl
theorem sa_he307 : sa_Ma[307]? = some sa_e307 := sa_Ma_of sa_hm307
set_option maxRecDepth 100000 in
theorem sa_hm308 : sa_M[308]? = some sa_e308 := rfl
theorem sa_he308 : sa_Ma[308]? = some sa_e308 := sa_Ma_of sa_hm308
set_option maxRecDepth 100000 in
theorem sa_hm309 : sa_M[309]? = some sa_e309 := rfl
theorem sa_he309 : sa_Ma[309]? = some sa_e309 := sa_Ma_of sa_hm309
set_option maxRecDepth 100000 in
theorem sa_hm310 : sa_M[310]? = some sa_e310 := rfl
theorem sa_he310 : sa_Ma[310]? = some sa_e310 := sa_Ma_of sa_hm310
set_option maxRecDepth 100000 in
theorem sa_hm311 : sa_M[311]? = some sa_e311 := rfl
theorem sa_he311 : sa_Ma[311]? = some sa_e311 := sa_Ma_of sa_hm311
set_option maxRecDepth 100000 in
theorem sa_hm312 : sa_M[312]? = some sa_e312 := rfl
theorem sa_he312 : sa_Ma[312]? = some sa_e312 := sa_Ma_of sa_hm312
set_option maxRecDepth 100000 in
theorem sa_hm313 : sa_M[313]? = some sa_e313 := rfl
theorem sa_he313 : sa_Ma[313]? = some sa_e313 := sa_Ma_of sa_hm313
set_option maxRecDepth 100000 in
theorem sa_hm314 : sa_M[314]? = some sa_e314 := rfl
theorem sa_he314 : sa_Ma[314]? = some sa_e314 := sa_Ma_of sa_hm314
set_option maxRecDepth 100000 in
theorem sa_hm315 : sa_M[315]? = some sa_e315 := rfl
theorem sa_he315 : sa_Ma[315]? = some sa_e315 := sa_Ma_of sa_hm315
set_option maxRecDepth 100000 in
theorem sa_hm316 : sa_M[316]? = some sa_e316 := rfl
theorem sa_he316 : sa_Ma[316]? = some sa_e316 := sa_Ma_of sa_hm316
set_option maxRecDepth 100000 in
theorem sa_hm317 : sa_M[317]? = some sa_e317 := rfl
theorem sa_he317 : sa_Ma[317]? = some sa_e317 := sa_Ma_of sa_hm317
set_option maxRecDepth 100000 in
theorem sa_hm318 : sa_M[318]? = some sa_e318 := rfl
theorem sa_he318 : sa_Ma[318]? = some sa_e318 := sa_Ma_of sa_hm318
set_option maxRecDepth 100000 in
theorem sa_hm319 : sa_M[319]? = some sa_e319 := rfl
theorem sa_he319 : sa_Ma[319]? = some sa_e319 := sa_Ma_of sa_hm319
set_option maxRecDepth 100000 in
theorem sa_hm320 : sa_M[320]? = some sa_e320 := rfl
theorem sa_he320 : sa_Ma[320]? = some sa_e320 := sa_Ma_of sa_hm320
set_option maxRecDepth 100000 in
theorem sa_hm321 : sa_M[321]? = some sa_e321 := rfl
theorem sa_he321 : sa_Ma[321]? = some sa_e321 := sa_Ma_of sa_hm321
set_option maxRecDepth 100000 in
theorem sa_hm322 : sa_M[322]? = some sa_e322 := rfl
theorem sa_he322 : sa_Ma[322]? = some sa_e322 := sa_Ma_of sa_hm322
set_option maxRecDepth 100000 in
theorem sa_hm323 : sa_M[323]? = some sa_e323 := rfl
theorem sa_he323 : sa_Ma[323]? = some sa_e323 := sa_Ma_of sa_hm323
set_option maxRecDepth 100000 in
theorem sa_hm324 : sa_M[324]? = some sa_e324 := rfl
theorem sa_he324 : sa_Ma[324]? = some sa_e324 := sa_Ma_of sa_hm324
set_option maxRecDepth 100000 in
theorem sa_hm325 : sa_M[325]? = some sa_e325 := rfl
theorem sa_he325 : sa_Ma[325]? = some sa_e325 := sa_Ma_of sa_hm325
set_option maxRecDepth 100000 in
theorem sa_hm326 : sa_M[326]? = some sa_e326 := rfl
theorem sa_he326 : sa_Ma[326]? = some sa_e326 := sa_Ma_of sa_hm326
set_option maxRecDepth 100000 in
theorem sa_hm327 : sa_M[327]? = some sa_e327 := rfl
theorem sa_he327 : sa_Ma[327]? = some sa_e327 := sa_Ma_of sa_hm327
set_option maxRecDepth 100000 in
theorem sa_hm328 : sa_M[328]? = some sa_e328 := rfl
theorem sa_he328 : sa_Ma[328]? = some sa_e328 := sa_Ma_of sa_hm328
set_option maxRecDepth 100000 in
theorem sa_hm329 : sa_M[329]? = some sa_e329 := rfl
theorem sa_he329 : sa_Ma[329]? = some sa_e329 := sa_Ma_of sa_hm329
set_option maxRecDepth 100000 in
theorem sa_hm330 : sa_M[330]? = some sa_e330 := rfl
theorem sa_he330 : sa_Ma[330]? = some sa_e330 := sa_Ma_of sa_hm330
set_option maxRecDepth 100000 in
theorem sa_hm331 : sa_M[331]? = some sa_e331 := rfl
theorem sa_he331 : sa_Ma[331]? = some sa_e331 := sa_Ma_of sa_hm331
set_option maxRecDepth 100000 in
theorem sa_hm332 : sa_M[332]? = some sa_e332 := rfl
theorem sa_he332 : sa_Ma[332]? = some sa_e332 := sa_Ma_of sa_hm332
set_option maxRecDepth 100000 in
theorem sa_hm333 : sa_M[333]? = some sa_e333 := rfl
theorem sa_he333 : sa_Ma[333]? = some sa_e333 := sa_Ma_of sa_hm333
set_option maxRecDepth 100000 in
theorem sa_hm334 : sa_M[334]? = some sa_e334 := rfl
theorem sa_he334 : sa_Ma[334]? = some sa_e334 := sa_Ma_of sa_hm334
set_option maxRecDepth 100000 in
theorem sa_hm335 : sa_M[335]? = some sa_e335 := rfl
theorem sa_he335 : sa_Ma[335]? = some sa_e335 := sa_Ma_of sa_hm335
set_option maxRecDepth 100000 in
theorem sa_hm336 : sa_M[336]? = some sa_e336 := rfl
theorem sa_he336 : sa_Ma[336]? = some sa_e336 := sa_Ma_of sa_hm336
set_option maxRecDepth 100000 in
theorem sa_hm337 : sa_M[337]? = some sa_e337 := rfl
theorem sa_he337 : sa_Ma[337]? = some sa_e337 := sa_Ma_of sa_hm337
set_option maxRecDepth 100000 in
theorem sa_hm338 : sa_M[338]? = some sa_e338 := rfl
theorem sa_he338 : sa_Ma[338]? = some sa_e338 := sa_Ma_of sa_hm338
set_option maxRecDepth 100000 in
theorem sa_hm339 : sa_M[339]? = some sa_e339 := rfl
theorem sa_he339 : sa_Ma[339]? = some sa_e339 := sa_Ma_of sa_hm339
set_option maxRecDepth 100000 in
theorem sa_hm340 : sa_M[340]? = some sa_e340 := rfl
theorem sa_he340 : sa_Ma[340]? = some sa_e340 := sa_Ma_of sa_hm340
set_option maxRecDepth 100000 in
theorem sa_hm341 : sa_M[341]? = some sa_e341 := rfl
theorem sa_he341 : sa_Ma[341]? = some sa_e341 := sa_Ma_of sa_hm341
set_option maxRecDepth 100000 in
theorem sa_hm342 : sa_M[342]? = some sa_e342 := rfl
theorem sa_he342 : sa_Ma[342]? = some sa_e342 := sa_Ma_of sa_hm342
set_option maxRecDepth 100000 in
theorem sa_hm343 : sa_M[343]? = some sa_e343 := rfl
theorem sa_he343 : sa_Ma[343]? = some sa_e343 := sa_Ma_of sa_hm343
set_option maxRecDepth 100000 in
theorem sa_hm344 : sa_M[344]? = some sa_e344 := rfl
theorem sa_he344 : sa_Ma[344]? = some sa_e344 := sa_Ma_of sa_hm344
set_option maxRecDepth 100000 in
theorem sa_hm345 : sa_M[345]? = some sa_e345 := rfl
theorem sa_he345 : sa_Ma[345]? = some sa_e345 := sa_Ma_of sa_hm345
set_option maxRecDepth 100000 in
theorem sa_hm346 : sa_M[346]? = some sa_e346 := rfl
theorem sa_he346 : sa_Ma[346]? = some sa_e346 := sa_Ma_of sa_hm346
set_option maxRecDepth 100000 in
theorem sa_hm347 : sa_M[347]? = some sa_e347 := rfl
theorem sa_he347 : sa_Ma[347]? = some sa_e347 := sa_Ma_of sa_hm347
set_option maxRecDepth 100000 in
theorem sa_hm348 : sa_M[348]? = some sa_e348 := rfl
theorem sa_he348 : sa_Ma[348]? = some sa_e348 := sa_Ma_of sa_hm348
set_option maxRecDepth 100000 in
theorem sa_hm349 : sa_M[349]? = some sa_e349 := rfl
theorem sa_he349 : sa_Ma[349]? = some sa_e349 := sa_Ma_of sa_hm349
set_option maxRecDepth 100000 in
theorem sa_hm350 : sa_M[350]? = some sa_e350 := rfl
theorem sa_he350 : sa_Ma[350]? = some sa_e350 := sa_Ma_of sa_hm350
set_option maxRecDepth 100000 in
theorem sa_hm351 : sa_M[351]? = some sa_e351 := rfl
theorem sa_he351 : sa_Ma[351]? = some sa_e351 := sa_Ma_of sa_hm351
set_option maxRecDepth 100000 in
theorem sa_hm352 : sa_M[352]? = some sa_e352 := rfl
theorem sa_he352 : sa_Ma[352]? = some sa_e352 := sa_Ma_of sa_hm352
set_option maxRecDepth 100000 in
theorem sa_hm353 : sa_M[353]? = some sa_e353 := rfl
theorem sa_he353 : sa_Ma[353]? = some sa_e353 := sa_Ma_of sa_hm353
set_option maxRecDepth 100000 in
theorem sa_hm354 : sa_M[354]? = some sa_e354 := rfl
theorem sa_he354 : sa_Ma[354]? = some sa_e354 := sa_Ma_of sa_hm354
set_option maxRecDepth 100000 in
theorem sa_hm355 : sa_M[355]? = some sa_e355 := rfl
theorem sa_he355 : sa_Ma[355]? = some sa_e355 := sa_Ma_of sa_hm355
set_option maxRecDepth 100000 in
theorem sa_hm356 : sa_M[356]? = some sa_e356 := rfl
theorem sa_he356 : sa_Ma[356]? = some sa_e356 := sa_Ma_of sa_hm356
set_option maxRecDepth 100000 in
theorem sa_hm357 : sa_M[357]? = some sa_e357 := rfl
theorem sa_he357 : sa_Ma[357]? = some sa_e357 := sa_Ma_of sa_hm357
set_option maxRecDepth 100000 in
theorem sa_hm358 : sa_M[358]? = some sa_e358 := rfl
theorem sa_he358 : sa_Ma[358]? = some sa_e358 := sa_Ma_of sa_hm358
set_option maxRecDepth 100000 in
theorem sa_hm359 : sa_M[359]? = some sa_e359 := rfl
theorem sa_he359 : sa_Ma[359]? = some sa_e359 := sa_Ma_of sa_hm359
set_option maxRecDepth 100000 in
theorem sa_hm360 : sa_M[360]? = some sa_e360 := rfl
theorem sa_he360 : sa_Ma[360]? = some sa_e360 := sa_Ma_of sa_hm360
set_option maxRecDepth 100000 in
theorem sa_hm361 : sa_M[361]? = some sa_e361 := rfl
theorem sa_he361 : sa_Ma[361]? = some sa_e361 := sa_Ma_of sa_hm361
theorem sa_hc {mi k : Nat} {e : sa_Me} (h : sa_M[mi]? = some e) (hk : e.1 = k) : (sa_M[mi]?).map (fun z => z.1) = some k := by rw [h, ← hk]; rfl
theorem sa_i13_108 : sa_pI.lookup (13, 108) = some (2, 149, 0) := by decide +kernel
theorem sa_i11_1 : sa_pI.lookup (11, 1) = some (6, 0, 0) := by decide +kernel
theorem sa_i11_26 : sa_pI.lookup (11, 26) = some (3, 63, 0) := by decide +kernel
theorem sa_i6_3 : sa_pI.lookup (6, 3) = some (6, 0, 0) := by decide +kernel
theorem sa_i6_15 : sa_pI.lookup (6, 15) = some (2, 111, 2) := by decide +kernel
theorem sa_i8_1 : sa_pI.lookup (8, 1) = some (6, 0, 0) := by decide +kernel
theorem sa_i6_44 : sa_pI.lookup (6, 44) = some (3, 42, 0) := by decide +kernel
theorem sa_i4_3 : sa_pI.lookup (4, 3) = some (6, 0, 0) := by decide +kernel
theorem sa_i11_36 : sa_pI.lookup (11, 36) = some (2, 14, 2) := by decide +kernel
theorem sa_i2_3 : sa_pI.lookup (2, 3) = some (6, 0, 0) := by decide +kernel
theorem sa_i2_27 : sa_pI.lookup (2, 27) = some (2, 123, 1) := by decide +kernel
theorem sa_i9_1 : sa_pI.lookup (9, 1) = some (6, 0, 0) := by decide +kernel
theorem sa_i11_45 : sa_pI.lookup (11, 45) = some (2, 139, 1) := by decide +kernel
theorem sa_i10_3 : sa_pI.lookup (10, 3) = some (6, 0, 0) := by decide +kernel
theorem sa_i10_30 : sa_pI.lookup (10, 30) = some (2, 90, 1) := by decide +kernel
theorem sa_i7_5 : sa_pI.lookup (7, 5) = some (6, 0, 0) := by decide +kernel
theorem sa_i11_61 : sa_pI.lookup (11, 61) = some (2, 48, 1) := by decide +kernel
theorem sa_i5_5 : sa_pI.lookup (5, 5) = some (6, 0, 0) := by decide +kernel
theorem sa_i11_72 : sa_pI.lookup (11, 72) = some (2, 9, 3) := by decide +kernel
theorem sa_i1_3 : sa_pI.lookup (1, 3) = some (6, 0, 0) := by decide +kernel
theorem sa_i11_81 : sa_pI.lookup (11, 81) = some (2, 32, 2) := by decide +kernel
theorem sa_i3_3 : sa_pI.lookup (3, 3) = some (6, 0, 0) := by decide +kernel
theorem sa_i11_90 : sa_pI.lookup (11, 90) = some (2, 0, 2) := by decide +kernel
theorem sa_i0_3 : sa_pI.lookup (0, 3) = some (6, 0, 0) := by decide +kernel
theorem sa_i0_25 : sa_pI.lookup (0, 25) = some (2, 90, 1) := by decide +kernel
theorem sa_i13_112 : sa_pI.lookup (13, 112) = some (0, 150, 5) := by decide +kernel
theorem sa_i11_97 : sa_pI.lookup (11, 97) = some (0, 151, 1) := by decide +kernel
theorem sa_i13_127 : sa_pI.lookup (13, 127) = some (0, 153, 0) := by decide +kernel
theorem sa_i13_144 : sa_pI.lookup (13, 144) = some (0, 158, 1) := by decide +kernel
theorem sa_i11_140 : sa_pI.lookup (11, 140) = some (0, 95, 0) := by decide +kernel
theorem sa_i11_194 : sa_pI.lookup (11, 194) = some (0, 193, 0) := by decide +kernel
theorem sa_i11_197 : sa_pI.lookup (11, 197) = some (0, 143, 0) := by decide +kernel
theorem sa_i10_44 : sa_pI.lookup (10, 44) = some (7, 0, 5) := by decide +kernel
theorem sa_i11_203 : sa_pI.lookup (11, 203) = some (0, 109, 0) := by decide +kernel
theorem sa_i7_29 : sa_pI.lookup (7, 29) = some (0, 112, 0) := by decide +kernel
theorem sa_i7_44 : sa_pI.lookup (7, 44) = some (0, 102, 1) := by decide +kernel
theorem sa_i7_86 : sa_pI.lookup (7, 86) = some (0, 101, 1) := by decide +kernel
theorem sa_i7_73 : sa_pI.lookup (7, 73) = some (0, 103, 2) := by decide +kernel
theorem sa_i7_100 : sa_pI.lookup (7, 100) = some (0, 110, 0) := by decide +kernel
theorem sa_i7_103 : sa_pI.lookup (7, 103) = some (0, 95, 0) := by decide +kernel
theorem sa_i7_106 : sa_pI.lookup (7, 106) = some (0, 69, 1) := by decide +kernel
theorem sa_i7_110 : sa_pI.lookup (7, 110) = some (0, 96, 0) := by decide +kernel
theorem sa_i7_34 : sa_pI.lookup (7, 34) = some (0, 118, 2) := by decide +kernel
theorem sa_i7_97 : sa_pI.lookup (7, 97) = some (0, 104, 2) := by decide +kernel
theorem sa_i13_151 : sa_pI.lookup (13, 151) = some (0, 160, 1) := by decide +kernel
theorem sa_i11_135 : sa_pI.lookup (11, 135) = some (0, 93, 0) := by decide +kernel
theorem sa_i11_209 : sa_pI.lookup (11, 209) = some (9, 0, 2) := by decide +kernel
theorem sa_i11_214 : sa_pI.lookup (11, 214) = some (0, 94, 1) := by decide +kernel
theorem sa_i13_159 : sa_pI.lookup (13, 159) = some (0, 162, 0) := by decide +kernel
theorem sa_i11_224 : sa_pI.lookup (11, 224) = some (0, 144, 0) := by decide +kernel
theorem sa_i11_152 : sa_pI.lookup (11, 152) = some (0, 142, 0) := by decide +kernel
theorem sa_i13_194 : sa_pI.lookup (13, 194) = some (0, 173, 0) := by decide +kernel
theorem sa_i11_290 : sa_pI.lookup (11, 290) = some (0, 84, 0) := by decide +kernel
theorem sa_i6_115 : sa_pI.lookup (6, 115) = some (0, 117, 0) := by decide +kernel
theorem sa_i6_118 : sa_pI.lookup (6, 118) = some (0, 85, 1) := by decide +kernel
theorem sa_i6_71 : sa_pI.lookup (6, 71) = some (0, 112, 0) := by decide +kernel
theorem sa_i6_67 : sa_pI.lookup (6, 67) = some (0, 118, 2) := by decide +kernel
theorem sa_i6_88 : sa_pI.lookup (6, 88) = some (1, 352, 1) := by decide +kernel
theorem sa_i13_205 : sa_pI.lookup (13, 205) = some (0, 176, 0) := by decide +kernel
theorem sa_i11_309 : sa_pI.lookup (11, 309) = some (0, 147, 0) := by decide +kernel
theorem sa_i13_228 : sa_pI.lookup (13, 228) = some (0, 183, 0) := by decide +kernel
theorem sa_i11_121 : sa_pI.lookup (11, 121) = some (0, 112, 0) := by decide +kernel
theorem sa_i11_180 : sa_pI.lookup (11, 180) = some (0, 192, 1) := by decide +kernel
theorem sa_i11_177 : sa_pI.lookup (11, 177) = some (0, 102, 1) := by decide +kernel
theorem sa_i11_244 : sa_pI.lookup (11, 244) = some (0, 195, 1) := by decide +kernel
theorem sa_i11_149 : sa_pI.lookup (11, 149) = some (0, 106, 0) := by decide +kernel
theorem sa_i11_234 : sa_pI.lookup (11, 234) = some (0, 49, 3) := by decide +kernel
theorem sa_i5_67 : sa_pI.lookup (5, 67) = some (0, 100, 1) := by decide +kernel
theorem sa_i5_72 : sa_pI.lookup (5, 72) = some (0, 98, 1) := by decide +kernel
theorem sa_i5_75 : sa_pI.lookup (5, 75) = some (0, 101, 1) := by decide +kernel
theorem sa_i5_78 : sa_pI.lookup (5, 78) = some (1, 353, 2) := by decide +kernel
theorem sa_i11_369 : sa_pI.lookup (11, 369) = some (0, 50, 0) := by decide +kernel
theorem sa_i5_84 : sa_pI.lookup (5, 84) = some (0, 55, 0) := by decide +kernel
theorem sa_i5_91 : sa_pI.lookup (5, 91) = some (0, 56, 3) := by decide +kernel
theorem sa_i5_87 : sa_pI.lookup (5, 87) = some (0, 57, 1) := by decide +kernel
theorem sa_i5_101 : sa_pI.lookup (5, 101) = some (0, 112, 0) := by decide +kernel
theorem sa_i5_107 : sa_pI.lookup (5, 107) = some (0, 70, 2) := by decide +kernel
theorem sa_i5_111 : sa_pI.lookup (5, 111) = some (0, 72, 2) := by decide +kernel
theorem sa_i5_115 : sa_pI.lookup (5, 115) = some (0, 73, 3) := by decide +kernel
theorem sa_i6_79 : sa_pI.lookup (6, 79) = some (9, 0, 2) := by decide +kernel
theorem sa_i5_119 : sa_pI.lookup (5, 119) = some (0, 58, 2) := by decide +kernel
theorem sa_i5_122 : sa_pI.lookup (5, 122) = some (1, 352, 1) := by decide +kernel
theorem sa_i5_127 : sa_pI.lookup (5, 127) = some (0, 74, 5) := by decide +kernel
theorem sa_i6_84 : sa_pI.lookup (6, 84) = some (0, 43, 0) := by decide +kernel
theorem sa_i6_94 : sa_pI.lookup (6, 94) = some (0, 47, 6) := by decide +kernel
theorem sa_i11_345 : sa_pI.lookup (11, 345) = some (0, 54, 0) := by decide +kernel
theorem sa_i11_348 : sa_pI.lookup (11, 348) = some (0, 117, 0) := by decide +kernel
theorem sa_i13_244 : sa_pI.lookup (13, 244) = some (0, 188, 0) := by decide +kernel
theorem sa_i11_360 : sa_pI.lookup (11, 360) = some (0, 89, 0) := by decide +kernel
theorem sa_i13_248 : sa_pI.lookup (13, 248) = some (0, 189, 0) := by decide +kernel
theorem sa_i11_228 : sa_pI.lookup (11, 228) = some (0, 194, 1) := by decide +kernel
theorem sa_i11_366 : sa_pI.lookup (11, 366) = some (0, 51, 0) := by decide +kernel
theorem sa_i13_252 : sa_pI.lookup (13, 252) = some (0, 190, 0) := by decide +kernel
theorem sa_i11_363 : sa_pI.lookup (11, 363) = some (0, 141, 1) := by decide +kernel
theorem sa_i10_40 : sa_pI.lookup (10, 40) = some (0, 92, 1) := by decide +kernel
theorem sa_i7_38 : sa_pI.lookup (7, 38) = some (7, 0, 5) := by decide +kernel
theorem sa_i13_256 : sa_pI.lookup (13, 256) = some (0, 191, 0) := by decide +kernel
theorem sa_i13_117 : sa_pI.lookup (13, 117) = some (5, 323, 3) := by decide +kernel
theorem sa_i13_7 : sa_pI.lookup (13, 7) = some (0, 152, 1) := by decide +kernel
theorem sa_i11_104 : sa_pI.lookup (11, 104) = some (0, 15, 1) := by decide +kernel
theorem sa_i2_38 : sa_pI.lookup (2, 38) = some (0, 64, 0) := by decide +kernel
theorem sa_i6_56 : sa_pI.lookup (6, 56) = some (0, 119, 0) := by decide +kernel
theorem sa_i6_59 : sa_pI.lookup (6, 59) = some (0, 44, 0) := by decide +kernel
theorem sa_i2_43 : sa_pI.lookup (2, 43) = some (0, 124, 1) := by decide +kernel
theorem sa_i9_32 : sa_pI.lookup (9, 32) = some (9, 0, 2) := by decide +kernel
theorem sa_i9_38 : sa_pI.lookup (9, 38) = some (8, 0, 2) := by decide +kernel
theorem sa_i9_41 : sa_pI.lookup (9, 41) = some (0, 131, 0) := by decide +kernel
theorem sa_i9_44 : sa_pI.lookup (9, 44) = some (1, 135, 1) := by decide +kernel
theorem sa_i9_48 : sa_pI.lookup (9, 48) = some (1, 136, 1) := by decide +kernel
theorem sa_i9_51 : sa_pI.lookup (9, 51) = some (0, 132, 0) := by decide +kernel
theorem sa_i9_54 : sa_pI.lookup (9, 54) = some (1, 137, 1) := by decide +kernel
theorem sa_i9_57 : sa_pI.lookup (9, 57) = some (0, 133, 0) := by decide +kernel
theorem sa_i9_65 : sa_pI.lookup (9, 65) = some (0, 134, 1) := by decide +kernel
theorem sa_i9_101 : sa_pI.lookup (9, 101) = some (0, 355, 0) := by decide +kernel
theorem sa_i16_335 : sa_pI.lookup (16, 335) = some (0, 357, 0) := by decide +kernel
theorem sa_i9_106 : sa_pI.lookup (9, 106) = some (0, 356, 1) := by decide +kernel
theorem sa_i16_492 : sa_pI.lookup (16, 492) = some (0, 358, 0) := by decide +kernel
theorem sa_i16_495 : sa_pI.lookup (16, 495) = some (1, 360, 2) := by decide +kernel
theorem sa_i17_9 : sa_pI.lookup (17, 9) = some (1, 359, 2) := by decide +kernel
theorem sa_i16_1059 : sa_pI.lookup (16, 1059) = some (1, 361, 3) := by decide +kernel
theorem sa_i9_60 : sa_pI.lookup (9, 60) = some (1, 138, 1) := by decide +kernel
theorem sa_i2_47 : sa_pI.lookup (2, 47) = some (0, 125, 0) := by decide +kernel
theorem sa_i2_54 : sa_pI.lookup (2, 54) = some (0, 18, 1) := by decide +kernel
theorem sa_i2_85 : sa_pI.lookup (2, 85) = some (0, 115, 0) := by decide +kernel
theorem sa_i2_76 : sa_pI.lookup (2, 76) = some (0, 17, 1) := by decide +kernel
theorem sa_i2_82 : sa_pI.lookup (2, 82) = some (0, 126, 0) := by decide +kernel
theorem sa_i2_91 : sa_pI.lookup (2, 91) = some (0, 131, 0) := by decide +kernel
theorem sa_i2_94 : sa_pI.lookup (2, 94) = some (0, 113, 0) := by decide +kernel
theorem sa_i2_97 : sa_pI.lookup (2, 97) = some (0, 114, 1) := by decide +kernel
theorem sa_i2_101 : sa_pI.lookup (2, 101) = some (0, 22, 2) := by decide +kernel
theorem sa_i2_130 : sa_pI.lookup (2, 130) = some (0, 127, 0) := by decide +kernel
theorem sa_i2_133 : sa_pI.lookup (2, 133) = some (0, 130, 0) := by decide +kernel
theorem sa_i2_105 : sa_pI.lookup (2, 105) = some (0, 120, 2) := by decide +kernel
theorem sa_i2_109 : sa_pI.lookup (2, 109) = some (0, 121, 0) := by decide +kernel
theorem sa_i2_67 : sa_pI.lookup (2, 67) = some (0, 19, 0) := by decide +kernel
theorem sa_i2_112 : sa_pI.lookup (2, 112) = some (0, 67, 1) := by decide +kernel
theorem sa_i2_70 : sa_pI.lookup (2, 70) = some (0, 20, 0) := by decide +kernel
theorem sa_i2_115 : sa_pI.lookup (2, 115) = some (0, 68, 1) := by decide +kernel
theorem sa_i2_73 : sa_pI.lookup (2, 73) = some (0, 21, 0) := by decide +kernel
theorem sa_i2_122 : sa_pI.lookup (2, 122) = some (0, 43, 0) := by decide +kernel
theorem sa_i2_127 : sa_pI.lookup (2, 127) = some (0, 24, 1) := by decide +kernel
theorem sa_i2_136 : sa_pI.lookup (2, 136) = some (0, 25, 0) := by decide +kernel
theorem sa_i2_145 : sa_pI.lookup (2, 145) = some (0, 128, 0) := by decide +kernel
theorem sa_i2_139 : sa_pI.lookup (2, 139) = some (0, 26, 1) := by decide +kernel
theorem sa_i2_148 : sa_pI.lookup (2, 148) = some (0, 27, 1) := by decide +kernel
theorem sa_i2_151 : sa_pI.lookup (2, 151) = some (0, 28, 1) := by decide +kernel
theorem sa_i2_154 : sa_pI.lookup (2, 154) = some (0, 29, 1) := by decide +kernel
theorem sa_i2_157 : sa_pI.lookup (2, 157) = some (0, 30, 1) := by decide +kernel
theorem sa_i2_160 : sa_pI.lookup (2, 160) = some (0, 31, 1) := by decide +kernel
theorem sa_i2_142 : sa_pI.lookup (2, 142) = some (0, 45, 1) := by decide +kernel
theorem sa_i2_166 : sa_pI.lookup (2, 166) = some (0, 129, 0) := by decide +kernel
theorem sa_i2_79 : sa_pI.lookup (2, 79) = some (0, 23, 1) := by decide +kernel
theorem sa_i11_108 : sa_pI.lookup (11, 108) = some (0, 16, 0) := by decide +kernel
theorem sa_i11_111 : sa_pI.lookup (11, 111) = some (0, 65, 1) := by decide +kernel
theorem sa_i6_60 : sa_pI.lookup (6, 60) = some (0, 122, 1) := by decide +kernel
theorem sa_i8_23 : sa_pI.lookup (8, 23) = some (7, 0, 5) := by decide +kernel
theorem sa_i6_64 : sa_pI.lookup (6, 64) = some (0, 46, 1) := by decide +kernel
theorem sa_i4_25 : sa_pI.lookup (4, 25) = some (7, 0, 5) := by decide +kernel
theorem sa_i11_114 : sa_pI.lookup (11, 114) = some (0, 140, 0) := by decide +kernel
theorem sa_i10_37 : sa_pI.lookup (10, 37) = some (0, 91, 0) := by decide +kernel
theorem sa_i7_19 : sa_pI.lookup (7, 19) = some (0, 66, 0) := by decide +kernel
theorem sa_i13_131 : sa_pI.lookup (13, 131) = some (5, 324, 3) := by decide +kernel
theorem sa_i13_15 : sa_pI.lookup (13, 15) = some (0, 154, 1) := by decide +kernel
theorem sa_i11_143 : sa_pI.lookup (11, 143) = some (0, 105, 1) := by decide +kernel
theorem sa_i11_146 : sa_pI.lookup (11, 146) = some (0, 96, 0) := by decide +kernel
theorem sa_i11_155 : sa_pI.lookup (11, 155) = some (0, 145, 0) := by decide +kernel
theorem sa_i13_134 : sa_pI.lookup (13, 134) = some (5, 325, 4) := by decide +kernel
theorem sa_i13_20 : sa_pI.lookup (13, 20) = some (0, 155, 2) := by decide +kernel
theorem sa_i11_161 : sa_pI.lookup (11, 161) = some (0, 198, 1) := by decide +kernel
theorem sa_i11_372 : sa_pI.lookup (11, 372) = some (0, 116, 1) := by decide +kernel
theorem sa_i11_164 : sa_pI.lookup (11, 164) = some (0, 118, 2) := by decide +kernel
theorem sa_i11_168 : sa_pI.lookup (11, 168) = some (0, 98, 1) := by decide +kernel
theorem sa_i11_171 : sa_pI.lookup (11, 171) = some (0, 100, 1) := by decide +kernel
theorem sa_i11_174 : sa_pI.lookup (11, 174) = some (0, 101, 1) := by decide +kernel
theorem sa_i11_184 : sa_pI.lookup (11, 184) = some (0, 71, 1) := by decide +kernel
theorem sa_i6_75 : sa_pI.lookup (6, 75) = some (0, 70, 2) := by decide +kernel
theorem sa_i13_138 : sa_pI.lookup (13, 138) = some (5, 326, 4) := by decide +kernel
theorem sa_i13_24 : sa_pI.lookup (13, 24) = some (0, 156, 2) := by decide +kernel
theorem sa_i11_187 : sa_pI.lookup (11, 187) = some (0, 199, 1) := by decide +kernel
theorem sa_i13_141 : sa_pI.lookup (13, 141) = some (5, 327, 4) := by decide +kernel
theorem sa_i13_27 : sa_pI.lookup (13, 27) = some (0, 157, 2) := by decide +kernel
theorem sa_i11_190 : sa_pI.lookup (11, 190) = some (0, 107, 2) := by decide +kernel
theorem sa_i7_48 : sa_pI.lookup (7, 48) = some (0, 93, 0) := by decide +kernel
theorem sa_i11_200 : sa_pI.lookup (11, 200) = some (0, 108, 2) := by decide +kernel
theorem sa_i7_54 : sa_pI.lookup (7, 54) = some (0, 94, 1) := by decide +kernel
theorem sa_i7_58 : sa_pI.lookup (7, 58) = some (0, 98, 1) := by decide +kernel
theorem sa_i7_61 : sa_pI.lookup (7, 61) = some (0, 70, 2) := by decide +kernel
theorem sa_i7_65 : sa_pI.lookup (7, 65) = some (0, 100, 1) := by decide +kernel
theorem sa_i7_68 : sa_pI.lookup (7, 68) = some (9, 0, 2) := by decide +kernel
theorem sa_i7_77 : sa_pI.lookup (7, 77) = some (0, 106, 0) := by decide +kernel
theorem sa_i7_80 : sa_pI.lookup (7, 80) = some (0, 72, 2) := by decide +kernel
theorem sa_i7_83 : sa_pI.lookup (7, 83) = some (0, 99, 2) := by decide +kernel
theorem sa_i7_89 : sa_pI.lookup (7, 89) = some (0, 73, 3) := by decide +kernel
theorem sa_i7_93 : sa_pI.lookup (7, 93) = some (0, 74, 5) := by decide +kernel
theorem sa_i13_148 : sa_pI.lookup (13, 148) = some (5, 328, 3) := by decide +kernel
theorem sa_i13_30 : sa_pI.lookup (13, 30) = some (0, 159, 1) := by decide +kernel
theorem sa_i11_206 : sa_pI.lookup (11, 206) = some (0, 97, 1) := by decide +kernel
theorem sa_i13_155 : sa_pI.lookup (13, 155) = some (5, 329, 5) := by decide +kernel
theorem sa_i13_34 : sa_pI.lookup (13, 34) = some (0, 161, 3) := by decide +kernel
theorem sa_i11_217 : sa_pI.lookup (11, 217) = some (0, 202, 1) := by decide +kernel
theorem sa_i11_220 : sa_pI.lookup (11, 220) = some (0, 99, 2) := by decide +kernel
theorem sa_i13_163 : sa_pI.lookup (13, 163) = some (5, 330, 4) := by decide +kernel
theorem sa_i13_38 : sa_pI.lookup (13, 38) = some (0, 163, 2) := by decide +kernel
theorem sa_i11_231 : sa_pI.lookup (11, 231) = some (0, 52, 2) := by decide +kernel
theorem sa_i13_166 : sa_pI.lookup (13, 166) = some (5, 331, 3) := by decide +kernel
theorem sa_i13_41 : sa_pI.lookup (13, 41) = some (0, 164, 1) := by decide +kernel
theorem sa_i11_238 : sa_pI.lookup (11, 238) = some (0, 59, 0) := by decide +kernel
theorem sa_i5_131 : sa_pI.lookup (5, 131) = some (0, 62, 3) := by decide +kernel
theorem sa_i5_134 : sa_pI.lookup (5, 134) = some (0, 60, 1) := by decide +kernel
theorem sa_i5_139 : sa_pI.lookup (5, 139) = some (0, 61, 3) := by decide +kernel
theorem sa_i5_143 : sa_pI.lookup (5, 143) = some (0, 118, 2) := by decide +kernel
theorem sa_i13_169 : sa_pI.lookup (13, 169) = some (5, 332, 5) := by decide +kernel
theorem sa_i13_44 : sa_pI.lookup (13, 44) = some (0, 165, 3) := by decide +kernel
theorem sa_i11_241 : sa_pI.lookup (11, 241) = some (1, 196, 1) := by decide +kernel
theorem sa_i11_247 : sa_pI.lookup (11, 247) = some (0, 53, 0) := by decide +kernel
theorem sa_i11_251 : sa_pI.lookup (11, 251) = some (1, 197, 2) := by decide +kernel
theorem sa_i13_173 : sa_pI.lookup (13, 173) = some (5, 333, 3) := by decide +kernel
theorem sa_i13_48 : sa_pI.lookup (13, 48) = some (0, 166, 1) := by decide +kernel
theorem sa_i11_255 : sa_pI.lookup (11, 255) = some (1, 352, 1) := by decide +kernel
theorem sa_i11_260 : sa_pI.lookup (11, 260) = some (0, 10, 1) := by decide +kernel
theorem sa_i1_33 : sa_pI.lookup (1, 33) = some (1, 354, 2) := by decide +kernel
theorem sa_i1_39 : sa_pI.lookup (1, 39) = some (0, 106, 0) := by decide +kernel
theorem sa_i1_45 : sa_pI.lookup (1, 45) = some (0, 12, 1) := by decide +kernel
theorem sa_i1_59 : sa_pI.lookup (1, 59) = some (0, 112, 0) := by decide +kernel
theorem sa_i1_64 : sa_pI.lookup (1, 64) = some (0, 118, 2) := by decide +kernel
theorem sa_i1_49 : sa_pI.lookup (1, 49) = some (0, 13, 3) := by decide +kernel
theorem sa_i1_68 : sa_pI.lookup (1, 68) = some (0, 49, 3) := by decide +kernel
theorem sa_i1_74 : sa_pI.lookup (1, 74) = some (0, 51, 0) := by decide +kernel
theorem sa_i11_263 : sa_pI.lookup (11, 263) = some (0, 11, 1) := by decide +kernel
theorem sa_i13_176 : sa_pI.lookup (13, 176) = some (5, 334, 3) := by decide +kernel
theorem sa_i13_51 : sa_pI.lookup (13, 51) = some (0, 167, 1) := by decide +kernel
theorem sa_i11_266 : sa_pI.lookup (11, 266) = some (0, 205, 2) := by decide +kernel
theorem sa_i11_269 : sa_pI.lookup (11, 269) = some (0, 1, 1) := by decide +kernel
theorem sa_i0_31 : sa_pI.lookup (0, 31) = some (0, 92, 1) := by decide +kernel
theorem sa_i0_35 : sa_pI.lookup (0, 35) = some (0, 5, 1) := by decide +kernel
theorem sa_i0_46 : sa_pI.lookup (0, 46) = some (0, 109, 0) := by decide +kernel
theorem sa_i0_39 : sa_pI.lookup (0, 39) = some (0, 105, 1) := by decide +kernel
theorem sa_i13_179 : sa_pI.lookup (13, 179) = some (5, 335, 4) := by decide +kernel
theorem sa_i13_54 : sa_pI.lookup (13, 54) = some (0, 168, 2) := by decide +kernel
theorem sa_i11_272 : sa_pI.lookup (11, 272) = some (8, 0, 2) := by decide +kernel
theorem sa_i13_182 : sa_pI.lookup (13, 182) = some (5, 336, 3) := by decide +kernel
theorem sa_i13_57 : sa_pI.lookup (13, 57) = some (0, 169, 1) := by decide +kernel
theorem sa_i11_275 : sa_pI.lookup (11, 275) = some (0, 2, 1) := by decide +kernel
theorem sa_i0_43 : sa_pI.lookup (0, 43) = some (0, 102, 1) := by decide +kernel
theorem sa_i13_185 : sa_pI.lookup (13, 185) = some (5, 337, 3) := by decide +kernel
theorem sa_i13_60 : sa_pI.lookup (13, 60) = some (0, 170, 1) := by decide +kernel
theorem sa_i11_278 : sa_pI.lookup (11, 278) = some (0, 3, 1) := by decide +kernel
theorem sa_i0_49 : sa_pI.lookup (0, 49) = some (0, 4, 2) := by decide +kernel
theorem sa_i0_65 : sa_pI.lookup (0, 65) = some (0, 97, 1) := by decide +kernel
theorem sa_i0_68 : sa_pI.lookup (0, 68) = some (0, 75, 1) := by decide +kernel
theorem sa_i0_59 : sa_pI.lookup (0, 59) = some (0, 112, 0) := by decide +kernel
theorem sa_i13_188 : sa_pI.lookup (13, 188) = some (5, 338, 4) := by decide +kernel
theorem sa_i13_63 : sa_pI.lookup (13, 63) = some (0, 171, 2) := by decide +kernel
theorem sa_i11_281 : sa_pI.lookup (11, 281) = some (0, 206, 1) := by decide +kernel
theorem sa_i11_284 : sa_pI.lookup (11, 284) = some (0, 77, 2) := by decide +kernel
theorem sa_i6_101 : sa_pI.lookup (6, 101) = some (0, 76, 1) := by decide +kernel
theorem sa_i6_98 : sa_pI.lookup (6, 98) = some (8, 0, 2) := by decide +kernel
theorem sa_i13_191 : sa_pI.lookup (13, 191) = some (5, 339, 4) := by decide +kernel
theorem sa_i13_66 : sa_pI.lookup (13, 66) = some (0, 172, 2) := by decide +kernel
theorem sa_i11_287 : sa_pI.lookup (11, 287) = some (0, 78, 2) := by decide +kernel
theorem sa_i6_104 : sa_pI.lookup (6, 104) = some (0, 77, 2) := by decide +kernel
theorem sa_i13_198 : sa_pI.lookup (13, 198) = some (5, 340, 4) := by decide +kernel
theorem sa_i13_69 : sa_pI.lookup (13, 69) = some (0, 174, 2) := by decide +kernel
theorem sa_i11_293 : sa_pI.lookup (11, 293) = some (0, 201, 1) := by decide +kernel
theorem sa_i11_296 : sa_pI.lookup (11, 296) = some (0, 203, 2) := by decide +kernel
theorem sa_i11_299 : sa_pI.lookup (11, 299) = some (0, 87, 1) := by decide +kernel
theorem sa_i6_121 : sa_pI.lookup (6, 121) = some (0, 86, 2) := by decide +kernel
theorem sa_i11_302 : sa_pI.lookup (11, 302) = some (0, 86, 2) := by decide +kernel
theorem sa_i13_201 : sa_pI.lookup (13, 201) = some (5, 341, 6) := by decide +kernel
theorem sa_i13_72 : sa_pI.lookup (13, 72) = some (0, 175, 4) := by decide +kernel
theorem sa_i11_305 : sa_pI.lookup (11, 305) = some (0, 146, 4) := by decide +kernel
theorem sa_i13_209 : sa_pI.lookup (13, 209) = some (5, 342, 5) := by decide +kernel
theorem sa_i13_76 : sa_pI.lookup (13, 76) = some (0, 177, 3) := by decide +kernel
theorem sa_i11_312 : sa_pI.lookup (11, 312) = some (0, 204, 1) := by decide +kernel
theorem sa_i11_315 : sa_pI.lookup (11, 315) = some (0, 33, 2) := by decide +kernel
theorem sa_i3_34 : sa_pI.lookup (3, 34) = some (9, 0, 2) := by decide +kernel
theorem sa_i3_40 : sa_pI.lookup (3, 40) = some (8, 0, 2) := by decide +kernel
theorem sa_i3_49 : sa_pI.lookup (3, 49) = some (0, 98, 1) := by decide +kernel
theorem sa_i3_55 : sa_pI.lookup (3, 55) = some (0, 148, 3) := by decide +kernel
theorem sa_i3_59 : sa_pI.lookup (3, 59) = some (0, 39, 1) := by decide +kernel
theorem sa_i3_96 : sa_pI.lookup (3, 96) = some (0, 112, 0) := by decide +kernel
theorem sa_i3_77 : sa_pI.lookup (3, 77) = some (0, 38, 2) := by decide +kernel
theorem sa_i3_83 : sa_pI.lookup (3, 83) = some (0, 70, 2) := by decide +kernel
theorem sa_i3_89 : sa_pI.lookup (3, 89) = some (0, 72, 2) := by decide +kernel
theorem sa_i3_63 : sa_pI.lookup (3, 63) = some (4, 197, 2) := by decide +kernel
theorem sa_i3_67 : sa_pI.lookup (3, 67) = some (0, 40, 2) := by decide +kernel
theorem sa_i11_317 : sa_pI.lookup (11, 317) = some (0, 34, 0) := by decide +kernel
theorem sa_i11_320 : sa_pI.lookup (11, 320) = some (0, 35, 0) := by decide +kernel
theorem sa_i3_70 : sa_pI.lookup (3, 70) = some (0, 34, 0) := by decide +kernel
theorem sa_i3_74 : sa_pI.lookup (3, 74) = some (0, 41, 2) := by decide +kernel
theorem sa_i13_212 : sa_pI.lookup (13, 212) = some (5, 343, 5) := by decide +kernel
theorem sa_i13_80 : sa_pI.lookup (13, 80) = some (0, 178, 3) := by decide +kernel
theorem sa_i11_323 : sa_pI.lookup (11, 323) = some (0, 36, 0) := by decide +kernel
theorem sa_i3_80 : sa_pI.lookup (3, 80) = some (0, 37, 1) := by decide +kernel
theorem sa_i11_326 : sa_pI.lookup (11, 326) = some (0, 37, 1) := by decide +kernel
theorem sa_i13_215 : sa_pI.lookup (13, 215) = some (5, 344, 6) := by decide +kernel
theorem sa_i13_83 : sa_pI.lookup (13, 83) = some (0, 179, 4) := by decide +kernel
theorem sa_i11_329 : sa_pI.lookup (11, 329) = some (0, 200, 1) := by decide +kernel
theorem sa_i11_332 : sa_pI.lookup (11, 332) = some (0, 80, 3) := by decide +kernel
theorem sa_i6_107 : sa_pI.lookup (6, 107) = some (0, 82, 5) := by decide +kernel
theorem sa_i6_111 : sa_pI.lookup (6, 111) = some (0, 83, 5) := by decide +kernel
theorem sa_i11_336 : sa_pI.lookup (11, 336) = some (0, 81, 3) := by decide +kernel
theorem sa_i13_219 : sa_pI.lookup (13, 219) = some (5, 345, 5) := by decide +kernel
theorem sa_i13_87 : sa_pI.lookup (13, 87) = some (0, 180, 3) := by decide +kernel
theorem sa_i11_339 : sa_pI.lookup (11, 339) = some (0, 6, 3) := by decide +kernel
theorem sa_i0_71 : sa_pI.lookup (0, 71) = some (0, 7, 0) := by decide +kernel
theorem sa_i0_90 : sa_pI.lookup (0, 90) = some (0, 8, 1) := by decide +kernel
theorem sa_i0_93 : sa_pI.lookup (0, 93) = some (0, 107, 2) := by decide +kernel
theorem sa_i0_97 : sa_pI.lookup (0, 97) = some (0, 108, 2) := by decide +kernel
theorem sa_i0_74 : sa_pI.lookup (0, 74) = some (1, 352, 1) := by decide +kernel
theorem sa_i0_79 : sa_pI.lookup (0, 79) = some (0, 93, 0) := by decide +kernel
theorem sa_i0_82 : sa_pI.lookup (0, 82) = some (8, 0, 2) := by decide +kernel
theorem sa_i13_222 : sa_pI.lookup (13, 222) = some (5, 346, 3) := by decide +kernel
theorem sa_i13_90 : sa_pI.lookup (13, 90) = some (0, 181, 1) := by decide +kernel
theorem sa_i11_342 : sa_pI.lookup (11, 342) = some (0, 70, 2) := by decide +kernel
theorem sa_i13_225 : sa_pI.lookup (13, 225) = some (5, 347, 4) := by decide +kernel
theorem sa_i13_93 : sa_pI.lookup (13, 93) = some (0, 182, 2) := by decide +kernel
theorem sa_i13_232 : sa_pI.lookup (13, 232) = some (5, 348, 3) := by decide +kernel
theorem sa_i13_96 : sa_pI.lookup (13, 96) = some (0, 184, 1) := by decide +kernel
theorem sa_i13_235 : sa_pI.lookup (13, 235) = some (5, 349, 3) := by decide +kernel
theorem sa_i13_99 : sa_pI.lookup (13, 99) = some (0, 185, 1) := by decide +kernel
theorem sa_i11_351 : sa_pI.lookup (11, 351) = some (0, 75, 1) := by decide +kernel
theorem sa_i13_238 : sa_pI.lookup (13, 238) = some (5, 350, 4) := by decide +kernel
theorem sa_i13_102 : sa_pI.lookup (13, 102) = some (0, 186, 2) := by decide +kernel
theorem sa_i11_354 : sa_pI.lookup (11, 354) = some (0, 79, 1) := by decide +kernel
theorem sa_i13_241 : sa_pI.lookup (13, 241) = some (5, 351, 3) := by decide +kernel
theorem sa_i13_105 : sa_pI.lookup (13, 105) = some (0, 187, 1) := by decide +kernel
theorem sa_i11_357 : sa_pI.lookup (11, 357) = some (0, 88, 1) := by decide +kernel
theorem sa_i13_111 : sa_pI.lookup (13, 111) = some (2, 207, 0) := by decide +kernel
theorem sa_i12_1 : sa_pI.lookup (12, 1) = some (6, 0, 0) := by decide +kernel
theorem sa_i13_123 : sa_pI.lookup (13, 123) = some (0, 208, 0) := by decide +kernel
theorem sa_i13_116 : sa_pI.lookup (13, 116) = some (0, 214, 5) := by decide +kernel
theorem sa_i12_178 : sa_pI.lookup (12, 178) = some (0, 215, 1) := by decide +kernel
theorem sa_i13_122 : sa_pI.lookup (13, 122) = some (0, 244, 1) := by decide +kernel
theorem sa_i12_331 : sa_pI.lookup (12, 331) = some (0, 209, 2) := by decide +kernel
theorem sa_i12_235 : sa_pI.lookup (12, 235) = some (0, 219, 0) := by decide +kernel
theorem sa_i12_188 : sa_pI.lookup (12, 188) = some (0, 216, 1) := by decide +kernel
theorem sa_i12_208 : sa_pI.lookup (12, 208) = some (1, 217, 1) := by decide +kernel
theorem sa_i12_212 : sa_pI.lookup (12, 212) = some (1, 218, 1) := by decide +kernel
theorem sa_i12_231 : sa_pI.lookup (12, 231) = some (0, 224, 0) := by decide +kernel
theorem sa_i12_335 : sa_pI.lookup (12, 335) = some (0, 243, 0) := by decide +kernel
theorem sa_i12_255 : sa_pI.lookup (12, 255) = some (0, 222, 0) := by decide +kernel
theorem sa_i12_224 : sa_pI.lookup (12, 224) = some (1, 221, 1) := by decide +kernel
theorem sa_i12_220 : sa_pI.lookup (12, 220) = some (1, 220, 8) := by decide +kernel
theorem sa_i12_300 : sa_pI.lookup (12, 300) = some (0, 239, 2) := by decide +kernel
theorem sa_i12_238 : sa_pI.lookup (12, 238) = some (0, 223, 1) := by decide +kernel
theorem sa_i12_304 : sa_pI.lookup (12, 304) = some (0, 240, 0) := by decide +kernel
theorem sa_i12_290 : sa_pI.lookup (12, 290) = some (0, 227, 2) := by decide +kernel
theorem sa_i12_307 : sa_pI.lookup (12, 307) = some (0, 241, 0) := by decide +kernel
theorem sa_i12_310 : sa_pI.lookup (12, 310) = some (0, 242, 0) := by decide +kernel
theorem sa_i12_325 : sa_pI.lookup (12, 325) = some (0, 238, 0) := by decide +kernel
theorem sa_i12_268 : sa_pI.lookup (12, 268) = some (0, 234, 0) := by decide +kernel
theorem sa_i12_262 : sa_pI.lookup (12, 262) = some (0, 225, 1) := by decide +kernel
theorem sa_i12_277 : sa_pI.lookup (12, 277) = some (0, 235, 1) := by decide +kernel
theorem sa_i12_265 : sa_pI.lookup (12, 265) = some (0, 232, 1) := by decide +kernel
theorem sa_i12_271 : sa_pI.lookup (12, 271) = some (0, 233, 0) := by decide +kernel
theorem sa_i12_252 : sa_pI.lookup (12, 252) = some (0, 228, 1) := by decide +kernel
theorem sa_i12_274 : sa_pI.lookup (12, 274) = some (0, 231, 1) := by decide +kernel
theorem sa_i12_247 : sa_pI.lookup (12, 247) = some (1, 229, 1) := by decide +kernel
theorem sa_i12_250 : sa_pI.lookup (12, 250) = some (1, 230, 1) := by decide +kernel
theorem sa_i12_281 : sa_pI.lookup (12, 281) = some (0, 236, 0) := by decide +kernel
theorem sa_i12_284 : sa_pI.lookup (12, 284) = some (0, 237, 0) := by decide +kernel
theorem sa_i12_328 : sa_pI.lookup (12, 328) = some (0, 226, 1) := by decide +kernel
theorem sa_i12_353 : sa_pI.lookup (12, 353) = some (0, 212, 2) := by decide +kernel
theorem sa_i13_130 : sa_pI.lookup (13, 130) = some (0, 245, 0) := by decide +kernel
theorem sa_i13_162 : sa_pI.lookup (13, 162) = some (0, 248, 0) := by decide +kernel
theorem sa_i13_133 : sa_pI.lookup (13, 133) = some (0, 262, 1) := by decide +kernel
theorem sa_i12_403 : sa_pI.lookup (12, 403) = some (1, 210, 3) := by decide +kernel
theorem sa_i12_380 : sa_pI.lookup (12, 380) = some (0, 252, 2) := by decide +kernel
theorem sa_i12_383 : sa_pI.lookup (12, 383) = some (0, 253, 1) := by decide +kernel
theorem sa_i13_137 : sa_pI.lookup (13, 137) = some (0, 267, 2) := by decide +kernel
theorem sa_i12_407 : sa_pI.lookup (12, 407) = some (0, 263, 1) := by decide +kernel
theorem sa_i12_410 : sa_pI.lookup (12, 410) = some (0, 265, 2) := by decide +kernel
theorem sa_i12_413 : sa_pI.lookup (12, 413) = some (0, 266, 1) := by decide +kernel
theorem sa_i12_386 : sa_pI.lookup (12, 386) = some (0, 255, 2) := by decide +kernel
theorem sa_i13_140 : sa_pI.lookup (13, 140) = some (0, 268, 2) := by decide +kernel
theorem sa_i12_416 : sa_pI.lookup (12, 416) = some (0, 264, 1) := by decide +kernel
theorem sa_i13_143 : sa_pI.lookup (13, 143) = some (0, 269, 2) := by decide +kernel
theorem sa_i12_419 : sa_pI.lookup (12, 419) = some (0, 259, 3) := by decide +kernel
theorem sa_i12_422 : sa_pI.lookup (12, 422) = some (0, 247, 1) := by decide +kernel
theorem sa_i12_425 : sa_pI.lookup (12, 425) = some (0, 246, 0) := by decide +kernel
theorem sa_i12_428 : sa_pI.lookup (12, 428) = some (0, 258, 3) := by decide +kernel
theorem sa_i12_377 : sa_pI.lookup (12, 377) = some (1, 211, 2) := by decide +kernel
theorem sa_i12_390 : sa_pI.lookup (12, 390) = some (0, 256, 2) := by decide +kernel
theorem sa_i12_393 : sa_pI.lookup (12, 393) = some (0, 257, 3) := by decide +kernel
theorem sa_i12_396 : sa_pI.lookup (12, 396) = some (0, 254, 5) := by decide +kernel
theorem sa_i12_371 : sa_pI.lookup (12, 371) = some (1, 213, 1) := by decide +kernel
theorem sa_i12_374 : sa_pI.lookup (12, 374) = some (0, 251, 1) := by decide +kernel
theorem sa_i12_367 : sa_pI.lookup (12, 367) = some (1, 250, 3) := by decide +kernel
theorem sa_i13_147 : sa_pI.lookup (13, 147) = some (0, 270, 1) := by decide +kernel
theorem sa_i12_431 : sa_pI.lookup (12, 431) = some (0, 261, 1) := by decide +kernel
theorem sa_i12_400 : sa_pI.lookup (12, 400) = some (0, 260, 1) := by decide +kernel
theorem sa_i13_150 : sa_pI.lookup (13, 150) = some (0, 271, 1) := by decide +kernel
theorem sa_i13_154 : sa_pI.lookup (13, 154) = some (0, 272, 1) := by decide +kernel
theorem sa_i13_158 : sa_pI.lookup (13, 158) = some (0, 273, 3) := by decide +kernel
theorem sa_i13_165 : sa_pI.lookup (13, 165) = some (0, 279, 2) := by decide +kernel
theorem sa_i12_451 : sa_pI.lookup (12, 451) = some (0, 278, 2) := by decide +kernel
theorem sa_i12_444 : sa_pI.lookup (12, 444) = some (0, 276, 1) := by decide +kernel
theorem sa_i12_437 : sa_pI.lookup (12, 437) = some (1, 274, 2) := by decide +kernel
theorem sa_i12_440 : sa_pI.lookup (12, 440) = some (0, 275, 3) := by decide +kernel
theorem sa_i12_447 : sa_pI.lookup (12, 447) = some (0, 277, 2) := by decide +kernel
theorem sa_i13_168 : sa_pI.lookup (13, 168) = some (0, 281, 1) := by decide +kernel
theorem sa_i12_460 : sa_pI.lookup (12, 460) = some (0, 280, 4) := by decide +kernel
theorem sa_i13_172 : sa_pI.lookup (13, 172) = some (0, 282, 3) := by decide +kernel
theorem sa_i13_251 : sa_pI.lookup (13, 251) = some (0, 283, 0) := by decide +kernel
theorem sa_i13_175 : sa_pI.lookup (13, 175) = some (0, 285, 1) := by decide +kernel
theorem sa_i12_464 : sa_pI.lookup (12, 464) = some (0, 284, 1) := by decide +kernel
theorem sa_i13_178 : sa_pI.lookup (13, 178) = some (0, 287, 1) := by decide +kernel
theorem sa_i12_467 : sa_pI.lookup (12, 467) = some (0, 249, 0) := by decide +kernel
theorem sa_i12_470 : sa_pI.lookup (12, 470) = some (0, 286, 1) := by decide +kernel
theorem sa_i13_181 : sa_pI.lookup (13, 181) = some (0, 288, 2) := by decide +kernel
theorem sa_i13_184 : sa_pI.lookup (13, 184) = some (0, 289, 1) := by decide +kernel
theorem sa_i13_187 : sa_pI.lookup (13, 187) = some (0, 291, 1) := by decide +kernel
theorem sa_i12_473 : sa_pI.lookup (12, 473) = some (0, 290, 2) := by decide +kernel
theorem sa_i13_190 : sa_pI.lookup (13, 190) = some (0, 294, 2) := by decide +kernel
theorem sa_i12_476 : sa_pI.lookup (12, 476) = some (0, 292, 1) := by decide +kernel
theorem sa_i12_479 : sa_pI.lookup (12, 479) = some (0, 293, 2) := by decide +kernel
theorem sa_i13_193 : sa_pI.lookup (13, 193) = some (0, 295, 2) := by decide +kernel
theorem sa_i13_197 : sa_pI.lookup (13, 197) = some (0, 297, 0) := by decide +kernel
theorem sa_i12_482 : sa_pI.lookup (12, 482) = some (0, 296, 1) := by decide +kernel
theorem sa_i13_200 : sa_pI.lookup (13, 200) = some (0, 298, 2) := by decide +kernel
theorem sa_i13_204 : sa_pI.lookup (13, 204) = some (0, 299, 4) := by decide +kernel
theorem sa_i13_208 : sa_pI.lookup (13, 208) = some (0, 300, 0) := by decide +kernel
theorem sa_i13_211 : sa_pI.lookup (13, 211) = some (0, 305, 3) := by decide +kernel
theorem sa_i12_485 : sa_pI.lookup (12, 485) = some (0, 304, 1) := by decide +kernel
theorem sa_i12_488 : sa_pI.lookup (12, 488) = some (1, 301, 2) := by decide +kernel
theorem sa_i12_491 : sa_pI.lookup (12, 491) = some (0, 302, 3) := by decide +kernel
theorem sa_i12_494 : sa_pI.lookup (12, 494) = some (0, 303, 1) := by decide +kernel
theorem sa_i13_214 : sa_pI.lookup (13, 214) = some (0, 306, 3) := by decide +kernel
theorem sa_i13_218 : sa_pI.lookup (13, 218) = some (0, 308, 4) := by decide +kernel
theorem sa_i12_497 : sa_pI.lookup (12, 497) = some (0, 307, 5) := by decide +kernel
theorem sa_i13_221 : sa_pI.lookup (13, 221) = some (0, 311, 3) := by decide +kernel
theorem sa_i12_508 : sa_pI.lookup (12, 508) = some (0, 310, 0) := by decide +kernel
theorem sa_i12_505 : sa_pI.lookup (12, 505) = some (0, 309, 1) := by decide +kernel
theorem sa_i13_224 : sa_pI.lookup (13, 224) = some (0, 312, 1) := by decide +kernel
theorem sa_i13_227 : sa_pI.lookup (13, 227) = some (0, 313, 2) := by decide +kernel
theorem sa_i13_231 : sa_pI.lookup (13, 231) = some (0, 315, 0) := by decide +kernel
theorem sa_i12_520 : sa_pI.lookup (12, 520) = some (0, 314, 1) := by decide +kernel
theorem sa_i13_234 : sa_pI.lookup (13, 234) = some (0, 316, 1) := by decide +kernel
theorem sa_i13_237 : sa_pI.lookup (13, 237) = some (0, 317, 1) := by decide +kernel
theorem sa_i13_240 : sa_pI.lookup (13, 240) = some (0, 318, 2) := by decide +kernel
theorem sa_i13_243 : sa_pI.lookup (13, 243) = some (0, 319, 1) := by decide +kernel
theorem sa_i13_247 : sa_pI.lookup (13, 247) = some (0, 320, 0) := by decide +kernel
theorem sa_i13_255 : sa_pI.lookup (13, 255) = some (0, 321, 0) := by decide +kernel
theorem sa_i13_260 : sa_pI.lookup (13, 260) = some (0, 322, 0) := by decide +kernel
theorem sa_f8_16 : sa_pF.lookup (8, 16) = some (8, 0, false) := by decide +kernel
theorem sa_f8_20 : sa_pF.lookup (8, 20) = some (8, 1, false) := by decide +kernel
theorem sa_f8_13 : sa_pF.lookup (8, 13) = some (8, 2, false) := by decide +kernel
theorem sa_f8_7 : sa_pF.lookup (8, 7) = some (8, 3, false) := by decide +kernel
theorem sa_f4_9 : sa_pF.lookup (4, 9) = some (4, 0, false) := by decide +kernel
theorem sa_f4_15 : sa_pF.lookup (4, 15) = some (4, 1, false) := by decide +kernel
theorem sa_f4_18 : sa_pF.lookup (4, 18) = some (4, 2, false) := by decide +kernel
theorem sa_f4_21 : sa_pF.lookup (4, 21) = some (4, 3, false) := by decide +kernel
theorem sa_f6_18 : sa_pF.lookup (6, 18) = some (6, 0, false) := by decide +kernel
theorem sa_f7_25 : sa_pF.lookup (7, 25) = some (6, 0, true) := by decide +kernel
theorem sa_f2_50 : sa_pF.lookup (2, 50) = some (6, 0, true) := by decide +kernel
theorem sa_f1_53 : sa_pF.lookup (1, 53) = some (6, 0, true) := by decide +kernel
theorem sa_f0_53 : sa_pF.lookup (0, 53) = some (6, 0, true) := by decide +kernel
theorem sa_f11_117 : sa_pF.lookup (11, 117) = some (6, 0, true) := by decide +kernel
theorem sa_f6_27 : sa_pF.lookup (6, 27) = some (6, 1, false) := by decide +kernel
theorem sa_f2_58 : sa_pF.lookup (2, 58) = some (6, 1, true) := by decide +kernel
theorem sa_f11_126 : sa_pF.lookup (11, 126) = some (6, 1, true) := by decide +kernel
theorem sa_f3_92 : sa_pF.lookup (3, 92) = some (6, 1, true) := by decide +kernel
theorem sa_f0_87 : sa_pF.lookup (0, 87) = some (6, 1, true) := by decide +kernel
theorem sa_f5_95 : sa_pF.lookup (5, 95) = some (6, 1, true) := by decide +kernel
theorem sa_f7_51 : sa_pF.lookup (7, 51) = some (6, 1, true) := by decide +kernel
theorem sa_f6_33 : sa_pF.lookup (6, 33) = some (6, 2, false) := by decide +kernel
theorem sa_f2_61 : sa_pF.lookup (2, 61) = some (6, 2, true) := by decide +kernel
theorem sa_f11_129 : sa_pF.lookup (11, 129) = some (6, 2, true) := by decide +kernel
theorem sa_f6_39 : sa_pF.lookup (6, 39) = some (6, 3, false) := by decide +kernel
theorem sa_f2_64 : sa_pF.lookup (2, 64) = some (6, 3, true) := by decide +kernel
theorem sa_f11_132 : sa_pF.lookup (11, 132) = some (6, 3, true) := by decide +kernel
theorem sa_f6_45 : sa_pF.lookup (6, 45) = some (6, 4, false) := by decide +kernel
theorem sa_f2_118 : sa_pF.lookup (2, 118) = some (6, 4, true) := by decide +kernel
theorem sa_f6_49 : sa_pF.lookup (6, 49) = some (6, 5, false) := by decide +kernel
theorem sa_f6_53 : sa_pF.lookup (6, 53) = some (6, 6, false) := by decide +kernel
theorem sa_f9_28 : sa_pF.lookup (9, 28) = some (9, 0, false) := by decide +kernel
theorem sa_f9_7 : sa_pF.lookup (9, 7) = some (9, 1, false) := by decide +kernel
theorem sa_f9_13 : sa_pF.lookup (9, 13) = some (9, 2, false) := by decide +kernel
theorem sa_f9_16 : sa_pF.lookup (9, 16) = some (9, 3, false) := by decide +kernel
theorem sa_f9_19 : sa_pF.lookup (9, 19) = some (9, 4, false) := by decide +kernel
theorem sa_f9_22 : sa_pF.lookup (9, 22) = some (9, 5, false) := by decide +kernel
theorem sa_f9_25 : sa_pF.lookup (9, 25) = some (9, 6, false) := by decide +kernel
theorem sa_f2_30 : sa_pF.lookup (2, 30) = some (2, 0, false) := by decide +kernel
theorem sa_f2_34 : sa_pF.lookup (2, 34) = some (2, 1, false) := by decide +kernel
theorem sa_f2_9 : sa_pF.lookup (2, 9) = some (2, 2, false) := by decide +kernel
theorem sa_f2_15 : sa_pF.lookup (2, 15) = some (2, 3, false) := by decide +kernel
theorem sa_f2_18 : sa_pF.lookup (2, 18) = some (2, 4, false) := by decide +kernel
theorem sa_f2_22 : sa_pF.lookup (2, 22) = some (2, 5, false) := by decide +kernel
theorem sa_f7_15 : sa_pF.lookup (7, 15) = some (7, 0, false) := by decide +kernel
theorem sa_f7_11 : sa_pF.lookup (7, 11) = some (7, 1, false) := by decide +kernel
theorem sa_f10_50 : sa_pF.lookup (10, 50) = some (7, 1, true) := by decide +kernel
theorem sa_f10_33 : sa_pF.lookup (10, 33) = some (10, 0, false) := by decide +kernel
theorem sa_f11_68 : sa_pF.lookup (11, 68) = some (10, 0, true) := by decide +kernel
theorem sa_f3_43 : sa_pF.lookup (3, 43) = some (10, 0, true) := by decide +kernel
theorem sa_f10_11 : sa_pF.lookup (10, 11) = some (10, 1, false) := by decide +kernel
theorem sa_f10_17 : sa_pF.lookup (10, 17) = some (10, 2, false) := by decide +kernel
theorem sa_f10_21 : sa_pF.lookup (10, 21) = some (10, 3, false) := by decide +kernel
theorem sa_f10_24 : sa_pF.lookup (10, 24) = some (10, 4, false) := by decide +kernel
theorem sa_f10_27 : sa_pF.lookup (10, 27) = some (10, 5, false) := by decide +kernel
theorem sa_f5_63 : sa_pF.lookup (5, 63) = some (5, 0, false) := by decide +kernel
theorem sa_f5_11 : sa_pF.lookup (5, 11) = some (5, 1, false) := by decide +kernel
theorem sa_f5_15 : sa_pF.lookup (5, 15) = some (5, 2, false) := by decide +kernel
theorem sa_f5_18 : sa_pF.lookup (5, 18) = some (5, 3, false) := by decide +kernel
theorem sa_f5_21 : sa_pF.lookup (5, 21) = some (5, 4, false) := by decide +kernel
theorem sa_f5_25 : sa_pF.lookup (5, 25) = some (5, 5, false) := by decide +kernel
theorem sa_f5_28 : sa_pF.lookup (5, 28) = some (5, 6, false) := by decide +kernel
theorem sa_f5_31 : sa_pF.lookup (5, 31) = some (5, 7, false) := by decide +kernel
theorem sa_f5_34 : sa_pF.lookup (5, 34) = some (5, 8, false) := by decide +kernel
theorem sa_f5_38 : sa_pF.lookup (5, 38) = some (5, 9, false) := by decide +kernel
theorem sa_f5_41 : sa_pF.lookup (5, 41) = some (5, 10, false) := by decide +kernel
theorem sa_f5_44 : sa_pF.lookup (5, 44) = some (5, 11, false) := by decide +kernel
theorem sa_f5_47 : sa_pF.lookup (5, 47) = some (5, 12, false) := by decide +kernel
theorem sa_f5_50 : sa_pF.lookup (5, 50) = some (5, 13, false) := by decide +kernel
theorem sa_f5_53 : sa_pF.lookup (5, 53) = some (5, 14, false) := by decide +kernel
theorem sa_f5_56 : sa_pF.lookup (5, 56) = some (5, 15, false) := by decide +kernel
theorem sa_f5_60 : sa_pF.lookup (5, 60) = some (5, 16, false) := by decide +kernel
theorem sa_f1_21 : sa_pF.lookup (1, 21) = some (1, 0, false) := by decide +kernel
theorem sa_f1_25 : sa_pF.lookup (1, 25) = some (1, 1, false) := by decide +kernel
theorem sa_f1_29 : sa_pF.lookup (1, 29) = some (1, 2, false) := by decide +kernel
theorem sa_f1_11 : sa_pF.lookup (1, 11) = some (1, 3, false) := by decide +kernel
theorem sa_f1_15 : sa_pF.lookup (1, 15) = some (1, 4, false) := by decide +kernel
theorem sa_f1_18 : sa_pF.lookup (1, 18) = some (1, 5, false) := by decide +kernel
theorem sa_f3_26 : sa_pF.lookup (3, 26) = some (3, 0, false) := by decide +kernel
theorem sa_f3_30 : sa_pF.lookup (3, 30) = some (3, 1, false) := by decide +kernel
theorem sa_f3_9 : sa_pF.lookup (3, 9) = some (3, 2, false) := by decide +kernel
theorem sa_f3_15 : sa_pF.lookup (3, 15) = some (3, 3, false) := by decide +kernel
theorem sa_f3_19 : sa_pF.lookup (3, 19) = some (3, 4, false) := by decide +kernel
theorem sa_f3_23 : sa_pF.lookup (3, 23) = some (3, 5, false) := by decide +kernel
theorem sa_f0_15 : sa_pF.lookup (0, 15) = some (0, 0, false) := by decide +kernel
theorem sa_f0_19 : sa_pF.lookup (0, 19) = some (0, 1, false) := by decide +kernel
theorem sa_f0_28 : sa_pF.lookup (0, 28) = some (0, 2, false) := by decide +kernel
theorem sa_f0_9 : sa_pF.lookup (0, 9) = some (0, 3, false) := by decide +kernel
theorem sa_f11_9 : sa_pF.lookup (11, 9) = some (11, 0, false) := by decide +kernel
theorem sa_f11_13 : sa_pF.lookup (11, 13) = some (11, 1, false) := by decide +kernel
theorem sa_f11_17 : sa_pF.lookup (11, 17) = some (11, 2, false) := by decide +kernel
theorem sa_f11_20 : sa_pF.lookup (11, 20) = some (11, 3, false) := by decide +kernel
theorem sa_f11_27 : sa_pF.lookup (11, 27) = some (11, 4, false) := by decide +kernel
theorem sa_f11_31 : sa_pF.lookup (11, 31) = some (11, 5, false) := by decide +kernel
theorem sa_f11_39 : sa_pF.lookup (11, 39) = some (11, 6, false) := by decide +kernel
theorem sa_f11_48 : sa_pF.lookup (11, 48) = some (11, 7, false) := by decide +kernel
theorem sa_f11_52 : sa_pF.lookup (11, 52) = some (11, 8, false) := by decide +kernel
theorem sa_f11_55 : sa_pF.lookup (11, 55) = some (11, 9, false) := by decide +kernel
theorem sa_f11_62 : sa_pF.lookup (11, 62) = some (11, 10, false) := by decide +kernel
theorem sa_f11_75 : sa_pF.lookup (11, 75) = some (11, 11, false) := by decide +kernel
theorem sa_f11_84 : sa_pF.lookup (11, 84) = some (11, 12, false) := by decide +kernel
theorem sa_f11_93 : sa_pF.lookup (11, 93) = some (11, 13, false) := by decide +kernel
theorem sa_f12_172 : sa_pF.lookup (12, 172) = some (12, 0, false) := by decide +kernel
theorem sa_f12_338 : sa_pF.lookup (12, 338) = some (12, 1, false) := by decide +kernel
theorem sa_f12_341 : sa_pF.lookup (12, 341) = some (12, 2, false) := by decide +kernel
theorem sa_f12_344 : sa_pF.lookup (12, 344) = some (12, 3, false) := by decide +kernel
theorem sa_f12_347 : sa_pF.lookup (12, 347) = some (12, 4, false) := by decide +kernel
theorem sa_f12_350 : sa_pF.lookup (12, 350) = some (12, 5, false) := by decide +kernel
theorem sa_f12_9 : sa_pF.lookup (12, 9) = some (12, 6, false) := by decide +kernel
theorem sa_f12_13 : sa_pF.lookup (12, 13) = some (12, 7, false) := by decide +kernel
theorem sa_f12_17 : sa_pF.lookup (12, 17) = some (12, 8, false) := by decide +kernel
theorem sa_f12_20 : sa_pF.lookup (12, 20) = some (12, 9, false) := by decide +kernel
theorem sa_f12_23 : sa_pF.lookup (12, 23) = some (12, 10, false) := by decide +kernel
theorem sa_f12_26 : sa_pF.lookup (12, 26) = some (12, 11, false) := by decide +kernel
theorem sa_f12_29 : sa_pF.lookup (12, 29) = some (12, 12, false) := by decide +kernel
theorem sa_f12_32 : sa_pF.lookup (12, 32) = some (12, 13, false) := by decide +kernel
theorem sa_f12_35 : sa_pF.lookup (12, 35) = some (12, 14, false) := by decide +kernel
theorem sa_f12_38 : sa_pF.lookup (12, 38) = some (12, 15, false) := by decide +kernel
theorem sa_f12_41 : sa_pF.lookup (12, 41) = some (12, 16, false) := by decide +kernel
theorem sa_f12_44 : sa_pF.lookup (12, 44) = some (12, 17, false) := by decide +kernel
theorem sa_f12_47 : sa_pF.lookup (12, 47) = some (12, 18, false) := by decide +kernel
theorem sa_f12_50 : sa_pF.lookup (12, 50) = some (12, 19, false) := by decide +kernel
theorem sa_f12_53 : sa_pF.lookup (12, 53) = some (12, 20, false) := by decide +kernel
theorem sa_f12_175 : sa_pF.lookup (12, 175) = some (12, 21, false) := by decide +kernel
theorem sa_f12_228 : sa_pF.lookup (12, 228) = some (12, 22, false) := by decide +kernel
theorem sa_f12_56 : sa_pF.lookup (12, 56) = some (12, 23, false) := by decide +kernel
theorem sa_f12_59 : sa_pF.lookup (12, 59) = some (12, 24, false) := by decide +kernel
theorem sa_f12_182 : sa_pF.lookup (12, 182) = some (12, 25, false) := by decide +kernel
theorem sa_f12_185 : sa_pF.lookup (12, 185) = some (12, 26, false) := by decide +kernel
theorem sa_f12_205 : sa_pF.lookup (12, 205) = some (12, 27, false) := by decide +kernel
theorem sa_f12_192 : sa_pF.lookup (12, 192) = some (12, 28, false) := by decide +kernel
theorem sa_f12_215 : sa_pF.lookup (12, 215) = some (12, 29, false) := by decide +kernel
theorem sa_f12_199 : sa_pF.lookup (12, 199) = some (12, 30, false) := by decide +kernel
theorem sa_f12_202 : sa_pF.lookup (12, 202) = some (12, 31, false) := by decide +kernel
theorem sa_f12_195 : sa_pF.lookup (12, 195) = some (12, 32, false) := by decide +kernel
theorem sa_f12_287 : sa_pF.lookup (12, 287) = some (12, 33, false) := by decide +kernel
theorem sa_f12_294 : sa_pF.lookup (12, 294) = some (12, 34, false) := by decide +kernel
theorem sa_f12_297 : sa_pF.lookup (12, 297) = some (12, 35, false) := by decide +kernel
theorem sa_f12_313 : sa_pF.lookup (12, 313) = some (12, 36, false) := by decide +kernel
theorem sa_f12_316 : sa_pF.lookup (12, 316) = some (12, 37, false) := by decide +kernel
theorem sa_f12_319 : sa_pF.lookup (12, 319) = some (12, 38, false) := by decide +kernel
theorem sa_f12_322 : sa_pF.lookup (12, 322) = some (12, 39, false) := by decide +kernel
theorem sa_f12_241 : sa_pF.lookup (12, 241) = some (12, 40, false) := by decide +kernel
theorem sa_f12_244 : sa_pF.lookup (12, 244) = some (12, 41, false) := by decide +kernel
theorem sa_f12_259 : sa_pF.lookup (12, 259) = some (12, 42, false) := by decide +kernel
theorem sa_f12_62 : sa_pF.lookup (12, 62) = some (12, 43, false) := by decide +kernel
theorem sa_f12_65 : sa_pF.lookup (12, 65) = some (12, 44, false) := by decide +kernel
theorem sa_f12_68 : sa_pF.lookup (12, 68) = some (12, 45, false) := by decide +kernel
theorem sa_f12_71 : sa_pF.lookup (12, 71) = some (12, 46, false) := by decide +kernel
theorem sa_f12_74 : sa_pF.lookup (12, 74) = some (12, 47, false) := by decide +kernel
theorem sa_f12_77 : sa_pF.lookup (12, 77) = some (12, 48, false) := by decide +kernel
theorem sa_f12_80 : sa_pF.lookup (12, 80) = some (12, 49, false) := by decide +kernel
theorem sa_f12_83 : sa_pF.lookup (12, 83) = some (12, 50, false) := by decide +kernel
theorem sa_f12_86 : sa_pF.lookup (12, 86) = some (12, 51, false) := by decide +kernel
theorem sa_f12_89 : sa_pF.lookup (12, 89) = some (12, 52, false) := by decide +kernel
theorem sa_f12_92 : sa_pF.lookup (12, 92) = some (12, 53, false) := by decide +kernel
theorem sa_f12_95 : sa_pF.lookup (12, 95) = some (12, 54, false) := by decide +kernel
theorem sa_f12_98 : sa_pF.lookup (12, 98) = some (12, 55, false) := by decide +kernel
theorem sa_f12_101 : sa_pF.lookup (12, 101) = some (12, 56, false) := by decide +kernel
theorem sa_f12_104 : sa_pF.lookup (12, 104) = some (12, 57, false) := by decide +kernel
theorem sa_f12_107 : sa_pF.lookup (12, 107) = some (12, 58, false) := by decide +kernel
theorem sa_f12_111 : sa_pF.lookup (12, 111) = some (12, 59, false) := by decide +kernel
theorem sa_f12_114 : sa_pF.lookup (12, 114) = some (12, 60, false) := by decide +kernel
theorem sa_f12_357 : sa_pF.lookup (12, 357) = some (12, 61, false) := by decide +kernel
theorem sa_f12_117 : sa_pF.lookup (12, 117) = some (12, 62, false) := by decide +kernel
theorem sa_f12_120 : sa_pF.lookup (12, 120) = some (12, 63, false) := by decide +kernel
theorem sa_f12_123 : sa_pF.lookup (12, 123) = some (12, 64, false) := by decide +kernel
theorem sa_f12_126 : sa_pF.lookup (12, 126) = some (12, 65, false) := by decide +kernel
theorem sa_f12_129 : sa_pF.lookup (12, 129) = some (12, 66, false) := by decide +kernel
theorem sa_f12_132 : sa_pF.lookup (12, 132) = some (12, 67, false) := by decide +kernel
theorem sa_f12_135 : sa_pF.lookup (12, 135) = some (12, 68, false) := by decide +kernel
theorem sa_f12_138 : sa_pF.lookup (12, 138) = some (12, 69, false) := by decide +kernel
theorem sa_f12_141 : sa_pF.lookup (12, 141) = some (12, 70, false) := by decide +kernel
theorem sa_f12_434 : sa_pF.lookup (12, 434) = some (12, 71, false) := by decide +kernel
theorem sa_f12_454 : sa_pF.lookup (12, 454) = some (12, 72, false) := by decide +kernel
theorem sa_f12_457 : sa_pF.lookup (12, 457) = some (12, 73, false) := by decide +kernel
theorem sa_f12_144 : sa_pF.lookup (12, 144) = some (12, 74, false) := by decide +kernel
theorem sa_f12_147 : sa_pF.lookup (12, 147) = some (12, 75, false) := by decide +kernel
theorem sa_f12_360 : sa_pF.lookup (12, 360) = some (12, 76, false) := by decide +kernel
theorem sa_f12_150 : sa_pF.lookup (12, 150) = some (12, 77, false) := by decide +kernel
theorem sa_f12_153 : sa_pF.lookup (12, 153) = some (12, 78, false) := by decide +kernel
theorem sa_f12_156 : sa_pF.lookup (12, 156) = some (12, 79, false) := by decide +kernel
theorem sa_f12_159 : sa_pF.lookup (12, 159) = some (12, 80, false) := by decide +kernel
theorem sa_f12_501 : sa_pF.lookup (12, 501) = some (12, 81, false) := by decide +kernel
theorem sa_f12_511 : sa_pF.lookup (12, 511) = some (12, 82, false) := by decide +kernel
theorem sa_f12_514 : sa_pF.lookup (12, 514) = some (12, 83, false) := by decide +kernel
theorem sa_f12_517 : sa_pF.lookup (12, 517) = some (12, 84, false) := by decide +kernel
theorem sa_f12_363 : sa_pF.lookup (12, 363) = some (12, 85, false) := by decide +kernel
theorem sa_f12_523 : sa_pF.lookup (12, 523) = some (12, 86, false) := by decide +kernel
theorem sa_f12_526 : sa_pF.lookup (12, 526) = some (12, 87, false) := by decide +kernel
theorem sa_f12_163 : sa_pF.lookup (12, 163) = some (12, 88, false) := by decide +kernel
theorem sa_f12_166 : sa_pF.lookup (12, 166) = some (12, 89, false) := by decide +kernel
theorem sa_f12_169 : sa_pF.lookup (12, 169) = some (12, 90, false) := by decide +kernel

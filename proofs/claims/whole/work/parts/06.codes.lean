/-- the code of each method is among the words -/
def zCd (y : Nat) : Prop := Cond.code (zN y) (zB y) (zL y) (zRt y) ∈ lw_tbl
set_option maxRecDepth 20000 in
theorem zCd0 : zCd 0 := List.mem_of_getElem? (i := 202) rfl
set_option maxRecDepth 20000 in
theorem zCd1 : zCd 1 := List.mem_of_getElem? (i := 336) rfl
set_option maxRecDepth 20000 in
theorem zCd2 : zCd 2 := List.mem_of_getElem? (i := 759) rfl
set_option maxRecDepth 20000 in
theorem zCd3 : zCd 3 := List.mem_of_getElem? (i := 114) rfl
set_option maxRecDepth 20000 in
theorem zCd4 : zCd 4 := List.mem_of_getElem? (i := 378) rfl
set_option maxRecDepth 20000 in
theorem zCd5 : zCd 5 := List.mem_of_getElem? (i := 481) rfl
set_option maxRecDepth 20000 in
theorem zCd6 : zCd 6 := List.mem_of_getElem? (i := 428) rfl
set_option maxRecDepth 20000 in
theorem zCd7 : zCd 7 := List.mem_of_getElem? (i := 437) rfl
set_option maxRecDepth 20000 in
theorem zCd8 : zCd 8 := List.mem_of_getElem? (i := 461) rfl
set_option maxRecDepth 20000 in
theorem zCd9 : zCd 9 := List.mem_of_getElem? (i := 530) rfl
set_option maxRecDepth 20000 in
theorem zCd10 : zCd 10 := List.mem_of_getElem? (i := 465) rfl
set_option maxRecDepth 20000 in
theorem zCd11 : zCd 11 := List.mem_of_getElem? (i := 351) rfl
set_option maxRecDepth 20000 in
theorem zCd12 : zCd 12 := List.mem_of_getElem? (i := 493) rfl
set_option maxRecDepth 20000 in
theorem zCd13 : zCd 13 := List.mem_of_getElem? (i := 457) rfl
set_option maxRecDepth 20000 in
theorem zCd14 : zCd 14 := List.mem_of_getElem? (i := 634) rfl
set_option maxRecDepth 20000 in
theorem zCd15 : zCd 15 := List.mem_of_getElem? (i := 453) rfl
set_option maxRecDepth 20000 in
theorem zCd16 : zCd 16 := List.mem_of_getElem? (i := 489) rfl
set_option maxRecDepth 20000 in
theorem zCd17 : zCd 17 := List.mem_of_getElem? (i := 622) rfl
set_option maxRecDepth 20000 in
theorem zCd18 : zCd 18 := List.mem_of_getElem? (i := 719) rfl
set_option maxRecDepth 20000 in
theorem zCd19 : zCd 19 := List.mem_of_getElem? (i := 510) rfl
set_option maxRecDepth 20000 in
theorem zCd20 : zCd 20 := List.mem_of_getElem? (i := 505) rfl
set_option maxRecDepth 20000 in
theorem zCd21 : zCd 21 := List.mem_of_getElem? (i := 501) rfl
set_option maxRecDepth 20000 in
theorem zCd22 : zCd 22 := List.mem_of_getElem? (i := 630) rfl
set_option maxRecDepth 20000 in
theorem zCd23 : zCd 23 := List.mem_of_getElem? (i := 657) rfl
set_option maxRecDepth 20000 in
theorem zCd24 : zCd 24 := List.mem_of_getElem? (i := 671) rfl
set_option maxRecDepth 20000 in
theorem zCd25 : zCd 25 := List.mem_of_getElem? (i := 518) rfl
set_option maxRecDepth 20000 in
theorem zCd26 : zCd 26 := List.mem_of_getElem? (i := 649) rfl
set_option maxRecDepth 20000 in
theorem zCd27 : zCd 27 := List.mem_of_getElem? (i := 653) rfl
set_option maxRecDepth 20000 in
theorem zCd28 : zCd 28 := List.mem_of_getElem? (i := 728) rfl
set_option maxRecDepth 20000 in
theorem zCd29 : zCd 29 := List.mem_of_getElem? (i := 584) rfl
set_option maxRecDepth 20000 in
theorem zCd30 : zCd 30 := List.mem_of_getElem? (i := 588) rfl
set_option maxRecDepth 20000 in
theorem zCd31 : zCd 31 := List.mem_of_getElem? (i := 601) rfl
set_option maxRecDepth 20000 in
theorem zCd32 : zCd 32 := List.mem_of_getElem? (i := 593) rfl
set_option maxRecDepth 20000 in
theorem zCd33 : zCd 33 := List.mem_of_getElem? (i := 597) rfl
set_option maxRecDepth 20000 in
theorem zCd34 : zCd 34 := List.mem_of_getElem? (i := 240) rfl
set_option maxRecDepth 20000 in
theorem zCd35 : zCd 35 := List.mem_of_getElem? (i := 386) rfl
set_option maxRecDepth 20000 in
theorem zCd36 : zCd 36 := List.mem_of_getElem? (i := 332) rfl
set_option maxRecDepth 20000 in
theorem zCd37 : zCd 37 := List.mem_of_getElem? (i := 328) rfl
set_option maxRecDepth 20000 in
theorem zCd38 : zCd 38 := List.mem_of_getElem? (i := 324) rfl
set_option maxRecDepth 20000 in
theorem zCd39 : zCd 39 := List.mem_of_getElem? (i := 735) rfl
set_option maxRecDepth 20000 in
theorem zCd40 : zCd 40 := List.mem_of_getElem? (i := 743) rfl
set_option maxRecDepth 20000 in
theorem zCd41 : zCd 41 := List.mem_of_getElem? (i := 256) rfl
set_option maxRecDepth 20000 in
theorem zCd42 : zCd 42 := List.mem_of_getElem? (i := 401) rfl
set_option maxRecDepth 20000 in
theorem zCd43 : zCd 43 := List.mem_of_getElem? (i := 406) rfl
set_option maxRecDepth 20000 in
theorem zCd44 : zCd 44 := List.mem_of_getElem? (i := 416) rfl
set_option maxRecDepth 20000 in
theorem zCd45 : zCd 45 := List.mem_of_getElem? (i := 420) rfl
set_option maxRecDepth 20000 in
theorem zCd46 : zCd 46 := List.mem_of_getElem? (i := 441) rfl
set_option maxRecDepth 20000 in
theorem zCd47 : zCd 47 := List.mem_of_getElem? (i := 424) rfl
set_option maxRecDepth 20000 in
theorem zCd48 : zCd 48 := List.mem_of_getElem? (i := 432) rfl
set_option maxRecDepth 20000 in
theorem zCd49 : zCd 49 := List.mem_of_getElem? (i := 410) rfl
set_option maxRecDepth 20000 in
theorem zCd50 : zCd 50 := List.mem_of_getElem? (i := 88) rfl
set_option maxRecDepth 20000 in
theorem zCd51 : zCd 51 := List.mem_of_getElem? (i := 340) rfl
set_option maxRecDepth 20000 in
theorem zCd52 : zCd 52 := List.mem_of_getElem? (i := 365) rfl
set_option maxRecDepth 20000 in
theorem zCd53 : zCd 53 := List.mem_of_getElem? (i := 449) rfl
set_option maxRecDepth 20000 in
theorem zCd54 : zCd 54 := List.mem_of_getElem? (i := 445) rfl
set_option maxRecDepth 20000 in
theorem zCd55 : zCd 55 := List.mem_of_getElem? (i := 497) rfl
set_option maxRecDepth 20000 in
theorem zCd56 : zCd 56 := List.mem_of_getElem? (i := 526) rfl
set_option maxRecDepth 20000 in
theorem zCd57 : zCd 57 := List.mem_of_getElem? (i := 485) rfl
set_option maxRecDepth 20000 in
theorem zCd58 : zCd 58 := List.mem_of_getElem? (i := 538) rfl
set_option maxRecDepth 20000 in
theorem zCd59 : zCd 59 := List.mem_of_getElem? (i := 542) rfl
set_option maxRecDepth 20000 in
theorem zCd60 : zCd 60 := List.mem_of_getElem? (i := 572) rfl
set_option maxRecDepth 20000 in
theorem zCd61 : zCd 61 := List.mem_of_getElem? (i := 222) rfl
set_option maxRecDepth 20000 in
theorem zCd62 : zCd 62 := List.mem_of_getElem? (i := 766) rfl
set_option maxRecDepth 20000 in
theorem zCd63 : zCd 63 := List.mem_of_getElem? (i := 770) rfl
set_option maxRecDepth 20000 in
theorem zCd64 : zCd 64 := List.mem_of_getElem? (i := 94) rfl
set_option maxRecDepth 20000 in
theorem zCd65 : zCd 65 := List.mem_of_getElem? (i := 369) rfl
set_option maxRecDepth 20000 in
theorem zCd66 : zCd 66 := List.mem_of_getElem? (i := 374) rfl
set_option maxRecDepth 20000 in
theorem zCd67 : zCd 67 := List.mem_of_getElem? (i := 609) rfl
set_option maxRecDepth 20000 in
theorem zCd68 : zCd 68 := List.mem_of_getElem? (i := 344) rfl
set_option maxRecDepth 20000 in
theorem zCd69 : zCd 69 := List.mem_of_getElem? (i := 166) rfl
set_option maxRecDepth 20000 in
theorem zCd70 : zCd 70 := List.mem_of_getElem? (i := 382) rfl
set_option maxRecDepth 20000 in
theorem zCd71 : zCd 71 := List.mem_of_getElem? (i := 675) rfl
set_option maxRecDepth 20000 in
theorem zCd72 : zCd 72 := List.mem_of_getElem? (i := 684) rfl
set_option maxRecDepth 20000 in
theorem zCd73 : zCd 73 := List.mem_of_getElem? (i := 580) rfl
set_option maxRecDepth 20000 in
theorem zCd74 : zCd 74 := List.mem_of_getElem? (i := 689) rfl
set_option maxRecDepth 20000 in
theorem zCd75 : zCd 75 := List.mem_of_getElem? (i := 701) rfl
set_option maxRecDepth 20000 in
theorem zCd76 : zCd 76 := List.mem_of_getElem? (i := 694) rfl
set_option maxRecDepth 20000 in
theorem zCd77 : zCd 77 := List.mem_of_getElem? (i := 710) rfl
set_option maxRecDepth 20000 in
theorem zCd78 : zCd 78 := List.mem_of_getElem? (i := 356) rfl
set_option maxRecDepth 20000 in
theorem zCd79 : zCd 79 := List.mem_of_getElem? (i := 272) rfl
set_option maxRecDepth 20000 in
theorem zCd80 : zCd 80 := List.mem_of_getElem? (i := 576) rfl
set_option maxRecDepth 20000 in
theorem zCd81 : zCd 81 := List.mem_of_getElem? (i := 552) rfl
set_option maxRecDepth 20000 in
theorem zCd82 : zCd 82 := List.mem_of_getElem? (i := 618) rfl
set_option maxRecDepth 20000 in
theorem zCd83 : zCd 83 := List.mem_of_getElem? (i := 556) rfl
set_option maxRecDepth 20000 in
theorem zCd84 : zCd 84 := List.mem_of_getElem? (i := 560) rfl
set_option maxRecDepth 20000 in
theorem zCd85 : zCd 85 := List.mem_of_getElem? (i := 564) rfl
set_option maxRecDepth 20000 in
theorem zCd86 : zCd 86 := List.mem_of_getElem? (i := 568) rfl
set_option maxRecDepth 20000 in
theorem zCd87 : zCd 87 := List.mem_of_getElem? (i := 80) rfl
set_option maxRecDepth 20000 in
theorem zCd88 : zCd 88 := List.mem_of_getElem? (i := 320) rfl
set_option maxRecDepth 20000 in
theorem zCd89 : zCd 89 := List.mem_of_getElem? (i := 390) rfl
set_option maxRecDepth 20000 in
theorem zCd90 : zCd 90 := List.mem_of_getElem? (i := 397) rfl
set_option maxRecDepth 20000 in
theorem zCd91 : zCd 91 := List.mem_of_getElem? (i := 469) rfl
set_option maxRecDepth 20000 in
theorem zCd92 : zCd 92 := List.mem_of_getElem? (i := 477) rfl
set_option maxRecDepth 20000 in
theorem zCd93 : zCd 93 := List.mem_of_getElem? (i := 514) rfl
set_option maxRecDepth 20000 in
theorem zCd94 : zCd 94 := List.mem_of_getElem? (i := 522) rfl
set_option maxRecDepth 20000 in
theorem zCd95 : zCd 95 := List.mem_of_getElem? (i := 534) rfl
set_option maxRecDepth 20000 in
theorem zCd96 : zCd 96 := List.mem_of_getElem? (i := 548) rfl
set_option maxRecDepth 20000 in
theorem zCd97 : zCd 97 := List.mem_of_getElem? (i := 605) rfl
set_option maxRecDepth 20000 in
theorem zCd98 : zCd 98 := List.mem_of_getElem? (i := 614) rfl
set_option maxRecDepth 20000 in
theorem zCd99 : zCd 99 := List.mem_of_getElem? (i := 626) rfl
set_option maxRecDepth 20000 in
theorem zCd100 : zCd 100 := List.mem_of_getElem? (i := 639) rfl
set_option maxRecDepth 20000 in
theorem zCd101 : zCd 101 := List.mem_of_getElem? (i := 645) rfl
set_option maxRecDepth 20000 in
theorem zCd102 : zCd 102 := List.mem_of_getElem? (i := 666) rfl
set_option maxRecDepth 20000 in
theorem zCd103 : zCd 103 := List.mem_of_getElem? (i := 680) rfl
set_option maxRecDepth 20000 in
theorem zCd104 : zCd 104 := List.mem_of_getElem? (i := 706) rfl
set_option maxRecDepth 20000 in
theorem zCd105 : zCd 105 := List.mem_of_getElem? (i := 714) rfl
set_option maxRecDepth 20000 in
theorem zCd106 : zCd 106 := List.mem_of_getElem? (i := 723) rfl
set_option maxRecDepth 20000 in
theorem zCd107 : zCd 107 := List.mem_of_getElem? (i := 732) rfl
set_option maxRecDepth 20000 in
theorem zCd108 : zCd 108 := List.mem_of_getElem? (i := 747) rfl
set_option maxRecDepth 20000 in
theorem zCd109 : zCd 109 := List.mem_of_getElem? (i := 751) rfl
set_option maxRecDepth 20000 in
theorem zCd110 : zCd 110 := List.mem_of_getElem? (i := 755) rfl
set_option maxRecDepth 20000 in
theorem zCd111 : zCd 111 := List.mem_of_getElem? (i := 763) rfl
set_option maxRecDepth 20000 in
theorem zCd112 : zCd 112 := List.mem_of_getElem? (i := 775) rfl
set_option maxRecDepth 20000 in
theorem zCd113 : zCd 113 := List.mem_of_getElem? (i := 393) rfl
set_option maxRecDepth 20000 in
theorem zCd114 : zCd 114 := List.mem_of_getElem? (i := 662) rfl
set_option maxRecDepth 20000 in
theorem zCd115 : zCd 115 := List.mem_of_getElem? (i := 781) rfl
set_option maxRecDepth 20000 in
theorem zCd116 : zCd 116 := List.mem_of_getElem? (i := 847) rfl
set_option maxRecDepth 20000 in
theorem zCd117 : zCd 117 := List.mem_of_getElem? (i := 906) rfl
set_option maxRecDepth 20000 in
theorem zCd118 : zCd 118 := List.mem_of_getElem? (i := 898) rfl
set_option maxRecDepth 20000 in
theorem zCd119 : zCd 119 := List.mem_of_getElem? (i := 930) rfl
set_option maxRecDepth 20000 in
theorem zCd120 : zCd 120 := List.mem_of_getElem? (i := 858) rfl
set_option maxRecDepth 20000 in
theorem zCd121 : zCd 121 := List.mem_of_getElem? (i := 851) rfl
set_option maxRecDepth 20000 in
theorem zCd122 : zCd 122 := List.mem_of_getElem? (i := 1086) rfl
set_option maxRecDepth 20000 in
theorem zCd123 : zCd 123 := List.mem_of_getElem? (i := 1090) rfl
set_option maxRecDepth 20000 in
theorem zCd124 : zCd 124 := List.mem_of_getElem? (i := 910) rfl
set_option maxRecDepth 20000 in
theorem zCd125 : zCd 125 := List.mem_of_getElem? (i := 1038) rfl
set_option maxRecDepth 20000 in
theorem zCd126 : zCd 126 := List.mem_of_getElem? (i := 938) rfl
set_option maxRecDepth 20000 in
theorem zCd127 : zCd 127 := List.mem_of_getElem? (i := 946) rfl
set_option maxRecDepth 20000 in
theorem zCd128 : zCd 128 := List.mem_of_getElem? (i := 942) rfl
set_option maxRecDepth 20000 in
theorem zCd129 : zCd 129 := List.mem_of_getElem? (i := 998) rfl
set_option maxRecDepth 20000 in
theorem zCd130 : zCd 130 := List.mem_of_getElem? (i := 994) rfl
set_option maxRecDepth 20000 in
theorem zCd131 : zCd 131 := List.mem_of_getElem? (i := 1002) rfl
set_option maxRecDepth 20000 in
theorem zCd132 : zCd 132 := List.mem_of_getElem? (i := 990) rfl
set_option maxRecDepth 20000 in
theorem zCd133 : zCd 133 := List.mem_of_getElem? (i := 986) rfl
set_option maxRecDepth 20000 in
theorem zCd134 : zCd 134 := List.mem_of_getElem? (i := 1026) rfl
set_option maxRecDepth 20000 in
theorem zCd135 : zCd 135 := List.mem_of_getElem? (i := 1022) rfl
set_option maxRecDepth 20000 in
theorem zCd136 : zCd 136 := List.mem_of_getElem? (i := 844) rfl
set_option maxRecDepth 20000 in
theorem zCd137 : zCd 137 := List.mem_of_getElem? (i := 855) rfl
set_option maxRecDepth 20000 in
theorem zCd138 : zCd 138 := List.mem_of_getElem? (i := 902) rfl
set_option maxRecDepth 20000 in
theorem zCd139 : zCd 139 := List.mem_of_getElem? (i := 914) rfl
set_option maxRecDepth 20000 in
theorem zCd140 : zCd 140 := List.mem_of_getElem? (i := 922) rfl
set_option maxRecDepth 20000 in
theorem zCd141 : zCd 141 := List.mem_of_getElem? (i := 894) rfl
set_option maxRecDepth 20000 in
theorem zCd142 : zCd 142 := List.mem_of_getElem? (i := 862) rfl
set_option maxRecDepth 20000 in
theorem zCd143 : zCd 143 := List.mem_of_getElem? (i := 918) rfl
set_option maxRecDepth 20000 in
theorem zCd144 : zCd 144 := List.mem_of_getElem? (i := 934) rfl
set_option maxRecDepth 20000 in
theorem zCd145 : zCd 145 := List.mem_of_getElem? (i := 950) rfl
set_option maxRecDepth 20000 in
theorem zCd146 : zCd 146 := List.mem_of_getElem? (i := 926) rfl
set_option maxRecDepth 20000 in
theorem zCd147 : zCd 147 := List.mem_of_getElem? (i := 958) rfl
set_option maxRecDepth 20000 in
theorem zCd148 : zCd 148 := List.mem_of_getElem? (i := 954) rfl
set_option maxRecDepth 20000 in
theorem zCd149 : zCd 149 := List.mem_of_getElem? (i := 966) rfl
set_option maxRecDepth 20000 in
theorem zCd150 : zCd 150 := List.mem_of_getElem? (i := 962) rfl
set_option maxRecDepth 20000 in
theorem zCd151 : zCd 151 := List.mem_of_getElem? (i := 978) rfl
set_option maxRecDepth 20000 in
theorem zCd152 : zCd 152 := List.mem_of_getElem? (i := 974) rfl
set_option maxRecDepth 20000 in
theorem zCd153 : zCd 153 := List.mem_of_getElem? (i := 970) rfl
set_option maxRecDepth 20000 in
theorem zCd154 : zCd 154 := List.mem_of_getElem? (i := 1010) rfl
set_option maxRecDepth 20000 in
theorem zCd155 : zCd 155 := List.mem_of_getElem? (i := 1006) rfl
set_option maxRecDepth 20000 in
theorem zCd156 : zCd 156 := List.mem_of_getElem? (i := 982) rfl
set_option maxRecDepth 20000 in
theorem zCd157 : zCd 157 := List.mem_of_getElem? (i := 1014) rfl
set_option maxRecDepth 20000 in
theorem zCd158 : zCd 158 := List.mem_of_getElem? (i := 1018) rfl
set_option maxRecDepth 20000 in
theorem zCd159 : zCd 159 := List.mem_of_getElem? (i := 1034) rfl
set_option maxRecDepth 20000 in
theorem zCd160 : zCd 160 := List.mem_of_getElem? (i := 1030) rfl
set_option maxRecDepth 20000 in
theorem zCd161 : zCd 161 := List.mem_of_getElem? (i := 1042) rfl
set_option maxRecDepth 20000 in
theorem zCd162 : zCd 162 := List.mem_of_getElem? (i := 1050) rfl
set_option maxRecDepth 20000 in
theorem zCd163 : zCd 163 := List.mem_of_getElem? (i := 1046) rfl
set_option maxRecDepth 20000 in
theorem zCd164 : zCd 164 := List.mem_of_getElem? (i := 1058) rfl
set_option maxRecDepth 20000 in
theorem zCd165 : zCd 165 := List.mem_of_getElem? (i := 1054) rfl
set_option maxRecDepth 20000 in
theorem zCd166 : zCd 166 := List.mem_of_getElem? (i := 1066) rfl
set_option maxRecDepth 20000 in
theorem zCd167 : zCd 167 := List.mem_of_getElem? (i := 1062) rfl
set_option maxRecDepth 20000 in
theorem zCd168 : zCd 168 := List.mem_of_getElem? (i := 1074) rfl
set_option maxRecDepth 20000 in
theorem zCd169 : zCd 169 := List.mem_of_getElem? (i := 1070) rfl
set_option maxRecDepth 20000 in
theorem zCd170 : zCd 170 := List.mem_of_getElem? (i := 1078) rfl
set_option maxRecDepth 20000 in
theorem zCd171 : zCd 171 := List.mem_of_getElem? (i := 1082) rfl
set_option maxRecDepth 20000 in
theorem zCd172 : zCd 172 := List.mem_of_getElem? (i := 1094) rfl
set_option maxRecDepth 20000 in
theorem zCd173 : zCd 173 := List.mem_of_getElem? (i := 1099) rfl
set_option maxRecDepth 20000 in
theorem zCd174 : zCd 174 := List.mem_of_getElem? (i := 878) rfl
set_option maxRecDepth 20000 in
theorem zCd175 : zCd 175 := List.mem_of_getElem? (i := 886) rfl
set_option maxRecDepth 20000 in
theorem zCd176 : zCd 176 := List.mem_of_getElem? (i := 874) rfl
set_option maxRecDepth 20000 in
theorem zCd177 : zCd 177 := List.mem_of_getElem? (i := 882) rfl
set_option maxRecDepth 20000 in
theorem zCd178 : zCd 178 := List.mem_of_getElem? (i := 890) rfl
set_option maxRecDepth 20000 in
theorem zCd179 : zCd 179 := List.mem_of_getElem? (i := 870) rfl
set_option maxRecDepth 20000 in
theorem zCd180 : zCd 180 := List.mem_of_getElem? (i := 866) rfl
set_option maxRecDepth 20000 in
theorem zCd181 : zCd 181 := List.mem_of_getElem? (i := 1103) rfl
set_option maxRecDepth 20000 in
theorem zCd182 : zCd 182 := List.mem_of_getElem? (i := 1107) rfl
set_option maxRecDepth 20000 in
theorem zCd183 : zCd 183 := List.mem_of_getElem? (i := 1111) rfl
set_option maxRecDepth 20000 in
theorem zCd184 : zCd 184 := List.mem_of_getElem? (i := 1115) rfl
set_option maxRecDepth 20000 in
theorem zCd185 : zCd 185 := List.mem_of_getElem? (i := 697) rfl
set_option maxRecDepth 20000 in
theorem zCd186 : zCd 186 := List.mem_of_getElem? (i := 738) rfl
def zEv (P : Nat → Prop) : Nat → Nat → Prop
  | _, 0 => True
  | k, n + 1 => P k ∧ zEv P (k + 1) n
theorem zEv_get (P : Nat → Prop) : ∀ (n k y : Nat), zEv P k n → y < n → P (k + y)
  | 0, _, _, _, h => absurd h (Nat.not_lt_zero _)
  | n + 1, k, 0, h, _ => h.1
  | n + 1, k, y + 1, h, hy => by
    have h1 := zEv_get P n (k + 1) y h.2 (Nat.lt_of_succ_lt_succ hy)
    rw [show k + (y + 1) = k + 1 + y by omega]
    exact h1
set_option maxRecDepth 20000 in
theorem zCd_all : zEv zCd 0 187 := ⟨zCd0, zCd1, zCd2, zCd3, zCd4, zCd5, zCd6, zCd7, zCd8, zCd9, zCd10, zCd11, zCd12, zCd13, zCd14, zCd15, zCd16, zCd17, zCd18, zCd19, zCd20, zCd21, zCd22, zCd23, zCd24, zCd25, zCd26, zCd27, zCd28, zCd29, zCd30, zCd31, zCd32, zCd33, zCd34, zCd35, zCd36, zCd37, zCd38, zCd39, zCd40, zCd41, zCd42, zCd43, zCd44, zCd45, zCd46, zCd47, zCd48, zCd49, zCd50, zCd51, zCd52, zCd53, zCd54, zCd55, zCd56, zCd57, zCd58, zCd59, zCd60, zCd61, zCd62, zCd63, zCd64, zCd65, zCd66, zCd67, zCd68, zCd69, zCd70, zCd71, zCd72, zCd73, zCd74, zCd75, zCd76, zCd77, zCd78, zCd79, zCd80, zCd81, zCd82, zCd83, zCd84, zCd85, zCd86, zCd87, zCd88, zCd89, zCd90, zCd91, zCd92, zCd93, zCd94, zCd95, zCd96, zCd97, zCd98, zCd99, zCd100, zCd101, zCd102, zCd103, zCd104, zCd105, zCd106, zCd107, zCd108, zCd109, zCd110, zCd111, zCd112, zCd113, zCd114, zCd115, zCd116, zCd117, zCd118, zCd119, zCd120, zCd121, zCd122, zCd123, zCd124, zCd125, zCd126, zCd127, zCd128, zCd129, zCd130, zCd131, zCd132, zCd133, zCd134, zCd135, zCd136, zCd137, zCd138, zCd139, zCd140, zCd141, zCd142, zCd143, zCd144, zCd145, zCd146, zCd147, zCd148, zCd149, zCd150, zCd151, zCd152, zCd153, zCd154, zCd155, zCd156, zCd157, zCd158, zCd159, zCd160, zCd161, zCd162, zCd163, zCd164, zCd165, zCd166, zCd167, zCd168, zCd169, zCd170, zCd171, zCd172, zCd173, zCd174, zCd175, zCd176, zCd177, zCd178, zCd179, zCd180, zCd181, zCd182, zCd183, zCd184, zCd185, zCd186, trivial⟩
theorem zCd_ok {y : Nat} (h : y < 187) : zCd y := by
  have h1 := zEv_get zCd 187 0 y zCd_all h
  rwa [Nat.zero_add] at h1

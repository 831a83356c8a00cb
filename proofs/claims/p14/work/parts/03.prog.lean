/-! THE PROGRAMS AS DATA: written by wip/gen/prog.py out of the printed names. A method is its number z; a field is class * 100 + place; 1000, 1001 the static arrays, 2000 on the String constants. -/
abbrev clsT : List vw_C := [(RX0, TX0, 3), (RX1, TX1, 4), (RX2, TX2, 4), (RX3, TX3, 4), (RX4, TX4, 5), (RX5, TX5, 16), (RX6, TX6, 10), (RX7, TX7, 29)]
def tyT (c : Nat) : Nat → FieldType := match c with
  | 0 => tyX0
  | 1 => tyX1
  | 2 => tyX2
  | 3 => tyX3
  | 4 => tyX4
  | 5 => tyX5
  | 6 => tyX6
  | _ => tyX7
def clsN (c : Nat) : String := match c with
  | 0 => RX0
  | 1 => RX1
  | 2 => RX2
  | 3 => RX3
  | 4 => RX4
  | 5 => RX5
  | 6 => RX6
  | 7 => RX7
  | 8 => RJ6
  | _ => RL
def fieldTab : List (Nat × Nat × Nat × Nat) := [(1, 9, 102, 275), (1, 15, 100, 271), (1, 19, 103, 277), (1, 23, 101, 273), (2, 9, 201, 181), (2, 15, 202, 182), (2, 18, 203, 183), (2, 21, 200, 179), (2, 25, 512, 130), (3, 9, 303, 212), (3, 13, 300, 205), (3, 17, 302, 211), (3, 20, 301, 209), (4, 12, 400, 222), (4, 18, 403, 228), (4, 22, 302, 210), (4, 26, 401, 224), (4, 29, 404, 229), (4, 56, 301, 208), (4, 74, 500, 101), (4, 77, 501, 104), (4, 90, 502, 108), (4, 93, 503, 111), (4, 96, 504, 114), (4, 103, 512, 131), (4, 109, 300, 207), (4, 112, 402, 227), (5, 9, 508, 121), (5, 15, 509, 123), (5, 18, 510, 125), (5, 21, 511, 127), (5, 24, 512, 129), (5, 27, 513, 133), (5, 30, 514, 135), (5, 33, 515, 137), (5, 39, 500, 100), (5, 43, 501, 103), (5, 46, 502, 106), (5, 49, 503, 109), (5, 52, 504, 112), (5, 55, 505, 115), (5, 58, 506, 117), (5, 61, 507, 119), (6, 10, 600, 287), (6, 16, 601, 288), (6, 22, 602, 289), (6, 29, 603, 290), (6, 35, 604, 291), (6, 41, 605, 292), (6, 45, 606, 293), (6, 49, 607, 294), (6, 52, 608, 295), (6, 61, 400, 223), (6, 71, 300, 206), (6, 79, 401, 225), (6, 82, 402, 226), (6, 89, 200, 180), (6, 92, 0, 254), (6, 96, 500, 102), (6, 99, 501, 105), (6, 102, 502, 107), (6, 105, 503, 110), (6, 108, 504, 113), (6, 111, 505, 116), (6, 118, 506, 118), (6, 124, 508, 122), (6, 127, 509, 124), (6, 136, 511, 128), (6, 139, 512, 132), (6, 142, 513, 134), (6, 145, 514, 136), (6, 148, 515, 138), (6, 180, 507, 120), (6, 202, 510, 126), (6, 268, 1, 256), (6, 271, 2, 258), (6, 290, 102, 276), (6, 293, 609, 296), (6, 300, 100, 272), (6, 303, 101, 274), (7, 7, 700, 802), (7, 13, 701, 803), (7, 16, 702, 804), (7, 20, 704, 806), (7, 23, 708, 810), (7, 26, 716, 818), (7, 29, 722, 824), (7, 32, 723, 825), (7, 35, 724, 826), (7, 38, 725, 827), (7, 41, 726, 828), (7, 44, 728, 830), (7, 53, 705, 807), (7, 57, 706, 808), (7, 60, 707, 809), (7, 63, 703, 805), (7, 72, 709, 811), (7, 75, 714, 816), (7, 78, 711, 813), (7, 81, 715, 817), (7, 84, 710, 812), (7, 102, 712, 814), (7, 113, 713, 815), (7, 160, 717, 819), (7, 163, 718, 820), (7, 249, 719, 821), (7, 253, 720, 822), (7, 256, 721, 823), (7, 289, 727, 829)]
def statTab : List (Nat × Nat × Nat × String × Nat) := [(5, 73, 1000, "FATHER_NEEDS", 505), (5, 76, 1001, "MOTHER_NEEDS", 507)]
def intTab : List (Nat × Nat × Int × Nat) := [(6, 267, 1103515245, 732), (7, 238, 1000000, 1119), (7, 277, 1103515245, 1191), (8, 265, 1431655765, 607), (8, 266, 858993459, 608), (8, 267, 252645135, 609)]
def longTab : List (Nat × Nat × Int × Nat) := [(6, 220, -1, 657), (6, 240, 10, 673), (7, 66, 127, 895), (7, 105, 97, 915), (7, 107, 122, 916), (7, 109, 48, 917), (7, 111, 57, 918), (7, 192, 2, 986), (7, 197, 5, 995), (7, 202, 99, 1014), (7, 204, 9, 1015), (7, 209, 3, 1024), (7, 214, 20, 1033), (7, 216, 60, 1034), (7, 221, 30, 1055), (7, 226, 4, 1084), (7, 259, 10, 1143), (7, 261, -1, 1144)]
def strTab : List (Nat × Nat × Nat) := [(4, 123, 2000), (4, 125, 2001), (4, 127, 2002), (4, 129, 2003), (4, 131, 2004), (4, 133, 2005), (4, 134, 2006), (4, 135, 2007)]
def methTab : List (Nat × Nat × Nat × Bool × Nat) := [(1, 26, 1, false, 774), (3, 23, 9, false, 346), (4, 32, 23, false, 341), (4, 37, 8, false, 342), (4, 41, 18, false, 350), (4, 45, 13, false, 362), (4, 49, 19, false, 366), (4, 53, 21, false, 370), (4, 59, 20, false, 358), (4, 63, 14, false, 437), (4, 67, 15, false, 441), (4, 71, 17, false, 452), (4, 80, 10, false, 445), (4, 83, 16, true, 449), (4, 87, 28, false, 456), (4, 99, 29, false, 460), (4, 106, 26, false, 354), (4, 115, 22, true, 374), (4, 119, 11, false, 385), (5, 64, 24, false, 96), (5, 79, 32, false, 570), (5, 83, 36, false, 554), (5, 87, 38, false, 558), (5, 90, 39, false, 562), (5, 94, 42, false, 575), (5, 97, 40, false, 566), (5, 100, 41, false, 571), (6, 57, 99, true, 322), (6, 65, 7, false, 325), (6, 75, 12, false, 337), (6, 85, 25, false, 464), (6, 114, 34, false, 480), (6, 121, 26, false, 488), (6, 130, 35, false, 489), (6, 133, 27, false, 497), (6, 151, 32, false, 501), (6, 154, 52, false, 517), (6, 158, 30, false, 521), (6, 162, 55, false, 533), (6, 166, 29, false, 537), (6, 170, 31, false, 542), (6, 173, 37, false, 550), (6, 176, 100, false, 583), (6, 183, 38, false, 595), (6, 186, 62, false, 600), (6, 190, 185, true, 604), (6, 195, 65, false, 618), (6, 199, 70, false, 638), (6, 209, 71, false, 643), (6, 212, 72, true, 647), (6, 216, 73, true, 650), (6, 222, 76, false, 658), (6, 226, 78, false, 669), (6, 230, 80, true, 674), (6, 234, 77, true, 662), (6, 237, 79, false, 665), (6, 242, 81, true, 677), (6, 246, 4, false, 688), (6, 249, 86, false, 700), (6, 252, 87, false, 704), (6, 256, 5, false, 708), (6, 260, 89, false, 720), (6, 264, 90, false, 724), (6, 272, 6, false, 737), (6, 275, 0, false, 750), (6, 279, 1, false, 758), (6, 283, 3, false, 762), (6, 286, 2, false, 770), (6, 296, 36, false, 783), (6, 306, 33, false, 784), (7, 47, 103, false, 794), (7, 50, 104, false, 798), (7, 68, 101, true, 896), (7, 87, 108, false, 911), (7, 91, 109, false, 931), (7, 95, 110, false, 935), (7, 98, 111, false, 939), (7, 116, 107, false, 919), (7, 120, 113, false, 907), (7, 123, 114, false, 947), (7, 127, 115, false, 951), (7, 131, 112, false, 927), (7, 134, 116, false, 943), (7, 137, 117, false, 923), (7, 140, 125, false, 971), (7, 143, 127, true, 1004), (7, 147, 128, false, 1000), (7, 150, 130, false, 1072), (7, 153, 129, false, 996), (7, 156, 126, false, 1043), (7, 166, 102, true, 975), (7, 170, 131, false, 1068), (7, 173, 132, false, 1076), (7, 176, 134, false, 1060), (7, 179, 133, false, 1064), (7, 182, 123, false, 963), (7, 185, 136, false, 967), (7, 188, 120, false, 982), (7, 194, 121, false, 991), (7, 199, 122, true, 1011), (7, 206, 142, false, 1016), (7, 211, 144, false, 1025), (7, 218, 124, false, 1047), (7, 223, 135, false, 1056), (7, 228, 153, true, 1097), (7, 231, 154, false, 1100), (7, 235, 137, true, 1104), (7, 239, 138, true, 1120), (7, 242, 161, false, 1135), (7, 245, 163, true, 1152), (7, 263, 165, false, 1145), (7, 266, 164, true, 1149), (7, 270, 170, false, 1175), (7, 274, 171, false, 1171), (7, 278, 176, false, 1196), (7, 282, 179, true, 1208), (7, 285, 147, false, 1219), (9, 13, 43, false, 318), (9, 17, 105, false, 891), (9, 18, 44, false, 329), (9, 21, 106, false, 899), (9, 22, 45, false, 333), (9, 26, 118, false, 903), (9, 27, 46, false, 472), (9, 30, 119, false, 955), (9, 31, 47, false, 476), (9, 34, 139, false, 959), (9, 35, 48, false, 484), (9, 39, 140, false, 978), (9, 40, 49, false, 493), (9, 43, 141, false, 987), (9, 44, 50, false, 509), (9, 48, 143, false, 1007), (9, 49, 51, false, 513), (9, 52, 145, false, 1020), (9, 53, 53, false, 525), (9, 56, 146, false, 1029), (9, 57, 54, false, 529), (9, 61, 147, false, 1035), (9, 62, 56, false, 538), (9, 65, 148, false, 1039), (9, 66, 57, false, 546), (9, 69, 149, false, 1051), (9, 70, 58, false, 579), (9, 73, 150, false, 1080), (9, 74, 59, false, 587), (9, 77, 151, false, 1085), (9, 78, 60, false, 591), (9, 81, 152, false, 1089), (9, 82, 61, false, 596), (9, 85, 155, false, 1093), (9, 86, 63, false, 610), (9, 89, 156, false, 1107), (9, 90, 64, false, 614), (9, 93, 157, false, 1111), (9, 94, 66, false, 622), (9, 97, 158, false, 1115), (9, 98, 67, false, 626), (9, 101, 159, false, 1123), (9, 102, 68, false, 630), (9, 105, 160, false, 1127), (9, 106, 69, false, 634), (9, 109, 162, false, 1131), (9, 110, 74, false, 653), (9, 114, 166, false, 1139), (9, 115, 75, false, 680), (9, 119, 167, false, 1155), (9, 120, 82, false, 684), (9, 123, 168, false, 1159), (9, 124, 83, false, 692), (9, 127, 169, false, 1163), (9, 128, 84, false, 696), (9, 131, 172, false, 1167), (9, 132, 85, false, 712), (9, 135, 173, false, 1179), (9, 136, 88, false, 716), (9, 139, 174, false, 1183), (9, 140, 91, false, 728), (9, 143, 175, false, 1187), (9, 144, 92, false, 733), (9, 147, 177, false, 1192), (9, 148, 93, false, 742), (9, 151, 178, false, 1200), (9, 152, 94, false, 746), (9, 155, 180, false, 1204), (9, 156, 95, false, 754), (9, 159, 181, false, 1211), (9, 160, 96, false, 766), (9, 163, 182, false, 1215), (9, 164, 97, false, 775), (9, 167, 183, false, 1220), (9, 168, 98, false, 779), (9, 171, 184, false, 1224)]
def copyTab : List (Nat × Nat × Nat) := [(2, 30, 741), (5, 67, 468), (6, 203, 642)]
/-- own class, parameters, frames and locals of its room, is it static; places of the words code, instanceMethod or static, selects, initialized -/
abbrev mthE : Type := Nat × Nat × Nat × Nat × Bool × Nat × Nat × Nat × Nat
def mthL : List mthE := [
  (1, 2, 0, 0, false, 753, 751, 752, 70), -- 0 X1_renew
  (1, 1, 0, 0, false, 761, 759, 760, 70), -- 1 X1_faultAt
  (1, 2, 1, 22, false, 773, 771, 772, 70), -- 2 X1_faultOfPair
  (1, 2, 0, 0, false, 765, 763, 764, 70), -- 3 X1_put
  (2, 3, 0, 0, false, 691, 689, 690, 66), -- 4 X2_add
  (2, 2, 0, 0, false, 711, 709, 710, 66), -- 5 X2_fit
  (2, 1, 1, 60, false, 740, 738, 739, 66), -- 6 X2_become
  (3, 1, 0, 0, false, 328, 326, 327, 68), -- 7 X3_append
  (3, 0, 1, 22, false, 345, 343, 344, 68), -- 8 X3_take
  (3, 2, 0, 0, false, 349, 348, 0, 68), -- 9 X3_passRun
  (3, 0, 0, 0, false, 448, 446, 447, 68), -- 10 X3_number
  (3, 1, 4, 160, false, 388, 386, 387, 68), -- 11 X3_isWord
  (4, 1, 7, 226, false, 340, 338, 339, 67), -- 12 X4_tell
  (4, 2, 6, 203, false, 365, 364, 3, 67), -- 13 X4_takeLine
  (4, 2, 0, 0, false, 440, 439, 6, 67), -- 14 X4_hasNoRoom
  (4, 1, 2, 44, false, 444, 443, 7, 67), -- 15 X4_takeNumbers
  (4, 2, 0, 0, true, 451, 450, 0, 67), -- 16 X4_most
  (4, 2, 1, 24, false, 455, 454, 8, 67), -- 17 X4_enter
  (4, 1, 1, 22, false, 353, 352, 1, 67), -- 18 X4_checkPlaces
  (4, 2, 1, 22, false, 369, 368, 4, 67), -- 19 X4_expect
  (4, 2, 0, 0, false, 361, 360, 2, 67), -- 20 X4_refuse
  (4, 0, 5, 182, false, 373, 372, 5, 67), -- 21 X4_lineOf
  (4, 1, 0, 0, true, 376, 375, 0, 67), -- 22 X4_word
  (5, 0, 1, 21, false, 95, 93, 94, 65), -- 23 X5_clear
  (5, 0, 0, 0, false, 99, 97, 98, 65), -- 24 X5_takeTurnsByNumber
  (5, 1, 1, 60, false, 467, 465, 466, 65), -- 25 X5_become
  (5, 1, 0, 0, false, 357, 355, 356, 65), -- 26 X5_hasVillage
  (5, 1, 0, 0, false, 500, 498, 499, 65), -- 27 X5_hasBody
  (5, 2, 0, 0, false, 459, 457, 458, 65), -- 28 X5_addVillage
  (5, 4, 0, 0, false, 463, 461, 462, 65), -- 29 X5_addBody
  (5, 1, 0, 0, false, 524, 522, 523, 65), -- 30 X5_bodyRow
  (5, 1, 0, 0, false, 545, 543, 544, 65), -- 31 X5_lacksOfFather
  (5, 1, 0, 0, false, 504, 502, 503, 65), -- 32 X5_lacks
  (5, 0, 1, 23, false, 787, 785, 786, 65), -- 33 X5_lacksOfLying
  (5, 1, 0, 0, false, 483, 481, 482, 65), -- 34 X5_inWay
  (5, 1, 0, 0, false, 492, 490, 491, 65), -- 35 X5_lyingAt
  (5, 0, 0, 0, false, 557, 555, 556, 65), -- 36 X5_allMeans
  (5, 1, 3, 68, false, 553, 551, 552, 65), -- 37 X5_pass
  (5, 0, 2, 47, false, 561, 559, 560, 65), -- 38 X5_passOne
  (5, 1, 1, 23, false, 565, 564, 11, 65), -- 39 X5_takeTurn
  (5, 1, 0, 0, false, 569, 568, 12, 65), -- 40 X5_firstLyingAt
  (5, 2, 0, 0, false, 574, 573, 13, 65), -- 41 X5_handOn
  (5, 0, 0, 0, false, 578, 577, 14, 65), -- 42 X5_fineAll
  (6, 1, 1, 22, false, 321, 319, 320, 64), -- 43 X6_feed
  (6, 1, 1, 22, false, 332, 330, 331, 64), -- 44 X6_end
  (6, 0, 8, 249, false, 336, 334, 335, 64), -- 45 X6_text
  (6, 0, 0, 0, false, 475, 473, 474, 64), -- 46 X6_fault
  (6, 1, 1, 23, false, 479, 477, 478, 64), -- 47 X6_rule
  (6, 2, 1, 23, false, 487, 485, 486, 64), -- 48 X6_village
  (6, 2, 1, 23, false, 496, 494, 495, 64), -- 49 X6_body
  (6, 3, 1, 22, false, 512, 510, 511, 64), -- 50 X6_grant
  (6, 3, 2, 44, false, 516, 514, 515, 64), -- 51 X6_alter
  (6, 2, 1, 22, false, 520, 519, 9, 64), -- 52 X6_mayBecome
  (6, 2, 1, 22, false, 528, 526, 527, 64), -- 53 X6_set
  (6, 4, 2, 48, false, 532, 530, 531, 64), -- 54 X6_find
  (6, 4, 1, 24, false, 536, 535, 10, 64), -- 55 X6_addFound
  (6, 1, 1, 23, false, 541, 539, 540, 64), -- 56 X6_hire
  (6, 1, 4, 91, false, 549, 547, 548, 64), -- 57 X6_nights
  (6, 2, 4, 101, false, 582, 580, 581, 64), -- 58 X6_runs
  (6, 3, 4, 101, false, 590, 588, 589, 64), -- 59 X6_ahead
  (6, 1, 3, 101, false, 594, 592, 593, 64), -- 60 X6_settled
  (6, 1, 5, 124, false, 599, 597, 598, 64), -- 61 X6_dear
  (6, 2, 4, 101, false, 603, 602, 16, 64), -- 62 X6_provedByPrice
  (6, 1, 4, 101, false, 613, 611, 612, 64), -- 63 X6_mild
  (6, 2, 5, 125, false, 617, 615, 616, 64), -- 64 X6_watch
  (6, 3, 4, 101, false, 621, 620, 17, 64), -- 65 X6_meansBehind
  (6, 3, 4, 101, false, 625, 623, 624, 64), -- 66 X6_place
  (6, 2, 4, 101, false, 629, 627, 628, 64), -- 67 X6_kin
  (6, 1, 4, 101, false, 633, 631, 632, 64), -- 68 X6_late
  (6, 2, 6, 147, false, 637, 635, 636, 64), -- 69 X6_order
  (6, 1, 5, 123, false, 641, 640, 18, 64), -- 70 X6_findBestTurns
  (6, 1, 4, 101, false, 646, 645, 19, 64), -- 71 X6_paidByTurns
  (6, 2, 1, 23, true, 649, 648, 0, 64), -- 72 X6_arrangeNext
  (6, 3, 0, 0, true, 652, 651, 0, 64), -- 73 X6_swap
  (6, 3, 6, 155, false, 656, 654, 655, 64), -- 74 X6_mean
  (6, 4, 6, 155, false, 683, 681, 682, 64), -- 75 X6_luck
  (6, 3, 5, 126, false, 661, 660, 20, 64), -- 76 X6_weighAll
  (6, 3, 0, 0, true, 664, 663, 0, 64), -- 77 X6_weightOf
  (6, 0, 1, 23, false, 672, 671, 22, 64), -- 78 X6_weightOfAll
  (6, 3, 4, 101, false, 668, 667, 21, 64), -- 79 X6_outcome
  (6, 3, 1, 26, true, 676, 675, 0, 64), -- 80 X6_partOfFraction
  (6, 2, 0, 0, true, 679, 678, 0, 64), -- 81 X6_greatestDivisor
  (6, 3, 1, 23, false, 687, 685, 686, 64), -- 82 X6_see
  (6, 1, 1, 22, false, 695, 693, 694, 64), -- 83 X6_forget
  (6, 1, 5, 127, false, 699, 697, 698, 64), -- 84 X6_kinds
  (6, 1, 5, 127, false, 715, 713, 714, 64), -- 85 X6_fathers
  (6, 3, 4, 101, false, 703, 702, 23, 64), -- 86 X6_asSeenBy
  (6, 1, 3, 68, false, 707, 706, 24, 64), -- 87 X6_isAsSeen
  (6, 2, 5, 127, false, 719, 717, 718, 64), -- 88 X6_look
  (6, 1, 3, 101, false, 723, 722, 25, 64), -- 89 X6_noteSpots
  (6, 2, 0, 0, false, 727, 726, 26, 64), -- 90 X6_leftAtWorst
  (6, 3, 4, 101, false, 731, 729, 730, 64), -- 91 X6_drift
  (6, 1, 2, 81, false, 736, 734, 735, 64), -- 92 X6_keep
  (6, 1, 2, 81, false, 745, 743, 744, 64), -- 93 X6_back
  (6, 3, 1, 23, false, 749, 747, 748, 64), -- 94 X6_sheet
  (6, 3, 1, 22, false, 757, 755, 756, 64), -- 95 X6_lay
  (6, 4, 2, 48, false, 769, 767, 768, 64), -- 96 X6_read
  (6, 0, 0, 0, false, 778, 776, 777, 64), -- 97 X6_torn
  (6, 1, 2, 45, false, 782, 780, 781, 64), -- 98 X6_count
  (6, 3, 0, 0, true, 324, 323, 0, 64), -- 99 X6_within
  (6, 0, 2, 81, false, 586, 585, 15, 64), -- 100 X6_fromNow
  (7, 3, 0, 0, true, 898, 897, 0, 71), -- 101 X7_in
  (7, 1, 0, 0, true, 977, 976, 0, 71), -- 102 X7_flag
  (7, 0, 0, 0, false, 797, 796, 27, 71), -- 103 X7_firstDraft
  (7, 0, 0, 0, false, 801, 800, 28, 71), -- 104 X7_keepDraft
  (7, 1, 1, 25, false, 894, 892, 893, 71), -- 105 X7_feed
  (7, 1, 1, 25, false, 902, 900, 901, 71), -- 106 X7_end
  (7, 2, 0, 0, false, 922, 921, 31, 71), -- 107 X7_needs
  (7, 1, 0, 0, false, 914, 913, 30, 71), -- 108 X7_byteAt
  (7, 4, 1, 21, false, 934, 933, 34, 71), -- 109 X7_is
  (7, 4, 1, 21, false, 938, 937, 35, 71), -- 110 X7_ends
  (7, 0, 2, 45, false, 942, 941, 36, 71), -- 111 X7_kindNow
  (7, 0, 3, 65, false, 930, 929, 33, 71), -- 112 X7_lineNow
  (7, 0, 1, 25, false, 910, 909, 29, 71), -- 113 X7_takes
  (7, 2, 2, 46, false, 950, 949, 38, 71), -- 114 X7_readNumber
  (7, 1, 3, 69, false, 954, 953, 39, 71), -- 115 X7_readBody
  (7, 1, 4, 91, false, 946, 945, 37, 71), -- 116 X7_readLineOf
  (7, 0, 5, 112, false, 926, 925, 32, 71), -- 117 X7_readLine
  (7, 0, 6, 133, false, 906, 904, 905, 71), -- 118 X7_text
  (7, 0, 0, 0, false, 958, 956, 957, 71), -- 119 X7_fault
  (7, 1, 1, 25, false, 985, 984, 43, 71), -- 120 X7_isVillage
  (7, 1, 1, 25, false, 994, 993, 44, 71), -- 121 X7_isBody
  (7, 1, 1, 25, true, 1013, 1012, 0, 71), -- 122 X7_isPart
  (7, 0, 0, 0, false, 966, 965, 40, 71), -- 123 X7_starts
  (7, 0, 0, 0, false, 1050, 1049, 50, 71), -- 124 X7_settles
  (7, 2, 0, 0, false, 974, 973, 42, 71), -- 125 X7_of
  (7, 3, 0, 0, false, 1046, 1045, 49, 71), -- 126 X7_becomesOf
  (7, 2, 0, 0, true, 1006, 1005, 0, 71), -- 127 X7_needOf
  (7, 2, 1, 22, false, 1003, 1002, 46, 71), -- 128 X7_lacksOf
  (7, 1, 2, 45, false, 999, 998, 45, 71), -- 129 X7_lacks
  (7, 1, 1, 22, false, 1075, 1074, 55, 71), -- 130 X7_firstAt
  (7, 1, 3, 66, false, 1071, 1070, 54, 71), -- 131 X7_villageGoes
  (7, 0, 1, 23, false, 1079, 1078, 56, 71), -- 132 X7_crownerComes
  (7, 0, 4, 90, false, 1067, 1066, 53, 71), -- 133 X7_nightGoes
  (7, 0, 0, 0, false, 1063, 1062, 52, 71), -- 134 X7_allMeans
  (7, 1, 5, 111, false, 1059, 1058, 51, 71), -- 135 X7_paidIn
  (7, 1, 1, 22, false, 970, 969, 41, 71), -- 136 X7_inWay
  (7, 1, 0, 0, true, 1106, 1105, 0, 71), -- 137 X7_bitsOf
  (7, 2, 0, 0, true, 1122, 1121, 0, 71), -- 138 X7_lesser
  (7, 1, 2, 45, false, 962, 960, 961, 71), -- 139 X7_rule
  (7, 2, 2, 46, false, 981, 979, 980, 71), -- 140 X7_village
  (7, 2, 3, 66, false, 990, 988, 989, 71), -- 141 X7_body
  (7, 2, 0, 0, false, 1019, 1018, 47, 71), -- 142 X7_becomes
  (7, 3, 2, 46, false, 1010, 1008, 1009, 71), -- 143 X7_grant
  (7, 1, 0, 0, false, 1028, 1027, 48, 71), -- 144 X7_liesStill
  (7, 3, 2, 46, false, 1023, 1021, 1022, 71), -- 145 X7_alter
  (7, 2, 1, 25, false, 1032, 1030, 1031, 71), -- 146 X7_set
  (7, 4, 2, 46, false, 1038, 1036, 1037, 71), -- 147 X7_find
  (7, 1, 3, 66, false, 1042, 1040, 1041, 71), -- 148 X7_hire
  (7, 1, 6, 134, false, 1054, 1052, 1053, 71), -- 149 X7_nights
  (7, 2, 6, 134, false, 1083, 1081, 1082, 71), -- 150 X7_runs
  (7, 3, 6, 134, false, 1088, 1086, 1087, 71), -- 151 X7_ahead
  (7, 1, 5, 111, false, 1092, 1090, 1091, 71), -- 152 X7_settled
  (7, 1, 1, 25, true, 1099, 1098, 0, 71), -- 153 X7_isJudged
  (7, 3, 6, 134, false, 1103, 1102, 57, 71), -- 154 X7_paidWith
  (7, 1, 7, 157, false, 1096, 1094, 1095, 71), -- 155 X7_dear
  (7, 1, 7, 157, false, 1110, 1108, 1109, 71), -- 156 X7_mild
  (7, 2, 7, 157, false, 1114, 1112, 1113, 71), -- 157 X7_watch
  (7, 3, 7, 157, false, 1118, 1116, 1117, 71), -- 158 X7_place
  (7, 2, 7, 157, false, 1126, 1124, 1125, 71), -- 159 X7_kin
  (7, 1, 7, 157, false, 1130, 1128, 1129, 71), -- 160 X7_late
  (7, 1, 0, 0, false, 1138, 1137, 58, 71), -- 161 X7_isOrder
  (7, 2, 6, 134, false, 1134, 1132, 1133, 71), -- 162 X7_order
  (7, 2, 0, 0, true, 1154, 1153, 0, 71), -- 163 X7_common
  (7, 3, 1, 29, true, 1151, 1150, 0, 71), -- 164 X7_told
  (7, 3, 6, 134, false, 1148, 1147, 59, 71), -- 165 X7_findOdds
  (7, 3, 7, 163, false, 1142, 1140, 1141, 71), -- 166 X7_mean
  (7, 4, 7, 163, false, 1158, 1156, 1157, 71), -- 167 X7_luck
  (7, 3, 2, 46, false, 1162, 1160, 1161, 71), -- 168 X7_see
  (7, 1, 1, 25, false, 1166, 1164, 1165, 71), -- 169 X7_forget
  (7, 2, 5, 111, false, 1178, 1177, 61, 71), -- 170 X7_isSoWith
  (7, 1, 6, 136, false, 1174, 1173, 60, 71), -- 171 X7_kindsOf
  (7, 1, 7, 159, false, 1170, 1168, 1169, 71), -- 172 X7_kinds
  (7, 1, 6, 136, false, 1182, 1180, 1181, 71), -- 173 X7_fathers
  (7, 2, 6, 136, false, 1186, 1184, 1185, 71), -- 174 X7_look
  (7, 3, 5, 111, false, 1190, 1188, 1189, 71), -- 175 X7_drift
  (7, 2, 0, 0, false, 1199, 1198, 62, 71), -- 176 X7_copies
  (7, 1, 1, 25, false, 1195, 1193, 1194, 71), -- 177 X7_keep
  (7, 1, 1, 25, false, 1203, 1201, 1202, 71), -- 178 X7_back
  (7, 2, 1, 25, true, 1210, 1209, 0, 71), -- 179 X7_isSheet
  (7, 3, 2, 46, false, 1207, 1205, 1206, 71), -- 180 X7_sheet
  (7, 3, 2, 46, false, 1214, 1212, 1213, 71), -- 181 X7_lay
  (7, 4, 3, 71, false, 1218, 1216, 1217, 71), -- 182 X7_read
  (7, 0, 0, 0, false, 1223, 1221, 1222, 71), -- 183 X7_torn
  (7, 1, 3, 66, false, 1227, 1225, 1226, 71), -- 184 X7_count
  (8, 1, 0, 0, true, 606, 605, 0, 77), -- 185 J6_bitCount_0f7a4
  (9, 1, 9, 271, true, 0, 0, 0, 0)] -- 186 L_law
abbrev plNat : Nat := 470
abbrev plSta : Nat := 469
abbrev plSys : Nat := 76
def layP0 : List Nat := [259, 261, 263]
def layP1 : List Nat := [278, 280, 282, 284]
def layP2 : List Nat := [184, 186, 188, 190]
def layP3 : List Nat := [213, 215, 217, 219]
def layP4 : List Nat := [230, 232, 234, 236, 238]
def layP5 : List Nat := [139, 141, 143, 145, 147, 149, 151, 153, 155, 157, 159, 161, 163, 165, 167, 169]
def layP6 : List Nat := [297, 299, 301, 303, 305, 307, 309, 311, 313, 315]
def layP7 : List Nat := [831, 833, 835, 837, 839, 841, 843, 845, 847, 849, 851, 853, 855, 857, 859, 861, 863, 865, 867, 869, 871, 873, 875, 877, 879, 881, 883, 885, 887]
abbrev nZ : Nat := 187
abbrev zX1_renew : Nat := 0
abbrev zX1_faultAt : Nat := 1
abbrev zX1_faultOfPair : Nat := 2
abbrev zX1_put : Nat := 3
abbrev zX2_add : Nat := 4
abbrev zX2_fit : Nat := 5
abbrev zX2_become : Nat := 6
abbrev zX3_append : Nat := 7
abbrev zX3_take : Nat := 8
abbrev zX3_passRun : Nat := 9
abbrev zX3_number : Nat := 10
abbrev zX3_isWord : Nat := 11
abbrev zX4_tell : Nat := 12
abbrev zX4_takeLine : Nat := 13
abbrev zX4_hasNoRoom : Nat := 14
abbrev zX4_takeNumbers : Nat := 15
abbrev zX4_most : Nat := 16
abbrev zX4_enter : Nat := 17
abbrev zX4_checkPlaces : Nat := 18
abbrev zX4_expect : Nat := 19
abbrev zX4_refuse : Nat := 20
abbrev zX4_lineOf : Nat := 21
abbrev zX4_word : Nat := 22
abbrev zX5_clear : Nat := 23
abbrev zX5_takeTurnsByNumber : Nat := 24
abbrev zX5_become : Nat := 25
abbrev zX5_hasVillage : Nat := 26
abbrev zX5_hasBody : Nat := 27
abbrev zX5_addVillage : Nat := 28
abbrev zX5_addBody : Nat := 29
abbrev zX5_bodyRow : Nat := 30
abbrev zX5_lacksOfFather : Nat := 31
abbrev zX5_lacks : Nat := 32
abbrev zX5_lacksOfLying : Nat := 33
abbrev zX5_inWay : Nat := 34
abbrev zX5_lyingAt : Nat := 35
abbrev zX5_allMeans : Nat := 36
abbrev zX5_pass : Nat := 37
abbrev zX5_passOne : Nat := 38
abbrev zX5_takeTurn : Nat := 39
abbrev zX5_firstLyingAt : Nat := 40
abbrev zX5_handOn : Nat := 41
abbrev zX5_fineAll : Nat := 42
abbrev zX6_feed : Nat := 43
abbrev zX6_end : Nat := 44
abbrev zX6_text : Nat := 45
abbrev zX6_fault : Nat := 46
abbrev zX6_rule : Nat := 47
abbrev zX6_village : Nat := 48
abbrev zX6_body : Nat := 49
abbrev zX6_grant : Nat := 50
abbrev zX6_alter : Nat := 51
abbrev zX6_mayBecome : Nat := 52
abbrev zX6_set : Nat := 53
abbrev zX6_find : Nat := 54
abbrev zX6_addFound : Nat := 55
abbrev zX6_hire : Nat := 56
abbrev zX6_nights : Nat := 57
abbrev zX6_runs : Nat := 58
abbrev zX6_ahead : Nat := 59
abbrev zX6_settled : Nat := 60
abbrev zX6_dear : Nat := 61
abbrev zX6_provedByPrice : Nat := 62
abbrev zX6_mild : Nat := 63
abbrev zX6_watch : Nat := 64
abbrev zX6_meansBehind : Nat := 65
abbrev zX6_place : Nat := 66
abbrev zX6_kin : Nat := 67
abbrev zX6_late : Nat := 68
abbrev zX6_order : Nat := 69
abbrev zX6_findBestTurns : Nat := 70
abbrev zX6_paidByTurns : Nat := 71
abbrev zX6_arrangeNext : Nat := 72
abbrev zX6_swap : Nat := 73
abbrev zX6_mean : Nat := 74
abbrev zX6_luck : Nat := 75
abbrev zX6_weighAll : Nat := 76
abbrev zX6_weightOf : Nat := 77
abbrev zX6_weightOfAll : Nat := 78
abbrev zX6_outcome : Nat := 79
abbrev zX6_partOfFraction : Nat := 80
abbrev zX6_greatestDivisor : Nat := 81
abbrev zX6_see : Nat := 82
abbrev zX6_forget : Nat := 83
abbrev zX6_kinds : Nat := 84
abbrev zX6_fathers : Nat := 85
abbrev zX6_asSeenBy : Nat := 86
abbrev zX6_isAsSeen : Nat := 87
abbrev zX6_look : Nat := 88
abbrev zX6_noteSpots : Nat := 89
abbrev zX6_leftAtWorst : Nat := 90
abbrev zX6_drift : Nat := 91
abbrev zX6_keep : Nat := 92
abbrev zX6_back : Nat := 93
abbrev zX6_sheet : Nat := 94
abbrev zX6_lay : Nat := 95
abbrev zX6_read : Nat := 96
abbrev zX6_torn : Nat := 97
abbrev zX6_count : Nat := 98
abbrev zX6_within : Nat := 99
abbrev zX6_fromNow : Nat := 100
abbrev zX7_in : Nat := 101
abbrev zX7_flag : Nat := 102
abbrev zX7_firstDraft : Nat := 103
abbrev zX7_keepDraft : Nat := 104
abbrev zX7_feed : Nat := 105
abbrev zX7_end : Nat := 106
abbrev zX7_needs : Nat := 107
abbrev zX7_byteAt : Nat := 108
abbrev zX7_is : Nat := 109
abbrev zX7_ends : Nat := 110
abbrev zX7_kindNow : Nat := 111
abbrev zX7_lineNow : Nat := 112
abbrev zX7_takes : Nat := 113
abbrev zX7_readNumber : Nat := 114
abbrev zX7_readBody : Nat := 115
abbrev zX7_readLineOf : Nat := 116
abbrev zX7_readLine : Nat := 117
abbrev zX7_text : Nat := 118
abbrev zX7_fault : Nat := 119
abbrev zX7_isVillage : Nat := 120
abbrev zX7_isBody : Nat := 121
abbrev zX7_isPart : Nat := 122
abbrev zX7_starts : Nat := 123
abbrev zX7_settles : Nat := 124
abbrev zX7_of : Nat := 125
abbrev zX7_becomesOf : Nat := 126
abbrev zX7_needOf : Nat := 127
abbrev zX7_lacksOf : Nat := 128
abbrev zX7_lacks : Nat := 129
abbrev zX7_firstAt : Nat := 130
abbrev zX7_villageGoes : Nat := 131
abbrev zX7_crownerComes : Nat := 132
abbrev zX7_nightGoes : Nat := 133
abbrev zX7_allMeans : Nat := 134
abbrev zX7_paidIn : Nat := 135
abbrev zX7_inWay : Nat := 136
abbrev zX7_bitsOf : Nat := 137
abbrev zX7_lesser : Nat := 138
abbrev zX7_rule : Nat := 139
abbrev zX7_village : Nat := 140
abbrev zX7_body : Nat := 141
abbrev zX7_becomes : Nat := 142
abbrev zX7_grant : Nat := 143
abbrev zX7_liesStill : Nat := 144
abbrev zX7_alter : Nat := 145
abbrev zX7_set : Nat := 146
abbrev zX7_find : Nat := 147
abbrev zX7_hire : Nat := 148
abbrev zX7_nights : Nat := 149
abbrev zX7_runs : Nat := 150
abbrev zX7_ahead : Nat := 151
abbrev zX7_settled : Nat := 152
abbrev zX7_isJudged : Nat := 153
abbrev zX7_paidWith : Nat := 154
abbrev zX7_dear : Nat := 155
abbrev zX7_mild : Nat := 156
abbrev zX7_watch : Nat := 157
abbrev zX7_place : Nat := 158
abbrev zX7_kin : Nat := 159
abbrev zX7_late : Nat := 160
abbrev zX7_isOrder : Nat := 161
abbrev zX7_order : Nat := 162
abbrev zX7_common : Nat := 163
abbrev zX7_told : Nat := 164
abbrev zX7_findOdds : Nat := 165
abbrev zX7_mean : Nat := 166
abbrev zX7_luck : Nat := 167
abbrev zX7_see : Nat := 168
abbrev zX7_forget : Nat := 169
abbrev zX7_isSoWith : Nat := 170
abbrev zX7_kindsOf : Nat := 171
abbrev zX7_kinds : Nat := 172
abbrev zX7_fathers : Nat := 173
abbrev zX7_look : Nat := 174
abbrev zX7_drift : Nat := 175
abbrev zX7_copies : Nat := 176
abbrev zX7_keep : Nat := 177
abbrev zX7_back : Nat := 178
abbrev zX7_isSheet : Nat := 179
abbrev zX7_sheet : Nat := 180
abbrev zX7_lay : Nat := 181
abbrev zX7_read : Nat := 182
abbrev zX7_torn : Nat := 183
abbrev zX7_count : Nat := 184
abbrev zJ6_bitCount_0f7a4 : Nat := 185
abbrev zL_law : Nat := 186

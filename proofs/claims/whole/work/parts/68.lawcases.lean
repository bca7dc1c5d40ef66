set_option maxRecDepth 20000 in
theorem wv_L_31 {U : State} (h : pTab U) (a : Array Value) : pWV RL 31 yX9_feed cX9_feed 5 (some .int) U a := ⟨h.1 _ (List.mem_of_getElem? (i := 284) rfl) rfl a, h.1 _ (List.mem_of_getElem? (i := 285) rfl) rfl a, h.1 _ (List.mem_of_getElem? (i := 286) rfl) rfl a, h.1 _ (List.mem_of_getElem? (i := 29) rfl) rfl a, h.1 _ (List.mem_of_getElem? (i := 287) rfl) rfl a⟩
set_option maxRecDepth 20000 in
theorem wv_L_35 {U : State} (h : pTab U) (a : Array Value) : pWV RL 35 yX10_feed cX10_feed 5 (some .int) U a := ⟨h.1 _ (List.mem_of_getElem? (i := 930) rfl) rfl a, h.1 _ (List.mem_of_getElem? (i := 931) rfl) rfl a, h.1 _ (List.mem_of_getElem? (i := 932) rfl) rfl a, h.1 _ (List.mem_of_getElem? (i := 39) rfl) rfl a, h.1 _ (List.mem_of_getElem? (i := 933) rfl) rfl a⟩
set_option maxRecDepth 20000 in
theorem wv_L_36 {U : State} (h : pTab U) (a : Array Value) : pWV RL 36 yX9_lay cX9_lay 3 (some .int) U a := ⟨h.1 _ (List.mem_of_getElem? (i := 300) rfl) rfl a, h.1 _ (List.mem_of_getElem? (i := 301) rfl) rfl a, h.1 _ (List.mem_of_getElem? (i := 302) rfl) rfl a, h.1 _ (List.mem_of_getElem? (i := 29) rfl) rfl a, h.1 _ (List.mem_of_getElem? (i := 303) rfl) rfl a⟩
set_option maxRecDepth 20000 in
theorem wv_L_39 {U : State} (h : pTab U) (a : Array Value) : pWV RL 39 yX10_lay cX10_lay 3 (some .int) U a := ⟨h.1 _ (List.mem_of_getElem? (i := 939) rfl) rfl a, h.1 _ (List.mem_of_getElem? (i := 940) rfl) rfl a, h.1 _ (List.mem_of_getElem? (i := 941) rfl) rfl a, h.1 _ (List.mem_of_getElem? (i := 39) rfl) rfl a, h.1 _ (List.mem_of_getElem? (i := 942) rfl) rfl a⟩
set_option maxRecDepth 20000 in
theorem wv_L_45 {U : State} (h : pTab U) (a : Array Value) : pWV RL 45 yX10_octet cX10_octet 4 (some .byte) U a := ⟨h.1 _ (List.mem_of_getElem? (i := 947) rfl) rfl a, h.1 _ (List.mem_of_getElem? (i := 948) rfl) rfl a, h.1 _ (List.mem_of_getElem? (i := 949) rfl) rfl a, h.1 _ (List.mem_of_getElem? (i := 39) rfl) rfl a, h.1 _ (List.mem_of_getElem? (i := 950) rfl) rfl a⟩
set_option maxRecDepth 20000 in
theorem wv_L_46 {U : State} (h : pTab U) (a : Array Value) : pWV RL 46 yX10_thrown cX10_thrown 1 (some .int) U a := ⟨h.1 _ (List.mem_of_getElem? (i := 926) rfl) rfl a, h.1 _ (List.mem_of_getElem? (i := 927) rfl) rfl a, h.1 _ (List.mem_of_getElem? (i := 928) rfl) rfl a, h.1 _ (List.mem_of_getElem? (i := 39) rfl) rfl a, h.1 _ (List.mem_of_getElem? (i := 929) rfl) rfl a⟩
set_option maxRecDepth 20000 in
theorem wv_L_50 {U : State} (h : pTab U) (a : Array Value) : pWV RL 50 yX9_plant cX9_plant 5 (some .int) U a := ⟨h.1 _ (List.mem_of_getElem? (i := 327) rfl) rfl a, h.1 _ (List.mem_of_getElem? (i := 328) rfl) rfl a, h.1 _ (List.mem_of_getElem? (i := 329) rfl) rfl a, h.1 _ (List.mem_of_getElem? (i := 29) rfl) rfl a, h.1 _ (List.mem_of_getElem? (i := 330) rfl) rfl a⟩
set_option maxRecDepth 20000 in
theorem wv_L_54 {U : State} (h : pTab U) (a : Array Value) : pWV RL 54 yX10_plant cX10_plant 4 (some .int) U a := ⟨h.1 _ (List.mem_of_getElem? (i := 951) rfl) rfl a, h.1 _ (List.mem_of_getElem? (i := 952) rfl) rfl a, h.1 _ (List.mem_of_getElem? (i := 953) rfl) rfl a, h.1 _ (List.mem_of_getElem? (i := 39) rfl) rfl a, h.1 _ (List.mem_of_getElem? (i := 954) rfl) rfl a⟩
set_option maxRecDepth 20000 in
theorem wv_L_55 {U : State} (h : pTab U) (a : Array Value) : pWV RL 55 yX9_fails cX9_fails 5 (some .int) U a := ⟨h.1 _ (List.mem_of_getElem? (i := 340) rfl) rfl a, h.1 _ (List.mem_of_getElem? (i := 341) rfl) rfl a, h.1 _ (List.mem_of_getElem? (i := 342) rfl) rfl a, h.1 _ (List.mem_of_getElem? (i := 29) rfl) rfl a, h.1 _ (List.mem_of_getElem? (i := 343) rfl) rfl a⟩
set_option maxRecDepth 20000 in
theorem wv_L_59 {U : State} (h : pTab U) (a : Array Value) : pWV RL 59 yX10_fails cX10_fails 4 (some .int) U a := ⟨h.1 _ (List.mem_of_getElem? (i := 955) rfl) rfl a, h.1 _ (List.mem_of_getElem? (i := 956) rfl) rfl a, h.1 _ (List.mem_of_getElem? (i := 957) rfl) rfl a, h.1 _ (List.mem_of_getElem? (i := 39) rfl) rfl a, h.1 _ (List.mem_of_getElem? (i := 958) rfl) rfl a⟩
set_option maxRecDepth 20000 in
theorem wv_L_60 {U : State} (h : pTab U) (a : Array Value) : pWV RL 60 yX9_judge cX9_judge 3 (some .int) U a := ⟨h.1 _ (List.mem_of_getElem? (i := 347) rfl) rfl a, h.1 _ (List.mem_of_getElem? (i := 348) rfl) rfl a, h.1 _ (List.mem_of_getElem? (i := 349) rfl) rfl a, h.1 _ (List.mem_of_getElem? (i := 29) rfl) rfl a, h.1 _ (List.mem_of_getElem? (i := 350) rfl) rfl a⟩
set_option maxRecDepth 20000 in
theorem wv_L_63 {U : State} (h : pTab U) (a : Array Value) : pWV RL 63 yX10_judge cX10_judge 2 (some .int) U a := ⟨h.1 _ (List.mem_of_getElem? (i := 959) rfl) rfl a, h.1 _ (List.mem_of_getElem? (i := 960) rfl) rfl a, h.1 _ (List.mem_of_getElem? (i := 961) rfl) rfl a, h.1 _ (List.mem_of_getElem? (i := 39) rfl) rfl a, h.1 _ (List.mem_of_getElem? (i := 962) rfl) rfl a⟩
set_option maxRecDepth 20000 in
theorem wv_L_64 {U : State} (h : pTab U) (a : Array Value) : pWV RL 64 yX9_define cX9_define 4 (some .int) U a := ⟨h.1 _ (List.mem_of_getElem? (i := 365) rfl) rfl a, h.1 _ (List.mem_of_getElem? (i := 366) rfl) rfl a, h.1 _ (List.mem_of_getElem? (i := 367) rfl) rfl a, h.1 _ (List.mem_of_getElem? (i := 29) rfl) rfl a, h.1 _ (List.mem_of_getElem? (i := 368) rfl) rfl a⟩
set_option maxRecDepth 20000 in
theorem wv_L_67 {U : State} (h : pTab U) (a : Array Value) : pWV RL 67 yX10_define cX10_define 5 (some .int) U a := ⟨h.1 _ (List.mem_of_getElem? (i := 972) rfl) rfl a, h.1 _ (List.mem_of_getElem? (i := 973) rfl) rfl a, h.1 _ (List.mem_of_getElem? (i := 974) rfl) rfl a, h.1 _ (List.mem_of_getElem? (i := 39) rfl) rfl a, h.1 _ (List.mem_of_getElem? (i := 975) rfl) rfl a⟩
set_option maxRecDepth 20000 in
theorem wv_L_68 {U : State} (h : pTab U) (a : Array Value) : pWV RL 68 yX9_unit cX9_unit 3 (some .int) U a := ⟨h.1 _ (List.mem_of_getElem? (i := 389) rfl) rfl a, h.1 _ (List.mem_of_getElem? (i := 390) rfl) rfl a, h.1 _ (List.mem_of_getElem? (i := 391) rfl) rfl a, h.1 _ (List.mem_of_getElem? (i := 29) rfl) rfl a, h.1 _ (List.mem_of_getElem? (i := 392) rfl) rfl a⟩
set_option maxRecDepth 20000 in
theorem wv_L_71 {U : State} (h : pTab U) (a : Array Value) : pWV RL 71 yX10_unit cX10_unit 3 (some .int) U a := ⟨h.1 _ (List.mem_of_getElem? (i := 976) rfl) rfl a, h.1 _ (List.mem_of_getElem? (i := 977) rfl) rfl a, h.1 _ (List.mem_of_getElem? (i := 978) rfl) rfl a, h.1 _ (List.mem_of_getElem? (i := 39) rfl) rfl a, h.1 _ (List.mem_of_getElem? (i := 979) rfl) rfl a⟩
set_option maxRecDepth 20000 in
theorem wv_L_72 {U : State} (h : pTab U) (a : Array Value) : pWV RL 72 yX9_marks cX9_marks 4 (some .int) U a := ⟨h.1 _ (List.mem_of_getElem? (i := 408) rfl) rfl a, h.1 _ (List.mem_of_getElem? (i := 409) rfl) rfl a, h.1 _ (List.mem_of_getElem? (i := 410) rfl) rfl a, h.1 _ (List.mem_of_getElem? (i := 29) rfl) rfl a, h.1 _ (List.mem_of_getElem? (i := 411) rfl) rfl a⟩
set_option maxRecDepth 20000 in
theorem wv_L_75 {U : State} (h : pTab U) (a : Array Value) : pWV RL 75 yX10_marks cX10_marks 4 (some .int) U a := ⟨h.1 _ (List.mem_of_getElem? (i := 989) rfl) rfl a, h.1 _ (List.mem_of_getElem? (i := 990) rfl) rfl a, h.1 _ (List.mem_of_getElem? (i := 991) rfl) rfl a, h.1 _ (List.mem_of_getElem? (i := 39) rfl) rfl a, h.1 _ (List.mem_of_getElem? (i := 992) rfl) rfl a⟩
set_option maxRecDepth 20000 in
theorem wv_L_76 {U : State} (h : pTab U) (a : Array Value) : pWV RL 76 yX9_anew cX9_anew 2 (some .int) U a := ⟨h.1 _ (List.mem_of_getElem? (i := 424) rfl) rfl a, h.1 _ (List.mem_of_getElem? (i := 425) rfl) rfl a, h.1 _ (List.mem_of_getElem? (i := 426) rfl) rfl a, h.1 _ (List.mem_of_getElem? (i := 29) rfl) rfl a, h.1 _ (List.mem_of_getElem? (i := 427) rfl) rfl a⟩
set_option maxRecDepth 20000 in
theorem wv_L_79 {U : State} (h : pTab U) (a : Array Value) : pWV RL 79 yX10_anew cX10_anew 3 (some .int) U a := ⟨h.1 _ (List.mem_of_getElem? (i := 997) rfl) rfl a, h.1 _ (List.mem_of_getElem? (i := 998) rfl) rfl a, h.1 _ (List.mem_of_getElem? (i := 999) rfl) rfl a, h.1 _ (List.mem_of_getElem? (i := 39) rfl) rfl a, h.1 _ (List.mem_of_getElem? (i := 1000) rfl) rfl a⟩
set_option maxRecDepth 20000 in
theorem wv_L_80 {U : State} (h : pTab U) (a : Array Value) : pWV RL 80 yX9_option cX9_option 4 (some .int) U a := ⟨h.1 _ (List.mem_of_getElem? (i := 441) rfl) rfl a, h.1 _ (List.mem_of_getElem? (i := 442) rfl) rfl a, h.1 _ (List.mem_of_getElem? (i := 443) rfl) rfl a, h.1 _ (List.mem_of_getElem? (i := 29) rfl) rfl a, h.1 _ (List.mem_of_getElem? (i := 444) rfl) rfl a⟩
set_option maxRecDepth 20000 in
theorem wv_L_83 {U : State} (h : pTab U) (a : Array Value) : pWV RL 83 yX10_option cX10_option 4 (some .int) U a := ⟨h.1 _ (List.mem_of_getElem? (i := 1001) rfl) rfl a, h.1 _ (List.mem_of_getElem? (i := 1002) rfl) rfl a, h.1 _ (List.mem_of_getElem? (i := 1003) rfl) rfl a, h.1 _ (List.mem_of_getElem? (i := 39) rfl) rfl a, h.1 _ (List.mem_of_getElem? (i := 1004) rfl) rfl a⟩
set_option maxRecDepth 20000 in
theorem wv_L_84 {U : State} (h : pTab U) (a : Array Value) : pWV RL 84 yX9_pass cX9_pass 3 (some .int) U a := ⟨h.1 _ (List.mem_of_getElem? (i := 445) rfl) rfl a, h.1 _ (List.mem_of_getElem? (i := 446) rfl) rfl a, h.1 _ (List.mem_of_getElem? (i := 447) rfl) rfl a, h.1 _ (List.mem_of_getElem? (i := 29) rfl) rfl a, h.1 _ (List.mem_of_getElem? (i := 448) rfl) rfl a⟩
set_option maxRecDepth 20000 in
theorem wv_L_88 {U : State} (h : pTab U) (a : Array Value) : pWV RL 88 yX10_pass cX10_pass 3 (some .int) U a := ⟨h.1 _ (List.mem_of_getElem? (i := 1006) rfl) rfl a, h.1 _ (List.mem_of_getElem? (i := 1007) rfl) rfl a, h.1 _ (List.mem_of_getElem? (i := 1008) rfl) rfl a, h.1 _ (List.mem_of_getElem? (i := 39) rfl) rfl a, h.1 _ (List.mem_of_getElem? (i := 1009) rfl) rfl a⟩
set_option maxRecDepth 20000 in
theorem wv_L_89 {U : State} (h : pTab U) (a : Array Value) : pWV RL 89 yX9_run cX9_run 2 (some .int) U a := ⟨h.1 _ (List.mem_of_getElem? (i := 449) rfl) rfl a, h.1 _ (List.mem_of_getElem? (i := 450) rfl) rfl a, h.1 _ (List.mem_of_getElem? (i := 451) rfl) rfl a, h.1 _ (List.mem_of_getElem? (i := 29) rfl) rfl a, h.1 _ (List.mem_of_getElem? (i := 452) rfl) rfl a⟩
set_option maxRecDepth 20000 in
theorem wv_L_92 {U : State} (h : pTab U) (a : Array Value) : pWV RL 92 yX10_run cX10_run 8 (some .int) U a := ⟨h.1 _ (List.mem_of_getElem? (i := 1010) rfl) rfl a, h.1 _ (List.mem_of_getElem? (i := 1011) rfl) rfl a, h.1 _ (List.mem_of_getElem? (i := 1012) rfl) rfl a, h.1 _ (List.mem_of_getElem? (i := 39) rfl) rfl a, h.1 _ (List.mem_of_getElem? (i := 1013) rfl) rfl a⟩
set_option maxRecDepth 20000 in
theorem wv_L_93 {U : State} (h : pTab U) (a : Array Value) : pWV RL 93 yX9_mirror cX9_mirror 3 (some .int) U a := ⟨h.1 _ (List.mem_of_getElem? (i := 605) rfl) rfl a, h.1 _ (List.mem_of_getElem? (i := 606) rfl) rfl a, h.1 _ (List.mem_of_getElem? (i := 607) rfl) rfl a, h.1 _ (List.mem_of_getElem? (i := 29) rfl) rfl a, h.1 _ (List.mem_of_getElem? (i := 608) rfl) rfl a⟩
set_option maxRecDepth 20000 in
theorem wv_L_96 {U : State} (h : pTab U) (a : Array Value) : pWV RL 96 yX10_mirror cX10_mirror 3 (some .int) U a := ⟨h.1 _ (List.mem_of_getElem? (i := 1035) rfl) rfl a, h.1 _ (List.mem_of_getElem? (i := 1036) rfl) rfl a, h.1 _ (List.mem_of_getElem? (i := 1037) rfl) rfl a, h.1 _ (List.mem_of_getElem? (i := 39) rfl) rfl a, h.1 _ (List.mem_of_getElem? (i := 1038) rfl) rfl a⟩
set_option maxRecDepth 20000 in
theorem wv_L_97 {U : State} (h : pTab U) (a : Array Value) : pWV RL 97 yX9_message cX9_message 3 (some .int) U a := ⟨h.1 _ (List.mem_of_getElem? (i := 613) rfl) rfl a, h.1 _ (List.mem_of_getElem? (i := 614) rfl) rfl a, h.1 _ (List.mem_of_getElem? (i := 615) rfl) rfl a, h.1 _ (List.mem_of_getElem? (i := 29) rfl) rfl a, h.1 _ (List.mem_of_getElem? (i := 616) rfl) rfl a⟩
set_option maxRecDepth 20000 in
theorem wv_L_100 {U : State} (h : pTab U) (a : Array Value) : pWV RL 100 yX10_message cX10_message 3 (some .int) U a := ⟨h.1 _ (List.mem_of_getElem? (i := 1039) rfl) rfl a, h.1 _ (List.mem_of_getElem? (i := 1040) rfl) rfl a, h.1 _ (List.mem_of_getElem? (i := 1041) rfl) rfl a, h.1 _ (List.mem_of_getElem? (i := 39) rfl) rfl a, h.1 _ (List.mem_of_getElem? (i := 1042) rfl) rfl a⟩
set_option maxRecDepth 20000 in
theorem wv_L_101 {U : State} (h : pTab U) (a : Array Value) : pWV RL 101 yX9_told cX9_told 4 (some .int) U a := ⟨h.1 _ (List.mem_of_getElem? (i := 625) rfl) rfl a, h.1 _ (List.mem_of_getElem? (i := 626) rfl) rfl a, h.1 _ (List.mem_of_getElem? (i := 627) rfl) rfl a, h.1 _ (List.mem_of_getElem? (i := 29) rfl) rfl a, h.1 _ (List.mem_of_getElem? (i := 628) rfl) rfl a⟩
set_option maxRecDepth 20000 in
theorem wv_L_104 {U : State} (h : pTab U) (a : Array Value) : pWV RL 104 yX10_told cX10_told 3 (some .int) U a := ⟨h.1 _ (List.mem_of_getElem? (i := 1044) rfl) rfl a, h.1 _ (List.mem_of_getElem? (i := 1045) rfl) rfl a, h.1 _ (List.mem_of_getElem? (i := 1046) rfl) rfl a, h.1 _ (List.mem_of_getElem? (i := 39) rfl) rfl a, h.1 _ (List.mem_of_getElem? (i := 1047) rfl) rfl a⟩
set_option maxRecDepth 20000 in
theorem wv_L_108 {U : State} (h : pTab U) (a : Array Value) : pWV RL 108 yX10_cell cX10_cell 2 (some .int) U a := ⟨h.1 _ (List.mem_of_getElem? (i := 1048) rfl) rfl a, h.1 _ (List.mem_of_getElem? (i := 1049) rfl) rfl a, h.1 _ (List.mem_of_getElem? (i := 1050) rfl) rfl a, h.1 _ (List.mem_of_getElem? (i := 39) rfl) rfl a, h.1 _ (List.mem_of_getElem? (i := 1051) rfl) rfl a⟩
set_option maxRecDepth 20000 in
theorem wv_L_111 {U : State} (h : pTab U) (a : Array Value) : pWV RL 111 yX10_resource cX10_resource 4 (some .int) U a := ⟨h.1 _ (List.mem_of_getElem? (i := 1052) rfl) rfl a, h.1 _ (List.mem_of_getElem? (i := 1053) rfl) rfl a, h.1 _ (List.mem_of_getElem? (i := 1054) rfl) rfl a, h.1 _ (List.mem_of_getElem? (i := 39) rfl) rfl a, h.1 _ (List.mem_of_getElem? (i := 1055) rfl) rfl a⟩
set_option maxRecDepth 20000 in
theorem wv_L_112 {U : State} (h : pTab U) (a : Array Value) : pWV RL 112 yX9_about cX9_about 2 (some .int) U a := ⟨h.1 _ (List.mem_of_getElem? (i := 635) rfl) rfl a, h.1 _ (List.mem_of_getElem? (i := 636) rfl) rfl a, h.1 _ (List.mem_of_getElem? (i := 637) rfl) rfl a, h.1 _ (List.mem_of_getElem? (i := 29) rfl) rfl a, h.1 _ (List.mem_of_getElem? (i := 638) rfl) rfl a⟩
set_option maxRecDepth 20000 in
theorem wv_L_115 {U : State} (h : pTab U) (a : Array Value) : pWV RL 115 yX10_about cX10_about 4 (some .int) U a := ⟨h.1 _ (List.mem_of_getElem? (i := 1056) rfl) rfl a, h.1 _ (List.mem_of_getElem? (i := 1057) rfl) rfl a, h.1 _ (List.mem_of_getElem? (i := 1058) rfl) rfl a, h.1 _ (List.mem_of_getElem? (i := 39) rfl) rfl a, h.1 _ (List.mem_of_getElem? (i := 1059) rfl) rfl a⟩
set_option maxRecDepth 20000 in
theorem wv_L_116 {U : State} (h : pTab U) (a : Array Value) : pWV RL 116 yX9_clear cX9_clear 2 (some .int) U a := ⟨h.1 _ (List.mem_of_getElem? (i := 649) rfl) rfl a, h.1 _ (List.mem_of_getElem? (i := 650) rfl) rfl a, h.1 _ (List.mem_of_getElem? (i := 651) rfl) rfl a, h.1 _ (List.mem_of_getElem? (i := 29) rfl) rfl a, h.1 _ (List.mem_of_getElem? (i := 652) rfl) rfl a⟩
set_option maxRecDepth 20000 in
theorem wv_L_119 {U : State} (h : pTab U) (a : Array Value) : pWV RL 119 yX10_clear cX10_clear 3 (some .int) U a := ⟨h.1 _ (List.mem_of_getElem? (i := 1062) rfl) rfl a, h.1 _ (List.mem_of_getElem? (i := 1063) rfl) rfl a, h.1 _ (List.mem_of_getElem? (i := 1064) rfl) rfl a, h.1 _ (List.mem_of_getElem? (i := 39) rfl) rfl a, h.1 _ (List.mem_of_getElem? (i := 1065) rfl) rfl a⟩
theorem lg_cmp_self (x : Int64) : lg_cmp x x = 0 := by unfold lg_cmp; simp [Int64.lt_irrefl]
/-- what a case goes on to: the loop's step -/
def lw_K (p : Program) (l : Launch) (e : Env) (s : State) (m : MethodId) (args : Array Value) (below : List Frame) (meth : Method) (c : Code) (cells slots : Nat) (Q : State → Prop) (E : pE) (b o : Nat) (i : Int32) : Prop :=
  ∀ (H : Heap) (locs : List Loc) (ls : Array Slot) (α β : pSt) (g : Nat → Int64), va_P (pD E) vwCl (pw E α β) H → va_P (pD E) vwCl (pOe E o g) H → rA α β → va_S (pA E s.heap.size) s.heap H locs → lv_has ls 7 [(0, .ref b), (1, .ref (pL E 0)), (2, .ref (pL E 57)), (3, .ref o), (4, .int i)] → W p l e room_1 s m args below meth c H locs cells slots Q (F0 m 909 ls [])
section LWC
variable {p : Program} {l : Launch} {e : Env} {s : State} {m : MethodId} {args : Array Value} {below : List Frame} {meth : Method} {c : Code} {H : Heap} {locs : List Loc} {cells slots : Nat} {Q : State → Prop} {ls : Array Slot} {E : pE} {α β : pSt} {o b L : Nat} {xs : Nat → Int32} {i : Int32} {g : Nat → Int64}
set_option maxHeartbeats 4000000 in
set_option maxRecDepth 100000 in
theorem lc_0 (hcs : cells + 1 ≤ room_1.cells ∧ slots + 8 ≤ room_1.slots) (hlt : l.stackTraces = false) (C : pCx p s m c cL_law 7 E RL) (ho : pOut E o) (hoA : s.heap.size ≤ o) (hZ : pXs (pA E s.heap.size) s s.heap) (hX : va_X b L xs s s.heap) (hbl : b < s.heap.size) (hbA : ¬ pA E s.heap.size b) (hin : ∀ k : Int32, k = 1 ∨ k = 2 ∨ k = 3 → vp_in (i + k) L)
    (hP : va_P (pD E) vwCl (pw E α β) H) (hG : va_P (pD E) vwCl (pOe E o g) H) (hR : rA α β) (hS : va_S (pA E s.heap.size) s.heap H locs) (hl : lv_has ls 7 [(0, .ref b), (1, .ref (pL E 0)), (2, .ref (pL E 57)), (3, .ref o), (4, .int i)])
    (kk : lw_K p l e s m args below meth c (cells + 1) (slots + 8) Q E b o i) : W p l e room_1 s m args below meth c H locs cells slots Q (F0 m 132 ls []) := by
  have hE := C.2.2.2.2.2.2
  have hx := C.1
  have hb := C.2.1
  refine lv_aload_n hx hb dL_law_132 rfl (lv_at hl 1 rfl) ?_
  refine lv_aload_n hx hb dL_law_133 rfl (lv_at hl 0 rfl) ?_
  refine lv_iload hx hb dL_law_134 (lv_at hl 4 rfl) ?_
  refine lv_iconst (v := 1) hx hb dL_law_136 (by decide) ?_
  refine lv_iadd hx hb dL_law_137 ?_
  refine va_sld hx hb hX hbl hbA hS (hin 1 (by decide)) dL_law_138 ?_
  refine lv_aload_n hx hb dL_law_139 rfl (lv_at hl 0 rfl) ?_
  refine lv_iload hx hb dL_law_140 (lv_at hl 4 rfl) ?_
  refine lv_iconst (v := 2) hx hb dL_law_142 (by decide) ?_
  refine lv_iadd hx hb dL_law_143 ?_
  refine va_sld hx hb hX hbl hbA hS (hin 2 (by decide)) dL_law_144 ?_
  refine lv_i2l hx hb dL_law_145 rfl ?_
  refine lv_bipush (v := 32) hx hb dL_law_146 (by decide) ?_
  refine lv_lshl hx hb dL_law_148 rfl ?_
  refine lv_aload_n hx hb dL_law_149 rfl (lv_at hl 0 rfl) ?_
  refine lv_iload hx hb dL_law_150 (lv_at hl 4 rfl) ?_
  refine lv_iconst (v := 3) hx hb dL_law_152 (by decide) ?_
  refine lv_iadd hx hb dL_law_153 ?_
  refine va_sld hx hb hX hbl hbA hS (hin 3 (by decide)) dL_law_154 ?_
  refine lv_i2l hx hb dL_law_155 rfl ?_
  refine lv_ldc2 (v := 4294967295) hx hb C.2.2.2.1 (C.2.2.2.2.1.1 _ (List.mem_of_getElem? (i := 1066) rfl) rfl _) dL_law_156 ?_
  refine lv_land hx hb dL_law_159 ?_
  refine lv_lor hx hb dL_law_160 ?_
  obtain ⟨r, α', β', hc, hm, hR1⟩ := sm_feed hR (xs (i + 1).toNatClampNeg) ((((xs (i + 2).toNatClampNeg).toInt64) <<< ((32 : Int32).toInt64 &&& 63)) ||| (((xs (i + 3).toNatClampNeg).toInt64) &&& 4294967295))
  refine p_callV (n := 2) (As := [.int (xs (i + 1).toNatClampNeg), .long ((((xs (i + 2).toNatClampNeg).toInt64) <<< ((32 : Int32).toInt64 &&& 63)) ||| (((xs (i + 3).toNatClampNeg).toInt64) &&& 4294967295))]) (rest := []) C hP hS (wv_L_31 C.2.2.2.2.1 _) (c_X9_feed l hE hc) (e_X9) rfl rfl hd_X9_feed rfl ⟨Nat.le_of_ble_eq_true rfl, Nat.le_of_ble_eq_true rfl⟩ hl.1 rfl (Nat.le_of_ble_eq_true rfl) dL_law_161 ⟨Nat.le_trans (Nat.le_add_right _ _) hcs.1, Nat.le_trans (Nat.le_add_right _ _) hcs.2⟩ (fun H locs hP hS _ hk => ?_)
  have hG := pOe_call ho hG hk
  refine W.eq (g2 := F0 m 164 ls [.int r]) rfl ?_
  refine lv_aload_n hx hb dL_law_164 rfl (lv_at hl 2 rfl) ?_
  refine lv_aload_n hx hb dL_law_165 rfl (lv_at hl 0 rfl) ?_
  refine lv_iload hx hb dL_law_166 (lv_at hl 4 rfl) ?_
  refine lv_iconst (v := 1) hx hb dL_law_168 (by decide) ?_
  refine lv_iadd hx hb dL_law_169 ?_
  refine va_sld hx hb hX hbl hbA hS (hin 1 (by decide)) dL_law_170 ?_
  refine lv_aload_n hx hb dL_law_171 rfl (lv_at hl 0 rfl) ?_
  refine lv_iload hx hb dL_law_172 (lv_at hl 4 rfl) ?_
  refine lv_iconst (v := 2) hx hb dL_law_174 (by decide) ?_
  refine lv_iadd hx hb dL_law_175 ?_
  refine va_sld hx hb hX hbl hbA hS (hin 2 (by decide)) dL_law_176 ?_
  refine lv_i2l hx hb dL_law_177 rfl ?_
  refine lv_bipush (v := 32) hx hb dL_law_178 (by decide) ?_
  refine lv_lshl hx hb dL_law_180 rfl ?_
  refine lv_aload_n hx hb dL_law_181 rfl (lv_at hl 0 rfl) ?_
  refine lv_iload hx hb dL_law_182 (lv_at hl 4 rfl) ?_
  refine lv_iconst (v := 3) hx hb dL_law_184 (by decide) ?_
  refine lv_iadd hx hb dL_law_185 ?_
  refine va_sld hx hb hX hbl hbA hS (hin 3 (by decide)) dL_law_186 ?_
  refine lv_i2l hx hb dL_law_187 rfl ?_
  refine lv_ldc2 (v := 4294967295) hx hb C.2.2.2.1 (C.2.2.2.2.1.1 _ (List.mem_of_getElem? (i := 1066) rfl) rfl _) dL_law_188 ?_
  refine lv_land hx hb dL_law_191 ?_
  refine lv_lor hx hb dL_law_192 ?_
  refine p_callV (n := 2) (As := [.int (xs (i + 1).toNatClampNeg), .long ((((xs (i + 2).toNatClampNeg).toInt64) <<< ((32 : Int32).toInt64 &&& 63)) ||| (((xs (i + 3).toNatClampNeg).toInt64) &&& 4294967295))]) (rest := [.int r]) C hP hS (wv_L_35 C.2.2.2.2.1 _) (c_X10_feed l hE hm) (e_X10) rfl rfl hd_X10_feed rfl ⟨Nat.le_of_ble_eq_true rfl, Nat.le_of_ble_eq_true rfl⟩ hl.1 rfl (Nat.le_of_ble_eq_true rfl) dL_law_193 ⟨Nat.le_trans (Nat.le_add_right _ _) hcs.1, Nat.le_trans (Nat.le_add_right _ _) hcs.2⟩ (fun H locs hP hS _ hk => ?_)
  have hG := pOe_call ho hG hk
  refine W.eq (g2 := F0 m 196 ls [.int r, .int r]) rfl ?_
  refine lv_icmp_eq (tgt := 909) hx hb dL_law_196 (by decide) (fun _ => ?_) (fun h => absurd rfl h)
  exact p_widen (Nat.le_add_right _ _) (Nat.le_add_right _ _) (kk H locs ls _ _ _ hP hG hR1 hS (lv_sub hl [0, 1, 2, 3, 4] rfl))
set_option maxHeartbeats 4000000 in
set_option maxRecDepth 100000 in
theorem lc_1 (hcs : cells + 1 ≤ room_1.cells ∧ slots + 8 ≤ room_1.slots) (hlt : l.stackTraces = false) (C : pCx p s m c cL_law 7 E RL) (ho : pOut E o) (hoA : s.heap.size ≤ o) (hZ : pXs (pA E s.heap.size) s s.heap) (hX : va_X b L xs s s.heap) (hbl : b < s.heap.size) (hbA : ¬ pA E s.heap.size b) (hin : ∀ k : Int32, k = 1 ∨ k = 2 ∨ k = 3 → vp_in (i + k) L)
    (hP : va_P (pD E) vwCl (pw E α β) H) (hG : va_P (pD E) vwCl (pOe E o g) H) (hR : rA α β) (hS : va_S (pA E s.heap.size) s.heap H locs) (hl : lv_has ls 7 [(0, .ref b), (1, .ref (pL E 0)), (2, .ref (pL E 57)), (3, .ref o), (4, .int i)])
    (kk : lw_K p l e s m args below meth c (cells + 1) (slots + 8) Q E b o i) : W p l e room_1 s m args below meth c H locs cells slots Q (F0 m 201 ls []) := by
  have hE := C.2.2.2.2.2.2
  have hx := C.1
  have hb := C.2.1
  refine lv_aload_n hx hb dL_law_201 rfl (lv_at hl 1 rfl) ?_
  refine lv_aload_n hx hb dL_law_202 rfl (lv_at hl 0 rfl) ?_
  refine lv_iload hx hb dL_law_203 (lv_at hl 4 rfl) ?_
  refine lv_iconst (v := 1) hx hb dL_law_205 (by decide) ?_
  refine lv_iadd hx hb dL_law_206 ?_
  refine va_sld hx hb hX hbl hbA hS (hin 1 (by decide)) dL_law_207 ?_
  obtain ⟨r, α', β', hc, hm, hR1⟩ := sm_lay hR (xs (i + 1).toNatClampNeg)
  refine p_callV (n := 1) (As := [.int (xs (i + 1).toNatClampNeg)]) (rest := []) C hP hS (wv_L_36 C.2.2.2.2.1 _) (c_X9_lay l hE hc) (e_X9) rfl rfl hd_X9_lay rfl ⟨Nat.le_of_ble_eq_true rfl, Nat.le_of_ble_eq_true rfl⟩ hl.1 rfl (Nat.le_of_ble_eq_true rfl) dL_law_208 ⟨Nat.le_trans (Nat.le_add_right _ _) hcs.1, Nat.le_trans (Nat.le_add_right _ _) hcs.2⟩ (fun H locs hP hS _ hk => ?_)
  have hG := pOe_call ho hG hk
  refine W.eq (g2 := F0 m 211 ls [.int r]) rfl ?_
  refine lv_aload_n hx hb dL_law_211 rfl (lv_at hl 2 rfl) ?_
  refine lv_aload_n hx hb dL_law_212 rfl (lv_at hl 0 rfl) ?_
  refine lv_iload hx hb dL_law_213 (lv_at hl 4 rfl) ?_
  refine lv_iconst (v := 1) hx hb dL_law_215 (by decide) ?_
  refine lv_iadd hx hb dL_law_216 ?_
  refine va_sld hx hb hX hbl hbA hS (hin 1 (by decide)) dL_law_217 ?_
  refine p_callV (n := 1) (As := [.int (xs (i + 1).toNatClampNeg)]) (rest := [.int r]) C hP hS (wv_L_39 C.2.2.2.2.1 _) (c_X10_lay l hE hm) (e_X10) rfl rfl hd_X10_lay rfl ⟨Nat.le_of_ble_eq_true rfl, Nat.le_of_ble_eq_true rfl⟩ hl.1 rfl (Nat.le_of_ble_eq_true rfl) dL_law_218 ⟨Nat.le_trans (Nat.le_add_right _ _) hcs.1, Nat.le_trans (Nat.le_add_right _ _) hcs.2⟩ (fun H locs hP hS _ hk => ?_)
  have hG := pOe_call ho hG hk
  refine W.eq (g2 := F0 m 221 ls [.int r, .int r]) rfl ?_
  refine lv_icmp_eq (tgt := 909) hx hb dL_law_221 (by decide) (fun _ => ?_) (fun h => absurd rfl h)
  exact p_widen (Nat.le_add_right _ _) (Nat.le_add_right _ _) (kk H locs ls _ _ _ hP hG hR1 hS (lv_sub hl [0, 1, 2, 3, 4] rfl))
set_option maxHeartbeats 4000000 in
set_option maxRecDepth 100000 in
theorem lc_2 (hcs : cells + 1 ≤ room_1.cells ∧ slots + 8 ≤ room_1.slots) (hlt : l.stackTraces = false) (C : pCx p s m c cL_law 7 E RL) (ho : pOut E o) (hoA : s.heap.size ≤ o) (hZ : pXs (pA E s.heap.size) s s.heap) (hX : va_X b L xs s s.heap) (hbl : b < s.heap.size) (hbA : ¬ pA E s.heap.size b) (hin : ∀ k : Int32, k = 1 ∨ k = 2 ∨ k = 3 → vp_in (i + k) L)
    (hP : va_P (pD E) vwCl (pw E α β) H) (hG : va_P (pD E) vwCl (pOe E o g) H) (hR : rA α β) (hS : va_S (pA E s.heap.size) s.heap H locs) (hl : lv_has ls 7 [(0, .ref b), (1, .ref (pL E 0)), (2, .ref (pL E 57)), (3, .ref o), (4, .int i)])
    (kk : lw_K p l e s m args below meth c (cells + 1) (slots + 8) Q E b o i) : W p l e room_1 s m args below meth c H locs cells slots Q (F0 m 226 ls []) := by
  have hE := C.2.2.2.2.2.2
  have hx := C.1
  have hb := C.2.1
  refine lv_aload_n hx hb dL_law_226 rfl (lv_at hl 1 rfl) ?_
  refine lv_aload_n hx hb dL_law_227 rfl (lv_at hl 0 rfl) ?_
  refine lv_iload hx hb dL_law_228 (lv_at hl 4 rfl) ?_
  refine lv_iconst (v := 1) hx hb dL_law_230 (by decide) ?_
  refine lv_iadd hx hb dL_law_231 ?_
  refine va_sld hx hb hX hbl hbA hS (hin 1 (by decide)) dL_law_232 ?_
  refine lv_aload_n hx hb dL_law_233 rfl (lv_at hl 0 rfl) ?_
  refine lv_iload hx hb dL_law_234 (lv_at hl 4 rfl) ?_
  refine lv_iconst (v := 2) hx hb dL_law_236 (by decide) ?_
  refine lv_iadd hx hb dL_law_237 ?_
  refine va_sld hx hb hX hbl hbA hS (hin 2 (by decide)) dL_law_238 ?_
  refine lv_aload_n hx hb dL_law_239 rfl (lv_at hl 3 rfl) ?_
  rcases sm_octet hR (xs (i + 1).toNatClampNeg) (xs (i + 2).toNatClampNeg) with ⟨r, hc, hm⟩ | ⟨hc, r, hm⟩
  · skip
    refine p_callH (n := 4) (As := [.ref (pL E 0), .int (xs (i + 1).toNatClampNeg), .int (xs (i + 2).toNatClampNeg), .ref o]) (rest := []) C hP hG hoA hS hZ (whL_octet C.2.2.2.2.1 _) (hR_octet hlt hE ho hc) hdL_octet rfl ⟨Nat.le_of_ble_eq_true rfl, Nat.le_of_ble_eq_true rfl⟩ hl.1 rfl (Nat.le_of_ble_eq_true rfl) dL_law_240 hcs (fun H locs hP hG hS => ?_)
    refine W.eq (g2 := F0 m 243 ls [.int 0]) rfl ?_
    refine lv_istore (lv' := [(5, .int 0), (0, .ref b), (1, .ref (pL E 0)), (2, .ref (pL E 57)), (3, .ref o), (4, .int i)]) hx hb dL_law_243 hl (by decide) rfl (fun ls hl => ?_)
    refine lv_aload_n hx hb dL_law_245 rfl (lv_at hl 3 rfl) ?_
    refine lv_aload_n hx hb dL_law_246 rfl (lv_at hl 1 rfl) ?_
    refine lv_iload hx hb dL_law_247 (lv_at hl 5 rfl) ?_
    refine lv_iconst (v := 1) hx hb dL_law_249 (by decide) ?_
    refine lv_iadd hx hb dL_law_250 ?_
    refine va_sld hx hb hX hbl hbA hS (hin 1 (by decide)) dL_law_251 ?_
    refine lv_aload_n hx hb dL_law_252 rfl (lv_at hl 1 rfl) ?_
    refine lv_iload hx hb dL_law_253 (lv_at hl 5 rfl) ?_
    refine lv_iconst (v := 2) hx hb dL_law_255 (by decide) ?_
    refine lv_iadd hx hb dL_law_256 ?_
    refine va_sld hx hb hX hbl hbA hS (hin 2 (by decide)) dL_law_257 ?_
    refine p_callV (n := 2) (As := [.int (xs (i + 1).toNatClampNeg), .int (xs (i + 2).toNatClampNeg)]) (rest := []) C hP hS (wv_L_45 C.2.2.2.2.1 _) (c_X10_octet l hE hm) (e_X10) rfl rfl hd_X10_octet rfl ⟨Nat.le_of_ble_eq_true rfl, Nat.le_of_ble_eq_true rfl⟩ hl.1 rfl (Nat.le_of_ble_eq_true rfl) dL_law_258 ⟨hcs.1, hcs.2⟩ (fun H locs hP hS _ hk => ?_)
    have hG := pOe_call ho hG hk
    refine W.eq (g2 := F0 m 261 ls [.int r]) rfl ?_
    refine lv_istore (lv' := [(6, .int r), (5, .int 0), (0, .ref b), (1, .ref (pL E 0)), (2, .ref (pL E 57)), (3, .ref o), (4, .int i)]) hx hb dL_law_261 hl (by decide) rfl (fun ls hl => ?_)
    refine lv_aload_n hx hb dL_law_263 rfl (lv_at hl 4 rfl) ?_
    refine p_callV (n := 0) (As := []) (rest := []) C hP hS (wv_L_46 C.2.2.2.2.1 _) (c_X10_thrown l hE (β := up2 β 0 0 0) rfl) (e_X10) rfl rfl hd_X10_thrown rfl ⟨Nat.le_of_ble_eq_true rfl, Nat.le_of_ble_eq_true rfl⟩ hl.1 rfl (Nat.le_of_ble_eq_true rfl) dL_law_264 ⟨hcs.1, hcs.2⟩ (fun H locs hP hS _ hk => ?_)
    have hG := pOe_call ho hG hk
    refine W.eq (g2 := F0 m 267 ls [.int 0]) rfl ?_
    refine lv_iload hx hb dL_law_267 (lv_at hl 1 rfl) ?_
    refine lv_icmp_eq (tgt := 274) hx hb dL_law_269 (by decide) (fun _ => ?_) (fun h => absurd rfl h)
    refine lv_iload hx hb dL_law_274 (lv_at hl 1 rfl) ?_
    refine lv_if_ne (tgt := 291) hx hb dL_law_276 (by decide) (fun h => absurd rfl h) (fun _ => ?_)
    refine lv_aload_n hx hb dL_law_279 rfl (lv_at hl 5 rfl) ?_
    refine lv_iconst (v := 0) hx hb dL_law_280 (by decide) ?_
    refine va_lald hx hb C.2.2.2.2.2.1 hG 0 2 rfl rfl vp_in01 dL_law_281 ?_
    refine W.eq (g2 := F0 m 282 ls [.long r.toInt64]) rfl ?_
    refine lv_iload hx hb dL_law_282 (lv_at hl 0 rfl) ?_
    refine lv_i2l hx hb dL_law_284 rfl ?_
    refine W.lcmp hx hb dL_law_285 ?_
    rw [lg_cmp_self]
    refine lv_if_eq (tgt := 291) hx hb dL_law_286 (by decide) (fun _ => ?_) (fun h => absurd rfl h)
    refine lv_goto (tgt := 909) hx hb dL_law_291 (by decide) ?_
    exact kk H locs ls _ _ _ hP hG (rA_thrown hR) hS (lv_sub hl [2, 3, 4, 5, 6] rfl)
  · skip
    refine p_callH (n := 4) (As := [.ref (pL E 0), .int (xs (i + 1).toNatClampNeg), .int (xs (i + 2).toNatClampNeg), .ref o]) (rest := []) C hP hG hoA hS hZ (whL_octet C.2.2.2.2.1 _) (hA_octet hlt hE ho hc) hdL_octet rfl ⟨Nat.le_of_ble_eq_true rfl, Nat.le_of_ble_eq_true rfl⟩ hl.1 rfl (Nat.le_of_ble_eq_true rfl) dL_law_240 hcs (fun H locs hP hG hS => ?_)
    refine W.eq (g2 := F0 m 243 ls [.int 1]) rfl ?_
    refine lv_istore (lv' := [(5, .int 1), (0, .ref b), (1, .ref (pL E 0)), (2, .ref (pL E 57)), (3, .ref o), (4, .int i)]) hx hb dL_law_243 hl (by decide) rfl (fun ls hl => ?_)
    refine lv_aload_n hx hb dL_law_245 rfl (lv_at hl 3 rfl) ?_
    refine lv_aload_n hx hb dL_law_246 rfl (lv_at hl 1 rfl) ?_
    refine lv_iload hx hb dL_law_247 (lv_at hl 5 rfl) ?_
    refine lv_iconst (v := 1) hx hb dL_law_249 (by decide) ?_
    refine lv_iadd hx hb dL_law_250 ?_
    refine va_sld hx hb hX hbl hbA hS (hin 1 (by decide)) dL_law_251 ?_
    refine lv_aload_n hx hb dL_law_252 rfl (lv_at hl 1 rfl) ?_
    refine lv_iload hx hb dL_law_253 (lv_at hl 5 rfl) ?_
    refine lv_iconst (v := 2) hx hb dL_law_255 (by decide) ?_
    refine lv_iadd hx hb dL_law_256 ?_
    refine va_sld hx hb hX hbl hbA hS (hin 2 (by decide)) dL_law_257 ?_
    refine p_callV (n := 2) (As := [.int (xs (i + 1).toNatClampNeg), .int (xs (i + 2).toNatClampNeg)]) (rest := []) C hP hS (wv_L_45 C.2.2.2.2.1 _) (c_X10_octet l hE hm) (e_X10) rfl rfl hd_X10_octet rfl ⟨Nat.le_of_ble_eq_true rfl, Nat.le_of_ble_eq_true rfl⟩ hl.1 rfl (Nat.le_of_ble_eq_true rfl) dL_law_258 ⟨hcs.1, hcs.2⟩ (fun H locs hP hS _ hk => ?_)
    have hG := pOe_call ho hG hk
    refine W.eq (g2 := F0 m 261 ls [.int r]) rfl ?_
    refine lv_istore (lv' := [(6, .int r), (5, .int 1), (0, .ref b), (1, .ref (pL E 0)), (2, .ref (pL E 57)), (3, .ref o), (4, .int i)]) hx hb dL_law_261 hl (by decide) rfl (fun ls hl => ?_)
    refine lv_aload_n hx hb dL_law_263 rfl (lv_at hl 4 rfl) ?_
    refine p_callV (n := 0) (As := []) (rest := []) C hP hS (wv_L_46 C.2.2.2.2.1 _) (c_X10_thrown l hE (β := up2 β 0 0 1) rfl) (e_X10) rfl rfl hd_X10_thrown rfl ⟨Nat.le_of_ble_eq_true rfl, Nat.le_of_ble_eq_true rfl⟩ hl.1 rfl (Nat.le_of_ble_eq_true rfl) dL_law_264 ⟨hcs.1, hcs.2⟩ (fun H locs hP hS _ hk => ?_)
    have hG := pOe_call ho hG hk
    refine W.eq (g2 := F0 m 267 ls [.int 1]) rfl ?_
    refine lv_iload hx hb dL_law_267 (lv_at hl 1 rfl) ?_
    refine lv_icmp_eq (tgt := 274) hx hb dL_law_269 (by decide) (fun _ => ?_) (fun h => absurd rfl h)
    refine lv_iload hx hb dL_law_274 (lv_at hl 1 rfl) ?_
    refine lv_if_ne (tgt := 291) hx hb dL_law_276 (by decide) (fun _ => ?_) (fun h => absurd h (by decide))
    refine lv_goto (tgt := 909) hx hb dL_law_291 (by decide) ?_
    exact kk H locs ls _ _ _ hP hG (rA_thrown hR) hS (lv_sub hl [2, 3, 4, 5, 6] rfl)
set_option maxHeartbeats 4000000 in
set_option maxRecDepth 100000 in
theorem lc_3 (hcs : cells + 1 ≤ room_1.cells ∧ slots + 8 ≤ room_1.slots) (hlt : l.stackTraces = false) (C : pCx p s m c cL_law 7 E RL) (ho : pOut E o) (hoA : s.heap.size ≤ o) (hZ : pXs (pA E s.heap.size) s s.heap) (hX : va_X b L xs s s.heap) (hbl : b < s.heap.size) (hbA : ¬ pA E s.heap.size b) (hin : ∀ k : Int32, k = 1 ∨ k = 2 ∨ k = 3 → vp_in (i + k) L)
    (hP : va_P (pD E) vwCl (pw E α β) H) (hG : va_P (pD E) vwCl (pOe E o g) H) (hR : rA α β) (hS : va_S (pA E s.heap.size) s.heap H locs) (hl : lv_has ls 7 [(0, .ref b), (1, .ref (pL E 0)), (2, .ref (pL E 57)), (3, .ref o), (4, .int i)])
    (kk : lw_K p l e s m args below meth c (cells + 1) (slots + 8) Q E b o i) : W p l e room_1 s m args below meth c H locs cells slots Q (F0 m 294 ls []) := by
  have hE := C.2.2.2.2.2.2
  have hx := C.1
  have hb := C.2.1
  refine lv_aload_n hx hb dL_law_294 rfl (lv_at hl 1 rfl) ?_
  refine lv_aload_n hx hb dL_law_295 rfl (lv_at hl 0 rfl) ?_
  refine lv_iload hx hb dL_law_296 (lv_at hl 4 rfl) ?_
  refine lv_iconst (v := 1) hx hb dL_law_298 (by decide) ?_
  refine lv_iadd hx hb dL_law_299 ?_
  refine va_sld hx hb hX hbl hbA hS (hin 1 (by decide)) dL_law_300 ?_
  refine lv_aload_n hx hb dL_law_301 rfl (lv_at hl 0 rfl) ?_
  refine lv_iload hx hb dL_law_302 (lv_at hl 4 rfl) ?_
  refine lv_iconst (v := 2) hx hb dL_law_304 (by decide) ?_
  refine lv_iadd hx hb dL_law_305 ?_
  refine va_sld hx hb hX hbl hbA hS (hin 2 (by decide)) dL_law_306 ?_
  refine lv_aload_n hx hb dL_law_307 rfl (lv_at hl 0 rfl) ?_
  refine lv_iload hx hb dL_law_308 (lv_at hl 4 rfl) ?_
  refine lv_iconst (v := 3) hx hb dL_law_310 (by decide) ?_
  refine lv_iadd hx hb dL_law_311 ?_
  refine va_sld hx hb hX hbl hbA hS (hin 3 (by decide)) dL_law_312 ?_
  obtain ⟨r, α', β', hc, hm, hR1⟩ := sm_plant hR (xs (i + 1).toNatClampNeg) (xs (i + 2).toNatClampNeg) (xs (i + 3).toNatClampNeg)
  refine p_callV (n := 3) (As := [.int (xs (i + 1).toNatClampNeg), .int (xs (i + 2).toNatClampNeg), .int (xs (i + 3).toNatClampNeg)]) (rest := []) C hP hS (wv_L_50 C.2.2.2.2.1 _) (c_X9_plant l hE hc) (e_X9) rfl rfl hd_X9_plant rfl ⟨Nat.le_of_ble_eq_true rfl, Nat.le_of_ble_eq_true rfl⟩ hl.1 rfl (Nat.le_of_ble_eq_true rfl) dL_law_313 ⟨Nat.le_trans (Nat.le_add_right _ _) hcs.1, Nat.le_trans (Nat.le_add_right _ _) hcs.2⟩ (fun H locs hP hS _ hk => ?_)
  have hG := pOe_call ho hG hk
  refine W.eq (g2 := F0 m 316 ls [.int r]) rfl ?_
  refine lv_aload_n hx hb dL_law_316 rfl (lv_at hl 2 rfl) ?_
  refine lv_aload_n hx hb dL_law_317 rfl (lv_at hl 0 rfl) ?_
  refine lv_iload hx hb dL_law_318 (lv_at hl 4 rfl) ?_
  refine lv_iconst (v := 1) hx hb dL_law_320 (by decide) ?_
  refine lv_iadd hx hb dL_law_321 ?_
  refine va_sld hx hb hX hbl hbA hS (hin 1 (by decide)) dL_law_322 ?_
  refine lv_aload_n hx hb dL_law_323 rfl (lv_at hl 0 rfl) ?_
  refine lv_iload hx hb dL_law_324 (lv_at hl 4 rfl) ?_
  refine lv_iconst (v := 2) hx hb dL_law_326 (by decide) ?_
  refine lv_iadd hx hb dL_law_327 ?_
  refine va_sld hx hb hX hbl hbA hS (hin 2 (by decide)) dL_law_328 ?_
  refine lv_aload_n hx hb dL_law_329 rfl (lv_at hl 0 rfl) ?_
  refine lv_iload hx hb dL_law_330 (lv_at hl 4 rfl) ?_
  refine lv_iconst (v := 3) hx hb dL_law_332 (by decide) ?_
  refine lv_iadd hx hb dL_law_333 ?_
  refine va_sld hx hb hX hbl hbA hS (hin 3 (by decide)) dL_law_334 ?_
  refine p_callV (n := 3) (As := [.int (xs (i + 1).toNatClampNeg), .int (xs (i + 2).toNatClampNeg), .int (xs (i + 3).toNatClampNeg)]) (rest := [.int r]) C hP hS (wv_L_54 C.2.2.2.2.1 _) (c_X10_plant l hE hm) (e_X10) rfl rfl hd_X10_plant rfl ⟨Nat.le_of_ble_eq_true rfl, Nat.le_of_ble_eq_true rfl⟩ hl.1 rfl (Nat.le_of_ble_eq_true rfl) dL_law_335 ⟨Nat.le_trans (Nat.le_add_right _ _) hcs.1, Nat.le_trans (Nat.le_add_right _ _) hcs.2⟩ (fun H locs hP hS _ hk => ?_)
  have hG := pOe_call ho hG hk
  refine W.eq (g2 := F0 m 338 ls [.int r, .int r]) rfl ?_
  refine lv_icmp_eq (tgt := 909) hx hb dL_law_338 (by decide) (fun _ => ?_) (fun h => absurd rfl h)
  exact p_widen (Nat.le_add_right _ _) (Nat.le_add_right _ _) (kk H locs ls _ _ _ hP hG hR1 hS (lv_sub hl [0, 1, 2, 3, 4] rfl))
set_option maxHeartbeats 4000000 in
set_option maxRecDepth 100000 in
theorem lc_4 (hcs : cells + 1 ≤ room_1.cells ∧ slots + 8 ≤ room_1.slots) (hlt : l.stackTraces = false) (C : pCx p s m c cL_law 7 E RL) (ho : pOut E o) (hoA : s.heap.size ≤ o) (hZ : pXs (pA E s.heap.size) s s.heap) (hX : va_X b L xs s s.heap) (hbl : b < s.heap.size) (hbA : ¬ pA E s.heap.size b) (hin : ∀ k : Int32, k = 1 ∨ k = 2 ∨ k = 3 → vp_in (i + k) L)
    (hP : va_P (pD E) vwCl (pw E α β) H) (hG : va_P (pD E) vwCl (pOe E o g) H) (hR : rA α β) (hS : va_S (pA E s.heap.size) s.heap H locs) (hl : lv_has ls 7 [(0, .ref b), (1, .ref (pL E 0)), (2, .ref (pL E 57)), (3, .ref o), (4, .int i)])
    (kk : lw_K p l e s m args below meth c (cells + 1) (slots + 8) Q E b o i) : W p l e room_1 s m args below meth c H locs cells slots Q (F0 m 343 ls []) := by
  have hE := C.2.2.2.2.2.2
  have hx := C.1
  have hb := C.2.1
  refine lv_aload_n hx hb dL_law_343 rfl (lv_at hl 1 rfl) ?_
  refine lv_aload_n hx hb dL_law_344 rfl (lv_at hl 0 rfl) ?_
  refine lv_iload hx hb dL_law_345 (lv_at hl 4 rfl) ?_
  refine lv_iconst (v := 1) hx hb dL_law_347 (by decide) ?_
  refine lv_iadd hx hb dL_law_348 ?_
  refine va_sld hx hb hX hbl hbA hS (hin 1 (by decide)) dL_law_349 ?_
  refine lv_aload_n hx hb dL_law_350 rfl (lv_at hl 0 rfl) ?_
  refine lv_iload hx hb dL_law_351 (lv_at hl 4 rfl) ?_
  refine lv_iconst (v := 2) hx hb dL_law_353 (by decide) ?_
  refine lv_iadd hx hb dL_law_354 ?_
  refine va_sld hx hb hX hbl hbA hS (hin 2 (by decide)) dL_law_355 ?_
  refine lv_if_eq (tgt := 363) hx hb dL_law_356 (by decide) (fun hk356 => ?_) (fun hk356 => ?_)
  · skip
    refine lv_iconst (v := 0) hx hb dL_law_363 (by decide) ?_
    obtain ⟨r, α', β', hc, hm, hR1⟩ := sm_fails hR (xs (i + 1).toNatClampNeg) (a1 := 0) (Or.inl rfl)
    refine p_callV (n := 2) (As := [.int (xs (i + 1).toNatClampNeg), .int 0]) (rest := []) C hP hS (wv_L_55 C.2.2.2.2.1 _) (c_X9_fails l hE hc) (e_X9) rfl rfl hd_X9_fails rfl ⟨Nat.le_of_ble_eq_true rfl, Nat.le_of_ble_eq_true rfl⟩ hl.1 rfl (Nat.le_of_ble_eq_true rfl) dL_law_364 ⟨Nat.le_trans (Nat.le_add_right _ _) hcs.1, Nat.le_trans (Nat.le_add_right _ _) hcs.2⟩ (fun H locs hP hS _ hk => ?_)
    have hG := pOe_call ho hG hk
    refine W.eq (g2 := F0 m 367 ls [.int r]) rfl ?_
    refine lv_aload_n hx hb dL_law_367 rfl (lv_at hl 2 rfl) ?_
    refine lv_aload_n hx hb dL_law_368 rfl (lv_at hl 0 rfl) ?_
    refine lv_iload hx hb dL_law_369 (lv_at hl 4 rfl) ?_
    refine lv_iconst (v := 1) hx hb dL_law_371 (by decide) ?_
    refine lv_iadd hx hb dL_law_372 ?_
    refine va_sld hx hb hX hbl hbA hS (hin 1 (by decide)) dL_law_373 ?_
    refine lv_aload_n hx hb dL_law_374 rfl (lv_at hl 0 rfl) ?_
    refine lv_iload hx hb dL_law_375 (lv_at hl 4 rfl) ?_
    refine lv_iconst (v := 2) hx hb dL_law_377 (by decide) ?_
    refine lv_iadd hx hb dL_law_378 ?_
    refine va_sld hx hb hX hbl hbA hS (hin 2 (by decide)) dL_law_379 ?_
    refine lv_if_eq (tgt := 387) hx hb dL_law_380 (by decide) (fun _ => ?_) (fun h9 => absurd hk356 h9)
    refine lv_iconst (v := 0) hx hb dL_law_387 (by decide) ?_
    refine p_callV (n := 2) (As := [.int (xs (i + 1).toNatClampNeg), .int 0]) (rest := [.int r]) C hP hS (wv_L_59 C.2.2.2.2.1 _) (c_X10_fails l hE hm) (e_X10) rfl rfl hd_X10_fails rfl ⟨Nat.le_of_ble_eq_true rfl, Nat.le_of_ble_eq_true rfl⟩ hl.1 rfl (Nat.le_of_ble_eq_true rfl) dL_law_388 ⟨Nat.le_trans (Nat.le_add_right _ _) hcs.1, Nat.le_trans (Nat.le_add_right _ _) hcs.2⟩ (fun H locs hP hS _ hk => ?_)
    have hG := pOe_call ho hG hk
    refine W.eq (g2 := F0 m 391 ls [.int r, .int r]) rfl ?_
    refine lv_icmp_eq (tgt := 909) hx hb dL_law_391 (by decide) (fun _ => ?_) (fun h => absurd rfl h)
    exact p_widen (Nat.le_add_right _ _) (Nat.le_add_right _ _) (kk H locs ls _ _ _ hP hG hR1 hS (lv_sub hl [0, 1, 2, 3, 4] rfl))
  · skip
    refine lv_iconst (v := 1) hx hb dL_law_359 (by decide) ?_
    refine lv_goto (tgt := 364) hx hb dL_law_360 (by decide) ?_
    obtain ⟨r, α', β', hc, hm, hR1⟩ := sm_fails hR (xs (i + 1).toNatClampNeg) (a1 := 1) (Or.inr rfl)
    refine p_callV (n := 2) (As := [.int (xs (i + 1).toNatClampNeg), .int 1]) (rest := []) C hP hS (wv_L_55 C.2.2.2.2.1 _) (c_X9_fails l hE hc) (e_X9) rfl rfl hd_X9_fails rfl ⟨Nat.le_of_ble_eq_true rfl, Nat.le_of_ble_eq_true rfl⟩ hl.1 rfl (Nat.le_of_ble_eq_true rfl) dL_law_364 ⟨Nat.le_trans (Nat.le_add_right _ _) hcs.1, Nat.le_trans (Nat.le_add_right _ _) hcs.2⟩ (fun H locs hP hS _ hk => ?_)
    have hG := pOe_call ho hG hk
    refine W.eq (g2 := F0 m 367 ls [.int r]) rfl ?_
    refine lv_aload_n hx hb dL_law_367 rfl (lv_at hl 2 rfl) ?_
    refine lv_aload_n hx hb dL_law_368 rfl (lv_at hl 0 rfl) ?_
    refine lv_iload hx hb dL_law_369 (lv_at hl 4 rfl) ?_
    refine lv_iconst (v := 1) hx hb dL_law_371 (by decide) ?_
    refine lv_iadd hx hb dL_law_372 ?_
    refine va_sld hx hb hX hbl hbA hS (hin 1 (by decide)) dL_law_373 ?_
    refine lv_aload_n hx hb dL_law_374 rfl (lv_at hl 0 rfl) ?_
    refine lv_iload hx hb dL_law_375 (lv_at hl 4 rfl) ?_
    refine lv_iconst (v := 2) hx hb dL_law_377 (by decide) ?_
    refine lv_iadd hx hb dL_law_378 ?_
    refine va_sld hx hb hX hbl hbA hS (hin 2 (by decide)) dL_law_379 ?_
    refine lv_if_eq (tgt := 387) hx hb dL_law_380 (by decide) (fun h9 => absurd h9 hk356) (fun _ => ?_)
    refine lv_iconst (v := 1) hx hb dL_law_383 (by decide) ?_
    refine lv_goto (tgt := 388) hx hb dL_law_384 (by decide) ?_
    refine p_callV (n := 2) (As := [.int (xs (i + 1).toNatClampNeg), .int 1]) (rest := [.int r]) C hP hS (wv_L_59 C.2.2.2.2.1 _) (c_X10_fails l hE hm) (e_X10) rfl rfl hd_X10_fails rfl ⟨Nat.le_of_ble_eq_true rfl, Nat.le_of_ble_eq_true rfl⟩ hl.1 rfl (Nat.le_of_ble_eq_true rfl) dL_law_388 ⟨Nat.le_trans (Nat.le_add_right _ _) hcs.1, Nat.le_trans (Nat.le_add_right _ _) hcs.2⟩ (fun H locs hP hS _ hk => ?_)
    have hG := pOe_call ho hG hk
    refine W.eq (g2 := F0 m 391 ls [.int r, .int r]) rfl ?_
    refine lv_icmp_eq (tgt := 909) hx hb dL_law_391 (by decide) (fun _ => ?_) (fun h => absurd rfl h)
    exact p_widen (Nat.le_add_right _ _) (Nat.le_add_right _ _) (kk H locs ls _ _ _ hP hG hR1 hS (lv_sub hl [0, 1, 2, 3, 4] rfl))
set_option maxHeartbeats 4000000 in
set_option maxRecDepth 100000 in
theorem lc_5 (hcs : cells + 1 ≤ room_1.cells ∧ slots + 8 ≤ room_1.slots) (hlt : l.stackTraces = false) (C : pCx p s m c cL_law 7 E RL) (ho : pOut E o) (hoA : s.heap.size ≤ o) (hZ : pXs (pA E s.heap.size) s s.heap) (hX : va_X b L xs s s.heap) (hbl : b < s.heap.size) (hbA : ¬ pA E s.heap.size b) (hin : ∀ k : Int32, k = 1 ∨ k = 2 ∨ k = 3 → vp_in (i + k) L)
    (hP : va_P (pD E) vwCl (pw E α β) H) (hG : va_P (pD E) vwCl (pOe E o g) H) (hR : rA α β) (hS : va_S (pA E s.heap.size) s.heap H locs) (hl : lv_has ls 7 [(0, .ref b), (1, .ref (pL E 0)), (2, .ref (pL E 57)), (3, .ref o), (4, .int i)])
    (kk : lw_K p l e s m args below meth c (cells + 1) (slots + 8) Q E b o i) : W p l e room_1 s m args below meth c H locs cells slots Q (F0 m 396 ls []) := by
  have hE := C.2.2.2.2.2.2
  have hx := C.1
  have hb := C.2.1
  refine lv_aload_n hx hb dL_law_396 rfl (lv_at hl 1 rfl) ?_
  refine lv_aload_n hx hb dL_law_397 rfl (lv_at hl 0 rfl) ?_
  refine lv_iload hx hb dL_law_398 (lv_at hl 4 rfl) ?_
  refine lv_iconst (v := 1) hx hb dL_law_400 (by decide) ?_
  refine lv_iadd hx hb dL_law_401 ?_
  refine va_sld hx hb hX hbl hbA hS (hin 1 (by decide)) dL_law_402 ?_
  obtain ⟨r, α', β', hc, hm, hR1⟩ := sm_judge hR (xs (i + 1).toNatClampNeg)
  refine p_callV (n := 1) (As := [.int (xs (i + 1).toNatClampNeg)]) (rest := []) C hP hS (wv_L_60 C.2.2.2.2.1 _) (c_X9_judge l hE hc) (e_X9) rfl rfl hd_X9_judge rfl ⟨Nat.le_of_ble_eq_true rfl, Nat.le_of_ble_eq_true rfl⟩ hl.1 rfl (Nat.le_of_ble_eq_true rfl) dL_law_403 ⟨Nat.le_trans (Nat.le_add_right _ _) hcs.1, Nat.le_trans (Nat.le_add_right _ _) hcs.2⟩ (fun H locs hP hS _ hk => ?_)
  have hG := pOe_call ho hG hk
  refine W.eq (g2 := F0 m 406 ls [.int r]) rfl ?_
  refine lv_aload_n hx hb dL_law_406 rfl (lv_at hl 2 rfl) ?_
  refine lv_aload_n hx hb dL_law_407 rfl (lv_at hl 0 rfl) ?_
  refine lv_iload hx hb dL_law_408 (lv_at hl 4 rfl) ?_
  refine lv_iconst (v := 1) hx hb dL_law_410 (by decide) ?_
  refine lv_iadd hx hb dL_law_411 ?_
  refine va_sld hx hb hX hbl hbA hS (hin 1 (by decide)) dL_law_412 ?_
  refine p_callV (n := 1) (As := [.int (xs (i + 1).toNatClampNeg)]) (rest := [.int r]) C hP hS (wv_L_63 C.2.2.2.2.1 _) (c_X10_judge l hE hm) (e_X10) rfl rfl hd_X10_judge rfl ⟨Nat.le_of_ble_eq_true rfl, Nat.le_of_ble_eq_true rfl⟩ hl.1 rfl (Nat.le_of_ble_eq_true rfl) dL_law_413 ⟨Nat.le_trans (Nat.le_add_right _ _) hcs.1, Nat.le_trans (Nat.le_add_right _ _) hcs.2⟩ (fun H locs hP hS _ hk => ?_)
  have hG := pOe_call ho hG hk
  refine W.eq (g2 := F0 m 416 ls [.int r, .int r]) rfl ?_
  refine lv_icmp_eq (tgt := 909) hx hb dL_law_416 (by decide) (fun _ => ?_) (fun h => absurd rfl h)
  exact p_widen (Nat.le_add_right _ _) (Nat.le_add_right _ _) (kk H locs ls _ _ _ hP hG hR1 hS (lv_sub hl [0, 1, 2, 3, 4] rfl))
set_option maxHeartbeats 4000000 in
set_option maxRecDepth 100000 in
theorem lc_6 (hcs : cells + 1 ≤ room_1.cells ∧ slots + 8 ≤ room_1.slots) (hlt : l.stackTraces = false) (C : pCx p s m c cL_law 7 E RL) (ho : pOut E o) (hoA : s.heap.size ≤ o) (hZ : pXs (pA E s.heap.size) s s.heap) (hX : va_X b L xs s s.heap) (hbl : b < s.heap.size) (hbA : ¬ pA E s.heap.size b) (hin : ∀ k : Int32, k = 1 ∨ k = 2 ∨ k = 3 → vp_in (i + k) L)
    (hP : va_P (pD E) vwCl (pw E α β) H) (hG : va_P (pD E) vwCl (pOe E o g) H) (hR : rA α β) (hS : va_S (pA E s.heap.size) s.heap H locs) (hl : lv_has ls 7 [(0, .ref b), (1, .ref (pL E 0)), (2, .ref (pL E 57)), (3, .ref o), (4, .int i)])
    (kk : lw_K p l e s m args below meth c (cells + 1) (slots + 8) Q E b o i) : W p l e room_1 s m args below meth c H locs cells slots Q (F0 m 421 ls []) := by
  have hE := C.2.2.2.2.2.2
  have hx := C.1
  have hb := C.2.1
  refine lv_aload_n hx hb dL_law_421 rfl (lv_at hl 1 rfl) ?_
  refine lv_aload_n hx hb dL_law_422 rfl (lv_at hl 0 rfl) ?_
  refine lv_iload hx hb dL_law_423 (lv_at hl 4 rfl) ?_
  refine lv_iconst (v := 1) hx hb dL_law_425 (by decide) ?_
  refine lv_iadd hx hb dL_law_426 ?_
  refine va_sld hx hb hX hbl hbA hS (hin 1 (by decide)) dL_law_427 ?_
  obtain ⟨r, α', β', hc, hm, hR1⟩ := sm_define hR (xs (i + 1).toNatClampNeg)
  refine p_callV (n := 1) (As := [.int (xs (i + 1).toNatClampNeg)]) (rest := []) C hP hS (wv_L_64 C.2.2.2.2.1 _) (c_X9_define l hE hc) (e_X9) rfl rfl hd_X9_define rfl ⟨Nat.le_of_ble_eq_true rfl, Nat.le_of_ble_eq_true rfl⟩ hl.1 rfl (Nat.le_of_ble_eq_true rfl) dL_law_428 ⟨Nat.le_trans (Nat.le_add_right _ _) hcs.1, Nat.le_trans (Nat.le_add_right _ _) hcs.2⟩ (fun H locs hP hS _ hk => ?_)
  have hG := pOe_call ho hG hk
  refine W.eq (g2 := F0 m 431 ls [.int r]) rfl ?_
  refine lv_aload_n hx hb dL_law_431 rfl (lv_at hl 2 rfl) ?_
  refine lv_aload_n hx hb dL_law_432 rfl (lv_at hl 0 rfl) ?_
  refine lv_iload hx hb dL_law_433 (lv_at hl 4 rfl) ?_
  refine lv_iconst (v := 1) hx hb dL_law_435 (by decide) ?_
  refine lv_iadd hx hb dL_law_436 ?_
  refine va_sld hx hb hX hbl hbA hS (hin 1 (by decide)) dL_law_437 ?_
  refine p_callV (n := 1) (As := [.int (xs (i + 1).toNatClampNeg)]) (rest := [.int r]) C hP hS (wv_L_67 C.2.2.2.2.1 _) (c_X10_define l hE hm) (e_X10) rfl rfl hd_X10_define rfl ⟨Nat.le_of_ble_eq_true rfl, Nat.le_of_ble_eq_true rfl⟩ hl.1 rfl (Nat.le_of_ble_eq_true rfl) dL_law_438 ⟨Nat.le_trans (Nat.le_add_right _ _) hcs.1, Nat.le_trans (Nat.le_add_right _ _) hcs.2⟩ (fun H locs hP hS _ hk => ?_)
  have hG := pOe_call ho hG hk
  refine W.eq (g2 := F0 m 441 ls [.int r, .int r]) rfl ?_
  refine lv_icmp_eq (tgt := 909) hx hb dL_law_441 (by decide) (fun _ => ?_) (fun h => absurd rfl h)
  exact p_widen (Nat.le_add_right _ _) (Nat.le_add_right _ _) (kk H locs ls _ _ _ hP hG hR1 hS (lv_sub hl [0, 1, 2, 3, 4] rfl))
set_option maxHeartbeats 4000000 in
set_option maxRecDepth 100000 in
theorem lc_7 (hcs : cells + 1 ≤ room_1.cells ∧ slots + 8 ≤ room_1.slots) (hlt : l.stackTraces = false) (C : pCx p s m c cL_law 7 E RL) (ho : pOut E o) (hoA : s.heap.size ≤ o) (hZ : pXs (pA E s.heap.size) s s.heap) (hX : va_X b L xs s s.heap) (hbl : b < s.heap.size) (hbA : ¬ pA E s.heap.size b) (hin : ∀ k : Int32, k = 1 ∨ k = 2 ∨ k = 3 → vp_in (i + k) L)
    (hP : va_P (pD E) vwCl (pw E α β) H) (hG : va_P (pD E) vwCl (pOe E o g) H) (hR : rA α β) (hS : va_S (pA E s.heap.size) s.heap H locs) (hl : lv_has ls 7 [(0, .ref b), (1, .ref (pL E 0)), (2, .ref (pL E 57)), (3, .ref o), (4, .int i)])
    (kk : lw_K p l e s m args below meth c (cells + 1) (slots + 8) Q E b o i) : W p l e room_1 s m args below meth c H locs cells slots Q (F0 m 446 ls []) := by
  have hE := C.2.2.2.2.2.2
  have hx := C.1
  have hb := C.2.1
  refine lv_aload_n hx hb dL_law_446 rfl (lv_at hl 1 rfl) ?_
  refine lv_aload_n hx hb dL_law_447 rfl (lv_at hl 0 rfl) ?_
  refine lv_iload hx hb dL_law_448 (lv_at hl 4 rfl) ?_
  refine lv_iconst (v := 1) hx hb dL_law_450 (by decide) ?_
  refine lv_iadd hx hb dL_law_451 ?_
  refine va_sld hx hb hX hbl hbA hS (hin 1 (by decide)) dL_law_452 ?_
  refine lv_aload_n hx hb dL_law_453 rfl (lv_at hl 0 rfl) ?_
  refine lv_iload hx hb dL_law_454 (lv_at hl 4 rfl) ?_
  refine lv_iconst (v := 2) hx hb dL_law_456 (by decide) ?_
  refine lv_iadd hx hb dL_law_457 ?_
  refine va_sld hx hb hX hbl hbA hS (hin 2 (by decide)) dL_law_458 ?_
  obtain ⟨r, α', β', hc, hm, hR1⟩ := sm_unit hR (xs (i + 1).toNatClampNeg) (xs (i + 2).toNatClampNeg)
  refine p_callV (n := 2) (As := [.int (xs (i + 1).toNatClampNeg), .int (xs (i + 2).toNatClampNeg)]) (rest := []) C hP hS (wv_L_68 C.2.2.2.2.1 _) (c_X9_unit l hE hc) (e_X9) rfl rfl hd_X9_unit rfl ⟨Nat.le_of_ble_eq_true rfl, Nat.le_of_ble_eq_true rfl⟩ hl.1 rfl (Nat.le_of_ble_eq_true rfl) dL_law_459 ⟨Nat.le_trans (Nat.le_add_right _ _) hcs.1, Nat.le_trans (Nat.le_add_right _ _) hcs.2⟩ (fun H locs hP hS _ hk => ?_)
  have hG := pOe_call ho hG hk
  refine W.eq (g2 := F0 m 462 ls [.int r]) rfl ?_
  refine lv_aload_n hx hb dL_law_462 rfl (lv_at hl 2 rfl) ?_
  refine lv_aload_n hx hb dL_law_463 rfl (lv_at hl 0 rfl) ?_
  refine lv_iload hx hb dL_law_464 (lv_at hl 4 rfl) ?_
  refine lv_iconst (v := 1) hx hb dL_law_466 (by decide) ?_
  refine lv_iadd hx hb dL_law_467 ?_
  refine va_sld hx hb hX hbl hbA hS (hin 1 (by decide)) dL_law_468 ?_
  refine lv_aload_n hx hb dL_law_469 rfl (lv_at hl 0 rfl) ?_
  refine lv_iload hx hb dL_law_470 (lv_at hl 4 rfl) ?_
  refine lv_iconst (v := 2) hx hb dL_law_472 (by decide) ?_
  refine lv_iadd hx hb dL_law_473 ?_
  refine va_sld hx hb hX hbl hbA hS (hin 2 (by decide)) dL_law_474 ?_
  refine p_callV (n := 2) (As := [.int (xs (i + 1).toNatClampNeg), .int (xs (i + 2).toNatClampNeg)]) (rest := [.int r]) C hP hS (wv_L_71 C.2.2.2.2.1 _) (c_X10_unit l hE hm) (e_X10) rfl rfl hd_X10_unit rfl ⟨Nat.le_of_ble_eq_true rfl, Nat.le_of_ble_eq_true rfl⟩ hl.1 rfl (Nat.le_of_ble_eq_true rfl) dL_law_475 ⟨Nat.le_trans (Nat.le_add_right _ _) hcs.1, Nat.le_trans (Nat.le_add_right _ _) hcs.2⟩ (fun H locs hP hS _ hk => ?_)
  have hG := pOe_call ho hG hk
  refine W.eq (g2 := F0 m 478 ls [.int r, .int r]) rfl ?_
  refine lv_icmp_eq (tgt := 909) hx hb dL_law_478 (by decide) (fun _ => ?_) (fun h => absurd rfl h)
  exact p_widen (Nat.le_add_right _ _) (Nat.le_add_right _ _) (kk H locs ls _ _ _ hP hG hR1 hS (lv_sub hl [0, 1, 2, 3, 4] rfl))
set_option maxHeartbeats 4000000 in
set_option maxRecDepth 100000 in
theorem lc_8 (hcs : cells + 1 ≤ room_1.cells ∧ slots + 8 ≤ room_1.slots) (hlt : l.stackTraces = false) (C : pCx p s m c cL_law 7 E RL) (ho : pOut E o) (hoA : s.heap.size ≤ o) (hZ : pXs (pA E s.heap.size) s s.heap) (hX : va_X b L xs s s.heap) (hbl : b < s.heap.size) (hbA : ¬ pA E s.heap.size b) (hin : ∀ k : Int32, k = 1 ∨ k = 2 ∨ k = 3 → vp_in (i + k) L)
    (hP : va_P (pD E) vwCl (pw E α β) H) (hG : va_P (pD E) vwCl (pOe E o g) H) (hR : rA α β) (hS : va_S (pA E s.heap.size) s.heap H locs) (hl : lv_has ls 7 [(0, .ref b), (1, .ref (pL E 0)), (2, .ref (pL E 57)), (3, .ref o), (4, .int i)])
    (kk : lw_K p l e s m args below meth c (cells + 1) (slots + 8) Q E b o i) : W p l e room_1 s m args below meth c H locs cells slots Q (F0 m 483 ls []) := by
  have hE := C.2.2.2.2.2.2
  have hx := C.1
  have hb := C.2.1
  refine lv_aload_n hx hb dL_law_483 rfl (lv_at hl 1 rfl) ?_
  refine lv_aload_n hx hb dL_law_484 rfl (lv_at hl 0 rfl) ?_
  refine lv_iload hx hb dL_law_485 (lv_at hl 4 rfl) ?_
  refine lv_iconst (v := 1) hx hb dL_law_487 (by decide) ?_
  refine lv_iadd hx hb dL_law_488 ?_
  refine va_sld hx hb hX hbl hbA hS (hin 1 (by decide)) dL_law_489 ?_
  refine lv_aload_n hx hb dL_law_490 rfl (lv_at hl 0 rfl) ?_
  refine lv_iload hx hb dL_law_491 (lv_at hl 4 rfl) ?_
  refine lv_iconst (v := 2) hx hb dL_law_493 (by decide) ?_
  refine lv_iadd hx hb dL_law_494 ?_
  refine va_sld hx hb hX hbl hbA hS (hin 2 (by decide)) dL_law_495 ?_
  obtain ⟨r, α', β', hc, hm, hR1⟩ := sm_marks hR (xs (i + 1).toNatClampNeg) (xs (i + 2).toNatClampNeg)
  refine p_callV (n := 2) (As := [.int (xs (i + 1).toNatClampNeg), .int (xs (i + 2).toNatClampNeg)]) (rest := []) C hP hS (wv_L_72 C.2.2.2.2.1 _) (c_X9_marks l hE hc) (e_X9) rfl rfl hd_X9_marks rfl ⟨Nat.le_of_ble_eq_true rfl, Nat.le_of_ble_eq_true rfl⟩ hl.1 rfl (Nat.le_of_ble_eq_true rfl) dL_law_496 ⟨Nat.le_trans (Nat.le_add_right _ _) hcs.1, Nat.le_trans (Nat.le_add_right _ _) hcs.2⟩ (fun H locs hP hS _ hk => ?_)
  have hG := pOe_call ho hG hk
  refine W.eq (g2 := F0 m 499 ls [.int r]) rfl ?_
  refine lv_aload_n hx hb dL_law_499 rfl (lv_at hl 2 rfl) ?_
  refine lv_aload_n hx hb dL_law_500 rfl (lv_at hl 0 rfl) ?_
  refine lv_iload hx hb dL_law_501 (lv_at hl 4 rfl) ?_
  refine lv_iconst (v := 1) hx hb dL_law_503 (by decide) ?_
  refine lv_iadd hx hb dL_law_504 ?_
  refine va_sld hx hb hX hbl hbA hS (hin 1 (by decide)) dL_law_505 ?_
  refine lv_aload_n hx hb dL_law_506 rfl (lv_at hl 0 rfl) ?_
  refine lv_iload hx hb dL_law_507 (lv_at hl 4 rfl) ?_
  refine lv_iconst (v := 2) hx hb dL_law_509 (by decide) ?_
  refine lv_iadd hx hb dL_law_510 ?_
  refine va_sld hx hb hX hbl hbA hS (hin 2 (by decide)) dL_law_511 ?_
  refine p_callV (n := 2) (As := [.int (xs (i + 1).toNatClampNeg), .int (xs (i + 2).toNatClampNeg)]) (rest := [.int r]) C hP hS (wv_L_75 C.2.2.2.2.1 _) (c_X10_marks l hE hm) (e_X10) rfl rfl hd_X10_marks rfl ⟨Nat.le_of_ble_eq_true rfl, Nat.le_of_ble_eq_true rfl⟩ hl.1 rfl (Nat.le_of_ble_eq_true rfl) dL_law_512 ⟨Nat.le_trans (Nat.le_add_right _ _) hcs.1, Nat.le_trans (Nat.le_add_right _ _) hcs.2⟩ (fun H locs hP hS _ hk => ?_)
  have hG := pOe_call ho hG hk
  refine W.eq (g2 := F0 m 515 ls [.int r, .int r]) rfl ?_
  refine lv_icmp_eq (tgt := 909) hx hb dL_law_515 (by decide) (fun _ => ?_) (fun h => absurd rfl h)
  exact p_widen (Nat.le_add_right _ _) (Nat.le_add_right _ _) (kk H locs ls _ _ _ hP hG hR1 hS (lv_sub hl [0, 1, 2, 3, 4] rfl))
set_option maxHeartbeats 4000000 in
set_option maxRecDepth 100000 in
theorem lc_9 (hcs : cells + 1 ≤ room_1.cells ∧ slots + 8 ≤ room_1.slots) (hlt : l.stackTraces = false) (C : pCx p s m c cL_law 7 E RL) (ho : pOut E o) (hoA : s.heap.size ≤ o) (hZ : pXs (pA E s.heap.size) s s.heap) (hX : va_X b L xs s s.heap) (hbl : b < s.heap.size) (hbA : ¬ pA E s.heap.size b) (hin : ∀ k : Int32, k = 1 ∨ k = 2 ∨ k = 3 → vp_in (i + k) L)
    (hP : va_P (pD E) vwCl (pw E α β) H) (hG : va_P (pD E) vwCl (pOe E o g) H) (hR : rA α β) (hS : va_S (pA E s.heap.size) s.heap H locs) (hl : lv_has ls 7 [(0, .ref b), (1, .ref (pL E 0)), (2, .ref (pL E 57)), (3, .ref o), (4, .int i)])
    (kk : lw_K p l e s m args below meth c (cells + 1) (slots + 8) Q E b o i) : W p l e room_1 s m args below meth c H locs cells slots Q (F0 m 520 ls []) := by
  have hE := C.2.2.2.2.2.2
  have hx := C.1
  have hb := C.2.1
  refine lv_aload_n hx hb dL_law_520 rfl (lv_at hl 1 rfl) ?_
  obtain ⟨r, α', β', hc, hm, hR1⟩ := sm_anew hR
  refine p_callV (n := 0) (As := []) (rest := []) C hP hS (wv_L_76 C.2.2.2.2.1 _) (c_X9_anew l hE hc) (e_X9) rfl rfl hd_X9_anew rfl ⟨Nat.le_of_ble_eq_true rfl, Nat.le_of_ble_eq_true rfl⟩ hl.1 rfl (Nat.le_of_ble_eq_true rfl) dL_law_521 ⟨Nat.le_trans (Nat.le_add_right _ _) hcs.1, Nat.le_trans (Nat.le_add_right _ _) hcs.2⟩ (fun H locs hP hS _ hk => ?_)
  have hG := pOe_call ho hG hk
  refine W.eq (g2 := F0 m 524 ls [.int r]) rfl ?_
  refine lv_aload_n hx hb dL_law_524 rfl (lv_at hl 2 rfl) ?_
  refine p_callV (n := 0) (As := []) (rest := [.int r]) C hP hS (wv_L_79 C.2.2.2.2.1 _) (c_X10_anew l hE hm) (e_X10) rfl rfl hd_X10_anew rfl ⟨Nat.le_of_ble_eq_true rfl, Nat.le_of_ble_eq_true rfl⟩ hl.1 rfl (Nat.le_of_ble_eq_true rfl) dL_law_525 ⟨Nat.le_trans (Nat.le_add_right _ _) hcs.1, Nat.le_trans (Nat.le_add_right _ _) hcs.2⟩ (fun H locs hP hS _ hk => ?_)
  have hG := pOe_call ho hG hk
  refine W.eq (g2 := F0 m 528 ls [.int r, .int r]) rfl ?_
  refine lv_icmp_eq (tgt := 909) hx hb dL_law_528 (by decide) (fun _ => ?_) (fun h => absurd rfl h)
  exact p_widen (Nat.le_add_right _ _) (Nat.le_add_right _ _) (kk H locs ls _ _ _ hP hG hR1 hS (lv_sub hl [0, 1, 2, 3, 4] rfl))
set_option maxHeartbeats 4000000 in
set_option maxRecDepth 100000 in
theorem lc_10 (hcs : cells + 1 ≤ room_1.cells ∧ slots + 8 ≤ room_1.slots) (hlt : l.stackTraces = false) (C : pCx p s m c cL_law 7 E RL) (ho : pOut E o) (hoA : s.heap.size ≤ o) (hZ : pXs (pA E s.heap.size) s s.heap) (hX : va_X b L xs s s.heap) (hbl : b < s.heap.size) (hbA : ¬ pA E s.heap.size b) (hin : ∀ k : Int32, k = 1 ∨ k = 2 ∨ k = 3 → vp_in (i + k) L)
    (hP : va_P (pD E) vwCl (pw E α β) H) (hG : va_P (pD E) vwCl (pOe E o g) H) (hR : rA α β) (hS : va_S (pA E s.heap.size) s.heap H locs) (hl : lv_has ls 7 [(0, .ref b), (1, .ref (pL E 0)), (2, .ref (pL E 57)), (3, .ref o), (4, .int i)])
    (kk : lw_K p l e s m args below meth c (cells + 1) (slots + 8) Q E b o i) : W p l e room_1 s m args below meth c H locs cells slots Q (F0 m 533 ls []) := by
  have hE := C.2.2.2.2.2.2
  have hx := C.1
  have hb := C.2.1
  refine lv_aload_n hx hb dL_law_533 rfl (lv_at hl 1 rfl) ?_
  refine lv_aload_n hx hb dL_law_534 rfl (lv_at hl 0 rfl) ?_
  refine lv_iload hx hb dL_law_535 (lv_at hl 4 rfl) ?_
  refine lv_iconst (v := 1) hx hb dL_law_537 (by decide) ?_
  refine lv_iadd hx hb dL_law_538 ?_
  refine va_sld hx hb hX hbl hbA hS (hin 1 (by decide)) dL_law_539 ?_
  refine lv_aload_n hx hb dL_law_540 rfl (lv_at hl 0 rfl) ?_
  refine lv_iload hx hb dL_law_541 (lv_at hl 4 rfl) ?_
  refine lv_iconst (v := 2) hx hb dL_law_543 (by decide) ?_
  refine lv_iadd hx hb dL_law_544 ?_
  refine va_sld hx hb hX hbl hbA hS (hin 2 (by decide)) dL_law_545 ?_
  obtain ⟨r, α', β', hc, hm, hR1⟩ := sm_option hR (xs (i + 1).toNatClampNeg) (xs (i + 2).toNatClampNeg)
  refine p_callV (n := 2) (As := [.int (xs (i + 1).toNatClampNeg), .int (xs (i + 2).toNatClampNeg)]) (rest := []) C hP hS (wv_L_80 C.2.2.2.2.1 _) (c_X9_option l hE hc) (e_X9) rfl rfl hd_X9_option rfl ⟨Nat.le_of_ble_eq_true rfl, Nat.le_of_ble_eq_true rfl⟩ hl.1 rfl (Nat.le_of_ble_eq_true rfl) dL_law_546 ⟨Nat.le_trans (Nat.le_add_right _ _) hcs.1, Nat.le_trans (Nat.le_add_right _ _) hcs.2⟩ (fun H locs hP hS _ hk => ?_)
  have hG := pOe_call ho hG hk
  refine W.eq (g2 := F0 m 549 ls [.int r]) rfl ?_
  refine lv_aload_n hx hb dL_law_549 rfl (lv_at hl 2 rfl) ?_
  refine lv_aload_n hx hb dL_law_550 rfl (lv_at hl 0 rfl) ?_
  refine lv_iload hx hb dL_law_551 (lv_at hl 4 rfl) ?_
  refine lv_iconst (v := 1) hx hb dL_law_553 (by decide) ?_
  refine lv_iadd hx hb dL_law_554 ?_
  refine va_sld hx hb hX hbl hbA hS (hin 1 (by decide)) dL_law_555 ?_
  refine lv_aload_n hx hb dL_law_556 rfl (lv_at hl 0 rfl) ?_
  refine lv_iload hx hb dL_law_557 (lv_at hl 4 rfl) ?_
  refine lv_iconst (v := 2) hx hb dL_law_559 (by decide) ?_
  refine lv_iadd hx hb dL_law_560 ?_
  refine va_sld hx hb hX hbl hbA hS (hin 2 (by decide)) dL_law_561 ?_
  refine p_callV (n := 2) (As := [.int (xs (i + 1).toNatClampNeg), .int (xs (i + 2).toNatClampNeg)]) (rest := [.int r]) C hP hS (wv_L_83 C.2.2.2.2.1 _) (c_X10_option l hE hm) (e_X10) rfl rfl hd_X10_option rfl ⟨Nat.le_of_ble_eq_true rfl, Nat.le_of_ble_eq_true rfl⟩ hl.1 rfl (Nat.le_of_ble_eq_true rfl) dL_law_562 ⟨Nat.le_trans (Nat.le_add_right _ _) hcs.1, Nat.le_trans (Nat.le_add_right _ _) hcs.2⟩ (fun H locs hP hS _ hk => ?_)
  have hG := pOe_call ho hG hk
  refine W.eq (g2 := F0 m 565 ls [.int r, .int r]) rfl ?_
  refine lv_icmp_eq (tgt := 909) hx hb dL_law_565 (by decide) (fun _ => ?_) (fun h => absurd rfl h)
  exact p_widen (Nat.le_add_right _ _) (Nat.le_add_right _ _) (kk H locs ls _ _ _ hP hG hR1 hS (lv_sub hl [0, 1, 2, 3, 4] rfl))
set_option maxHeartbeats 4000000 in
set_option maxRecDepth 100000 in
theorem lc_11 (hcs : cells + 1 ≤ room_1.cells ∧ slots + 8 ≤ room_1.slots) (hlt : l.stackTraces = false) (C : pCx p s m c cL_law 7 E RL) (ho : pOut E o) (hoA : s.heap.size ≤ o) (hZ : pXs (pA E s.heap.size) s s.heap) (hX : va_X b L xs s s.heap) (hbl : b < s.heap.size) (hbA : ¬ pA E s.heap.size b) (hin : ∀ k : Int32, k = 1 ∨ k = 2 ∨ k = 3 → vp_in (i + k) L)
    (hP : va_P (pD E) vwCl (pw E α β) H) (hG : va_P (pD E) vwCl (pOe E o g) H) (hR : rA α β) (hS : va_S (pA E s.heap.size) s.heap H locs) (hl : lv_has ls 7 [(0, .ref b), (1, .ref (pL E 0)), (2, .ref (pL E 57)), (3, .ref o), (4, .int i)])
    (kk : lw_K p l e s m args below meth c (cells + 1) (slots + 8) Q E b o i) : W p l e room_1 s m args below meth c H locs cells slots Q (F0 m 570 ls []) := by
  have hE := C.2.2.2.2.2.2
  have hx := C.1
  have hb := C.2.1
  refine lv_aload_n hx hb dL_law_570 rfl (lv_at hl 1 rfl) ?_
  refine lv_aload_n hx hb dL_law_571 rfl (lv_at hl 0 rfl) ?_
  refine lv_iload hx hb dL_law_572 (lv_at hl 4 rfl) ?_
  refine lv_iconst (v := 1) hx hb dL_law_574 (by decide) ?_
  refine lv_iadd hx hb dL_law_575 ?_
  refine va_sld hx hb hX hbl hbA hS (hin 1 (by decide)) dL_law_576 ?_
  refine lv_if_eq (tgt := 584) hx hb dL_law_577 (by decide) (fun hk577 => ?_) (fun hk577 => ?_)
  · skip
    refine lv_iconst (v := 0) hx hb dL_law_584 (by decide) ?_
    obtain ⟨r, α', β', hc, hm, hR1⟩ := sm_pass hR (a0 := 0) (Or.inl rfl)
    refine p_callV (n := 1) (As := [.int 0]) (rest := []) C hP hS (wv_L_84 C.2.2.2.2.1 _) (c_X9_pass l hE hc) (e_X9) rfl rfl hd_X9_pass rfl ⟨Nat.le_of_ble_eq_true rfl, Nat.le_of_ble_eq_true rfl⟩ hl.1 rfl (Nat.le_of_ble_eq_true rfl) dL_law_585 ⟨Nat.le_trans (Nat.le_add_right _ _) hcs.1, Nat.le_trans (Nat.le_add_right _ _) hcs.2⟩ (fun H locs hP hS _ hk => ?_)
    have hG := pOe_call ho hG hk
    refine W.eq (g2 := F0 m 588 ls [.int r]) rfl ?_
    refine lv_aload_n hx hb dL_law_588 rfl (lv_at hl 2 rfl) ?_
    refine lv_aload_n hx hb dL_law_589 rfl (lv_at hl 0 rfl) ?_
    refine lv_iload hx hb dL_law_590 (lv_at hl 4 rfl) ?_
    refine lv_iconst (v := 1) hx hb dL_law_592 (by decide) ?_
    refine lv_iadd hx hb dL_law_593 ?_
    refine va_sld hx hb hX hbl hbA hS (hin 1 (by decide)) dL_law_594 ?_
    refine lv_if_eq (tgt := 602) hx hb dL_law_595 (by decide) (fun _ => ?_) (fun h9 => absurd hk577 h9)
    refine lv_iconst (v := 0) hx hb dL_law_602 (by decide) ?_
    refine p_callV (n := 1) (As := [.int 0]) (rest := [.int r]) C hP hS (wv_L_88 C.2.2.2.2.1 _) (c_X10_pass l hE hm) (e_X10) rfl rfl hd_X10_pass rfl ⟨Nat.le_of_ble_eq_true rfl, Nat.le_of_ble_eq_true rfl⟩ hl.1 rfl (Nat.le_of_ble_eq_true rfl) dL_law_603 ⟨Nat.le_trans (Nat.le_add_right _ _) hcs.1, Nat.le_trans (Nat.le_add_right _ _) hcs.2⟩ (fun H locs hP hS _ hk => ?_)
    have hG := pOe_call ho hG hk
    refine W.eq (g2 := F0 m 606 ls [.int r, .int r]) rfl ?_
    refine lv_icmp_eq (tgt := 909) hx hb dL_law_606 (by decide) (fun _ => ?_) (fun h => absurd rfl h)
    exact p_widen (Nat.le_add_right _ _) (Nat.le_add_right _ _) (kk H locs ls _ _ _ hP hG hR1 hS (lv_sub hl [0, 1, 2, 3, 4] rfl))
  · skip
    refine lv_iconst (v := 1) hx hb dL_law_580 (by decide) ?_
    refine lv_goto (tgt := 585) hx hb dL_law_581 (by decide) ?_
    obtain ⟨r, α', β', hc, hm, hR1⟩ := sm_pass hR (a0 := 1) (Or.inr rfl)
    refine p_callV (n := 1) (As := [.int 1]) (rest := []) C hP hS (wv_L_84 C.2.2.2.2.1 _) (c_X9_pass l hE hc) (e_X9) rfl rfl hd_X9_pass rfl ⟨Nat.le_of_ble_eq_true rfl, Nat.le_of_ble_eq_true rfl⟩ hl.1 rfl (Nat.le_of_ble_eq_true rfl) dL_law_585 ⟨Nat.le_trans (Nat.le_add_right _ _) hcs.1, Nat.le_trans (Nat.le_add_right _ _) hcs.2⟩ (fun H locs hP hS _ hk => ?_)
    have hG := pOe_call ho hG hk
    refine W.eq (g2 := F0 m 588 ls [.int r]) rfl ?_
    refine lv_aload_n hx hb dL_law_588 rfl (lv_at hl 2 rfl) ?_
    refine lv_aload_n hx hb dL_law_589 rfl (lv_at hl 0 rfl) ?_
    refine lv_iload hx hb dL_law_590 (lv_at hl 4 rfl) ?_
    refine lv_iconst (v := 1) hx hb dL_law_592 (by decide) ?_
    refine lv_iadd hx hb dL_law_593 ?_
    refine va_sld hx hb hX hbl hbA hS (hin 1 (by decide)) dL_law_594 ?_
    refine lv_if_eq (tgt := 602) hx hb dL_law_595 (by decide) (fun h9 => absurd h9 hk577) (fun _ => ?_)
    refine lv_iconst (v := 1) hx hb dL_law_598 (by decide) ?_
    refine lv_goto (tgt := 603) hx hb dL_law_599 (by decide) ?_
    refine p_callV (n := 1) (As := [.int 1]) (rest := [.int r]) C hP hS (wv_L_88 C.2.2.2.2.1 _) (c_X10_pass l hE hm) (e_X10) rfl rfl hd_X10_pass rfl ⟨Nat.le_of_ble_eq_true rfl, Nat.le_of_ble_eq_true rfl⟩ hl.1 rfl (Nat.le_of_ble_eq_true rfl) dL_law_603 ⟨Nat.le_trans (Nat.le_add_right _ _) hcs.1, Nat.le_trans (Nat.le_add_right _ _) hcs.2⟩ (fun H locs hP hS _ hk => ?_)
    have hG := pOe_call ho hG hk
    refine W.eq (g2 := F0 m 606 ls [.int r, .int r]) rfl ?_
    refine lv_icmp_eq (tgt := 909) hx hb dL_law_606 (by decide) (fun _ => ?_) (fun h => absurd rfl h)
    exact p_widen (Nat.le_add_right _ _) (Nat.le_add_right _ _) (kk H locs ls _ _ _ hP hG hR1 hS (lv_sub hl [0, 1, 2, 3, 4] rfl))
set_option maxHeartbeats 4000000 in
set_option maxRecDepth 100000 in
theorem lc_12 (hcs : cells + 1 ≤ room_1.cells ∧ slots + 8 ≤ room_1.slots) (hlt : l.stackTraces = false) (C : pCx p s m c cL_law 7 E RL) (ho : pOut E o) (hoA : s.heap.size ≤ o) (hZ : pXs (pA E s.heap.size) s s.heap) (hX : va_X b L xs s s.heap) (hbl : b < s.heap.size) (hbA : ¬ pA E s.heap.size b) (hin : ∀ k : Int32, k = 1 ∨ k = 2 ∨ k = 3 → vp_in (i + k) L)
    (hP : va_P (pD E) vwCl (pw E α β) H) (hG : va_P (pD E) vwCl (pOe E o g) H) (hR : rA α β) (hS : va_S (pA E s.heap.size) s.heap H locs) (hl : lv_has ls 7 [(0, .ref b), (1, .ref (pL E 0)), (2, .ref (pL E 57)), (3, .ref o), (4, .int i)])
    (kk : lw_K p l e s m args below meth c (cells + 1) (slots + 8) Q E b o i) : W p l e room_1 s m args below meth c H locs cells slots Q (F0 m 611 ls []) := by
  have hE := C.2.2.2.2.2.2
  have hx := C.1
  have hb := C.2.1
  refine lv_aload_n hx hb dL_law_611 rfl (lv_at hl 1 rfl) ?_
  refine lv_aload_n hx hb dL_law_612 rfl (lv_at hl 0 rfl) ?_
  refine lv_iload hx hb dL_law_613 (lv_at hl 4 rfl) ?_
  refine lv_iconst (v := 1) hx hb dL_law_615 (by decide) ?_
  refine lv_iadd hx hb dL_law_616 ?_
  refine va_sld hx hb hX hbl hbA hS (hin 1 (by decide)) dL_law_617 ?_
  obtain ⟨r, α', β', hc, hm, hR1⟩ := sm_run hR (xs (i + 1).toNatClampNeg)
  refine p_callV (n := 1) (As := [.int (xs (i + 1).toNatClampNeg)]) (rest := []) C hP hS (wv_L_89 C.2.2.2.2.1 _) (c_X9_run l hE hc) (e_X9) rfl rfl hd_X9_run rfl ⟨Nat.le_of_ble_eq_true rfl, Nat.le_of_ble_eq_true rfl⟩ hl.1 rfl (Nat.le_of_ble_eq_true rfl) dL_law_618 ⟨Nat.le_trans (Nat.le_add_right _ _) hcs.1, Nat.le_trans (Nat.le_add_right _ _) hcs.2⟩ (fun H locs hP hS _ hk => ?_)
  have hG := pOe_call ho hG hk
  refine W.eq (g2 := F0 m 621 ls [.int r]) rfl ?_
  refine lv_aload_n hx hb dL_law_621 rfl (lv_at hl 2 rfl) ?_
  refine lv_aload_n hx hb dL_law_622 rfl (lv_at hl 0 rfl) ?_
  refine lv_iload hx hb dL_law_623 (lv_at hl 4 rfl) ?_
  refine lv_iconst (v := 1) hx hb dL_law_625 (by decide) ?_
  refine lv_iadd hx hb dL_law_626 ?_
  refine va_sld hx hb hX hbl hbA hS (hin 1 (by decide)) dL_law_627 ?_
  refine p_callV (n := 1) (As := [.int (xs (i + 1).toNatClampNeg)]) (rest := [.int r]) C hP hS (wv_L_92 C.2.2.2.2.1 _) (c_X10_run l hE hm) (e_X10) rfl rfl hd_X10_run rfl ⟨Nat.le_of_ble_eq_true rfl, Nat.le_of_ble_eq_true rfl⟩ hl.1 rfl (Nat.le_of_ble_eq_true rfl) dL_law_628 ⟨Nat.le_trans (Nat.le_add_right _ _) hcs.1, Nat.le_trans (Nat.le_add_right _ _) hcs.2⟩ (fun H locs hP hS _ hk => ?_)
  have hG := pOe_call ho hG hk
  refine W.eq (g2 := F0 m 631 ls [.int r, .int r]) rfl ?_
  refine lv_icmp_eq (tgt := 909) hx hb dL_law_631 (by decide) (fun _ => ?_) (fun h => absurd rfl h)
  exact p_widen (Nat.le_add_right _ _) (Nat.le_add_right _ _) (kk H locs ls _ _ _ hP hG hR1 hS (lv_sub hl [0, 1, 2, 3, 4] rfl))
set_option maxHeartbeats 4000000 in
set_option maxRecDepth 100000 in
theorem lc_13 (hcs : cells + 1 ≤ room_1.cells ∧ slots + 8 ≤ room_1.slots) (hlt : l.stackTraces = false) (C : pCx p s m c cL_law 7 E RL) (ho : pOut E o) (hoA : s.heap.size ≤ o) (hZ : pXs (pA E s.heap.size) s s.heap) (hX : va_X b L xs s s.heap) (hbl : b < s.heap.size) (hbA : ¬ pA E s.heap.size b) (hin : ∀ k : Int32, k = 1 ∨ k = 2 ∨ k = 3 → vp_in (i + k) L)
    (hP : va_P (pD E) vwCl (pw E α β) H) (hG : va_P (pD E) vwCl (pOe E o g) H) (hR : rA α β) (hS : va_S (pA E s.heap.size) s.heap H locs) (hl : lv_has ls 7 [(0, .ref b), (1, .ref (pL E 0)), (2, .ref (pL E 57)), (3, .ref o), (4, .int i)])
    (kk : lw_K p l e s m args below meth c (cells + 1) (slots + 8) Q E b o i) : W p l e room_1 s m args below meth c H locs cells slots Q (F0 m 636 ls []) := by
  have hE := C.2.2.2.2.2.2
  have hx := C.1
  have hb := C.2.1
  refine lv_aload_n hx hb dL_law_636 rfl (lv_at hl 1 rfl) ?_
  refine lv_aload_n hx hb dL_law_637 rfl (lv_at hl 0 rfl) ?_
  refine lv_iload hx hb dL_law_638 (lv_at hl 4 rfl) ?_
  refine lv_iconst (v := 1) hx hb dL_law_640 (by decide) ?_
  refine lv_iadd hx hb dL_law_641 ?_
  refine va_sld hx hb hX hbl hbA hS (hin 1 (by decide)) dL_law_642 ?_
  refine lv_aload_n hx hb dL_law_643 rfl (lv_at hl 0 rfl) ?_
  refine lv_iload hx hb dL_law_644 (lv_at hl 4 rfl) ?_
  refine lv_iconst (v := 2) hx hb dL_law_646 (by decide) ?_
  refine lv_iadd hx hb dL_law_647 ?_
  refine va_sld hx hb hX hbl hbA hS (hin 2 (by decide)) dL_law_648 ?_
  obtain ⟨r, α', β', hc, hm, hR1⟩ := sm_mirror hR (xs (i + 1).toNatClampNeg) (xs (i + 2).toNatClampNeg)
  refine p_callV (n := 2) (As := [.int (xs (i + 1).toNatClampNeg), .int (xs (i + 2).toNatClampNeg)]) (rest := []) C hP hS (wv_L_93 C.2.2.2.2.1 _) (c_X9_mirror l hE hc) (e_X9) rfl rfl hd_X9_mirror rfl ⟨Nat.le_of_ble_eq_true rfl, Nat.le_of_ble_eq_true rfl⟩ hl.1 rfl (Nat.le_of_ble_eq_true rfl) dL_law_649 ⟨Nat.le_trans (Nat.le_add_right _ _) hcs.1, Nat.le_trans (Nat.le_add_right _ _) hcs.2⟩ (fun H locs hP hS _ hk => ?_)
  have hG := pOe_call ho hG hk
  refine W.eq (g2 := F0 m 652 ls [.int r]) rfl ?_
  refine lv_aload_n hx hb dL_law_652 rfl (lv_at hl 2 rfl) ?_
  refine lv_aload_n hx hb dL_law_653 rfl (lv_at hl 0 rfl) ?_
  refine lv_iload hx hb dL_law_654 (lv_at hl 4 rfl) ?_
  refine lv_iconst (v := 1) hx hb dL_law_656 (by decide) ?_
  refine lv_iadd hx hb dL_law_657 ?_
  refine va_sld hx hb hX hbl hbA hS (hin 1 (by decide)) dL_law_658 ?_
  refine lv_aload_n hx hb dL_law_659 rfl (lv_at hl 0 rfl) ?_
  refine lv_iload hx hb dL_law_660 (lv_at hl 4 rfl) ?_
  refine lv_iconst (v := 2) hx hb dL_law_662 (by decide) ?_
  refine lv_iadd hx hb dL_law_663 ?_
  refine va_sld hx hb hX hbl hbA hS (hin 2 (by decide)) dL_law_664 ?_
  refine p_callV (n := 2) (As := [.int (xs (i + 1).toNatClampNeg), .int (xs (i + 2).toNatClampNeg)]) (rest := [.int r]) C hP hS (wv_L_96 C.2.2.2.2.1 _) (c_X10_mirror l hE hm) (e_X10) rfl rfl hd_X10_mirror rfl ⟨Nat.le_of_ble_eq_true rfl, Nat.le_of_ble_eq_true rfl⟩ hl.1 rfl (Nat.le_of_ble_eq_true rfl) dL_law_665 ⟨Nat.le_trans (Nat.le_add_right _ _) hcs.1, Nat.le_trans (Nat.le_add_right _ _) hcs.2⟩ (fun H locs hP hS _ hk => ?_)
  have hG := pOe_call ho hG hk
  refine W.eq (g2 := F0 m 668 ls [.int r, .int r]) rfl ?_
  refine lv_icmp_eq (tgt := 909) hx hb dL_law_668 (by decide) (fun _ => ?_) (fun h => absurd rfl h)
  exact p_widen (Nat.le_add_right _ _) (Nat.le_add_right _ _) (kk H locs ls _ _ _ hP hG hR1 hS (lv_sub hl [0, 1, 2, 3, 4] rfl))
set_option maxHeartbeats 4000000 in
set_option maxRecDepth 100000 in
theorem lc_14 (hcs : cells + 1 ≤ room_1.cells ∧ slots + 8 ≤ room_1.slots) (hlt : l.stackTraces = false) (C : pCx p s m c cL_law 7 E RL) (ho : pOut E o) (hoA : s.heap.size ≤ o) (hZ : pXs (pA E s.heap.size) s s.heap) (hX : va_X b L xs s s.heap) (hbl : b < s.heap.size) (hbA : ¬ pA E s.heap.size b) (hin : ∀ k : Int32, k = 1 ∨ k = 2 ∨ k = 3 → vp_in (i + k) L)
    (hP : va_P (pD E) vwCl (pw E α β) H) (hG : va_P (pD E) vwCl (pOe E o g) H) (hR : rA α β) (hS : va_S (pA E s.heap.size) s.heap H locs) (hl : lv_has ls 7 [(0, .ref b), (1, .ref (pL E 0)), (2, .ref (pL E 57)), (3, .ref o), (4, .int i)])
    (kk : lw_K p l e s m args below meth c (cells + 1) (slots + 8) Q E b o i) : W p l e room_1 s m args below meth c H locs cells slots Q (F0 m 673 ls []) := by
  have hE := C.2.2.2.2.2.2
  have hx := C.1
  have hb := C.2.1
  refine lv_aload_n hx hb dL_law_673 rfl (lv_at hl 1 rfl) ?_
  refine lv_aload_n hx hb dL_law_674 rfl (lv_at hl 0 rfl) ?_
  refine lv_iload hx hb dL_law_675 (lv_at hl 4 rfl) ?_
  refine lv_iconst (v := 1) hx hb dL_law_677 (by decide) ?_
  refine lv_iadd hx hb dL_law_678 ?_
  refine va_sld hx hb hX hbl hbA hS (hin 1 (by decide)) dL_law_679 ?_
  refine lv_aload_n hx hb dL_law_680 rfl (lv_at hl 0 rfl) ?_
  refine lv_iload hx hb dL_law_681 (lv_at hl 4 rfl) ?_
  refine lv_iconst (v := 2) hx hb dL_law_683 (by decide) ?_
  refine lv_iadd hx hb dL_law_684 ?_
  refine va_sld hx hb hX hbl hbA hS (hin 2 (by decide)) dL_law_685 ?_
  obtain ⟨r, α', β', hc, hm, hR1⟩ := sm_message hR (xs (i + 1).toNatClampNeg) (xs (i + 2).toNatClampNeg)
  refine p_callV (n := 2) (As := [.int (xs (i + 1).toNatClampNeg), .int (xs (i + 2).toNatClampNeg)]) (rest := []) C hP hS (wv_L_97 C.2.2.2.2.1 _) (c_X9_message l hE hc) (e_X9) rfl rfl hd_X9_message rfl ⟨Nat.le_of_ble_eq_true rfl, Nat.le_of_ble_eq_true rfl⟩ hl.1 rfl (Nat.le_of_ble_eq_true rfl) dL_law_686 ⟨Nat.le_trans (Nat.le_add_right _ _) hcs.1, Nat.le_trans (Nat.le_add_right _ _) hcs.2⟩ (fun H locs hP hS _ hk => ?_)
  have hG := pOe_call ho hG hk
  refine W.eq (g2 := F0 m 689 ls [.int r]) rfl ?_
  refine lv_aload_n hx hb dL_law_689 rfl (lv_at hl 2 rfl) ?_
  refine lv_aload_n hx hb dL_law_690 rfl (lv_at hl 0 rfl) ?_
  refine lv_iload hx hb dL_law_691 (lv_at hl 4 rfl) ?_
  refine lv_iconst (v := 1) hx hb dL_law_693 (by decide) ?_
  refine lv_iadd hx hb dL_law_694 ?_
  refine va_sld hx hb hX hbl hbA hS (hin 1 (by decide)) dL_law_695 ?_
  refine lv_aload_n hx hb dL_law_696 rfl (lv_at hl 0 rfl) ?_
  refine lv_iload hx hb dL_law_697 (lv_at hl 4 rfl) ?_
  refine lv_iconst (v := 2) hx hb dL_law_699 (by decide) ?_
  refine lv_iadd hx hb dL_law_700 ?_
  refine va_sld hx hb hX hbl hbA hS (hin 2 (by decide)) dL_law_701 ?_
  refine p_callV (n := 2) (As := [.int (xs (i + 1).toNatClampNeg), .int (xs (i + 2).toNatClampNeg)]) (rest := [.int r]) C hP hS (wv_L_100 C.2.2.2.2.1 _) (c_X10_message l hE hm) (e_X10) rfl rfl hd_X10_message rfl ⟨Nat.le_of_ble_eq_true rfl, Nat.le_of_ble_eq_true rfl⟩ hl.1 rfl (Nat.le_of_ble_eq_true rfl) dL_law_702 ⟨Nat.le_trans (Nat.le_add_right _ _) hcs.1, Nat.le_trans (Nat.le_add_right _ _) hcs.2⟩ (fun H locs hP hS _ hk => ?_)
  have hG := pOe_call ho hG hk
  refine W.eq (g2 := F0 m 705 ls [.int r, .int r]) rfl ?_
  refine lv_icmp_eq (tgt := 909) hx hb dL_law_705 (by decide) (fun _ => ?_) (fun h => absurd rfl h)
  exact p_widen (Nat.le_add_right _ _) (Nat.le_add_right _ _) (kk H locs ls _ _ _ hP hG hR1 hS (lv_sub hl [0, 1, 2, 3, 4] rfl))
set_option maxHeartbeats 4000000 in
set_option maxRecDepth 100000 in
theorem lc_15 (hcs : cells + 1 ≤ room_1.cells ∧ slots + 8 ≤ room_1.slots) (hlt : l.stackTraces = false) (C : pCx p s m c cL_law 7 E RL) (ho : pOut E o) (hoA : s.heap.size ≤ o) (hZ : pXs (pA E s.heap.size) s s.heap) (hX : va_X b L xs s s.heap) (hbl : b < s.heap.size) (hbA : ¬ pA E s.heap.size b) (hin : ∀ k : Int32, k = 1 ∨ k = 2 ∨ k = 3 → vp_in (i + k) L)
    (hP : va_P (pD E) vwCl (pw E α β) H) (hG : va_P (pD E) vwCl (pOe E o g) H) (hR : rA α β) (hS : va_S (pA E s.heap.size) s.heap H locs) (hl : lv_has ls 7 [(0, .ref b), (1, .ref (pL E 0)), (2, .ref (pL E 57)), (3, .ref o), (4, .int i)])
    (kk : lw_K p l e s m args below meth c (cells + 1) (slots + 8) Q E b o i) : W p l e room_1 s m args below meth c H locs cells slots Q (F0 m 710 ls []) := by
  have hE := C.2.2.2.2.2.2
  have hx := C.1
  have hb := C.2.1
  refine lv_aload_n hx hb dL_law_710 rfl (lv_at hl 1 rfl) ?_
  refine lv_aload_n hx hb dL_law_711 rfl (lv_at hl 0 rfl) ?_
  refine lv_iload hx hb dL_law_712 (lv_at hl 4 rfl) ?_
  refine lv_iconst (v := 1) hx hb dL_law_714 (by decide) ?_
  refine lv_iadd hx hb dL_law_715 ?_
  refine va_sld hx hb hX hbl hbA hS (hin 1 (by decide)) dL_law_716 ?_
  refine lv_aload_n hx hb dL_law_717 rfl (lv_at hl 0 rfl) ?_
  refine lv_iload hx hb dL_law_718 (lv_at hl 4 rfl) ?_
  refine lv_iconst (v := 2) hx hb dL_law_720 (by decide) ?_
  refine lv_iadd hx hb dL_law_721 ?_
  refine va_sld hx hb hX hbl hbA hS (hin 2 (by decide)) dL_law_722 ?_
  obtain ⟨r, α', β', hc, hm, hR1⟩ := sm_told hR (xs (i + 1).toNatClampNeg) (xs (i + 2).toNatClampNeg)
  refine p_callV (n := 2) (As := [.int (xs (i + 1).toNatClampNeg), .int (xs (i + 2).toNatClampNeg)]) (rest := []) C hP hS (wv_L_101 C.2.2.2.2.1 _) (c_X9_told l hE hc) (e_X9) rfl rfl hd_X9_told rfl ⟨Nat.le_of_ble_eq_true rfl, Nat.le_of_ble_eq_true rfl⟩ hl.1 rfl (Nat.le_of_ble_eq_true rfl) dL_law_723 ⟨Nat.le_trans (Nat.le_add_right _ _) hcs.1, Nat.le_trans (Nat.le_add_right _ _) hcs.2⟩ (fun H locs hP hS _ hk => ?_)
  have hG := pOe_call ho hG hk
  refine W.eq (g2 := F0 m 726 ls [.int r]) rfl ?_
  refine lv_aload_n hx hb dL_law_726 rfl (lv_at hl 2 rfl) ?_
  refine lv_aload_n hx hb dL_law_727 rfl (lv_at hl 0 rfl) ?_
  refine lv_iload hx hb dL_law_728 (lv_at hl 4 rfl) ?_
  refine lv_iconst (v := 1) hx hb dL_law_730 (by decide) ?_
  refine lv_iadd hx hb dL_law_731 ?_
  refine va_sld hx hb hX hbl hbA hS (hin 1 (by decide)) dL_law_732 ?_
  refine lv_aload_n hx hb dL_law_733 rfl (lv_at hl 0 rfl) ?_
  refine lv_iload hx hb dL_law_734 (lv_at hl 4 rfl) ?_
  refine lv_iconst (v := 2) hx hb dL_law_736 (by decide) ?_
  refine lv_iadd hx hb dL_law_737 ?_
  refine va_sld hx hb hX hbl hbA hS (hin 2 (by decide)) dL_law_738 ?_
  refine p_callV (n := 2) (As := [.int (xs (i + 1).toNatClampNeg), .int (xs (i + 2).toNatClampNeg)]) (rest := [.int r]) C hP hS (wv_L_104 C.2.2.2.2.1 _) (c_X10_told l hE hm) (e_X10) rfl rfl hd_X10_told rfl ⟨Nat.le_of_ble_eq_true rfl, Nat.le_of_ble_eq_true rfl⟩ hl.1 rfl (Nat.le_of_ble_eq_true rfl) dL_law_739 ⟨Nat.le_trans (Nat.le_add_right _ _) hcs.1, Nat.le_trans (Nat.le_add_right _ _) hcs.2⟩ (fun H locs hP hS _ hk => ?_)
  have hG := pOe_call ho hG hk
  refine W.eq (g2 := F0 m 742 ls [.int r, .int r]) rfl ?_
  refine lv_icmp_eq (tgt := 909) hx hb dL_law_742 (by decide) (fun _ => ?_) (fun h => absurd rfl h)
  exact p_widen (Nat.le_add_right _ _) (Nat.le_add_right _ _) (kk H locs ls _ _ _ hP hG hR1 hS (lv_sub hl [0, 1, 2, 3, 4] rfl))
set_option maxHeartbeats 4000000 in
set_option maxRecDepth 100000 in
theorem lc_16 (hcs : cells + 1 ≤ room_1.cells ∧ slots + 8 ≤ room_1.slots) (hlt : l.stackTraces = false) (C : pCx p s m c cL_law 7 E RL) (ho : pOut E o) (hoA : s.heap.size ≤ o) (hZ : pXs (pA E s.heap.size) s s.heap) (hX : va_X b L xs s s.heap) (hbl : b < s.heap.size) (hbA : ¬ pA E s.heap.size b) (hin : ∀ k : Int32, k = 1 ∨ k = 2 ∨ k = 3 → vp_in (i + k) L)
    (hP : va_P (pD E) vwCl (pw E α β) H) (hG : va_P (pD E) vwCl (pOe E o g) H) (hR : rA α β) (hS : va_S (pA E s.heap.size) s.heap H locs) (hl : lv_has ls 7 [(0, .ref b), (1, .ref (pL E 0)), (2, .ref (pL E 57)), (3, .ref o), (4, .int i)])
    (kk : lw_K p l e s m args below meth c (cells + 1) (slots + 8) Q E b o i) : W p l e room_1 s m args below meth c H locs cells slots Q (F0 m 747 ls []) := by
  have hE := C.2.2.2.2.2.2
  have hx := C.1
  have hb := C.2.1
  refine lv_aload_n hx hb dL_law_747 rfl (lv_at hl 1 rfl) ?_
  refine lv_aload_n hx hb dL_law_748 rfl (lv_at hl 0 rfl) ?_
  refine lv_iload hx hb dL_law_749 (lv_at hl 4 rfl) ?_
  refine lv_iconst (v := 1) hx hb dL_law_751 (by decide) ?_
  refine lv_iadd hx hb dL_law_752 ?_
  refine va_sld hx hb hX hbl hbA hS (hin 1 (by decide)) dL_law_753 ?_
  refine lv_aload_n hx hb dL_law_754 rfl (lv_at hl 3 rfl) ?_
  rcases sm_cell hR (xs (i + 1).toNatClampNeg) with ⟨r, hc, hm⟩ | ⟨hc, r, hm⟩ | ⟨hc, r, hm⟩
  · skip
    refine p_callH (n := 3) (As := [.ref (pL E 0), .int (xs (i + 1).toNatClampNeg), .ref o]) (rest := []) C hP hG hoA hS hZ (whL_cell C.2.2.2.2.1 _) (hR_cell hlt hE ho hc) hdL_cell rfl ⟨Nat.le_of_ble_eq_true rfl, Nat.le_of_ble_eq_true rfl⟩ hl.1 rfl (Nat.le_of_ble_eq_true rfl) dL_law_755 hcs (fun H locs hP hG hS => ?_)
    refine W.eq (g2 := F0 m 758 ls [.int 0]) rfl ?_
    refine lv_istore (lv' := [(5, .int 0), (0, .ref b), (1, .ref (pL E 0)), (2, .ref (pL E 57)), (3, .ref o), (4, .int i)]) hx hb dL_law_758 hl (by decide) rfl (fun ls hl => ?_)
    refine lv_aload_n hx hb dL_law_760 rfl (lv_at hl 3 rfl) ?_
    refine lv_aload_n hx hb dL_law_761 rfl (lv_at hl 1 rfl) ?_
    refine lv_iload hx hb dL_law_762 (lv_at hl 5 rfl) ?_
    refine lv_iconst (v := 1) hx hb dL_law_764 (by decide) ?_
    refine lv_iadd hx hb dL_law_765 ?_
    refine va_sld hx hb hX hbl hbA hS (hin 1 (by decide)) dL_law_766 ?_
    refine p_callV (n := 1) (As := [.int (xs (i + 1).toNatClampNeg)]) (rest := []) C hP hS (wv_L_108 C.2.2.2.2.1 _) (c_X10_cell l hE hm) (e_X10) rfl rfl hd_X10_cell rfl ⟨Nat.le_of_ble_eq_true rfl, Nat.le_of_ble_eq_true rfl⟩ hl.1 rfl (Nat.le_of_ble_eq_true rfl) dL_law_767 ⟨hcs.1, hcs.2⟩ (fun H locs hP hS _ hk => ?_)
    have hG := pOe_call ho hG hk
    refine W.eq (g2 := F0 m 770 ls [.int r]) rfl ?_
    refine lv_istore (lv' := [(6, .int r), (5, .int 0), (0, .ref b), (1, .ref (pL E 0)), (2, .ref (pL E 57)), (3, .ref o), (4, .int i)]) hx hb dL_law_770 hl (by decide) rfl (fun ls hl => ?_)
    refine lv_aload_n hx hb dL_law_772 rfl (lv_at hl 4 rfl) ?_
    refine p_callV (n := 0) (As := []) (rest := []) C hP hS (wv_L_46 C.2.2.2.2.1 _) (c_X10_thrown l hE (β := up2 β 0 0 0) rfl) (e_X10) rfl rfl hd_X10_thrown rfl ⟨Nat.le_of_ble_eq_true rfl, Nat.le_of_ble_eq_true rfl⟩ hl.1 rfl (Nat.le_of_ble_eq_true rfl) dL_law_773 ⟨hcs.1, hcs.2⟩ (fun H locs hP hS _ hk => ?_)
    have hG := pOe_call ho hG hk
    refine W.eq (g2 := F0 m 776 ls [.int 0]) rfl ?_
    refine lv_iload hx hb dL_law_776 (lv_at hl 1 rfl) ?_
    refine lv_icmp_eq (tgt := 783) hx hb dL_law_778 (by decide) (fun _ => ?_) (fun h => absurd rfl h)
    refine lv_iload hx hb dL_law_783 (lv_at hl 1 rfl) ?_
    refine lv_if_ne (tgt := 800) hx hb dL_law_785 (by decide) (fun h => absurd rfl h) (fun _ => ?_)
    refine lv_aload_n hx hb dL_law_788 rfl (lv_at hl 5 rfl) ?_
    refine lv_iconst (v := 0) hx hb dL_law_789 (by decide) ?_
    refine va_lald hx hb C.2.2.2.2.2.1 hG 0 2 rfl rfl vp_in01 dL_law_790 ?_
    refine W.eq (g2 := F0 m 791 ls [.long r.toInt64]) rfl ?_
    refine lv_iload hx hb dL_law_791 (lv_at hl 0 rfl) ?_
    refine lv_i2l hx hb dL_law_793 rfl ?_
    refine W.lcmp hx hb dL_law_794 ?_
    rw [lg_cmp_self]
    refine lv_if_eq (tgt := 800) hx hb dL_law_795 (by decide) (fun _ => ?_) (fun h => absurd rfl h)
    refine lv_goto (tgt := 909) hx hb dL_law_800 (by decide) ?_
    exact kk H locs ls _ _ _ hP hG (rA_thrown hR) hS (lv_sub hl [2, 3, 4, 5, 6] rfl)
  · skip
    refine p_callH (n := 3) (As := [.ref (pL E 0), .int (xs (i + 1).toNatClampNeg), .ref o]) (rest := []) C hP hG hoA hS hZ (whL_cell C.2.2.2.2.1 _) (hA_cell hlt hE ho hc) hdL_cell rfl ⟨Nat.le_of_ble_eq_true rfl, Nat.le_of_ble_eq_true rfl⟩ hl.1 rfl (Nat.le_of_ble_eq_true rfl) dL_law_755 hcs (fun H locs hP hG hS => ?_)
    refine W.eq (g2 := F0 m 758 ls [.int 1]) rfl ?_
    refine lv_istore (lv' := [(5, .int 1), (0, .ref b), (1, .ref (pL E 0)), (2, .ref (pL E 57)), (3, .ref o), (4, .int i)]) hx hb dL_law_758 hl (by decide) rfl (fun ls hl => ?_)
    refine lv_aload_n hx hb dL_law_760 rfl (lv_at hl 3 rfl) ?_
    refine lv_aload_n hx hb dL_law_761 rfl (lv_at hl 1 rfl) ?_
    refine lv_iload hx hb dL_law_762 (lv_at hl 5 rfl) ?_
    refine lv_iconst (v := 1) hx hb dL_law_764 (by decide) ?_
    refine lv_iadd hx hb dL_law_765 ?_
    refine va_sld hx hb hX hbl hbA hS (hin 1 (by decide)) dL_law_766 ?_
    refine p_callV (n := 1) (As := [.int (xs (i + 1).toNatClampNeg)]) (rest := []) C hP hS (wv_L_108 C.2.2.2.2.1 _) (c_X10_cell l hE hm) (e_X10) rfl rfl hd_X10_cell rfl ⟨Nat.le_of_ble_eq_true rfl, Nat.le_of_ble_eq_true rfl⟩ hl.1 rfl (Nat.le_of_ble_eq_true rfl) dL_law_767 ⟨hcs.1, hcs.2⟩ (fun H locs hP hS _ hk => ?_)
    have hG := pOe_call ho hG hk
    refine W.eq (g2 := F0 m 770 ls [.int r]) rfl ?_
    refine lv_istore (lv' := [(6, .int r), (5, .int 1), (0, .ref b), (1, .ref (pL E 0)), (2, .ref (pL E 57)), (3, .ref o), (4, .int i)]) hx hb dL_law_770 hl (by decide) rfl (fun ls hl => ?_)
    refine lv_aload_n hx hb dL_law_772 rfl (lv_at hl 4 rfl) ?_
    refine p_callV (n := 0) (As := []) (rest := []) C hP hS (wv_L_46 C.2.2.2.2.1 _) (c_X10_thrown l hE (β := up2 β 0 0 1) rfl) (e_X10) rfl rfl hd_X10_thrown rfl ⟨Nat.le_of_ble_eq_true rfl, Nat.le_of_ble_eq_true rfl⟩ hl.1 rfl (Nat.le_of_ble_eq_true rfl) dL_law_773 ⟨hcs.1, hcs.2⟩ (fun H locs hP hS _ hk => ?_)
    have hG := pOe_call ho hG hk
    refine W.eq (g2 := F0 m 776 ls [.int 1]) rfl ?_
    refine lv_iload hx hb dL_law_776 (lv_at hl 1 rfl) ?_
    refine lv_icmp_eq (tgt := 783) hx hb dL_law_778 (by decide) (fun _ => ?_) (fun h => absurd rfl h)
    refine lv_iload hx hb dL_law_783 (lv_at hl 1 rfl) ?_
    refine lv_if_ne (tgt := 800) hx hb dL_law_785 (by decide) (fun _ => ?_) (fun h => absurd h (by decide))
    refine lv_goto (tgt := 909) hx hb dL_law_800 (by decide) ?_
    exact kk H locs ls _ _ _ hP hG (rA_thrown hR) hS (lv_sub hl [2, 3, 4, 5, 6] rfl)
  · skip
    refine p_callH (n := 3) (As := [.ref (pL E 0), .int (xs (i + 1).toNatClampNeg), .ref o]) (rest := []) C hP hG hoA hS hZ (whL_cell C.2.2.2.2.1 _) (hN_cell hlt hE ho hc) hdL_cell rfl ⟨Nat.le_of_ble_eq_true rfl, Nat.le_of_ble_eq_true rfl⟩ hl.1 rfl (Nat.le_of_ble_eq_true rfl) dL_law_755 hcs (fun H locs hP hG hS => ?_)
    refine W.eq (g2 := F0 m 758 ls [.int 2]) rfl ?_
    refine lv_istore (lv' := [(5, .int 2), (0, .ref b), (1, .ref (pL E 0)), (2, .ref (pL E 57)), (3, .ref o), (4, .int i)]) hx hb dL_law_758 hl (by decide) rfl (fun ls hl => ?_)
    refine lv_aload_n hx hb dL_law_760 rfl (lv_at hl 3 rfl) ?_
    refine lv_aload_n hx hb dL_law_761 rfl (lv_at hl 1 rfl) ?_
    refine lv_iload hx hb dL_law_762 (lv_at hl 5 rfl) ?_
    refine lv_iconst (v := 1) hx hb dL_law_764 (by decide) ?_
    refine lv_iadd hx hb dL_law_765 ?_
    refine va_sld hx hb hX hbl hbA hS (hin 1 (by decide)) dL_law_766 ?_
    refine p_callV (n := 1) (As := [.int (xs (i + 1).toNatClampNeg)]) (rest := []) C hP hS (wv_L_108 C.2.2.2.2.1 _) (c_X10_cell l hE hm) (e_X10) rfl rfl hd_X10_cell rfl ⟨Nat.le_of_ble_eq_true rfl, Nat.le_of_ble_eq_true rfl⟩ hl.1 rfl (Nat.le_of_ble_eq_true rfl) dL_law_767 ⟨hcs.1, hcs.2⟩ (fun H locs hP hS _ hk => ?_)
    have hG := pOe_call ho hG hk
    refine W.eq (g2 := F0 m 770 ls [.int r]) rfl ?_
    refine lv_istore (lv' := [(6, .int r), (5, .int 2), (0, .ref b), (1, .ref (pL E 0)), (2, .ref (pL E 57)), (3, .ref o), (4, .int i)]) hx hb dL_law_770 hl (by decide) rfl (fun ls hl => ?_)
    refine lv_aload_n hx hb dL_law_772 rfl (lv_at hl 4 rfl) ?_
    refine p_callV (n := 0) (As := []) (rest := []) C hP hS (wv_L_46 C.2.2.2.2.1 _) (c_X10_thrown l hE (β := up2 β 0 0 2) rfl) (e_X10) rfl rfl hd_X10_thrown rfl ⟨Nat.le_of_ble_eq_true rfl, Nat.le_of_ble_eq_true rfl⟩ hl.1 rfl (Nat.le_of_ble_eq_true rfl) dL_law_773 ⟨hcs.1, hcs.2⟩ (fun H locs hP hS _ hk => ?_)
    have hG := pOe_call ho hG hk
    refine W.eq (g2 := F0 m 776 ls [.int 2]) rfl ?_
    refine lv_iload hx hb dL_law_776 (lv_at hl 1 rfl) ?_
    refine lv_icmp_eq (tgt := 783) hx hb dL_law_778 (by decide) (fun _ => ?_) (fun h => absurd rfl h)
    refine lv_iload hx hb dL_law_783 (lv_at hl 1 rfl) ?_
    refine lv_if_ne (tgt := 800) hx hb dL_law_785 (by decide) (fun _ => ?_) (fun h => absurd h (by decide))
    refine lv_goto (tgt := 909) hx hb dL_law_800 (by decide) ?_
    exact kk H locs ls _ _ _ hP hG (rA_thrown hR) hS (lv_sub hl [2, 3, 4, 5, 6] rfl)
set_option maxHeartbeats 4000000 in
set_option maxRecDepth 100000 in
theorem lc_17 (hcs : cells + 1 ≤ room_1.cells ∧ slots + 8 ≤ room_1.slots) (hlt : l.stackTraces = false) (C : pCx p s m c cL_law 7 E RL) (ho : pOut E o) (hoA : s.heap.size ≤ o) (hZ : pXs (pA E s.heap.size) s s.heap) (hX : va_X b L xs s s.heap) (hbl : b < s.heap.size) (hbA : ¬ pA E s.heap.size b) (hin : ∀ k : Int32, k = 1 ∨ k = 2 ∨ k = 3 → vp_in (i + k) L)
    (hP : va_P (pD E) vwCl (pw E α β) H) (hG : va_P (pD E) vwCl (pOe E o g) H) (hR : rA α β) (hS : va_S (pA E s.heap.size) s.heap H locs) (hl : lv_has ls 7 [(0, .ref b), (1, .ref (pL E 0)), (2, .ref (pL E 57)), (3, .ref o), (4, .int i)])
    (kk : lw_K p l e s m args below meth c (cells + 1) (slots + 8) Q E b o i) : W p l e room_1 s m args below meth c H locs cells slots Q (F0 m 803 ls []) := by
  have hE := C.2.2.2.2.2.2
  have hx := C.1
  have hb := C.2.1
  refine lv_aload_n hx hb dL_law_803 rfl (lv_at hl 1 rfl) ?_
  refine lv_aload_n hx hb dL_law_804 rfl (lv_at hl 0 rfl) ?_
  refine lv_iload hx hb dL_law_805 (lv_at hl 4 rfl) ?_
  refine lv_iconst (v := 1) hx hb dL_law_807 (by decide) ?_
  refine lv_iadd hx hb dL_law_808 ?_
  refine va_sld hx hb hX hbl hbA hS (hin 1 (by decide)) dL_law_809 ?_
  refine lv_aload_n hx hb dL_law_810 rfl (lv_at hl 0 rfl) ?_
  refine lv_iload hx hb dL_law_811 (lv_at hl 4 rfl) ?_
  refine lv_iconst (v := 2) hx hb dL_law_813 (by decide) ?_
  refine lv_iadd hx hb dL_law_814 ?_
  refine va_sld hx hb hX hbl hbA hS (hin 2 (by decide)) dL_law_815 ?_
  refine lv_aload_n hx hb dL_law_816 rfl (lv_at hl 3 rfl) ?_
  rcases sm_resource hR (xs (i + 1).toNatClampNeg) (xs (i + 2).toNatClampNeg) with ⟨r, hc, hm⟩ | ⟨hc, r, hm⟩
  · skip
    refine p_callH (n := 4) (As := [.ref (pL E 0), .int (xs (i + 1).toNatClampNeg), .int (xs (i + 2).toNatClampNeg), .ref o]) (rest := []) C hP hG hoA hS hZ (whL_resource C.2.2.2.2.1 _) (hR_resource hlt hE ho hc) hdL_resource rfl ⟨Nat.le_of_ble_eq_true rfl, Nat.le_of_ble_eq_true rfl⟩ hl.1 rfl (Nat.le_of_ble_eq_true rfl) dL_law_817 hcs (fun H locs hP hG hS => ?_)
    refine W.eq (g2 := F0 m 820 ls [.int 0]) rfl ?_
    refine lv_istore (lv' := [(5, .int 0), (0, .ref b), (1, .ref (pL E 0)), (2, .ref (pL E 57)), (3, .ref o), (4, .int i)]) hx hb dL_law_820 hl (by decide) rfl (fun ls hl => ?_)
    refine lv_aload_n hx hb dL_law_822 rfl (lv_at hl 3 rfl) ?_
    refine lv_aload_n hx hb dL_law_823 rfl (lv_at hl 1 rfl) ?_
    refine lv_iload hx hb dL_law_824 (lv_at hl 5 rfl) ?_
    refine lv_iconst (v := 1) hx hb dL_law_826 (by decide) ?_
    refine lv_iadd hx hb dL_law_827 ?_
    refine va_sld hx hb hX hbl hbA hS (hin 1 (by decide)) dL_law_828 ?_
    refine lv_aload_n hx hb dL_law_829 rfl (lv_at hl 1 rfl) ?_
    refine lv_iload hx hb dL_law_830 (lv_at hl 5 rfl) ?_
    refine lv_iconst (v := 2) hx hb dL_law_832 (by decide) ?_
    refine lv_iadd hx hb dL_law_833 ?_
    refine va_sld hx hb hX hbl hbA hS (hin 2 (by decide)) dL_law_834 ?_
    refine p_callV (n := 2) (As := [.int (xs (i + 1).toNatClampNeg), .int (xs (i + 2).toNatClampNeg)]) (rest := []) C hP hS (wv_L_111 C.2.2.2.2.1 _) (c_X10_resource l hE hm) (e_X10) rfl rfl hd_X10_resource rfl ⟨Nat.le_of_ble_eq_true rfl, Nat.le_of_ble_eq_true rfl⟩ hl.1 rfl (Nat.le_of_ble_eq_true rfl) dL_law_835 ⟨hcs.1, hcs.2⟩ (fun H locs hP hS _ hk => ?_)
    have hG := pOe_call ho hG hk
    refine W.eq (g2 := F0 m 838 ls [.int r]) rfl ?_
    refine lv_istore (lv' := [(6, .int r), (5, .int 0), (0, .ref b), (1, .ref (pL E 0)), (2, .ref (pL E 57)), (3, .ref o), (4, .int i)]) hx hb dL_law_838 hl (by decide) rfl (fun ls hl => ?_)
    refine lv_aload_n hx hb dL_law_840 rfl (lv_at hl 4 rfl) ?_
    refine p_callV (n := 0) (As := []) (rest := []) C hP hS (wv_L_46 C.2.2.2.2.1 _) (c_X10_thrown l hE (β := up2 β 0 0 0) rfl) (e_X10) rfl rfl hd_X10_thrown rfl ⟨Nat.le_of_ble_eq_true rfl, Nat.le_of_ble_eq_true rfl⟩ hl.1 rfl (Nat.le_of_ble_eq_true rfl) dL_law_841 ⟨hcs.1, hcs.2⟩ (fun H locs hP hS _ hk => ?_)
    have hG := pOe_call ho hG hk
    refine W.eq (g2 := F0 m 844 ls [.int 0]) rfl ?_
    refine lv_iload hx hb dL_law_844 (lv_at hl 1 rfl) ?_
    refine lv_icmp_eq (tgt := 851) hx hb dL_law_846 (by decide) (fun _ => ?_) (fun h => absurd rfl h)
    refine lv_iload hx hb dL_law_851 (lv_at hl 1 rfl) ?_
    refine lv_if_ne (tgt := 868) hx hb dL_law_853 (by decide) (fun h => absurd rfl h) (fun _ => ?_)
    refine lv_aload_n hx hb dL_law_856 rfl (lv_at hl 5 rfl) ?_
    refine lv_iconst (v := 0) hx hb dL_law_857 (by decide) ?_
    refine va_lald hx hb C.2.2.2.2.2.1 hG 0 2 rfl rfl vp_in01 dL_law_858 ?_
    refine W.eq (g2 := F0 m 859 ls [.long r.toInt64]) rfl ?_
    refine lv_iload hx hb dL_law_859 (lv_at hl 0 rfl) ?_
    refine lv_i2l hx hb dL_law_861 rfl ?_
    refine W.lcmp hx hb dL_law_862 ?_
    rw [lg_cmp_self]
    refine lv_if_eq (tgt := 868) hx hb dL_law_863 (by decide) (fun _ => ?_) (fun h => absurd rfl h)
    refine lv_goto (tgt := 909) hx hb dL_law_868 (by decide) ?_
    exact kk H locs ls _ _ _ hP hG (rA_thrown hR) hS (lv_sub hl [2, 3, 4, 5, 6] rfl)
  · skip
    refine p_callH (n := 4) (As := [.ref (pL E 0), .int (xs (i + 1).toNatClampNeg), .int (xs (i + 2).toNatClampNeg), .ref o]) (rest := []) C hP hG hoA hS hZ (whL_resource C.2.2.2.2.1 _) (hA_resource hlt hE ho hc) hdL_resource rfl ⟨Nat.le_of_ble_eq_true rfl, Nat.le_of_ble_eq_true rfl⟩ hl.1 rfl (Nat.le_of_ble_eq_true rfl) dL_law_817 hcs (fun H locs hP hG hS => ?_)
    refine W.eq (g2 := F0 m 820 ls [.int 1]) rfl ?_
    refine lv_istore (lv' := [(5, .int 1), (0, .ref b), (1, .ref (pL E 0)), (2, .ref (pL E 57)), (3, .ref o), (4, .int i)]) hx hb dL_law_820 hl (by decide) rfl (fun ls hl => ?_)
    refine lv_aload_n hx hb dL_law_822 rfl (lv_at hl 3 rfl) ?_
    refine lv_aload_n hx hb dL_law_823 rfl (lv_at hl 1 rfl) ?_
    refine lv_iload hx hb dL_law_824 (lv_at hl 5 rfl) ?_
    refine lv_iconst (v := 1) hx hb dL_law_826 (by decide) ?_
    refine lv_iadd hx hb dL_law_827 ?_
    refine va_sld hx hb hX hbl hbA hS (hin 1 (by decide)) dL_law_828 ?_
    refine lv_aload_n hx hb dL_law_829 rfl (lv_at hl 1 rfl) ?_
    refine lv_iload hx hb dL_law_830 (lv_at hl 5 rfl) ?_
    refine lv_iconst (v := 2) hx hb dL_law_832 (by decide) ?_
    refine lv_iadd hx hb dL_law_833 ?_
    refine va_sld hx hb hX hbl hbA hS (hin 2 (by decide)) dL_law_834 ?_
    refine p_callV (n := 2) (As := [.int (xs (i + 1).toNatClampNeg), .int (xs (i + 2).toNatClampNeg)]) (rest := []) C hP hS (wv_L_111 C.2.2.2.2.1 _) (c_X10_resource l hE hm) (e_X10) rfl rfl hd_X10_resource rfl ⟨Nat.le_of_ble_eq_true rfl, Nat.le_of_ble_eq_true rfl⟩ hl.1 rfl (Nat.le_of_ble_eq_true rfl) dL_law_835 ⟨hcs.1, hcs.2⟩ (fun H locs hP hS _ hk => ?_)
    have hG := pOe_call ho hG hk
    refine W.eq (g2 := F0 m 838 ls [.int r]) rfl ?_
    refine lv_istore (lv' := [(6, .int r), (5, .int 1), (0, .ref b), (1, .ref (pL E 0)), (2, .ref (pL E 57)), (3, .ref o), (4, .int i)]) hx hb dL_law_838 hl (by decide) rfl (fun ls hl => ?_)
    refine lv_aload_n hx hb dL_law_840 rfl (lv_at hl 4 rfl) ?_
    refine p_callV (n := 0) (As := []) (rest := []) C hP hS (wv_L_46 C.2.2.2.2.1 _) (c_X10_thrown l hE (β := up2 β 0 0 1) rfl) (e_X10) rfl rfl hd_X10_thrown rfl ⟨Nat.le_of_ble_eq_true rfl, Nat.le_of_ble_eq_true rfl⟩ hl.1 rfl (Nat.le_of_ble_eq_true rfl) dL_law_841 ⟨hcs.1, hcs.2⟩ (fun H locs hP hS _ hk => ?_)
    have hG := pOe_call ho hG hk
    refine W.eq (g2 := F0 m 844 ls [.int 1]) rfl ?_
    refine lv_iload hx hb dL_law_844 (lv_at hl 1 rfl) ?_
    refine lv_icmp_eq (tgt := 851) hx hb dL_law_846 (by decide) (fun _ => ?_) (fun h => absurd rfl h)
    refine lv_iload hx hb dL_law_851 (lv_at hl 1 rfl) ?_
    refine lv_if_ne (tgt := 868) hx hb dL_law_853 (by decide) (fun _ => ?_) (fun h => absurd h (by decide))
    refine lv_goto (tgt := 909) hx hb dL_law_868 (by decide) ?_
    exact kk H locs ls _ _ _ hP hG (rA_thrown hR) hS (lv_sub hl [2, 3, 4, 5, 6] rfl)
set_option maxHeartbeats 4000000 in
set_option maxRecDepth 100000 in
theorem lc_18 (hcs : cells + 1 ≤ room_1.cells ∧ slots + 8 ≤ room_1.slots) (hlt : l.stackTraces = false) (C : pCx p s m c cL_law 7 E RL) (ho : pOut E o) (hoA : s.heap.size ≤ o) (hZ : pXs (pA E s.heap.size) s s.heap) (hX : va_X b L xs s s.heap) (hbl : b < s.heap.size) (hbA : ¬ pA E s.heap.size b) (hin : ∀ k : Int32, k = 1 ∨ k = 2 ∨ k = 3 → vp_in (i + k) L)
    (hP : va_P (pD E) vwCl (pw E α β) H) (hG : va_P (pD E) vwCl (pOe E o g) H) (hR : rA α β) (hS : va_S (pA E s.heap.size) s.heap H locs) (hl : lv_has ls 7 [(0, .ref b), (1, .ref (pL E 0)), (2, .ref (pL E 57)), (3, .ref o), (4, .int i)])
    (kk : lw_K p l e s m args below meth c (cells + 1) (slots + 8) Q E b o i) : W p l e room_1 s m args below meth c H locs cells slots Q (F0 m 871 ls []) := by
  have hE := C.2.2.2.2.2.2
  have hx := C.1
  have hb := C.2.1
  refine lv_aload_n hx hb dL_law_871 rfl (lv_at hl 1 rfl) ?_
  refine lv_aload_n hx hb dL_law_872 rfl (lv_at hl 0 rfl) ?_
  refine lv_iload hx hb dL_law_873 (lv_at hl 4 rfl) ?_
  refine lv_iconst (v := 1) hx hb dL_law_875 (by decide) ?_
  refine lv_iadd hx hb dL_law_876 ?_
  refine va_sld hx hb hX hbl hbA hS (hin 1 (by decide)) dL_law_877 ?_
  obtain ⟨r, α', β', hc, hm, hR1⟩ := sm_about hR (xs (i + 1).toNatClampNeg)
  refine p_callV (n := 1) (As := [.int (xs (i + 1).toNatClampNeg)]) (rest := []) C hP hS (wv_L_112 C.2.2.2.2.1 _) (c_X9_about l hE hc) (e_X9) rfl rfl hd_X9_about rfl ⟨Nat.le_of_ble_eq_true rfl, Nat.le_of_ble_eq_true rfl⟩ hl.1 rfl (Nat.le_of_ble_eq_true rfl) dL_law_878 ⟨Nat.le_trans (Nat.le_add_right _ _) hcs.1, Nat.le_trans (Nat.le_add_right _ _) hcs.2⟩ (fun H locs hP hS _ hk => ?_)
  have hG := pOe_call ho hG hk
  refine W.eq (g2 := F0 m 881 ls [.int r]) rfl ?_
  refine lv_aload_n hx hb dL_law_881 rfl (lv_at hl 2 rfl) ?_
  refine lv_aload_n hx hb dL_law_882 rfl (lv_at hl 0 rfl) ?_
  refine lv_iload hx hb dL_law_883 (lv_at hl 4 rfl) ?_
  refine lv_iconst (v := 1) hx hb dL_law_885 (by decide) ?_
  refine lv_iadd hx hb dL_law_886 ?_
  refine va_sld hx hb hX hbl hbA hS (hin 1 (by decide)) dL_law_887 ?_
  refine p_callV (n := 1) (As := [.int (xs (i + 1).toNatClampNeg)]) (rest := [.int r]) C hP hS (wv_L_115 C.2.2.2.2.1 _) (c_X10_about l hE hm) (e_X10) rfl rfl hd_X10_about rfl ⟨Nat.le_of_ble_eq_true rfl, Nat.le_of_ble_eq_true rfl⟩ hl.1 rfl (Nat.le_of_ble_eq_true rfl) dL_law_888 ⟨Nat.le_trans (Nat.le_add_right _ _) hcs.1, Nat.le_trans (Nat.le_add_right _ _) hcs.2⟩ (fun H locs hP hS _ hk => ?_)
  have hG := pOe_call ho hG hk
  refine W.eq (g2 := F0 m 891 ls [.int r, .int r]) rfl ?_
  refine lv_icmp_eq (tgt := 909) hx hb dL_law_891 (by decide) (fun _ => ?_) (fun h => absurd rfl h)
  exact p_widen (Nat.le_add_right _ _) (Nat.le_add_right _ _) (kk H locs ls _ _ _ hP hG hR1 hS (lv_sub hl [0, 1, 2, 3, 4] rfl))
set_option maxHeartbeats 4000000 in
set_option maxRecDepth 100000 in
theorem lc_19 (hcs : cells + 1 ≤ room_1.cells ∧ slots + 8 ≤ room_1.slots) (hlt : l.stackTraces = false) (C : pCx p s m c cL_law 7 E RL) (ho : pOut E o) (hoA : s.heap.size ≤ o) (hZ : pXs (pA E s.heap.size) s s.heap) (hX : va_X b L xs s s.heap) (hbl : b < s.heap.size) (hbA : ¬ pA E s.heap.size b) (hin : ∀ k : Int32, k = 1 ∨ k = 2 ∨ k = 3 → vp_in (i + k) L)
    (hP : va_P (pD E) vwCl (pw E α β) H) (hG : va_P (pD E) vwCl (pOe E o g) H) (hR : rA α β) (hS : va_S (pA E s.heap.size) s.heap H locs) (hl : lv_has ls 7 [(0, .ref b), (1, .ref (pL E 0)), (2, .ref (pL E 57)), (3, .ref o), (4, .int i)])
    (kk : lw_K p l e s m args below meth c (cells + 1) (slots + 8) Q E b o i) : W p l e room_1 s m args below meth c H locs cells slots Q (F0 m 896 ls []) := by
  have hE := C.2.2.2.2.2.2
  have hx := C.1
  have hb := C.2.1
  refine lv_aload_n hx hb dL_law_896 rfl (lv_at hl 1 rfl) ?_
  obtain ⟨r, α', β', hc, hm, hR1⟩ := sm_clear hR
  refine p_callV (n := 0) (As := []) (rest := []) C hP hS (wv_L_116 C.2.2.2.2.1 _) (c_X9_clear l hE hc) (e_X9) rfl rfl hd_X9_clear rfl ⟨Nat.le_of_ble_eq_true rfl, Nat.le_of_ble_eq_true rfl⟩ hl.1 rfl (Nat.le_of_ble_eq_true rfl) dL_law_897 ⟨Nat.le_trans (Nat.le_add_right _ _) hcs.1, Nat.le_trans (Nat.le_add_right _ _) hcs.2⟩ (fun H locs hP hS _ hk => ?_)
  have hG := pOe_call ho hG hk
  refine W.eq (g2 := F0 m 900 ls [.int r]) rfl ?_
  refine lv_aload_n hx hb dL_law_900 rfl (lv_at hl 2 rfl) ?_
  refine p_callV (n := 0) (As := []) (rest := [.int r]) C hP hS (wv_L_119 C.2.2.2.2.1 _) (c_X10_clear l hE hm) (e_X10) rfl rfl hd_X10_clear rfl ⟨Nat.le_of_ble_eq_true rfl, Nat.le_of_ble_eq_true rfl⟩ hl.1 rfl (Nat.le_of_ble_eq_true rfl) dL_law_901 ⟨Nat.le_trans (Nat.le_add_right _ _) hcs.1, Nat.le_trans (Nat.le_add_right _ _) hcs.2⟩ (fun H locs hP hS _ hk => ?_)
  have hG := pOe_call ho hG hk
  refine W.eq (g2 := F0 m 904 ls [.int r, .int r]) rfl ?_
  refine lv_icmp_eq (tgt := 909) hx hb dL_law_904 (by decide) (fun _ => ?_) (fun h => absurd rfl h)
  exact p_widen (Nat.le_add_right _ _) (Nat.le_add_right _ _) (kk H locs ls _ _ _ hP hG hR1 hS (lv_sub hl [0, 1, 2, 3, 4] rfl))
end LWC

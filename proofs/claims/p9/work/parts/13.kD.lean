theorem k_Mo_init_0 {X : gC} {M : List mC} {k n : Nat} {x0 : Nat} (ok : gO X c_Mo_init "TripleStoreModel" w_Mo_init)  (hf : 1 ≤ (gR X).frames) (hl2 : (([] : List Value).map fun v => v.category).sum + 12 ≤ (gR X).locals) (kk : gg X M k n 4 [(0, .ref x0)] []) : gg X M k n 0 [(0, .ref x0)] [] := by
  refine g_aload_n ok d_Mo_init_0 rfl (j := 0) rfl ?_
  exact g_objI ok ml_Mo_1 wn_Object i_Object d_Mo_init_1 hf hl2 kk
theorem k_Mo_init_4 {X : gC} {M : List mC} {k n : Nat} {x0 : Nat} {M4 : List mC} {q5 : Nat} {fs10 : List Value} {fs14 : List Value} {M16 : List mC} {M24 : List mC} {q25 : Nat} {fs32 : List Value} {M34 : List mC} {M43 : List mC} {q44 : Nat} {fs53 : List Value} {M55 : List mC} {M65 : List mC} {q66 : Nat} {fs77 : List Value} {M79 : List mC} {M90 : List mC} {q91 : Nat} {fs104 : List Value} {M106 : List mC} {M118 : List mC} {q119 : Nat} {fs134 : List Value} {M136 : List mC} {fs147 : List Value} {M149 : List mC} {M163 : List mC} {q164 : Nat} {fs187 : List Value} {M189 : List mC} {M204 : List mC} {q205 : Nat} {fs224 : List Value} {M226 : List mC} {M242 : List mC} {q243 : Nat} {fs264 : List Value} {M266 : List mC} {M283 : List mC} {q284 : Nat} {fs307 : List Value} {M309 : List mC} {M327 : List mC} {q328 : Nat} {fs353 : List Value} {M355 : List mC} {M374 : List mC} {q375 : Nat} {fs402 : List Value} {M404 : List mC} {M424 : List mC} {q425 : Nat} {fs454 : List Value} {M456 : List mC} {M477 : List mC} {q478 : Nat} {fs509 : List Value} {M511 : List mC} {M533 : List mC} {q534 : Nat} {fs567 : List Value} {M569 : List mC} {M592 : List mC} {q593 : Nat} {fs628 : List Value} {M630 : List mC} {M654 : List mC} {q655 : Nat} {fs692 : List Value} {M694 : List mC} {M719 : List mC} {q720 : Nat} {fs759 : List Value} {M761 : List mC} {M787 : List mC} {q788 : Nat} {fs829 : List Value} {M831 : List mC} {M858 : List mC} {q859 : Nat} {fs902 : List Value} {M904 : List mC} {M932 : List mC} {q933 : Nat} {fs978 : List Value} {M980 : List mC} {M1009 : List mC} {q1010 : Nat} {fs1057 : List Value} {M1059 : List mC} {M1089 : List mC} {q1090 : Nat} {fs1139 : List Value} {M1141 : List mC} {M1172 : List mC} {q1173 : Nat} {fs1224 : List Value} {M1226 : List mC} {M1258 : List mC} {q1259 : Nat} {fs1312 : List Value} {M1314 : List mC} (ok : gO X c_Mo_init "TripleStoreModel" w_Mo_init) (hin : (gM X).name = "<init>") (h1 : k + 1 ≤ (gR X).cells) (h2 : n + 144 ≤ (gR X).slots) (h3 : gW M [(0, .ref x0)] [.ref x0]) (h6 : M ++ [.inl (1, 144, .inr (.inl (fun _ => 0)))] = M4) (h7 : M.length = q5) (h9 : M[x0]? = some (.inr (10, fs10))) (h13 : 59 ≤ fs10.length) (h15 : fs10.set 0 (.ref q5) = fs14) (h17 : M4.set x0 (.inr (10, fs14)) = M16) (h21 : k + 1 + 1 ≤ (gR X).cells) (h22 : n + 144 + 144 ≤ (gR X).slots) (h23 : gW M16 [(0, .ref x0)] [.ref x0]) (h26 : M16 ++ [.inl (1, 144, .inr (.inl (fun _ => 0)))] = M24) (h27 : M16.length = q25) (h33 : fs14.set 2 (.ref q25) = fs32) (h35 : M24.set x0 (.inr (10, fs32)) = M34) (h40 : k + 1 + 1 + 1 ≤ (gR X).cells) (h41 : n + 144 + 144 + 2400 ≤ (gR X).slots) (h42 : gW M34 [(0, .ref x0)] [.ref x0]) (h45 : M34 ++ [.inl (1, 2400, .inr (.inl (fun _ => 0)))] = M43) (h46 : M34.length = q44) (h54 : fs32.set 4 (.ref q44) = fs53) (h56 : M43.set x0 (.inr (10, fs53)) = M55) (h62 : k + 1 + 1 + 1 + 1 ≤ (gR X).cells) (h63 : n + 144 + 144 + 2400 + 800 ≤ (gR X).slots) (h64 : gW M55 [(0, .ref x0)] [.ref x0]) (h67 : M55 ++ [.inl (3, 800, .inl (fun _ => 0))] = M65) (h68 : M55.length = q66) (h78 : fs53.set 5 (.ref q66) = fs77) (h80 : M65.set x0 (.inr (10, fs77)) = M79) (h87 : k + 1 + 1 + 1 + 1 + 1 ≤ (gR X).cells) (h88 : n + 144 + 144 + 2400 + 800 + 800 ≤ (gR X).slots) (h89 : gW M79 [(0, .ref x0)] [.ref x0]) (h92 : M79 ++ [.inl (0, 800, .inl (fun _ => 0))] = M90) (h93 : M79.length = q91) (h105 : fs77.set 6 (.ref q91) = fs104) (h107 : M90.set x0 (.inr (10, fs104)) = M106) (h115 : k + 1 + 1 + 1 + 1 + 1 + 1 ≤ (gR X).cells) (h116 : n + 144 + 144 + 2400 + 800 + 800 + 160 ≤ (gR X).slots) (h117 : gW M106 [(0, .ref x0)] [.ref x0]) (h120 : M106 ++ [.inl (0, 160, .inl (fun _ => 0))] = M118) (h121 : M106.length = q119) (h135 : fs104.set 12 (.ref q119) = fs134) (h137 : M118.set x0 (.inr (10, fs134)) = M136) (h148 : fs134.set 14 (.int (-1)) = fs147) (h150 : M136.set x0 (.inr (10, fs147)) = M149) (h160 : k + 1 + 1 + 1 + 1 + 1 + 1 + 1 ≤ (gR X).cells) (h161 : n + 144 + 144 + 2400 + 800 + 800 + 160 + 6 ≤ (gR X).slots) (h162 : gW M149 [(0, .ref x0)] [.ref x0]) (h165 : M149 ++ [.inl (1, 6, .inr (.inl (fun _ => 0)))] = M163) (h166 : M149.length = q164) (h188 : fs147.set 23 (.ref q164) = fs187) (h190 : M163.set x0 (.inr (10, fs187)) = M189) (h201 : k + 1 + 1 + 1 + 1 + 1 + 1 + 1 + 1 ≤ (gR X).cells) (h202 : n + 144 + 144 + 2400 + 800 + 800 + 160 + 6 + 5 ≤ (gR X).slots) (h203 : gW M189 [(0, .ref x0)] [.ref x0]) (h206 : M189 ++ [.inl (0, 5, .inl (fun _ => 0))] = M204) (h207 : M189.length = q205) (h225 : fs187.set 28 (.ref q205) = fs224) (h227 : M204.set x0 (.inr (10, fs224)) = M226) (h239 : k + 1 + 1 + 1 + 1 + 1 + 1 + 1 + 1 + 1 ≤ (gR X).cells) (h240 : n + 144 + 144 + 2400 + 800 + 800 + 160 + 6 + 5 + 5 ≤ (gR X).slots) (h241 : gW M226 [(0, .ref x0)] [.ref x0]) (h244 : M226 ++ [.inl (0, 5, .inl (fun _ => 0))] = M242) (h245 : M226.length = q243) (h265 : fs224.set 29 (.ref q243) = fs264) (h267 : M242.set x0 (.inr (10, fs264)) = M266) (h280 : k + 1 + 1 + 1 + 1 + 1 + 1 + 1 + 1 + 1 + 1 ≤ (gR X).cells) (h281 : n + 144 + 144 + 2400 + 800 + 800 + 160 + 6 + 5 + 5 + 400 ≤ (gR X).slots) (h282 : gW M266 [(0, .ref x0)] [.ref x0]) (h285 : M266 ++ [.inl (0, 400, .inl (fun _ => 0))] = M283) (h286 : M266.length = q284) (h308 : fs264.set 30 (.ref q284) = fs307) (h310 : M283.set x0 (.inr (10, fs307)) = M309) (h324 : k + 1 + 1 + 1 + 1 + 1 + 1 + 1 + 1 + 1 + 1 + 1 ≤ (gR X).cells) (h325 : n + 144 + 144 + 2400 + 800 + 800 + 160 + 6 + 5 + 5 + 400 + 400 ≤ (gR X).slots) (h326 : gW M309 [(0, .ref x0)] [.ref x0]) (h329 : M309 ++ [.inl (0, 400, .inl (fun _ => 0))] = M327) (h330 : M309.length = q328) (h354 : fs307.set 31 (.ref q328) = fs353) (h356 : M327.set x0 (.inr (10, fs353)) = M355) (h371 : k + 1 + 1 + 1 + 1 + 1 + 1 + 1 + 1 + 1 + 1 + 1 + 1 ≤ (gR X).cells) (h372 : n + 144 + 144 + 2400 + 800 + 800 + 160 + 6 + 5 + 5 + 400 + 400 + 120 ≤ (gR X).slots) (h373 : gW M355 [(0, .ref x0)] [.ref x0]) (h376 : M355 ++ [.inl (0, 120, .inl (fun _ => 0))] = M374) (h377 : M355.length = q375) (h403 : fs353.set 33 (.ref q375) = fs402) (h405 : M374.set x0 (.inr (10, fs402)) = M404) (h421 : k + 1 + 1 + 1 + 1 + 1 + 1 + 1 + 1 + 1 + 1 + 1 + 1 + 1 ≤ (gR X).cells) (h422 : n + 144 + 144 + 2400 + 800 + 800 + 160 + 6 + 5 + 5 + 400 + 400 + 120 + 120 ≤ (gR X).slots) (h423 : gW M404 [(0, .ref x0)] [.ref x0]) (h426 : M404 ++ [.inl (1, 120, .inr (.inl (fun _ => 0)))] = M424) (h427 : M404.length = q425) (h455 : fs402.set 34 (.ref q425) = fs454) (h457 : M424.set x0 (.inr (10, fs454)) = M456) (h474 : k + 1 + 1 + 1 + 1 + 1 + 1 + 1 + 1 + 1 + 1 + 1 + 1 + 1 + 1 ≤ (gR X).cells) (h475 : n + 144 + 144 + 2400 + 800 + 800 + 160 + 6 + 5 + 5 + 400 + 400 + 120 + 120 + 14 ≤ (gR X).slots) (h476 : gW M456 [(0, .ref x0)] [.ref x0]) (h479 : M456 ++ [.inl (0, 14, .inl (fun _ => 0))] = M477) (h480 : M456.length = q478) (h510 : fs454.set 36 (.ref q478) = fs509) (h512 : M477.set x0 (.inr (10, fs509)) = M511) (h530 : k + 1 + 1 + 1 + 1 + 1 + 1 + 1 + 1 + 1 + 1 + 1 + 1 + 1 + 1 + 1 ≤ (gR X).cells) (h531 : n + 144 + 144 + 2400 + 800 + 800 + 160 + 6 + 5 + 5 + 400 + 400 + 120 + 120 + 14 + 14 ≤ (gR X).slots) (h532 : gW M511 [(0, .ref x0)] [.ref x0]) (h535 : M511 ++ [.inl (0, 14, .inl (fun _ => 0))] = M533) (h536 : M511.length = q534) (h568 : fs509.set 37 (.ref q534) = fs567) (h570 : M533.set x0 (.inr (10, fs567)) = M569) (h589 : k + 1 + 1 + 1 + 1 + 1 + 1 + 1 + 1 + 1 + 1 + 1 + 1 + 1 + 1 + 1 + 1 ≤ (gR X).cells) (h590 : n + 144 + 144 + 2400 + 800 + 800 + 160 + 6 + 5 + 5 + 400 + 400 + 120 + 120 + 14 + 14 + 14 ≤ (gR X).slots) (h591 : gW M569 [(0, .ref x0)] [.ref x0]) (h594 : M569 ++ [.inl (3, 14, .inl (fun _ => 0))] = M592) (h595 : M569.length = q593) (h629 : fs567.set 38 (.ref q593) = fs628) (h631 : M592.set x0 (.inr (10, fs628)) = M630) (h651 : k + 1 + 1 + 1 + 1 + 1 + 1 + 1 + 1 + 1 + 1 + 1 + 1 + 1 + 1 + 1 + 1 + 1 ≤ (gR X).cells) (h652 : n + 144 + 144 + 2400 + 800 + 800 + 160 + 6 + 5 + 5 + 400 + 400 + 120 + 120 + 14 + 14 + 14 + 80 ≤ (gR X).slots) (h653 : gW M630 [(0, .ref x0)] [.ref x0]) (h656 : M630 ++ [.inl (0, 80, .inl (fun _ => 0))] = M654) (h657 : M630.length = q655) (h693 : fs628.set 40 (.ref q655) = fs692) (h695 : M654.set x0 (.inr (10, fs692)) = M694) (h716 : k + 1 + 1 + 1 + 1 + 1 + 1 + 1 + 1 + 1 + 1 + 1 + 1 + 1 + 1 + 1 + 1 + 1 + 1 ≤ (gR X).cells) (h717 : n + 144 + 144 + 2400 + 800 + 800 + 160 + 6 + 5 + 5 + 400 + 400 + 120 + 120 + 14 + 14 + 14 + 80 + 5 ≤ (gR X).slots) (h718 : gW M694 [(0, .ref x0)] [.ref x0]) (h721 : M694 ++ [.inl (0, 5, .inl (fun _ => 0))] = M719) (h722 : M694.length = q720) (h760 : fs692.set 42 (.ref q720) = fs759) (h762 : M719.set x0 (.inr (10, fs759)) = M761) (h784 : k + 1 + 1 + 1 + 1 + 1 + 1 + 1 + 1 + 1 + 1 + 1 + 1 + 1 + 1 + 1 + 1 + 1 + 1 + 1 ≤ (gR X).cells) (h785 : n + 144 + 144 + 2400 + 800 + 800 + 160 + 6 + 5 + 5 + 400 + 400 + 120 + 120 + 14 + 14 + 14 + 80 + 5 + 9900 ≤ (gR X).slots) (h786 : gW M761 [(0, .ref x0)] [.ref x0]) (h789 : M761 ++ [.inl (1, 9900, .inr (.inl (fun _ => 0)))] = M787) (h790 : M761.length = q788) (h830 : fs759.set 47 (.ref q788) = fs829) (h832 : M787.set x0 (.inr (10, fs829)) = M831) (h855 : k + 1 + 1 + 1 + 1 + 1 + 1 + 1 + 1 + 1 + 1 + 1 + 1 + 1 + 1 + 1 + 1 + 1 + 1 + 1 + 1 ≤ (gR X).cells) (h856 : n + 144 + 144 + 2400 + 800 + 800 + 160 + 6 + 5 + 5 + 400 + 400 + 120 + 120 + 14 + 14 + 14 + 80 + 5 + 9900 + 1650 ≤ (gR X).slots) (h857 : gW M831 [(0, .ref x0)] [.ref x0]) (h860 : M831 ++ [.inl (0, 1650, .inl (fun _ => 0))] = M858) (h861 : M831.length = q859) (h903 : fs829.set 48 (.ref q859) = fs902) (h905 : M858.set x0 (.inr (10, fs902)) = M904) (h929 : k + 1 + 1 + 1 + 1 + 1 + 1 + 1 + 1 + 1 + 1 + 1 + 1 + 1 + 1 + 1 + 1 + 1 + 1 + 1 + 1 + 1 ≤ (gR X).cells) (h930 : n + 144 + 144 + 2400 + 800 + 800 + 160 + 6 + 5 + 5 + 400 + 400 + 120 + 120 + 14 + 14 + 14 + 80 + 5 + 9900 + 1650 + 11 ≤ (gR X).slots) (h931 : gW M904 [(0, .ref x0)] [.ref x0]) (h934 : M904 ++ [.inl (0, 11, .inl (fun _ => 0))] = M932) (h935 : M904.length = q933) (h979 : fs902.set 49 (.ref q933) = fs978) (h981 : M932.set x0 (.inr (10, fs978)) = M980) (h1006 : k + 1 + 1 + 1 + 1 + 1 + 1 + 1 + 1 + 1 + 1 + 1 + 1 + 1 + 1 + 1 + 1 + 1 + 1 + 1 + 1 + 1 + 1 ≤ (gR X).cells) (h1007 : n + 144 + 144 + 2400 + 800 + 800 + 160 + 6 + 5 + 5 + 400 + 400 + 120 + 120 + 14 + 14 + 14 + 80 + 5 + 9900 + 1650 + 11 + 900 ≤ (gR X).slots) (h1008 : gW M980 [(0, .ref x0)] [.ref x0]) (h1011 : M980 ++ [.inl (1, 900, .inr (.inl (fun _ => 0)))] = M1009) (h1012 : M980.length = q1010) (h1058 : fs978.set 52 (.ref q1010) = fs1057) (h1060 : M1009.set x0 (.inr (10, fs1057)) = M1059) (h1086 : k + 1 + 1 + 1 + 1 + 1 + 1 + 1 + 1 + 1 + 1 + 1 + 1 + 1 + 1 + 1 + 1 + 1 + 1 + 1 + 1 + 1 + 1 + 1 ≤ (gR X).cells) (h1087 : n + 144 + 144 + 2400 + 800 + 800 + 160 + 6 + 5 + 5 + 400 + 400 + 120 + 120 + 14 + 14 + 14 + 80 + 5 + 9900 + 1650 + 11 + 900 + 150 ≤ (gR X).slots) (h1088 : gW M1059 [(0, .ref x0)] [.ref x0]) (h1091 : M1059 ++ [.inl (0, 150, .inl (fun _ => 0))] = M1089) (h1092 : M1059.length = q1090) (h1140 : fs1057.set 53 (.ref q1090) = fs1139) (h1142 : M1089.set x0 (.inr (10, fs1139)) = M1141) (h1169 : k + 1 + 1 + 1 + 1 + 1 + 1 + 1 + 1 + 1 + 1 + 1 + 1 + 1 + 1 + 1 + 1 + 1 + 1 + 1 + 1 + 1 + 1 + 1 + 1 ≤ (gR X).cells) (h1170 : n + 144 + 144 + 2400 + 800 + 800 + 160 + 6 + 5 + 5 + 400 + 400 + 120 + 120 + 14 + 14 + 14 + 80 + 5 + 9900 + 1650 + 11 + 900 + 150 + 150 ≤ (gR X).slots) (h1171 : gW M1141 [(0, .ref x0)] [.ref x0]) (h1174 : M1141 ++ [.inl (0, 150, .inl (fun _ => 0))] = M1172) (h1175 : M1141.length = q1173) (h1225 : fs1139.set 54 (.ref q1173) = fs1224) (h1227 : M1172.set x0 (.inr (10, fs1224)) = M1226) (h1255 : k + 1 + 1 + 1 + 1 + 1 + 1 + 1 + 1 + 1 + 1 + 1 + 1 + 1 + 1 + 1 + 1 + 1 + 1 + 1 + 1 + 1 + 1 + 1 + 1 + 1 ≤ (gR X).cells) (h1256 : n + 144 + 144 + 2400 + 800 + 800 + 160 + 6 + 5 + 5 + 400 + 400 + 120 + 120 + 14 + 14 + 14 + 80 + 5 + 9900 + 1650 + 11 + 900 + 150 + 150 + 80 ≤ (gR X).slots) (h1257 : gW M1226 [(0, .ref x0)] [.ref x0]) (h1260 : M1226 ++ [.inl (0, 80, .inl (fun _ => 0))] = M1258) (h1261 : M1226.length = q1259) (h1313 : fs1224.set 56 (.ref q1259) = fs1312) (h1315 : M1258.set x0 (.inr (10, fs1312)) = M1314) {l9 : Launch} {rm : Room} {M0 : List mC} {post : Option Value → List mC → Prop} (E : gE X l9 y_Mo_init rm 1 none M0 post) (hp : post (none) M1314) (hk : k + 1 + 1 + 1 + 1 + 1 + 1 + 1 + 1 + 1 + 1 + 1 + 1 + 1 + 1 + 1 + 1 + 1 + 1 + 1 + 1 + 1 + 1 + 1 + 1 + 1 ≤ rm.cells) (hn : n + 144 + 144 + 2400 + 800 + 800 + 160 + 6 + 5 + 5 + 400 + 400 + 120 + 120 + 14 + 14 + 14 + 80 + 5 + 9900 + 1650 + 11 + 900 + 150 + 150 + 80 ≤ rm.slots) : gg X M k n 4 [(0, .ref x0)] [] := by
  refine g_aload_n ok d_Mo_init_4 rfl (j := 0) rfl ?_
  refine g_sipush (v := 144) ok d_Mo_init_5 (by decide) ?_
  refine g_newa (atype := .long) (ty := .long) (t := 1) (N := 144) (a0 := (144, .inr (.inl (fun _ => 0)))) ok (List.mem_cons_of_mem _ (gT_at 56 (by decide +kernel) (by decide +kernel))) rfl rfl (fun _ => rfl) (fun _ => rfl) (by decide) (by decide) (by decide) d_Mo_init_8 h1 h2 h3 ?_
  rw [h6, h7]
  have h8 : M4[q5]? = some (.inl (1, 144, .inr (.inl (fun _ => 0)))) := by rw [← h6, ← h7]; exact ga_new _ _
  have h11 : M4[x0]? = some (.inr (10, fs10)) := by rw [← h6]; exact ga_old h9
  have h12 : 0 < fs10.length := Nat.lt_of_lt_of_le (by decide) h13
  refine pf_Mo_7 ok hin d_Mo_init_10 h11 h12 (fun _ => ⟨rfl, rfl⟩) ?_
  rw [h15]
  rw [h17]
  have h18 : M16[x0]? = some (.inr (10, fs14)) := by rw [← h17]; exact gs_eq h11
  have h19 : fs14[0]? = some (.ref q5) := by rw [← h15]; exact List.getElem?_set_self h12
  have h20 : 59 ≤ fs14.length := by rw [← h15, List.length_set]; exact h13
  refine g_aload_n ok d_Mo_init_13 rfl (j := 0) rfl ?_
  refine g_sipush (v := 144) ok d_Mo_init_14 (by decide) ?_
  refine g_newa (atype := .long) (ty := .long) (t := 1) (N := 144) (a0 := (144, .inr (.inl (fun _ => 0)))) ok (List.mem_cons_of_mem _ (gT_at 56 (by decide +kernel) (by decide +kernel))) rfl rfl (fun _ => rfl) (fun _ => rfl) (by decide) (by decide) (by decide) d_Mo_init_17 h21 h22 h23 ?_
  rw [h26, h27]
  have h28 : M24[q25]? = some (.inl (1, 144, .inr (.inl (fun _ => 0)))) := by rw [← h26, ← h27]; exact ga_new _ _
  have h29 : M16[q5]? = some (.inl (1, 144, .inr (.inl (fun _ => 0)))) := by rw [← h17]; exact (gs_ne (Ne.symm (ne_ao h8 h11))).trans h8
  have h30 : M24[x0]? = some (.inr (10, fs14)) := by rw [← h26]; exact ga_old h18
  have h31 : 2 < fs14.length := Nat.lt_of_lt_of_le (by decide) h20
  refine pf_Mo_13 ok hin d_Mo_init_19 h30 h31 (fun _ => ⟨rfl, rfl⟩) ?_
  rw [h33]
  rw [h35]
  have h36 : M34[x0]? = some (.inr (10, fs32)) := by rw [← h35]; exact gs_eq h30
  have h37 : fs32[0]? = some (.ref q5) := by rw [← h33]; exact (List.getElem?_set_ne (by decide : 2 ≠ 0)).trans h19
  have h38 : fs32[2]? = some (.ref q25) := by rw [← h33]; exact List.getElem?_set_self h31
  have h39 : 59 ≤ fs32.length := by rw [← h33, List.length_set]; exact h20
  refine g_aload_n ok d_Mo_init_22 rfl (j := 0) rfl ?_
  refine g_sipush (v := 2400) ok d_Mo_init_23 (by decide) ?_
  refine g_newa (atype := .long) (ty := .long) (t := 1) (N := 2400) (a0 := (2400, .inr (.inl (fun _ => 0)))) ok (List.mem_cons_of_mem _ (gT_at 56 (by decide +kernel) (by decide +kernel))) rfl rfl (fun _ => rfl) (fun _ => rfl) (by decide) (by decide) (by decide) d_Mo_init_26 h40 h41 h42 ?_
  rw [h45, h46]
  have h47 : M43[q44]? = some (.inl (1, 2400, .inr (.inl (fun _ => 0)))) := by rw [← h45, ← h46]; exact ga_new _ _
  have h48 : M24[q5]? = some (.inl (1, 144, .inr (.inl (fun _ => 0)))) := by rw [← h26]; exact ga_old h29
  have h49 : M34[q5]? = some (.inl (1, 144, .inr (.inl (fun _ => 0)))) := by rw [← h35]; exact (gs_ne (Ne.symm (ne_ao h48 h30))).trans h48
  have h50 : M34[q25]? = some (.inl (1, 144, .inr (.inl (fun _ => 0)))) := by rw [← h35]; exact (gs_ne (Ne.symm (ne_ao h28 h30))).trans h28
  have h51 : M43[x0]? = some (.inr (10, fs32)) := by rw [← h45]; exact ga_old h36
  have h52 : 4 < fs32.length := Nat.lt_of_lt_of_le (by decide) h39
  refine pf_Mo_16 ok hin d_Mo_init_28 h51 h52 (fun _ => ⟨rfl, rfl⟩) ?_
  rw [h54]
  rw [h56]
  have h57 : M55[x0]? = some (.inr (10, fs53)) := by rw [← h56]; exact gs_eq h51
  have h58 : fs53[0]? = some (.ref q5) := by rw [← h54]; exact (List.getElem?_set_ne (by decide : 4 ≠ 0)).trans h37
  have h59 : fs53[2]? = some (.ref q25) := by rw [← h54]; exact (List.getElem?_set_ne (by decide : 4 ≠ 2)).trans h38
  have h60 : fs53[4]? = some (.ref q44) := by rw [← h54]; exact List.getElem?_set_self h52
  have h61 : 59 ≤ fs53.length := by rw [← h54, List.length_set]; exact h39
  refine g_aload_n ok d_Mo_init_31 rfl (j := 0) rfl ?_
  refine g_sipush (v := 800) ok d_Mo_init_32 (by decide) ?_
  refine g_newa (atype := .boolean) (ty := .boolean) (t := 3) (N := 800) (a0 := (800, .inl (fun _ => 0))) ok (List.mem_cons_of_mem _ (gT_at 82 (by decide +kernel) (by decide +kernel))) rfl rfl (fun _ => rfl) (fun _ => rfl) (by decide) (by decide) (by decide) d_Mo_init_35 h62 h63 h64 ?_
  rw [h67, h68]
  have h69 : M65[q66]? = some (.inl (3, 800, .inl (fun _ => 0))) := by rw [← h67, ← h68]; exact ga_new _ _
  have h70 : M43[q5]? = some (.inl (1, 144, .inr (.inl (fun _ => 0)))) := by rw [← h45]; exact ga_old h49
  have h71 : M55[q5]? = some (.inl (1, 144, .inr (.inl (fun _ => 0)))) := by rw [← h56]; exact (gs_ne (Ne.symm (ne_ao h70 h51))).trans h70
  have h72 : M43[q25]? = some (.inl (1, 144, .inr (.inl (fun _ => 0)))) := by rw [← h45]; exact ga_old h50
  have h73 : M55[q25]? = some (.inl (1, 144, .inr (.inl (fun _ => 0)))) := by rw [← h56]; exact (gs_ne (Ne.symm (ne_ao h72 h51))).trans h72
  have h74 : M55[q44]? = some (.inl (1, 2400, .inr (.inl (fun _ => 0)))) := by rw [← h56]; exact (gs_ne (Ne.symm (ne_ao h47 h51))).trans h47
  have h75 : M65[x0]? = some (.inr (10, fs53)) := by rw [← h67]; exact ga_old h57
  have h76 : 5 < fs53.length := Nat.lt_of_lt_of_le (by decide) h61
  refine pf_Mo_19 ok hin d_Mo_init_37 h75 h76 (fun _ => ⟨rfl, rfl⟩) ?_
  rw [h78]
  rw [h80]
  have h81 : M79[x0]? = some (.inr (10, fs77)) := by rw [← h80]; exact gs_eq h75
  have h82 : fs77[0]? = some (.ref q5) := by rw [← h78]; exact (List.getElem?_set_ne (by decide : 5 ≠ 0)).trans h58
  have h83 : fs77[2]? = some (.ref q25) := by rw [← h78]; exact (List.getElem?_set_ne (by decide : 5 ≠ 2)).trans h59
  have h84 : fs77[4]? = some (.ref q44) := by rw [← h78]; exact (List.getElem?_set_ne (by decide : 5 ≠ 4)).trans h60
  have h85 : fs77[5]? = some (.ref q66) := by rw [← h78]; exact List.getElem?_set_self h76
  have h86 : 59 ≤ fs77.length := by rw [← h78, List.length_set]; exact h61
  refine g_aload_n ok d_Mo_init_40 rfl (j := 0) rfl ?_
  refine g_sipush (v := 800) ok d_Mo_init_41 (by decide) ?_
  refine g_newa (atype := .int) (ty := .int) (t := 0) (N := 800) (a0 := (800, .inl (fun _ => 0))) ok (List.mem_cons_of_mem _ (gT_at 83 (by decide +kernel) (by decide +kernel))) rfl rfl (fun _ => rfl) (fun _ => rfl) (by decide) (by decide) (by decide) d_Mo_init_44 h87 h88 h89 ?_
  rw [h92, h93]
  have h94 : M90[q91]? = some (.inl (0, 800, .inl (fun _ => 0))) := by rw [← h92, ← h93]; exact ga_new _ _
  have h95 : M65[q5]? = some (.inl (1, 144, .inr (.inl (fun _ => 0)))) := by rw [← h67]; exact ga_old h71
  have h96 : M79[q5]? = some (.inl (1, 144, .inr (.inl (fun _ => 0)))) := by rw [← h80]; exact (gs_ne (Ne.symm (ne_ao h95 h75))).trans h95
  have h97 : M65[q25]? = some (.inl (1, 144, .inr (.inl (fun _ => 0)))) := by rw [← h67]; exact ga_old h73
  have h98 : M79[q25]? = some (.inl (1, 144, .inr (.inl (fun _ => 0)))) := by rw [← h80]; exact (gs_ne (Ne.symm (ne_ao h97 h75))).trans h97
  have h99 : M65[q44]? = some (.inl (1, 2400, .inr (.inl (fun _ => 0)))) := by rw [← h67]; exact ga_old h74
  have h100 : M79[q44]? = some (.inl (1, 2400, .inr (.inl (fun _ => 0)))) := by rw [← h80]; exact (gs_ne (Ne.symm (ne_ao h99 h75))).trans h99
  have h101 : M79[q66]? = some (.inl (3, 800, .inl (fun _ => 0))) := by rw [← h80]; exact (gs_ne (Ne.symm (ne_ao h69 h75))).trans h69
  have h102 : M90[x0]? = some (.inr (10, fs77)) := by rw [← h92]; exact ga_old h81
  have h103 : 6 < fs77.length := Nat.lt_of_lt_of_le (by decide) h86
  refine pf_Mo_23 ok hin d_Mo_init_46 h102 h103 (fun _ => ⟨rfl, rfl⟩) ?_
  rw [h105]
  rw [h107]
  have h108 : M106[x0]? = some (.inr (10, fs104)) := by rw [← h107]; exact gs_eq h102
  have h109 : fs104[0]? = some (.ref q5) := by rw [← h105]; exact (List.getElem?_set_ne (by decide : 6 ≠ 0)).trans h82
  have h110 : fs104[2]? = some (.ref q25) := by rw [← h105]; exact (List.getElem?_set_ne (by decide : 6 ≠ 2)).trans h83
  have h111 : fs104[4]? = some (.ref q44) := by rw [← h105]; exact (List.getElem?_set_ne (by decide : 6 ≠ 4)).trans h84
  have h112 : fs104[5]? = some (.ref q66) := by rw [← h105]; exact (List.getElem?_set_ne (by decide : 6 ≠ 5)).trans h85
  have h113 : fs104[6]? = some (.ref q91) := by rw [← h105]; exact List.getElem?_set_self h103
  have h114 : 59 ≤ fs104.length := by rw [← h105, List.length_set]; exact h86
  refine g_aload_n ok d_Mo_init_49 rfl (j := 0) rfl ?_
  refine g_sipush (v := 160) ok d_Mo_init_50 (by decide) ?_
  refine g_newa (atype := .int) (ty := .int) (t := 0) (N := 160) (a0 := (160, .inl (fun _ => 0))) ok (List.mem_cons_of_mem _ (gT_at 83 (by decide +kernel) (by decide +kernel))) rfl rfl (fun _ => rfl) (fun _ => rfl) (by decide) (by decide) (by decide) d_Mo_init_53 h115 h116 h117 ?_
  rw [h120, h121]
  have h122 : M118[q119]? = some (.inl (0, 160, .inl (fun _ => 0))) := by rw [← h120, ← h121]; exact ga_new _ _
  have h123 : M90[q5]? = some (.inl (1, 144, .inr (.inl (fun _ => 0)))) := by rw [← h92]; exact ga_old h96
  have h124 : M106[q5]? = some (.inl (1, 144, .inr (.inl (fun _ => 0)))) := by rw [← h107]; exact (gs_ne (Ne.symm (ne_ao h123 h102))).trans h123
  have h125 : M90[q25]? = some (.inl (1, 144, .inr (.inl (fun _ => 0)))) := by rw [← h92]; exact ga_old h98
  have h126 : M106[q25]? = some (.inl (1, 144, .inr (.inl (fun _ => 0)))) := by rw [← h107]; exact (gs_ne (Ne.symm (ne_ao h125 h102))).trans h125
  have h127 : M90[q44]? = some (.inl (1, 2400, .inr (.inl (fun _ => 0)))) := by rw [← h92]; exact ga_old h100
  have h128 : M106[q44]? = some (.inl (1, 2400, .inr (.inl (fun _ => 0)))) := by rw [← h107]; exact (gs_ne (Ne.symm (ne_ao h127 h102))).trans h127
  have h129 : M90[q66]? = some (.inl (3, 800, .inl (fun _ => 0))) := by rw [← h92]; exact ga_old h101
  have h130 : M106[q66]? = some (.inl (3, 800, .inl (fun _ => 0))) := by rw [← h107]; exact (gs_ne (Ne.symm (ne_ao h129 h102))).trans h129
  have h131 : M106[q91]? = some (.inl (0, 800, .inl (fun _ => 0))) := by rw [← h107]; exact (gs_ne (Ne.symm (ne_ao h94 h102))).trans h94
  have h132 : M118[x0]? = some (.inr (10, fs104)) := by rw [← h120]; exact ga_old h108
  have h133 : 12 < fs104.length := Nat.lt_of_lt_of_le (by decide) h114
  refine pf_Mo_27 ok hin d_Mo_init_55 h132 h133 (fun _ => ⟨rfl, rfl⟩) ?_
  rw [h135]
  rw [h137]
  have h138 : M136[x0]? = some (.inr (10, fs134)) := by rw [← h137]; exact gs_eq h132
  have h139 : fs134[0]? = some (.ref q5) := by rw [← h135]; exact (List.getElem?_set_ne (by decide : 12 ≠ 0)).trans h109
  have h140 : fs134[2]? = some (.ref q25) := by rw [← h135]; exact (List.getElem?_set_ne (by decide : 12 ≠ 2)).trans h110
  have h141 : fs134[4]? = some (.ref q44) := by rw [← h135]; exact (List.getElem?_set_ne (by decide : 12 ≠ 4)).trans h111
  have h142 : fs134[5]? = some (.ref q66) := by rw [← h135]; exact (List.getElem?_set_ne (by decide : 12 ≠ 5)).trans h112
  have h143 : fs134[6]? = some (.ref q91) := by rw [← h135]; exact (List.getElem?_set_ne (by decide : 12 ≠ 6)).trans h113
  have h144 : fs134[12]? = some (.ref q119) := by rw [← h135]; exact List.getElem?_set_self h133
  have h145 : 59 ≤ fs134.length := by rw [← h135, List.length_set]; exact h114
  refine g_aload_n ok d_Mo_init_58 rfl (j := 0) rfl ?_
  refine g_iconst (v := (-1)) ok d_Mo_init_59 (by decide) ?_
  have h146 : 14 < fs134.length := Nat.lt_of_lt_of_le (by decide) h145
  refine pf_Mo_30 ok d_Mo_init_60 h138 h146 (fun _ => ⟨rfl, rfl⟩) ?_
  rw [h148]
  rw [h150]
  have h151 : M149[x0]? = some (.inr (10, fs147)) := by rw [← h150]; exact gs_eq h138
  have h152 : fs147[0]? = some (.ref q5) := by rw [← h148]; exact (List.getElem?_set_ne (by decide : 14 ≠ 0)).trans h139
  have h153 : fs147[2]? = some (.ref q25) := by rw [← h148]; exact (List.getElem?_set_ne (by decide : 14 ≠ 2)).trans h140
  have h154 : fs147[4]? = some (.ref q44) := by rw [← h148]; exact (List.getElem?_set_ne (by decide : 14 ≠ 4)).trans h141
  have h155 : fs147[5]? = some (.ref q66) := by rw [← h148]; exact (List.getElem?_set_ne (by decide : 14 ≠ 5)).trans h142
  have h156 : fs147[6]? = some (.ref q91) := by rw [← h148]; exact (List.getElem?_set_ne (by decide : 14 ≠ 6)).trans h143
  have h157 : fs147[12]? = some (.ref q119) := by rw [← h148]; exact (List.getElem?_set_ne (by decide : 14 ≠ 12)).trans h144
  have h158 : fs147[14]? = some (.int (-1)) := by rw [← h148]; exact List.getElem?_set_self h146
  have h159 : 59 ≤ fs147.length := by rw [← h148, List.length_set]; exact h145
  refine g_aload_n ok d_Mo_init_63 rfl (j := 0) rfl ?_
  refine g_bipush (v := 6) ok d_Mo_init_64 (by decide) ?_
  refine g_newa (atype := .long) (ty := .long) (t := 1) (N := 6) (a0 := (6, .inr (.inl (fun _ => 0)))) ok (List.mem_cons_of_mem _ (gT_at 56 (by decide +kernel) (by decide +kernel))) rfl rfl (fun _ => rfl) (fun _ => rfl) (by decide) (by decide) (by decide) d_Mo_init_66 h160 h161 h162 ?_
  rw [h165, h166]
  have h167 : M163[q164]? = some (.inl (1, 6, .inr (.inl (fun _ => 0)))) := by rw [← h165, ← h166]; exact ga_new _ _
  have h168 : M118[q5]? = some (.inl (1, 144, .inr (.inl (fun _ => 0)))) := by rw [← h120]; exact ga_old h124
  have h169 : M136[q5]? = some (.inl (1, 144, .inr (.inl (fun _ => 0)))) := by rw [← h137]; exact (gs_ne (Ne.symm (ne_ao h168 h132))).trans h168
  have h170 : M149[q5]? = some (.inl (1, 144, .inr (.inl (fun _ => 0)))) := by rw [← h150]; exact (gs_ne (Ne.symm (ne_ao h169 h138))).trans h169
  have h171 : M118[q25]? = some (.inl (1, 144, .inr (.inl (fun _ => 0)))) := by rw [← h120]; exact ga_old h126
  have h172 : M136[q25]? = some (.inl (1, 144, .inr (.inl (fun _ => 0)))) := by rw [← h137]; exact (gs_ne (Ne.symm (ne_ao h171 h132))).trans h171
  have h173 : M149[q25]? = some (.inl (1, 144, .inr (.inl (fun _ => 0)))) := by rw [← h150]; exact (gs_ne (Ne.symm (ne_ao h172 h138))).trans h172
  have h174 : M118[q44]? = some (.inl (1, 2400, .inr (.inl (fun _ => 0)))) := by rw [← h120]; exact ga_old h128
  have h175 : M136[q44]? = some (.inl (1, 2400, .inr (.inl (fun _ => 0)))) := by rw [← h137]; exact (gs_ne (Ne.symm (ne_ao h174 h132))).trans h174
  have h176 : M149[q44]? = some (.inl (1, 2400, .inr (.inl (fun _ => 0)))) := by rw [← h150]; exact (gs_ne (Ne.symm (ne_ao h175 h138))).trans h175
  have h177 : M118[q66]? = some (.inl (3, 800, .inl (fun _ => 0))) := by rw [← h120]; exact ga_old h130
  have h178 : M136[q66]? = some (.inl (3, 800, .inl (fun _ => 0))) := by rw [← h137]; exact (gs_ne (Ne.symm (ne_ao h177 h132))).trans h177
  have h179 : M149[q66]? = some (.inl (3, 800, .inl (fun _ => 0))) := by rw [← h150]; exact (gs_ne (Ne.symm (ne_ao h178 h138))).trans h178
  have h180 : M118[q91]? = some (.inl (0, 800, .inl (fun _ => 0))) := by rw [← h120]; exact ga_old h131
  have h181 : M136[q91]? = some (.inl (0, 800, .inl (fun _ => 0))) := by rw [← h137]; exact (gs_ne (Ne.symm (ne_ao h180 h132))).trans h180
  have h182 : M149[q91]? = some (.inl (0, 800, .inl (fun _ => 0))) := by rw [← h150]; exact (gs_ne (Ne.symm (ne_ao h181 h138))).trans h181
  have h183 : M136[q119]? = some (.inl (0, 160, .inl (fun _ => 0))) := by rw [← h137]; exact (gs_ne (Ne.symm (ne_ao h122 h132))).trans h122
  have h184 : M149[q119]? = some (.inl (0, 160, .inl (fun _ => 0))) := by rw [← h150]; exact (gs_ne (Ne.symm (ne_ao h183 h138))).trans h183
  have h185 : M163[x0]? = some (.inr (10, fs147)) := by rw [← h165]; exact ga_old h151
  have h186 : 23 < fs147.length := Nat.lt_of_lt_of_le (by decide) h159
  refine pf_Mo_34 ok hin d_Mo_init_68 h185 h186 (fun _ => ⟨rfl, rfl⟩) ?_
  rw [h188]
  rw [h190]
  have h191 : M189[x0]? = some (.inr (10, fs187)) := by rw [← h190]; exact gs_eq h185
  have h192 : fs187[0]? = some (.ref q5) := by rw [← h188]; exact (List.getElem?_set_ne (by decide : 23 ≠ 0)).trans h152
  have h193 : fs187[2]? = some (.ref q25) := by rw [← h188]; exact (List.getElem?_set_ne (by decide : 23 ≠ 2)).trans h153
  have h194 : fs187[4]? = some (.ref q44) := by rw [← h188]; exact (List.getElem?_set_ne (by decide : 23 ≠ 4)).trans h154
  have h195 : fs187[5]? = some (.ref q66) := by rw [← h188]; exact (List.getElem?_set_ne (by decide : 23 ≠ 5)).trans h155
  have h196 : fs187[6]? = some (.ref q91) := by rw [← h188]; exact (List.getElem?_set_ne (by decide : 23 ≠ 6)).trans h156
  have h197 : fs187[12]? = some (.ref q119) := by rw [← h188]; exact (List.getElem?_set_ne (by decide : 23 ≠ 12)).trans h157
  have h198 : fs187[14]? = some (.int (-1)) := by rw [← h188]; exact (List.getElem?_set_ne (by decide : 23 ≠ 14)).trans h158
  have h199 : fs187[23]? = some (.ref q164) := by rw [← h188]; exact List.getElem?_set_self h186
  have h200 : 59 ≤ fs187.length := by rw [← h188, List.length_set]; exact h159
  refine g_aload_n ok d_Mo_init_71 rfl (j := 0) rfl ?_
  refine g_iconst (v := 5) ok d_Mo_init_72 (by decide) ?_
  refine g_newa (atype := .int) (ty := .int) (t := 0) (N := 5) (a0 := (5, .inl (fun _ => 0))) ok (List.mem_cons_of_mem _ (gT_at 83 (by decide +kernel) (by decide +kernel))) rfl rfl (fun _ => rfl) (fun _ => rfl) (by decide) (by decide) (by decide) d_Mo_init_73 h201 h202 h203 ?_
  rw [h206, h207]
  have h208 : M204[q205]? = some (.inl (0, 5, .inl (fun _ => 0))) := by rw [← h206, ← h207]; exact ga_new _ _
  have h209 : M163[q5]? = some (.inl (1, 144, .inr (.inl (fun _ => 0)))) := by rw [← h165]; exact ga_old h170
  have h210 : M189[q5]? = some (.inl (1, 144, .inr (.inl (fun _ => 0)))) := by rw [← h190]; exact (gs_ne (Ne.symm (ne_ao h209 h185))).trans h209
  have h211 : M163[q25]? = some (.inl (1, 144, .inr (.inl (fun _ => 0)))) := by rw [← h165]; exact ga_old h173
  have h212 : M189[q25]? = some (.inl (1, 144, .inr (.inl (fun _ => 0)))) := by rw [← h190]; exact (gs_ne (Ne.symm (ne_ao h211 h185))).trans h211
  have h213 : M163[q44]? = some (.inl (1, 2400, .inr (.inl (fun _ => 0)))) := by rw [← h165]; exact ga_old h176
  have h214 : M189[q44]? = some (.inl (1, 2400, .inr (.inl (fun _ => 0)))) := by rw [← h190]; exact (gs_ne (Ne.symm (ne_ao h213 h185))).trans h213
  have h215 : M163[q66]? = some (.inl (3, 800, .inl (fun _ => 0))) := by rw [← h165]; exact ga_old h179
  have h216 : M189[q66]? = some (.inl (3, 800, .inl (fun _ => 0))) := by rw [← h190]; exact (gs_ne (Ne.symm (ne_ao h215 h185))).trans h215
  have h217 : M163[q91]? = some (.inl (0, 800, .inl (fun _ => 0))) := by rw [← h165]; exact ga_old h182
  have h218 : M189[q91]? = some (.inl (0, 800, .inl (fun _ => 0))) := by rw [← h190]; exact (gs_ne (Ne.symm (ne_ao h217 h185))).trans h217
  have h219 : M163[q119]? = some (.inl (0, 160, .inl (fun _ => 0))) := by rw [← h165]; exact ga_old h184
  have h220 : M189[q119]? = some (.inl (0, 160, .inl (fun _ => 0))) := by rw [← h190]; exact (gs_ne (Ne.symm (ne_ao h219 h185))).trans h219
  have h221 : M189[q164]? = some (.inl (1, 6, .inr (.inl (fun _ => 0)))) := by rw [← h190]; exact (gs_ne (Ne.symm (ne_ao h167 h185))).trans h167
  have h222 : M204[x0]? = some (.inr (10, fs187)) := by rw [← h206]; exact ga_old h191
  have h223 : 28 < fs187.length := Nat.lt_of_lt_of_le (by decide) h200
  refine pf_Mo_37 ok hin d_Mo_init_75 h222 h223 (fun _ => ⟨rfl, rfl⟩) ?_
  rw [h225]
  rw [h227]
  have h228 : M226[x0]? = some (.inr (10, fs224)) := by rw [← h227]; exact gs_eq h222
  have h229 : fs224[0]? = some (.ref q5) := by rw [← h225]; exact (List.getElem?_set_ne (by decide : 28 ≠ 0)).trans h192
  have h230 : fs224[2]? = some (.ref q25) := by rw [← h225]; exact (List.getElem?_set_ne (by decide : 28 ≠ 2)).trans h193
  have h231 : fs224[4]? = some (.ref q44) := by rw [← h225]; exact (List.getElem?_set_ne (by decide : 28 ≠ 4)).trans h194
  have h232 : fs224[5]? = some (.ref q66) := by rw [← h225]; exact (List.getElem?_set_ne (by decide : 28 ≠ 5)).trans h195
  have h233 : fs224[6]? = some (.ref q91) := by rw [← h225]; exact (List.getElem?_set_ne (by decide : 28 ≠ 6)).trans h196
  have h234 : fs224[12]? = some (.ref q119) := by rw [← h225]; exact (List.getElem?_set_ne (by decide : 28 ≠ 12)).trans h197
  have h235 : fs224[14]? = some (.int (-1)) := by rw [← h225]; exact (List.getElem?_set_ne (by decide : 28 ≠ 14)).trans h198
  have h236 : fs224[23]? = some (.ref q164) := by rw [← h225]; exact (List.getElem?_set_ne (by decide : 28 ≠ 23)).trans h199
  have h237 : fs224[28]? = some (.ref q205) := by rw [← h225]; exact List.getElem?_set_self h223
  have h238 : 59 ≤ fs224.length := by rw [← h225, List.length_set]; exact h200
  refine g_aload_n ok d_Mo_init_78 rfl (j := 0) rfl ?_
  refine g_iconst (v := 5) ok d_Mo_init_79 (by decide) ?_
  refine g_newa (atype := .int) (ty := .int) (t := 0) (N := 5) (a0 := (5, .inl (fun _ => 0))) ok (List.mem_cons_of_mem _ (gT_at 83 (by decide +kernel) (by decide +kernel))) rfl rfl (fun _ => rfl) (fun _ => rfl) (by decide) (by decide) (by decide) d_Mo_init_80 h239 h240 h241 ?_
  rw [h244, h245]
  have h246 : M242[q243]? = some (.inl (0, 5, .inl (fun _ => 0))) := by rw [← h244, ← h245]; exact ga_new _ _
  have h247 : M204[q5]? = some (.inl (1, 144, .inr (.inl (fun _ => 0)))) := by rw [← h206]; exact ga_old h210
  have h248 : M226[q5]? = some (.inl (1, 144, .inr (.inl (fun _ => 0)))) := by rw [← h227]; exact (gs_ne (Ne.symm (ne_ao h247 h222))).trans h247
  have h249 : M204[q25]? = some (.inl (1, 144, .inr (.inl (fun _ => 0)))) := by rw [← h206]; exact ga_old h212
  have h250 : M226[q25]? = some (.inl (1, 144, .inr (.inl (fun _ => 0)))) := by rw [← h227]; exact (gs_ne (Ne.symm (ne_ao h249 h222))).trans h249
  have h251 : M204[q44]? = some (.inl (1, 2400, .inr (.inl (fun _ => 0)))) := by rw [← h206]; exact ga_old h214
  have h252 : M226[q44]? = some (.inl (1, 2400, .inr (.inl (fun _ => 0)))) := by rw [← h227]; exact (gs_ne (Ne.symm (ne_ao h251 h222))).trans h251
  have h253 : M204[q66]? = some (.inl (3, 800, .inl (fun _ => 0))) := by rw [← h206]; exact ga_old h216
  have h254 : M226[q66]? = some (.inl (3, 800, .inl (fun _ => 0))) := by rw [← h227]; exact (gs_ne (Ne.symm (ne_ao h253 h222))).trans h253
  have h255 : M204[q91]? = some (.inl (0, 800, .inl (fun _ => 0))) := by rw [← h206]; exact ga_old h218
  have h256 : M226[q91]? = some (.inl (0, 800, .inl (fun _ => 0))) := by rw [← h227]; exact (gs_ne (Ne.symm (ne_ao h255 h222))).trans h255
  have h257 : M204[q119]? = some (.inl (0, 160, .inl (fun _ => 0))) := by rw [← h206]; exact ga_old h220
  have h258 : M226[q119]? = some (.inl (0, 160, .inl (fun _ => 0))) := by rw [← h227]; exact (gs_ne (Ne.symm (ne_ao h257 h222))).trans h257
  have h259 : M204[q164]? = some (.inl (1, 6, .inr (.inl (fun _ => 0)))) := by rw [← h206]; exact ga_old h221
  have h260 : M226[q164]? = some (.inl (1, 6, .inr (.inl (fun _ => 0)))) := by rw [← h227]; exact (gs_ne (Ne.symm (ne_ao h259 h222))).trans h259
  have h261 : M226[q205]? = some (.inl (0, 5, .inl (fun _ => 0))) := by rw [← h227]; exact (gs_ne (Ne.symm (ne_ao h208 h222))).trans h208
  have h262 : M242[x0]? = some (.inr (10, fs224)) := by rw [← h244]; exact ga_old h228
  have h263 : 29 < fs224.length := Nat.lt_of_lt_of_le (by decide) h238
  refine pf_Mo_40 ok hin d_Mo_init_82 h262 h263 (fun _ => ⟨rfl, rfl⟩) ?_
  rw [h265]
  rw [h267]
  have h268 : M266[x0]? = some (.inr (10, fs264)) := by rw [← h267]; exact gs_eq h262
  have h269 : fs264[0]? = some (.ref q5) := by rw [← h265]; exact (List.getElem?_set_ne (by decide : 29 ≠ 0)).trans h229
  have h270 : fs264[2]? = some (.ref q25) := by rw [← h265]; exact (List.getElem?_set_ne (by decide : 29 ≠ 2)).trans h230
  have h271 : fs264[4]? = some (.ref q44) := by rw [← h265]; exact (List.getElem?_set_ne (by decide : 29 ≠ 4)).trans h231
  have h272 : fs264[5]? = some (.ref q66) := by rw [← h265]; exact (List.getElem?_set_ne (by decide : 29 ≠ 5)).trans h232
  have h273 : fs264[6]? = some (.ref q91) := by rw [← h265]; exact (List.getElem?_set_ne (by decide : 29 ≠ 6)).trans h233
  have h274 : fs264[12]? = some (.ref q119) := by rw [← h265]; exact (List.getElem?_set_ne (by decide : 29 ≠ 12)).trans h234
  have h275 : fs264[14]? = some (.int (-1)) := by rw [← h265]; exact (List.getElem?_set_ne (by decide : 29 ≠ 14)).trans h235
  have h276 : fs264[23]? = some (.ref q164) := by rw [← h265]; exact (List.getElem?_set_ne (by decide : 29 ≠ 23)).trans h236
  have h277 : fs264[28]? = some (.ref q205) := by rw [← h265]; exact (List.getElem?_set_ne (by decide : 29 ≠ 28)).trans h237
  have h278 : fs264[29]? = some (.ref q243) := by rw [← h265]; exact List.getElem?_set_self h263
  have h279 : 59 ≤ fs264.length := by rw [← h265, List.length_set]; exact h238
  refine g_aload_n ok d_Mo_init_85 rfl (j := 0) rfl ?_
  refine g_sipush (v := 400) ok d_Mo_init_86 (by decide) ?_
  refine g_newa (atype := .int) (ty := .int) (t := 0) (N := 400) (a0 := (400, .inl (fun _ => 0))) ok (List.mem_cons_of_mem _ (gT_at 83 (by decide +kernel) (by decide +kernel))) rfl rfl (fun _ => rfl) (fun _ => rfl) (by decide) (by decide) (by decide) d_Mo_init_89 h280 h281 h282 ?_
  rw [h285, h286]
  have h287 : M283[q284]? = some (.inl (0, 400, .inl (fun _ => 0))) := by rw [← h285, ← h286]; exact ga_new _ _
  have h288 : M242[q5]? = some (.inl (1, 144, .inr (.inl (fun _ => 0)))) := by rw [← h244]; exact ga_old h248
  have h289 : M266[q5]? = some (.inl (1, 144, .inr (.inl (fun _ => 0)))) := by rw [← h267]; exact (gs_ne (Ne.symm (ne_ao h288 h262))).trans h288
  have h290 : M242[q25]? = some (.inl (1, 144, .inr (.inl (fun _ => 0)))) := by rw [← h244]; exact ga_old h250
  have h291 : M266[q25]? = some (.inl (1, 144, .inr (.inl (fun _ => 0)))) := by rw [← h267]; exact (gs_ne (Ne.symm (ne_ao h290 h262))).trans h290
  have h292 : M242[q44]? = some (.inl (1, 2400, .inr (.inl (fun _ => 0)))) := by rw [← h244]; exact ga_old h252
  have h293 : M266[q44]? = some (.inl (1, 2400, .inr (.inl (fun _ => 0)))) := by rw [← h267]; exact (gs_ne (Ne.symm (ne_ao h292 h262))).trans h292
  have h294 : M242[q66]? = some (.inl (3, 800, .inl (fun _ => 0))) := by rw [← h244]; exact ga_old h254
  have h295 : M266[q66]? = some (.inl (3, 800, .inl (fun _ => 0))) := by rw [← h267]; exact (gs_ne (Ne.symm (ne_ao h294 h262))).trans h294
  have h296 : M242[q91]? = some (.inl (0, 800, .inl (fun _ => 0))) := by rw [← h244]; exact ga_old h256
  have h297 : M266[q91]? = some (.inl (0, 800, .inl (fun _ => 0))) := by rw [← h267]; exact (gs_ne (Ne.symm (ne_ao h296 h262))).trans h296
  have h298 : M242[q119]? = some (.inl (0, 160, .inl (fun _ => 0))) := by rw [← h244]; exact ga_old h258
  have h299 : M266[q119]? = some (.inl (0, 160, .inl (fun _ => 0))) := by rw [← h267]; exact (gs_ne (Ne.symm (ne_ao h298 h262))).trans h298
  have h300 : M242[q164]? = some (.inl (1, 6, .inr (.inl (fun _ => 0)))) := by rw [← h244]; exact ga_old h260
  have h301 : M266[q164]? = some (.inl (1, 6, .inr (.inl (fun _ => 0)))) := by rw [← h267]; exact (gs_ne (Ne.symm (ne_ao h300 h262))).trans h300
  have h302 : M242[q205]? = some (.inl (0, 5, .inl (fun _ => 0))) := by rw [← h244]; exact ga_old h261
  have h303 : M266[q205]? = some (.inl (0, 5, .inl (fun _ => 0))) := by rw [← h267]; exact (gs_ne (Ne.symm (ne_ao h302 h262))).trans h302
  have h304 : M266[q243]? = some (.inl (0, 5, .inl (fun _ => 0))) := by rw [← h267]; exact (gs_ne (Ne.symm (ne_ao h246 h262))).trans h246
  have h305 : M283[x0]? = some (.inr (10, fs264)) := by rw [← h285]; exact ga_old h268
  have h306 : 30 < fs264.length := Nat.lt_of_lt_of_le (by decide) h279
  refine pf_Mo_43 ok hin d_Mo_init_91 h305 h306 (fun _ => ⟨rfl, rfl⟩) ?_
  rw [h308]
  rw [h310]
  have h311 : M309[x0]? = some (.inr (10, fs307)) := by rw [← h310]; exact gs_eq h305
  have h312 : fs307[0]? = some (.ref q5) := by rw [← h308]; exact (List.getElem?_set_ne (by decide : 30 ≠ 0)).trans h269
  have h313 : fs307[2]? = some (.ref q25) := by rw [← h308]; exact (List.getElem?_set_ne (by decide : 30 ≠ 2)).trans h270
  have h314 : fs307[4]? = some (.ref q44) := by rw [← h308]; exact (List.getElem?_set_ne (by decide : 30 ≠ 4)).trans h271
  have h315 : fs307[5]? = some (.ref q66) := by rw [← h308]; exact (List.getElem?_set_ne (by decide : 30 ≠ 5)).trans h272
  have h316 : fs307[6]? = some (.ref q91) := by rw [← h308]; exact (List.getElem?_set_ne (by decide : 30 ≠ 6)).trans h273
  have h317 : fs307[12]? = some (.ref q119) := by rw [← h308]; exact (List.getElem?_set_ne (by decide : 30 ≠ 12)).trans h274
  have h318 : fs307[14]? = some (.int (-1)) := by rw [← h308]; exact (List.getElem?_set_ne (by decide : 30 ≠ 14)).trans h275
  have h319 : fs307[23]? = some (.ref q164) := by rw [← h308]; exact (List.getElem?_set_ne (by decide : 30 ≠ 23)).trans h276
  have h320 : fs307[28]? = some (.ref q205) := by rw [← h308]; exact (List.getElem?_set_ne (by decide : 30 ≠ 28)).trans h277
  have h321 : fs307[29]? = some (.ref q243) := by rw [← h308]; exact (List.getElem?_set_ne (by decide : 30 ≠ 29)).trans h278
  have h322 : fs307[30]? = some (.ref q284) := by rw [← h308]; exact List.getElem?_set_self h306
  have h323 : 59 ≤ fs307.length := by rw [← h308, List.length_set]; exact h279
  refine g_aload_n ok d_Mo_init_94 rfl (j := 0) rfl ?_
  refine g_sipush (v := 400) ok d_Mo_init_95 (by decide) ?_
  refine g_newa (atype := .int) (ty := .int) (t := 0) (N := 400) (a0 := (400, .inl (fun _ => 0))) ok (List.mem_cons_of_mem _ (gT_at 83 (by decide +kernel) (by decide +kernel))) rfl rfl (fun _ => rfl) (fun _ => rfl) (by decide) (by decide) (by decide) d_Mo_init_98 h324 h325 h326 ?_
  rw [h329, h330]
  have h331 : M327[q328]? = some (.inl (0, 400, .inl (fun _ => 0))) := by rw [← h329, ← h330]; exact ga_new _ _
  have h332 : M283[q5]? = some (.inl (1, 144, .inr (.inl (fun _ => 0)))) := by rw [← h285]; exact ga_old h289
  have h333 : M309[q5]? = some (.inl (1, 144, .inr (.inl (fun _ => 0)))) := by rw [← h310]; exact (gs_ne (Ne.symm (ne_ao h332 h305))).trans h332
  have h334 : M283[q25]? = some (.inl (1, 144, .inr (.inl (fun _ => 0)))) := by rw [← h285]; exact ga_old h291
  have h335 : M309[q25]? = some (.inl (1, 144, .inr (.inl (fun _ => 0)))) := by rw [← h310]; exact (gs_ne (Ne.symm (ne_ao h334 h305))).trans h334
  have h336 : M283[q44]? = some (.inl (1, 2400, .inr (.inl (fun _ => 0)))) := by rw [← h285]; exact ga_old h293
  have h337 : M309[q44]? = some (.inl (1, 2400, .inr (.inl (fun _ => 0)))) := by rw [← h310]; exact (gs_ne (Ne.symm (ne_ao h336 h305))).trans h336
  have h338 : M283[q66]? = some (.inl (3, 800, .inl (fun _ => 0))) := by rw [← h285]; exact ga_old h295
  have h339 : M309[q66]? = some (.inl (3, 800, .inl (fun _ => 0))) := by rw [← h310]; exact (gs_ne (Ne.symm (ne_ao h338 h305))).trans h338
  have h340 : M283[q91]? = some (.inl (0, 800, .inl (fun _ => 0))) := by rw [← h285]; exact ga_old h297
  have h341 : M309[q91]? = some (.inl (0, 800, .inl (fun _ => 0))) := by rw [← h310]; exact (gs_ne (Ne.symm (ne_ao h340 h305))).trans h340
  have h342 : M283[q119]? = some (.inl (0, 160, .inl (fun _ => 0))) := by rw [← h285]; exact ga_old h299
  have h343 : M309[q119]? = some (.inl (0, 160, .inl (fun _ => 0))) := by rw [← h310]; exact (gs_ne (Ne.symm (ne_ao h342 h305))).trans h342
  have h344 : M283[q164]? = some (.inl (1, 6, .inr (.inl (fun _ => 0)))) := by rw [← h285]; exact ga_old h301
  have h345 : M309[q164]? = some (.inl (1, 6, .inr (.inl (fun _ => 0)))) := by rw [← h310]; exact (gs_ne (Ne.symm (ne_ao h344 h305))).trans h344
  have h346 : M283[q205]? = some (.inl (0, 5, .inl (fun _ => 0))) := by rw [← h285]; exact ga_old h303
  have h347 : M309[q205]? = some (.inl (0, 5, .inl (fun _ => 0))) := by rw [← h310]; exact (gs_ne (Ne.symm (ne_ao h346 h305))).trans h346
  have h348 : M283[q243]? = some (.inl (0, 5, .inl (fun _ => 0))) := by rw [← h285]; exact ga_old h304
  have h349 : M309[q243]? = some (.inl (0, 5, .inl (fun _ => 0))) := by rw [← h310]; exact (gs_ne (Ne.symm (ne_ao h348 h305))).trans h348
  have h350 : M309[q284]? = some (.inl (0, 400, .inl (fun _ => 0))) := by rw [← h310]; exact (gs_ne (Ne.symm (ne_ao h287 h305))).trans h287
  have h351 : M327[x0]? = some (.inr (10, fs307)) := by rw [← h329]; exact ga_old h311
  have h352 : 31 < fs307.length := Nat.lt_of_lt_of_le (by decide) h323
  refine pf_Mo_46 ok hin d_Mo_init_100 h351 h352 (fun _ => ⟨rfl, rfl⟩) ?_
  rw [h354]
  rw [h356]
  have h357 : M355[x0]? = some (.inr (10, fs353)) := by rw [← h356]; exact gs_eq h351
  have h358 : fs353[0]? = some (.ref q5) := by rw [← h354]; exact (List.getElem?_set_ne (by decide : 31 ≠ 0)).trans h312
  have h359 : fs353[2]? = some (.ref q25) := by rw [← h354]; exact (List.getElem?_set_ne (by decide : 31 ≠ 2)).trans h313
  have h360 : fs353[4]? = some (.ref q44) := by rw [← h354]; exact (List.getElem?_set_ne (by decide : 31 ≠ 4)).trans h314
  have h361 : fs353[5]? = some (.ref q66) := by rw [← h354]; exact (List.getElem?_set_ne (by decide : 31 ≠ 5)).trans h315
  have h362 : fs353[6]? = some (.ref q91) := by rw [← h354]; exact (List.getElem?_set_ne (by decide : 31 ≠ 6)).trans h316
  have h363 : fs353[12]? = some (.ref q119) := by rw [← h354]; exact (List.getElem?_set_ne (by decide : 31 ≠ 12)).trans h317
  have h364 : fs353[14]? = some (.int (-1)) := by rw [← h354]; exact (List.getElem?_set_ne (by decide : 31 ≠ 14)).trans h318
  have h365 : fs353[23]? = some (.ref q164) := by rw [← h354]; exact (List.getElem?_set_ne (by decide : 31 ≠ 23)).trans h319
  have h366 : fs353[28]? = some (.ref q205) := by rw [← h354]; exact (List.getElem?_set_ne (by decide : 31 ≠ 28)).trans h320
  have h367 : fs353[29]? = some (.ref q243) := by rw [← h354]; exact (List.getElem?_set_ne (by decide : 31 ≠ 29)).trans h321
  have h368 : fs353[30]? = some (.ref q284) := by rw [← h354]; exact (List.getElem?_set_ne (by decide : 31 ≠ 30)).trans h322
  have h369 : fs353[31]? = some (.ref q328) := by rw [← h354]; exact List.getElem?_set_self h352
  have h370 : 59 ≤ fs353.length := by rw [← h354, List.length_set]; exact h323
  refine g_aload_n ok d_Mo_init_103 rfl (j := 0) rfl ?_
  refine g_bipush (v := 120) ok d_Mo_init_104 (by decide) ?_
  refine g_newa (atype := .int) (ty := .int) (t := 0) (N := 120) (a0 := (120, .inl (fun _ => 0))) ok (List.mem_cons_of_mem _ (gT_at 83 (by decide +kernel) (by decide +kernel))) rfl rfl (fun _ => rfl) (fun _ => rfl) (by decide) (by decide) (by decide) d_Mo_init_106 h371 h372 h373 ?_
  rw [h376, h377]
  have h378 : M374[q375]? = some (.inl (0, 120, .inl (fun _ => 0))) := by rw [← h376, ← h377]; exact ga_new _ _
  have h379 : M327[q5]? = some (.inl (1, 144, .inr (.inl (fun _ => 0)))) := by rw [← h329]; exact ga_old h333
  have h380 : M355[q5]? = some (.inl (1, 144, .inr (.inl (fun _ => 0)))) := by rw [← h356]; exact (gs_ne (Ne.symm (ne_ao h379 h351))).trans h379
  have h381 : M327[q25]? = some (.inl (1, 144, .inr (.inl (fun _ => 0)))) := by rw [← h329]; exact ga_old h335
  have h382 : M355[q25]? = some (.inl (1, 144, .inr (.inl (fun _ => 0)))) := by rw [← h356]; exact (gs_ne (Ne.symm (ne_ao h381 h351))).trans h381
  have h383 : M327[q44]? = some (.inl (1, 2400, .inr (.inl (fun _ => 0)))) := by rw [← h329]; exact ga_old h337
  have h384 : M355[q44]? = some (.inl (1, 2400, .inr (.inl (fun _ => 0)))) := by rw [← h356]; exact (gs_ne (Ne.symm (ne_ao h383 h351))).trans h383
  have h385 : M327[q66]? = some (.inl (3, 800, .inl (fun _ => 0))) := by rw [← h329]; exact ga_old h339
  have h386 : M355[q66]? = some (.inl (3, 800, .inl (fun _ => 0))) := by rw [← h356]; exact (gs_ne (Ne.symm (ne_ao h385 h351))).trans h385
  have h387 : M327[q91]? = some (.inl (0, 800, .inl (fun _ => 0))) := by rw [← h329]; exact ga_old h341
  have h388 : M355[q91]? = some (.inl (0, 800, .inl (fun _ => 0))) := by rw [← h356]; exact (gs_ne (Ne.symm (ne_ao h387 h351))).trans h387
  have h389 : M327[q119]? = some (.inl (0, 160, .inl (fun _ => 0))) := by rw [← h329]; exact ga_old h343
  have h390 : M355[q119]? = some (.inl (0, 160, .inl (fun _ => 0))) := by rw [← h356]; exact (gs_ne (Ne.symm (ne_ao h389 h351))).trans h389
  have h391 : M327[q164]? = some (.inl (1, 6, .inr (.inl (fun _ => 0)))) := by rw [← h329]; exact ga_old h345
  have h392 : M355[q164]? = some (.inl (1, 6, .inr (.inl (fun _ => 0)))) := by rw [← h356]; exact (gs_ne (Ne.symm (ne_ao h391 h351))).trans h391
  have h393 : M327[q205]? = some (.inl (0, 5, .inl (fun _ => 0))) := by rw [← h329]; exact ga_old h347
  have h394 : M355[q205]? = some (.inl (0, 5, .inl (fun _ => 0))) := by rw [← h356]; exact (gs_ne (Ne.symm (ne_ao h393 h351))).trans h393
  have h395 : M327[q243]? = some (.inl (0, 5, .inl (fun _ => 0))) := by rw [← h329]; exact ga_old h349
  have h396 : M355[q243]? = some (.inl (0, 5, .inl (fun _ => 0))) := by rw [← h356]; exact (gs_ne (Ne.symm (ne_ao h395 h351))).trans h395
  have h397 : M327[q284]? = some (.inl (0, 400, .inl (fun _ => 0))) := by rw [← h329]; exact ga_old h350
  have h398 : M355[q284]? = some (.inl (0, 400, .inl (fun _ => 0))) := by rw [← h356]; exact (gs_ne (Ne.symm (ne_ao h397 h351))).trans h397
  have h399 : M355[q328]? = some (.inl (0, 400, .inl (fun _ => 0))) := by rw [← h356]; exact (gs_ne (Ne.symm (ne_ao h331 h351))).trans h331
  have h400 : M374[x0]? = some (.inr (10, fs353)) := by rw [← h376]; exact ga_old h357
  have h401 : 33 < fs353.length := Nat.lt_of_lt_of_le (by decide) h370
  refine pf_Mo_49 ok hin d_Mo_init_108 h400 h401 (fun _ => ⟨rfl, rfl⟩) ?_
  rw [h403]
  rw [h405]
  have h406 : M404[x0]? = some (.inr (10, fs402)) := by rw [← h405]; exact gs_eq h400
  have h407 : fs402[0]? = some (.ref q5) := by rw [← h403]; exact (List.getElem?_set_ne (by decide : 33 ≠ 0)).trans h358
  have h408 : fs402[2]? = some (.ref q25) := by rw [← h403]; exact (List.getElem?_set_ne (by decide : 33 ≠ 2)).trans h359
  have h409 : fs402[4]? = some (.ref q44) := by rw [← h403]; exact (List.getElem?_set_ne (by decide : 33 ≠ 4)).trans h360
  have h410 : fs402[5]? = some (.ref q66) := by rw [← h403]; exact (List.getElem?_set_ne (by decide : 33 ≠ 5)).trans h361
  have h411 : fs402[6]? = some (.ref q91) := by rw [← h403]; exact (List.getElem?_set_ne (by decide : 33 ≠ 6)).trans h362
  have h412 : fs402[12]? = some (.ref q119) := by rw [← h403]; exact (List.getElem?_set_ne (by decide : 33 ≠ 12)).trans h363
  have h413 : fs402[14]? = some (.int (-1)) := by rw [← h403]; exact (List.getElem?_set_ne (by decide : 33 ≠ 14)).trans h364
  have h414 : fs402[23]? = some (.ref q164) := by rw [← h403]; exact (List.getElem?_set_ne (by decide : 33 ≠ 23)).trans h365
  have h415 : fs402[28]? = some (.ref q205) := by rw [← h403]; exact (List.getElem?_set_ne (by decide : 33 ≠ 28)).trans h366
  have h416 : fs402[29]? = some (.ref q243) := by rw [← h403]; exact (List.getElem?_set_ne (by decide : 33 ≠ 29)).trans h367
  have h417 : fs402[30]? = some (.ref q284) := by rw [← h403]; exact (List.getElem?_set_ne (by decide : 33 ≠ 30)).trans h368
  have h418 : fs402[31]? = some (.ref q328) := by rw [← h403]; exact (List.getElem?_set_ne (by decide : 33 ≠ 31)).trans h369
  have h419 : fs402[33]? = some (.ref q375) := by rw [← h403]; exact List.getElem?_set_self h401
  have h420 : 59 ≤ fs402.length := by rw [← h403, List.length_set]; exact h370
  refine g_aload_n ok d_Mo_init_111 rfl (j := 0) rfl ?_
  refine g_bipush (v := 120) ok d_Mo_init_112 (by decide) ?_
  refine g_newa (atype := .long) (ty := .long) (t := 1) (N := 120) (a0 := (120, .inr (.inl (fun _ => 0)))) ok (List.mem_cons_of_mem _ (gT_at 56 (by decide +kernel) (by decide +kernel))) rfl rfl (fun _ => rfl) (fun _ => rfl) (by decide) (by decide) (by decide) d_Mo_init_114 h421 h422 h423 ?_
  rw [h426, h427]
  have h428 : M424[q425]? = some (.inl (1, 120, .inr (.inl (fun _ => 0)))) := by rw [← h426, ← h427]; exact ga_new _ _
  have h429 : M374[q5]? = some (.inl (1, 144, .inr (.inl (fun _ => 0)))) := by rw [← h376]; exact ga_old h380
  have h430 : M404[q5]? = some (.inl (1, 144, .inr (.inl (fun _ => 0)))) := by rw [← h405]; exact (gs_ne (Ne.symm (ne_ao h429 h400))).trans h429
  have h431 : M374[q25]? = some (.inl (1, 144, .inr (.inl (fun _ => 0)))) := by rw [← h376]; exact ga_old h382
  have h432 : M404[q25]? = some (.inl (1, 144, .inr (.inl (fun _ => 0)))) := by rw [← h405]; exact (gs_ne (Ne.symm (ne_ao h431 h400))).trans h431
  have h433 : M374[q44]? = some (.inl (1, 2400, .inr (.inl (fun _ => 0)))) := by rw [← h376]; exact ga_old h384
  have h434 : M404[q44]? = some (.inl (1, 2400, .inr (.inl (fun _ => 0)))) := by rw [← h405]; exact (gs_ne (Ne.symm (ne_ao h433 h400))).trans h433
  have h435 : M374[q66]? = some (.inl (3, 800, .inl (fun _ => 0))) := by rw [← h376]; exact ga_old h386
  have h436 : M404[q66]? = some (.inl (3, 800, .inl (fun _ => 0))) := by rw [← h405]; exact (gs_ne (Ne.symm (ne_ao h435 h400))).trans h435
  have h437 : M374[q91]? = some (.inl (0, 800, .inl (fun _ => 0))) := by rw [← h376]; exact ga_old h388
  have h438 : M404[q91]? = some (.inl (0, 800, .inl (fun _ => 0))) := by rw [← h405]; exact (gs_ne (Ne.symm (ne_ao h437 h400))).trans h437
  have h439 : M374[q119]? = some (.inl (0, 160, .inl (fun _ => 0))) := by rw [← h376]; exact ga_old h390
  have h440 : M404[q119]? = some (.inl (0, 160, .inl (fun _ => 0))) := by rw [← h405]; exact (gs_ne (Ne.symm (ne_ao h439 h400))).trans h439
  have h441 : M374[q164]? = some (.inl (1, 6, .inr (.inl (fun _ => 0)))) := by rw [← h376]; exact ga_old h392
  have h442 : M404[q164]? = some (.inl (1, 6, .inr (.inl (fun _ => 0)))) := by rw [← h405]; exact (gs_ne (Ne.symm (ne_ao h441 h400))).trans h441
  have h443 : M374[q205]? = some (.inl (0, 5, .inl (fun _ => 0))) := by rw [← h376]; exact ga_old h394
  have h444 : M404[q205]? = some (.inl (0, 5, .inl (fun _ => 0))) := by rw [← h405]; exact (gs_ne (Ne.symm (ne_ao h443 h400))).trans h443
  have h445 : M374[q243]? = some (.inl (0, 5, .inl (fun _ => 0))) := by rw [← h376]; exact ga_old h396
  have h446 : M404[q243]? = some (.inl (0, 5, .inl (fun _ => 0))) := by rw [← h405]; exact (gs_ne (Ne.symm (ne_ao h445 h400))).trans h445
  have h447 : M374[q284]? = some (.inl (0, 400, .inl (fun _ => 0))) := by rw [← h376]; exact ga_old h398
  have h448 : M404[q284]? = some (.inl (0, 400, .inl (fun _ => 0))) := by rw [← h405]; exact (gs_ne (Ne.symm (ne_ao h447 h400))).trans h447
  have h449 : M374[q328]? = some (.inl (0, 400, .inl (fun _ => 0))) := by rw [← h376]; exact ga_old h399
  have h450 : M404[q328]? = some (.inl (0, 400, .inl (fun _ => 0))) := by rw [← h405]; exact (gs_ne (Ne.symm (ne_ao h449 h400))).trans h449
  have h451 : M404[q375]? = some (.inl (0, 120, .inl (fun _ => 0))) := by rw [← h405]; exact (gs_ne (Ne.symm (ne_ao h378 h400))).trans h378
  have h452 : M424[x0]? = some (.inr (10, fs402)) := by rw [← h426]; exact ga_old h406
  have h453 : 34 < fs402.length := Nat.lt_of_lt_of_le (by decide) h420
  refine pf_Mo_52 ok hin d_Mo_init_116 h452 h453 (fun _ => ⟨rfl, rfl⟩) ?_
  rw [h455]
  rw [h457]
  have h458 : M456[x0]? = some (.inr (10, fs454)) := by rw [← h457]; exact gs_eq h452
  have h459 : fs454[0]? = some (.ref q5) := by rw [← h455]; exact (List.getElem?_set_ne (by decide : 34 ≠ 0)).trans h407
  have h460 : fs454[2]? = some (.ref q25) := by rw [← h455]; exact (List.getElem?_set_ne (by decide : 34 ≠ 2)).trans h408
  have h461 : fs454[4]? = some (.ref q44) := by rw [← h455]; exact (List.getElem?_set_ne (by decide : 34 ≠ 4)).trans h409
  have h462 : fs454[5]? = some (.ref q66) := by rw [← h455]; exact (List.getElem?_set_ne (by decide : 34 ≠ 5)).trans h410
  have h463 : fs454[6]? = some (.ref q91) := by rw [← h455]; exact (List.getElem?_set_ne (by decide : 34 ≠ 6)).trans h411
  have h464 : fs454[12]? = some (.ref q119) := by rw [← h455]; exact (List.getElem?_set_ne (by decide : 34 ≠ 12)).trans h412
  have h465 : fs454[14]? = some (.int (-1)) := by rw [← h455]; exact (List.getElem?_set_ne (by decide : 34 ≠ 14)).trans h413
  have h466 : fs454[23]? = some (.ref q164) := by rw [← h455]; exact (List.getElem?_set_ne (by decide : 34 ≠ 23)).trans h414
  have h467 : fs454[28]? = some (.ref q205) := by rw [← h455]; exact (List.getElem?_set_ne (by decide : 34 ≠ 28)).trans h415
  have h468 : fs454[29]? = some (.ref q243) := by rw [← h455]; exact (List.getElem?_set_ne (by decide : 34 ≠ 29)).trans h416
  have h469 : fs454[30]? = some (.ref q284) := by rw [← h455]; exact (List.getElem?_set_ne (by decide : 34 ≠ 30)).trans h417
  have h470 : fs454[31]? = some (.ref q328) := by rw [← h455]; exact (List.getElem?_set_ne (by decide : 34 ≠ 31)).trans h418
  have h471 : fs454[33]? = some (.ref q375) := by rw [← h455]; exact (List.getElem?_set_ne (by decide : 34 ≠ 33)).trans h419
  have h472 : fs454[34]? = some (.ref q425) := by rw [← h455]; exact List.getElem?_set_self h453
  have h473 : 59 ≤ fs454.length := by rw [← h455, List.length_set]; exact h420
  refine g_aload_n ok d_Mo_init_119 rfl (j := 0) rfl ?_
  refine g_bipush (v := 14) ok d_Mo_init_120 (by decide) ?_
  refine g_newa (atype := .int) (ty := .int) (t := 0) (N := 14) (a0 := (14, .inl (fun _ => 0))) ok (List.mem_cons_of_mem _ (gT_at 83 (by decide +kernel) (by decide +kernel))) rfl rfl (fun _ => rfl) (fun _ => rfl) (by decide) (by decide) (by decide) d_Mo_init_122 h474 h475 h476 ?_
  rw [h479, h480]
  have h481 : M477[q478]? = some (.inl (0, 14, .inl (fun _ => 0))) := by rw [← h479, ← h480]; exact ga_new _ _
  have h482 : M424[q5]? = some (.inl (1, 144, .inr (.inl (fun _ => 0)))) := by rw [← h426]; exact ga_old h430
  have h483 : M456[q5]? = some (.inl (1, 144, .inr (.inl (fun _ => 0)))) := by rw [← h457]; exact (gs_ne (Ne.symm (ne_ao h482 h452))).trans h482
  have h484 : M424[q25]? = some (.inl (1, 144, .inr (.inl (fun _ => 0)))) := by rw [← h426]; exact ga_old h432
  have h485 : M456[q25]? = some (.inl (1, 144, .inr (.inl (fun _ => 0)))) := by rw [← h457]; exact (gs_ne (Ne.symm (ne_ao h484 h452))).trans h484
  have h486 : M424[q44]? = some (.inl (1, 2400, .inr (.inl (fun _ => 0)))) := by rw [← h426]; exact ga_old h434
  have h487 : M456[q44]? = some (.inl (1, 2400, .inr (.inl (fun _ => 0)))) := by rw [← h457]; exact (gs_ne (Ne.symm (ne_ao h486 h452))).trans h486
  have h488 : M424[q66]? = some (.inl (3, 800, .inl (fun _ => 0))) := by rw [← h426]; exact ga_old h436
  have h489 : M456[q66]? = some (.inl (3, 800, .inl (fun _ => 0))) := by rw [← h457]; exact (gs_ne (Ne.symm (ne_ao h488 h452))).trans h488
  have h490 : M424[q91]? = some (.inl (0, 800, .inl (fun _ => 0))) := by rw [← h426]; exact ga_old h438
  have h491 : M456[q91]? = some (.inl (0, 800, .inl (fun _ => 0))) := by rw [← h457]; exact (gs_ne (Ne.symm (ne_ao h490 h452))).trans h490
  have h492 : M424[q119]? = some (.inl (0, 160, .inl (fun _ => 0))) := by rw [← h426]; exact ga_old h440
  have h493 : M456[q119]? = some (.inl (0, 160, .inl (fun _ => 0))) := by rw [← h457]; exact (gs_ne (Ne.symm (ne_ao h492 h452))).trans h492
  have h494 : M424[q164]? = some (.inl (1, 6, .inr (.inl (fun _ => 0)))) := by rw [← h426]; exact ga_old h442
  have h495 : M456[q164]? = some (.inl (1, 6, .inr (.inl (fun _ => 0)))) := by rw [← h457]; exact (gs_ne (Ne.symm (ne_ao h494 h452))).trans h494
  have h496 : M424[q205]? = some (.inl (0, 5, .inl (fun _ => 0))) := by rw [← h426]; exact ga_old h444
  have h497 : M456[q205]? = some (.inl (0, 5, .inl (fun _ => 0))) := by rw [← h457]; exact (gs_ne (Ne.symm (ne_ao h496 h452))).trans h496
  have h498 : M424[q243]? = some (.inl (0, 5, .inl (fun _ => 0))) := by rw [← h426]; exact ga_old h446
  have h499 : M456[q243]? = some (.inl (0, 5, .inl (fun _ => 0))) := by rw [← h457]; exact (gs_ne (Ne.symm (ne_ao h498 h452))).trans h498
  have h500 : M424[q284]? = some (.inl (0, 400, .inl (fun _ => 0))) := by rw [← h426]; exact ga_old h448
  have h501 : M456[q284]? = some (.inl (0, 400, .inl (fun _ => 0))) := by rw [← h457]; exact (gs_ne (Ne.symm (ne_ao h500 h452))).trans h500
  have h502 : M424[q328]? = some (.inl (0, 400, .inl (fun _ => 0))) := by rw [← h426]; exact ga_old h450
  have h503 : M456[q328]? = some (.inl (0, 400, .inl (fun _ => 0))) := by rw [← h457]; exact (gs_ne (Ne.symm (ne_ao h502 h452))).trans h502
  have h504 : M424[q375]? = some (.inl (0, 120, .inl (fun _ => 0))) := by rw [← h426]; exact ga_old h451
  have h505 : M456[q375]? = some (.inl (0, 120, .inl (fun _ => 0))) := by rw [← h457]; exact (gs_ne (Ne.symm (ne_ao h504 h452))).trans h504
  have h506 : M456[q425]? = some (.inl (1, 120, .inr (.inl (fun _ => 0)))) := by rw [← h457]; exact (gs_ne (Ne.symm (ne_ao h428 h452))).trans h428
  have h507 : M477[x0]? = some (.inr (10, fs454)) := by rw [← h479]; exact ga_old h458
  have h508 : 36 < fs454.length := Nat.lt_of_lt_of_le (by decide) h473
  refine pf_Mo_55 ok hin d_Mo_init_124 h507 h508 (fun _ => ⟨rfl, rfl⟩) ?_
  rw [h510]
  rw [h512]
  have h513 : M511[x0]? = some (.inr (10, fs509)) := by rw [← h512]; exact gs_eq h507
  have h514 : fs509[0]? = some (.ref q5) := by rw [← h510]; exact (List.getElem?_set_ne (by decide : 36 ≠ 0)).trans h459
  have h515 : fs509[2]? = some (.ref q25) := by rw [← h510]; exact (List.getElem?_set_ne (by decide : 36 ≠ 2)).trans h460
  have h516 : fs509[4]? = some (.ref q44) := by rw [← h510]; exact (List.getElem?_set_ne (by decide : 36 ≠ 4)).trans h461
  have h517 : fs509[5]? = some (.ref q66) := by rw [← h510]; exact (List.getElem?_set_ne (by decide : 36 ≠ 5)).trans h462
  have h518 : fs509[6]? = some (.ref q91) := by rw [← h510]; exact (List.getElem?_set_ne (by decide : 36 ≠ 6)).trans h463
  have h519 : fs509[12]? = some (.ref q119) := by rw [← h510]; exact (List.getElem?_set_ne (by decide : 36 ≠ 12)).trans h464
  have h520 : fs509[14]? = some (.int (-1)) := by rw [← h510]; exact (List.getElem?_set_ne (by decide : 36 ≠ 14)).trans h465
  have h521 : fs509[23]? = some (.ref q164) := by rw [← h510]; exact (List.getElem?_set_ne (by decide : 36 ≠ 23)).trans h466
  have h522 : fs509[28]? = some (.ref q205) := by rw [← h510]; exact (List.getElem?_set_ne (by decide : 36 ≠ 28)).trans h467
  have h523 : fs509[29]? = some (.ref q243) := by rw [← h510]; exact (List.getElem?_set_ne (by decide : 36 ≠ 29)).trans h468
  have h524 : fs509[30]? = some (.ref q284) := by rw [← h510]; exact (List.getElem?_set_ne (by decide : 36 ≠ 30)).trans h469
  have h525 : fs509[31]? = some (.ref q328) := by rw [← h510]; exact (List.getElem?_set_ne (by decide : 36 ≠ 31)).trans h470
  have h526 : fs509[33]? = some (.ref q375) := by rw [← h510]; exact (List.getElem?_set_ne (by decide : 36 ≠ 33)).trans h471
  have h527 : fs509[34]? = some (.ref q425) := by rw [← h510]; exact (List.getElem?_set_ne (by decide : 36 ≠ 34)).trans h472
  have h528 : fs509[36]? = some (.ref q478) := by rw [← h510]; exact List.getElem?_set_self h508
  have h529 : 59 ≤ fs509.length := by rw [← h510, List.length_set]; exact h473
  refine g_aload_n ok d_Mo_init_127 rfl (j := 0) rfl ?_
  refine g_bipush (v := 14) ok d_Mo_init_128 (by decide) ?_
  refine g_newa (atype := .int) (ty := .int) (t := 0) (N := 14) (a0 := (14, .inl (fun _ => 0))) ok (List.mem_cons_of_mem _ (gT_at 83 (by decide +kernel) (by decide +kernel))) rfl rfl (fun _ => rfl) (fun _ => rfl) (by decide) (by decide) (by decide) d_Mo_init_130 h530 h531 h532 ?_
  rw [h535, h536]
  have h537 : M533[q534]? = some (.inl (0, 14, .inl (fun _ => 0))) := by rw [← h535, ← h536]; exact ga_new _ _
  have h538 : M477[q5]? = some (.inl (1, 144, .inr (.inl (fun _ => 0)))) := by rw [← h479]; exact ga_old h483
  have h539 : M511[q5]? = some (.inl (1, 144, .inr (.inl (fun _ => 0)))) := by rw [← h512]; exact (gs_ne (Ne.symm (ne_ao h538 h507))).trans h538
  have h540 : M477[q25]? = some (.inl (1, 144, .inr (.inl (fun _ => 0)))) := by rw [← h479]; exact ga_old h485
  have h541 : M511[q25]? = some (.inl (1, 144, .inr (.inl (fun _ => 0)))) := by rw [← h512]; exact (gs_ne (Ne.symm (ne_ao h540 h507))).trans h540
  have h542 : M477[q44]? = some (.inl (1, 2400, .inr (.inl (fun _ => 0)))) := by rw [← h479]; exact ga_old h487
  have h543 : M511[q44]? = some (.inl (1, 2400, .inr (.inl (fun _ => 0)))) := by rw [← h512]; exact (gs_ne (Ne.symm (ne_ao h542 h507))).trans h542
  have h544 : M477[q66]? = some (.inl (3, 800, .inl (fun _ => 0))) := by rw [← h479]; exact ga_old h489
  have h545 : M511[q66]? = some (.inl (3, 800, .inl (fun _ => 0))) := by rw [← h512]; exact (gs_ne (Ne.symm (ne_ao h544 h507))).trans h544
  have h546 : M477[q91]? = some (.inl (0, 800, .inl (fun _ => 0))) := by rw [← h479]; exact ga_old h491
  have h547 : M511[q91]? = some (.inl (0, 800, .inl (fun _ => 0))) := by rw [← h512]; exact (gs_ne (Ne.symm (ne_ao h546 h507))).trans h546
  have h548 : M477[q119]? = some (.inl (0, 160, .inl (fun _ => 0))) := by rw [← h479]; exact ga_old h493
  have h549 : M511[q119]? = some (.inl (0, 160, .inl (fun _ => 0))) := by rw [← h512]; exact (gs_ne (Ne.symm (ne_ao h548 h507))).trans h548
  have h550 : M477[q164]? = some (.inl (1, 6, .inr (.inl (fun _ => 0)))) := by rw [← h479]; exact ga_old h495
  have h551 : M511[q164]? = some (.inl (1, 6, .inr (.inl (fun _ => 0)))) := by rw [← h512]; exact (gs_ne (Ne.symm (ne_ao h550 h507))).trans h550
  have h552 : M477[q205]? = some (.inl (0, 5, .inl (fun _ => 0))) := by rw [← h479]; exact ga_old h497
  have h553 : M511[q205]? = some (.inl (0, 5, .inl (fun _ => 0))) := by rw [← h512]; exact (gs_ne (Ne.symm (ne_ao h552 h507))).trans h552
  have h554 : M477[q243]? = some (.inl (0, 5, .inl (fun _ => 0))) := by rw [← h479]; exact ga_old h499
  have h555 : M511[q243]? = some (.inl (0, 5, .inl (fun _ => 0))) := by rw [← h512]; exact (gs_ne (Ne.symm (ne_ao h554 h507))).trans h554
  have h556 : M477[q284]? = some (.inl (0, 400, .inl (fun _ => 0))) := by rw [← h479]; exact ga_old h501
  have h557 : M511[q284]? = some (.inl (0, 400, .inl (fun _ => 0))) := by rw [← h512]; exact (gs_ne (Ne.symm (ne_ao h556 h507))).trans h556
  have h558 : M477[q328]? = some (.inl (0, 400, .inl (fun _ => 0))) := by rw [← h479]; exact ga_old h503
  have h559 : M511[q328]? = some (.inl (0, 400, .inl (fun _ => 0))) := by rw [← h512]; exact (gs_ne (Ne.symm (ne_ao h558 h507))).trans h558
  have h560 : M477[q375]? = some (.inl (0, 120, .inl (fun _ => 0))) := by rw [← h479]; exact ga_old h505
  have h561 : M511[q375]? = some (.inl (0, 120, .inl (fun _ => 0))) := by rw [← h512]; exact (gs_ne (Ne.symm (ne_ao h560 h507))).trans h560
  have h562 : M477[q425]? = some (.inl (1, 120, .inr (.inl (fun _ => 0)))) := by rw [← h479]; exact ga_old h506
  have h563 : M511[q425]? = some (.inl (1, 120, .inr (.inl (fun _ => 0)))) := by rw [← h512]; exact (gs_ne (Ne.symm (ne_ao h562 h507))).trans h562
  have h564 : M511[q478]? = some (.inl (0, 14, .inl (fun _ => 0))) := by rw [← h512]; exact (gs_ne (Ne.symm (ne_ao h481 h507))).trans h481
  have h565 : M533[x0]? = some (.inr (10, fs509)) := by rw [← h535]; exact ga_old h513
  have h566 : 37 < fs509.length := Nat.lt_of_lt_of_le (by decide) h529
  refine pf_Mo_58 ok hin d_Mo_init_132 h565 h566 (fun _ => ⟨rfl, rfl⟩) ?_
  rw [h568]
  rw [h570]
  have h571 : M569[x0]? = some (.inr (10, fs567)) := by rw [← h570]; exact gs_eq h565
  have h572 : fs567[0]? = some (.ref q5) := by rw [← h568]; exact (List.getElem?_set_ne (by decide : 37 ≠ 0)).trans h514
  have h573 : fs567[2]? = some (.ref q25) := by rw [← h568]; exact (List.getElem?_set_ne (by decide : 37 ≠ 2)).trans h515
  have h574 : fs567[4]? = some (.ref q44) := by rw [← h568]; exact (List.getElem?_set_ne (by decide : 37 ≠ 4)).trans h516
  have h575 : fs567[5]? = some (.ref q66) := by rw [← h568]; exact (List.getElem?_set_ne (by decide : 37 ≠ 5)).trans h517
  have h576 : fs567[6]? = some (.ref q91) := by rw [← h568]; exact (List.getElem?_set_ne (by decide : 37 ≠ 6)).trans h518
  have h577 : fs567[12]? = some (.ref q119) := by rw [← h568]; exact (List.getElem?_set_ne (by decide : 37 ≠ 12)).trans h519
  have h578 : fs567[14]? = some (.int (-1)) := by rw [← h568]; exact (List.getElem?_set_ne (by decide : 37 ≠ 14)).trans h520
  have h579 : fs567[23]? = some (.ref q164) := by rw [← h568]; exact (List.getElem?_set_ne (by decide : 37 ≠ 23)).trans h521
  have h580 : fs567[28]? = some (.ref q205) := by rw [← h568]; exact (List.getElem?_set_ne (by decide : 37 ≠ 28)).trans h522
  have h581 : fs567[29]? = some (.ref q243) := by rw [← h568]; exact (List.getElem?_set_ne (by decide : 37 ≠ 29)).trans h523
  have h582 : fs567[30]? = some (.ref q284) := by rw [← h568]; exact (List.getElem?_set_ne (by decide : 37 ≠ 30)).trans h524
  have h583 : fs567[31]? = some (.ref q328) := by rw [← h568]; exact (List.getElem?_set_ne (by decide : 37 ≠ 31)).trans h525
  have h584 : fs567[33]? = some (.ref q375) := by rw [← h568]; exact (List.getElem?_set_ne (by decide : 37 ≠ 33)).trans h526
  have h585 : fs567[34]? = some (.ref q425) := by rw [← h568]; exact (List.getElem?_set_ne (by decide : 37 ≠ 34)).trans h527
  have h586 : fs567[36]? = some (.ref q478) := by rw [← h568]; exact (List.getElem?_set_ne (by decide : 37 ≠ 36)).trans h528
  have h587 : fs567[37]? = some (.ref q534) := by rw [← h568]; exact List.getElem?_set_self h566
  have h588 : 59 ≤ fs567.length := by rw [← h568, List.length_set]; exact h529
  refine g_aload_n ok d_Mo_init_135 rfl (j := 0) rfl ?_
  refine g_bipush (v := 14) ok d_Mo_init_136 (by decide) ?_
  refine g_newa (atype := .boolean) (ty := .boolean) (t := 3) (N := 14) (a0 := (14, .inl (fun _ => 0))) ok (List.mem_cons_of_mem _ (gT_at 82 (by decide +kernel) (by decide +kernel))) rfl rfl (fun _ => rfl) (fun _ => rfl) (by decide) (by decide) (by decide) d_Mo_init_138 h589 h590 h591 ?_
  rw [h594, h595]
  have h596 : M592[q593]? = some (.inl (3, 14, .inl (fun _ => 0))) := by rw [← h594, ← h595]; exact ga_new _ _
  have h597 : M533[q5]? = some (.inl (1, 144, .inr (.inl (fun _ => 0)))) := by rw [← h535]; exact ga_old h539
  have h598 : M569[q5]? = some (.inl (1, 144, .inr (.inl (fun _ => 0)))) := by rw [← h570]; exact (gs_ne (Ne.symm (ne_ao h597 h565))).trans h597
  have h599 : M533[q25]? = some (.inl (1, 144, .inr (.inl (fun _ => 0)))) := by rw [← h535]; exact ga_old h541
  have h600 : M569[q25]? = some (.inl (1, 144, .inr (.inl (fun _ => 0)))) := by rw [← h570]; exact (gs_ne (Ne.symm (ne_ao h599 h565))).trans h599
  have h601 : M533[q44]? = some (.inl (1, 2400, .inr (.inl (fun _ => 0)))) := by rw [← h535]; exact ga_old h543
  have h602 : M569[q44]? = some (.inl (1, 2400, .inr (.inl (fun _ => 0)))) := by rw [← h570]; exact (gs_ne (Ne.symm (ne_ao h601 h565))).trans h601
  have h603 : M533[q66]? = some (.inl (3, 800, .inl (fun _ => 0))) := by rw [← h535]; exact ga_old h545
  have h604 : M569[q66]? = some (.inl (3, 800, .inl (fun _ => 0))) := by rw [← h570]; exact (gs_ne (Ne.symm (ne_ao h603 h565))).trans h603
  have h605 : M533[q91]? = some (.inl (0, 800, .inl (fun _ => 0))) := by rw [← h535]; exact ga_old h547
  have h606 : M569[q91]? = some (.inl (0, 800, .inl (fun _ => 0))) := by rw [← h570]; exact (gs_ne (Ne.symm (ne_ao h605 h565))).trans h605
  have h607 : M533[q119]? = some (.inl (0, 160, .inl (fun _ => 0))) := by rw [← h535]; exact ga_old h549
  have h608 : M569[q119]? = some (.inl (0, 160, .inl (fun _ => 0))) := by rw [← h570]; exact (gs_ne (Ne.symm (ne_ao h607 h565))).trans h607
  have h609 : M533[q164]? = some (.inl (1, 6, .inr (.inl (fun _ => 0)))) := by rw [← h535]; exact ga_old h551
  have h610 : M569[q164]? = some (.inl (1, 6, .inr (.inl (fun _ => 0)))) := by rw [← h570]; exact (gs_ne (Ne.symm (ne_ao h609 h565))).trans h609
  have h611 : M533[q205]? = some (.inl (0, 5, .inl (fun _ => 0))) := by rw [← h535]; exact ga_old h553
  have h612 : M569[q205]? = some (.inl (0, 5, .inl (fun _ => 0))) := by rw [← h570]; exact (gs_ne (Ne.symm (ne_ao h611 h565))).trans h611
  have h613 : M533[q243]? = some (.inl (0, 5, .inl (fun _ => 0))) := by rw [← h535]; exact ga_old h555
  have h614 : M569[q243]? = some (.inl (0, 5, .inl (fun _ => 0))) := by rw [← h570]; exact (gs_ne (Ne.symm (ne_ao h613 h565))).trans h613
  have h615 : M533[q284]? = some (.inl (0, 400, .inl (fun _ => 0))) := by rw [← h535]; exact ga_old h557
  have h616 : M569[q284]? = some (.inl (0, 400, .inl (fun _ => 0))) := by rw [← h570]; exact (gs_ne (Ne.symm (ne_ao h615 h565))).trans h615
  have h617 : M533[q328]? = some (.inl (0, 400, .inl (fun _ => 0))) := by rw [← h535]; exact ga_old h559
  have h618 : M569[q328]? = some (.inl (0, 400, .inl (fun _ => 0))) := by rw [← h570]; exact (gs_ne (Ne.symm (ne_ao h617 h565))).trans h617
  have h619 : M533[q375]? = some (.inl (0, 120, .inl (fun _ => 0))) := by rw [← h535]; exact ga_old h561
  have h620 : M569[q375]? = some (.inl (0, 120, .inl (fun _ => 0))) := by rw [← h570]; exact (gs_ne (Ne.symm (ne_ao h619 h565))).trans h619
  have h621 : M533[q425]? = some (.inl (1, 120, .inr (.inl (fun _ => 0)))) := by rw [← h535]; exact ga_old h563
  have h622 : M569[q425]? = some (.inl (1, 120, .inr (.inl (fun _ => 0)))) := by rw [← h570]; exact (gs_ne (Ne.symm (ne_ao h621 h565))).trans h621
  have h623 : M533[q478]? = some (.inl (0, 14, .inl (fun _ => 0))) := by rw [← h535]; exact ga_old h564
  have h624 : M569[q478]? = some (.inl (0, 14, .inl (fun _ => 0))) := by rw [← h570]; exact (gs_ne (Ne.symm (ne_ao h623 h565))).trans h623
  have h625 : M569[q534]? = some (.inl (0, 14, .inl (fun _ => 0))) := by rw [← h570]; exact (gs_ne (Ne.symm (ne_ao h537 h565))).trans h537
  have h626 : M592[x0]? = some (.inr (10, fs567)) := by rw [← h594]; exact ga_old h571
  have h627 : 38 < fs567.length := Nat.lt_of_lt_of_le (by decide) h588
  refine pf_Mo_61 ok hin d_Mo_init_140 h626 h627 (fun _ => ⟨rfl, rfl⟩) ?_
  rw [h629]
  rw [h631]
  have h632 : M630[x0]? = some (.inr (10, fs628)) := by rw [← h631]; exact gs_eq h626
  have h633 : fs628[0]? = some (.ref q5) := by rw [← h629]; exact (List.getElem?_set_ne (by decide : 38 ≠ 0)).trans h572
  have h634 : fs628[2]? = some (.ref q25) := by rw [← h629]; exact (List.getElem?_set_ne (by decide : 38 ≠ 2)).trans h573
  have h635 : fs628[4]? = some (.ref q44) := by rw [← h629]; exact (List.getElem?_set_ne (by decide : 38 ≠ 4)).trans h574
  have h636 : fs628[5]? = some (.ref q66) := by rw [← h629]; exact (List.getElem?_set_ne (by decide : 38 ≠ 5)).trans h575
  have h637 : fs628[6]? = some (.ref q91) := by rw [← h629]; exact (List.getElem?_set_ne (by decide : 38 ≠ 6)).trans h576
  have h638 : fs628[12]? = some (.ref q119) := by rw [← h629]; exact (List.getElem?_set_ne (by decide : 38 ≠ 12)).trans h577
  have h639 : fs628[14]? = some (.int (-1)) := by rw [← h629]; exact (List.getElem?_set_ne (by decide : 38 ≠ 14)).trans h578
  have h640 : fs628[23]? = some (.ref q164) := by rw [← h629]; exact (List.getElem?_set_ne (by decide : 38 ≠ 23)).trans h579
  have h641 : fs628[28]? = some (.ref q205) := by rw [← h629]; exact (List.getElem?_set_ne (by decide : 38 ≠ 28)).trans h580
  have h642 : fs628[29]? = some (.ref q243) := by rw [← h629]; exact (List.getElem?_set_ne (by decide : 38 ≠ 29)).trans h581
  have h643 : fs628[30]? = some (.ref q284) := by rw [← h629]; exact (List.getElem?_set_ne (by decide : 38 ≠ 30)).trans h582
  have h644 : fs628[31]? = some (.ref q328) := by rw [← h629]; exact (List.getElem?_set_ne (by decide : 38 ≠ 31)).trans h583
  have h645 : fs628[33]? = some (.ref q375) := by rw [← h629]; exact (List.getElem?_set_ne (by decide : 38 ≠ 33)).trans h584
  have h646 : fs628[34]? = some (.ref q425) := by rw [← h629]; exact (List.getElem?_set_ne (by decide : 38 ≠ 34)).trans h585
  have h647 : fs628[36]? = some (.ref q478) := by rw [← h629]; exact (List.getElem?_set_ne (by decide : 38 ≠ 36)).trans h586
  have h648 : fs628[37]? = some (.ref q534) := by rw [← h629]; exact (List.getElem?_set_ne (by decide : 38 ≠ 37)).trans h587
  have h649 : fs628[38]? = some (.ref q593) := by rw [← h629]; exact List.getElem?_set_self h627
  have h650 : 59 ≤ fs628.length := by rw [← h629, List.length_set]; exact h588
  refine g_aload_n ok d_Mo_init_143 rfl (j := 0) rfl ?_
  refine g_bipush (v := 80) ok d_Mo_init_144 (by decide) ?_
  refine g_newa (atype := .int) (ty := .int) (t := 0) (N := 80) (a0 := (80, .inl (fun _ => 0))) ok (List.mem_cons_of_mem _ (gT_at 83 (by decide +kernel) (by decide +kernel))) rfl rfl (fun _ => rfl) (fun _ => rfl) (by decide) (by decide) (by decide) d_Mo_init_146 h651 h652 h653 ?_
  rw [h656, h657]
  have h658 : M654[q655]? = some (.inl (0, 80, .inl (fun _ => 0))) := by rw [← h656, ← h657]; exact ga_new _ _
  have h659 : M592[q5]? = some (.inl (1, 144, .inr (.inl (fun _ => 0)))) := by rw [← h594]; exact ga_old h598
  have h660 : M630[q5]? = some (.inl (1, 144, .inr (.inl (fun _ => 0)))) := by rw [← h631]; exact (gs_ne (Ne.symm (ne_ao h659 h626))).trans h659
  have h661 : M592[q25]? = some (.inl (1, 144, .inr (.inl (fun _ => 0)))) := by rw [← h594]; exact ga_old h600
  have h662 : M630[q25]? = some (.inl (1, 144, .inr (.inl (fun _ => 0)))) := by rw [← h631]; exact (gs_ne (Ne.symm (ne_ao h661 h626))).trans h661
  have h663 : M592[q44]? = some (.inl (1, 2400, .inr (.inl (fun _ => 0)))) := by rw [← h594]; exact ga_old h602
  have h664 : M630[q44]? = some (.inl (1, 2400, .inr (.inl (fun _ => 0)))) := by rw [← h631]; exact (gs_ne (Ne.symm (ne_ao h663 h626))).trans h663
  have h665 : M592[q66]? = some (.inl (3, 800, .inl (fun _ => 0))) := by rw [← h594]; exact ga_old h604
  have h666 : M630[q66]? = some (.inl (3, 800, .inl (fun _ => 0))) := by rw [← h631]; exact (gs_ne (Ne.symm (ne_ao h665 h626))).trans h665
  have h667 : M592[q91]? = some (.inl (0, 800, .inl (fun _ => 0))) := by rw [← h594]; exact ga_old h606
  have h668 : M630[q91]? = some (.inl (0, 800, .inl (fun _ => 0))) := by rw [← h631]; exact (gs_ne (Ne.symm (ne_ao h667 h626))).trans h667
  have h669 : M592[q119]? = some (.inl (0, 160, .inl (fun _ => 0))) := by rw [← h594]; exact ga_old h608
  have h670 : M630[q119]? = some (.inl (0, 160, .inl (fun _ => 0))) := by rw [← h631]; exact (gs_ne (Ne.symm (ne_ao h669 h626))).trans h669
  have h671 : M592[q164]? = some (.inl (1, 6, .inr (.inl (fun _ => 0)))) := by rw [← h594]; exact ga_old h610
  have h672 : M630[q164]? = some (.inl (1, 6, .inr (.inl (fun _ => 0)))) := by rw [← h631]; exact (gs_ne (Ne.symm (ne_ao h671 h626))).trans h671
  have h673 : M592[q205]? = some (.inl (0, 5, .inl (fun _ => 0))) := by rw [← h594]; exact ga_old h612
  have h674 : M630[q205]? = some (.inl (0, 5, .inl (fun _ => 0))) := by rw [← h631]; exact (gs_ne (Ne.symm (ne_ao h673 h626))).trans h673
  have h675 : M592[q243]? = some (.inl (0, 5, .inl (fun _ => 0))) := by rw [← h594]; exact ga_old h614
  have h676 : M630[q243]? = some (.inl (0, 5, .inl (fun _ => 0))) := by rw [← h631]; exact (gs_ne (Ne.symm (ne_ao h675 h626))).trans h675
  have h677 : M592[q284]? = some (.inl (0, 400, .inl (fun _ => 0))) := by rw [← h594]; exact ga_old h616
  have h678 : M630[q284]? = some (.inl (0, 400, .inl (fun _ => 0))) := by rw [← h631]; exact (gs_ne (Ne.symm (ne_ao h677 h626))).trans h677
  have h679 : M592[q328]? = some (.inl (0, 400, .inl (fun _ => 0))) := by rw [← h594]; exact ga_old h618
  have h680 : M630[q328]? = some (.inl (0, 400, .inl (fun _ => 0))) := by rw [← h631]; exact (gs_ne (Ne.symm (ne_ao h679 h626))).trans h679
  have h681 : M592[q375]? = some (.inl (0, 120, .inl (fun _ => 0))) := by rw [← h594]; exact ga_old h620
  have h682 : M630[q375]? = some (.inl (0, 120, .inl (fun _ => 0))) := by rw [← h631]; exact (gs_ne (Ne.symm (ne_ao h681 h626))).trans h681
  have h683 : M592[q425]? = some (.inl (1, 120, .inr (.inl (fun _ => 0)))) := by rw [← h594]; exact ga_old h622
  have h684 : M630[q425]? = some (.inl (1, 120, .inr (.inl (fun _ => 0)))) := by rw [← h631]; exact (gs_ne (Ne.symm (ne_ao h683 h626))).trans h683
  have h685 : M592[q478]? = some (.inl (0, 14, .inl (fun _ => 0))) := by rw [← h594]; exact ga_old h624
  have h686 : M630[q478]? = some (.inl (0, 14, .inl (fun _ => 0))) := by rw [← h631]; exact (gs_ne (Ne.symm (ne_ao h685 h626))).trans h685
  have h687 : M592[q534]? = some (.inl (0, 14, .inl (fun _ => 0))) := by rw [← h594]; exact ga_old h625
  have h688 : M630[q534]? = some (.inl (0, 14, .inl (fun _ => 0))) := by rw [← h631]; exact (gs_ne (Ne.symm (ne_ao h687 h626))).trans h687
  have h689 : M630[q593]? = some (.inl (3, 14, .inl (fun _ => 0))) := by rw [← h631]; exact (gs_ne (Ne.symm (ne_ao h596 h626))).trans h596
  have h690 : M654[x0]? = some (.inr (10, fs628)) := by rw [← h656]; exact ga_old h632
  have h691 : 40 < fs628.length := Nat.lt_of_lt_of_le (by decide) h650
  refine pf_Mo_64 ok hin d_Mo_init_148 h690 h691 (fun _ => ⟨rfl, rfl⟩) ?_
  rw [h693]
  rw [h695]
  have h696 : M694[x0]? = some (.inr (10, fs692)) := by rw [← h695]; exact gs_eq h690
  have h697 : fs692[0]? = some (.ref q5) := by rw [← h693]; exact (List.getElem?_set_ne (by decide : 40 ≠ 0)).trans h633
  have h698 : fs692[2]? = some (.ref q25) := by rw [← h693]; exact (List.getElem?_set_ne (by decide : 40 ≠ 2)).trans h634
  have h699 : fs692[4]? = some (.ref q44) := by rw [← h693]; exact (List.getElem?_set_ne (by decide : 40 ≠ 4)).trans h635
  have h700 : fs692[5]? = some (.ref q66) := by rw [← h693]; exact (List.getElem?_set_ne (by decide : 40 ≠ 5)).trans h636
  have h701 : fs692[6]? = some (.ref q91) := by rw [← h693]; exact (List.getElem?_set_ne (by decide : 40 ≠ 6)).trans h637
  have h702 : fs692[12]? = some (.ref q119) := by rw [← h693]; exact (List.getElem?_set_ne (by decide : 40 ≠ 12)).trans h638
  have h703 : fs692[14]? = some (.int (-1)) := by rw [← h693]; exact (List.getElem?_set_ne (by decide : 40 ≠ 14)).trans h639
  have h704 : fs692[23]? = some (.ref q164) := by rw [← h693]; exact (List.getElem?_set_ne (by decide : 40 ≠ 23)).trans h640
  have h705 : fs692[28]? = some (.ref q205) := by rw [← h693]; exact (List.getElem?_set_ne (by decide : 40 ≠ 28)).trans h641
  have h706 : fs692[29]? = some (.ref q243) := by rw [← h693]; exact (List.getElem?_set_ne (by decide : 40 ≠ 29)).trans h642
  have h707 : fs692[30]? = some (.ref q284) := by rw [← h693]; exact (List.getElem?_set_ne (by decide : 40 ≠ 30)).trans h643
  have h708 : fs692[31]? = some (.ref q328) := by rw [← h693]; exact (List.getElem?_set_ne (by decide : 40 ≠ 31)).trans h644
  have h709 : fs692[33]? = some (.ref q375) := by rw [← h693]; exact (List.getElem?_set_ne (by decide : 40 ≠ 33)).trans h645
  have h710 : fs692[34]? = some (.ref q425) := by rw [← h693]; exact (List.getElem?_set_ne (by decide : 40 ≠ 34)).trans h646
  have h711 : fs692[36]? = some (.ref q478) := by rw [← h693]; exact (List.getElem?_set_ne (by decide : 40 ≠ 36)).trans h647
  have h712 : fs692[37]? = some (.ref q534) := by rw [← h693]; exact (List.getElem?_set_ne (by decide : 40 ≠ 37)).trans h648
  have h713 : fs692[38]? = some (.ref q593) := by rw [← h693]; exact (List.getElem?_set_ne (by decide : 40 ≠ 38)).trans h649
  have h714 : fs692[40]? = some (.ref q655) := by rw [← h693]; exact List.getElem?_set_self h691
  have h715 : 59 ≤ fs692.length := by rw [← h693, List.length_set]; exact h650
  refine g_aload_n ok d_Mo_init_151 rfl (j := 0) rfl ?_
  refine g_iconst (v := 5) ok d_Mo_init_152 (by decide) ?_
  refine g_newa (atype := .int) (ty := .int) (t := 0) (N := 5) (a0 := (5, .inl (fun _ => 0))) ok (List.mem_cons_of_mem _ (gT_at 83 (by decide +kernel) (by decide +kernel))) rfl rfl (fun _ => rfl) (fun _ => rfl) (by decide) (by decide) (by decide) d_Mo_init_153 h716 h717 h718 ?_
  rw [h721, h722]
  have h723 : M719[q720]? = some (.inl (0, 5, .inl (fun _ => 0))) := by rw [← h721, ← h722]; exact ga_new _ _
  have h724 : M654[q5]? = some (.inl (1, 144, .inr (.inl (fun _ => 0)))) := by rw [← h656]; exact ga_old h660
  have h725 : M694[q5]? = some (.inl (1, 144, .inr (.inl (fun _ => 0)))) := by rw [← h695]; exact (gs_ne (Ne.symm (ne_ao h724 h690))).trans h724
  have h726 : M654[q25]? = some (.inl (1, 144, .inr (.inl (fun _ => 0)))) := by rw [← h656]; exact ga_old h662
  have h727 : M694[q25]? = some (.inl (1, 144, .inr (.inl (fun _ => 0)))) := by rw [← h695]; exact (gs_ne (Ne.symm (ne_ao h726 h690))).trans h726
  have h728 : M654[q44]? = some (.inl (1, 2400, .inr (.inl (fun _ => 0)))) := by rw [← h656]; exact ga_old h664
  have h729 : M694[q44]? = some (.inl (1, 2400, .inr (.inl (fun _ => 0)))) := by rw [← h695]; exact (gs_ne (Ne.symm (ne_ao h728 h690))).trans h728
  have h730 : M654[q66]? = some (.inl (3, 800, .inl (fun _ => 0))) := by rw [← h656]; exact ga_old h666
  have h731 : M694[q66]? = some (.inl (3, 800, .inl (fun _ => 0))) := by rw [← h695]; exact (gs_ne (Ne.symm (ne_ao h730 h690))).trans h730
  have h732 : M654[q91]? = some (.inl (0, 800, .inl (fun _ => 0))) := by rw [← h656]; exact ga_old h668
  have h733 : M694[q91]? = some (.inl (0, 800, .inl (fun _ => 0))) := by rw [← h695]; exact (gs_ne (Ne.symm (ne_ao h732 h690))).trans h732
  have h734 : M654[q119]? = some (.inl (0, 160, .inl (fun _ => 0))) := by rw [← h656]; exact ga_old h670
  have h735 : M694[q119]? = some (.inl (0, 160, .inl (fun _ => 0))) := by rw [← h695]; exact (gs_ne (Ne.symm (ne_ao h734 h690))).trans h734
  have h736 : M654[q164]? = some (.inl (1, 6, .inr (.inl (fun _ => 0)))) := by rw [← h656]; exact ga_old h672
  have h737 : M694[q164]? = some (.inl (1, 6, .inr (.inl (fun _ => 0)))) := by rw [← h695]; exact (gs_ne (Ne.symm (ne_ao h736 h690))).trans h736
  have h738 : M654[q205]? = some (.inl (0, 5, .inl (fun _ => 0))) := by rw [← h656]; exact ga_old h674
  have h739 : M694[q205]? = some (.inl (0, 5, .inl (fun _ => 0))) := by rw [← h695]; exact (gs_ne (Ne.symm (ne_ao h738 h690))).trans h738
  have h740 : M654[q243]? = some (.inl (0, 5, .inl (fun _ => 0))) := by rw [← h656]; exact ga_old h676
  have h741 : M694[q243]? = some (.inl (0, 5, .inl (fun _ => 0))) := by rw [← h695]; exact (gs_ne (Ne.symm (ne_ao h740 h690))).trans h740
  have h742 : M654[q284]? = some (.inl (0, 400, .inl (fun _ => 0))) := by rw [← h656]; exact ga_old h678
  have h743 : M694[q284]? = some (.inl (0, 400, .inl (fun _ => 0))) := by rw [← h695]; exact (gs_ne (Ne.symm (ne_ao h742 h690))).trans h742
  have h744 : M654[q328]? = some (.inl (0, 400, .inl (fun _ => 0))) := by rw [← h656]; exact ga_old h680
  have h745 : M694[q328]? = some (.inl (0, 400, .inl (fun _ => 0))) := by rw [← h695]; exact (gs_ne (Ne.symm (ne_ao h744 h690))).trans h744
  have h746 : M654[q375]? = some (.inl (0, 120, .inl (fun _ => 0))) := by rw [← h656]; exact ga_old h682
  have h747 : M694[q375]? = some (.inl (0, 120, .inl (fun _ => 0))) := by rw [← h695]; exact (gs_ne (Ne.symm (ne_ao h746 h690))).trans h746
  have h748 : M654[q425]? = some (.inl (1, 120, .inr (.inl (fun _ => 0)))) := by rw [← h656]; exact ga_old h684
  have h749 : M694[q425]? = some (.inl (1, 120, .inr (.inl (fun _ => 0)))) := by rw [← h695]; exact (gs_ne (Ne.symm (ne_ao h748 h690))).trans h748
  have h750 : M654[q478]? = some (.inl (0, 14, .inl (fun _ => 0))) := by rw [← h656]; exact ga_old h686
  have h751 : M694[q478]? = some (.inl (0, 14, .inl (fun _ => 0))) := by rw [← h695]; exact (gs_ne (Ne.symm (ne_ao h750 h690))).trans h750
  have h752 : M654[q534]? = some (.inl (0, 14, .inl (fun _ => 0))) := by rw [← h656]; exact ga_old h688
  have h753 : M694[q534]? = some (.inl (0, 14, .inl (fun _ => 0))) := by rw [← h695]; exact (gs_ne (Ne.symm (ne_ao h752 h690))).trans h752
  have h754 : M654[q593]? = some (.inl (3, 14, .inl (fun _ => 0))) := by rw [← h656]; exact ga_old h689
  have h755 : M694[q593]? = some (.inl (3, 14, .inl (fun _ => 0))) := by rw [← h695]; exact (gs_ne (Ne.symm (ne_ao h754 h690))).trans h754
  have h756 : M694[q655]? = some (.inl (0, 80, .inl (fun _ => 0))) := by rw [← h695]; exact (gs_ne (Ne.symm (ne_ao h658 h690))).trans h658
  have h757 : M719[x0]? = some (.inr (10, fs692)) := by rw [← h721]; exact ga_old h696
  have h758 : 42 < fs692.length := Nat.lt_of_lt_of_le (by decide) h715
  refine pf_Mo_67 ok hin d_Mo_init_155 h757 h758 (fun _ => ⟨rfl, rfl⟩) ?_
  rw [h760]
  rw [h762]
  have h763 : M761[x0]? = some (.inr (10, fs759)) := by rw [← h762]; exact gs_eq h757
  have h764 : fs759[0]? = some (.ref q5) := by rw [← h760]; exact (List.getElem?_set_ne (by decide : 42 ≠ 0)).trans h697
  have h765 : fs759[2]? = some (.ref q25) := by rw [← h760]; exact (List.getElem?_set_ne (by decide : 42 ≠ 2)).trans h698
  have h766 : fs759[4]? = some (.ref q44) := by rw [← h760]; exact (List.getElem?_set_ne (by decide : 42 ≠ 4)).trans h699
  have h767 : fs759[5]? = some (.ref q66) := by rw [← h760]; exact (List.getElem?_set_ne (by decide : 42 ≠ 5)).trans h700
  have h768 : fs759[6]? = some (.ref q91) := by rw [← h760]; exact (List.getElem?_set_ne (by decide : 42 ≠ 6)).trans h701
  have h769 : fs759[12]? = some (.ref q119) := by rw [← h760]; exact (List.getElem?_set_ne (by decide : 42 ≠ 12)).trans h702
  have h770 : fs759[14]? = some (.int (-1)) := by rw [← h760]; exact (List.getElem?_set_ne (by decide : 42 ≠ 14)).trans h703
  have h771 : fs759[23]? = some (.ref q164) := by rw [← h760]; exact (List.getElem?_set_ne (by decide : 42 ≠ 23)).trans h704
  have h772 : fs759[28]? = some (.ref q205) := by rw [← h760]; exact (List.getElem?_set_ne (by decide : 42 ≠ 28)).trans h705
  have h773 : fs759[29]? = some (.ref q243) := by rw [← h760]; exact (List.getElem?_set_ne (by decide : 42 ≠ 29)).trans h706
  have h774 : fs759[30]? = some (.ref q284) := by rw [← h760]; exact (List.getElem?_set_ne (by decide : 42 ≠ 30)).trans h707
  have h775 : fs759[31]? = some (.ref q328) := by rw [← h760]; exact (List.getElem?_set_ne (by decide : 42 ≠ 31)).trans h708
  have h776 : fs759[33]? = some (.ref q375) := by rw [← h760]; exact (List.getElem?_set_ne (by decide : 42 ≠ 33)).trans h709
  have h777 : fs759[34]? = some (.ref q425) := by rw [← h760]; exact (List.getElem?_set_ne (by decide : 42 ≠ 34)).trans h710
  have h778 : fs759[36]? = some (.ref q478) := by rw [← h760]; exact (List.getElem?_set_ne (by decide : 42 ≠ 36)).trans h711
  have h779 : fs759[37]? = some (.ref q534) := by rw [← h760]; exact (List.getElem?_set_ne (by decide : 42 ≠ 37)).trans h712
  have h780 : fs759[38]? = some (.ref q593) := by rw [← h760]; exact (List.getElem?_set_ne (by decide : 42 ≠ 38)).trans h713
  have h781 : fs759[40]? = some (.ref q655) := by rw [← h760]; exact (List.getElem?_set_ne (by decide : 42 ≠ 40)).trans h714
  have h782 : fs759[42]? = some (.ref q720) := by rw [← h760]; exact List.getElem?_set_self h758
  have h783 : 59 ≤ fs759.length := by rw [← h760, List.length_set]; exact h715
  refine g_aload_n ok d_Mo_init_158 rfl (j := 0) rfl ?_
  refine g_sipush (v := 9900) ok d_Mo_init_159 (by decide) ?_
  refine g_newa (atype := .long) (ty := .long) (t := 1) (N := 9900) (a0 := (9900, .inr (.inl (fun _ => 0)))) ok (List.mem_cons_of_mem _ (gT_at 56 (by decide +kernel) (by decide +kernel))) rfl rfl (fun _ => rfl) (fun _ => rfl) (by decide) (by decide) (by decide) d_Mo_init_162 h784 h785 h786 ?_
  rw [h789, h790]
  have h791 : M787[q788]? = some (.inl (1, 9900, .inr (.inl (fun _ => 0)))) := by rw [← h789, ← h790]; exact ga_new _ _
  have h792 : M719[q5]? = some (.inl (1, 144, .inr (.inl (fun _ => 0)))) := by rw [← h721]; exact ga_old h725
  have h793 : M761[q5]? = some (.inl (1, 144, .inr (.inl (fun _ => 0)))) := by rw [← h762]; exact (gs_ne (Ne.symm (ne_ao h792 h757))).trans h792
  have h794 : M719[q25]? = some (.inl (1, 144, .inr (.inl (fun _ => 0)))) := by rw [← h721]; exact ga_old h727
  have h795 : M761[q25]? = some (.inl (1, 144, .inr (.inl (fun _ => 0)))) := by rw [← h762]; exact (gs_ne (Ne.symm (ne_ao h794 h757))).trans h794
  have h796 : M719[q44]? = some (.inl (1, 2400, .inr (.inl (fun _ => 0)))) := by rw [← h721]; exact ga_old h729
  have h797 : M761[q44]? = some (.inl (1, 2400, .inr (.inl (fun _ => 0)))) := by rw [← h762]; exact (gs_ne (Ne.symm (ne_ao h796 h757))).trans h796
  have h798 : M719[q66]? = some (.inl (3, 800, .inl (fun _ => 0))) := by rw [← h721]; exact ga_old h731
  have h799 : M761[q66]? = some (.inl (3, 800, .inl (fun _ => 0))) := by rw [← h762]; exact (gs_ne (Ne.symm (ne_ao h798 h757))).trans h798
  have h800 : M719[q91]? = some (.inl (0, 800, .inl (fun _ => 0))) := by rw [← h721]; exact ga_old h733
  have h801 : M761[q91]? = some (.inl (0, 800, .inl (fun _ => 0))) := by rw [← h762]; exact (gs_ne (Ne.symm (ne_ao h800 h757))).trans h800
  have h802 : M719[q119]? = some (.inl (0, 160, .inl (fun _ => 0))) := by rw [← h721]; exact ga_old h735
  have h803 : M761[q119]? = some (.inl (0, 160, .inl (fun _ => 0))) := by rw [← h762]; exact (gs_ne (Ne.symm (ne_ao h802 h757))).trans h802
  have h804 : M719[q164]? = some (.inl (1, 6, .inr (.inl (fun _ => 0)))) := by rw [← h721]; exact ga_old h737
  have h805 : M761[q164]? = some (.inl (1, 6, .inr (.inl (fun _ => 0)))) := by rw [← h762]; exact (gs_ne (Ne.symm (ne_ao h804 h757))).trans h804
  have h806 : M719[q205]? = some (.inl (0, 5, .inl (fun _ => 0))) := by rw [← h721]; exact ga_old h739
  have h807 : M761[q205]? = some (.inl (0, 5, .inl (fun _ => 0))) := by rw [← h762]; exact (gs_ne (Ne.symm (ne_ao h806 h757))).trans h806
  have h808 : M719[q243]? = some (.inl (0, 5, .inl (fun _ => 0))) := by rw [← h721]; exact ga_old h741
  have h809 : M761[q243]? = some (.inl (0, 5, .inl (fun _ => 0))) := by rw [← h762]; exact (gs_ne (Ne.symm (ne_ao h808 h757))).trans h808
  have h810 : M719[q284]? = some (.inl (0, 400, .inl (fun _ => 0))) := by rw [← h721]; exact ga_old h743
  have h811 : M761[q284]? = some (.inl (0, 400, .inl (fun _ => 0))) := by rw [← h762]; exact (gs_ne (Ne.symm (ne_ao h810 h757))).trans h810
  have h812 : M719[q328]? = some (.inl (0, 400, .inl (fun _ => 0))) := by rw [← h721]; exact ga_old h745
  have h813 : M761[q328]? = some (.inl (0, 400, .inl (fun _ => 0))) := by rw [← h762]; exact (gs_ne (Ne.symm (ne_ao h812 h757))).trans h812
  have h814 : M719[q375]? = some (.inl (0, 120, .inl (fun _ => 0))) := by rw [← h721]; exact ga_old h747
  have h815 : M761[q375]? = some (.inl (0, 120, .inl (fun _ => 0))) := by rw [← h762]; exact (gs_ne (Ne.symm (ne_ao h814 h757))).trans h814
  have h816 : M719[q425]? = some (.inl (1, 120, .inr (.inl (fun _ => 0)))) := by rw [← h721]; exact ga_old h749
  have h817 : M761[q425]? = some (.inl (1, 120, .inr (.inl (fun _ => 0)))) := by rw [← h762]; exact (gs_ne (Ne.symm (ne_ao h816 h757))).trans h816
  have h818 : M719[q478]? = some (.inl (0, 14, .inl (fun _ => 0))) := by rw [← h721]; exact ga_old h751
  have h819 : M761[q478]? = some (.inl (0, 14, .inl (fun _ => 0))) := by rw [← h762]; exact (gs_ne (Ne.symm (ne_ao h818 h757))).trans h818
  have h820 : M719[q534]? = some (.inl (0, 14, .inl (fun _ => 0))) := by rw [← h721]; exact ga_old h753
  have h821 : M761[q534]? = some (.inl (0, 14, .inl (fun _ => 0))) := by rw [← h762]; exact (gs_ne (Ne.symm (ne_ao h820 h757))).trans h820
  have h822 : M719[q593]? = some (.inl (3, 14, .inl (fun _ => 0))) := by rw [← h721]; exact ga_old h755
  have h823 : M761[q593]? = some (.inl (3, 14, .inl (fun _ => 0))) := by rw [← h762]; exact (gs_ne (Ne.symm (ne_ao h822 h757))).trans h822
  have h824 : M719[q655]? = some (.inl (0, 80, .inl (fun _ => 0))) := by rw [← h721]; exact ga_old h756
  have h825 : M761[q655]? = some (.inl (0, 80, .inl (fun _ => 0))) := by rw [← h762]; exact (gs_ne (Ne.symm (ne_ao h824 h757))).trans h824
  have h826 : M761[q720]? = some (.inl (0, 5, .inl (fun _ => 0))) := by rw [← h762]; exact (gs_ne (Ne.symm (ne_ao h723 h757))).trans h723
  have h827 : M787[x0]? = some (.inr (10, fs759)) := by rw [← h789]; exact ga_old h763
  have h828 : 47 < fs759.length := Nat.lt_of_lt_of_le (by decide) h783
  refine pf_Mo_70 ok hin d_Mo_init_164 h827 h828 (fun _ => ⟨rfl, rfl⟩) ?_
  rw [h830]
  rw [h832]
  have h833 : M831[x0]? = some (.inr (10, fs829)) := by rw [← h832]; exact gs_eq h827
  have h834 : fs829[0]? = some (.ref q5) := by rw [← h830]; exact (List.getElem?_set_ne (by decide : 47 ≠ 0)).trans h764
  have h835 : fs829[2]? = some (.ref q25) := by rw [← h830]; exact (List.getElem?_set_ne (by decide : 47 ≠ 2)).trans h765
  have h836 : fs829[4]? = some (.ref q44) := by rw [← h830]; exact (List.getElem?_set_ne (by decide : 47 ≠ 4)).trans h766
  have h837 : fs829[5]? = some (.ref q66) := by rw [← h830]; exact (List.getElem?_set_ne (by decide : 47 ≠ 5)).trans h767
  have h838 : fs829[6]? = some (.ref q91) := by rw [← h830]; exact (List.getElem?_set_ne (by decide : 47 ≠ 6)).trans h768
  have h839 : fs829[12]? = some (.ref q119) := by rw [← h830]; exact (List.getElem?_set_ne (by decide : 47 ≠ 12)).trans h769
  have h840 : fs829[14]? = some (.int (-1)) := by rw [← h830]; exact (List.getElem?_set_ne (by decide : 47 ≠ 14)).trans h770
  have h841 : fs829[23]? = some (.ref q164) := by rw [← h830]; exact (List.getElem?_set_ne (by decide : 47 ≠ 23)).trans h771
  have h842 : fs829[28]? = some (.ref q205) := by rw [← h830]; exact (List.getElem?_set_ne (by decide : 47 ≠ 28)).trans h772
  have h843 : fs829[29]? = some (.ref q243) := by rw [← h830]; exact (List.getElem?_set_ne (by decide : 47 ≠ 29)).trans h773
  have h844 : fs829[30]? = some (.ref q284) := by rw [← h830]; exact (List.getElem?_set_ne (by decide : 47 ≠ 30)).trans h774
  have h845 : fs829[31]? = some (.ref q328) := by rw [← h830]; exact (List.getElem?_set_ne (by decide : 47 ≠ 31)).trans h775
  have h846 : fs829[33]? = some (.ref q375) := by rw [← h830]; exact (List.getElem?_set_ne (by decide : 47 ≠ 33)).trans h776
  have h847 : fs829[34]? = some (.ref q425) := by rw [← h830]; exact (List.getElem?_set_ne (by decide : 47 ≠ 34)).trans h777
  have h848 : fs829[36]? = some (.ref q478) := by rw [← h830]; exact (List.getElem?_set_ne (by decide : 47 ≠ 36)).trans h778
  have h849 : fs829[37]? = some (.ref q534) := by rw [← h830]; exact (List.getElem?_set_ne (by decide : 47 ≠ 37)).trans h779
  have h850 : fs829[38]? = some (.ref q593) := by rw [← h830]; exact (List.getElem?_set_ne (by decide : 47 ≠ 38)).trans h780
  have h851 : fs829[40]? = some (.ref q655) := by rw [← h830]; exact (List.getElem?_set_ne (by decide : 47 ≠ 40)).trans h781
  have h852 : fs829[42]? = some (.ref q720) := by rw [← h830]; exact (List.getElem?_set_ne (by decide : 47 ≠ 42)).trans h782
  have h853 : fs829[47]? = some (.ref q788) := by rw [← h830]; exact List.getElem?_set_self h828
  have h854 : 59 ≤ fs829.length := by rw [← h830, List.length_set]; exact h783
  refine g_aload_n ok d_Mo_init_167 rfl (j := 0) rfl ?_
  refine g_sipush (v := 1650) ok d_Mo_init_168 (by decide) ?_
  refine g_newa (atype := .int) (ty := .int) (t := 0) (N := 1650) (a0 := (1650, .inl (fun _ => 0))) ok (List.mem_cons_of_mem _ (gT_at 83 (by decide +kernel) (by decide +kernel))) rfl rfl (fun _ => rfl) (fun _ => rfl) (by decide) (by decide) (by decide) d_Mo_init_171 h855 h856 h857 ?_
  rw [h860, h861]
  have h862 : M858[q859]? = some (.inl (0, 1650, .inl (fun _ => 0))) := by rw [← h860, ← h861]; exact ga_new _ _
  have h863 : M787[q5]? = some (.inl (1, 144, .inr (.inl (fun _ => 0)))) := by rw [← h789]; exact ga_old h793
  have h864 : M831[q5]? = some (.inl (1, 144, .inr (.inl (fun _ => 0)))) := by rw [← h832]; exact (gs_ne (Ne.symm (ne_ao h863 h827))).trans h863
  have h865 : M787[q25]? = some (.inl (1, 144, .inr (.inl (fun _ => 0)))) := by rw [← h789]; exact ga_old h795
  have h866 : M831[q25]? = some (.inl (1, 144, .inr (.inl (fun _ => 0)))) := by rw [← h832]; exact (gs_ne (Ne.symm (ne_ao h865 h827))).trans h865
  have h867 : M787[q44]? = some (.inl (1, 2400, .inr (.inl (fun _ => 0)))) := by rw [← h789]; exact ga_old h797
  have h868 : M831[q44]? = some (.inl (1, 2400, .inr (.inl (fun _ => 0)))) := by rw [← h832]; exact (gs_ne (Ne.symm (ne_ao h867 h827))).trans h867
  have h869 : M787[q66]? = some (.inl (3, 800, .inl (fun _ => 0))) := by rw [← h789]; exact ga_old h799
  have h870 : M831[q66]? = some (.inl (3, 800, .inl (fun _ => 0))) := by rw [← h832]; exact (gs_ne (Ne.symm (ne_ao h869 h827))).trans h869
  have h871 : M787[q91]? = some (.inl (0, 800, .inl (fun _ => 0))) := by rw [← h789]; exact ga_old h801
  have h872 : M831[q91]? = some (.inl (0, 800, .inl (fun _ => 0))) := by rw [← h832]; exact (gs_ne (Ne.symm (ne_ao h871 h827))).trans h871
  have h873 : M787[q119]? = some (.inl (0, 160, .inl (fun _ => 0))) := by rw [← h789]; exact ga_old h803
  have h874 : M831[q119]? = some (.inl (0, 160, .inl (fun _ => 0))) := by rw [← h832]; exact (gs_ne (Ne.symm (ne_ao h873 h827))).trans h873
  have h875 : M787[q164]? = some (.inl (1, 6, .inr (.inl (fun _ => 0)))) := by rw [← h789]; exact ga_old h805
  have h876 : M831[q164]? = some (.inl (1, 6, .inr (.inl (fun _ => 0)))) := by rw [← h832]; exact (gs_ne (Ne.symm (ne_ao h875 h827))).trans h875
  have h877 : M787[q205]? = some (.inl (0, 5, .inl (fun _ => 0))) := by rw [← h789]; exact ga_old h807
  have h878 : M831[q205]? = some (.inl (0, 5, .inl (fun _ => 0))) := by rw [← h832]; exact (gs_ne (Ne.symm (ne_ao h877 h827))).trans h877
  have h879 : M787[q243]? = some (.inl (0, 5, .inl (fun _ => 0))) := by rw [← h789]; exact ga_old h809
  have h880 : M831[q243]? = some (.inl (0, 5, .inl (fun _ => 0))) := by rw [← h832]; exact (gs_ne (Ne.symm (ne_ao h879 h827))).trans h879
  have h881 : M787[q284]? = some (.inl (0, 400, .inl (fun _ => 0))) := by rw [← h789]; exact ga_old h811
  have h882 : M831[q284]? = some (.inl (0, 400, .inl (fun _ => 0))) := by rw [← h832]; exact (gs_ne (Ne.symm (ne_ao h881 h827))).trans h881
  have h883 : M787[q328]? = some (.inl (0, 400, .inl (fun _ => 0))) := by rw [← h789]; exact ga_old h813
  have h884 : M831[q328]? = some (.inl (0, 400, .inl (fun _ => 0))) := by rw [← h832]; exact (gs_ne (Ne.symm (ne_ao h883 h827))).trans h883
  have h885 : M787[q375]? = some (.inl (0, 120, .inl (fun _ => 0))) := by rw [← h789]; exact ga_old h815
  have h886 : M831[q375]? = some (.inl (0, 120, .inl (fun _ => 0))) := by rw [← h832]; exact (gs_ne (Ne.symm (ne_ao h885 h827))).trans h885
  have h887 : M787[q425]? = some (.inl (1, 120, .inr (.inl (fun _ => 0)))) := by rw [← h789]; exact ga_old h817
  have h888 : M831[q425]? = some (.inl (1, 120, .inr (.inl (fun _ => 0)))) := by rw [← h832]; exact (gs_ne (Ne.symm (ne_ao h887 h827))).trans h887
  have h889 : M787[q478]? = some (.inl (0, 14, .inl (fun _ => 0))) := by rw [← h789]; exact ga_old h819
  have h890 : M831[q478]? = some (.inl (0, 14, .inl (fun _ => 0))) := by rw [← h832]; exact (gs_ne (Ne.symm (ne_ao h889 h827))).trans h889
  have h891 : M787[q534]? = some (.inl (0, 14, .inl (fun _ => 0))) := by rw [← h789]; exact ga_old h821
  have h892 : M831[q534]? = some (.inl (0, 14, .inl (fun _ => 0))) := by rw [← h832]; exact (gs_ne (Ne.symm (ne_ao h891 h827))).trans h891
  have h893 : M787[q593]? = some (.inl (3, 14, .inl (fun _ => 0))) := by rw [← h789]; exact ga_old h823
  have h894 : M831[q593]? = some (.inl (3, 14, .inl (fun _ => 0))) := by rw [← h832]; exact (gs_ne (Ne.symm (ne_ao h893 h827))).trans h893
  have h895 : M787[q655]? = some (.inl (0, 80, .inl (fun _ => 0))) := by rw [← h789]; exact ga_old h825
  have h896 : M831[q655]? = some (.inl (0, 80, .inl (fun _ => 0))) := by rw [← h832]; exact (gs_ne (Ne.symm (ne_ao h895 h827))).trans h895
  have h897 : M787[q720]? = some (.inl (0, 5, .inl (fun _ => 0))) := by rw [← h789]; exact ga_old h826
  have h898 : M831[q720]? = some (.inl (0, 5, .inl (fun _ => 0))) := by rw [← h832]; exact (gs_ne (Ne.symm (ne_ao h897 h827))).trans h897
  have h899 : M831[q788]? = some (.inl (1, 9900, .inr (.inl (fun _ => 0)))) := by rw [← h832]; exact (gs_ne (Ne.symm (ne_ao h791 h827))).trans h791
  have h900 : M858[x0]? = some (.inr (10, fs829)) := by rw [← h860]; exact ga_old h833
  have h901 : 48 < fs829.length := Nat.lt_of_lt_of_le (by decide) h854
  refine pf_Mo_73 ok hin d_Mo_init_173 h900 h901 (fun _ => ⟨rfl, rfl⟩) ?_
  rw [h903]
  rw [h905]
  have h906 : M904[x0]? = some (.inr (10, fs902)) := by rw [← h905]; exact gs_eq h900
  have h907 : fs902[0]? = some (.ref q5) := by rw [← h903]; exact (List.getElem?_set_ne (by decide : 48 ≠ 0)).trans h834
  have h908 : fs902[2]? = some (.ref q25) := by rw [← h903]; exact (List.getElem?_set_ne (by decide : 48 ≠ 2)).trans h835
  have h909 : fs902[4]? = some (.ref q44) := by rw [← h903]; exact (List.getElem?_set_ne (by decide : 48 ≠ 4)).trans h836
  have h910 : fs902[5]? = some (.ref q66) := by rw [← h903]; exact (List.getElem?_set_ne (by decide : 48 ≠ 5)).trans h837
  have h911 : fs902[6]? = some (.ref q91) := by rw [← h903]; exact (List.getElem?_set_ne (by decide : 48 ≠ 6)).trans h838
  have h912 : fs902[12]? = some (.ref q119) := by rw [← h903]; exact (List.getElem?_set_ne (by decide : 48 ≠ 12)).trans h839
  have h913 : fs902[14]? = some (.int (-1)) := by rw [← h903]; exact (List.getElem?_set_ne (by decide : 48 ≠ 14)).trans h840
  have h914 : fs902[23]? = some (.ref q164) := by rw [← h903]; exact (List.getElem?_set_ne (by decide : 48 ≠ 23)).trans h841
  have h915 : fs902[28]? = some (.ref q205) := by rw [← h903]; exact (List.getElem?_set_ne (by decide : 48 ≠ 28)).trans h842
  have h916 : fs902[29]? = some (.ref q243) := by rw [← h903]; exact (List.getElem?_set_ne (by decide : 48 ≠ 29)).trans h843
  have h917 : fs902[30]? = some (.ref q284) := by rw [← h903]; exact (List.getElem?_set_ne (by decide : 48 ≠ 30)).trans h844
  have h918 : fs902[31]? = some (.ref q328) := by rw [← h903]; exact (List.getElem?_set_ne (by decide : 48 ≠ 31)).trans h845
  have h919 : fs902[33]? = some (.ref q375) := by rw [← h903]; exact (List.getElem?_set_ne (by decide : 48 ≠ 33)).trans h846
  have h920 : fs902[34]? = some (.ref q425) := by rw [← h903]; exact (List.getElem?_set_ne (by decide : 48 ≠ 34)).trans h847
  have h921 : fs902[36]? = some (.ref q478) := by rw [← h903]; exact (List.getElem?_set_ne (by decide : 48 ≠ 36)).trans h848
  have h922 : fs902[37]? = some (.ref q534) := by rw [← h903]; exact (List.getElem?_set_ne (by decide : 48 ≠ 37)).trans h849
  have h923 : fs902[38]? = some (.ref q593) := by rw [← h903]; exact (List.getElem?_set_ne (by decide : 48 ≠ 38)).trans h850
  have h924 : fs902[40]? = some (.ref q655) := by rw [← h903]; exact (List.getElem?_set_ne (by decide : 48 ≠ 40)).trans h851
  have h925 : fs902[42]? = some (.ref q720) := by rw [← h903]; exact (List.getElem?_set_ne (by decide : 48 ≠ 42)).trans h852
  have h926 : fs902[47]? = some (.ref q788) := by rw [← h903]; exact (List.getElem?_set_ne (by decide : 48 ≠ 47)).trans h853
  have h927 : fs902[48]? = some (.ref q859) := by rw [← h903]; exact List.getElem?_set_self h901
  have h928 : 59 ≤ fs902.length := by rw [← h903, List.length_set]; exact h854
  refine g_aload_n ok d_Mo_init_176 rfl (j := 0) rfl ?_
  refine g_bipush (v := 11) ok d_Mo_init_177 (by decide) ?_
  refine g_newa (atype := .int) (ty := .int) (t := 0) (N := 11) (a0 := (11, .inl (fun _ => 0))) ok (List.mem_cons_of_mem _ (gT_at 83 (by decide +kernel) (by decide +kernel))) rfl rfl (fun _ => rfl) (fun _ => rfl) (by decide) (by decide) (by decide) d_Mo_init_179 h929 h930 h931 ?_
  rw [h934, h935]
  have h936 : M932[q933]? = some (.inl (0, 11, .inl (fun _ => 0))) := by rw [← h934, ← h935]; exact ga_new _ _
  have h937 : M858[q5]? = some (.inl (1, 144, .inr (.inl (fun _ => 0)))) := by rw [← h860]; exact ga_old h864
  have h938 : M904[q5]? = some (.inl (1, 144, .inr (.inl (fun _ => 0)))) := by rw [← h905]; exact (gs_ne (Ne.symm (ne_ao h937 h900))).trans h937
  have h939 : M858[q25]? = some (.inl (1, 144, .inr (.inl (fun _ => 0)))) := by rw [← h860]; exact ga_old h866
  have h940 : M904[q25]? = some (.inl (1, 144, .inr (.inl (fun _ => 0)))) := by rw [← h905]; exact (gs_ne (Ne.symm (ne_ao h939 h900))).trans h939
  have h941 : M858[q44]? = some (.inl (1, 2400, .inr (.inl (fun _ => 0)))) := by rw [← h860]; exact ga_old h868
  have h942 : M904[q44]? = some (.inl (1, 2400, .inr (.inl (fun _ => 0)))) := by rw [← h905]; exact (gs_ne (Ne.symm (ne_ao h941 h900))).trans h941
  have h943 : M858[q66]? = some (.inl (3, 800, .inl (fun _ => 0))) := by rw [← h860]; exact ga_old h870
  have h944 : M904[q66]? = some (.inl (3, 800, .inl (fun _ => 0))) := by rw [← h905]; exact (gs_ne (Ne.symm (ne_ao h943 h900))).trans h943
  have h945 : M858[q91]? = some (.inl (0, 800, .inl (fun _ => 0))) := by rw [← h860]; exact ga_old h872
  have h946 : M904[q91]? = some (.inl (0, 800, .inl (fun _ => 0))) := by rw [← h905]; exact (gs_ne (Ne.symm (ne_ao h945 h900))).trans h945
  have h947 : M858[q119]? = some (.inl (0, 160, .inl (fun _ => 0))) := by rw [← h860]; exact ga_old h874
  have h948 : M904[q119]? = some (.inl (0, 160, .inl (fun _ => 0))) := by rw [← h905]; exact (gs_ne (Ne.symm (ne_ao h947 h900))).trans h947
  have h949 : M858[q164]? = some (.inl (1, 6, .inr (.inl (fun _ => 0)))) := by rw [← h860]; exact ga_old h876
  have h950 : M904[q164]? = some (.inl (1, 6, .inr (.inl (fun _ => 0)))) := by rw [← h905]; exact (gs_ne (Ne.symm (ne_ao h949 h900))).trans h949
  have h951 : M858[q205]? = some (.inl (0, 5, .inl (fun _ => 0))) := by rw [← h860]; exact ga_old h878
  have h952 : M904[q205]? = some (.inl (0, 5, .inl (fun _ => 0))) := by rw [← h905]; exact (gs_ne (Ne.symm (ne_ao h951 h900))).trans h951
  have h953 : M858[q243]? = some (.inl (0, 5, .inl (fun _ => 0))) := by rw [← h860]; exact ga_old h880
  have h954 : M904[q243]? = some (.inl (0, 5, .inl (fun _ => 0))) := by rw [← h905]; exact (gs_ne (Ne.symm (ne_ao h953 h900))).trans h953
  have h955 : M858[q284]? = some (.inl (0, 400, .inl (fun _ => 0))) := by rw [← h860]; exact ga_old h882
  have h956 : M904[q284]? = some (.inl (0, 400, .inl (fun _ => 0))) := by rw [← h905]; exact (gs_ne (Ne.symm (ne_ao h955 h900))).trans h955
  have h957 : M858[q328]? = some (.inl (0, 400, .inl (fun _ => 0))) := by rw [← h860]; exact ga_old h884
  have h958 : M904[q328]? = some (.inl (0, 400, .inl (fun _ => 0))) := by rw [← h905]; exact (gs_ne (Ne.symm (ne_ao h957 h900))).trans h957
  have h959 : M858[q375]? = some (.inl (0, 120, .inl (fun _ => 0))) := by rw [← h860]; exact ga_old h886
  have h960 : M904[q375]? = some (.inl (0, 120, .inl (fun _ => 0))) := by rw [← h905]; exact (gs_ne (Ne.symm (ne_ao h959 h900))).trans h959
  have h961 : M858[q425]? = some (.inl (1, 120, .inr (.inl (fun _ => 0)))) := by rw [← h860]; exact ga_old h888
  have h962 : M904[q425]? = some (.inl (1, 120, .inr (.inl (fun _ => 0)))) := by rw [← h905]; exact (gs_ne (Ne.symm (ne_ao h961 h900))).trans h961
  have h963 : M858[q478]? = some (.inl (0, 14, .inl (fun _ => 0))) := by rw [← h860]; exact ga_old h890
  have h964 : M904[q478]? = some (.inl (0, 14, .inl (fun _ => 0))) := by rw [← h905]; exact (gs_ne (Ne.symm (ne_ao h963 h900))).trans h963
  have h965 : M858[q534]? = some (.inl (0, 14, .inl (fun _ => 0))) := by rw [← h860]; exact ga_old h892
  have h966 : M904[q534]? = some (.inl (0, 14, .inl (fun _ => 0))) := by rw [← h905]; exact (gs_ne (Ne.symm (ne_ao h965 h900))).trans h965
  have h967 : M858[q593]? = some (.inl (3, 14, .inl (fun _ => 0))) := by rw [← h860]; exact ga_old h894
  have h968 : M904[q593]? = some (.inl (3, 14, .inl (fun _ => 0))) := by rw [← h905]; exact (gs_ne (Ne.symm (ne_ao h967 h900))).trans h967
  have h969 : M858[q655]? = some (.inl (0, 80, .inl (fun _ => 0))) := by rw [← h860]; exact ga_old h896
  have h970 : M904[q655]? = some (.inl (0, 80, .inl (fun _ => 0))) := by rw [← h905]; exact (gs_ne (Ne.symm (ne_ao h969 h900))).trans h969
  have h971 : M858[q720]? = some (.inl (0, 5, .inl (fun _ => 0))) := by rw [← h860]; exact ga_old h898
  have h972 : M904[q720]? = some (.inl (0, 5, .inl (fun _ => 0))) := by rw [← h905]; exact (gs_ne (Ne.symm (ne_ao h971 h900))).trans h971
  have h973 : M858[q788]? = some (.inl (1, 9900, .inr (.inl (fun _ => 0)))) := by rw [← h860]; exact ga_old h899
  have h974 : M904[q788]? = some (.inl (1, 9900, .inr (.inl (fun _ => 0)))) := by rw [← h905]; exact (gs_ne (Ne.symm (ne_ao h973 h900))).trans h973
  have h975 : M904[q859]? = some (.inl (0, 1650, .inl (fun _ => 0))) := by rw [← h905]; exact (gs_ne (Ne.symm (ne_ao h862 h900))).trans h862
  have h976 : M932[x0]? = some (.inr (10, fs902)) := by rw [← h934]; exact ga_old h906
  have h977 : 49 < fs902.length := Nat.lt_of_lt_of_le (by decide) h928
  refine pf_Mo_76 ok hin d_Mo_init_181 h976 h977 (fun _ => ⟨rfl, rfl⟩) ?_
  rw [h979]
  rw [h981]
  have h982 : M980[x0]? = some (.inr (10, fs978)) := by rw [← h981]; exact gs_eq h976
  have h983 : fs978[0]? = some (.ref q5) := by rw [← h979]; exact (List.getElem?_set_ne (by decide : 49 ≠ 0)).trans h907
  have h984 : fs978[2]? = some (.ref q25) := by rw [← h979]; exact (List.getElem?_set_ne (by decide : 49 ≠ 2)).trans h908
  have h985 : fs978[4]? = some (.ref q44) := by rw [← h979]; exact (List.getElem?_set_ne (by decide : 49 ≠ 4)).trans h909
  have h986 : fs978[5]? = some (.ref q66) := by rw [← h979]; exact (List.getElem?_set_ne (by decide : 49 ≠ 5)).trans h910
  have h987 : fs978[6]? = some (.ref q91) := by rw [← h979]; exact (List.getElem?_set_ne (by decide : 49 ≠ 6)).trans h911
  have h988 : fs978[12]? = some (.ref q119) := by rw [← h979]; exact (List.getElem?_set_ne (by decide : 49 ≠ 12)).trans h912
  have h989 : fs978[14]? = some (.int (-1)) := by rw [← h979]; exact (List.getElem?_set_ne (by decide : 49 ≠ 14)).trans h913
  have h990 : fs978[23]? = some (.ref q164) := by rw [← h979]; exact (List.getElem?_set_ne (by decide : 49 ≠ 23)).trans h914
  have h991 : fs978[28]? = some (.ref q205) := by rw [← h979]; exact (List.getElem?_set_ne (by decide : 49 ≠ 28)).trans h915
  have h992 : fs978[29]? = some (.ref q243) := by rw [← h979]; exact (List.getElem?_set_ne (by decide : 49 ≠ 29)).trans h916
  have h993 : fs978[30]? = some (.ref q284) := by rw [← h979]; exact (List.getElem?_set_ne (by decide : 49 ≠ 30)).trans h917
  have h994 : fs978[31]? = some (.ref q328) := by rw [← h979]; exact (List.getElem?_set_ne (by decide : 49 ≠ 31)).trans h918
  have h995 : fs978[33]? = some (.ref q375) := by rw [← h979]; exact (List.getElem?_set_ne (by decide : 49 ≠ 33)).trans h919
  have h996 : fs978[34]? = some (.ref q425) := by rw [← h979]; exact (List.getElem?_set_ne (by decide : 49 ≠ 34)).trans h920
  have h997 : fs978[36]? = some (.ref q478) := by rw [← h979]; exact (List.getElem?_set_ne (by decide : 49 ≠ 36)).trans h921
  have h998 : fs978[37]? = some (.ref q534) := by rw [← h979]; exact (List.getElem?_set_ne (by decide : 49 ≠ 37)).trans h922
  have h999 : fs978[38]? = some (.ref q593) := by rw [← h979]; exact (List.getElem?_set_ne (by decide : 49 ≠ 38)).trans h923
  have h1000 : fs978[40]? = some (.ref q655) := by rw [← h979]; exact (List.getElem?_set_ne (by decide : 49 ≠ 40)).trans h924
  have h1001 : fs978[42]? = some (.ref q720) := by rw [← h979]; exact (List.getElem?_set_ne (by decide : 49 ≠ 42)).trans h925
  have h1002 : fs978[47]? = some (.ref q788) := by rw [← h979]; exact (List.getElem?_set_ne (by decide : 49 ≠ 47)).trans h926
  have h1003 : fs978[48]? = some (.ref q859) := by rw [← h979]; exact (List.getElem?_set_ne (by decide : 49 ≠ 48)).trans h927
  have h1004 : fs978[49]? = some (.ref q933) := by rw [← h979]; exact List.getElem?_set_self h977
  have h1005 : 59 ≤ fs978.length := by rw [← h979, List.length_set]; exact h928
  refine g_aload_n ok d_Mo_init_184 rfl (j := 0) rfl ?_
  refine g_sipush (v := 900) ok d_Mo_init_185 (by decide) ?_
  refine g_newa (atype := .long) (ty := .long) (t := 1) (N := 900) (a0 := (900, .inr (.inl (fun _ => 0)))) ok (List.mem_cons_of_mem _ (gT_at 56 (by decide +kernel) (by decide +kernel))) rfl rfl (fun _ => rfl) (fun _ => rfl) (by decide) (by decide) (by decide) d_Mo_init_188 h1006 h1007 h1008 ?_
  rw [h1011, h1012]
  have h1013 : M1009[q1010]? = some (.inl (1, 900, .inr (.inl (fun _ => 0)))) := by rw [← h1011, ← h1012]; exact ga_new _ _
  have h1014 : M932[q5]? = some (.inl (1, 144, .inr (.inl (fun _ => 0)))) := by rw [← h934]; exact ga_old h938
  have h1015 : M980[q5]? = some (.inl (1, 144, .inr (.inl (fun _ => 0)))) := by rw [← h981]; exact (gs_ne (Ne.symm (ne_ao h1014 h976))).trans h1014
  have h1016 : M932[q25]? = some (.inl (1, 144, .inr (.inl (fun _ => 0)))) := by rw [← h934]; exact ga_old h940
  have h1017 : M980[q25]? = some (.inl (1, 144, .inr (.inl (fun _ => 0)))) := by rw [← h981]; exact (gs_ne (Ne.symm (ne_ao h1016 h976))).trans h1016
  have h1018 : M932[q44]? = some (.inl (1, 2400, .inr (.inl (fun _ => 0)))) := by rw [← h934]; exact ga_old h942
  have h1019 : M980[q44]? = some (.inl (1, 2400, .inr (.inl (fun _ => 0)))) := by rw [← h981]; exact (gs_ne (Ne.symm (ne_ao h1018 h976))).trans h1018
  have h1020 : M932[q66]? = some (.inl (3, 800, .inl (fun _ => 0))) := by rw [← h934]; exact ga_old h944
  have h1021 : M980[q66]? = some (.inl (3, 800, .inl (fun _ => 0))) := by rw [← h981]; exact (gs_ne (Ne.symm (ne_ao h1020 h976))).trans h1020
  have h1022 : M932[q91]? = some (.inl (0, 800, .inl (fun _ => 0))) := by rw [← h934]; exact ga_old h946
  have h1023 : M980[q91]? = some (.inl (0, 800, .inl (fun _ => 0))) := by rw [← h981]; exact (gs_ne (Ne.symm (ne_ao h1022 h976))).trans h1022
  have h1024 : M932[q119]? = some (.inl (0, 160, .inl (fun _ => 0))) := by rw [← h934]; exact ga_old h948
  have h1025 : M980[q119]? = some (.inl (0, 160, .inl (fun _ => 0))) := by rw [← h981]; exact (gs_ne (Ne.symm (ne_ao h1024 h976))).trans h1024
  have h1026 : M932[q164]? = some (.inl (1, 6, .inr (.inl (fun _ => 0)))) := by rw [← h934]; exact ga_old h950
  have h1027 : M980[q164]? = some (.inl (1, 6, .inr (.inl (fun _ => 0)))) := by rw [← h981]; exact (gs_ne (Ne.symm (ne_ao h1026 h976))).trans h1026
  have h1028 : M932[q205]? = some (.inl (0, 5, .inl (fun _ => 0))) := by rw [← h934]; exact ga_old h952
  have h1029 : M980[q205]? = some (.inl (0, 5, .inl (fun _ => 0))) := by rw [← h981]; exact (gs_ne (Ne.symm (ne_ao h1028 h976))).trans h1028
  have h1030 : M932[q243]? = some (.inl (0, 5, .inl (fun _ => 0))) := by rw [← h934]; exact ga_old h954
  have h1031 : M980[q243]? = some (.inl (0, 5, .inl (fun _ => 0))) := by rw [← h981]; exact (gs_ne (Ne.symm (ne_ao h1030 h976))).trans h1030
  have h1032 : M932[q284]? = some (.inl (0, 400, .inl (fun _ => 0))) := by rw [← h934]; exact ga_old h956
  have h1033 : M980[q284]? = some (.inl (0, 400, .inl (fun _ => 0))) := by rw [← h981]; exact (gs_ne (Ne.symm (ne_ao h1032 h976))).trans h1032
  have h1034 : M932[q328]? = some (.inl (0, 400, .inl (fun _ => 0))) := by rw [← h934]; exact ga_old h958
  have h1035 : M980[q328]? = some (.inl (0, 400, .inl (fun _ => 0))) := by rw [← h981]; exact (gs_ne (Ne.symm (ne_ao h1034 h976))).trans h1034
  have h1036 : M932[q375]? = some (.inl (0, 120, .inl (fun _ => 0))) := by rw [← h934]; exact ga_old h960
  have h1037 : M980[q375]? = some (.inl (0, 120, .inl (fun _ => 0))) := by rw [← h981]; exact (gs_ne (Ne.symm (ne_ao h1036 h976))).trans h1036
  have h1038 : M932[q425]? = some (.inl (1, 120, .inr (.inl (fun _ => 0)))) := by rw [← h934]; exact ga_old h962
  have h1039 : M980[q425]? = some (.inl (1, 120, .inr (.inl (fun _ => 0)))) := by rw [← h981]; exact (gs_ne (Ne.symm (ne_ao h1038 h976))).trans h1038
  have h1040 : M932[q478]? = some (.inl (0, 14, .inl (fun _ => 0))) := by rw [← h934]; exact ga_old h964
  have h1041 : M980[q478]? = some (.inl (0, 14, .inl (fun _ => 0))) := by rw [← h981]; exact (gs_ne (Ne.symm (ne_ao h1040 h976))).trans h1040
  have h1042 : M932[q534]? = some (.inl (0, 14, .inl (fun _ => 0))) := by rw [← h934]; exact ga_old h966
  have h1043 : M980[q534]? = some (.inl (0, 14, .inl (fun _ => 0))) := by rw [← h981]; exact (gs_ne (Ne.symm (ne_ao h1042 h976))).trans h1042
  have h1044 : M932[q593]? = some (.inl (3, 14, .inl (fun _ => 0))) := by rw [← h934]; exact ga_old h968
  have h1045 : M980[q593]? = some (.inl (3, 14, .inl (fun _ => 0))) := by rw [← h981]; exact (gs_ne (Ne.symm (ne_ao h1044 h976))).trans h1044
  have h1046 : M932[q655]? = some (.inl (0, 80, .inl (fun _ => 0))) := by rw [← h934]; exact ga_old h970
  have h1047 : M980[q655]? = some (.inl (0, 80, .inl (fun _ => 0))) := by rw [← h981]; exact (gs_ne (Ne.symm (ne_ao h1046 h976))).trans h1046
  have h1048 : M932[q720]? = some (.inl (0, 5, .inl (fun _ => 0))) := by rw [← h934]; exact ga_old h972
  have h1049 : M980[q720]? = some (.inl (0, 5, .inl (fun _ => 0))) := by rw [← h981]; exact (gs_ne (Ne.symm (ne_ao h1048 h976))).trans h1048
  have h1050 : M932[q788]? = some (.inl (1, 9900, .inr (.inl (fun _ => 0)))) := by rw [← h934]; exact ga_old h974
  have h1051 : M980[q788]? = some (.inl (1, 9900, .inr (.inl (fun _ => 0)))) := by rw [← h981]; exact (gs_ne (Ne.symm (ne_ao h1050 h976))).trans h1050
  have h1052 : M932[q859]? = some (.inl (0, 1650, .inl (fun _ => 0))) := by rw [← h934]; exact ga_old h975
  have h1053 : M980[q859]? = some (.inl (0, 1650, .inl (fun _ => 0))) := by rw [← h981]; exact (gs_ne (Ne.symm (ne_ao h1052 h976))).trans h1052
  have h1054 : M980[q933]? = some (.inl (0, 11, .inl (fun _ => 0))) := by rw [← h981]; exact (gs_ne (Ne.symm (ne_ao h936 h976))).trans h936
  have h1055 : M1009[x0]? = some (.inr (10, fs978)) := by rw [← h1011]; exact ga_old h982
  have h1056 : 52 < fs978.length := Nat.lt_of_lt_of_le (by decide) h1005
  refine pf_Mo_79 ok hin d_Mo_init_190 h1055 h1056 (fun _ => ⟨rfl, rfl⟩) ?_
  rw [h1058]
  rw [h1060]
  have h1061 : M1059[x0]? = some (.inr (10, fs1057)) := by rw [← h1060]; exact gs_eq h1055
  have h1062 : fs1057[0]? = some (.ref q5) := by rw [← h1058]; exact (List.getElem?_set_ne (by decide : 52 ≠ 0)).trans h983
  have h1063 : fs1057[2]? = some (.ref q25) := by rw [← h1058]; exact (List.getElem?_set_ne (by decide : 52 ≠ 2)).trans h984
  have h1064 : fs1057[4]? = some (.ref q44) := by rw [← h1058]; exact (List.getElem?_set_ne (by decide : 52 ≠ 4)).trans h985
  have h1065 : fs1057[5]? = some (.ref q66) := by rw [← h1058]; exact (List.getElem?_set_ne (by decide : 52 ≠ 5)).trans h986
  have h1066 : fs1057[6]? = some (.ref q91) := by rw [← h1058]; exact (List.getElem?_set_ne (by decide : 52 ≠ 6)).trans h987
  have h1067 : fs1057[12]? = some (.ref q119) := by rw [← h1058]; exact (List.getElem?_set_ne (by decide : 52 ≠ 12)).trans h988
  have h1068 : fs1057[14]? = some (.int (-1)) := by rw [← h1058]; exact (List.getElem?_set_ne (by decide : 52 ≠ 14)).trans h989
  have h1069 : fs1057[23]? = some (.ref q164) := by rw [← h1058]; exact (List.getElem?_set_ne (by decide : 52 ≠ 23)).trans h990
  have h1070 : fs1057[28]? = some (.ref q205) := by rw [← h1058]; exact (List.getElem?_set_ne (by decide : 52 ≠ 28)).trans h991
  have h1071 : fs1057[29]? = some (.ref q243) := by rw [← h1058]; exact (List.getElem?_set_ne (by decide : 52 ≠ 29)).trans h992
  have h1072 : fs1057[30]? = some (.ref q284) := by rw [← h1058]; exact (List.getElem?_set_ne (by decide : 52 ≠ 30)).trans h993
  have h1073 : fs1057[31]? = some (.ref q328) := by rw [← h1058]; exact (List.getElem?_set_ne (by decide : 52 ≠ 31)).trans h994
  have h1074 : fs1057[33]? = some (.ref q375) := by rw [← h1058]; exact (List.getElem?_set_ne (by decide : 52 ≠ 33)).trans h995
  have h1075 : fs1057[34]? = some (.ref q425) := by rw [← h1058]; exact (List.getElem?_set_ne (by decide : 52 ≠ 34)).trans h996
  have h1076 : fs1057[36]? = some (.ref q478) := by rw [← h1058]; exact (List.getElem?_set_ne (by decide : 52 ≠ 36)).trans h997
  have h1077 : fs1057[37]? = some (.ref q534) := by rw [← h1058]; exact (List.getElem?_set_ne (by decide : 52 ≠ 37)).trans h998
  have h1078 : fs1057[38]? = some (.ref q593) := by rw [← h1058]; exact (List.getElem?_set_ne (by decide : 52 ≠ 38)).trans h999
  have h1079 : fs1057[40]? = some (.ref q655) := by rw [← h1058]; exact (List.getElem?_set_ne (by decide : 52 ≠ 40)).trans h1000
  have h1080 : fs1057[42]? = some (.ref q720) := by rw [← h1058]; exact (List.getElem?_set_ne (by decide : 52 ≠ 42)).trans h1001
  have h1081 : fs1057[47]? = some (.ref q788) := by rw [← h1058]; exact (List.getElem?_set_ne (by decide : 52 ≠ 47)).trans h1002
  have h1082 : fs1057[48]? = some (.ref q859) := by rw [← h1058]; exact (List.getElem?_set_ne (by decide : 52 ≠ 48)).trans h1003
  have h1083 : fs1057[49]? = some (.ref q933) := by rw [← h1058]; exact (List.getElem?_set_ne (by decide : 52 ≠ 49)).trans h1004
  have h1084 : fs1057[52]? = some (.ref q1010) := by rw [← h1058]; exact List.getElem?_set_self h1056
  have h1085 : 59 ≤ fs1057.length := by rw [← h1058, List.length_set]; exact h1005
  refine g_aload_n ok d_Mo_init_193 rfl (j := 0) rfl ?_
  refine g_sipush (v := 150) ok d_Mo_init_194 (by decide) ?_
  refine g_newa (atype := .int) (ty := .int) (t := 0) (N := 150) (a0 := (150, .inl (fun _ => 0))) ok (List.mem_cons_of_mem _ (gT_at 83 (by decide +kernel) (by decide +kernel))) rfl rfl (fun _ => rfl) (fun _ => rfl) (by decide) (by decide) (by decide) d_Mo_init_197 h1086 h1087 h1088 ?_
  rw [h1091, h1092]
  have h1093 : M1089[q1090]? = some (.inl (0, 150, .inl (fun _ => 0))) := by rw [← h1091, ← h1092]; exact ga_new _ _
  have h1094 : M1009[q5]? = some (.inl (1, 144, .inr (.inl (fun _ => 0)))) := by rw [← h1011]; exact ga_old h1015
  have h1095 : M1059[q5]? = some (.inl (1, 144, .inr (.inl (fun _ => 0)))) := by rw [← h1060]; exact (gs_ne (Ne.symm (ne_ao h1094 h1055))).trans h1094
  have h1096 : M1009[q25]? = some (.inl (1, 144, .inr (.inl (fun _ => 0)))) := by rw [← h1011]; exact ga_old h1017
  have h1097 : M1059[q25]? = some (.inl (1, 144, .inr (.inl (fun _ => 0)))) := by rw [← h1060]; exact (gs_ne (Ne.symm (ne_ao h1096 h1055))).trans h1096
  have h1098 : M1009[q44]? = some (.inl (1, 2400, .inr (.inl (fun _ => 0)))) := by rw [← h1011]; exact ga_old h1019
  have h1099 : M1059[q44]? = some (.inl (1, 2400, .inr (.inl (fun _ => 0)))) := by rw [← h1060]; exact (gs_ne (Ne.symm (ne_ao h1098 h1055))).trans h1098
  have h1100 : M1009[q66]? = some (.inl (3, 800, .inl (fun _ => 0))) := by rw [← h1011]; exact ga_old h1021
  have h1101 : M1059[q66]? = some (.inl (3, 800, .inl (fun _ => 0))) := by rw [← h1060]; exact (gs_ne (Ne.symm (ne_ao h1100 h1055))).trans h1100
  have h1102 : M1009[q91]? = some (.inl (0, 800, .inl (fun _ => 0))) := by rw [← h1011]; exact ga_old h1023
  have h1103 : M1059[q91]? = some (.inl (0, 800, .inl (fun _ => 0))) := by rw [← h1060]; exact (gs_ne (Ne.symm (ne_ao h1102 h1055))).trans h1102
  have h1104 : M1009[q119]? = some (.inl (0, 160, .inl (fun _ => 0))) := by rw [← h1011]; exact ga_old h1025
  have h1105 : M1059[q119]? = some (.inl (0, 160, .inl (fun _ => 0))) := by rw [← h1060]; exact (gs_ne (Ne.symm (ne_ao h1104 h1055))).trans h1104
  have h1106 : M1009[q164]? = some (.inl (1, 6, .inr (.inl (fun _ => 0)))) := by rw [← h1011]; exact ga_old h1027
  have h1107 : M1059[q164]? = some (.inl (1, 6, .inr (.inl (fun _ => 0)))) := by rw [← h1060]; exact (gs_ne (Ne.symm (ne_ao h1106 h1055))).trans h1106
  have h1108 : M1009[q205]? = some (.inl (0, 5, .inl (fun _ => 0))) := by rw [← h1011]; exact ga_old h1029
  have h1109 : M1059[q205]? = some (.inl (0, 5, .inl (fun _ => 0))) := by rw [← h1060]; exact (gs_ne (Ne.symm (ne_ao h1108 h1055))).trans h1108
  have h1110 : M1009[q243]? = some (.inl (0, 5, .inl (fun _ => 0))) := by rw [← h1011]; exact ga_old h1031
  have h1111 : M1059[q243]? = some (.inl (0, 5, .inl (fun _ => 0))) := by rw [← h1060]; exact (gs_ne (Ne.symm (ne_ao h1110 h1055))).trans h1110
  have h1112 : M1009[q284]? = some (.inl (0, 400, .inl (fun _ => 0))) := by rw [← h1011]; exact ga_old h1033
  have h1113 : M1059[q284]? = some (.inl (0, 400, .inl (fun _ => 0))) := by rw [← h1060]; exact (gs_ne (Ne.symm (ne_ao h1112 h1055))).trans h1112
  have h1114 : M1009[q328]? = some (.inl (0, 400, .inl (fun _ => 0))) := by rw [← h1011]; exact ga_old h1035
  have h1115 : M1059[q328]? = some (.inl (0, 400, .inl (fun _ => 0))) := by rw [← h1060]; exact (gs_ne (Ne.symm (ne_ao h1114 h1055))).trans h1114
  have h1116 : M1009[q375]? = some (.inl (0, 120, .inl (fun _ => 0))) := by rw [← h1011]; exact ga_old h1037
  have h1117 : M1059[q375]? = some (.inl (0, 120, .inl (fun _ => 0))) := by rw [← h1060]; exact (gs_ne (Ne.symm (ne_ao h1116 h1055))).trans h1116
  have h1118 : M1009[q425]? = some (.inl (1, 120, .inr (.inl (fun _ => 0)))) := by rw [← h1011]; exact ga_old h1039
  have h1119 : M1059[q425]? = some (.inl (1, 120, .inr (.inl (fun _ => 0)))) := by rw [← h1060]; exact (gs_ne (Ne.symm (ne_ao h1118 h1055))).trans h1118
  have h1120 : M1009[q478]? = some (.inl (0, 14, .inl (fun _ => 0))) := by rw [← h1011]; exact ga_old h1041
  have h1121 : M1059[q478]? = some (.inl (0, 14, .inl (fun _ => 0))) := by rw [← h1060]; exact (gs_ne (Ne.symm (ne_ao h1120 h1055))).trans h1120
  have h1122 : M1009[q534]? = some (.inl (0, 14, .inl (fun _ => 0))) := by rw [← h1011]; exact ga_old h1043
  have h1123 : M1059[q534]? = some (.inl (0, 14, .inl (fun _ => 0))) := by rw [← h1060]; exact (gs_ne (Ne.symm (ne_ao h1122 h1055))).trans h1122
  have h1124 : M1009[q593]? = some (.inl (3, 14, .inl (fun _ => 0))) := by rw [← h1011]; exact ga_old h1045
  have h1125 : M1059[q593]? = some (.inl (3, 14, .inl (fun _ => 0))) := by rw [← h1060]; exact (gs_ne (Ne.symm (ne_ao h1124 h1055))).trans h1124
  have h1126 : M1009[q655]? = some (.inl (0, 80, .inl (fun _ => 0))) := by rw [← h1011]; exact ga_old h1047
  have h1127 : M1059[q655]? = some (.inl (0, 80, .inl (fun _ => 0))) := by rw [← h1060]; exact (gs_ne (Ne.symm (ne_ao h1126 h1055))).trans h1126
  have h1128 : M1009[q720]? = some (.inl (0, 5, .inl (fun _ => 0))) := by rw [← h1011]; exact ga_old h1049
  have h1129 : M1059[q720]? = some (.inl (0, 5, .inl (fun _ => 0))) := by rw [← h1060]; exact (gs_ne (Ne.symm (ne_ao h1128 h1055))).trans h1128
  have h1130 : M1009[q788]? = some (.inl (1, 9900, .inr (.inl (fun _ => 0)))) := by rw [← h1011]; exact ga_old h1051
  have h1131 : M1059[q788]? = some (.inl (1, 9900, .inr (.inl (fun _ => 0)))) := by rw [← h1060]; exact (gs_ne (Ne.symm (ne_ao h1130 h1055))).trans h1130
  have h1132 : M1009[q859]? = some (.inl (0, 1650, .inl (fun _ => 0))) := by rw [← h1011]; exact ga_old h1053
  have h1133 : M1059[q859]? = some (.inl (0, 1650, .inl (fun _ => 0))) := by rw [← h1060]; exact (gs_ne (Ne.symm (ne_ao h1132 h1055))).trans h1132
  have h1134 : M1009[q933]? = some (.inl (0, 11, .inl (fun _ => 0))) := by rw [← h1011]; exact ga_old h1054
  have h1135 : M1059[q933]? = some (.inl (0, 11, .inl (fun _ => 0))) := by rw [← h1060]; exact (gs_ne (Ne.symm (ne_ao h1134 h1055))).trans h1134
  have h1136 : M1059[q1010]? = some (.inl (1, 900, .inr (.inl (fun _ => 0)))) := by rw [← h1060]; exact (gs_ne (Ne.symm (ne_ao h1013 h1055))).trans h1013
  have h1137 : M1089[x0]? = some (.inr (10, fs1057)) := by rw [← h1091]; exact ga_old h1061
  have h1138 : 53 < fs1057.length := Nat.lt_of_lt_of_le (by decide) h1085
  refine pf_Mo_82 ok hin d_Mo_init_199 h1137 h1138 (fun _ => ⟨rfl, rfl⟩) ?_
  rw [h1140]
  rw [h1142]
  have h1143 : M1141[x0]? = some (.inr (10, fs1139)) := by rw [← h1142]; exact gs_eq h1137
  have h1144 : fs1139[0]? = some (.ref q5) := by rw [← h1140]; exact (List.getElem?_set_ne (by decide : 53 ≠ 0)).trans h1062
  have h1145 : fs1139[2]? = some (.ref q25) := by rw [← h1140]; exact (List.getElem?_set_ne (by decide : 53 ≠ 2)).trans h1063
  have h1146 : fs1139[4]? = some (.ref q44) := by rw [← h1140]; exact (List.getElem?_set_ne (by decide : 53 ≠ 4)).trans h1064
  have h1147 : fs1139[5]? = some (.ref q66) := by rw [← h1140]; exact (List.getElem?_set_ne (by decide : 53 ≠ 5)).trans h1065
  have h1148 : fs1139[6]? = some (.ref q91) := by rw [← h1140]; exact (List.getElem?_set_ne (by decide : 53 ≠ 6)).trans h1066
  have h1149 : fs1139[12]? = some (.ref q119) := by rw [← h1140]; exact (List.getElem?_set_ne (by decide : 53 ≠ 12)).trans h1067
  have h1150 : fs1139[14]? = some (.int (-1)) := by rw [← h1140]; exact (List.getElem?_set_ne (by decide : 53 ≠ 14)).trans h1068
  have h1151 : fs1139[23]? = some (.ref q164) := by rw [← h1140]; exact (List.getElem?_set_ne (by decide : 53 ≠ 23)).trans h1069
  have h1152 : fs1139[28]? = some (.ref q205) := by rw [← h1140]; exact (List.getElem?_set_ne (by decide : 53 ≠ 28)).trans h1070
  have h1153 : fs1139[29]? = some (.ref q243) := by rw [← h1140]; exact (List.getElem?_set_ne (by decide : 53 ≠ 29)).trans h1071
  have h1154 : fs1139[30]? = some (.ref q284) := by rw [← h1140]; exact (List.getElem?_set_ne (by decide : 53 ≠ 30)).trans h1072
  have h1155 : fs1139[31]? = some (.ref q328) := by rw [← h1140]; exact (List.getElem?_set_ne (by decide : 53 ≠ 31)).trans h1073
  have h1156 : fs1139[33]? = some (.ref q375) := by rw [← h1140]; exact (List.getElem?_set_ne (by decide : 53 ≠ 33)).trans h1074
  have h1157 : fs1139[34]? = some (.ref q425) := by rw [← h1140]; exact (List.getElem?_set_ne (by decide : 53 ≠ 34)).trans h1075
  have h1158 : fs1139[36]? = some (.ref q478) := by rw [← h1140]; exact (List.getElem?_set_ne (by decide : 53 ≠ 36)).trans h1076
  have h1159 : fs1139[37]? = some (.ref q534) := by rw [← h1140]; exact (List.getElem?_set_ne (by decide : 53 ≠ 37)).trans h1077
  have h1160 : fs1139[38]? = some (.ref q593) := by rw [← h1140]; exact (List.getElem?_set_ne (by decide : 53 ≠ 38)).trans h1078
  have h1161 : fs1139[40]? = some (.ref q655) := by rw [← h1140]; exact (List.getElem?_set_ne (by decide : 53 ≠ 40)).trans h1079
  have h1162 : fs1139[42]? = some (.ref q720) := by rw [← h1140]; exact (List.getElem?_set_ne (by decide : 53 ≠ 42)).trans h1080
  have h1163 : fs1139[47]? = some (.ref q788) := by rw [← h1140]; exact (List.getElem?_set_ne (by decide : 53 ≠ 47)).trans h1081
  have h1164 : fs1139[48]? = some (.ref q859) := by rw [← h1140]; exact (List.getElem?_set_ne (by decide : 53 ≠ 48)).trans h1082
  have h1165 : fs1139[49]? = some (.ref q933) := by rw [← h1140]; exact (List.getElem?_set_ne (by decide : 53 ≠ 49)).trans h1083
  have h1166 : fs1139[52]? = some (.ref q1010) := by rw [← h1140]; exact (List.getElem?_set_ne (by decide : 53 ≠ 52)).trans h1084
  have h1167 : fs1139[53]? = some (.ref q1090) := by rw [← h1140]; exact List.getElem?_set_self h1138
  have h1168 : 59 ≤ fs1139.length := by rw [← h1140, List.length_set]; exact h1085
  refine g_aload_n ok d_Mo_init_202 rfl (j := 0) rfl ?_
  refine g_sipush (v := 150) ok d_Mo_init_203 (by decide) ?_
  refine g_newa (atype := .int) (ty := .int) (t := 0) (N := 150) (a0 := (150, .inl (fun _ => 0))) ok (List.mem_cons_of_mem _ (gT_at 83 (by decide +kernel) (by decide +kernel))) rfl rfl (fun _ => rfl) (fun _ => rfl) (by decide) (by decide) (by decide) d_Mo_init_206 h1169 h1170 h1171 ?_
  rw [h1174, h1175]
  have h1176 : M1172[q1173]? = some (.inl (0, 150, .inl (fun _ => 0))) := by rw [← h1174, ← h1175]; exact ga_new _ _
  have h1177 : M1089[q5]? = some (.inl (1, 144, .inr (.inl (fun _ => 0)))) := by rw [← h1091]; exact ga_old h1095
  have h1178 : M1141[q5]? = some (.inl (1, 144, .inr (.inl (fun _ => 0)))) := by rw [← h1142]; exact (gs_ne (Ne.symm (ne_ao h1177 h1137))).trans h1177
  have h1179 : M1089[q25]? = some (.inl (1, 144, .inr (.inl (fun _ => 0)))) := by rw [← h1091]; exact ga_old h1097
  have h1180 : M1141[q25]? = some (.inl (1, 144, .inr (.inl (fun _ => 0)))) := by rw [← h1142]; exact (gs_ne (Ne.symm (ne_ao h1179 h1137))).trans h1179
  have h1181 : M1089[q44]? = some (.inl (1, 2400, .inr (.inl (fun _ => 0)))) := by rw [← h1091]; exact ga_old h1099
  have h1182 : M1141[q44]? = some (.inl (1, 2400, .inr (.inl (fun _ => 0)))) := by rw [← h1142]; exact (gs_ne (Ne.symm (ne_ao h1181 h1137))).trans h1181
  have h1183 : M1089[q66]? = some (.inl (3, 800, .inl (fun _ => 0))) := by rw [← h1091]; exact ga_old h1101
  have h1184 : M1141[q66]? = some (.inl (3, 800, .inl (fun _ => 0))) := by rw [← h1142]; exact (gs_ne (Ne.symm (ne_ao h1183 h1137))).trans h1183
  have h1185 : M1089[q91]? = some (.inl (0, 800, .inl (fun _ => 0))) := by rw [← h1091]; exact ga_old h1103
  have h1186 : M1141[q91]? = some (.inl (0, 800, .inl (fun _ => 0))) := by rw [← h1142]; exact (gs_ne (Ne.symm (ne_ao h1185 h1137))).trans h1185
  have h1187 : M1089[q119]? = some (.inl (0, 160, .inl (fun _ => 0))) := by rw [← h1091]; exact ga_old h1105
  have h1188 : M1141[q119]? = some (.inl (0, 160, .inl (fun _ => 0))) := by rw [← h1142]; exact (gs_ne (Ne.symm (ne_ao h1187 h1137))).trans h1187
  have h1189 : M1089[q164]? = some (.inl (1, 6, .inr (.inl (fun _ => 0)))) := by rw [← h1091]; exact ga_old h1107
  have h1190 : M1141[q164]? = some (.inl (1, 6, .inr (.inl (fun _ => 0)))) := by rw [← h1142]; exact (gs_ne (Ne.symm (ne_ao h1189 h1137))).trans h1189
  have h1191 : M1089[q205]? = some (.inl (0, 5, .inl (fun _ => 0))) := by rw [← h1091]; exact ga_old h1109
  have h1192 : M1141[q205]? = some (.inl (0, 5, .inl (fun _ => 0))) := by rw [← h1142]; exact (gs_ne (Ne.symm (ne_ao h1191 h1137))).trans h1191
  have h1193 : M1089[q243]? = some (.inl (0, 5, .inl (fun _ => 0))) := by rw [← h1091]; exact ga_old h1111
  have h1194 : M1141[q243]? = some (.inl (0, 5, .inl (fun _ => 0))) := by rw [← h1142]; exact (gs_ne (Ne.symm (ne_ao h1193 h1137))).trans h1193
  have h1195 : M1089[q284]? = some (.inl (0, 400, .inl (fun _ => 0))) := by rw [← h1091]; exact ga_old h1113
  have h1196 : M1141[q284]? = some (.inl (0, 400, .inl (fun _ => 0))) := by rw [← h1142]; exact (gs_ne (Ne.symm (ne_ao h1195 h1137))).trans h1195
  have h1197 : M1089[q328]? = some (.inl (0, 400, .inl (fun _ => 0))) := by rw [← h1091]; exact ga_old h1115
  have h1198 : M1141[q328]? = some (.inl (0, 400, .inl (fun _ => 0))) := by rw [← h1142]; exact (gs_ne (Ne.symm (ne_ao h1197 h1137))).trans h1197
  have h1199 : M1089[q375]? = some (.inl (0, 120, .inl (fun _ => 0))) := by rw [← h1091]; exact ga_old h1117
  have h1200 : M1141[q375]? = some (.inl (0, 120, .inl (fun _ => 0))) := by rw [← h1142]; exact (gs_ne (Ne.symm (ne_ao h1199 h1137))).trans h1199
  have h1201 : M1089[q425]? = some (.inl (1, 120, .inr (.inl (fun _ => 0)))) := by rw [← h1091]; exact ga_old h1119
  have h1202 : M1141[q425]? = some (.inl (1, 120, .inr (.inl (fun _ => 0)))) := by rw [← h1142]; exact (gs_ne (Ne.symm (ne_ao h1201 h1137))).trans h1201
  have h1203 : M1089[q478]? = some (.inl (0, 14, .inl (fun _ => 0))) := by rw [← h1091]; exact ga_old h1121
  have h1204 : M1141[q478]? = some (.inl (0, 14, .inl (fun _ => 0))) := by rw [← h1142]; exact (gs_ne (Ne.symm (ne_ao h1203 h1137))).trans h1203
  have h1205 : M1089[q534]? = some (.inl (0, 14, .inl (fun _ => 0))) := by rw [← h1091]; exact ga_old h1123
  have h1206 : M1141[q534]? = some (.inl (0, 14, .inl (fun _ => 0))) := by rw [← h1142]; exact (gs_ne (Ne.symm (ne_ao h1205 h1137))).trans h1205
  have h1207 : M1089[q593]? = some (.inl (3, 14, .inl (fun _ => 0))) := by rw [← h1091]; exact ga_old h1125
  have h1208 : M1141[q593]? = some (.inl (3, 14, .inl (fun _ => 0))) := by rw [← h1142]; exact (gs_ne (Ne.symm (ne_ao h1207 h1137))).trans h1207
  have h1209 : M1089[q655]? = some (.inl (0, 80, .inl (fun _ => 0))) := by rw [← h1091]; exact ga_old h1127
  have h1210 : M1141[q655]? = some (.inl (0, 80, .inl (fun _ => 0))) := by rw [← h1142]; exact (gs_ne (Ne.symm (ne_ao h1209 h1137))).trans h1209
  have h1211 : M1089[q720]? = some (.inl (0, 5, .inl (fun _ => 0))) := by rw [← h1091]; exact ga_old h1129
  have h1212 : M1141[q720]? = some (.inl (0, 5, .inl (fun _ => 0))) := by rw [← h1142]; exact (gs_ne (Ne.symm (ne_ao h1211 h1137))).trans h1211
  have h1213 : M1089[q788]? = some (.inl (1, 9900, .inr (.inl (fun _ => 0)))) := by rw [← h1091]; exact ga_old h1131
  have h1214 : M1141[q788]? = some (.inl (1, 9900, .inr (.inl (fun _ => 0)))) := by rw [← h1142]; exact (gs_ne (Ne.symm (ne_ao h1213 h1137))).trans h1213
  have h1215 : M1089[q859]? = some (.inl (0, 1650, .inl (fun _ => 0))) := by rw [← h1091]; exact ga_old h1133
  have h1216 : M1141[q859]? = some (.inl (0, 1650, .inl (fun _ => 0))) := by rw [← h1142]; exact (gs_ne (Ne.symm (ne_ao h1215 h1137))).trans h1215
  have h1217 : M1089[q933]? = some (.inl (0, 11, .inl (fun _ => 0))) := by rw [← h1091]; exact ga_old h1135
  have h1218 : M1141[q933]? = some (.inl (0, 11, .inl (fun _ => 0))) := by rw [← h1142]; exact (gs_ne (Ne.symm (ne_ao h1217 h1137))).trans h1217
  have h1219 : M1089[q1010]? = some (.inl (1, 900, .inr (.inl (fun _ => 0)))) := by rw [← h1091]; exact ga_old h1136
  have h1220 : M1141[q1010]? = some (.inl (1, 900, .inr (.inl (fun _ => 0)))) := by rw [← h1142]; exact (gs_ne (Ne.symm (ne_ao h1219 h1137))).trans h1219
  have h1221 : M1141[q1090]? = some (.inl (0, 150, .inl (fun _ => 0))) := by rw [← h1142]; exact (gs_ne (Ne.symm (ne_ao h1093 h1137))).trans h1093
  have h1222 : M1172[x0]? = some (.inr (10, fs1139)) := by rw [← h1174]; exact ga_old h1143
  have h1223 : 54 < fs1139.length := Nat.lt_of_lt_of_le (by decide) h1168
  refine pf_Mo_85 ok hin d_Mo_init_208 h1222 h1223 (fun _ => ⟨rfl, rfl⟩) ?_
  rw [h1225]
  rw [h1227]
  have h1228 : M1226[x0]? = some (.inr (10, fs1224)) := by rw [← h1227]; exact gs_eq h1222
  have h1229 : fs1224[0]? = some (.ref q5) := by rw [← h1225]; exact (List.getElem?_set_ne (by decide : 54 ≠ 0)).trans h1144
  have h1230 : fs1224[2]? = some (.ref q25) := by rw [← h1225]; exact (List.getElem?_set_ne (by decide : 54 ≠ 2)).trans h1145
  have h1231 : fs1224[4]? = some (.ref q44) := by rw [← h1225]; exact (List.getElem?_set_ne (by decide : 54 ≠ 4)).trans h1146
  have h1232 : fs1224[5]? = some (.ref q66) := by rw [← h1225]; exact (List.getElem?_set_ne (by decide : 54 ≠ 5)).trans h1147
  have h1233 : fs1224[6]? = some (.ref q91) := by rw [← h1225]; exact (List.getElem?_set_ne (by decide : 54 ≠ 6)).trans h1148
  have h1234 : fs1224[12]? = some (.ref q119) := by rw [← h1225]; exact (List.getElem?_set_ne (by decide : 54 ≠ 12)).trans h1149
  have h1235 : fs1224[14]? = some (.int (-1)) := by rw [← h1225]; exact (List.getElem?_set_ne (by decide : 54 ≠ 14)).trans h1150
  have h1236 : fs1224[23]? = some (.ref q164) := by rw [← h1225]; exact (List.getElem?_set_ne (by decide : 54 ≠ 23)).trans h1151
  have h1237 : fs1224[28]? = some (.ref q205) := by rw [← h1225]; exact (List.getElem?_set_ne (by decide : 54 ≠ 28)).trans h1152
  have h1238 : fs1224[29]? = some (.ref q243) := by rw [← h1225]; exact (List.getElem?_set_ne (by decide : 54 ≠ 29)).trans h1153
  have h1239 : fs1224[30]? = some (.ref q284) := by rw [← h1225]; exact (List.getElem?_set_ne (by decide : 54 ≠ 30)).trans h1154
  have h1240 : fs1224[31]? = some (.ref q328) := by rw [← h1225]; exact (List.getElem?_set_ne (by decide : 54 ≠ 31)).trans h1155
  have h1241 : fs1224[33]? = some (.ref q375) := by rw [← h1225]; exact (List.getElem?_set_ne (by decide : 54 ≠ 33)).trans h1156
  have h1242 : fs1224[34]? = some (.ref q425) := by rw [← h1225]; exact (List.getElem?_set_ne (by decide : 54 ≠ 34)).trans h1157
  have h1243 : fs1224[36]? = some (.ref q478) := by rw [← h1225]; exact (List.getElem?_set_ne (by decide : 54 ≠ 36)).trans h1158
  have h1244 : fs1224[37]? = some (.ref q534) := by rw [← h1225]; exact (List.getElem?_set_ne (by decide : 54 ≠ 37)).trans h1159
  have h1245 : fs1224[38]? = some (.ref q593) := by rw [← h1225]; exact (List.getElem?_set_ne (by decide : 54 ≠ 38)).trans h1160
  have h1246 : fs1224[40]? = some (.ref q655) := by rw [← h1225]; exact (List.getElem?_set_ne (by decide : 54 ≠ 40)).trans h1161
  have h1247 : fs1224[42]? = some (.ref q720) := by rw [← h1225]; exact (List.getElem?_set_ne (by decide : 54 ≠ 42)).trans h1162
  have h1248 : fs1224[47]? = some (.ref q788) := by rw [← h1225]; exact (List.getElem?_set_ne (by decide : 54 ≠ 47)).trans h1163
  have h1249 : fs1224[48]? = some (.ref q859) := by rw [← h1225]; exact (List.getElem?_set_ne (by decide : 54 ≠ 48)).trans h1164
  have h1250 : fs1224[49]? = some (.ref q933) := by rw [← h1225]; exact (List.getElem?_set_ne (by decide : 54 ≠ 49)).trans h1165
  have h1251 : fs1224[52]? = some (.ref q1010) := by rw [← h1225]; exact (List.getElem?_set_ne (by decide : 54 ≠ 52)).trans h1166
  have h1252 : fs1224[53]? = some (.ref q1090) := by rw [← h1225]; exact (List.getElem?_set_ne (by decide : 54 ≠ 53)).trans h1167
  have h1253 : fs1224[54]? = some (.ref q1173) := by rw [← h1225]; exact List.getElem?_set_self h1223
  have h1254 : 59 ≤ fs1224.length := by rw [← h1225, List.length_set]; exact h1168
  refine g_aload_n ok d_Mo_init_211 rfl (j := 0) rfl ?_
  refine g_bipush (v := 80) ok d_Mo_init_212 (by decide) ?_
  refine g_newa (atype := .int) (ty := .int) (t := 0) (N := 80) (a0 := (80, .inl (fun _ => 0))) ok (List.mem_cons_of_mem _ (gT_at 83 (by decide +kernel) (by decide +kernel))) rfl rfl (fun _ => rfl) (fun _ => rfl) (by decide) (by decide) (by decide) d_Mo_init_214 h1255 h1256 h1257 ?_
  rw [h1260, h1261]
  have h1262 : M1258[q1259]? = some (.inl (0, 80, .inl (fun _ => 0))) := by rw [← h1260, ← h1261]; exact ga_new _ _
  have h1263 : M1172[q5]? = some (.inl (1, 144, .inr (.inl (fun _ => 0)))) := by rw [← h1174]; exact ga_old h1178
  have h1264 : M1226[q5]? = some (.inl (1, 144, .inr (.inl (fun _ => 0)))) := by rw [← h1227]; exact (gs_ne (Ne.symm (ne_ao h1263 h1222))).trans h1263
  have h1265 : M1172[q25]? = some (.inl (1, 144, .inr (.inl (fun _ => 0)))) := by rw [← h1174]; exact ga_old h1180
  have h1266 : M1226[q25]? = some (.inl (1, 144, .inr (.inl (fun _ => 0)))) := by rw [← h1227]; exact (gs_ne (Ne.symm (ne_ao h1265 h1222))).trans h1265
  have h1267 : M1172[q44]? = some (.inl (1, 2400, .inr (.inl (fun _ => 0)))) := by rw [← h1174]; exact ga_old h1182
  have h1268 : M1226[q44]? = some (.inl (1, 2400, .inr (.inl (fun _ => 0)))) := by rw [← h1227]; exact (gs_ne (Ne.symm (ne_ao h1267 h1222))).trans h1267
  have h1269 : M1172[q66]? = some (.inl (3, 800, .inl (fun _ => 0))) := by rw [← h1174]; exact ga_old h1184
  have h1270 : M1226[q66]? = some (.inl (3, 800, .inl (fun _ => 0))) := by rw [← h1227]; exact (gs_ne (Ne.symm (ne_ao h1269 h1222))).trans h1269
  have h1271 : M1172[q91]? = some (.inl (0, 800, .inl (fun _ => 0))) := by rw [← h1174]; exact ga_old h1186
  have h1272 : M1226[q91]? = some (.inl (0, 800, .inl (fun _ => 0))) := by rw [← h1227]; exact (gs_ne (Ne.symm (ne_ao h1271 h1222))).trans h1271
  have h1273 : M1172[q119]? = some (.inl (0, 160, .inl (fun _ => 0))) := by rw [← h1174]; exact ga_old h1188
  have h1274 : M1226[q119]? = some (.inl (0, 160, .inl (fun _ => 0))) := by rw [← h1227]; exact (gs_ne (Ne.symm (ne_ao h1273 h1222))).trans h1273
  have h1275 : M1172[q164]? = some (.inl (1, 6, .inr (.inl (fun _ => 0)))) := by rw [← h1174]; exact ga_old h1190
  have h1276 : M1226[q164]? = some (.inl (1, 6, .inr (.inl (fun _ => 0)))) := by rw [← h1227]; exact (gs_ne (Ne.symm (ne_ao h1275 h1222))).trans h1275
  have h1277 : M1172[q205]? = some (.inl (0, 5, .inl (fun _ => 0))) := by rw [← h1174]; exact ga_old h1192
  have h1278 : M1226[q205]? = some (.inl (0, 5, .inl (fun _ => 0))) := by rw [← h1227]; exact (gs_ne (Ne.symm (ne_ao h1277 h1222))).trans h1277
  have h1279 : M1172[q243]? = some (.inl (0, 5, .inl (fun _ => 0))) := by rw [← h1174]; exact ga_old h1194
  have h1280 : M1226[q243]? = some (.inl (0, 5, .inl (fun _ => 0))) := by rw [← h1227]; exact (gs_ne (Ne.symm (ne_ao h1279 h1222))).trans h1279
  have h1281 : M1172[q284]? = some (.inl (0, 400, .inl (fun _ => 0))) := by rw [← h1174]; exact ga_old h1196
  have h1282 : M1226[q284]? = some (.inl (0, 400, .inl (fun _ => 0))) := by rw [← h1227]; exact (gs_ne (Ne.symm (ne_ao h1281 h1222))).trans h1281
  have h1283 : M1172[q328]? = some (.inl (0, 400, .inl (fun _ => 0))) := by rw [← h1174]; exact ga_old h1198
  have h1284 : M1226[q328]? = some (.inl (0, 400, .inl (fun _ => 0))) := by rw [← h1227]; exact (gs_ne (Ne.symm (ne_ao h1283 h1222))).trans h1283
  have h1285 : M1172[q375]? = some (.inl (0, 120, .inl (fun _ => 0))) := by rw [← h1174]; exact ga_old h1200
  have h1286 : M1226[q375]? = some (.inl (0, 120, .inl (fun _ => 0))) := by rw [← h1227]; exact (gs_ne (Ne.symm (ne_ao h1285 h1222))).trans h1285
  have h1287 : M1172[q425]? = some (.inl (1, 120, .inr (.inl (fun _ => 0)))) := by rw [← h1174]; exact ga_old h1202
  have h1288 : M1226[q425]? = some (.inl (1, 120, .inr (.inl (fun _ => 0)))) := by rw [← h1227]; exact (gs_ne (Ne.symm (ne_ao h1287 h1222))).trans h1287
  have h1289 : M1172[q478]? = some (.inl (0, 14, .inl (fun _ => 0))) := by rw [← h1174]; exact ga_old h1204
  have h1290 : M1226[q478]? = some (.inl (0, 14, .inl (fun _ => 0))) := by rw [← h1227]; exact (gs_ne (Ne.symm (ne_ao h1289 h1222))).trans h1289
  have h1291 : M1172[q534]? = some (.inl (0, 14, .inl (fun _ => 0))) := by rw [← h1174]; exact ga_old h1206
  have h1292 : M1226[q534]? = some (.inl (0, 14, .inl (fun _ => 0))) := by rw [← h1227]; exact (gs_ne (Ne.symm (ne_ao h1291 h1222))).trans h1291
  have h1293 : M1172[q593]? = some (.inl (3, 14, .inl (fun _ => 0))) := by rw [← h1174]; exact ga_old h1208
  have h1294 : M1226[q593]? = some (.inl (3, 14, .inl (fun _ => 0))) := by rw [← h1227]; exact (gs_ne (Ne.symm (ne_ao h1293 h1222))).trans h1293
  have h1295 : M1172[q655]? = some (.inl (0, 80, .inl (fun _ => 0))) := by rw [← h1174]; exact ga_old h1210
  have h1296 : M1226[q655]? = some (.inl (0, 80, .inl (fun _ => 0))) := by rw [← h1227]; exact (gs_ne (Ne.symm (ne_ao h1295 h1222))).trans h1295
  have h1297 : M1172[q720]? = some (.inl (0, 5, .inl (fun _ => 0))) := by rw [← h1174]; exact ga_old h1212
  have h1298 : M1226[q720]? = some (.inl (0, 5, .inl (fun _ => 0))) := by rw [← h1227]; exact (gs_ne (Ne.symm (ne_ao h1297 h1222))).trans h1297
  have h1299 : M1172[q788]? = some (.inl (1, 9900, .inr (.inl (fun _ => 0)))) := by rw [← h1174]; exact ga_old h1214
  have h1300 : M1226[q788]? = some (.inl (1, 9900, .inr (.inl (fun _ => 0)))) := by rw [← h1227]; exact (gs_ne (Ne.symm (ne_ao h1299 h1222))).trans h1299
  have h1301 : M1172[q859]? = some (.inl (0, 1650, .inl (fun _ => 0))) := by rw [← h1174]; exact ga_old h1216
  have h1302 : M1226[q859]? = some (.inl (0, 1650, .inl (fun _ => 0))) := by rw [← h1227]; exact (gs_ne (Ne.symm (ne_ao h1301 h1222))).trans h1301
  have h1303 : M1172[q933]? = some (.inl (0, 11, .inl (fun _ => 0))) := by rw [← h1174]; exact ga_old h1218
  have h1304 : M1226[q933]? = some (.inl (0, 11, .inl (fun _ => 0))) := by rw [← h1227]; exact (gs_ne (Ne.symm (ne_ao h1303 h1222))).trans h1303
  have h1305 : M1172[q1010]? = some (.inl (1, 900, .inr (.inl (fun _ => 0)))) := by rw [← h1174]; exact ga_old h1220
  have h1306 : M1226[q1010]? = some (.inl (1, 900, .inr (.inl (fun _ => 0)))) := by rw [← h1227]; exact (gs_ne (Ne.symm (ne_ao h1305 h1222))).trans h1305
  have h1307 : M1172[q1090]? = some (.inl (0, 150, .inl (fun _ => 0))) := by rw [← h1174]; exact ga_old h1221
  have h1308 : M1226[q1090]? = some (.inl (0, 150, .inl (fun _ => 0))) := by rw [← h1227]; exact (gs_ne (Ne.symm (ne_ao h1307 h1222))).trans h1307
  have h1309 : M1226[q1173]? = some (.inl (0, 150, .inl (fun _ => 0))) := by rw [← h1227]; exact (gs_ne (Ne.symm (ne_ao h1176 h1222))).trans h1176
  have h1310 : M1258[x0]? = some (.inr (10, fs1224)) := by rw [← h1260]; exact ga_old h1228
  have h1311 : 56 < fs1224.length := Nat.lt_of_lt_of_le (by decide) h1254
  refine pf_Mo_88 ok hin d_Mo_init_216 h1310 h1311 (fun _ => ⟨rfl, rfl⟩) ?_
  rw [h1313]
  rw [h1315]
  have h1316 : M1314[x0]? = some (.inr (10, fs1312)) := by rw [← h1315]; exact gs_eq h1310
  have h1317 : fs1312[0]? = some (.ref q5) := by rw [← h1313]; exact (List.getElem?_set_ne (by decide : 56 ≠ 0)).trans h1229
  have h1318 : fs1312[2]? = some (.ref q25) := by rw [← h1313]; exact (List.getElem?_set_ne (by decide : 56 ≠ 2)).trans h1230
  have h1319 : fs1312[4]? = some (.ref q44) := by rw [← h1313]; exact (List.getElem?_set_ne (by decide : 56 ≠ 4)).trans h1231
  have h1320 : fs1312[5]? = some (.ref q66) := by rw [← h1313]; exact (List.getElem?_set_ne (by decide : 56 ≠ 5)).trans h1232
  have h1321 : fs1312[6]? = some (.ref q91) := by rw [← h1313]; exact (List.getElem?_set_ne (by decide : 56 ≠ 6)).trans h1233
  have h1322 : fs1312[12]? = some (.ref q119) := by rw [← h1313]; exact (List.getElem?_set_ne (by decide : 56 ≠ 12)).trans h1234
  have h1323 : fs1312[14]? = some (.int (-1)) := by rw [← h1313]; exact (List.getElem?_set_ne (by decide : 56 ≠ 14)).trans h1235
  have h1324 : fs1312[23]? = some (.ref q164) := by rw [← h1313]; exact (List.getElem?_set_ne (by decide : 56 ≠ 23)).trans h1236
  have h1325 : fs1312[28]? = some (.ref q205) := by rw [← h1313]; exact (List.getElem?_set_ne (by decide : 56 ≠ 28)).trans h1237
  have h1326 : fs1312[29]? = some (.ref q243) := by rw [← h1313]; exact (List.getElem?_set_ne (by decide : 56 ≠ 29)).trans h1238
  have h1327 : fs1312[30]? = some (.ref q284) := by rw [← h1313]; exact (List.getElem?_set_ne (by decide : 56 ≠ 30)).trans h1239
  have h1328 : fs1312[31]? = some (.ref q328) := by rw [← h1313]; exact (List.getElem?_set_ne (by decide : 56 ≠ 31)).trans h1240
  have h1329 : fs1312[33]? = some (.ref q375) := by rw [← h1313]; exact (List.getElem?_set_ne (by decide : 56 ≠ 33)).trans h1241
  have h1330 : fs1312[34]? = some (.ref q425) := by rw [← h1313]; exact (List.getElem?_set_ne (by decide : 56 ≠ 34)).trans h1242
  have h1331 : fs1312[36]? = some (.ref q478) := by rw [← h1313]; exact (List.getElem?_set_ne (by decide : 56 ≠ 36)).trans h1243
  have h1332 : fs1312[37]? = some (.ref q534) := by rw [← h1313]; exact (List.getElem?_set_ne (by decide : 56 ≠ 37)).trans h1244
  have h1333 : fs1312[38]? = some (.ref q593) := by rw [← h1313]; exact (List.getElem?_set_ne (by decide : 56 ≠ 38)).trans h1245
  have h1334 : fs1312[40]? = some (.ref q655) := by rw [← h1313]; exact (List.getElem?_set_ne (by decide : 56 ≠ 40)).trans h1246
  have h1335 : fs1312[42]? = some (.ref q720) := by rw [← h1313]; exact (List.getElem?_set_ne (by decide : 56 ≠ 42)).trans h1247
  have h1336 : fs1312[47]? = some (.ref q788) := by rw [← h1313]; exact (List.getElem?_set_ne (by decide : 56 ≠ 47)).trans h1248
  have h1337 : fs1312[48]? = some (.ref q859) := by rw [← h1313]; exact (List.getElem?_set_ne (by decide : 56 ≠ 48)).trans h1249
  have h1338 : fs1312[49]? = some (.ref q933) := by rw [← h1313]; exact (List.getElem?_set_ne (by decide : 56 ≠ 49)).trans h1250
  have h1339 : fs1312[52]? = some (.ref q1010) := by rw [← h1313]; exact (List.getElem?_set_ne (by decide : 56 ≠ 52)).trans h1251
  have h1340 : fs1312[53]? = some (.ref q1090) := by rw [← h1313]; exact (List.getElem?_set_ne (by decide : 56 ≠ 53)).trans h1252
  have h1341 : fs1312[54]? = some (.ref q1173) := by rw [← h1313]; exact (List.getElem?_set_ne (by decide : 56 ≠ 54)).trans h1253
  have h1342 : fs1312[56]? = some (.ref q1259) := by rw [← h1313]; exact List.getElem?_set_self h1311
  have h1343 : 59 ≤ fs1312.length := by rw [← h1313, List.length_set]; exact h1254
  exact g_vret ok E d_Mo_init_219 hp hk hn
theorem k_Mo_thrown_0 {X : gC} {M : List mC} {k n : Nat} {x0 : Nat} {fs2 : List Value} {f3 : Int32} (ok : gO X c_Mo_thrown "TripleStoreModel" w_Mo_thrown) (h1 : M[x0]? = some (.inr (10, fs2))) (h4 : fs2[58]? = some (.int f3)) {l9 : Launch} {rm : Room} {M0 : List mC} {post : Option Value → List mC → Prop} (E : gE X l9 y_Mo_thrown rm 1 (some .int) M0 post) (hp : post (some (.int f3)) M) (hk : k ≤ rm.cells) (hn : n ≤ rm.slots) : gg X M k n 0 [(0, .ref x0)] [] := by
  refine g_aload_n ok d_Mo_thrown_0 rfl (j := 0) rfl ?_
  refine gf_Mo_91 ok d_Mo_thrown_1 h1 h4 ?_
  exact g_iret ok E d_Mo_thrown_4 hp hk hn
theorem k_Mo_in_0 {X : gC} {M : List mC} {k n : Nat} {x0 : Int32} {x1 : Int32} {x2 : Int32} (ok : gO X c_Mo_in "TripleStoreModel" w_Mo_in)  (kt : x0 < x1 → gg X M k n 14 [] []) (kf : ¬ x0 < x1 → gg X M k n 5 [(0, .int x0), (2, .int x2)] []) : gg X M k n 0 [(0, .int x0), (1, .int x1), (2, .int x2)] [] := by
  refine g_iload_n ok d_Mo_in_0 rfl (j := 0) rfl ?_
  refine g_iload_n ok d_Mo_in_1 rfl (j := 1) rfl ?_
  exact g_icmp_lt (tgt := 14) ok d_Mo_in_2 (by decide) (fun z => (gg_keep [] (kt z))) (fun z => (gg_keep [0, 2] (kf z)))
theorem k_Mo_in_5 {X : gC} {M : List mC} {k n : Nat} {x0 : Int32} {x2 : Int32} (ok : gO X c_Mo_in "TripleStoreModel" w_Mo_in)  (kt : x2 < x0 → gg X M k n 14 [] []) (kf : ¬ x2 < x0 → gg X M k n 10 [] []) : gg X M k n 5 [(0, .int x0), (2, .int x2)] [] := by
  refine g_iload_n ok d_Mo_in_5 rfl (j := 0) rfl ?_
  refine g_iload_n ok d_Mo_in_6 rfl (j := 1) rfl ?_
  exact g_icmp_gt (tgt := 14) ok d_Mo_in_7 (by decide) (fun z => (gg_keep [] (kt z))) (fun z => (gg_keep [] (kf z)))
theorem k_Mo_in_10 {X : gC} {M : List mC} {k n : Nat}  (ok : gO X c_Mo_in "TripleStoreModel" w_Mo_in)  (kk : gg X M k n 15 [] [.int 1]) : gg X M k n 10 [] [] := by
  refine g_iconst (v := 1) ok d_Mo_in_10 (by decide) ?_
  exact g_goto (tgt := 15) ok d_Mo_in_11 (by decide) kk
theorem k_Mo_in_14 {X : gC} {M : List mC} {k n : Nat}  (ok : gO X c_Mo_in "TripleStoreModel" w_Mo_in)  (kk : gg X M k n 15 [] [.int 0]) : gg X M k n 14 [] [] := by
  refine g_iconst (v := 0) ok d_Mo_in_14 (by decide) ?_
  exact kk
theorem k_Mo_in_15 {X : gC} {M : List mC} {k n : Nat} {s0 : Int32} (ok : gO X c_Mo_in "TripleStoreModel" w_Mo_in)  {l9 : Launch} {rm : Room} {M0 : List mC} {post : Option Value → List mC → Prop} (E : gE X l9 y_Mo_in rm 3 (some .boolean) M0 post) (hz : narrow .boolean (.int s0) = .int s0) (hp : post (some (.int s0)) M) (hk : k ≤ rm.cells) (hn : n ≤ rm.slots) : gg X M k n 15 [] [.int s0] := by
  exact g_zret ok E d_Mo_in_15 hz hp hk hn
theorem k_Mo_good_0 {X : gC} {M : List mC} {k n : Nat} {x0 : Nat} {x1 : Int32} {x2 : Int32} (ok : gO X c_Mo_good "TripleStoreModel" w_Mo_good)  (kt : x1 = 0 → gg X M k n 9 [(0, .ref x0), (1, .int x1), (2, .int x2)] [.ref x0]) (kf : ¬ x1 = 0 → gg X M k n 5 [(0, .ref x0), (1, .int x1)] [.ref x0]) : gg X M k n 0 [(0, .ref x0), (1, .int x1), (2, .int x2)] [] := by
  refine g_aload_n ok d_Mo_good_0 rfl (j := 0) rfl ?_
  refine g_iload_n ok d_Mo_good_1 rfl (j := 1) rfl ?_
  exact g_if_eq (tgt := 9) ok d_Mo_good_2 (by decide) (fun z => (kt z)) (fun z => (gg_keep [0, 1] (kf z)))
theorem k_Mo_good_5 {X : gC} {M : List mC} {k n : Nat} {x0 : Nat} {x1 : Int32} (ok : gO X c_Mo_good "TripleStoreModel" w_Mo_good)  (kk : gg X M k n 10 [(0, .ref x0), (1, .int x1)] [.int 0, .ref x0]) : gg X M k n 5 [(0, .ref x0), (1, .int x1)] [.ref x0] := by
  refine g_iconst (v := 0) ok d_Mo_good_5 (by decide) ?_
  exact g_goto (tgt := 10) ok d_Mo_good_6 (by decide) kk
theorem k_Mo_good_9 {X : gC} {M : List mC} {k n : Nat} {x0 : Nat} {x1 : Int32} {x2 : Int32} (ok : gO X c_Mo_good "TripleStoreModel" w_Mo_good)  (kk : gg X M k n 10 [(0, .ref x0), (1, .int x1)] [.int x2, .ref x0]) : gg X M k n 9 [(0, .ref x0), (1, .int x1), (2, .int x2)] [.ref x0] := by
  refine g_iload_n ok d_Mo_good_9 rfl (j := 2) rfl ?_
  exact (gg_keep [0, 1] kk)
theorem k_Mo_good_10 {X : gC} {M : List mC} {k n : Nat} {x0 : Nat} {x1 : Int32} {s1 : Int32} {fs2 : List Value} {fs5 : List Value} {M7 : List mC} (ok : gO X c_Mo_good "TripleStoreModel" w_Mo_good) (h1 : M[x0]? = some (.inr (10, fs2))) (h4 : 59 ≤ fs2.length) (h6 : fs2.set 58 (.int s1) = fs5) (h8 : M.set x0 (.inr (10, fs5)) = M7) {l9 : Launch} {rm : Room} {M0 : List mC} {post : Option Value → List mC → Prop} (E : gE X l9 y_Mo_good rm 3 (some .boolean) M0 post) (hz : narrow .boolean (.int x1) = .int x1) (hp : post (some (.int x1)) M7) (hk : k ≤ rm.cells) (hn : n ≤ rm.slots) : gg X M k n 10 [(0, .ref x0), (1, .int x1)] [.int s1, .ref x0] := by
  have h3 : 58 < fs2.length := Nat.lt_of_lt_of_le (by decide) h4
  refine pf_Mo_91 ok d_Mo_good_10 h1 h3 (fun _ => ⟨rfl, rfl⟩) ?_
  rw [h6]
  rw [h8]
  have h9 : M7[x0]? = some (.inr (10, fs5)) := by rw [← h8]; exact gs_eq h1
  have h10 : fs5[58]? = some (.int s1) := by rw [← h6]; exact List.getElem?_set_self h3
  have h11 : 59 ≤ fs5.length := by rw [← h6, List.length_set]; exact h4
  refine g_iload_n ok d_Mo_good_13 rfl (j := 1) rfl ?_
  exact g_zret ok E d_Mo_good_14 hz hp hk hn
theorem k_Mo_isWord_0 {X : gC} {M : List mC} {k n : Nat} {x0 : Int64} (ok : gO X c_Mo_isWord "TripleStoreModel" w_Mo_isWord)  (kt : 0 < x0 → gg X M k n 8 [(0, .long x0)] []) (kf : ¬ 0 < x0 → gg X M k n 6 [] []) : gg X M k n 0 [(0, .long x0)] [] := by
  refine g_lload_n ok d_Mo_isWord_0 rfl (j := 0) rfl ?_
  refine g_lconst (v := 0) ok d_Mo_isWord_1 (by decide) ?_
  exact g_lc_gt (tgt := 8) ok d_Mo_isWord_2 d_Mo_isWord_3 (by decide) (fun z => (kt z)) (fun z => (gg_keep [] (kf z)))
theorem k_Mo_isWord_6 {X : gC} {M : List mC} {k n : Nat}  (ok : gO X c_Mo_isWord "TripleStoreModel" w_Mo_isWord)  {l9 : Launch} {rm : Room} {M0 : List mC} {post : Option Value → List mC → Prop} (E : gE X l9 y_Mo_isWord rm 5 (some .boolean) M0 post) (hp : post (some (.int 0)) M) (hk : k ≤ rm.cells) (hn : n ≤ rm.slots) : gg X M k n 6 [] [] := by
  refine g_iconst (v := 0) ok d_Mo_isWord_6 (by decide) ?_
  exact g_zret ok E d_Mo_isWord_7 rfl hp hk hn
theorem k_Mo_isWord_8 {X : gC} {M : List mC} {k n : Nat} {x0 : Int64} (ok : gO X c_Mo_isWord "TripleStoreModel" w_Mo_isWord) (hl : gL X = 5)  (kk : gg X M k n 12 [(0, .long x0), (2, .int 0), (3, .int 0)] []) : gg X M k n 8 [(0, .long x0)] [] := by
  refine g_iconst (v := 0) ok d_Mo_isWord_8 (by decide) ?_
  refine g_istore_n (L' := [(0, .long x0), (2, .int 0)]) ok d_Mo_isWord_9 rfl (by rw [hl]; decide) rfl ?_
  refine g_iconst (v := 0) ok d_Mo_isWord_10 (by decide) ?_
  refine g_istore_n (L' := [(0, .long x0), (2, .int 0), (3, .int 0)]) ok d_Mo_isWord_11 rfl (by rw [hl]; decide) rfl ?_
  exact kk
theorem k_Mo_isWord_12 {X : gC} {M : List mC} {k n : Nat} {x0 : Int64} {x2 : Int32} {x3 : Int32} (ok : gO X c_Mo_isWord "TripleStoreModel" w_Mo_isWord)  (kt : 8 ≤ x3 → gg X M k n 74 [] []) (kf : ¬ 8 ≤ x3 → gg X M k n 18 [(0, .long x0), (2, .int x2), (3, .int x3)] []) : gg X M k n 12 [(0, .long x0), (2, .int x2), (3, .int x3)] [] := by
  refine g_iload_n ok d_Mo_isWord_12 rfl (j := 2) rfl ?_
  refine g_bipush (v := 8) ok d_Mo_isWord_13 (by decide) ?_
  exact g_icmp_ge (tgt := 74) ok d_Mo_isWord_15 (by decide) (fun z => (gg_keep [] (kt z))) (fun z => (kf z))
theorem k_Mo_isWord_18 {X : gC} {M : List mC} {k n : Nat} {x0 : Int64} {x2 : Int32} {x3 : Int32} (ok : gO X c_Mo_isWord "TripleStoreModel" w_Mo_isWord) (hl : gL X = 5)  (kt : ¬ ((((x0 >>> (((8 * x3) : Int32).toInt64 &&& 63)) : Int64).toInt32) &&& 255) = 0 → gg X M k n 43 [(0, .long x0), (2, .int x2), (3, .int x3), (4, .int ((((x0 >>> (((8 * x3) : Int32).toInt64 &&& 63)) : Int64).toInt32) &&& 255))] []) (kf : ((((x0 >>> (((8 * x3) : Int32).toInt64 &&& 63)) : Int64).toInt32) &&& 255) = 0 → gg X M k n 36 [(0, .long x0), (2, .int x2), (3, .int x3), (4, .int ((((x0 >>> (((8 * x3) : Int32).toInt64 &&& 63)) : Int64).toInt32) &&& 255))] []) : gg X M k n 18 [(0, .long x0), (2, .int x2), (3, .int x3)] [] := by
  refine g_lload_n ok d_Mo_isWord_18 rfl (j := 0) rfl ?_
  refine g_bipush (v := 8) ok d_Mo_isWord_19 (by decide) ?_
  refine g_iload_n ok d_Mo_isWord_21 rfl (j := 2) rfl ?_
  refine g_imul ok d_Mo_isWord_22 ?_
  refine g_lshr ok d_Mo_isWord_23 ?_
  refine g_l2i ok d_Mo_isWord_24 ?_
  refine g_sipush (v := 255) ok d_Mo_isWord_25 (by decide) ?_
  refine g_iand ok d_Mo_isWord_28 ?_
  refine g_istore (L' := [(0, .long x0), (2, .int x2), (3, .int x3), (4, .int ((((x0 >>> (((8 * x3) : Int32).toInt64 &&& 63)) : Int64).toInt32) &&& 255))]) ok d_Mo_isWord_29 (by rw [hl]; decide) rfl ?_
  refine g_iload ok d_Mo_isWord_31 (j := 3) rfl ?_
  exact g_if_ne (tgt := 43) ok d_Mo_isWord_33 (by decide) (fun z => (kt z)) (fun z => (kf z))
theorem k_Mo_isWord_36 {X : gC} {M : List mC} {k n : Nat} {x0 : Int64} {x2 : Int32} {x3 : Int32} {x4 : Int32} (ok : gO X c_Mo_isWord "TripleStoreModel" w_Mo_isWord)  (kt : ¬ x3 = 0 → gg X M k n 61 [(0, .long x0), (2, .int x2), (3, .int x3), (4, .int x4)] []) (kf : x3 = 0 → gg X M k n 40 [] []) : gg X M k n 36 [(0, .long x0), (2, .int x2), (3, .int x3), (4, .int x4)] [] := by
  refine g_iload_n ok d_Mo_isWord_36 rfl (j := 2) rfl ?_
  exact g_if_ne (tgt := 61) ok d_Mo_isWord_37 (by decide) (fun z => (kt z)) (fun z => (gg_keep [] (kf z)))
theorem k_Mo_isWord_40 {X : gC} {M : List mC} {k n : Nat}  (ok : gO X c_Mo_isWord "TripleStoreModel" w_Mo_isWord)  (kk : gg X M k n 59 [] []) : gg X M k n 40 [] [] := by
  exact g_goto (tgt := 59) ok d_Mo_isWord_40 (by decide) kk
theorem k_Mo_isWord_43 {X : gC} {M : List mC} {k n : Nat} {x0 : Int64} {x2 : Int32} {x3 : Int32} {x4 : Int32} (ok : gO X c_Mo_isWord "TripleStoreModel" w_Mo_isWord)  (kt : ¬ x2 = 0 → gg X M k n 59 [] []) (kf : x2 = 0 → gg X M k n 47 [(0, .long x0), (2, .int x2), (3, .int x3), (4, .int x4)] []) : gg X M k n 43 [(0, .long x0), (2, .int x2), (3, .int x3), (4, .int x4)] [] := by
  refine g_iload_n ok d_Mo_isWord_43 rfl (j := 1) rfl ?_
  exact g_if_ne (tgt := 59) ok d_Mo_isWord_44 (by decide) (fun z => (gg_keep [] (kt z))) (fun z => (kf z))
theorem k_Mo_isWord_47 {X : gC} {M : List mC} {k n : Nat} {x0 : Int64} {x2 : Int32} {x3 : Int32} {x4 : Int32} (ok : gO X c_Mo_isWord "TripleStoreModel" w_Mo_isWord)  {rm : Room} {post : Option Value → List mC → Prop} (hm : mm_ (gLa X) y_Mo_in w_Mo_in rm [.int x4, .int 97, .int 122] M post) (hR : gF X rm 3 k n) (hlen : ∀ r M', post r M' → M'.length = M.length) (kk : ∀ r M', post r M' → gg X M' (k + rm.cells) (n + rm.slots) 56 [(0, .long x0), (2, .int x2), (3, .int x3), (4, .int x4)] (r.toList ++ [])) : gg X M k n 47 [(0, .long x0), (2, .int x2), (3, .int x3), (4, .int x4)] [] := by
  refine g_iload ok d_Mo_isWord_47 (j := 3) rfl ?_
  refine g_bipush (v := 97) ok d_Mo_isWord_49 (by decide) ?_
  refine g_bipush (v := 122) ok d_Mo_isWord_51 (by decide) ?_
  exact gc_Mo_94 (As := [.int x4, .int 97, .int 122]) (rest := []) ok d_Mo_isWord_53 hm rfl rfl (Nat.le_of_ble_eq_true rfl) hR hlen kk
theorem k_Mo_isWord_56 {X : gC} {M : List mC} {k n : Nat} {x0 : Int64} {x2 : Int32} {x3 : Int32} {x4 : Int32} {s0 : Int32} (ok : gO X c_Mo_isWord "TripleStoreModel" w_Mo_isWord)  (kt : ¬ s0 = 0 → gg X M k n 61 [(0, .long x0), (2, .int x2), (3, .int x3), (4, .int x4)] []) (kf : s0 = 0 → gg X M k n 59 [] []) : gg X M k n 56 [(0, .long x0), (2, .int x2), (3, .int x3), (4, .int x4)] [.int s0] := by
  exact g_if_ne (tgt := 61) ok d_Mo_isWord_56 (by decide) (fun z => (kt z)) (fun z => (gg_keep [] (kf z)))
theorem k_Mo_isWord_59 {X : gC} {M : List mC} {k n : Nat}  (ok : gO X c_Mo_isWord "TripleStoreModel" w_Mo_isWord)  {l9 : Launch} {rm : Room} {M0 : List mC} {post : Option Value → List mC → Prop} (E : gE X l9 y_Mo_isWord rm 5 (some .boolean) M0 post) (hp : post (some (.int 0)) M) (hk : k ≤ rm.cells) (hn : n ≤ rm.slots) : gg X M k n 59 [] [] := by
  refine g_iconst (v := 0) ok d_Mo_isWord_59 (by decide) ?_
  exact g_zret ok E d_Mo_isWord_60 rfl hp hk hn
theorem k_Mo_isWord_61 {X : gC} {M : List mC} {k n : Nat} {x0 : Int64} {x2 : Int32} {x3 : Int32} {x4 : Int32} (ok : gO X c_Mo_isWord "TripleStoreModel" w_Mo_isWord)  (kt : ¬ x4 = 0 → gg X M k n 68 [(0, .long x0), (2, .int x2), (3, .int x3)] []) (kf : x4 = 0 → gg X M k n 66 [(0, .long x0), (3, .int x3)] []) : gg X M k n 61 [(0, .long x0), (2, .int x2), (3, .int x3), (4, .int x4)] [] := by
  refine g_iload ok d_Mo_isWord_61 (j := 3) rfl ?_
  exact g_if_ne (tgt := 68) ok d_Mo_isWord_63 (by decide) (fun z => (gg_keep [0, 2, 3] (kt z))) (fun z => (gg_keep [0, 3] (kf z)))
theorem k_Mo_isWord_66 {X : gC} {M : List mC} {k n : Nat} {x0 : Int64} {x3 : Int32} (ok : gO X c_Mo_isWord "TripleStoreModel" w_Mo_isWord) (hl : gL X = 5)  (kk : gg X M k n 68 [(0, .long x0), (2, .int 1), (3, .int x3)] []) : gg X M k n 66 [(0, .long x0), (3, .int x3)] [] := by
  refine g_iconst (v := 1) ok d_Mo_isWord_66 (by decide) ?_
  refine g_istore_n (L' := [(0, .long x0), (2, .int 1), (3, .int x3)]) ok d_Mo_isWord_67 rfl (by rw [hl]; decide) rfl ?_
  exact kk
theorem k_Mo_isWord_68 {X : gC} {M : List mC} {k n : Nat} {x0 : Int64} {x2 : Int32} {x3 : Int32} (ok : gO X c_Mo_isWord "TripleStoreModel" w_Mo_isWord) (hl : gL X = 5)  (kk : gg X M k n 12 [(0, .long x0), (2, .int x2), (3, .int (x3 + 1))] []) : gg X M k n 68 [(0, .long x0), (2, .int x2), (3, .int x3)] [] := by
  refine g_iinc (L' := [(0, .long x0), (2, .int x2), (3, .int (x3 + 1))]) (v := (x3 + 1)) ok d_Mo_isWord_68 (j := 2) rfl rfl (by rw [hl]; decide) rfl ?_
  exact g_goto (tgt := 12) ok d_Mo_isWord_71 (by decide) kk
theorem k_Mo_isWord_74 {X : gC} {M : List mC} {k n : Nat}  (ok : gO X c_Mo_isWord "TripleStoreModel" w_Mo_isWord)  {l9 : Launch} {rm : Room} {M0 : List mC} {post : Option Value → List mC → Prop} (E : gE X l9 y_Mo_isWord rm 5 (some .boolean) M0 post) (hp : post (some (.int 1)) M) (hk : k ≤ rm.cells) (hn : n ≤ rm.slots) : gg X M k n 74 [] [] := by
  refine g_iconst (v := 1) ok d_Mo_isWord_74 (by decide) ?_
  exact g_zret ok E d_Mo_isWord_75 rfl hp hk hn
theorem k_Mo_isNumber_0 {X : gC} {M : List mC} {k n : Nat} {x0 : Int64} (ok : gO X c_Mo_isNumber "TripleStoreModel" w_Mo_isNumber)  (kt : (-1) < x0 → gg X M k n 20 [] []) (kf : ¬ (-1) < x0 → gg X M k n 8 [(0, .long x0)] []) : gg X M k n 0 [(0, .long x0)] [] := by
  refine g_lload_n ok d_Mo_isNumber_0 rfl (j := 0) rfl ?_
  refine g_ldc2 (v := (-1)) ok (List.mem_cons_of_mem _ (gT_at 1174 (by decide +kernel) (by decide +kernel))) d_Mo_isNumber_1 ?_
  exact g_lc_gt (tgt := 20) ok d_Mo_isNumber_4 d_Mo_isNumber_5 (by decide) (fun z => (gg_keep [] (kt z))) (fun z => (kf z))
theorem k_Mo_isNumber_8 {X : gC} {M : List mC} {k n : Nat} {x0 : Int64} (ok : gO X c_Mo_isNumber "TripleStoreModel" w_Mo_isNumber)  (kt : x0 < (-10000) → gg X M k n 20 [] []) (kf : ¬ x0 < (-10000) → gg X M k n 16 [] []) : gg X M k n 8 [(0, .long x0)] [] := by
  refine g_lload_n ok d_Mo_isNumber_8 rfl (j := 0) rfl ?_
  refine g_ldc2 (v := (-10000)) ok (List.mem_cons_of_mem _ (gT_at 1175 (by decide +kernel) (by decide +kernel))) d_Mo_isNumber_9 ?_
  exact g_lc_lt (tgt := 20) ok d_Mo_isNumber_12 d_Mo_isNumber_13 (by decide) (fun z => (gg_keep [] (kt z))) (fun z => (gg_keep [] (kf z)))
theorem k_Mo_isNumber_16 {X : gC} {M : List mC} {k n : Nat}  (ok : gO X c_Mo_isNumber "TripleStoreModel" w_Mo_isNumber)  (kk : gg X M k n 21 [] [.int 1]) : gg X M k n 16 [] [] := by
  refine g_iconst (v := 1) ok d_Mo_isNumber_16 (by decide) ?_
  exact g_goto (tgt := 21) ok d_Mo_isNumber_17 (by decide) kk
theorem k_Mo_isNumber_20 {X : gC} {M : List mC} {k n : Nat}  (ok : gO X c_Mo_isNumber "TripleStoreModel" w_Mo_isNumber)  (kk : gg X M k n 21 [] [.int 0]) : gg X M k n 20 [] [] := by
  refine g_iconst (v := 0) ok d_Mo_isNumber_20 (by decide) ?_
  exact kk
theorem k_Mo_isNumber_21 {X : gC} {M : List mC} {k n : Nat} {s0 : Int32} (ok : gO X c_Mo_isNumber "TripleStoreModel" w_Mo_isNumber)  {l9 : Launch} {rm : Room} {M0 : List mC} {post : Option Value → List mC → Prop} (E : gE X l9 y_Mo_isNumber rm 2 (some .boolean) M0 post) (hz : narrow .boolean (.int s0) = .int s0) (hp : post (some (.int s0)) M) (hk : k ≤ rm.cells) (hn : n ≤ rm.slots) : gg X M k n 21 [] [.int s0] := by
  exact g_zret ok E d_Mo_isNumber_21 hz hp hk hn
theorem k_Mo_compare_0 {X : gC} {M : List mC} {k n : Nat} {x0 : Int64} {x2 : Int64} (ok : gO X c_Mo_compare "TripleStoreModel" w_Mo_compare)  (kt : ¬ x0 = x2 → gg X M k n 8 [(0, .long x0), (2, .long x2)] []) (kf : x0 = x2 → gg X M k n 6 [] []) : gg X M k n 0 [(0, .long x0), (2, .long x2)] [] := by
  refine g_lload_n ok d_Mo_compare_0 rfl (j := 0) rfl ?_
  refine g_lload_n ok d_Mo_compare_1 rfl (j := 1) rfl ?_
  exact g_lc_ne (tgt := 8) ok d_Mo_compare_2 d_Mo_compare_3 (by decide) (fun z => (kt z)) (fun z => (gg_keep [] (kf z)))
theorem k_Mo_compare_6 {X : gC} {M : List mC} {k n : Nat}  (ok : gO X c_Mo_compare "TripleStoreModel" w_Mo_compare)  {l9 : Launch} {rm : Room} {M0 : List mC} {post : Option Value → List mC → Prop} (E : gE X l9 y_Mo_compare rm 8 (some .int) M0 post) (hp : post (some (.int 0)) M) (hk : k ≤ rm.cells) (hn : n ≤ rm.slots) : gg X M k n 6 [] [] := by
  refine g_iconst (v := 0) ok d_Mo_compare_6 (by decide) ?_
  exact g_iret ok E d_Mo_compare_7 hp hk hn
theorem k_Mo_compare_8 {X : gC} {M : List mC} {k n : Nat} {x0 : Int64} {x2 : Int64} (ok : gO X c_Mo_compare "TripleStoreModel" w_Mo_compare)  (kt : x0 < 0 → gg X M k n 20 [(0, .long x0), (2, .long x2)] []) (kf : ¬ x0 < 0 → gg X M k n 14 [(0, .long x0), (2, .long x2)] []) : gg X M k n 8 [(0, .long x0), (2, .long x2)] [] := by
  refine g_lload_n ok d_Mo_compare_8 rfl (j := 0) rfl ?_
  refine g_lconst (v := 0) ok d_Mo_compare_9 (by decide) ?_
  exact g_lc_lt (tgt := 20) ok d_Mo_compare_10 d_Mo_compare_11 (by decide) (fun z => (kt z)) (fun z => (kf z))
theorem k_Mo_compare_14 {X : gC} {M : List mC} {k n : Nat} {x0 : Int64} {x2 : Int64} (ok : gO X c_Mo_compare "TripleStoreModel" w_Mo_compare)  (kt : 0 ≤ x2 → gg X M k n 56 [(0, .long x0), (2, .long x2)] []) (kf : ¬ 0 ≤ x2 → gg X M k n 20 [(0, .long x0), (2, .long x2)] []) : gg X M k n 14 [(0, .long x0), (2, .long x2)] [] := by
  refine g_lload_n ok d_Mo_compare_14 rfl (j := 1) rfl ?_
  refine g_lconst (v := 0) ok d_Mo_compare_15 (by decide) ?_
  exact g_lc_ge (tgt := 56) ok d_Mo_compare_16 d_Mo_compare_17 (by decide) (fun z => (kt z)) (fun z => (kf z))
theorem k_Mo_compare_20 {X : gC} {M : List mC} {k n : Nat} {x0 : Int64} {x2 : Int64} (ok : gO X c_Mo_compare "TripleStoreModel" w_Mo_compare)  (kt : 0 ≤ x0 → gg X M k n 44 [(0, .long x0)] []) (kf : ¬ 0 ≤ x0 → gg X M k n 26 [(0, .long x0), (2, .long x2)] []) : gg X M k n 20 [(0, .long x0), (2, .long x2)] [] := by
  refine g_lload_n ok d_Mo_compare_20 rfl (j := 0) rfl ?_
  refine g_lconst (v := 0) ok d_Mo_compare_21 (by decide) ?_
  exact g_lc_ge (tgt := 44) ok d_Mo_compare_22 d_Mo_compare_23 (by decide) (fun z => (gg_keep [0] (kt z))) (fun z => (kf z))
theorem k_Mo_compare_26 {X : gC} {M : List mC} {k n : Nat} {x0 : Int64} {x2 : Int64} (ok : gO X c_Mo_compare "TripleStoreModel" w_Mo_compare)  (kt : 0 ≤ x2 → gg X M k n 44 [(0, .long x0)] []) (kf : ¬ 0 ≤ x2 → gg X M k n 32 [(0, .long x0), (2, .long x2)] []) : gg X M k n 26 [(0, .long x0), (2, .long x2)] [] := by
  refine g_lload_n ok d_Mo_compare_26 rfl (j := 1) rfl ?_
  refine g_lconst (v := 0) ok d_Mo_compare_27 (by decide) ?_
  exact g_lc_ge (tgt := 44) ok d_Mo_compare_28 d_Mo_compare_29 (by decide) (fun z => (gg_keep [0] (kt z))) (fun z => (kf z))
theorem k_Mo_compare_32 {X : gC} {M : List mC} {k n : Nat} {x0 : Int64} {x2 : Int64} (ok : gO X c_Mo_compare "TripleStoreModel" w_Mo_compare)  (kt : x0 ≤ x2 → gg X M k n 42 [] []) (kf : ¬ x0 ≤ x2 → gg X M k n 38 [] []) : gg X M k n 32 [(0, .long x0), (2, .long x2)] [] := by
  refine g_lload_n ok d_Mo_compare_32 rfl (j := 0) rfl ?_
  refine g_lload_n ok d_Mo_compare_33 rfl (j := 1) rfl ?_
  exact g_lc_le (tgt := 42) ok d_Mo_compare_34 d_Mo_compare_35 (by decide) (fun z => (gg_keep [] (kt z))) (fun z => (gg_keep [] (kf z)))
theorem k_Mo_compare_38 {X : gC} {M : List mC} {k n : Nat}  (ok : gO X c_Mo_compare "TripleStoreModel" w_Mo_compare)  (kk : gg X M k n 43 [] [.int (-1)]) : gg X M k n 38 [] [] := by
  refine g_iconst (v := (-1)) ok d_Mo_compare_38 (by decide) ?_
  exact g_goto (tgt := 43) ok d_Mo_compare_39 (by decide) kk
theorem k_Mo_compare_42 {X : gC} {M : List mC} {k n : Nat}  (ok : gO X c_Mo_compare "TripleStoreModel" w_Mo_compare)  (kk : gg X M k n 43 [] [.int 1]) : gg X M k n 42 [] [] := by
  refine g_iconst (v := 1) ok d_Mo_compare_42 (by decide) ?_
  exact kk
theorem k_Mo_compare_43 {X : gC} {M : List mC} {k n : Nat} {s0 : Int32} (ok : gO X c_Mo_compare "TripleStoreModel" w_Mo_compare)  {l9 : Launch} {rm : Room} {M0 : List mC} {post : Option Value → List mC → Prop} (E : gE X l9 y_Mo_compare rm 8 (some .int) M0 post) (hp : post (some (.int s0)) M) (hk : k ≤ rm.cells) (hn : n ≤ rm.slots) : gg X M k n 43 [] [.int s0] := by
  exact g_iret ok E d_Mo_compare_43 hp hk hn
theorem k_Mo_compare_44 {X : gC} {M : List mC} {k n : Nat} {x0 : Int64} (ok : gO X c_Mo_compare "TripleStoreModel" w_Mo_compare)  (kt : 0 ≤ x0 → gg X M k n 54 [] []) (kf : ¬ 0 ≤ x0 → gg X M k n 50 [] []) : gg X M k n 44 [(0, .long x0)] [] := by
  refine g_lload_n ok d_Mo_compare_44 rfl (j := 0) rfl ?_
  refine g_lconst (v := 0) ok d_Mo_compare_45 (by decide) ?_
  exact g_lc_ge (tgt := 54) ok d_Mo_compare_46 d_Mo_compare_47 (by decide) (fun z => (gg_keep [] (kt z))) (fun z => (gg_keep [] (kf z)))
theorem k_Mo_compare_50 {X : gC} {M : List mC} {k n : Nat}  (ok : gO X c_Mo_compare "TripleStoreModel" w_Mo_compare)  (kk : gg X M k n 55 [] [.int (-1)]) : gg X M k n 50 [] [] := by
  refine g_iconst (v := (-1)) ok d_Mo_compare_50 (by decide) ?_
  exact g_goto (tgt := 55) ok d_Mo_compare_51 (by decide) kk
theorem k_Mo_compare_54 {X : gC} {M : List mC} {k n : Nat}  (ok : gO X c_Mo_compare "TripleStoreModel" w_Mo_compare)  (kk : gg X M k n 55 [] [.int 1]) : gg X M k n 54 [] [] := by
  refine g_iconst (v := 1) ok d_Mo_compare_54 (by decide) ?_
  exact kk
theorem k_Mo_compare_55 {X : gC} {M : List mC} {k n : Nat} {s0 : Int32} (ok : gO X c_Mo_compare "TripleStoreModel" w_Mo_compare)  {l9 : Launch} {rm : Room} {M0 : List mC} {post : Option Value → List mC → Prop} (E : gE X l9 y_Mo_compare rm 8 (some .int) M0 post) (hp : post (some (.int s0)) M) (hk : k ≤ rm.cells) (hn : n ≤ rm.slots) : gg X M k n 55 [] [.int s0] := by
  exact g_iret ok E d_Mo_compare_55 hp hk hn
theorem k_Mo_compare_56 {X : gC} {M : List mC} {k n : Nat} {x0 : Int64} {x2 : Int64} (ok : gO X c_Mo_compare "TripleStoreModel" w_Mo_compare) (hl : gL X = 8)  (kk : gg X M k n 62 [(4, .long x0), (6, .long x2)] []) : gg X M k n 56 [(0, .long x0), (2, .long x2)] [] := by
  refine g_lload_n ok d_Mo_compare_56 rfl (j := 0) rfl ?_
  refine g_lstore (L' := [(0, .long x0), (2, .long x2), (4, .long x0)]) ok d_Mo_compare_57 (by rw [hl]; decide) rfl ?_
  refine g_lload_n ok d_Mo_compare_59 rfl (j := 1) rfl ?_
  refine g_lstore (L' := [(0, .long x0), (2, .long x2), (4, .long x0), (6, .long x2)]) ok d_Mo_compare_60 (by rw [hl]; decide) rfl ?_
  exact (gg_keep [4, 6] kk)
theorem k_Mo_compare_62 {X : gC} {M : List mC} {k n : Nat} {x4 : Int64} {x6 : Int64} (ok : gO X c_Mo_compare "TripleStoreModel" w_Mo_compare)  (kt : ¬ (x4 >>> ((56 : Int32).toInt64 &&& 63)) = 0 → gg X M k n 82 [(4, .long x4), (6, .long x6)] []) (kf : (x4 >>> ((56 : Int32).toInt64 &&& 63)) = 0 → gg X M k n 72 [(4, .long x4), (6, .long x6)] []) : gg X M k n 62 [(4, .long x4), (6, .long x6)] [] := by
  refine g_lload ok d_Mo_compare_62 (j := 0) rfl ?_
  refine g_bipush (v := 56) ok d_Mo_compare_64 (by decide) ?_
  refine g_lshr ok d_Mo_compare_66 ?_
  refine g_lconst (v := 0) ok d_Mo_compare_67 (by decide) ?_
  exact g_lc_ne (tgt := 82) ok d_Mo_compare_68 d_Mo_compare_69 (by decide) (fun z => (kt z)) (fun z => (kf z))
theorem k_Mo_compare_72 {X : gC} {M : List mC} {k n : Nat} {x4 : Int64} {x6 : Int64} (ok : gO X c_Mo_compare "TripleStoreModel" w_Mo_compare) (hl : gL X = 8)  (kk : gg X M k n 62 [(4, .long (x4 <<< ((8 : Int32).toInt64 &&& 63))), (6, .long x6)] []) : gg X M k n 72 [(4, .long x4), (6, .long x6)] [] := by
  refine g_lload ok d_Mo_compare_72 (j := 0) rfl ?_
  refine g_bipush (v := 8) ok d_Mo_compare_74 (by decide) ?_
  refine g_lshl ok d_Mo_compare_76 ?_
  refine g_lstore (L' := [(4, .long (x4 <<< ((8 : Int32).toInt64 &&& 63))), (6, .long x6)]) ok d_Mo_compare_77 (by rw [hl]; decide) rfl ?_
  exact g_goto (tgt := 62) ok d_Mo_compare_79 (by decide) kk
theorem k_Mo_compare_82 {X : gC} {M : List mC} {k n : Nat} {x4 : Int64} {x6 : Int64} (ok : gO X c_Mo_compare "TripleStoreModel" w_Mo_compare)  (kt : ¬ (x6 >>> ((56 : Int32).toInt64 &&& 63)) = 0 → gg X M k n 102 [(4, .long x4), (6, .long x6)] []) (kf : (x6 >>> ((56 : Int32).toInt64 &&& 63)) = 0 → gg X M k n 92 [(4, .long x4), (6, .long x6)] []) : gg X M k n 82 [(4, .long x4), (6, .long x6)] [] := by
  refine g_lload ok d_Mo_compare_82 (j := 1) rfl ?_
  refine g_bipush (v := 56) ok d_Mo_compare_84 (by decide) ?_
  refine g_lshr ok d_Mo_compare_86 ?_
  refine g_lconst (v := 0) ok d_Mo_compare_87 (by decide) ?_
  exact g_lc_ne (tgt := 102) ok d_Mo_compare_88 d_Mo_compare_89 (by decide) (fun z => (kt z)) (fun z => (kf z))
theorem k_Mo_compare_92 {X : gC} {M : List mC} {k n : Nat} {x4 : Int64} {x6 : Int64} (ok : gO X c_Mo_compare "TripleStoreModel" w_Mo_compare) (hl : gL X = 8)  (kk : gg X M k n 82 [(4, .long x4), (6, .long (x6 <<< ((8 : Int32).toInt64 &&& 63)))] []) : gg X M k n 92 [(4, .long x4), (6, .long x6)] [] := by
  refine g_lload ok d_Mo_compare_92 (j := 1) rfl ?_
  refine g_bipush (v := 8) ok d_Mo_compare_94 (by decide) ?_
  refine g_lshl ok d_Mo_compare_96 ?_
  refine g_lstore (L' := [(4, .long x4), (6, .long (x6 <<< ((8 : Int32).toInt64 &&& 63)))]) ok d_Mo_compare_97 (by rw [hl]; decide) rfl ?_
  exact g_goto (tgt := 82) ok d_Mo_compare_99 (by decide) kk
theorem k_Mo_compare_102 {X : gC} {M : List mC} {k n : Nat} {x4 : Int64} {x6 : Int64} (ok : gO X c_Mo_compare "TripleStoreModel" w_Mo_compare)  (kt : x6 ≤ x4 → gg X M k n 114 [] []) (kf : ¬ x6 ≤ x4 → gg X M k n 110 [] []) : gg X M k n 102 [(4, .long x4), (6, .long x6)] [] := by
  refine g_lload ok d_Mo_compare_102 (j := 0) rfl ?_
  refine g_lload ok d_Mo_compare_104 (j := 1) rfl ?_
  exact g_lc_ge (tgt := 114) ok d_Mo_compare_106 d_Mo_compare_107 (by decide) (fun z => (gg_keep [] (kt z))) (fun z => (gg_keep [] (kf z)))
theorem k_Mo_compare_110 {X : gC} {M : List mC} {k n : Nat}  (ok : gO X c_Mo_compare "TripleStoreModel" w_Mo_compare)  (kk : gg X M k n 115 [] [.int (-1)]) : gg X M k n 110 [] [] := by
  refine g_iconst (v := (-1)) ok d_Mo_compare_110 (by decide) ?_
  exact g_goto (tgt := 115) ok d_Mo_compare_111 (by decide) kk
theorem k_Mo_compare_114 {X : gC} {M : List mC} {k n : Nat}  (ok : gO X c_Mo_compare "TripleStoreModel" w_Mo_compare)  (kk : gg X M k n 115 [] [.int 1]) : gg X M k n 114 [] [] := by
  refine g_iconst (v := 1) ok d_Mo_compare_114 (by decide) ?_
  exact kk
theorem k_Mo_compare_115 {X : gC} {M : List mC} {k n : Nat} {s0 : Int32} (ok : gO X c_Mo_compare "TripleStoreModel" w_Mo_compare)  {l9 : Launch} {rm : Room} {M0 : List mC} {post : Option Value → List mC → Prop} (E : gE X l9 y_Mo_compare rm 8 (some .int) M0 post) (hp : post (some (.int s0)) M) (hk : k ≤ rm.cells) (hn : n ≤ rm.slots) : gg X M k n 115 [] [.int s0] := by
  exact g_iret ok E d_Mo_compare_115 hp hk hn
theorem k_Mo_find_0 {X : gC} {M : List mC} {k n : Nat} {x0 : Nat} {x1 : Int64} {x3 : Int64} {x5 : Int64} (ok : gO X c_Mo_find "TripleStoreModel" w_Mo_find) (hl : gL X = 8)  (kk : gg X M k n 3 [(0, .ref x0), (1, .long x1), (3, .long x3), (5, .long x5), (7, .int 0)] []) : gg X M k n 0 [(0, .ref x0), (1, .long x1), (3, .long x3), (5, .long x5)] [] := by
  refine g_iconst (v := 0) ok d_Mo_find_0 (by decide) ?_
  refine g_istore (L' := [(0, .ref x0), (1, .long x1), (3, .long x3), (5, .long x5), (7, .int 0)]) ok d_Mo_find_1 (by rw [hl]; decide) rfl ?_
  exact kk
theorem k_Mo_find_3 {X : gC} {M : List mC} {k n : Nat} {x0 : Nat} {x1 : Int64} {x3 : Int64} {x5 : Int64} {x7 : Int32} {fs2 : List Value} {f3 : Int32} (ok : gO X c_Mo_find "TripleStoreModel" w_Mo_find) (h1 : M[x0]? = some (.inr (10, fs2))) (h4 : fs2[1]? = some (.int f3)) (kt : f3 ≤ x7 → gg X M k n 65 [(7, .int x7)] []) (kf : ¬ f3 ≤ x7 → gg X M k n 12 [(0, .ref x0), (1, .long x1), (3, .long x3), (5, .long x5), (7, .int x7)] []) : gg X M k n 3 [(0, .ref x0), (1, .long x1), (3, .long x3), (5, .long x5), (7, .int x7)] [] := by
  refine g_iload ok d_Mo_find_3 (j := 4) rfl ?_
  refine g_aload_n ok d_Mo_find_5 rfl (j := 0) rfl ?_
  refine gf_Mo_102 ok d_Mo_find_6 h1 h4 ?_
  exact g_icmp_ge (tgt := 65) ok d_Mo_find_9 (by decide) (fun z => (gg_keep [7] (kt z))) (fun z => (kf z))
theorem k_Mo_find_12 {X : gC} {M : List mC} {k n : Nat} {x0 : Nat} {x1 : Int64} {x3 : Int64} {x5 : Int64} {x7 : Int32} {fs2 : List Value} {f3 : Nat} {g6 : Nat → Int64} {N7 : Nat} (ok : gO X c_Mo_find "TripleStoreModel" w_Mo_find) (h1 : M[x0]? = some (.inr (10, fs2))) (h4 : fs2[0]? = some (.ref f3)) (h5 : M[f3]? = some (.inl (1, N7, .inr (.inl g6)))) (h8 : vp_in (3 * x7) N7) (kt : ¬ (g6 (3 * x7).toNatClampNeg) = x1 → gg X M k n 59 [(0, .ref x0), (1, .long x1), (3, .long x3), (5, .long x5), (7, .int x7)] []) (kf : (g6 (3 * x7).toNatClampNeg) = x1 → gg X M k n 26 [(0, .ref x0), (1, .long x1), (3, .long x3), (5, .long x5), (7, .int x7)] []) : gg X M k n 12 [(0, .ref x0), (1, .long x1), (3, .long x3), (5, .long x5), (7, .int x7)] [] := by
  refine g_aload_n ok d_Mo_find_12 rfl (j := 0) rfl ?_
  refine gf_Mo_7 ok d_Mo_find_13 h1 h4 ?_
  refine g_iconst (v := 3) ok d_Mo_find_16 (by decide) ?_
  refine g_iload ok d_Mo_find_17 (j := 4) rfl ?_
  refine g_imul ok d_Mo_find_19 ?_
  refine g_lald (t := 1) ok rfl d_Mo_find_20 h5 h8 ?_
  refine g_lload_n ok d_Mo_find_21 rfl (j := 1) rfl ?_
  exact g_lc_ne (tgt := 59) ok d_Mo_find_22 d_Mo_find_23 (by decide) (fun z => (kt z)) (fun z => (kf z))
theorem k_Mo_find_26 {X : gC} {M : List mC} {k n : Nat} {x0 : Nat} {x1 : Int64} {x3 : Int64} {x5 : Int64} {x7 : Int32} {fs2 : List Value} {f3 : Nat} {g6 : Nat → Int64} {N7 : Nat} (ok : gO X c_Mo_find "TripleStoreModel" w_Mo_find) (h1 : M[x0]? = some (.inr (10, fs2))) (h4 : fs2[0]? = some (.ref f3)) (h5 : M[f3]? = some (.inl (1, N7, .inr (.inl g6)))) (h8 : vp_in ((3 * x7) + 1) N7) (kt : ¬ (g6 ((3 * x7) + 1).toNatClampNeg) = x3 → gg X M k n 59 [(0, .ref x0), (1, .long x1), (3, .long x3), (5, .long x5), (7, .int x7)] []) (kf : (g6 ((3 * x7) + 1).toNatClampNeg) = x3 → gg X M k n 42 [(0, .ref x0), (1, .long x1), (3, .long x3), (5, .long x5), (7, .int x7)] []) : gg X M k n 26 [(0, .ref x0), (1, .long x1), (3, .long x3), (5, .long x5), (7, .int x7)] [] := by
  refine g_aload_n ok d_Mo_find_26 rfl (j := 0) rfl ?_
  refine gf_Mo_7 ok d_Mo_find_27 h1 h4 ?_
  refine g_iconst (v := 3) ok d_Mo_find_30 (by decide) ?_
  refine g_iload ok d_Mo_find_31 (j := 4) rfl ?_
  refine g_imul ok d_Mo_find_33 ?_
  refine g_iconst (v := 1) ok d_Mo_find_34 (by decide) ?_
  refine g_iadd ok d_Mo_find_35 ?_
  refine g_lald (t := 1) ok rfl d_Mo_find_36 h5 h8 ?_
  refine g_lload_n ok d_Mo_find_37 rfl (j := 2) rfl ?_
  exact g_lc_ne (tgt := 59) ok d_Mo_find_38 d_Mo_find_39 (by decide) (fun z => (kt z)) (fun z => (kf z))
theorem k_Mo_find_42 {X : gC} {M : List mC} {k n : Nat} {x0 : Nat} {x1 : Int64} {x3 : Int64} {x5 : Int64} {x7 : Int32} {fs2 : List Value} {f3 : Nat} {g6 : Nat → Int64} {N7 : Nat} (ok : gO X c_Mo_find "TripleStoreModel" w_Mo_find) (h1 : M[x0]? = some (.inr (10, fs2))) (h4 : fs2[0]? = some (.ref f3)) (h5 : M[f3]? = some (.inl (1, N7, .inr (.inl g6)))) (h8 : vp_in ((3 * x7) + 2) N7) (kt : (g6 ((3 * x7) + 2).toNatClampNeg) = x5 → gg X M k n 65 [(7, .int x7)] []) (kf : ¬ (g6 ((3 * x7) + 2).toNatClampNeg) = x5 → gg X M k n 59 [(0, .ref x0), (1, .long x1), (3, .long x3), (5, .long x5), (7, .int x7)] []) : gg X M k n 42 [(0, .ref x0), (1, .long x1), (3, .long x3), (5, .long x5), (7, .int x7)] [] := by
  refine g_aload_n ok d_Mo_find_42 rfl (j := 0) rfl ?_
  refine gf_Mo_7 ok d_Mo_find_43 h1 h4 ?_
  refine g_iconst (v := 3) ok d_Mo_find_46 (by decide) ?_
  refine g_iload ok d_Mo_find_47 (j := 4) rfl ?_
  refine g_imul ok d_Mo_find_49 ?_
  refine g_iconst (v := 2) ok d_Mo_find_50 (by decide) ?_
  refine g_iadd ok d_Mo_find_51 ?_
  refine g_lald (t := 1) ok rfl d_Mo_find_52 h5 h8 ?_
  refine g_lload ok d_Mo_find_53 (j := 3) rfl ?_
  exact g_lc_eq (tgt := 65) ok d_Mo_find_55 d_Mo_find_56 (by decide) (fun z => (gg_keep [7] (kt z))) (fun z => (kf z))
theorem k_Mo_find_59 {X : gC} {M : List mC} {k n : Nat} {x0 : Nat} {x1 : Int64} {x3 : Int64} {x5 : Int64} {x7 : Int32} (ok : gO X c_Mo_find "TripleStoreModel" w_Mo_find) (hl : gL X = 8)  (kk : gg X M k n 3 [(0, .ref x0), (1, .long x1), (3, .long x3), (5, .long x5), (7, .int (x7 + 1))] []) : gg X M k n 59 [(0, .ref x0), (1, .long x1), (3, .long x3), (5, .long x5), (7, .int x7)] [] := by
  refine g_iinc (L' := [(0, .ref x0), (1, .long x1), (3, .long x3), (5, .long x5), (7, .int (x7 + 1))]) (v := (x7 + 1)) ok d_Mo_find_59 (j := 4) rfl rfl (by rw [hl]; decide) rfl ?_
  exact g_goto (tgt := 3) ok d_Mo_find_62 (by decide) kk
theorem k_Mo_find_65 {X : gC} {M : List mC} {k n : Nat} {x7 : Int32} (ok : gO X c_Mo_find "TripleStoreModel" w_Mo_find)  {l9 : Launch} {rm : Room} {M0 : List mC} {post : Option Value → List mC → Prop} (E : gE X l9 y_Mo_find rm 8 (some .int) M0 post) (hp : post (some (.int x7)) M) (hk : k ≤ rm.cells) (hn : n ≤ rm.slots) : gg X M k n 65 [(7, .int x7)] [] := by
  refine g_iload ok d_Mo_find_65 (j := 0) rfl ?_
  exact g_iret ok E d_Mo_find_67 hp hk hn
theorem k_Mo_apply_0 {X : gC} {M : List mC} {k n : Nat} {x0 : Nat} {x1 : Int32} {x2 : Int64} {x4 : Int64} {x6 : Int64} {fs2 : List Value} (ok : gO X c_Mo_apply "TripleStoreModel" w_Mo_apply) (h1 : M[x0]? = some (.inr (10, fs2))) {rm : Room} {post : Option Value → List mC → Prop} (hm : mm_ (gLa X) y_Mo_find w_Mo_find rm [.ref x0, .long x2, .long x4, .long x6] M post) (hR : gF X rm 8 k n) (hlen : ∀ r M', post r M' → M'.length = M.length) (kk : ∀ r M', post r M' → gg X M' (k + rm.cells) (n + rm.slots) 9 [(0, .ref x0), (1, .int x1), (2, .long x2), (4, .long x4), (6, .long x6)] (r.toList ++ [])) : gg X M k n 0 [(0, .ref x0), (1, .int x1), (2, .long x2), (4, .long x4), (6, .long x6)] [] := by
  refine g_aload_n ok d_Mo_apply_0 rfl (j := 0) rfl ?_
  refine g_lload_n ok d_Mo_apply_1 rfl (j := 2) rfl ?_
  refine g_lload ok d_Mo_apply_2 (j := 3) rfl ?_
  refine g_lload ok d_Mo_apply_4 (j := 4) rfl ?_
  exact gc_Mo_105 (As := [.long x2, .long x4, .long x6]) (rest := []) ok d_Mo_apply_6 hm rfl rfl (Nat.le_of_ble_eq_true rfl) hR h1 hlen kk
theorem k_Mo_apply_9 {X : gC} {M : List mC} {k n : Nat} {x0 : Nat} {x1 : Int32} {x2 : Int64} {x4 : Int64} {x6 : Int64} {s0 : Int32} (ok : gO X c_Mo_apply "TripleStoreModel" w_Mo_apply) (hl : gL X = 10)  (kt : x1 = 0 → gg X M k n 68 [(0, .ref x0), (8, .int s0)] []) (kf : ¬ x1 = 0 → gg X M k n 15 [(0, .ref x0), (2, .long x2), (4, .long x4), (6, .long x6)] []) : gg X M k n 9 [(0, .ref x0), (1, .int x1), (2, .long x2), (4, .long x4), (6, .long x6)] [.int s0] := by
  refine g_istore (L' := [(0, .ref x0), (1, .int x1), (2, .long x2), (4, .long x4), (6, .long x6), (8, .int s0)]) ok d_Mo_apply_9 (by rw [hl]; decide) rfl ?_
  refine g_iload_n ok d_Mo_apply_11 rfl (j := 1) rfl ?_
  exact g_if_eq (tgt := 68) ok d_Mo_apply_12 (by decide) (fun z => (gg_keep [0, 8] (kt z))) (fun z => (gg_keep [0, 2, 4, 6] (kf z)))
theorem k_Mo_apply_15 {X : gC} {M : List mC} {k n : Nat} {x0 : Nat} {x2 : Int64} {x4 : Int64} {x6 : Int64} {fs2 : List Value} {f3 : Nat} {f5 : Int32} {g8 : Nat → Int64} {N9 : Nat} {M11 : List mC} {M16 : List mC} {M21 : List mC} {fs27 : List Value} {M29 : List mC} (ok : gO X c_Mo_apply "TripleStoreModel" w_Mo_apply) (h1 : M[x0]? = some (.inr (10, fs2))) (h4 : fs2[0]? = some (.ref f3)) (h6 : fs2[1]? = some (.int f5)) (h7 : M[f3]? = some (.inl (1, N9, .inr (.inl g8)))) (h10 : vp_in (3 * f5) N9) (h12 : M.set f3 (.inl (1, N9, .inr (.inl (vp_updL g8 (3 * f5).toNatClampNeg x2)))) = M11) (h15 : vp_in ((3 * f5) + 1) N9) (h17 : M11.set f3 (.inl (1, N9, .inr (.inl (vp_updL (vp_updL g8 (3 * f5).toNatClampNeg x2) ((3 * f5) + 1).toNatClampNeg x4)))) = M16) (h20 : vp_in ((3 * f5) + 2) N9) (h22 : M16.set f3 (.inl (1, N9, .inr (.inl (vp_updL (vp_updL (vp_updL g8 (3 * f5).toNatClampNeg x2) ((3 * f5) + 1).toNatClampNeg x4) ((3 * f5) + 2).toNatClampNeg x6)))) = M21) (h26 : 59 ≤ fs2.length) (h28 : fs2.set 1 (.int (f5 + 1)) = fs27) (h30 : M21.set x0 (.inr (10, fs27)) = M29) {l9 : Launch} {rm : Room} {M0 : List mC} {post : Option Value → List mC → Prop} (E : gE X l9 y_Mo_apply rm 10 none M0 post) (hp : post (none) M29) (hk : k ≤ rm.cells) (hn : n ≤ rm.slots) : gg X M k n 15 [(0, .ref x0), (2, .long x2), (4, .long x4), (6, .long x6)] [] := by
  refine g_aload_n ok d_Mo_apply_15 rfl (j := 0) rfl ?_
  refine gf_Mo_7 ok d_Mo_apply_16 h1 h4 ?_
  refine g_iconst (v := 3) ok d_Mo_apply_19 (by decide) ?_
  refine g_aload_n ok d_Mo_apply_20 rfl (j := 0) rfl ?_
  refine gf_Mo_102 ok d_Mo_apply_21 h1 h6 ?_
  refine g_imul ok d_Mo_apply_24 ?_
  refine g_lload_n ok d_Mo_apply_25 rfl (j := 1) rfl ?_
  refine g_last (t := 1) ok rfl d_Mo_apply_26 h7 h10 ?_
  rw [h12]
  have h13 : M11[f3]? = some (.inl (1, N9, .inr (.inl (vp_updL g8 (3 * f5).toNatClampNeg x2)))) := by rw [← h12]; exact gs_eq h7
  refine g_aload_n ok d_Mo_apply_27 rfl (j := 0) rfl ?_
  have h14 : M11[x0]? = some (.inr (10, fs2)) := by rw [← h12]; exact (gs_ne (ne_ao h7 h1)).trans h1
  refine gf_Mo_7 ok d_Mo_apply_28 h14 h4 ?_
  refine g_iconst (v := 3) ok d_Mo_apply_31 (by decide) ?_
  refine g_aload_n ok d_Mo_apply_32 rfl (j := 0) rfl ?_
  refine gf_Mo_102 ok d_Mo_apply_33 h14 h6 ?_
  refine g_imul ok d_Mo_apply_36 ?_
  refine g_iconst (v := 1) ok d_Mo_apply_37 (by decide) ?_
  refine g_iadd ok d_Mo_apply_38 ?_
  refine g_lload ok d_Mo_apply_39 (j := 2) rfl ?_
  refine g_last (t := 1) ok rfl d_Mo_apply_41 h13 h15 ?_
  rw [h17]
  have h18 : M16[f3]? = some (.inl (1, N9, .inr (.inl (vp_updL (vp_updL g8 (3 * f5).toNatClampNeg x2) ((3 * f5) + 1).toNatClampNeg x4)))) := by rw [← h17]; exact gs_eq h13
  refine g_aload_n ok d_Mo_apply_42 rfl (j := 0) rfl ?_
  have h19 : M16[x0]? = some (.inr (10, fs2)) := by rw [← h17]; exact (gs_ne (ne_ao h13 h14)).trans h14
  refine gf_Mo_7 ok d_Mo_apply_43 h19 h4 ?_
  refine g_iconst (v := 3) ok d_Mo_apply_46 (by decide) ?_
  refine g_aload_n ok d_Mo_apply_47 rfl (j := 0) rfl ?_
  refine gf_Mo_102 ok d_Mo_apply_48 h19 h6 ?_
  refine g_imul ok d_Mo_apply_51 ?_
  refine g_iconst (v := 2) ok d_Mo_apply_52 (by decide) ?_
  refine g_iadd ok d_Mo_apply_53 ?_
  refine g_lload ok d_Mo_apply_54 (j := 3) rfl ?_
  refine g_last (t := 1) ok rfl d_Mo_apply_56 h18 h20 ?_
  rw [h22]
  have h23 : M21[f3]? = some (.inl (1, N9, .inr (.inl (vp_updL (vp_updL (vp_updL g8 (3 * f5).toNatClampNeg x2) ((3 * f5) + 1).toNatClampNeg x4) ((3 * f5) + 2).toNatClampNeg x6)))) := by rw [← h22]; exact gs_eq h18
  refine g_aload_n ok d_Mo_apply_57 rfl (j := 0) rfl ?_
  refine g_dup ok d_Mo_apply_58 rfl ?_
  have h24 : M21[x0]? = some (.inr (10, fs2)) := by rw [← h22]; exact (gs_ne (ne_ao h18 h19)).trans h19
  refine gf_Mo_102 ok d_Mo_apply_59 h24 h6 ?_
  refine g_iconst (v := 1) ok d_Mo_apply_62 (by decide) ?_
  refine g_iadd ok d_Mo_apply_63 ?_
  have h25 : 1 < fs2.length := Nat.lt_of_lt_of_le (by decide) h26
  refine pf_Mo_102 ok d_Mo_apply_64 h24 h25 (fun _ => ⟨rfl, rfl⟩) ?_
  rw [h28]
  rw [h30]
  have h31 : M29[x0]? = some (.inr (10, fs27)) := by rw [← h30]; exact gs_eq h24
  have h32 : fs27[0]? = some (.ref f3) := by rw [← h28]; exact (List.getElem?_set_ne (by decide : 1 ≠ 0)).trans h4
  have h33 : fs27[1]? = some (.int (f5 + 1)) := by rw [← h28]; exact List.getElem?_set_self h25
  have h34 : 59 ≤ fs27.length := by rw [← h28, List.length_set]; exact h26
  exact g_vret ok E d_Mo_apply_67 hp hk hn
theorem k_Mo_apply_68 {X : gC} {M : List mC} {k n : Nat} {x0 : Nat} {x8 : Int32} {fs2 : List Value} {f3 : Int32} {fs7 : List Value} {M9 : List mC} (ok : gO X c_Mo_apply "TripleStoreModel" w_Mo_apply) (hl : gL X = 10) (h1 : M[x0]? = some (.inr (10, fs2))) (h4 : fs2[1]? = some (.int f3)) (h6 : 59 ≤ fs2.length) (h8 : fs2.set 1 (.int (f3 - 1)) = fs7) (h10 : M.set x0 (.inr (10, fs7)) = M9) (kk : gg X M9 k n 81 [(0, .ref x0), (8, .int x8), (9, .int 0)] []) : gg X M k n 68 [(0, .ref x0), (8, .int x8)] [] := by
  refine g_aload_n ok d_Mo_apply_68 rfl (j := 0) rfl ?_
  refine g_dup ok d_Mo_apply_69 rfl ?_
  refine gf_Mo_102 ok d_Mo_apply_70 h1 h4 ?_
  refine g_iconst (v := 1) ok d_Mo_apply_73 (by decide) ?_
  refine g_isub ok d_Mo_apply_74 ?_
  have h5 : 1 < fs2.length := Nat.lt_of_lt_of_le (by decide) h6
  refine pf_Mo_102 ok d_Mo_apply_75 h1 h5 (fun _ => ⟨rfl, rfl⟩) ?_
  rw [h8]
  rw [h10]
  have h11 : M9[x0]? = some (.inr (10, fs7)) := by rw [← h10]; exact gs_eq h1
  have h12 : fs7[1]? = some (.int (f3 - 1)) := by rw [← h8]; exact List.getElem?_set_self h5
  have h13 : 59 ≤ fs7.length := by rw [← h8, List.length_set]; exact h6
  refine g_iconst (v := 0) ok d_Mo_apply_78 (by decide) ?_
  refine g_istore (L' := [(0, .ref x0), (8, .int x8), (9, .int 0)]) ok d_Mo_apply_79 (by rw [hl]; decide) rfl ?_
  exact kk
theorem k_Mo_apply_81 {X : gC} {M : List mC} {k n : Nat} {x0 : Nat} {x8 : Int32} {x9 : Int32} (ok : gO X c_Mo_apply "TripleStoreModel" w_Mo_apply)  (kt : 3 ≤ x9 → gg X M k n 119 [] []) (kf : ¬ 3 ≤ x9 → gg X M k n 87 [(0, .ref x0), (8, .int x8), (9, .int x9)] []) : gg X M k n 81 [(0, .ref x0), (8, .int x8), (9, .int x9)] [] := by
  refine g_iload ok d_Mo_apply_81 (j := 2) rfl ?_
  refine g_iconst (v := 3) ok d_Mo_apply_83 (by decide) ?_
  exact g_icmp_ge (tgt := 119) ok d_Mo_apply_84 (by decide) (fun z => (gg_keep [] (kt z))) (fun z => (kf z))
theorem k_Mo_apply_87 {X : gC} {M : List mC} {k n : Nat} {x0 : Nat} {x8 : Int32} {x9 : Int32} {fs2 : List Value} {f3 : Nat} {f5 : Int32} {g8 : Nat → Int64} {N9 : Nat} {M12 : List mC} (ok : gO X c_Mo_apply "TripleStoreModel" w_Mo_apply) (hl : gL X = 10) (h1 : M[x0]? = some (.inr (10, fs2))) (h4 : fs2[0]? = some (.ref f3)) (h6 : fs2[1]? = some (.int f5)) (h7 : M[f3]? = some (.inl (1, N9, .inr (.inl g8)))) (h10 : vp_in ((3 * f5) + x9) N9) (h11 : vp_in ((3 * x8) + x9) N9) (h13 : M.set f3 (.inl (1, N9, .inr (.inl (vp_updL g8 ((3 * x8) + x9).toNatClampNeg (g8 ((3 * f5) + x9).toNatClampNeg))))) = M12) (kk : gg X M12 k n 81 [(0, .ref x0), (8, .int x8), (9, .int (x9 + 1))] []) : gg X M k n 87 [(0, .ref x0), (8, .int x8), (9, .int x9)] [] := by
  refine g_aload_n ok d_Mo_apply_87 rfl (j := 0) rfl ?_
  refine gf_Mo_7 ok d_Mo_apply_88 h1 h4 ?_
  refine g_iconst (v := 3) ok d_Mo_apply_91 (by decide) ?_
  refine g_iload ok d_Mo_apply_92 (j := 1) rfl ?_
  refine g_imul ok d_Mo_apply_94 ?_
  refine g_iload ok d_Mo_apply_95 (j := 2) rfl ?_
  refine g_iadd ok d_Mo_apply_97 ?_
  refine g_aload_n ok d_Mo_apply_98 rfl (j := 0) rfl ?_
  refine gf_Mo_7 ok d_Mo_apply_99 h1 h4 ?_
  refine g_iconst (v := 3) ok d_Mo_apply_102 (by decide) ?_
  refine g_aload_n ok d_Mo_apply_103 rfl (j := 0) rfl ?_
  refine gf_Mo_102 ok d_Mo_apply_104 h1 h6 ?_
  refine g_imul ok d_Mo_apply_107 ?_
  refine g_iload ok d_Mo_apply_108 (j := 2) rfl ?_
  refine g_iadd ok d_Mo_apply_110 ?_
  refine g_lald (t := 1) ok rfl d_Mo_apply_111 h7 h10 ?_
  refine g_last (t := 1) ok rfl d_Mo_apply_112 h7 h11 ?_
  rw [h13]
  have h14 : M12[f3]? = some (.inl (1, N9, .inr (.inl (vp_updL g8 ((3 * x8) + x9).toNatClampNeg (g8 ((3 * f5) + x9).toNatClampNeg))))) := by rw [← h13]; exact gs_eq h7
  refine g_iinc (L' := [(0, .ref x0), (8, .int x8), (9, .int (x9 + 1))]) (v := (x9 + 1)) ok d_Mo_apply_113 (j := 2) rfl rfl (by rw [hl]; decide) rfl ?_
  exact g_goto (tgt := 81) ok d_Mo_apply_116 (by decide) kk
theorem k_Mo_apply_119 {X : gC} {M : List mC} {k n : Nat}  (ok : gO X c_Mo_apply "TripleStoreModel" w_Mo_apply)  {l9 : Launch} {rm : Room} {M0 : List mC} {post : Option Value → List mC → Prop} (E : gE X l9 y_Mo_apply rm 10 none M0 post) (hp : post (none) M) (hk : k ≤ rm.cells) (hn : n ≤ rm.slots) : gg X M k n 119 [] [] := by
  exact g_vret ok E d_Mo_apply_119 hp hk hn
theorem k_Mo_does_0 {X : gC} {M : List mC} {k n : Nat} {x0 : Nat} {x1 : Int32} {x2 : Int64} {x4 : Int64} {x6 : Int64} {fs2 : List Value} (ok : gO X c_Mo_does "TripleStoreModel" w_Mo_does) (h1 : M[x0]? = some (.inr (10, fs2))) {rm : Room} {post : Option Value → List mC → Prop} (hm : mm_ (gLa X) y_Mo_find w_Mo_find rm [.ref x0, .long x2, .long x4, .long x6] M post) (hR : gF X rm 8 k n) (hlen : ∀ r M', post r M' → M'.length = M.length) (kk : ∀ r M', post r M' → gg X M' (k + rm.cells) (n + rm.slots) 9 [(0, .ref x0), (1, .int x1), (2, .long x2), (4, .long x4), (6, .long x6)] (r.toList ++ [])) : gg X M k n 0 [(0, .ref x0), (1, .int x1), (2, .long x2), (4, .long x4), (6, .long x6)] [] := by
  refine g_aload_n ok d_Mo_does_0 rfl (j := 0) rfl ?_
  refine g_lload_n ok d_Mo_does_1 rfl (j := 2) rfl ?_
  refine g_lload ok d_Mo_does_2 (j := 3) rfl ?_
  refine g_lload ok d_Mo_does_4 (j := 4) rfl ?_
  exact gc_Mo_105 (As := [.long x2, .long x4, .long x6]) (rest := []) ok d_Mo_does_6 hm rfl rfl (Nat.le_of_ble_eq_true rfl) hR h1 hlen kk
theorem k_Mo_does_9 {X : gC} {M : List mC} {k n : Nat} {x0 : Nat} {x1 : Int32} {x2 : Int64} {x4 : Int64} {x6 : Int64} {s0 : Int32} {fs2 : List Value} {f3 : Int32} (ok : gO X c_Mo_does "TripleStoreModel" w_Mo_does) (h1 : M[x0]? = some (.inr (10, fs2))) (h4 : fs2[1]? = some (.int f3)) (kt : f3 ≤ s0 → gg X M k n 20 [(0, .ref x0), (1, .int x1), (2, .long x2), (4, .long x4), (6, .long x6)] []) (kf : ¬ f3 ≤ s0 → gg X M k n 16 [(0, .ref x0), (1, .int x1), (2, .long x2), (4, .long x4), (6, .long x6)] []) : gg X M k n 9 [(0, .ref x0), (1, .int x1), (2, .long x2), (4, .long x4), (6, .long x6)] [.int s0] := by
  refine g_aload_n ok d_Mo_does_9 rfl (j := 0) rfl ?_
  refine gf_Mo_102 ok d_Mo_does_10 h1 h4 ?_
  exact g_icmp_ge (tgt := 20) ok d_Mo_does_13 (by decide) (fun z => (kt z)) (fun z => (kf z))
theorem k_Mo_does_16 {X : gC} {M : List mC} {k n : Nat} {x0 : Nat} {x1 : Int32} {x2 : Int64} {x4 : Int64} {x6 : Int64} (ok : gO X c_Mo_does "TripleStoreModel" w_Mo_does)  (kk : gg X M k n 21 [(0, .ref x0), (1, .int x1), (2, .long x2), (4, .long x4), (6, .long x6)] [.int 1]) : gg X M k n 16 [(0, .ref x0), (1, .int x1), (2, .long x2), (4, .long x4), (6, .long x6)] [] := by
  refine g_iconst (v := 1) ok d_Mo_does_16 (by decide) ?_
  exact g_goto (tgt := 21) ok d_Mo_does_17 (by decide) kk
theorem k_Mo_does_20 {X : gC} {M : List mC} {k n : Nat} {x0 : Nat} {x1 : Int32} {x2 : Int64} {x4 : Int64} {x6 : Int64} (ok : gO X c_Mo_does "TripleStoreModel" w_Mo_does)  (kk : gg X M k n 21 [(0, .ref x0), (1, .int x1), (2, .long x2), (4, .long x4), (6, .long x6)] [.int 0]) : gg X M k n 20 [(0, .ref x0), (1, .int x1), (2, .long x2), (4, .long x4), (6, .long x6)] [] := by
  refine g_iconst (v := 0) ok d_Mo_does_20 (by decide) ?_
  exact kk
theorem k_Mo_does_21 {X : gC} {M : List mC} {k n : Nat} {x0 : Nat} {x1 : Int32} {x2 : Int64} {x4 : Int64} {x6 : Int64} {s0 : Int32} (ok : gO X c_Mo_does "TripleStoreModel" w_Mo_does) (hl : gL X = 9)  (kt : ¬ s0 = x1 → gg X M k n 31 [(0, .ref x0), (1, .int x1), (2, .long x2), (4, .long x4), (6, .long x6)] []) (kf : s0 = x1 → gg X M k n 29 [] []) : gg X M k n 21 [(0, .ref x0), (1, .int x1), (2, .long x2), (4, .long x4), (6, .long x6)] [.int s0] := by
  refine g_istore (L' := [(0, .ref x0), (1, .int x1), (2, .long x2), (4, .long x4), (6, .long x6), (8, .int s0)]) ok d_Mo_does_21 (by rw [hl]; decide) rfl ?_
  refine g_iload ok d_Mo_does_23 (j := 5) rfl ?_
  refine g_iload_n ok d_Mo_does_25 rfl (j := 1) rfl ?_
  exact g_icmp_ne (tgt := 31) ok d_Mo_does_26 (by decide) (fun z => (gg_keep [0, 1, 2, 4, 6] (kt z))) (fun z => (gg_keep [] (kf z)))
theorem k_Mo_does_29 {X : gC} {M : List mC} {k n : Nat}  (ok : gO X c_Mo_does "TripleStoreModel" w_Mo_does)  {l9 : Launch} {rm : Room} {M0 : List mC} {post : Option Value → List mC → Prop} (E : gE X l9 y_Mo_does rm 9 (some .int) M0 post) (hp : post (some (.int 0)) M) (hk : k ≤ rm.cells) (hn : n ≤ rm.slots) : gg X M k n 29 [] [] := by
  refine g_iconst (v := 0) ok d_Mo_does_29 (by decide) ?_
  exact g_iret ok E d_Mo_does_30 hp hk hn
theorem k_Mo_does_31 {X : gC} {M : List mC} {k n : Nat} {x0 : Nat} {x1 : Int32} {x2 : Int64} {x4 : Int64} {x6 : Int64} (ok : gO X c_Mo_does "TripleStoreModel" w_Mo_does)  (kt : x1 = 0 → gg X M k n 59 [(0, .ref x0), (1, .int x1), (2, .long x2), (4, .long x4), (6, .long x6)] []) (kf : ¬ x1 = 0 → gg X M k n 35 [(0, .ref x0), (1, .int x1), (2, .long x2), (4, .long x4), (6, .long x6)] []) : gg X M k n 31 [(0, .ref x0), (1, .int x1), (2, .long x2), (4, .long x4), (6, .long x6)] [] := by
  refine g_iload_n ok d_Mo_does_31 rfl (j := 1) rfl ?_
  exact g_if_eq (tgt := 59) ok d_Mo_does_32 (by decide) (fun z => (kt z)) (fun z => (kf z))
theorem k_Mo_does_35 {X : gC} {M : List mC} {k n : Nat} {x0 : Nat} {x1 : Int32} {x2 : Int64} {x4 : Int64} {x6 : Int64} {fs2 : List Value} {f3 : Int32} (ok : gO X c_Mo_does "TripleStoreModel" w_Mo_does) (h1 : M[x0]? = some (.inr (10, fs2))) (h4 : fs2[1]? = some (.int f3)) (kt : 48 ≤ f3 → gg X M k n 49 [(0, .ref x0), (1, .int x1), (2, .long x2), (4, .long x4), (6, .long x6)] [.ref x0]) (kf : ¬ 48 ≤ f3 → gg X M k n 45 [(0, .ref x0), (1, .int x1), (2, .long x2), (4, .long x4), (6, .long x6)] [.ref x0]) : gg X M k n 35 [(0, .ref x0), (1, .int x1), (2, .long x2), (4, .long x4), (6, .long x6)] [] := by
  refine g_aload_n ok d_Mo_does_35 rfl (j := 0) rfl ?_
  refine g_aload_n ok d_Mo_does_36 rfl (j := 0) rfl ?_
  refine gf_Mo_102 ok d_Mo_does_37 h1 h4 ?_
  refine g_bipush (v := 48) ok d_Mo_does_40 (by decide) ?_
  exact g_icmp_ge (tgt := 49) ok d_Mo_does_42 (by decide) (fun z => (kt z)) (fun z => (kf z))
theorem k_Mo_does_45 {X : gC} {M : List mC} {k n : Nat} {x0 : Nat} {x1 : Int32} {x2 : Int64} {x4 : Int64} {x6 : Int64} (ok : gO X c_Mo_does "TripleStoreModel" w_Mo_does)  (kk : gg X M k n 50 [(0, .ref x0), (1, .int x1), (2, .long x2), (4, .long x4), (6, .long x6)] [.int 1, .ref x0]) : gg X M k n 45 [(0, .ref x0), (1, .int x1), (2, .long x2), (4, .long x4), (6, .long x6)] [.ref x0] := by
  refine g_iconst (v := 1) ok d_Mo_does_45 (by decide) ?_
  exact g_goto (tgt := 50) ok d_Mo_does_46 (by decide) kk
theorem k_Mo_does_49 {X : gC} {M : List mC} {k n : Nat} {x0 : Nat} {x1 : Int32} {x2 : Int64} {x4 : Int64} {x6 : Int64} (ok : gO X c_Mo_does "TripleStoreModel" w_Mo_does)  (kk : gg X M k n 50 [(0, .ref x0), (1, .int x1), (2, .long x2), (4, .long x4), (6, .long x6)] [.int 0, .ref x0]) : gg X M k n 49 [(0, .ref x0), (1, .int x1), (2, .long x2), (4, .long x4), (6, .long x6)] [.ref x0] := by
  refine g_iconst (v := 0) ok d_Mo_does_49 (by decide) ?_
  exact kk
theorem k_Mo_does_50 {X : gC} {M : List mC} {k n : Nat} {x0 : Nat} {x1 : Int32} {x2 : Int64} {x4 : Int64} {x6 : Int64} {s1 : Int32} {fs2 : List Value} (ok : gO X c_Mo_does "TripleStoreModel" w_Mo_does) (h1 : M[x0]? = some (.inr (10, fs2))) {rm : Room} {post : Option Value → List mC → Prop} (hm : mm_ (gLa X) y_Mo_good w_Mo_good rm [.ref x0, .int s1, .int 2] M post) (hR : gF X rm 3 k n) (hlen : ∀ r M', post r M' → M'.length = M.length) (kk : ∀ r M', post r M' → gg X M' (k + rm.cells) (n + rm.slots) 54 [(0, .ref x0), (1, .int x1), (2, .long x2), (4, .long x4), (6, .long x6)] (r.toList ++ [])) : gg X M k n 50 [(0, .ref x0), (1, .int x1), (2, .long x2), (4, .long x4), (6, .long x6)] [.int s1, .ref x0] := by
  refine g_iconst (v := 2) ok d_Mo_does_50 (by decide) ?_
  exact gc_Mo_109 (As := [.int s1, .int 2]) (rest := []) ok d_Mo_does_51 hm rfl rfl (Nat.le_of_ble_eq_true rfl) hR h1 hlen kk
theorem k_Mo_does_54 {X : gC} {M : List mC} {k n : Nat} {x0 : Nat} {x1 : Int32} {x2 : Int64} {x4 : Int64} {x6 : Int64} {s0 : Int32} (ok : gO X c_Mo_does "TripleStoreModel" w_Mo_does)  (kt : ¬ s0 = 0 → gg X M k n 59 [(0, .ref x0), (1, .int x1), (2, .long x2), (4, .long x4), (6, .long x6)] []) (kf : s0 = 0 → gg X M k n 57 [] []) : gg X M k n 54 [(0, .ref x0), (1, .int x1), (2, .long x2), (4, .long x4), (6, .long x6)] [.int s0] := by
  exact g_if_ne (tgt := 59) ok d_Mo_does_54 (by decide) (fun z => (kt z)) (fun z => (gg_keep [] (kf z)))
theorem k_Mo_does_57 {X : gC} {M : List mC} {k n : Nat}  (ok : gO X c_Mo_does "TripleStoreModel" w_Mo_does)  {l9 : Launch} {rm : Room} {M0 : List mC} {post : Option Value → List mC → Prop} (E : gE X l9 y_Mo_does rm 9 (some .int) M0 post) (hp : post (some (.int 0)) M) (hk : k ≤ rm.cells) (hn : n ≤ rm.slots) : gg X M k n 57 [] [] := by
  refine g_iconst (v := 0) ok d_Mo_does_57 (by decide) ?_
  exact g_iret ok E d_Mo_does_58 hp hk hn
theorem k_Mo_does_59 {X : gC} {M : List mC} {k n : Nat} {x0 : Nat} {x1 : Int32} {x2 : Int64} {x4 : Int64} {x6 : Int64} {fs2 : List Value} (ok : gO X c_Mo_does "TripleStoreModel" w_Mo_does) (h1 : M[x0]? = some (.inr (10, fs2))) {rm : Room} {post : Option Value → List mC → Prop} (hm : mm_ (gLa X) y_Mo_apply w_Mo_apply rm [.ref x0, .int x1, .long x2, .long x4, .long x6] M post) (hR : gF X rm 10 k n) (hlen : ∀ r M', post r M' → M'.length = M.length) (kk : ∀ r M', post r M' → gg X M' (k + rm.cells) (n + rm.slots) 69 [(0, .ref x0), (1, .int x1), (2, .long x2), (4, .long x4), (6, .long x6)] (r.toList ++ [])) : gg X M k n 59 [(0, .ref x0), (1, .int x1), (2, .long x2), (4, .long x4), (6, .long x6)] [] := by
  refine g_aload_n ok d_Mo_does_59 rfl (j := 0) rfl ?_
  refine g_iload_n ok d_Mo_does_60 rfl (j := 1) rfl ?_
  refine g_lload_n ok d_Mo_does_61 rfl (j := 2) rfl ?_
  refine g_lload ok d_Mo_does_62 (j := 3) rfl ?_
  refine g_lload ok d_Mo_does_64 (j := 4) rfl ?_
  exact gc_Mo_113 (As := [.int x1, .long x2, .long x4, .long x6]) (rest := []) ok d_Mo_does_66 hm rfl rfl (Nat.le_of_ble_eq_true rfl) hR h1 hlen kk
theorem k_Mo_does_69 {X : gC} {M : List mC} {k n : Nat} {x0 : Nat} {x1 : Int32} {x2 : Int64} {x4 : Int64} {x6 : Int64} {fs2 : List Value} {f3 : Nat} {f5 : Int32} {g8 : Nat → Int64} {N9 : Nat} {M11 : List mC} {M16 : List mC} {M21 : List mC} {f25 : Nat} {g28 : Nat → Int32} {N29 : Nat} {M35 : List mC} {f39 : Nat} {f41 : Int32} {g44 : Nat → Int32} {N45 : Nat} {M53 : List mC} {fs59 : List Value} {M61 : List mC} {f70 : Int32} (ok : gO X c_Mo_does "TripleStoreModel" w_Mo_does) (h1 : M[x0]? = some (.inr (10, fs2))) (h4 : fs2[4]? = some (.ref f3)) (h6 : fs2[7]? = some (.int f5)) (h7 : M[f3]? = some (.inl (1, N9, .inr (.inl g8)))) (h10 : vp_in (3 * f5) N9) (h12 : M.set f3 (.inl (1, N9, .inr (.inl (vp_updL g8 (3 * f5).toNatClampNeg x2)))) = M11) (h15 : vp_in ((3 * f5) + 1) N9) (h17 : M11.set f3 (.inl (1, N9, .inr (.inl (vp_updL (vp_updL g8 (3 * f5).toNatClampNeg x2) ((3 * f5) + 1).toNatClampNeg x4)))) = M16) (h20 : vp_in ((3 * f5) + 2) N9) (h22 : M16.set f3 (.inl (1, N9, .inr (.inl (vp_updL (vp_updL (vp_updL g8 (3 * f5).toNatClampNeg x2) ((3 * f5) + 1).toNatClampNeg x4) ((3 * f5) + 2).toNatClampNeg x6)))) = M21) (h26 : fs2[5]? = some (.ref f25)) (h27 : M[f25]? = some (.inl (3, N29, .inl g28))) (h31 : f25 ≠ f3) (h34 : vp_in f5 N29) (h36 : M21.set f25 (.inl (3, N29, .inl (upd g28 f5.toNatClampNeg (vp_nar .boolean x1)))) = M35) (h40 : fs2[6]? = some (.ref f39)) (h42 : fs2[9]? = some (.int f41)) (h43 : M[f39]? = some (.inl (0, N45, .inl g44))) (h47 : f3 ≠ f39) (h51 : f25 ≠ f39) (h52 : vp_in f5 N45) (h54 : M35.set f39 (.inl (0, N45, .inl (upd g44 f5.toNatClampNeg f41))) = M53) (h58 : 59 ≤ fs2.length) (h60 : fs2.set 7 (.int (f5 + 1)) = fs59) (h62 : M53.set x0 (.inr (10, fs59)) = M61) (h71 : fs2[10]? = some (.int f70)) (kt : ¬ f70 = 0 → gg X M61 k n 155 [] []) (kf : f70 = 0 → gg X M61 k n 151 [(0, .ref x0)] []) : gg X M k n 69 [(0, .ref x0), (1, .int x1), (2, .long x2), (4, .long x4), (6, .long x6)] [] := by
  refine g_aload_n ok d_Mo_does_69 rfl (j := 0) rfl ?_
  refine gf_Mo_16 ok d_Mo_does_70 h1 h4 ?_
  refine g_iconst (v := 3) ok d_Mo_does_73 (by decide) ?_
  refine g_aload_n ok d_Mo_does_74 rfl (j := 0) rfl ?_
  refine gf_Mo_117 ok d_Mo_does_75 h1 h6 ?_
  refine g_imul ok d_Mo_does_78 ?_
  refine g_lload_n ok d_Mo_does_79 rfl (j := 2) rfl ?_
  refine g_last (t := 1) ok rfl d_Mo_does_80 h7 h10 ?_
  rw [h12]
  have h13 : M11[f3]? = some (.inl (1, N9, .inr (.inl (vp_updL g8 (3 * f5).toNatClampNeg x2)))) := by rw [← h12]; exact gs_eq h7
  refine g_aload_n ok d_Mo_does_81 rfl (j := 0) rfl ?_
  have h14 : M11[x0]? = some (.inr (10, fs2)) := by rw [← h12]; exact (gs_ne (ne_ao h7 h1)).trans h1
  refine gf_Mo_16 ok d_Mo_does_82 h14 h4 ?_
  refine g_iconst (v := 3) ok d_Mo_does_85 (by decide) ?_
  refine g_aload_n ok d_Mo_does_86 rfl (j := 0) rfl ?_
  refine gf_Mo_117 ok d_Mo_does_87 h14 h6 ?_
  refine g_imul ok d_Mo_does_90 ?_
  refine g_iconst (v := 1) ok d_Mo_does_91 (by decide) ?_
  refine g_iadd ok d_Mo_does_92 ?_
  refine g_lload ok d_Mo_does_93 (j := 3) rfl ?_
  refine g_last (t := 1) ok rfl d_Mo_does_95 h13 h15 ?_
  rw [h17]
  have h18 : M16[f3]? = some (.inl (1, N9, .inr (.inl (vp_updL (vp_updL g8 (3 * f5).toNatClampNeg x2) ((3 * f5) + 1).toNatClampNeg x4)))) := by rw [← h17]; exact gs_eq h13
  refine g_aload_n ok d_Mo_does_96 rfl (j := 0) rfl ?_
  have h19 : M16[x0]? = some (.inr (10, fs2)) := by rw [← h17]; exact (gs_ne (ne_ao h13 h14)).trans h14
  refine gf_Mo_16 ok d_Mo_does_97 h19 h4 ?_
  refine g_iconst (v := 3) ok d_Mo_does_100 (by decide) ?_
  refine g_aload_n ok d_Mo_does_101 rfl (j := 0) rfl ?_
  refine gf_Mo_117 ok d_Mo_does_102 h19 h6 ?_
  refine g_imul ok d_Mo_does_105 ?_
  refine g_iconst (v := 2) ok d_Mo_does_106 (by decide) ?_
  refine g_iadd ok d_Mo_does_107 ?_
  refine g_lload ok d_Mo_does_108 (j := 4) rfl ?_
  refine g_last (t := 1) ok rfl d_Mo_does_110 h18 h20 ?_
  rw [h22]
  have h23 : M21[f3]? = some (.inl (1, N9, .inr (.inl (vp_updL (vp_updL (vp_updL g8 (3 * f5).toNatClampNeg x2) ((3 * f5) + 1).toNatClampNeg x4) ((3 * f5) + 2).toNatClampNeg x6)))) := by rw [← h22]; exact gs_eq h18
  refine g_aload_n ok d_Mo_does_111 rfl (j := 0) rfl ?_
  have h24 : M21[x0]? = some (.inr (10, fs2)) := by rw [← h22]; exact (gs_ne (ne_ao h18 h19)).trans h19
  refine gf_Mo_19 ok d_Mo_does_112 h24 h26 ?_
  refine g_aload_n ok d_Mo_does_115 rfl (j := 0) rfl ?_
  refine gf_Mo_117 ok d_Mo_does_116 h24 h6 ?_
  refine g_iload_n ok d_Mo_does_119 rfl (j := 1) rfl ?_
  have h30 : M11[f25]? = some (.inl (3, N29, .inl g28)) := by rw [← h12]; exact (gs_ne (Ne.symm h31)).trans h27
  have h32 : M16[f25]? = some (.inl (3, N29, .inl g28)) := by rw [← h17]; exact (gs_ne (Ne.symm h31)).trans h30
  have h33 : M21[f25]? = some (.inl (3, N29, .inl g28)) := by rw [← h22]; exact (gs_ne (Ne.symm h31)).trans h32
  refine g_zast (t := 3) ok rfl d_Mo_does_120 h33 h34 ?_
  rw [h36]
  have h37 : M35[f25]? = some (.inl (3, N29, .inl (upd g28 f5.toNatClampNeg (vp_nar .boolean x1)))) := by rw [← h36]; exact gs_eq h33
  refine g_aload_n ok d_Mo_does_121 rfl (j := 0) rfl ?_
  have h38 : M35[x0]? = some (.inr (10, fs2)) := by rw [← h36]; exact (gs_ne (ne_ao h33 h24)).trans h24
  refine gf_Mo_23 ok d_Mo_does_122 h38 h40 ?_
  refine g_aload_n ok d_Mo_does_125 rfl (j := 0) rfl ?_
  refine gf_Mo_117 ok d_Mo_does_126 h38 h6 ?_
  refine g_aload_n ok d_Mo_does_129 rfl (j := 0) rfl ?_
  refine gf_Mo_120 ok d_Mo_does_130 h38 h42 ?_
  have h46 : M11[f39]? = some (.inl (0, N45, .inl g44)) := by rw [← h12]; exact (gs_ne h47).trans h43
  have h48 : M16[f39]? = some (.inl (0, N45, .inl g44)) := by rw [← h17]; exact (gs_ne h47).trans h46
  have h49 : M21[f39]? = some (.inl (0, N45, .inl g44)) := by rw [← h22]; exact (gs_ne h47).trans h48
  have h50 : M35[f39]? = some (.inl (0, N45, .inl g44)) := by rw [← h36]; exact (gs_ne h51).trans h49
  refine g_iast (t := 0) ok rfl d_Mo_does_133 h50 h52 ?_
  rw [h54]
  have h55 : M53[f39]? = some (.inl (0, N45, .inl (upd g44 f5.toNatClampNeg f41))) := by rw [← h54]; exact gs_eq h50
  refine g_aload_n ok d_Mo_does_134 rfl (j := 0) rfl ?_
  refine g_dup ok d_Mo_does_135 rfl ?_
  have h56 : M53[x0]? = some (.inr (10, fs2)) := by rw [← h54]; exact (gs_ne (ne_ao h50 h38)).trans h38
  refine gf_Mo_117 ok d_Mo_does_136 h56 h6 ?_
  refine g_iconst (v := 1) ok d_Mo_does_139 (by decide) ?_
  refine g_iadd ok d_Mo_does_140 ?_
  have h57 : 7 < fs2.length := Nat.lt_of_lt_of_le (by decide) h58
  refine pf_Mo_117 ok d_Mo_does_141 h56 h57 (fun _ => ⟨rfl, rfl⟩) ?_
  rw [h60]
  rw [h62]
  have h63 : M61[x0]? = some (.inr (10, fs59)) := by rw [← h62]; exact gs_eq h56
  have h64 : fs59[4]? = some (.ref f3) := by rw [← h60]; exact (List.getElem?_set_ne (by decide : 7 ≠ 4)).trans h4
  have h65 : fs59[5]? = some (.ref f25) := by rw [← h60]; exact (List.getElem?_set_ne (by decide : 7 ≠ 5)).trans h26
  have h66 : fs59[6]? = some (.ref f39) := by rw [← h60]; exact (List.getElem?_set_ne (by decide : 7 ≠ 6)).trans h40
  have h67 : fs59[9]? = some (.int f41) := by rw [← h60]; exact (List.getElem?_set_ne (by decide : 7 ≠ 9)).trans h42
  have h68 : fs59[7]? = some (.int (f5 + 1)) := by rw [← h60]; exact List.getElem?_set_self h57
  have h69 : 59 ≤ fs59.length := by rw [← h60, List.length_set]; exact h58
  refine g_aload_n ok d_Mo_does_144 rfl (j := 0) rfl ?_
  have h72 : fs59[10]? = some (.int f70) := by rw [← h60]; exact (List.getElem?_set_ne (by decide : 7 ≠ 10)).trans h71
  refine gf_Mo_123 ok d_Mo_does_145 h63 h72 ?_
  exact g_if_ne (tgt := 155) ok d_Mo_does_148 (by decide) (fun z => (gg_keep [] (kt z))) (fun z => (gg_keep [0] (kf z)))
theorem k_Mo_does_151 {X : gC} {M : List mC} {k n : Nat} {x0 : Nat} {fs2 : List Value} (ok : gO X c_Mo_does "TripleStoreModel" w_Mo_does) (h1 : M[x0]? = some (.inr (10, fs2))) {rm : Room} {post : Option Value → List mC → Prop} (hm : mm_ (gLa X) y_Mo_close w_Mo_close rm [.ref x0] M post) (hR : gF X rm 1 k n) (hlen : ∀ r M', post r M' → M'.length = M.length) (kk : ∀ r M', post r M' → gg X M' (k + rm.cells) (n + rm.slots) 155 [] (r.toList ++ [])) : gg X M k n 151 [(0, .ref x0)] [] := by
  refine g_aload_n ok d_Mo_does_151 rfl (j := 0) rfl ?_
  exact gc_Mo_127 (As := []) (rest := []) ok d_Mo_does_152 hm rfl rfl (Nat.le_of_ble_eq_true rfl) hR h1 hlen (fun r M' q => (gg_keep [] (kk r M' q)))
theorem k_Mo_does_155 {X : gC} {M : List mC} {k n : Nat}  (ok : gO X c_Mo_does "TripleStoreModel" w_Mo_does)  {l9 : Launch} {rm : Room} {M0 : List mC} {post : Option Value → List mC → Prop} (E : gE X l9 y_Mo_does rm 9 (some .int) M0 post) (hp : post (some (.int 1)) M) (hk : k ≤ rm.cells) (hn : n ≤ rm.slots) : gg X M k n 155 [] [] := by
  refine g_iconst (v := 1) ok d_Mo_does_155 (by decide) ?_
  exact g_iret ok E d_Mo_does_156 hp hk hn
theorem k_Mo_close_0 {X : gC} {M : List mC} {k n : Nat} {x0 : Nat} {fs2 : List Value} {f3 : Int32} {fs7 : List Value} {M9 : List mC} {f14 : Int32} {fs18 : List Value} {M20 : List mC} {fs27 : List Value} {M29 : List mC} (ok : gO X c_Mo_close "TripleStoreModel" w_Mo_close) (h1 : M[x0]? = some (.inr (10, fs2))) (h4 : fs2[8]? = some (.int f3)) (h6 : 59 ≤ fs2.length) (h8 : fs2.set 8 (.int (f3 + 1)) = fs7) (h10 : M.set x0 (.inr (10, fs7)) = M9) (h15 : fs2[9]? = some (.int f14)) (h19 : fs7.set 9 (.int (f14 + 1)) = fs18) (h21 : M9.set x0 (.inr (10, fs18)) = M20) (h28 : fs18.set 10 (.int 0) = fs27) (h30 : M20.set x0 (.inr (10, fs27)) = M29) {l9 : Launch} {rm : Room} {M0 : List mC} {post : Option Value → List mC → Prop} (E : gE X l9 y_Mo_close rm 1 none M0 post) (hp : post (none) M29) (hk : k ≤ rm.cells) (hn : n ≤ rm.slots) : gg X M k n 0 [(0, .ref x0)] [] := by
  refine g_aload_n ok d_Mo_close_0 rfl (j := 0) rfl ?_
  refine g_dup ok d_Mo_close_1 rfl ?_
  refine gf_Mo_130 ok d_Mo_close_2 h1 h4 ?_
  refine g_iconst (v := 1) ok d_Mo_close_5 (by decide) ?_
  refine g_iadd ok d_Mo_close_6 ?_
  have h5 : 8 < fs2.length := Nat.lt_of_lt_of_le (by decide) h6
  refine pf_Mo_130 ok d_Mo_close_7 h1 h5 (fun _ => ⟨rfl, rfl⟩) ?_
  rw [h8]
  rw [h10]
  have h11 : M9[x0]? = some (.inr (10, fs7)) := by rw [← h10]; exact gs_eq h1
  have h12 : fs7[8]? = some (.int (f3 + 1)) := by rw [← h8]; exact List.getElem?_set_self h5
  have h13 : 59 ≤ fs7.length := by rw [← h8, List.length_set]; exact h6
  refine g_aload_n ok d_Mo_close_10 rfl (j := 0) rfl ?_
  refine g_dup ok d_Mo_close_11 rfl ?_
  have h16 : fs7[9]? = some (.int f14) := by rw [← h8]; exact (List.getElem?_set_ne (by decide : 8 ≠ 9)).trans h15
  refine gf_Mo_120 ok d_Mo_close_12 h11 h16 ?_
  refine g_iconst (v := 1) ok d_Mo_close_15 (by decide) ?_
  refine g_iadd ok d_Mo_close_16 ?_
  have h17 : 9 < fs7.length := Nat.lt_of_lt_of_le (by decide) h13
  refine pf_Mo_120 ok d_Mo_close_17 h11 h17 (fun _ => ⟨rfl, rfl⟩) ?_
  rw [h19]
  rw [h21]
  have h22 : M20[x0]? = some (.inr (10, fs18)) := by rw [← h21]; exact gs_eq h11
  have h23 : fs18[8]? = some (.int (f3 + 1)) := by rw [← h19]; exact (List.getElem?_set_ne (by decide : 9 ≠ 8)).trans h12
  have h24 : fs18[9]? = some (.int (f14 + 1)) := by rw [← h19]; exact List.getElem?_set_self h17
  have h25 : 59 ≤ fs18.length := by rw [← h19, List.length_set]; exact h13
  refine g_aload_n ok d_Mo_close_20 rfl (j := 0) rfl ?_
  refine g_iconst (v := 0) ok d_Mo_close_21 (by decide) ?_
  have h26 : 10 < fs18.length := Nat.lt_of_lt_of_le (by decide) h25
  refine pf_Mo_123 ok d_Mo_close_22 h22 h26 (fun _ => ⟨rfl, rfl⟩) ?_
  rw [h28]
  rw [h30]
  have h31 : M29[x0]? = some (.inr (10, fs27)) := by rw [← h30]; exact gs_eq h22
  have h32 : fs27[8]? = some (.int (f3 + 1)) := by rw [← h28]; exact (List.getElem?_set_ne (by decide : 10 ≠ 8)).trans h23
  have h33 : fs27[9]? = some (.int (f14 + 1)) := by rw [← h28]; exact (List.getElem?_set_ne (by decide : 10 ≠ 9)).trans h24
  have h34 : fs27[10]? = some (.int 0) := by rw [← h28]; exact List.getElem?_set_self h26
  have h35 : 59 ≤ fs27.length := by rw [← h28, List.length_set]; exact h25
  exact g_vret ok E d_Mo_close_25 hp hk hn
theorem k_Mo_isTriple_0 {X : gC} {M : List mC} {k n : Nat} {x0 : Nat} {x1 : Int64} {x3 : Int64} {x5 : Int64} (ok : gO X c_Mo_isTriple "TripleStoreModel" w_Mo_isTriple)  {rm : Room} {post : Option Value → List mC → Prop} (hm : mm_ (gLa X) y_Mo_isWord w_Mo_isWord rm [.long x1] M post) (hR : gF X rm 5 k n) (hlen : ∀ r M', post r M' → M'.length = M.length) (kk : ∀ r M', post r M' → gg X M' (k + rm.cells) (n + rm.slots) 5 [(0, .ref x0), (3, .long x3), (5, .long x5)] (r.toList ++ [.ref x0])) : gg X M k n 0 [(0, .ref x0), (1, .long x1), (3, .long x3), (5, .long x5)] [] := by
  refine g_aload_n ok d_Mo_isTriple_0 rfl (j := 0) rfl ?_
  refine g_lload_n ok d_Mo_isTriple_1 rfl (j := 1) rfl ?_
  exact gc_Mo_133 (As := [.long x1]) (rest := [.ref x0]) ok d_Mo_isTriple_2 hm rfl rfl (Nat.le_of_ble_eq_true rfl) hR hlen (fun r M' q => (gg_keep [0, 3, 5] (kk r M' q)))
theorem k_Mo_isTriple_5 {X : gC} {M : List mC} {k n : Nat} {x0 : Nat} {x3 : Int64} {x5 : Int64} {s1 : Int32} (ok : gO X c_Mo_isTriple "TripleStoreModel" w_Mo_isTriple)  (kt : s1 = 0 → gg X M k n 35 [(0, .ref x0)] [.ref x0]) (kf : ¬ s1 = 0 → gg X M k n 8 [(0, .ref x0), (3, .long x3), (5, .long x5)] [.ref x0]) : gg X M k n 5 [(0, .ref x0), (3, .long x3), (5, .long x5)] [.int s1, .ref x0] := by
  exact g_if_eq (tgt := 35) ok d_Mo_isTriple_5 (by decide) (fun z => (gg_keep [0] (kt z))) (fun z => (kf z))
theorem k_Mo_isTriple_8 {X : gC} {M : List mC} {k n : Nat} {x0 : Nat} {x3 : Int64} {x5 : Int64} (ok : gO X c_Mo_isTriple "TripleStoreModel" w_Mo_isTriple)  {rm : Room} {post : Option Value → List mC → Prop} (hm : mm_ (gLa X) y_Mo_isWord w_Mo_isWord rm [.long x3] M post) (hR : gF X rm 5 k n) (hlen : ∀ r M', post r M' → M'.length = M.length) (kk : ∀ r M', post r M' → gg X M' (k + rm.cells) (n + rm.slots) 12 [(0, .ref x0), (5, .long x5)] (r.toList ++ [.ref x0])) : gg X M k n 8 [(0, .ref x0), (3, .long x3), (5, .long x5)] [.ref x0] := by
  refine g_lload_n ok d_Mo_isTriple_8 rfl (j := 1) rfl ?_
  exact gc_Mo_133 (As := [.long x3]) (rest := [.ref x0]) ok d_Mo_isTriple_9 hm rfl rfl (Nat.le_of_ble_eq_true rfl) hR hlen (fun r M' q => (gg_keep [0, 5] (kk r M' q)))
theorem k_Mo_isTriple_12 {X : gC} {M : List mC} {k n : Nat} {x0 : Nat} {x5 : Int64} {s1 : Int32} (ok : gO X c_Mo_isTriple "TripleStoreModel" w_Mo_isTriple)  (kt : s1 = 0 → gg X M k n 35 [(0, .ref x0)] [.ref x0]) (kf : ¬ s1 = 0 → gg X M k n 15 [(0, .ref x0), (5, .long x5)] [.ref x0]) : gg X M k n 12 [(0, .ref x0), (5, .long x5)] [.int s1, .ref x0] := by
  exact g_if_eq (tgt := 35) ok d_Mo_isTriple_12 (by decide) (fun z => (gg_keep [0] (kt z))) (fun z => (kf z))
theorem k_Mo_isTriple_15 {X : gC} {M : List mC} {k n : Nat} {x0 : Nat} {x5 : Int64} (ok : gO X c_Mo_isTriple "TripleStoreModel" w_Mo_isTriple)  {rm : Room} {post : Option Value → List mC → Prop} (hm : mm_ (gLa X) y_Mo_isWord w_Mo_isWord rm [.long x5] M post) (hR : gF X rm 5 k n) (hlen : ∀ r M', post r M' → M'.length = M.length) (kk : ∀ r M', post r M' → gg X M' (k + rm.cells) (n + rm.slots) 20 [(0, .ref x0), (5, .long x5)] (r.toList ++ [.ref x0])) : gg X M k n 15 [(0, .ref x0), (5, .long x5)] [.ref x0] := by
  refine g_lload ok d_Mo_isTriple_15 (j := 1) rfl ?_
  exact gc_Mo_133 (As := [.long x5]) (rest := [.ref x0]) ok d_Mo_isTriple_17 hm rfl rfl (Nat.le_of_ble_eq_true rfl) hR hlen kk
theorem k_Mo_isTriple_20 {X : gC} {M : List mC} {k n : Nat} {x0 : Nat} {x5 : Int64} {s1 : Int32} (ok : gO X c_Mo_isTriple "TripleStoreModel" w_Mo_isTriple)  (kt : ¬ s1 = 0 → gg X M k n 31 [(0, .ref x0)] [.ref x0]) (kf : s1 = 0 → gg X M k n 23 [(0, .ref x0), (5, .long x5)] [.ref x0]) : gg X M k n 20 [(0, .ref x0), (5, .long x5)] [.int s1, .ref x0] := by
  exact g_if_ne (tgt := 31) ok d_Mo_isTriple_20 (by decide) (fun z => (gg_keep [0] (kt z))) (fun z => (kf z))
theorem k_Mo_isTriple_23 {X : gC} {M : List mC} {k n : Nat} {x0 : Nat} {x5 : Int64} (ok : gO X c_Mo_isTriple "TripleStoreModel" w_Mo_isTriple)  {rm : Room} {post : Option Value → List mC → Prop} (hm : mm_ (gLa X) y_Mo_isNumber w_Mo_isNumber rm [.long x5] M post) (hR : gF X rm 2 k n) (hlen : ∀ r M', post r M' → M'.length = M.length) (kk : ∀ r M', post r M' → gg X M' (k + rm.cells) (n + rm.slots) 28 [(0, .ref x0)] (r.toList ++ [.ref x0])) : gg X M k n 23 [(0, .ref x0), (5, .long x5)] [.ref x0] := by
  refine g_lload ok d_Mo_isTriple_23 (j := 1) rfl ?_
  exact gc_Mo_137 (As := [.long x5]) (rest := [.ref x0]) ok d_Mo_isTriple_25 hm rfl rfl (Nat.le_of_ble_eq_true rfl) hR hlen (fun r M' q => (gg_keep [0] (kk r M' q)))
theorem k_Mo_isTriple_28 {X : gC} {M : List mC} {k n : Nat} {x0 : Nat} {s1 : Int32} (ok : gO X c_Mo_isTriple "TripleStoreModel" w_Mo_isTriple)  (kt : s1 = 0 → gg X M k n 35 [(0, .ref x0)] [.ref x0]) (kf : ¬ s1 = 0 → gg X M k n 31 [(0, .ref x0)] [.ref x0]) : gg X M k n 28 [(0, .ref x0)] [.int s1, .ref x0] := by
  exact g_if_eq (tgt := 35) ok d_Mo_isTriple_28 (by decide) (fun z => (kt z)) (fun z => (kf z))
theorem k_Mo_isTriple_31 {X : gC} {M : List mC} {k n : Nat} {x0 : Nat} (ok : gO X c_Mo_isTriple "TripleStoreModel" w_Mo_isTriple)  (kk : gg X M k n 36 [(0, .ref x0)] [.int 1, .ref x0]) : gg X M k n 31 [(0, .ref x0)] [.ref x0] := by
  refine g_iconst (v := 1) ok d_Mo_isTriple_31 (by decide) ?_
  exact g_goto (tgt := 36) ok d_Mo_isTriple_32 (by decide) kk
theorem k_Mo_isTriple_35 {X : gC} {M : List mC} {k n : Nat} {x0 : Nat} (ok : gO X c_Mo_isTriple "TripleStoreModel" w_Mo_isTriple)  (kk : gg X M k n 36 [(0, .ref x0)] [.int 0, .ref x0]) : gg X M k n 35 [(0, .ref x0)] [.ref x0] := by
  refine g_iconst (v := 0) ok d_Mo_isTriple_35 (by decide) ?_
  exact kk
theorem k_Mo_isTriple_36 {X : gC} {M : List mC} {k n : Nat} {x0 : Nat} {s1 : Int32} {fs2 : List Value} (ok : gO X c_Mo_isTriple "TripleStoreModel" w_Mo_isTriple) (h1 : M[x0]? = some (.inr (10, fs2))) {rm : Room} {post : Option Value → List mC → Prop} (hm : mm_ (gLa X) y_Mo_good w_Mo_good rm [.ref x0, .int s1, .int 1] M post) (hR : gF X rm 3 k n) (hlen : ∀ r M', post r M' → M'.length = M.length) (kk : ∀ r M', post r M' → gg X M' (k + rm.cells) (n + rm.slots) 40 [] (r.toList ++ [])) : gg X M k n 36 [(0, .ref x0)] [.int s1, .ref x0] := by
  refine g_iconst (v := 1) ok d_Mo_isTriple_36 (by decide) ?_
  exact gc_Mo_109 (As := [.int s1, .int 1]) (rest := []) ok d_Mo_isTriple_37 hm rfl rfl (Nat.le_of_ble_eq_true rfl) hR h1 hlen (fun r M' q => (gg_keep [] (kk r M' q)))
theorem k_Mo_isTriple_40 {X : gC} {M : List mC} {k n : Nat} {s0 : Int32} (ok : gO X c_Mo_isTriple "TripleStoreModel" w_Mo_isTriple)  {l9 : Launch} {rm : Room} {M0 : List mC} {post : Option Value → List mC → Prop} (E : gE X l9 y_Mo_isTriple rm 7 (some .boolean) M0 post) (hz : narrow .boolean (.int s0) = .int s0) (hp : post (some (.int s0)) M) (hk : k ≤ rm.cells) (hn : n ≤ rm.slots) : gg X M k n 40 [] [.int s0] := by
  exact g_zret ok E d_Mo_isTriple_40 hz hp hk hn
theorem k_Mo_add_0 {X : gC} {M : List mC} {k n : Nat} {x0 : Nat} {x1 : Int64} {x3 : Int64} {x5 : Int64} {fs2 : List Value} (ok : gO X c_Mo_add "TripleStoreModel" w_Mo_add) (h1 : M[x0]? = some (.inr (10, fs2))) {rm : Room} {post : Option Value → List mC → Prop} (hm : mm_ (gLa X) y_Mo_isTriple w_Mo_isTriple rm [.ref x0, .long x1, .long x3, .long x5] M post) (hR : gF X rm 7 k n) (hlen : ∀ r M', post r M' → M'.length = M.length) (kk : ∀ r M', post r M' → gg X M' (k + rm.cells) (n + rm.slots) 8 [(0, .ref x0), (1, .long x1), (3, .long x3), (5, .long x5)] (r.toList ++ [])) : gg X M k n 0 [(0, .ref x0), (1, .long x1), (3, .long x3), (5, .long x5)] [] := by
  refine g_aload_n ok d_Mo_add_0 rfl (j := 0) rfl ?_
  refine g_lload_n ok d_Mo_add_1 rfl (j := 1) rfl ?_
  refine g_lload_n ok d_Mo_add_2 rfl (j := 2) rfl ?_
  refine g_lload ok d_Mo_add_3 (j := 3) rfl ?_
  exact gc_Mo_140 (As := [.long x1, .long x3, .long x5]) (rest := []) ok d_Mo_add_5 hm rfl rfl (Nat.le_of_ble_eq_true rfl) hR h1 hlen kk
theorem k_Mo_add_8 {X : gC} {M : List mC} {k n : Nat} {x0 : Nat} {x1 : Int64} {x3 : Int64} {x5 : Int64} {s0 : Int32} (ok : gO X c_Mo_add "TripleStoreModel" w_Mo_add)  (kt : s0 = 0 → gg X M k n 23 [] []) (kf : ¬ s0 = 0 → gg X M k n 11 [(0, .ref x0), (1, .long x1), (3, .long x3), (5, .long x5)] []) : gg X M k n 8 [(0, .ref x0), (1, .long x1), (3, .long x3), (5, .long x5)] [.int s0] := by
  exact g_if_eq (tgt := 23) ok d_Mo_add_8 (by decide) (fun z => (gg_keep [] (kt z))) (fun z => (kf z))
theorem k_Mo_add_11 {X : gC} {M : List mC} {k n : Nat} {x0 : Nat} {x1 : Int64} {x3 : Int64} {x5 : Int64} {fs2 : List Value} (ok : gO X c_Mo_add "TripleStoreModel" w_Mo_add) (h1 : M[x0]? = some (.inr (10, fs2))) {rm : Room} {post : Option Value → List mC → Prop} (hm : mm_ (gLa X) y_Mo_does w_Mo_does rm [.ref x0, .int 1, .long x1, .long x3, .long x5] M post) (hR : gF X rm 9 k n) (hlen : ∀ r M', post r M' → M'.length = M.length) (kk : ∀ r M', post r M' → gg X M' (k + rm.cells) (n + rm.slots) 20 [] (r.toList ++ [])) : gg X M k n 11 [(0, .ref x0), (1, .long x1), (3, .long x3), (5, .long x5)] [] := by
  refine g_aload_n ok d_Mo_add_11 rfl (j := 0) rfl ?_
  refine g_iconst (v := 1) ok d_Mo_add_12 (by decide) ?_
  refine g_lload_n ok d_Mo_add_13 rfl (j := 1) rfl ?_
  refine g_lload_n ok d_Mo_add_14 rfl (j := 2) rfl ?_
  refine g_lload ok d_Mo_add_15 (j := 3) rfl ?_
  exact gc_Mo_144 (As := [.int 1, .long x1, .long x3, .long x5]) (rest := []) ok d_Mo_add_17 hm rfl rfl (Nat.le_of_ble_eq_true rfl) hR h1 hlen (fun r M' q => (gg_keep [] (kk r M' q)))
theorem k_Mo_add_20 {X : gC} {M : List mC} {k n : Nat} {s0 : Int32} (ok : gO X c_Mo_add "TripleStoreModel" w_Mo_add)  (kk : gg X M k n 24 [] [.int s0]) : gg X M k n 20 [] [.int s0] := by
  exact g_goto (tgt := 24) ok d_Mo_add_20 (by decide) kk
theorem k_Mo_add_23 {X : gC} {M : List mC} {k n : Nat}  (ok : gO X c_Mo_add "TripleStoreModel" w_Mo_add)  (kk : gg X M k n 24 [] [.int 0]) : gg X M k n 23 [] [] := by
  refine g_iconst (v := 0) ok d_Mo_add_23 (by decide) ?_
  exact kk
theorem k_Mo_add_24 {X : gC} {M : List mC} {k n : Nat} {s0 : Int32} (ok : gO X c_Mo_add "TripleStoreModel" w_Mo_add)  {l9 : Launch} {rm : Room} {M0 : List mC} {post : Option Value → List mC → Prop} (E : gE X l9 y_Mo_add rm 7 (some .int) M0 post) (hp : post (some (.int s0)) M) (hk : k ≤ rm.cells) (hn : n ≤ rm.slots) : gg X M k n 24 [] [.int s0] := by
  exact g_iret ok E d_Mo_add_24 hp hk hn
theorem k_Mo_remove_0 {X : gC} {M : List mC} {k n : Nat} {x0 : Nat} {x1 : Int64} {x3 : Int64} {x5 : Int64} {fs2 : List Value} (ok : gO X c_Mo_remove "TripleStoreModel" w_Mo_remove) (h1 : M[x0]? = some (.inr (10, fs2))) {rm : Room} {post : Option Value → List mC → Prop} (hm : mm_ (gLa X) y_Mo_isTriple w_Mo_isTriple rm [.ref x0, .long x1, .long x3, .long x5] M post) (hR : gF X rm 7 k n) (hlen : ∀ r M', post r M' → M'.length = M.length) (kk : ∀ r M', post r M' → gg X M' (k + rm.cells) (n + rm.slots) 8 [(0, .ref x0), (1, .long x1), (3, .long x3), (5, .long x5)] (r.toList ++ [])) : gg X M k n 0 [(0, .ref x0), (1, .long x1), (3, .long x3), (5, .long x5)] [] := by
  refine g_aload_n ok d_Mo_remove_0 rfl (j := 0) rfl ?_
  refine g_lload_n ok d_Mo_remove_1 rfl (j := 1) rfl ?_
  refine g_lload_n ok d_Mo_remove_2 rfl (j := 2) rfl ?_
  refine g_lload ok d_Mo_remove_3 (j := 3) rfl ?_
  exact gc_Mo_140 (As := [.long x1, .long x3, .long x5]) (rest := []) ok d_Mo_remove_5 hm rfl rfl (Nat.le_of_ble_eq_true rfl) hR h1 hlen kk
theorem k_Mo_remove_8 {X : gC} {M : List mC} {k n : Nat} {x0 : Nat} {x1 : Int64} {x3 : Int64} {x5 : Int64} {s0 : Int32} (ok : gO X c_Mo_remove "TripleStoreModel" w_Mo_remove)  (kt : s0 = 0 → gg X M k n 23 [] []) (kf : ¬ s0 = 0 → gg X M k n 11 [(0, .ref x0), (1, .long x1), (3, .long x3), (5, .long x5)] []) : gg X M k n 8 [(0, .ref x0), (1, .long x1), (3, .long x3), (5, .long x5)] [.int s0] := by
  exact g_if_eq (tgt := 23) ok d_Mo_remove_8 (by decide) (fun z => (gg_keep [] (kt z))) (fun z => (kf z))
theorem k_Mo_remove_11 {X : gC} {M : List mC} {k n : Nat} {x0 : Nat} {x1 : Int64} {x3 : Int64} {x5 : Int64} {fs2 : List Value} (ok : gO X c_Mo_remove "TripleStoreModel" w_Mo_remove) (h1 : M[x0]? = some (.inr (10, fs2))) {rm : Room} {post : Option Value → List mC → Prop} (hm : mm_ (gLa X) y_Mo_does w_Mo_does rm [.ref x0, .int 0, .long x1, .long x3, .long x5] M post) (hR : gF X rm 9 k n) (hlen : ∀ r M', post r M' → M'.length = M.length) (kk : ∀ r M', post r M' → gg X M' (k + rm.cells) (n + rm.slots) 20 [] (r.toList ++ [])) : gg X M k n 11 [(0, .ref x0), (1, .long x1), (3, .long x3), (5, .long x5)] [] := by
  refine g_aload_n ok d_Mo_remove_11 rfl (j := 0) rfl ?_
  refine g_iconst (v := 0) ok d_Mo_remove_12 (by decide) ?_
  refine g_lload_n ok d_Mo_remove_13 rfl (j := 1) rfl ?_
  refine g_lload_n ok d_Mo_remove_14 rfl (j := 2) rfl ?_
  refine g_lload ok d_Mo_remove_15 (j := 3) rfl ?_
  exact gc_Mo_144 (As := [.int 0, .long x1, .long x3, .long x5]) (rest := []) ok d_Mo_remove_17 hm rfl rfl (Nat.le_of_ble_eq_true rfl) hR h1 hlen (fun r M' q => (gg_keep [] (kk r M' q)))
theorem k_Mo_remove_20 {X : gC} {M : List mC} {k n : Nat} {s0 : Int32} (ok : gO X c_Mo_remove "TripleStoreModel" w_Mo_remove)  (kk : gg X M k n 24 [] [.int s0]) : gg X M k n 20 [] [.int s0] := by
  exact g_goto (tgt := 24) ok d_Mo_remove_20 (by decide) kk
theorem k_Mo_remove_23 {X : gC} {M : List mC} {k n : Nat}  (ok : gO X c_Mo_remove "TripleStoreModel" w_Mo_remove)  (kk : gg X M k n 24 [] [.int 0]) : gg X M k n 23 [] [] := by
  refine g_iconst (v := 0) ok d_Mo_remove_23 (by decide) ?_
  exact kk
theorem k_Mo_remove_24 {X : gC} {M : List mC} {k n : Nat} {s0 : Int32} (ok : gO X c_Mo_remove "TripleStoreModel" w_Mo_remove)  {l9 : Launch} {rm : Room} {M0 : List mC} {post : Option Value → List mC → Prop} (E : gE X l9 y_Mo_remove rm 7 (some .int) M0 post) (hp : post (some (.int s0)) M) (hk : k ≤ rm.cells) (hn : n ≤ rm.slots) : gg X M k n 24 [] [.int s0] := by
  exact g_iret ok E d_Mo_remove_24 hp hk hn
theorem k_Mo_begin_0 {X : gC} {M : List mC} {k n : Nat} {x0 : Nat} {fs2 : List Value} {f3 : Int32} (ok : gO X c_Mo_begin "TripleStoreModel" w_Mo_begin) (h1 : M[x0]? = some (.inr (10, fs2))) (h4 : fs2[10]? = some (.int f3)) (kt : ¬ f3 = 0 → gg X M k n 12 [(0, .ref x0)] [.ref x0]) (kf : f3 = 0 → gg X M k n 8 [(0, .ref x0)] [.ref x0]) : gg X M k n 0 [(0, .ref x0)] [] := by
  refine g_aload_n ok d_Mo_begin_0 rfl (j := 0) rfl ?_
  refine g_aload_n ok d_Mo_begin_1 rfl (j := 0) rfl ?_
  refine gf_Mo_123 ok d_Mo_begin_2 h1 h4 ?_
  exact g_if_ne (tgt := 12) ok d_Mo_begin_5 (by decide) (fun z => (kt z)) (fun z => (kf z))
theorem k_Mo_begin_8 {X : gC} {M : List mC} {k n : Nat} {x0 : Nat} (ok : gO X c_Mo_begin "TripleStoreModel" w_Mo_begin)  (kk : gg X M k n 13 [(0, .ref x0)] [.int 1, .ref x0]) : gg X M k n 8 [(0, .ref x0)] [.ref x0] := by
  refine g_iconst (v := 1) ok d_Mo_begin_8 (by decide) ?_
  exact g_goto (tgt := 13) ok d_Mo_begin_9 (by decide) kk
theorem k_Mo_begin_12 {X : gC} {M : List mC} {k n : Nat} {x0 : Nat} (ok : gO X c_Mo_begin "TripleStoreModel" w_Mo_begin)  (kk : gg X M k n 13 [(0, .ref x0)] [.int 0, .ref x0]) : gg X M k n 12 [(0, .ref x0)] [.ref x0] := by
  refine g_iconst (v := 0) ok d_Mo_begin_12 (by decide) ?_
  exact kk
theorem k_Mo_begin_13 {X : gC} {M : List mC} {k n : Nat} {x0 : Nat} {s1 : Int32} {fs2 : List Value} (ok : gO X c_Mo_begin "TripleStoreModel" w_Mo_begin) (h1 : M[x0]? = some (.inr (10, fs2))) {rm : Room} {post : Option Value → List mC → Prop} (hm : mm_ (gLa X) y_Mo_good w_Mo_good rm [.ref x0, .int s1, .int 1] M post) (hR : gF X rm 3 k n) (hlen : ∀ r M', post r M' → M'.length = M.length) (kk : ∀ r M', post r M' → gg X M' (k + rm.cells) (n + rm.slots) 17 [(0, .ref x0)] (r.toList ++ [])) : gg X M k n 13 [(0, .ref x0)] [.int s1, .ref x0] := by
  refine g_iconst (v := 1) ok d_Mo_begin_13 (by decide) ?_
  exact gc_Mo_109 (As := [.int s1, .int 1]) (rest := []) ok d_Mo_begin_14 hm rfl rfl (Nat.le_of_ble_eq_true rfl) hR h1 hlen kk
theorem k_Mo_begin_17 {X : gC} {M : List mC} {k n : Nat} {x0 : Nat} {s0 : Int32} (ok : gO X c_Mo_begin "TripleStoreModel" w_Mo_begin)  (kt : ¬ s0 = 0 → gg X M k n 22 [(0, .ref x0)] []) (kf : s0 = 0 → gg X M k n 20 [] []) : gg X M k n 17 [(0, .ref x0)] [.int s0] := by
  exact g_if_ne (tgt := 22) ok d_Mo_begin_17 (by decide) (fun z => (kt z)) (fun z => (gg_keep [] (kf z)))
theorem k_Mo_begin_20 {X : gC} {M : List mC} {k n : Nat}  (ok : gO X c_Mo_begin "TripleStoreModel" w_Mo_begin)  {l9 : Launch} {rm : Room} {M0 : List mC} {post : Option Value → List mC → Prop} (E : gE X l9 y_Mo_begin rm 1 (some .int) M0 post) (hp : post (some (.int 0)) M) (hk : k ≤ rm.cells) (hn : n ≤ rm.slots) : gg X M k n 20 [] [] := by
  refine g_iconst (v := 0) ok d_Mo_begin_20 (by decide) ?_
  exact g_iret ok E d_Mo_begin_21 hp hk hn
theorem k_Mo_begin_22 {X : gC} {M : List mC} {k n : Nat} {x0 : Nat} {fs2 : List Value} {fs5 : List Value} {M7 : List mC} {f12 : Int32} {fs16 : List Value} {M18 : List mC} {f25 : Int32} (ok : gO X c_Mo_begin "TripleStoreModel" w_Mo_begin) (h1 : M[x0]? = some (.inr (10, fs2))) (h4 : 59 ≤ fs2.length) (h6 : fs2.set 10 (.int 1) = fs5) (h8 : M.set x0 (.inr (10, fs5)) = M7) (h13 : fs2[7]? = some (.int f12)) (h17 : fs5.set 11 (.int f12) = fs16) (h19 : M7.set x0 (.inr (10, fs16)) = M18) (h26 : fs2[8]? = some (.int f25)) {l9 : Launch} {rm : Room} {M0 : List mC} {post : Option Value → List mC → Prop} (E : gE X l9 y_Mo_begin rm 1 (some .int) M0 post) (hp : post (some (.int f25)) M18) (hk : k ≤ rm.cells) (hn : n ≤ rm.slots) : gg X M k n 22 [(0, .ref x0)] [] := by
  refine g_aload_n ok d_Mo_begin_22 rfl (j := 0) rfl ?_
  refine g_iconst (v := 1) ok d_Mo_begin_23 (by decide) ?_
  have h3 : 10 < fs2.length := Nat.lt_of_lt_of_le (by decide) h4
  refine pf_Mo_123 ok d_Mo_begin_24 h1 h3 (fun _ => ⟨rfl, rfl⟩) ?_
  rw [h6]
  rw [h8]
  have h9 : M7[x0]? = some (.inr (10, fs5)) := by rw [← h8]; exact gs_eq h1
  have h10 : fs5[10]? = some (.int 1) := by rw [← h6]; exact List.getElem?_set_self h3
  have h11 : 59 ≤ fs5.length := by rw [← h6, List.length_set]; exact h4
  refine g_aload_n ok d_Mo_begin_27 rfl (j := 0) rfl ?_
  refine g_aload_n ok d_Mo_begin_28 rfl (j := 0) rfl ?_
  have h14 : fs5[7]? = some (.int f12) := by rw [← h6]; exact (List.getElem?_set_ne (by decide : 10 ≠ 7)).trans h13
  refine gf_Mo_117 ok d_Mo_begin_29 h9 h14 ?_
  have h15 : 11 < fs5.length := Nat.lt_of_lt_of_le (by decide) h11
  refine pf_Mo_148 ok d_Mo_begin_32 h9 h15 (fun _ => ⟨rfl, rfl⟩) ?_
  rw [h17]
  rw [h19]
  have h20 : M18[x0]? = some (.inr (10, fs16)) := by rw [← h19]; exact gs_eq h9
  have h21 : fs16[10]? = some (.int 1) := by rw [← h17]; exact (List.getElem?_set_ne (by decide : 11 ≠ 10)).trans h10
  have h22 : fs16[7]? = some (.int f12) := by rw [← h17]; exact (List.getElem?_set_ne (by decide : 11 ≠ 7)).trans h14
  have h23 : fs16[11]? = some (.int f12) := by rw [← h17]; exact List.getElem?_set_self h15
  have h24 : 59 ≤ fs16.length := by rw [← h17, List.length_set]; exact h11
  refine g_aload_n ok d_Mo_begin_35 rfl (j := 0) rfl ?_
  have h27 : fs5[8]? = some (.int f25) := by rw [← h6]; exact (List.getElem?_set_ne (by decide : 10 ≠ 8)).trans h26
  have h28 : fs16[8]? = some (.int f25) := by rw [← h17]; exact (List.getElem?_set_ne (by decide : 11 ≠ 8)).trans h27
  refine gf_Mo_130 ok d_Mo_begin_36 h20 h28 ?_
  exact g_iret ok E d_Mo_begin_39 hp hk hn
theorem k_Mo_commit_0 {X : gC} {M : List mC} {k n : Nat} {x0 : Nat} {fs2 : List Value} {f3 : Int32} (ok : gO X c_Mo_commit "TripleStoreModel" w_Mo_commit) (h1 : M[x0]? = some (.inr (10, fs2))) (h4 : fs2[10]? = some (.int f3)) {rm : Room} {post : Option Value → List mC → Prop} (hm : mm_ (gLa X) y_Mo_good w_Mo_good rm [.ref x0, .int f3, .int 1] M post) (hR : gF X rm 3 k n) (hlen : ∀ r M', post r M' → M'.length = M.length) (kk : ∀ r M', post r M' → gg X M' (k + rm.cells) (n + rm.slots) 9 [(0, .ref x0)] (r.toList ++ [])) : gg X M k n 0 [(0, .ref x0)] [] := by
  refine g_aload_n ok d_Mo_commit_0 rfl (j := 0) rfl ?_
  refine g_aload_n ok d_Mo_commit_1 rfl (j := 0) rfl ?_
  refine gf_Mo_123 ok d_Mo_commit_2 h1 h4 ?_
  refine g_iconst (v := 1) ok d_Mo_commit_5 (by decide) ?_
  exact gc_Mo_109 (As := [.int f3, .int 1]) (rest := []) ok d_Mo_commit_6 hm rfl rfl (Nat.le_of_ble_eq_true rfl) hR h1 hlen kk
theorem k_Mo_commit_9 {X : gC} {M : List mC} {k n : Nat} {x0 : Nat} {s0 : Int32} (ok : gO X c_Mo_commit "TripleStoreModel" w_Mo_commit)  (kt : ¬ s0 = 0 → gg X M k n 14 [(0, .ref x0)] []) (kf : s0 = 0 → gg X M k n 12 [] []) : gg X M k n 9 [(0, .ref x0)] [.int s0] := by
  exact g_if_ne (tgt := 14) ok d_Mo_commit_9 (by decide) (fun z => (kt z)) (fun z => (gg_keep [] (kf z)))
theorem k_Mo_commit_12 {X : gC} {M : List mC} {k n : Nat}  (ok : gO X c_Mo_commit "TripleStoreModel" w_Mo_commit)  {l9 : Launch} {rm : Room} {M0 : List mC} {post : Option Value → List mC → Prop} (E : gE X l9 y_Mo_commit rm 1 (some .int) M0 post) (hp : post (some (.int 0)) M) (hk : k ≤ rm.cells) (hn : n ≤ rm.slots) : gg X M k n 12 [] [] := by
  refine g_iconst (v := 0) ok d_Mo_commit_12 (by decide) ?_
  exact g_iret ok E d_Mo_commit_13 hp hk hn
theorem k_Mo_commit_14 {X : gC} {M : List mC} {k n : Nat} {x0 : Nat} {fs2 : List Value} (ok : gO X c_Mo_commit "TripleStoreModel" w_Mo_commit) (h1 : M[x0]? = some (.inr (10, fs2))) {rm : Room} {post : Option Value → List mC → Prop} (hm : mm_ (gLa X) y_Mo_close w_Mo_close rm [.ref x0] M post) (hR : gF X rm 1 k n) (hlen : ∀ r M', post r M' → M'.length = M.length) (kk : ∀ r M', post r M' → gg X M' (k + rm.cells) (n + rm.slots) 18 [(0, .ref x0)] (r.toList ++ [])) : gg X M k n 14 [(0, .ref x0)] [] := by
  refine g_aload_n ok d_Mo_commit_14 rfl (j := 0) rfl ?_
  exact gc_Mo_127 (As := []) (rest := []) ok d_Mo_commit_15 hm rfl rfl (Nat.le_of_ble_eq_true rfl) hR h1 hlen kk
theorem k_Mo_commit_18 {X : gC} {M : List mC} {k n : Nat} {x0 : Nat} {fs2 : List Value} {f3 : Int32} {f5 : Int32} (ok : gO X c_Mo_commit "TripleStoreModel" w_Mo_commit) (h1 : M[x0]? = some (.inr (10, fs2))) (h4 : fs2[7]? = some (.int f3)) (h6 : fs2[11]? = some (.int f5)) {l9 : Launch} {rm : Room} {M0 : List mC} {post : Option Value → List mC → Prop} (E : gE X l9 y_Mo_commit rm 1 (some .int) M0 post) (hp : post (some (.int (f3 - f5))) M) (hk : k ≤ rm.cells) (hn : n ≤ rm.slots) : gg X M k n 18 [(0, .ref x0)] [] := by
  refine g_aload_n ok d_Mo_commit_18 rfl (j := 0) rfl ?_
  refine gf_Mo_117 ok d_Mo_commit_19 h1 h4 ?_
  refine g_aload_n ok d_Mo_commit_22 rfl (j := 0) rfl ?_
  refine gf_Mo_148 ok d_Mo_commit_23 h1 h6 ?_
  refine g_isub ok d_Mo_commit_26 ?_
  exact g_iret ok E d_Mo_commit_27 hp hk hn
theorem k_Mo_undo_0 {X : gC} {M : List mC} {k n : Nat} {x0 : Nat} {x1 : Int32} {fs2 : List Value} {f3 : Int32} (ok : gO X c_Mo_undo "TripleStoreModel" w_Mo_undo) (h1 : M[x0]? = some (.inr (10, fs2))) (h4 : fs2[7]? = some (.int f3)) (kt : f3 ≤ x1 → gg X M k n 79 [] []) (kf : ¬ f3 ≤ x1 → gg X M k n 8 [(0, .ref x0), (1, .int x1)] []) : gg X M k n 0 [(0, .ref x0), (1, .int x1)] [] := by
  refine g_aload_n ok d_Mo_undo_0 rfl (j := 0) rfl ?_
  refine gf_Mo_117 ok d_Mo_undo_1 h1 h4 ?_
  refine g_iload_n ok d_Mo_undo_4 rfl (j := 1) rfl ?_
  exact g_icmp_le (tgt := 79) ok d_Mo_undo_5 (by decide) (fun z => (gg_keep [] (kt z))) (fun z => (kf z))
theorem k_Mo_undo_8 {X : gC} {M : List mC} {k n : Nat} {x0 : Nat} {x1 : Int32} {fs2 : List Value} {f3 : Int32} {fs7 : List Value} {M9 : List mC} {f14 : Nat} {g18 : Nat → Int32} {N19 : Nat} (ok : gO X c_Mo_undo "TripleStoreModel" w_Mo_undo) (h1 : M[x0]? = some (.inr (10, fs2))) (h4 : fs2[7]? = some (.int f3)) (h6 : 59 ≤ fs2.length) (h8 : fs2.set 7 (.int (f3 - 1)) = fs7) (h10 : M.set x0 (.inr (10, fs7)) = M9) (h15 : fs2[5]? = some (.ref f14)) (h17 : M[f14]? = some (.inl (3, N19, .inl g18))) (h21 : vp_in (f3 - 1) N19) (kt : ¬ (g18 (f3 - 1).toNatClampNeg) = 0 → gg X M9 k n 35 [(0, .ref x0), (1, .int x1)] [.ref x0]) (kf : (g18 (f3 - 1).toNatClampNeg) = 0 → gg X M9 k n 31 [(0, .ref x0), (1, .int x1)] [.ref x0]) : gg X M k n 8 [(0, .ref x0), (1, .int x1)] [] := by
  refine g_aload_n ok d_Mo_undo_8 rfl (j := 0) rfl ?_
  refine g_dup ok d_Mo_undo_9 rfl ?_
  refine gf_Mo_117 ok d_Mo_undo_10 h1 h4 ?_
  refine g_iconst (v := 1) ok d_Mo_undo_13 (by decide) ?_
  refine g_isub ok d_Mo_undo_14 ?_
  have h5 : 7 < fs2.length := Nat.lt_of_lt_of_le (by decide) h6
  refine pf_Mo_117 ok d_Mo_undo_15 h1 h5 (fun _ => ⟨rfl, rfl⟩) ?_
  rw [h8]
  rw [h10]
  have h11 : M9[x0]? = some (.inr (10, fs7)) := by rw [← h10]; exact gs_eq h1
  have h12 : fs7[7]? = some (.int (f3 - 1)) := by rw [← h8]; exact List.getElem?_set_self h5
  have h13 : 59 ≤ fs7.length := by rw [← h8, List.length_set]; exact h6
  refine g_aload_n ok d_Mo_undo_18 rfl (j := 0) rfl ?_
  refine g_aload_n ok d_Mo_undo_19 rfl (j := 0) rfl ?_
  have h16 : fs7[5]? = some (.ref f14) := by rw [← h8]; exact (List.getElem?_set_ne (by decide : 7 ≠ 5)).trans h15
  refine gf_Mo_19 ok d_Mo_undo_20 h11 h16 ?_
  refine g_aload_n ok d_Mo_undo_23 rfl (j := 0) rfl ?_
  refine gf_Mo_117 ok d_Mo_undo_24 h11 h12 ?_
  have h20 : M9[f14]? = some (.inl (3, N19, .inl g18)) := by rw [← h10]; exact (gs_ne (Ne.symm (ne_ao h17 h1))).trans h17
  refine g_zald (t := 3) ok rfl d_Mo_undo_27 h20 h21 ?_
  exact g_if_ne (tgt := 35) ok d_Mo_undo_28 (by decide) (fun z => (kt z)) (fun z => (kf z))
theorem k_Mo_undo_31 {X : gC} {M : List mC} {k n : Nat} {x0 : Nat} {x1 : Int32} (ok : gO X c_Mo_undo "TripleStoreModel" w_Mo_undo)  (kk : gg X M k n 36 [(0, .ref x0), (1, .int x1)] [.int 1, .ref x0]) : gg X M k n 31 [(0, .ref x0), (1, .int x1)] [.ref x0] := by
  refine g_iconst (v := 1) ok d_Mo_undo_31 (by decide) ?_
  exact g_goto (tgt := 36) ok d_Mo_undo_32 (by decide) kk
theorem k_Mo_undo_35 {X : gC} {M : List mC} {k n : Nat} {x0 : Nat} {x1 : Int32} (ok : gO X c_Mo_undo "TripleStoreModel" w_Mo_undo)  (kk : gg X M k n 36 [(0, .ref x0), (1, .int x1)] [.int 0, .ref x0]) : gg X M k n 35 [(0, .ref x0), (1, .int x1)] [.ref x0] := by
  refine g_iconst (v := 0) ok d_Mo_undo_35 (by decide) ?_
  exact kk
theorem k_Mo_undo_36 {X : gC} {M : List mC} {k n : Nat} {x0 : Nat} {x1 : Int32} {s1 : Int32} {fs2 : List Value} {f3 : Nat} {f5 : Int32} {g8 : Nat → Int64} {N9 : Nat} (ok : gO X c_Mo_undo "TripleStoreModel" w_Mo_undo) (h1 : M[x0]? = some (.inr (10, fs2))) (h4 : fs2[4]? = some (.ref f3)) (h6 : fs2[7]? = some (.int f5)) (h7 : M[f3]? = some (.inl (1, N9, .inr (.inl g8)))) (h10 : vp_in (3 * f5) N9) (h11 : vp_in ((3 * f5) + 1) N9) (h12 : vp_in ((3 * f5) + 2) N9) {rm : Room} {post : Option Value → List mC → Prop} (hm : mm_ (gLa X) y_Mo_apply w_Mo_apply rm [.ref x0, .int s1, .long (g8 (3 * f5).toNatClampNeg), .long (g8 ((3 * f5) + 1).toNatClampNeg), .long (g8 ((3 * f5) + 2).toNatClampNeg)] M post) (hR : gF X rm 10 k n) (hlen : ∀ r M', post r M' → M'.length = M.length) (kk : ∀ r M', post r M' → gg X M' (k + rm.cells) (n + rm.slots) 76 [(0, .ref x0), (1, .int x1)] (r.toList ++ [])) : gg X M k n 36 [(0, .ref x0), (1, .int x1)] [.int s1, .ref x0] := by
  refine g_aload_n ok d_Mo_undo_36 rfl (j := 0) rfl ?_
  refine gf_Mo_16 ok d_Mo_undo_37 h1 h4 ?_
  refine g_iconst (v := 3) ok d_Mo_undo_40 (by decide) ?_
  refine g_aload_n ok d_Mo_undo_41 rfl (j := 0) rfl ?_
  refine gf_Mo_117 ok d_Mo_undo_42 h1 h6 ?_
  refine g_imul ok d_Mo_undo_45 ?_
  refine g_lald (t := 1) ok rfl d_Mo_undo_46 h7 h10 ?_
  refine g_aload_n ok d_Mo_undo_47 rfl (j := 0) rfl ?_
  refine gf_Mo_16 ok d_Mo_undo_48 h1 h4 ?_
  refine g_iconst (v := 3) ok d_Mo_undo_51 (by decide) ?_
  refine g_aload_n ok d_Mo_undo_52 rfl (j := 0) rfl ?_
  refine gf_Mo_117 ok d_Mo_undo_53 h1 h6 ?_
  refine g_imul ok d_Mo_undo_56 ?_
  refine g_iconst (v := 1) ok d_Mo_undo_57 (by decide) ?_
  refine g_iadd ok d_Mo_undo_58 ?_
  refine g_lald (t := 1) ok rfl d_Mo_undo_59 h7 h11 ?_
  refine g_aload_n ok d_Mo_undo_60 rfl (j := 0) rfl ?_
  refine gf_Mo_16 ok d_Mo_undo_61 h1 h4 ?_
  refine g_iconst (v := 3) ok d_Mo_undo_64 (by decide) ?_
  refine g_aload_n ok d_Mo_undo_65 rfl (j := 0) rfl ?_
  refine gf_Mo_117 ok d_Mo_undo_66 h1 h6 ?_
  refine g_imul ok d_Mo_undo_69 ?_
  refine g_iconst (v := 2) ok d_Mo_undo_70 (by decide) ?_
  refine g_iadd ok d_Mo_undo_71 ?_
  refine g_lald (t := 1) ok rfl d_Mo_undo_72 h7 h12 ?_
  exact gc_Mo_113 (As := [.int s1, .long (g8 (3 * f5).toNatClampNeg), .long (g8 ((3 * f5) + 1).toNatClampNeg), .long (g8 ((3 * f5) + 2).toNatClampNeg)]) (rest := []) ok d_Mo_undo_73 hm rfl rfl (Nat.le_of_ble_eq_true rfl) hR h1 hlen kk
theorem k_Mo_undo_76 {X : gC} {M : List mC} {k n : Nat} {x0 : Nat} {x1 : Int32} (ok : gO X c_Mo_undo "TripleStoreModel" w_Mo_undo)  (kk : gg X M k n 0 [(0, .ref x0), (1, .int x1)] []) : gg X M k n 76 [(0, .ref x0), (1, .int x1)] [] := by
  exact g_goto (tgt := 0) ok d_Mo_undo_76 (by decide) kk
theorem k_Mo_undo_79 {X : gC} {M : List mC} {k n : Nat}  (ok : gO X c_Mo_undo "TripleStoreModel" w_Mo_undo)  {l9 : Launch} {rm : Room} {M0 : List mC} {post : Option Value → List mC → Prop} (E : gE X l9 y_Mo_undo rm 2 none M0 post) (hp : post (none) M) (hk : k ≤ rm.cells) (hn : n ≤ rm.slots) : gg X M k n 79 [] [] := by
  exact g_vret ok E d_Mo_undo_79 hp hk hn
theorem k_Mo_rollback_0 {X : gC} {M : List mC} {k n : Nat} {x0 : Nat} {fs2 : List Value} {f3 : Int32} (ok : gO X c_Mo_rollback "TripleStoreModel" w_Mo_rollback) (h1 : M[x0]? = some (.inr (10, fs2))) (h4 : fs2[10]? = some (.int f3)) {rm : Room} {post : Option Value → List mC → Prop} (hm : mm_ (gLa X) y_Mo_good w_Mo_good rm [.ref x0, .int f3, .int 1] M post) (hR : gF X rm 3 k n) (hlen : ∀ r M', post r M' → M'.length = M.length) (kk : ∀ r M', post r M' → gg X M' (k + rm.cells) (n + rm.slots) 9 [(0, .ref x0)] (r.toList ++ [])) : gg X M k n 0 [(0, .ref x0)] [] := by
  refine g_aload_n ok d_Mo_rollback_0 rfl (j := 0) rfl ?_
  refine g_aload_n ok d_Mo_rollback_1 rfl (j := 0) rfl ?_
  refine gf_Mo_123 ok d_Mo_rollback_2 h1 h4 ?_
  refine g_iconst (v := 1) ok d_Mo_rollback_5 (by decide) ?_
  exact gc_Mo_109 (As := [.int f3, .int 1]) (rest := []) ok d_Mo_rollback_6 hm rfl rfl (Nat.le_of_ble_eq_true rfl) hR h1 hlen kk
theorem k_Mo_rollback_9 {X : gC} {M : List mC} {k n : Nat} {x0 : Nat} {s0 : Int32} (ok : gO X c_Mo_rollback "TripleStoreModel" w_Mo_rollback)  (kt : ¬ s0 = 0 → gg X M k n 14 [(0, .ref x0)] []) (kf : s0 = 0 → gg X M k n 12 [] []) : gg X M k n 9 [(0, .ref x0)] [.int s0] := by
  exact g_if_ne (tgt := 14) ok d_Mo_rollback_9 (by decide) (fun z => (kt z)) (fun z => (gg_keep [] (kf z)))
theorem k_Mo_rollback_12 {X : gC} {M : List mC} {k n : Nat}  (ok : gO X c_Mo_rollback "TripleStoreModel" w_Mo_rollback)  {l9 : Launch} {rm : Room} {M0 : List mC} {post : Option Value → List mC → Prop} (E : gE X l9 y_Mo_rollback rm 2 (some .int) M0 post) (hp : post (some (.int 0)) M) (hk : k ≤ rm.cells) (hn : n ≤ rm.slots) : gg X M k n 12 [] [] := by
  refine g_iconst (v := 0) ok d_Mo_rollback_12 (by decide) ?_
  exact g_iret ok E d_Mo_rollback_13 hp hk hn
theorem k_Mo_rollback_14 {X : gC} {M : List mC} {k n : Nat} {x0 : Nat} {fs2 : List Value} {f3 : Int32} {f5 : Int32} (ok : gO X c_Mo_rollback "TripleStoreModel" w_Mo_rollback) (hl : gL X = 2) (h1 : M[x0]? = some (.inr (10, fs2))) (h4 : fs2[7]? = some (.int f3)) (h6 : fs2[11]? = some (.int f5)) {rm : Room} {post : Option Value → List mC → Prop} (hm : mm_ (gLa X) y_Mo_undo w_Mo_undo rm [.ref x0, .int f5] M post) (hR : gF X rm 2 k n) (hlen : ∀ r M', post r M' → M'.length = M.length) (kk : ∀ r M', post r M' → gg X M' (k + rm.cells) (n + rm.slots) 32 [(0, .ref x0), (1, .int (f3 - f5))] (r.toList ++ [])) : gg X M k n 14 [(0, .ref x0)] [] := by
  refine g_aload_n ok d_Mo_rollback_14 rfl (j := 0) rfl ?_
  refine gf_Mo_117 ok d_Mo_rollback_15 h1 h4 ?_
  refine g_aload_n ok d_Mo_rollback_18 rfl (j := 0) rfl ?_
  refine gf_Mo_148 ok d_Mo_rollback_19 h1 h6 ?_
  refine g_isub ok d_Mo_rollback_22 ?_
  refine g_istore_n (L' := [(0, .ref x0), (1, .int (f3 - f5))]) ok d_Mo_rollback_23 rfl (by rw [hl]; decide) rfl ?_
  refine g_aload_n ok d_Mo_rollback_24 rfl (j := 0) rfl ?_
  refine g_aload_n ok d_Mo_rollback_25 rfl (j := 0) rfl ?_
  refine gf_Mo_148 ok d_Mo_rollback_26 h1 h6 ?_
  exact gc_Mo_151 (As := [.int f5]) (rest := []) ok d_Mo_rollback_29 hm rfl rfl (Nat.le_of_ble_eq_true rfl) hR h1 hlen kk
theorem k_Mo_rollback_32 {X : gC} {M : List mC} {k n : Nat} {x0 : Nat} {x1 : Int32} {fs2 : List Value} {fs5 : List Value} {M7 : List mC} (ok : gO X c_Mo_rollback "TripleStoreModel" w_Mo_rollback) (h1 : M[x0]? = some (.inr (10, fs2))) (h4 : 59 ≤ fs2.length) (h6 : fs2.set 10 (.int 0) = fs5) (h8 : M.set x0 (.inr (10, fs5)) = M7) {l9 : Launch} {rm : Room} {M0 : List mC} {post : Option Value → List mC → Prop} (E : gE X l9 y_Mo_rollback rm 2 (some .int) M0 post) (hp : post (some (.int x1)) M7) (hk : k ≤ rm.cells) (hn : n ≤ rm.slots) : gg X M k n 32 [(0, .ref x0), (1, .int x1)] [] := by
  refine g_aload_n ok d_Mo_rollback_32 rfl (j := 0) rfl ?_
  refine g_iconst (v := 0) ok d_Mo_rollback_33 (by decide) ?_
  have h3 : 10 < fs2.length := Nat.lt_of_lt_of_le (by decide) h4
  refine pf_Mo_123 ok d_Mo_rollback_34 h1 h3 (fun _ => ⟨rfl, rfl⟩) ?_
  rw [h6]
  rw [h8]
  have h9 : M7[x0]? = some (.inr (10, fs5)) := by rw [← h8]; exact gs_eq h1
  have h10 : fs5[10]? = some (.int 0) := by rw [← h6]; exact List.getElem?_set_self h3
  have h11 : 59 ≤ fs5.length := by rw [← h6, List.length_set]; exact h4
  refine g_iload_n ok d_Mo_rollback_37 rfl (j := 1) rfl ?_
  exact g_iret ok E d_Mo_rollback_38 hp hk hn
theorem k_Mo_settle_0 {X : gC} {M : List mC} {k n : Nat} {x0 : Nat} {fs2 : List Value} {f3 : Int32} (ok : gO X c_Mo_settle "TripleStoreModel" w_Mo_settle) (h1 : M[x0]? = some (.inr (10, fs2))) (h4 : fs2[10]? = some (.int f3)) (kt : f3 = 0 → gg X M k n 19 [(0, .ref x0)] []) (kf : ¬ f3 = 0 → gg X M k n 7 [(0, .ref x0)] []) : gg X M k n 0 [(0, .ref x0)] [] := by
  refine g_aload_n ok d_Mo_settle_0 rfl (j := 0) rfl ?_
  refine gf_Mo_123 ok d_Mo_settle_1 h1 h4 ?_
  exact g_if_eq (tgt := 19) ok d_Mo_settle_4 (by decide) (fun z => (kt z)) (fun z => (kf z))
theorem k_Mo_settle_7 {X : gC} {M : List mC} {k n : Nat} {x0 : Nat} {fs2 : List Value} {f3 : Int32} {f5 : Int32} (ok : gO X c_Mo_settle "TripleStoreModel" w_Mo_settle) (h1 : M[x0]? = some (.inr (10, fs2))) (h4 : fs2[7]? = some (.int f3)) (h6 : fs2[11]? = some (.int f5)) (kk : gg X M k n 20 [(0, .ref x0)] [.int (f3 - f5)]) : gg X M k n 7 [(0, .ref x0)] [] := by
  refine g_aload_n ok d_Mo_settle_7 rfl (j := 0) rfl ?_
  refine gf_Mo_117 ok d_Mo_settle_8 h1 h4 ?_
  refine g_aload_n ok d_Mo_settle_11 rfl (j := 0) rfl ?_
  refine gf_Mo_148 ok d_Mo_settle_12 h1 h6 ?_
  refine g_isub ok d_Mo_settle_15 ?_
  exact g_goto (tgt := 20) ok d_Mo_settle_16 (by decide) kk
theorem k_Mo_settle_19 {X : gC} {M : List mC} {k n : Nat} {x0 : Nat} (ok : gO X c_Mo_settle "TripleStoreModel" w_Mo_settle)  (kk : gg X M k n 20 [(0, .ref x0)] [.int 0]) : gg X M k n 19 [(0, .ref x0)] [] := by
  refine g_iconst (v := 0) ok d_Mo_settle_19 (by decide) ?_
  exact kk
theorem k_Mo_settle_20 {X : gC} {M : List mC} {k n : Nat} {x0 : Nat} {s0 : Int32} {fs2 : List Value} {f3 : Int32} (ok : gO X c_Mo_settle "TripleStoreModel" w_Mo_settle) (hl : gL X = 5) (h1 : M[x0]? = some (.inr (10, fs2))) (h4 : fs2[7]? = some (.int f3)) (kk : gg X M k n 35 [(0, .ref x0), (1, .int s0), (2, .int (f3 - s0)), (3, .int (f3 - 1))] []) : gg X M k n 20 [(0, .ref x0)] [.int s0] := by
  refine g_istore_n (L' := [(0, .ref x0), (1, .int s0)]) ok d_Mo_settle_20 rfl (by rw [hl]; decide) rfl ?_
  refine g_aload_n ok d_Mo_settle_21 rfl (j := 0) rfl ?_
  refine gf_Mo_117 ok d_Mo_settle_22 h1 h4 ?_
  refine g_iload_n ok d_Mo_settle_25 rfl (j := 1) rfl ?_
  refine g_isub ok d_Mo_settle_26 ?_
  refine g_istore_n (L' := [(0, .ref x0), (1, .int s0), (2, .int (f3 - s0))]) ok d_Mo_settle_27 rfl (by rw [hl]; decide) rfl ?_
  refine g_aload_n ok d_Mo_settle_28 rfl (j := 0) rfl ?_
  refine gf_Mo_117 ok d_Mo_settle_29 h1 h4 ?_
  refine g_iconst (v := 1) ok d_Mo_settle_32 (by decide) ?_
  refine g_isub ok d_Mo_settle_33 ?_
  refine g_istore_n (L' := [(0, .ref x0), (1, .int s0), (2, .int (f3 - s0)), (3, .int (f3 - 1))]) ok d_Mo_settle_34 rfl (by rw [hl]; decide) rfl ?_
  exact kk
theorem k_Mo_settle_35 {X : gC} {M : List mC} {k n : Nat} {x0 : Nat} {x1 : Int32} {x2 : Int32} {x3 : Int32} (ok : gO X c_Mo_settle "TripleStoreModel" w_Mo_settle)  (kt : x3 < x2 → gg X M k n 92 [(0, .ref x0), (1, .int x1), (2, .int x2)] []) (kf : ¬ x3 < x2 → gg X M k n 40 [(0, .ref x0), (1, .int x1), (2, .int x2), (3, .int x3)] []) : gg X M k n 35 [(0, .ref x0), (1, .int x1), (2, .int x2), (3, .int x3)] [] := by
  refine g_iload_n ok d_Mo_settle_35 rfl (j := 3) rfl ?_
  refine g_iload_n ok d_Mo_settle_36 rfl (j := 2) rfl ?_
  exact g_icmp_lt (tgt := 92) ok d_Mo_settle_37 (by decide) (fun z => (gg_keep [0, 1, 2] (kt z))) (fun z => (kf z))
theorem k_Mo_settle_40 {X : gC} {M : List mC} {k n : Nat} {x0 : Nat} {x1 : Int32} {x2 : Int32} {x3 : Int32} {fs2 : List Value} {f3 : Nat} {g6 : Nat → Int32} {N7 : Nat} (ok : gO X c_Mo_settle "TripleStoreModel" w_Mo_settle) (h1 : M[x0]? = some (.inr (10, fs2))) (h4 : fs2[5]? = some (.ref f3)) (h5 : M[f3]? = some (.inl (3, N7, .inl g6))) (h8 : vp_in x3 N7) (kt : ¬ (g6 x3.toNatClampNeg) = 0 → gg X M k n 54 [(0, .ref x0), (1, .int x1), (2, .int x2), (3, .int x3)] [.ref x0]) (kf : (g6 x3.toNatClampNeg) = 0 → gg X M k n 50 [(0, .ref x0), (1, .int x1), (2, .int x2), (3, .int x3)] [.ref x0]) : gg X M k n 40 [(0, .ref x0), (1, .int x1), (2, .int x2), (3, .int x3)] [] := by
  refine g_aload_n ok d_Mo_settle_40 rfl (j := 0) rfl ?_
  refine g_aload_n ok d_Mo_settle_41 rfl (j := 0) rfl ?_
  refine gf_Mo_19 ok d_Mo_settle_42 h1 h4 ?_
  refine g_iload_n ok d_Mo_settle_45 rfl (j := 3) rfl ?_
  refine g_zald (t := 3) ok rfl d_Mo_settle_46 h5 h8 ?_
  exact g_if_ne (tgt := 54) ok d_Mo_settle_47 (by decide) (fun z => (kt z)) (fun z => (kf z))
theorem k_Mo_settle_50 {X : gC} {M : List mC} {k n : Nat} {x0 : Nat} {x1 : Int32} {x2 : Int32} {x3 : Int32} (ok : gO X c_Mo_settle "TripleStoreModel" w_Mo_settle)  (kk : gg X M k n 55 [(0, .ref x0), (1, .int x1), (2, .int x2), (3, .int x3)] [.int 1, .ref x0]) : gg X M k n 50 [(0, .ref x0), (1, .int x1), (2, .int x2), (3, .int x3)] [.ref x0] := by
  refine g_iconst (v := 1) ok d_Mo_settle_50 (by decide) ?_
  exact g_goto (tgt := 55) ok d_Mo_settle_51 (by decide) kk
theorem k_Mo_settle_54 {X : gC} {M : List mC} {k n : Nat} {x0 : Nat} {x1 : Int32} {x2 : Int32} {x3 : Int32} (ok : gO X c_Mo_settle "TripleStoreModel" w_Mo_settle)  (kk : gg X M k n 55 [(0, .ref x0), (1, .int x1), (2, .int x2), (3, .int x3)] [.int 0, .ref x0]) : gg X M k n 54 [(0, .ref x0), (1, .int x1), (2, .int x2), (3, .int x3)] [.ref x0] := by
  refine g_iconst (v := 0) ok d_Mo_settle_54 (by decide) ?_
  exact kk
theorem k_Mo_settle_55 {X : gC} {M : List mC} {k n : Nat} {x0 : Nat} {x1 : Int32} {x2 : Int32} {x3 : Int32} {s1 : Int32} {fs2 : List Value} {f3 : Nat} {g6 : Nat → Int64} {N7 : Nat} (ok : gO X c_Mo_settle "TripleStoreModel" w_Mo_settle) (h1 : M[x0]? = some (.inr (10, fs2))) (h4 : fs2[4]? = some (.ref f3)) (h5 : M[f3]? = some (.inl (1, N7, .inr (.inl g6)))) (h8 : vp_in (3 * x3) N7) (h9 : vp_in ((3 * x3) + 1) N7) (h10 : vp_in ((3 * x3) + 2) N7) {rm : Room} {post : Option Value → List mC → Prop} (hm : mm_ (gLa X) y_Mo_apply w_Mo_apply rm [.ref x0, .int s1, .long (g6 (3 * x3).toNatClampNeg), .long (g6 ((3 * x3) + 1).toNatClampNeg), .long (g6 ((3 * x3) + 2).toNatClampNeg)] M post) (hR : gF X rm 10 k n) (hlen : ∀ r M', post r M' → M'.length = M.length) (kk : ∀ r M', post r M' → gg X M' (k + rm.cells) (n + rm.slots) 86 [(0, .ref x0), (1, .int x1), (2, .int x2), (3, .int x3)] (r.toList ++ [])) : gg X M k n 55 [(0, .ref x0), (1, .int x1), (2, .int x2), (3, .int x3)] [.int s1, .ref x0] := by
  refine g_aload_n ok d_Mo_settle_55 rfl (j := 0) rfl ?_
  refine gf_Mo_16 ok d_Mo_settle_56 h1 h4 ?_
  refine g_iconst (v := 3) ok d_Mo_settle_59 (by decide) ?_
  refine g_iload_n ok d_Mo_settle_60 rfl (j := 3) rfl ?_
  refine g_imul ok d_Mo_settle_61 ?_
  refine g_lald (t := 1) ok rfl d_Mo_settle_62 h5 h8 ?_
  refine g_aload_n ok d_Mo_settle_63 rfl (j := 0) rfl ?_
  refine gf_Mo_16 ok d_Mo_settle_64 h1 h4 ?_
  refine g_iconst (v := 3) ok d_Mo_settle_67 (by decide) ?_
  refine g_iload_n ok d_Mo_settle_68 rfl (j := 3) rfl ?_
  refine g_imul ok d_Mo_settle_69 ?_
  refine g_iconst (v := 1) ok d_Mo_settle_70 (by decide) ?_
  refine g_iadd ok d_Mo_settle_71 ?_
  refine g_lald (t := 1) ok rfl d_Mo_settle_72 h5 h9 ?_
  refine g_aload_n ok d_Mo_settle_73 rfl (j := 0) rfl ?_
  refine gf_Mo_16 ok d_Mo_settle_74 h1 h4 ?_
  refine g_iconst (v := 3) ok d_Mo_settle_77 (by decide) ?_
  refine g_iload_n ok d_Mo_settle_78 rfl (j := 3) rfl ?_
  refine g_imul ok d_Mo_settle_79 ?_
  refine g_iconst (v := 2) ok d_Mo_settle_80 (by decide) ?_
  refine g_iadd ok d_Mo_settle_81 ?_
  refine g_lald (t := 1) ok rfl d_Mo_settle_82 h5 h10 ?_
  exact gc_Mo_113 (As := [.int s1, .long (g6 (3 * x3).toNatClampNeg), .long (g6 ((3 * x3) + 1).toNatClampNeg), .long (g6 ((3 * x3) + 2).toNatClampNeg)]) (rest := []) ok d_Mo_settle_83 hm rfl rfl (Nat.le_of_ble_eq_true rfl) hR h1 hlen kk
theorem k_Mo_settle_86 {X : gC} {M : List mC} {k n : Nat} {x0 : Nat} {x1 : Int32} {x2 : Int32} {x3 : Int32} (ok : gO X c_Mo_settle "TripleStoreModel" w_Mo_settle) (hl : gL X = 5)  (kk : gg X M k n 35 [(0, .ref x0), (1, .int x1), (2, .int x2), (3, .int (x3 + (-1)))] []) : gg X M k n 86 [(0, .ref x0), (1, .int x1), (2, .int x2), (3, .int x3)] [] := by
  refine g_iinc (L' := [(0, .ref x0), (1, .int x1), (2, .int x2), (3, .int (x3 + (-1)))]) (v := (x3 + (-1))) ok d_Mo_settle_86 (j := 3) rfl rfl (by rw [hl]; decide) rfl ?_
  exact g_goto (tgt := 35) ok d_Mo_settle_89 (by decide) kk
theorem k_Mo_settle_92 {X : gC} {M : List mC} {k n : Nat} {x0 : Nat} {x1 : Int32} {x2 : Int32} (ok : gO X c_Mo_settle "TripleStoreModel" w_Mo_settle) (hl : gL X = 5)  (kk : gg X M k n 94 [(0, .ref x0), (1, .int x1), (2, .int x2), (3, .int 0)] []) : gg X M k n 92 [(0, .ref x0), (1, .int x1), (2, .int x2)] [] := by
  refine g_iconst (v := 0) ok d_Mo_settle_92 (by decide) ?_
  refine g_istore_n (L' := [(0, .ref x0), (1, .int x1), (2, .int x2), (3, .int 0)]) ok d_Mo_settle_93 rfl (by rw [hl]; decide) rfl ?_
  exact kk
theorem k_Mo_settle_94 {X : gC} {M : List mC} {k n : Nat} {x0 : Nat} {x1 : Int32} {x2 : Int32} {x3 : Int32} {fs2 : List Value} {f3 : Int32} (ok : gO X c_Mo_settle "TripleStoreModel" w_Mo_settle) (h1 : M[x0]? = some (.inr (10, fs2))) (h4 : fs2[1]? = some (.int f3)) (kt : (3 * f3) ≤ x3 → gg X M k n 122 [(0, .ref x0), (1, .int x1), (2, .int x2)] []) (kf : ¬ (3 * f3) ≤ x3 → gg X M k n 104 [(0, .ref x0), (1, .int x1), (2, .int x2), (3, .int x3)] []) : gg X M k n 94 [(0, .ref x0), (1, .int x1), (2, .int x2), (3, .int x3)] [] := by
  refine g_iload_n ok d_Mo_settle_94 rfl (j := 3) rfl ?_
  refine g_iconst (v := 3) ok d_Mo_settle_95 (by decide) ?_
  refine g_aload_n ok d_Mo_settle_96 rfl (j := 0) rfl ?_
  refine gf_Mo_102 ok d_Mo_settle_97 h1 h4 ?_
  refine g_imul ok d_Mo_settle_100 ?_
  exact g_icmp_ge (tgt := 122) ok d_Mo_settle_101 (by decide) (fun z => (gg_keep [0, 1, 2] (kt z))) (fun z => (kf z))
theorem k_Mo_settle_104 {X : gC} {M : List mC} {k n : Nat} {x0 : Nat} {x1 : Int32} {x2 : Int32} {x3 : Int32} {fs2 : List Value} {f3 : Nat} {f5 : Nat} {g8 : Nat → Int64} {N9 : Nat} {g12 : Nat → Int64} {N13 : Nat} {M15 : List mC} (ok : gO X c_Mo_settle "TripleStoreModel" w_Mo_settle) (hl : gL X = 5) (h1 : M[x0]? = some (.inr (10, fs2))) (h4 : fs2[2]? = some (.ref f3)) (h6 : fs2[0]? = some (.ref f5)) (h7 : M[f5]? = some (.inl (1, N9, .inr (.inl g8)))) (h10 : vp_in x3 N9) (h11 : M[f3]? = some (.inl (1, N13, .inr (.inl g12)))) (h14 : vp_in x3 N13) (h16 : M.set f3 (.inl (1, N13, .inr (.inl (vp_updL g12 x3.toNatClampNeg (g8 x3.toNatClampNeg))))) = M15) (kk : gg X M15 k n 94 [(0, .ref x0), (1, .int x1), (2, .int x2), (3, .int (x3 + 1))] []) : gg X M k n 104 [(0, .ref x0), (1, .int x1), (2, .int x2), (3, .int x3)] [] := by
  refine g_aload_n ok d_Mo_settle_104 rfl (j := 0) rfl ?_
  refine gf_Mo_13 ok d_Mo_settle_105 h1 h4 ?_
  refine g_iload_n ok d_Mo_settle_108 rfl (j := 3) rfl ?_
  refine g_aload_n ok d_Mo_settle_109 rfl (j := 0) rfl ?_
  refine gf_Mo_7 ok d_Mo_settle_110 h1 h6 ?_
  refine g_iload_n ok d_Mo_settle_113 rfl (j := 3) rfl ?_
  refine g_lald (t := 1) ok rfl d_Mo_settle_114 h7 h10 ?_
  refine g_last (t := 1) ok rfl d_Mo_settle_115 h11 h14 ?_
  rw [h16]
  have h17 : M15[f3]? = some (.inl (1, N13, .inr (.inl (vp_updL g12 x3.toNatClampNeg (g8 x3.toNatClampNeg))))) := by rw [← h16]; exact gs_eq h11
  refine g_iinc (L' := [(0, .ref x0), (1, .int x1), (2, .int x2), (3, .int (x3 + 1))]) (v := (x3 + 1)) ok d_Mo_settle_116 (j := 3) rfl rfl (by rw [hl]; decide) rfl ?_
  exact g_goto (tgt := 94) ok d_Mo_settle_119 (by decide) kk
theorem k_Mo_settle_122 {X : gC} {M : List mC} {k n : Nat} {x0 : Nat} {x1 : Int32} {x2 : Int32} {fs2 : List Value} {f3 : Int32} {fs7 : List Value} {M9 : List mC} (ok : gO X c_Mo_settle "TripleStoreModel" w_Mo_settle) (hl : gL X = 5) (h1 : M[x0]? = some (.inr (10, fs2))) (h4 : fs2[1]? = some (.int f3)) (h6 : 59 ≤ fs2.length) (h8 : fs2.set 3 (.int f3) = fs7) (h10 : M.set x0 (.inr (10, fs7)) = M9) (kk : gg X M9 k n 132 [(0, .ref x0), (1, .int x1), (2, .int x2), (3, .int 0)] []) : gg X M k n 122 [(0, .ref x0), (1, .int x1), (2, .int x2)] [] := by
  refine g_aload_n ok d_Mo_settle_122 rfl (j := 0) rfl ?_
  refine g_aload_n ok d_Mo_settle_123 rfl (j := 0) rfl ?_
  refine gf_Mo_102 ok d_Mo_settle_124 h1 h4 ?_
  have h5 : 3 < fs2.length := Nat.lt_of_lt_of_le (by decide) h6
  refine pf_Mo_155 ok d_Mo_settle_127 h1 h5 (fun _ => ⟨rfl, rfl⟩) ?_
  rw [h8]
  rw [h10]
  have h11 : M9[x0]? = some (.inr (10, fs7)) := by rw [← h10]; exact gs_eq h1
  have h12 : fs7[1]? = some (.int f3) := by rw [← h8]; exact (List.getElem?_set_ne (by decide : 3 ≠ 1)).trans h4
  have h13 : fs7[3]? = some (.int f3) := by rw [← h8]; exact List.getElem?_set_self h5
  have h14 : 59 ≤ fs7.length := by rw [← h8, List.length_set]; exact h6
  refine g_iconst (v := 0) ok d_Mo_settle_130 (by decide) ?_
  refine g_istore_n (L' := [(0, .ref x0), (1, .int x1), (2, .int x2), (3, .int 0)]) ok d_Mo_settle_131 rfl (by rw [hl]; decide) rfl ?_
  exact kk
theorem k_Mo_settle_132 {X : gC} {M : List mC} {k n : Nat} {x0 : Nat} {x1 : Int32} {x2 : Int32} {x3 : Int32} (ok : gO X c_Mo_settle "TripleStoreModel" w_Mo_settle)  (kt : x1 ≤ x3 → gg X M k n 241 [(0, .ref x0), (1, .int x1)] []) (kf : ¬ x1 ≤ x3 → gg X M k n 137 [(0, .ref x0), (1, .int x1), (2, .int x2), (3, .int x3)] []) : gg X M k n 132 [(0, .ref x0), (1, .int x1), (2, .int x2), (3, .int x3)] [] := by
  refine g_iload_n ok d_Mo_settle_132 rfl (j := 3) rfl ?_
  refine g_iload_n ok d_Mo_settle_133 rfl (j := 1) rfl ?_
  exact g_icmp_ge (tgt := 241) ok d_Mo_settle_134 (by decide) (fun z => (gg_keep [0, 1] (kt z))) (fun z => (kf z))
theorem k_Mo_settle_137 {X : gC} {M : List mC} {k n : Nat} {x0 : Nat} {x1 : Int32} {x2 : Int32} {x3 : Int32} (ok : gO X c_Mo_settle "TripleStoreModel" w_Mo_settle) (hl : gL X = 5)  (kk : gg X M k n 140 [(0, .ref x0), (1, .int x1), (2, .int x2), (3, .int x3), (4, .int 0)] []) : gg X M k n 137 [(0, .ref x0), (1, .int x1), (2, .int x2), (3, .int x3)] [] := by
  refine g_iconst (v := 0) ok d_Mo_settle_137 (by decide) ?_
  refine g_istore (L' := [(0, .ref x0), (1, .int x1), (2, .int x2), (3, .int x3), (4, .int 0)]) ok d_Mo_settle_138 (by rw [hl]; decide) rfl ?_
  exact kk
theorem k_Mo_settle_140 {X : gC} {M : List mC} {k n : Nat} {x0 : Nat} {x1 : Int32} {x2 : Int32} {x3 : Int32} {x4 : Int32} (ok : gO X c_Mo_settle "TripleStoreModel" w_Mo_settle)  (kt : 3 ≤ x4 → gg X M k n 176 [(0, .ref x0), (1, .int x1), (2, .int x2), (3, .int x3)] []) (kf : ¬ 3 ≤ x4 → gg X M k n 146 [(0, .ref x0), (1, .int x1), (2, .int x2), (3, .int x3), (4, .int x4)] []) : gg X M k n 140 [(0, .ref x0), (1, .int x1), (2, .int x2), (3, .int x3), (4, .int x4)] [] := by
  refine g_iload ok d_Mo_settle_140 (j := 4) rfl ?_
  refine g_iconst (v := 3) ok d_Mo_settle_142 (by decide) ?_
  exact g_icmp_ge (tgt := 176) ok d_Mo_settle_143 (by decide) (fun z => (gg_keep [0, 1, 2, 3] (kt z))) (fun z => (kf z))
theorem k_Mo_settle_146 {X : gC} {M : List mC} {k n : Nat} {x0 : Nat} {x1 : Int32} {x2 : Int32} {x3 : Int32} {x4 : Int32} {fs2 : List Value} {f3 : Nat} {g6 : Nat → Int64} {N7 : Nat} {M10 : List mC} (ok : gO X c_Mo_settle "TripleStoreModel" w_Mo_settle) (hl : gL X = 5) (h1 : M[x0]? = some (.inr (10, fs2))) (h4 : fs2[4]? = some (.ref f3)) (h5 : M[f3]? = some (.inl (1, N7, .inr (.inl g6)))) (h8 : vp_in ((3 * (x2 + x3)) + x4) N7) (h9 : vp_in ((3 * x3) + x4) N7) (h11 : M.set f3 (.inl (1, N7, .inr (.inl (vp_updL g6 ((3 * x3) + x4).toNatClampNeg (g6 ((3 * (x2 + x3)) + x4).toNatClampNeg))))) = M10) (kk : gg X M10 k n 140 [(0, .ref x0), (1, .int x1), (2, .int x2), (3, .int x3), (4, .int (x4 + 1))] []) : gg X M k n 146 [(0, .ref x0), (1, .int x1), (2, .int x2), (3, .int x3), (4, .int x4)] [] := by
  refine g_aload_n ok d_Mo_settle_146 rfl (j := 0) rfl ?_
  refine gf_Mo_16 ok d_Mo_settle_147 h1 h4 ?_
  refine g_iconst (v := 3) ok d_Mo_settle_150 (by decide) ?_
  refine g_iload_n ok d_Mo_settle_151 rfl (j := 3) rfl ?_
  refine g_imul ok d_Mo_settle_152 ?_
  refine g_iload ok d_Mo_settle_153 (j := 4) rfl ?_
  refine g_iadd ok d_Mo_settle_155 ?_
  refine g_aload_n ok d_Mo_settle_156 rfl (j := 0) rfl ?_
  refine gf_Mo_16 ok d_Mo_settle_157 h1 h4 ?_
  refine g_iconst (v := 3) ok d_Mo_settle_160 (by decide) ?_
  refine g_iload_n ok d_Mo_settle_161 rfl (j := 2) rfl ?_
  refine g_iload_n ok d_Mo_settle_162 rfl (j := 3) rfl ?_
  refine g_iadd ok d_Mo_settle_163 ?_
  refine g_imul ok d_Mo_settle_164 ?_
  refine g_iload ok d_Mo_settle_165 (j := 4) rfl ?_
  refine g_iadd ok d_Mo_settle_167 ?_
  refine g_lald (t := 1) ok rfl d_Mo_settle_168 h5 h8 ?_
  refine g_last (t := 1) ok rfl d_Mo_settle_169 h5 h9 ?_
  rw [h11]
  have h12 : M10[f3]? = some (.inl (1, N7, .inr (.inl (vp_updL g6 ((3 * x3) + x4).toNatClampNeg (g6 ((3 * (x2 + x3)) + x4).toNatClampNeg))))) := by rw [← h11]; exact gs_eq h5
  refine g_iinc (L' := [(0, .ref x0), (1, .int x1), (2, .int x2), (3, .int x3), (4, .int (x4 + 1))]) (v := (x4 + 1)) ok d_Mo_settle_170 (j := 4) rfl rfl (by rw [hl]; decide) rfl ?_
  exact g_goto (tgt := 140) ok d_Mo_settle_173 (by decide) kk
theorem k_Mo_settle_176 {X : gC} {M : List mC} {k n : Nat} {x0 : Nat} {x1 : Int32} {x2 : Int32} {x3 : Int32} {fs2 : List Value} {f3 : Nat} {g6 : Nat → Int32} {N7 : Nat} {M10 : List mC} {f14 : Nat} {g17 : Nat → Int32} {N18 : Nat} {M22 : List mC} {f28 : Nat} {g31 : Nat → Int64} {N32 : Nat} (ok : gO X c_Mo_settle "TripleStoreModel" w_Mo_settle) (h1 : M[x0]? = some (.inr (10, fs2))) (h4 : fs2[5]? = some (.ref f3)) (h5 : M[f3]? = some (.inl (3, N7, .inl g6))) (h8 : vp_in (x2 + x3) N7) (h9 : vp_in x3 N7) (h11 : M.set f3 (.inl (3, N7, .inl (upd g6 x3.toNatClampNeg (vp_nar .boolean (g6 (x2 + x3).toNatClampNeg))))) = M10) (h15 : fs2[6]? = some (.ref f14)) (h16 : M[f14]? = some (.inl (0, N18, .inl g17))) (h20 : f14 ≠ f3) (h21 : vp_in x3 N18) (h23 : M10.set f14 (.inl (0, N18, .inl (upd g17 x3.toNatClampNeg 0))) = M22) (h27 : vp_in x3 N7) (h29 : fs2[4]? = some (.ref f28)) (h30 : M[f28]? = some (.inl (1, N32, .inr (.inl g31)))) (h34 : f28 ≠ f3) (h36 : f14 ≠ f28) (h37 : vp_in (3 * x3) N32) (h38 : vp_in ((3 * x3) + 1) N32) (h39 : vp_in ((3 * x3) + 2) N32) {rm : Room} {post : Option Value → List mC → Prop} (hm : mm_ (gLa X) y_Mo_apply w_Mo_apply rm [.ref x0, .int ((upd g6 x3.toNatClampNeg (vp_nar .boolean (g6 (x2 + x3).toNatClampNeg))) x3.toNatClampNeg), .long (g31 (3 * x3).toNatClampNeg), .long (g31 ((3 * x3) + 1).toNatClampNeg), .long (g31 ((3 * x3) + 2).toNatClampNeg)] M22 post) (hR : gF X rm 10 k n) (hlen : ∀ r M', post r M' → M'.length = M22.length) (kk : ∀ r M', post r M' → gg X M' (k + rm.cells) (n + rm.slots) 235 [(0, .ref x0), (1, .int x1), (2, .int x2), (3, .int x3)] (r.toList ++ [])) : gg X M k n 176 [(0, .ref x0), (1, .int x1), (2, .int x2), (3, .int x3)] [] := by
  refine g_aload_n ok d_Mo_settle_176 rfl (j := 0) rfl ?_
  refine gf_Mo_19 ok d_Mo_settle_177 h1 h4 ?_
  refine g_iload_n ok d_Mo_settle_180 rfl (j := 3) rfl ?_
  refine g_aload_n ok d_Mo_settle_181 rfl (j := 0) rfl ?_
  refine gf_Mo_19 ok d_Mo_settle_182 h1 h4 ?_
  refine g_iload_n ok d_Mo_settle_185 rfl (j := 2) rfl ?_
  refine g_iload_n ok d_Mo_settle_186 rfl (j := 3) rfl ?_
  refine g_iadd ok d_Mo_settle_187 ?_
  refine g_zald (t := 3) ok rfl d_Mo_settle_188 h5 h8 ?_
  refine g_zast (t := 3) ok rfl d_Mo_settle_189 h5 h9 ?_
  rw [h11]
  have h12 : M10[f3]? = some (.inl (3, N7, .inl (upd g6 x3.toNatClampNeg (vp_nar .boolean (g6 (x2 + x3).toNatClampNeg))))) := by rw [← h11]; exact gs_eq h5
  refine g_aload_n ok d_Mo_settle_190 rfl (j := 0) rfl ?_
  have h13 : M10[x0]? = some (.inr (10, fs2)) := by rw [← h11]; exact (gs_ne (ne_ao h5 h1)).trans h1
  refine gf_Mo_23 ok d_Mo_settle_191 h13 h15 ?_
  refine g_iload_n ok d_Mo_settle_194 rfl (j := 3) rfl ?_
  refine g_iconst (v := 0) ok d_Mo_settle_195 (by decide) ?_
  have h19 : M10[f14]? = some (.inl (0, N18, .inl g17)) := by rw [← h11]; exact (gs_ne (Ne.symm h20)).trans h16
  refine g_iast (t := 0) ok rfl d_Mo_settle_196 h19 h21 ?_
  rw [h23]
  have h24 : M22[f14]? = some (.inl (0, N18, .inl (upd g17 x3.toNatClampNeg 0))) := by rw [← h23]; exact gs_eq h19
  refine g_aload_n ok d_Mo_settle_197 rfl (j := 0) rfl ?_
  refine g_aload_n ok d_Mo_settle_198 rfl (j := 0) rfl ?_
  have h25 : M22[x0]? = some (.inr (10, fs2)) := by rw [← h23]; exact (gs_ne (ne_ao h19 h13)).trans h13
  refine gf_Mo_19 ok d_Mo_settle_199 h25 h4 ?_
  refine g_iload_n ok d_Mo_settle_202 rfl (j := 3) rfl ?_
  have h26 : M22[f3]? = some (.inl (3, N7, .inl (upd g6 x3.toNatClampNeg (vp_nar .boolean (g6 (x2 + x3).toNatClampNeg))))) := by rw [← h23]; exact (gs_ne h20).trans h12
  refine g_zald (t := 3) ok rfl d_Mo_settle_203 h26 h27 ?_
  refine g_aload_n ok d_Mo_settle_204 rfl (j := 0) rfl ?_
  refine gf_Mo_16 ok d_Mo_settle_205 h25 h29 ?_
  refine g_iconst (v := 3) ok d_Mo_settle_208 (by decide) ?_
  refine g_iload_n ok d_Mo_settle_209 rfl (j := 3) rfl ?_
  refine g_imul ok d_Mo_settle_210 ?_
  have h33 : M10[f28]? = some (.inl (1, N32, .inr (.inl g31))) := by rw [← h11]; exact (gs_ne (Ne.symm h34)).trans h30
  have h35 : M22[f28]? = some (.inl (1, N32, .inr (.inl g31))) := by rw [← h23]; exact (gs_ne h36).trans h33
  refine g_lald (t := 1) ok rfl d_Mo_settle_211 h35 h37 ?_
  refine g_aload_n ok d_Mo_settle_212 rfl (j := 0) rfl ?_
  refine gf_Mo_16 ok d_Mo_settle_213 h25 h29 ?_
  refine g_iconst (v := 3) ok d_Mo_settle_216 (by decide) ?_
  refine g_iload_n ok d_Mo_settle_217 rfl (j := 3) rfl ?_
  refine g_imul ok d_Mo_settle_218 ?_
  refine g_iconst (v := 1) ok d_Mo_settle_219 (by decide) ?_
  refine g_iadd ok d_Mo_settle_220 ?_
  refine g_lald (t := 1) ok rfl d_Mo_settle_221 h35 h38 ?_
  refine g_aload_n ok d_Mo_settle_222 rfl (j := 0) rfl ?_
  refine gf_Mo_16 ok d_Mo_settle_223 h25 h29 ?_
  refine g_iconst (v := 3) ok d_Mo_settle_226 (by decide) ?_
  refine g_iload_n ok d_Mo_settle_227 rfl (j := 3) rfl ?_
  refine g_imul ok d_Mo_settle_228 ?_
  refine g_iconst (v := 2) ok d_Mo_settle_229 (by decide) ?_
  refine g_iadd ok d_Mo_settle_230 ?_
  refine g_lald (t := 1) ok rfl d_Mo_settle_231 h35 h39 ?_
  exact gc_Mo_113 (As := [.int ((upd g6 x3.toNatClampNeg (vp_nar .boolean (g6 (x2 + x3).toNatClampNeg))) x3.toNatClampNeg), .long (g31 (3 * x3).toNatClampNeg), .long (g31 ((3 * x3) + 1).toNatClampNeg), .long (g31 ((3 * x3) + 2).toNatClampNeg)]) (rest := []) ok d_Mo_settle_232 hm rfl rfl (Nat.le_of_ble_eq_true rfl) hR h25 hlen kk
theorem k_Mo_settle_235 {X : gC} {M : List mC} {k n : Nat} {x0 : Nat} {x1 : Int32} {x2 : Int32} {x3 : Int32} (ok : gO X c_Mo_settle "TripleStoreModel" w_Mo_settle) (hl : gL X = 5)  (kk : gg X M k n 132 [(0, .ref x0), (1, .int x1), (2, .int x2), (3, .int (x3 + 1))] []) : gg X M k n 235 [(0, .ref x0), (1, .int x1), (2, .int x2), (3, .int x3)] [] := by
  refine g_iinc (L' := [(0, .ref x0), (1, .int x1), (2, .int x2), (3, .int (x3 + 1))]) (v := (x3 + 1)) ok d_Mo_settle_235 (j := 3) rfl rfl (by rw [hl]; decide) rfl ?_
  exact g_goto (tgt := 132) ok d_Mo_settle_238 (by decide) kk
theorem k_Mo_settle_241 {X : gC} {M : List mC} {k n : Nat} {x0 : Nat} {x1 : Int32} {fs2 : List Value} {fs5 : List Value} {M7 : List mC} {fs13 : List Value} {M15 : List mC} {fs22 : List Value} {M24 : List mC} (ok : gO X c_Mo_settle "TripleStoreModel" w_Mo_settle) (h1 : M[x0]? = some (.inr (10, fs2))) (h4 : 59 ≤ fs2.length) (h6 : fs2.set 7 (.int x1) = fs5) (h8 : M.set x0 (.inr (10, fs5)) = M7) (h14 : fs5.set 11 (.int 0) = fs13) (h16 : M7.set x0 (.inr (10, fs13)) = M15) (h23 : fs13.set 9 (.int 0) = fs22) (h25 : M15.set x0 (.inr (10, fs22)) = M24) {l9 : Launch} {rm : Room} {M0 : List mC} {post : Option Value → List mC → Prop} (E : gE X l9 y_Mo_settle rm 5 none M0 post) (hp : post (none) M24) (hk : k ≤ rm.cells) (hn : n ≤ rm.slots) : gg X M k n 241 [(0, .ref x0), (1, .int x1)] [] := by
  refine g_aload_n ok d_Mo_settle_241 rfl (j := 0) rfl ?_
  refine g_iload_n ok d_Mo_settle_242 rfl (j := 1) rfl ?_
  have h3 : 7 < fs2.length := Nat.lt_of_lt_of_le (by decide) h4
  refine pf_Mo_117 ok d_Mo_settle_243 h1 h3 (fun _ => ⟨rfl, rfl⟩) ?_
  rw [h6]
  rw [h8]
  have h9 : M7[x0]? = some (.inr (10, fs5)) := by rw [← h8]; exact gs_eq h1
  have h10 : fs5[7]? = some (.int x1) := by rw [← h6]; exact List.getElem?_set_self h3
  have h11 : 59 ≤ fs5.length := by rw [← h6, List.length_set]; exact h4
  refine g_aload_n ok d_Mo_settle_246 rfl (j := 0) rfl ?_
  refine g_iconst (v := 0) ok d_Mo_settle_247 (by decide) ?_
  have h12 : 11 < fs5.length := Nat.lt_of_lt_of_le (by decide) h11
  refine pf_Mo_148 ok d_Mo_settle_248 h9 h12 (fun _ => ⟨rfl, rfl⟩) ?_
  rw [h14]
  rw [h16]
  have h17 : M15[x0]? = some (.inr (10, fs13)) := by rw [← h16]; exact gs_eq h9
  have h18 : fs13[7]? = some (.int x1) := by rw [← h14]; exact (List.getElem?_set_ne (by decide : 11 ≠ 7)).trans h10
  have h19 : fs13[11]? = some (.int 0) := by rw [← h14]; exact List.getElem?_set_self h12
  have h20 : 59 ≤ fs13.length := by rw [← h14, List.length_set]; exact h11
  refine g_aload_n ok d_Mo_settle_251 rfl (j := 0) rfl ?_
  refine g_iconst (v := 0) ok d_Mo_settle_252 (by decide) ?_
  have h21 : 9 < fs13.length := Nat.lt_of_lt_of_le (by decide) h20
  refine pf_Mo_120 ok d_Mo_settle_253 h17 h21 (fun _ => ⟨rfl, rfl⟩) ?_
  rw [h23]
  rw [h25]
  have h26 : M24[x0]? = some (.inr (10, fs22)) := by rw [← h25]; exact gs_eq h17
  have h27 : fs22[7]? = some (.int x1) := by rw [← h23]; exact (List.getElem?_set_ne (by decide : 9 ≠ 7)).trans h18
  have h28 : fs22[11]? = some (.int 0) := by rw [← h23]; exact (List.getElem?_set_ne (by decide : 9 ≠ 11)).trans h19
  have h29 : fs22[9]? = some (.int 0) := by rw [← h23]; exact List.getElem?_set_self h21
  have h30 : 59 ≤ fs22.length := by rw [← h23, List.length_set]; exact h20
  exact g_vret ok E d_Mo_settle_256 hp hk hn
theorem k_Mo_sync_0 {X : gC} {M : List mC} {k n : Nat} {x0 : Nat} {fs2 : List Value} {fs5 : List Value} {M7 : List mC} {f12 : Int32} (ok : gO X c_Mo_sync "TripleStoreModel" w_Mo_sync) (hl : gL X = 2) (h1 : M[x0]? = some (.inr (10, fs2))) (h4 : 59 ≤ fs2.length) (h6 : fs2.set 58 (.int 0) = fs5) (h8 : M.set x0 (.inr (10, fs5)) = M7) (h13 : fs2[9]? = some (.int f12)) {rm : Room} {post : Option Value → List mC → Prop} (hm : mm_ (gLa X) y_Mo_settle w_Mo_settle rm [.ref x0] M7 post) (hR : gF X rm 5 k n) (hlen : ∀ r M', post r M' → M'.length = M7.length) (kk : ∀ r M', post r M' → gg X M' (k + rm.cells) (n + rm.slots) 14 [(1, .int f12)] (r.toList ++ [])) : gg X M k n 0 [(0, .ref x0)] [] := by
  refine g_aload_n ok d_Mo_sync_0 rfl (j := 0) rfl ?_
  refine g_iconst (v := 0) ok d_Mo_sync_1 (by decide) ?_
  have h3 : 58 < fs2.length := Nat.lt_of_lt_of_le (by decide) h4
  refine pf_Mo_91 ok d_Mo_sync_2 h1 h3 (fun _ => ⟨rfl, rfl⟩) ?_
  rw [h6]
  rw [h8]
  have h9 : M7[x0]? = some (.inr (10, fs5)) := by rw [← h8]; exact gs_eq h1
  have h10 : fs5[58]? = some (.int 0) := by rw [← h6]; exact List.getElem?_set_self h3
  have h11 : 59 ≤ fs5.length := by rw [← h6, List.length_set]; exact h4
  refine g_aload_n ok d_Mo_sync_5 rfl (j := 0) rfl ?_
  have h14 : fs5[9]? = some (.int f12) := by rw [← h6]; exact (List.getElem?_set_ne (by decide : 58 ≠ 9)).trans h13
  refine gf_Mo_120 ok d_Mo_sync_6 h9 h14 ?_
  refine g_istore_n (L' := [(0, .ref x0), (1, .int f12)]) ok d_Mo_sync_9 rfl (by rw [hl]; decide) rfl ?_
  refine g_aload_n ok d_Mo_sync_10 rfl (j := 0) rfl ?_
  exact gc_Mo_158 (As := []) (rest := []) ok d_Mo_sync_11 hm rfl rfl (Nat.le_of_ble_eq_true rfl) hR h9 hlen (fun r M' q => (gg_keep [1] (kk r M' q)))
theorem k_Mo_sync_14 {X : gC} {M : List mC} {k n : Nat} {x1 : Int32} (ok : gO X c_Mo_sync "TripleStoreModel" w_Mo_sync)  {l9 : Launch} {rm : Room} {M0 : List mC} {post : Option Value → List mC → Prop} (E : gE X l9 y_Mo_sync rm 2 (some .int) M0 post) (hp : post (some (.int x1)) M) (hk : k ≤ rm.cells) (hn : n ≤ rm.slots) : gg X M k n 14 [(1, .int x1)] [] := by
  refine g_iload_n ok d_Mo_sync_14 rfl (j := 0) rfl ?_
  exact g_iret ok E d_Mo_sync_15 hp hk hn
theorem k_Mo_crash_0 {X : gC} {M : List mC} {k n : Nat} {x0 : Nat} {x1 : Int32} (ok : gO X c_Mo_crash "TripleStoreModel" w_Mo_crash)  {rm : Room} {post : Option Value → List mC → Prop} (hm : mm_ (gLa X) y_Mo_in w_Mo_in rm [.int x1, .int 0, .int 1000] M post) (hR : gF X rm 3 k n) (hlen : ∀ r M', post r M' → M'.length = M.length) (kk : ∀ r M', post r M' → gg X M' (k + rm.cells) (n + rm.slots) 9 [(0, .ref x0), (1, .int x1)] (r.toList ++ [.ref x0])) : gg X M k n 0 [(0, .ref x0), (1, .int x1)] [] := by
  refine g_aload_n ok d_Mo_crash_0 rfl (j := 0) rfl ?_
  refine g_iload_n ok d_Mo_crash_1 rfl (j := 1) rfl ?_
  refine g_iconst (v := 0) ok d_Mo_crash_2 (by decide) ?_
  refine g_sipush (v := 1000) ok d_Mo_crash_3 (by decide) ?_
  exact gc_Mo_94 (As := [.int x1, .int 0, .int 1000]) (rest := [.ref x0]) ok d_Mo_crash_6 hm rfl rfl (Nat.le_of_ble_eq_true rfl) hR hlen kk
theorem k_Mo_crash_9 {X : gC} {M : List mC} {k n : Nat} {x0 : Nat} {x1 : Int32} {s1 : Int32} {fs2 : List Value} (ok : gO X c_Mo_crash "TripleStoreModel" w_Mo_crash) (h1 : M[x0]? = some (.inr (10, fs2))) {rm : Room} {post : Option Value → List mC → Prop} (hm : mm_ (gLa X) y_Mo_good w_Mo_good rm [.ref x0, .int s1, .int 1] M post) (hR : gF X rm 3 k n) (hlen : ∀ r M', post r M' → M'.length = M.length) (kk : ∀ r M', post r M' → gg X M' (k + rm.cells) (n + rm.slots) 13 [(0, .ref x0), (1, .int x1)] (r.toList ++ [])) : gg X M k n 9 [(0, .ref x0), (1, .int x1)] [.int s1, .ref x0] := by
  refine g_iconst (v := 1) ok d_Mo_crash_9 (by decide) ?_
  exact gc_Mo_109 (As := [.int s1, .int 1]) (rest := []) ok d_Mo_crash_10 hm rfl rfl (Nat.le_of_ble_eq_true rfl) hR h1 hlen kk
theorem k_Mo_crash_13 {X : gC} {M : List mC} {k n : Nat} {x0 : Nat} {x1 : Int32} {s0 : Int32} (ok : gO X c_Mo_crash "TripleStoreModel" w_Mo_crash)  (kt : ¬ s0 = 0 → gg X M k n 18 [(0, .ref x0), (1, .int x1)] []) (kf : s0 = 0 → gg X M k n 16 [] []) : gg X M k n 13 [(0, .ref x0), (1, .int x1)] [.int s0] := by
  exact g_if_ne (tgt := 18) ok d_Mo_crash_13 (by decide) (fun z => (kt z)) (fun z => (gg_keep [] (kf z)))
theorem k_Mo_crash_16 {X : gC} {M : List mC} {k n : Nat}  (ok : gO X c_Mo_crash "TripleStoreModel" w_Mo_crash)  {l9 : Launch} {rm : Room} {M0 : List mC} {post : Option Value → List mC → Prop} (E : gE X l9 y_Mo_crash rm 4 (some .int) M0 post) (hp : post (some (.int 0)) M) (hk : k ≤ rm.cells) (hn : n ≤ rm.slots) : gg X M k n 16 [] [] := by
  refine g_iconst (v := 0) ok d_Mo_crash_16 (by decide) ?_
  exact g_iret ok E d_Mo_crash_17 hp hk hn
theorem k_Mo_crash_18 {X : gC} {M : List mC} {k n : Nat} {x0 : Nat} {x1 : Int32} (ok : gO X c_Mo_crash "TripleStoreModel" w_Mo_crash) (hl : gL X = 4)  (kk : gg X M k n 20 [(0, .ref x0), (1, .int x1), (2, .int 0)] []) : gg X M k n 18 [(0, .ref x0), (1, .int x1)] [] := by
  refine g_iconst (v := 0) ok d_Mo_crash_18 (by decide) ?_
  refine g_istore_n (L' := [(0, .ref x0), (1, .int x1), (2, .int 0)]) ok d_Mo_crash_19 rfl (by rw [hl]; decide) rfl ?_
  exact kk
theorem k_Mo_crash_20 {X : gC} {M : List mC} {k n : Nat} {x0 : Nat} {x1 : Int32} {x2 : Int32} {fs2 : List Value} {f3 : Int32} (ok : gO X c_Mo_crash "TripleStoreModel" w_Mo_crash) (h1 : M[x0]? = some (.inr (10, fs2))) (h4 : fs2[3]? = some (.int f3)) (kt : (3 * f3) ≤ x2 → gg X M k n 48 [(0, .ref x0), (1, .int x1)] []) (kf : ¬ (3 * f3) ≤ x2 → gg X M k n 30 [(0, .ref x0), (1, .int x1), (2, .int x2)] []) : gg X M k n 20 [(0, .ref x0), (1, .int x1), (2, .int x2)] [] := by
  refine g_iload_n ok d_Mo_crash_20 rfl (j := 2) rfl ?_
  refine g_iconst (v := 3) ok d_Mo_crash_21 (by decide) ?_
  refine g_aload_n ok d_Mo_crash_22 rfl (j := 0) rfl ?_
  refine gf_Mo_155 ok d_Mo_crash_23 h1 h4 ?_
  refine g_imul ok d_Mo_crash_26 ?_
  exact g_icmp_ge (tgt := 48) ok d_Mo_crash_27 (by decide) (fun z => (gg_keep [0, 1] (kt z))) (fun z => (kf z))
theorem k_Mo_crash_30 {X : gC} {M : List mC} {k n : Nat} {x0 : Nat} {x1 : Int32} {x2 : Int32} {fs2 : List Value} {f3 : Nat} {f5 : Nat} {g8 : Nat → Int64} {N9 : Nat} {g12 : Nat → Int64} {N13 : Nat} {M15 : List mC} (ok : gO X c_Mo_crash "TripleStoreModel" w_Mo_crash) (hl : gL X = 4) (h1 : M[x0]? = some (.inr (10, fs2))) (h4 : fs2[0]? = some (.ref f3)) (h6 : fs2[2]? = some (.ref f5)) (h7 : M[f5]? = some (.inl (1, N9, .inr (.inl g8)))) (h10 : vp_in x2 N9) (h11 : M[f3]? = some (.inl (1, N13, .inr (.inl g12)))) (h14 : vp_in x2 N13) (h16 : M.set f3 (.inl (1, N13, .inr (.inl (vp_updL g12 x2.toNatClampNeg (g8 x2.toNatClampNeg))))) = M15) (kk : gg X M15 k n 20 [(0, .ref x0), (1, .int x1), (2, .int (x2 + 1))] []) : gg X M k n 30 [(0, .ref x0), (1, .int x1), (2, .int x2)] [] := by
  refine g_aload_n ok d_Mo_crash_30 rfl (j := 0) rfl ?_
  refine gf_Mo_7 ok d_Mo_crash_31 h1 h4 ?_
  refine g_iload_n ok d_Mo_crash_34 rfl (j := 2) rfl ?_
  refine g_aload_n ok d_Mo_crash_35 rfl (j := 0) rfl ?_
  refine gf_Mo_13 ok d_Mo_crash_36 h1 h6 ?_
  refine g_iload_n ok d_Mo_crash_39 rfl (j := 2) rfl ?_
  refine g_lald (t := 1) ok rfl d_Mo_crash_40 h7 h10 ?_
  refine g_last (t := 1) ok rfl d_Mo_crash_41 h11 h14 ?_
  rw [h16]
  have h17 : M15[f3]? = some (.inl (1, N13, .inr (.inl (vp_updL g12 x2.toNatClampNeg (g8 x2.toNatClampNeg))))) := by rw [← h16]; exact gs_eq h11
  refine g_iinc (L' := [(0, .ref x0), (1, .int x1), (2, .int (x2 + 1))]) (v := (x2 + 1)) ok d_Mo_crash_42 (j := 2) rfl rfl (by rw [hl]; decide) rfl ?_
  exact g_goto (tgt := 20) ok d_Mo_crash_45 (by decide) kk
theorem k_Mo_crash_48 {X : gC} {M : List mC} {k n : Nat} {x0 : Nat} {x1 : Int32} {fs2 : List Value} {f3 : Int32} {fs7 : List Value} {M9 : List mC} {f15 : Int32} (ok : gO X c_Mo_crash "TripleStoreModel" w_Mo_crash) (h1 : M[x0]? = some (.inr (10, fs2))) (h4 : fs2[3]? = some (.int f3)) (h6 : 59 ≤ fs2.length) (h8 : fs2.set 1 (.int f3) = fs7) (h10 : M.set x0 (.inr (10, fs7)) = M9) (h16 : fs2[10]? = some (.int f15)) (kt : f15 = 0 → gg X M9 k n 70 [(0, .ref x0), (1, .int x1)] []) (kf : ¬ f15 = 0 → gg X M9 k n 63 [(0, .ref x0), (1, .int x1)] []) : gg X M k n 48 [(0, .ref x0), (1, .int x1)] [] := by
  refine g_aload_n ok d_Mo_crash_48 rfl (j := 0) rfl ?_
  refine g_aload_n ok d_Mo_crash_49 rfl (j := 0) rfl ?_
  refine gf_Mo_155 ok d_Mo_crash_50 h1 h4 ?_
  have h5 : 1 < fs2.length := Nat.lt_of_lt_of_le (by decide) h6
  refine pf_Mo_102 ok d_Mo_crash_53 h1 h5 (fun _ => ⟨rfl, rfl⟩) ?_
  rw [h8]
  rw [h10]
  have h11 : M9[x0]? = some (.inr (10, fs7)) := by rw [← h10]; exact gs_eq h1
  have h12 : fs7[3]? = some (.int f3) := by rw [← h8]; exact (List.getElem?_set_ne (by decide : 1 ≠ 3)).trans h4
  have h13 : fs7[1]? = some (.int f3) := by rw [← h8]; exact List.getElem?_set_self h5
  have h14 : 59 ≤ fs7.length := by rw [← h8, List.length_set]; exact h6
  refine g_aload_n ok d_Mo_crash_56 rfl (j := 0) rfl ?_
  have h17 : fs7[10]? = some (.int f15) := by rw [← h8]; exact (List.getElem?_set_ne (by decide : 1 ≠ 10)).trans h16
  refine gf_Mo_123 ok d_Mo_crash_57 h11 h17 ?_
  exact g_if_eq (tgt := 70) ok d_Mo_crash_60 (by decide) (fun z => (kt z)) (fun z => (kf z))
theorem k_Mo_crash_63 {X : gC} {M : List mC} {k n : Nat} {x0 : Nat} {x1 : Int32} {fs2 : List Value} {f3 : Int32} (ok : gO X c_Mo_crash "TripleStoreModel" w_Mo_crash) (h1 : M[x0]? = some (.inr (10, fs2))) (h4 : fs2[11]? = some (.int f3)) (kk : gg X M k n 74 [(0, .ref x0), (1, .int x1)] [.int f3]) : gg X M k n 63 [(0, .ref x0), (1, .int x1)] [] := by
  refine g_aload_n ok d_Mo_crash_63 rfl (j := 0) rfl ?_
  refine gf_Mo_148 ok d_Mo_crash_64 h1 h4 ?_
  exact g_goto (tgt := 74) ok d_Mo_crash_67 (by decide) kk
theorem k_Mo_crash_70 {X : gC} {M : List mC} {k n : Nat} {x0 : Nat} {x1 : Int32} {fs2 : List Value} {f3 : Int32} (ok : gO X c_Mo_crash "TripleStoreModel" w_Mo_crash) (h1 : M[x0]? = some (.inr (10, fs2))) (h4 : fs2[7]? = some (.int f3)) (kk : gg X M k n 74 [(0, .ref x0), (1, .int x1)] [.int f3]) : gg X M k n 70 [(0, .ref x0), (1, .int x1)] [] := by
  refine g_aload_n ok d_Mo_crash_70 rfl (j := 0) rfl ?_
  refine gf_Mo_117 ok d_Mo_crash_71 h1 h4 ?_
  exact kk
theorem k_Mo_crash_74 {X : gC} {M : List mC} {k n : Nat} {x0 : Nat} {x1 : Int32} {s0 : Int32} (ok : gO X c_Mo_crash "TripleStoreModel" w_Mo_crash) (hl : gL X = 4)  (kk : gg X M k n 77 [(0, .ref x0), (1, .int x1), (2, .int s0), (3, .int 0)] []) : gg X M k n 74 [(0, .ref x0), (1, .int x1)] [.int s0] := by
  refine g_istore_n (L' := [(0, .ref x0), (1, .int x1), (2, .int s0)]) ok d_Mo_crash_74 rfl (by rw [hl]; decide) rfl ?_
  refine g_iconst (v := 0) ok d_Mo_crash_75 (by decide) ?_
  refine g_istore_n (L' := [(0, .ref x0), (1, .int x1), (2, .int s0), (3, .int 0)]) ok d_Mo_crash_76 rfl (by rw [hl]; decide) rfl ?_
  exact kk
theorem k_Mo_crash_77 {X : gC} {M : List mC} {k n : Nat} {x0 : Nat} {x1 : Int32} {x2 : Int32} {x3 : Int32} (ok : gO X c_Mo_crash "TripleStoreModel" w_Mo_crash)  (kt : x2 ≤ x3 → gg X M k n 136 [(0, .ref x0)] []) (kf : ¬ x2 ≤ x3 → gg X M k n 82 [(0, .ref x0), (1, .int x1), (2, .int x2), (3, .int x3)] []) : gg X M k n 77 [(0, .ref x0), (1, .int x1), (2, .int x2), (3, .int x3)] [] := by
  refine g_iload_n ok d_Mo_crash_77 rfl (j := 3) rfl ?_
  refine g_iload_n ok d_Mo_crash_78 rfl (j := 2) rfl ?_
  exact g_icmp_ge (tgt := 136) ok d_Mo_crash_79 (by decide) (fun z => (gg_keep [0] (kt z))) (fun z => (kf z))
theorem k_Mo_crash_82 {X : gC} {M : List mC} {k n : Nat} {x0 : Nat} {x1 : Int32} {x2 : Int32} {x3 : Int32} {fs2 : List Value} {f3 : Nat} {g6 : Nat → Int32} {N7 : Nat} (ok : gO X c_Mo_crash "TripleStoreModel" w_Mo_crash) (h1 : M[x0]? = some (.inr (10, fs2))) (h4 : fs2[6]? = some (.ref f3)) (h5 : M[f3]? = some (.inl (0, N7, .inl g6))) (h8 : vp_in x3 N7) (kt : x1 ≤ (g6 x3.toNatClampNeg) → gg X M k n 130 [(0, .ref x0), (1, .int x1), (2, .int x2), (3, .int x3)] []) (kf : ¬ x1 ≤ (g6 x3.toNatClampNeg) → gg X M k n 92 [(0, .ref x0), (1, .int x1), (2, .int x2), (3, .int x3)] []) : gg X M k n 82 [(0, .ref x0), (1, .int x1), (2, .int x2), (3, .int x3)] [] := by
  refine g_aload_n ok d_Mo_crash_82 rfl (j := 0) rfl ?_
  refine gf_Mo_23 ok d_Mo_crash_83 h1 h4 ?_
  refine g_iload_n ok d_Mo_crash_86 rfl (j := 3) rfl ?_
  refine g_iald (t := 0) ok rfl d_Mo_crash_87 h5 h8 ?_
  refine g_iload_n ok d_Mo_crash_88 rfl (j := 1) rfl ?_
  exact g_icmp_ge (tgt := 130) ok d_Mo_crash_89 (by decide) (fun z => (kt z)) (fun z => (kf z))
theorem k_Mo_crash_92 {X : gC} {M : List mC} {k n : Nat} {x0 : Nat} {x1 : Int32} {x2 : Int32} {x3 : Int32} {fs2 : List Value} {f3 : Nat} {g6 : Nat → Int32} {N7 : Nat} {f9 : Nat} {g12 : Nat → Int64} {N13 : Nat} (ok : gO X c_Mo_crash "TripleStoreModel" w_Mo_crash) (h1 : M[x0]? = some (.inr (10, fs2))) (h4 : fs2[5]? = some (.ref f3)) (h5 : M[f3]? = some (.inl (3, N7, .inl g6))) (h8 : vp_in x3 N7) (h10 : fs2[4]? = some (.ref f9)) (h11 : M[f9]? = some (.inl (1, N13, .inr (.inl g12)))) (h14 : vp_in (3 * x3) N13) (h15 : vp_in ((3 * x3) + 1) N13) (h16 : vp_in ((3 * x3) + 2) N13) {rm : Room} {post : Option Value → List mC → Prop} (hm : mm_ (gLa X) y_Mo_apply w_Mo_apply rm [.ref x0, .int (g6 x3.toNatClampNeg), .long (g12 (3 * x3).toNatClampNeg), .long (g12 ((3 * x3) + 1).toNatClampNeg), .long (g12 ((3 * x3) + 2).toNatClampNeg)] M post) (hR : gF X rm 10 k n) (hlen : ∀ r M', post r M' → M'.length = M.length) (kk : ∀ r M', post r M' → gg X M' (k + rm.cells) (n + rm.slots) 130 [(0, .ref x0), (1, .int x1), (2, .int x2), (3, .int x3)] (r.toList ++ [])) : gg X M k n 92 [(0, .ref x0), (1, .int x1), (2, .int x2), (3, .int x3)] [] := by
  refine g_aload_n ok d_Mo_crash_92 rfl (j := 0) rfl ?_
  refine g_aload_n ok d_Mo_crash_93 rfl (j := 0) rfl ?_
  refine gf_Mo_19 ok d_Mo_crash_94 h1 h4 ?_
  refine g_iload_n ok d_Mo_crash_97 rfl (j := 3) rfl ?_
  refine g_zald (t := 3) ok rfl d_Mo_crash_98 h5 h8 ?_
  refine g_aload_n ok d_Mo_crash_99 rfl (j := 0) rfl ?_
  refine gf_Mo_16 ok d_Mo_crash_100 h1 h10 ?_
  refine g_iconst (v := 3) ok d_Mo_crash_103 (by decide) ?_
  refine g_iload_n ok d_Mo_crash_104 rfl (j := 3) rfl ?_
  refine g_imul ok d_Mo_crash_105 ?_
  refine g_lald (t := 1) ok rfl d_Mo_crash_106 h11 h14 ?_
  refine g_aload_n ok d_Mo_crash_107 rfl (j := 0) rfl ?_
  refine gf_Mo_16 ok d_Mo_crash_108 h1 h10 ?_
  refine g_iconst (v := 3) ok d_Mo_crash_111 (by decide) ?_
  refine g_iload_n ok d_Mo_crash_112 rfl (j := 3) rfl ?_
  refine g_imul ok d_Mo_crash_113 ?_
  refine g_iconst (v := 1) ok d_Mo_crash_114 (by decide) ?_
  refine g_iadd ok d_Mo_crash_115 ?_
  refine g_lald (t := 1) ok rfl d_Mo_crash_116 h11 h15 ?_
  refine g_aload_n ok d_Mo_crash_117 rfl (j := 0) rfl ?_
  refine gf_Mo_16 ok d_Mo_crash_118 h1 h10 ?_
  refine g_iconst (v := 3) ok d_Mo_crash_121 (by decide) ?_
  refine g_iload_n ok d_Mo_crash_122 rfl (j := 3) rfl ?_
  refine g_imul ok d_Mo_crash_123 ?_
  refine g_iconst (v := 2) ok d_Mo_crash_124 (by decide) ?_
  refine g_iadd ok d_Mo_crash_125 ?_
  refine g_lald (t := 1) ok rfl d_Mo_crash_126 h11 h16 ?_
  exact gc_Mo_113 (As := [.int (g6 x3.toNatClampNeg), .long (g12 (3 * x3).toNatClampNeg), .long (g12 ((3 * x3) + 1).toNatClampNeg), .long (g12 ((3 * x3) + 2).toNatClampNeg)]) (rest := []) ok d_Mo_crash_127 hm rfl rfl (Nat.le_of_ble_eq_true rfl) hR h1 hlen kk
theorem k_Mo_crash_130 {X : gC} {M : List mC} {k n : Nat} {x0 : Nat} {x1 : Int32} {x2 : Int32} {x3 : Int32} (ok : gO X c_Mo_crash "TripleStoreModel" w_Mo_crash) (hl : gL X = 4)  (kk : gg X M k n 77 [(0, .ref x0), (1, .int x1), (2, .int x2), (3, .int (x3 + 1))] []) : gg X M k n 130 [(0, .ref x0), (1, .int x1), (2, .int x2), (3, .int x3)] [] := by
  refine g_iinc (L' := [(0, .ref x0), (1, .int x1), (2, .int x2), (3, .int (x3 + 1))]) (v := (x3 + 1)) ok d_Mo_crash_130 (j := 3) rfl rfl (by rw [hl]; decide) rfl ?_
  exact g_goto (tgt := 77) ok d_Mo_crash_133 (by decide) kk
theorem k_Mo_crash_136 {X : gC} {M : List mC} {k n : Nat} {x0 : Nat} {fs2 : List Value} {fs5 : List Value} {M7 : List mC} {fs13 : List Value} {M15 : List mC} (ok : gO X c_Mo_crash "TripleStoreModel" w_Mo_crash) (h1 : M[x0]? = some (.inr (10, fs2))) (h4 : 59 ≤ fs2.length) (h6 : fs2.set 10 (.int 0) = fs5) (h8 : M.set x0 (.inr (10, fs5)) = M7) (h14 : fs5.set 7 (.int 0) = fs13) (h16 : M7.set x0 (.inr (10, fs13)) = M15) {rm : Room} {post : Option Value → List mC → Prop} (hm : mm_ (gLa X) y_Mo_settle w_Mo_settle rm [.ref x0] M15 post) (hR : gF X rm 5 k n) (hlen : ∀ r M', post r M' → M'.length = M15.length) (kk : ∀ r M', post r M' → gg X M' (k + rm.cells) (n + rm.slots) 150 [(0, .ref x0)] (r.toList ++ [])) : gg X M k n 136 [(0, .ref x0)] [] := by
  refine g_aload_n ok d_Mo_crash_136 rfl (j := 0) rfl ?_
  refine g_iconst (v := 0) ok d_Mo_crash_137 (by decide) ?_
  have h3 : 10 < fs2.length := Nat.lt_of_lt_of_le (by decide) h4
  refine pf_Mo_123 ok d_Mo_crash_138 h1 h3 (fun _ => ⟨rfl, rfl⟩) ?_
  rw [h6]
  rw [h8]
  have h9 : M7[x0]? = some (.inr (10, fs5)) := by rw [← h8]; exact gs_eq h1
  have h10 : fs5[10]? = some (.int 0) := by rw [← h6]; exact List.getElem?_set_self h3
  have h11 : 59 ≤ fs5.length := by rw [← h6, List.length_set]; exact h4
  refine g_aload_n ok d_Mo_crash_141 rfl (j := 0) rfl ?_
  refine g_iconst (v := 0) ok d_Mo_crash_142 (by decide) ?_
  have h12 : 7 < fs5.length := Nat.lt_of_lt_of_le (by decide) h11
  refine pf_Mo_117 ok d_Mo_crash_143 h9 h12 (fun _ => ⟨rfl, rfl⟩) ?_
  rw [h14]
  rw [h16]
  have h17 : M15[x0]? = some (.inr (10, fs13)) := by rw [← h16]; exact gs_eq h9
  have h18 : fs13[10]? = some (.int 0) := by rw [← h14]; exact (List.getElem?_set_ne (by decide : 7 ≠ 10)).trans h10
  have h19 : fs13[7]? = some (.int 0) := by rw [← h14]; exact List.getElem?_set_self h12
  have h20 : 59 ≤ fs13.length := by rw [← h14, List.length_set]; exact h11
  refine g_aload_n ok d_Mo_crash_146 rfl (j := 0) rfl ?_
  exact gc_Mo_158 (As := []) (rest := []) ok d_Mo_crash_147 hm rfl rfl (Nat.le_of_ble_eq_true rfl) hR h17 hlen kk
theorem k_Mo_crash_150 {X : gC} {M : List mC} {k n : Nat} {x0 : Nat} {fs2 : List Value} {f3 : Int32} (ok : gO X c_Mo_crash "TripleStoreModel" w_Mo_crash) (h1 : M[x0]? = some (.inr (10, fs2))) (h4 : fs2[1]? = some (.int f3)) {l9 : Launch} {rm : Room} {M0 : List mC} {post : Option Value → List mC → Prop} (E : gE X l9 y_Mo_crash rm 4 (some .int) M0 post) (hp : post (some (.int f3)) M) (hk : k ≤ rm.cells) (hn : n ≤ rm.slots) : gg X M k n 150 [(0, .ref x0)] [] := by
  refine g_aload_n ok d_Mo_crash_150 rfl (j := 0) rfl ?_
  refine gf_Mo_102 ok d_Mo_crash_151 h1 h4 ?_
  exact g_iret ok E d_Mo_crash_154 hp hk hn
theorem k_Mo_append_0 {X : gC} {M : List mC} {k n : Nat} {x0 : Nat} {x1 : Int64} {x3 : Int32} (ok : gO X c_Mo_append "TripleStoreModel" w_Mo_append)  {rm : Room} {post : Option Value → List mC → Prop} (hm : mm_ (gLa X) y_Mo_in w_Mo_in rm [.int x3, .int 1, .int 8] M post) (hR : gF X rm 3 k n) (hlen : ∀ r M', post r M' → M'.length = M.length) (kk : ∀ r M', post r M' → gg X M' (k + rm.cells) (n + rm.slots) 8 [(0, .ref x0), (1, .long x1), (3, .int x3)] (r.toList ++ [.ref x0])) : gg X M k n 0 [(0, .ref x0), (1, .long x1), (3, .int x3)] [] := by
  refine g_aload_n ok d_Mo_append_0 rfl (j := 0) rfl ?_
  refine g_iload_n ok d_Mo_append_1 rfl (j := 2) rfl ?_
  refine g_iconst (v := 1) ok d_Mo_append_2 (by decide) ?_
  refine g_bipush (v := 8) ok d_Mo_append_3 (by decide) ?_
  exact gc_Mo_94 (As := [.int x3, .int 1, .int 8]) (rest := [.ref x0]) ok d_Mo_append_5 hm rfl rfl (Nat.le_of_ble_eq_true rfl) hR hlen kk
theorem k_Mo_append_8 {X : gC} {M : List mC} {k n : Nat} {x0 : Nat} {x1 : Int64} {x3 : Int32} {s1 : Int32} {fs2 : List Value} (ok : gO X c_Mo_append "TripleStoreModel" w_Mo_append) (h1 : M[x0]? = some (.inr (10, fs2))) {rm : Room} {post : Option Value → List mC → Prop} (hm : mm_ (gLa X) y_Mo_good w_Mo_good rm [.ref x0, .int s1, .int 1] M post) (hR : gF X rm 3 k n) (hlen : ∀ r M', post r M' → M'.length = M.length) (kk : ∀ r M', post r M' → gg X M' (k + rm.cells) (n + rm.slots) 12 [(0, .ref x0), (1, .long x1), (3, .int x3)] (r.toList ++ [])) : gg X M k n 8 [(0, .ref x0), (1, .long x1), (3, .int x3)] [.int s1, .ref x0] := by
  refine g_iconst (v := 1) ok d_Mo_append_8 (by decide) ?_
  exact gc_Mo_109 (As := [.int s1, .int 1]) (rest := []) ok d_Mo_append_9 hm rfl rfl (Nat.le_of_ble_eq_true rfl) hR h1 hlen kk
theorem k_Mo_append_12 {X : gC} {M : List mC} {k n : Nat} {x0 : Nat} {x1 : Int64} {x3 : Int32} {s0 : Int32} (ok : gO X c_Mo_append "TripleStoreModel" w_Mo_append)  (kt : ¬ s0 = 0 → gg X M k n 17 [(0, .ref x0), (1, .long x1), (3, .int x3)] []) (kf : s0 = 0 → gg X M k n 15 [] []) : gg X M k n 12 [(0, .ref x0), (1, .long x1), (3, .int x3)] [.int s0] := by
  exact g_if_ne (tgt := 17) ok d_Mo_append_12 (by decide) (fun z => (kt z)) (fun z => (gg_keep [] (kf z)))
theorem k_Mo_append_15 {X : gC} {M : List mC} {k n : Nat}  (ok : gO X c_Mo_append "TripleStoreModel" w_Mo_append)  {l9 : Launch} {rm : Room} {M0 : List mC} {post : Option Value → List mC → Prop} (E : gE X l9 y_Mo_append rm 5 (some .int) M0 post) (hp : post (some (.int 0)) M) (hk : k ≤ rm.cells) (hn : n ≤ rm.slots) : gg X M k n 15 [] [] := by
  refine g_iconst (v := 0) ok d_Mo_append_15 (by decide) ?_
  exact g_iret ok E d_Mo_append_16 hp hk hn
theorem k_Mo_append_17 {X : gC} {M : List mC} {k n : Nat} {x0 : Nat} {x1 : Int64} {x3 : Int32} (ok : gO X c_Mo_append "TripleStoreModel" w_Mo_append) (hl : gL X = 5)  (kk : gg X M k n 20 [(0, .ref x0), (1, .long x1), (3, .int x3), (4, .int 0)] []) : gg X M k n 17 [(0, .ref x0), (1, .long x1), (3, .int x3)] [] := by
  refine g_iconst (v := 0) ok d_Mo_append_17 (by decide) ?_
  refine g_istore (L' := [(0, .ref x0), (1, .long x1), (3, .int x3), (4, .int 0)]) ok d_Mo_append_18 (by rw [hl]; decide) rfl ?_
  exact kk
theorem k_Mo_append_20 {X : gC} {M : List mC} {k n : Nat} {x0 : Nat} {x1 : Int64} {x3 : Int32} {x4 : Int32} (ok : gO X c_Mo_append "TripleStoreModel" w_Mo_append)  (kt : x3 ≤ x4 → gg X M k n 61 [(0, .ref x0), (1, .long x1), (3, .int x3)] []) (kf : ¬ x3 ≤ x4 → gg X M k n 26 [(0, .ref x0), (1, .long x1), (3, .int x3), (4, .int x4)] []) : gg X M k n 20 [(0, .ref x0), (1, .long x1), (3, .int x3), (4, .int x4)] [] := by
  refine g_iload ok d_Mo_append_20 (j := 3) rfl ?_
  refine g_iload_n ok d_Mo_append_22 rfl (j := 2) rfl ?_
  exact g_icmp_ge (tgt := 61) ok d_Mo_append_23 (by decide) (fun z => (gg_keep [0, 1, 3] (kt z))) (fun z => (kf z))
theorem k_Mo_append_26 {X : gC} {M : List mC} {k n : Nat} {x0 : Nat} {x1 : Int64} {x3 : Int32} {x4 : Int32} (ok : gO X c_Mo_append "TripleStoreModel" w_Mo_append)  {rm : Room} {post : Option Value → List mC → Prop} (hm : mm_ (gLa X) y_Mo_in w_Mo_in rm [.int ((((x1 >>> (((8 * x4) : Int32).toInt64 &&& 63)) : Int64).toInt32) &&& 255), .int 32, .int 126] M post) (hR : gF X rm 3 k n) (hlen : ∀ r M', post r M' → M'.length = M.length) (kk : ∀ r M', post r M' → gg X M' (k + rm.cells) (n + rm.slots) 46 [(0, .ref x0), (1, .long x1), (3, .int x3), (4, .int x4)] (r.toList ++ [.ref x0])) : gg X M k n 26 [(0, .ref x0), (1, .long x1), (3, .int x3), (4, .int x4)] [] := by
  refine g_aload_n ok d_Mo_append_26 rfl (j := 0) rfl ?_
  refine g_lload_n ok d_Mo_append_27 rfl (j := 1) rfl ?_
  refine g_bipush (v := 8) ok d_Mo_append_28 (by decide) ?_
  refine g_iload ok d_Mo_append_30 (j := 3) rfl ?_
  refine g_imul ok d_Mo_append_32 ?_
  refine g_lshr ok d_Mo_append_33 ?_
  refine g_l2i ok d_Mo_append_34 ?_
  refine g_sipush (v := 255) ok d_Mo_append_35 (by decide) ?_
  refine g_iand ok d_Mo_append_38 ?_
  refine g_bipush (v := 32) ok d_Mo_append_39 (by decide) ?_
  refine g_bipush (v := 126) ok d_Mo_append_41 (by decide) ?_
  exact gc_Mo_94 (As := [.int ((((x1 >>> (((8 * x4) : Int32).toInt64 &&& 63)) : Int64).toInt32) &&& 255), .int 32, .int 126]) (rest := [.ref x0]) ok d_Mo_append_43 hm rfl rfl (Nat.le_of_ble_eq_true rfl) hR hlen kk
theorem k_Mo_append_46 {X : gC} {M : List mC} {k n : Nat} {x0 : Nat} {x1 : Int64} {x3 : Int32} {x4 : Int32} {s1 : Int32} {fs2 : List Value} (ok : gO X c_Mo_append "TripleStoreModel" w_Mo_append) (h1 : M[x0]? = some (.inr (10, fs2))) {rm : Room} {post : Option Value → List mC → Prop} (hm : mm_ (gLa X) y_Mo_good w_Mo_good rm [.ref x0, .int s1, .int 1] M post) (hR : gF X rm 3 k n) (hlen : ∀ r M', post r M' → M'.length = M.length) (kk : ∀ r M', post r M' → gg X M' (k + rm.cells) (n + rm.slots) 50 [(0, .ref x0), (1, .long x1), (3, .int x3), (4, .int x4)] (r.toList ++ [])) : gg X M k n 46 [(0, .ref x0), (1, .long x1), (3, .int x3), (4, .int x4)] [.int s1, .ref x0] := by
  refine g_iconst (v := 1) ok d_Mo_append_46 (by decide) ?_
  exact gc_Mo_109 (As := [.int s1, .int 1]) (rest := []) ok d_Mo_append_47 hm rfl rfl (Nat.le_of_ble_eq_true rfl) hR h1 hlen kk
theorem k_Mo_append_50 {X : gC} {M : List mC} {k n : Nat} {x0 : Nat} {x1 : Int64} {x3 : Int32} {x4 : Int32} {s0 : Int32} (ok : gO X c_Mo_append "TripleStoreModel" w_Mo_append)  (kt : ¬ s0 = 0 → gg X M k n 55 [(0, .ref x0), (1, .long x1), (3, .int x3), (4, .int x4)] []) (kf : s0 = 0 → gg X M k n 53 [] []) : gg X M k n 50 [(0, .ref x0), (1, .long x1), (3, .int x3), (4, .int x4)] [.int s0] := by
  exact g_if_ne (tgt := 55) ok d_Mo_append_50 (by decide) (fun z => (kt z)) (fun z => (gg_keep [] (kf z)))
theorem k_Mo_append_53 {X : gC} {M : List mC} {k n : Nat}  (ok : gO X c_Mo_append "TripleStoreModel" w_Mo_append)  {l9 : Launch} {rm : Room} {M0 : List mC} {post : Option Value → List mC → Prop} (E : gE X l9 y_Mo_append rm 5 (some .int) M0 post) (hp : post (some (.int 0)) M) (hk : k ≤ rm.cells) (hn : n ≤ rm.slots) : gg X M k n 53 [] [] := by
  refine g_iconst (v := 0) ok d_Mo_append_53 (by decide) ?_
  exact g_iret ok E d_Mo_append_54 hp hk hn
theorem k_Mo_append_55 {X : gC} {M : List mC} {k n : Nat} {x0 : Nat} {x1 : Int64} {x3 : Int32} {x4 : Int32} (ok : gO X c_Mo_append "TripleStoreModel" w_Mo_append) (hl : gL X = 5)  (kk : gg X M k n 20 [(0, .ref x0), (1, .long x1), (3, .int x3), (4, .int (x4 + 1))] []) : gg X M k n 55 [(0, .ref x0), (1, .long x1), (3, .int x3), (4, .int x4)] [] := by
  refine g_iinc (L' := [(0, .ref x0), (1, .long x1), (3, .int x3), (4, .int (x4 + 1))]) (v := (x4 + 1)) ok d_Mo_append_55 (j := 3) rfl rfl (by rw [hl]; decide) rfl ?_
  exact g_goto (tgt := 20) ok d_Mo_append_58 (by decide) kk
theorem k_Mo_append_61 {X : gC} {M : List mC} {k n : Nat} {x0 : Nat} {x1 : Int64} {x3 : Int32} {fs2 : List Value} {f3 : Int32} (ok : gO X c_Mo_append "TripleStoreModel" w_Mo_append) (h1 : M[x0]? = some (.inr (10, fs2))) (h4 : fs2[13]? = some (.int f3)) (kt : 160 < (f3 + x3) → gg X M k n 78 [(0, .ref x0), (1, .long x1), (3, .int x3)] [.ref x0]) (kf : ¬ 160 < (f3 + x3) → gg X M k n 74 [(0, .ref x0), (1, .long x1), (3, .int x3)] [.ref x0]) : gg X M k n 61 [(0, .ref x0), (1, .long x1), (3, .int x3)] [] := by
  refine g_aload_n ok d_Mo_append_61 rfl (j := 0) rfl ?_
  refine g_aload_n ok d_Mo_append_62 rfl (j := 0) rfl ?_
  refine gf_Mo_161 ok d_Mo_append_63 h1 h4 ?_
  refine g_iload_n ok d_Mo_append_66 rfl (j := 2) rfl ?_
  refine g_iadd ok d_Mo_append_67 ?_
  refine g_sipush (v := 160) ok d_Mo_append_68 (by decide) ?_
  exact g_icmp_gt (tgt := 78) ok d_Mo_append_71 (by decide) (fun z => (kt z)) (fun z => (kf z))
theorem k_Mo_append_74 {X : gC} {M : List mC} {k n : Nat} {x0 : Nat} {x1 : Int64} {x3 : Int32} (ok : gO X c_Mo_append "TripleStoreModel" w_Mo_append)  (kk : gg X M k n 79 [(0, .ref x0), (1, .long x1), (3, .int x3)] [.int 1, .ref x0]) : gg X M k n 74 [(0, .ref x0), (1, .long x1), (3, .int x3)] [.ref x0] := by
  refine g_iconst (v := 1) ok d_Mo_append_74 (by decide) ?_
  exact g_goto (tgt := 79) ok d_Mo_append_75 (by decide) kk
theorem k_Mo_append_78 {X : gC} {M : List mC} {k n : Nat} {x0 : Nat} {x1 : Int64} {x3 : Int32} (ok : gO X c_Mo_append "TripleStoreModel" w_Mo_append)  (kk : gg X M k n 79 [(0, .ref x0), (1, .long x1), (3, .int x3)] [.int 0, .ref x0]) : gg X M k n 78 [(0, .ref x0), (1, .long x1), (3, .int x3)] [.ref x0] := by
  refine g_iconst (v := 0) ok d_Mo_append_78 (by decide) ?_
  exact kk
theorem k_Mo_append_79 {X : gC} {M : List mC} {k n : Nat} {x0 : Nat} {x1 : Int64} {x3 : Int32} {s1 : Int32} {fs2 : List Value} (ok : gO X c_Mo_append "TripleStoreModel" w_Mo_append) (h1 : M[x0]? = some (.inr (10, fs2))) {rm : Room} {post : Option Value → List mC → Prop} (hm : mm_ (gLa X) y_Mo_good w_Mo_good rm [.ref x0, .int s1, .int 2] M post) (hR : gF X rm 3 k n) (hlen : ∀ r M', post r M' → M'.length = M.length) (kk : ∀ r M', post r M' → gg X M' (k + rm.cells) (n + rm.slots) 83 [(0, .ref x0), (1, .long x1), (3, .int x3)] (r.toList ++ [])) : gg X M k n 79 [(0, .ref x0), (1, .long x1), (3, .int x3)] [.int s1, .ref x0] := by
  refine g_iconst (v := 2) ok d_Mo_append_79 (by decide) ?_
  exact gc_Mo_109 (As := [.int s1, .int 2]) (rest := []) ok d_Mo_append_80 hm rfl rfl (Nat.le_of_ble_eq_true rfl) hR h1 hlen kk
theorem k_Mo_append_83 {X : gC} {M : List mC} {k n : Nat} {x0 : Nat} {x1 : Int64} {x3 : Int32} {s0 : Int32} (ok : gO X c_Mo_append "TripleStoreModel" w_Mo_append)  (kt : ¬ s0 = 0 → gg X M k n 88 [(0, .ref x0), (1, .long x1), (3, .int x3)] []) (kf : s0 = 0 → gg X M k n 86 [] []) : gg X M k n 83 [(0, .ref x0), (1, .long x1), (3, .int x3)] [.int s0] := by
  exact g_if_ne (tgt := 88) ok d_Mo_append_83 (by decide) (fun z => (kt z)) (fun z => (gg_keep [] (kf z)))
theorem k_Mo_append_86 {X : gC} {M : List mC} {k n : Nat}  (ok : gO X c_Mo_append "TripleStoreModel" w_Mo_append)  {l9 : Launch} {rm : Room} {M0 : List mC} {post : Option Value → List mC → Prop} (E : gE X l9 y_Mo_append rm 5 (some .int) M0 post) (hp : post (some (.int 0)) M) (hk : k ≤ rm.cells) (hn : n ≤ rm.slots) : gg X M k n 86 [] [] := by
  refine g_iconst (v := 0) ok d_Mo_append_86 (by decide) ?_
  exact g_iret ok E d_Mo_append_87 hp hk hn
theorem k_Mo_append_88 {X : gC} {M : List mC} {k n : Nat} {x0 : Nat} {x1 : Int64} {x3 : Int32} (ok : gO X c_Mo_append "TripleStoreModel" w_Mo_append) (hl : gL X = 5)  (kk : gg X M k n 93 [(0, .ref x0), (1, .long x1), (4, .int (x3 - 1))] []) : gg X M k n 88 [(0, .ref x0), (1, .long x1), (3, .int x3)] [] := by
  refine g_iload_n ok d_Mo_append_88 rfl (j := 2) rfl ?_
  refine g_iconst (v := 1) ok d_Mo_append_89 (by decide) ?_
  refine g_isub ok d_Mo_append_90 ?_
  refine g_istore (L' := [(0, .ref x0), (1, .long x1), (3, .int x3), (4, .int (x3 - 1))]) ok d_Mo_append_91 (by rw [hl]; decide) rfl ?_
  exact (gg_keep [0, 1, 4] kk)
theorem k_Mo_append_93 {X : gC} {M : List mC} {k n : Nat} {x0 : Nat} {x1 : Int64} {x4 : Int32} (ok : gO X c_Mo_append "TripleStoreModel" w_Mo_append)  (kt : x4 < 0 → gg X M k n 135 [(0, .ref x0)] []) (kf : ¬ x4 < 0 → gg X M k n 98 [(0, .ref x0), (1, .long x1), (4, .int x4)] []) : gg X M k n 93 [(0, .ref x0), (1, .long x1), (4, .int x4)] [] := by
  refine g_iload ok d_Mo_append_93 (j := 2) rfl ?_
  exact g_if_lt (tgt := 135) ok d_Mo_append_95 (by decide) (fun z => (gg_keep [0] (kt z))) (fun z => (kf z))
theorem k_Mo_append_98 {X : gC} {M : List mC} {k n : Nat} {x0 : Nat} {x1 : Int64} {x4 : Int32} {fs2 : List Value} {f3 : Nat} {f5 : Int32} {g8 : Nat → Int32} {N9 : Nat} {M11 : List mC} {fs17 : List Value} {M19 : List mC} (ok : gO X c_Mo_append "TripleStoreModel" w_Mo_append) (hl : gL X = 5) (h1 : M[x0]? = some (.inr (10, fs2))) (h4 : fs2[12]? = some (.ref f3)) (h6 : fs2[13]? = some (.int f5)) (h7 : M[f3]? = some (.inl (0, N9, .inl g8))) (h10 : vp_in f5 N9) (h12 : M.set f3 (.inl (0, N9, .inl (upd g8 f5.toNatClampNeg ((((x1 >>> (((8 * x4) : Int32).toInt64 &&& 63)) : Int64).toInt32) &&& 255)))) = M11) (h16 : 59 ≤ fs2.length) (h18 : fs2.set 13 (.int (f5 + 1)) = fs17) (h20 : M11.set x0 (.inr (10, fs17)) = M19) (kk : gg X M19 k n 93 [(0, .ref x0), (1, .long x1), (4, .int (x4 + (-1)))] []) : gg X M k n 98 [(0, .ref x0), (1, .long x1), (4, .int x4)] [] := by
  refine g_aload_n ok d_Mo_append_98 rfl (j := 0) rfl ?_
  refine gf_Mo_27 ok d_Mo_append_99 h1 h4 ?_
  refine g_aload_n ok d_Mo_append_102 rfl (j := 0) rfl ?_
  refine gf_Mo_161 ok d_Mo_append_103 h1 h6 ?_
  refine g_lload_n ok d_Mo_append_106 rfl (j := 1) rfl ?_
  refine g_bipush (v := 8) ok d_Mo_append_107 (by decide) ?_
  refine g_iload ok d_Mo_append_109 (j := 2) rfl ?_
  refine g_imul ok d_Mo_append_111 ?_
  refine g_lshr ok d_Mo_append_112 ?_
  refine g_l2i ok d_Mo_append_113 ?_
  refine g_sipush (v := 255) ok d_Mo_append_114 (by decide) ?_
  refine g_iand ok d_Mo_append_117 ?_
  refine g_iast (t := 0) ok rfl d_Mo_append_118 h7 h10 ?_
  rw [h12]
  have h13 : M11[f3]? = some (.inl (0, N9, .inl (upd g8 f5.toNatClampNeg ((((x1 >>> (((8 * x4) : Int32).toInt64 &&& 63)) : Int64).toInt32) &&& 255)))) := by rw [← h12]; exact gs_eq h7
  refine g_aload_n ok d_Mo_append_119 rfl (j := 0) rfl ?_
  refine g_dup ok d_Mo_append_120 rfl ?_
  have h14 : M11[x0]? = some (.inr (10, fs2)) := by rw [← h12]; exact (gs_ne (ne_ao h7 h1)).trans h1
  refine gf_Mo_161 ok d_Mo_append_121 h14 h6 ?_
  refine g_iconst (v := 1) ok d_Mo_append_124 (by decide) ?_
  refine g_iadd ok d_Mo_append_125 ?_
  have h15 : 13 < fs2.length := Nat.lt_of_lt_of_le (by decide) h16
  refine pf_Mo_161 ok d_Mo_append_126 h14 h15 (fun _ => ⟨rfl, rfl⟩) ?_
  rw [h18]
  rw [h20]
  have h21 : M19[x0]? = some (.inr (10, fs17)) := by rw [← h20]; exact gs_eq h14
  have h22 : fs17[12]? = some (.ref f3) := by rw [← h18]; exact (List.getElem?_set_ne (by decide : 13 ≠ 12)).trans h4
  have h23 : fs17[13]? = some (.int (f5 + 1)) := by rw [← h18]; exact List.getElem?_set_self h15
  have h24 : 59 ≤ fs17.length := by rw [← h18, List.length_set]; exact h16
  refine g_iinc (L' := [(0, .ref x0), (1, .long x1), (4, .int (x4 + (-1)))]) (v := (x4 + (-1))) ok d_Mo_append_129 (j := 2) rfl rfl (by rw [hl]; decide) rfl ?_
  exact g_goto (tgt := 93) ok d_Mo_append_132 (by decide) kk
theorem k_Mo_append_135 {X : gC} {M : List mC} {k n : Nat} {x0 : Nat} {fs2 : List Value} {f3 : Int32} (ok : gO X c_Mo_append "TripleStoreModel" w_Mo_append) (h1 : M[x0]? = some (.inr (10, fs2))) (h4 : fs2[13]? = some (.int f3)) {l9 : Launch} {rm : Room} {M0 : List mC} {post : Option Value → List mC → Prop} (E : gE X l9 y_Mo_append rm 5 (some .int) M0 post) (hp : post (some (.int f3)) M) (hk : k ≤ rm.cells) (hn : n ≤ rm.slots) : gg X M k n 135 [(0, .ref x0)] [] := by
  refine g_aload_n ok d_Mo_append_135 rfl (j := 0) rfl ?_
  refine gf_Mo_161 ok d_Mo_append_136 h1 h4 ?_
  exact g_iret ok E d_Mo_append_139 hp hk hn
theorem k_Mo_isLetter_0 {X : gC} {M : List mC} {k n : Nat} {x0 : Int32} (ok : gO X c_Mo_isLetter "TripleStoreModel" w_Mo_isLetter)  {rm : Room} {post : Option Value → List mC → Prop} (hm : mm_ (gLa X) y_Mo_in w_Mo_in rm [.int x0, .int 97, .int 122] M post) (hR : gF X rm 3 k n) (hlen : ∀ r M', post r M' → M'.length = M.length) (kk : ∀ r M', post r M' → gg X M' (k + rm.cells) (n + rm.slots) 8 [] (r.toList ++ [])) : gg X M k n 0 [(0, .int x0)] [] := by
  refine g_iload_n ok d_Mo_isLetter_0 rfl (j := 0) rfl ?_
  refine g_bipush (v := 97) ok d_Mo_isLetter_1 (by decide) ?_
  refine g_bipush (v := 122) ok d_Mo_isLetter_3 (by decide) ?_
  exact gc_Mo_94 (As := [.int x0, .int 97, .int 122]) (rest := []) ok d_Mo_isLetter_5 hm rfl rfl (Nat.le_of_ble_eq_true rfl) hR hlen (fun r M' q => (gg_keep [] (kk r M' q)))
theorem k_Mo_isLetter_8 {X : gC} {M : List mC} {k n : Nat} {s0 : Int32} (ok : gO X c_Mo_isLetter "TripleStoreModel" w_Mo_isLetter)  {l9 : Launch} {rm : Room} {M0 : List mC} {post : Option Value → List mC → Prop} (E : gE X l9 y_Mo_isLetter rm 1 (some .boolean) M0 post) (hz : narrow .boolean (.int s0) = .int s0) (hp : post (some (.int s0)) M) (hk : k ≤ rm.cells) (hn : n ≤ rm.slots) : gg X M k n 8 [] [.int s0] := by
  exact g_zret ok E d_Mo_isLetter_8 hz hp hk hn
theorem k_Mo_isFigure_0 {X : gC} {M : List mC} {k n : Nat} {x0 : Int32} (ok : gO X c_Mo_isFigure "TripleStoreModel" w_Mo_isFigure)  {rm : Room} {post : Option Value → List mC → Prop} (hm : mm_ (gLa X) y_Mo_in w_Mo_in rm [.int x0, .int 48, .int 57] M post) (hR : gF X rm 3 k n) (hlen : ∀ r M', post r M' → M'.length = M.length) (kk : ∀ r M', post r M' → gg X M' (k + rm.cells) (n + rm.slots) 8 [] (r.toList ++ [])) : gg X M k n 0 [(0, .int x0)] [] := by
  refine g_iload_n ok d_Mo_isFigure_0 rfl (j := 0) rfl ?_
  refine g_bipush (v := 48) ok d_Mo_isFigure_1 (by decide) ?_
  refine g_bipush (v := 57) ok d_Mo_isFigure_3 (by decide) ?_
  exact gc_Mo_94 (As := [.int x0, .int 48, .int 57]) (rest := []) ok d_Mo_isFigure_5 hm rfl rfl (Nat.le_of_ble_eq_true rfl) hR hlen (fun r M' q => (gg_keep [] (kk r M' q)))
theorem k_Mo_isFigure_8 {X : gC} {M : List mC} {k n : Nat} {s0 : Int32} (ok : gO X c_Mo_isFigure "TripleStoreModel" w_Mo_isFigure)  {l9 : Launch} {rm : Room} {M0 : List mC} {post : Option Value → List mC → Prop} (E : gE X l9 y_Mo_isFigure rm 1 (some .boolean) M0 post) (hz : narrow .boolean (.int s0) = .int s0) (hp : post (some (.int s0)) M) (hk : k ≤ rm.cells) (hn : n ≤ rm.slots) : gg X M k n 8 [] [.int s0] := by
  exact g_zret ok E d_Mo_isFigure_8 hz hp hk hn
theorem k_Mo_letters_0 {X : gC} {M : List mC} {k n : Nat} {x0 : Nat} {x1 : Int32} {fs2 : List Value} {fs5 : List Value} {M7 : List mC} (ok : gO X c_Mo_letters "TripleStoreModel" w_Mo_letters) (hl : gL X = 3) (h1 : M[x0]? = some (.inr (10, fs2))) (h4 : 59 ≤ fs2.length) (h6 : fs2.set 16 (.long 0) = fs5) (h8 : M.set x0 (.inr (10, fs5)) = M7) (kk : gg X M7 k n 7 [(0, .ref x0), (1, .int x1), (2, .int x1)] []) : gg X M k n 0 [(0, .ref x0), (1, .int x1)] [] := by
  refine g_iload_n ok d_Mo_letters_0 rfl (j := 1) rfl ?_
  refine g_istore_n (L' := [(0, .ref x0), (1, .int x1), (2, .int x1)]) ok d_Mo_letters_1 rfl (by rw [hl]; decide) rfl ?_
  refine g_aload_n ok d_Mo_letters_2 rfl (j := 0) rfl ?_
  refine g_lconst (v := 0) ok d_Mo_letters_3 (by decide) ?_
  have h3 : 16 < fs2.length := Nat.lt_of_lt_of_le (by decide) h4
  refine pf_Mo_164 ok d_Mo_letters_4 h1 h3 (fun _ => ⟨rfl, rfl⟩) ?_
  rw [h6]
  rw [h8]
  have h9 : M7[x0]? = some (.inr (10, fs5)) := by rw [← h8]; exact gs_eq h1
  have h10 : fs5[16]? = some (.long 0) := by rw [← h6]; exact List.getElem?_set_self h3
  have h11 : 59 ≤ fs5.length := by rw [← h6, List.length_set]; exact h4
  exact kk
theorem k_Mo_letters_7 {X : gC} {M : List mC} {k n : Nat} {x0 : Nat} {x1 : Int32} {x2 : Int32} {fs2 : List Value} {f3 : Int32} (ok : gO X c_Mo_letters "TripleStoreModel" w_Mo_letters) (h1 : M[x0]? = some (.inr (10, fs2))) (h4 : fs2[13]? = some (.int f3)) (kt : f3 ≤ x2 → gg X M k n 60 [(2, .int x2)] []) (kf : ¬ f3 ≤ x2 → gg X M k n 15 [(0, .ref x0), (1, .int x1), (2, .int x2)] []) : gg X M k n 7 [(0, .ref x0), (1, .int x1), (2, .int x2)] [] := by
  refine g_iload_n ok d_Mo_letters_7 rfl (j := 2) rfl ?_
  refine g_aload_n ok d_Mo_letters_8 rfl (j := 0) rfl ?_
  refine gf_Mo_161 ok d_Mo_letters_9 h1 h4 ?_
  exact g_icmp_ge (tgt := 60) ok d_Mo_letters_12 (by decide) (fun z => (gg_keep [2] (kt z))) (fun z => (kf z))
theorem k_Mo_letters_15 {X : gC} {M : List mC} {k n : Nat} {x0 : Nat} {x1 : Int32} {x2 : Int32} {fs2 : List Value} {f3 : Nat} {g6 : Nat → Int32} {N7 : Nat} (ok : gO X c_Mo_letters "TripleStoreModel" w_Mo_letters) (h1 : M[x0]? = some (.inr (10, fs2))) (h4 : fs2[12]? = some (.ref f3)) (h5 : M[f3]? = some (.inl (0, N7, .inl g6))) (h8 : vp_in x2 N7) {rm : Room} {post : Option Value → List mC → Prop} (hm : mm_ (gLa X) y_Mo_isLetter w_Mo_isLetter rm [.int (g6 x2.toNatClampNeg)] M post) (hR : gF X rm 1 k n) (hlen : ∀ r M', post r M' → M'.length = M.length) (kk : ∀ r M', post r M' → gg X M' (k + rm.cells) (n + rm.slots) 24 [(0, .ref x0), (1, .int x1), (2, .int x2)] (r.toList ++ [])) : gg X M k n 15 [(0, .ref x0), (1, .int x1), (2, .int x2)] [] := by
  refine g_aload_n ok d_Mo_letters_15 rfl (j := 0) rfl ?_
  refine gf_Mo_27 ok d_Mo_letters_16 h1 h4 ?_
  refine g_iload_n ok d_Mo_letters_19 rfl (j := 2) rfl ?_
  refine g_iald (t := 0) ok rfl d_Mo_letters_20 h5 h8 ?_
  exact gc_Mo_168 (As := [.int (g6 x2.toNatClampNeg)]) (rest := []) ok d_Mo_letters_21 hm rfl rfl (Nat.le_of_ble_eq_true rfl) hR hlen kk
theorem k_Mo_letters_24 {X : gC} {M : List mC} {k n : Nat} {x0 : Nat} {x1 : Int32} {x2 : Int32} {s0 : Int32} (ok : gO X c_Mo_letters "TripleStoreModel" w_Mo_letters)  (kt : s0 = 0 → gg X M k n 60 [(2, .int x2)] []) (kf : ¬ s0 = 0 → gg X M k n 27 [(0, .ref x0), (1, .int x1), (2, .int x2)] []) : gg X M k n 24 [(0, .ref x0), (1, .int x1), (2, .int x2)] [.int s0] := by
  exact g_if_eq (tgt := 60) ok d_Mo_letters_24 (by decide) (fun z => (gg_keep [2] (kt z))) (fun z => (kf z))
theorem k_Mo_letters_27 {X : gC} {M : List mC} {k n : Nat} {x0 : Nat} {x1 : Int32} {x2 : Int32} (ok : gO X c_Mo_letters "TripleStoreModel" w_Mo_letters)  (kt : 8 ≤ (x2 - x1) → gg X M k n 54 [(0, .ref x0), (1, .int x1), (2, .int x2)] []) (kf : ¬ 8 ≤ (x2 - x1) → gg X M k n 35 [(0, .ref x0), (1, .int x1), (2, .int x2)] []) : gg X M k n 27 [(0, .ref x0), (1, .int x1), (2, .int x2)] [] := by
  refine g_iload_n ok d_Mo_letters_27 rfl (j := 2) rfl ?_
  refine g_iload_n ok d_Mo_letters_28 rfl (j := 1) rfl ?_
  refine g_isub ok d_Mo_letters_29 ?_
  refine g_bipush (v := 8) ok d_Mo_letters_30 (by decide) ?_
  exact g_icmp_ge (tgt := 54) ok d_Mo_letters_32 (by decide) (fun z => (kt z)) (fun z => (kf z))
theorem k_Mo_letters_35 {X : gC} {M : List mC} {k n : Nat} {x0 : Nat} {x1 : Int32} {x2 : Int32} {fs2 : List Value} {f3 : Int64} {f5 : Nat} {g8 : Nat → Int32} {N9 : Nat} {fs13 : List Value} {M15 : List mC} (ok : gO X c_Mo_letters "TripleStoreModel" w_Mo_letters) (h1 : M[x0]? = some (.inr (10, fs2))) (h4 : fs2[16]? = some (.long f3)) (h6 : fs2[12]? = some (.ref f5)) (h7 : M[f5]? = some (.inl (0, N9, .inl g8))) (h10 : vp_in x2 N9) (h12 : 59 ≤ fs2.length) (h14 : fs2.set 16 (.long ((f3 <<< ((8 : Int32).toInt64 &&& 63)) ||| (((g8 x2.toNatClampNeg) : Int32).toInt64))) = fs13) (h16 : M.set x0 (.inr (10, fs13)) = M15) (kk : gg X M15 k n 54 [(0, .ref x0), (1, .int x1), (2, .int x2)] []) : gg X M k n 35 [(0, .ref x0), (1, .int x1), (2, .int x2)] [] := by
  refine g_aload_n ok d_Mo_letters_35 rfl (j := 0) rfl ?_
  refine g_aload_n ok d_Mo_letters_36 rfl (j := 0) rfl ?_
  refine gf_Mo_164 ok d_Mo_letters_37 h1 h4 ?_
  refine g_bipush (v := 8) ok d_Mo_letters_40 (by decide) ?_
  refine g_lshl ok d_Mo_letters_42 ?_
  refine g_aload_n ok d_Mo_letters_43 rfl (j := 0) rfl ?_
  refine gf_Mo_27 ok d_Mo_letters_44 h1 h6 ?_
  refine g_iload_n ok d_Mo_letters_47 rfl (j := 2) rfl ?_
  refine g_iald (t := 0) ok rfl d_Mo_letters_48 h7 h10 ?_
  refine g_i2l ok d_Mo_letters_49 ?_
  refine g_lor ok d_Mo_letters_50 ?_
  have h11 : 16 < fs2.length := Nat.lt_of_lt_of_le (by decide) h12
  refine pf_Mo_164 ok d_Mo_letters_51 h1 h11 (fun _ => ⟨rfl, rfl⟩) ?_
  rw [h14]
  rw [h16]
  have h17 : M15[x0]? = some (.inr (10, fs13)) := by rw [← h16]; exact gs_eq h1
  have h18 : fs13[12]? = some (.ref f5) := by rw [← h14]; exact (List.getElem?_set_ne (by decide : 16 ≠ 12)).trans h6
  have h19 : fs13[16]? = some (.long ((f3 <<< ((8 : Int32).toInt64 &&& 63)) ||| (((g8 x2.toNatClampNeg) : Int32).toInt64))) := by rw [← h14]; exact List.getElem?_set_self h11
  have h20 : 59 ≤ fs13.length := by rw [← h14, List.length_set]; exact h12
  exact kk
theorem k_Mo_letters_54 {X : gC} {M : List mC} {k n : Nat} {x0 : Nat} {x1 : Int32} {x2 : Int32} (ok : gO X c_Mo_letters "TripleStoreModel" w_Mo_letters) (hl : gL X = 3)  (kk : gg X M k n 7 [(0, .ref x0), (1, .int x1), (2, .int (x2 + 1))] []) : gg X M k n 54 [(0, .ref x0), (1, .int x1), (2, .int x2)] [] := by
  refine g_iinc (L' := [(0, .ref x0), (1, .int x1), (2, .int (x2 + 1))]) (v := (x2 + 1)) ok d_Mo_letters_54 (j := 2) rfl rfl (by rw [hl]; decide) rfl ?_
  exact g_goto (tgt := 7) ok d_Mo_letters_57 (by decide) kk
theorem k_Mo_letters_60 {X : gC} {M : List mC} {k n : Nat} {x2 : Int32} (ok : gO X c_Mo_letters "TripleStoreModel" w_Mo_letters)  {l9 : Launch} {rm : Room} {M0 : List mC} {post : Option Value → List mC → Prop} (E : gE X l9 y_Mo_letters rm 3 (some .int) M0 post) (hp : post (some (.int x2)) M) (hk : k ≤ rm.cells) (hn : n ≤ rm.slots) : gg X M k n 60 [(2, .int x2)] [] := by
  refine g_iload_n ok d_Mo_letters_60 rfl (j := 0) rfl ?_
  exact g_iret ok E d_Mo_letters_61 hp hk hn
theorem k_Mo_next_0 {X : gC} {M : List mC} {k n : Nat} {x0 : Nat} {fs2 : List Value} {f3 : Int32} {fs7 : List Value} {M9 : List mC} (ok : gO X c_Mo_next "TripleStoreModel" w_Mo_next) (hl : gL X = 3) (h1 : M[x0]? = some (.inr (10, fs2))) (h4 : fs2[18]? = some (.int f3)) (h6 : 59 ≤ fs2.length) (h8 : fs2.set 19 (.int f3) = fs7) (h10 : M.set x0 (.inr (10, fs7)) = M9) (kk : gg X M9 k n 13 [(0, .ref x0), (1, .int f3)] []) : gg X M k n 0 [(0, .ref x0)] [] := by
  refine g_aload_n ok d_Mo_next_0 rfl (j := 0) rfl ?_
  refine g_aload_n ok d_Mo_next_1 rfl (j := 0) rfl ?_
  refine gf_Mo_172 ok d_Mo_next_2 h1 h4 ?_
  have h5 : 19 < fs2.length := Nat.lt_of_lt_of_le (by decide) h6
  refine pf_Mo_175 ok d_Mo_next_5 h1 h5 (fun _ => ⟨rfl, rfl⟩) ?_
  rw [h8]
  rw [h10]
  have h11 : M9[x0]? = some (.inr (10, fs7)) := by rw [← h10]; exact gs_eq h1
  have h12 : fs7[18]? = some (.int f3) := by rw [← h8]; exact (List.getElem?_set_ne (by decide : 19 ≠ 18)).trans h4
  have h13 : fs7[19]? = some (.int f3) := by rw [← h8]; exact List.getElem?_set_self h5
  have h14 : 59 ≤ fs7.length := by rw [← h8, List.length_set]; exact h6
  refine g_aload_n ok d_Mo_next_8 rfl (j := 0) rfl ?_
  refine gf_Mo_172 ok d_Mo_next_9 h11 h12 ?_
  refine g_istore_n (L' := [(0, .ref x0), (1, .int f3)]) ok d_Mo_next_12 rfl (by rw [hl]; decide) rfl ?_
  exact kk
theorem k_Mo_next_13 {X : gC} {M : List mC} {k n : Nat} {x0 : Nat} {x1 : Int32} {fs2 : List Value} {f3 : Int32} (ok : gO X c_Mo_next "TripleStoreModel" w_Mo_next) (h1 : M[x0]? = some (.inr (10, fs2))) (h4 : fs2[13]? = some (.int f3)) (kt : f3 ≤ x1 → gg X M k n 38 [(0, .ref x0), (1, .int x1)] []) (kf : ¬ f3 ≤ x1 → gg X M k n 21 [(0, .ref x0), (1, .int x1)] []) : gg X M k n 13 [(0, .ref x0), (1, .int x1)] [] := by
  refine g_iload_n ok d_Mo_next_13 rfl (j := 1) rfl ?_
  refine g_aload_n ok d_Mo_next_14 rfl (j := 0) rfl ?_
  refine gf_Mo_161 ok d_Mo_next_15 h1 h4 ?_
  exact g_icmp_ge (tgt := 38) ok d_Mo_next_18 (by decide) (fun z => (kt z)) (fun z => (kf z))
theorem k_Mo_next_21 {X : gC} {M : List mC} {k n : Nat} {x0 : Nat} {x1 : Int32} {fs2 : List Value} {f3 : Nat} {g6 : Nat → Int32} {N7 : Nat} (ok : gO X c_Mo_next "TripleStoreModel" w_Mo_next) (h1 : M[x0]? = some (.inr (10, fs2))) (h4 : fs2[12]? = some (.ref f3)) (h5 : M[f3]? = some (.inl (0, N7, .inl g6))) (h8 : vp_in x1 N7) (kt : ¬ (g6 x1.toNatClampNeg) = 32 → gg X M k n 38 [(0, .ref x0), (1, .int x1)] []) (kf : (g6 x1.toNatClampNeg) = 32 → gg X M k n 32 [(0, .ref x0), (1, .int x1)] []) : gg X M k n 21 [(0, .ref x0), (1, .int x1)] [] := by
  refine g_aload_n ok d_Mo_next_21 rfl (j := 0) rfl ?_
  refine gf_Mo_27 ok d_Mo_next_22 h1 h4 ?_
  refine g_iload_n ok d_Mo_next_25 rfl (j := 1) rfl ?_
  refine g_iald (t := 0) ok rfl d_Mo_next_26 h5 h8 ?_
  refine g_bipush (v := 32) ok d_Mo_next_27 (by decide) ?_
  exact g_icmp_ne (tgt := 38) ok d_Mo_next_29 (by decide) (fun z => (kt z)) (fun z => (kf z))
theorem k_Mo_next_32 {X : gC} {M : List mC} {k n : Nat} {x0 : Nat} {x1 : Int32} (ok : gO X c_Mo_next "TripleStoreModel" w_Mo_next) (hl : gL X = 3)  (kk : gg X M k n 13 [(0, .ref x0), (1, .int (x1 + 1))] []) : gg X M k n 32 [(0, .ref x0), (1, .int x1)] [] := by
  refine g_iinc (L' := [(0, .ref x0), (1, .int (x1 + 1))]) (v := (x1 + 1)) ok d_Mo_next_32 (j := 1) rfl rfl (by rw [hl]; decide) rfl ?_
  exact g_goto (tgt := 13) ok d_Mo_next_35 (by decide) kk
theorem k_Mo_next_38 {X : gC} {M : List mC} {k n : Nat} {x0 : Nat} {x1 : Int32} {fs2 : List Value} {fs5 : List Value} {M7 : List mC} {fs13 : List Value} {M15 : List mC} {f21 : Int32} (ok : gO X c_Mo_next "TripleStoreModel" w_Mo_next) (h1 : M[x0]? = some (.inr (10, fs2))) (h4 : 59 ≤ fs2.length) (h6 : fs2.set 17 (.int x1) = fs5) (h8 : M.set x0 (.inr (10, fs5)) = M7) (h14 : fs5.set 15 (.int 0) = fs13) (h16 : M7.set x0 (.inr (10, fs13)) = M15) (h22 : fs2[13]? = some (.int f21)) (kt : ¬ x1 = f21 → gg X M15 k n 57 [(0, .ref x0), (1, .int x1)] []) (kf : x1 = f21 → gg X M15 k n 56 [] []) : gg X M k n 38 [(0, .ref x0), (1, .int x1)] [] := by
  refine g_aload_n ok d_Mo_next_38 rfl (j := 0) rfl ?_
  refine g_iload_n ok d_Mo_next_39 rfl (j := 1) rfl ?_
  have h3 : 17 < fs2.length := Nat.lt_of_lt_of_le (by decide) h4
  refine pf_Mo_178 ok d_Mo_next_40 h1 h3 (fun _ => ⟨rfl, rfl⟩) ?_
  rw [h6]
  rw [h8]
  have h9 : M7[x0]? = some (.inr (10, fs5)) := by rw [← h8]; exact gs_eq h1
  have h10 : fs5[17]? = some (.int x1) := by rw [← h6]; exact List.getElem?_set_self h3
  have h11 : 59 ≤ fs5.length := by rw [← h6, List.length_set]; exact h4
  refine g_aload_n ok d_Mo_next_43 rfl (j := 0) rfl ?_
  refine g_iconst (v := 0) ok d_Mo_next_44 (by decide) ?_
  have h12 : 15 < fs5.length := Nat.lt_of_lt_of_le (by decide) h11
  refine pf_Mo_181 ok d_Mo_next_45 h9 h12 (fun _ => ⟨rfl, rfl⟩) ?_
  rw [h14]
  rw [h16]
  have h17 : M15[x0]? = some (.inr (10, fs13)) := by rw [← h16]; exact gs_eq h9
  have h18 : fs13[17]? = some (.int x1) := by rw [← h14]; exact (List.getElem?_set_ne (by decide : 15 ≠ 17)).trans h10
  have h19 : fs13[15]? = some (.int 0) := by rw [← h14]; exact List.getElem?_set_self h12
  have h20 : 59 ≤ fs13.length := by rw [← h14, List.length_set]; exact h11
  refine g_iload_n ok d_Mo_next_48 rfl (j := 1) rfl ?_
  refine g_aload_n ok d_Mo_next_49 rfl (j := 0) rfl ?_
  have h23 : fs5[13]? = some (.int f21) := by rw [← h6]; exact (List.getElem?_set_ne (by decide : 17 ≠ 13)).trans h22
  have h24 : fs13[13]? = some (.int f21) := by rw [← h14]; exact (List.getElem?_set_ne (by decide : 15 ≠ 13)).trans h23
  refine gf_Mo_161 ok d_Mo_next_50 h17 h24 ?_
  exact g_icmp_ne (tgt := 57) ok d_Mo_next_53 (by decide) (fun z => (kt z)) (fun z => (gg_keep [] (kf z)))
theorem k_Mo_next_56 {X : gC} {M : List mC} {k n : Nat}  (ok : gO X c_Mo_next "TripleStoreModel" w_Mo_next)  {l9 : Launch} {rm : Room} {M0 : List mC} {post : Option Value → List mC → Prop} (E : gE X l9 y_Mo_next rm 3 none M0 post) (hp : post (none) M) (hk : k ≤ rm.cells) (hn : n ≤ rm.slots) : gg X M k n 56 [] [] := by
  exact g_vret ok E d_Mo_next_56 hp hk hn
theorem k_Mo_next_57 {X : gC} {M : List mC} {k n : Nat} {x0 : Nat} {x1 : Int32} {fs2 : List Value} {f3 : Nat} {g6 : Nat → Int32} {N7 : Nat} {fs11 : List Value} {M13 : List mC} (ok : gO X c_Mo_next "TripleStoreModel" w_Mo_next) (hl : gL X = 3) (h1 : M[x0]? = some (.inr (10, fs2))) (h4 : fs2[12]? = some (.ref f3)) (h5 : M[f3]? = some (.inl (0, N7, .inl g6))) (h8 : vp_in x1 N7) (h10 : 59 ≤ fs2.length) (h12 : fs2.set 18 (.int (x1 + 1)) = fs11) (h14 : M.set x0 (.inr (10, fs11)) = M13) {rm : Room} {post : Option Value → List mC → Prop} (hm : mm_ (gLa X) y_Mo_isLetter w_Mo_isLetter rm [.int (g6 x1.toNatClampNeg)] M13 post) (hR : gF X rm 1 k n) (hlen : ∀ r M', post r M' → M'.length = M13.length) (kk : ∀ r M', post r M' → gg X M' (k + rm.cells) (n + rm.slots) 75 [(0, .ref x0), (1, .int x1), (2, .int (g6 x1.toNatClampNeg))] (r.toList ++ [])) : gg X M k n 57 [(0, .ref x0), (1, .int x1)] [] := by
  refine g_aload_n ok d_Mo_next_57 rfl (j := 0) rfl ?_
  refine gf_Mo_27 ok d_Mo_next_58 h1 h4 ?_
  refine g_iload_n ok d_Mo_next_61 rfl (j := 1) rfl ?_
  refine g_iald (t := 0) ok rfl d_Mo_next_62 h5 h8 ?_
  refine g_istore_n (L' := [(0, .ref x0), (1, .int x1), (2, .int (g6 x1.toNatClampNeg))]) ok d_Mo_next_63 rfl (by rw [hl]; decide) rfl ?_
  refine g_aload_n ok d_Mo_next_64 rfl (j := 0) rfl ?_
  refine g_iload_n ok d_Mo_next_65 rfl (j := 1) rfl ?_
  refine g_iconst (v := 1) ok d_Mo_next_66 (by decide) ?_
  refine g_iadd ok d_Mo_next_67 ?_
  have h9 : 18 < fs2.length := Nat.lt_of_lt_of_le (by decide) h10
  refine pf_Mo_172 ok d_Mo_next_68 h1 h9 (fun _ => ⟨rfl, rfl⟩) ?_
  rw [h12]
  rw [h14]
  have h15 : M13[x0]? = some (.inr (10, fs11)) := by rw [← h14]; exact gs_eq h1
  have h16 : fs11[12]? = some (.ref f3) := by rw [← h12]; exact (List.getElem?_set_ne (by decide : 18 ≠ 12)).trans h4
  have h17 : fs11[18]? = some (.int (x1 + 1)) := by rw [← h12]; exact List.getElem?_set_self h9
  have h18 : 59 ≤ fs11.length := by rw [← h12, List.length_set]; exact h10
  refine g_iload_n ok d_Mo_next_71 rfl (j := 2) rfl ?_
  exact gc_Mo_168 (As := [.int (g6 x1.toNatClampNeg)]) (rest := []) ok d_Mo_next_72 hm rfl rfl (Nat.le_of_ble_eq_true rfl) hR hlen kk
theorem k_Mo_next_75 {X : gC} {M : List mC} {k n : Nat} {x0 : Nat} {x1 : Int32} {x2 : Int32} {s0 : Int32} (ok : gO X c_Mo_next "TripleStoreModel" w_Mo_next)  (kt : s0 = 0 → gg X M k n 110 [(0, .ref x0), (1, .int x1), (2, .int x2)] []) (kf : ¬ s0 = 0 → gg X M k n 78 [(0, .ref x0), (1, .int x1)] []) : gg X M k n 75 [(0, .ref x0), (1, .int x1), (2, .int x2)] [.int s0] := by
  exact g_if_eq (tgt := 110) ok d_Mo_next_75 (by decide) (fun z => (kt z)) (fun z => (gg_keep [0, 1] (kf z)))
theorem k_Mo_next_78 {X : gC} {M : List mC} {k n : Nat} {x0 : Nat} {x1 : Int32} {fs2 : List Value} (ok : gO X c_Mo_next "TripleStoreModel" w_Mo_next) (h1 : M[x0]? = some (.inr (10, fs2))) {rm : Room} {post : Option Value → List mC → Prop} (hm : mm_ (gLa X) y_Mo_letters w_Mo_letters rm [.ref x0, .int x1] M post) (hR : gF X rm 3 k n) (hlen : ∀ r M', post r M' → M'.length = M.length) (kk : ∀ r M', post r M' → gg X M' (k + rm.cells) (n + rm.slots) 84 [(0, .ref x0), (1, .int x1)] (r.toList ++ [.ref x0])) : gg X M k n 78 [(0, .ref x0), (1, .int x1)] [] := by
  refine g_aload_n ok d_Mo_next_78 rfl (j := 0) rfl ?_
  refine g_aload_n ok d_Mo_next_79 rfl (j := 0) rfl ?_
  refine g_iload_n ok d_Mo_next_80 rfl (j := 1) rfl ?_
  exact gc_Mo_184 (As := [.int x1]) (rest := [.ref x0]) ok d_Mo_next_81 hm rfl rfl (Nat.le_of_ble_eq_true rfl) hR h1 hlen kk
theorem k_Mo_next_84 {X : gC} {M : List mC} {k n : Nat} {x0 : Nat} {x1 : Int32} {s1 : Int32} {fs2 : List Value} {fs5 : List Value} {M7 : List mC} (ok : gO X c_Mo_next "TripleStoreModel" w_Mo_next) (h1 : M[x0]? = some (.inr (10, fs2))) (h4 : 59 ≤ fs2.length) (h6 : fs2.set 18 (.int s1) = fs5) (h8 : M.set x0 (.inr (10, fs5)) = M7) (kt : (s1 - x1) ≤ 8 → gg X M7 k n 103 [(0, .ref x0)] [.ref x0]) (kf : ¬ (s1 - x1) ≤ 8 → gg X M7 k n 99 [(0, .ref x0)] [.ref x0]) : gg X M k n 84 [(0, .ref x0), (1, .int x1)] [.int s1, .ref x0] := by
  have h3 : 18 < fs2.length := Nat.lt_of_lt_of_le (by decide) h4
  refine pf_Mo_172 ok d_Mo_next_84 h1 h3 (fun _ => ⟨rfl, rfl⟩) ?_
  rw [h6]
  rw [h8]
  have h9 : M7[x0]? = some (.inr (10, fs5)) := by rw [← h8]; exact gs_eq h1
  have h10 : fs5[18]? = some (.int s1) := by rw [← h6]; exact List.getElem?_set_self h3
  have h11 : 59 ≤ fs5.length := by rw [← h6, List.length_set]; exact h4
  refine g_aload_n ok d_Mo_next_87 rfl (j := 0) rfl ?_
  refine g_aload_n ok d_Mo_next_88 rfl (j := 0) rfl ?_
  refine gf_Mo_172 ok d_Mo_next_89 h9 h10 ?_
  refine g_iload_n ok d_Mo_next_92 rfl (j := 1) rfl ?_
  refine g_isub ok d_Mo_next_93 ?_
  refine g_bipush (v := 8) ok d_Mo_next_94 (by decide) ?_
  exact g_icmp_le (tgt := 103) ok d_Mo_next_96 (by decide) (fun z => (gg_keep [0] (kt z))) (fun z => (gg_keep [0] (kf z)))
theorem k_Mo_next_99 {X : gC} {M : List mC} {k n : Nat} {x0 : Nat} (ok : gO X c_Mo_next "TripleStoreModel" w_Mo_next)  (kk : gg X M k n 104 [(0, .ref x0)] [.int 5, .ref x0]) : gg X M k n 99 [(0, .ref x0)] [.ref x0] := by
  refine g_iconst (v := 5) ok d_Mo_next_99 (by decide) ?_
  exact g_goto (tgt := 104) ok d_Mo_next_100 (by decide) kk
theorem k_Mo_next_103 {X : gC} {M : List mC} {k n : Nat} {x0 : Nat} (ok : gO X c_Mo_next "TripleStoreModel" w_Mo_next)  (kk : gg X M k n 104 [(0, .ref x0)] [.int 1, .ref x0]) : gg X M k n 103 [(0, .ref x0)] [.ref x0] := by
  refine g_iconst (v := 1) ok d_Mo_next_103 (by decide) ?_
  exact kk
theorem k_Mo_next_104 {X : gC} {M : List mC} {k n : Nat} {x0 : Nat} {s1 : Int32} {fs2 : List Value} {fs5 : List Value} {M7 : List mC} (ok : gO X c_Mo_next "TripleStoreModel" w_Mo_next) (h1 : M[x0]? = some (.inr (10, fs2))) (h4 : 59 ≤ fs2.length) (h6 : fs2.set 15 (.int s1) = fs5) (h8 : M.set x0 (.inr (10, fs5)) = M7) (kk : gg X M7 k n 315 [] []) : gg X M k n 104 [(0, .ref x0)] [.int s1, .ref x0] := by
  have h3 : 15 < fs2.length := Nat.lt_of_lt_of_le (by decide) h4
  refine pf_Mo_181 ok d_Mo_next_104 h1 h3 (fun _ => ⟨rfl, rfl⟩) ?_
  rw [h6]
  rw [h8]
  have h9 : M7[x0]? = some (.inr (10, fs5)) := by rw [← h8]; exact gs_eq h1
  have h10 : fs5[15]? = some (.int s1) := by rw [← h6]; exact List.getElem?_set_self h3
  have h11 : 59 ≤ fs5.length := by rw [← h6, List.length_set]; exact h4
  exact g_goto (tgt := 315) ok d_Mo_next_107 (by decide) (gg_keep [] kk)
theorem k_Mo_next_110 {X : gC} {M : List mC} {k n : Nat} {x0 : Nat} {x1 : Int32} {x2 : Int32} (ok : gO X c_Mo_next "TripleStoreModel" w_Mo_next)  {rm : Room} {post : Option Value → List mC → Prop} (hm : mm_ (gLa X) y_Mo_isFigure w_Mo_isFigure rm [.int x2] M post) (hR : gF X rm 1 k n) (hlen : ∀ r M', post r M' → M'.length = M.length) (kk : ∀ r M', post r M' → gg X M' (k + rm.cells) (n + rm.slots) 114 [(0, .ref x0), (1, .int x1), (2, .int x2)] (r.toList ++ [])) : gg X M k n 110 [(0, .ref x0), (1, .int x1), (2, .int x2)] [] := by
  refine g_iload_n ok d_Mo_next_110 rfl (j := 2) rfl ?_
  exact gc_Mo_188 (As := [.int x2]) (rest := []) ok d_Mo_next_111 hm rfl rfl (Nat.le_of_ble_eq_true rfl) hR hlen kk
theorem k_Mo_next_114 {X : gC} {M : List mC} {k n : Nat} {x0 : Nat} {x1 : Int32} {x2 : Int32} {s0 : Int32} (ok : gO X c_Mo_next "TripleStoreModel" w_Mo_next)  (kt : s0 = 0 → gg X M k n 212 [(0, .ref x0), (1, .int x1), (2, .int x2)] []) (kf : ¬ s0 = 0 → gg X M k n 117 [(0, .ref x0), (1, .int x1)] []) : gg X M k n 114 [(0, .ref x0), (1, .int x1), (2, .int x2)] [.int s0] := by
  exact g_if_eq (tgt := 212) ok d_Mo_next_114 (by decide) (fun z => (kt z)) (fun z => (gg_keep [0, 1] (kf z)))
theorem k_Mo_next_117 {X : gC} {M : List mC} {k n : Nat} {x0 : Nat} {x1 : Int32} {fs2 : List Value} {fs5 : List Value} {M7 : List mC} (ok : gO X c_Mo_next "TripleStoreModel" w_Mo_next) (h1 : M[x0]? = some (.inr (10, fs2))) (h4 : 59 ≤ fs2.length) (h6 : fs2.set 16 (.long 0) = fs5) (h8 : M.set x0 (.inr (10, fs5)) = M7) (kk : gg X M7 k n 122 [(0, .ref x0), (1, .int x1)] []) : gg X M k n 117 [(0, .ref x0), (1, .int x1)] [] := by
  refine g_aload_n ok d_Mo_next_117 rfl (j := 0) rfl ?_
  refine g_lconst (v := 0) ok d_Mo_next_118 (by decide) ?_
  have h3 : 16 < fs2.length := Nat.lt_of_lt_of_le (by decide) h4
  refine pf_Mo_164 ok d_Mo_next_119 h1 h3 (fun _ => ⟨rfl, rfl⟩) ?_
  rw [h6]
  rw [h8]
  have h9 : M7[x0]? = some (.inr (10, fs5)) := by rw [← h8]; exact gs_eq h1
  have h10 : fs5[16]? = some (.long 0) := by rw [← h6]; exact List.getElem?_set_self h3
  have h11 : 59 ≤ fs5.length := by rw [← h6, List.length_set]; exact h4
  exact kk
theorem k_Mo_next_122 {X : gC} {M : List mC} {k n : Nat} {x0 : Nat} {x1 : Int32} {fs2 : List Value} {f3 : Int32} (ok : gO X c_Mo_next "TripleStoreModel" w_Mo_next) (h1 : M[x0]? = some (.inr (10, fs2))) (h4 : fs2[13]? = some (.int f3)) (kt : f3 ≤ x1 → gg X M k n 182 [(0, .ref x0), (1, .int x1)] []) (kf : ¬ f3 ≤ x1 → gg X M k n 130 [(0, .ref x0), (1, .int x1)] []) : gg X M k n 122 [(0, .ref x0), (1, .int x1)] [] := by
  refine g_iload_n ok d_Mo_next_122 rfl (j := 1) rfl ?_
  refine g_aload_n ok d_Mo_next_123 rfl (j := 0) rfl ?_
  refine gf_Mo_161 ok d_Mo_next_124 h1 h4 ?_
  exact g_icmp_ge (tgt := 182) ok d_Mo_next_127 (by decide) (fun z => (kt z)) (fun z => (kf z))
theorem k_Mo_next_130 {X : gC} {M : List mC} {k n : Nat} {x0 : Nat} {x1 : Int32} {fs2 : List Value} {f3 : Nat} {g6 : Nat → Int32} {N7 : Nat} (ok : gO X c_Mo_next "TripleStoreModel" w_Mo_next) (h1 : M[x0]? = some (.inr (10, fs2))) (h4 : fs2[12]? = some (.ref f3)) (h5 : M[f3]? = some (.inl (0, N7, .inl g6))) (h8 : vp_in x1 N7) {rm : Room} {post : Option Value → List mC → Prop} (hm : mm_ (gLa X) y_Mo_isFigure w_Mo_isFigure rm [.int (g6 x1.toNatClampNeg)] M post) (hR : gF X rm 1 k n) (hlen : ∀ r M', post r M' → M'.length = M.length) (kk : ∀ r M', post r M' → gg X M' (k + rm.cells) (n + rm.slots) 139 [(0, .ref x0), (1, .int x1)] (r.toList ++ [])) : gg X M k n 130 [(0, .ref x0), (1, .int x1)] [] := by
  refine g_aload_n ok d_Mo_next_130 rfl (j := 0) rfl ?_
  refine gf_Mo_27 ok d_Mo_next_131 h1 h4 ?_
  refine g_iload_n ok d_Mo_next_134 rfl (j := 1) rfl ?_
  refine g_iald (t := 0) ok rfl d_Mo_next_135 h5 h8 ?_
  exact gc_Mo_188 (As := [.int (g6 x1.toNatClampNeg)]) (rest := []) ok d_Mo_next_136 hm rfl rfl (Nat.le_of_ble_eq_true rfl) hR hlen kk
theorem k_Mo_next_139 {X : gC} {M : List mC} {k n : Nat} {x0 : Nat} {x1 : Int32} {s0 : Int32} (ok : gO X c_Mo_next "TripleStoreModel" w_Mo_next)  (kt : s0 = 0 → gg X M k n 182 [(0, .ref x0), (1, .int x1)] []) (kf : ¬ s0 = 0 → gg X M k n 142 [(0, .ref x0), (1, .int x1)] []) : gg X M k n 139 [(0, .ref x0), (1, .int x1)] [.int s0] := by
  exact g_if_eq (tgt := 182) ok d_Mo_next_139 (by decide) (fun z => (kt z)) (fun z => (kf z))
theorem k_Mo_next_142 {X : gC} {M : List mC} {k n : Nat} {x0 : Nat} {x1 : Int32} {fs2 : List Value} {f3 : Int32} (ok : gO X c_Mo_next "TripleStoreModel" w_Mo_next) (h1 : M[x0]? = some (.inr (10, fs2))) (h4 : fs2[17]? = some (.int f3)) (kt : 4 ≤ (x1 - f3) → gg X M k n 176 [(0, .ref x0), (1, .int x1)] []) (kf : ¬ 4 ≤ (x1 - f3) → gg X M k n 152 [(0, .ref x0), (1, .int x1)] []) : gg X M k n 142 [(0, .ref x0), (1, .int x1)] [] := by
  refine g_iload_n ok d_Mo_next_142 rfl (j := 1) rfl ?_
  refine g_aload_n ok d_Mo_next_143 rfl (j := 0) rfl ?_
  refine gf_Mo_178 ok d_Mo_next_144 h1 h4 ?_
  refine g_isub ok d_Mo_next_147 ?_
  refine g_iconst (v := 4) ok d_Mo_next_148 (by decide) ?_
  exact g_icmp_ge (tgt := 176) ok d_Mo_next_149 (by decide) (fun z => (kt z)) (fun z => (kf z))
theorem k_Mo_next_152 {X : gC} {M : List mC} {k n : Nat} {x0 : Nat} {x1 : Int32} {fs2 : List Value} {f3 : Int64} {f5 : Nat} {g8 : Nat → Int32} {N9 : Nat} {fs13 : List Value} {M15 : List mC} (ok : gO X c_Mo_next "TripleStoreModel" w_Mo_next) (h1 : M[x0]? = some (.inr (10, fs2))) (h4 : fs2[16]? = some (.long f3)) (h6 : fs2[12]? = some (.ref f5)) (h7 : M[f5]? = some (.inl (0, N9, .inl g8))) (h10 : vp_in x1 N9) (h12 : 59 ≤ fs2.length) (h14 : fs2.set 16 (.long (((10 * f3) + (((g8 x1.toNatClampNeg) : Int32).toInt64)) - 48)) = fs13) (h16 : M.set x0 (.inr (10, fs13)) = M15) (kk : gg X M15 k n 176 [(0, .ref x0), (1, .int x1)] []) : gg X M k n 152 [(0, .ref x0), (1, .int x1)] [] := by
  refine g_aload_n ok d_Mo_next_152 rfl (j := 0) rfl ?_
  refine g_ldc2 (v := 10) ok (List.mem_cons_of_mem _ (gT_at 1250 (by decide +kernel) (by decide +kernel))) d_Mo_next_153 ?_
  refine g_aload_n ok d_Mo_next_156 rfl (j := 0) rfl ?_
  refine gf_Mo_164 ok d_Mo_next_157 h1 h4 ?_
  refine g_lmul ok d_Mo_next_160 ?_
  refine g_aload_n ok d_Mo_next_161 rfl (j := 0) rfl ?_
  refine gf_Mo_27 ok d_Mo_next_162 h1 h6 ?_
  refine g_iload_n ok d_Mo_next_165 rfl (j := 1) rfl ?_
  refine g_iald (t := 0) ok rfl d_Mo_next_166 h7 h10 ?_
  refine g_i2l ok d_Mo_next_167 ?_
  refine g_ladd ok d_Mo_next_168 ?_
  refine g_ldc2 (v := 48) ok (List.mem_cons_of_mem _ (gT_at 1251 (by decide +kernel) (by decide +kernel))) d_Mo_next_169 ?_
  refine g_lsub ok d_Mo_next_172 ?_
  have h11 : 16 < fs2.length := Nat.lt_of_lt_of_le (by decide) h12
  refine pf_Mo_164 ok d_Mo_next_173 h1 h11 (fun _ => ⟨rfl, rfl⟩) ?_
  rw [h14]
  rw [h16]
  have h17 : M15[x0]? = some (.inr (10, fs13)) := by rw [← h16]; exact gs_eq h1
  have h18 : fs13[12]? = some (.ref f5) := by rw [← h14]; exact (List.getElem?_set_ne (by decide : 16 ≠ 12)).trans h6
  have h19 : fs13[16]? = some (.long (((10 * f3) + (((g8 x1.toNatClampNeg) : Int32).toInt64)) - 48)) := by rw [← h14]; exact List.getElem?_set_self h11
  have h20 : 59 ≤ fs13.length := by rw [← h14, List.length_set]; exact h12
  exact kk
theorem k_Mo_next_176 {X : gC} {M : List mC} {k n : Nat} {x0 : Nat} {x1 : Int32} (ok : gO X c_Mo_next "TripleStoreModel" w_Mo_next) (hl : gL X = 3)  (kk : gg X M k n 122 [(0, .ref x0), (1, .int (x1 + 1))] []) : gg X M k n 176 [(0, .ref x0), (1, .int x1)] [] := by
  refine g_iinc (L' := [(0, .ref x0), (1, .int (x1 + 1))]) (v := (x1 + 1)) ok d_Mo_next_176 (j := 1) rfl rfl (by rw [hl]; decide) rfl ?_
  exact g_goto (tgt := 122) ok d_Mo_next_179 (by decide) kk
theorem k_Mo_next_182 {X : gC} {M : List mC} {k n : Nat} {x0 : Nat} {x1 : Int32} {fs2 : List Value} {fs5 : List Value} {M7 : List mC} {f12 : Int32} (ok : gO X c_Mo_next "TripleStoreModel" w_Mo_next) (h1 : M[x0]? = some (.inr (10, fs2))) (h4 : 59 ≤ fs2.length) (h6 : fs2.set 18 (.int x1) = fs5) (h8 : M.set x0 (.inr (10, fs5)) = M7) (h13 : fs2[17]? = some (.int f12)) (kt : (x1 - f12) ≤ 4 → gg X M7 k n 205 [(0, .ref x0)] [.ref x0]) (kf : ¬ (x1 - f12) ≤ 4 → gg X M7 k n 201 [(0, .ref x0)] [.ref x0]) : gg X M k n 182 [(0, .ref x0), (1, .int x1)] [] := by
  refine g_aload_n ok d_Mo_next_182 rfl (j := 0) rfl ?_
  refine g_iload_n ok d_Mo_next_183 rfl (j := 1) rfl ?_
  have h3 : 18 < fs2.length := Nat.lt_of_lt_of_le (by decide) h4
  refine pf_Mo_172 ok d_Mo_next_184 h1 h3 (fun _ => ⟨rfl, rfl⟩) ?_
  rw [h6]
  rw [h8]
  have h9 : M7[x0]? = some (.inr (10, fs5)) := by rw [← h8]; exact gs_eq h1
  have h10 : fs5[18]? = some (.int x1) := by rw [← h6]; exact List.getElem?_set_self h3
  have h11 : 59 ≤ fs5.length := by rw [← h6, List.length_set]; exact h4
  refine g_aload_n ok d_Mo_next_187 rfl (j := 0) rfl ?_
  refine g_aload_n ok d_Mo_next_188 rfl (j := 0) rfl ?_
  refine gf_Mo_172 ok d_Mo_next_189 h9 h10 ?_
  refine g_aload_n ok d_Mo_next_192 rfl (j := 0) rfl ?_
  have h14 : fs5[17]? = some (.int f12) := by rw [← h6]; exact (List.getElem?_set_ne (by decide : 18 ≠ 17)).trans h13
  refine gf_Mo_178 ok d_Mo_next_193 h9 h14 ?_
  refine g_isub ok d_Mo_next_196 ?_
  refine g_iconst (v := 4) ok d_Mo_next_197 (by decide) ?_
  exact g_icmp_le (tgt := 205) ok d_Mo_next_198 (by decide) (fun z => (gg_keep [0] (kt z))) (fun z => (gg_keep [0] (kf z)))
theorem k_Mo_next_201 {X : gC} {M : List mC} {k n : Nat} {x0 : Nat} (ok : gO X c_Mo_next "TripleStoreModel" w_Mo_next)  (kk : gg X M k n 206 [(0, .ref x0)] [.int 5, .ref x0]) : gg X M k n 201 [(0, .ref x0)] [.ref x0] := by
  refine g_iconst (v := 5) ok d_Mo_next_201 (by decide) ?_
  exact g_goto (tgt := 206) ok d_Mo_next_202 (by decide) kk
theorem k_Mo_next_205 {X : gC} {M : List mC} {k n : Nat} {x0 : Nat} (ok : gO X c_Mo_next "TripleStoreModel" w_Mo_next)  (kk : gg X M k n 206 [(0, .ref x0)] [.int 2, .ref x0]) : gg X M k n 205 [(0, .ref x0)] [.ref x0] := by
  refine g_iconst (v := 2) ok d_Mo_next_205 (by decide) ?_
  exact kk
theorem k_Mo_next_206 {X : gC} {M : List mC} {k n : Nat} {x0 : Nat} {s1 : Int32} {fs2 : List Value} {fs5 : List Value} {M7 : List mC} (ok : gO X c_Mo_next "TripleStoreModel" w_Mo_next) (h1 : M[x0]? = some (.inr (10, fs2))) (h4 : 59 ≤ fs2.length) (h6 : fs2.set 15 (.int s1) = fs5) (h8 : M.set x0 (.inr (10, fs5)) = M7) (kk : gg X M7 k n 315 [] []) : gg X M k n 206 [(0, .ref x0)] [.int s1, .ref x0] := by
  have h3 : 15 < fs2.length := Nat.lt_of_lt_of_le (by decide) h4
  refine pf_Mo_181 ok d_Mo_next_206 h1 h3 (fun _ => ⟨rfl, rfl⟩) ?_
  rw [h6]
  rw [h8]
  have h9 : M7[x0]? = some (.inr (10, fs5)) := by rw [← h8]; exact gs_eq h1
  have h10 : fs5[15]? = some (.int s1) := by rw [← h6]; exact List.getElem?_set_self h3
  have h11 : 59 ≤ fs5.length := by rw [← h6, List.length_set]; exact h4
  exact g_goto (tgt := 315) ok d_Mo_next_209 (by decide) (gg_keep [] kk)
theorem k_Mo_next_212 {X : gC} {M : List mC} {k n : Nat} {x0 : Nat} {x1 : Int32} {x2 : Int32} (ok : gO X c_Mo_next "TripleStoreModel" w_Mo_next)  (kt : ¬ x2 = 63 → gg X M k n 258 [(0, .ref x0), (2, .int x2)] []) (kf : x2 = 63 → gg X M k n 218 [(0, .ref x0), (1, .int x1)] []) : gg X M k n 212 [(0, .ref x0), (1, .int x1), (2, .int x2)] [] := by
  refine g_iload_n ok d_Mo_next_212 rfl (j := 2) rfl ?_
  refine g_bipush (v := 63) ok d_Mo_next_213 (by decide) ?_
  exact g_icmp_ne (tgt := 258) ok d_Mo_next_215 (by decide) (fun z => (gg_keep [0, 2] (kt z))) (fun z => (gg_keep [0, 1] (kf z)))
theorem k_Mo_next_218 {X : gC} {M : List mC} {k n : Nat} {x0 : Nat} {x1 : Int32} {fs2 : List Value} (ok : gO X c_Mo_next "TripleStoreModel" w_Mo_next) (h1 : M[x0]? = some (.inr (10, fs2))) {rm : Room} {post : Option Value → List mC → Prop} (hm : mm_ (gLa X) y_Mo_letters w_Mo_letters rm [.ref x0, .int (x1 + 1)] M post) (hR : gF X rm 3 k n) (hlen : ∀ r M', post r M' → M'.length = M.length) (kk : ∀ r M', post r M' → gg X M' (k + rm.cells) (n + rm.slots) 226 [(0, .ref x0), (1, .int x1)] (r.toList ++ [.ref x0])) : gg X M k n 218 [(0, .ref x0), (1, .int x1)] [] := by
  refine g_aload_n ok d_Mo_next_218 rfl (j := 0) rfl ?_
  refine g_aload_n ok d_Mo_next_219 rfl (j := 0) rfl ?_
  refine g_iload_n ok d_Mo_next_220 rfl (j := 1) rfl ?_
  refine g_iconst (v := 1) ok d_Mo_next_221 (by decide) ?_
  refine g_iadd ok d_Mo_next_222 ?_
  exact gc_Mo_184 (As := [.int (x1 + 1)]) (rest := [.ref x0]) ok d_Mo_next_223 hm rfl rfl (Nat.le_of_ble_eq_true rfl) hR h1 hlen kk
theorem k_Mo_next_226 {X : gC} {M : List mC} {k n : Nat} {x0 : Nat} {x1 : Int32} {s1 : Int32} {fs2 : List Value} {fs5 : List Value} {M7 : List mC} (ok : gO X c_Mo_next "TripleStoreModel" w_Mo_next) (h1 : M[x0]? = some (.inr (10, fs2))) (h4 : 59 ≤ fs2.length) (h6 : fs2.set 18 (.int s1) = fs5) (h8 : M.set x0 (.inr (10, fs5)) = M7) {rm : Room} {post : Option Value → List mC → Prop} (hm : mm_ (gLa X) y_Mo_in w_Mo_in rm [.int ((s1 - x1) - 1), .int 1, .int 8] M7 post) (hR : gF X rm 3 k n) (hlen : ∀ r M', post r M' → M'.length = M7.length) (kk : ∀ r M', post r M' → gg X M' (k + rm.cells) (n + rm.slots) 244 [(0, .ref x0)] (r.toList ++ [.ref x0])) : gg X M k n 226 [(0, .ref x0), (1, .int x1)] [.int s1, .ref x0] := by
  have h3 : 18 < fs2.length := Nat.lt_of_lt_of_le (by decide) h4
  refine pf_Mo_172 ok d_Mo_next_226 h1 h3 (fun _ => ⟨rfl, rfl⟩) ?_
  rw [h6]
  rw [h8]
  have h9 : M7[x0]? = some (.inr (10, fs5)) := by rw [← h8]; exact gs_eq h1
  have h10 : fs5[18]? = some (.int s1) := by rw [← h6]; exact List.getElem?_set_self h3
  have h11 : 59 ≤ fs5.length := by rw [← h6, List.length_set]; exact h4
  refine g_aload_n ok d_Mo_next_229 rfl (j := 0) rfl ?_
  refine g_aload_n ok d_Mo_next_230 rfl (j := 0) rfl ?_
  refine gf_Mo_172 ok d_Mo_next_231 h9 h10 ?_
  refine g_iload_n ok d_Mo_next_234 rfl (j := 1) rfl ?_
  refine g_isub ok d_Mo_next_235 ?_
  refine g_iconst (v := 1) ok d_Mo_next_236 (by decide) ?_
  refine g_isub ok d_Mo_next_237 ?_
  refine g_iconst (v := 1) ok d_Mo_next_238 (by decide) ?_
  refine g_bipush (v := 8) ok d_Mo_next_239 (by decide) ?_
  exact gc_Mo_94 (As := [.int ((s1 - x1) - 1), .int 1, .int 8]) (rest := [.ref x0]) ok d_Mo_next_241 hm rfl rfl (Nat.le_of_ble_eq_true rfl) hR hlen (fun r M' q => (gg_keep [0] (kk r M' q)))
theorem k_Mo_next_244 {X : gC} {M : List mC} {k n : Nat} {x0 : Nat} {s1 : Int32} (ok : gO X c_Mo_next "TripleStoreModel" w_Mo_next)  (kt : s1 = 0 → gg X M k n 251 [(0, .ref x0)] [.ref x0]) (kf : ¬ s1 = 0 → gg X M k n 247 [(0, .ref x0)] [.ref x0]) : gg X M k n 244 [(0, .ref x0)] [.int s1, .ref x0] := by
  exact g_if_eq (tgt := 251) ok d_Mo_next_244 (by decide) (fun z => (kt z)) (fun z => (kf z))
theorem k_Mo_next_247 {X : gC} {M : List mC} {k n : Nat} {x0 : Nat} (ok : gO X c_Mo_next "TripleStoreModel" w_Mo_next)  (kk : gg X M k n 252 [(0, .ref x0)] [.int 3, .ref x0]) : gg X M k n 247 [(0, .ref x0)] [.ref x0] := by
  refine g_iconst (v := 3) ok d_Mo_next_247 (by decide) ?_
  exact g_goto (tgt := 252) ok d_Mo_next_248 (by decide) kk
theorem k_Mo_next_251 {X : gC} {M : List mC} {k n : Nat} {x0 : Nat} (ok : gO X c_Mo_next "TripleStoreModel" w_Mo_next)  (kk : gg X M k n 252 [(0, .ref x0)] [.int 5, .ref x0]) : gg X M k n 251 [(0, .ref x0)] [.ref x0] := by
  refine g_iconst (v := 5) ok d_Mo_next_251 (by decide) ?_
  exact kk
theorem k_Mo_next_252 {X : gC} {M : List mC} {k n : Nat} {x0 : Nat} {s1 : Int32} {fs2 : List Value} {fs5 : List Value} {M7 : List mC} (ok : gO X c_Mo_next "TripleStoreModel" w_Mo_next) (h1 : M[x0]? = some (.inr (10, fs2))) (h4 : 59 ≤ fs2.length) (h6 : fs2.set 15 (.int s1) = fs5) (h8 : M.set x0 (.inr (10, fs5)) = M7) (kk : gg X M7 k n 315 [] []) : gg X M k n 252 [(0, .ref x0)] [.int s1, .ref x0] := by
  have h3 : 15 < fs2.length := Nat.lt_of_lt_of_le (by decide) h4
  refine pf_Mo_181 ok d_Mo_next_252 h1 h3 (fun _ => ⟨rfl, rfl⟩) ?_
  rw [h6]
  rw [h8]
  have h9 : M7[x0]? = some (.inr (10, fs5)) := by rw [← h8]; exact gs_eq h1
  have h10 : fs5[15]? = some (.int s1) := by rw [← h6]; exact List.getElem?_set_self h3
  have h11 : 59 ≤ fs5.length := by rw [← h6, List.length_set]; exact h4
  exact g_goto (tgt := 315) ok d_Mo_next_255 (by decide) (gg_keep [] kk)
theorem k_Mo_next_258 {X : gC} {M : List mC} {k n : Nat} {x0 : Nat} {x2 : Int32} {fs2 : List Value} {fs5 : List Value} {M7 : List mC} (ok : gO X c_Mo_next "TripleStoreModel" w_Mo_next) (h1 : M[x0]? = some (.inr (10, fs2))) (h4 : 59 ≤ fs2.length) (h6 : fs2.set 16 (.long (x2.toInt64)) = fs5) (h8 : M.set x0 (.inr (10, fs5)) = M7) (kt : x2 = 123 → gg X M7 k n 307 [(0, .ref x0)] [.ref x0]) (kf : ¬ x2 = 123 → gg X M7 k n 271 [(0, .ref x0), (2, .int x2)] [.ref x0]) : gg X M k n 258 [(0, .ref x0), (2, .int x2)] [] := by
  refine g_aload_n ok d_Mo_next_258 rfl (j := 0) rfl ?_
  refine g_iload_n ok d_Mo_next_259 rfl (j := 1) rfl ?_
  refine g_i2l ok d_Mo_next_260 ?_
  have h3 : 16 < fs2.length := Nat.lt_of_lt_of_le (by decide) h4
  refine pf_Mo_164 ok d_Mo_next_261 h1 h3 (fun _ => ⟨rfl, rfl⟩) ?_
  rw [h6]
  rw [h8]
  have h9 : M7[x0]? = some (.inr (10, fs5)) := by rw [← h8]; exact gs_eq h1
  have h10 : fs5[16]? = some (.long (x2.toInt64)) := by rw [← h6]; exact List.getElem?_set_self h3
  have h11 : 59 ≤ fs5.length := by rw [← h6, List.length_set]; exact h4
  refine g_aload_n ok d_Mo_next_264 rfl (j := 0) rfl ?_
  refine g_iload_n ok d_Mo_next_265 rfl (j := 1) rfl ?_
  refine g_bipush (v := 123) ok d_Mo_next_266 (by decide) ?_
  exact g_icmp_eq (tgt := 307) ok d_Mo_next_268 (by decide) (fun z => (gg_keep [0] (kt z))) (fun z => (kf z))
theorem k_Mo_next_271 {X : gC} {M : List mC} {k n : Nat} {x0 : Nat} {x2 : Int32} (ok : gO X c_Mo_next "TripleStoreModel" w_Mo_next)  (kt : x2 = 125 → gg X M k n 307 [(0, .ref x0)] [.ref x0]) (kf : ¬ x2 = 125 → gg X M k n 277 [(0, .ref x0), (2, .int x2)] [.ref x0]) : gg X M k n 271 [(0, .ref x0), (2, .int x2)] [.ref x0] := by
  refine g_iload_n ok d_Mo_next_271 rfl (j := 1) rfl ?_
  refine g_bipush (v := 125) ok d_Mo_next_272 (by decide) ?_
  exact g_icmp_eq (tgt := 307) ok d_Mo_next_274 (by decide) (fun z => (gg_keep [0] (kt z))) (fun z => (kf z))
theorem k_Mo_next_277 {X : gC} {M : List mC} {k n : Nat} {x0 : Nat} {x2 : Int32} (ok : gO X c_Mo_next "TripleStoreModel" w_Mo_next)  (kt : x2 = 46 → gg X M k n 307 [(0, .ref x0)] [.ref x0]) (kf : ¬ x2 = 46 → gg X M k n 283 [(0, .ref x0), (2, .int x2)] [.ref x0]) : gg X M k n 277 [(0, .ref x0), (2, .int x2)] [.ref x0] := by
  refine g_iload_n ok d_Mo_next_277 rfl (j := 1) rfl ?_
  refine g_bipush (v := 46) ok d_Mo_next_278 (by decide) ?_
  exact g_icmp_eq (tgt := 307) ok d_Mo_next_280 (by decide) (fun z => (gg_keep [0] (kt z))) (fun z => (kf z))
theorem k_Mo_next_283 {X : gC} {M : List mC} {k n : Nat} {x0 : Nat} {x2 : Int32} (ok : gO X c_Mo_next "TripleStoreModel" w_Mo_next)  (kt : x2 = 61 → gg X M k n 307 [(0, .ref x0)] [.ref x0]) (kf : ¬ x2 = 61 → gg X M k n 289 [(0, .ref x0), (2, .int x2)] [.ref x0]) : gg X M k n 283 [(0, .ref x0), (2, .int x2)] [.ref x0] := by
  refine g_iload_n ok d_Mo_next_283 rfl (j := 1) rfl ?_
  refine g_bipush (v := 61) ok d_Mo_next_284 (by decide) ?_
  exact g_icmp_eq (tgt := 307) ok d_Mo_next_286 (by decide) (fun z => (gg_keep [0] (kt z))) (fun z => (kf z))
theorem k_Mo_next_289 {X : gC} {M : List mC} {k n : Nat} {x0 : Nat} {x2 : Int32} (ok : gO X c_Mo_next "TripleStoreModel" w_Mo_next)  (kt : x2 = 60 → gg X M k n 307 [(0, .ref x0)] [.ref x0]) (kf : ¬ x2 = 60 → gg X M k n 295 [(0, .ref x0), (2, .int x2)] [.ref x0]) : gg X M k n 289 [(0, .ref x0), (2, .int x2)] [.ref x0] := by
  refine g_iload_n ok d_Mo_next_289 rfl (j := 1) rfl ?_
  refine g_bipush (v := 60) ok d_Mo_next_290 (by decide) ?_
  exact g_icmp_eq (tgt := 307) ok d_Mo_next_292 (by decide) (fun z => (gg_keep [0] (kt z))) (fun z => (kf z))
theorem k_Mo_next_295 {X : gC} {M : List mC} {k n : Nat} {x0 : Nat} {x2 : Int32} (ok : gO X c_Mo_next "TripleStoreModel" w_Mo_next)  (kt : x2 = 62 → gg X M k n 307 [(0, .ref x0)] [.ref x0]) (kf : ¬ x2 = 62 → gg X M k n 301 [(0, .ref x0), (2, .int x2)] [.ref x0]) : gg X M k n 295 [(0, .ref x0), (2, .int x2)] [.ref x0] := by
  refine g_iload_n ok d_Mo_next_295 rfl (j := 1) rfl ?_
  refine g_bipush (v := 62) ok d_Mo_next_296 (by decide) ?_
  exact g_icmp_eq (tgt := 307) ok d_Mo_next_298 (by decide) (fun z => (gg_keep [0] (kt z))) (fun z => (kf z))
theorem k_Mo_next_301 {X : gC} {M : List mC} {k n : Nat} {x0 : Nat} {x2 : Int32} (ok : gO X c_Mo_next "TripleStoreModel" w_Mo_next)  (kt : ¬ x2 = 33 → gg X M k n 311 [(0, .ref x0)] [.ref x0]) (kf : x2 = 33 → gg X M k n 307 [(0, .ref x0)] [.ref x0]) : gg X M k n 301 [(0, .ref x0), (2, .int x2)] [.ref x0] := by
  refine g_iload_n ok d_Mo_next_301 rfl (j := 1) rfl ?_
  refine g_bipush (v := 33) ok d_Mo_next_302 (by decide) ?_
  exact g_icmp_ne (tgt := 311) ok d_Mo_next_304 (by decide) (fun z => (gg_keep [0] (kt z))) (fun z => (gg_keep [0] (kf z)))
theorem k_Mo_next_307 {X : gC} {M : List mC} {k n : Nat} {x0 : Nat} (ok : gO X c_Mo_next "TripleStoreModel" w_Mo_next)  (kk : gg X M k n 312 [(0, .ref x0)] [.int 4, .ref x0]) : gg X M k n 307 [(0, .ref x0)] [.ref x0] := by
  refine g_iconst (v := 4) ok d_Mo_next_307 (by decide) ?_
  exact g_goto (tgt := 312) ok d_Mo_next_308 (by decide) kk
theorem k_Mo_next_311 {X : gC} {M : List mC} {k n : Nat} {x0 : Nat} (ok : gO X c_Mo_next "TripleStoreModel" w_Mo_next)  (kk : gg X M k n 312 [(0, .ref x0)] [.int 5, .ref x0]) : gg X M k n 311 [(0, .ref x0)] [.ref x0] := by
  refine g_iconst (v := 5) ok d_Mo_next_311 (by decide) ?_
  exact kk
theorem k_Mo_next_312 {X : gC} {M : List mC} {k n : Nat} {x0 : Nat} {s1 : Int32} {fs2 : List Value} {fs5 : List Value} {M7 : List mC} (ok : gO X c_Mo_next "TripleStoreModel" w_Mo_next) (h1 : M[x0]? = some (.inr (10, fs2))) (h4 : 59 ≤ fs2.length) (h6 : fs2.set 15 (.int s1) = fs5) (h8 : M.set x0 (.inr (10, fs5)) = M7) (kk : gg X M7 k n 315 [] []) : gg X M k n 312 [(0, .ref x0)] [.int s1, .ref x0] := by
  have h3 : 15 < fs2.length := Nat.lt_of_lt_of_le (by decide) h4
  refine pf_Mo_181 ok d_Mo_next_312 h1 h3 (fun _ => ⟨rfl, rfl⟩) ?_
  rw [h6]
  rw [h8]
  have h9 : M7[x0]? = some (.inr (10, fs5)) := by rw [← h8]; exact gs_eq h1
  have h10 : fs5[15]? = some (.int s1) := by rw [← h6]; exact List.getElem?_set_self h3
  have h11 : 59 ≤ fs5.length := by rw [← h6, List.length_set]; exact h4
  exact (gg_keep [] kk)
theorem k_Mo_next_315 {X : gC} {M : List mC} {k n : Nat}  (ok : gO X c_Mo_next "TripleStoreModel" w_Mo_next)  {l9 : Launch} {rm : Room} {M0 : List mC} {post : Option Value → List mC → Prop} (E : gE X l9 y_Mo_next rm 3 none M0 post) (hp : post (none) M) (hk : k ≤ rm.cells) (hn : n ≤ rm.slots) : gg X M k n 315 [] [] := by
  exact g_vret ok E d_Mo_next_315 hp hk hn
theorem k_Mo_isKey_0 {X : gC} {M : List mC} {k n : Nat} {x0 : Nat} {x1 : Int32} {fs2 : List Value} {f3 : Int32} (ok : gO X c_Mo_isKey "TripleStoreModel" w_Mo_isKey) (h1 : M[x0]? = some (.inr (10, fs2))) (h4 : fs2[15]? = some (.int f3)) (kt : f3 = 1 → gg X M k n 10 [(0, .ref x0), (1, .int x1)] []) (kf : ¬ f3 = 1 → gg X M k n 8 [] []) : gg X M k n 0 [(0, .ref x0), (1, .int x1)] [] := by
  refine g_aload_n ok d_Mo_isKey_0 rfl (j := 0) rfl ?_
  refine gf_Mo_181 ok d_Mo_isKey_1 h1 h4 ?_
  refine g_iconst (v := 1) ok d_Mo_isKey_4 (by decide) ?_
  exact g_icmp_eq (tgt := 10) ok d_Mo_isKey_5 (by decide) (fun z => (kt z)) (fun z => (gg_keep [] (kf z)))
theorem k_Mo_isKey_8 {X : gC} {M : List mC} {k n : Nat}  (ok : gO X c_Mo_isKey "TripleStoreModel" w_Mo_isKey)  {l9 : Launch} {rm : Room} {M0 : List mC} {post : Option Value → List mC → Prop} (E : gE X l9 y_Mo_isKey rm 4 (some .boolean) M0 post) (hp : post (some (.int 0)) M) (hk : k ≤ rm.cells) (hn : n ≤ rm.slots) : gg X M k n 8 [] [] := by
  refine g_iconst (v := 0) ok d_Mo_isKey_8 (by decide) ?_
  exact g_zret ok E d_Mo_isKey_9 rfl hp hk hn
theorem k_Mo_isKey_10 {X : gC} {M : List mC} {k n : Nat} {x0 : Nat} {x1 : Int32} (ok : gO X c_Mo_isKey "TripleStoreModel" w_Mo_isKey)  (kt : ¬ x1 = 0 → gg X M k n 20 [(0, .ref x0), (1, .int x1)] []) (kf : x1 = 0 → gg X M k n 14 [(0, .ref x0)] []) : gg X M k n 10 [(0, .ref x0), (1, .int x1)] [] := by
  refine g_iload_n ok d_Mo_isKey_10 rfl (j := 1) rfl ?_
  exact g_if_ne (tgt := 20) ok d_Mo_isKey_11 (by decide) (fun z => (kt z)) (fun z => (gg_keep [0] (kf z)))
theorem k_Mo_isKey_14 {X : gC} {M : List mC} {k n : Nat} {x0 : Nat} (ok : gO X c_Mo_isKey "TripleStoreModel" w_Mo_isKey)  (kk : gg X M k n 126 [(0, .ref x0)] [.long 126879447475060]) : gg X M k n 14 [(0, .ref x0)] [] := by
  refine g_ldc2 (v := 126879447475060) ok (List.mem_cons_of_mem _ (gT_at 1260 (by decide +kernel) (by decide +kernel))) d_Mo_isKey_14 ?_
  exact g_goto (tgt := 126) ok d_Mo_isKey_17 (by decide) kk
theorem k_Mo_isKey_20 {X : gC} {M : List mC} {k n : Nat} {x0 : Nat} {x1 : Int32} (ok : gO X c_Mo_isKey "TripleStoreModel" w_Mo_isKey)  (kt : ¬ x1 = 1 → gg X M k n 31 [(0, .ref x0), (1, .int x1)] []) (kf : x1 = 1 → gg X M k n 25 [(0, .ref x0)] []) : gg X M k n 20 [(0, .ref x0), (1, .int x1)] [] := by
  refine g_iload_n ok d_Mo_isKey_20 rfl (j := 1) rfl ?_
  refine g_iconst (v := 1) ok d_Mo_isKey_21 (by decide) ?_
  exact g_icmp_ne (tgt := 31) ok d_Mo_isKey_22 (by decide) (fun z => (kt z)) (fun z => (gg_keep [0] (kf z)))
theorem k_Mo_isKey_25 {X : gC} {M : List mC} {k n : Nat} {x0 : Nat} (ok : gO X c_Mo_isKey "TripleStoreModel" w_Mo_isKey)  (kk : gg X M k n 126 [(0, .ref x0)] [.long 7235441220169655156]) : gg X M k n 25 [(0, .ref x0)] [] := by
  refine g_ldc2 (v := 7235441220169655156) ok (List.mem_cons_of_mem _ (gT_at 1261 (by decide +kernel) (by decide +kernel))) d_Mo_isKey_25 ?_
  exact g_goto (tgt := 126) ok d_Mo_isKey_28 (by decide) kk
theorem k_Mo_isKey_31 {X : gC} {M : List mC} {k n : Nat} {x0 : Nat} {x1 : Int32} (ok : gO X c_Mo_isKey "TripleStoreModel" w_Mo_isKey)  (kt : ¬ x1 = 2 → gg X M k n 42 [(0, .ref x0), (1, .int x1)] []) (kf : x1 = 2 → gg X M k n 36 [(0, .ref x0)] []) : gg X M k n 31 [(0, .ref x0), (1, .int x1)] [] := by
  refine g_iload_n ok d_Mo_isKey_31 rfl (j := 1) rfl ?_
  refine g_iconst (v := 2) ok d_Mo_isKey_32 (by decide) ?_
  exact g_icmp_ne (tgt := 42) ok d_Mo_isKey_33 (by decide) (fun z => (kt z)) (fun z => (gg_keep [0] (kf z)))
theorem k_Mo_isKey_36 {X : gC} {M : List mC} {k n : Nat} {x0 : Nat} (ok : gO X c_Mo_isKey "TripleStoreModel" w_Mo_isKey)  (kk : gg X M k n 126 [(0, .ref x0)] [.long 478660552050]) : gg X M k n 36 [(0, .ref x0)] [] := by
  refine g_ldc2 (v := 478660552050) ok (List.mem_cons_of_mem _ (gT_at 1262 (by decide +kernel) (by decide +kernel))) d_Mo_isKey_36 ?_
  exact g_goto (tgt := 126) ok d_Mo_isKey_39 (by decide) kk
theorem k_Mo_isKey_42 {X : gC} {M : List mC} {k n : Nat} {x0 : Nat} {x1 : Int32} (ok : gO X c_Mo_isKey "TripleStoreModel" w_Mo_isKey)  (kt : ¬ x1 = 3 → gg X M k n 53 [(0, .ref x0), (1, .int x1)] []) (kf : x1 = 3 → gg X M k n 47 [(0, .ref x0)] []) : gg X M k n 42 [(0, .ref x0), (1, .int x1)] [] := by
  refine g_iload_n ok d_Mo_isKey_42 rfl (j := 1) rfl ?_
  refine g_iconst (v := 3) ok d_Mo_isKey_43 (by decide) ?_
  exact g_icmp_ne (tgt := 53) ok d_Mo_isKey_44 (by decide) (fun z => (kt z)) (fun z => (gg_keep [0] (kf z)))
theorem k_Mo_isKey_47 {X : gC} {M : List mC} {k n : Nat} {x0 : Nat} (ok : gO X c_Mo_isKey "TripleStoreModel" w_Mo_isKey)  (kk : gg X M k n 126 [(0, .ref x0)] [.long 1684370275]) : gg X M k n 47 [(0, .ref x0)] [] := by
  refine g_ldc2 (v := 1684370275) ok (List.mem_cons_of_mem _ (gT_at 1263 (by decide +kernel) (by decide +kernel))) d_Mo_isKey_47 ?_
  exact g_goto (tgt := 126) ok d_Mo_isKey_50 (by decide) kk
theorem k_Mo_isKey_53 {X : gC} {M : List mC} {k n : Nat} {x0 : Nat} {x1 : Int32} (ok : gO X c_Mo_isKey "TripleStoreModel" w_Mo_isKey)  (kt : ¬ x1 = 4 → gg X M k n 64 [(0, .ref x0), (1, .int x1)] []) (kf : x1 = 4 → gg X M k n 58 [(0, .ref x0)] []) : gg X M k n 53 [(0, .ref x0), (1, .int x1)] [] := by
  refine g_iload_n ok d_Mo_isKey_53 rfl (j := 1) rfl ?_
  refine g_iconst (v := 4) ok d_Mo_isKey_54 (by decide) ?_
  exact g_icmp_ne (tgt := 64) ok d_Mo_isKey_55 (by decide) (fun z => (kt z)) (fun z => (gg_keep [0] (kf z)))
theorem k_Mo_isKey_58 {X : gC} {M : List mC} {k n : Nat} {x0 : Nat} (ok : gO X c_Mo_isKey "TripleStoreModel" w_Mo_isKey)  (kk : gg X M k n 126 [(0, .ref x0)] [.long 465625246068]) : gg X M k n 58 [(0, .ref x0)] [] := by
  refine g_ldc2 (v := 465625246068) ok (List.mem_cons_of_mem _ (gT_at 1264 (by decide +kernel) (by decide +kernel))) d_Mo_isKey_58 ?_
  exact g_goto (tgt := 126) ok d_Mo_isKey_61 (by decide) kk
theorem k_Mo_isKey_64 {X : gC} {M : List mC} {k n : Nat} {x0 : Nat} {x1 : Int32} (ok : gO X c_Mo_isKey "TripleStoreModel" w_Mo_isKey)  (kt : ¬ x1 = 5 → gg X M k n 75 [(0, .ref x0), (1, .int x1)] []) (kf : x1 = 5 → gg X M k n 69 [(0, .ref x0)] []) : gg X M k n 64 [(0, .ref x0), (1, .int x1)] [] := by
  refine g_iload_n ok d_Mo_isKey_64 rfl (j := 1) rfl ?_
  refine g_iconst (v := 5) ok d_Mo_isKey_65 (by decide) ?_
  exact g_icmp_ne (tgt := 75) ok d_Mo_isKey_66 (by decide) (fun z => (kt z)) (fun z => (gg_keep [0] (kf z)))
theorem k_Mo_isKey_69 {X : gC} {M : List mC} {k n : Nat} {x0 : Nat} (ok : gO X c_Mo_isKey "TripleStoreModel" w_Mo_isKey)  (kk : gg X M k n 126 [(0, .ref x0)] [.long 112602977166706]) : gg X M k n 69 [(0, .ref x0)] [] := by
  refine g_ldc2 (v := 112602977166706) ok (List.mem_cons_of_mem _ (gT_at 1265 (by decide +kernel) (by decide +kernel))) d_Mo_isKey_69 ?_
  exact g_goto (tgt := 126) ok d_Mo_isKey_72 (by decide) kk
theorem k_Mo_isKey_75 {X : gC} {M : List mC} {k n : Nat} {x0 : Nat} {x1 : Int32} (ok : gO X c_Mo_isKey "TripleStoreModel" w_Mo_isKey)  (kt : ¬ x1 = 6 → gg X M k n 87 [(0, .ref x0), (1, .int x1)] []) (kf : x1 = 6 → gg X M k n 81 [(0, .ref x0)] []) : gg X M k n 75 [(0, .ref x0), (1, .int x1)] [] := by
  refine g_iload_n ok d_Mo_isKey_75 rfl (j := 1) rfl ?_
  refine g_bipush (v := 6) ok d_Mo_isKey_76 (by decide) ?_
  exact g_icmp_ne (tgt := 87) ok d_Mo_isKey_78 (by decide) (fun z => (kt z)) (fun z => (gg_keep [0] (kf z)))
theorem k_Mo_isKey_81 {X : gC} {M : List mC} {k n : Nat} {x0 : Nat} (ok : gO X c_Mo_isKey "TripleStoreModel" w_Mo_isKey)  (kk : gg X M k n 126 [(0, .ref x0)] [.long 8030046131791487340]) : gg X M k n 81 [(0, .ref x0)] [] := by
  refine g_ldc2 (v := 8030046131791487340) ok (List.mem_cons_of_mem _ (gT_at 1266 (by decide +kernel) (by decide +kernel))) d_Mo_isKey_81 ?_
  exact g_goto (tgt := 126) ok d_Mo_isKey_84 (by decide) kk
theorem k_Mo_isKey_87 {X : gC} {M : List mC} {k n : Nat} {x0 : Nat} {x1 : Int32} (ok : gO X c_Mo_isKey "TripleStoreModel" w_Mo_isKey)  (kt : ¬ x1 = 7 → gg X M k n 99 [(0, .ref x0), (1, .int x1)] []) (kf : x1 = 7 → gg X M k n 93 [(0, .ref x0)] []) : gg X M k n 87 [(0, .ref x0), (1, .int x1)] [] := by
  refine g_iload_n ok d_Mo_isKey_87 rfl (j := 1) rfl ?_
  refine g_bipush (v := 7) ok d_Mo_isKey_88 (by decide) ?_
  exact g_icmp_ne (tgt := 99) ok d_Mo_isKey_90 (by decide) (fun z => (kt z)) (fun z => (gg_keep [0] (kf z)))
theorem k_Mo_isKey_93 {X : gC} {M : List mC} {k n : Nat} {x0 : Nat} (ok : gO X c_Mo_isKey "TripleStoreModel" w_Mo_isKey)  (kk : gg X M k n 126 [(0, .ref x0)] [.long 469920281971]) : gg X M k n 93 [(0, .ref x0)] [] := by
  refine g_ldc2 (v := 469920281971) ok (List.mem_cons_of_mem _ (gT_at 1267 (by decide +kernel) (by decide +kernel))) d_Mo_isKey_93 ?_
  exact g_goto (tgt := 126) ok d_Mo_isKey_96 (by decide) kk
theorem k_Mo_isKey_99 {X : gC} {M : List mC} {k n : Nat} {x0 : Nat} {x1 : Int32} (ok : gO X c_Mo_isKey "TripleStoreModel" w_Mo_isKey)  (kt : ¬ x1 = 8 → gg X M k n 111 [(0, .ref x0), (1, .int x1)] []) (kf : x1 = 8 → gg X M k n 105 [(0, .ref x0)] []) : gg X M k n 99 [(0, .ref x0), (1, .int x1)] [] := by
  refine g_iload_n ok d_Mo_isKey_99 rfl (j := 1) rfl ?_
  refine g_bipush (v := 8) ok d_Mo_isKey_100 (by decide) ?_
  exact g_icmp_ne (tgt := 111) ok d_Mo_isKey_102 (by decide) (fun z => (kt z)) (fun z => (gg_keep [0] (kf z)))
theorem k_Mo_isKey_105 {X : gC} {M : List mC} {k n : Nat} {x0 : Nat} (ok : gO X c_Mo_isKey "TripleStoreModel" w_Mo_isKey)  (kk : gg X M k n 126 [(0, .ref x0)] [.long 504363577198]) : gg X M k n 105 [(0, .ref x0)] [] := by
  refine g_ldc2 (v := 504363577198) ok (List.mem_cons_of_mem _ (gT_at 1268 (by decide +kernel) (by decide +kernel))) d_Mo_isKey_105 ?_
  exact g_goto (tgt := 126) ok d_Mo_isKey_108 (by decide) kk
theorem k_Mo_isKey_111 {X : gC} {M : List mC} {k n : Nat} {x0 : Nat} {x1 : Int32} (ok : gO X c_Mo_isKey "TripleStoreModel" w_Mo_isKey)  (kt : ¬ x1 = 9 → gg X M k n 123 [(0, .ref x0)] []) (kf : x1 = 9 → gg X M k n 117 [(0, .ref x0)] []) : gg X M k n 111 [(0, .ref x0), (1, .int x1)] [] := by
  refine g_iload_n ok d_Mo_isKey_111 rfl (j := 1) rfl ?_
  refine g_bipush (v := 9) ok d_Mo_isKey_112 (by decide) ?_
  exact g_icmp_ne (tgt := 123) ok d_Mo_isKey_114 (by decide) (fun z => (gg_keep [0] (kt z))) (fun z => (gg_keep [0] (kf z)))
theorem k_Mo_isKey_117 {X : gC} {M : List mC} {k n : Nat} {x0 : Nat} (ok : gO X c_Mo_isKey "TripleStoreModel" w_Mo_isKey)  (kk : gg X M k n 126 [(0, .ref x0)] [.long 7237492]) : gg X M k n 117 [(0, .ref x0)] [] := by
  refine g_ldc2 (v := 7237492) ok (List.mem_cons_of_mem _ (gT_at 1269 (by decide +kernel) (by decide +kernel))) d_Mo_isKey_117 ?_
  exact g_goto (tgt := 126) ok d_Mo_isKey_120 (by decide) kk
theorem k_Mo_isKey_123 {X : gC} {M : List mC} {k n : Nat} {x0 : Nat} (ok : gO X c_Mo_isKey "TripleStoreModel" w_Mo_isKey)  (kk : gg X M k n 126 [(0, .ref x0)] [.long 422776761956]) : gg X M k n 123 [(0, .ref x0)] [] := by
  refine g_ldc2 (v := 422776761956) ok (List.mem_cons_of_mem _ (gT_at 1270 (by decide +kernel) (by decide +kernel))) d_Mo_isKey_123 ?_
  exact kk
theorem k_Mo_isKey_126 {X : gC} {M : List mC} {k n : Nat} {x0 : Nat} {s0 : Int64} {fs2 : List Value} {f3 : Int64} (ok : gO X c_Mo_isKey "TripleStoreModel" w_Mo_isKey) (hl : gL X = 4) (h1 : M[x0]? = some (.inr (10, fs2))) (h4 : fs2[16]? = some (.long f3)) (kt : ¬ f3 = s0 → gg X M k n 140 [] []) (kf : f3 = s0 → gg X M k n 136 [] []) : gg X M k n 126 [(0, .ref x0)] [.long s0] := by
  refine g_lstore_n (L' := [(0, .ref x0), (2, .long s0)]) ok d_Mo_isKey_126 rfl (by rw [hl]; decide) rfl ?_
  refine g_aload_n ok d_Mo_isKey_127 rfl (j := 0) rfl ?_
  refine gf_Mo_164 ok d_Mo_isKey_128 h1 h4 ?_
  refine g_lload_n ok d_Mo_isKey_131 rfl (j := 1) rfl ?_
  exact g_lc_ne (tgt := 140) ok d_Mo_isKey_132 d_Mo_isKey_133 (by decide) (fun z => (gg_keep [] (kt z))) (fun z => (gg_keep [] (kf z)))
theorem k_Mo_isKey_136 {X : gC} {M : List mC} {k n : Nat}  (ok : gO X c_Mo_isKey "TripleStoreModel" w_Mo_isKey)  (kk : gg X M k n 141 [] [.int 1]) : gg X M k n 136 [] [] := by
  refine g_iconst (v := 1) ok d_Mo_isKey_136 (by decide) ?_
  exact g_goto (tgt := 141) ok d_Mo_isKey_137 (by decide) kk
theorem k_Mo_isKey_140 {X : gC} {M : List mC} {k n : Nat}  (ok : gO X c_Mo_isKey "TripleStoreModel" w_Mo_isKey)  (kk : gg X M k n 141 [] [.int 0]) : gg X M k n 140 [] [] := by
  refine g_iconst (v := 0) ok d_Mo_isKey_140 (by decide) ?_
  exact kk
theorem k_Mo_isKey_141 {X : gC} {M : List mC} {k n : Nat} {s0 : Int32} (ok : gO X c_Mo_isKey "TripleStoreModel" w_Mo_isKey)  {l9 : Launch} {rm : Room} {M0 : List mC} {post : Option Value → List mC → Prop} (E : gE X l9 y_Mo_isKey rm 4 (some .boolean) M0 post) (hz : narrow .boolean (.int s0) = .int s0) (hp : post (some (.int s0)) M) (hk : k ≤ rm.cells) (hn : n ≤ rm.slots) : gg X M k n 141 [] [.int s0] := by
  exact g_zret ok E d_Mo_isKey_141 hz hp hk hn
theorem k_Mo_isTerm_0 {X : gC} {M : List mC} {k n : Nat} {x0 : Nat} {fs2 : List Value} {f3 : Int32} (ok : gO X c_Mo_isTerm "TripleStoreModel" w_Mo_isTerm) (h1 : M[x0]? = some (.inr (10, fs2))) (h4 : fs2[15]? = some (.int f3)) (kt : ¬ f3 = 2 → gg X M k n 10 [(0, .ref x0)] []) (kf : f3 = 2 → gg X M k n 8 [] []) : gg X M k n 0 [(0, .ref x0)] [] := by
  refine g_aload_n ok d_Mo_isTerm_0 rfl (j := 0) rfl ?_
  refine gf_Mo_181 ok d_Mo_isTerm_1 h1 h4 ?_
  refine g_iconst (v := 2) ok d_Mo_isTerm_4 (by decide) ?_
  exact g_icmp_ne (tgt := 10) ok d_Mo_isTerm_5 (by decide) (fun z => (kt z)) (fun z => (gg_keep [] (kf z)))
theorem k_Mo_isTerm_8 {X : gC} {M : List mC} {k n : Nat}  (ok : gO X c_Mo_isTerm "TripleStoreModel" w_Mo_isTerm)  {l9 : Launch} {rm : Room} {M0 : List mC} {post : Option Value → List mC → Prop} (E : gE X l9 y_Mo_isTerm rm 3 (some .boolean) M0 post) (hp : post (some (.int 1)) M) (hk : k ≤ rm.cells) (hn : n ≤ rm.slots) : gg X M k n 8 [] [] := by
  refine g_iconst (v := 1) ok d_Mo_isTerm_8 (by decide) ?_
  exact g_zret ok E d_Mo_isTerm_9 rfl hp hk hn
theorem k_Mo_isTerm_10 {X : gC} {M : List mC} {k n : Nat} {x0 : Nat} (ok : gO X c_Mo_isTerm "TripleStoreModel" w_Mo_isTerm) (hl : gL X = 3)  (kk : gg X M k n 14 [(0, .ref x0), (1, .int 0), (2, .int 0)] []) : gg X M k n 10 [(0, .ref x0)] [] := by
  refine g_iconst (v := 0) ok d_Mo_isTerm_10 (by decide) ?_
  refine g_istore_n (L' := [(0, .ref x0), (1, .int 0)]) ok d_Mo_isTerm_11 rfl (by rw [hl]; decide) rfl ?_
  refine g_iconst (v := 0) ok d_Mo_isTerm_12 (by decide) ?_
  refine g_istore_n (L' := [(0, .ref x0), (1, .int 0), (2, .int 0)]) ok d_Mo_isTerm_13 rfl (by rw [hl]; decide) rfl ?_
  exact kk
theorem k_Mo_isTerm_14 {X : gC} {M : List mC} {k n : Nat} {x0 : Nat} {x1 : Int32} {x2 : Int32} (ok : gO X c_Mo_isTerm "TripleStoreModel" w_Mo_isTerm)  (kt : 11 ≤ x2 → gg X M k n 36 [(0, .ref x0), (1, .int x1)] []) (kf : ¬ 11 ≤ x2 → gg X M k n 20 [(0, .ref x0), (1, .int x1), (2, .int x2)] []) : gg X M k n 14 [(0, .ref x0), (1, .int x1), (2, .int x2)] [] := by
  refine g_iload_n ok d_Mo_isTerm_14 rfl (j := 2) rfl ?_
  refine g_bipush (v := 11) ok d_Mo_isTerm_15 (by decide) ?_
  exact g_icmp_ge (tgt := 36) ok d_Mo_isTerm_17 (by decide) (fun z => (gg_keep [0, 1] (kt z))) (fun z => (kf z))
theorem k_Mo_isTerm_20 {X : gC} {M : List mC} {k n : Nat} {x0 : Nat} {x1 : Int32} {x2 : Int32} {fs2 : List Value} (ok : gO X c_Mo_isTerm "TripleStoreModel" w_Mo_isTerm) (h1 : M[x0]? = some (.inr (10, fs2))) {rm : Room} {post : Option Value → List mC → Prop} (hm : mm_ (gLa X) y_Mo_isKey w_Mo_isKey rm [.ref x0, .int x2] M post) (hR : gF X rm 4 k n) (hlen : ∀ r M', post r M' → M'.length = M.length) (kk : ∀ r M', post r M' → gg X M' (k + rm.cells) (n + rm.slots) 25 [(0, .ref x0), (1, .int x1), (2, .int x2)] (r.toList ++ [])) : gg X M k n 20 [(0, .ref x0), (1, .int x1), (2, .int x2)] [] := by
  refine g_aload_n ok d_Mo_isTerm_20 rfl (j := 0) rfl ?_
  refine g_iload_n ok d_Mo_isTerm_21 rfl (j := 2) rfl ?_
  exact gc_Mo_217 (As := [.int x2]) (rest := []) ok d_Mo_isTerm_22 hm rfl rfl (Nat.le_of_ble_eq_true rfl) hR h1 hlen kk
theorem k_Mo_isTerm_25 {X : gC} {M : List mC} {k n : Nat} {x0 : Nat} {x1 : Int32} {x2 : Int32} {s0 : Int32} (ok : gO X c_Mo_isTerm "TripleStoreModel" w_Mo_isTerm)  (kt : s0 = 0 → gg X M k n 30 [(0, .ref x0), (1, .int x1), (2, .int x2)] []) (kf : ¬ s0 = 0 → gg X M k n 28 [(0, .ref x0), (2, .int x2)] []) : gg X M k n 25 [(0, .ref x0), (1, .int x1), (2, .int x2)] [.int s0] := by
  exact g_if_eq (tgt := 30) ok d_Mo_isTerm_25 (by decide) (fun z => (kt z)) (fun z => (gg_keep [0, 2] (kf z)))
theorem k_Mo_isTerm_28 {X : gC} {M : List mC} {k n : Nat} {x0 : Nat} {x2 : Int32} (ok : gO X c_Mo_isTerm "TripleStoreModel" w_Mo_isTerm) (hl : gL X = 3)  (kk : gg X M k n 30 [(0, .ref x0), (1, .int 1), (2, .int x2)] []) : gg X M k n 28 [(0, .ref x0), (2, .int x2)] [] := by
  refine g_iconst (v := 1) ok d_Mo_isTerm_28 (by decide) ?_
  refine g_istore_n (L' := [(0, .ref x0), (1, .int 1), (2, .int x2)]) ok d_Mo_isTerm_29 rfl (by rw [hl]; decide) rfl ?_
  exact kk
theorem k_Mo_isTerm_30 {X : gC} {M : List mC} {k n : Nat} {x0 : Nat} {x1 : Int32} {x2 : Int32} (ok : gO X c_Mo_isTerm "TripleStoreModel" w_Mo_isTerm) (hl : gL X = 3)  (kk : gg X M k n 14 [(0, .ref x0), (1, .int x1), (2, .int (x2 + 1))] []) : gg X M k n 30 [(0, .ref x0), (1, .int x1), (2, .int x2)] [] := by
  refine g_iinc (L' := [(0, .ref x0), (1, .int x1), (2, .int (x2 + 1))]) (v := (x2 + 1)) ok d_Mo_isTerm_30 (j := 2) rfl rfl (by rw [hl]; decide) rfl ?_
  exact g_goto (tgt := 14) ok d_Mo_isTerm_33 (by decide) kk
theorem k_Mo_isTerm_36 {X : gC} {M : List mC} {k n : Nat} {x0 : Nat} {x1 : Int32} {fs2 : List Value} {f3 : Int32} (ok : gO X c_Mo_isTerm "TripleStoreModel" w_Mo_isTerm) (h1 : M[x0]? = some (.inr (10, fs2))) (h4 : fs2[15]? = some (.int f3)) (kt : ¬ f3 = 1 → gg X M k n 52 [] []) (kf : f3 = 1 → gg X M k n 44 [(1, .int x1)] []) : gg X M k n 36 [(0, .ref x0), (1, .int x1)] [] := by
  refine g_aload_n ok d_Mo_isTerm_36 rfl (j := 0) rfl ?_
  refine gf_Mo_181 ok d_Mo_isTerm_37 h1 h4 ?_
  refine g_iconst (v := 1) ok d_Mo_isTerm_40 (by decide) ?_
  exact g_icmp_ne (tgt := 52) ok d_Mo_isTerm_41 (by decide) (fun z => (gg_keep [] (kt z))) (fun z => (gg_keep [1] (kf z)))
theorem k_Mo_isTerm_44 {X : gC} {M : List mC} {k n : Nat} {x1 : Int32} (ok : gO X c_Mo_isTerm "TripleStoreModel" w_Mo_isTerm)  (kt : ¬ x1 = 0 → gg X M k n 52 [] []) (kf : x1 = 0 → gg X M k n 48 [] []) : gg X M k n 44 [(1, .int x1)] [] := by
  refine g_iload_n ok d_Mo_isTerm_44 rfl (j := 0) rfl ?_
  exact g_if_ne (tgt := 52) ok d_Mo_isTerm_45 (by decide) (fun z => (gg_keep [] (kt z))) (fun z => (gg_keep [] (kf z)))
theorem k_Mo_isTerm_48 {X : gC} {M : List mC} {k n : Nat}  (ok : gO X c_Mo_isTerm "TripleStoreModel" w_Mo_isTerm)  (kk : gg X M k n 53 [] [.int 1]) : gg X M k n 48 [] [] := by
  refine g_iconst (v := 1) ok d_Mo_isTerm_48 (by decide) ?_
  exact g_goto (tgt := 53) ok d_Mo_isTerm_49 (by decide) kk
theorem k_Mo_isTerm_52 {X : gC} {M : List mC} {k n : Nat}  (ok : gO X c_Mo_isTerm "TripleStoreModel" w_Mo_isTerm)  (kk : gg X M k n 53 [] [.int 0]) : gg X M k n 52 [] [] := by
  refine g_iconst (v := 0) ok d_Mo_isTerm_52 (by decide) ?_
  exact kk
theorem k_Mo_isTerm_53 {X : gC} {M : List mC} {k n : Nat} {s0 : Int32} (ok : gO X c_Mo_isTerm "TripleStoreModel" w_Mo_isTerm)  {l9 : Launch} {rm : Room} {M0 : List mC} {post : Option Value → List mC → Prop} (E : gE X l9 y_Mo_isTerm rm 3 (some .boolean) M0 post) (hz : narrow .boolean (.int s0) = .int s0) (hp : post (some (.int s0)) M) (hk : k ≤ rm.cells) (hn : n ≤ rm.slots) : gg X M k n 53 [] [.int s0] := by
  exact g_zret ok E d_Mo_isTerm_53 hz hp hk hn
theorem k_Mo_isSign_0 {X : gC} {M : List mC} {k n : Nat} {x0 : Nat} {x1 : Int32} {fs2 : List Value} {f3 : Int32} (ok : gO X c_Mo_isSign "TripleStoreModel" w_Mo_isSign) (h1 : M[x0]? = some (.inr (10, fs2))) (h4 : fs2[15]? = some (.int f3)) (kt : ¬ f3 = 4 → gg X M k n 22 [] []) (kf : f3 = 4 → gg X M k n 8 [(0, .ref x0), (1, .int x1)] []) : gg X M k n 0 [(0, .ref x0), (1, .int x1)] [] := by
  refine g_aload_n ok d_Mo_isSign_0 rfl (j := 0) rfl ?_
  refine gf_Mo_181 ok d_Mo_isSign_1 h1 h4 ?_
  refine g_iconst (v := 4) ok d_Mo_isSign_4 (by decide) ?_
  exact g_icmp_ne (tgt := 22) ok d_Mo_isSign_5 (by decide) (fun z => (gg_keep [] (kt z))) (fun z => (kf z))
theorem k_Mo_isSign_8 {X : gC} {M : List mC} {k n : Nat} {x0 : Nat} {x1 : Int32} {fs2 : List Value} {f3 : Int64} (ok : gO X c_Mo_isSign "TripleStoreModel" w_Mo_isSign) (h1 : M[x0]? = some (.inr (10, fs2))) (h4 : fs2[16]? = some (.long f3)) (kt : ¬ f3 = (x1.toInt64) → gg X M k n 22 [] []) (kf : f3 = (x1.toInt64) → gg X M k n 18 [] []) : gg X M k n 8 [(0, .ref x0), (1, .int x1)] [] := by
  refine g_aload_n ok d_Mo_isSign_8 rfl (j := 0) rfl ?_
  refine gf_Mo_164 ok d_Mo_isSign_9 h1 h4 ?_
  refine g_iload_n ok d_Mo_isSign_12 rfl (j := 1) rfl ?_
  refine g_i2l ok d_Mo_isSign_13 ?_
  exact g_lc_ne (tgt := 22) ok d_Mo_isSign_14 d_Mo_isSign_15 (by decide) (fun z => (gg_keep [] (kt z))) (fun z => (gg_keep [] (kf z)))
theorem k_Mo_isSign_18 {X : gC} {M : List mC} {k n : Nat}  (ok : gO X c_Mo_isSign "TripleStoreModel" w_Mo_isSign)  (kk : gg X M k n 23 [] [.int 1]) : gg X M k n 18 [] [] := by
  refine g_iconst (v := 1) ok d_Mo_isSign_18 (by decide) ?_
  exact g_goto (tgt := 23) ok d_Mo_isSign_19 (by decide) kk
theorem k_Mo_isSign_22 {X : gC} {M : List mC} {k n : Nat}  (ok : gO X c_Mo_isSign "TripleStoreModel" w_Mo_isSign)  (kk : gg X M k n 23 [] [.int 0]) : gg X M k n 22 [] [] := by
  refine g_iconst (v := 0) ok d_Mo_isSign_22 (by decide) ?_
  exact kk
theorem k_Mo_isSign_23 {X : gC} {M : List mC} {k n : Nat} {s0 : Int32} (ok : gO X c_Mo_isSign "TripleStoreModel" w_Mo_isSign)  {l9 : Launch} {rm : Room} {M0 : List mC} {post : Option Value → List mC → Prop} (E : gE X l9 y_Mo_isSign rm 2 (some .boolean) M0 post) (hz : narrow .boolean (.int s0) = .int s0) (hp : post (some (.int s0)) M) (hk : k ≤ rm.cells) (hn : n ≤ rm.slots) : gg X M k n 23 [] [.int s0] := by
  exact g_zret ok E d_Mo_isSign_23 hz hp hk hn
theorem k_Mo_stop_0 {X : gC} {M : List mC} {k n : Nat} {x0 : Nat} {fs2 : List Value} {f3 : Int32} (ok : gO X c_Mo_stop "TripleStoreModel" w_Mo_stop) (h1 : M[x0]? = some (.inr (10, fs2))) (h4 : fs2[20]? = some (.int f3)) (kt : 0 ≤ f3 → gg X M k n 29 [] []) (kf : ¬ 0 ≤ f3 → gg X M k n 7 [(0, .ref x0)] []) : gg X M k n 0 [(0, .ref x0)] [] := by
  refine g_aload_n ok d_Mo_stop_0 rfl (j := 0) rfl ?_
  refine gf_Mo_220 ok d_Mo_stop_1 h1 h4 ?_
  exact g_if_ge (tgt := 29) ok d_Mo_stop_4 (by decide) (fun z => (gg_keep [] (kt z))) (fun z => (kf z))
theorem k_Mo_stop_7 {X : gC} {M : List mC} {k n : Nat} {x0 : Nat} {fs2 : List Value} {f3 : Int32} (ok : gO X c_Mo_stop "TripleStoreModel" w_Mo_stop) (h1 : M[x0]? = some (.inr (10, fs2))) (h4 : fs2[15]? = some (.int f3)) (kt : ¬ f3 = 0 → gg X M k n 22 [(0, .ref x0)] [.ref x0]) (kf : f3 = 0 → gg X M k n 15 [(0, .ref x0)] [.ref x0]) : gg X M k n 7 [(0, .ref x0)] [] := by
  refine g_aload_n ok d_Mo_stop_7 rfl (j := 0) rfl ?_
  refine g_aload_n ok d_Mo_stop_8 rfl (j := 0) rfl ?_
  refine gf_Mo_181 ok d_Mo_stop_9 h1 h4 ?_
  exact g_if_ne (tgt := 22) ok d_Mo_stop_12 (by decide) (fun z => (kt z)) (fun z => (kf z))
theorem k_Mo_stop_15 {X : gC} {M : List mC} {k n : Nat} {x0 : Nat} {fs2 : List Value} {f3 : Int32} (ok : gO X c_Mo_stop "TripleStoreModel" w_Mo_stop) (h1 : M[x0]? = some (.inr (10, fs2))) (h4 : fs2[19]? = some (.int f3)) (kk : gg X M k n 26 [(0, .ref x0)] [.int f3, .ref x0]) : gg X M k n 15 [(0, .ref x0)] [.ref x0] := by
  refine g_aload_n ok d_Mo_stop_15 rfl (j := 0) rfl ?_
  refine gf_Mo_175 ok d_Mo_stop_16 h1 h4 ?_
  exact g_goto (tgt := 26) ok d_Mo_stop_19 (by decide) kk
theorem k_Mo_stop_22 {X : gC} {M : List mC} {k n : Nat} {x0 : Nat} {fs2 : List Value} {f3 : Int32} (ok : gO X c_Mo_stop "TripleStoreModel" w_Mo_stop) (h1 : M[x0]? = some (.inr (10, fs2))) (h4 : fs2[17]? = some (.int f3)) (kk : gg X M k n 26 [(0, .ref x0)] [.int f3, .ref x0]) : gg X M k n 22 [(0, .ref x0)] [.ref x0] := by
  refine g_aload_n ok d_Mo_stop_22 rfl (j := 0) rfl ?_
  refine gf_Mo_178 ok d_Mo_stop_23 h1 h4 ?_
  exact kk
theorem k_Mo_stop_26 {X : gC} {M : List mC} {k n : Nat} {x0 : Nat} {s1 : Int32} {fs2 : List Value} {fs5 : List Value} {M7 : List mC} (ok : gO X c_Mo_stop "TripleStoreModel" w_Mo_stop) (h1 : M[x0]? = some (.inr (10, fs2))) (h4 : 59 ≤ fs2.length) (h6 : fs2.set 20 (.int s1) = fs5) (h8 : M.set x0 (.inr (10, fs5)) = M7) (kk : gg X M7 k n 29 [] []) : gg X M k n 26 [(0, .ref x0)] [.int s1, .ref x0] := by
  have h3 : 20 < fs2.length := Nat.lt_of_lt_of_le (by decide) h4
  refine pf_Mo_220 ok d_Mo_stop_26 h1 h3 (fun _ => ⟨rfl, rfl⟩) ?_
  rw [h6]
  rw [h8]
  have h9 : M7[x0]? = some (.inr (10, fs5)) := by rw [← h8]; exact gs_eq h1
  have h10 : fs5[20]? = some (.int s1) := by rw [← h6]; exact List.getElem?_set_self h3
  have h11 : 59 ≤ fs5.length := by rw [← h6, List.length_set]; exact h4
  exact (gg_keep [] kk)
theorem k_Mo_stop_29 {X : gC} {M : List mC} {k n : Nat}  (ok : gO X c_Mo_stop "TripleStoreModel" w_Mo_stop)  {l9 : Launch} {rm : Room} {M0 : List mC} {post : Option Value → List mC → Prop} (E : gE X l9 y_Mo_stop rm 1 none M0 post) (hp : post (none) M) (hk : k ≤ rm.cells) (hn : n ≤ rm.slots) : gg X M k n 29 [] [] := by
  exact g_vret ok E d_Mo_stop_29 hp hk hn
theorem k_Mo_goOn_0 {X : gC} {M : List mC} {k n : Nat} {x0 : Nat} {x1 : Int32} (ok : gO X c_Mo_goOn "TripleStoreModel" w_Mo_goOn)  (kt : ¬ x1 = 0 → gg X M k n 8 [(0, .ref x0)] []) (kf : x1 = 0 → gg X M k n 4 [(0, .ref x0)] []) : gg X M k n 0 [(0, .ref x0), (1, .int x1)] [] := by
  refine g_iload_n ok d_Mo_goOn_0 rfl (j := 1) rfl ?_
  exact g_if_ne (tgt := 8) ok d_Mo_goOn_1 (by decide) (fun z => (gg_keep [0] (kt z))) (fun z => (gg_keep [0] (kf z)))
theorem k_Mo_goOn_4 {X : gC} {M : List mC} {k n : Nat} {x0 : Nat} {fs2 : List Value} (ok : gO X c_Mo_goOn "TripleStoreModel" w_Mo_goOn) (h1 : M[x0]? = some (.inr (10, fs2))) {rm : Room} {post : Option Value → List mC → Prop} (hm : mm_ (gLa X) y_Mo_stop w_Mo_stop rm [.ref x0] M post) (hR : gF X rm 1 k n) (hlen : ∀ r M', post r M' → M'.length = M.length) (kk : ∀ r M', post r M' → gg X M' (k + rm.cells) (n + rm.slots) 8 [(0, .ref x0)] (r.toList ++ [])) : gg X M k n 4 [(0, .ref x0)] [] := by
  refine g_aload_n ok d_Mo_goOn_4 rfl (j := 0) rfl ?_
  exact gc_Mo_223 (As := []) (rest := []) ok d_Mo_goOn_5 hm rfl rfl (Nat.le_of_ble_eq_true rfl) hR h1 hlen kk
theorem k_Mo_goOn_8 {X : gC} {M : List mC} {k n : Nat} {x0 : Nat} {fs2 : List Value} {f3 : Int32} (ok : gO X c_Mo_goOn "TripleStoreModel" w_Mo_goOn) (h1 : M[x0]? = some (.inr (10, fs2))) (h4 : fs2[20]? = some (.int f3)) (kt : f3 < 0 → gg X M k n 17 [(0, .ref x0)] []) (kf : ¬ f3 < 0 → gg X M k n 15 [] []) : gg X M k n 8 [(0, .ref x0)] [] := by
  refine g_aload_n ok d_Mo_goOn_8 rfl (j := 0) rfl ?_
  refine gf_Mo_220 ok d_Mo_goOn_9 h1 h4 ?_
  exact g_if_lt (tgt := 17) ok d_Mo_goOn_12 (by decide) (fun z => (kt z)) (fun z => (gg_keep [] (kf z)))
theorem k_Mo_goOn_15 {X : gC} {M : List mC} {k n : Nat}  (ok : gO X c_Mo_goOn "TripleStoreModel" w_Mo_goOn)  {l9 : Launch} {rm : Room} {M0 : List mC} {post : Option Value → List mC → Prop} (E : gE X l9 y_Mo_goOn rm 2 (some .boolean) M0 post) (hp : post (some (.int 0)) M) (hk : k ≤ rm.cells) (hn : n ≤ rm.slots) : gg X M k n 15 [] [] := by
  refine g_iconst (v := 0) ok d_Mo_goOn_15 (by decide) ?_
  exact g_zret ok E d_Mo_goOn_16 rfl hp hk hn
theorem k_Mo_goOn_17 {X : gC} {M : List mC} {k n : Nat} {x0 : Nat} {fs2 : List Value} (ok : gO X c_Mo_goOn "TripleStoreModel" w_Mo_goOn) (h1 : M[x0]? = some (.inr (10, fs2))) {rm : Room} {post : Option Value → List mC → Prop} (hm : mm_ (gLa X) y_Mo_next w_Mo_next rm [.ref x0] M post) (hR : gF X rm 3 k n) (hlen : ∀ r M', post r M' → M'.length = M.length) (kk : ∀ r M', post r M' → gg X M' (k + rm.cells) (n + rm.slots) 21 [] (r.toList ++ [])) : gg X M k n 17 [(0, .ref x0)] [] := by
  refine g_aload_n ok d_Mo_goOn_17 rfl (j := 0) rfl ?_
  exact gc_Mo_226 (As := []) (rest := []) ok d_Mo_goOn_18 hm rfl rfl (Nat.le_of_ble_eq_true rfl) hR h1 hlen (fun r M' q => (gg_keep [] (kk r M' q)))
theorem k_Mo_goOn_21 {X : gC} {M : List mC} {k n : Nat}  (ok : gO X c_Mo_goOn "TripleStoreModel" w_Mo_goOn)  {l9 : Launch} {rm : Room} {M0 : List mC} {post : Option Value → List mC → Prop} (E : gE X l9 y_Mo_goOn rm 2 (some .boolean) M0 post) (hp : post (some (.int 1)) M) (hk : k ≤ rm.cells) (hn : n ≤ rm.slots) : gg X M k n 21 [] [] := by
  refine g_iconst (v := 1) ok d_Mo_goOn_21 (by decide) ?_
  exact g_zret ok E d_Mo_goOn_22 rfl hp hk hn
theorem k_Mo_readVariable_0 {X : gC} {M : List mC} {k n : Nat} {x0 : Nat} (ok : gO X c_Mo_readVariable "TripleStoreModel" w_Mo_readVariable) (hl : gL X = 3)  (kk : gg X M k n 4 [(0, .ref x0), (1, .int (-1)), (2, .int 0)] []) : gg X M k n 0 [(0, .ref x0)] [] := by
  refine g_iconst (v := (-1)) ok d_Mo_readVariable_0 (by decide) ?_
  refine g_istore_n (L' := [(0, .ref x0), (1, .int (-1))]) ok d_Mo_readVariable_1 rfl (by rw [hl]; decide) rfl ?_
  refine g_iconst (v := 0) ok d_Mo_readVariable_2 (by decide) ?_
  refine g_istore_n (L' := [(0, .ref x0), (1, .int (-1)), (2, .int 0)]) ok d_Mo_readVariable_3 rfl (by rw [hl]; decide) rfl ?_
  exact kk
theorem k_Mo_readVariable_4 {X : gC} {M : List mC} {k n : Nat} {x0 : Nat} {x1 : Int32} {x2 : Int32} {fs2 : List Value} {f3 : Int32} (ok : gO X c_Mo_readVariable "TripleStoreModel" w_Mo_readVariable) (h1 : M[x0]? = some (.inr (10, fs2))) (h4 : fs2[24]? = some (.int f3)) (kt : f3 ≤ x2 → gg X M k n 34 [(0, .ref x0), (1, .int x1)] []) (kf : ¬ f3 ≤ x2 → gg X M k n 12 [(0, .ref x0), (1, .int x1), (2, .int x2)] []) : gg X M k n 4 [(0, .ref x0), (1, .int x1), (2, .int x2)] [] := by
  refine g_iload_n ok d_Mo_readVariable_4 rfl (j := 2) rfl ?_
  refine g_aload_n ok d_Mo_readVariable_5 rfl (j := 0) rfl ?_
  refine gf_Mo_229 ok d_Mo_readVariable_6 h1 h4 ?_
  exact g_icmp_ge (tgt := 34) ok d_Mo_readVariable_9 (by decide) (fun z => (gg_keep [0, 1] (kt z))) (fun z => (kf z))
theorem k_Mo_readVariable_12 {X : gC} {M : List mC} {k n : Nat} {x0 : Nat} {x1 : Int32} {x2 : Int32} {fs2 : List Value} {f3 : Nat} {g6 : Nat → Int64} {N7 : Nat} {f9 : Int64} (ok : gO X c_Mo_readVariable "TripleStoreModel" w_Mo_readVariable) (h1 : M[x0]? = some (.inr (10, fs2))) (h4 : fs2[23]? = some (.ref f3)) (h5 : M[f3]? = some (.inl (1, N7, .inr (.inl g6)))) (h8 : vp_in x2 N7) (h10 : fs2[16]? = some (.long f9)) (kt : ¬ (g6 x2.toNatClampNeg) = f9 → gg X M k n 28 [(0, .ref x0), (1, .int x1), (2, .int x2)] []) (kf : (g6 x2.toNatClampNeg) = f9 → gg X M k n 26 [(0, .ref x0), (2, .int x2)] []) : gg X M k n 12 [(0, .ref x0), (1, .int x1), (2, .int x2)] [] := by
  refine g_aload_n ok d_Mo_readVariable_12 rfl (j := 0) rfl ?_
  refine gf_Mo_34 ok d_Mo_readVariable_13 h1 h4 ?_
  refine g_iload_n ok d_Mo_readVariable_16 rfl (j := 2) rfl ?_
  refine g_lald (t := 1) ok rfl d_Mo_readVariable_17 h5 h8 ?_
  refine g_aload_n ok d_Mo_readVariable_18 rfl (j := 0) rfl ?_
  refine gf_Mo_164 ok d_Mo_readVariable_19 h1 h10 ?_
  exact g_lc_ne (tgt := 28) ok d_Mo_readVariable_22 d_Mo_readVariable_23 (by decide) (fun z => (kt z)) (fun z => (gg_keep [0, 2] (kf z)))
theorem k_Mo_readVariable_26 {X : gC} {M : List mC} {k n : Nat} {x0 : Nat} {x2 : Int32} (ok : gO X c_Mo_readVariable "TripleStoreModel" w_Mo_readVariable) (hl : gL X = 3)  (kk : gg X M k n 28 [(0, .ref x0), (1, .int x2), (2, .int x2)] []) : gg X M k n 26 [(0, .ref x0), (2, .int x2)] [] := by
  refine g_iload_n ok d_Mo_readVariable_26 rfl (j := 1) rfl ?_
  refine g_istore_n (L' := [(0, .ref x0), (1, .int x2), (2, .int x2)]) ok d_Mo_readVariable_27 rfl (by rw [hl]; decide) rfl ?_
  exact kk
theorem k_Mo_readVariable_28 {X : gC} {M : List mC} {k n : Nat} {x0 : Nat} {x1 : Int32} {x2 : Int32} (ok : gO X c_Mo_readVariable "TripleStoreModel" w_Mo_readVariable) (hl : gL X = 3)  (kk : gg X M k n 4 [(0, .ref x0), (1, .int x1), (2, .int (x2 + 1))] []) : gg X M k n 28 [(0, .ref x0), (1, .int x1), (2, .int x2)] [] := by
  refine g_iinc (L' := [(0, .ref x0), (1, .int x1), (2, .int (x2 + 1))]) (v := (x2 + 1)) ok d_Mo_readVariable_28 (j := 2) rfl rfl (by rw [hl]; decide) rfl ?_
  exact g_goto (tgt := 4) ok d_Mo_readVariable_31 (by decide) kk
theorem k_Mo_readVariable_34 {X : gC} {M : List mC} {k n : Nat} {x0 : Nat} {x1 : Int32} {fs2 : List Value} {f3 : Int32} (ok : gO X c_Mo_readVariable "TripleStoreModel" w_Mo_readVariable) (h1 : M[x0]? = some (.inr (10, fs2))) (h4 : fs2[15]? = some (.int f3)) (kt : ¬ f3 = 3 → gg X M k n 83 [(0, .ref x0), (1, .int x1)] []) (kf : f3 = 3 → gg X M k n 42 [(0, .ref x0), (1, .int x1)] []) : gg X M k n 34 [(0, .ref x0), (1, .int x1)] [] := by
  refine g_aload_n ok d_Mo_readVariable_34 rfl (j := 0) rfl ?_
  refine gf_Mo_181 ok d_Mo_readVariable_35 h1 h4 ?_
  refine g_iconst (v := 3) ok d_Mo_readVariable_38 (by decide) ?_
  exact g_icmp_ne (tgt := 83) ok d_Mo_readVariable_39 (by decide) (fun z => (kt z)) (fun z => (kf z))
theorem k_Mo_readVariable_42 {X : gC} {M : List mC} {k n : Nat} {x0 : Nat} {x1 : Int32} (ok : gO X c_Mo_readVariable "TripleStoreModel" w_Mo_readVariable)  (kt : 0 ≤ x1 → gg X M k n 83 [(0, .ref x0), (1, .int x1)] []) (kf : ¬ 0 ≤ x1 → gg X M k n 46 [(0, .ref x0), (1, .int x1)] []) : gg X M k n 42 [(0, .ref x0), (1, .int x1)] [] := by
  refine g_iload_n ok d_Mo_readVariable_42 rfl (j := 1) rfl ?_
  exact g_if_ge (tgt := 83) ok d_Mo_readVariable_43 (by decide) (fun z => (kt z)) (fun z => (kf z))
theorem k_Mo_readVariable_46 {X : gC} {M : List mC} {k n : Nat} {x0 : Nat} {x1 : Int32} {fs2 : List Value} {f3 : Int32} (ok : gO X c_Mo_readVariable "TripleStoreModel" w_Mo_readVariable) (h1 : M[x0]? = some (.inr (10, fs2))) (h4 : fs2[24]? = some (.int f3)) (kt : 6 ≤ f3 → gg X M k n 83 [(0, .ref x0), (1, .int x1)] []) (kf : ¬ 6 ≤ f3 → gg X M k n 55 [(0, .ref x0)] []) : gg X M k n 46 [(0, .ref x0), (1, .int x1)] [] := by
  refine g_aload_n ok d_Mo_readVariable_46 rfl (j := 0) rfl ?_
  refine gf_Mo_229 ok d_Mo_readVariable_47 h1 h4 ?_
  refine g_bipush (v := 6) ok d_Mo_readVariable_50 (by decide) ?_
  exact g_icmp_ge (tgt := 83) ok d_Mo_readVariable_52 (by decide) (fun z => (kt z)) (fun z => (gg_keep [0] (kf z)))
theorem k_Mo_readVariable_55 {X : gC} {M : List mC} {k n : Nat} {x0 : Nat} {fs2 : List Value} {f3 : Nat} {f5 : Int32} {f7 : Int64} {g10 : Nat → Int64} {N11 : Nat} {M13 : List mC} {fs19 : List Value} {M21 : List mC} (ok : gO X c_Mo_readVariable "TripleStoreModel" w_Mo_readVariable) (hl : gL X = 3) (h1 : M[x0]? = some (.inr (10, fs2))) (h4 : fs2[23]? = some (.ref f3)) (h6 : fs2[24]? = some (.int f5)) (h8 : fs2[16]? = some (.long f7)) (h9 : M[f3]? = some (.inl (1, N11, .inr (.inl g10)))) (h12 : vp_in f5 N11) (h14 : M.set f3 (.inl (1, N11, .inr (.inl (vp_updL g10 f5.toNatClampNeg f7)))) = M13) (h18 : 59 ≤ fs2.length) (h20 : fs2.set 24 (.int (f5 + 1)) = fs19) (h22 : M13.set x0 (.inr (10, fs19)) = M21) (kk : gg X M21 k n 83 [(0, .ref x0), (1, .int f5)] []) : gg X M k n 55 [(0, .ref x0)] [] := by
  refine g_aload_n ok d_Mo_readVariable_55 rfl (j := 0) rfl ?_
  refine gf_Mo_34 ok d_Mo_readVariable_56 h1 h4 ?_
  refine g_aload_n ok d_Mo_readVariable_59 rfl (j := 0) rfl ?_
  refine gf_Mo_229 ok d_Mo_readVariable_60 h1 h6 ?_
  refine g_aload_n ok d_Mo_readVariable_63 rfl (j := 0) rfl ?_
  refine gf_Mo_164 ok d_Mo_readVariable_64 h1 h8 ?_
  refine g_last (t := 1) ok rfl d_Mo_readVariable_67 h9 h12 ?_
  rw [h14]
  have h15 : M13[f3]? = some (.inl (1, N11, .inr (.inl (vp_updL g10 f5.toNatClampNeg f7)))) := by rw [← h14]; exact gs_eq h9
  refine g_aload_n ok d_Mo_readVariable_68 rfl (j := 0) rfl ?_
  have h16 : M13[x0]? = some (.inr (10, fs2)) := by rw [← h14]; exact (gs_ne (ne_ao h9 h1)).trans h1
  refine gf_Mo_229 ok d_Mo_readVariable_69 h16 h6 ?_
  refine g_istore_n (L' := [(0, .ref x0), (1, .int f5)]) ok d_Mo_readVariable_72 rfl (by rw [hl]; decide) rfl ?_
  refine g_aload_n ok d_Mo_readVariable_73 rfl (j := 0) rfl ?_
  refine g_dup ok d_Mo_readVariable_74 rfl ?_
  refine gf_Mo_229 ok d_Mo_readVariable_75 h16 h6 ?_
  refine g_iconst (v := 1) ok d_Mo_readVariable_78 (by decide) ?_
  refine g_iadd ok d_Mo_readVariable_79 ?_
  have h17 : 24 < fs2.length := Nat.lt_of_lt_of_le (by decide) h18
  refine pf_Mo_229 ok d_Mo_readVariable_80 h16 h17 (fun _ => ⟨rfl, rfl⟩) ?_
  rw [h20]
  rw [h22]
  have h23 : M21[x0]? = some (.inr (10, fs19)) := by rw [← h22]; exact gs_eq h16
  have h24 : fs19[23]? = some (.ref f3) := by rw [← h20]; exact (List.getElem?_set_ne (by decide : 24 ≠ 23)).trans h4
  have h25 : fs19[16]? = some (.long f7) := by rw [← h20]; exact (List.getElem?_set_ne (by decide : 24 ≠ 16)).trans h8
  have h26 : fs19[24]? = some (.int (f5 + 1)) := by rw [← h20]; exact List.getElem?_set_self h17
  have h27 : 59 ≤ fs19.length := by rw [← h20, List.length_set]; exact h18
  exact kk
theorem k_Mo_readVariable_83 {X : gC} {M : List mC} {k n : Nat} {x0 : Nat} {x1 : Int32} {fs2 : List Value} {f3 : Int32} (ok : gO X c_Mo_readVariable "TripleStoreModel" w_Mo_readVariable) (h1 : M[x0]? = some (.inr (10, fs2))) (h4 : fs2[15]? = some (.int f3)) (kt : ¬ f3 = 3 → gg X M k n 100 [(0, .ref x0), (1, .int x1)] [.ref x0]) (kf : f3 = 3 → gg X M k n 92 [(0, .ref x0), (1, .int x1)] [.ref x0]) : gg X M k n 83 [(0, .ref x0), (1, .int x1)] [] := by
  refine g_aload_n ok d_Mo_readVariable_83 rfl (j := 0) rfl ?_
  refine g_aload_n ok d_Mo_readVariable_84 rfl (j := 0) rfl ?_
  refine gf_Mo_181 ok d_Mo_readVariable_85 h1 h4 ?_
  refine g_iconst (v := 3) ok d_Mo_readVariable_88 (by decide) ?_
  exact g_icmp_ne (tgt := 100) ok d_Mo_readVariable_89 (by decide) (fun z => (kt z)) (fun z => (kf z))
theorem k_Mo_readVariable_92 {X : gC} {M : List mC} {k n : Nat} {x0 : Nat} {x1 : Int32} (ok : gO X c_Mo_readVariable "TripleStoreModel" w_Mo_readVariable)  (kt : x1 < 0 → gg X M k n 100 [(0, .ref x0), (1, .int x1)] [.ref x0]) (kf : ¬ x1 < 0 → gg X M k n 96 [(0, .ref x0), (1, .int x1)] [.ref x0]) : gg X M k n 92 [(0, .ref x0), (1, .int x1)] [.ref x0] := by
  refine g_iload_n ok d_Mo_readVariable_92 rfl (j := 1) rfl ?_
  exact g_if_lt (tgt := 100) ok d_Mo_readVariable_93 (by decide) (fun z => (kt z)) (fun z => (kf z))
theorem k_Mo_readVariable_96 {X : gC} {M : List mC} {k n : Nat} {x0 : Nat} {x1 : Int32} (ok : gO X c_Mo_readVariable "TripleStoreModel" w_Mo_readVariable)  (kk : gg X M k n 101 [(0, .ref x0), (1, .int x1)] [.int 1, .ref x0]) : gg X M k n 96 [(0, .ref x0), (1, .int x1)] [.ref x0] := by
  refine g_iconst (v := 1) ok d_Mo_readVariable_96 (by decide) ?_
  exact g_goto (tgt := 101) ok d_Mo_readVariable_97 (by decide) kk
theorem k_Mo_readVariable_100 {X : gC} {M : List mC} {k n : Nat} {x0 : Nat} {x1 : Int32} (ok : gO X c_Mo_readVariable "TripleStoreModel" w_Mo_readVariable)  (kk : gg X M k n 101 [(0, .ref x0), (1, .int x1)] [.int 0, .ref x0]) : gg X M k n 100 [(0, .ref x0), (1, .int x1)] [.ref x0] := by
  refine g_iconst (v := 0) ok d_Mo_readVariable_100 (by decide) ?_
  exact kk
theorem k_Mo_readVariable_101 {X : gC} {M : List mC} {k n : Nat} {x0 : Nat} {x1 : Int32} {s1 : Int32} {fs2 : List Value} (ok : gO X c_Mo_readVariable "TripleStoreModel" w_Mo_readVariable) (h1 : M[x0]? = some (.inr (10, fs2))) {rm : Room} {post : Option Value → List mC → Prop} (hm : mm_ (gLa X) y_Mo_goOn w_Mo_goOn rm [.ref x0, .int s1] M post) (hR : gF X rm 2 k n) (hlen : ∀ r M', post r M' → M'.length = M.length) (kk : ∀ r M', post r M' → gg X M' (k + rm.cells) (n + rm.slots) 104 [(1, .int x1)] (r.toList ++ [])) : gg X M k n 101 [(0, .ref x0), (1, .int x1)] [.int s1, .ref x0] := by
  exact gc_Mo_232 (As := [.int s1]) (rest := []) ok d_Mo_readVariable_101 hm rfl rfl (Nat.le_of_ble_eq_true rfl) hR h1 hlen (fun r M' q => (gg_keep [1] (kk r M' q)))
theorem k_Mo_readVariable_104 {X : gC} {M : List mC} {k n : Nat} {x1 : Int32} {s0 : Int32} (ok : gO X c_Mo_readVariable "TripleStoreModel" w_Mo_readVariable)  (kt : s0 = 0 → gg X M k n 111 [] []) (kf : ¬ s0 = 0 → gg X M k n 107 [(1, .int x1)] []) : gg X M k n 104 [(1, .int x1)] [.int s0] := by
  exact g_if_eq (tgt := 111) ok d_Mo_readVariable_104 (by decide) (fun z => (gg_keep [] (kt z))) (fun z => (kf z))
theorem k_Mo_readVariable_107 {X : gC} {M : List mC} {k n : Nat} {x1 : Int32} (ok : gO X c_Mo_readVariable "TripleStoreModel" w_Mo_readVariable)  (kk : gg X M k n 112 [] [.int x1]) : gg X M k n 107 [(1, .int x1)] [] := by
  refine g_iload_n ok d_Mo_readVariable_107 rfl (j := 0) rfl ?_
  exact g_goto (tgt := 112) ok d_Mo_readVariable_108 (by decide) (gg_keep [] kk)
theorem k_Mo_readVariable_111 {X : gC} {M : List mC} {k n : Nat}  (ok : gO X c_Mo_readVariable "TripleStoreModel" w_Mo_readVariable)  (kk : gg X M k n 112 [] [.int (-1)]) : gg X M k n 111 [] [] := by
  refine g_iconst (v := (-1)) ok d_Mo_readVariable_111 (by decide) ?_
  exact kk
theorem k_Mo_readVariable_112 {X : gC} {M : List mC} {k n : Nat} {s0 : Int32} (ok : gO X c_Mo_readVariable "TripleStoreModel" w_Mo_readVariable)  {l9 : Launch} {rm : Room} {M0 : List mC} {post : Option Value → List mC → Prop} (E : gE X l9 y_Mo_readVariable rm 3 (some .int) M0 post) (hp : post (some (.int s0)) M) (hk : k ≤ rm.cells) (hn : n ≤ rm.slots) : gg X M k n 112 [] [.int s0] := by
  exact g_iret ok E d_Mo_readVariable_112 hp hk hn
theorem k_Mo_readSide_0 {X : gC} {M : List mC} {k n : Nat} {x0 : Nat} {x1 : Int32} {fs2 : List Value} {f3 : Nat} {g6 : Nat → Int32} {N7 : Nat} {M9 : List mC} {f13 : Int32} (ok : gO X c_Mo_readSide "TripleStoreModel" w_Mo_readSide) (h1 : M[x0]? = some (.inr (10, fs2))) (h4 : fs2[33]? = some (.ref f3)) (h5 : M[f3]? = some (.inl (0, N7, .inl g6))) (h8 : vp_in x1 N7) (h10 : M.set f3 (.inl (0, N7, .inl (upd g6 x1.toNatClampNeg (-1)))) = M9) (h14 : fs2[15]? = some (.int f13)) (kt : ¬ f13 = 3 → gg X M9 k n 28 [(0, .ref x0), (1, .int x1)] []) (kf : f13 = 3 → gg X M9 k n 15 [(0, .ref x0), (1, .int x1)] []) : gg X M k n 0 [(0, .ref x0), (1, .int x1)] [] := by
  refine g_aload_n ok d_Mo_readSide_0 rfl (j := 0) rfl ?_
  refine gf_Mo_49 ok d_Mo_readSide_1 h1 h4 ?_
  refine g_iload_n ok d_Mo_readSide_4 rfl (j := 1) rfl ?_
  refine g_iconst (v := (-1)) ok d_Mo_readSide_5 (by decide) ?_
  refine g_iast (t := 0) ok rfl d_Mo_readSide_6 h5 h8 ?_
  rw [h10]
  have h11 : M9[f3]? = some (.inl (0, N7, .inl (upd g6 x1.toNatClampNeg (-1)))) := by rw [← h10]; exact gs_eq h5
  refine g_aload_n ok d_Mo_readSide_7 rfl (j := 0) rfl ?_
  have h12 : M9[x0]? = some (.inr (10, fs2)) := by rw [← h10]; exact (gs_ne (ne_ao h5 h1)).trans h1
  refine gf_Mo_181 ok d_Mo_readSide_8 h12 h14 ?_
  refine g_iconst (v := 3) ok d_Mo_readSide_11 (by decide) ?_
  exact g_icmp_ne (tgt := 28) ok d_Mo_readSide_12 (by decide) (fun z => (kt z)) (fun z => (kf z))
theorem k_Mo_readSide_15 {X : gC} {M : List mC} {k n : Nat} {x0 : Nat} {x1 : Int32} {fs2 : List Value} {f3 : Nat} (ok : gO X c_Mo_readSide "TripleStoreModel" w_Mo_readSide) (h1 : M[x0]? = some (.inr (10, fs2))) (h4 : fs2[33]? = some (.ref f3)) {rm : Room} {post : Option Value → List mC → Prop} (hm : mm_ (gLa X) y_Mo_readVariable w_Mo_readVariable rm [.ref x0] M post) (hR : gF X rm 3 k n) (hlen : ∀ r M', post r M' → M'.length = M.length) (kk : ∀ r M', post r M' → gg X M' (k + rm.cells) (n + rm.slots) 24 [] (r.toList ++ [.int x1, .ref f3])) : gg X M k n 15 [(0, .ref x0), (1, .int x1)] [] := by
  refine g_aload_n ok d_Mo_readSide_15 rfl (j := 0) rfl ?_
  refine gf_Mo_49 ok d_Mo_readSide_16 h1 h4 ?_
  refine g_iload_n ok d_Mo_readSide_19 rfl (j := 1) rfl ?_
  refine g_aload_n ok d_Mo_readSide_20 rfl (j := 0) rfl ?_
  exact gc_Mo_236 (As := []) (rest := [.int x1, .ref f3]) ok d_Mo_readSide_21 hm rfl rfl (Nat.le_of_ble_eq_true rfl) hR h1 hlen (fun r M' q => (gg_keep [] (kk r M' q)))
theorem k_Mo_readSide_24 {X : gC} {M : List mC} {k n : Nat} {s0 : Nat} {s1 : Int32} {s2 : Int32} {g2 : Nat → Int32} {N3 : Nat} {M5 : List mC} (ok : gO X c_Mo_readSide "TripleStoreModel" w_Mo_readSide) (h1 : M[s0]? = some (.inl (0, N3, .inl g2))) (h4 : vp_in s1 N3) (h6 : M.set s0 (.inl (0, N3, .inl (upd g2 s1.toNatClampNeg s2))) = M5) (kk : gg X M5 k n 66 [] []) : gg X M k n 24 [] [.int s2, .int s1, .ref s0] := by
  refine g_iast (t := 0) ok rfl d_Mo_readSide_24 h1 h4 ?_
  rw [h6]
  have h7 : M5[s0]? = some (.inl (0, N3, .inl (upd g2 s1.toNatClampNeg s2))) := by rw [← h6]; exact gs_eq h1
  exact g_goto (tgt := 66) ok d_Mo_readSide_25 (by decide) kk
theorem k_Mo_readSide_28 {X : gC} {M : List mC} {k n : Nat} {x0 : Nat} {x1 : Int32} {fs2 : List Value} {f3 : Nat} {f5 : Int32} (ok : gO X c_Mo_readSide "TripleStoreModel" w_Mo_readSide) (h1 : M[x0]? = some (.inr (10, fs2))) (h4 : fs2[34]? = some (.ref f3)) (h6 : fs2[15]? = some (.int f5)) (kt : ¬ f5 = 2 → gg X M k n 52 [(0, .ref x0)] [.int x1, .ref f3]) (kf : f5 = 2 → gg X M k n 41 [(0, .ref x0)] [.int x1, .ref f3]) : gg X M k n 28 [(0, .ref x0), (1, .int x1)] [] := by
  refine g_aload_n ok d_Mo_readSide_28 rfl (j := 0) rfl ?_
  refine gf_Mo_52 ok d_Mo_readSide_29 h1 h4 ?_
  refine g_iload_n ok d_Mo_readSide_32 rfl (j := 1) rfl ?_
  refine g_aload_n ok d_Mo_readSide_33 rfl (j := 0) rfl ?_
  refine gf_Mo_181 ok d_Mo_readSide_34 h1 h6 ?_
  refine g_iconst (v := 2) ok d_Mo_readSide_37 (by decide) ?_
  exact g_icmp_ne (tgt := 52) ok d_Mo_readSide_38 (by decide) (fun z => (gg_keep [0] (kt z))) (fun z => (gg_keep [0] (kf z)))
theorem k_Mo_readSide_41 {X : gC} {M : List mC} {k n : Nat} {x0 : Nat} {s0 : Nat} {s1 : Int32} {fs2 : List Value} {f3 : Int64} (ok : gO X c_Mo_readSide "TripleStoreModel" w_Mo_readSide) (h1 : M[x0]? = some (.inr (10, fs2))) (h4 : fs2[16]? = some (.long f3)) (kk : gg X M k n 56 [(0, .ref x0)] [.long ((-1) - f3), .int s1, .ref s0]) : gg X M k n 41 [(0, .ref x0)] [.int s1, .ref s0] := by
  refine g_ldc2 (v := (-1)) ok (List.mem_cons_of_mem _ (gT_at 1174 (by decide +kernel) (by decide +kernel))) d_Mo_readSide_41 ?_
  refine g_aload_n ok d_Mo_readSide_44 rfl (j := 0) rfl ?_
  refine gf_Mo_164 ok d_Mo_readSide_45 h1 h4 ?_
  refine g_lsub ok d_Mo_readSide_48 ?_
  exact g_goto (tgt := 56) ok d_Mo_readSide_49 (by decide) kk
theorem k_Mo_readSide_52 {X : gC} {M : List mC} {k n : Nat} {x0 : Nat} {s0 : Nat} {s1 : Int32} {fs2 : List Value} {f3 : Int64} (ok : gO X c_Mo_readSide "TripleStoreModel" w_Mo_readSide) (h1 : M[x0]? = some (.inr (10, fs2))) (h4 : fs2[16]? = some (.long f3)) (kk : gg X M k n 56 [(0, .ref x0)] [.long f3, .int s1, .ref s0]) : gg X M k n 52 [(0, .ref x0)] [.int s1, .ref s0] := by
  refine g_aload_n ok d_Mo_readSide_52 rfl (j := 0) rfl ?_
  refine gf_Mo_164 ok d_Mo_readSide_53 h1 h4 ?_
  exact kk
theorem k_Mo_readSide_56 {X : gC} {M : List mC} {k n : Nat} {x0 : Nat} {s0 : Nat} {s1 : Int32} {s2 : Int64} {g2 : Nat → Int64} {N3 : Nat} {M5 : List mC} {fs9 : List Value} (ok : gO X c_Mo_readSide "TripleStoreModel" w_Mo_readSide) (h1 : M[s0]? = some (.inl (1, N3, .inr (.inl g2)))) (h4 : vp_in s1 N3) (h6 : M.set s0 (.inl (1, N3, .inr (.inl (vp_updL g2 s1.toNatClampNeg s2)))) = M5) (h8 : M[x0]? = some (.inr (10, fs9))) {rm : Room} {post : Option Value → List mC → Prop} (hm : mm_ (gLa X) y_Mo_isTerm w_Mo_isTerm rm [.ref x0] M5 post) (hR : gF X rm 3 k n) (hlen : ∀ r M', post r M' → M'.length = M5.length) (kk : ∀ r M', post r M' → gg X M' (k + rm.cells) (n + rm.slots) 62 [(0, .ref x0)] (r.toList ++ [.ref x0])) : gg X M k n 56 [(0, .ref x0)] [.long s2, .int s1, .ref s0] := by
  refine g_last (t := 1) ok rfl d_Mo_readSide_56 h1 h4 ?_
  rw [h6]
  have h7 : M5[s0]? = some (.inl (1, N3, .inr (.inl (vp_updL g2 s1.toNatClampNeg s2)))) := by rw [← h6]; exact gs_eq h1
  refine g_aload_n ok d_Mo_readSide_57 rfl (j := 0) rfl ?_
  refine g_aload_n ok d_Mo_readSide_58 rfl (j := 0) rfl ?_
  have h10 : M5[x0]? = some (.inr (10, fs9)) := by rw [← h6]; exact (gs_ne (ne_ao h1 h8)).trans h8
  exact gc_Mo_240 (As := []) (rest := [.ref x0]) ok d_Mo_readSide_59 hm rfl rfl (Nat.le_of_ble_eq_true rfl) hR h10 hlen kk
theorem k_Mo_readSide_62 {X : gC} {M : List mC} {k n : Nat} {x0 : Nat} {s1 : Int32} {fs2 : List Value} (ok : gO X c_Mo_readSide "TripleStoreModel" w_Mo_readSide) (h1 : M[x0]? = some (.inr (10, fs2))) {rm : Room} {post : Option Value → List mC → Prop} (hm : mm_ (gLa X) y_Mo_goOn w_Mo_goOn rm [.ref x0, .int s1] M post) (hR : gF X rm 2 k n) (hlen : ∀ r M', post r M' → M'.length = M.length) (kk : ∀ r M', post r M' → gg X M' (k + rm.cells) (n + rm.slots) 65 [] (r.toList ++ [])) : gg X M k n 62 [(0, .ref x0)] [.int s1, .ref x0] := by
  exact gc_Mo_232 (As := [.int s1]) (rest := []) ok d_Mo_readSide_62 hm rfl rfl (Nat.le_of_ble_eq_true rfl) hR h1 hlen (fun r M' q => (gg_keep [] (kk r M' q)))
theorem k_Mo_readSide_65 {X : gC} {M : List mC} {k n : Nat} {s0 : Int32} (ok : gO X c_Mo_readSide "TripleStoreModel" w_Mo_readSide) (hl : gL X = 3)  (kk : gg X M k n 66 [] []) : gg X M k n 65 [] [.int s0] := by
  refine g_istore_n (L' := [(2, .int s0)]) ok d_Mo_readSide_65 rfl (by rw [hl]; decide) rfl ?_
  exact (gg_keep [] kk)
theorem k_Mo_readSide_66 {X : gC} {M : List mC} {k n : Nat}  (ok : gO X c_Mo_readSide "TripleStoreModel" w_Mo_readSide)  {l9 : Launch} {rm : Room} {M0 : List mC} {post : Option Value → List mC → Prop} (E : gE X l9 y_Mo_readSide rm 3 none M0 post) (hp : post (none) M) (hk : k ≤ rm.cells) (hn : n ≤ rm.slots) : gg X M k n 66 [] [] := by
  exact g_vret ok E d_Mo_readSide_66 hp hk hn
theorem k_Mo_emit_0 {X : gC} {M : List mC} {k n : Nat} {x0 : Nat} {x1 : Int32} {x2 : Int32} {fs2 : List Value} {f3 : Nat} {f5 : Int32} {g8 : Nat → Int32} {N9 : Nat} {M11 : List mC} {f15 : Nat} {g18 : Nat → Int32} {N19 : Nat} {M23 : List mC} {fs29 : List Value} {M31 : List mC} (ok : gO X c_Mo_emit "TripleStoreModel" w_Mo_emit) (h1 : M[x0]? = some (.inr (10, fs2))) (h4 : fs2[30]? = some (.ref f3)) (h6 : fs2[32]? = some (.int f5)) (h7 : M[f3]? = some (.inl (0, N9, .inl g8))) (h10 : vp_in f5 N9) (h12 : M.set f3 (.inl (0, N9, .inl (upd g8 f5.toNatClampNeg x1))) = M11) (h16 : fs2[31]? = some (.ref f15)) (h17 : M[f15]? = some (.inl (0, N19, .inl g18))) (h21 : f15 ≠ f3) (h22 : vp_in f5 N19) (h24 : M11.set f15 (.inl (0, N19, .inl (upd g18 f5.toNatClampNeg x2))) = M23) (h28 : 59 ≤ fs2.length) (h30 : fs2.set 32 (.int (f5 + 1)) = fs29) (h32 : M23.set x0 (.inr (10, fs29)) = M31) {l9 : Launch} {rm : Room} {M0 : List mC} {post : Option Value → List mC → Prop} (E : gE X l9 y_Mo_emit rm 3 none M0 post) (hp : post (none) M31) (hk : k ≤ rm.cells) (hn : n ≤ rm.slots) : gg X M k n 0 [(0, .ref x0), (1, .int x1), (2, .int x2)] [] := by
  refine g_aload_n ok d_Mo_emit_0 rfl (j := 0) rfl ?_
  refine gf_Mo_43 ok d_Mo_emit_1 h1 h4 ?_
  refine g_aload_n ok d_Mo_emit_4 rfl (j := 0) rfl ?_
  refine gf_Mo_244 ok d_Mo_emit_5 h1 h6 ?_
  refine g_iload_n ok d_Mo_emit_8 rfl (j := 1) rfl ?_
  refine g_iast (t := 0) ok rfl d_Mo_emit_9 h7 h10 ?_
  rw [h12]
  have h13 : M11[f3]? = some (.inl (0, N9, .inl (upd g8 f5.toNatClampNeg x1))) := by rw [← h12]; exact gs_eq h7
  refine g_aload_n ok d_Mo_emit_10 rfl (j := 0) rfl ?_
  have h14 : M11[x0]? = some (.inr (10, fs2)) := by rw [← h12]; exact (gs_ne (ne_ao h7 h1)).trans h1
  refine gf_Mo_46 ok d_Mo_emit_11 h14 h16 ?_
  refine g_aload_n ok d_Mo_emit_14 rfl (j := 0) rfl ?_
  refine gf_Mo_244 ok d_Mo_emit_15 h14 h6 ?_
  refine g_iload_n ok d_Mo_emit_18 rfl (j := 2) rfl ?_
  have h20 : M11[f15]? = some (.inl (0, N19, .inl g18)) := by rw [← h12]; exact (gs_ne (Ne.symm h21)).trans h17
  refine g_iast (t := 0) ok rfl d_Mo_emit_19 h20 h22 ?_
  rw [h24]
  have h25 : M23[f15]? = some (.inl (0, N19, .inl (upd g18 f5.toNatClampNeg x2))) := by rw [← h24]; exact gs_eq h20
  refine g_aload_n ok d_Mo_emit_20 rfl (j := 0) rfl ?_
  refine g_dup ok d_Mo_emit_21 rfl ?_
  have h26 : M23[x0]? = some (.inr (10, fs2)) := by rw [← h24]; exact (gs_ne (ne_ao h20 h14)).trans h14
  refine gf_Mo_244 ok d_Mo_emit_22 h26 h6 ?_
  refine g_iconst (v := 1) ok d_Mo_emit_25 (by decide) ?_
  refine g_iadd ok d_Mo_emit_26 ?_
  have h27 : 32 < fs2.length := Nat.lt_of_lt_of_le (by decide) h28
  refine pf_Mo_244 ok d_Mo_emit_27 h26 h27 (fun _ => ⟨rfl, rfl⟩) ?_
  rw [h30]
  rw [h32]
  have h33 : M31[x0]? = some (.inr (10, fs29)) := by rw [← h32]; exact gs_eq h26
  have h34 : fs29[30]? = some (.ref f3) := by rw [← h30]; exact (List.getElem?_set_ne (by decide : 32 ≠ 30)).trans h4
  have h35 : fs29[31]? = some (.ref f15) := by rw [← h30]; exact (List.getElem?_set_ne (by decide : 32 ≠ 31)).trans h16
  have h36 : fs29[32]? = some (.int (f5 + 1)) := by rw [← h30]; exact List.getElem?_set_self h27
  have h37 : 59 ≤ fs29.length := by rw [← h30, List.length_set]; exact h28
  exact g_vret ok E d_Mo_emit_30 hp hk hn
theorem k_Mo_readTest_0 {X : gC} {M : List mC} {k n : Nat} {x0 : Nat} {fs2 : List Value} {f3 : Int32} {fs7 : List Value} {M9 : List mC} {f14 : Nat} {f17 : Nat} {f20 : Int32} {g24 : Nat → Int32} {N25 : Nat} {g29 : Nat → Int32} {N30 : Nat} {M33 : List mC} {f37 : Nat} {g41 : Nat → Int32} {N42 : Nat} {M47 : List mC} (ok : gO X c_Mo_readTest "TripleStoreModel" w_Mo_readTest) (hl : gL X = 3) (h1 : M[x0]? = some (.inr (10, fs2))) (h4 : fs2[39]? = some (.int f3)) (h6 : 59 ≤ fs2.length) (h8 : fs2.set 39 (.int (f3 + 1)) = fs7) (h10 : M.set x0 (.inr (10, fs7)) = M9) (h15 : fs2[36]? = some (.ref f14)) (h18 : fs2[29]? = some (.ref f17)) (h21 : fs2[27]? = some (.int f20)) (h23 : M[f17]? = some (.inl (0, N25, .inl g24))) (h27 : vp_in (f20 - 1) N25) (h28 : M[f14]? = some (.inl (0, N30, .inl g29))) (h32 : vp_in f3 N30) (h34 : M9.set f14 (.inl (0, N30, .inl (upd g29 f3.toNatClampNeg (g24 (f20 - 1).toNatClampNeg)))) = M33) (h38 : fs2[38]? = some (.ref f37)) (h40 : M[f37]? = some (.inl (3, N42, .inl g41))) (h45 : f14 ≠ f37) (h46 : vp_in f3 N42) (h48 : M33.set f37 (.inl (3, N42, .inl (upd g41 f3.toNatClampNeg (vp_nar .boolean 0)))) = M47) (kk : gg X M47 k n 41 [(0, .ref x0), (1, .int f3), (2, .int 0)] []) : gg X M k n 0 [(0, .ref x0)] [] := by
  refine g_aload_n ok d_Mo_readTest_0 rfl (j := 0) rfl ?_
  refine gf_Mo_247 ok d_Mo_readTest_1 h1 h4 ?_
  refine g_istore_n (L' := [(0, .ref x0), (1, .int f3)]) ok d_Mo_readTest_4 rfl (by rw [hl]; decide) rfl ?_
  refine g_aload_n ok d_Mo_readTest_5 rfl (j := 0) rfl ?_
  refine g_dup ok d_Mo_readTest_6 rfl ?_
  refine gf_Mo_247 ok d_Mo_readTest_7 h1 h4 ?_
  refine g_iconst (v := 1) ok d_Mo_readTest_10 (by decide) ?_
  refine g_iadd ok d_Mo_readTest_11 ?_
  have h5 : 39 < fs2.length := Nat.lt_of_lt_of_le (by decide) h6
  refine pf_Mo_247 ok d_Mo_readTest_12 h1 h5 (fun _ => ⟨rfl, rfl⟩) ?_
  rw [h8]
  rw [h10]
  have h11 : M9[x0]? = some (.inr (10, fs7)) := by rw [← h10]; exact gs_eq h1
  have h12 : fs7[39]? = some (.int (f3 + 1)) := by rw [← h8]; exact List.getElem?_set_self h5
  have h13 : 59 ≤ fs7.length := by rw [← h8, List.length_set]; exact h6
  refine g_aload_n ok d_Mo_readTest_15 rfl (j := 0) rfl ?_
  have h16 : fs7[36]? = some (.ref f14) := by rw [← h8]; exact (List.getElem?_set_ne (by decide : 39 ≠ 36)).trans h15
  refine gf_Mo_55 ok d_Mo_readTest_16 h11 h16 ?_
  refine g_iload_n ok d_Mo_readTest_19 rfl (j := 1) rfl ?_
  refine g_aload_n ok d_Mo_readTest_20 rfl (j := 0) rfl ?_
  have h19 : fs7[29]? = some (.ref f17) := by rw [← h8]; exact (List.getElem?_set_ne (by decide : 39 ≠ 29)).trans h18
  refine gf_Mo_40 ok d_Mo_readTest_21 h11 h19 ?_
  refine g_aload_n ok d_Mo_readTest_24 rfl (j := 0) rfl ?_
  have h22 : fs7[27]? = some (.int f20) := by rw [← h8]; exact (List.getElem?_set_ne (by decide : 39 ≠ 27)).trans h21
  refine gf_Mo_250 ok d_Mo_readTest_25 h11 h22 ?_
  refine g_iconst (v := 1) ok d_Mo_readTest_28 (by decide) ?_
  refine g_isub ok d_Mo_readTest_29 ?_
  have h26 : M9[f17]? = some (.inl (0, N25, .inl g24)) := by rw [← h10]; exact (gs_ne (Ne.symm (ne_ao h23 h1))).trans h23
  refine g_iald (t := 0) ok rfl d_Mo_readTest_30 h26 h27 ?_
  have h31 : M9[f14]? = some (.inl (0, N30, .inl g29)) := by rw [← h10]; exact (gs_ne (Ne.symm (ne_ao h28 h1))).trans h28
  refine g_iast (t := 0) ok rfl d_Mo_readTest_31 h31 h32 ?_
  rw [h34]
  have h35 : M33[f14]? = some (.inl (0, N30, .inl (upd g29 f3.toNatClampNeg (g24 (f20 - 1).toNatClampNeg)))) := by rw [← h34]; exact gs_eq h31
  refine g_aload_n ok d_Mo_readTest_32 rfl (j := 0) rfl ?_
  have h36 : M33[x0]? = some (.inr (10, fs7)) := by rw [← h34]; exact (gs_ne (ne_ao h31 h11)).trans h11
  have h39 : fs7[38]? = some (.ref f37) := by rw [← h8]; exact (List.getElem?_set_ne (by decide : 39 ≠ 38)).trans h38
  refine gf_Mo_61 ok d_Mo_readTest_33 h36 h39 ?_
  refine g_iload_n ok d_Mo_readTest_36 rfl (j := 1) rfl ?_
  refine g_iconst (v := 0) ok d_Mo_readTest_37 (by decide) ?_
  have h43 : M9[f37]? = some (.inl (3, N42, .inl g41)) := by rw [← h10]; exact (gs_ne (Ne.symm (ne_ao h40 h1))).trans h40
  have h44 : M33[f37]? = some (.inl (3, N42, .inl g41)) := by rw [← h34]; exact (gs_ne h45).trans h43
  refine g_zast (t := 3) ok rfl d_Mo_readTest_38 h44 h46 ?_
  rw [h48]
  have h49 : M47[f37]? = some (.inl (3, N42, .inl (upd g41 f3.toNatClampNeg (vp_nar .boolean 0)))) := by rw [← h48]; exact gs_eq h44
  refine g_iconst (v := 0) ok d_Mo_readTest_39 (by decide) ?_
  refine g_istore_n (L' := [(0, .ref x0), (1, .int f3), (2, .int 0)]) ok d_Mo_readTest_40 rfl (by rw [hl]; decide) rfl ?_
  exact kk
theorem k_Mo_readTest_41 {X : gC} {M : List mC} {k n : Nat} {x0 : Nat} {x1 : Int32} {x2 : Int32} {fs2 : List Value} (ok : gO X c_Mo_readTest "TripleStoreModel" w_Mo_readTest) (h1 : M[x0]? = some (.inr (10, fs2))) {rm : Room} {post : Option Value → List mC → Prop} (hm : mm_ (gLa X) y_Mo_isKey w_Mo_isKey rm [.ref x0, .int 9] M post) (hR : gF X rm 4 k n) (hlen : ∀ r M', post r M' → M'.length = M.length) (kk : ∀ r M', post r M' → gg X M' (k + rm.cells) (n + rm.slots) 47 [(0, .ref x0), (1, .int x1), (2, .int x2)] (r.toList ++ [])) : gg X M k n 41 [(0, .ref x0), (1, .int x1), (2, .int x2)] [] := by
  refine g_aload_n ok d_Mo_readTest_41 rfl (j := 0) rfl ?_
  refine g_bipush (v := 9) ok d_Mo_readTest_42 (by decide) ?_
  exact gc_Mo_217 (As := [.int 9]) (rest := []) ok d_Mo_readTest_44 hm rfl rfl (Nat.le_of_ble_eq_true rfl) hR h1 hlen kk
theorem k_Mo_readTest_47 {X : gC} {M : List mC} {k n : Nat} {x0 : Nat} {x1 : Int32} {x2 : Int32} {s0 : Int32} (ok : gO X c_Mo_readTest "TripleStoreModel" w_Mo_readTest)  (kt : s0 = 0 → gg X M k n 101 [(0, .ref x0), (1, .int x1)] []) (kf : ¬ s0 = 0 → gg X M k n 50 [(0, .ref x0), (1, .int x1), (2, .int x2)] []) : gg X M k n 47 [(0, .ref x0), (1, .int x1), (2, .int x2)] [.int s0] := by
  exact g_if_eq (tgt := 101) ok d_Mo_readTest_47 (by decide) (fun z => (gg_keep [0, 1] (kt z))) (fun z => (kf z))
theorem k_Mo_readTest_50 {X : gC} {M : List mC} {k n : Nat} {x0 : Nat} {x1 : Int32} {x2 : Int32} {fs2 : List Value} {f3 : Int32} (ok : gO X c_Mo_readTest "TripleStoreModel" w_Mo_readTest) (h1 : M[x0]? = some (.inr (10, fs2))) (h4 : fs2[20]? = some (.int f3)) (kt : 0 ≤ f3 → gg X M k n 101 [(0, .ref x0), (1, .int x1)] []) (kf : ¬ 0 ≤ f3 → gg X M k n 57 [(0, .ref x0), (1, .int x1), (2, .int x2)] []) : gg X M k n 50 [(0, .ref x0), (1, .int x1), (2, .int x2)] [] := by
  refine g_aload_n ok d_Mo_readTest_50 rfl (j := 0) rfl ?_
  refine gf_Mo_220 ok d_Mo_readTest_51 h1 h4 ?_
  exact g_if_ge (tgt := 101) ok d_Mo_readTest_54 (by decide) (fun z => (gg_keep [0, 1] (kt z))) (fun z => (kf z))
theorem k_Mo_readTest_57 {X : gC} {M : List mC} {k n : Nat} {x0 : Nat} {x1 : Int32} {x2 : Int32} {fs2 : List Value} {f3 : Nat} {g6 : Nat → Int32} {N7 : Nat} (ok : gO X c_Mo_readTest "TripleStoreModel" w_Mo_readTest) (h1 : M[x0]? = some (.inr (10, fs2))) (h4 : fs2[38]? = some (.ref f3)) (h5 : M[f3]? = some (.inl (3, N7, .inl g6))) (h8 : vp_in x1 N7) (kt : ¬ (g6 x1.toNatClampNeg) = 0 → gg X M k n 75 [(0, .ref x0), (1, .int x1), (2, .int x2)] [.int x1, .ref f3]) (kf : (g6 x1.toNatClampNeg) = 0 → gg X M k n 71 [(0, .ref x0), (1, .int x1), (2, .int x2)] [.int x1, .ref f3]) : gg X M k n 57 [(0, .ref x0), (1, .int x1), (2, .int x2)] [] := by
  refine g_aload_n ok d_Mo_readTest_57 rfl (j := 0) rfl ?_
  refine gf_Mo_61 ok d_Mo_readTest_58 h1 h4 ?_
  refine g_iload_n ok d_Mo_readTest_61 rfl (j := 1) rfl ?_
  refine g_aload_n ok d_Mo_readTest_62 rfl (j := 0) rfl ?_
  refine gf_Mo_61 ok d_Mo_readTest_63 h1 h4 ?_
  refine g_iload_n ok d_Mo_readTest_66 rfl (j := 1) rfl ?_
  refine g_zald (t := 3) ok rfl d_Mo_readTest_67 h5 h8 ?_
  exact g_if_ne (tgt := 75) ok d_Mo_readTest_68 (by decide) (fun z => (kt z)) (fun z => (kf z))
theorem k_Mo_readTest_71 {X : gC} {M : List mC} {k n : Nat} {x0 : Nat} {x1 : Int32} {x2 : Int32} {s0 : Nat} {s1 : Int32} (ok : gO X c_Mo_readTest "TripleStoreModel" w_Mo_readTest)  (kk : gg X M k n 76 [(0, .ref x0), (1, .int x1), (2, .int x2)] [.int 1, .int s1, .ref s0]) : gg X M k n 71 [(0, .ref x0), (1, .int x1), (2, .int x2)] [.int s1, .ref s0] := by
  refine g_iconst (v := 1) ok d_Mo_readTest_71 (by decide) ?_
  exact g_goto (tgt := 76) ok d_Mo_readTest_72 (by decide) kk
theorem k_Mo_readTest_75 {X : gC} {M : List mC} {k n : Nat} {x0 : Nat} {x1 : Int32} {x2 : Int32} {s0 : Nat} {s1 : Int32} (ok : gO X c_Mo_readTest "TripleStoreModel" w_Mo_readTest)  (kk : gg X M k n 76 [(0, .ref x0), (1, .int x1), (2, .int x2)] [.int 0, .int s1, .ref s0]) : gg X M k n 75 [(0, .ref x0), (1, .int x1), (2, .int x2)] [.int s1, .ref s0] := by
  refine g_iconst (v := 0) ok d_Mo_readTest_75 (by decide) ?_
  exact kk
theorem k_Mo_readTest_76 {X : gC} {M : List mC} {k n : Nat} {x0 : Nat} {x1 : Int32} {x2 : Int32} {s0 : Nat} {s1 : Int32} {s2 : Int32} {g2 : Nat → Int32} {N3 : Nat} {M5 : List mC} (ok : gO X c_Mo_readTest "TripleStoreModel" w_Mo_readTest) (h1 : M[s0]? = some (.inl (3, N3, .inl g2))) (h4 : vp_in s1 N3) (h6 : M.set s0 (.inl (3, N3, .inl (upd g2 s1.toNatClampNeg (vp_nar .boolean s2)))) = M5) (kt : 4 ≤ x2 → gg X M5 k n 87 [(0, .ref x0), (1, .int x1), (2, .int x2)] [.ref x0]) (kf : ¬ 4 ≤ x2 → gg X M5 k n 83 [(0, .ref x0), (1, .int x1), (2, .int x2)] [.ref x0]) : gg X M k n 76 [(0, .ref x0), (1, .int x1), (2, .int x2)] [.int s2, .int s1, .ref s0] := by
  refine g_zast (t := 3) ok rfl d_Mo_readTest_76 h1 h4 ?_
  rw [h6]
  have h7 : M5[s0]? = some (.inl (3, N3, .inl (upd g2 s1.toNatClampNeg (vp_nar .boolean s2)))) := by rw [← h6]; exact gs_eq h1
  refine g_aload_n ok d_Mo_readTest_77 rfl (j := 0) rfl ?_
  refine g_iload_n ok d_Mo_readTest_78 rfl (j := 2) rfl ?_
  refine g_iconst (v := 4) ok d_Mo_readTest_79 (by decide) ?_
  exact g_icmp_ge (tgt := 87) ok d_Mo_readTest_80 (by decide) (fun z => (kt z)) (fun z => (kf z))
theorem k_Mo_readTest_83 {X : gC} {M : List mC} {k n : Nat} {x0 : Nat} {x1 : Int32} {x2 : Int32} (ok : gO X c_Mo_readTest "TripleStoreModel" w_Mo_readTest)  (kk : gg X M k n 88 [(0, .ref x0), (1, .int x1), (2, .int x2)] [.int 1, .ref x0]) : gg X M k n 83 [(0, .ref x0), (1, .int x1), (2, .int x2)] [.ref x0] := by
  refine g_iconst (v := 1) ok d_Mo_readTest_83 (by decide) ?_
  exact g_goto (tgt := 88) ok d_Mo_readTest_84 (by decide) kk
theorem k_Mo_readTest_87 {X : gC} {M : List mC} {k n : Nat} {x0 : Nat} {x1 : Int32} {x2 : Int32} (ok : gO X c_Mo_readTest "TripleStoreModel" w_Mo_readTest)  (kk : gg X M k n 88 [(0, .ref x0), (1, .int x1), (2, .int x2)] [.int 0, .ref x0]) : gg X M k n 87 [(0, .ref x0), (1, .int x1), (2, .int x2)] [.ref x0] := by
  refine g_iconst (v := 0) ok d_Mo_readTest_87 (by decide) ?_
  exact kk
theorem k_Mo_readTest_88 {X : gC} {M : List mC} {k n : Nat} {x0 : Nat} {x1 : Int32} {x2 : Int32} {s1 : Int32} {fs2 : List Value} (ok : gO X c_Mo_readTest "TripleStoreModel" w_Mo_readTest) (h1 : M[x0]? = some (.inr (10, fs2))) {rm : Room} {post : Option Value → List mC → Prop} (hm : mm_ (gLa X) y_Mo_goOn w_Mo_goOn rm [.ref x0, .int s1] M post) (hR : gF X rm 2 k n) (hlen : ∀ r M', post r M' → M'.length = M.length) (kk : ∀ r M', post r M' → gg X M' (k + rm.cells) (n + rm.slots) 91 [(0, .ref x0), (1, .int x1), (2, .int x2)] (r.toList ++ [])) : gg X M k n 88 [(0, .ref x0), (1, .int x1), (2, .int x2)] [.int s1, .ref x0] := by
  exact gc_Mo_232 (As := [.int s1]) (rest := []) ok d_Mo_readTest_88 hm rfl rfl (Nat.le_of_ble_eq_true rfl) hR h1 hlen kk
theorem k_Mo_readTest_91 {X : gC} {M : List mC} {k n : Nat} {x0 : Nat} {x1 : Int32} {x2 : Int32} {s0 : Int32} (ok : gO X c_Mo_readTest "TripleStoreModel" w_Mo_readTest)  (kt : ¬ s0 = 0 → gg X M k n 95 [(0, .ref x0), (1, .int x1), (2, .int x2)] []) (kf : s0 = 0 → gg X M k n 94 [] []) : gg X M k n 91 [(0, .ref x0), (1, .int x1), (2, .int x2)] [.int s0] := by
  exact g_if_ne (tgt := 95) ok d_Mo_readTest_91 (by decide) (fun z => (kt z)) (fun z => (gg_keep [] (kf z)))
theorem k_Mo_readTest_94 {X : gC} {M : List mC} {k n : Nat}  (ok : gO X c_Mo_readTest "TripleStoreModel" w_Mo_readTest)  {l9 : Launch} {rm : Room} {M0 : List mC} {post : Option Value → List mC → Prop} (E : gE X l9 y_Mo_readTest rm 3 none M0 post) (hp : post (none) M) (hk : k ≤ rm.cells) (hn : n ≤ rm.slots) : gg X M k n 94 [] [] := by
  exact g_vret ok E d_Mo_readTest_94 hp hk hn
theorem k_Mo_readTest_95 {X : gC} {M : List mC} {k n : Nat} {x0 : Nat} {x1 : Int32} {x2 : Int32} (ok : gO X c_Mo_readTest "TripleStoreModel" w_Mo_readTest) (hl : gL X = 3)  (kk : gg X M k n 41 [(0, .ref x0), (1, .int x1), (2, .int (x2 + 1))] []) : gg X M k n 95 [(0, .ref x0), (1, .int x1), (2, .int x2)] [] := by
  refine g_iinc (L' := [(0, .ref x0), (1, .int x1), (2, .int (x2 + 1))]) (v := (x2 + 1)) ok d_Mo_readTest_95 (j := 2) rfl rfl (by rw [hl]; decide) rfl ?_
  exact g_goto (tgt := 41) ok d_Mo_readTest_98 (by decide) kk
theorem k_Mo_readTest_101 {X : gC} {M : List mC} {k n : Nat} {x0 : Nat} {x1 : Int32} {fs2 : List Value} (ok : gO X c_Mo_readTest "TripleStoreModel" w_Mo_readTest) (h1 : M[x0]? = some (.inr (10, fs2))) {rm : Room} {post : Option Value → List mC → Prop} (hm : mm_ (gLa X) y_Mo_isKey w_Mo_isKey rm [.ref x0, .int 10] M post) (hR : gF X rm 4 k n) (hlen : ∀ r M', post r M' → M'.length = M.length) (kk : ∀ r M', post r M' → gg X M' (k + rm.cells) (n + rm.slots) 107 [(0, .ref x0), (1, .int x1)] (r.toList ++ [])) : gg X M k n 101 [(0, .ref x0), (1, .int x1)] [] := by
  refine g_aload_n ok d_Mo_readTest_101 rfl (j := 0) rfl ?_
  refine g_bipush (v := 10) ok d_Mo_readTest_102 (by decide) ?_
  exact gc_Mo_217 (As := [.int 10]) (rest := []) ok d_Mo_readTest_104 hm rfl rfl (Nat.le_of_ble_eq_true rfl) hR h1 hlen kk
theorem k_Mo_readTest_107 {X : gC} {M : List mC} {k n : Nat} {x0 : Nat} {x1 : Int32} {s0 : Int32} (ok : gO X c_Mo_readTest "TripleStoreModel" w_Mo_readTest)  (kt : s0 = 0 → gg X M k n 138 [(0, .ref x0), (1, .int x1)] []) (kf : ¬ s0 = 0 → gg X M k n 110 [(0, .ref x0), (1, .int x1)] []) : gg X M k n 107 [(0, .ref x0), (1, .int x1)] [.int s0] := by
  exact g_if_eq (tgt := 138) ok d_Mo_readTest_107 (by decide) (fun z => (kt z)) (fun z => (kf z))
theorem k_Mo_readTest_110 {X : gC} {M : List mC} {k n : Nat} {x0 : Nat} {x1 : Int32} {fs2 : List Value} (ok : gO X c_Mo_readTest "TripleStoreModel" w_Mo_readTest) (h1 : M[x0]? = some (.inr (10, fs2))) {rm : Room} {post : Option Value → List mC → Prop} (hm : mm_ (gLa X) y_Mo_next w_Mo_next rm [.ref x0] M post) (hR : gF X rm 3 k n) (hlen : ∀ r M', post r M' → M'.length = M.length) (kk : ∀ r M', post r M' → gg X M' (k + rm.cells) (n + rm.slots) 114 [(0, .ref x0), (1, .int x1)] (r.toList ++ [])) : gg X M k n 110 [(0, .ref x0), (1, .int x1)] [] := by
  refine g_aload_n ok d_Mo_readTest_110 rfl (j := 0) rfl ?_
  exact gc_Mo_226 (As := []) (rest := []) ok d_Mo_readTest_111 hm rfl rfl (Nat.le_of_ble_eq_true rfl) hR h1 hlen kk
theorem k_Mo_readTest_114 {X : gC} {M : List mC} {k n : Nat} {x0 : Nat} {x1 : Int32} {fs2 : List Value} {f3 : Nat} {g6 : Nat → Int32} {N7 : Nat} {M9 : List mC} {f13 : Nat} (ok : gO X c_Mo_readTest "TripleStoreModel" w_Mo_readTest) (h1 : M[x0]? = some (.inr (10, fs2))) (h4 : fs2[37]? = some (.ref f3)) (h5 : M[f3]? = some (.inl (0, N7, .inl g6))) (h8 : vp_in x1 N7) (h10 : M.set f3 (.inl (0, N7, .inl (upd g6 x1.toNatClampNeg 98))) = M9) (h14 : fs2[33]? = some (.ref f13)) {rm : Room} {post : Option Value → List mC → Prop} (hm : mm_ (gLa X) y_Mo_readVariable w_Mo_readVariable rm [.ref x0] M9 post) (hR : gF X rm 3 k n) (hlen : ∀ r M', post r M' → M'.length = M9.length) (kk : ∀ r M', post r M' → gg X M' (k + rm.cells) (n + rm.slots) 136 [] (r.toList ++ [.int (60 + (2 * x1)), .ref f13])) : gg X M k n 114 [(0, .ref x0), (1, .int x1)] [] := by
  refine g_aload_n ok d_Mo_readTest_114 rfl (j := 0) rfl ?_
  refine gf_Mo_58 ok d_Mo_readTest_115 h1 h4 ?_
  refine g_iload_n ok d_Mo_readTest_118 rfl (j := 1) rfl ?_
  refine g_bipush (v := 98) ok d_Mo_readTest_119 (by decide) ?_
  refine g_iast (t := 0) ok rfl d_Mo_readTest_121 h5 h8 ?_
  rw [h10]
  have h11 : M9[f3]? = some (.inl (0, N7, .inl (upd g6 x1.toNatClampNeg 98))) := by rw [← h10]; exact gs_eq h5
  refine g_aload_n ok d_Mo_readTest_122 rfl (j := 0) rfl ?_
  have h12 : M9[x0]? = some (.inr (10, fs2)) := by rw [← h10]; exact (gs_ne (ne_ao h5 h1)).trans h1
  refine gf_Mo_49 ok d_Mo_readTest_123 h12 h14 ?_
  refine g_bipush (v := 60) ok d_Mo_readTest_126 (by decide) ?_
  refine g_iconst (v := 2) ok d_Mo_readTest_128 (by decide) ?_
  refine g_iload_n ok d_Mo_readTest_129 rfl (j := 1) rfl ?_
  refine g_imul ok d_Mo_readTest_130 ?_
  refine g_iadd ok d_Mo_readTest_131 ?_
  refine g_aload_n ok d_Mo_readTest_132 rfl (j := 0) rfl ?_
  exact gc_Mo_236 (As := []) (rest := [.int (60 + (2 * x1)), .ref f13]) ok d_Mo_readTest_133 hm rfl rfl (Nat.le_of_ble_eq_true rfl) hR h12 hlen (fun r M' q => (gg_keep [] (kk r M' q)))
theorem k_Mo_readTest_136 {X : gC} {M : List mC} {k n : Nat} {s0 : Nat} {s1 : Int32} {s2 : Int32} {g2 : Nat → Int32} {N3 : Nat} {M5 : List mC} (ok : gO X c_Mo_readTest "TripleStoreModel" w_Mo_readTest) (h1 : M[s0]? = some (.inl (0, N3, .inl g2))) (h4 : vp_in s1 N3) (h6 : M.set s0 (.inl (0, N3, .inl (upd g2 s1.toNatClampNeg s2))) = M5) {l9 : Launch} {rm : Room} {M0 : List mC} {post : Option Value → List mC → Prop} (E : gE X l9 y_Mo_readTest rm 3 none M0 post) (hp : post (none) M5) (hk : k ≤ rm.cells) (hn : n ≤ rm.slots) : gg X M k n 136 [] [.int s2, .int s1, .ref s0] := by
  refine g_iast (t := 0) ok rfl d_Mo_readTest_136 h1 h4 ?_
  rw [h6]
  have h7 : M5[s0]? = some (.inl (0, N3, .inl (upd g2 s1.toNatClampNeg s2))) := by rw [← h6]; exact gs_eq h1
  exact g_vret ok E d_Mo_readTest_137 hp hk hn
theorem k_Mo_readTest_138 {X : gC} {M : List mC} {k n : Nat} {x0 : Nat} {x1 : Int32} {fs2 : List Value} (ok : gO X c_Mo_readTest "TripleStoreModel" w_Mo_readTest) (h1 : M[x0]? = some (.inr (10, fs2))) {rm : Room} {post : Option Value → List mC → Prop} (hm : mm_ (gLa X) y_Mo_readSide w_Mo_readSide rm [.ref x0, .int (60 + (2 * x1))] M post) (hR : gF X rm 3 k n) (hlen : ∀ r M', post r M' → M'.length = M.length) (kk : ∀ r M', post r M' → gg X M' (k + rm.cells) (n + rm.slots) 148 [(0, .ref x0), (1, .int x1)] (r.toList ++ [])) : gg X M k n 138 [(0, .ref x0), (1, .int x1)] [] := by
  refine g_aload_n ok d_Mo_readTest_138 rfl (j := 0) rfl ?_
  refine g_bipush (v := 60) ok d_Mo_readTest_139 (by decide) ?_
  refine g_iconst (v := 2) ok d_Mo_readTest_141 (by decide) ?_
  refine g_iload_n ok d_Mo_readTest_142 rfl (j := 1) rfl ?_
  refine g_imul ok d_Mo_readTest_143 ?_
  refine g_iadd ok d_Mo_readTest_144 ?_
  exact gc_Mo_253 (As := [.int (60 + (2 * x1))]) (rest := []) ok d_Mo_readTest_145 hm rfl rfl (Nat.le_of_ble_eq_true rfl) hR h1 hlen kk
theorem k_Mo_readTest_148 {X : gC} {M : List mC} {k n : Nat} {x0 : Nat} {x1 : Int32} {fs2 : List Value} {f3 : Int32} (ok : gO X c_Mo_readTest "TripleStoreModel" w_Mo_readTest) (h1 : M[x0]? = some (.inr (10, fs2))) (h4 : fs2[20]? = some (.int f3)) (kt : f3 < 0 → gg X M k n 156 [(0, .ref x0), (1, .int x1)] []) (kf : ¬ f3 < 0 → gg X M k n 155 [] []) : gg X M k n 148 [(0, .ref x0), (1, .int x1)] [] := by
  refine g_aload_n ok d_Mo_readTest_148 rfl (j := 0) rfl ?_
  refine gf_Mo_220 ok d_Mo_readTest_149 h1 h4 ?_
  exact g_if_lt (tgt := 156) ok d_Mo_readTest_152 (by decide) (fun z => (kt z)) (fun z => (gg_keep [] (kf z)))
theorem k_Mo_readTest_155 {X : gC} {M : List mC} {k n : Nat}  (ok : gO X c_Mo_readTest "TripleStoreModel" w_Mo_readTest)  {l9 : Launch} {rm : Room} {M0 : List mC} {post : Option Value → List mC → Prop} (E : gE X l9 y_Mo_readTest rm 3 none M0 post) (hp : post (none) M) (hk : k ≤ rm.cells) (hn : n ≤ rm.slots) : gg X M k n 155 [] [] := by
  exact g_vret ok E d_Mo_readTest_155 hp hk hn
theorem k_Mo_readTest_156 {X : gC} {M : List mC} {k n : Nat} {x0 : Nat} {x1 : Int32} {fs2 : List Value} {f3 : Nat} {f5 : Int64} {g8 : Nat → Int32} {N9 : Nat} {M11 : List mC} (ok : gO X c_Mo_readTest "TripleStoreModel" w_Mo_readTest) (h1 : M[x0]? = some (.inr (10, fs2))) (h4 : fs2[37]? = some (.ref f3)) (h6 : fs2[16]? = some (.long f5)) (h7 : M[f3]? = some (.inl (0, N9, .inl g8))) (h10 : vp_in x1 N9) (h12 : M.set f3 (.inl (0, N9, .inl (upd g8 x1.toNatClampNeg ((f5 : Int64).toInt32)))) = M11) {rm : Room} {post : Option Value → List mC → Prop} (hm : mm_ (gLa X) y_Mo_isSign w_Mo_isSign rm [.ref x0, .int 61] M11 post) (hR : gF X rm 2 k n) (hlen : ∀ r M', post r M' → M'.length = M11.length) (kk : ∀ r M', post r M' → gg X M' (k + rm.cells) (n + rm.slots) 174 [(0, .ref x0), (1, .int x1)] (r.toList ++ [.ref x0])) : gg X M k n 156 [(0, .ref x0), (1, .int x1)] [] := by
  refine g_aload_n ok d_Mo_readTest_156 rfl (j := 0) rfl ?_
  refine gf_Mo_58 ok d_Mo_readTest_157 h1 h4 ?_
  refine g_iload_n ok d_Mo_readTest_160 rfl (j := 1) rfl ?_
  refine g_aload_n ok d_Mo_readTest_161 rfl (j := 0) rfl ?_
  refine gf_Mo_164 ok d_Mo_readTest_162 h1 h6 ?_
  refine g_l2i ok d_Mo_readTest_165 ?_
  refine g_iast (t := 0) ok rfl d_Mo_readTest_166 h7 h10 ?_
  rw [h12]
  have h13 : M11[f3]? = some (.inl (0, N9, .inl (upd g8 x1.toNatClampNeg ((f5 : Int64).toInt32)))) := by rw [← h12]; exact gs_eq h7
  refine g_aload_n ok d_Mo_readTest_167 rfl (j := 0) rfl ?_
  refine g_aload_n ok d_Mo_readTest_168 rfl (j := 0) rfl ?_
  refine g_bipush (v := 61) ok d_Mo_readTest_169 (by decide) ?_
  have h14 : M11[x0]? = some (.inr (10, fs2)) := by rw [← h12]; exact (gs_ne (ne_ao h7 h1)).trans h1
  exact gc_Mo_256 (As := [.int 61]) (rest := [.ref x0]) ok d_Mo_readTest_171 hm rfl rfl (Nat.le_of_ble_eq_true rfl) hR h14 hlen kk
theorem k_Mo_readTest_174 {X : gC} {M : List mC} {k n : Nat} {x0 : Nat} {x1 : Int32} {s1 : Int32} (ok : gO X c_Mo_readTest "TripleStoreModel" w_Mo_readTest)  (kt : ¬ s1 = 0 → gg X M k n 204 [(0, .ref x0), (1, .int x1)] [.ref x0]) (kf : s1 = 0 → gg X M k n 177 [(0, .ref x0), (1, .int x1)] [.ref x0]) : gg X M k n 174 [(0, .ref x0), (1, .int x1)] [.int s1, .ref x0] := by
  exact g_if_ne (tgt := 204) ok d_Mo_readTest_174 (by decide) (fun z => (kt z)) (fun z => (kf z))
theorem k_Mo_readTest_177 {X : gC} {M : List mC} {k n : Nat} {x0 : Nat} {x1 : Int32} {fs2 : List Value} (ok : gO X c_Mo_readTest "TripleStoreModel" w_Mo_readTest) (h1 : M[x0]? = some (.inr (10, fs2))) {rm : Room} {post : Option Value → List mC → Prop} (hm : mm_ (gLa X) y_Mo_isSign w_Mo_isSign rm [.ref x0, .int 60] M post) (hR : gF X rm 2 k n) (hlen : ∀ r M', post r M' → M'.length = M.length) (kk : ∀ r M', post r M' → gg X M' (k + rm.cells) (n + rm.slots) 183 [(0, .ref x0), (1, .int x1)] (r.toList ++ [.ref x0])) : gg X M k n 177 [(0, .ref x0), (1, .int x1)] [.ref x0] := by
  refine g_aload_n ok d_Mo_readTest_177 rfl (j := 0) rfl ?_
  refine g_bipush (v := 60) ok d_Mo_readTest_178 (by decide) ?_
  exact gc_Mo_256 (As := [.int 60]) (rest := [.ref x0]) ok d_Mo_readTest_180 hm rfl rfl (Nat.le_of_ble_eq_true rfl) hR h1 hlen kk
theorem k_Mo_readTest_183 {X : gC} {M : List mC} {k n : Nat} {x0 : Nat} {x1 : Int32} {s1 : Int32} (ok : gO X c_Mo_readTest "TripleStoreModel" w_Mo_readTest)  (kt : ¬ s1 = 0 → gg X M k n 204 [(0, .ref x0), (1, .int x1)] [.ref x0]) (kf : s1 = 0 → gg X M k n 186 [(0, .ref x0), (1, .int x1)] [.ref x0]) : gg X M k n 183 [(0, .ref x0), (1, .int x1)] [.int s1, .ref x0] := by
  exact g_if_ne (tgt := 204) ok d_Mo_readTest_183 (by decide) (fun z => (kt z)) (fun z => (kf z))
theorem k_Mo_readTest_186 {X : gC} {M : List mC} {k n : Nat} {x0 : Nat} {x1 : Int32} {fs2 : List Value} (ok : gO X c_Mo_readTest "TripleStoreModel" w_Mo_readTest) (h1 : M[x0]? = some (.inr (10, fs2))) {rm : Room} {post : Option Value → List mC → Prop} (hm : mm_ (gLa X) y_Mo_isSign w_Mo_isSign rm [.ref x0, .int 62] M post) (hR : gF X rm 2 k n) (hlen : ∀ r M', post r M' → M'.length = M.length) (kk : ∀ r M', post r M' → gg X M' (k + rm.cells) (n + rm.slots) 192 [(0, .ref x0), (1, .int x1)] (r.toList ++ [.ref x0])) : gg X M k n 186 [(0, .ref x0), (1, .int x1)] [.ref x0] := by
  refine g_aload_n ok d_Mo_readTest_186 rfl (j := 0) rfl ?_
  refine g_bipush (v := 62) ok d_Mo_readTest_187 (by decide) ?_
  exact gc_Mo_256 (As := [.int 62]) (rest := [.ref x0]) ok d_Mo_readTest_189 hm rfl rfl (Nat.le_of_ble_eq_true rfl) hR h1 hlen kk
theorem k_Mo_readTest_192 {X : gC} {M : List mC} {k n : Nat} {x0 : Nat} {x1 : Int32} {s1 : Int32} (ok : gO X c_Mo_readTest "TripleStoreModel" w_Mo_readTest)  (kt : ¬ s1 = 0 → gg X M k n 204 [(0, .ref x0), (1, .int x1)] [.ref x0]) (kf : s1 = 0 → gg X M k n 195 [(0, .ref x0), (1, .int x1)] [.ref x0]) : gg X M k n 192 [(0, .ref x0), (1, .int x1)] [.int s1, .ref x0] := by
  exact g_if_ne (tgt := 204) ok d_Mo_readTest_192 (by decide) (fun z => (kt z)) (fun z => (kf z))
theorem k_Mo_readTest_195 {X : gC} {M : List mC} {k n : Nat} {x0 : Nat} {x1 : Int32} {fs2 : List Value} (ok : gO X c_Mo_readTest "TripleStoreModel" w_Mo_readTest) (h1 : M[x0]? = some (.inr (10, fs2))) {rm : Room} {post : Option Value → List mC → Prop} (hm : mm_ (gLa X) y_Mo_isSign w_Mo_isSign rm [.ref x0, .int 33] M post) (hR : gF X rm 2 k n) (hlen : ∀ r M', post r M' → M'.length = M.length) (kk : ∀ r M', post r M' → gg X M' (k + rm.cells) (n + rm.slots) 201 [(0, .ref x0), (1, .int x1)] (r.toList ++ [.ref x0])) : gg X M k n 195 [(0, .ref x0), (1, .int x1)] [.ref x0] := by
  refine g_aload_n ok d_Mo_readTest_195 rfl (j := 0) rfl ?_
  refine g_bipush (v := 33) ok d_Mo_readTest_196 (by decide) ?_
  exact gc_Mo_256 (As := [.int 33]) (rest := [.ref x0]) ok d_Mo_readTest_198 hm rfl rfl (Nat.le_of_ble_eq_true rfl) hR h1 hlen kk
theorem k_Mo_readTest_201 {X : gC} {M : List mC} {k n : Nat} {x0 : Nat} {x1 : Int32} {s1 : Int32} (ok : gO X c_Mo_readTest "TripleStoreModel" w_Mo_readTest)  (kt : s1 = 0 → gg X M k n 208 [(0, .ref x0), (1, .int x1)] [.ref x0]) (kf : ¬ s1 = 0 → gg X M k n 204 [(0, .ref x0), (1, .int x1)] [.ref x0]) : gg X M k n 201 [(0, .ref x0), (1, .int x1)] [.int s1, .ref x0] := by
  exact g_if_eq (tgt := 208) ok d_Mo_readTest_201 (by decide) (fun z => (kt z)) (fun z => (kf z))
theorem k_Mo_readTest_204 {X : gC} {M : List mC} {k n : Nat} {x0 : Nat} {x1 : Int32} (ok : gO X c_Mo_readTest "TripleStoreModel" w_Mo_readTest)  (kk : gg X M k n 209 [(0, .ref x0), (1, .int x1)] [.int 1, .ref x0]) : gg X M k n 204 [(0, .ref x0), (1, .int x1)] [.ref x0] := by
  refine g_iconst (v := 1) ok d_Mo_readTest_204 (by decide) ?_
  exact g_goto (tgt := 209) ok d_Mo_readTest_205 (by decide) kk
theorem k_Mo_readTest_208 {X : gC} {M : List mC} {k n : Nat} {x0 : Nat} {x1 : Int32} (ok : gO X c_Mo_readTest "TripleStoreModel" w_Mo_readTest)  (kk : gg X M k n 209 [(0, .ref x0), (1, .int x1)] [.int 0, .ref x0]) : gg X M k n 208 [(0, .ref x0), (1, .int x1)] [.ref x0] := by
  refine g_iconst (v := 0) ok d_Mo_readTest_208 (by decide) ?_
  exact kk
theorem k_Mo_readTest_209 {X : gC} {M : List mC} {k n : Nat} {x0 : Nat} {x1 : Int32} {s1 : Int32} {fs2 : List Value} (ok : gO X c_Mo_readTest "TripleStoreModel" w_Mo_readTest) (h1 : M[x0]? = some (.inr (10, fs2))) {rm : Room} {post : Option Value → List mC → Prop} (hm : mm_ (gLa X) y_Mo_goOn w_Mo_goOn rm [.ref x0, .int s1] M post) (hR : gF X rm 2 k n) (hlen : ∀ r M', post r M' → M'.length = M.length) (kk : ∀ r M', post r M' → gg X M' (k + rm.cells) (n + rm.slots) 212 [(0, .ref x0), (1, .int x1)] (r.toList ++ [])) : gg X M k n 209 [(0, .ref x0), (1, .int x1)] [.int s1, .ref x0] := by
  exact gc_Mo_232 (As := [.int s1]) (rest := []) ok d_Mo_readTest_209 hm rfl rfl (Nat.le_of_ble_eq_true rfl) hR h1 hlen kk
theorem k_Mo_readTest_212 {X : gC} {M : List mC} {k n : Nat} {x0 : Nat} {x1 : Int32} {s0 : Int32} (ok : gO X c_Mo_readTest "TripleStoreModel" w_Mo_readTest)  (kt : ¬ s0 = 0 → gg X M k n 216 [(0, .ref x0), (1, .int x1)] []) (kf : s0 = 0 → gg X M k n 215 [] []) : gg X M k n 212 [(0, .ref x0), (1, .int x1)] [.int s0] := by
  exact g_if_ne (tgt := 216) ok d_Mo_readTest_212 (by decide) (fun z => (kt z)) (fun z => (gg_keep [] (kf z)))
theorem k_Mo_readTest_215 {X : gC} {M : List mC} {k n : Nat}  (ok : gO X c_Mo_readTest "TripleStoreModel" w_Mo_readTest)  {l9 : Launch} {rm : Room} {M0 : List mC} {post : Option Value → List mC → Prop} (E : gE X l9 y_Mo_readTest rm 3 none M0 post) (hp : post (none) M) (hk : k ≤ rm.cells) (hn : n ≤ rm.slots) : gg X M k n 215 [] [] := by
  exact g_vret ok E d_Mo_readTest_215 hp hk hn
theorem k_Mo_readTest_216 {X : gC} {M : List mC} {k n : Nat} {x0 : Nat} {x1 : Int32} {fs2 : List Value} (ok : gO X c_Mo_readTest "TripleStoreModel" w_Mo_readTest) (h1 : M[x0]? = some (.inr (10, fs2))) {rm : Room} {post : Option Value → List mC → Prop} (hm : mm_ (gLa X) y_Mo_readSide w_Mo_readSide rm [.ref x0, .int ((60 + (2 * x1)) + 1)] M post) (hR : gF X rm 3 k n) (hlen : ∀ r M', post r M' → M'.length = M.length) (kk : ∀ r M', post r M' → gg X M' (k + rm.cells) (n + rm.slots) 228 [] (r.toList ++ [])) : gg X M k n 216 [(0, .ref x0), (1, .int x1)] [] := by
  refine g_aload_n ok d_Mo_readTest_216 rfl (j := 0) rfl ?_
  refine g_bipush (v := 60) ok d_Mo_readTest_217 (by decide) ?_
  refine g_iconst (v := 2) ok d_Mo_readTest_219 (by decide) ?_
  refine g_iload_n ok d_Mo_readTest_220 rfl (j := 1) rfl ?_
  refine g_imul ok d_Mo_readTest_221 ?_
  refine g_iadd ok d_Mo_readTest_222 ?_
  refine g_iconst (v := 1) ok d_Mo_readTest_223 (by decide) ?_
  refine g_iadd ok d_Mo_readTest_224 ?_
  exact gc_Mo_253 (As := [.int ((60 + (2 * x1)) + 1)]) (rest := []) ok d_Mo_readTest_225 hm rfl rfl (Nat.le_of_ble_eq_true rfl) hR h1 hlen (fun r M' q => (gg_keep [] (kk r M' q)))
theorem k_Mo_readTest_228 {X : gC} {M : List mC} {k n : Nat}  (ok : gO X c_Mo_readTest "TripleStoreModel" w_Mo_readTest)  {l9 : Launch} {rm : Room} {M0 : List mC} {post : Option Value → List mC → Prop} (E : gE X l9 y_Mo_readTest rm 3 none M0 post) (hp : post (none) M) (hk : k ≤ rm.cells) (hn : n ≤ rm.slots) : gg X M k n 228 [] [] := by
  exact g_vret ok E d_Mo_readTest_228 hp hk hn
theorem k_Mo_readElement_0 {X : gC} {M : List mC} {k n : Nat} {x0 : Nat} {fs2 : List Value} (ok : gO X c_Mo_readElement "TripleStoreModel" w_Mo_readElement) (h1 : M[x0]? = some (.inr (10, fs2))) {rm : Room} {post : Option Value → List mC → Prop} (hm : mm_ (gLa X) y_Mo_isKey w_Mo_isKey rm [.ref x0, .int 5] M post) (hR : gF X rm 4 k n) (hlen : ∀ r M', post r M' → M'.length = M.length) (kk : ∀ r M', post r M' → gg X M' (k + rm.cells) (n + rm.slots) 5 [(0, .ref x0)] (r.toList ++ [])) : gg X M k n 0 [(0, .ref x0)] [] := by
  refine g_aload_n ok d_Mo_readElement_0 rfl (j := 0) rfl ?_
  refine g_iconst (v := 5) ok d_Mo_readElement_1 (by decide) ?_
  exact gc_Mo_217 (As := [.int 5]) (rest := []) ok d_Mo_readElement_2 hm rfl rfl (Nat.le_of_ble_eq_true rfl) hR h1 hlen kk
theorem k_Mo_readElement_5 {X : gC} {M : List mC} {k n : Nat} {x0 : Nat} {s0 : Int32} (ok : gO X c_Mo_readElement "TripleStoreModel" w_Mo_readElement)  (kt : ¬ s0 = 0 → gg X M k n 50 [(0, .ref x0)] []) (kf : s0 = 0 → gg X M k n 8 [(0, .ref x0)] []) : gg X M k n 5 [(0, .ref x0)] [.int s0] := by
  exact g_if_ne (tgt := 50) ok d_Mo_readElement_5 (by decide) (fun z => (kt z)) (fun z => (kf z))
theorem k_Mo_readElement_8 {X : gC} {M : List mC} {k n : Nat} {x0 : Nat} {fs2 : List Value} (ok : gO X c_Mo_readElement "TripleStoreModel" w_Mo_readElement) (h1 : M[x0]? = some (.inr (10, fs2))) {rm : Room} {post : Option Value → List mC → Prop} (hm : mm_ (gLa X) y_Mo_isKey w_Mo_isKey rm [.ref x0, .int 6] M post) (hR : gF X rm 4 k n) (hlen : ∀ r M', post r M' → M'.length = M.length) (kk : ∀ r M', post r M' → gg X M' (k + rm.cells) (n + rm.slots) 14 [(0, .ref x0)] (r.toList ++ [])) : gg X M k n 8 [(0, .ref x0)] [] := by
  refine g_aload_n ok d_Mo_readElement_8 rfl (j := 0) rfl ?_
  refine g_bipush (v := 6) ok d_Mo_readElement_9 (by decide) ?_
  exact gc_Mo_217 (As := [.int 6]) (rest := []) ok d_Mo_readElement_11 hm rfl rfl (Nat.le_of_ble_eq_true rfl) hR h1 hlen kk
theorem k_Mo_readElement_14 {X : gC} {M : List mC} {k n : Nat} {x0 : Nat} {s0 : Int32} (ok : gO X c_Mo_readElement "TripleStoreModel" w_Mo_readElement)  (kt : ¬ s0 = 0 → gg X M k n 50 [(0, .ref x0)] []) (kf : s0 = 0 → gg X M k n 17 [(0, .ref x0)] []) : gg X M k n 14 [(0, .ref x0)] [.int s0] := by
  exact g_if_ne (tgt := 50) ok d_Mo_readElement_14 (by decide) (fun z => (kt z)) (fun z => (kf z))
theorem k_Mo_readElement_17 {X : gC} {M : List mC} {k n : Nat} {x0 : Nat} {fs2 : List Value} (ok : gO X c_Mo_readElement "TripleStoreModel" w_Mo_readElement) (h1 : M[x0]? = some (.inr (10, fs2))) {rm : Room} {post : Option Value → List mC → Prop} (hm : mm_ (gLa X) y_Mo_isKey w_Mo_isKey rm [.ref x0, .int 7] M post) (hR : gF X rm 4 k n) (hlen : ∀ r M', post r M' → M'.length = M.length) (kk : ∀ r M', post r M' → gg X M' (k + rm.cells) (n + rm.slots) 23 [(0, .ref x0)] (r.toList ++ [])) : gg X M k n 17 [(0, .ref x0)] [] := by
  refine g_aload_n ok d_Mo_readElement_17 rfl (j := 0) rfl ?_
  refine g_bipush (v := 7) ok d_Mo_readElement_18 (by decide) ?_
  exact gc_Mo_217 (As := [.int 7]) (rest := []) ok d_Mo_readElement_20 hm rfl rfl (Nat.le_of_ble_eq_true rfl) hR h1 hlen kk
theorem k_Mo_readElement_23 {X : gC} {M : List mC} {k n : Nat} {x0 : Nat} {s0 : Int32} (ok : gO X c_Mo_readElement "TripleStoreModel" w_Mo_readElement)  (kt : ¬ s0 = 0 → gg X M k n 50 [(0, .ref x0)] []) (kf : s0 = 0 → gg X M k n 26 [(0, .ref x0)] []) : gg X M k n 23 [(0, .ref x0)] [.int s0] := by
  exact g_if_ne (tgt := 50) ok d_Mo_readElement_23 (by decide) (fun z => (kt z)) (fun z => (kf z))
theorem k_Mo_readElement_26 {X : gC} {M : List mC} {k n : Nat} {x0 : Nat} {fs2 : List Value} (ok : gO X c_Mo_readElement "TripleStoreModel" w_Mo_readElement) (h1 : M[x0]? = some (.inr (10, fs2))) {rm : Room} {post : Option Value → List mC → Prop} (hm : mm_ (gLa X) y_Mo_isSign w_Mo_isSign rm [.ref x0, .int 123] M post) (hR : gF X rm 2 k n) (hlen : ∀ r M', post r M' → M'.length = M.length) (kk : ∀ r M', post r M' → gg X M' (k + rm.cells) (n + rm.slots) 32 [(0, .ref x0)] (r.toList ++ [])) : gg X M k n 26 [(0, .ref x0)] [] := by
  refine g_aload_n ok d_Mo_readElement_26 rfl (j := 0) rfl ?_
  refine g_bipush (v := 123) ok d_Mo_readElement_27 (by decide) ?_
  exact gc_Mo_256 (As := [.int 123]) (rest := []) ok d_Mo_readElement_29 hm rfl rfl (Nat.le_of_ble_eq_true rfl) hR h1 hlen kk
theorem k_Mo_readElement_32 {X : gC} {M : List mC} {k n : Nat} {x0 : Nat} {s0 : Int32} (ok : gO X c_Mo_readElement "TripleStoreModel" w_Mo_readElement)  (kt : ¬ s0 = 0 → gg X M k n 50 [(0, .ref x0)] []) (kf : s0 = 0 → gg X M k n 35 [(0, .ref x0)] []) : gg X M k n 32 [(0, .ref x0)] [.int s0] := by
  exact g_if_ne (tgt := 50) ok d_Mo_readElement_32 (by decide) (fun z => (kt z)) (fun z => (kf z))
theorem k_Mo_readElement_35 {X : gC} {M : List mC} {k n : Nat} {x0 : Nat} {fs2 : List Value} {f3 : Int32} (ok : gO X c_Mo_readElement "TripleStoreModel" w_Mo_readElement) (h1 : M[x0]? = some (.inr (10, fs2))) (h4 : fs2[15]? = some (.int f3)) (kt : f3 = 3 → gg X M k n 50 [(0, .ref x0)] []) (kf : ¬ f3 = 3 → gg X M k n 43 [(0, .ref x0)] []) : gg X M k n 35 [(0, .ref x0)] [] := by
  refine g_aload_n ok d_Mo_readElement_35 rfl (j := 0) rfl ?_
  refine gf_Mo_181 ok d_Mo_readElement_36 h1 h4 ?_
  refine g_iconst (v := 3) ok d_Mo_readElement_39 (by decide) ?_
  exact g_icmp_eq (tgt := 50) ok d_Mo_readElement_40 (by decide) (fun z => (kt z)) (fun z => (kf z))
theorem k_Mo_readElement_43 {X : gC} {M : List mC} {k n : Nat} {x0 : Nat} {fs2 : List Value} (ok : gO X c_Mo_readElement "TripleStoreModel" w_Mo_readElement) (h1 : M[x0]? = some (.inr (10, fs2))) {rm : Room} {post : Option Value → List mC → Prop} (hm : mm_ (gLa X) y_Mo_isTerm w_Mo_isTerm rm [.ref x0] M post) (hR : gF X rm 3 k n) (hlen : ∀ r M', post r M' → M'.length = M.length) (kk : ∀ r M', post r M' → gg X M' (k + rm.cells) (n + rm.slots) 47 [(0, .ref x0)] (r.toList ++ [])) : gg X M k n 43 [(0, .ref x0)] [] := by
  refine g_aload_n ok d_Mo_readElement_43 rfl (j := 0) rfl ?_
  exact gc_Mo_240 (As := []) (rest := []) ok d_Mo_readElement_44 hm rfl rfl (Nat.le_of_ble_eq_true rfl) hR h1 hlen kk
theorem k_Mo_readElement_47 {X : gC} {M : List mC} {k n : Nat} {x0 : Nat} {s0 : Int32} (ok : gO X c_Mo_readElement "TripleStoreModel" w_Mo_readElement)  (kt : s0 = 0 → gg X M k n 54 [(0, .ref x0)] []) (kf : ¬ s0 = 0 → gg X M k n 50 [(0, .ref x0)] []) : gg X M k n 47 [(0, .ref x0)] [.int s0] := by
  exact g_if_eq (tgt := 54) ok d_Mo_readElement_47 (by decide) (fun z => (kt z)) (fun z => (kf z))
theorem k_Mo_readElement_50 {X : gC} {M : List mC} {k n : Nat} {x0 : Nat} (ok : gO X c_Mo_readElement "TripleStoreModel" w_Mo_readElement)  (kk : gg X M k n 55 [(0, .ref x0)] [.int 1]) : gg X M k n 50 [(0, .ref x0)] [] := by
  refine g_iconst (v := 1) ok d_Mo_readElement_50 (by decide) ?_
  exact g_goto (tgt := 55) ok d_Mo_readElement_51 (by decide) kk
theorem k_Mo_readElement_54 {X : gC} {M : List mC} {k n : Nat} {x0 : Nat} (ok : gO X c_Mo_readElement "TripleStoreModel" w_Mo_readElement)  (kk : gg X M k n 55 [(0, .ref x0)] [.int 0]) : gg X M k n 54 [(0, .ref x0)] [] := by
  refine g_iconst (v := 0) ok d_Mo_readElement_54 (by decide) ?_
  exact kk
theorem k_Mo_readElement_55 {X : gC} {M : List mC} {k n : Nat} {x0 : Nat} {s0 : Int32} (ok : gO X c_Mo_readElement "TripleStoreModel" w_Mo_readElement) (hl : gL X = 4)  (kt : s0 = 0 → gg X M k n 69 [(0, .ref x0)] []) (kf : ¬ s0 = 0 → gg X M k n 60 [(0, .ref x0)] []) : gg X M k n 55 [(0, .ref x0)] [.int s0] := by
  refine g_istore_n (L' := [(0, .ref x0), (1, .int s0)]) ok d_Mo_readElement_55 rfl (by rw [hl]; decide) rfl ?_
  refine g_iload_n ok d_Mo_readElement_56 rfl (j := 1) rfl ?_
  exact g_if_eq (tgt := 69) ok d_Mo_readElement_57 (by decide) (fun z => (gg_keep [0] (kt z))) (fun z => (gg_keep [0] (kf z)))
theorem k_Mo_readElement_60 {X : gC} {M : List mC} {k n : Nat} {x0 : Nat} {fs2 : List Value} {f3 : Int32} (ok : gO X c_Mo_readElement "TripleStoreModel" w_Mo_readElement) (h1 : M[x0]? = some (.inr (10, fs2))) (h4 : fs2[25]? = some (.int f3)) (kt : ¬ f3 = 12 → gg X M k n 74 [(0, .ref x0)] []) (kf : f3 = 12 → gg X M k n 69 [(0, .ref x0)] []) : gg X M k n 60 [(0, .ref x0)] [] := by
  refine g_aload_n ok d_Mo_readElement_60 rfl (j := 0) rfl ?_
  refine gf_Mo_259 ok d_Mo_readElement_61 h1 h4 ?_
  refine g_bipush (v := 12) ok d_Mo_readElement_64 (by decide) ?_
  exact g_icmp_ne (tgt := 74) ok d_Mo_readElement_66 (by decide) (fun z => (kt z)) (fun z => (kf z))
theorem k_Mo_readElement_69 {X : gC} {M : List mC} {k n : Nat} {x0 : Nat} {fs2 : List Value} (ok : gO X c_Mo_readElement "TripleStoreModel" w_Mo_readElement) (h1 : M[x0]? = some (.inr (10, fs2))) {rm : Room} {post : Option Value → List mC → Prop} (hm : mm_ (gLa X) y_Mo_stop w_Mo_stop rm [.ref x0] M post) (hR : gF X rm 1 k n) (hlen : ∀ r M', post r M' → M'.length = M.length) (kk : ∀ r M', post r M' → gg X M' (k + rm.cells) (n + rm.slots) 73 [] (r.toList ++ [])) : gg X M k n 69 [(0, .ref x0)] [] := by
  refine g_aload_n ok d_Mo_readElement_69 rfl (j := 0) rfl ?_
  exact gc_Mo_223 (As := []) (rest := []) ok d_Mo_readElement_70 hm rfl rfl (Nat.le_of_ble_eq_true rfl) hR h1 hlen (fun r M' q => (gg_keep [] (kk r M' q)))
theorem k_Mo_readElement_73 {X : gC} {M : List mC} {k n : Nat}  (ok : gO X c_Mo_readElement "TripleStoreModel" w_Mo_readElement)  {l9 : Launch} {rm : Room} {M0 : List mC} {post : Option Value → List mC → Prop} (E : gE X l9 y_Mo_readElement rm 4 none M0 post) (hp : post (none) M) (hk : k ≤ rm.cells) (hn : n ≤ rm.slots) : gg X M k n 73 [] [] := by
  exact g_vret ok E d_Mo_readElement_73 hp hk hn
theorem k_Mo_readElement_74 {X : gC} {M : List mC} {k n : Nat} {x0 : Nat} {fs2 : List Value} {f3 : Int32} {fs7 : List Value} {M9 : List mC} (ok : gO X c_Mo_readElement "TripleStoreModel" w_Mo_readElement) (h1 : M[x0]? = some (.inr (10, fs2))) (h4 : fs2[25]? = some (.int f3)) (h6 : 59 ≤ fs2.length) (h8 : fs2.set 25 (.int (f3 + 1)) = fs7) (h10 : M.set x0 (.inr (10, fs7)) = M9) {rm : Room} {post : Option Value → List mC → Prop} (hm : mm_ (gLa X) y_Mo_isKey w_Mo_isKey rm [.ref x0, .int 6] M9 post) (hR : gF X rm 4 k n) (hlen : ∀ r M', post r M' → M'.length = M9.length) (kk : ∀ r M', post r M' → gg X M' (k + rm.cells) (n + rm.slots) 91 [(0, .ref x0)] (r.toList ++ [.ref x0])) : gg X M k n 74 [(0, .ref x0)] [] := by
  refine g_aload_n ok d_Mo_readElement_74 rfl (j := 0) rfl ?_
  refine g_dup ok d_Mo_readElement_75 rfl ?_
  refine gf_Mo_259 ok d_Mo_readElement_76 h1 h4 ?_
  refine g_iconst (v := 1) ok d_Mo_readElement_79 (by decide) ?_
  refine g_iadd ok d_Mo_readElement_80 ?_
  have h5 : 25 < fs2.length := Nat.lt_of_lt_of_le (by decide) h6
  refine pf_Mo_259 ok d_Mo_readElement_81 h1 h5 (fun _ => ⟨rfl, rfl⟩) ?_
  rw [h8]
  rw [h10]
  have h11 : M9[x0]? = some (.inr (10, fs7)) := by rw [← h10]; exact gs_eq h1
  have h12 : fs7[25]? = some (.int (f3 + 1)) := by rw [← h8]; exact List.getElem?_set_self h5
  have h13 : 59 ≤ fs7.length := by rw [← h8, List.length_set]; exact h6
  refine g_aload_n ok d_Mo_readElement_84 rfl (j := 0) rfl ?_
  refine g_aload_n ok d_Mo_readElement_85 rfl (j := 0) rfl ?_
  refine g_bipush (v := 6) ok d_Mo_readElement_86 (by decide) ?_
  exact gc_Mo_217 (As := [.int 6]) (rest := [.ref x0]) ok d_Mo_readElement_88 hm rfl rfl (Nat.le_of_ble_eq_true rfl) hR h11 hlen kk
theorem k_Mo_readElement_91 {X : gC} {M : List mC} {k n : Nat} {x0 : Nat} {s1 : Int32} (ok : gO X c_Mo_readElement "TripleStoreModel" w_Mo_readElement)  (kt : ¬ s1 = 0 → gg X M k n 112 [(0, .ref x0)] [.ref x0]) (kf : s1 = 0 → gg X M k n 94 [(0, .ref x0)] [.ref x0]) : gg X M k n 91 [(0, .ref x0)] [.int s1, .ref x0] := by
  exact g_if_ne (tgt := 112) ok d_Mo_readElement_91 (by decide) (fun z => (kt z)) (fun z => (kf z))
theorem k_Mo_readElement_94 {X : gC} {M : List mC} {k n : Nat} {x0 : Nat} {fs2 : List Value} (ok : gO X c_Mo_readElement "TripleStoreModel" w_Mo_readElement) (h1 : M[x0]? = some (.inr (10, fs2))) {rm : Room} {post : Option Value → List mC → Prop} (hm : mm_ (gLa X) y_Mo_isKey w_Mo_isKey rm [.ref x0, .int 7] M post) (hR : gF X rm 4 k n) (hlen : ∀ r M', post r M' → M'.length = M.length) (kk : ∀ r M', post r M' → gg X M' (k + rm.cells) (n + rm.slots) 100 [(0, .ref x0)] (r.toList ++ [.ref x0])) : gg X M k n 94 [(0, .ref x0)] [.ref x0] := by
  refine g_aload_n ok d_Mo_readElement_94 rfl (j := 0) rfl ?_
  refine g_bipush (v := 7) ok d_Mo_readElement_95 (by decide) ?_
  exact gc_Mo_217 (As := [.int 7]) (rest := [.ref x0]) ok d_Mo_readElement_97 hm rfl rfl (Nat.le_of_ble_eq_true rfl) hR h1 hlen kk
theorem k_Mo_readElement_100 {X : gC} {M : List mC} {k n : Nat} {x0 : Nat} {s1 : Int32} (ok : gO X c_Mo_readElement "TripleStoreModel" w_Mo_readElement)  (kt : ¬ s1 = 0 → gg X M k n 112 [(0, .ref x0)] [.ref x0]) (kf : s1 = 0 → gg X M k n 103 [(0, .ref x0)] [.ref x0]) : gg X M k n 100 [(0, .ref x0)] [.int s1, .ref x0] := by
  exact g_if_ne (tgt := 112) ok d_Mo_readElement_100 (by decide) (fun z => (kt z)) (fun z => (kf z))
theorem k_Mo_readElement_103 {X : gC} {M : List mC} {k n : Nat} {x0 : Nat} {fs2 : List Value} (ok : gO X c_Mo_readElement "TripleStoreModel" w_Mo_readElement) (h1 : M[x0]? = some (.inr (10, fs2))) {rm : Room} {post : Option Value → List mC → Prop} (hm : mm_ (gLa X) y_Mo_isSign w_Mo_isSign rm [.ref x0, .int 123] M post) (hR : gF X rm 2 k n) (hlen : ∀ r M', post r M' → M'.length = M.length) (kk : ∀ r M', post r M' → gg X M' (k + rm.cells) (n + rm.slots) 109 [(0, .ref x0)] (r.toList ++ [.ref x0])) : gg X M k n 103 [(0, .ref x0)] [.ref x0] := by
  refine g_aload_n ok d_Mo_readElement_103 rfl (j := 0) rfl ?_
  refine g_bipush (v := 123) ok d_Mo_readElement_104 (by decide) ?_
  exact gc_Mo_256 (As := [.int 123]) (rest := [.ref x0]) ok d_Mo_readElement_106 hm rfl rfl (Nat.le_of_ble_eq_true rfl) hR h1 hlen kk
theorem k_Mo_readElement_109 {X : gC} {M : List mC} {k n : Nat} {x0 : Nat} {s1 : Int32} (ok : gO X c_Mo_readElement "TripleStoreModel" w_Mo_readElement)  (kt : s1 = 0 → gg X M k n 116 [(0, .ref x0)] [.ref x0]) (kf : ¬ s1 = 0 → gg X M k n 112 [(0, .ref x0)] [.ref x0]) : gg X M k n 109 [(0, .ref x0)] [.int s1, .ref x0] := by
  exact g_if_eq (tgt := 116) ok d_Mo_readElement_109 (by decide) (fun z => (kt z)) (fun z => (kf z))
theorem k_Mo_readElement_112 {X : gC} {M : List mC} {k n : Nat} {x0 : Nat} (ok : gO X c_Mo_readElement "TripleStoreModel" w_Mo_readElement)  (kk : gg X M k n 117 [(0, .ref x0)] [.int 1, .ref x0]) : gg X M k n 112 [(0, .ref x0)] [.ref x0] := by
  refine g_iconst (v := 1) ok d_Mo_readElement_112 (by decide) ?_
  exact g_goto (tgt := 117) ok d_Mo_readElement_113 (by decide) kk
theorem k_Mo_readElement_116 {X : gC} {M : List mC} {k n : Nat} {x0 : Nat} (ok : gO X c_Mo_readElement "TripleStoreModel" w_Mo_readElement)  (kk : gg X M k n 117 [(0, .ref x0)] [.int 0, .ref x0]) : gg X M k n 116 [(0, .ref x0)] [.ref x0] := by
  refine g_iconst (v := 0) ok d_Mo_readElement_116 (by decide) ?_
  exact kk
theorem k_Mo_readElement_117 {X : gC} {M : List mC} {k n : Nat} {x0 : Nat} {s1 : Int32} {fs2 : List Value} {fs6 : List Value} {M8 : List mC} (ok : gO X c_Mo_readElement "TripleStoreModel" w_Mo_readElement) (h1 : M[x0]? = some (.inr (10, fs2))) (h4 : 59 ≤ fs2.length) (h5 : narrow .boolean (.int s1) = .int s1 ∧ fits .boolean (.int s1) = true) (h7 : fs2.set 22 (.int s1) = fs6) (h9 : M.set x0 (.inr (10, fs6)) = M8) {rm : Room} {post : Option Value → List mC → Prop} (hm : mm_ (gLa X) y_Mo_isKey w_Mo_isKey rm [.ref x0, .int 5] M8 post) (hR : gF X rm 4 k n) (hlen : ∀ r M', post r M' → M'.length = M8.length) (kk : ∀ r M', post r M' → gg X M' (k + rm.cells) (n + rm.slots) 125 [(0, .ref x0)] (r.toList ++ [])) : gg X M k n 117 [(0, .ref x0)] [.int s1, .ref x0] := by
  have h3 : 22 < fs2.length := Nat.lt_of_lt_of_le (by decide) h4
  refine pf_Mo_262 ok d_Mo_readElement_117 h1 h3 (fun _ => h5) ?_
  rw [h7]
  rw [h9]
  have h10 : M8[x0]? = some (.inr (10, fs6)) := by rw [← h9]; exact gs_eq h1
  have h11 : fs6[22]? = some (.int s1) := by rw [← h7]; exact List.getElem?_set_self h3
  have h12 : 59 ≤ fs6.length := by rw [← h7, List.length_set]; exact h4
  refine g_aload_n ok d_Mo_readElement_120 rfl (j := 0) rfl ?_
  refine g_iconst (v := 5) ok d_Mo_readElement_121 (by decide) ?_
  exact gc_Mo_217 (As := [.int 5]) (rest := []) ok d_Mo_readElement_122 hm rfl rfl (Nat.le_of_ble_eq_true rfl) hR h10 hlen kk
theorem k_Mo_readElement_125 {X : gC} {M : List mC} {k n : Nat} {x0 : Nat} {s0 : Int32} (ok : gO X c_Mo_readElement "TripleStoreModel" w_Mo_readElement)  (kt : s0 = 0 → gg X M k n 139 [(0, .ref x0)] []) (kf : ¬ s0 = 0 → gg X M k n 128 [(0, .ref x0)] []) : gg X M k n 125 [(0, .ref x0)] [.int s0] := by
  exact g_if_eq (tgt := 139) ok d_Mo_readElement_125 (by decide) (fun z => (kt z)) (fun z => (kf z))
theorem k_Mo_readElement_128 {X : gC} {M : List mC} {k n : Nat} {x0 : Nat} {fs2 : List Value} (ok : gO X c_Mo_readElement "TripleStoreModel" w_Mo_readElement) (h1 : M[x0]? = some (.inr (10, fs2))) {rm : Room} {post : Option Value → List mC → Prop} (hm : mm_ (gLa X) y_Mo_next w_Mo_next rm [.ref x0] M post) (hR : gF X rm 3 k n) (hlen : ∀ r M', post r M' → M'.length = M.length) (kk : ∀ r M', post r M' → gg X M' (k + rm.cells) (n + rm.slots) 132 [(0, .ref x0)] (r.toList ++ [])) : gg X M k n 128 [(0, .ref x0)] [] := by
  refine g_aload_n ok d_Mo_readElement_128 rfl (j := 0) rfl ?_
  exact gc_Mo_226 (As := []) (rest := []) ok d_Mo_readElement_129 hm rfl rfl (Nat.le_of_ble_eq_true rfl) hR h1 hlen kk
theorem k_Mo_readElement_132 {X : gC} {M : List mC} {k n : Nat} {x0 : Nat} {fs2 : List Value} (ok : gO X c_Mo_readElement "TripleStoreModel" w_Mo_readElement) (h1 : M[x0]? = some (.inr (10, fs2))) {rm : Room} {post : Option Value → List mC → Prop} (hm : mm_ (gLa X) y_Mo_readTest w_Mo_readTest rm [.ref x0] M post) (hR : gF X rm 3 k n) (hlen : ∀ r M', post r M' → M'.length = M.length) (kk : ∀ r M', post r M' → gg X M' (k + rm.cells) (n + rm.slots) 136 [] (r.toList ++ [])) : gg X M k n 132 [(0, .ref x0)] [] := by
  refine g_aload_n ok d_Mo_readElement_132 rfl (j := 0) rfl ?_
  exact gc_Mo_265 (As := []) (rest := []) ok d_Mo_readElement_133 hm rfl rfl (Nat.le_of_ble_eq_true rfl) hR h1 hlen (fun r M' q => (gg_keep [] (kk r M' q)))
theorem k_Mo_readElement_136 {X : gC} {M : List mC} {k n : Nat}  (ok : gO X c_Mo_readElement "TripleStoreModel" w_Mo_readElement)  (kk : gg X M k n 204 [] []) : gg X M k n 136 [] [] := by
  exact g_goto (tgt := 204) ok d_Mo_readElement_136 (by decide) kk
theorem k_Mo_readElement_139 {X : gC} {M : List mC} {k n : Nat} {x0 : Nat} {fs2 : List Value} {f3 : Int32} (ok : gO X c_Mo_readElement "TripleStoreModel" w_Mo_readElement) (h1 : M[x0]? = some (.inr (10, fs2))) (h4 : fs2[15]? = some (.int f3)) (kt : f3 = 3 → gg X M k n 154 [(0, .ref x0)] []) (kf : ¬ f3 = 3 → gg X M k n 147 [(0, .ref x0)] []) : gg X M k n 139 [(0, .ref x0)] [] := by
  refine g_aload_n ok d_Mo_readElement_139 rfl (j := 0) rfl ?_
  refine gf_Mo_181 ok d_Mo_readElement_140 h1 h4 ?_
  refine g_iconst (v := 3) ok d_Mo_readElement_143 (by decide) ?_
  exact g_icmp_eq (tgt := 154) ok d_Mo_readElement_144 (by decide) (fun z => (kt z)) (fun z => (kf z))
theorem k_Mo_readElement_147 {X : gC} {M : List mC} {k n : Nat} {x0 : Nat} {fs2 : List Value} (ok : gO X c_Mo_readElement "TripleStoreModel" w_Mo_readElement) (h1 : M[x0]? = some (.inr (10, fs2))) {rm : Room} {post : Option Value → List mC → Prop} (hm : mm_ (gLa X) y_Mo_isTerm w_Mo_isTerm rm [.ref x0] M post) (hR : gF X rm 3 k n) (hlen : ∀ r M', post r M' → M'.length = M.length) (kk : ∀ r M', post r M' → gg X M' (k + rm.cells) (n + rm.slots) 151 [(0, .ref x0)] (r.toList ++ [])) : gg X M k n 147 [(0, .ref x0)] [] := by
  refine g_aload_n ok d_Mo_readElement_147 rfl (j := 0) rfl ?_
  exact gc_Mo_240 (As := []) (rest := []) ok d_Mo_readElement_148 hm rfl rfl (Nat.le_of_ble_eq_true rfl) hR h1 hlen kk
theorem k_Mo_readElement_151 {X : gC} {M : List mC} {k n : Nat} {x0 : Nat} {s0 : Int32} (ok : gO X c_Mo_readElement "TripleStoreModel" w_Mo_readElement)  (kt : s0 = 0 → gg X M k n 204 [] []) (kf : ¬ s0 = 0 → gg X M k n 154 [(0, .ref x0)] []) : gg X M k n 151 [(0, .ref x0)] [.int s0] := by
  exact g_if_eq (tgt := 204) ok d_Mo_readElement_151 (by decide) (fun z => (gg_keep [] (kt z))) (fun z => (kf z))
theorem k_Mo_readElement_154 {X : gC} {M : List mC} {k n : Nat} {x0 : Nat} {fs2 : List Value} {f3 : Int32} {fs7 : List Value} {M9 : List mC} (ok : gO X c_Mo_readElement "TripleStoreModel" w_Mo_readElement) (hl : gL X = 4) (h1 : M[x0]? = some (.inr (10, fs2))) (h4 : fs2[35]? = some (.int f3)) (h6 : 59 ≤ fs2.length) (h8 : fs2.set 35 (.int (f3 + 1)) = fs7) (h10 : M.set x0 (.inr (10, fs7)) = M9) (kk : gg X M9 k n 173 [(0, .ref x0), (2, .int (3 * f3)), (3, .int 0)] []) : gg X M k n 154 [(0, .ref x0)] [] := by
  refine g_iconst (v := 3) ok d_Mo_readElement_154 (by decide) ?_
  refine g_aload_n ok d_Mo_readElement_155 rfl (j := 0) rfl ?_
  refine gf_Mo_268 ok d_Mo_readElement_156 h1 h4 ?_
  refine g_imul ok d_Mo_readElement_159 ?_
  refine g_istore_n (L' := [(0, .ref x0), (2, .int (3 * f3))]) ok d_Mo_readElement_160 rfl (by rw [hl]; decide) rfl ?_
  refine g_aload_n ok d_Mo_readElement_161 rfl (j := 0) rfl ?_
  refine g_dup ok d_Mo_readElement_162 rfl ?_
  refine gf_Mo_268 ok d_Mo_readElement_163 h1 h4 ?_
  refine g_iconst (v := 1) ok d_Mo_readElement_166 (by decide) ?_
  refine g_iadd ok d_Mo_readElement_167 ?_
  have h5 : 35 < fs2.length := Nat.lt_of_lt_of_le (by decide) h6
  refine pf_Mo_268 ok d_Mo_readElement_168 h1 h5 (fun _ => ⟨rfl, rfl⟩) ?_
  rw [h8]
  rw [h10]
  have h11 : M9[x0]? = some (.inr (10, fs7)) := by rw [← h10]; exact gs_eq h1
  have h12 : fs7[35]? = some (.int (f3 + 1)) := by rw [← h8]; exact List.getElem?_set_self h5
  have h13 : 59 ≤ fs7.length := by rw [← h8, List.length_set]; exact h6
  refine g_iconst (v := 0) ok d_Mo_readElement_171 (by decide) ?_
  refine g_istore_n (L' := [(0, .ref x0), (2, .int (3 * f3)), (3, .int 0)]) ok d_Mo_readElement_172 rfl (by rw [hl]; decide) rfl ?_
  exact kk
theorem k_Mo_readElement_173 {X : gC} {M : List mC} {k n : Nat} {x0 : Nat} {x2 : Int32} {x3 : Int32} (ok : gO X c_Mo_readElement "TripleStoreModel" w_Mo_readElement)  (kt : 3 ≤ x3 → gg X M k n 198 [(0, .ref x0), (2, .int x2)] []) (kf : ¬ 3 ≤ x3 → gg X M k n 178 [(0, .ref x0), (2, .int x2), (3, .int x3)] []) : gg X M k n 173 [(0, .ref x0), (2, .int x2), (3, .int x3)] [] := by
  refine g_iload_n ok d_Mo_readElement_173 rfl (j := 2) rfl ?_
  refine g_iconst (v := 3) ok d_Mo_readElement_174 (by decide) ?_
  exact g_icmp_ge (tgt := 198) ok d_Mo_readElement_175 (by decide) (fun z => (gg_keep [0, 2] (kt z))) (fun z => (kf z))
theorem k_Mo_readElement_178 {X : gC} {M : List mC} {k n : Nat} {x0 : Nat} {x2 : Int32} {x3 : Int32} {fs2 : List Value} {f3 : Int32} (ok : gO X c_Mo_readElement "TripleStoreModel" w_Mo_readElement) (h1 : M[x0]? = some (.inr (10, fs2))) (h4 : fs2[20]? = some (.int f3)) (kt : 0 ≤ f3 → gg X M k n 198 [(0, .ref x0), (2, .int x2)] []) (kf : ¬ 0 ≤ f3 → gg X M k n 185 [(0, .ref x0), (2, .int x2), (3, .int x3)] []) : gg X M k n 178 [(0, .ref x0), (2, .int x2), (3, .int x3)] [] := by
  refine g_aload_n ok d_Mo_readElement_178 rfl (j := 0) rfl ?_
  refine gf_Mo_220 ok d_Mo_readElement_179 h1 h4 ?_
  exact g_if_ge (tgt := 198) ok d_Mo_readElement_182 (by decide) (fun z => (gg_keep [0, 2] (kt z))) (fun z => (kf z))
theorem k_Mo_readElement_185 {X : gC} {M : List mC} {k n : Nat} {x0 : Nat} {x2 : Int32} {x3 : Int32} {fs2 : List Value} (ok : gO X c_Mo_readElement "TripleStoreModel" w_Mo_readElement) (h1 : M[x0]? = some (.inr (10, fs2))) {rm : Room} {post : Option Value → List mC → Prop} (hm : mm_ (gLa X) y_Mo_readSide w_Mo_readSide rm [.ref x0, .int (x2 + x3)] M post) (hR : gF X rm 3 k n) (hlen : ∀ r M', post r M' → M'.length = M.length) (kk : ∀ r M', post r M' → gg X M' (k + rm.cells) (n + rm.slots) 192 [(0, .ref x0), (2, .int x2), (3, .int x3)] (r.toList ++ [])) : gg X M k n 185 [(0, .ref x0), (2, .int x2), (3, .int x3)] [] := by
  refine g_aload_n ok d_Mo_readElement_185 rfl (j := 0) rfl ?_
  refine g_iload_n ok d_Mo_readElement_186 rfl (j := 1) rfl ?_
  refine g_iload_n ok d_Mo_readElement_187 rfl (j := 2) rfl ?_
  refine g_iadd ok d_Mo_readElement_188 ?_
  exact gc_Mo_253 (As := [.int (x2 + x3)]) (rest := []) ok d_Mo_readElement_189 hm rfl rfl (Nat.le_of_ble_eq_true rfl) hR h1 hlen kk
theorem k_Mo_readElement_192 {X : gC} {M : List mC} {k n : Nat} {x0 : Nat} {x2 : Int32} {x3 : Int32} (ok : gO X c_Mo_readElement "TripleStoreModel" w_Mo_readElement) (hl : gL X = 4)  (kk : gg X M k n 173 [(0, .ref x0), (2, .int x2), (3, .int (x3 + 1))] []) : gg X M k n 192 [(0, .ref x0), (2, .int x2), (3, .int x3)] [] := by
  refine g_iinc (L' := [(0, .ref x0), (2, .int x2), (3, .int (x3 + 1))]) (v := (x3 + 1)) ok d_Mo_readElement_192 (j := 2) rfl rfl (by rw [hl]; decide) rfl ?_
  exact g_goto (tgt := 173) ok d_Mo_readElement_195 (by decide) kk
theorem k_Mo_readElement_198 {X : gC} {M : List mC} {k n : Nat} {x0 : Nat} {x2 : Int32} {fs2 : List Value} (ok : gO X c_Mo_readElement "TripleStoreModel" w_Mo_readElement) (h1 : M[x0]? = some (.inr (10, fs2))) {rm : Room} {post : Option Value → List mC → Prop} (hm : mm_ (gLa X) y_Mo_emit w_Mo_emit rm [.ref x0, .int 2, .int x2] M post) (hR : gF X rm 3 k n) (hlen : ∀ r M', post r M' → M'.length = M.length) (kk : ∀ r M', post r M' → gg X M' (k + rm.cells) (n + rm.slots) 204 [] (r.toList ++ [])) : gg X M k n 198 [(0, .ref x0), (2, .int x2)] [] := by
  refine g_aload_n ok d_Mo_readElement_198 rfl (j := 0) rfl ?_
  refine g_iconst (v := 2) ok d_Mo_readElement_199 (by decide) ?_
  refine g_iload_n ok d_Mo_readElement_200 rfl (j := 1) rfl ?_
  exact gc_Mo_271 (As := [.int 2, .int x2]) (rest := []) ok d_Mo_readElement_201 hm rfl rfl (Nat.le_of_ble_eq_true rfl) hR h1 hlen (fun r M' q => (gg_keep [] (kk r M' q)))
theorem k_Mo_readElement_204 {X : gC} {M : List mC} {k n : Nat}  (ok : gO X c_Mo_readElement "TripleStoreModel" w_Mo_readElement)  {l9 : Launch} {rm : Room} {M0 : List mC} {post : Option Value → List mC → Prop} (E : gE X l9 y_Mo_readElement rm 4 none M0 post) (hp : post (none) M) (hk : k ≤ rm.cells) (hn : n ≤ rm.slots) : gg X M k n 204 [] [] := by
  exact g_vret ok E d_Mo_readElement_204 hp hk hn
theorem k_Mo_readOn_0 {X : gC} {M : List mC} {k n : Nat} {x0 : Nat} {fs2 : List Value} (ok : gO X c_Mo_readOn "TripleStoreModel" w_Mo_readOn) (h1 : M[x0]? = some (.inr (10, fs2))) {rm : Room} {post : Option Value → List mC → Prop} (hm : mm_ (gLa X) y_Mo_isKey w_Mo_isKey rm [.ref x0, .int 6] M post) (hR : gF X rm 4 k n) (hlen : ∀ r M', post r M' → M'.length = M.length) (kk : ∀ r M', post r M' → gg X M' (k + rm.cells) (n + rm.slots) 6 [(0, .ref x0)] (r.toList ++ [])) : gg X M k n 0 [(0, .ref x0)] [] := by
  refine g_aload_n ok d_Mo_readOn_0 rfl (j := 0) rfl ?_
  refine g_bipush (v := 6) ok d_Mo_readOn_1 (by decide) ?_
  exact gc_Mo_217 (As := [.int 6]) (rest := []) ok d_Mo_readOn_3 hm rfl rfl (Nat.le_of_ble_eq_true rfl) hR h1 hlen kk
theorem k_Mo_readOn_6 {X : gC} {M : List mC} {k n : Nat} {x0 : Nat} {s0 : Int32} (ok : gO X c_Mo_readOn "TripleStoreModel" w_Mo_readOn)  (kt : ¬ s0 = 0 → gg X M k n 18 [(0, .ref x0)] []) (kf : s0 = 0 → gg X M k n 9 [(0, .ref x0)] []) : gg X M k n 6 [(0, .ref x0)] [.int s0] := by
  exact g_if_ne (tgt := 18) ok d_Mo_readOn_6 (by decide) (fun z => (kt z)) (fun z => (kf z))
theorem k_Mo_readOn_9 {X : gC} {M : List mC} {k n : Nat} {x0 : Nat} {fs2 : List Value} (ok : gO X c_Mo_readOn "TripleStoreModel" w_Mo_readOn) (h1 : M[x0]? = some (.inr (10, fs2))) {rm : Room} {post : Option Value → List mC → Prop} (hm : mm_ (gLa X) y_Mo_isKey w_Mo_isKey rm [.ref x0, .int 7] M post) (hR : gF X rm 4 k n) (hlen : ∀ r M', post r M' → M'.length = M.length) (kk : ∀ r M', post r M' → gg X M' (k + rm.cells) (n + rm.slots) 15 [(0, .ref x0)] (r.toList ++ [])) : gg X M k n 9 [(0, .ref x0)] [] := by
  refine g_aload_n ok d_Mo_readOn_9 rfl (j := 0) rfl ?_
  refine g_bipush (v := 7) ok d_Mo_readOn_10 (by decide) ?_
  exact gc_Mo_217 (As := [.int 7]) (rest := []) ok d_Mo_readOn_12 hm rfl rfl (Nat.le_of_ble_eq_true rfl) hR h1 hlen kk
theorem k_Mo_readOn_15 {X : gC} {M : List mC} {k n : Nat} {x0 : Nat} {s0 : Int32} (ok : gO X c_Mo_readOn "TripleStoreModel" w_Mo_readOn)  (kt : s0 = 0 → gg X M k n 45 [(0, .ref x0)] []) (kf : ¬ s0 = 0 → gg X M k n 18 [(0, .ref x0)] []) : gg X M k n 15 [(0, .ref x0)] [.int s0] := by
  exact g_if_eq (tgt := 45) ok d_Mo_readOn_15 (by decide) (fun z => (kt z)) (fun z => (kf z))
theorem k_Mo_readOn_18 {X : gC} {M : List mC} {k n : Nat} {x0 : Nat} {fs2 : List Value} (ok : gO X c_Mo_readOn "TripleStoreModel" w_Mo_readOn) (h1 : M[x0]? = some (.inr (10, fs2))) {rm : Room} {post : Option Value → List mC → Prop} (hm : mm_ (gLa X) y_Mo_isKey w_Mo_isKey rm [.ref x0, .int 6] M post) (hR : gF X rm 4 k n) (hlen : ∀ r M', post r M' → M'.length = M.length) (kk : ∀ r M', post r M' → gg X M' (k + rm.cells) (n + rm.slots) 24 [(0, .ref x0)] (r.toList ++ [])) : gg X M k n 18 [(0, .ref x0)] [] := by
  refine g_aload_n ok d_Mo_readOn_18 rfl (j := 0) rfl ?_
  refine g_bipush (v := 6) ok d_Mo_readOn_19 (by decide) ?_
  exact gc_Mo_217 (As := [.int 6]) (rest := []) ok d_Mo_readOn_21 hm rfl rfl (Nat.le_of_ble_eq_true rfl) hR h1 hlen kk
theorem k_Mo_readOn_24 {X : gC} {M : List mC} {k n : Nat} {x0 : Nat} {s0 : Int32} (ok : gO X c_Mo_readOn "TripleStoreModel" w_Mo_readOn)  (kt : s0 = 0 → gg X M k n 31 [(0, .ref x0)] []) (kf : ¬ s0 = 0 → gg X M k n 27 [(0, .ref x0)] []) : gg X M k n 24 [(0, .ref x0)] [.int s0] := by
  exact g_if_eq (tgt := 31) ok d_Mo_readOn_24 (by decide) (fun z => (kt z)) (fun z => (kf z))
theorem k_Mo_readOn_27 {X : gC} {M : List mC} {k n : Nat} {x0 : Nat} (ok : gO X c_Mo_readOn "TripleStoreModel" w_Mo_readOn)  (kk : gg X M k n 32 [(0, .ref x0)] [.int 1]) : gg X M k n 27 [(0, .ref x0)] [] := by
  refine g_iconst (v := 1) ok d_Mo_readOn_27 (by decide) ?_
  exact g_goto (tgt := 32) ok d_Mo_readOn_28 (by decide) kk
theorem k_Mo_readOn_31 {X : gC} {M : List mC} {k n : Nat} {x0 : Nat} (ok : gO X c_Mo_readOn "TripleStoreModel" w_Mo_readOn)  (kk : gg X M k n 32 [(0, .ref x0)] [.int 2]) : gg X M k n 31 [(0, .ref x0)] [] := by
  refine g_iconst (v := 2) ok d_Mo_readOn_31 (by decide) ?_
  exact kk
theorem k_Mo_readOn_32 {X : gC} {M : List mC} {k n : Nat} {x0 : Nat} {s0 : Int32} {fs2 : List Value} (ok : gO X c_Mo_readOn "TripleStoreModel" w_Mo_readOn) (hl : gL X = 2) (h1 : M[x0]? = some (.inr (10, fs2))) {rm : Room} {post : Option Value → List mC → Prop} (hm : mm_ (gLa X) y_Mo_next w_Mo_next rm [.ref x0] M post) (hR : gF X rm 3 k n) (hlen : ∀ r M', post r M' → M'.length = M.length) (kk : ∀ r M', post r M' → gg X M' (k + rm.cells) (n + rm.slots) 37 [(0, .ref x0), (1, .int s0)] (r.toList ++ [])) : gg X M k n 32 [(0, .ref x0)] [.int s0] := by
  refine g_istore_n (L' := [(0, .ref x0), (1, .int s0)]) ok d_Mo_readOn_32 rfl (by rw [hl]; decide) rfl ?_
  refine g_aload_n ok d_Mo_readOn_33 rfl (j := 0) rfl ?_
  exact gc_Mo_226 (As := []) (rest := []) ok d_Mo_readOn_34 hm rfl rfl (Nat.le_of_ble_eq_true rfl) hR h1 hlen kk
theorem k_Mo_readOn_37 {X : gC} {M : List mC} {k n : Nat} {x0 : Nat} {x1 : Int32} {fs2 : List Value} (ok : gO X c_Mo_readOn "TripleStoreModel" w_Mo_readOn) (h1 : M[x0]? = some (.inr (10, fs2))) {rm : Room} {post : Option Value → List mC → Prop} (hm : mm_ (gLa X) y_Mo_readStart w_Mo_readStart rm [.ref x0, .int x1] M post) (hR : gF X rm 3 k n) (hlen : ∀ r M', post r M' → M'.length = M.length) (kk : ∀ r M', post r M' → gg X M' (k + rm.cells) (n + rm.slots) 42 [] (r.toList ++ [])) : gg X M k n 37 [(0, .ref x0), (1, .int x1)] [] := by
  refine g_aload_n ok d_Mo_readOn_37 rfl (j := 0) rfl ?_
  refine g_iload_n ok d_Mo_readOn_38 rfl (j := 1) rfl ?_
  exact gc_Mo_275 (As := [.int x1]) (rest := []) ok d_Mo_readOn_39 hm rfl rfl (Nat.le_of_ble_eq_true rfl) hR h1 hlen (fun r M' q => (gg_keep [] (kk r M' q)))
theorem k_Mo_readOn_42 {X : gC} {M : List mC} {k n : Nat}  (ok : gO X c_Mo_readOn "TripleStoreModel" w_Mo_readOn)  (kk : gg X M k n 76 [] []) : gg X M k n 42 [] [] := by
  exact g_goto (tgt := 76) ok d_Mo_readOn_42 (by decide) kk
theorem k_Mo_readOn_45 {X : gC} {M : List mC} {k n : Nat} {x0 : Nat} {fs2 : List Value} (ok : gO X c_Mo_readOn "TripleStoreModel" w_Mo_readOn) (h1 : M[x0]? = some (.inr (10, fs2))) {rm : Room} {post : Option Value → List mC → Prop} (hm : mm_ (gLa X) y_Mo_isSign w_Mo_isSign rm [.ref x0, .int 123] M post) (hR : gF X rm 2 k n) (hlen : ∀ r M', post r M' → M'.length = M.length) (kk : ∀ r M', post r M' → gg X M' (k + rm.cells) (n + rm.slots) 51 [(0, .ref x0)] (r.toList ++ [])) : gg X M k n 45 [(0, .ref x0)] [] := by
  refine g_aload_n ok d_Mo_readOn_45 rfl (j := 0) rfl ?_
  refine g_bipush (v := 123) ok d_Mo_readOn_46 (by decide) ?_
  exact gc_Mo_256 (As := [.int 123]) (rest := []) ok d_Mo_readOn_48 hm rfl rfl (Nat.le_of_ble_eq_true rfl) hR h1 hlen kk
theorem k_Mo_readOn_51 {X : gC} {M : List mC} {k n : Nat} {x0 : Nat} {s0 : Int32} (ok : gO X c_Mo_readOn "TripleStoreModel" w_Mo_readOn)  (kt : s0 = 0 → gg X M k n 76 [] []) (kf : ¬ s0 = 0 → gg X M k n 54 [(0, .ref x0)] []) : gg X M k n 51 [(0, .ref x0)] [.int s0] := by
  exact g_if_eq (tgt := 76) ok d_Mo_readOn_51 (by decide) (fun z => (gg_keep [] (kt z))) (fun z => (kf z))
theorem k_Mo_readOn_54 {X : gC} {M : List mC} {k n : Nat} {x0 : Nat} {fs2 : List Value} (ok : gO X c_Mo_readOn "TripleStoreModel" w_Mo_readOn) (h1 : M[x0]? = some (.inr (10, fs2))) {rm : Room} {post : Option Value → List mC → Prop} (hm : mm_ (gLa X) y_Mo_emit w_Mo_emit rm [.ref x0, .int 6, .int 0] M post) (hR : gF X rm 3 k n) (hlen : ∀ r M', post r M' → M'.length = M.length) (kk : ∀ r M', post r M' → gg X M' (k + rm.cells) (n + rm.slots) 61 [(0, .ref x0)] (r.toList ++ [])) : gg X M k n 54 [(0, .ref x0)] [] := by
  refine g_aload_n ok d_Mo_readOn_54 rfl (j := 0) rfl ?_
  refine g_bipush (v := 6) ok d_Mo_readOn_55 (by decide) ?_
  refine g_iconst (v := 0) ok d_Mo_readOn_57 (by decide) ?_
  exact gc_Mo_271 (As := [.int 6, .int 0]) (rest := []) ok d_Mo_readOn_58 hm rfl rfl (Nat.le_of_ble_eq_true rfl) hR h1 hlen kk
theorem k_Mo_readOn_61 {X : gC} {M : List mC} {k n : Nat} {x0 : Nat} {fs2 : List Value} {f3 : Nat} {f5 : Int32} {g8 : Nat → Int32} {N9 : Nat} {M11 : List mC} (ok : gO X c_Mo_readOn "TripleStoreModel" w_Mo_readOn) (h1 : M[x0]? = some (.inr (10, fs2))) (h4 : fs2[42]? = some (.ref f3)) (h6 : fs2[27]? = some (.int f5)) (h7 : M[f3]? = some (.inl (0, N9, .inl g8))) (h10 : vp_in f5 N9) (h12 : M.set f3 (.inl (0, N9, .inl (upd g8 f5.toNatClampNeg 0))) = M11) {rm : Room} {post : Option Value → List mC → Prop} (hm : mm_ (gLa X) y_Mo_readStart w_Mo_readStart rm [.ref x0, .int 3] M11 post) (hR : gF X rm 3 k n) (hlen : ∀ r M', post r M' → M'.length = M11.length) (kk : ∀ r M', post r M' → gg X M' (k + rm.cells) (n + rm.slots) 76 [] (r.toList ++ [])) : gg X M k n 61 [(0, .ref x0)] [] := by
  refine g_aload_n ok d_Mo_readOn_61 rfl (j := 0) rfl ?_
  refine gf_Mo_67 ok d_Mo_readOn_62 h1 h4 ?_
  refine g_aload_n ok d_Mo_readOn_65 rfl (j := 0) rfl ?_
  refine gf_Mo_250 ok d_Mo_readOn_66 h1 h6 ?_
  refine g_iconst (v := 0) ok d_Mo_readOn_69 (by decide) ?_
  refine g_iast (t := 0) ok rfl d_Mo_readOn_70 h7 h10 ?_
  rw [h12]
  have h13 : M11[f3]? = some (.inl (0, N9, .inl (upd g8 f5.toNatClampNeg 0))) := by rw [← h12]; exact gs_eq h7
  refine g_aload_n ok d_Mo_readOn_71 rfl (j := 0) rfl ?_
  refine g_iconst (v := 3) ok d_Mo_readOn_72 (by decide) ?_
  have h14 : M11[x0]? = some (.inr (10, fs2)) := by rw [← h12]; exact (gs_ne (ne_ao h7 h1)).trans h1
  exact gc_Mo_275 (As := [.int 3]) (rest := []) ok d_Mo_readOn_73 hm rfl rfl (Nat.le_of_ble_eq_true rfl) hR h14 hlen (fun r M' q => (gg_keep [] (kk r M' q)))
theorem k_Mo_readOn_76 {X : gC} {M : List mC} {k n : Nat}  (ok : gO X c_Mo_readOn "TripleStoreModel" w_Mo_readOn)  {l9 : Launch} {rm : Room} {M0 : List mC} {post : Option Value → List mC → Prop} (E : gE X l9 y_Mo_readOn rm 2 none M0 post) (hp : post (none) M) (hk : k ≤ rm.cells) (hn : n ≤ rm.slots) : gg X M k n 76 [] [] := by
  exact g_vret ok E d_Mo_readOn_76 hp hk hn
theorem k_Mo_readStart_0 {X : gC} {M : List mC} {k n : Nat} {x0 : Nat} {x1 : Int32} (ok : gO X c_Mo_readStart "TripleStoreModel" w_Mo_readStart)  (kt : ¬ x1 = 3 → gg X M k n 23 [(0, .ref x0), (1, .int x1)] []) (kf : x1 = 3 → gg X M k n 5 [(0, .ref x0), (1, .int x1)] []) : gg X M k n 0 [(0, .ref x0), (1, .int x1)] [] := by
  refine g_iload_n ok d_Mo_readStart_0 rfl (j := 1) rfl ?_
  refine g_iconst (v := 3) ok d_Mo_readStart_1 (by decide) ?_
  exact g_icmp_ne (tgt := 23) ok d_Mo_readStart_2 (by decide) (fun z => (kt z)) (fun z => (kf z))
theorem k_Mo_readStart_5 {X : gC} {M : List mC} {k n : Nat} {x0 : Nat} {x1 : Int32} {fs2 : List Value} {f3 : Nat} {f5 : Int32} {g8 : Nat → Int32} {N9 : Nat} (ok : gO X c_Mo_readStart "TripleStoreModel" w_Mo_readStart) (h1 : M[x0]? = some (.inr (10, fs2))) (h4 : fs2[42]? = some (.ref f3)) (h6 : fs2[27]? = some (.int f5)) (h7 : M[f3]? = some (.inl (0, N9, .inl g8))) (h10 : vp_in f5 N9) (kt : ¬ (g8 f5.toNatClampNeg) = 12 → gg X M k n 23 [(0, .ref x0), (1, .int x1)] []) (kf : (g8 f5.toNatClampNeg) = 12 → gg X M k n 19 [(0, .ref x0), (1, .int x1)] []) : gg X M k n 5 [(0, .ref x0), (1, .int x1)] [] := by
  refine g_aload_n ok d_Mo_readStart_5 rfl (j := 0) rfl ?_
  refine gf_Mo_67 ok d_Mo_readStart_6 h1 h4 ?_
  refine g_aload_n ok d_Mo_readStart_9 rfl (j := 0) rfl ?_
  refine gf_Mo_250 ok d_Mo_readStart_10 h1 h6 ?_
  refine g_iald (t := 0) ok rfl d_Mo_readStart_13 h7 h10 ?_
  refine g_bipush (v := 12) ok d_Mo_readStart_14 (by decide) ?_
  exact g_icmp_ne (tgt := 23) ok d_Mo_readStart_16 (by decide) (fun z => (kt z)) (fun z => (kf z))
theorem k_Mo_readStart_19 {X : gC} {M : List mC} {k n : Nat} {x0 : Nat} {x1 : Int32} (ok : gO X c_Mo_readStart "TripleStoreModel" w_Mo_readStart)  (kk : gg X M k n 24 [(0, .ref x0), (1, .int x1)] [.int 1]) : gg X M k n 19 [(0, .ref x0), (1, .int x1)] [] := by
  refine g_iconst (v := 1) ok d_Mo_readStart_19 (by decide) ?_
  exact g_goto (tgt := 24) ok d_Mo_readStart_20 (by decide) kk
theorem k_Mo_readStart_23 {X : gC} {M : List mC} {k n : Nat} {x0 : Nat} {x1 : Int32} (ok : gO X c_Mo_readStart "TripleStoreModel" w_Mo_readStart)  (kk : gg X M k n 24 [(0, .ref x0), (1, .int x1)] [.int 0]) : gg X M k n 23 [(0, .ref x0), (1, .int x1)] [] := by
  refine g_iconst (v := 0) ok d_Mo_readStart_23 (by decide) ?_
  exact kk
theorem k_Mo_readStart_24 {X : gC} {M : List mC} {k n : Nat} {x0 : Nat} {x1 : Int32} {s0 : Int32} {fs2 : List Value} (ok : gO X c_Mo_readStart "TripleStoreModel" w_Mo_readStart) (hl : gL X = 3) (h1 : M[x0]? = some (.inr (10, fs2))) {rm : Room} {post : Option Value → List mC → Prop} (hm : mm_ (gLa X) y_Mo_isSign w_Mo_isSign rm [.ref x0, .int 123] M post) (hR : gF X rm 2 k n) (hlen : ∀ r M', post r M' → M'.length = M.length) (kk : ∀ r M', post r M' → gg X M' (k + rm.cells) (n + rm.slots) 32 [(0, .ref x0), (1, .int x1), (2, .int s0)] (r.toList ++ [.ref x0])) : gg X M k n 24 [(0, .ref x0), (1, .int x1)] [.int s0] := by
  refine g_istore_n (L' := [(0, .ref x0), (1, .int x1), (2, .int s0)]) ok d_Mo_readStart_24 rfl (by rw [hl]; decide) rfl ?_
  refine g_aload_n ok d_Mo_readStart_25 rfl (j := 0) rfl ?_
  refine g_aload_n ok d_Mo_readStart_26 rfl (j := 0) rfl ?_
  refine g_bipush (v := 123) ok d_Mo_readStart_27 (by decide) ?_
  exact gc_Mo_256 (As := [.int 123]) (rest := [.ref x0]) ok d_Mo_readStart_29 hm rfl rfl (Nat.le_of_ble_eq_true rfl) hR h1 hlen kk
theorem k_Mo_readStart_32 {X : gC} {M : List mC} {k n : Nat} {x0 : Nat} {x1 : Int32} {x2 : Int32} {s1 : Int32} (ok : gO X c_Mo_readStart "TripleStoreModel" w_Mo_readStart)  (kt : s1 = 0 → gg X M k n 51 [(0, .ref x0), (1, .int x1)] [.ref x0]) (kf : ¬ s1 = 0 → gg X M k n 35 [(0, .ref x0), (1, .int x1), (2, .int x2)] [.ref x0]) : gg X M k n 32 [(0, .ref x0), (1, .int x1), (2, .int x2)] [.int s1, .ref x0] := by
  exact g_if_eq (tgt := 51) ok d_Mo_readStart_32 (by decide) (fun z => (gg_keep [0, 1] (kt z))) (fun z => (kf z))
theorem k_Mo_readStart_35 {X : gC} {M : List mC} {k n : Nat} {x0 : Nat} {x1 : Int32} {x2 : Int32} {fs2 : List Value} {f3 : Int32} (ok : gO X c_Mo_readStart "TripleStoreModel" w_Mo_readStart) (h1 : M[x0]? = some (.inr (10, fs2))) (h4 : fs2[27]? = some (.int f3)) (kt : 4 ≤ f3 → gg X M k n 51 [(0, .ref x0), (1, .int x1)] [.ref x0]) (kf : ¬ 4 ≤ f3 → gg X M k n 43 [(0, .ref x0), (1, .int x1), (2, .int x2)] [.ref x0]) : gg X M k n 35 [(0, .ref x0), (1, .int x1), (2, .int x2)] [.ref x0] := by
  refine g_aload_n ok d_Mo_readStart_35 rfl (j := 0) rfl ?_
  refine gf_Mo_250 ok d_Mo_readStart_36 h1 h4 ?_
  refine g_iconst (v := 4) ok d_Mo_readStart_39 (by decide) ?_
  exact g_icmp_ge (tgt := 51) ok d_Mo_readStart_40 (by decide) (fun z => (gg_keep [0, 1] (kt z))) (fun z => (kf z))
theorem k_Mo_readStart_43 {X : gC} {M : List mC} {k n : Nat} {x0 : Nat} {x1 : Int32} {x2 : Int32} (ok : gO X c_Mo_readStart "TripleStoreModel" w_Mo_readStart)  (kt : ¬ x2 = 0 → gg X M k n 51 [(0, .ref x0), (1, .int x1)] [.ref x0]) (kf : x2 = 0 → gg X M k n 47 [(0, .ref x0), (1, .int x1)] [.ref x0]) : gg X M k n 43 [(0, .ref x0), (1, .int x1), (2, .int x2)] [.ref x0] := by
  refine g_iload_n ok d_Mo_readStart_43 rfl (j := 2) rfl ?_
  exact g_if_ne (tgt := 51) ok d_Mo_readStart_44 (by decide) (fun z => (gg_keep [0, 1] (kt z))) (fun z => (gg_keep [0, 1] (kf z)))
theorem k_Mo_readStart_47 {X : gC} {M : List mC} {k n : Nat} {x0 : Nat} {x1 : Int32} (ok : gO X c_Mo_readStart "TripleStoreModel" w_Mo_readStart)  (kk : gg X M k n 52 [(0, .ref x0), (1, .int x1)] [.int 1, .ref x0]) : gg X M k n 47 [(0, .ref x0), (1, .int x1)] [.ref x0] := by
  refine g_iconst (v := 1) ok d_Mo_readStart_47 (by decide) ?_
  exact g_goto (tgt := 52) ok d_Mo_readStart_48 (by decide) kk
theorem k_Mo_readStart_51 {X : gC} {M : List mC} {k n : Nat} {x0 : Nat} {x1 : Int32} (ok : gO X c_Mo_readStart "TripleStoreModel" w_Mo_readStart)  (kk : gg X M k n 52 [(0, .ref x0), (1, .int x1)] [.int 0, .ref x0]) : gg X M k n 51 [(0, .ref x0), (1, .int x1)] [.ref x0] := by
  refine g_iconst (v := 0) ok d_Mo_readStart_51 (by decide) ?_
  exact kk
theorem k_Mo_readStart_52 {X : gC} {M : List mC} {k n : Nat} {x0 : Nat} {x1 : Int32} {s1 : Int32} {fs2 : List Value} (ok : gO X c_Mo_readStart "TripleStoreModel" w_Mo_readStart) (h1 : M[x0]? = some (.inr (10, fs2))) {rm : Room} {post : Option Value → List mC → Prop} (hm : mm_ (gLa X) y_Mo_goOn w_Mo_goOn rm [.ref x0, .int s1] M post) (hR : gF X rm 2 k n) (hlen : ∀ r M', post r M' → M'.length = M.length) (kk : ∀ r M', post r M' → gg X M' (k + rm.cells) (n + rm.slots) 55 [(0, .ref x0), (1, .int x1)] (r.toList ++ [])) : gg X M k n 52 [(0, .ref x0), (1, .int x1)] [.int s1, .ref x0] := by
  exact gc_Mo_232 (As := [.int s1]) (rest := []) ok d_Mo_readStart_52 hm rfl rfl (Nat.le_of_ble_eq_true rfl) hR h1 hlen kk
theorem k_Mo_readStart_55 {X : gC} {M : List mC} {k n : Nat} {x0 : Nat} {x1 : Int32} {s0 : Int32} (ok : gO X c_Mo_readStart "TripleStoreModel" w_Mo_readStart)  (kt : ¬ s0 = 0 → gg X M k n 59 [(0, .ref x0), (1, .int x1)] []) (kf : s0 = 0 → gg X M k n 58 [] []) : gg X M k n 55 [(0, .ref x0), (1, .int x1)] [.int s0] := by
  exact g_if_ne (tgt := 59) ok d_Mo_readStart_55 (by decide) (fun z => (kt z)) (fun z => (gg_keep [] (kf z)))
theorem k_Mo_readStart_58 {X : gC} {M : List mC} {k n : Nat}  (ok : gO X c_Mo_readStart "TripleStoreModel" w_Mo_readStart)  {l9 : Launch} {rm : Room} {M0 : List mC} {post : Option Value → List mC → Prop} (E : gE X l9 y_Mo_readStart rm 3 none M0 post) (hp : post (none) M) (hk : k ≤ rm.cells) (hn : n ≤ rm.slots) : gg X M k n 58 [] [] := by
  exact g_vret ok E d_Mo_readStart_58 hp hk hn
theorem k_Mo_readStart_59 {X : gC} {M : List mC} {k n : Nat} {x0 : Nat} {x1 : Int32} {fs2 : List Value} {f3 : Nat} {f5 : Int32} {g8 : Nat → Int32} {N9 : Nat} {M12 : List mC} {f16 : Nat} {g19 : Nat → Int32} {N20 : Nat} {M24 : List mC} {f28 : Nat} {f30 : Int32} {g33 : Nat → Int32} {N34 : Nat} {M40 : List mC} {fs46 : List Value} {M48 : List mC} {fs58 : List Value} {M60 : List mC} (ok : gO X c_Mo_readStart "TripleStoreModel" w_Mo_readStart) (h1 : M[x0]? = some (.inr (10, fs2))) (h4 : fs2[42]? = some (.ref f3)) (h6 : fs2[27]? = some (.int f5)) (h7 : M[f3]? = some (.inl (0, N9, .inl g8))) (h10 : vp_in f5 N9) (h11 : vp_in f5 N9) (h13 : M.set f3 (.inl (0, N9, .inl (upd g8 f5.toNatClampNeg ((g8 f5.toNatClampNeg) + 1)))) = M12) (h17 : fs2[28]? = some (.ref f16)) (h18 : M[f16]? = some (.inl (0, N20, .inl g19))) (h22 : f16 ≠ f3) (h23 : vp_in f5 N20) (h25 : M12.set f16 (.inl (0, N20, .inl (upd g19 f5.toNatClampNeg x1))) = M24) (h29 : fs2[29]? = some (.ref f28)) (h31 : fs2[26]? = some (.int f30)) (h32 : M[f28]? = some (.inl (0, N34, .inl g33))) (h36 : f28 ≠ f3) (h38 : f16 ≠ f28) (h39 : vp_in f5 N34) (h41 : M24.set f28 (.inl (0, N34, .inl (upd g33 f5.toNatClampNeg f30))) = M40) (h45 : 59 ≤ fs2.length) (h47 : fs2.set 26 (.int (f30 + 1)) = fs46) (h49 : M40.set x0 (.inr (10, fs46)) = M48) (h59 : fs46.set 27 (.int (f5 + 1)) = fs58) (h61 : M48.set x0 (.inr (10, fs58)) = M60) {rm : Room} {post : Option Value → List mC → Prop} (hm : mm_ (gLa X) y_Mo_emit w_Mo_emit rm [.ref x0, .int 1, .int 0] M60 post) (hR : gF X rm 3 k n) (hlen : ∀ r M', post r M' → M'.length = M60.length) (kk : ∀ r M', post r M' → gg X M' (k + rm.cells) (n + rm.slots) 121 [(0, .ref x0)] (r.toList ++ [])) : gg X M k n 59 [(0, .ref x0), (1, .int x1)] [] := by
  refine g_aload_n ok d_Mo_readStart_59 rfl (j := 0) rfl ?_
  refine gf_Mo_67 ok d_Mo_readStart_60 h1 h4 ?_
  refine g_aload_n ok d_Mo_readStart_63 rfl (j := 0) rfl ?_
  refine gf_Mo_250 ok d_Mo_readStart_64 h1 h6 ?_
  refine g_dup2_11 ok d_Mo_readStart_67 rfl rfl ?_
  refine g_iald (t := 0) ok rfl d_Mo_readStart_68 h7 h10 ?_
  refine g_iconst (v := 1) ok d_Mo_readStart_69 (by decide) ?_
  refine g_iadd ok d_Mo_readStart_70 ?_
  refine g_iast (t := 0) ok rfl d_Mo_readStart_71 h7 h11 ?_
  rw [h13]
  have h14 : M12[f3]? = some (.inl (0, N9, .inl (upd g8 f5.toNatClampNeg ((g8 f5.toNatClampNeg) + 1)))) := by rw [← h13]; exact gs_eq h7
  refine g_aload_n ok d_Mo_readStart_72 rfl (j := 0) rfl ?_
  have h15 : M12[x0]? = some (.inr (10, fs2)) := by rw [← h13]; exact (gs_ne (ne_ao h7 h1)).trans h1
  refine gf_Mo_37 ok d_Mo_readStart_73 h15 h17 ?_
  refine g_aload_n ok d_Mo_readStart_76 rfl (j := 0) rfl ?_
  refine gf_Mo_250 ok d_Mo_readStart_77 h15 h6 ?_
  refine g_iload_n ok d_Mo_readStart_80 rfl (j := 1) rfl ?_
  have h21 : M12[f16]? = some (.inl (0, N20, .inl g19)) := by rw [← h13]; exact (gs_ne (Ne.symm h22)).trans h18
  refine g_iast (t := 0) ok rfl d_Mo_readStart_81 h21 h23 ?_
  rw [h25]
  have h26 : M24[f16]? = some (.inl (0, N20, .inl (upd g19 f5.toNatClampNeg x1))) := by rw [← h25]; exact gs_eq h21
  refine g_aload_n ok d_Mo_readStart_82 rfl (j := 0) rfl ?_
  have h27 : M24[x0]? = some (.inr (10, fs2)) := by rw [← h25]; exact (gs_ne (ne_ao h21 h15)).trans h15
  refine gf_Mo_40 ok d_Mo_readStart_83 h27 h29 ?_
  refine g_aload_n ok d_Mo_readStart_86 rfl (j := 0) rfl ?_
  refine gf_Mo_250 ok d_Mo_readStart_87 h27 h6 ?_
  refine g_aload_n ok d_Mo_readStart_90 rfl (j := 0) rfl ?_
  refine gf_Mo_278 ok d_Mo_readStart_91 h27 h31 ?_
  have h35 : M12[f28]? = some (.inl (0, N34, .inl g33)) := by rw [← h13]; exact (gs_ne (Ne.symm h36)).trans h32
  have h37 : M24[f28]? = some (.inl (0, N34, .inl g33)) := by rw [← h25]; exact (gs_ne h38).trans h35
  refine g_iast (t := 0) ok rfl d_Mo_readStart_94 h37 h39 ?_
  rw [h41]
  have h42 : M40[f28]? = some (.inl (0, N34, .inl (upd g33 f5.toNatClampNeg f30))) := by rw [← h41]; exact gs_eq h37
  refine g_aload_n ok d_Mo_readStart_95 rfl (j := 0) rfl ?_
  refine g_dup ok d_Mo_readStart_96 rfl ?_
  have h43 : M40[x0]? = some (.inr (10, fs2)) := by rw [← h41]; exact (gs_ne (ne_ao h37 h27)).trans h27
  refine gf_Mo_278 ok d_Mo_readStart_97 h43 h31 ?_
  refine g_iconst (v := 1) ok d_Mo_readStart_100 (by decide) ?_
  refine g_iadd ok d_Mo_readStart_101 ?_
  have h44 : 26 < fs2.length := Nat.lt_of_lt_of_le (by decide) h45
  refine pf_Mo_278 ok d_Mo_readStart_102 h43 h44 (fun _ => ⟨rfl, rfl⟩) ?_
  rw [h47]
  rw [h49]
  have h50 : M48[x0]? = some (.inr (10, fs46)) := by rw [← h49]; exact gs_eq h43
  have h51 : fs46[42]? = some (.ref f3) := by rw [← h47]; exact (List.getElem?_set_ne (by decide : 26 ≠ 42)).trans h4
  have h52 : fs46[27]? = some (.int f5) := by rw [← h47]; exact (List.getElem?_set_ne (by decide : 26 ≠ 27)).trans h6
  have h53 : fs46[28]? = some (.ref f16) := by rw [← h47]; exact (List.getElem?_set_ne (by decide : 26 ≠ 28)).trans h17
  have h54 : fs46[29]? = some (.ref f28) := by rw [← h47]; exact (List.getElem?_set_ne (by decide : 26 ≠ 29)).trans h29
  have h55 : fs46[26]? = some (.int (f30 + 1)) := by rw [← h47]; exact List.getElem?_set_self h44
  have h56 : 59 ≤ fs46.length := by rw [← h47, List.length_set]; exact h45
  refine g_aload_n ok d_Mo_readStart_105 rfl (j := 0) rfl ?_
  refine g_dup ok d_Mo_readStart_106 rfl ?_
  refine gf_Mo_250 ok d_Mo_readStart_107 h50 h52 ?_
  refine g_iconst (v := 1) ok d_Mo_readStart_110 (by decide) ?_
  refine g_iadd ok d_Mo_readStart_111 ?_
  have h57 : 27 < fs46.length := Nat.lt_of_lt_of_le (by decide) h56
  refine pf_Mo_250 ok d_Mo_readStart_112 h50 h57 (fun _ => ⟨rfl, rfl⟩) ?_
  rw [h59]
  rw [h61]
  have h62 : M60[x0]? = some (.inr (10, fs58)) := by rw [← h61]; exact gs_eq h50
  have h63 : fs58[42]? = some (.ref f3) := by rw [← h59]; exact (List.getElem?_set_ne (by decide : 27 ≠ 42)).trans h51
  have h64 : fs58[28]? = some (.ref f16) := by rw [← h59]; exact (List.getElem?_set_ne (by decide : 27 ≠ 28)).trans h53
  have h65 : fs58[29]? = some (.ref f28) := by rw [← h59]; exact (List.getElem?_set_ne (by decide : 27 ≠ 29)).trans h54
  have h66 : fs58[26]? = some (.int (f30 + 1)) := by rw [← h59]; exact (List.getElem?_set_ne (by decide : 27 ≠ 26)).trans h55
  have h67 : fs58[27]? = some (.int (f5 + 1)) := by rw [← h59]; exact List.getElem?_set_self h57
  have h68 : 59 ≤ fs58.length := by rw [← h59, List.length_set]; exact h56
  refine g_aload_n ok d_Mo_readStart_115 rfl (j := 0) rfl ?_
  refine g_iconst (v := 1) ok d_Mo_readStart_116 (by decide) ?_
  refine g_iconst (v := 0) ok d_Mo_readStart_117 (by decide) ?_
  exact gc_Mo_271 (As := [.int 1, .int 0]) (rest := []) ok d_Mo_readStart_118 hm rfl rfl (Nat.le_of_ble_eq_true rfl) hR h62 hlen (fun r M' q => (gg_keep [0] (kk r M' q)))
theorem k_Mo_readStart_121 {X : gC} {M : List mC} {k n : Nat} {x0 : Nat} {fs2 : List Value} {fs5 : List Value} {M7 : List mC} (ok : gO X c_Mo_readStart "TripleStoreModel" w_Mo_readStart) (h1 : M[x0]? = some (.inr (10, fs2))) (h4 : 59 ≤ fs2.length) (h6 : fs2.set 21 (.int 1) = fs5) (h8 : M.set x0 (.inr (10, fs5)) = M7) {l9 : Launch} {rm : Room} {M0 : List mC} {post : Option Value → List mC → Prop} (E : gE X l9 y_Mo_readStart rm 3 none M0 post) (hp : post (none) M7) (hk : k ≤ rm.cells) (hn : n ≤ rm.slots) : gg X M k n 121 [(0, .ref x0)] [] := by
  refine g_aload_n ok d_Mo_readStart_121 rfl (j := 0) rfl ?_
  refine g_iconst (v := 1) ok d_Mo_readStart_122 (by decide) ?_
  have h3 : 21 < fs2.length := Nat.lt_of_lt_of_le (by decide) h4
  refine pf_Mo_281 ok d_Mo_readStart_123 h1 h3 (fun _ => ⟨rfl, rfl⟩) ?_
  rw [h6]
  rw [h8]
  have h9 : M7[x0]? = some (.inr (10, fs5)) := by rw [← h8]; exact gs_eq h1
  have h10 : fs5[21]? = some (.int 1) := by rw [← h6]; exact List.getElem?_set_self h3
  have h11 : 59 ≤ fs5.length := by rw [← h6, List.length_set]; exact h4
  exact g_vret ok E d_Mo_readStart_126 hp hk hn
theorem k_Mo_readClose_0 {X : gC} {M : List mC} {k n : Nat} {x0 : Nat} {fs2 : List Value} (ok : gO X c_Mo_readClose "TripleStoreModel" w_Mo_readClose) (h1 : M[x0]? = some (.inr (10, fs2))) {rm : Room} {post : Option Value → List mC → Prop} (hm : mm_ (gLa X) y_Mo_next w_Mo_next rm [.ref x0] M post) (hR : gF X rm 3 k n) (hlen : ∀ r M', post r M' → M'.length = M.length) (kk : ∀ r M', post r M' → gg X M' (k + rm.cells) (n + rm.slots) 4 [(0, .ref x0)] (r.toList ++ [])) : gg X M k n 0 [(0, .ref x0)] [] := by
  refine g_aload_n ok d_Mo_readClose_0 rfl (j := 0) rfl ?_
  exact gc_Mo_226 (As := []) (rest := []) ok d_Mo_readClose_1 hm rfl rfl (Nat.le_of_ble_eq_true rfl) hR h1 hlen kk
theorem k_Mo_readClose_4 {X : gC} {M : List mC} {k n : Nat} {x0 : Nat} {fs2 : List Value} {f3 : Int32} {fs7 : List Value} {M9 : List mC} {f14 : Nat} {g18 : Nat → Int32} {N19 : Nat} (ok : gO X c_Mo_readClose "TripleStoreModel" w_Mo_readClose) (h1 : M[x0]? = some (.inr (10, fs2))) (h4 : fs2[27]? = some (.int f3)) (h6 : 59 ≤ fs2.length) (h8 : fs2.set 27 (.int (f3 - 1)) = fs7) (h10 : M.set x0 (.inr (10, fs7)) = M9) (h15 : fs2[29]? = some (.ref f14)) (h17 : M[f14]? = some (.inl (0, N19, .inl g18))) (h21 : vp_in (f3 - 1) N19) {rm : Room} {post : Option Value → List mC → Prop} (hm : mm_ (gLa X) y_Mo_emit w_Mo_emit rm [.ref x0, .int 3, .int (g18 (f3 - 1).toNatClampNeg)] M9 post) (hR : gF X rm 3 k n) (hlen : ∀ r M', post r M' → M'.length = M9.length) (kk : ∀ r M', post r M' → gg X M' (k + rm.cells) (n + rm.slots) 28 [(0, .ref x0)] (r.toList ++ [])) : gg X M k n 4 [(0, .ref x0)] [] := by
  refine g_aload_n ok d_Mo_readClose_4 rfl (j := 0) rfl ?_
  refine g_dup ok d_Mo_readClose_5 rfl ?_
  refine gf_Mo_250 ok d_Mo_readClose_6 h1 h4 ?_
  refine g_iconst (v := 1) ok d_Mo_readClose_9 (by decide) ?_
  refine g_isub ok d_Mo_readClose_10 ?_
  have h5 : 27 < fs2.length := Nat.lt_of_lt_of_le (by decide) h6
  refine pf_Mo_250 ok d_Mo_readClose_11 h1 h5 (fun _ => ⟨rfl, rfl⟩) ?_
  rw [h8]
  rw [h10]
  have h11 : M9[x0]? = some (.inr (10, fs7)) := by rw [← h10]; exact gs_eq h1
  have h12 : fs7[27]? = some (.int (f3 - 1)) := by rw [← h8]; exact List.getElem?_set_self h5
  have h13 : 59 ≤ fs7.length := by rw [← h8, List.length_set]; exact h6
  refine g_aload_n ok d_Mo_readClose_14 rfl (j := 0) rfl ?_
  refine g_iconst (v := 3) ok d_Mo_readClose_15 (by decide) ?_
  refine g_aload_n ok d_Mo_readClose_16 rfl (j := 0) rfl ?_
  have h16 : fs7[29]? = some (.ref f14) := by rw [← h8]; exact (List.getElem?_set_ne (by decide : 27 ≠ 29)).trans h15
  refine gf_Mo_40 ok d_Mo_readClose_17 h11 h16 ?_
  refine g_aload_n ok d_Mo_readClose_20 rfl (j := 0) rfl ?_
  refine gf_Mo_250 ok d_Mo_readClose_21 h11 h12 ?_
  have h20 : M9[f14]? = some (.inl (0, N19, .inl g18)) := by rw [← h10]; exact (gs_ne (Ne.symm (ne_ao h17 h1))).trans h17
  refine g_iald (t := 0) ok rfl d_Mo_readClose_24 h20 h21 ?_
  exact gc_Mo_271 (As := [.int 3, .int (g18 (f3 - 1).toNatClampNeg)]) (rest := []) ok d_Mo_readClose_25 hm rfl rfl (Nat.le_of_ble_eq_true rfl) hR h11 hlen kk
theorem k_Mo_readClose_28 {X : gC} {M : List mC} {k n : Nat} {x0 : Nat} {fs2 : List Value} {f3 : Nat} {f5 : Int32} {g8 : Nat → Int32} {N9 : Nat} (ok : gO X c_Mo_readClose "TripleStoreModel" w_Mo_readClose) (hl : gL X = 2) (h1 : M[x0]? = some (.inr (10, fs2))) (h4 : fs2[28]? = some (.ref f3)) (h6 : fs2[27]? = some (.int f5)) (h7 : M[f3]? = some (.inl (0, N9, .inl g8))) (h10 : vp_in f5 N9) (kt : ¬ (g8 f5.toNatClampNeg) = 1 → gg X M k n 52 [(0, .ref x0), (1, .int (g8 f5.toNatClampNeg))] []) (kf : (g8 f5.toNatClampNeg) = 1 → gg X M k n 43 [(0, .ref x0)] []) : gg X M k n 28 [(0, .ref x0)] [] := by
  refine g_aload_n ok d_Mo_readClose_28 rfl (j := 0) rfl ?_
  refine gf_Mo_37 ok d_Mo_readClose_29 h1 h4 ?_
  refine g_aload_n ok d_Mo_readClose_32 rfl (j := 0) rfl ?_
  refine gf_Mo_250 ok d_Mo_readClose_33 h1 h6 ?_
  refine g_iald (t := 0) ok rfl d_Mo_readClose_36 h7 h10 ?_
  refine g_istore_n (L' := [(0, .ref x0), (1, .int (g8 f5.toNatClampNeg))]) ok d_Mo_readClose_37 rfl (by rw [hl]; decide) rfl ?_
  refine g_iload_n ok d_Mo_readClose_38 rfl (j := 1) rfl ?_
  refine g_iconst (v := 1) ok d_Mo_readClose_39 (by decide) ?_
  exact g_icmp_ne (tgt := 52) ok d_Mo_readClose_40 (by decide) (fun z => (kt z)) (fun z => (gg_keep [0] (kf z)))
theorem k_Mo_readClose_43 {X : gC} {M : List mC} {k n : Nat} {x0 : Nat} {fs2 : List Value} (ok : gO X c_Mo_readClose "TripleStoreModel" w_Mo_readClose) (h1 : M[x0]? = some (.inr (10, fs2))) {rm : Room} {post : Option Value → List mC → Prop} (hm : mm_ (gLa X) y_Mo_emit w_Mo_emit rm [.ref x0, .int 4, .int 0] M post) (hR : gF X rm 3 k n) (hlen : ∀ r M', post r M' → M'.length = M.length) (kk : ∀ r M', post r M' → gg X M' (k + rm.cells) (n + rm.slots) 49 [] (r.toList ++ [])) : gg X M k n 43 [(0, .ref x0)] [] := by
  refine g_aload_n ok d_Mo_readClose_43 rfl (j := 0) rfl ?_
  refine g_iconst (v := 4) ok d_Mo_readClose_44 (by decide) ?_
  refine g_iconst (v := 0) ok d_Mo_readClose_45 (by decide) ?_
  exact gc_Mo_271 (As := [.int 4, .int 0]) (rest := []) ok d_Mo_readClose_46 hm rfl rfl (Nat.le_of_ble_eq_true rfl) hR h1 hlen (fun r M' q => (gg_keep [] (kk r M' q)))
theorem k_Mo_readClose_49 {X : gC} {M : List mC} {k n : Nat}  (ok : gO X c_Mo_readClose "TripleStoreModel" w_Mo_readClose)  (kk : gg X M k n 106 [] []) : gg X M k n 49 [] [] := by
  exact g_goto (tgt := 106) ok d_Mo_readClose_49 (by decide) kk
theorem k_Mo_readClose_52 {X : gC} {M : List mC} {k n : Nat} {x0 : Nat} {x1 : Int32} (ok : gO X c_Mo_readClose "TripleStoreModel" w_Mo_readClose)  (kt : ¬ x1 = 2 → gg X M k n 66 [(0, .ref x0), (1, .int x1)] []) (kf : x1 = 2 → gg X M k n 57 [(0, .ref x0)] []) : gg X M k n 52 [(0, .ref x0), (1, .int x1)] [] := by
  refine g_iload_n ok d_Mo_readClose_52 rfl (j := 1) rfl ?_
  refine g_iconst (v := 2) ok d_Mo_readClose_53 (by decide) ?_
  exact g_icmp_ne (tgt := 66) ok d_Mo_readClose_54 (by decide) (fun z => (kt z)) (fun z => (gg_keep [0] (kf z)))
theorem k_Mo_readClose_57 {X : gC} {M : List mC} {k n : Nat} {x0 : Nat} {fs2 : List Value} (ok : gO X c_Mo_readClose "TripleStoreModel" w_Mo_readClose) (h1 : M[x0]? = some (.inr (10, fs2))) {rm : Room} {post : Option Value → List mC → Prop} (hm : mm_ (gLa X) y_Mo_emit w_Mo_emit rm [.ref x0, .int 5, .int 0] M post) (hR : gF X rm 3 k n) (hlen : ∀ r M', post r M' → M'.length = M.length) (kk : ∀ r M', post r M' → gg X M' (k + rm.cells) (n + rm.slots) 63 [] (r.toList ++ [])) : gg X M k n 57 [(0, .ref x0)] [] := by
  refine g_aload_n ok d_Mo_readClose_57 rfl (j := 0) rfl ?_
  refine g_iconst (v := 5) ok d_Mo_readClose_58 (by decide) ?_
  refine g_iconst (v := 0) ok d_Mo_readClose_59 (by decide) ?_
  exact gc_Mo_271 (As := [.int 5, .int 0]) (rest := []) ok d_Mo_readClose_60 hm rfl rfl (Nat.le_of_ble_eq_true rfl) hR h1 hlen (fun r M' q => (gg_keep [] (kk r M' q)))
theorem k_Mo_readClose_63 {X : gC} {M : List mC} {k n : Nat}  (ok : gO X c_Mo_readClose "TripleStoreModel" w_Mo_readClose)  (kk : gg X M k n 106 [] []) : gg X M k n 63 [] [] := by
  exact g_goto (tgt := 106) ok d_Mo_readClose_63 (by decide) kk
theorem k_Mo_readClose_66 {X : gC} {M : List mC} {k n : Nat} {x0 : Nat} {x1 : Int32} (ok : gO X c_Mo_readClose "TripleStoreModel" w_Mo_readClose)  (kt : ¬ x1 = 3 → gg X M k n 106 [] []) (kf : x1 = 3 → gg X M k n 71 [(0, .ref x0)] []) : gg X M k n 66 [(0, .ref x0), (1, .int x1)] [] := by
  refine g_iload_n ok d_Mo_readClose_66 rfl (j := 1) rfl ?_
  refine g_iconst (v := 3) ok d_Mo_readClose_67 (by decide) ?_
  exact g_icmp_ne (tgt := 106) ok d_Mo_readClose_68 (by decide) (fun z => (gg_keep [] (kt z))) (fun z => (gg_keep [0] (kf z)))
theorem k_Mo_readClose_71 {X : gC} {M : List mC} {k n : Nat} {x0 : Nat} {fs2 : List Value} (ok : gO X c_Mo_readClose "TripleStoreModel" w_Mo_readClose) (h1 : M[x0]? = some (.inr (10, fs2))) {rm : Room} {post : Option Value → List mC → Prop} (hm : mm_ (gLa X) y_Mo_emit w_Mo_emit rm [.ref x0, .int 7, .int 0] M post) (hR : gF X rm 3 k n) (hlen : ∀ r M', post r M' → M'.length = M.length) (kk : ∀ r M', post r M' → gg X M' (k + rm.cells) (n + rm.slots) 78 [(0, .ref x0)] (r.toList ++ [])) : gg X M k n 71 [(0, .ref x0)] [] := by
  refine g_aload_n ok d_Mo_readClose_71 rfl (j := 0) rfl ?_
  refine g_bipush (v := 7) ok d_Mo_readClose_72 (by decide) ?_
  refine g_iconst (v := 0) ok d_Mo_readClose_74 (by decide) ?_
  exact gc_Mo_271 (As := [.int 7, .int 0]) (rest := []) ok d_Mo_readClose_75 hm rfl rfl (Nat.le_of_ble_eq_true rfl) hR h1 hlen kk
theorem k_Mo_readClose_78 {X : gC} {M : List mC} {k n : Nat} {x0 : Nat} {fs2 : List Value} (ok : gO X c_Mo_readClose "TripleStoreModel" w_Mo_readClose) (h1 : M[x0]? = some (.inr (10, fs2))) {rm : Room} {post : Option Value → List mC → Prop} (hm : mm_ (gLa X) y_Mo_isKey w_Mo_isKey rm [.ref x0, .int 8] M post) (hR : gF X rm 4 k n) (hlen : ∀ r M', post r M' → M'.length = M.length) (kk : ∀ r M', post r M' → gg X M' (k + rm.cells) (n + rm.slots) 84 [(0, .ref x0)] (r.toList ++ [])) : gg X M k n 78 [(0, .ref x0)] [] := by
  refine g_aload_n ok d_Mo_readClose_78 rfl (j := 0) rfl ?_
  refine g_bipush (v := 8) ok d_Mo_readClose_79 (by decide) ?_
  exact gc_Mo_217 (As := [.int 8]) (rest := []) ok d_Mo_readClose_81 hm rfl rfl (Nat.le_of_ble_eq_true rfl) hR h1 hlen kk
theorem k_Mo_readClose_84 {X : gC} {M : List mC} {k n : Nat} {x0 : Nat} {s0 : Int32} (ok : gO X c_Mo_readClose "TripleStoreModel" w_Mo_readClose)  (kt : s0 = 0 → gg X M k n 99 [(0, .ref x0)] []) (kf : ¬ s0 = 0 → gg X M k n 87 [(0, .ref x0)] []) : gg X M k n 84 [(0, .ref x0)] [.int s0] := by
  exact g_if_eq (tgt := 99) ok d_Mo_readClose_84 (by decide) (fun z => (kt z)) (fun z => (kf z))
theorem k_Mo_readClose_87 {X : gC} {M : List mC} {k n : Nat} {x0 : Nat} {fs2 : List Value} (ok : gO X c_Mo_readClose "TripleStoreModel" w_Mo_readClose) (h1 : M[x0]? = some (.inr (10, fs2))) {rm : Room} {post : Option Value → List mC → Prop} (hm : mm_ (gLa X) y_Mo_next w_Mo_next rm [.ref x0] M post) (hR : gF X rm 3 k n) (hlen : ∀ r M', post r M' → M'.length = M.length) (kk : ∀ r M', post r M' → gg X M' (k + rm.cells) (n + rm.slots) 91 [(0, .ref x0)] (r.toList ++ [])) : gg X M k n 87 [(0, .ref x0)] [] := by
  refine g_aload_n ok d_Mo_readClose_87 rfl (j := 0) rfl ?_
  exact gc_Mo_226 (As := []) (rest := []) ok d_Mo_readClose_88 hm rfl rfl (Nat.le_of_ble_eq_true rfl) hR h1 hlen kk
theorem k_Mo_readClose_91 {X : gC} {M : List mC} {k n : Nat} {x0 : Nat} {fs2 : List Value} (ok : gO X c_Mo_readClose "TripleStoreModel" w_Mo_readClose) (h1 : M[x0]? = some (.inr (10, fs2))) {rm : Room} {post : Option Value → List mC → Prop} (hm : mm_ (gLa X) y_Mo_readStart w_Mo_readStart rm [.ref x0, .int 3] M post) (hR : gF X rm 3 k n) (hlen : ∀ r M', post r M' → M'.length = M.length) (kk : ∀ r M', post r M' → gg X M' (k + rm.cells) (n + rm.slots) 96 [] (r.toList ++ [])) : gg X M k n 91 [(0, .ref x0)] [] := by
  refine g_aload_n ok d_Mo_readClose_91 rfl (j := 0) rfl ?_
  refine g_iconst (v := 3) ok d_Mo_readClose_92 (by decide) ?_
  exact gc_Mo_275 (As := [.int 3]) (rest := []) ok d_Mo_readClose_93 hm rfl rfl (Nat.le_of_ble_eq_true rfl) hR h1 hlen (fun r M' q => (gg_keep [] (kk r M' q)))
theorem k_Mo_readClose_96 {X : gC} {M : List mC} {k n : Nat}  (ok : gO X c_Mo_readClose "TripleStoreModel" w_Mo_readClose)  (kk : gg X M k n 106 [] []) : gg X M k n 96 [] [] := by
  exact g_goto (tgt := 106) ok d_Mo_readClose_96 (by decide) kk
theorem k_Mo_readClose_99 {X : gC} {M : List mC} {k n : Nat} {x0 : Nat} {fs2 : List Value} (ok : gO X c_Mo_readClose "TripleStoreModel" w_Mo_readClose) (h1 : M[x0]? = some (.inr (10, fs2))) {rm : Room} {post : Option Value → List mC → Prop} (hm : mm_ (gLa X) y_Mo_emit w_Mo_emit rm [.ref x0, .int 8, .int 0] M post) (hR : gF X rm 3 k n) (hlen : ∀ r M', post r M' → M'.length = M.length) (kk : ∀ r M', post r M' → gg X M' (k + rm.cells) (n + rm.slots) 106 [] (r.toList ++ [])) : gg X M k n 99 [(0, .ref x0)] [] := by
  refine g_aload_n ok d_Mo_readClose_99 rfl (j := 0) rfl ?_
  refine g_bipush (v := 8) ok d_Mo_readClose_100 (by decide) ?_
  refine g_iconst (v := 0) ok d_Mo_readClose_102 (by decide) ?_
  exact gc_Mo_271 (As := [.int 8, .int 0]) (rest := []) ok d_Mo_readClose_103 hm rfl rfl (Nat.le_of_ble_eq_true rfl) hR h1 hlen (fun r M' q => (gg_keep [] (kk r M' q)))
theorem k_Mo_readClose_106 {X : gC} {M : List mC} {k n : Nat}  (ok : gO X c_Mo_readClose "TripleStoreModel" w_Mo_readClose)  {l9 : Launch} {rm : Room} {M0 : List mC} {post : Option Value → List mC → Prop} (E : gE X l9 y_Mo_readClose rm 2 none M0 post) (hp : post (none) M) (hk : k ≤ rm.cells) (hn : n ≤ rm.slots) : gg X M k n 106 [] [] := by
  exact g_vret ok E d_Mo_readClose_106 hp hk hn
theorem k_Mo_readGroups_0 {X : gC} {M : List mC} {k n : Nat} {x0 : Nat} {fs2 : List Value} (ok : gO X c_Mo_readGroups "TripleStoreModel" w_Mo_readGroups) (h1 : M[x0]? = some (.inr (10, fs2))) {rm : Room} {post : Option Value → List mC → Prop} (hm : mm_ (gLa X) y_Mo_readStart w_Mo_readStart rm [.ref x0, .int 0] M post) (hR : gF X rm 3 k n) (hlen : ∀ r M', post r M' → M'.length = M.length) (kk : ∀ r M', post r M' → gg X M' (k + rm.cells) (n + rm.slots) 5 [(0, .ref x0)] (r.toList ++ [])) : gg X M k n 0 [(0, .ref x0)] [] := by
  refine g_aload_n ok d_Mo_readGroups_0 rfl (j := 0) rfl ?_
  refine g_iconst (v := 0) ok d_Mo_readGroups_1 (by decide) ?_
  exact gc_Mo_275 (As := [.int 0]) (rest := []) ok d_Mo_readGroups_2 hm rfl rfl (Nat.le_of_ble_eq_true rfl) hR h1 hlen kk
theorem k_Mo_readGroups_5 {X : gC} {M : List mC} {k n : Nat} {x0 : Nat} {fs2 : List Value} {f3 : Int32} (ok : gO X c_Mo_readGroups "TripleStoreModel" w_Mo_readGroups) (h1 : M[x0]? = some (.inr (10, fs2))) (h4 : fs2[20]? = some (.int f3)) (kt : 0 ≤ f3 → gg X M k n 125 [] []) (kf : ¬ 0 ≤ f3 → gg X M k n 12 [(0, .ref x0)] []) : gg X M k n 5 [(0, .ref x0)] [] := by
  refine g_aload_n ok d_Mo_readGroups_5 rfl (j := 0) rfl ?_
  refine gf_Mo_220 ok d_Mo_readGroups_6 h1 h4 ?_
  exact g_if_ge (tgt := 125) ok d_Mo_readGroups_9 (by decide) (fun z => (gg_keep [] (kt z))) (fun z => (kf z))
theorem k_Mo_readGroups_12 {X : gC} {M : List mC} {k n : Nat} {x0 : Nat} {fs2 : List Value} {f3 : Int32} (ok : gO X c_Mo_readGroups "TripleStoreModel" w_Mo_readGroups) (h1 : M[x0]? = some (.inr (10, fs2))) (h4 : fs2[27]? = some (.int f3)) (kt : f3 ≤ 0 → gg X M k n 125 [] []) (kf : ¬ f3 ≤ 0 → gg X M k n 19 [(0, .ref x0)] []) : gg X M k n 12 [(0, .ref x0)] [] := by
  refine g_aload_n ok d_Mo_readGroups_12 rfl (j := 0) rfl ?_
  refine gf_Mo_250 ok d_Mo_readGroups_13 h1 h4 ?_
  exact g_if_le (tgt := 125) ok d_Mo_readGroups_16 (by decide) (fun z => (gg_keep [] (kt z))) (fun z => (kf z))
theorem k_Mo_readGroups_19 {X : gC} {M : List mC} {k n : Nat} {x0 : Nat} {fs2 : List Value} {f3 : Int32} (ok : gO X c_Mo_readGroups "TripleStoreModel" w_Mo_readGroups) (h1 : M[x0]? = some (.inr (10, fs2))) (h4 : fs2[21]? = some (.int f3)) (kt : f3 = 0 → gg X M k n 65 [(0, .ref x0)] []) (kf : ¬ f3 = 0 → gg X M k n 26 [(0, .ref x0)] []) : gg X M k n 19 [(0, .ref x0)] [] := by
  refine g_aload_n ok d_Mo_readGroups_19 rfl (j := 0) rfl ?_
  refine gf_Mo_281 ok d_Mo_readGroups_20 h1 h4 ?_
  exact g_if_eq (tgt := 65) ok d_Mo_readGroups_23 (by decide) (fun z => (kt z)) (fun z => (kf z))
theorem k_Mo_readGroups_26 {X : gC} {M : List mC} {k n : Nat} {x0 : Nat} {fs2 : List Value} (ok : gO X c_Mo_readGroups "TripleStoreModel" w_Mo_readGroups) (h1 : M[x0]? = some (.inr (10, fs2))) {rm : Room} {post : Option Value → List mC → Prop} (hm : mm_ (gLa X) y_Mo_isSign w_Mo_isSign rm [.ref x0, .int 125] M post) (hR : gF X rm 2 k n) (hlen : ∀ r M', post r M' → M'.length = M.length) (kk : ∀ r M', post r M' → gg X M' (k + rm.cells) (n + rm.slots) 32 [(0, .ref x0)] (r.toList ++ [])) : gg X M k n 26 [(0, .ref x0)] [] := by
  refine g_aload_n ok d_Mo_readGroups_26 rfl (j := 0) rfl ?_
  refine g_bipush (v := 125) ok d_Mo_readGroups_27 (by decide) ?_
  exact gc_Mo_256 (As := [.int 125]) (rest := []) ok d_Mo_readGroups_29 hm rfl rfl (Nat.le_of_ble_eq_true rfl) hR h1 hlen kk
theorem k_Mo_readGroups_32 {X : gC} {M : List mC} {k n : Nat} {x0 : Nat} {s0 : Int32} (ok : gO X c_Mo_readGroups "TripleStoreModel" w_Mo_readGroups)  (kt : ¬ s0 = 0 → gg X M k n 65 [(0, .ref x0)] []) (kf : s0 = 0 → gg X M k n 35 [(0, .ref x0)] []) : gg X M k n 32 [(0, .ref x0)] [.int s0] := by
  exact g_if_ne (tgt := 65) ok d_Mo_readGroups_32 (by decide) (fun z => (kt z)) (fun z => (kf z))
theorem k_Mo_readGroups_35 {X : gC} {M : List mC} {k n : Nat} {x0 : Nat} {fs2 : List Value} {fs5 : List Value} {M7 : List mC} (ok : gO X c_Mo_readGroups "TripleStoreModel" w_Mo_readGroups) (h1 : M[x0]? = some (.inr (10, fs2))) (h4 : 59 ≤ fs2.length) (h6 : fs2.set 21 (.int 0) = fs5) (h8 : M.set x0 (.inr (10, fs5)) = M7) {rm : Room} {post : Option Value → List mC → Prop} (hm : mm_ (gLa X) y_Mo_readElement w_Mo_readElement rm [.ref x0] M7 post) (hR : gF X rm 4 k n) (hlen : ∀ r M', post r M' → M'.length = M7.length) (kk : ∀ r M', post r M' → gg X M' (k + rm.cells) (n + rm.slots) 44 [(0, .ref x0)] (r.toList ++ [])) : gg X M k n 35 [(0, .ref x0)] [] := by
  refine g_aload_n ok d_Mo_readGroups_35 rfl (j := 0) rfl ?_
  refine g_iconst (v := 0) ok d_Mo_readGroups_36 (by decide) ?_
  have h3 : 21 < fs2.length := Nat.lt_of_lt_of_le (by decide) h4
  refine pf_Mo_281 ok d_Mo_readGroups_37 h1 h3 (fun _ => ⟨rfl, rfl⟩) ?_
  rw [h6]
  rw [h8]
  have h9 : M7[x0]? = some (.inr (10, fs5)) := by rw [← h8]; exact gs_eq h1
  have h10 : fs5[21]? = some (.int 0) := by rw [← h6]; exact List.getElem?_set_self h3
  have h11 : 59 ≤ fs5.length := by rw [← h6, List.length_set]; exact h4
  refine g_aload_n ok d_Mo_readGroups_40 rfl (j := 0) rfl ?_
  exact gc_Mo_284 (As := []) (rest := []) ok d_Mo_readGroups_41 hm rfl rfl (Nat.le_of_ble_eq_true rfl) hR h9 hlen kk
theorem k_Mo_readGroups_44 {X : gC} {M : List mC} {k n : Nat} {x0 : Nat} {fs2 : List Value} {f3 : Int32} (ok : gO X c_Mo_readGroups "TripleStoreModel" w_Mo_readGroups) (h1 : M[x0]? = some (.inr (10, fs2))) (h4 : fs2[20]? = some (.int f3)) (kt : 0 ≤ f3 → gg X M k n 5 [(0, .ref x0)] []) (kf : ¬ 0 ≤ f3 → gg X M k n 51 [(0, .ref x0)] []) : gg X M k n 44 [(0, .ref x0)] [] := by
  refine g_aload_n ok d_Mo_readGroups_44 rfl (j := 0) rfl ?_
  refine gf_Mo_220 ok d_Mo_readGroups_45 h1 h4 ?_
  exact g_if_ge (tgt := 5) ok d_Mo_readGroups_48 (by decide) (fun z => (kt z)) (fun z => (kf z))
theorem k_Mo_readGroups_51 {X : gC} {M : List mC} {k n : Nat} {x0 : Nat} {fs2 : List Value} {f3 : Int32} (ok : gO X c_Mo_readGroups "TripleStoreModel" w_Mo_readGroups) (h1 : M[x0]? = some (.inr (10, fs2))) (h4 : fs2[22]? = some (.int f3)) (kt : f3 = 0 → gg X M k n 5 [(0, .ref x0)] []) (kf : ¬ f3 = 0 → gg X M k n 58 [(0, .ref x0)] []) : gg X M k n 51 [(0, .ref x0)] [] := by
  refine g_aload_n ok d_Mo_readGroups_51 rfl (j := 0) rfl ?_
  refine gf_Mo_262 ok d_Mo_readGroups_52 h1 h4 ?_
  exact g_if_eq (tgt := 5) ok d_Mo_readGroups_55 (by decide) (fun z => (kt z)) (fun z => (kf z))
theorem k_Mo_readGroups_58 {X : gC} {M : List mC} {k n : Nat} {x0 : Nat} {fs2 : List Value} (ok : gO X c_Mo_readGroups "TripleStoreModel" w_Mo_readGroups) (h1 : M[x0]? = some (.inr (10, fs2))) {rm : Room} {post : Option Value → List mC → Prop} (hm : mm_ (gLa X) y_Mo_readOn w_Mo_readOn rm [.ref x0] M post) (hR : gF X rm 2 k n) (hlen : ∀ r M', post r M' → M'.length = M.length) (kk : ∀ r M', post r M' → gg X M' (k + rm.cells) (n + rm.slots) 62 [(0, .ref x0)] (r.toList ++ [])) : gg X M k n 58 [(0, .ref x0)] [] := by
  refine g_aload_n ok d_Mo_readGroups_58 rfl (j := 0) rfl ?_
  exact gc_Mo_287 (As := []) (rest := []) ok d_Mo_readGroups_59 hm rfl rfl (Nat.le_of_ble_eq_true rfl) hR h1 hlen kk
theorem k_Mo_readGroups_62 {X : gC} {M : List mC} {k n : Nat} {x0 : Nat} (ok : gO X c_Mo_readGroups "TripleStoreModel" w_Mo_readGroups)  (kk : gg X M k n 5 [(0, .ref x0)] []) : gg X M k n 62 [(0, .ref x0)] [] := by
  exact g_goto (tgt := 5) ok d_Mo_readGroups_62 (by decide) kk
theorem k_Mo_readGroups_65 {X : gC} {M : List mC} {k n : Nat} {x0 : Nat} {fs2 : List Value} (ok : gO X c_Mo_readGroups "TripleStoreModel" w_Mo_readGroups) (h1 : M[x0]? = some (.inr (10, fs2))) {rm : Room} {post : Option Value → List mC → Prop} (hm : mm_ (gLa X) y_Mo_isSign w_Mo_isSign rm [.ref x0, .int 125] M post) (hR : gF X rm 2 k n) (hlen : ∀ r M', post r M' → M'.length = M.length) (kk : ∀ r M', post r M' → gg X M' (k + rm.cells) (n + rm.slots) 71 [(0, .ref x0)] (r.toList ++ [])) : gg X M k n 65 [(0, .ref x0)] [] := by
  refine g_aload_n ok d_Mo_readGroups_65 rfl (j := 0) rfl ?_
  refine g_bipush (v := 125) ok d_Mo_readGroups_66 (by decide) ?_
  exact gc_Mo_256 (As := [.int 125]) (rest := []) ok d_Mo_readGroups_68 hm rfl rfl (Nat.le_of_ble_eq_true rfl) hR h1 hlen kk
theorem k_Mo_readGroups_71 {X : gC} {M : List mC} {k n : Nat} {x0 : Nat} {s0 : Int32} (ok : gO X c_Mo_readGroups "TripleStoreModel" w_Mo_readGroups)  (kt : s0 = 0 → gg X M k n 86 [(0, .ref x0)] []) (kf : ¬ s0 = 0 → gg X M k n 74 [(0, .ref x0)] []) : gg X M k n 71 [(0, .ref x0)] [.int s0] := by
  exact g_if_eq (tgt := 86) ok d_Mo_readGroups_71 (by decide) (fun z => (kt z)) (fun z => (kf z))
theorem k_Mo_readGroups_74 {X : gC} {M : List mC} {k n : Nat} {x0 : Nat} {fs2 : List Value} {fs5 : List Value} {M7 : List mC} (ok : gO X c_Mo_readGroups "TripleStoreModel" w_Mo_readGroups) (h1 : M[x0]? = some (.inr (10, fs2))) (h4 : 59 ≤ fs2.length) (h6 : fs2.set 21 (.int 0) = fs5) (h8 : M.set x0 (.inr (10, fs5)) = M7) {rm : Room} {post : Option Value → List mC → Prop} (hm : mm_ (gLa X) y_Mo_readClose w_Mo_readClose rm [.ref x0] M7 post) (hR : gF X rm 2 k n) (hlen : ∀ r M', post r M' → M'.length = M7.length) (kk : ∀ r M', post r M' → gg X M' (k + rm.cells) (n + rm.slots) 83 [(0, .ref x0)] (r.toList ++ [])) : gg X M k n 74 [(0, .ref x0)] [] := by
  refine g_aload_n ok d_Mo_readGroups_74 rfl (j := 0) rfl ?_
  refine g_iconst (v := 0) ok d_Mo_readGroups_75 (by decide) ?_
  have h3 : 21 < fs2.length := Nat.lt_of_lt_of_le (by decide) h4
  refine pf_Mo_281 ok d_Mo_readGroups_76 h1 h3 (fun _ => ⟨rfl, rfl⟩) ?_
  rw [h6]
  rw [h8]
  have h9 : M7[x0]? = some (.inr (10, fs5)) := by rw [← h8]; exact gs_eq h1
  have h10 : fs5[21]? = some (.int 0) := by rw [← h6]; exact List.getElem?_set_self h3
  have h11 : 59 ≤ fs5.length := by rw [← h6, List.length_set]; exact h4
  refine g_aload_n ok d_Mo_readGroups_79 rfl (j := 0) rfl ?_
  exact gc_Mo_290 (As := []) (rest := []) ok d_Mo_readGroups_80 hm rfl rfl (Nat.le_of_ble_eq_true rfl) hR h9 hlen kk
theorem k_Mo_readGroups_83 {X : gC} {M : List mC} {k n : Nat} {x0 : Nat} (ok : gO X c_Mo_readGroups "TripleStoreModel" w_Mo_readGroups)  (kk : gg X M k n 5 [(0, .ref x0)] []) : gg X M k n 83 [(0, .ref x0)] [] := by
  exact g_goto (tgt := 5) ok d_Mo_readGroups_83 (by decide) kk
theorem k_Mo_readGroups_86 {X : gC} {M : List mC} {k n : Nat} {x0 : Nat} {fs2 : List Value} (ok : gO X c_Mo_readGroups "TripleStoreModel" w_Mo_readGroups) (h1 : M[x0]? = some (.inr (10, fs2))) {rm : Room} {post : Option Value → List mC → Prop} (hm : mm_ (gLa X) y_Mo_isSign w_Mo_isSign rm [.ref x0, .int 46] M post) (hR : gF X rm 2 k n) (hlen : ∀ r M', post r M' → M'.length = M.length) (kk : ∀ r M', post r M' → gg X M' (k + rm.cells) (n + rm.slots) 93 [(0, .ref x0)] (r.toList ++ [.ref x0])) : gg X M k n 86 [(0, .ref x0)] [] := by
  refine g_aload_n ok d_Mo_readGroups_86 rfl (j := 0) rfl ?_
  refine g_aload_n ok d_Mo_readGroups_87 rfl (j := 0) rfl ?_
  refine g_bipush (v := 46) ok d_Mo_readGroups_88 (by decide) ?_
  exact gc_Mo_256 (As := [.int 46]) (rest := [.ref x0]) ok d_Mo_readGroups_90 hm rfl rfl (Nat.le_of_ble_eq_true rfl) hR h1 hlen kk
theorem k_Mo_readGroups_93 {X : gC} {M : List mC} {k n : Nat} {x0 : Nat} {s1 : Int32} {fs2 : List Value} (ok : gO X c_Mo_readGroups "TripleStoreModel" w_Mo_readGroups) (h1 : M[x0]? = some (.inr (10, fs2))) {rm : Room} {post : Option Value → List mC → Prop} (hm : mm_ (gLa X) y_Mo_goOn w_Mo_goOn rm [.ref x0, .int s1] M post) (hR : gF X rm 2 k n) (hlen : ∀ r M', post r M' → M'.length = M.length) (kk : ∀ r M', post r M' → gg X M' (k + rm.cells) (n + rm.slots) 96 [(0, .ref x0)] (r.toList ++ [])) : gg X M k n 93 [(0, .ref x0)] [.int s1, .ref x0] := by
  exact gc_Mo_232 (As := [.int s1]) (rest := []) ok d_Mo_readGroups_93 hm rfl rfl (Nat.le_of_ble_eq_true rfl) hR h1 hlen kk
theorem k_Mo_readGroups_96 {X : gC} {M : List mC} {k n : Nat} {x0 : Nat} {s0 : Int32} (ok : gO X c_Mo_readGroups "TripleStoreModel" w_Mo_readGroups)  (kt : ¬ s0 = 0 → gg X M k n 100 [(0, .ref x0)] []) (kf : s0 = 0 → gg X M k n 99 [] []) : gg X M k n 96 [(0, .ref x0)] [.int s0] := by
  exact g_if_ne (tgt := 100) ok d_Mo_readGroups_96 (by decide) (fun z => (kt z)) (fun z => (gg_keep [] (kf z)))
theorem k_Mo_readGroups_99 {X : gC} {M : List mC} {k n : Nat}  (ok : gO X c_Mo_readGroups "TripleStoreModel" w_Mo_readGroups)  {l9 : Launch} {rm : Room} {M0 : List mC} {post : Option Value → List mC → Prop} (E : gE X l9 y_Mo_readGroups rm 1 none M0 post) (hp : post (none) M) (hk : k ≤ rm.cells) (hn : n ≤ rm.slots) : gg X M k n 99 [] [] := by
  exact g_vret ok E d_Mo_readGroups_99 hp hk hn
theorem k_Mo_readGroups_100 {X : gC} {M : List mC} {k n : Nat} {x0 : Nat} {fs2 : List Value} (ok : gO X c_Mo_readGroups "TripleStoreModel" w_Mo_readGroups) (h1 : M[x0]? = some (.inr (10, fs2))) {rm : Room} {post : Option Value → List mC → Prop} (hm : mm_ (gLa X) y_Mo_readElement w_Mo_readElement rm [.ref x0] M post) (hR : gF X rm 4 k n) (hlen : ∀ r M', post r M' → M'.length = M.length) (kk : ∀ r M', post r M' → gg X M' (k + rm.cells) (n + rm.slots) 104 [(0, .ref x0)] (r.toList ++ [])) : gg X M k n 100 [(0, .ref x0)] [] := by
  refine g_aload_n ok d_Mo_readGroups_100 rfl (j := 0) rfl ?_
  exact gc_Mo_284 (As := []) (rest := []) ok d_Mo_readGroups_101 hm rfl rfl (Nat.le_of_ble_eq_true rfl) hR h1 hlen kk
theorem k_Mo_readGroups_104 {X : gC} {M : List mC} {k n : Nat} {x0 : Nat} {fs2 : List Value} {f3 : Int32} (ok : gO X c_Mo_readGroups "TripleStoreModel" w_Mo_readGroups) (h1 : M[x0]? = some (.inr (10, fs2))) (h4 : fs2[20]? = some (.int f3)) (kt : 0 ≤ f3 → gg X M k n 5 [(0, .ref x0)] []) (kf : ¬ 0 ≤ f3 → gg X M k n 111 [(0, .ref x0)] []) : gg X M k n 104 [(0, .ref x0)] [] := by
  refine g_aload_n ok d_Mo_readGroups_104 rfl (j := 0) rfl ?_
  refine gf_Mo_220 ok d_Mo_readGroups_105 h1 h4 ?_
  exact g_if_ge (tgt := 5) ok d_Mo_readGroups_108 (by decide) (fun z => (kt z)) (fun z => (kf z))
theorem k_Mo_readGroups_111 {X : gC} {M : List mC} {k n : Nat} {x0 : Nat} {fs2 : List Value} {f3 : Int32} (ok : gO X c_Mo_readGroups "TripleStoreModel" w_Mo_readGroups) (h1 : M[x0]? = some (.inr (10, fs2))) (h4 : fs2[22]? = some (.int f3)) (kt : f3 = 0 → gg X M k n 5 [(0, .ref x0)] []) (kf : ¬ f3 = 0 → gg X M k n 118 [(0, .ref x0)] []) : gg X M k n 111 [(0, .ref x0)] [] := by
  refine g_aload_n ok d_Mo_readGroups_111 rfl (j := 0) rfl ?_
  refine gf_Mo_262 ok d_Mo_readGroups_112 h1 h4 ?_
  exact g_if_eq (tgt := 5) ok d_Mo_readGroups_115 (by decide) (fun z => (kt z)) (fun z => (kf z))
theorem k_Mo_readGroups_118 {X : gC} {M : List mC} {k n : Nat} {x0 : Nat} {fs2 : List Value} (ok : gO X c_Mo_readGroups "TripleStoreModel" w_Mo_readGroups) (h1 : M[x0]? = some (.inr (10, fs2))) {rm : Room} {post : Option Value → List mC → Prop} (hm : mm_ (gLa X) y_Mo_readOn w_Mo_readOn rm [.ref x0] M post) (hR : gF X rm 2 k n) (hlen : ∀ r M', post r M' → M'.length = M.length) (kk : ∀ r M', post r M' → gg X M' (k + rm.cells) (n + rm.slots) 122 [(0, .ref x0)] (r.toList ++ [])) : gg X M k n 118 [(0, .ref x0)] [] := by
  refine g_aload_n ok d_Mo_readGroups_118 rfl (j := 0) rfl ?_
  exact gc_Mo_287 (As := []) (rest := []) ok d_Mo_readGroups_119 hm rfl rfl (Nat.le_of_ble_eq_true rfl) hR h1 hlen kk
theorem k_Mo_readGroups_122 {X : gC} {M : List mC} {k n : Nat} {x0 : Nat} (ok : gO X c_Mo_readGroups "TripleStoreModel" w_Mo_readGroups)  (kk : gg X M k n 5 [(0, .ref x0)] []) : gg X M k n 122 [(0, .ref x0)] [] := by
  exact g_goto (tgt := 5) ok d_Mo_readGroups_122 (by decide) kk
theorem k_Mo_readGroups_125 {X : gC} {M : List mC} {k n : Nat}  (ok : gO X c_Mo_readGroups "TripleStoreModel" w_Mo_readGroups)  {l9 : Launch} {rm : Room} {M0 : List mC} {post : Option Value → List mC → Prop} (E : gE X l9 y_Mo_readGroups rm 1 none M0 post) (hp : post (none) M) (hk : k ≤ rm.cells) (hn : n ≤ rm.slots) : gg X M k n 125 [] [] := by
  exact g_vret ok E d_Mo_readGroups_125 hp hk hn
theorem k_Mo_readQuery_0 {X : gC} {M : List mC} {k n : Nat} {x0 : Nat} {fs2 : List Value} (ok : gO X c_Mo_readQuery "TripleStoreModel" w_Mo_readQuery) (h1 : M[x0]? = some (.inr (10, fs2))) {rm : Room} {post : Option Value → List mC → Prop} (hm : mm_ (gLa X) y_Mo_isKey w_Mo_isKey rm [.ref x0, .int 0] M post) (hR : gF X rm 4 k n) (hlen : ∀ r M', post r M' → M'.length = M.length) (kk : ∀ r M', post r M' → gg X M' (k + rm.cells) (n + rm.slots) 6 [(0, .ref x0)] (r.toList ++ [.ref x0])) : gg X M k n 0 [(0, .ref x0)] [] := by
  refine g_aload_n ok d_Mo_readQuery_0 rfl (j := 0) rfl ?_
  refine g_aload_n ok d_Mo_readQuery_1 rfl (j := 0) rfl ?_
  refine g_iconst (v := 0) ok d_Mo_readQuery_2 (by decide) ?_
  exact gc_Mo_217 (As := [.int 0]) (rest := [.ref x0]) ok d_Mo_readQuery_3 hm rfl rfl (Nat.le_of_ble_eq_true rfl) hR h1 hlen kk
theorem k_Mo_readQuery_6 {X : gC} {M : List mC} {k n : Nat} {x0 : Nat} {s1 : Int32} {fs2 : List Value} (ok : gO X c_Mo_readQuery "TripleStoreModel" w_Mo_readQuery) (h1 : M[x0]? = some (.inr (10, fs2))) {rm : Room} {post : Option Value → List mC → Prop} (hm : mm_ (gLa X) y_Mo_goOn w_Mo_goOn rm [.ref x0, .int s1] M post) (hR : gF X rm 2 k n) (hlen : ∀ r M', post r M' → M'.length = M.length) (kk : ∀ r M', post r M' → gg X M' (k + rm.cells) (n + rm.slots) 9 [(0, .ref x0)] (r.toList ++ [])) : gg X M k n 6 [(0, .ref x0)] [.int s1, .ref x0] := by
  exact gc_Mo_232 (As := [.int s1]) (rest := []) ok d_Mo_readQuery_6 hm rfl rfl (Nat.le_of_ble_eq_true rfl) hR h1 hlen kk
theorem k_Mo_readQuery_9 {X : gC} {M : List mC} {k n : Nat} {x0 : Nat} {s0 : Int32} (ok : gO X c_Mo_readQuery "TripleStoreModel" w_Mo_readQuery)  (kt : ¬ s0 = 0 → gg X M k n 13 [(0, .ref x0)] []) (kf : s0 = 0 → gg X M k n 12 [] []) : gg X M k n 9 [(0, .ref x0)] [.int s0] := by
  exact g_if_ne (tgt := 13) ok d_Mo_readQuery_9 (by decide) (fun z => (kt z)) (fun z => (gg_keep [] (kf z)))
theorem k_Mo_readQuery_12 {X : gC} {M : List mC} {k n : Nat}  (ok : gO X c_Mo_readQuery "TripleStoreModel" w_Mo_readQuery)  {l9 : Launch} {rm : Room} {M0 : List mC} {post : Option Value → List mC → Prop} (E : gE X l9 y_Mo_readQuery rm 2 none M0 post) (hp : post (none) M) (hk : k ≤ rm.cells) (hn : n ≤ rm.slots) : gg X M k n 12 [] [] := by
  exact g_vret ok E d_Mo_readQuery_12 hp hk hn
theorem k_Mo_readQuery_13 {X : gC} {M : List mC} {k n : Nat} {x0 : Nat} {fs2 : List Value} (ok : gO X c_Mo_readQuery "TripleStoreModel" w_Mo_readQuery) (h1 : M[x0]? = some (.inr (10, fs2))) {rm : Room} {post : Option Value → List mC → Prop} (hm : mm_ (gLa X) y_Mo_isKey w_Mo_isKey rm [.ref x0, .int 1] M post) (hR : gF X rm 4 k n) (hlen : ∀ r M', post r M' → M'.length = M.length) (kk : ∀ r M', post r M' → gg X M' (k + rm.cells) (n + rm.slots) 19 [(0, .ref x0)] (r.toList ++ [.ref x0])) : gg X M k n 13 [(0, .ref x0)] [] := by
  refine g_aload_n ok d_Mo_readQuery_13 rfl (j := 0) rfl ?_
  refine g_aload_n ok d_Mo_readQuery_14 rfl (j := 0) rfl ?_
  refine g_iconst (v := 1) ok d_Mo_readQuery_15 (by decide) ?_
  exact gc_Mo_217 (As := [.int 1]) (rest := [.ref x0]) ok d_Mo_readQuery_16 hm rfl rfl (Nat.le_of_ble_eq_true rfl) hR h1 hlen kk
theorem k_Mo_readQuery_19 {X : gC} {M : List mC} {k n : Nat} {x0 : Nat} {s1 : Int32} {fs2 : List Value} {fs6 : List Value} {M8 : List mC} (ok : gO X c_Mo_readQuery "TripleStoreModel" w_Mo_readQuery) (h1 : M[x0]? = some (.inr (10, fs2))) (h4 : 59 ≤ fs2.length) (h5 : narrow .boolean (.int s1) = .int s1 ∧ fits .boolean (.int s1) = true) (h7 : fs2.set 43 (.int s1) = fs6) (h9 : M.set x0 (.inr (10, fs6)) = M8) (kt : s1 = 0 → gg X M8 k n 33 [(0, .ref x0)] []) (kf : ¬ s1 = 0 → gg X M8 k n 29 [(0, .ref x0)] []) : gg X M k n 19 [(0, .ref x0)] [.int s1, .ref x0] := by
  have h3 : 43 < fs2.length := Nat.lt_of_lt_of_le (by decide) h4
  refine pf_Mo_293 ok d_Mo_readQuery_19 h1 h3 (fun _ => h5) ?_
  rw [h7]
  rw [h9]
  have h10 : M8[x0]? = some (.inr (10, fs6)) := by rw [← h9]; exact gs_eq h1
  have h11 : fs6[43]? = some (.int s1) := by rw [← h7]; exact List.getElem?_set_self h3
  have h12 : 59 ≤ fs6.length := by rw [← h7, List.length_set]; exact h4
  refine g_aload_n ok d_Mo_readQuery_22 rfl (j := 0) rfl ?_
  refine gf_Mo_293 ok d_Mo_readQuery_23 h10 h11 ?_
  exact g_if_eq (tgt := 33) ok d_Mo_readQuery_26 (by decide) (fun z => (kt z)) (fun z => (kf z))
theorem k_Mo_readQuery_29 {X : gC} {M : List mC} {k n : Nat} {x0 : Nat} {fs2 : List Value} (ok : gO X c_Mo_readQuery "TripleStoreModel" w_Mo_readQuery) (h1 : M[x0]? = some (.inr (10, fs2))) {rm : Room} {post : Option Value → List mC → Prop} (hm : mm_ (gLa X) y_Mo_next w_Mo_next rm [.ref x0] M post) (hR : gF X rm 3 k n) (hlen : ∀ r M', post r M' → M'.length = M.length) (kk : ∀ r M', post r M' → gg X M' (k + rm.cells) (n + rm.slots) 33 [(0, .ref x0)] (r.toList ++ [])) : gg X M k n 29 [(0, .ref x0)] [] := by
  refine g_aload_n ok d_Mo_readQuery_29 rfl (j := 0) rfl ?_
  exact gc_Mo_226 (As := []) (rest := []) ok d_Mo_readQuery_30 hm rfl rfl (Nat.le_of_ble_eq_true rfl) hR h1 hlen kk
theorem k_Mo_readQuery_33 {X : gC} {M : List mC} {k n : Nat} {x0 : Nat} (ok : gO X c_Mo_readQuery "TripleStoreModel" w_Mo_readQuery) (hl : gL X = 2)  (kk : gg X M k n 35 [(0, .ref x0), (1, .int 1)] []) : gg X M k n 33 [(0, .ref x0)] [] := by
  refine g_iconst (v := 1) ok d_Mo_readQuery_33 (by decide) ?_
  refine g_istore_n (L' := [(0, .ref x0), (1, .int 1)]) ok d_Mo_readQuery_34 rfl (by rw [hl]; decide) rfl ?_
  exact kk
theorem k_Mo_readQuery_35 {X : gC} {M : List mC} {k n : Nat} {x0 : Nat} {x1 : Int32} (ok : gO X c_Mo_readQuery "TripleStoreModel" w_Mo_readQuery)  (kt : x1 = 0 → gg X M k n 108 [(0, .ref x0)] []) (kf : ¬ x1 = 0 → gg X M k n 39 [(0, .ref x0)] []) : gg X M k n 35 [(0, .ref x0), (1, .int x1)] [] := by
  refine g_iload_n ok d_Mo_readQuery_35 rfl (j := 1) rfl ?_
  exact g_if_eq (tgt := 108) ok d_Mo_readQuery_36 (by decide) (fun z => (gg_keep [0] (kt z))) (fun z => (gg_keep [0] (kf z)))
theorem k_Mo_readQuery_39 {X : gC} {M : List mC} {k n : Nat} {x0 : Nat} {fs2 : List Value} {f3 : Int32} (ok : gO X c_Mo_readQuery "TripleStoreModel" w_Mo_readQuery) (h1 : M[x0]? = some (.inr (10, fs2))) (h4 : fs2[41]? = some (.int f3)) (kt : ¬ f3 = 6 → gg X M k n 52 [(0, .ref x0)] []) (kf : f3 = 6 → gg X M k n 48 [(0, .ref x0)] []) : gg X M k n 39 [(0, .ref x0)] [] := by
  refine g_aload_n ok d_Mo_readQuery_39 rfl (j := 0) rfl ?_
  refine gf_Mo_296 ok d_Mo_readQuery_40 h1 h4 ?_
  refine g_bipush (v := 6) ok d_Mo_readQuery_43 (by decide) ?_
  exact g_icmp_ne (tgt := 52) ok d_Mo_readQuery_45 (by decide) (fun z => (kt z)) (fun z => (kf z))
theorem k_Mo_readQuery_48 {X : gC} {M : List mC} {k n : Nat} {x0 : Nat} {fs2 : List Value} (ok : gO X c_Mo_readQuery "TripleStoreModel" w_Mo_readQuery) (h1 : M[x0]? = some (.inr (10, fs2))) {rm : Room} {post : Option Value → List mC → Prop} (hm : mm_ (gLa X) y_Mo_stop w_Mo_stop rm [.ref x0] M post) (hR : gF X rm 1 k n) (hlen : ∀ r M', post r M' → M'.length = M.length) (kk : ∀ r M', post r M' → gg X M' (k + rm.cells) (n + rm.slots) 52 [(0, .ref x0)] (r.toList ++ [])) : gg X M k n 48 [(0, .ref x0)] [] := by
  refine g_aload_n ok d_Mo_readQuery_48 rfl (j := 0) rfl ?_
  exact gc_Mo_223 (As := []) (rest := []) ok d_Mo_readQuery_49 hm rfl rfl (Nat.le_of_ble_eq_true rfl) hR h1 hlen kk
theorem k_Mo_readQuery_52 {X : gC} {M : List mC} {k n : Nat} {x0 : Nat} {fs2 : List Value} {f3 : Int32} (ok : gO X c_Mo_readQuery "TripleStoreModel" w_Mo_readQuery) (h1 : M[x0]? = some (.inr (10, fs2))) (h4 : fs2[20]? = some (.int f3)) (kt : f3 < 0 → gg X M k n 60 [(0, .ref x0)] []) (kf : ¬ f3 < 0 → gg X M k n 59 [] []) : gg X M k n 52 [(0, .ref x0)] [] := by
  refine g_aload_n ok d_Mo_readQuery_52 rfl (j := 0) rfl ?_
  refine gf_Mo_220 ok d_Mo_readQuery_53 h1 h4 ?_
  exact g_if_lt (tgt := 60) ok d_Mo_readQuery_56 (by decide) (fun z => (kt z)) (fun z => (gg_keep [] (kf z)))
theorem k_Mo_readQuery_59 {X : gC} {M : List mC} {k n : Nat}  (ok : gO X c_Mo_readQuery "TripleStoreModel" w_Mo_readQuery)  {l9 : Launch} {rm : Room} {M0 : List mC} {post : Option Value → List mC → Prop} (E : gE X l9 y_Mo_readQuery rm 2 none M0 post) (hp : post (none) M) (hk : k ≤ rm.cells) (hn : n ≤ rm.slots) : gg X M k n 59 [] [] := by
  exact g_vret ok E d_Mo_readQuery_59 hp hk hn
theorem k_Mo_readQuery_60 {X : gC} {M : List mC} {k n : Nat} {x0 : Nat} {fs2 : List Value} {f3 : Nat} {f5 : Int32} (ok : gO X c_Mo_readQuery "TripleStoreModel" w_Mo_readQuery) (h1 : M[x0]? = some (.inr (10, fs2))) (h4 : fs2[40]? = some (.ref f3)) (h6 : fs2[41]? = some (.int f5)) {rm : Room} {post : Option Value → List mC → Prop} (hm : mm_ (gLa X) y_Mo_readVariable w_Mo_readVariable rm [.ref x0] M post) (hR : gF X rm 3 k n) (hlen : ∀ r M', post r M' → M'.length = M.length) (kk : ∀ r M', post r M' → gg X M' (k + rm.cells) (n + rm.slots) 72 [(0, .ref x0)] (r.toList ++ [.int f5, .ref f3])) : gg X M k n 60 [(0, .ref x0)] [] := by
  refine g_aload_n ok d_Mo_readQuery_60 rfl (j := 0) rfl ?_
  refine gf_Mo_64 ok d_Mo_readQuery_61 h1 h4 ?_
  refine g_aload_n ok d_Mo_readQuery_64 rfl (j := 0) rfl ?_
  refine gf_Mo_296 ok d_Mo_readQuery_65 h1 h6 ?_
  refine g_aload_n ok d_Mo_readQuery_68 rfl (j := 0) rfl ?_
  exact gc_Mo_236 (As := []) (rest := [.int f5, .ref f3]) ok d_Mo_readQuery_69 hm rfl rfl (Nat.le_of_ble_eq_true rfl) hR h1 hlen kk
theorem k_Mo_readQuery_72 {X : gC} {M : List mC} {k n : Nat} {x0 : Nat} {s0 : Nat} {s1 : Int32} {s2 : Int32} {g2 : Nat → Int32} {N3 : Nat} {M5 : List mC} {fs9 : List Value} {f11 : Int32} {fs15 : List Value} {M17 : List mC} {f22 : Int32} (ok : gO X c_Mo_readQuery "TripleStoreModel" w_Mo_readQuery) (h1 : M[s0]? = some (.inl (0, N3, .inl g2))) (h4 : vp_in s1 N3) (h6 : M.set s0 (.inl (0, N3, .inl (upd g2 s1.toNatClampNeg s2))) = M5) (h8 : M[x0]? = some (.inr (10, fs9))) (h12 : fs9[41]? = some (.int f11)) (h14 : 59 ≤ fs9.length) (h16 : fs9.set 41 (.int (f11 + 1)) = fs15) (h18 : M5.set x0 (.inr (10, fs15)) = M17) (h23 : fs9[20]? = some (.int f22)) (kt : f22 < 0 → gg X M17 k n 91 [(0, .ref x0)] []) (kf : ¬ f22 < 0 → gg X M17 k n 90 [] []) : gg X M k n 72 [(0, .ref x0)] [.int s2, .int s1, .ref s0] := by
  refine g_iast (t := 0) ok rfl d_Mo_readQuery_72 h1 h4 ?_
  rw [h6]
  have h7 : M5[s0]? = some (.inl (0, N3, .inl (upd g2 s1.toNatClampNeg s2))) := by rw [← h6]; exact gs_eq h1
  refine g_aload_n ok d_Mo_readQuery_73 rfl (j := 0) rfl ?_
  refine g_dup ok d_Mo_readQuery_74 rfl ?_
  have h10 : M5[x0]? = some (.inr (10, fs9)) := by rw [← h6]; exact (gs_ne (ne_ao h1 h8)).trans h8
  refine gf_Mo_296 ok d_Mo_readQuery_75 h10 h12 ?_
  refine g_iconst (v := 1) ok d_Mo_readQuery_78 (by decide) ?_
  refine g_iadd ok d_Mo_readQuery_79 ?_
  have h13 : 41 < fs9.length := Nat.lt_of_lt_of_le (by decide) h14
  refine pf_Mo_296 ok d_Mo_readQuery_80 h10 h13 (fun _ => ⟨rfl, rfl⟩) ?_
  rw [h16]
  rw [h18]
  have h19 : M17[x0]? = some (.inr (10, fs15)) := by rw [← h18]; exact gs_eq h10
  have h20 : fs15[41]? = some (.int (f11 + 1)) := by rw [← h16]; exact List.getElem?_set_self h13
  have h21 : 59 ≤ fs15.length := by rw [← h16, List.length_set]; exact h14
  refine g_aload_n ok d_Mo_readQuery_83 rfl (j := 0) rfl ?_
  have h24 : fs15[20]? = some (.int f22) := by rw [← h16]; exact (List.getElem?_set_ne (by decide : 41 ≠ 20)).trans h23
  refine gf_Mo_220 ok d_Mo_readQuery_84 h19 h24 ?_
  exact g_if_lt (tgt := 91) ok d_Mo_readQuery_87 (by decide) (fun z => (kt z)) (fun z => (gg_keep [] (kf z)))
theorem k_Mo_readQuery_90 {X : gC} {M : List mC} {k n : Nat}  (ok : gO X c_Mo_readQuery "TripleStoreModel" w_Mo_readQuery)  {l9 : Launch} {rm : Room} {M0 : List mC} {post : Option Value → List mC → Prop} (E : gE X l9 y_Mo_readQuery rm 2 none M0 post) (hp : post (none) M) (hk : k ≤ rm.cells) (hn : n ≤ rm.slots) : gg X M k n 90 [] [] := by
  exact g_vret ok E d_Mo_readQuery_90 hp hk hn
theorem k_Mo_readQuery_91 {X : gC} {M : List mC} {k n : Nat} {x0 : Nat} {fs2 : List Value} {f3 : Int32} (ok : gO X c_Mo_readQuery "TripleStoreModel" w_Mo_readQuery) (h1 : M[x0]? = some (.inr (10, fs2))) (h4 : fs2[15]? = some (.int f3)) (kt : ¬ f3 = 3 → gg X M k n 103 [(0, .ref x0)] []) (kf : f3 = 3 → gg X M k n 99 [(0, .ref x0)] []) : gg X M k n 91 [(0, .ref x0)] [] := by
  refine g_aload_n ok d_Mo_readQuery_91 rfl (j := 0) rfl ?_
  refine gf_Mo_181 ok d_Mo_readQuery_92 h1 h4 ?_
  refine g_iconst (v := 3) ok d_Mo_readQuery_95 (by decide) ?_
  exact g_icmp_ne (tgt := 103) ok d_Mo_readQuery_96 (by decide) (fun z => (kt z)) (fun z => (kf z))
theorem k_Mo_readQuery_99 {X : gC} {M : List mC} {k n : Nat} {x0 : Nat} (ok : gO X c_Mo_readQuery "TripleStoreModel" w_Mo_readQuery)  (kk : gg X M k n 104 [(0, .ref x0)] [.int 1]) : gg X M k n 99 [(0, .ref x0)] [] := by
  refine g_iconst (v := 1) ok d_Mo_readQuery_99 (by decide) ?_
  exact g_goto (tgt := 104) ok d_Mo_readQuery_100 (by decide) kk
theorem k_Mo_readQuery_103 {X : gC} {M : List mC} {k n : Nat} {x0 : Nat} (ok : gO X c_Mo_readQuery "TripleStoreModel" w_Mo_readQuery)  (kk : gg X M k n 104 [(0, .ref x0)] [.int 0]) : gg X M k n 103 [(0, .ref x0)] [] := by
  refine g_iconst (v := 0) ok d_Mo_readQuery_103 (by decide) ?_
  exact kk
theorem k_Mo_readQuery_104 {X : gC} {M : List mC} {k n : Nat} {x0 : Nat} {s0 : Int32} (ok : gO X c_Mo_readQuery "TripleStoreModel" w_Mo_readQuery) (hl : gL X = 2)  (kk : gg X M k n 35 [(0, .ref x0), (1, .int s0)] []) : gg X M k n 104 [(0, .ref x0)] [.int s0] := by
  refine g_istore_n (L' := [(0, .ref x0), (1, .int s0)]) ok d_Mo_readQuery_104 rfl (by rw [hl]; decide) rfl ?_
  exact g_goto (tgt := 35) ok d_Mo_readQuery_105 (by decide) kk
theorem k_Mo_readQuery_108 {X : gC} {M : List mC} {k n : Nat} {x0 : Nat} {fs2 : List Value} (ok : gO X c_Mo_readQuery "TripleStoreModel" w_Mo_readQuery) (h1 : M[x0]? = some (.inr (10, fs2))) {rm : Room} {post : Option Value → List mC → Prop} (hm : mm_ (gLa X) y_Mo_readGroups w_Mo_readGroups rm [.ref x0] M post) (hR : gF X rm 1 k n) (hlen : ∀ r M', post r M' → M'.length = M.length) (kk : ∀ r M', post r M' → gg X M' (k + rm.cells) (n + rm.slots) 112 [(0, .ref x0)] (r.toList ++ [])) : gg X M k n 108 [(0, .ref x0)] [] := by
  refine g_aload_n ok d_Mo_readQuery_108 rfl (j := 0) rfl ?_
  exact gc_Mo_299 (As := []) (rest := []) ok d_Mo_readQuery_109 hm rfl rfl (Nat.le_of_ble_eq_true rfl) hR h1 hlen kk
theorem k_Mo_readQuery_112 {X : gC} {M : List mC} {k n : Nat} {x0 : Nat} {fs2 : List Value} {f3 : Int32} (ok : gO X c_Mo_readQuery "TripleStoreModel" w_Mo_readQuery) (h1 : M[x0]? = some (.inr (10, fs2))) (h4 : fs2[20]? = some (.int f3)) (kt : f3 < 0 → gg X M k n 120 [(0, .ref x0)] []) (kf : ¬ f3 < 0 → gg X M k n 119 [] []) : gg X M k n 112 [(0, .ref x0)] [] := by
  refine g_aload_n ok d_Mo_readQuery_112 rfl (j := 0) rfl ?_
  refine gf_Mo_220 ok d_Mo_readQuery_113 h1 h4 ?_
  exact g_if_lt (tgt := 120) ok d_Mo_readQuery_116 (by decide) (fun z => (kt z)) (fun z => (gg_keep [] (kf z)))
theorem k_Mo_readQuery_119 {X : gC} {M : List mC} {k n : Nat}  (ok : gO X c_Mo_readQuery "TripleStoreModel" w_Mo_readQuery)  {l9 : Launch} {rm : Room} {M0 : List mC} {post : Option Value → List mC → Prop} (E : gE X l9 y_Mo_readQuery rm 2 none M0 post) (hp : post (none) M) (hk : k ≤ rm.cells) (hn : n ≤ rm.slots) : gg X M k n 119 [] [] := by
  exact g_vret ok E d_Mo_readQuery_119 hp hk hn
theorem k_Mo_readQuery_120 {X : gC} {M : List mC} {k n : Nat} {x0 : Nat} {fs2 : List Value} (ok : gO X c_Mo_readQuery "TripleStoreModel" w_Mo_readQuery) (h1 : M[x0]? = some (.inr (10, fs2))) {rm : Room} {post : Option Value → List mC → Prop} (hm : mm_ (gLa X) y_Mo_isKey w_Mo_isKey rm [.ref x0, .int 2] M post) (hR : gF X rm 4 k n) (hlen : ∀ r M', post r M' → M'.length = M.length) (kk : ∀ r M', post r M' → gg X M' (k + rm.cells) (n + rm.slots) 125 [(0, .ref x0)] (r.toList ++ [])) : gg X M k n 120 [(0, .ref x0)] [] := by
  refine g_aload_n ok d_Mo_readQuery_120 rfl (j := 0) rfl ?_
  refine g_iconst (v := 2) ok d_Mo_readQuery_121 (by decide) ?_
  exact gc_Mo_217 (As := [.int 2]) (rest := []) ok d_Mo_readQuery_122 hm rfl rfl (Nat.le_of_ble_eq_true rfl) hR h1 hlen kk
theorem k_Mo_readQuery_125 {X : gC} {M : List mC} {k n : Nat} {x0 : Nat} {s0 : Int32} (ok : gO X c_Mo_readQuery "TripleStoreModel" w_Mo_readQuery)  (kt : s0 = 0 → gg X M k n 168 [(0, .ref x0)] []) (kf : ¬ s0 = 0 → gg X M k n 128 [(0, .ref x0)] []) : gg X M k n 125 [(0, .ref x0)] [.int s0] := by
  exact g_if_eq (tgt := 168) ok d_Mo_readQuery_125 (by decide) (fun z => (kt z)) (fun z => (kf z))
theorem k_Mo_readQuery_128 {X : gC} {M : List mC} {k n : Nat} {x0 : Nat} {fs2 : List Value} (ok : gO X c_Mo_readQuery "TripleStoreModel" w_Mo_readQuery) (h1 : M[x0]? = some (.inr (10, fs2))) {rm : Room} {post : Option Value → List mC → Prop} (hm : mm_ (gLa X) y_Mo_next w_Mo_next rm [.ref x0] M post) (hR : gF X rm 3 k n) (hlen : ∀ r M', post r M' → M'.length = M.length) (kk : ∀ r M', post r M' → gg X M' (k + rm.cells) (n + rm.slots) 132 [(0, .ref x0)] (r.toList ++ [])) : gg X M k n 128 [(0, .ref x0)] [] := by
  refine g_aload_n ok d_Mo_readQuery_128 rfl (j := 0) rfl ?_
  exact gc_Mo_226 (As := []) (rest := []) ok d_Mo_readQuery_129 hm rfl rfl (Nat.le_of_ble_eq_true rfl) hR h1 hlen kk
theorem k_Mo_readQuery_132 {X : gC} {M : List mC} {k n : Nat} {x0 : Nat} {fs2 : List Value} (ok : gO X c_Mo_readQuery "TripleStoreModel" w_Mo_readQuery) (h1 : M[x0]? = some (.inr (10, fs2))) {rm : Room} {post : Option Value → List mC → Prop} (hm : mm_ (gLa X) y_Mo_readVariable w_Mo_readVariable rm [.ref x0] M post) (hR : gF X rm 3 k n) (hlen : ∀ r M', post r M' → M'.length = M.length) (kk : ∀ r M', post r M' → gg X M' (k + rm.cells) (n + rm.slots) 137 [(0, .ref x0)] (r.toList ++ [.ref x0])) : gg X M k n 132 [(0, .ref x0)] [] := by
  refine g_aload_n ok d_Mo_readQuery_132 rfl (j := 0) rfl ?_
  refine g_aload_n ok d_Mo_readQuery_133 rfl (j := 0) rfl ?_
  exact gc_Mo_236 (As := []) (rest := [.ref x0]) ok d_Mo_readQuery_134 hm rfl rfl (Nat.le_of_ble_eq_true rfl) hR h1 hlen kk
theorem k_Mo_readQuery_137 {X : gC} {M : List mC} {k n : Nat} {x0 : Nat} {s1 : Int32} {fs2 : List Value} {fs5 : List Value} {M7 : List mC} {f12 : Int32} (ok : gO X c_Mo_readQuery "TripleStoreModel" w_Mo_readQuery) (h1 : M[x0]? = some (.inr (10, fs2))) (h4 : 59 ≤ fs2.length) (h6 : fs2.set 44 (.int s1) = fs5) (h8 : M.set x0 (.inr (10, fs5)) = M7) (h13 : fs2[20]? = some (.int f12)) (kt : f12 < 0 → gg X M7 k n 148 [(0, .ref x0)] []) (kf : ¬ f12 < 0 → gg X M7 k n 147 [] []) : gg X M k n 137 [(0, .ref x0)] [.int s1, .ref x0] := by
  have h3 : 44 < fs2.length := Nat.lt_of_lt_of_le (by decide) h4
  refine pf_Mo_302 ok d_Mo_readQuery_137 h1 h3 (fun _ => ⟨rfl, rfl⟩) ?_
  rw [h6]
  rw [h8]
  have h9 : M7[x0]? = some (.inr (10, fs5)) := by rw [← h8]; exact gs_eq h1
  have h10 : fs5[44]? = some (.int s1) := by rw [← h6]; exact List.getElem?_set_self h3
  have h11 : 59 ≤ fs5.length := by rw [← h6, List.length_set]; exact h4
  refine g_aload_n ok d_Mo_readQuery_140 rfl (j := 0) rfl ?_
  have h14 : fs5[20]? = some (.int f12) := by rw [← h6]; exact (List.getElem?_set_ne (by decide : 44 ≠ 20)).trans h13
  refine gf_Mo_220 ok d_Mo_readQuery_141 h9 h14 ?_
  exact g_if_lt (tgt := 148) ok d_Mo_readQuery_144 (by decide) (fun z => (kt z)) (fun z => (gg_keep [] (kf z)))
theorem k_Mo_readQuery_147 {X : gC} {M : List mC} {k n : Nat}  (ok : gO X c_Mo_readQuery "TripleStoreModel" w_Mo_readQuery)  {l9 : Launch} {rm : Room} {M0 : List mC} {post : Option Value → List mC → Prop} (E : gE X l9 y_Mo_readQuery rm 2 none M0 post) (hp : post (none) M) (hk : k ≤ rm.cells) (hn : n ≤ rm.slots) : gg X M k n 147 [] [] := by
  exact g_vret ok E d_Mo_readQuery_147 hp hk hn
theorem k_Mo_readQuery_148 {X : gC} {M : List mC} {k n : Nat} {x0 : Nat} {fs2 : List Value} (ok : gO X c_Mo_readQuery "TripleStoreModel" w_Mo_readQuery) (h1 : M[x0]? = some (.inr (10, fs2))) {rm : Room} {post : Option Value → List mC → Prop} (hm : mm_ (gLa X) y_Mo_isKey w_Mo_isKey rm [.ref x0, .int 3] M post) (hR : gF X rm 4 k n) (hlen : ∀ r M', post r M' → M'.length = M.length) (kk : ∀ r M', post r M' → gg X M' (k + rm.cells) (n + rm.slots) 154 [(0, .ref x0)] (r.toList ++ [.ref x0])) : gg X M k n 148 [(0, .ref x0)] [] := by
  refine g_aload_n ok d_Mo_readQuery_148 rfl (j := 0) rfl ?_
  refine g_aload_n ok d_Mo_readQuery_149 rfl (j := 0) rfl ?_
  refine g_iconst (v := 3) ok d_Mo_readQuery_150 (by decide) ?_
  exact gc_Mo_217 (As := [.int 3]) (rest := [.ref x0]) ok d_Mo_readQuery_151 hm rfl rfl (Nat.le_of_ble_eq_true rfl) hR h1 hlen kk
theorem k_Mo_readQuery_154 {X : gC} {M : List mC} {k n : Nat} {x0 : Nat} {s1 : Int32} {fs2 : List Value} {fs6 : List Value} {M8 : List mC} (ok : gO X c_Mo_readQuery "TripleStoreModel" w_Mo_readQuery) (h1 : M[x0]? = some (.inr (10, fs2))) (h4 : 59 ≤ fs2.length) (h5 : narrow .boolean (.int s1) = .int s1 ∧ fits .boolean (.int s1) = true) (h7 : fs2.set 45 (.int s1) = fs6) (h9 : M.set x0 (.inr (10, fs6)) = M8) (kt : s1 = 0 → gg X M8 k n 168 [(0, .ref x0)] []) (kf : ¬ s1 = 0 → gg X M8 k n 164 [(0, .ref x0)] []) : gg X M k n 154 [(0, .ref x0)] [.int s1, .ref x0] := by
  have h3 : 45 < fs2.length := Nat.lt_of_lt_of_le (by decide) h4
  refine pf_Mo_305 ok d_Mo_readQuery_154 h1 h3 (fun _ => h5) ?_
  rw [h7]
  rw [h9]
  have h10 : M8[x0]? = some (.inr (10, fs6)) := by rw [← h9]; exact gs_eq h1
  have h11 : fs6[45]? = some (.int s1) := by rw [← h7]; exact List.getElem?_set_self h3
  have h12 : 59 ≤ fs6.length := by rw [← h7, List.length_set]; exact h4
  refine g_aload_n ok d_Mo_readQuery_157 rfl (j := 0) rfl ?_
  refine gf_Mo_305 ok d_Mo_readQuery_158 h10 h11 ?_
  exact g_if_eq (tgt := 168) ok d_Mo_readQuery_161 (by decide) (fun z => (kt z)) (fun z => (kf z))
theorem k_Mo_readQuery_164 {X : gC} {M : List mC} {k n : Nat} {x0 : Nat} {fs2 : List Value} (ok : gO X c_Mo_readQuery "TripleStoreModel" w_Mo_readQuery) (h1 : M[x0]? = some (.inr (10, fs2))) {rm : Room} {post : Option Value → List mC → Prop} (hm : mm_ (gLa X) y_Mo_next w_Mo_next rm [.ref x0] M post) (hR : gF X rm 3 k n) (hlen : ∀ r M', post r M' → M'.length = M.length) (kk : ∀ r M', post r M' → gg X M' (k + rm.cells) (n + rm.slots) 168 [(0, .ref x0)] (r.toList ++ [])) : gg X M k n 164 [(0, .ref x0)] [] := by
  refine g_aload_n ok d_Mo_readQuery_164 rfl (j := 0) rfl ?_
  exact gc_Mo_226 (As := []) (rest := []) ok d_Mo_readQuery_165 hm rfl rfl (Nat.le_of_ble_eq_true rfl) hR h1 hlen kk
theorem k_Mo_readQuery_168 {X : gC} {M : List mC} {k n : Nat} {x0 : Nat} {fs2 : List Value} (ok : gO X c_Mo_readQuery "TripleStoreModel" w_Mo_readQuery) (h1 : M[x0]? = some (.inr (10, fs2))) {rm : Room} {post : Option Value → List mC → Prop} (hm : mm_ (gLa X) y_Mo_isKey w_Mo_isKey rm [.ref x0, .int 4] M post) (hR : gF X rm 4 k n) (hlen : ∀ r M', post r M' → M'.length = M.length) (kk : ∀ r M', post r M' → gg X M' (k + rm.cells) (n + rm.slots) 173 [(0, .ref x0)] (r.toList ++ [])) : gg X M k n 168 [(0, .ref x0)] [] := by
  refine g_aload_n ok d_Mo_readQuery_168 rfl (j := 0) rfl ?_
  refine g_iconst (v := 4) ok d_Mo_readQuery_169 (by decide) ?_
  exact gc_Mo_217 (As := [.int 4]) (rest := []) ok d_Mo_readQuery_170 hm rfl rfl (Nat.le_of_ble_eq_true rfl) hR h1 hlen kk
theorem k_Mo_readQuery_173 {X : gC} {M : List mC} {k n : Nat} {x0 : Nat} {s0 : Int32} (ok : gO X c_Mo_readQuery "TripleStoreModel" w_Mo_readQuery)  (kt : s0 = 0 → gg X M k n 210 [(0, .ref x0)] []) (kf : ¬ s0 = 0 → gg X M k n 176 [(0, .ref x0)] []) : gg X M k n 173 [(0, .ref x0)] [.int s0] := by
  exact g_if_eq (tgt := 210) ok d_Mo_readQuery_173 (by decide) (fun z => (kt z)) (fun z => (kf z))
theorem k_Mo_readQuery_176 {X : gC} {M : List mC} {k n : Nat} {x0 : Nat} {fs2 : List Value} (ok : gO X c_Mo_readQuery "TripleStoreModel" w_Mo_readQuery) (h1 : M[x0]? = some (.inr (10, fs2))) {rm : Room} {post : Option Value → List mC → Prop} (hm : mm_ (gLa X) y_Mo_next w_Mo_next rm [.ref x0] M post) (hR : gF X rm 3 k n) (hlen : ∀ r M', post r M' → M'.length = M.length) (kk : ∀ r M', post r M' → gg X M' (k + rm.cells) (n + rm.slots) 180 [(0, .ref x0)] (r.toList ++ [])) : gg X M k n 176 [(0, .ref x0)] [] := by
  refine g_aload_n ok d_Mo_readQuery_176 rfl (j := 0) rfl ?_
  exact gc_Mo_226 (As := []) (rest := []) ok d_Mo_readQuery_177 hm rfl rfl (Nat.le_of_ble_eq_true rfl) hR h1 hlen kk
theorem k_Mo_readQuery_180 {X : gC} {M : List mC} {k n : Nat} {x0 : Nat} {fs2 : List Value} {f3 : Int64} {fs7 : List Value} {M9 : List mC} {f15 : Int32} (ok : gO X c_Mo_readQuery "TripleStoreModel" w_Mo_readQuery) (h1 : M[x0]? = some (.inr (10, fs2))) (h4 : fs2[16]? = some (.long f3)) (h6 : 59 ≤ fs2.length) (h8 : fs2.set 46 (.int ((f3 : Int64).toInt32)) = fs7) (h10 : M.set x0 (.inr (10, fs7)) = M9) (h16 : fs2[15]? = some (.int f15)) (kt : ¬ f15 = 2 → gg X M9 k n 202 [(0, .ref x0)] [.ref x0]) (kf : f15 = 2 → gg X M9 k n 198 [(0, .ref x0)] [.ref x0]) : gg X M k n 180 [(0, .ref x0)] [] := by
  refine g_aload_n ok d_Mo_readQuery_180 rfl (j := 0) rfl ?_
  refine g_aload_n ok d_Mo_readQuery_181 rfl (j := 0) rfl ?_
  refine gf_Mo_164 ok d_Mo_readQuery_182 h1 h4 ?_
  refine g_l2i ok d_Mo_readQuery_185 ?_
  have h5 : 46 < fs2.length := Nat.lt_of_lt_of_le (by decide) h6
  refine pf_Mo_308 ok d_Mo_readQuery_186 h1 h5 (fun _ => ⟨rfl, rfl⟩) ?_
  rw [h8]
  rw [h10]
  have h11 : M9[x0]? = some (.inr (10, fs7)) := by rw [← h10]; exact gs_eq h1
  have h12 : fs7[16]? = some (.long f3) := by rw [← h8]; exact (List.getElem?_set_ne (by decide : 46 ≠ 16)).trans h4
  have h13 : fs7[46]? = some (.int ((f3 : Int64).toInt32)) := by rw [← h8]; exact List.getElem?_set_self h5
  have h14 : 59 ≤ fs7.length := by rw [← h8, List.length_set]; exact h6
  refine g_aload_n ok d_Mo_readQuery_189 rfl (j := 0) rfl ?_
  refine g_aload_n ok d_Mo_readQuery_190 rfl (j := 0) rfl ?_
  have h17 : fs7[15]? = some (.int f15) := by rw [← h8]; exact (List.getElem?_set_ne (by decide : 46 ≠ 15)).trans h16
  refine gf_Mo_181 ok d_Mo_readQuery_191 h11 h17 ?_
  refine g_iconst (v := 2) ok d_Mo_readQuery_194 (by decide) ?_
  exact g_icmp_ne (tgt := 202) ok d_Mo_readQuery_195 (by decide) (fun z => (kt z)) (fun z => (kf z))
theorem k_Mo_readQuery_198 {X : gC} {M : List mC} {k n : Nat} {x0 : Nat} (ok : gO X c_Mo_readQuery "TripleStoreModel" w_Mo_readQuery)  (kk : gg X M k n 203 [(0, .ref x0)] [.int 1, .ref x0]) : gg X M k n 198 [(0, .ref x0)] [.ref x0] := by
  refine g_iconst (v := 1) ok d_Mo_readQuery_198 (by decide) ?_
  exact g_goto (tgt := 203) ok d_Mo_readQuery_199 (by decide) kk
theorem k_Mo_readQuery_202 {X : gC} {M : List mC} {k n : Nat} {x0 : Nat} (ok : gO X c_Mo_readQuery "TripleStoreModel" w_Mo_readQuery)  (kk : gg X M k n 203 [(0, .ref x0)] [.int 0, .ref x0]) : gg X M k n 202 [(0, .ref x0)] [.ref x0] := by
  refine g_iconst (v := 0) ok d_Mo_readQuery_202 (by decide) ?_
  exact kk
theorem k_Mo_readQuery_203 {X : gC} {M : List mC} {k n : Nat} {x0 : Nat} {s1 : Int32} {fs2 : List Value} (ok : gO X c_Mo_readQuery "TripleStoreModel" w_Mo_readQuery) (h1 : M[x0]? = some (.inr (10, fs2))) {rm : Room} {post : Option Value → List mC → Prop} (hm : mm_ (gLa X) y_Mo_goOn w_Mo_goOn rm [.ref x0, .int s1] M post) (hR : gF X rm 2 k n) (hlen : ∀ r M', post r M' → M'.length = M.length) (kk : ∀ r M', post r M' → gg X M' (k + rm.cells) (n + rm.slots) 206 [(0, .ref x0)] (r.toList ++ [])) : gg X M k n 203 [(0, .ref x0)] [.int s1, .ref x0] := by
  exact gc_Mo_232 (As := [.int s1]) (rest := []) ok d_Mo_readQuery_203 hm rfl rfl (Nat.le_of_ble_eq_true rfl) hR h1 hlen kk
theorem k_Mo_readQuery_206 {X : gC} {M : List mC} {k n : Nat} {x0 : Nat} {s0 : Int32} (ok : gO X c_Mo_readQuery "TripleStoreModel" w_Mo_readQuery)  (kt : ¬ s0 = 0 → gg X M k n 210 [(0, .ref x0)] []) (kf : s0 = 0 → gg X M k n 209 [] []) : gg X M k n 206 [(0, .ref x0)] [.int s0] := by
  exact g_if_ne (tgt := 210) ok d_Mo_readQuery_206 (by decide) (fun z => (kt z)) (fun z => (gg_keep [] (kf z)))
theorem k_Mo_readQuery_209 {X : gC} {M : List mC} {k n : Nat}  (ok : gO X c_Mo_readQuery "TripleStoreModel" w_Mo_readQuery)  {l9 : Launch} {rm : Room} {M0 : List mC} {post : Option Value → List mC → Prop} (E : gE X l9 y_Mo_readQuery rm 2 none M0 post) (hp : post (none) M) (hk : k ≤ rm.cells) (hn : n ≤ rm.slots) : gg X M k n 209 [] [] := by
  exact g_vret ok E d_Mo_readQuery_209 hp hk hn
theorem k_Mo_readQuery_210 {X : gC} {M : List mC} {k n : Nat} {x0 : Nat} {fs2 : List Value} {f3 : Int32} (ok : gO X c_Mo_readQuery "TripleStoreModel" w_Mo_readQuery) (h1 : M[x0]? = some (.inr (10, fs2))) (h4 : fs2[15]? = some (.int f3)) (kt : f3 = 0 → gg X M k n 221 [] []) (kf : ¬ f3 = 0 → gg X M k n 217 [(0, .ref x0)] []) : gg X M k n 210 [(0, .ref x0)] [] := by
  refine g_aload_n ok d_Mo_readQuery_210 rfl (j := 0) rfl ?_
  refine gf_Mo_181 ok d_Mo_readQuery_211 h1 h4 ?_
  exact g_if_eq (tgt := 221) ok d_Mo_readQuery_214 (by decide) (fun z => (gg_keep [] (kt z))) (fun z => (kf z))
theorem k_Mo_readQuery_217 {X : gC} {M : List mC} {k n : Nat} {x0 : Nat} {fs2 : List Value} (ok : gO X c_Mo_readQuery "TripleStoreModel" w_Mo_readQuery) (h1 : M[x0]? = some (.inr (10, fs2))) {rm : Room} {post : Option Value → List mC → Prop} (hm : mm_ (gLa X) y_Mo_stop w_Mo_stop rm [.ref x0] M post) (hR : gF X rm 1 k n) (hlen : ∀ r M', post r M' → M'.length = M.length) (kk : ∀ r M', post r M' → gg X M' (k + rm.cells) (n + rm.slots) 221 [] (r.toList ++ [])) : gg X M k n 217 [(0, .ref x0)] [] := by
  refine g_aload_n ok d_Mo_readQuery_217 rfl (j := 0) rfl ?_
  exact gc_Mo_223 (As := []) (rest := []) ok d_Mo_readQuery_218 hm rfl rfl (Nat.le_of_ble_eq_true rfl) hR h1 hlen (fun r M' q => (gg_keep [] (kk r M' q)))
theorem k_Mo_readQuery_221 {X : gC} {M : List mC} {k n : Nat}  (ok : gO X c_Mo_readQuery "TripleStoreModel" w_Mo_readQuery)  {l9 : Launch} {rm : Room} {M0 : List mC} {post : Option Value → List mC → Prop} (E : gE X l9 y_Mo_readQuery rm 2 none M0 post) (hp : post (none) M) (hk : k ≤ rm.cells) (hn : n ≤ rm.slots) : gg X M k n 221 [] [] := by
  exact g_vret ok E d_Mo_readQuery_221 hp hk hn
theorem k_Mo_addTo_0 {X : gC} {M : List mC} {k n : Nat} {x0 : Nat} {x1 : Int32} {x2 : Int32} {x3 : Int32} {fs2 : List Value} {f3 : Nat} {g6 : Nat → Int32} {N7 : Nat} (ok : gO X c_Mo_addTo "TripleStoreModel" w_Mo_addTo) (h1 : M[x0]? = some (.inr (10, fs2))) (h4 : fs2[49]? = some (.ref f3)) (h5 : M[f3]? = some (.inl (0, N7, .inl g6))) (h8 : vp_in x1 N7) (kt : ¬ (g6 x1.toNatClampNeg) = 150 → gg X M k n 18 [(0, .ref x0), (1, .int x1), (2, .int x2), (3, .int x3)] []) (kf : (g6 x1.toNatClampNeg) = 150 → gg X M k n 12 [(0, .ref x0)] []) : gg X M k n 0 [(0, .ref x0), (1, .int x1), (2, .int x2), (3, .int x3)] [] := by
  refine g_aload_n ok d_Mo_addTo_0 rfl (j := 0) rfl ?_
  refine gf_Mo_76 ok d_Mo_addTo_1 h1 h4 ?_
  refine g_iload_n ok d_Mo_addTo_4 rfl (j := 1) rfl ?_
  refine g_iald (t := 0) ok rfl d_Mo_addTo_5 h5 h8 ?_
  refine g_sipush (v := 150) ok d_Mo_addTo_6 (by decide) ?_
  exact g_icmp_ne (tgt := 18) ok d_Mo_addTo_9 (by decide) (fun z => (kt z)) (fun z => (gg_keep [0] (kf z)))
theorem k_Mo_addTo_12 {X : gC} {M : List mC} {k n : Nat} {x0 : Nat} {fs2 : List Value} {fs5 : List Value} {M7 : List mC} (ok : gO X c_Mo_addTo "TripleStoreModel" w_Mo_addTo) (h1 : M[x0]? = some (.inr (10, fs2))) (h4 : 59 ≤ fs2.length) (h6 : fs2.set 51 (.int 1) = fs5) (h8 : M.set x0 (.inr (10, fs5)) = M7) {l9 : Launch} {rm : Room} {M0 : List mC} {post : Option Value → List mC → Prop} (E : gE X l9 y_Mo_addTo rm 6 none M0 post) (hp : post (none) M7) (hk : k ≤ rm.cells) (hn : n ≤ rm.slots) : gg X M k n 12 [(0, .ref x0)] [] := by
  refine g_aload_n ok d_Mo_addTo_12 rfl (j := 0) rfl ?_
  refine g_iconst (v := 1) ok d_Mo_addTo_13 (by decide) ?_
  have h3 : 51 < fs2.length := Nat.lt_of_lt_of_le (by decide) h4
  refine pf_Mo_311 ok d_Mo_addTo_14 h1 h3 (fun _ => ⟨rfl, rfl⟩) ?_
  rw [h6]
  rw [h8]
  have h9 : M7[x0]? = some (.inr (10, fs5)) := by rw [← h8]; exact gs_eq h1
  have h10 : fs5[51]? = some (.int 1) := by rw [← h6]; exact List.getElem?_set_self h3
  have h11 : 59 ≤ fs5.length := by rw [← h6, List.length_set]; exact h4
  exact g_vret ok E d_Mo_addTo_17 hp hk hn
theorem k_Mo_addTo_18 {X : gC} {M : List mC} {k n : Nat} {x0 : Nat} {x1 : Int32} {x2 : Int32} {x3 : Int32} {fs2 : List Value} {f3 : Nat} {g6 : Nat → Int32} {N7 : Nat} {f9 : Nat} {g12 : Nat → Int32} {N13 : Nat} {M16 : List mC} (ok : gO X c_Mo_addTo "TripleStoreModel" w_Mo_addTo) (hl : gL X = 6) (h1 : M[x0]? = some (.inr (10, fs2))) (h4 : fs2[49]? = some (.ref f3)) (h5 : M[f3]? = some (.inl (0, N7, .inl g6))) (h8 : vp_in x1 N7) (h10 : fs2[48]? = some (.ref f9)) (h11 : M[f9]? = some (.inl (0, N13, .inl g12))) (h14 : vp_in ((150 * x2) + x3) N13) (h15 : vp_in ((150 * x1) + (g6 x1.toNatClampNeg)) N13) (h17 : M.set f9 (.inl (0, N13, .inl (upd g12 ((150 * x1) + (g6 x1.toNatClampNeg)).toNatClampNeg (g12 ((150 * x2) + x3).toNatClampNeg)))) = M16) (kk : gg X M16 k n 54 [(0, .ref x0), (1, .int x1), (2, .int x2), (3, .int x3), (4, .int ((150 * x1) + (g6 x1.toNatClampNeg))), (5, .int 0)] []) : gg X M k n 18 [(0, .ref x0), (1, .int x1), (2, .int x2), (3, .int x3)] [] := by
  refine g_sipush (v := 150) ok d_Mo_addTo_18 (by decide) ?_
  refine g_iload_n ok d_Mo_addTo_21 rfl (j := 1) rfl ?_
  refine g_imul ok d_Mo_addTo_22 ?_
  refine g_aload_n ok d_Mo_addTo_23 rfl (j := 0) rfl ?_
  refine gf_Mo_76 ok d_Mo_addTo_24 h1 h4 ?_
  refine g_iload_n ok d_Mo_addTo_27 rfl (j := 1) rfl ?_
  refine g_iald (t := 0) ok rfl d_Mo_addTo_28 h5 h8 ?_
  refine g_iadd ok d_Mo_addTo_29 ?_
  refine g_istore (L' := [(0, .ref x0), (1, .int x1), (2, .int x2), (3, .int x3), (4, .int ((150 * x1) + (g6 x1.toNatClampNeg)))]) ok d_Mo_addTo_30 (by rw [hl]; decide) rfl ?_
  refine g_aload_n ok d_Mo_addTo_32 rfl (j := 0) rfl ?_
  refine gf_Mo_73 ok d_Mo_addTo_33 h1 h10 ?_
  refine g_iload ok d_Mo_addTo_36 (j := 4) rfl ?_
  refine g_aload_n ok d_Mo_addTo_38 rfl (j := 0) rfl ?_
  refine gf_Mo_73 ok d_Mo_addTo_39 h1 h10 ?_
  refine g_sipush (v := 150) ok d_Mo_addTo_42 (by decide) ?_
  refine g_iload_n ok d_Mo_addTo_45 rfl (j := 2) rfl ?_
  refine g_imul ok d_Mo_addTo_46 ?_
  refine g_iload_n ok d_Mo_addTo_47 rfl (j := 3) rfl ?_
  refine g_iadd ok d_Mo_addTo_48 ?_
  refine g_iald (t := 0) ok rfl d_Mo_addTo_49 h11 h14 ?_
  refine g_iast (t := 0) ok rfl d_Mo_addTo_50 h11 h15 ?_
  rw [h17]
  have h18 : M16[f9]? = some (.inl (0, N13, .inl (upd g12 ((150 * x1) + (g6 x1.toNatClampNeg)).toNatClampNeg (g12 ((150 * x2) + x3).toNatClampNeg)))) := by rw [← h17]; exact gs_eq h11
  refine g_iconst (v := 0) ok d_Mo_addTo_51 (by decide) ?_
  refine g_istore (L' := [(0, .ref x0), (1, .int x1), (2, .int x2), (3, .int x3), (4, .int ((150 * x1) + (g6 x1.toNatClampNeg))), (5, .int 0)]) ok d_Mo_addTo_52 (by rw [hl]; decide) rfl ?_
  exact kk
theorem k_Mo_addTo_54 {X : gC} {M : List mC} {k n : Nat} {x0 : Nat} {x1 : Int32} {x2 : Int32} {x3 : Int32} {x4 : Int32} {x5 : Int32} (ok : gO X c_Mo_addTo "TripleStoreModel" w_Mo_addTo)  (kt : 6 ≤ x5 → gg X M k n 98 [(0, .ref x0), (1, .int x1)] []) (kf : ¬ 6 ≤ x5 → gg X M k n 61 [(0, .ref x0), (1, .int x1), (2, .int x2), (3, .int x3), (4, .int x4), (5, .int x5)] []) : gg X M k n 54 [(0, .ref x0), (1, .int x1), (2, .int x2), (3, .int x3), (4, .int x4), (5, .int x5)] [] := by
  refine g_iload ok d_Mo_addTo_54 (j := 5) rfl ?_
  refine g_bipush (v := 6) ok d_Mo_addTo_56 (by decide) ?_
  exact g_icmp_ge (tgt := 98) ok d_Mo_addTo_58 (by decide) (fun z => (gg_keep [0, 1] (kt z))) (fun z => (kf z))
theorem k_Mo_addTo_61 {X : gC} {M : List mC} {k n : Nat} {x0 : Nat} {x1 : Int32} {x2 : Int32} {x3 : Int32} {x4 : Int32} {x5 : Int32} {fs2 : List Value} {f3 : Nat} {g6 : Nat → Int64} {N7 : Nat} {M10 : List mC} (ok : gO X c_Mo_addTo "TripleStoreModel" w_Mo_addTo) (hl : gL X = 6) (h1 : M[x0]? = some (.inr (10, fs2))) (h4 : fs2[47]? = some (.ref f3)) (h5 : M[f3]? = some (.inl (1, N7, .inr (.inl g6)))) (h8 : vp_in ((6 * ((150 * x2) + x3)) + x5) N7) (h9 : vp_in ((6 * x4) + x5) N7) (h11 : M.set f3 (.inl (1, N7, .inr (.inl (vp_updL g6 ((6 * x4) + x5).toNatClampNeg (g6 ((6 * ((150 * x2) + x3)) + x5).toNatClampNeg))))) = M10) (kk : gg X M10 k n 54 [(0, .ref x0), (1, .int x1), (2, .int x2), (3, .int x3), (4, .int x4), (5, .int (x5 + 1))] []) : gg X M k n 61 [(0, .ref x0), (1, .int x1), (2, .int x2), (3, .int x3), (4, .int x4), (5, .int x5)] [] := by
  refine g_aload_n ok d_Mo_addTo_61 rfl (j := 0) rfl ?_
  refine gf_Mo_70 ok d_Mo_addTo_62 h1 h4 ?_
  refine g_bipush (v := 6) ok d_Mo_addTo_65 (by decide) ?_
  refine g_iload ok d_Mo_addTo_67 (j := 4) rfl ?_
  refine g_imul ok d_Mo_addTo_69 ?_
  refine g_iload ok d_Mo_addTo_70 (j := 5) rfl ?_
  refine g_iadd ok d_Mo_addTo_72 ?_
  refine g_aload_n ok d_Mo_addTo_73 rfl (j := 0) rfl ?_
  refine gf_Mo_70 ok d_Mo_addTo_74 h1 h4 ?_
  refine g_bipush (v := 6) ok d_Mo_addTo_77 (by decide) ?_
  refine g_sipush (v := 150) ok d_Mo_addTo_79 (by decide) ?_
  refine g_iload_n ok d_Mo_addTo_82 rfl (j := 2) rfl ?_
  refine g_imul ok d_Mo_addTo_83 ?_
  refine g_iload_n ok d_Mo_addTo_84 rfl (j := 3) rfl ?_
  refine g_iadd ok d_Mo_addTo_85 ?_
  refine g_imul ok d_Mo_addTo_86 ?_
  refine g_iload ok d_Mo_addTo_87 (j := 5) rfl ?_
  refine g_iadd ok d_Mo_addTo_89 ?_
  refine g_lald (t := 1) ok rfl d_Mo_addTo_90 h5 h8 ?_
  refine g_last (t := 1) ok rfl d_Mo_addTo_91 h5 h9 ?_
  rw [h11]
  have h12 : M10[f3]? = some (.inl (1, N7, .inr (.inl (vp_updL g6 ((6 * x4) + x5).toNatClampNeg (g6 ((6 * ((150 * x2) + x3)) + x5).toNatClampNeg))))) := by rw [← h11]; exact gs_eq h5
  refine g_iinc (L' := [(0, .ref x0), (1, .int x1), (2, .int x2), (3, .int x3), (4, .int x4), (5, .int (x5 + 1))]) (v := (x5 + 1)) ok d_Mo_addTo_92 (j := 5) rfl rfl (by rw [hl]; decide) rfl ?_
  exact g_goto (tgt := 54) ok d_Mo_addTo_95 (by decide) kk
theorem k_Mo_addTo_98 {X : gC} {M : List mC} {k n : Nat} {x0 : Nat} {x1 : Int32} {fs2 : List Value} {f3 : Nat} {g6 : Nat → Int32} {N7 : Nat} {M10 : List mC} (ok : gO X c_Mo_addTo "TripleStoreModel" w_Mo_addTo) (h1 : M[x0]? = some (.inr (10, fs2))) (h4 : fs2[49]? = some (.ref f3)) (h5 : M[f3]? = some (.inl (0, N7, .inl g6))) (h8 : vp_in x1 N7) (h9 : vp_in x1 N7) (h11 : M.set f3 (.inl (0, N7, .inl (upd g6 x1.toNatClampNeg ((g6 x1.toNatClampNeg) + 1)))) = M10) {l9 : Launch} {rm : Room} {M0 : List mC} {post : Option Value → List mC → Prop} (E : gE X l9 y_Mo_addTo rm 6 none M0 post) (hp : post (none) M10) (hk : k ≤ rm.cells) (hn : n ≤ rm.slots) : gg X M k n 98 [(0, .ref x0), (1, .int x1)] [] := by
  refine g_aload_n ok d_Mo_addTo_98 rfl (j := 0) rfl ?_
  refine gf_Mo_76 ok d_Mo_addTo_99 h1 h4 ?_
  refine g_iload_n ok d_Mo_addTo_102 rfl (j := 1) rfl ?_
  refine g_dup2_11 ok d_Mo_addTo_103 rfl rfl ?_
  refine g_iald (t := 0) ok rfl d_Mo_addTo_104 h5 h8 ?_
  refine g_iconst (v := 1) ok d_Mo_addTo_105 (by decide) ?_
  refine g_iadd ok d_Mo_addTo_106 ?_
  refine g_iast (t := 0) ok rfl d_Mo_addTo_107 h5 h9 ?_
  rw [h11]
  have h12 : M10[f3]? = some (.inl (0, N7, .inl (upd g6 x1.toNatClampNeg ((g6 x1.toNatClampNeg) + 1)))) := by rw [← h11]; exact gs_eq h5
  exact g_vret ok E d_Mo_addTo_108 hp hk hn
theorem k_Mo_copy_0 {X : gC} {M : List mC} {k n : Nat} {x0 : Nat} {x1 : Int32} {x2 : Int32} {fs2 : List Value} {f3 : Nat} {g6 : Nat → Int32} {N7 : Nat} {M9 : List mC} (ok : gO X c_Mo_copy "TripleStoreModel" w_Mo_copy) (hl : gL X = 4) (h1 : M[x0]? = some (.inr (10, fs2))) (h4 : fs2[49]? = some (.ref f3)) (h5 : M[f3]? = some (.inl (0, N7, .inl g6))) (h8 : vp_in x2 N7) (h10 : M.set f3 (.inl (0, N7, .inl (upd g6 x2.toNatClampNeg 0))) = M9) (kk : gg X M9 k n 9 [(0, .ref x0), (1, .int x1), (2, .int x2), (3, .int 0)] []) : gg X M k n 0 [(0, .ref x0), (1, .int x1), (2, .int x2)] [] := by
  refine g_aload_n ok d_Mo_copy_0 rfl (j := 0) rfl ?_
  refine gf_Mo_76 ok d_Mo_copy_1 h1 h4 ?_
  refine g_iload_n ok d_Mo_copy_4 rfl (j := 2) rfl ?_
  refine g_iconst (v := 0) ok d_Mo_copy_5 (by decide) ?_
  refine g_iast (t := 0) ok rfl d_Mo_copy_6 h5 h8 ?_
  rw [h10]
  have h11 : M9[f3]? = some (.inl (0, N7, .inl (upd g6 x2.toNatClampNeg 0))) := by rw [← h10]; exact gs_eq h5
  refine g_iconst (v := 0) ok d_Mo_copy_7 (by decide) ?_
  refine g_istore_n (L' := [(0, .ref x0), (1, .int x1), (2, .int x2), (3, .int 0)]) ok d_Mo_copy_8 rfl (by rw [hl]; decide) rfl ?_
  exact kk
theorem k_Mo_copy_9 {X : gC} {M : List mC} {k n : Nat} {x0 : Nat} {x1 : Int32} {x2 : Int32} {x3 : Int32} {fs2 : List Value} {f3 : Nat} {g6 : Nat → Int32} {N7 : Nat} (ok : gO X c_Mo_copy "TripleStoreModel" w_Mo_copy) (h1 : M[x0]? = some (.inr (10, fs2))) (h4 : fs2[49]? = some (.ref f3)) (h5 : M[f3]? = some (.inl (0, N7, .inl g6))) (h8 : vp_in x1 N7) (kt : (g6 x1.toNatClampNeg) ≤ x3 → gg X M k n 32 [] []) (kf : ¬ (g6 x1.toNatClampNeg) ≤ x3 → gg X M k n 19 [(0, .ref x0), (1, .int x1), (2, .int x2), (3, .int x3)] []) : gg X M k n 9 [(0, .ref x0), (1, .int x1), (2, .int x2), (3, .int x3)] [] := by
  refine g_iload_n ok d_Mo_copy_9 rfl (j := 3) rfl ?_
  refine g_aload_n ok d_Mo_copy_10 rfl (j := 0) rfl ?_
  refine gf_Mo_76 ok d_Mo_copy_11 h1 h4 ?_
  refine g_iload_n ok d_Mo_copy_14 rfl (j := 1) rfl ?_
  refine g_iald (t := 0) ok rfl d_Mo_copy_15 h5 h8 ?_
  exact g_icmp_ge (tgt := 32) ok d_Mo_copy_16 (by decide) (fun z => (gg_keep [] (kt z))) (fun z => (kf z))
theorem k_Mo_copy_19 {X : gC} {M : List mC} {k n : Nat} {x0 : Nat} {x1 : Int32} {x2 : Int32} {x3 : Int32} {fs2 : List Value} (ok : gO X c_Mo_copy "TripleStoreModel" w_Mo_copy) (h1 : M[x0]? = some (.inr (10, fs2))) {rm : Room} {post : Option Value → List mC → Prop} (hm : mm_ (gLa X) y_Mo_addTo w_Mo_addTo rm [.ref x0, .int x2, .int x1, .int x3] M post) (hR : gF X rm 6 k n) (hlen : ∀ r M', post r M' → M'.length = M.length) (kk : ∀ r M', post r M' → gg X M' (k + rm.cells) (n + rm.slots) 26 [(0, .ref x0), (1, .int x1), (2, .int x2), (3, .int x3)] (r.toList ++ [])) : gg X M k n 19 [(0, .ref x0), (1, .int x1), (2, .int x2), (3, .int x3)] [] := by
  refine g_aload_n ok d_Mo_copy_19 rfl (j := 0) rfl ?_
  refine g_iload_n ok d_Mo_copy_20 rfl (j := 2) rfl ?_
  refine g_iload_n ok d_Mo_copy_21 rfl (j := 1) rfl ?_
  refine g_iload_n ok d_Mo_copy_22 rfl (j := 3) rfl ?_
  exact gc_Mo_314 (As := [.int x2, .int x1, .int x3]) (rest := []) ok d_Mo_copy_23 hm rfl rfl (Nat.le_of_ble_eq_true rfl) hR h1 hlen kk
theorem k_Mo_copy_26 {X : gC} {M : List mC} {k n : Nat} {x0 : Nat} {x1 : Int32} {x2 : Int32} {x3 : Int32} (ok : gO X c_Mo_copy "TripleStoreModel" w_Mo_copy) (hl : gL X = 4)  (kk : gg X M k n 9 [(0, .ref x0), (1, .int x1), (2, .int x2), (3, .int (x3 + 1))] []) : gg X M k n 26 [(0, .ref x0), (1, .int x1), (2, .int x2), (3, .int x3)] [] := by
  refine g_iinc (L' := [(0, .ref x0), (1, .int x1), (2, .int x2), (3, .int (x3 + 1))]) (v := (x3 + 1)) ok d_Mo_copy_26 (j := 3) rfl rfl (by rw [hl]; decide) rfl ?_
  exact g_goto (tgt := 9) ok d_Mo_copy_29 (by decide) kk
theorem k_Mo_copy_32 {X : gC} {M : List mC} {k n : Nat}  (ok : gO X c_Mo_copy "TripleStoreModel" w_Mo_copy)  {l9 : Launch} {rm : Room} {M0 : List mC} {post : Option Value → List mC → Prop} (E : gE X l9 y_Mo_copy rm 4 none M0 post) (hp : post (none) M) (hk : k ≤ rm.cells) (hn : n ≤ rm.slots) : gg X M k n 32 [] [] := by
  exact g_vret ok E d_Mo_copy_32 hp hk hn
theorem k_Mo_compatible_0 {X : gC} {M : List mC} {k n : Nat} {x0 : Nat} {x1 : Int32} {x2 : Int32} (ok : gO X c_Mo_compatible "TripleStoreModel" w_Mo_compatible) (hl : gL X = 4)  (kk : gg X M k n 2 [(0, .ref x0), (1, .int x1), (2, .int x2), (3, .int 0)] []) : gg X M k n 0 [(0, .ref x0), (1, .int x1), (2, .int x2)] [] := by
  refine g_iconst (v := 0) ok d_Mo_compatible_0 (by decide) ?_
  refine g_istore_n (L' := [(0, .ref x0), (1, .int x1), (2, .int x2), (3, .int 0)]) ok d_Mo_compatible_1 rfl (by rw [hl]; decide) rfl ?_
  exact kk
theorem k_Mo_compatible_2 {X : gC} {M : List mC} {k n : Nat} {x0 : Nat} {x1 : Int32} {x2 : Int32} {x3 : Int32} (ok : gO X c_Mo_compatible "TripleStoreModel" w_Mo_compatible)  (kt : 6 ≤ x3 → gg X M k n 63 [] []) (kf : ¬ 6 ≤ x3 → gg X M k n 8 [(0, .ref x0), (1, .int x1), (2, .int x2), (3, .int x3)] []) : gg X M k n 2 [(0, .ref x0), (1, .int x1), (2, .int x2), (3, .int x3)] [] := by
  refine g_iload_n ok d_Mo_compatible_2 rfl (j := 3) rfl ?_
  refine g_bipush (v := 6) ok d_Mo_compatible_3 (by decide) ?_
  exact g_icmp_ge (tgt := 63) ok d_Mo_compatible_5 (by decide) (fun z => (gg_keep [] (kt z))) (fun z => (kf z))
theorem k_Mo_compatible_8 {X : gC} {M : List mC} {k n : Nat} {x0 : Nat} {x1 : Int32} {x2 : Int32} {x3 : Int32} {fs2 : List Value} {f3 : Nat} {g6 : Nat → Int32} {N7 : Nat} (ok : gO X c_Mo_compatible "TripleStoreModel" w_Mo_compatible) (h1 : M[x0]? = some (.inr (10, fs2))) (h4 : fs2[48]? = some (.ref f3)) (h5 : M[f3]? = some (.inl (0, N7, .inl g6))) (h8 : vp_in x1 N7) (h9 : vp_in x2 N7) (kt : ¬ ((((g6 x1.toNatClampNeg) &&& (g6 x2.toNatClampNeg)) >>> (x3 &&& 31)) &&& 1) = 1 → gg X M k n 57 [(0, .ref x0), (1, .int x1), (2, .int x2), (3, .int x3)] []) (kf : ((((g6 x1.toNatClampNeg) &&& (g6 x2.toNatClampNeg)) >>> (x3 &&& 31)) &&& 1) = 1 → gg X M k n 29 [(0, .ref x0), (1, .int x1), (2, .int x2), (3, .int x3)] []) : gg X M k n 8 [(0, .ref x0), (1, .int x1), (2, .int x2), (3, .int x3)] [] := by
  refine g_aload_n ok d_Mo_compatible_8 rfl (j := 0) rfl ?_
  refine gf_Mo_73 ok d_Mo_compatible_9 h1 h4 ?_
  refine g_iload_n ok d_Mo_compatible_12 rfl (j := 1) rfl ?_
  refine g_iald (t := 0) ok rfl d_Mo_compatible_13 h5 h8 ?_
  refine g_aload_n ok d_Mo_compatible_14 rfl (j := 0) rfl ?_
  refine gf_Mo_73 ok d_Mo_compatible_15 h1 h4 ?_
  refine g_iload_n ok d_Mo_compatible_18 rfl (j := 2) rfl ?_
  refine g_iald (t := 0) ok rfl d_Mo_compatible_19 h5 h9 ?_
  refine g_iand ok d_Mo_compatible_20 ?_
  refine g_iload_n ok d_Mo_compatible_21 rfl (j := 3) rfl ?_
  refine g_ishr ok d_Mo_compatible_22 ?_
  refine g_iconst (v := 1) ok d_Mo_compatible_23 (by decide) ?_
  refine g_iand ok d_Mo_compatible_24 ?_
  refine g_iconst (v := 1) ok d_Mo_compatible_25 (by decide) ?_
  exact g_icmp_ne (tgt := 57) ok d_Mo_compatible_26 (by decide) (fun z => (kt z)) (fun z => (kf z))
theorem k_Mo_compatible_29 {X : gC} {M : List mC} {k n : Nat} {x0 : Nat} {x1 : Int32} {x2 : Int32} {x3 : Int32} {fs2 : List Value} {f3 : Nat} {g6 : Nat → Int64} {N7 : Nat} (ok : gO X c_Mo_compatible "TripleStoreModel" w_Mo_compatible) (h1 : M[x0]? = some (.inr (10, fs2))) (h4 : fs2[47]? = some (.ref f3)) (h5 : M[f3]? = some (.inl (1, N7, .inr (.inl g6)))) (h8 : vp_in ((6 * x1) + x3) N7) (h9 : vp_in ((6 * x2) + x3) N7) (kt : (g6 ((6 * x1) + x3).toNatClampNeg) = (g6 ((6 * x2) + x3).toNatClampNeg) → gg X M k n 57 [(0, .ref x0), (1, .int x1), (2, .int x2), (3, .int x3)] []) (kf : ¬ (g6 ((6 * x1) + x3).toNatClampNeg) = (g6 ((6 * x2) + x3).toNatClampNeg) → gg X M k n 55 [] []) : gg X M k n 29 [(0, .ref x0), (1, .int x1), (2, .int x2), (3, .int x3)] [] := by
  refine g_aload_n ok d_Mo_compatible_29 rfl (j := 0) rfl ?_
  refine gf_Mo_70 ok d_Mo_compatible_30 h1 h4 ?_
  refine g_bipush (v := 6) ok d_Mo_compatible_33 (by decide) ?_
  refine g_iload_n ok d_Mo_compatible_35 rfl (j := 1) rfl ?_
  refine g_imul ok d_Mo_compatible_36 ?_
  refine g_iload_n ok d_Mo_compatible_37 rfl (j := 3) rfl ?_
  refine g_iadd ok d_Mo_compatible_38 ?_
  refine g_lald (t := 1) ok rfl d_Mo_compatible_39 h5 h8 ?_
  refine g_aload_n ok d_Mo_compatible_40 rfl (j := 0) rfl ?_
  refine gf_Mo_70 ok d_Mo_compatible_41 h1 h4 ?_
  refine g_bipush (v := 6) ok d_Mo_compatible_44 (by decide) ?_
  refine g_iload_n ok d_Mo_compatible_46 rfl (j := 2) rfl ?_
  refine g_imul ok d_Mo_compatible_47 ?_
  refine g_iload_n ok d_Mo_compatible_48 rfl (j := 3) rfl ?_
  refine g_iadd ok d_Mo_compatible_49 ?_
  refine g_lald (t := 1) ok rfl d_Mo_compatible_50 h5 h9 ?_
  exact g_lc_eq (tgt := 57) ok d_Mo_compatible_51 d_Mo_compatible_52 (by decide) (fun z => (kt z)) (fun z => (gg_keep [] (kf z)))
theorem k_Mo_compatible_55 {X : gC} {M : List mC} {k n : Nat}  (ok : gO X c_Mo_compatible "TripleStoreModel" w_Mo_compatible)  {l9 : Launch} {rm : Room} {M0 : List mC} {post : Option Value → List mC → Prop} (E : gE X l9 y_Mo_compatible rm 4 (some .boolean) M0 post) (hp : post (some (.int 0)) M) (hk : k ≤ rm.cells) (hn : n ≤ rm.slots) : gg X M k n 55 [] [] := by
  refine g_iconst (v := 0) ok d_Mo_compatible_55 (by decide) ?_
  exact g_zret ok E d_Mo_compatible_56 rfl hp hk hn
theorem k_Mo_compatible_57 {X : gC} {M : List mC} {k n : Nat} {x0 : Nat} {x1 : Int32} {x2 : Int32} {x3 : Int32} (ok : gO X c_Mo_compatible "TripleStoreModel" w_Mo_compatible) (hl : gL X = 4)  (kk : gg X M k n 2 [(0, .ref x0), (1, .int x1), (2, .int x2), (3, .int (x3 + 1))] []) : gg X M k n 57 [(0, .ref x0), (1, .int x1), (2, .int x2), (3, .int x3)] [] := by
  refine g_iinc (L' := [(0, .ref x0), (1, .int x1), (2, .int x2), (3, .int (x3 + 1))]) (v := (x3 + 1)) ok d_Mo_compatible_57 (j := 3) rfl rfl (by rw [hl]; decide) rfl ?_
  exact g_goto (tgt := 2) ok d_Mo_compatible_60 (by decide) kk
theorem k_Mo_compatible_63 {X : gC} {M : List mC} {k n : Nat}  (ok : gO X c_Mo_compatible "TripleStoreModel" w_Mo_compatible)  {l9 : Launch} {rm : Room} {M0 : List mC} {post : Option Value → List mC → Prop} (E : gE X l9 y_Mo_compatible rm 4 (some .boolean) M0 post) (hp : post (some (.int 1)) M) (hk : k ≤ rm.cells) (hn : n ≤ rm.slots) : gg X M k n 63 [] [] := by
  refine g_iconst (v := 1) ok d_Mo_compatible_63 (by decide) ?_
  exact g_zret ok E d_Mo_compatible_64 rfl hp hk hn
theorem k_Mo_join_0 {X : gC} {M : List mC} {k n : Nat} {x0 : Nat} {x1 : Int32} {x2 : Int32} {x3 : Int32} {x4 : Int32} {fs2 : List Value} (ok : gO X c_Mo_join "TripleStoreModel" w_Mo_join) (h1 : M[x0]? = some (.inr (10, fs2))) {rm : Room} {post : Option Value → List mC → Prop} (hm : mm_ (gLa X) y_Mo_addTo w_Mo_addTo rm [.ref x0, .int 10, .int x1, .int x2] M post) (hR : gF X rm 6 k n) (hlen : ∀ r M', post r M' → M'.length = M.length) (kk : ∀ r M', post r M' → gg X M' (k + rm.cells) (n + rm.slots) 8 [(0, .ref x0), (3, .int x3), (4, .int x4)] (r.toList ++ [])) : gg X M k n 0 [(0, .ref x0), (1, .int x1), (2, .int x2), (3, .int x3), (4, .int x4)] [] := by
  refine g_aload_n ok d_Mo_join_0 rfl (j := 0) rfl ?_
  refine g_bipush (v := 10) ok d_Mo_join_1 (by decide) ?_
  refine g_iload_n ok d_Mo_join_3 rfl (j := 1) rfl ?_
  refine g_iload_n ok d_Mo_join_4 rfl (j := 2) rfl ?_
  exact gc_Mo_314 (As := [.int 10, .int x1, .int x2]) (rest := []) ok d_Mo_join_5 hm rfl rfl (Nat.le_of_ble_eq_true rfl) hR h1 hlen (fun r M' q => (gg_keep [0, 3, 4] (kk r M' q)))
theorem k_Mo_join_8 {X : gC} {M : List mC} {k n : Nat} {x0 : Nat} {x3 : Int32} {x4 : Int32} {fs2 : List Value} {f3 : Int32} (ok : gO X c_Mo_join "TripleStoreModel" w_Mo_join) (h1 : M[x0]? = some (.inr (10, fs2))) (h4 : fs2[51]? = some (.int f3)) (kt : f3 = 0 → gg X M k n 16 [(0, .ref x0), (3, .int x3), (4, .int x4)] []) (kf : ¬ f3 = 0 → gg X M k n 15 [] []) : gg X M k n 8 [(0, .ref x0), (3, .int x3), (4, .int x4)] [] := by
  refine g_aload_n ok d_Mo_join_8 rfl (j := 0) rfl ?_
  refine gf_Mo_311 ok d_Mo_join_9 h1 h4 ?_
  exact g_if_eq (tgt := 16) ok d_Mo_join_12 (by decide) (fun z => (kt z)) (fun z => (gg_keep [] (kf z)))
theorem k_Mo_join_15 {X : gC} {M : List mC} {k n : Nat}  (ok : gO X c_Mo_join "TripleStoreModel" w_Mo_join)  {l9 : Launch} {rm : Room} {M0 : List mC} {post : Option Value → List mC → Prop} (E : gE X l9 y_Mo_join rm 8 none M0 post) (hp : post (none) M) (hk : k ≤ rm.cells) (hn : n ≤ rm.slots) : gg X M k n 15 [] [] := by
  exact g_vret ok E d_Mo_join_15 hp hk hn
theorem k_Mo_join_16 {X : gC} {M : List mC} {k n : Nat} {x0 : Nat} {x3 : Int32} {x4 : Int32} {fs2 : List Value} {f3 : Nat} {g6 : Nat → Int32} {N7 : Nat} (ok : gO X c_Mo_join "TripleStoreModel" w_Mo_join) (hl : gL X = 8) (h1 : M[x0]? = some (.inr (10, fs2))) (h4 : fs2[49]? = some (.ref f3)) (h5 : M[f3]? = some (.inl (0, N7, .inl g6))) (h8 : vp_in 10 N7) (kk : gg X M k n 44 [(0, .ref x0), (5, .int ((1500 + (g6 (10 : Int32).toNatClampNeg)) - 1)), (6, .int ((150 * x3) + x4)), (7, .int 0)] []) : gg X M k n 16 [(0, .ref x0), (3, .int x3), (4, .int x4)] [] := by
  refine g_sipush (v := 1500) ok d_Mo_join_16 (by decide) ?_
  refine g_aload_n ok d_Mo_join_19 rfl (j := 0) rfl ?_
  refine gf_Mo_76 ok d_Mo_join_20 h1 h4 ?_
  refine g_bipush (v := 10) ok d_Mo_join_23 (by decide) ?_
  refine g_iald (t := 0) ok rfl d_Mo_join_25 h5 h8 ?_
  refine g_iadd ok d_Mo_join_26 ?_
  refine g_iconst (v := 1) ok d_Mo_join_27 (by decide) ?_
  refine g_isub ok d_Mo_join_28 ?_
  refine g_istore (L' := [(0, .ref x0), (3, .int x3), (4, .int x4), (5, .int ((1500 + (g6 (10 : Int32).toNatClampNeg)) - 1))]) ok d_Mo_join_29 (by rw [hl]; decide) rfl ?_
  refine g_sipush (v := 150) ok d_Mo_join_31 (by decide) ?_
  refine g_iload_n ok d_Mo_join_34 rfl (j := 1) rfl ?_
  refine g_imul ok d_Mo_join_35 ?_
  refine g_iload ok d_Mo_join_36 (j := 2) rfl ?_
  refine g_iadd ok d_Mo_join_38 ?_
  refine g_istore (L' := [(0, .ref x0), (3, .int x3), (4, .int x4), (5, .int ((1500 + (g6 (10 : Int32).toNatClampNeg)) - 1)), (6, .int ((150 * x3) + x4))]) ok d_Mo_join_39 (by rw [hl]; decide) rfl ?_
  refine g_iconst (v := 0) ok d_Mo_join_41 (by decide) ?_
  refine g_istore (L' := [(0, .ref x0), (3, .int x3), (4, .int x4), (5, .int ((1500 + (g6 (10 : Int32).toNatClampNeg)) - 1)), (6, .int ((150 * x3) + x4)), (7, .int 0)]) ok d_Mo_join_42 (by rw [hl]; decide) rfl ?_
  exact (gg_keep [0, 5, 6, 7] kk)
theorem k_Mo_join_44 {X : gC} {M : List mC} {k n : Nat} {x0 : Nat} {x5 : Int32} {x6 : Int32} {x7 : Int32} (ok : gO X c_Mo_join "TripleStoreModel" w_Mo_join)  (kt : 6 ≤ x7 → gg X M k n 99 [(0, .ref x0), (5, .int x5), (6, .int x6)] []) (kf : ¬ 6 ≤ x7 → gg X M k n 51 [(0, .ref x0), (5, .int x5), (6, .int x6), (7, .int x7)] []) : gg X M k n 44 [(0, .ref x0), (5, .int x5), (6, .int x6), (7, .int x7)] [] := by
  refine g_iload ok d_Mo_join_44 (j := 3) rfl ?_
  refine g_bipush (v := 6) ok d_Mo_join_46 (by decide) ?_
  exact g_icmp_ge (tgt := 99) ok d_Mo_join_48 (by decide) (fun z => (gg_keep [0, 5, 6] (kt z))) (fun z => (kf z))
theorem k_Mo_join_51 {X : gC} {M : List mC} {k n : Nat} {x0 : Nat} {x5 : Int32} {x6 : Int32} {x7 : Int32} {fs2 : List Value} {f3 : Nat} {g6 : Nat → Int32} {N7 : Nat} (ok : gO X c_Mo_join "TripleStoreModel" w_Mo_join) (h1 : M[x0]? = some (.inr (10, fs2))) (h4 : fs2[48]? = some (.ref f3)) (h5 : M[f3]? = some (.inl (0, N7, .inl g6))) (h8 : vp_in x6 N7) (kt : ¬ (((g6 x6.toNatClampNeg) >>> (x7 &&& 31)) &&& 1) = 1 → gg X M k n 93 [(0, .ref x0), (5, .int x5), (6, .int x6), (7, .int x7)] []) (kf : (((g6 x6.toNatClampNeg) >>> (x7 &&& 31)) &&& 1) = 1 → gg X M k n 67 [(0, .ref x0), (5, .int x5), (6, .int x6), (7, .int x7)] []) : gg X M k n 51 [(0, .ref x0), (5, .int x5), (6, .int x6), (7, .int x7)] [] := by
  refine g_aload_n ok d_Mo_join_51 rfl (j := 0) rfl ?_
  refine gf_Mo_73 ok d_Mo_join_52 h1 h4 ?_
  refine g_iload ok d_Mo_join_55 (j := 2) rfl ?_
  refine g_iald (t := 0) ok rfl d_Mo_join_57 h5 h8 ?_
  refine g_iload ok d_Mo_join_58 (j := 3) rfl ?_
  refine g_ishr ok d_Mo_join_60 ?_
  refine g_iconst (v := 1) ok d_Mo_join_61 (by decide) ?_
  refine g_iand ok d_Mo_join_62 ?_
  refine g_iconst (v := 1) ok d_Mo_join_63 (by decide) ?_
  exact g_icmp_ne (tgt := 93) ok d_Mo_join_64 (by decide) (fun z => (kt z)) (fun z => (kf z))
theorem k_Mo_join_67 {X : gC} {M : List mC} {k n : Nat} {x0 : Nat} {x5 : Int32} {x6 : Int32} {x7 : Int32} {fs2 : List Value} {f3 : Nat} {g6 : Nat → Int64} {N7 : Nat} {M10 : List mC} (ok : gO X c_Mo_join "TripleStoreModel" w_Mo_join) (h1 : M[x0]? = some (.inr (10, fs2))) (h4 : fs2[47]? = some (.ref f3)) (h5 : M[f3]? = some (.inl (1, N7, .inr (.inl g6)))) (h8 : vp_in ((6 * x6) + x7) N7) (h9 : vp_in ((6 * x5) + x7) N7) (h11 : M.set f3 (.inl (1, N7, .inr (.inl (vp_updL g6 ((6 * x5) + x7).toNatClampNeg (g6 ((6 * x6) + x7).toNatClampNeg))))) = M10) (kk : gg X M10 k n 93 [(0, .ref x0), (5, .int x5), (6, .int x6), (7, .int x7)] []) : gg X M k n 67 [(0, .ref x0), (5, .int x5), (6, .int x6), (7, .int x7)] [] := by
  refine g_aload_n ok d_Mo_join_67 rfl (j := 0) rfl ?_
  refine gf_Mo_70 ok d_Mo_join_68 h1 h4 ?_
  refine g_bipush (v := 6) ok d_Mo_join_71 (by decide) ?_
  refine g_iload ok d_Mo_join_73 (j := 1) rfl ?_
  refine g_imul ok d_Mo_join_75 ?_
  refine g_iload ok d_Mo_join_76 (j := 3) rfl ?_
  refine g_iadd ok d_Mo_join_78 ?_
  refine g_aload_n ok d_Mo_join_79 rfl (j := 0) rfl ?_
  refine gf_Mo_70 ok d_Mo_join_80 h1 h4 ?_
  refine g_bipush (v := 6) ok d_Mo_join_83 (by decide) ?_
  refine g_iload ok d_Mo_join_85 (j := 2) rfl ?_
  refine g_imul ok d_Mo_join_87 ?_
  refine g_iload ok d_Mo_join_88 (j := 3) rfl ?_
  refine g_iadd ok d_Mo_join_90 ?_
  refine g_lald (t := 1) ok rfl d_Mo_join_91 h5 h8 ?_
  refine g_last (t := 1) ok rfl d_Mo_join_92 h5 h9 ?_
  rw [h11]
  have h12 : M10[f3]? = some (.inl (1, N7, .inr (.inl (vp_updL g6 ((6 * x5) + x7).toNatClampNeg (g6 ((6 * x6) + x7).toNatClampNeg))))) := by rw [← h11]; exact gs_eq h5
  exact kk
theorem k_Mo_join_93 {X : gC} {M : List mC} {k n : Nat} {x0 : Nat} {x5 : Int32} {x6 : Int32} {x7 : Int32} (ok : gO X c_Mo_join "TripleStoreModel" w_Mo_join) (hl : gL X = 8)  (kk : gg X M k n 44 [(0, .ref x0), (5, .int x5), (6, .int x6), (7, .int (x7 + 1))] []) : gg X M k n 93 [(0, .ref x0), (5, .int x5), (6, .int x6), (7, .int x7)] [] := by
  refine g_iinc (L' := [(0, .ref x0), (5, .int x5), (6, .int x6), (7, .int (x7 + 1))]) (v := (x7 + 1)) ok d_Mo_join_93 (j := 3) rfl rfl (by rw [hl]; decide) rfl ?_
  exact g_goto (tgt := 44) ok d_Mo_join_96 (by decide) kk
theorem k_Mo_join_99 {X : gC} {M : List mC} {k n : Nat} {x0 : Nat} {x5 : Int32} {x6 : Int32} {fs2 : List Value} {f3 : Nat} {g6 : Nat → Int32} {N7 : Nat} {M11 : List mC} (ok : gO X c_Mo_join "TripleStoreModel" w_Mo_join) (h1 : M[x0]? = some (.inr (10, fs2))) (h4 : fs2[48]? = some (.ref f3)) (h5 : M[f3]? = some (.inl (0, N7, .inl g6))) (h8 : vp_in x5 N7) (h9 : vp_in x6 N7) (h10 : vp_in x5 N7) (h12 : M.set f3 (.inl (0, N7, .inl (upd g6 x5.toNatClampNeg ((g6 x5.toNatClampNeg) ||| (g6 x6.toNatClampNeg))))) = M11) {l9 : Launch} {rm : Room} {M0 : List mC} {post : Option Value → List mC → Prop} (E : gE X l9 y_Mo_join rm 8 none M0 post) (hp : post (none) M11) (hk : k ≤ rm.cells) (hn : n ≤ rm.slots) : gg X M k n 99 [(0, .ref x0), (5, .int x5), (6, .int x6)] [] := by
  refine g_aload_n ok d_Mo_join_99 rfl (j := 0) rfl ?_
  refine gf_Mo_73 ok d_Mo_join_100 h1 h4 ?_
  refine g_iload ok d_Mo_join_103 (j := 1) rfl ?_
  refine g_dup2_11 ok d_Mo_join_105 rfl rfl ?_
  refine g_iald (t := 0) ok rfl d_Mo_join_106 h5 h8 ?_
  refine g_aload_n ok d_Mo_join_107 rfl (j := 0) rfl ?_
  refine gf_Mo_73 ok d_Mo_join_108 h1 h4 ?_
  refine g_iload ok d_Mo_join_111 (j := 2) rfl ?_
  refine g_iald (t := 0) ok rfl d_Mo_join_113 h5 h9 ?_
  refine g_ior ok d_Mo_join_114 ?_
  refine g_iast (t := 0) ok rfl d_Mo_join_115 h5 h10 ?_
  rw [h12]
  have h13 : M11[f3]? = some (.inl (0, N7, .inl (upd g6 x5.toNatClampNeg ((g6 x5.toNatClampNeg) ||| (g6 x6.toNatClampNeg))))) := by rw [← h12]; exact gs_eq h5
  exact g_vret ok E d_Mo_join_116 hp hk hn
theorem k_Mo_combine_0 {X : gC} {M : List mC} {k n : Nat} {x0 : Nat} {x1 : Int32} {fs2 : List Value} {f3 : Int32} {f5 : Nat} {g8 : Nat → Int32} {N9 : Nat} {M11 : List mC} (ok : gO X c_Mo_combine "TripleStoreModel" w_Mo_combine) (hl : gL X = 8) (h1 : M[x0]? = some (.inr (10, fs2))) (h4 : fs2[50]? = some (.int f3)) (h6 : fs2[49]? = some (.ref f5)) (h7 : M[f5]? = some (.inl (0, N9, .inl g8))) (h10 : vp_in 10 N9) (h12 : M.set f5 (.inl (0, N9, .inl (upd g8 (10 : Int32).toNatClampNeg 0))) = M11) (kk : gg X M11 k n 25 [(0, .ref x0), (1, .int x1), (2, .int (f3 - 2)), (3, .int (f3 - 1)), (4, .int 0)] []) : gg X M k n 0 [(0, .ref x0), (1, .int x1)] [] := by
  refine g_aload_n ok d_Mo_combine_0 rfl (j := 0) rfl ?_
  refine gf_Mo_318 ok d_Mo_combine_1 h1 h4 ?_
  refine g_iconst (v := 2) ok d_Mo_combine_4 (by decide) ?_
  refine g_isub ok d_Mo_combine_5 ?_
  refine g_istore_n (L' := [(0, .ref x0), (1, .int x1), (2, .int (f3 - 2))]) ok d_Mo_combine_6 rfl (by rw [hl]; decide) rfl ?_
  refine g_aload_n ok d_Mo_combine_7 rfl (j := 0) rfl ?_
  refine gf_Mo_318 ok d_Mo_combine_8 h1 h4 ?_
  refine g_iconst (v := 1) ok d_Mo_combine_11 (by decide) ?_
  refine g_isub ok d_Mo_combine_12 ?_
  refine g_istore_n (L' := [(0, .ref x0), (1, .int x1), (2, .int (f3 - 2)), (3, .int (f3 - 1))]) ok d_Mo_combine_13 rfl (by rw [hl]; decide) rfl ?_
  refine g_aload_n ok d_Mo_combine_14 rfl (j := 0) rfl ?_
  refine gf_Mo_76 ok d_Mo_combine_15 h1 h6 ?_
  refine g_bipush (v := 10) ok d_Mo_combine_18 (by decide) ?_
  refine g_iconst (v := 0) ok d_Mo_combine_20 (by decide) ?_
  refine g_iast (t := 0) ok rfl d_Mo_combine_21 h7 h10 ?_
  rw [h12]
  have h13 : M11[f5]? = some (.inl (0, N9, .inl (upd g8 (10 : Int32).toNatClampNeg 0))) := by rw [← h12]; exact gs_eq h7
  refine g_iconst (v := 0) ok d_Mo_combine_22 (by decide) ?_
  refine g_istore (L' := [(0, .ref x0), (1, .int x1), (2, .int (f3 - 2)), (3, .int (f3 - 1)), (4, .int 0)]) ok d_Mo_combine_23 (by rw [hl]; decide) rfl ?_
  exact kk
theorem k_Mo_combine_25 {X : gC} {M : List mC} {k n : Nat} {x0 : Nat} {x1 : Int32} {x2 : Int32} {x3 : Int32} {x4 : Int32} {fs2 : List Value} {f3 : Nat} {g6 : Nat → Int32} {N7 : Nat} (ok : gO X c_Mo_combine "TripleStoreModel" w_Mo_combine) (h1 : M[x0]? = some (.inr (10, fs2))) (h4 : fs2[49]? = some (.ref f3)) (h5 : M[f3]? = some (.inl (0, N7, .inl g6))) (h8 : vp_in x2 N7) (kt : (g6 x2.toNatClampNeg) ≤ x4 → gg X M k n 185 [(0, .ref x0), (2, .int x2)] []) (kf : ¬ (g6 x2.toNatClampNeg) ≤ x4 → gg X M k n 36 [(0, .ref x0), (1, .int x1), (2, .int x2), (3, .int x3), (4, .int x4)] []) : gg X M k n 25 [(0, .ref x0), (1, .int x1), (2, .int x2), (3, .int x3), (4, .int x4)] [] := by
  refine g_iload ok d_Mo_combine_25 (j := 4) rfl ?_
  refine g_aload_n ok d_Mo_combine_27 rfl (j := 0) rfl ?_
  refine gf_Mo_76 ok d_Mo_combine_28 h1 h4 ?_
  refine g_iload_n ok d_Mo_combine_31 rfl (j := 2) rfl ?_
  refine g_iald (t := 0) ok rfl d_Mo_combine_32 h5 h8 ?_
  exact g_icmp_ge (tgt := 185) ok d_Mo_combine_33 (by decide) (fun z => (gg_keep [0, 2] (kt z))) (fun z => (kf z))
theorem k_Mo_combine_36 {X : gC} {M : List mC} {k n : Nat} {x0 : Nat} {x1 : Int32} {x2 : Int32} {x3 : Int32} {x4 : Int32} {fs2 : List Value} {f3 : Int32} (ok : gO X c_Mo_combine "TripleStoreModel" w_Mo_combine) (h1 : M[x0]? = some (.inr (10, fs2))) (h4 : fs2[51]? = some (.int f3)) (kt : ¬ f3 = 0 → gg X M k n 185 [(0, .ref x0), (2, .int x2)] []) (kf : f3 = 0 → gg X M k n 43 [(0, .ref x0), (1, .int x1), (2, .int x2), (3, .int x3), (4, .int x4)] []) : gg X M k n 36 [(0, .ref x0), (1, .int x1), (2, .int x2), (3, .int x3), (4, .int x4)] [] := by
  refine g_aload_n ok d_Mo_combine_36 rfl (j := 0) rfl ?_
  refine gf_Mo_311 ok d_Mo_combine_37 h1 h4 ?_
  exact g_if_ne (tgt := 185) ok d_Mo_combine_40 (by decide) (fun z => (gg_keep [0, 2] (kt z))) (fun z => (kf z))
theorem k_Mo_combine_43 {X : gC} {M : List mC} {k n : Nat} {x0 : Nat} {x1 : Int32} {x2 : Int32} {x3 : Int32} {x4 : Int32} (ok : gO X c_Mo_combine "TripleStoreModel" w_Mo_combine) (hl : gL X = 8)  (kk : gg X M k n 52 [(0, .ref x0), (1, .int x1), (2, .int x2), (3, .int x3), (4, .int x4), (5, .int 0), (6, .int 0), (7, .int 0)] []) : gg X M k n 43 [(0, .ref x0), (1, .int x1), (2, .int x2), (3, .int x3), (4, .int x4)] [] := by
  refine g_iconst (v := 0) ok d_Mo_combine_43 (by decide) ?_
  refine g_istore (L' := [(0, .ref x0), (1, .int x1), (2, .int x2), (3, .int x3), (4, .int x4), (5, .int 0)]) ok d_Mo_combine_44 (by rw [hl]; decide) rfl ?_
  refine g_iconst (v := 0) ok d_Mo_combine_46 (by decide) ?_
  refine g_istore (L' := [(0, .ref x0), (1, .int x1), (2, .int x2), (3, .int x3), (4, .int x4), (5, .int 0), (6, .int 0)]) ok d_Mo_combine_47 (by rw [hl]; decide) rfl ?_
  refine g_iconst (v := 0) ok d_Mo_combine_49 (by decide) ?_
  refine g_istore (L' := [(0, .ref x0), (1, .int x1), (2, .int x2), (3, .int x3), (4, .int x4), (5, .int 0), (6, .int 0), (7, .int 0)]) ok d_Mo_combine_50 (by rw [hl]; decide) rfl ?_
  exact kk
theorem k_Mo_combine_52 {X : gC} {M : List mC} {k n : Nat} {x0 : Nat} {x1 : Int32} {x2 : Int32} {x3 : Int32} {x4 : Int32} {x5 : Int32} {x6 : Int32} {x7 : Int32} {fs2 : List Value} {f3 : Nat} {g6 : Nat → Int32} {N7 : Nat} (ok : gO X c_Mo_combine "TripleStoreModel" w_Mo_combine) (h1 : M[x0]? = some (.inr (10, fs2))) (h4 : fs2[49]? = some (.ref f3)) (h5 : M[f3]? = some (.inl (0, N7, .inl g6))) (h8 : vp_in x3 N7) (kt : (g6 x3.toNatClampNeg) ≤ x7 → gg X M k n 150 [(0, .ref x0), (1, .int x1), (2, .int x2), (3, .int x3), (4, .int x4), (5, .int x5), (6, .int x6)] []) (kf : ¬ (g6 x3.toNatClampNeg) ≤ x7 → gg X M k n 63 [(0, .ref x0), (1, .int x1), (2, .int x2), (3, .int x3), (4, .int x4), (5, .int x5), (6, .int x6), (7, .int x7)] []) : gg X M k n 52 [(0, .ref x0), (1, .int x1), (2, .int x2), (3, .int x3), (4, .int x4), (5, .int x5), (6, .int x6), (7, .int x7)] [] := by
  refine g_iload ok d_Mo_combine_52 (j := 7) rfl ?_
  refine g_aload_n ok d_Mo_combine_54 rfl (j := 0) rfl ?_
  refine gf_Mo_76 ok d_Mo_combine_55 h1 h4 ?_
  refine g_iload_n ok d_Mo_combine_58 rfl (j := 3) rfl ?_
  refine g_iald (t := 0) ok rfl d_Mo_combine_59 h5 h8 ?_
  exact g_icmp_ge (tgt := 150) ok d_Mo_combine_60 (by decide) (fun z => (gg_keep [0, 1, 2, 3, 4, 5, 6] (kt z))) (fun z => (kf z))
theorem k_Mo_combine_63 {X : gC} {M : List mC} {k n : Nat} {x0 : Nat} {x1 : Int32} {x2 : Int32} {x3 : Int32} {x4 : Int32} {x5 : Int32} {x6 : Int32} {x7 : Int32} {fs2 : List Value} {f3 : Int32} (ok : gO X c_Mo_combine "TripleStoreModel" w_Mo_combine) (h1 : M[x0]? = some (.inr (10, fs2))) (h4 : fs2[51]? = some (.int f3)) (kt : ¬ f3 = 0 → gg X M k n 150 [(0, .ref x0), (1, .int x1), (2, .int x2), (3, .int x3), (4, .int x4), (5, .int x5), (6, .int x6)] []) (kf : f3 = 0 → gg X M k n 70 [(0, .ref x0), (1, .int x1), (2, .int x2), (3, .int x3), (4, .int x4), (5, .int x5), (6, .int x6), (7, .int x7)] []) : gg X M k n 63 [(0, .ref x0), (1, .int x1), (2, .int x2), (3, .int x3), (4, .int x4), (5, .int x5), (6, .int x6), (7, .int x7)] [] := by
  refine g_aload_n ok d_Mo_combine_63 rfl (j := 0) rfl ?_
  refine gf_Mo_311 ok d_Mo_combine_64 h1 h4 ?_
  exact g_if_ne (tgt := 150) ok d_Mo_combine_67 (by decide) (fun z => (gg_keep [0, 1, 2, 3, 4, 5, 6] (kt z))) (fun z => (kf z))
theorem k_Mo_combine_70 {X : gC} {M : List mC} {k n : Nat} {x0 : Nat} {x1 : Int32} {x2 : Int32} {x3 : Int32} {x4 : Int32} {x5 : Int32} {x6 : Int32} {x7 : Int32} {fs2 : List Value} (ok : gO X c_Mo_combine "TripleStoreModel" w_Mo_combine) (h1 : M[x0]? = some (.inr (10, fs2))) {rm : Room} {post : Option Value → List mC → Prop} (hm : mm_ (gLa X) y_Mo_compatible w_Mo_compatible rm [.ref x0, .int ((150 * x2) + x4), .int ((150 * x3) + x7)] M post) (hR : gF X rm 4 k n) (hlen : ∀ r M', post r M' → M'.length = M.length) (kk : ∀ r M', post r M' → gg X M' (k + rm.cells) (n + rm.slots) 90 [(0, .ref x0), (1, .int x1), (2, .int x2), (3, .int x3), (4, .int x4), (5, .int x5), (6, .int x6), (7, .int x7)] (r.toList ++ [])) : gg X M k n 70 [(0, .ref x0), (1, .int x1), (2, .int x2), (3, .int x3), (4, .int x4), (5, .int x5), (6, .int x6), (7, .int x7)] [] := by
  refine g_aload_n ok d_Mo_combine_70 rfl (j := 0) rfl ?_
  refine g_sipush (v := 150) ok d_Mo_combine_71 (by decide) ?_
  refine g_iload_n ok d_Mo_combine_74 rfl (j := 2) rfl ?_
  refine g_imul ok d_Mo_combine_75 ?_
  refine g_iload ok d_Mo_combine_76 (j := 4) rfl ?_
  refine g_iadd ok d_Mo_combine_78 ?_
  refine g_sipush (v := 150) ok d_Mo_combine_79 (by decide) ?_
  refine g_iload_n ok d_Mo_combine_82 rfl (j := 3) rfl ?_
  refine g_imul ok d_Mo_combine_83 ?_
  refine g_iload ok d_Mo_combine_84 (j := 7) rfl ?_
  refine g_iadd ok d_Mo_combine_86 ?_
  exact gc_Mo_321 (As := [.int ((150 * x2) + x4), .int ((150 * x3) + x7)]) (rest := []) ok d_Mo_combine_87 hm rfl rfl (Nat.le_of_ble_eq_true rfl) hR h1 hlen kk
theorem k_Mo_combine_90 {X : gC} {M : List mC} {k n : Nat} {x0 : Nat} {x1 : Int32} {x2 : Int32} {x3 : Int32} {x4 : Int32} {x5 : Int32} {x6 : Int32} {x7 : Int32} {s0 : Int32} (ok : gO X c_Mo_combine "TripleStoreModel" w_Mo_combine)  (kt : s0 = 0 → gg X M k n 144 [(0, .ref x0), (1, .int x1), (2, .int x2), (3, .int x3), (4, .int x4), (5, .int x5), (6, .int x6), (7, .int x7)] []) (kf : ¬ s0 = 0 → gg X M k n 93 [(0, .ref x0), (1, .int x1), (2, .int x2), (3, .int x3), (4, .int x4), (6, .int x6), (7, .int x7)] []) : gg X M k n 90 [(0, .ref x0), (1, .int x1), (2, .int x2), (3, .int x3), (4, .int x4), (5, .int x5), (6, .int x6), (7, .int x7)] [.int s0] := by
  exact g_if_eq (tgt := 144) ok d_Mo_combine_90 (by decide) (fun z => (kt z)) (fun z => (gg_keep [0, 1, 2, 3, 4, 6, 7] (kf z)))
theorem k_Mo_combine_93 {X : gC} {M : List mC} {k n : Nat} {x0 : Nat} {x1 : Int32} {x2 : Int32} {x3 : Int32} {x4 : Int32} {x6 : Int32} {x7 : Int32} {fs2 : List Value} {f3 : Nat} {g6 : Nat → Int32} {N7 : Nat} (ok : gO X c_Mo_combine "TripleStoreModel" w_Mo_combine) (hl : gL X = 8) (h1 : M[x0]? = some (.inr (10, fs2))) (h4 : fs2[48]? = some (.ref f3)) (h5 : M[f3]? = some (.inl (0, N7, .inl g6))) (h8 : vp_in ((150 * x2) + x4) N7) (h9 : vp_in ((150 * x3) + x7) N7) (kt : ((g6 ((150 * x2) + x4).toNatClampNeg) &&& (g6 ((150 * x3) + x7).toNatClampNeg)) = 0 → gg X M k n 129 [(0, .ref x0), (1, .int x1), (2, .int x2), (3, .int x3), (4, .int x4), (5, .int 1), (6, .int x6), (7, .int x7)] []) (kf : ¬ ((g6 ((150 * x2) + x4).toNatClampNeg) &&& (g6 ((150 * x3) + x7).toNatClampNeg)) = 0 → gg X M k n 126 [(0, .ref x0), (1, .int x1), (2, .int x2), (3, .int x3), (4, .int x4), (5, .int 1), (7, .int x7)] []) : gg X M k n 93 [(0, .ref x0), (1, .int x1), (2, .int x2), (3, .int x3), (4, .int x4), (6, .int x6), (7, .int x7)] [] := by
  refine g_iconst (v := 1) ok d_Mo_combine_93 (by decide) ?_
  refine g_istore (L' := [(0, .ref x0), (1, .int x1), (2, .int x2), (3, .int x3), (4, .int x4), (5, .int 1), (6, .int x6), (7, .int x7)]) ok d_Mo_combine_94 (by rw [hl]; decide) rfl ?_
  refine g_aload_n ok d_Mo_combine_96 rfl (j := 0) rfl ?_
  refine gf_Mo_73 ok d_Mo_combine_97 h1 h4 ?_
  refine g_sipush (v := 150) ok d_Mo_combine_100 (by decide) ?_
  refine g_iload_n ok d_Mo_combine_103 rfl (j := 2) rfl ?_
  refine g_imul ok d_Mo_combine_104 ?_
  refine g_iload ok d_Mo_combine_105 (j := 4) rfl ?_
  refine g_iadd ok d_Mo_combine_107 ?_
  refine g_iald (t := 0) ok rfl d_Mo_combine_108 h5 h8 ?_
  refine g_aload_n ok d_Mo_combine_109 rfl (j := 0) rfl ?_
  refine gf_Mo_73 ok d_Mo_combine_110 h1 h4 ?_
  refine g_sipush (v := 150) ok d_Mo_combine_113 (by decide) ?_
  refine g_iload_n ok d_Mo_combine_116 rfl (j := 3) rfl ?_
  refine g_imul ok d_Mo_combine_117 ?_
  refine g_iload ok d_Mo_combine_118 (j := 7) rfl ?_
  refine g_iadd ok d_Mo_combine_120 ?_
  refine g_iald (t := 0) ok rfl d_Mo_combine_121 h5 h9 ?_
  refine g_iand ok d_Mo_combine_122 ?_
  exact g_if_eq (tgt := 129) ok d_Mo_combine_123 (by decide) (fun z => (kt z)) (fun z => (gg_keep [0, 1, 2, 3, 4, 5, 7] (kf z)))
theorem k_Mo_combine_126 {X : gC} {M : List mC} {k n : Nat} {x0 : Nat} {x1 : Int32} {x2 : Int32} {x3 : Int32} {x4 : Int32} {x5 : Int32} {x7 : Int32} (ok : gO X c_Mo_combine "TripleStoreModel" w_Mo_combine) (hl : gL X = 8)  (kk : gg X M k n 129 [(0, .ref x0), (1, .int x1), (2, .int x2), (3, .int x3), (4, .int x4), (5, .int x5), (6, .int 1), (7, .int x7)] []) : gg X M k n 126 [(0, .ref x0), (1, .int x1), (2, .int x2), (3, .int x3), (4, .int x4), (5, .int x5), (7, .int x7)] [] := by
  refine g_iconst (v := 1) ok d_Mo_combine_126 (by decide) ?_
  refine g_istore (L' := [(0, .ref x0), (1, .int x1), (2, .int x2), (3, .int x3), (4, .int x4), (5, .int x5), (6, .int 1), (7, .int x7)]) ok d_Mo_combine_127 (by rw [hl]; decide) rfl ?_
  exact kk
theorem k_Mo_combine_129 {X : gC} {M : List mC} {k n : Nat} {x0 : Nat} {x1 : Int32} {x2 : Int32} {x3 : Int32} {x4 : Int32} {x5 : Int32} {x6 : Int32} {x7 : Int32} (ok : gO X c_Mo_combine "TripleStoreModel" w_Mo_combine)  (kt : 2 ≤ x1 → gg X M k n 144 [(0, .ref x0), (1, .int x1), (2, .int x2), (3, .int x3), (4, .int x4), (5, .int x5), (6, .int x6), (7, .int x7)] []) (kf : ¬ 2 ≤ x1 → gg X M k n 134 [(0, .ref x0), (1, .int x1), (2, .int x2), (3, .int x3), (4, .int x4), (5, .int x5), (6, .int x6), (7, .int x7)] []) : gg X M k n 129 [(0, .ref x0), (1, .int x1), (2, .int x2), (3, .int x3), (4, .int x4), (5, .int x5), (6, .int x6), (7, .int x7)] [] := by
  refine g_iload_n ok d_Mo_combine_129 rfl (j := 1) rfl ?_
  refine g_iconst (v := 2) ok d_Mo_combine_130 (by decide) ?_
  exact g_icmp_ge (tgt := 144) ok d_Mo_combine_131 (by decide) (fun z => (kt z)) (fun z => (kf z))
theorem k_Mo_combine_134 {X : gC} {M : List mC} {k n : Nat} {x0 : Nat} {x1 : Int32} {x2 : Int32} {x3 : Int32} {x4 : Int32} {x5 : Int32} {x6 : Int32} {x7 : Int32} {fs2 : List Value} (ok : gO X c_Mo_combine "TripleStoreModel" w_Mo_combine) (h1 : M[x0]? = some (.inr (10, fs2))) {rm : Room} {post : Option Value → List mC → Prop} (hm : mm_ (gLa X) y_Mo_join w_Mo_join rm [.ref x0, .int x2, .int x4, .int x3, .int x7] M post) (hR : gF X rm 8 k n) (hlen : ∀ r M', post r M' → M'.length = M.length) (kk : ∀ r M', post r M' → gg X M' (k + rm.cells) (n + rm.slots) 144 [(0, .ref x0), (1, .int x1), (2, .int x2), (3, .int x3), (4, .int x4), (5, .int x5), (6, .int x6), (7, .int x7)] (r.toList ++ [])) : gg X M k n 134 [(0, .ref x0), (1, .int x1), (2, .int x2), (3, .int x3), (4, .int x4), (5, .int x5), (6, .int x6), (7, .int x7)] [] := by
  refine g_aload_n ok d_Mo_combine_134 rfl (j := 0) rfl ?_
  refine g_iload_n ok d_Mo_combine_135 rfl (j := 2) rfl ?_
  refine g_iload ok d_Mo_combine_136 (j := 4) rfl ?_
  refine g_iload_n ok d_Mo_combine_138 rfl (j := 3) rfl ?_
  refine g_iload ok d_Mo_combine_139 (j := 7) rfl ?_
  exact gc_Mo_325 (As := [.int x2, .int x4, .int x3, .int x7]) (rest := []) ok d_Mo_combine_141 hm rfl rfl (Nat.le_of_ble_eq_true rfl) hR h1 hlen kk
theorem k_Mo_combine_144 {X : gC} {M : List mC} {k n : Nat} {x0 : Nat} {x1 : Int32} {x2 : Int32} {x3 : Int32} {x4 : Int32} {x5 : Int32} {x6 : Int32} {x7 : Int32} (ok : gO X c_Mo_combine "TripleStoreModel" w_Mo_combine) (hl : gL X = 8)  (kk : gg X M k n 52 [(0, .ref x0), (1, .int x1), (2, .int x2), (3, .int x3), (4, .int x4), (5, .int x5), (6, .int x6), (7, .int (x7 + 1))] []) : gg X M k n 144 [(0, .ref x0), (1, .int x1), (2, .int x2), (3, .int x3), (4, .int x4), (5, .int x5), (6, .int x6), (7, .int x7)] [] := by
  refine g_iinc (L' := [(0, .ref x0), (1, .int x1), (2, .int x2), (3, .int x3), (4, .int x4), (5, .int x5), (6, .int x6), (7, .int (x7 + 1))]) (v := (x7 + 1)) ok d_Mo_combine_144 (j := 7) rfl rfl (by rw [hl]; decide) rfl ?_
  exact g_goto (tgt := 52) ok d_Mo_combine_147 (by decide) kk
theorem k_Mo_combine_150 {X : gC} {M : List mC} {k n : Nat} {x0 : Nat} {x1 : Int32} {x2 : Int32} {x3 : Int32} {x4 : Int32} {x5 : Int32} {x6 : Int32} (ok : gO X c_Mo_combine "TripleStoreModel" w_Mo_combine)  (kt : ¬ x1 = 1 → gg X M k n 160 [(0, .ref x0), (1, .int x1), (2, .int x2), (3, .int x3), (4, .int x4), (6, .int x6)] []) (kf : x1 = 1 → gg X M k n 155 [(0, .ref x0), (1, .int x1), (2, .int x2), (3, .int x3), (4, .int x4), (5, .int x5), (6, .int x6)] []) : gg X M k n 150 [(0, .ref x0), (1, .int x1), (2, .int x2), (3, .int x3), (4, .int x4), (5, .int x5), (6, .int x6)] [] := by
  refine g_iload_n ok d_Mo_combine_150 rfl (j := 1) rfl ?_
  refine g_iconst (v := 1) ok d_Mo_combine_151 (by decide) ?_
  exact g_icmp_ne (tgt := 160) ok d_Mo_combine_152 (by decide) (fun z => (gg_keep [0, 1, 2, 3, 4, 6] (kt z))) (fun z => (kf z))
theorem k_Mo_combine_155 {X : gC} {M : List mC} {k n : Nat} {x0 : Nat} {x1 : Int32} {x2 : Int32} {x3 : Int32} {x4 : Int32} {x5 : Int32} {x6 : Int32} (ok : gO X c_Mo_combine "TripleStoreModel" w_Mo_combine)  (kt : x5 = 0 → gg X M k n 170 [(0, .ref x0), (1, .int x1), (2, .int x2), (3, .int x3), (4, .int x4)] []) (kf : ¬ x5 = 0 → gg X M k n 160 [(0, .ref x0), (1, .int x1), (2, .int x2), (3, .int x3), (4, .int x4), (6, .int x6)] []) : gg X M k n 155 [(0, .ref x0), (1, .int x1), (2, .int x2), (3, .int x3), (4, .int x4), (5, .int x5), (6, .int x6)] [] := by
  refine g_iload ok d_Mo_combine_155 (j := 5) rfl ?_
  exact g_if_eq (tgt := 170) ok d_Mo_combine_157 (by decide) (fun z => (gg_keep [0, 1, 2, 3, 4] (kt z))) (fun z => (gg_keep [0, 1, 2, 3, 4, 6] (kf z)))
theorem k_Mo_combine_160 {X : gC} {M : List mC} {k n : Nat} {x0 : Nat} {x1 : Int32} {x2 : Int32} {x3 : Int32} {x4 : Int32} {x6 : Int32} (ok : gO X c_Mo_combine "TripleStoreModel" w_Mo_combine)  (kt : ¬ x1 = 2 → gg X M k n 179 [(0, .ref x0), (1, .int x1), (2, .int x2), (3, .int x3), (4, .int x4)] []) (kf : x1 = 2 → gg X M k n 165 [(0, .ref x0), (1, .int x1), (2, .int x2), (3, .int x3), (4, .int x4), (6, .int x6)] []) : gg X M k n 160 [(0, .ref x0), (1, .int x1), (2, .int x2), (3, .int x3), (4, .int x4), (6, .int x6)] [] := by
  refine g_iload_n ok d_Mo_combine_160 rfl (j := 1) rfl ?_
  refine g_iconst (v := 2) ok d_Mo_combine_161 (by decide) ?_
  exact g_icmp_ne (tgt := 179) ok d_Mo_combine_162 (by decide) (fun z => (gg_keep [0, 1, 2, 3, 4] (kt z))) (fun z => (kf z))
theorem k_Mo_combine_165 {X : gC} {M : List mC} {k n : Nat} {x0 : Nat} {x1 : Int32} {x2 : Int32} {x3 : Int32} {x4 : Int32} {x6 : Int32} (ok : gO X c_Mo_combine "TripleStoreModel" w_Mo_combine)  (kt : ¬ x6 = 0 → gg X M k n 179 [(0, .ref x0), (1, .int x1), (2, .int x2), (3, .int x3), (4, .int x4)] []) (kf : x6 = 0 → gg X M k n 170 [(0, .ref x0), (1, .int x1), (2, .int x2), (3, .int x3), (4, .int x4)] []) : gg X M k n 165 [(0, .ref x0), (1, .int x1), (2, .int x2), (3, .int x3), (4, .int x4), (6, .int x6)] [] := by
  refine g_iload ok d_Mo_combine_165 (j := 5) rfl ?_
  exact g_if_ne (tgt := 179) ok d_Mo_combine_167 (by decide) (fun z => (gg_keep [0, 1, 2, 3, 4] (kt z))) (fun z => (gg_keep [0, 1, 2, 3, 4] (kf z)))
theorem k_Mo_combine_170 {X : gC} {M : List mC} {k n : Nat} {x0 : Nat} {x1 : Int32} {x2 : Int32} {x3 : Int32} {x4 : Int32} {fs2 : List Value} (ok : gO X c_Mo_combine "TripleStoreModel" w_Mo_combine) (h1 : M[x0]? = some (.inr (10, fs2))) {rm : Room} {post : Option Value → List mC → Prop} (hm : mm_ (gLa X) y_Mo_addTo w_Mo_addTo rm [.ref x0, .int 10, .int x2, .int x4] M post) (hR : gF X rm 6 k n) (hlen : ∀ r M', post r M' → M'.length = M.length) (kk : ∀ r M', post r M' → gg X M' (k + rm.cells) (n + rm.slots) 179 [(0, .ref x0), (1, .int x1), (2, .int x2), (3, .int x3), (4, .int x4)] (r.toList ++ [])) : gg X M k n 170 [(0, .ref x0), (1, .int x1), (2, .int x2), (3, .int x3), (4, .int x4)] [] := by
  refine g_aload_n ok d_Mo_combine_170 rfl (j := 0) rfl ?_
  refine g_bipush (v := 10) ok d_Mo_combine_171 (by decide) ?_
  refine g_iload_n ok d_Mo_combine_173 rfl (j := 2) rfl ?_
  refine g_iload ok d_Mo_combine_174 (j := 4) rfl ?_
  exact gc_Mo_314 (As := [.int 10, .int x2, .int x4]) (rest := []) ok d_Mo_combine_176 hm rfl rfl (Nat.le_of_ble_eq_true rfl) hR h1 hlen kk
theorem k_Mo_combine_179 {X : gC} {M : List mC} {k n : Nat} {x0 : Nat} {x1 : Int32} {x2 : Int32} {x3 : Int32} {x4 : Int32} (ok : gO X c_Mo_combine "TripleStoreModel" w_Mo_combine) (hl : gL X = 8)  (kk : gg X M k n 25 [(0, .ref x0), (1, .int x1), (2, .int x2), (3, .int x3), (4, .int (x4 + 1))] []) : gg X M k n 179 [(0, .ref x0), (1, .int x1), (2, .int x2), (3, .int x3), (4, .int x4)] [] := by
  refine g_iinc (L' := [(0, .ref x0), (1, .int x1), (2, .int x2), (3, .int x3), (4, .int (x4 + 1))]) (v := (x4 + 1)) ok d_Mo_combine_179 (j := 4) rfl rfl (by rw [hl]; decide) rfl ?_
  exact g_goto (tgt := 25) ok d_Mo_combine_182 (by decide) kk
theorem k_Mo_combine_185 {X : gC} {M : List mC} {k n : Nat} {x0 : Nat} {x2 : Int32} {fs2 : List Value} {f3 : Int32} {fs7 : List Value} {M9 : List mC} {f14 : Int32} (ok : gO X c_Mo_combine "TripleStoreModel" w_Mo_combine) (h1 : M[x0]? = some (.inr (10, fs2))) (h4 : fs2[50]? = some (.int f3)) (h6 : 59 ≤ fs2.length) (h8 : fs2.set 50 (.int (f3 - 1)) = fs7) (h10 : M.set x0 (.inr (10, fs7)) = M9) (h15 : fs2[51]? = some (.int f14)) (kt : ¬ f14 = 0 → gg X M9 k n 209 [] []) (kf : f14 = 0 → gg X M9 k n 202 [(0, .ref x0), (2, .int x2)] []) : gg X M k n 185 [(0, .ref x0), (2, .int x2)] [] := by
  refine g_aload_n ok d_Mo_combine_185 rfl (j := 0) rfl ?_
  refine g_dup ok d_Mo_combine_186 rfl ?_
  refine gf_Mo_318 ok d_Mo_combine_187 h1 h4 ?_
  refine g_iconst (v := 1) ok d_Mo_combine_190 (by decide) ?_
  refine g_isub ok d_Mo_combine_191 ?_
  have h5 : 50 < fs2.length := Nat.lt_of_lt_of_le (by decide) h6
  refine pf_Mo_318 ok d_Mo_combine_192 h1 h5 (fun _ => ⟨rfl, rfl⟩) ?_
  rw [h8]
  rw [h10]
  have h11 : M9[x0]? = some (.inr (10, fs7)) := by rw [← h10]; exact gs_eq h1
  have h12 : fs7[50]? = some (.int (f3 - 1)) := by rw [← h8]; exact List.getElem?_set_self h5
  have h13 : 59 ≤ fs7.length := by rw [← h8, List.length_set]; exact h6
  refine g_aload_n ok d_Mo_combine_195 rfl (j := 0) rfl ?_
  have h16 : fs7[51]? = some (.int f14) := by rw [← h8]; exact (List.getElem?_set_ne (by decide : 50 ≠ 51)).trans h15
  refine gf_Mo_311 ok d_Mo_combine_196 h11 h16 ?_
  exact g_if_ne (tgt := 209) ok d_Mo_combine_199 (by decide) (fun z => (gg_keep [] (kt z))) (fun z => (kf z))
theorem k_Mo_combine_202 {X : gC} {M : List mC} {k n : Nat} {x0 : Nat} {x2 : Int32} {fs2 : List Value} (ok : gO X c_Mo_combine "TripleStoreModel" w_Mo_combine) (h1 : M[x0]? = some (.inr (10, fs2))) {rm : Room} {post : Option Value → List mC → Prop} (hm : mm_ (gLa X) y_Mo_copy w_Mo_copy rm [.ref x0, .int 10, .int x2] M post) (hR : gF X rm 4 k n) (hlen : ∀ r M', post r M' → M'.length = M.length) (kk : ∀ r M', post r M' → gg X M' (k + rm.cells) (n + rm.slots) 209 [] (r.toList ++ [])) : gg X M k n 202 [(0, .ref x0), (2, .int x2)] [] := by
  refine g_aload_n ok d_Mo_combine_202 rfl (j := 0) rfl ?_
  refine g_bipush (v := 10) ok d_Mo_combine_203 (by decide) ?_
  refine g_iload_n ok d_Mo_combine_205 rfl (j := 1) rfl ?_
  exact gc_Mo_329 (As := [.int 10, .int x2]) (rest := []) ok d_Mo_combine_206 hm rfl rfl (Nat.le_of_ble_eq_true rfl) hR h1 hlen (fun r M' q => (gg_keep [] (kk r M' q)))
theorem k_Mo_combine_209 {X : gC} {M : List mC} {k n : Nat}  (ok : gO X c_Mo_combine "TripleStoreModel" w_Mo_combine)  {l9 : Launch} {rm : Room} {M0 : List mC} {post : Option Value → List mC → Prop} (E : gE X l9 y_Mo_combine rm 8 none M0 post) (hp : post (none) M) (hk : k ≤ rm.cells) (hn : n ≤ rm.slots) : gg X M k n 209 [] [] := by
  exact g_vret ok E d_Mo_combine_209 hp hk hn
theorem k_Mo_match_0 {X : gC} {M : List mC} {k n : Nat} {x0 : Nat} {x1 : Int32} {fs2 : List Value} {f3 : Int32} {f5 : Nat} {g8 : Nat → Int32} {N9 : Nat} {M11 : List mC} {fs17 : List Value} {M19 : List mC} (ok : gO X c_Mo_match "TripleStoreModel" w_Mo_match) (hl : gL X = 10) (h1 : M[x0]? = some (.inr (10, fs2))) (h4 : fs2[50]? = some (.int f3)) (h6 : fs2[49]? = some (.ref f5)) (h7 : M[f5]? = some (.inl (0, N9, .inl g8))) (h10 : vp_in f3 N9) (h12 : M.set f5 (.inl (0, N9, .inl (upd g8 f3.toNatClampNeg 0))) = M11) (h16 : 59 ≤ fs2.length) (h18 : fs2.set 50 (.int (f3 + 1)) = fs17) (h20 : M11.set x0 (.inr (10, fs17)) = M19) (kk : gg X M19 k n 24 [(0, .ref x0), (1, .int x1), (2, .int f3), (3, .int 0)] []) : gg X M k n 0 [(0, .ref x0), (1, .int x1)] [] := by
  refine g_aload_n ok d_Mo_match_0 rfl (j := 0) rfl ?_
  refine gf_Mo_318 ok d_Mo_match_1 h1 h4 ?_
  refine g_istore_n (L' := [(0, .ref x0), (1, .int x1), (2, .int f3)]) ok d_Mo_match_4 rfl (by rw [hl]; decide) rfl ?_
  refine g_aload_n ok d_Mo_match_5 rfl (j := 0) rfl ?_
  refine gf_Mo_76 ok d_Mo_match_6 h1 h6 ?_
  refine g_iload_n ok d_Mo_match_9 rfl (j := 2) rfl ?_
  refine g_iconst (v := 0) ok d_Mo_match_10 (by decide) ?_
  refine g_iast (t := 0) ok rfl d_Mo_match_11 h7 h10 ?_
  rw [h12]
  have h13 : M11[f5]? = some (.inl (0, N9, .inl (upd g8 f3.toNatClampNeg 0))) := by rw [← h12]; exact gs_eq h7
  refine g_aload_n ok d_Mo_match_12 rfl (j := 0) rfl ?_
  refine g_dup ok d_Mo_match_13 rfl ?_
  have h14 : M11[x0]? = some (.inr (10, fs2)) := by rw [← h12]; exact (gs_ne (ne_ao h7 h1)).trans h1
  refine gf_Mo_318 ok d_Mo_match_14 h14 h4 ?_
  refine g_iconst (v := 1) ok d_Mo_match_17 (by decide) ?_
  refine g_iadd ok d_Mo_match_18 ?_
  have h15 : 50 < fs2.length := Nat.lt_of_lt_of_le (by decide) h16
  refine pf_Mo_318 ok d_Mo_match_19 h14 h15 (fun _ => ⟨rfl, rfl⟩) ?_
  rw [h18]
  rw [h20]
  have h21 : M19[x0]? = some (.inr (10, fs17)) := by rw [← h20]; exact gs_eq h14
  have h22 : fs17[49]? = some (.ref f5) := by rw [← h18]; exact (List.getElem?_set_ne (by decide : 50 ≠ 49)).trans h6
  have h23 : fs17[50]? = some (.int (f3 + 1)) := by rw [← h18]; exact List.getElem?_set_self h15
  have h24 : 59 ≤ fs17.length := by rw [← h18, List.length_set]; exact h16
  refine g_iconst (v := 0) ok d_Mo_match_22 (by decide) ?_
  refine g_istore_n (L' := [(0, .ref x0), (1, .int x1), (2, .int f3), (3, .int 0)]) ok d_Mo_match_23 rfl (by rw [hl]; decide) rfl ?_
  exact kk
theorem k_Mo_match_24 {X : gC} {M : List mC} {k n : Nat} {x0 : Nat} {x1 : Int32} {x2 : Int32} {x3 : Int32} {fs2 : List Value} {f3 : Int32} (ok : gO X c_Mo_match "TripleStoreModel" w_Mo_match) (h1 : M[x0]? = some (.inr (10, fs2))) (h4 : fs2[1]? = some (.int f3)) (kt : f3 ≤ x3 → gg X M k n 227 [] []) (kf : ¬ f3 ≤ x3 → gg X M k n 32 [(0, .ref x0), (1, .int x1), (2, .int x2), (3, .int x3)] []) : gg X M k n 24 [(0, .ref x0), (1, .int x1), (2, .int x2), (3, .int x3)] [] := by
  refine g_iload_n ok d_Mo_match_24 rfl (j := 3) rfl ?_
  refine g_aload_n ok d_Mo_match_25 rfl (j := 0) rfl ?_
  refine gf_Mo_102 ok d_Mo_match_26 h1 h4 ?_
  exact g_icmp_ge (tgt := 227) ok d_Mo_match_29 (by decide) (fun z => (gg_keep [] (kt z))) (fun z => (kf z))
theorem k_Mo_match_32 {X : gC} {M : List mC} {k n : Nat} {x0 : Nat} {x1 : Int32} {x2 : Int32} {x3 : Int32} {fs2 : List Value} {f3 : Nat} {g6 : Nat → Int32} {N7 : Nat} {f9 : Nat} {g12 : Nat → Int32} {N13 : Nat} {M15 : List mC} (ok : gO X c_Mo_match "TripleStoreModel" w_Mo_match) (hl : gL X = 10) (h1 : M[x0]? = some (.inr (10, fs2))) (h4 : fs2[49]? = some (.ref f3)) (h5 : M[f3]? = some (.inl (0, N7, .inl g6))) (h8 : vp_in x2 N7) (h10 : fs2[48]? = some (.ref f9)) (h11 : M[f9]? = some (.inl (0, N13, .inl g12))) (h14 : vp_in ((150 * x2) + (g6 x2.toNatClampNeg)) N13) (h16 : M.set f9 (.inl (0, N13, .inl (upd g12 ((150 * x2) + (g6 x2.toNatClampNeg)).toNatClampNeg 0))) = M15) (kk : gg X M15 k n 60 [(0, .ref x0), (1, .int x1), (2, .int x2), (3, .int x3), (4, .int ((150 * x2) + (g6 x2.toNatClampNeg))), (5, .int 1), (6, .int 0)] []) : gg X M k n 32 [(0, .ref x0), (1, .int x1), (2, .int x2), (3, .int x3)] [] := by
  refine g_sipush (v := 150) ok d_Mo_match_32 (by decide) ?_
  refine g_iload_n ok d_Mo_match_35 rfl (j := 2) rfl ?_
  refine g_imul ok d_Mo_match_36 ?_
  refine g_aload_n ok d_Mo_match_37 rfl (j := 0) rfl ?_
  refine gf_Mo_76 ok d_Mo_match_38 h1 h4 ?_
  refine g_iload_n ok d_Mo_match_41 rfl (j := 2) rfl ?_
  refine g_iald (t := 0) ok rfl d_Mo_match_42 h5 h8 ?_
  refine g_iadd ok d_Mo_match_43 ?_
  refine g_istore (L' := [(0, .ref x0), (1, .int x1), (2, .int x2), (3, .int x3), (4, .int ((150 * x2) + (g6 x2.toNatClampNeg)))]) ok d_Mo_match_44 (by rw [hl]; decide) rfl ?_
  refine g_aload_n ok d_Mo_match_46 rfl (j := 0) rfl ?_
  refine gf_Mo_73 ok d_Mo_match_47 h1 h10 ?_
  refine g_iload ok d_Mo_match_50 (j := 4) rfl ?_
  refine g_iconst (v := 0) ok d_Mo_match_52 (by decide) ?_
  refine g_iast (t := 0) ok rfl d_Mo_match_53 h11 h14 ?_
  rw [h16]
  have h17 : M15[f9]? = some (.inl (0, N13, .inl (upd g12 ((150 * x2) + (g6 x2.toNatClampNeg)).toNatClampNeg 0))) := by rw [← h16]; exact gs_eq h11
  refine g_iconst (v := 1) ok d_Mo_match_54 (by decide) ?_
  refine g_istore (L' := [(0, .ref x0), (1, .int x1), (2, .int x2), (3, .int x3), (4, .int ((150 * x2) + (g6 x2.toNatClampNeg))), (5, .int 1)]) ok d_Mo_match_55 (by rw [hl]; decide) rfl ?_
  refine g_iconst (v := 0) ok d_Mo_match_57 (by decide) ?_
  refine g_istore (L' := [(0, .ref x0), (1, .int x1), (2, .int x2), (3, .int x3), (4, .int ((150 * x2) + (g6 x2.toNatClampNeg))), (5, .int 1), (6, .int 0)]) ok d_Mo_match_58 (by rw [hl]; decide) rfl ?_
  exact kk
theorem k_Mo_match_60 {X : gC} {M : List mC} {k n : Nat} {x0 : Nat} {x1 : Int32} {x2 : Int32} {x3 : Int32} {x4 : Int32} {x5 : Int32} {x6 : Int32} (ok : gO X c_Mo_match "TripleStoreModel" w_Mo_match)  (kt : 3 ≤ x6 → gg X M k n 206 [(0, .ref x0), (1, .int x1), (2, .int x2), (3, .int x3), (5, .int x5)] []) (kf : ¬ 3 ≤ x6 → gg X M k n 66 [(0, .ref x0), (1, .int x1), (2, .int x2), (3, .int x3), (4, .int x4), (5, .int x5), (6, .int x6)] []) : gg X M k n 60 [(0, .ref x0), (1, .int x1), (2, .int x2), (3, .int x3), (4, .int x4), (5, .int x5), (6, .int x6)] [] := by
  refine g_iload ok d_Mo_match_60 (j := 6) rfl ?_
  refine g_iconst (v := 3) ok d_Mo_match_62 (by decide) ?_
  exact g_icmp_ge (tgt := 206) ok d_Mo_match_63 (by decide) (fun z => (gg_keep [0, 1, 2, 3, 5] (kt z))) (fun z => (kf z))
theorem k_Mo_match_66 {X : gC} {M : List mC} {k n : Nat} {x0 : Nat} {x1 : Int32} {x2 : Int32} {x3 : Int32} {x4 : Int32} {x5 : Int32} {x6 : Int32} {fs2 : List Value} {f3 : Nat} {g6 : Nat → Int64} {N7 : Nat} {f9 : Nat} {g12 : Nat → Int32} {N13 : Nat} (ok : gO X c_Mo_match "TripleStoreModel" w_Mo_match) (hl : gL X = 10) (h1 : M[x0]? = some (.inr (10, fs2))) (h4 : fs2[0]? = some (.ref f3)) (h5 : M[f3]? = some (.inl (1, N7, .inr (.inl g6)))) (h8 : vp_in ((3 * x3) + x6) N7) (h10 : fs2[33]? = some (.ref f9)) (h11 : M[f9]? = some (.inl (0, N13, .inl g12))) (h14 : vp_in (x1 + x6) N13) (kt : 0 ≤ (g12 (x1 + x6).toNatClampNeg) → gg X M k n 123 [(0, .ref x0), (1, .int x1), (2, .int x2), (3, .int x3), (4, .int x4), (5, .int x5), (6, .int x6), (7, .long (g6 ((3 * x3) + x6).toNatClampNeg)), (9, .int (g12 (x1 + x6).toNatClampNeg))] []) (kf : ¬ 0 ≤ (g12 (x1 + x6).toNatClampNeg) → gg X M k n 95 [(0, .ref x0), (1, .int x1), (2, .int x2), (3, .int x3), (4, .int x4), (5, .int x5), (6, .int x6), (7, .long (g6 ((3 * x3) + x6).toNatClampNeg))] []) : gg X M k n 66 [(0, .ref x0), (1, .int x1), (2, .int x2), (3, .int x3), (4, .int x4), (5, .int x5), (6, .int x6)] [] := by
  refine g_aload_n ok d_Mo_match_66 rfl (j := 0) rfl ?_
  refine gf_Mo_7 ok d_Mo_match_67 h1 h4 ?_
  refine g_iconst (v := 3) ok d_Mo_match_70 (by decide) ?_
  refine g_iload_n ok d_Mo_match_71 rfl (j := 3) rfl ?_
  refine g_imul ok d_Mo_match_72 ?_
  refine g_iload ok d_Mo_match_73 (j := 6) rfl ?_
  refine g_iadd ok d_Mo_match_75 ?_
  refine g_lald (t := 1) ok rfl d_Mo_match_76 h5 h8 ?_
  refine g_lstore (L' := [(0, .ref x0), (1, .int x1), (2, .int x2), (3, .int x3), (4, .int x4), (5, .int x5), (6, .int x6), (7, .long (g6 ((3 * x3) + x6).toNatClampNeg))]) ok d_Mo_match_77 (by rw [hl]; decide) rfl ?_
  refine g_aload_n ok d_Mo_match_79 rfl (j := 0) rfl ?_
  refine gf_Mo_49 ok d_Mo_match_80 h1 h10 ?_
  refine g_iload_n ok d_Mo_match_83 rfl (j := 1) rfl ?_
  refine g_iload ok d_Mo_match_84 (j := 6) rfl ?_
  refine g_iadd ok d_Mo_match_86 ?_
  refine g_iald (t := 0) ok rfl d_Mo_match_87 h11 h14 ?_
  refine g_istore (L' := [(0, .ref x0), (1, .int x1), (2, .int x2), (3, .int x3), (4, .int x4), (5, .int x5), (6, .int x6), (7, .long (g6 ((3 * x3) + x6).toNatClampNeg)), (9, .int (g12 (x1 + x6).toNatClampNeg))]) ok d_Mo_match_88 (by rw [hl]; decide) rfl ?_
  refine g_iload ok d_Mo_match_90 (j := 8) rfl ?_
  exact g_if_ge (tgt := 123) ok d_Mo_match_92 (by decide) (fun z => (kt z)) (fun z => (gg_keep [0, 1, 2, 3, 4, 5, 6, 7] (kf z)))
theorem k_Mo_match_95 {X : gC} {M : List mC} {k n : Nat} {x0 : Nat} {x1 : Int32} {x2 : Int32} {x3 : Int32} {x4 : Int32} {x5 : Int32} {x6 : Int32} {x7 : Int64} {fs2 : List Value} {f3 : Nat} {g6 : Nat → Int64} {N7 : Nat} (ok : gO X c_Mo_match "TripleStoreModel" w_Mo_match) (h1 : M[x0]? = some (.inr (10, fs2))) (h4 : fs2[34]? = some (.ref f3)) (h5 : M[f3]? = some (.inl (1, N7, .inr (.inl g6)))) (h8 : vp_in (x1 + x6) N7) (kt : ¬ (g6 (x1 + x6).toNatClampNeg) = x7 → gg X M k n 116 [(0, .ref x0), (1, .int x1), (2, .int x2), (3, .int x3), (4, .int x4), (6, .int x6)] [.int x5]) (kf : (g6 (x1 + x6).toNatClampNeg) = x7 → gg X M k n 112 [(0, .ref x0), (1, .int x1), (2, .int x2), (3, .int x3), (4, .int x4), (6, .int x6)] [.int x5]) : gg X M k n 95 [(0, .ref x0), (1, .int x1), (2, .int x2), (3, .int x3), (4, .int x4), (5, .int x5), (6, .int x6), (7, .long x7)] [] := by
  refine g_iload ok d_Mo_match_95 (j := 5) rfl ?_
  refine g_aload_n ok d_Mo_match_97 rfl (j := 0) rfl ?_
  refine gf_Mo_52 ok d_Mo_match_98 h1 h4 ?_
  refine g_iload_n ok d_Mo_match_101 rfl (j := 1) rfl ?_
  refine g_iload ok d_Mo_match_102 (j := 6) rfl ?_
  refine g_iadd ok d_Mo_match_104 ?_
  refine g_lald (t := 1) ok rfl d_Mo_match_105 h5 h8 ?_
  refine g_lload ok d_Mo_match_106 (j := 7) rfl ?_
  exact g_lc_ne (tgt := 116) ok d_Mo_match_108 d_Mo_match_109 (by decide) (fun z => (gg_keep [0, 1, 2, 3, 4, 6] (kt z))) (fun z => (gg_keep [0, 1, 2, 3, 4, 6] (kf z)))
theorem k_Mo_match_112 {X : gC} {M : List mC} {k n : Nat} {x0 : Nat} {x1 : Int32} {x2 : Int32} {x3 : Int32} {x4 : Int32} {x6 : Int32} {s0 : Int32} (ok : gO X c_Mo_match "TripleStoreModel" w_Mo_match)  (kk : gg X M k n 117 [(0, .ref x0), (1, .int x1), (2, .int x2), (3, .int x3), (4, .int x4), (6, .int x6)] [.int 1, .int s0]) : gg X M k n 112 [(0, .ref x0), (1, .int x1), (2, .int x2), (3, .int x3), (4, .int x4), (6, .int x6)] [.int s0] := by
  refine g_iconst (v := 1) ok d_Mo_match_112 (by decide) ?_
  exact g_goto (tgt := 117) ok d_Mo_match_113 (by decide) kk
theorem k_Mo_match_116 {X : gC} {M : List mC} {k n : Nat} {x0 : Nat} {x1 : Int32} {x2 : Int32} {x3 : Int32} {x4 : Int32} {x6 : Int32} {s0 : Int32} (ok : gO X c_Mo_match "TripleStoreModel" w_Mo_match)  (kk : gg X M k n 117 [(0, .ref x0), (1, .int x1), (2, .int x2), (3, .int x3), (4, .int x4), (6, .int x6)] [.int 0, .int s0]) : gg X M k n 116 [(0, .ref x0), (1, .int x1), (2, .int x2), (3, .int x3), (4, .int x4), (6, .int x6)] [.int s0] := by
  refine g_iconst (v := 0) ok d_Mo_match_116 (by decide) ?_
  exact kk
theorem k_Mo_match_117 {X : gC} {M : List mC} {k n : Nat} {x0 : Nat} {x1 : Int32} {x2 : Int32} {x3 : Int32} {x4 : Int32} {x6 : Int32} {s0 : Int32} {s1 : Int32} (ok : gO X c_Mo_match "TripleStoreModel" w_Mo_match) (hl : gL X = 10)  (kk : gg X M k n 200 [(0, .ref x0), (1, .int x1), (2, .int x2), (3, .int x3), (4, .int x4), (5, .int (s0 &&& s1)), (6, .int x6)] []) : gg X M k n 117 [(0, .ref x0), (1, .int x1), (2, .int x2), (3, .int x3), (4, .int x4), (6, .int x6)] [.int s1, .int s0] := by
  refine g_iand ok d_Mo_match_117 ?_
  refine g_istore (L' := [(0, .ref x0), (1, .int x1), (2, .int x2), (3, .int x3), (4, .int x4), (5, .int (s0 &&& s1)), (6, .int x6)]) ok d_Mo_match_118 (by rw [hl]; decide) rfl ?_
  exact g_goto (tgt := 200) ok d_Mo_match_120 (by decide) kk
theorem k_Mo_match_123 {X : gC} {M : List mC} {k n : Nat} {x0 : Nat} {x1 : Int32} {x2 : Int32} {x3 : Int32} {x4 : Int32} {x5 : Int32} {x6 : Int32} {x7 : Int64} {x9 : Int32} {fs2 : List Value} {f3 : Nat} {g6 : Nat → Int32} {N7 : Nat} (ok : gO X c_Mo_match "TripleStoreModel" w_Mo_match) (h1 : M[x0]? = some (.inr (10, fs2))) (h4 : fs2[48]? = some (.ref f3)) (h5 : M[f3]? = some (.inl (0, N7, .inl g6))) (h8 : vp_in x4 N7) (kt : ¬ (((g6 x4.toNatClampNeg) >>> (x9 &&& 31)) &&& 1) = 1 → gg X M k n 171 [(0, .ref x0), (1, .int x1), (2, .int x2), (3, .int x3), (4, .int x4), (5, .int x5), (6, .int x6), (7, .long x7), (9, .int x9)] []) (kf : (((g6 x4.toNatClampNeg) >>> (x9 &&& 31)) &&& 1) = 1 → gg X M k n 139 [(0, .ref x0), (1, .int x1), (2, .int x2), (3, .int x3), (4, .int x4), (5, .int x5), (6, .int x6), (7, .long x7), (9, .int x9)] []) : gg X M k n 123 [(0, .ref x0), (1, .int x1), (2, .int x2), (3, .int x3), (4, .int x4), (5, .int x5), (6, .int x6), (7, .long x7), (9, .int x9)] [] := by
  refine g_aload_n ok d_Mo_match_123 rfl (j := 0) rfl ?_
  refine gf_Mo_73 ok d_Mo_match_124 h1 h4 ?_
  refine g_iload ok d_Mo_match_127 (j := 4) rfl ?_
  refine g_iald (t := 0) ok rfl d_Mo_match_129 h5 h8 ?_
  refine g_iload ok d_Mo_match_130 (j := 8) rfl ?_
  refine g_ishr ok d_Mo_match_132 ?_
  refine g_iconst (v := 1) ok d_Mo_match_133 (by decide) ?_
  refine g_iand ok d_Mo_match_134 ?_
  refine g_iconst (v := 1) ok d_Mo_match_135 (by decide) ?_
  exact g_icmp_ne (tgt := 171) ok d_Mo_match_136 (by decide) (fun z => (kt z)) (fun z => (kf z))
theorem k_Mo_match_139 {X : gC} {M : List mC} {k n : Nat} {x0 : Nat} {x1 : Int32} {x2 : Int32} {x3 : Int32} {x4 : Int32} {x5 : Int32} {x6 : Int32} {x7 : Int64} {x9 : Int32} {fs2 : List Value} {f3 : Nat} {g6 : Nat → Int64} {N7 : Nat} (ok : gO X c_Mo_match "TripleStoreModel" w_Mo_match) (h1 : M[x0]? = some (.inr (10, fs2))) (h4 : fs2[47]? = some (.ref f3)) (h5 : M[f3]? = some (.inl (1, N7, .inr (.inl g6)))) (h8 : vp_in ((6 * x4) + x9) N7) (kt : ¬ (g6 ((6 * x4) + x9).toNatClampNeg) = x7 → gg X M k n 164 [(0, .ref x0), (1, .int x1), (2, .int x2), (3, .int x3), (4, .int x4), (6, .int x6)] [.int x5]) (kf : (g6 ((6 * x4) + x9).toNatClampNeg) = x7 → gg X M k n 160 [(0, .ref x0), (1, .int x1), (2, .int x2), (3, .int x3), (4, .int x4), (6, .int x6)] [.int x5]) : gg X M k n 139 [(0, .ref x0), (1, .int x1), (2, .int x2), (3, .int x3), (4, .int x4), (5, .int x5), (6, .int x6), (7, .long x7), (9, .int x9)] [] := by
  refine g_iload ok d_Mo_match_139 (j := 5) rfl ?_
  refine g_aload_n ok d_Mo_match_141 rfl (j := 0) rfl ?_
  refine gf_Mo_70 ok d_Mo_match_142 h1 h4 ?_
  refine g_bipush (v := 6) ok d_Mo_match_145 (by decide) ?_
  refine g_iload ok d_Mo_match_147 (j := 4) rfl ?_
  refine g_imul ok d_Mo_match_149 ?_
  refine g_iload ok d_Mo_match_150 (j := 8) rfl ?_
  refine g_iadd ok d_Mo_match_152 ?_
  refine g_lald (t := 1) ok rfl d_Mo_match_153 h5 h8 ?_
  refine g_lload ok d_Mo_match_154 (j := 7) rfl ?_
  exact g_lc_ne (tgt := 164) ok d_Mo_match_156 d_Mo_match_157 (by decide) (fun z => (gg_keep [0, 1, 2, 3, 4, 6] (kt z))) (fun z => (gg_keep [0, 1, 2, 3, 4, 6] (kf z)))
theorem k_Mo_match_160 {X : gC} {M : List mC} {k n : Nat} {x0 : Nat} {x1 : Int32} {x2 : Int32} {x3 : Int32} {x4 : Int32} {x6 : Int32} {s0 : Int32} (ok : gO X c_Mo_match "TripleStoreModel" w_Mo_match)  (kk : gg X M k n 165 [(0, .ref x0), (1, .int x1), (2, .int x2), (3, .int x3), (4, .int x4), (6, .int x6)] [.int 1, .int s0]) : gg X M k n 160 [(0, .ref x0), (1, .int x1), (2, .int x2), (3, .int x3), (4, .int x4), (6, .int x6)] [.int s0] := by
  refine g_iconst (v := 1) ok d_Mo_match_160 (by decide) ?_
  exact g_goto (tgt := 165) ok d_Mo_match_161 (by decide) kk
theorem k_Mo_match_164 {X : gC} {M : List mC} {k n : Nat} {x0 : Nat} {x1 : Int32} {x2 : Int32} {x3 : Int32} {x4 : Int32} {x6 : Int32} {s0 : Int32} (ok : gO X c_Mo_match "TripleStoreModel" w_Mo_match)  (kk : gg X M k n 165 [(0, .ref x0), (1, .int x1), (2, .int x2), (3, .int x3), (4, .int x4), (6, .int x6)] [.int 0, .int s0]) : gg X M k n 164 [(0, .ref x0), (1, .int x1), (2, .int x2), (3, .int x3), (4, .int x4), (6, .int x6)] [.int s0] := by
  refine g_iconst (v := 0) ok d_Mo_match_164 (by decide) ?_
  exact kk
theorem k_Mo_match_165 {X : gC} {M : List mC} {k n : Nat} {x0 : Nat} {x1 : Int32} {x2 : Int32} {x3 : Int32} {x4 : Int32} {x6 : Int32} {s0 : Int32} {s1 : Int32} (ok : gO X c_Mo_match "TripleStoreModel" w_Mo_match) (hl : gL X = 10)  (kk : gg X M k n 200 [(0, .ref x0), (1, .int x1), (2, .int x2), (3, .int x3), (4, .int x4), (5, .int (s0 &&& s1)), (6, .int x6)] []) : gg X M k n 165 [(0, .ref x0), (1, .int x1), (2, .int x2), (3, .int x3), (4, .int x4), (6, .int x6)] [.int s1, .int s0] := by
  refine g_iand ok d_Mo_match_165 ?_
  refine g_istore (L' := [(0, .ref x0), (1, .int x1), (2, .int x2), (3, .int x3), (4, .int x4), (5, .int (s0 &&& s1)), (6, .int x6)]) ok d_Mo_match_166 (by rw [hl]; decide) rfl ?_
  exact g_goto (tgt := 200) ok d_Mo_match_168 (by decide) kk
theorem k_Mo_match_171 {X : gC} {M : List mC} {k n : Nat} {x0 : Nat} {x1 : Int32} {x2 : Int32} {x3 : Int32} {x4 : Int32} {x5 : Int32} {x6 : Int32} {x7 : Int64} {x9 : Int32} {fs2 : List Value} {f3 : Nat} {g6 : Nat → Int32} {N7 : Nat} {M10 : List mC} {f14 : Nat} {g17 : Nat → Int64} {N18 : Nat} {M22 : List mC} (ok : gO X c_Mo_match "TripleStoreModel" w_Mo_match) (h1 : M[x0]? = some (.inr (10, fs2))) (h4 : fs2[48]? = some (.ref f3)) (h5 : M[f3]? = some (.inl (0, N7, .inl g6))) (h8 : vp_in x4 N7) (h9 : vp_in x4 N7) (h11 : M.set f3 (.inl (0, N7, .inl (upd g6 x4.toNatClampNeg ((g6 x4.toNatClampNeg) ||| (1 <<< (x9 &&& 31)))))) = M10) (h15 : fs2[47]? = some (.ref f14)) (h16 : M[f14]? = some (.inl (1, N18, .inr (.inl g17)))) (h20 : f14 ≠ f3) (h21 : vp_in ((6 * x4) + x9) N18) (h23 : M10.set f14 (.inl (1, N18, .inr (.inl (vp_updL g17 ((6 * x4) + x9).toNatClampNeg x7)))) = M22) (kk : gg X M22 k n 200 [(0, .ref x0), (1, .int x1), (2, .int x2), (3, .int x3), (4, .int x4), (5, .int x5), (6, .int x6)] []) : gg X M k n 171 [(0, .ref x0), (1, .int x1), (2, .int x2), (3, .int x3), (4, .int x4), (5, .int x5), (6, .int x6), (7, .long x7), (9, .int x9)] [] := by
  refine g_aload_n ok d_Mo_match_171 rfl (j := 0) rfl ?_
  refine gf_Mo_73 ok d_Mo_match_172 h1 h4 ?_
  refine g_iload ok d_Mo_match_175 (j := 4) rfl ?_
  refine g_dup2_11 ok d_Mo_match_177 rfl rfl ?_
  refine g_iald (t := 0) ok rfl d_Mo_match_178 h5 h8 ?_
  refine g_iconst (v := 1) ok d_Mo_match_179 (by decide) ?_
  refine g_iload ok d_Mo_match_180 (j := 8) rfl ?_
  refine g_ishl ok d_Mo_match_182 ?_
  refine g_ior ok d_Mo_match_183 ?_
  refine g_iast (t := 0) ok rfl d_Mo_match_184 h5 h9 ?_
  rw [h11]
  have h12 : M10[f3]? = some (.inl (0, N7, .inl (upd g6 x4.toNatClampNeg ((g6 x4.toNatClampNeg) ||| (1 <<< (x9 &&& 31)))))) := by rw [← h11]; exact gs_eq h5
  refine g_aload_n ok d_Mo_match_185 rfl (j := 0) rfl ?_
  have h13 : M10[x0]? = some (.inr (10, fs2)) := by rw [← h11]; exact (gs_ne (ne_ao h5 h1)).trans h1
  refine gf_Mo_70 ok d_Mo_match_186 h13 h15 ?_
  refine g_bipush (v := 6) ok d_Mo_match_189 (by decide) ?_
  refine g_iload ok d_Mo_match_191 (j := 4) rfl ?_
  refine g_imul ok d_Mo_match_193 ?_
  refine g_iload ok d_Mo_match_194 (j := 8) rfl ?_
  refine g_iadd ok d_Mo_match_196 ?_
  refine g_lload ok d_Mo_match_197 (j := 7) rfl ?_
  have h19 : M10[f14]? = some (.inl (1, N18, .inr (.inl g17))) := by rw [← h11]; exact (gs_ne (Ne.symm h20)).trans h16
  refine g_last (t := 1) ok rfl d_Mo_match_199 h19 h21 ?_
  rw [h23]
  have h24 : M22[f14]? = some (.inl (1, N18, .inr (.inl (vp_updL g17 ((6 * x4) + x9).toNatClampNeg x7)))) := by rw [← h23]; exact gs_eq h19
  exact (gg_keep [0, 1, 2, 3, 4, 5, 6] kk)
theorem k_Mo_match_200 {X : gC} {M : List mC} {k n : Nat} {x0 : Nat} {x1 : Int32} {x2 : Int32} {x3 : Int32} {x4 : Int32} {x5 : Int32} {x6 : Int32} (ok : gO X c_Mo_match "TripleStoreModel" w_Mo_match) (hl : gL X = 10)  (kk : gg X M k n 60 [(0, .ref x0), (1, .int x1), (2, .int x2), (3, .int x3), (4, .int x4), (5, .int x5), (6, .int (x6 + 1))] []) : gg X M k n 200 [(0, .ref x0), (1, .int x1), (2, .int x2), (3, .int x3), (4, .int x4), (5, .int x5), (6, .int x6)] [] := by
  refine g_iinc (L' := [(0, .ref x0), (1, .int x1), (2, .int x2), (3, .int x3), (4, .int x4), (5, .int x5), (6, .int (x6 + 1))]) (v := (x6 + 1)) ok d_Mo_match_200 (j := 6) rfl rfl (by rw [hl]; decide) rfl ?_
  exact g_goto (tgt := 60) ok d_Mo_match_203 (by decide) kk
theorem k_Mo_match_206 {X : gC} {M : List mC} {k n : Nat} {x0 : Nat} {x1 : Int32} {x2 : Int32} {x3 : Int32} {x5 : Int32} (ok : gO X c_Mo_match "TripleStoreModel" w_Mo_match)  (kt : x5 = 0 → gg X M k n 221 [(0, .ref x0), (1, .int x1), (2, .int x2), (3, .int x3)] []) (kf : ¬ x5 = 0 → gg X M k n 211 [(0, .ref x0), (1, .int x1), (2, .int x2), (3, .int x3)] []) : gg X M k n 206 [(0, .ref x0), (1, .int x1), (2, .int x2), (3, .int x3), (5, .int x5)] [] := by
  refine g_iload ok d_Mo_match_206 (j := 4) rfl ?_
  exact g_if_eq (tgt := 221) ok d_Mo_match_208 (by decide) (fun z => (gg_keep [0, 1, 2, 3] (kt z))) (fun z => (gg_keep [0, 1, 2, 3] (kf z)))
theorem k_Mo_match_211 {X : gC} {M : List mC} {k n : Nat} {x0 : Nat} {x1 : Int32} {x2 : Int32} {x3 : Int32} {fs2 : List Value} {f3 : Nat} {g6 : Nat → Int32} {N7 : Nat} {M10 : List mC} (ok : gO X c_Mo_match "TripleStoreModel" w_Mo_match) (h1 : M[x0]? = some (.inr (10, fs2))) (h4 : fs2[49]? = some (.ref f3)) (h5 : M[f3]? = some (.inl (0, N7, .inl g6))) (h8 : vp_in x2 N7) (h9 : vp_in x2 N7) (h11 : M.set f3 (.inl (0, N7, .inl (upd g6 x2.toNatClampNeg ((g6 x2.toNatClampNeg) + 1)))) = M10) (kk : gg X M10 k n 221 [(0, .ref x0), (1, .int x1), (2, .int x2), (3, .int x3)] []) : gg X M k n 211 [(0, .ref x0), (1, .int x1), (2, .int x2), (3, .int x3)] [] := by
  refine g_aload_n ok d_Mo_match_211 rfl (j := 0) rfl ?_
  refine gf_Mo_76 ok d_Mo_match_212 h1 h4 ?_
  refine g_iload_n ok d_Mo_match_215 rfl (j := 2) rfl ?_
  refine g_dup2_11 ok d_Mo_match_216 rfl rfl ?_
  refine g_iald (t := 0) ok rfl d_Mo_match_217 h5 h8 ?_
  refine g_iconst (v := 1) ok d_Mo_match_218 (by decide) ?_
  refine g_iadd ok d_Mo_match_219 ?_
  refine g_iast (t := 0) ok rfl d_Mo_match_220 h5 h9 ?_
  rw [h11]
  have h12 : M10[f3]? = some (.inl (0, N7, .inl (upd g6 x2.toNatClampNeg ((g6 x2.toNatClampNeg) + 1)))) := by rw [← h11]; exact gs_eq h5
  exact kk
theorem k_Mo_match_221 {X : gC} {M : List mC} {k n : Nat} {x0 : Nat} {x1 : Int32} {x2 : Int32} {x3 : Int32} (ok : gO X c_Mo_match "TripleStoreModel" w_Mo_match) (hl : gL X = 10)  (kk : gg X M k n 24 [(0, .ref x0), (1, .int x1), (2, .int x2), (3, .int (x3 + 1))] []) : gg X M k n 221 [(0, .ref x0), (1, .int x1), (2, .int x2), (3, .int x3)] [] := by
  refine g_iinc (L' := [(0, .ref x0), (1, .int x1), (2, .int x2), (3, .int (x3 + 1))]) (v := (x3 + 1)) ok d_Mo_match_221 (j := 3) rfl rfl (by rw [hl]; decide) rfl ?_
  exact g_goto (tgt := 24) ok d_Mo_match_224 (by decide) kk
theorem k_Mo_match_227 {X : gC} {M : List mC} {k n : Nat}  (ok : gO X c_Mo_match "TripleStoreModel" w_Mo_match)  {l9 : Launch} {rm : Room} {M0 : List mC} {post : Option Value → List mC → Prop} (E : gE X l9 y_Mo_match rm 10 none M0 post) (hp : post (none) M) (hk : k ≤ rm.cells) (hn : n ≤ rm.slots) : gg X M k n 227 [] [] := by
  exact g_vret ok E d_Mo_match_227 hp hk hn
theorem k_Mo_holds_0 {X : gC} {M : List mC} {k n : Nat} {x0 : Nat} {x1 : Int32} {x2 : Int32} {fs2 : List Value} {f3 : Nat} {g6 : Nat → Int32} {N7 : Nat} (ok : gO X c_Mo_holds "TripleStoreModel" w_Mo_holds) (hl : gL X = 7) (h1 : M[x0]? = some (.inr (10, fs2))) (h4 : fs2[33]? = some (.ref f3)) (h5 : M[f3]? = some (.inl (0, N7, .inl g6))) (h8 : vp_in (60 + (2 * x1)) N7) (kt : (g6 (60 + (2 * x1)).toNatClampNeg) < 0 → gg X M k n 35 [(0, .ref x0), (1, .int x1), (2, .int x2), (3, .int (60 + (2 * x1)))] []) (kf : ¬ (g6 (60 + (2 * x1)).toNatClampNeg) < 0 → gg X M k n 16 [(0, .ref x0), (1, .int x1), (2, .int x2), (3, .int (60 + (2 * x1)))] []) : gg X M k n 0 [(0, .ref x0), (1, .int x1), (2, .int x2)] [] := by
  refine g_bipush (v := 60) ok d_Mo_holds_0 (by decide) ?_
  refine g_iconst (v := 2) ok d_Mo_holds_2 (by decide) ?_
  refine g_iload_n ok d_Mo_holds_3 rfl (j := 1) rfl ?_
  refine g_imul ok d_Mo_holds_4 ?_
  refine g_iadd ok d_Mo_holds_5 ?_
  refine g_istore_n (L' := [(0, .ref x0), (1, .int x1), (2, .int x2), (3, .int (60 + (2 * x1)))]) ok d_Mo_holds_6 rfl (by rw [hl]; decide) rfl ?_
  refine g_aload_n ok d_Mo_holds_7 rfl (j := 0) rfl ?_
  refine gf_Mo_49 ok d_Mo_holds_8 h1 h4 ?_
  refine g_iload_n ok d_Mo_holds_11 rfl (j := 3) rfl ?_
  refine g_iald (t := 0) ok rfl d_Mo_holds_12 h5 h8 ?_
  exact g_if_lt (tgt := 35) ok d_Mo_holds_13 (by decide) (fun z => (kt z)) (fun z => (kf z))
theorem k_Mo_holds_16 {X : gC} {M : List mC} {k n : Nat} {x0 : Nat} {x1 : Int32} {x2 : Int32} {x3 : Int32} {fs2 : List Value} {f3 : Nat} {g6 : Nat → Int32} {N7 : Nat} {f9 : Nat} {g12 : Nat → Int32} {N13 : Nat} (ok : gO X c_Mo_holds "TripleStoreModel" w_Mo_holds) (h1 : M[x0]? = some (.inr (10, fs2))) (h4 : fs2[48]? = some (.ref f3)) (h5 : M[f3]? = some (.inl (0, N7, .inl g6))) (h8 : vp_in x2 N7) (h10 : fs2[33]? = some (.ref f9)) (h11 : M[f9]? = some (.inl (0, N13, .inl g12))) (h14 : vp_in x3 N13) (kt : ¬ (((g6 x2.toNatClampNeg) >>> ((g12 x3.toNatClampNeg) &&& 31)) &&& 1) = 1 → gg X M k n 39 [(0, .ref x0), (1, .int x1), (2, .int x2), (3, .int x3)] []) (kf : (((g6 x2.toNatClampNeg) >>> ((g12 x3.toNatClampNeg) &&& 31)) &&& 1) = 1 → gg X M k n 35 [(0, .ref x0), (1, .int x1), (2, .int x2), (3, .int x3)] []) : gg X M k n 16 [(0, .ref x0), (1, .int x1), (2, .int x2), (3, .int x3)] [] := by
  refine g_aload_n ok d_Mo_holds_16 rfl (j := 0) rfl ?_
  refine gf_Mo_73 ok d_Mo_holds_17 h1 h4 ?_
  refine g_iload_n ok d_Mo_holds_20 rfl (j := 2) rfl ?_
  refine g_iald (t := 0) ok rfl d_Mo_holds_21 h5 h8 ?_
  refine g_aload_n ok d_Mo_holds_22 rfl (j := 0) rfl ?_
  refine gf_Mo_49 ok d_Mo_holds_23 h1 h10 ?_
  refine g_iload_n ok d_Mo_holds_26 rfl (j := 3) rfl ?_
  refine g_iald (t := 0) ok rfl d_Mo_holds_27 h11 h14 ?_
  refine g_ishr ok d_Mo_holds_28 ?_
  refine g_iconst (v := 1) ok d_Mo_holds_29 (by decide) ?_
  refine g_iand ok d_Mo_holds_30 ?_
  refine g_iconst (v := 1) ok d_Mo_holds_31 (by decide) ?_
  exact g_icmp_ne (tgt := 39) ok d_Mo_holds_32 (by decide) (fun z => (kt z)) (fun z => (kf z))
theorem k_Mo_holds_35 {X : gC} {M : List mC} {k n : Nat} {x0 : Nat} {x1 : Int32} {x2 : Int32} {x3 : Int32} (ok : gO X c_Mo_holds "TripleStoreModel" w_Mo_holds)  (kk : gg X M k n 40 [(0, .ref x0), (1, .int x1), (2, .int x2), (3, .int x3)] [.int 1]) : gg X M k n 35 [(0, .ref x0), (1, .int x1), (2, .int x2), (3, .int x3)] [] := by
  refine g_iconst (v := 1) ok d_Mo_holds_35 (by decide) ?_
  exact g_goto (tgt := 40) ok d_Mo_holds_36 (by decide) kk
theorem k_Mo_holds_39 {X : gC} {M : List mC} {k n : Nat} {x0 : Nat} {x1 : Int32} {x2 : Int32} {x3 : Int32} (ok : gO X c_Mo_holds "TripleStoreModel" w_Mo_holds)  (kk : gg X M k n 40 [(0, .ref x0), (1, .int x1), (2, .int x2), (3, .int x3)] [.int 0]) : gg X M k n 39 [(0, .ref x0), (1, .int x1), (2, .int x2), (3, .int x3)] [] := by
  refine g_iconst (v := 0) ok d_Mo_holds_39 (by decide) ?_
  exact kk
theorem k_Mo_holds_40 {X : gC} {M : List mC} {k n : Nat} {x0 : Nat} {x1 : Int32} {x2 : Int32} {x3 : Int32} {s0 : Int32} {fs2 : List Value} {f3 : Nat} {g6 : Nat → Int32} {N7 : Nat} (ok : gO X c_Mo_holds "TripleStoreModel" w_Mo_holds) (hl : gL X = 7) (h1 : M[x0]? = some (.inr (10, fs2))) (h4 : fs2[37]? = some (.ref f3)) (h5 : M[f3]? = some (.inl (0, N7, .inl g6))) (h8 : vp_in x1 N7) (kt : ¬ (g6 x1.toNatClampNeg) = 98 → gg X M k n 56 [(0, .ref x0), (1, .int x1), (2, .int x2), (3, .int x3), (4, .int s0)] []) (kf : (g6 x1.toNatClampNeg) = 98 → gg X M k n 53 [(4, .int s0)] []) : gg X M k n 40 [(0, .ref x0), (1, .int x1), (2, .int x2), (3, .int x3)] [.int s0] := by
  refine g_istore (L' := [(0, .ref x0), (1, .int x1), (2, .int x2), (3, .int x3), (4, .int s0)]) ok d_Mo_holds_40 (by rw [hl]; decide) rfl ?_
  refine g_aload_n ok d_Mo_holds_42 rfl (j := 0) rfl ?_
  refine gf_Mo_58 ok d_Mo_holds_43 h1 h4 ?_
  refine g_iload_n ok d_Mo_holds_46 rfl (j := 1) rfl ?_
  refine g_iald (t := 0) ok rfl d_Mo_holds_47 h5 h8 ?_
  refine g_bipush (v := 98) ok d_Mo_holds_48 (by decide) ?_
  exact g_icmp_ne (tgt := 56) ok d_Mo_holds_50 (by decide) (fun z => (kt z)) (fun z => (gg_keep [4] (kf z)))
theorem k_Mo_holds_53 {X : gC} {M : List mC} {k n : Nat} {x4 : Int32} (ok : gO X c_Mo_holds "TripleStoreModel" w_Mo_holds)  {l9 : Launch} {rm : Room} {M0 : List mC} {post : Option Value → List mC → Prop} (E : gE X l9 y_Mo_holds rm 7 (some .boolean) M0 post) (hz : narrow .boolean (.int x4) = .int x4) (hp : post (some (.int x4)) M) (hk : k ≤ rm.cells) (hn : n ≤ rm.slots) : gg X M k n 53 [(4, .int x4)] [] := by
  refine g_iload ok d_Mo_holds_53 (j := 0) rfl ?_
  exact g_zret ok E d_Mo_holds_55 hz hp hk hn
theorem k_Mo_holds_56 {X : gC} {M : List mC} {k n : Nat} {x0 : Nat} {x1 : Int32} {x2 : Int32} {x3 : Int32} {x4 : Int32} {fs2 : List Value} {f3 : Nat} {g6 : Nat → Int32} {N7 : Nat} (ok : gO X c_Mo_holds "TripleStoreModel" w_Mo_holds) (h1 : M[x0]? = some (.inr (10, fs2))) (h4 : fs2[33]? = some (.ref f3)) (h5 : M[f3]? = some (.inl (0, N7, .inl g6))) (h8 : vp_in (x3 + 1) N7) (kt : (g6 (x3 + 1).toNatClampNeg) < 0 → gg X M k n 88 [(0, .ref x0), (1, .int x1), (2, .int x2), (3, .int x3), (4, .int x4)] []) (kf : ¬ (g6 (x3 + 1).toNatClampNeg) < 0 → gg X M k n 67 [(0, .ref x0), (1, .int x1), (2, .int x2), (3, .int x3), (4, .int x4)] []) : gg X M k n 56 [(0, .ref x0), (1, .int x1), (2, .int x2), (3, .int x3), (4, .int x4)] [] := by
  refine g_aload_n ok d_Mo_holds_56 rfl (j := 0) rfl ?_
  refine gf_Mo_49 ok d_Mo_holds_57 h1 h4 ?_
  refine g_iload_n ok d_Mo_holds_60 rfl (j := 3) rfl ?_
  refine g_iconst (v := 1) ok d_Mo_holds_61 (by decide) ?_
  refine g_iadd ok d_Mo_holds_62 ?_
  refine g_iald (t := 0) ok rfl d_Mo_holds_63 h5 h8 ?_
  exact g_if_lt (tgt := 88) ok d_Mo_holds_64 (by decide) (fun z => (kt z)) (fun z => (kf z))
theorem k_Mo_holds_67 {X : gC} {M : List mC} {k n : Nat} {x0 : Nat} {x1 : Int32} {x2 : Int32} {x3 : Int32} {x4 : Int32} {fs2 : List Value} {f3 : Nat} {g6 : Nat → Int32} {N7 : Nat} {f9 : Nat} {g12 : Nat → Int32} {N13 : Nat} (ok : gO X c_Mo_holds "TripleStoreModel" w_Mo_holds) (h1 : M[x0]? = some (.inr (10, fs2))) (h4 : fs2[48]? = some (.ref f3)) (h5 : M[f3]? = some (.inl (0, N7, .inl g6))) (h8 : vp_in x2 N7) (h10 : fs2[33]? = some (.ref f9)) (h11 : M[f9]? = some (.inl (0, N13, .inl g12))) (h14 : vp_in (x3 + 1) N13) (kt : ¬ (((g6 x2.toNatClampNeg) >>> ((g12 (x3 + 1).toNatClampNeg) &&& 31)) &&& 1) = 1 → gg X M k n 92 [(0, .ref x0), (1, .int x1), (2, .int x2), (3, .int x3), (4, .int x4)] []) (kf : (((g6 x2.toNatClampNeg) >>> ((g12 (x3 + 1).toNatClampNeg) &&& 31)) &&& 1) = 1 → gg X M k n 88 [(0, .ref x0), (1, .int x1), (2, .int x2), (3, .int x3), (4, .int x4)] []) : gg X M k n 67 [(0, .ref x0), (1, .int x1), (2, .int x2), (3, .int x3), (4, .int x4)] [] := by
  refine g_aload_n ok d_Mo_holds_67 rfl (j := 0) rfl ?_
  refine gf_Mo_73 ok d_Mo_holds_68 h1 h4 ?_
  refine g_iload_n ok d_Mo_holds_71 rfl (j := 2) rfl ?_
  refine g_iald (t := 0) ok rfl d_Mo_holds_72 h5 h8 ?_
  refine g_aload_n ok d_Mo_holds_73 rfl (j := 0) rfl ?_
  refine gf_Mo_49 ok d_Mo_holds_74 h1 h10 ?_
  refine g_iload_n ok d_Mo_holds_77 rfl (j := 3) rfl ?_
  refine g_iconst (v := 1) ok d_Mo_holds_78 (by decide) ?_
  refine g_iadd ok d_Mo_holds_79 ?_
  refine g_iald (t := 0) ok rfl d_Mo_holds_80 h11 h14 ?_
  refine g_ishr ok d_Mo_holds_81 ?_
  refine g_iconst (v := 1) ok d_Mo_holds_82 (by decide) ?_
  refine g_iand ok d_Mo_holds_83 ?_
  refine g_iconst (v := 1) ok d_Mo_holds_84 (by decide) ?_
  exact g_icmp_ne (tgt := 92) ok d_Mo_holds_85 (by decide) (fun z => (kt z)) (fun z => (kf z))
theorem k_Mo_holds_88 {X : gC} {M : List mC} {k n : Nat} {x0 : Nat} {x1 : Int32} {x2 : Int32} {x3 : Int32} {x4 : Int32} (ok : gO X c_Mo_holds "TripleStoreModel" w_Mo_holds)  (kk : gg X M k n 93 [(0, .ref x0), (1, .int x1), (2, .int x2), (3, .int x3), (4, .int x4)] [.int 1]) : gg X M k n 88 [(0, .ref x0), (1, .int x1), (2, .int x2), (3, .int x3), (4, .int x4)] [] := by
  refine g_iconst (v := 1) ok d_Mo_holds_88 (by decide) ?_
  exact g_goto (tgt := 93) ok d_Mo_holds_89 (by decide) kk
theorem k_Mo_holds_92 {X : gC} {M : List mC} {k n : Nat} {x0 : Nat} {x1 : Int32} {x2 : Int32} {x3 : Int32} {x4 : Int32} (ok : gO X c_Mo_holds "TripleStoreModel" w_Mo_holds)  (kk : gg X M k n 93 [(0, .ref x0), (1, .int x1), (2, .int x2), (3, .int x3), (4, .int x4)] [.int 0]) : gg X M k n 92 [(0, .ref x0), (1, .int x1), (2, .int x2), (3, .int x3), (4, .int x4)] [] := by
  refine g_iconst (v := 0) ok d_Mo_holds_92 (by decide) ?_
  exact kk
theorem k_Mo_holds_93 {X : gC} {M : List mC} {k n : Nat} {x0 : Nat} {x1 : Int32} {x2 : Int32} {x3 : Int32} {x4 : Int32} {s0 : Int32} (ok : gO X c_Mo_holds "TripleStoreModel" w_Mo_holds) (hl : gL X = 7)  (kt : x4 = 0 → gg X M k n 105 [] []) (kf : ¬ x4 = 0 → gg X M k n 100 [(0, .ref x0), (1, .int x1), (2, .int x2), (3, .int x3), (5, .int s0)] []) : gg X M k n 93 [(0, .ref x0), (1, .int x1), (2, .int x2), (3, .int x3), (4, .int x4)] [.int s0] := by
  refine g_istore (L' := [(0, .ref x0), (1, .int x1), (2, .int x2), (3, .int x3), (4, .int x4), (5, .int s0)]) ok d_Mo_holds_93 (by rw [hl]; decide) rfl ?_
  refine g_iload ok d_Mo_holds_95 (j := 4) rfl ?_
  exact g_if_eq (tgt := 105) ok d_Mo_holds_97 (by decide) (fun z => (gg_keep [] (kt z))) (fun z => (gg_keep [0, 1, 2, 3, 5] (kf z)))
theorem k_Mo_holds_100 {X : gC} {M : List mC} {k n : Nat} {x0 : Nat} {x1 : Int32} {x2 : Int32} {x3 : Int32} {x5 : Int32} (ok : gO X c_Mo_holds "TripleStoreModel" w_Mo_holds)  (kt : ¬ x5 = 0 → gg X M k n 107 [(0, .ref x0), (1, .int x1), (2, .int x2), (3, .int x3)] []) (kf : x5 = 0 → gg X M k n 105 [] []) : gg X M k n 100 [(0, .ref x0), (1, .int x1), (2, .int x2), (3, .int x3), (5, .int x5)] [] := by
  refine g_iload ok d_Mo_holds_100 (j := 4) rfl ?_
  exact g_if_ne (tgt := 107) ok d_Mo_holds_102 (by decide) (fun z => (gg_keep [0, 1, 2, 3] (kt z))) (fun z => (gg_keep [] (kf z)))
theorem k_Mo_holds_105 {X : gC} {M : List mC} {k n : Nat}  (ok : gO X c_Mo_holds "TripleStoreModel" w_Mo_holds)  {l9 : Launch} {rm : Room} {M0 : List mC} {post : Option Value → List mC → Prop} (E : gE X l9 y_Mo_holds rm 7 (some .boolean) M0 post) (hp : post (some (.int 0)) M) (hk : k ≤ rm.cells) (hn : n ≤ rm.slots) : gg X M k n 105 [] [] := by
  refine g_iconst (v := 0) ok d_Mo_holds_105 (by decide) ?_
  exact g_zret ok E d_Mo_holds_106 rfl hp hk hn
theorem k_Mo_holds_107 {X : gC} {M : List mC} {k n : Nat} {x0 : Nat} {x1 : Int32} {x2 : Int32} {x3 : Int32} {fs2 : List Value} {f3 : Nat} {g6 : Nat → Int32} {N7 : Nat} (ok : gO X c_Mo_holds "TripleStoreModel" w_Mo_holds) (h1 : M[x0]? = some (.inr (10, fs2))) (h4 : fs2[33]? = some (.ref f3)) (h5 : M[f3]? = some (.inl (0, N7, .inl g6))) (h8 : vp_in x3 N7) (kt : 0 ≤ (g6 x3.toNatClampNeg) → gg X M k n 125 [(0, .ref x0), (1, .int x1), (2, .int x2), (3, .int x3)] []) (kf : ¬ 0 ≤ (g6 x3.toNatClampNeg) → gg X M k n 116 [(0, .ref x0), (1, .int x1), (2, .int x2), (3, .int x3)] []) : gg X M k n 107 [(0, .ref x0), (1, .int x1), (2, .int x2), (3, .int x3)] [] := by
  refine g_aload_n ok d_Mo_holds_107 rfl (j := 0) rfl ?_
  refine gf_Mo_49 ok d_Mo_holds_108 h1 h4 ?_
  refine g_iload_n ok d_Mo_holds_111 rfl (j := 3) rfl ?_
  refine g_iald (t := 0) ok rfl d_Mo_holds_112 h5 h8 ?_
  exact g_if_ge (tgt := 125) ok d_Mo_holds_113 (by decide) (fun z => (kt z)) (fun z => (kf z))
theorem k_Mo_holds_116 {X : gC} {M : List mC} {k n : Nat} {x0 : Nat} {x1 : Int32} {x2 : Int32} {x3 : Int32} {fs2 : List Value} {f3 : Nat} {g6 : Nat → Int64} {N7 : Nat} (ok : gO X c_Mo_holds "TripleStoreModel" w_Mo_holds) (h1 : M[x0]? = some (.inr (10, fs2))) (h4 : fs2[34]? = some (.ref f3)) (h5 : M[f3]? = some (.inl (1, N7, .inr (.inl g6)))) (h8 : vp_in x3 N7) (kk : gg X M k n 141 [(0, .ref x0), (1, .int x1), (2, .int x2), (3, .int x3)] [.long (g6 x3.toNatClampNeg)]) : gg X M k n 116 [(0, .ref x0), (1, .int x1), (2, .int x2), (3, .int x3)] [] := by
  refine g_aload_n ok d_Mo_holds_116 rfl (j := 0) rfl ?_
  refine gf_Mo_52 ok d_Mo_holds_117 h1 h4 ?_
  refine g_iload_n ok d_Mo_holds_120 rfl (j := 3) rfl ?_
  refine g_lald (t := 1) ok rfl d_Mo_holds_121 h5 h8 ?_
  exact g_goto (tgt := 141) ok d_Mo_holds_122 (by decide) kk
theorem k_Mo_holds_125 {X : gC} {M : List mC} {k n : Nat} {x0 : Nat} {x1 : Int32} {x2 : Int32} {x3 : Int32} {fs2 : List Value} {f3 : Nat} {f5 : Nat} {g8 : Nat → Int32} {N9 : Nat} {g12 : Nat → Int64} {N13 : Nat} (ok : gO X c_Mo_holds "TripleStoreModel" w_Mo_holds) (h1 : M[x0]? = some (.inr (10, fs2))) (h4 : fs2[47]? = some (.ref f3)) (h6 : fs2[33]? = some (.ref f5)) (h7 : M[f5]? = some (.inl (0, N9, .inl g8))) (h10 : vp_in x3 N9) (h11 : M[f3]? = some (.inl (1, N13, .inr (.inl g12)))) (h14 : vp_in ((6 * x2) + (g8 x3.toNatClampNeg)) N13) (kk : gg X M k n 141 [(0, .ref x0), (1, .int x1), (2, .int x2), (3, .int x3)] [.long (g12 ((6 * x2) + (g8 x3.toNatClampNeg)).toNatClampNeg)]) : gg X M k n 125 [(0, .ref x0), (1, .int x1), (2, .int x2), (3, .int x3)] [] := by
  refine g_aload_n ok d_Mo_holds_125 rfl (j := 0) rfl ?_
  refine gf_Mo_70 ok d_Mo_holds_126 h1 h4 ?_
  refine g_bipush (v := 6) ok d_Mo_holds_129 (by decide) ?_
  refine g_iload_n ok d_Mo_holds_131 rfl (j := 2) rfl ?_
  refine g_imul ok d_Mo_holds_132 ?_
  refine g_aload_n ok d_Mo_holds_133 rfl (j := 0) rfl ?_
  refine gf_Mo_49 ok d_Mo_holds_134 h1 h6 ?_
  refine g_iload_n ok d_Mo_holds_137 rfl (j := 3) rfl ?_
  refine g_iald (t := 0) ok rfl d_Mo_holds_138 h7 h10 ?_
  refine g_iadd ok d_Mo_holds_139 ?_
  refine g_lald (t := 1) ok rfl d_Mo_holds_140 h11 h14 ?_
  exact kk
theorem k_Mo_holds_141 {X : gC} {M : List mC} {k n : Nat} {x0 : Nat} {x1 : Int32} {x2 : Int32} {x3 : Int32} {s0 : Int64} {fs2 : List Value} {f3 : Nat} {g6 : Nat → Int32} {N7 : Nat} (ok : gO X c_Mo_holds "TripleStoreModel" w_Mo_holds) (h1 : M[x0]? = some (.inr (10, fs2))) (h4 : fs2[33]? = some (.ref f3)) (h5 : M[f3]? = some (.inl (0, N7, .inl g6))) (h8 : vp_in (x3 + 1) N7) (kt : 0 ≤ (g6 (x3 + 1).toNatClampNeg) → gg X M k n 163 [(0, .ref x0), (1, .int x1), (2, .int x2), (3, .int x3)] [.long s0]) (kf : ¬ 0 ≤ (g6 (x3 + 1).toNatClampNeg) → gg X M k n 152 [(0, .ref x0), (1, .int x1), (3, .int x3)] [.long s0]) : gg X M k n 141 [(0, .ref x0), (1, .int x1), (2, .int x2), (3, .int x3)] [.long s0] := by
  refine g_aload_n ok d_Mo_holds_141 rfl (j := 0) rfl ?_
  refine gf_Mo_49 ok d_Mo_holds_142 h1 h4 ?_
  refine g_iload_n ok d_Mo_holds_145 rfl (j := 3) rfl ?_
  refine g_iconst (v := 1) ok d_Mo_holds_146 (by decide) ?_
  refine g_iadd ok d_Mo_holds_147 ?_
  refine g_iald (t := 0) ok rfl d_Mo_holds_148 h5 h8 ?_
  exact g_if_ge (tgt := 163) ok d_Mo_holds_149 (by decide) (fun z => (kt z)) (fun z => (gg_keep [0, 1, 3] (kf z)))
theorem k_Mo_holds_152 {X : gC} {M : List mC} {k n : Nat} {x0 : Nat} {x1 : Int32} {x3 : Int32} {s0 : Int64} {fs2 : List Value} {f3 : Nat} {g6 : Nat → Int64} {N7 : Nat} (ok : gO X c_Mo_holds "TripleStoreModel" w_Mo_holds) (h1 : M[x0]? = some (.inr (10, fs2))) (h4 : fs2[34]? = some (.ref f3)) (h5 : M[f3]? = some (.inl (1, N7, .inr (.inl g6)))) (h8 : vp_in (x3 + 1) N7) (kk : gg X M k n 181 [(0, .ref x0), (1, .int x1)] [.long (g6 (x3 + 1).toNatClampNeg), .long s0]) : gg X M k n 152 [(0, .ref x0), (1, .int x1), (3, .int x3)] [.long s0] := by
  refine g_aload_n ok d_Mo_holds_152 rfl (j := 0) rfl ?_
  refine gf_Mo_52 ok d_Mo_holds_153 h1 h4 ?_
  refine g_iload_n ok d_Mo_holds_156 rfl (j := 2) rfl ?_
  refine g_iconst (v := 1) ok d_Mo_holds_157 (by decide) ?_
  refine g_iadd ok d_Mo_holds_158 ?_
  refine g_lald (t := 1) ok rfl d_Mo_holds_159 h5 h8 ?_
  exact g_goto (tgt := 181) ok d_Mo_holds_160 (by decide) (gg_keep [0, 1] kk)
theorem k_Mo_holds_163 {X : gC} {M : List mC} {k n : Nat} {x0 : Nat} {x1 : Int32} {x2 : Int32} {x3 : Int32} {s0 : Int64} {fs2 : List Value} {f3 : Nat} {f5 : Nat} {g8 : Nat → Int32} {N9 : Nat} {g12 : Nat → Int64} {N13 : Nat} (ok : gO X c_Mo_holds "TripleStoreModel" w_Mo_holds) (h1 : M[x0]? = some (.inr (10, fs2))) (h4 : fs2[47]? = some (.ref f3)) (h6 : fs2[33]? = some (.ref f5)) (h7 : M[f5]? = some (.inl (0, N9, .inl g8))) (h10 : vp_in (x3 + 1) N9) (h11 : M[f3]? = some (.inl (1, N13, .inr (.inl g12)))) (h14 : vp_in ((6 * x2) + (g8 (x3 + 1).toNatClampNeg)) N13) (kk : gg X M k n 181 [(0, .ref x0), (1, .int x1)] [.long (g12 ((6 * x2) + (g8 (x3 + 1).toNatClampNeg)).toNatClampNeg), .long s0]) : gg X M k n 163 [(0, .ref x0), (1, .int x1), (2, .int x2), (3, .int x3)] [.long s0] := by
  refine g_aload_n ok d_Mo_holds_163 rfl (j := 0) rfl ?_
  refine gf_Mo_70 ok d_Mo_holds_164 h1 h4 ?_
  refine g_bipush (v := 6) ok d_Mo_holds_167 (by decide) ?_
  refine g_iload_n ok d_Mo_holds_169 rfl (j := 2) rfl ?_
  refine g_imul ok d_Mo_holds_170 ?_
  refine g_aload_n ok d_Mo_holds_171 rfl (j := 0) rfl ?_
  refine gf_Mo_49 ok d_Mo_holds_172 h1 h6 ?_
  refine g_iload_n ok d_Mo_holds_175 rfl (j := 3) rfl ?_
  refine g_iconst (v := 1) ok d_Mo_holds_176 (by decide) ?_
  refine g_iadd ok d_Mo_holds_177 ?_
  refine g_iald (t := 0) ok rfl d_Mo_holds_178 h7 h10 ?_
  refine g_iadd ok d_Mo_holds_179 ?_
  refine g_lald (t := 1) ok rfl d_Mo_holds_180 h11 h14 ?_
  exact (gg_keep [0, 1] kk)
theorem k_Mo_holds_181 {X : gC} {M : List mC} {k n : Nat} {x0 : Nat} {x1 : Int32} {s0 : Int64} {s1 : Int64} (ok : gO X c_Mo_holds "TripleStoreModel" w_Mo_holds)  {rm : Room} {post : Option Value → List mC → Prop} (hm : mm_ (gLa X) y_Mo_compare w_Mo_compare rm [.long s0, .long s1] M post) (hR : gF X rm 8 k n) (hlen : ∀ r M', post r M' → M'.length = M.length) (kk : ∀ r M', post r M' → gg X M' (k + rm.cells) (n + rm.slots) 184 [(0, .ref x0), (1, .int x1)] (r.toList ++ [])) : gg X M k n 181 [(0, .ref x0), (1, .int x1)] [.long s1, .long s0] := by
  exact gc_Mo_332 (As := [.long s0, .long s1]) (rest := []) ok d_Mo_holds_181 hm rfl rfl (Nat.le_of_ble_eq_true rfl) hR hlen kk
theorem k_Mo_holds_184 {X : gC} {M : List mC} {k n : Nat} {x0 : Nat} {x1 : Int32} {s0 : Int32} {fs2 : List Value} {f3 : Nat} {g6 : Nat → Int32} {N7 : Nat} (ok : gO X c_Mo_holds "TripleStoreModel" w_Mo_holds) (hl : gL X = 7) (h1 : M[x0]? = some (.inr (10, fs2))) (h4 : fs2[37]? = some (.ref f3)) (h5 : M[f3]? = some (.inl (0, N7, .inl g6))) (h8 : vp_in x1 N7) (kt : ¬ (g6 x1.toNatClampNeg) = 61 → gg X M k n 210 [(0, .ref x0), (1, .int x1), (6, .int s0)] []) (kf : (g6 x1.toNatClampNeg) = 61 → gg X M k n 197 [(6, .int s0)] []) : gg X M k n 184 [(0, .ref x0), (1, .int x1)] [.int s0] := by
  refine g_istore (L' := [(0, .ref x0), (1, .int x1), (6, .int s0)]) ok d_Mo_holds_184 (by rw [hl]; decide) rfl ?_
  refine g_aload_n ok d_Mo_holds_186 rfl (j := 0) rfl ?_
  refine gf_Mo_58 ok d_Mo_holds_187 h1 h4 ?_
  refine g_iload_n ok d_Mo_holds_190 rfl (j := 1) rfl ?_
  refine g_iald (t := 0) ok rfl d_Mo_holds_191 h5 h8 ?_
  refine g_bipush (v := 61) ok d_Mo_holds_192 (by decide) ?_
  exact g_icmp_ne (tgt := 210) ok d_Mo_holds_194 (by decide) (fun z => (kt z)) (fun z => (gg_keep [6] (kf z)))
theorem k_Mo_holds_197 {X : gC} {M : List mC} {k n : Nat} {x6 : Int32} (ok : gO X c_Mo_holds "TripleStoreModel" w_Mo_holds)  (kt : ¬ x6 = 0 → gg X M k n 206 [] []) (kf : x6 = 0 → gg X M k n 202 [] []) : gg X M k n 197 [(6, .int x6)] [] := by
  refine g_iload ok d_Mo_holds_197 (j := 0) rfl ?_
  exact g_if_ne (tgt := 206) ok d_Mo_holds_199 (by decide) (fun z => (gg_keep [] (kt z))) (fun z => (gg_keep [] (kf z)))
theorem k_Mo_holds_202 {X : gC} {M : List mC} {k n : Nat}  (ok : gO X c_Mo_holds "TripleStoreModel" w_Mo_holds)  (kk : gg X M k n 268 [] [.int 1]) : gg X M k n 202 [] [] := by
  refine g_iconst (v := 1) ok d_Mo_holds_202 (by decide) ?_
  exact g_goto (tgt := 268) ok d_Mo_holds_203 (by decide) kk
theorem k_Mo_holds_206 {X : gC} {M : List mC} {k n : Nat}  (ok : gO X c_Mo_holds "TripleStoreModel" w_Mo_holds)  (kk : gg X M k n 268 [] [.int 0]) : gg X M k n 206 [] [] := by
  refine g_iconst (v := 0) ok d_Mo_holds_206 (by decide) ?_
  exact g_goto (tgt := 268) ok d_Mo_holds_207 (by decide) kk
theorem k_Mo_holds_210 {X : gC} {M : List mC} {k n : Nat} {x0 : Nat} {x1 : Int32} {x6 : Int32} {fs2 : List Value} {f3 : Nat} {g6 : Nat → Int32} {N7 : Nat} (ok : gO X c_Mo_holds "TripleStoreModel" w_Mo_holds) (h1 : M[x0]? = some (.inr (10, fs2))) (h4 : fs2[37]? = some (.ref f3)) (h5 : M[f3]? = some (.inl (0, N7, .inl g6))) (h8 : vp_in x1 N7) (kt : ¬ (g6 x1.toNatClampNeg) = 33 → gg X M k n 234 [(0, .ref x0), (1, .int x1), (6, .int x6)] []) (kf : (g6 x1.toNatClampNeg) = 33 → gg X M k n 221 [(6, .int x6)] []) : gg X M k n 210 [(0, .ref x0), (1, .int x1), (6, .int x6)] [] := by
  refine g_aload_n ok d_Mo_holds_210 rfl (j := 0) rfl ?_
  refine gf_Mo_58 ok d_Mo_holds_211 h1 h4 ?_
  refine g_iload_n ok d_Mo_holds_214 rfl (j := 1) rfl ?_
  refine g_iald (t := 0) ok rfl d_Mo_holds_215 h5 h8 ?_
  refine g_bipush (v := 33) ok d_Mo_holds_216 (by decide) ?_
  exact g_icmp_ne (tgt := 234) ok d_Mo_holds_218 (by decide) (fun z => (kt z)) (fun z => (gg_keep [6] (kf z)))
theorem k_Mo_holds_221 {X : gC} {M : List mC} {k n : Nat} {x6 : Int32} (ok : gO X c_Mo_holds "TripleStoreModel" w_Mo_holds)  (kt : x6 = 0 → gg X M k n 230 [] []) (kf : ¬ x6 = 0 → gg X M k n 226 [] []) : gg X M k n 221 [(6, .int x6)] [] := by
  refine g_iload ok d_Mo_holds_221 (j := 0) rfl ?_
  exact g_if_eq (tgt := 230) ok d_Mo_holds_223 (by decide) (fun z => (gg_keep [] (kt z))) (fun z => (gg_keep [] (kf z)))
theorem k_Mo_holds_226 {X : gC} {M : List mC} {k n : Nat}  (ok : gO X c_Mo_holds "TripleStoreModel" w_Mo_holds)  (kk : gg X M k n 268 [] [.int 1]) : gg X M k n 226 [] [] := by
  refine g_iconst (v := 1) ok d_Mo_holds_226 (by decide) ?_
  exact g_goto (tgt := 268) ok d_Mo_holds_227 (by decide) kk
theorem k_Mo_holds_230 {X : gC} {M : List mC} {k n : Nat}  (ok : gO X c_Mo_holds "TripleStoreModel" w_Mo_holds)  (kk : gg X M k n 268 [] [.int 0]) : gg X M k n 230 [] [] := by
  refine g_iconst (v := 0) ok d_Mo_holds_230 (by decide) ?_
  exact g_goto (tgt := 268) ok d_Mo_holds_231 (by decide) kk
theorem k_Mo_holds_234 {X : gC} {M : List mC} {k n : Nat} {x0 : Nat} {x1 : Int32} {x6 : Int32} {fs2 : List Value} {f3 : Nat} {g6 : Nat → Int32} {N7 : Nat} (ok : gO X c_Mo_holds "TripleStoreModel" w_Mo_holds) (h1 : M[x0]? = some (.inr (10, fs2))) (h4 : fs2[37]? = some (.ref f3)) (h5 : M[f3]? = some (.inl (0, N7, .inl g6))) (h8 : vp_in x1 N7) (kt : ¬ (g6 x1.toNatClampNeg) = 60 → gg X M k n 258 [(6, .int x6)] []) (kf : (g6 x1.toNatClampNeg) = 60 → gg X M k n 245 [(6, .int x6)] []) : gg X M k n 234 [(0, .ref x0), (1, .int x1), (6, .int x6)] [] := by
  refine g_aload_n ok d_Mo_holds_234 rfl (j := 0) rfl ?_
  refine gf_Mo_58 ok d_Mo_holds_235 h1 h4 ?_
  refine g_iload_n ok d_Mo_holds_238 rfl (j := 1) rfl ?_
  refine g_iald (t := 0) ok rfl d_Mo_holds_239 h5 h8 ?_
  refine g_bipush (v := 60) ok d_Mo_holds_240 (by decide) ?_
  exact g_icmp_ne (tgt := 258) ok d_Mo_holds_242 (by decide) (fun z => (gg_keep [6] (kt z))) (fun z => (gg_keep [6] (kf z)))
theorem k_Mo_holds_245 {X : gC} {M : List mC} {k n : Nat} {x6 : Int32} (ok : gO X c_Mo_holds "TripleStoreModel" w_Mo_holds)  (kt : 0 ≤ x6 → gg X M k n 254 [] []) (kf : ¬ 0 ≤ x6 → gg X M k n 250 [] []) : gg X M k n 245 [(6, .int x6)] [] := by
  refine g_iload ok d_Mo_holds_245 (j := 0) rfl ?_
  exact g_if_ge (tgt := 254) ok d_Mo_holds_247 (by decide) (fun z => (gg_keep [] (kt z))) (fun z => (gg_keep [] (kf z)))
theorem k_Mo_holds_250 {X : gC} {M : List mC} {k n : Nat}  (ok : gO X c_Mo_holds "TripleStoreModel" w_Mo_holds)  (kk : gg X M k n 268 [] [.int 1]) : gg X M k n 250 [] [] := by
  refine g_iconst (v := 1) ok d_Mo_holds_250 (by decide) ?_
  exact g_goto (tgt := 268) ok d_Mo_holds_251 (by decide) kk
theorem k_Mo_holds_254 {X : gC} {M : List mC} {k n : Nat}  (ok : gO X c_Mo_holds "TripleStoreModel" w_Mo_holds)  (kk : gg X M k n 268 [] [.int 0]) : gg X M k n 254 [] [] := by
  refine g_iconst (v := 0) ok d_Mo_holds_254 (by decide) ?_
  exact g_goto (tgt := 268) ok d_Mo_holds_255 (by decide) kk
theorem k_Mo_holds_258 {X : gC} {M : List mC} {k n : Nat} {x6 : Int32} (ok : gO X c_Mo_holds "TripleStoreModel" w_Mo_holds)  (kt : x6 ≤ 0 → gg X M k n 267 [] []) (kf : ¬ x6 ≤ 0 → gg X M k n 263 [] []) : gg X M k n 258 [(6, .int x6)] [] := by
  refine g_iload ok d_Mo_holds_258 (j := 0) rfl ?_
  exact g_if_le (tgt := 267) ok d_Mo_holds_260 (by decide) (fun z => (gg_keep [] (kt z))) (fun z => (gg_keep [] (kf z)))
theorem k_Mo_holds_263 {X : gC} {M : List mC} {k n : Nat}  (ok : gO X c_Mo_holds "TripleStoreModel" w_Mo_holds)  (kk : gg X M k n 268 [] [.int 1]) : gg X M k n 263 [] [] := by
  refine g_iconst (v := 1) ok d_Mo_holds_263 (by decide) ?_
  exact g_goto (tgt := 268) ok d_Mo_holds_264 (by decide) kk
theorem k_Mo_holds_267 {X : gC} {M : List mC} {k n : Nat}  (ok : gO X c_Mo_holds "TripleStoreModel" w_Mo_holds)  (kk : gg X M k n 268 [] [.int 0]) : gg X M k n 267 [] [] := by
  refine g_iconst (v := 0) ok d_Mo_holds_267 (by decide) ?_
  exact kk
theorem k_Mo_holds_268 {X : gC} {M : List mC} {k n : Nat} {s0 : Int32} (ok : gO X c_Mo_holds "TripleStoreModel" w_Mo_holds)  {l9 : Launch} {rm : Room} {M0 : List mC} {post : Option Value → List mC → Prop} (E : gE X l9 y_Mo_holds rm 7 (some .boolean) M0 post) (hz : narrow .boolean (.int s0) = .int s0) (hp : post (some (.int s0)) M) (hk : k ≤ rm.cells) (hn : n ≤ rm.slots) : gg X M k n 268 [] [.int s0] := by
  exact g_zret ok E d_Mo_holds_268 hz hp hk hn
theorem k_Mo_filter_0 {X : gC} {M : List mC} {k n : Nat} {x0 : Nat} {x1 : Int32} {fs2 : List Value} {f3 : Int32} {f5 : Nat} {g8 : Nat → Int32} {N9 : Nat} {M11 : List mC} (ok : gO X c_Mo_filter "TripleStoreModel" w_Mo_filter) (hl : gL X = 6) (h1 : M[x0]? = some (.inr (10, fs2))) (h4 : fs2[50]? = some (.int f3)) (h6 : fs2[49]? = some (.ref f5)) (h7 : M[f5]? = some (.inl (0, N9, .inl g8))) (h10 : vp_in 10 N9) (h12 : M.set f5 (.inl (0, N9, .inl (upd g8 (10 : Int32).toNatClampNeg 0))) = M11) (kk : gg X M11 k n 17 [(0, .ref x0), (1, .int x1), (2, .int (f3 - 1)), (3, .int 0)] []) : gg X M k n 0 [(0, .ref x0), (1, .int x1)] [] := by
  refine g_aload_n ok d_Mo_filter_0 rfl (j := 0) rfl ?_
  refine gf_Mo_318 ok d_Mo_filter_1 h1 h4 ?_
  refine g_iconst (v := 1) ok d_Mo_filter_4 (by decide) ?_
  refine g_isub ok d_Mo_filter_5 ?_
  refine g_istore_n (L' := [(0, .ref x0), (1, .int x1), (2, .int (f3 - 1))]) ok d_Mo_filter_6 rfl (by rw [hl]; decide) rfl ?_
  refine g_aload_n ok d_Mo_filter_7 rfl (j := 0) rfl ?_
  refine gf_Mo_76 ok d_Mo_filter_8 h1 h6 ?_
  refine g_bipush (v := 10) ok d_Mo_filter_11 (by decide) ?_
  refine g_iconst (v := 0) ok d_Mo_filter_13 (by decide) ?_
  refine g_iast (t := 0) ok rfl d_Mo_filter_14 h7 h10 ?_
  rw [h12]
  have h13 : M11[f5]? = some (.inl (0, N9, .inl (upd g8 (10 : Int32).toNatClampNeg 0))) := by rw [← h12]; exact gs_eq h7
  refine g_iconst (v := 0) ok d_Mo_filter_15 (by decide) ?_
  refine g_istore_n (L' := [(0, .ref x0), (1, .int x1), (2, .int (f3 - 1)), (3, .int 0)]) ok d_Mo_filter_16 rfl (by rw [hl]; decide) rfl ?_
  exact kk
theorem k_Mo_filter_17 {X : gC} {M : List mC} {k n : Nat} {x0 : Nat} {x1 : Int32} {x2 : Int32} {x3 : Int32} {fs2 : List Value} {f3 : Nat} {g6 : Nat → Int32} {N7 : Nat} (ok : gO X c_Mo_filter "TripleStoreModel" w_Mo_filter) (h1 : M[x0]? = some (.inr (10, fs2))) (h4 : fs2[49]? = some (.ref f3)) (h5 : M[f3]? = some (.inl (0, N7, .inl g6))) (h8 : vp_in x2 N7) (kt : (g6 x2.toNatClampNeg) ≤ x3 → gg X M k n 104 [(0, .ref x0), (2, .int x2)] []) (kf : ¬ (g6 x2.toNatClampNeg) ≤ x3 → gg X M k n 27 [(0, .ref x0), (1, .int x1), (2, .int x2), (3, .int x3)] []) : gg X M k n 17 [(0, .ref x0), (1, .int x1), (2, .int x2), (3, .int x3)] [] := by
  refine g_iload_n ok d_Mo_filter_17 rfl (j := 3) rfl ?_
  refine g_aload_n ok d_Mo_filter_18 rfl (j := 0) rfl ?_
  refine gf_Mo_76 ok d_Mo_filter_19 h1 h4 ?_
  refine g_iload_n ok d_Mo_filter_22 rfl (j := 2) rfl ?_
  refine g_iald (t := 0) ok rfl d_Mo_filter_23 h5 h8 ?_
  exact g_icmp_ge (tgt := 104) ok d_Mo_filter_24 (by decide) (fun z => (gg_keep [0, 2] (kt z))) (fun z => (kf z))
theorem k_Mo_filter_27 {X : gC} {M : List mC} {k n : Nat} {x0 : Nat} {x1 : Int32} {x2 : Int32} {x3 : Int32} (ok : gO X c_Mo_filter "TripleStoreModel" w_Mo_filter) (hl : gL X = 6)  (kk : gg X M k n 33 [(0, .ref x0), (1, .int x1), (2, .int x2), (3, .int x3), (4, .int 1), (5, .int 0)] []) : gg X M k n 27 [(0, .ref x0), (1, .int x1), (2, .int x2), (3, .int x3)] [] := by
  refine g_iconst (v := 1) ok d_Mo_filter_27 (by decide) ?_
  refine g_istore (L' := [(0, .ref x0), (1, .int x1), (2, .int x2), (3, .int x3), (4, .int 1)]) ok d_Mo_filter_28 (by rw [hl]; decide) rfl ?_
  refine g_iconst (v := 0) ok d_Mo_filter_30 (by decide) ?_
  refine g_istore (L' := [(0, .ref x0), (1, .int x1), (2, .int x2), (3, .int x3), (4, .int 1), (5, .int 0)]) ok d_Mo_filter_31 (by rw [hl]; decide) rfl ?_
  exact kk
theorem k_Mo_filter_33 {X : gC} {M : List mC} {k n : Nat} {x0 : Nat} {x1 : Int32} {x2 : Int32} {x3 : Int32} {x4 : Int32} {x5 : Int32} {fs2 : List Value} {f3 : Int32} (ok : gO X c_Mo_filter "TripleStoreModel" w_Mo_filter) (h1 : M[x0]? = some (.inr (10, fs2))) (h4 : fs2[39]? = some (.int f3)) (kt : f3 ≤ x5 → gg X M k n 85 [(0, .ref x0), (1, .int x1), (2, .int x2), (3, .int x3), (4, .int x4)] []) (kf : ¬ f3 ≤ x5 → gg X M k n 42 [(0, .ref x0), (1, .int x1), (2, .int x2), (3, .int x3), (4, .int x4), (5, .int x5)] []) : gg X M k n 33 [(0, .ref x0), (1, .int x1), (2, .int x2), (3, .int x3), (4, .int x4), (5, .int x5)] [] := by
  refine g_iload ok d_Mo_filter_33 (j := 5) rfl ?_
  refine g_aload_n ok d_Mo_filter_35 rfl (j := 0) rfl ?_
  refine gf_Mo_247 ok d_Mo_filter_36 h1 h4 ?_
  exact g_icmp_ge (tgt := 85) ok d_Mo_filter_39 (by decide) (fun z => (gg_keep [0, 1, 2, 3, 4] (kt z))) (fun z => (kf z))
theorem k_Mo_filter_42 {X : gC} {M : List mC} {k n : Nat} {x0 : Nat} {x1 : Int32} {x2 : Int32} {x3 : Int32} {x4 : Int32} {x5 : Int32} {fs2 : List Value} {f3 : Nat} {g6 : Nat → Int32} {N7 : Nat} (ok : gO X c_Mo_filter "TripleStoreModel" w_Mo_filter) (h1 : M[x0]? = some (.inr (10, fs2))) (h4 : fs2[36]? = some (.ref f3)) (h5 : M[f3]? = some (.inl (0, N7, .inl g6))) (h8 : vp_in x5 N7) (kt : ¬ (g6 x5.toNatClampNeg) = x1 → gg X M k n 79 [(0, .ref x0), (1, .int x1), (2, .int x2), (3, .int x3), (4, .int x4), (5, .int x5)] []) (kf : (g6 x5.toNatClampNeg) = x1 → gg X M k n 53 [(0, .ref x0), (1, .int x1), (2, .int x2), (3, .int x3), (4, .int x4), (5, .int x5)] []) : gg X M k n 42 [(0, .ref x0), (1, .int x1), (2, .int x2), (3, .int x3), (4, .int x4), (5, .int x5)] [] := by
  refine g_aload_n ok d_Mo_filter_42 rfl (j := 0) rfl ?_
  refine gf_Mo_55 ok d_Mo_filter_43 h1 h4 ?_
  refine g_iload ok d_Mo_filter_46 (j := 5) rfl ?_
  refine g_iald (t := 0) ok rfl d_Mo_filter_48 h5 h8 ?_
  refine g_iload_n ok d_Mo_filter_49 rfl (j := 1) rfl ?_
  exact g_icmp_ne (tgt := 79) ok d_Mo_filter_50 (by decide) (fun z => (kt z)) (fun z => (kf z))
theorem k_Mo_filter_53 {X : gC} {M : List mC} {k n : Nat} {x0 : Nat} {x1 : Int32} {x2 : Int32} {x3 : Int32} {x4 : Int32} {x5 : Int32} {fs2 : List Value} (ok : gO X c_Mo_filter "TripleStoreModel" w_Mo_filter) (h1 : M[x0]? = some (.inr (10, fs2))) {rm : Room} {post : Option Value → List mC → Prop} (hm : mm_ (gLa X) y_Mo_holds w_Mo_holds rm [.ref x0, .int x5, .int ((150 * x2) + x3)] M post) (hR : gF X rm 7 k n) (hlen : ∀ r M', post r M' → M'.length = M.length) (kk : ∀ r M', post r M' → gg X M' (k + rm.cells) (n + rm.slots) 66 [(0, .ref x0), (1, .int x1), (2, .int x2), (3, .int x3), (4, .int x4), (5, .int x5)] (r.toList ++ [])) : gg X M k n 53 [(0, .ref x0), (1, .int x1), (2, .int x2), (3, .int x3), (4, .int x4), (5, .int x5)] [] := by
  refine g_aload_n ok d_Mo_filter_53 rfl (j := 0) rfl ?_
  refine g_iload ok d_Mo_filter_54 (j := 5) rfl ?_
  refine g_sipush (v := 150) ok d_Mo_filter_56 (by decide) ?_
  refine g_iload_n ok d_Mo_filter_59 rfl (j := 2) rfl ?_
  refine g_imul ok d_Mo_filter_60 ?_
  refine g_iload_n ok d_Mo_filter_61 rfl (j := 3) rfl ?_
  refine g_iadd ok d_Mo_filter_62 ?_
  exact gc_Mo_336 (As := [.int x5, .int ((150 * x2) + x3)]) (rest := []) ok d_Mo_filter_63 hm rfl rfl (Nat.le_of_ble_eq_true rfl) hR h1 hlen kk
theorem k_Mo_filter_66 {X : gC} {M : List mC} {k n : Nat} {x0 : Nat} {x1 : Int32} {x2 : Int32} {x3 : Int32} {x4 : Int32} {x5 : Int32} {s0 : Int32} {fs2 : List Value} {f3 : Nat} {g6 : Nat → Int32} {N7 : Nat} (ok : gO X c_Mo_filter "TripleStoreModel" w_Mo_filter) (h1 : M[x0]? = some (.inr (10, fs2))) (h4 : fs2[38]? = some (.ref f3)) (h5 : M[f3]? = some (.inl (3, N7, .inl g6))) (h8 : vp_in x5 N7) (kt : ¬ s0 = (g6 x5.toNatClampNeg) → gg X M k n 79 [(0, .ref x0), (1, .int x1), (2, .int x2), (3, .int x3), (4, .int x4), (5, .int x5)] []) (kf : s0 = (g6 x5.toNatClampNeg) → gg X M k n 76 [(0, .ref x0), (1, .int x1), (2, .int x2), (3, .int x3), (5, .int x5)] []) : gg X M k n 66 [(0, .ref x0), (1, .int x1), (2, .int x2), (3, .int x3), (4, .int x4), (5, .int x5)] [.int s0] := by
  refine g_aload_n ok d_Mo_filter_66 rfl (j := 0) rfl ?_
  refine gf_Mo_61 ok d_Mo_filter_67 h1 h4 ?_
  refine g_iload ok d_Mo_filter_70 (j := 5) rfl ?_
  refine g_zald (t := 3) ok rfl d_Mo_filter_72 h5 h8 ?_
  exact g_icmp_ne (tgt := 79) ok d_Mo_filter_73 (by decide) (fun z => (kt z)) (fun z => (gg_keep [0, 1, 2, 3, 5] (kf z)))
theorem k_Mo_filter_76 {X : gC} {M : List mC} {k n : Nat} {x0 : Nat} {x1 : Int32} {x2 : Int32} {x3 : Int32} {x5 : Int32} (ok : gO X c_Mo_filter "TripleStoreModel" w_Mo_filter) (hl : gL X = 6)  (kk : gg X M k n 79 [(0, .ref x0), (1, .int x1), (2, .int x2), (3, .int x3), (4, .int 0), (5, .int x5)] []) : gg X M k n 76 [(0, .ref x0), (1, .int x1), (2, .int x2), (3, .int x3), (5, .int x5)] [] := by
  refine g_iconst (v := 0) ok d_Mo_filter_76 (by decide) ?_
  refine g_istore (L' := [(0, .ref x0), (1, .int x1), (2, .int x2), (3, .int x3), (4, .int 0), (5, .int x5)]) ok d_Mo_filter_77 (by rw [hl]; decide) rfl ?_
  exact kk
theorem k_Mo_filter_79 {X : gC} {M : List mC} {k n : Nat} {x0 : Nat} {x1 : Int32} {x2 : Int32} {x3 : Int32} {x4 : Int32} {x5 : Int32} (ok : gO X c_Mo_filter "TripleStoreModel" w_Mo_filter) (hl : gL X = 6)  (kk : gg X M k n 33 [(0, .ref x0), (1, .int x1), (2, .int x2), (3, .int x3), (4, .int x4), (5, .int (x5 + 1))] []) : gg X M k n 79 [(0, .ref x0), (1, .int x1), (2, .int x2), (3, .int x3), (4, .int x4), (5, .int x5)] [] := by
  refine g_iinc (L' := [(0, .ref x0), (1, .int x1), (2, .int x2), (3, .int x3), (4, .int x4), (5, .int (x5 + 1))]) (v := (x5 + 1)) ok d_Mo_filter_79 (j := 5) rfl rfl (by rw [hl]; decide) rfl ?_
  exact g_goto (tgt := 33) ok d_Mo_filter_82 (by decide) kk
theorem k_Mo_filter_85 {X : gC} {M : List mC} {k n : Nat} {x0 : Nat} {x1 : Int32} {x2 : Int32} {x3 : Int32} {x4 : Int32} (ok : gO X c_Mo_filter "TripleStoreModel" w_Mo_filter)  (kt : x4 = 0 → gg X M k n 98 [(0, .ref x0), (1, .int x1), (2, .int x2), (3, .int x3)] []) (kf : ¬ x4 = 0 → gg X M k n 90 [(0, .ref x0), (1, .int x1), (2, .int x2), (3, .int x3)] []) : gg X M k n 85 [(0, .ref x0), (1, .int x1), (2, .int x2), (3, .int x3), (4, .int x4)] [] := by
  refine g_iload ok d_Mo_filter_85 (j := 4) rfl ?_
  exact g_if_eq (tgt := 98) ok d_Mo_filter_87 (by decide) (fun z => (gg_keep [0, 1, 2, 3] (kt z))) (fun z => (gg_keep [0, 1, 2, 3] (kf z)))
theorem k_Mo_filter_90 {X : gC} {M : List mC} {k n : Nat} {x0 : Nat} {x1 : Int32} {x2 : Int32} {x3 : Int32} {fs2 : List Value} (ok : gO X c_Mo_filter "TripleStoreModel" w_Mo_filter) (h1 : M[x0]? = some (.inr (10, fs2))) {rm : Room} {post : Option Value → List mC → Prop} (hm : mm_ (gLa X) y_Mo_addTo w_Mo_addTo rm [.ref x0, .int 10, .int x2, .int x3] M post) (hR : gF X rm 6 k n) (hlen : ∀ r M', post r M' → M'.length = M.length) (kk : ∀ r M', post r M' → gg X M' (k + rm.cells) (n + rm.slots) 98 [(0, .ref x0), (1, .int x1), (2, .int x2), (3, .int x3)] (r.toList ++ [])) : gg X M k n 90 [(0, .ref x0), (1, .int x1), (2, .int x2), (3, .int x3)] [] := by
  refine g_aload_n ok d_Mo_filter_90 rfl (j := 0) rfl ?_
  refine g_bipush (v := 10) ok d_Mo_filter_91 (by decide) ?_
  refine g_iload_n ok d_Mo_filter_93 rfl (j := 2) rfl ?_
  refine g_iload_n ok d_Mo_filter_94 rfl (j := 3) rfl ?_
  exact gc_Mo_314 (As := [.int 10, .int x2, .int x3]) (rest := []) ok d_Mo_filter_95 hm rfl rfl (Nat.le_of_ble_eq_true rfl) hR h1 hlen kk
theorem k_Mo_filter_98 {X : gC} {M : List mC} {k n : Nat} {x0 : Nat} {x1 : Int32} {x2 : Int32} {x3 : Int32} (ok : gO X c_Mo_filter "TripleStoreModel" w_Mo_filter) (hl : gL X = 6)  (kk : gg X M k n 17 [(0, .ref x0), (1, .int x1), (2, .int x2), (3, .int (x3 + 1))] []) : gg X M k n 98 [(0, .ref x0), (1, .int x1), (2, .int x2), (3, .int x3)] [] := by
  refine g_iinc (L' := [(0, .ref x0), (1, .int x1), (2, .int x2), (3, .int (x3 + 1))]) (v := (x3 + 1)) ok d_Mo_filter_98 (j := 3) rfl rfl (by rw [hl]; decide) rfl ?_
  exact g_goto (tgt := 17) ok d_Mo_filter_101 (by decide) kk
theorem k_Mo_filter_104 {X : gC} {M : List mC} {k n : Nat} {x0 : Nat} {x2 : Int32} {fs2 : List Value} (ok : gO X c_Mo_filter "TripleStoreModel" w_Mo_filter) (h1 : M[x0]? = some (.inr (10, fs2))) {rm : Room} {post : Option Value → List mC → Prop} (hm : mm_ (gLa X) y_Mo_copy w_Mo_copy rm [.ref x0, .int 10, .int x2] M post) (hR : gF X rm 4 k n) (hlen : ∀ r M', post r M' → M'.length = M.length) (kk : ∀ r M', post r M' → gg X M' (k + rm.cells) (n + rm.slots) 111 [] (r.toList ++ [])) : gg X M k n 104 [(0, .ref x0), (2, .int x2)] [] := by
  refine g_aload_n ok d_Mo_filter_104 rfl (j := 0) rfl ?_
  refine g_bipush (v := 10) ok d_Mo_filter_105 (by decide) ?_
  refine g_iload_n ok d_Mo_filter_107 rfl (j := 1) rfl ?_
  exact gc_Mo_329 (As := [.int 10, .int x2]) (rest := []) ok d_Mo_filter_108 hm rfl rfl (Nat.le_of_ble_eq_true rfl) hR h1 hlen (fun r M' q => (gg_keep [] (kk r M' q)))
theorem k_Mo_filter_111 {X : gC} {M : List mC} {k n : Nat}  (ok : gO X c_Mo_filter "TripleStoreModel" w_Mo_filter)  {l9 : Launch} {rm : Room} {M0 : List mC} {post : Option Value → List mC → Prop} (E : gE X l9 y_Mo_filter rm 6 none M0 post) (hp : post (none) M) (hk : k ≤ rm.cells) (hn : n ≤ rm.slots) : gg X M k n 111 [] [] := by
  exact g_vret ok E d_Mo_filter_111 hp hk hn
theorem k_Mo_work_0 {X : gC} {M : List mC} {k n : Nat} {x0 : Nat} {x1 : Int32} {x2 : Int32} (ok : gO X c_Mo_work "TripleStoreModel" w_Mo_work)  (kt : x1 = 1 → gg X M k n 11 [(0, .ref x0), (1, .int x1)] []) (kf : ¬ x1 = 1 → gg X M k n 5 [(0, .ref x0), (1, .int x1), (2, .int x2)] []) : gg X M k n 0 [(0, .ref x0), (1, .int x1), (2, .int x2)] [] := by
  refine g_iload_n ok d_Mo_work_0 rfl (j := 1) rfl ?_
  refine g_iconst (v := 1) ok d_Mo_work_1 (by decide) ?_
  exact g_icmp_eq (tgt := 11) ok d_Mo_work_2 (by decide) (fun z => (gg_keep [0, 1] (kt z))) (fun z => (kf z))
theorem k_Mo_work_5 {X : gC} {M : List mC} {k n : Nat} {x0 : Nat} {x1 : Int32} {x2 : Int32} (ok : gO X c_Mo_work "TripleStoreModel" w_Mo_work)  (kt : ¬ x1 = 6 → gg X M k n 57 [(0, .ref x0), (1, .int x1), (2, .int x2)] []) (kf : x1 = 6 → gg X M k n 11 [(0, .ref x0), (1, .int x1)] []) : gg X M k n 5 [(0, .ref x0), (1, .int x1), (2, .int x2)] [] := by
  refine g_iload_n ok d_Mo_work_5 rfl (j := 1) rfl ?_
  refine g_bipush (v := 6) ok d_Mo_work_6 (by decide) ?_
  exact g_icmp_ne (tgt := 57) ok d_Mo_work_8 (by decide) (fun z => (kt z)) (fun z => (gg_keep [0, 1] (kf z)))
theorem k_Mo_work_11 {X : gC} {M : List mC} {k n : Nat} {x0 : Nat} {x1 : Int32} {fs2 : List Value} {f3 : Nat} {f5 : Int32} (ok : gO X c_Mo_work "TripleStoreModel" w_Mo_work) (h1 : M[x0]? = some (.inr (10, fs2))) (h4 : fs2[49]? = some (.ref f3)) (h6 : fs2[50]? = some (.int f5)) (kt : ¬ x1 = 1 → gg X M k n 28 [(0, .ref x0)] [.int f5, .ref f3]) (kf : x1 = 1 → gg X M k n 24 [(0, .ref x0)] [.int f5, .ref f3]) : gg X M k n 11 [(0, .ref x0), (1, .int x1)] [] := by
  refine g_aload_n ok d_Mo_work_11 rfl (j := 0) rfl ?_
  refine gf_Mo_76 ok d_Mo_work_12 h1 h4 ?_
  refine g_aload_n ok d_Mo_work_15 rfl (j := 0) rfl ?_
  refine gf_Mo_318 ok d_Mo_work_16 h1 h6 ?_
  refine g_iload_n ok d_Mo_work_19 rfl (j := 1) rfl ?_
  refine g_iconst (v := 1) ok d_Mo_work_20 (by decide) ?_
  exact g_icmp_ne (tgt := 28) ok d_Mo_work_21 (by decide) (fun z => (gg_keep [0] (kt z))) (fun z => (gg_keep [0] (kf z)))
theorem k_Mo_work_24 {X : gC} {M : List mC} {k n : Nat} {x0 : Nat} {s0 : Nat} {s1 : Int32} (ok : gO X c_Mo_work "TripleStoreModel" w_Mo_work)  (kk : gg X M k n 29 [(0, .ref x0)] [.int 1, .int s1, .ref s0]) : gg X M k n 24 [(0, .ref x0)] [.int s1, .ref s0] := by
  refine g_iconst (v := 1) ok d_Mo_work_24 (by decide) ?_
  exact g_goto (tgt := 29) ok d_Mo_work_25 (by decide) kk
theorem k_Mo_work_28 {X : gC} {M : List mC} {k n : Nat} {x0 : Nat} {s0 : Nat} {s1 : Int32} (ok : gO X c_Mo_work "TripleStoreModel" w_Mo_work)  (kk : gg X M k n 29 [(0, .ref x0)] [.int 0, .int s1, .ref s0]) : gg X M k n 28 [(0, .ref x0)] [.int s1, .ref s0] := by
  refine g_iconst (v := 0) ok d_Mo_work_28 (by decide) ?_
  exact kk
theorem k_Mo_work_29 {X : gC} {M : List mC} {k n : Nat} {x0 : Nat} {s0 : Nat} {s1 : Int32} {s2 : Int32} {g2 : Nat → Int32} {N3 : Nat} {M5 : List mC} {fs9 : List Value} {f11 : Nat} {f13 : Int32} {g16 : Nat → Int32} {N17 : Nat} {M21 : List mC} {fs27 : List Value} {M29 : List mC} (ok : gO X c_Mo_work "TripleStoreModel" w_Mo_work) (h1 : M[s0]? = some (.inl (0, N3, .inl g2))) (h4 : vp_in s1 N3) (h6 : M.set s0 (.inl (0, N3, .inl (upd g2 s1.toNatClampNeg s2))) = M5) (h8 : M[x0]? = some (.inr (10, fs9))) (h12 : fs9[48]? = some (.ref f11)) (h14 : fs9[50]? = some (.int f13)) (h15 : M[f11]? = some (.inl (0, N17, .inl g16))) (h19 : f11 ≠ s0) (h20 : vp_in (150 * f13) N17) (h22 : M5.set f11 (.inl (0, N17, .inl (upd g16 (150 * f13).toNatClampNeg 0))) = M21) (h26 : 59 ≤ fs9.length) (h28 : fs9.set 50 (.int (f13 + 1)) = fs27) (h30 : M21.set x0 (.inr (10, fs27)) = M29) (kk : gg X M29 k n 174 [] []) : gg X M k n 29 [(0, .ref x0)] [.int s2, .int s1, .ref s0] := by
  refine g_iast (t := 0) ok rfl d_Mo_work_29 h1 h4 ?_
  rw [h6]
  have h7 : M5[s0]? = some (.inl (0, N3, .inl (upd g2 s1.toNatClampNeg s2))) := by rw [← h6]; exact gs_eq h1
  refine g_aload_n ok d_Mo_work_30 rfl (j := 0) rfl ?_
  have h10 : M5[x0]? = some (.inr (10, fs9)) := by rw [← h6]; exact (gs_ne (ne_ao h1 h8)).trans h8
  refine gf_Mo_73 ok d_Mo_work_31 h10 h12 ?_
  refine g_sipush (v := 150) ok d_Mo_work_34 (by decide) ?_
  refine g_aload_n ok d_Mo_work_37 rfl (j := 0) rfl ?_
  refine gf_Mo_318 ok d_Mo_work_38 h10 h14 ?_
  refine g_imul ok d_Mo_work_41 ?_
  refine g_iconst (v := 0) ok d_Mo_work_42 (by decide) ?_
  have h18 : M5[f11]? = some (.inl (0, N17, .inl g16)) := by rw [← h6]; exact (gs_ne (Ne.symm h19)).trans h15
  refine g_iast (t := 0) ok rfl d_Mo_work_43 h18 h20 ?_
  rw [h22]
  have h23 : M21[f11]? = some (.inl (0, N17, .inl (upd g16 (150 * f13).toNatClampNeg 0))) := by rw [← h22]; exact gs_eq h18
  refine g_aload_n ok d_Mo_work_44 rfl (j := 0) rfl ?_
  refine g_dup ok d_Mo_work_45 rfl ?_
  have h24 : M21[x0]? = some (.inr (10, fs9)) := by rw [← h22]; exact (gs_ne (ne_ao h18 h10)).trans h10
  refine gf_Mo_318 ok d_Mo_work_46 h24 h14 ?_
  refine g_iconst (v := 1) ok d_Mo_work_49 (by decide) ?_
  refine g_iadd ok d_Mo_work_50 ?_
  have h25 : 50 < fs9.length := Nat.lt_of_lt_of_le (by decide) h26
  refine pf_Mo_318 ok d_Mo_work_51 h24 h25 (fun _ => ⟨rfl, rfl⟩) ?_
  rw [h28]
  rw [h30]
  have h31 : M29[x0]? = some (.inr (10, fs27)) := by rw [← h30]; exact gs_eq h24
  have h32 : fs27[48]? = some (.ref f11) := by rw [← h28]; exact (List.getElem?_set_ne (by decide : 50 ≠ 48)).trans h12
  have h33 : fs27[50]? = some (.int (f13 + 1)) := by rw [← h28]; exact List.getElem?_set_self h25
  have h34 : 59 ≤ fs27.length := by rw [← h28, List.length_set]; exact h26
  exact g_goto (tgt := 174) ok d_Mo_work_54 (by decide) (gg_keep [] kk)
theorem k_Mo_work_57 {X : gC} {M : List mC} {k n : Nat} {x0 : Nat} {x1 : Int32} {x2 : Int32} (ok : gO X c_Mo_work "TripleStoreModel" w_Mo_work)  (kt : ¬ x1 = 2 → gg X M k n 75 [(0, .ref x0), (1, .int x1), (2, .int x2)] []) (kf : x1 = 2 → gg X M k n 62 [(0, .ref x0), (2, .int x2)] []) : gg X M k n 57 [(0, .ref x0), (1, .int x1), (2, .int x2)] [] := by
  refine g_iload_n ok d_Mo_work_57 rfl (j := 1) rfl ?_
  refine g_iconst (v := 2) ok d_Mo_work_58 (by decide) ?_
  exact g_icmp_ne (tgt := 75) ok d_Mo_work_59 (by decide) (fun z => (kt z)) (fun z => (gg_keep [0, 2] (kf z)))
theorem k_Mo_work_62 {X : gC} {M : List mC} {k n : Nat} {x0 : Nat} {x2 : Int32} {fs2 : List Value} (ok : gO X c_Mo_work "TripleStoreModel" w_Mo_work) (h1 : M[x0]? = some (.inr (10, fs2))) {rm : Room} {post : Option Value → List mC → Prop} (hm : mm_ (gLa X) y_Mo_match w_Mo_match rm [.ref x0, .int x2] M post) (hR : gF X rm 10 k n) (hlen : ∀ r M', post r M' → M'.length = M.length) (kk : ∀ r M', post r M' → gg X M' (k + rm.cells) (n + rm.slots) 67 [(0, .ref x0)] (r.toList ++ [])) : gg X M k n 62 [(0, .ref x0), (2, .int x2)] [] := by
  refine g_aload_n ok d_Mo_work_62 rfl (j := 0) rfl ?_
  refine g_iload_n ok d_Mo_work_63 rfl (j := 1) rfl ?_
  exact gc_Mo_338 (As := [.int x2]) (rest := []) ok d_Mo_work_64 hm rfl rfl (Nat.le_of_ble_eq_true rfl) hR h1 hlen (fun r M' q => (gg_keep [0] (kk r M' q)))
theorem k_Mo_work_67 {X : gC} {M : List mC} {k n : Nat} {x0 : Nat} {fs2 : List Value} (ok : gO X c_Mo_work "TripleStoreModel" w_Mo_work) (h1 : M[x0]? = some (.inr (10, fs2))) {rm : Room} {post : Option Value → List mC → Prop} (hm : mm_ (gLa X) y_Mo_combine w_Mo_combine rm [.ref x0, .int 0] M post) (hR : gF X rm 8 k n) (hlen : ∀ r M', post r M' → M'.length = M.length) (kk : ∀ r M', post r M' → gg X M' (k + rm.cells) (n + rm.slots) 72 [] (r.toList ++ [])) : gg X M k n 67 [(0, .ref x0)] [] := by
  refine g_aload_n ok d_Mo_work_67 rfl (j := 0) rfl ?_
  refine g_iconst (v := 0) ok d_Mo_work_68 (by decide) ?_
  exact gc_Mo_341 (As := [.int 0]) (rest := []) ok d_Mo_work_69 hm rfl rfl (Nat.le_of_ble_eq_true rfl) hR h1 hlen (fun r M' q => (gg_keep [] (kk r M' q)))
theorem k_Mo_work_72 {X : gC} {M : List mC} {k n : Nat}  (ok : gO X c_Mo_work "TripleStoreModel" w_Mo_work)  (kk : gg X M k n 174 [] []) : gg X M k n 72 [] [] := by
  exact g_goto (tgt := 174) ok d_Mo_work_72 (by decide) kk
theorem k_Mo_work_75 {X : gC} {M : List mC} {k n : Nat} {x0 : Nat} {x1 : Int32} {x2 : Int32} (ok : gO X c_Mo_work "TripleStoreModel" w_Mo_work)  (kt : ¬ x1 = 3 → gg X M k n 88 [(0, .ref x0), (1, .int x1)] []) (kf : x1 = 3 → gg X M k n 80 [(0, .ref x0), (2, .int x2)] []) : gg X M k n 75 [(0, .ref x0), (1, .int x1), (2, .int x2)] [] := by
  refine g_iload_n ok d_Mo_work_75 rfl (j := 1) rfl ?_
  refine g_iconst (v := 3) ok d_Mo_work_76 (by decide) ?_
  exact g_icmp_ne (tgt := 88) ok d_Mo_work_77 (by decide) (fun z => (gg_keep [0, 1] (kt z))) (fun z => (gg_keep [0, 2] (kf z)))
theorem k_Mo_work_80 {X : gC} {M : List mC} {k n : Nat} {x0 : Nat} {x2 : Int32} {fs2 : List Value} (ok : gO X c_Mo_work "TripleStoreModel" w_Mo_work) (h1 : M[x0]? = some (.inr (10, fs2))) {rm : Room} {post : Option Value → List mC → Prop} (hm : mm_ (gLa X) y_Mo_filter w_Mo_filter rm [.ref x0, .int x2] M post) (hR : gF X rm 6 k n) (hlen : ∀ r M', post r M' → M'.length = M.length) (kk : ∀ r M', post r M' → gg X M' (k + rm.cells) (n + rm.slots) 85 [] (r.toList ++ [])) : gg X M k n 80 [(0, .ref x0), (2, .int x2)] [] := by
  refine g_aload_n ok d_Mo_work_80 rfl (j := 0) rfl ?_
  refine g_iload_n ok d_Mo_work_81 rfl (j := 1) rfl ?_
  exact gc_Mo_344 (As := [.int x2]) (rest := []) ok d_Mo_work_82 hm rfl rfl (Nat.le_of_ble_eq_true rfl) hR h1 hlen (fun r M' q => (gg_keep [] (kk r M' q)))
theorem k_Mo_work_85 {X : gC} {M : List mC} {k n : Nat}  (ok : gO X c_Mo_work "TripleStoreModel" w_Mo_work)  (kk : gg X M k n 174 [] []) : gg X M k n 85 [] [] := by
  exact g_goto (tgt := 174) ok d_Mo_work_85 (by decide) kk
theorem k_Mo_work_88 {X : gC} {M : List mC} {k n : Nat} {x0 : Nat} {x1 : Int32} (ok : gO X c_Mo_work "TripleStoreModel" w_Mo_work)  (kt : ¬ x1 = 4 → gg X M k n 101 [(0, .ref x0), (1, .int x1)] []) (kf : x1 = 4 → gg X M k n 93 [(0, .ref x0)] []) : gg X M k n 88 [(0, .ref x0), (1, .int x1)] [] := by
  refine g_iload_n ok d_Mo_work_88 rfl (j := 1) rfl ?_
  refine g_iconst (v := 4) ok d_Mo_work_89 (by decide) ?_
  exact g_icmp_ne (tgt := 101) ok d_Mo_work_90 (by decide) (fun z => (kt z)) (fun z => (gg_keep [0] (kf z)))
theorem k_Mo_work_93 {X : gC} {M : List mC} {k n : Nat} {x0 : Nat} {fs2 : List Value} (ok : gO X c_Mo_work "TripleStoreModel" w_Mo_work) (h1 : M[x0]? = some (.inr (10, fs2))) {rm : Room} {post : Option Value → List mC → Prop} (hm : mm_ (gLa X) y_Mo_combine w_Mo_combine rm [.ref x0, .int 1] M post) (hR : gF X rm 8 k n) (hlen : ∀ r M', post r M' → M'.length = M.length) (kk : ∀ r M', post r M' → gg X M' (k + rm.cells) (n + rm.slots) 98 [] (r.toList ++ [])) : gg X M k n 93 [(0, .ref x0)] [] := by
  refine g_aload_n ok d_Mo_work_93 rfl (j := 0) rfl ?_
  refine g_iconst (v := 1) ok d_Mo_work_94 (by decide) ?_
  exact gc_Mo_341 (As := [.int 1]) (rest := []) ok d_Mo_work_95 hm rfl rfl (Nat.le_of_ble_eq_true rfl) hR h1 hlen (fun r M' q => (gg_keep [] (kk r M' q)))
theorem k_Mo_work_98 {X : gC} {M : List mC} {k n : Nat}  (ok : gO X c_Mo_work "TripleStoreModel" w_Mo_work)  (kk : gg X M k n 174 [] []) : gg X M k n 98 [] [] := by
  exact g_goto (tgt := 174) ok d_Mo_work_98 (by decide) kk
theorem k_Mo_work_101 {X : gC} {M : List mC} {k n : Nat} {x0 : Nat} {x1 : Int32} (ok : gO X c_Mo_work "TripleStoreModel" w_Mo_work)  (kt : ¬ x1 = 5 → gg X M k n 114 [(0, .ref x0), (1, .int x1)] []) (kf : x1 = 5 → gg X M k n 106 [(0, .ref x0)] []) : gg X M k n 101 [(0, .ref x0), (1, .int x1)] [] := by
  refine g_iload_n ok d_Mo_work_101 rfl (j := 1) rfl ?_
  refine g_iconst (v := 5) ok d_Mo_work_102 (by decide) ?_
  exact g_icmp_ne (tgt := 114) ok d_Mo_work_103 (by decide) (fun z => (kt z)) (fun z => (gg_keep [0] (kf z)))
theorem k_Mo_work_106 {X : gC} {M : List mC} {k n : Nat} {x0 : Nat} {fs2 : List Value} (ok : gO X c_Mo_work "TripleStoreModel" w_Mo_work) (h1 : M[x0]? = some (.inr (10, fs2))) {rm : Room} {post : Option Value → List mC → Prop} (hm : mm_ (gLa X) y_Mo_combine w_Mo_combine rm [.ref x0, .int 2] M post) (hR : gF X rm 8 k n) (hlen : ∀ r M', post r M' → M'.length = M.length) (kk : ∀ r M', post r M' → gg X M' (k + rm.cells) (n + rm.slots) 111 [] (r.toList ++ [])) : gg X M k n 106 [(0, .ref x0)] [] := by
  refine g_aload_n ok d_Mo_work_106 rfl (j := 0) rfl ?_
  refine g_iconst (v := 2) ok d_Mo_work_107 (by decide) ?_
  exact gc_Mo_341 (As := [.int 2]) (rest := []) ok d_Mo_work_108 hm rfl rfl (Nat.le_of_ble_eq_true rfl) hR h1 hlen (fun r M' q => (gg_keep [] (kk r M' q)))
theorem k_Mo_work_111 {X : gC} {M : List mC} {k n : Nat}  (ok : gO X c_Mo_work "TripleStoreModel" w_Mo_work)  (kk : gg X M k n 174 [] []) : gg X M k n 111 [] [] := by
  exact g_goto (tgt := 174) ok d_Mo_work_111 (by decide) kk
theorem k_Mo_work_114 {X : gC} {M : List mC} {k n : Nat} {x0 : Nat} {x1 : Int32} (ok : gO X c_Mo_work "TripleStoreModel" w_Mo_work)  (kt : ¬ x1 = 8 → gg X M k n 128 [(0, .ref x0)] []) (kf : x1 = 8 → gg X M k n 120 [(0, .ref x0)] []) : gg X M k n 114 [(0, .ref x0), (1, .int x1)] [] := by
  refine g_iload_n ok d_Mo_work_114 rfl (j := 1) rfl ?_
  refine g_bipush (v := 8) ok d_Mo_work_115 (by decide) ?_
  exact g_icmp_ne (tgt := 128) ok d_Mo_work_117 (by decide) (fun z => (gg_keep [0] (kt z))) (fun z => (gg_keep [0] (kf z)))
theorem k_Mo_work_120 {X : gC} {M : List mC} {k n : Nat} {x0 : Nat} {fs2 : List Value} (ok : gO X c_Mo_work "TripleStoreModel" w_Mo_work) (h1 : M[x0]? = some (.inr (10, fs2))) {rm : Room} {post : Option Value → List mC → Prop} (hm : mm_ (gLa X) y_Mo_combine w_Mo_combine rm [.ref x0, .int 0] M post) (hR : gF X rm 8 k n) (hlen : ∀ r M', post r M' → M'.length = M.length) (kk : ∀ r M', post r M' → gg X M' (k + rm.cells) (n + rm.slots) 125 [] (r.toList ++ [])) : gg X M k n 120 [(0, .ref x0)] [] := by
  refine g_aload_n ok d_Mo_work_120 rfl (j := 0) rfl ?_
  refine g_iconst (v := 0) ok d_Mo_work_121 (by decide) ?_
  exact gc_Mo_341 (As := [.int 0]) (rest := []) ok d_Mo_work_122 hm rfl rfl (Nat.le_of_ble_eq_true rfl) hR h1 hlen (fun r M' q => (gg_keep [] (kk r M' q)))
theorem k_Mo_work_125 {X : gC} {M : List mC} {k n : Nat}  (ok : gO X c_Mo_work "TripleStoreModel" w_Mo_work)  (kk : gg X M k n 174 [] []) : gg X M k n 125 [] [] := by
  exact g_goto (tgt := 174) ok d_Mo_work_125 (by decide) kk
theorem k_Mo_work_128 {X : gC} {M : List mC} {k n : Nat} {x0 : Nat} {fs2 : List Value} {f3 : Int32} {fs7 : List Value} {M9 : List mC} (ok : gO X c_Mo_work "TripleStoreModel" w_Mo_work) (hl : gL X = 4) (h1 : M[x0]? = some (.inr (10, fs2))) (h4 : fs2[50]? = some (.int f3)) (h6 : 59 ≤ fs2.length) (h8 : fs2.set 50 (.int (f3 - 1)) = fs7) (h10 : M.set x0 (.inr (10, fs7)) = M9) (kk : gg X M9 k n 140 [(0, .ref x0), (3, .int 0)] []) : gg X M k n 128 [(0, .ref x0)] [] := by
  refine g_aload_n ok d_Mo_work_128 rfl (j := 0) rfl ?_
  refine g_dup ok d_Mo_work_129 rfl ?_
  refine gf_Mo_318 ok d_Mo_work_130 h1 h4 ?_
  refine g_iconst (v := 1) ok d_Mo_work_133 (by decide) ?_
  refine g_isub ok d_Mo_work_134 ?_
  have h5 : 50 < fs2.length := Nat.lt_of_lt_of_le (by decide) h6
  refine pf_Mo_318 ok d_Mo_work_135 h1 h5 (fun _ => ⟨rfl, rfl⟩) ?_
  rw [h8]
  rw [h10]
  have h11 : M9[x0]? = some (.inr (10, fs7)) := by rw [← h10]; exact gs_eq h1
  have h12 : fs7[50]? = some (.int (f3 - 1)) := by rw [← h8]; exact List.getElem?_set_self h5
  have h13 : 59 ≤ fs7.length := by rw [← h8, List.length_set]; exact h6
  refine g_iconst (v := 0) ok d_Mo_work_138 (by decide) ?_
  refine g_istore_n (L' := [(0, .ref x0), (3, .int 0)]) ok d_Mo_work_139 rfl (by rw [hl]; decide) rfl ?_
  exact kk
theorem k_Mo_work_140 {X : gC} {M : List mC} {k n : Nat} {x0 : Nat} {x3 : Int32} {fs2 : List Value} {f3 : Nat} {f5 : Int32} {g8 : Nat → Int32} {N9 : Nat} (ok : gO X c_Mo_work "TripleStoreModel" w_Mo_work) (h1 : M[x0]? = some (.inr (10, fs2))) (h4 : fs2[49]? = some (.ref f3)) (h6 : fs2[50]? = some (.int f5)) (h7 : M[f3]? = some (.inl (0, N9, .inl g8))) (h10 : vp_in f5 N9) (kt : (g8 f5.toNatClampNeg) ≤ x3 → gg X M k n 174 [] []) (kf : ¬ (g8 f5.toNatClampNeg) ≤ x3 → gg X M k n 153 [(0, .ref x0), (3, .int x3)] []) : gg X M k n 140 [(0, .ref x0), (3, .int x3)] [] := by
  refine g_iload_n ok d_Mo_work_140 rfl (j := 1) rfl ?_
  refine g_aload_n ok d_Mo_work_141 rfl (j := 0) rfl ?_
  refine gf_Mo_76 ok d_Mo_work_142 h1 h4 ?_
  refine g_aload_n ok d_Mo_work_145 rfl (j := 0) rfl ?_
  refine gf_Mo_318 ok d_Mo_work_146 h1 h6 ?_
  refine g_iald (t := 0) ok rfl d_Mo_work_149 h7 h10 ?_
  exact g_icmp_ge (tgt := 174) ok d_Mo_work_150 (by decide) (fun z => (gg_keep [] (kt z))) (fun z => (kf z))
theorem k_Mo_work_153 {X : gC} {M : List mC} {k n : Nat} {x0 : Nat} {x3 : Int32} {fs2 : List Value} {f3 : Int32} (ok : gO X c_Mo_work "TripleStoreModel" w_Mo_work) (h1 : M[x0]? = some (.inr (10, fs2))) (h4 : fs2[50]? = some (.int f3)) {rm : Room} {post : Option Value → List mC → Prop} (hm : mm_ (gLa X) y_Mo_addTo w_Mo_addTo rm [.ref x0, .int (f3 - 1), .int f3, .int x3] M post) (hR : gF X rm 6 k n) (hlen : ∀ r M', post r M' → M'.length = M.length) (kk : ∀ r M', post r M' → gg X M' (k + rm.cells) (n + rm.slots) 168 [(0, .ref x0), (3, .int x3)] (r.toList ++ [])) : gg X M k n 153 [(0, .ref x0), (3, .int x3)] [] := by
  refine g_aload_n ok d_Mo_work_153 rfl (j := 0) rfl ?_
  refine g_aload_n ok d_Mo_work_154 rfl (j := 0) rfl ?_
  refine gf_Mo_318 ok d_Mo_work_155 h1 h4 ?_
  refine g_iconst (v := 1) ok d_Mo_work_158 (by decide) ?_
  refine g_isub ok d_Mo_work_159 ?_
  refine g_aload_n ok d_Mo_work_160 rfl (j := 0) rfl ?_
  refine gf_Mo_318 ok d_Mo_work_161 h1 h4 ?_
  refine g_iload_n ok d_Mo_work_164 rfl (j := 1) rfl ?_
  exact gc_Mo_314 (As := [.int (f3 - 1), .int f3, .int x3]) (rest := []) ok d_Mo_work_165 hm rfl rfl (Nat.le_of_ble_eq_true rfl) hR h1 hlen kk
theorem k_Mo_work_168 {X : gC} {M : List mC} {k n : Nat} {x0 : Nat} {x3 : Int32} (ok : gO X c_Mo_work "TripleStoreModel" w_Mo_work) (hl : gL X = 4)  (kk : gg X M k n 140 [(0, .ref x0), (3, .int (x3 + 1))] []) : gg X M k n 168 [(0, .ref x0), (3, .int x3)] [] := by
  refine g_iinc (L' := [(0, .ref x0), (3, .int (x3 + 1))]) (v := (x3 + 1)) ok d_Mo_work_168 (j := 1) rfl rfl (by rw [hl]; decide) rfl ?_
  exact g_goto (tgt := 140) ok d_Mo_work_171 (by decide) kk
theorem k_Mo_work_174 {X : gC} {M : List mC} {k n : Nat}  (ok : gO X c_Mo_work "TripleStoreModel" w_Mo_work)  {l9 : Launch} {rm : Room} {M0 : List mC} {post : Option Value → List mC → Prop} (E : gE X l9 y_Mo_work rm 4 none M0 post) (hp : post (none) M) (hk : k ≤ rm.cells) (hn : n ≤ rm.slots) : gg X M k n 174 [] [] := by
  exact g_vret ok E d_Mo_work_174 hp hk hn
theorem k_Mo_by_0 {X : gC} {M : List mC} {k n : Nat} {x0 : Nat} {x1 : Int32} {x2 : Int32} {x3 : Int32} {fs2 : List Value} {f3 : Nat} {g6 : Nat → Int32} {N7 : Nat} (ok : gO X c_Mo_by "TripleStoreModel" w_Mo_by) (h1 : M[x0]? = some (.inr (10, fs2))) (h4 : fs2[48]? = some (.ref f3)) (h5 : M[f3]? = some (.inl (0, N7, .inl g6))) (h8 : vp_in x2 N7) (kt : ¬ (((g6 x2.toNatClampNeg) >>> (x1 &&& 31)) &&& 1) = 1 → gg X M k n 18 [(0, .ref x0), (1, .int x1), (2, .int x2), (3, .int x3)] []) (kf : (((g6 x2.toNatClampNeg) >>> (x1 &&& 31)) &&& 1) = 1 → gg X M k n 14 [(0, .ref x0), (1, .int x1), (2, .int x2), (3, .int x3)] []) : gg X M k n 0 [(0, .ref x0), (1, .int x1), (2, .int x2), (3, .int x3)] [] := by
  refine g_aload_n ok d_Mo_by_0 rfl (j := 0) rfl ?_
  refine gf_Mo_73 ok d_Mo_by_1 h1 h4 ?_
  refine g_iload_n ok d_Mo_by_4 rfl (j := 2) rfl ?_
  refine g_iald (t := 0) ok rfl d_Mo_by_5 h5 h8 ?_
  refine g_iload_n ok d_Mo_by_6 rfl (j := 1) rfl ?_
  refine g_ishr ok d_Mo_by_7 ?_
  refine g_iconst (v := 1) ok d_Mo_by_8 (by decide) ?_
  refine g_iand ok d_Mo_by_9 ?_
  refine g_iconst (v := 1) ok d_Mo_by_10 (by decide) ?_
  exact g_icmp_ne (tgt := 18) ok d_Mo_by_11 (by decide) (fun z => (kt z)) (fun z => (kf z))
theorem k_Mo_by_14 {X : gC} {M : List mC} {k n : Nat} {x0 : Nat} {x1 : Int32} {x2 : Int32} {x3 : Int32} (ok : gO X c_Mo_by "TripleStoreModel" w_Mo_by)  (kk : gg X M k n 19 [(0, .ref x0), (1, .int x1), (2, .int x2), (3, .int x3)] [.int 1]) : gg X M k n 14 [(0, .ref x0), (1, .int x1), (2, .int x2), (3, .int x3)] [] := by
  refine g_iconst (v := 1) ok d_Mo_by_14 (by decide) ?_
  exact g_goto (tgt := 19) ok d_Mo_by_15 (by decide) kk
theorem k_Mo_by_18 {X : gC} {M : List mC} {k n : Nat} {x0 : Nat} {x1 : Int32} {x2 : Int32} {x3 : Int32} (ok : gO X c_Mo_by "TripleStoreModel" w_Mo_by)  (kk : gg X M k n 19 [(0, .ref x0), (1, .int x1), (2, .int x2), (3, .int x3)] [.int 0]) : gg X M k n 18 [(0, .ref x0), (1, .int x1), (2, .int x2), (3, .int x3)] [] := by
  refine g_iconst (v := 0) ok d_Mo_by_18 (by decide) ?_
  exact kk
theorem k_Mo_by_19 {X : gC} {M : List mC} {k n : Nat} {x0 : Nat} {x1 : Int32} {x2 : Int32} {x3 : Int32} {s0 : Int32} {fs2 : List Value} {f3 : Nat} {g6 : Nat → Int32} {N7 : Nat} (ok : gO X c_Mo_by "TripleStoreModel" w_Mo_by) (hl : gL X = 6) (h1 : M[x0]? = some (.inr (10, fs2))) (h4 : fs2[48]? = some (.ref f3)) (h5 : M[f3]? = some (.inl (0, N7, .inl g6))) (h8 : vp_in x3 N7) (kt : ¬ (((g6 x3.toNatClampNeg) >>> (x1 &&& 31)) &&& 1) = 1 → gg X M k n 39 [(0, .ref x0), (1, .int x1), (2, .int x2), (3, .int x3), (4, .int s0)] []) (kf : (((g6 x3.toNatClampNeg) >>> (x1 &&& 31)) &&& 1) = 1 → gg X M k n 35 [(0, .ref x0), (1, .int x1), (2, .int x2), (3, .int x3), (4, .int s0)] []) : gg X M k n 19 [(0, .ref x0), (1, .int x1), (2, .int x2), (3, .int x3)] [.int s0] := by
  refine g_istore (L' := [(0, .ref x0), (1, .int x1), (2, .int x2), (3, .int x3), (4, .int s0)]) ok d_Mo_by_19 (by rw [hl]; decide) rfl ?_
  refine g_aload_n ok d_Mo_by_21 rfl (j := 0) rfl ?_
  refine gf_Mo_73 ok d_Mo_by_22 h1 h4 ?_
  refine g_iload_n ok d_Mo_by_25 rfl (j := 3) rfl ?_
  refine g_iald (t := 0) ok rfl d_Mo_by_26 h5 h8 ?_
  refine g_iload_n ok d_Mo_by_27 rfl (j := 1) rfl ?_
  refine g_ishr ok d_Mo_by_28 ?_
  refine g_iconst (v := 1) ok d_Mo_by_29 (by decide) ?_
  refine g_iand ok d_Mo_by_30 ?_
  refine g_iconst (v := 1) ok d_Mo_by_31 (by decide) ?_
  exact g_icmp_ne (tgt := 39) ok d_Mo_by_32 (by decide) (fun z => (kt z)) (fun z => (kf z))
theorem k_Mo_by_35 {X : gC} {M : List mC} {k n : Nat} {x0 : Nat} {x1 : Int32} {x2 : Int32} {x3 : Int32} {x4 : Int32} (ok : gO X c_Mo_by "TripleStoreModel" w_Mo_by)  (kk : gg X M k n 40 [(0, .ref x0), (1, .int x1), (2, .int x2), (3, .int x3), (4, .int x4)] [.int 1]) : gg X M k n 35 [(0, .ref x0), (1, .int x1), (2, .int x2), (3, .int x3), (4, .int x4)] [] := by
  refine g_iconst (v := 1) ok d_Mo_by_35 (by decide) ?_
  exact g_goto (tgt := 40) ok d_Mo_by_36 (by decide) kk
theorem k_Mo_by_39 {X : gC} {M : List mC} {k n : Nat} {x0 : Nat} {x1 : Int32} {x2 : Int32} {x3 : Int32} {x4 : Int32} (ok : gO X c_Mo_by "TripleStoreModel" w_Mo_by)  (kk : gg X M k n 40 [(0, .ref x0), (1, .int x1), (2, .int x2), (3, .int x3), (4, .int x4)] [.int 0]) : gg X M k n 39 [(0, .ref x0), (1, .int x1), (2, .int x2), (3, .int x3), (4, .int x4)] [] := by
  refine g_iconst (v := 0) ok d_Mo_by_39 (by decide) ?_
  exact kk
theorem k_Mo_by_40 {X : gC} {M : List mC} {k n : Nat} {x0 : Nat} {x1 : Int32} {x2 : Int32} {x3 : Int32} {x4 : Int32} {s0 : Int32} (ok : gO X c_Mo_by "TripleStoreModel" w_Mo_by) (hl : gL X = 6)  (kt : x4 = 0 → gg X M k n 52 [(4, .int x4), (5, .int s0)] []) (kf : ¬ x4 = 0 → gg X M k n 47 [(0, .ref x0), (1, .int x1), (2, .int x2), (3, .int x3), (4, .int x4), (5, .int s0)] []) : gg X M k n 40 [(0, .ref x0), (1, .int x1), (2, .int x2), (3, .int x3), (4, .int x4)] [.int s0] := by
  refine g_istore (L' := [(0, .ref x0), (1, .int x1), (2, .int x2), (3, .int x3), (4, .int x4), (5, .int s0)]) ok d_Mo_by_40 (by rw [hl]; decide) rfl ?_
  refine g_iload ok d_Mo_by_42 (j := 4) rfl ?_
  exact g_if_eq (tgt := 52) ok d_Mo_by_44 (by decide) (fun z => (gg_keep [4, 5] (kt z))) (fun z => (kf z))
theorem k_Mo_by_47 {X : gC} {M : List mC} {k n : Nat} {x0 : Nat} {x1 : Int32} {x2 : Int32} {x3 : Int32} {x4 : Int32} {x5 : Int32} (ok : gO X c_Mo_by "TripleStoreModel" w_Mo_by)  (kt : ¬ x5 = 0 → gg X M k n 76 [(0, .ref x0), (1, .int x1), (2, .int x2), (3, .int x3)] []) (kf : x5 = 0 → gg X M k n 52 [(4, .int x4), (5, .int x5)] []) : gg X M k n 47 [(0, .ref x0), (1, .int x1), (2, .int x2), (3, .int x3), (4, .int x4), (5, .int x5)] [] := by
  refine g_iload ok d_Mo_by_47 (j := 5) rfl ?_
  exact g_if_ne (tgt := 76) ok d_Mo_by_49 (by decide) (fun z => (gg_keep [0, 1, 2, 3] (kt z))) (fun z => (gg_keep [4, 5] (kf z)))
theorem k_Mo_by_52 {X : gC} {M : List mC} {k n : Nat} {x4 : Int32} {x5 : Int32} (ok : gO X c_Mo_by "TripleStoreModel" w_Mo_by)  (kt : x4 = 0 → gg X M k n 61 [(5, .int x5)] []) (kf : ¬ x4 = 0 → gg X M k n 57 [(5, .int x5)] []) : gg X M k n 52 [(4, .int x4), (5, .int x5)] [] := by
  refine g_iload ok d_Mo_by_52 (j := 0) rfl ?_
  exact g_if_eq (tgt := 61) ok d_Mo_by_54 (by decide) (fun z => (gg_keep [5] (kt z))) (fun z => (gg_keep [5] (kf z)))
theorem k_Mo_by_57 {X : gC} {M : List mC} {k n : Nat} {x5 : Int32} (ok : gO X c_Mo_by "TripleStoreModel" w_Mo_by)  (kk : gg X M k n 62 [(5, .int x5)] [.int 1]) : gg X M k n 57 [(5, .int x5)] [] := by
  refine g_iconst (v := 1) ok d_Mo_by_57 (by decide) ?_
  exact g_goto (tgt := 62) ok d_Mo_by_58 (by decide) kk
theorem k_Mo_by_61 {X : gC} {M : List mC} {k n : Nat} {x5 : Int32} (ok : gO X c_Mo_by "TripleStoreModel" w_Mo_by)  (kk : gg X M k n 62 [(5, .int x5)] [.int 0]) : gg X M k n 61 [(5, .int x5)] [] := by
  refine g_iconst (v := 0) ok d_Mo_by_61 (by decide) ?_
  exact kk
theorem k_Mo_by_62 {X : gC} {M : List mC} {k n : Nat} {x5 : Int32} {s0 : Int32} (ok : gO X c_Mo_by "TripleStoreModel" w_Mo_by)  (kt : x5 = 0 → gg X M k n 71 [] [.int s0]) (kf : ¬ x5 = 0 → gg X M k n 67 [] [.int s0]) : gg X M k n 62 [(5, .int x5)] [.int s0] := by
  refine g_iload ok d_Mo_by_62 (j := 0) rfl ?_
  exact g_if_eq (tgt := 71) ok d_Mo_by_64 (by decide) (fun z => (gg_keep [] (kt z))) (fun z => (gg_keep [] (kf z)))
theorem k_Mo_by_67 {X : gC} {M : List mC} {k n : Nat} {s0 : Int32} (ok : gO X c_Mo_by "TripleStoreModel" w_Mo_by)  (kk : gg X M k n 72 [] [.int 1, .int s0]) : gg X M k n 67 [] [.int s0] := by
  refine g_iconst (v := 1) ok d_Mo_by_67 (by decide) ?_
  exact g_goto (tgt := 72) ok d_Mo_by_68 (by decide) kk
theorem k_Mo_by_71 {X : gC} {M : List mC} {k n : Nat} {s0 : Int32} (ok : gO X c_Mo_by "TripleStoreModel" w_Mo_by)  (kk : gg X M k n 72 [] [.int 0, .int s0]) : gg X M k n 71 [] [.int s0] := by
  refine g_iconst (v := 0) ok d_Mo_by_71 (by decide) ?_
  exact kk
theorem k_Mo_by_72 {X : gC} {M : List mC} {k n : Nat} {s0 : Int32} {s1 : Int32} (ok : gO X c_Mo_by "TripleStoreModel" w_Mo_by)  (kk : gg X M k n 101 [] [.int (s0 - s1)]) : gg X M k n 72 [] [.int s1, .int s0] := by
  refine g_isub ok d_Mo_by_72 ?_
  exact g_goto (tgt := 101) ok d_Mo_by_73 (by decide) kk
theorem k_Mo_by_76 {X : gC} {M : List mC} {k n : Nat} {x0 : Nat} {x1 : Int32} {x2 : Int32} {x3 : Int32} {fs2 : List Value} {f3 : Nat} {g6 : Nat → Int64} {N7 : Nat} (ok : gO X c_Mo_by "TripleStoreModel" w_Mo_by) (h1 : M[x0]? = some (.inr (10, fs2))) (h4 : fs2[47]? = some (.ref f3)) (h5 : M[f3]? = some (.inl (1, N7, .inr (.inl g6)))) (h8 : vp_in ((6 * x2) + x1) N7) (h9 : vp_in ((6 * x3) + x1) N7) {rm : Room} {post : Option Value → List mC → Prop} (hm : mm_ (gLa X) y_Mo_compare w_Mo_compare rm [.long (g6 ((6 * x2) + x1).toNatClampNeg), .long (g6 ((6 * x3) + x1).toNatClampNeg)] M post) (hR : gF X rm 8 k n) (hlen : ∀ r M', post r M' → M'.length = M.length) (kk : ∀ r M', post r M' → gg X M' (k + rm.cells) (n + rm.slots) 101 [] (r.toList ++ [])) : gg X M k n 76 [(0, .ref x0), (1, .int x1), (2, .int x2), (3, .int x3)] [] := by
  refine g_aload_n ok d_Mo_by_76 rfl (j := 0) rfl ?_
  refine gf_Mo_70 ok d_Mo_by_77 h1 h4 ?_
  refine g_bipush (v := 6) ok d_Mo_by_80 (by decide) ?_
  refine g_iload_n ok d_Mo_by_82 rfl (j := 2) rfl ?_
  refine g_imul ok d_Mo_by_83 ?_
  refine g_iload_n ok d_Mo_by_84 rfl (j := 1) rfl ?_
  refine g_iadd ok d_Mo_by_85 ?_
  refine g_lald (t := 1) ok rfl d_Mo_by_86 h5 h8 ?_
  refine g_aload_n ok d_Mo_by_87 rfl (j := 0) rfl ?_
  refine gf_Mo_70 ok d_Mo_by_88 h1 h4 ?_
  refine g_bipush (v := 6) ok d_Mo_by_91 (by decide) ?_
  refine g_iload_n ok d_Mo_by_93 rfl (j := 3) rfl ?_
  refine g_imul ok d_Mo_by_94 ?_
  refine g_iload_n ok d_Mo_by_95 rfl (j := 1) rfl ?_
  refine g_iadd ok d_Mo_by_96 ?_
  refine g_lald (t := 1) ok rfl d_Mo_by_97 h5 h9 ?_
  exact gc_Mo_332 (As := [.long (g6 ((6 * x2) + x1).toNatClampNeg), .long (g6 ((6 * x3) + x1).toNatClampNeg)]) (rest := []) ok d_Mo_by_98 hm rfl rfl (Nat.le_of_ble_eq_true rfl) hR hlen (fun r M' q => (gg_keep [] (kk r M' q)))
theorem k_Mo_by_101 {X : gC} {M : List mC} {k n : Nat} {s0 : Int32} (ok : gO X c_Mo_by "TripleStoreModel" w_Mo_by)  {l9 : Launch} {rm : Room} {M0 : List mC} {post : Option Value → List mC → Prop} (E : gE X l9 y_Mo_by rm 6 (some .int) M0 post) (hp : post (some (.int s0)) M) (hk : k ≤ rm.cells) (hn : n ≤ rm.slots) : gg X M k n 101 [] [.int s0] := by
  exact g_iret ok E d_Mo_by_101 hp hk hn
theorem k_Mo_byTerms_0 {X : gC} {M : List mC} {k n : Nat} {x0 : Nat} {x1 : Int32} {x2 : Int32} (ok : gO X c_Mo_byTerms "TripleStoreModel" w_Mo_byTerms) (hl : gL X = 5)  (kk : gg X M k n 5 [(0, .ref x0), (1, .int x1), (2, .int x2), (3, .int 0), (4, .int 0)] []) : gg X M k n 0 [(0, .ref x0), (1, .int x1), (2, .int x2)] [] := by
  refine g_iconst (v := 0) ok d_Mo_byTerms_0 (by decide) ?_
  refine g_istore_n (L' := [(0, .ref x0), (1, .int x1), (2, .int x2), (3, .int 0)]) ok d_Mo_byTerms_1 rfl (by rw [hl]; decide) rfl ?_
  refine g_iconst (v := 0) ok d_Mo_byTerms_2 (by decide) ?_
  refine g_istore (L' := [(0, .ref x0), (1, .int x1), (2, .int x2), (3, .int 0), (4, .int 0)]) ok d_Mo_byTerms_3 (by rw [hl]; decide) rfl ?_
  exact kk
theorem k_Mo_byTerms_5 {X : gC} {M : List mC} {k n : Nat} {x0 : Nat} {x1 : Int32} {x2 : Int32} {x3 : Int32} {x4 : Int32} {fs2 : List Value} {f3 : Int32} (ok : gO X c_Mo_byTerms "TripleStoreModel" w_Mo_byTerms) (h1 : M[x0]? = some (.inr (10, fs2))) (h4 : fs2[41]? = some (.int f3)) (kt : f3 ≤ x4 → gg X M k n 38 [(3, .int x3)] []) (kf : ¬ f3 ≤ x4 → gg X M k n 14 [(0, .ref x0), (1, .int x1), (2, .int x2), (3, .int x3), (4, .int x4)] []) : gg X M k n 5 [(0, .ref x0), (1, .int x1), (2, .int x2), (3, .int x3), (4, .int x4)] [] := by
  refine g_iload ok d_Mo_byTerms_5 (j := 4) rfl ?_
  refine g_aload_n ok d_Mo_byTerms_7 rfl (j := 0) rfl ?_
  refine gf_Mo_296 ok d_Mo_byTerms_8 h1 h4 ?_
  exact g_icmp_ge (tgt := 38) ok d_Mo_byTerms_11 (by decide) (fun z => (gg_keep [3] (kt z))) (fun z => (kf z))
theorem k_Mo_byTerms_14 {X : gC} {M : List mC} {k n : Nat} {x0 : Nat} {x1 : Int32} {x2 : Int32} {x3 : Int32} {x4 : Int32} (ok : gO X c_Mo_byTerms "TripleStoreModel" w_Mo_byTerms)  (kt : ¬ x3 = 0 → gg X M k n 38 [(3, .int x3)] []) (kf : x3 = 0 → gg X M k n 18 [(0, .ref x0), (1, .int x1), (2, .int x2), (4, .int x4)] []) : gg X M k n 14 [(0, .ref x0), (1, .int x1), (2, .int x2), (3, .int x3), (4, .int x4)] [] := by
  refine g_iload_n ok d_Mo_byTerms_14 rfl (j := 3) rfl ?_
  exact g_if_ne (tgt := 38) ok d_Mo_byTerms_15 (by decide) (fun z => (gg_keep [3] (kt z))) (fun z => (gg_keep [0, 1, 2, 4] (kf z)))
theorem k_Mo_byTerms_18 {X : gC} {M : List mC} {k n : Nat} {x0 : Nat} {x1 : Int32} {x2 : Int32} {x4 : Int32} {fs2 : List Value} {f3 : Nat} {g6 : Nat → Int32} {N7 : Nat} (ok : gO X c_Mo_byTerms "TripleStoreModel" w_Mo_byTerms) (h1 : M[x0]? = some (.inr (10, fs2))) (h4 : fs2[40]? = some (.ref f3)) (h5 : M[f3]? = some (.inl (0, N7, .inl g6))) (h8 : vp_in x4 N7) {rm : Room} {post : Option Value → List mC → Prop} (hm : mm_ (gLa X) y_Mo_by w_Mo_by rm [.ref x0, .int (g6 x4.toNatClampNeg), .int x1, .int x2] M post) (hR : gF X rm 6 k n) (hlen : ∀ r M', post r M' → M'.length = M.length) (kk : ∀ r M', post r M' → gg X M' (k + rm.cells) (n + rm.slots) 31 [(0, .ref x0), (1, .int x1), (2, .int x2), (4, .int x4)] (r.toList ++ [])) : gg X M k n 18 [(0, .ref x0), (1, .int x1), (2, .int x2), (4, .int x4)] [] := by
  refine g_aload_n ok d_Mo_byTerms_18 rfl (j := 0) rfl ?_
  refine g_aload_n ok d_Mo_byTerms_19 rfl (j := 0) rfl ?_
  refine gf_Mo_64 ok d_Mo_byTerms_20 h1 h4 ?_
  refine g_iload ok d_Mo_byTerms_23 (j := 3) rfl ?_
  refine g_iald (t := 0) ok rfl d_Mo_byTerms_25 h5 h8 ?_
  refine g_iload_n ok d_Mo_byTerms_26 rfl (j := 1) rfl ?_
  refine g_iload_n ok d_Mo_byTerms_27 rfl (j := 2) rfl ?_
  exact gc_Mo_347 (As := [.int (g6 x4.toNatClampNeg), .int x1, .int x2]) (rest := []) ok d_Mo_byTerms_28 hm rfl rfl (Nat.le_of_ble_eq_true rfl) hR h1 hlen kk
theorem k_Mo_byTerms_31 {X : gC} {M : List mC} {k n : Nat} {x0 : Nat} {x1 : Int32} {x2 : Int32} {x4 : Int32} {s0 : Int32} (ok : gO X c_Mo_byTerms "TripleStoreModel" w_Mo_byTerms) (hl : gL X = 5)  (kk : gg X M k n 5 [(0, .ref x0), (1, .int x1), (2, .int x2), (3, .int s0), (4, .int (x4 + 1))] []) : gg X M k n 31 [(0, .ref x0), (1, .int x1), (2, .int x2), (4, .int x4)] [.int s0] := by
  refine g_istore_n (L' := [(0, .ref x0), (1, .int x1), (2, .int x2), (3, .int s0), (4, .int x4)]) ok d_Mo_byTerms_31 rfl (by rw [hl]; decide) rfl ?_
  refine g_iinc (L' := [(0, .ref x0), (1, .int x1), (2, .int x2), (3, .int s0), (4, .int (x4 + 1))]) (v := (x4 + 1)) ok d_Mo_byTerms_32 (j := 4) rfl rfl (by rw [hl]; decide) rfl ?_
  exact g_goto (tgt := 5) ok d_Mo_byTerms_35 (by decide) kk
theorem k_Mo_byTerms_38 {X : gC} {M : List mC} {k n : Nat} {x3 : Int32} (ok : gO X c_Mo_byTerms "TripleStoreModel" w_Mo_byTerms)  {l9 : Launch} {rm : Room} {M0 : List mC} {post : Option Value → List mC → Prop} (E : gE X l9 y_Mo_byTerms rm 5 (some .int) M0 post) (hp : post (some (.int x3)) M) (hk : k ≤ rm.cells) (hn : n ≤ rm.slots) : gg X M k n 38 [(3, .int x3)] [] := by
  refine g_iload_n ok d_Mo_byTerms_38 rfl (j := 0) rfl ?_
  exact g_iret ok E d_Mo_byTerms_39 hp hk hn
theorem k_Mo_before_0 {X : gC} {M : List mC} {k n : Nat} {x0 : Nat} {x1 : Int32} {x2 : Int32} {fs2 : List Value} {f3 : Int32} (ok : gO X c_Mo_before "TripleStoreModel" w_Mo_before) (h1 : M[x0]? = some (.inr (10, fs2))) (h4 : fs2[44]? = some (.int f3)) (kt : 0 ≤ f3 → gg X M k n 11 [(0, .ref x0), (1, .int x1), (2, .int x2)] []) (kf : ¬ 0 ≤ f3 → gg X M k n 7 [(0, .ref x0), (1, .int x1), (2, .int x2)] []) : gg X M k n 0 [(0, .ref x0), (1, .int x1), (2, .int x2)] [] := by
  refine g_aload_n ok d_Mo_before_0 rfl (j := 0) rfl ?_
  refine gf_Mo_302 ok d_Mo_before_1 h1 h4 ?_
  exact g_if_ge (tgt := 11) ok d_Mo_before_4 (by decide) (fun z => (kt z)) (fun z => (kf z))
theorem k_Mo_before_7 {X : gC} {M : List mC} {k n : Nat} {x0 : Nat} {x1 : Int32} {x2 : Int32} (ok : gO X c_Mo_before "TripleStoreModel" w_Mo_before)  (kk : gg X M k n 21 [(0, .ref x0), (1, .int x1), (2, .int x2)] [.int 0]) : gg X M k n 7 [(0, .ref x0), (1, .int x1), (2, .int x2)] [] := by
  refine g_iconst (v := 0) ok d_Mo_before_7 (by decide) ?_
  exact g_goto (tgt := 21) ok d_Mo_before_8 (by decide) kk
theorem k_Mo_before_11 {X : gC} {M : List mC} {k n : Nat} {x0 : Nat} {x1 : Int32} {x2 : Int32} {fs2 : List Value} {f3 : Int32} (ok : gO X c_Mo_before "TripleStoreModel" w_Mo_before) (h1 : M[x0]? = some (.inr (10, fs2))) (h4 : fs2[44]? = some (.int f3)) {rm : Room} {post : Option Value → List mC → Prop} (hm : mm_ (gLa X) y_Mo_by w_Mo_by rm [.ref x0, .int f3, .int x1, .int x2] M post) (hR : gF X rm 6 k n) (hlen : ∀ r M', post r M' → M'.length = M.length) (kk : ∀ r M', post r M' → gg X M' (k + rm.cells) (n + rm.slots) 21 [(0, .ref x0), (1, .int x1), (2, .int x2)] (r.toList ++ [])) : gg X M k n 11 [(0, .ref x0), (1, .int x1), (2, .int x2)] [] := by
  refine g_aload_n ok d_Mo_before_11 rfl (j := 0) rfl ?_
  refine g_aload_n ok d_Mo_before_12 rfl (j := 0) rfl ?_
  refine gf_Mo_302 ok d_Mo_before_13 h1 h4 ?_
  refine g_iload_n ok d_Mo_before_16 rfl (j := 1) rfl ?_
  refine g_iload_n ok d_Mo_before_17 rfl (j := 2) rfl ?_
  exact gc_Mo_347 (As := [.int f3, .int x1, .int x2]) (rest := []) ok d_Mo_before_18 hm rfl rfl (Nat.le_of_ble_eq_true rfl) hR h1 hlen kk
theorem k_Mo_before_21 {X : gC} {M : List mC} {k n : Nat} {x0 : Nat} {x1 : Int32} {x2 : Int32} {s0 : Int32} {fs2 : List Value} {f3 : Int32} (ok : gO X c_Mo_before "TripleStoreModel" w_Mo_before) (hl : gL X = 4) (h1 : M[x0]? = some (.inr (10, fs2))) (h4 : fs2[45]? = some (.int f3)) (kt : f3 = 0 → gg X M k n 32 [(0, .ref x0), (1, .int x1), (2, .int x2), (3, .int s0)] []) (kf : ¬ f3 = 0 → gg X M k n 29 [(0, .ref x0), (1, .int x1), (2, .int x2), (3, .int s0)] []) : gg X M k n 21 [(0, .ref x0), (1, .int x1), (2, .int x2)] [.int s0] := by
  refine g_istore_n (L' := [(0, .ref x0), (1, .int x1), (2, .int x2), (3, .int s0)]) ok d_Mo_before_21 rfl (by rw [hl]; decide) rfl ?_
  refine g_aload_n ok d_Mo_before_22 rfl (j := 0) rfl ?_
  refine gf_Mo_305 ok d_Mo_before_23 h1 h4 ?_
  exact g_if_eq (tgt := 32) ok d_Mo_before_26 (by decide) (fun z => (kt z)) (fun z => (kf z))
theorem k_Mo_before_29 {X : gC} {M : List mC} {k n : Nat} {x0 : Nat} {x1 : Int32} {x2 : Int32} {x3 : Int32} (ok : gO X c_Mo_before "TripleStoreModel" w_Mo_before) (hl : gL X = 4)  (kk : gg X M k n 32 [(0, .ref x0), (1, .int x1), (2, .int x2), (3, .int (-x3))] []) : gg X M k n 29 [(0, .ref x0), (1, .int x1), (2, .int x2), (3, .int x3)] [] := by
  refine g_iload_n ok d_Mo_before_29 rfl (j := 3) rfl ?_
  refine g_ineg ok d_Mo_before_30 ?_
  refine g_istore_n (L' := [(0, .ref x0), (1, .int x1), (2, .int x2), (3, .int (-x3))]) ok d_Mo_before_31 rfl (by rw [hl]; decide) rfl ?_
  exact kk
theorem k_Mo_before_32 {X : gC} {M : List mC} {k n : Nat} {x0 : Nat} {x1 : Int32} {x2 : Int32} {x3 : Int32} (ok : gO X c_Mo_before "TripleStoreModel" w_Mo_before)  (kt : ¬ x3 = 0 → gg X M k n 43 [(3, .int x3)] []) (kf : x3 = 0 → gg X M k n 36 [(0, .ref x0), (1, .int x1), (2, .int x2)] []) : gg X M k n 32 [(0, .ref x0), (1, .int x1), (2, .int x2), (3, .int x3)] [] := by
  refine g_iload_n ok d_Mo_before_32 rfl (j := 3) rfl ?_
  exact g_if_ne (tgt := 43) ok d_Mo_before_33 (by decide) (fun z => (gg_keep [3] (kt z))) (fun z => (gg_keep [0, 1, 2] (kf z)))
theorem k_Mo_before_36 {X : gC} {M : List mC} {k n : Nat} {x0 : Nat} {x1 : Int32} {x2 : Int32} {fs2 : List Value} (ok : gO X c_Mo_before "TripleStoreModel" w_Mo_before) (h1 : M[x0]? = some (.inr (10, fs2))) {rm : Room} {post : Option Value → List mC → Prop} (hm : mm_ (gLa X) y_Mo_byTerms w_Mo_byTerms rm [.ref x0, .int x1, .int x2] M post) (hR : gF X rm 5 k n) (hlen : ∀ r M', post r M' → M'.length = M.length) (kk : ∀ r M', post r M' → gg X M' (k + rm.cells) (n + rm.slots) 42 [] (r.toList ++ [])) : gg X M k n 36 [(0, .ref x0), (1, .int x1), (2, .int x2)] [] := by
  refine g_aload_n ok d_Mo_before_36 rfl (j := 0) rfl ?_
  refine g_iload_n ok d_Mo_before_37 rfl (j := 1) rfl ?_
  refine g_iload_n ok d_Mo_before_38 rfl (j := 2) rfl ?_
  exact gc_Mo_351 (As := [.int x1, .int x2]) (rest := []) ok d_Mo_before_39 hm rfl rfl (Nat.le_of_ble_eq_true rfl) hR h1 hlen (fun r M' q => (gg_keep [] (kk r M' q)))
theorem k_Mo_before_42 {X : gC} {M : List mC} {k n : Nat} {s0 : Int32} (ok : gO X c_Mo_before "TripleStoreModel" w_Mo_before) (hl : gL X = 4)  (kk : gg X M k n 43 [(3, .int s0)] []) : gg X M k n 42 [] [.int s0] := by
  refine g_istore_n (L' := [(3, .int s0)]) ok d_Mo_before_42 rfl (by rw [hl]; decide) rfl ?_
  exact kk
theorem k_Mo_before_43 {X : gC} {M : List mC} {k n : Nat} {x3 : Int32} (ok : gO X c_Mo_before "TripleStoreModel" w_Mo_before)  (kt : 0 ≤ x3 → gg X M k n 51 [] []) (kf : ¬ 0 ≤ x3 → gg X M k n 47 [] []) : gg X M k n 43 [(3, .int x3)] [] := by
  refine g_iload_n ok d_Mo_before_43 rfl (j := 0) rfl ?_
  exact g_if_ge (tgt := 51) ok d_Mo_before_44 (by decide) (fun z => (gg_keep [] (kt z))) (fun z => (gg_keep [] (kf z)))
theorem k_Mo_before_47 {X : gC} {M : List mC} {k n : Nat}  (ok : gO X c_Mo_before "TripleStoreModel" w_Mo_before)  (kk : gg X M k n 52 [] [.int 1]) : gg X M k n 47 [] [] := by
  refine g_iconst (v := 1) ok d_Mo_before_47 (by decide) ?_
  exact g_goto (tgt := 52) ok d_Mo_before_48 (by decide) kk
theorem k_Mo_before_51 {X : gC} {M : List mC} {k n : Nat}  (ok : gO X c_Mo_before "TripleStoreModel" w_Mo_before)  (kk : gg X M k n 52 [] [.int 0]) : gg X M k n 51 [] [] := by
  refine g_iconst (v := 0) ok d_Mo_before_51 (by decide) ?_
  exact kk
theorem k_Mo_before_52 {X : gC} {M : List mC} {k n : Nat} {s0 : Int32} (ok : gO X c_Mo_before "TripleStoreModel" w_Mo_before)  {l9 : Launch} {rm : Room} {M0 : List mC} {post : Option Value → List mC → Prop} (E : gE X l9 y_Mo_before rm 4 (some .boolean) M0 post) (hz : narrow .boolean (.int s0) = .int s0) (hp : post (some (.int s0)) M) (hk : k ≤ rm.cells) (hn : n ≤ rm.slots) : gg X M k n 52 [] [.int s0] := by
  exact g_zret ok E d_Mo_before_52 hz hp hk hn
theorem k_Mo_makeRows_0 {X : gC} {M : List mC} {k n : Nat} {x0 : Nat} {fs2 : List Value} {f3 : Nat} {g6 : Nat → Int32} {N7 : Nat} (ok : gO X c_Mo_makeRows "TripleStoreModel" w_Mo_makeRows) (hl : gL X = 5) (h1 : M[x0]? = some (.inr (10, fs2))) (h4 : fs2[49]? = some (.ref f3)) (h5 : M[f3]? = some (.inl (0, N7, .inl g6))) (h8 : vp_in 0 N7) (kk : gg X M k n 9 [(0, .ref x0), (1, .int (g6 (0 : Int32).toNatClampNeg)), (2, .int 0)] []) : gg X M k n 0 [(0, .ref x0)] [] := by
  refine g_aload_n ok d_Mo_makeRows_0 rfl (j := 0) rfl ?_
  refine gf_Mo_76 ok d_Mo_makeRows_1 h1 h4 ?_
  refine g_iconst (v := 0) ok d_Mo_makeRows_4 (by decide) ?_
  refine g_iald (t := 0) ok rfl d_Mo_makeRows_5 h5 h8 ?_
  refine g_istore_n (L' := [(0, .ref x0), (1, .int (g6 (0 : Int32).toNatClampNeg))]) ok d_Mo_makeRows_6 rfl (by rw [hl]; decide) rfl ?_
  refine g_iconst (v := 0) ok d_Mo_makeRows_7 (by decide) ?_
  refine g_istore_n (L' := [(0, .ref x0), (1, .int (g6 (0 : Int32).toNatClampNeg)), (2, .int 0)]) ok d_Mo_makeRows_8 rfl (by rw [hl]; decide) rfl ?_
  exact kk
theorem k_Mo_makeRows_9 {X : gC} {M : List mC} {k n : Nat} {x0 : Nat} {x1 : Int32} {x2 : Int32} (ok : gO X c_Mo_makeRows "TripleStoreModel" w_Mo_makeRows)  (kt : x1 ≤ x2 → gg X M k n 69 [(0, .ref x0), (1, .int x1)] []) (kf : ¬ x1 ≤ x2 → gg X M k n 14 [(0, .ref x0), (1, .int x1), (2, .int x2)] []) : gg X M k n 9 [(0, .ref x0), (1, .int x1), (2, .int x2)] [] := by
  refine g_iload_n ok d_Mo_makeRows_9 rfl (j := 2) rfl ?_
  refine g_iload_n ok d_Mo_makeRows_10 rfl (j := 1) rfl ?_
  exact g_icmp_ge (tgt := 69) ok d_Mo_makeRows_11 (by decide) (fun z => (gg_keep [0, 1] (kt z))) (fun z => (kf z))
theorem k_Mo_makeRows_14 {X : gC} {M : List mC} {k n : Nat} {x0 : Nat} {x1 : Int32} {x2 : Int32} (ok : gO X c_Mo_makeRows "TripleStoreModel" w_Mo_makeRows) (hl : gL X = 5)  (kk : gg X M k n 16 [(0, .ref x0), (1, .int x1), (2, .int x2), (3, .int x2)] []) : gg X M k n 14 [(0, .ref x0), (1, .int x1), (2, .int x2)] [] := by
  refine g_iload_n ok d_Mo_makeRows_14 rfl (j := 2) rfl ?_
  refine g_istore_n (L' := [(0, .ref x0), (1, .int x1), (2, .int x2), (3, .int x2)]) ok d_Mo_makeRows_15 rfl (by rw [hl]; decide) rfl ?_
  exact kk
theorem k_Mo_makeRows_16 {X : gC} {M : List mC} {k n : Nat} {x0 : Nat} {x1 : Int32} {x2 : Int32} {x3 : Int32} (ok : gO X c_Mo_makeRows "TripleStoreModel" w_Mo_makeRows)  (kt : x3 ≤ 0 → gg X M k n 56 [(0, .ref x0), (1, .int x1), (2, .int x2), (3, .int x3)] []) (kf : ¬ x3 ≤ 0 → gg X M k n 20 [(0, .ref x0), (1, .int x1), (2, .int x2), (3, .int x3)] []) : gg X M k n 16 [(0, .ref x0), (1, .int x1), (2, .int x2), (3, .int x3)] [] := by
  refine g_iload_n ok d_Mo_makeRows_16 rfl (j := 3) rfl ?_
  exact g_if_le (tgt := 56) ok d_Mo_makeRows_17 (by decide) (fun z => (kt z)) (fun z => (kf z))
theorem k_Mo_makeRows_20 {X : gC} {M : List mC} {k n : Nat} {x0 : Nat} {x1 : Int32} {x2 : Int32} {x3 : Int32} {fs2 : List Value} {f3 : Nat} {g6 : Nat → Int32} {N7 : Nat} (ok : gO X c_Mo_makeRows "TripleStoreModel" w_Mo_makeRows) (h1 : M[x0]? = some (.inr (10, fs2))) (h4 : fs2[54]? = some (.ref f3)) (h5 : M[f3]? = some (.inl (0, N7, .inl g6))) (h8 : vp_in (x3 - 1) N7) {rm : Room} {post : Option Value → List mC → Prop} (hm : mm_ (gLa X) y_Mo_before w_Mo_before rm [.ref x0, .int x2, .int (g6 (x3 - 1).toNatClampNeg)] M post) (hR : gF X rm 4 k n) (hlen : ∀ r M', post r M' → M'.length = M.length) (kk : ∀ r M', post r M' → gg X M' (k + rm.cells) (n + rm.slots) 33 [(0, .ref x0), (1, .int x1), (2, .int x2), (3, .int x3)] (r.toList ++ [])) : gg X M k n 20 [(0, .ref x0), (1, .int x1), (2, .int x2), (3, .int x3)] [] := by
  refine g_aload_n ok d_Mo_makeRows_20 rfl (j := 0) rfl ?_
  refine g_iload_n ok d_Mo_makeRows_21 rfl (j := 2) rfl ?_
  refine g_aload_n ok d_Mo_makeRows_22 rfl (j := 0) rfl ?_
  refine gf_Mo_85 ok d_Mo_makeRows_23 h1 h4 ?_
  refine g_iload_n ok d_Mo_makeRows_26 rfl (j := 3) rfl ?_
  refine g_iconst (v := 1) ok d_Mo_makeRows_27 (by decide) ?_
  refine g_isub ok d_Mo_makeRows_28 ?_
  refine g_iald (t := 0) ok rfl d_Mo_makeRows_29 h5 h8 ?_
  exact gc_Mo_355 (As := [.int x2, .int (g6 (x3 - 1).toNatClampNeg)]) (rest := []) ok d_Mo_makeRows_30 hm rfl rfl (Nat.le_of_ble_eq_true rfl) hR h1 hlen kk
theorem k_Mo_makeRows_33 {X : gC} {M : List mC} {k n : Nat} {x0 : Nat} {x1 : Int32} {x2 : Int32} {x3 : Int32} {s0 : Int32} (ok : gO X c_Mo_makeRows "TripleStoreModel" w_Mo_makeRows)  (kt : s0 = 0 → gg X M k n 56 [(0, .ref x0), (1, .int x1), (2, .int x2), (3, .int x3)] []) (kf : ¬ s0 = 0 → gg X M k n 36 [(0, .ref x0), (1, .int x1), (2, .int x2), (3, .int x3)] []) : gg X M k n 33 [(0, .ref x0), (1, .int x1), (2, .int x2), (3, .int x3)] [.int s0] := by
  exact g_if_eq (tgt := 56) ok d_Mo_makeRows_33 (by decide) (fun z => (kt z)) (fun z => (kf z))
theorem k_Mo_makeRows_36 {X : gC} {M : List mC} {k n : Nat} {x0 : Nat} {x1 : Int32} {x2 : Int32} {x3 : Int32} {fs2 : List Value} {f3 : Nat} {g6 : Nat → Int32} {N7 : Nat} {M10 : List mC} (ok : gO X c_Mo_makeRows "TripleStoreModel" w_Mo_makeRows) (hl : gL X = 5) (h1 : M[x0]? = some (.inr (10, fs2))) (h4 : fs2[54]? = some (.ref f3)) (h5 : M[f3]? = some (.inl (0, N7, .inl g6))) (h8 : vp_in (x3 - 1) N7) (h9 : vp_in x3 N7) (h11 : M.set f3 (.inl (0, N7, .inl (upd g6 x3.toNatClampNeg (g6 (x3 - 1).toNatClampNeg)))) = M10) (kk : gg X M10 k n 16 [(0, .ref x0), (1, .int x1), (2, .int x2), (3, .int (x3 + (-1)))] []) : gg X M k n 36 [(0, .ref x0), (1, .int x1), (2, .int x2), (3, .int x3)] [] := by
  refine g_aload_n ok d_Mo_makeRows_36 rfl (j := 0) rfl ?_
  refine gf_Mo_85 ok d_Mo_makeRows_37 h1 h4 ?_
  refine g_iload_n ok d_Mo_makeRows_40 rfl (j := 3) rfl ?_
  refine g_aload_n ok d_Mo_makeRows_41 rfl (j := 0) rfl ?_
  refine gf_Mo_85 ok d_Mo_makeRows_42 h1 h4 ?_
  refine g_iload_n ok d_Mo_makeRows_45 rfl (j := 3) rfl ?_
  refine g_iconst (v := 1) ok d_Mo_makeRows_46 (by decide) ?_
  refine g_isub ok d_Mo_makeRows_47 ?_
  refine g_iald (t := 0) ok rfl d_Mo_makeRows_48 h5 h8 ?_
  refine g_iast (t := 0) ok rfl d_Mo_makeRows_49 h5 h9 ?_
  rw [h11]
  have h12 : M10[f3]? = some (.inl (0, N7, .inl (upd g6 x3.toNatClampNeg (g6 (x3 - 1).toNatClampNeg)))) := by rw [← h11]; exact gs_eq h5
  refine g_iinc (L' := [(0, .ref x0), (1, .int x1), (2, .int x2), (3, .int (x3 + (-1)))]) (v := (x3 + (-1))) ok d_Mo_makeRows_50 (j := 3) rfl rfl (by rw [hl]; decide) rfl ?_
  exact g_goto (tgt := 16) ok d_Mo_makeRows_53 (by decide) kk
theorem k_Mo_makeRows_56 {X : gC} {M : List mC} {k n : Nat} {x0 : Nat} {x1 : Int32} {x2 : Int32} {x3 : Int32} {fs2 : List Value} {f3 : Nat} {g6 : Nat → Int32} {N7 : Nat} {M9 : List mC} (ok : gO X c_Mo_makeRows "TripleStoreModel" w_Mo_makeRows) (hl : gL X = 5) (h1 : M[x0]? = some (.inr (10, fs2))) (h4 : fs2[54]? = some (.ref f3)) (h5 : M[f3]? = some (.inl (0, N7, .inl g6))) (h8 : vp_in x3 N7) (h10 : M.set f3 (.inl (0, N7, .inl (upd g6 x3.toNatClampNeg x2))) = M9) (kk : gg X M9 k n 9 [(0, .ref x0), (1, .int x1), (2, .int (x2 + 1))] []) : gg X M k n 56 [(0, .ref x0), (1, .int x1), (2, .int x2), (3, .int x3)] [] := by
  refine g_aload_n ok d_Mo_makeRows_56 rfl (j := 0) rfl ?_
  refine gf_Mo_85 ok d_Mo_makeRows_57 h1 h4 ?_
  refine g_iload_n ok d_Mo_makeRows_60 rfl (j := 3) rfl ?_
  refine g_iload_n ok d_Mo_makeRows_61 rfl (j := 2) rfl ?_
  refine g_iast (t := 0) ok rfl d_Mo_makeRows_62 h5 h8 ?_
  rw [h10]
  have h11 : M9[f3]? = some (.inl (0, N7, .inl (upd g6 x3.toNatClampNeg x2))) := by rw [← h10]; exact gs_eq h5
  refine g_iinc (L' := [(0, .ref x0), (1, .int x1), (2, .int (x2 + 1)), (3, .int x3)]) (v := (x2 + 1)) ok d_Mo_makeRows_63 (j := 2) rfl rfl (by rw [hl]; decide) rfl ?_
  exact g_goto (tgt := 9) ok d_Mo_makeRows_66 (by decide) (gg_keep [0, 1, 2] kk)
theorem k_Mo_makeRows_69 {X : gC} {M : List mC} {k n : Nat} {x0 : Nat} {x1 : Int32} (ok : gO X c_Mo_makeRows "TripleStoreModel" w_Mo_makeRows) (hl : gL X = 5)  (kk : gg X M k n 71 [(0, .ref x0), (1, .int x1), (2, .int 0)] []) : gg X M k n 69 [(0, .ref x0), (1, .int x1)] [] := by
  refine g_iconst (v := 0) ok d_Mo_makeRows_69 (by decide) ?_
  refine g_istore_n (L' := [(0, .ref x0), (1, .int x1), (2, .int 0)]) ok d_Mo_makeRows_70 rfl (by rw [hl]; decide) rfl ?_
  exact kk
theorem k_Mo_makeRows_71 {X : gC} {M : List mC} {k n : Nat} {x0 : Nat} {x1 : Int32} {x2 : Int32} (ok : gO X c_Mo_makeRows "TripleStoreModel" w_Mo_makeRows)  (kt : x1 ≤ x2 → gg X M k n 221 [] []) (kf : ¬ x1 ≤ x2 → gg X M k n 76 [(0, .ref x0), (1, .int x1), (2, .int x2)] []) : gg X M k n 71 [(0, .ref x0), (1, .int x1), (2, .int x2)] [] := by
  refine g_iload_n ok d_Mo_makeRows_71 rfl (j := 2) rfl ?_
  refine g_iload_n ok d_Mo_makeRows_72 rfl (j := 1) rfl ?_
  exact g_icmp_ge (tgt := 221) ok d_Mo_makeRows_73 (by decide) (fun z => (gg_keep [] (kt z))) (fun z => (kf z))
theorem k_Mo_makeRows_76 {X : gC} {M : List mC} {k n : Nat} {x0 : Nat} {x1 : Int32} {x2 : Int32} {fs2 : List Value} {f3 : Int32} {f5 : Int32} (ok : gO X c_Mo_makeRows "TripleStoreModel" w_Mo_makeRows) (h1 : M[x0]? = some (.inr (10, fs2))) (h4 : fs2[55]? = some (.int f3)) (h6 : fs2[46]? = some (.int f5)) (kt : f5 ≤ f3 → gg X M k n 221 [] []) (kf : ¬ f5 ≤ f3 → gg X M k n 87 [(0, .ref x0), (1, .int x1), (2, .int x2)] []) : gg X M k n 76 [(0, .ref x0), (1, .int x1), (2, .int x2)] [] := by
  refine g_aload_n ok d_Mo_makeRows_76 rfl (j := 0) rfl ?_
  refine gf_Mo_358 ok d_Mo_makeRows_77 h1 h4 ?_
  refine g_aload_n ok d_Mo_makeRows_80 rfl (j := 0) rfl ?_
  refine gf_Mo_308 ok d_Mo_makeRows_81 h1 h6 ?_
  exact g_icmp_ge (tgt := 221) ok d_Mo_makeRows_84 (by decide) (fun z => (gg_keep [] (kt z))) (fun z => (kf z))
theorem k_Mo_makeRows_87 {X : gC} {M : List mC} {k n : Nat} {x0 : Nat} {x1 : Int32} {x2 : Int32} (ok : gO X c_Mo_makeRows "TripleStoreModel" w_Mo_makeRows) (hl : gL X = 5)  (kk : gg X M k n 92 [(0, .ref x0), (1, .int x1), (2, .int x2), (3, .int 0), (4, .int 0)] []) : gg X M k n 87 [(0, .ref x0), (1, .int x1), (2, .int x2)] [] := by
  refine g_iconst (v := 0) ok d_Mo_makeRows_87 (by decide) ?_
  refine g_istore_n (L' := [(0, .ref x0), (1, .int x1), (2, .int x2), (3, .int 0)]) ok d_Mo_makeRows_88 rfl (by rw [hl]; decide) rfl ?_
  refine g_iconst (v := 0) ok d_Mo_makeRows_89 (by decide) ?_
  refine g_istore (L' := [(0, .ref x0), (1, .int x1), (2, .int x2), (3, .int 0), (4, .int 0)]) ok d_Mo_makeRows_90 (by rw [hl]; decide) rfl ?_
  exact kk
theorem k_Mo_makeRows_92 {X : gC} {M : List mC} {k n : Nat} {x0 : Nat} {x1 : Int32} {x2 : Int32} {x3 : Int32} {x4 : Int32} (ok : gO X c_Mo_makeRows "TripleStoreModel" w_Mo_makeRows)  (kt : x2 ≤ x4 → gg X M k n 126 [(0, .ref x0), (1, .int x1), (2, .int x2), (3, .int x3)] []) (kf : ¬ x2 ≤ x4 → gg X M k n 98 [(0, .ref x0), (1, .int x1), (2, .int x2), (3, .int x3), (4, .int x4)] []) : gg X M k n 92 [(0, .ref x0), (1, .int x1), (2, .int x2), (3, .int x3), (4, .int x4)] [] := by
  refine g_iload ok d_Mo_makeRows_92 (j := 4) rfl ?_
  refine g_iload_n ok d_Mo_makeRows_94 rfl (j := 2) rfl ?_
  exact g_icmp_ge (tgt := 126) ok d_Mo_makeRows_95 (by decide) (fun z => (gg_keep [0, 1, 2, 3] (kt z))) (fun z => (kf z))
theorem k_Mo_makeRows_98 {X : gC} {M : List mC} {k n : Nat} {x0 : Nat} {x1 : Int32} {x2 : Int32} {x3 : Int32} {x4 : Int32} {fs2 : List Value} {f3 : Nat} {g6 : Nat → Int32} {N7 : Nat} (ok : gO X c_Mo_makeRows "TripleStoreModel" w_Mo_makeRows) (h1 : M[x0]? = some (.inr (10, fs2))) (h4 : fs2[54]? = some (.ref f3)) (h5 : M[f3]? = some (.inl (0, N7, .inl g6))) (h8 : vp_in x4 N7) (h9 : vp_in x2 N7) {rm : Room} {post : Option Value → List mC → Prop} (hm : mm_ (gLa X) y_Mo_byTerms w_Mo_byTerms rm [.ref x0, .int (g6 x4.toNatClampNeg), .int (g6 x2.toNatClampNeg)] M post) (hR : gF X rm 5 k n) (hlen : ∀ r M', post r M' → M'.length = M.length) (kk : ∀ r M', post r M' → gg X M' (k + rm.cells) (n + rm.slots) 115 [(0, .ref x0), (1, .int x1), (2, .int x2), (3, .int x3), (4, .int x4)] (r.toList ++ [])) : gg X M k n 98 [(0, .ref x0), (1, .int x1), (2, .int x2), (3, .int x3), (4, .int x4)] [] := by
  refine g_aload_n ok d_Mo_makeRows_98 rfl (j := 0) rfl ?_
  refine g_aload_n ok d_Mo_makeRows_99 rfl (j := 0) rfl ?_
  refine gf_Mo_85 ok d_Mo_makeRows_100 h1 h4 ?_
  refine g_iload ok d_Mo_makeRows_103 (j := 4) rfl ?_
  refine g_iald (t := 0) ok rfl d_Mo_makeRows_105 h5 h8 ?_
  refine g_aload_n ok d_Mo_makeRows_106 rfl (j := 0) rfl ?_
  refine gf_Mo_85 ok d_Mo_makeRows_107 h1 h4 ?_
  refine g_iload_n ok d_Mo_makeRows_110 rfl (j := 2) rfl ?_
  refine g_iald (t := 0) ok rfl d_Mo_makeRows_111 h5 h9 ?_
  exact gc_Mo_351 (As := [.int (g6 x4.toNatClampNeg), .int (g6 x2.toNatClampNeg)]) (rest := []) ok d_Mo_makeRows_112 hm rfl rfl (Nat.le_of_ble_eq_true rfl) hR h1 hlen kk
theorem k_Mo_makeRows_115 {X : gC} {M : List mC} {k n : Nat} {x0 : Nat} {x1 : Int32} {x2 : Int32} {x3 : Int32} {x4 : Int32} {s0 : Int32} (ok : gO X c_Mo_makeRows "TripleStoreModel" w_Mo_makeRows)  (kt : ¬ s0 = 0 → gg X M k n 120 [(0, .ref x0), (1, .int x1), (2, .int x2), (3, .int x3), (4, .int x4)] []) (kf : s0 = 0 → gg X M k n 118 [(0, .ref x0), (1, .int x1), (2, .int x2), (4, .int x4)] []) : gg X M k n 115 [(0, .ref x0), (1, .int x1), (2, .int x2), (3, .int x3), (4, .int x4)] [.int s0] := by
  exact g_if_ne (tgt := 120) ok d_Mo_makeRows_115 (by decide) (fun z => (kt z)) (fun z => (gg_keep [0, 1, 2, 4] (kf z)))
theorem k_Mo_makeRows_118 {X : gC} {M : List mC} {k n : Nat} {x0 : Nat} {x1 : Int32} {x2 : Int32} {x4 : Int32} (ok : gO X c_Mo_makeRows "TripleStoreModel" w_Mo_makeRows) (hl : gL X = 5)  (kk : gg X M k n 120 [(0, .ref x0), (1, .int x1), (2, .int x2), (3, .int 1), (4, .int x4)] []) : gg X M k n 118 [(0, .ref x0), (1, .int x1), (2, .int x2), (4, .int x4)] [] := by
  refine g_iconst (v := 1) ok d_Mo_makeRows_118 (by decide) ?_
  refine g_istore_n (L' := [(0, .ref x0), (1, .int x1), (2, .int x2), (3, .int 1), (4, .int x4)]) ok d_Mo_makeRows_119 rfl (by rw [hl]; decide) rfl ?_
  exact kk
theorem k_Mo_makeRows_120 {X : gC} {M : List mC} {k n : Nat} {x0 : Nat} {x1 : Int32} {x2 : Int32} {x3 : Int32} {x4 : Int32} (ok : gO X c_Mo_makeRows "TripleStoreModel" w_Mo_makeRows) (hl : gL X = 5)  (kk : gg X M k n 92 [(0, .ref x0), (1, .int x1), (2, .int x2), (3, .int x3), (4, .int (x4 + 1))] []) : gg X M k n 120 [(0, .ref x0), (1, .int x1), (2, .int x2), (3, .int x3), (4, .int x4)] [] := by
  refine g_iinc (L' := [(0, .ref x0), (1, .int x1), (2, .int x2), (3, .int x3), (4, .int (x4 + 1))]) (v := (x4 + 1)) ok d_Mo_makeRows_120 (j := 4) rfl rfl (by rw [hl]; decide) rfl ?_
  exact g_goto (tgt := 92) ok d_Mo_makeRows_123 (by decide) kk
theorem k_Mo_makeRows_126 {X : gC} {M : List mC} {k n : Nat} {x0 : Nat} {x1 : Int32} {x2 : Int32} {x3 : Int32} {fs2 : List Value} {f3 : Int32} (ok : gO X c_Mo_makeRows "TripleStoreModel" w_Mo_makeRows) (h1 : M[x0]? = some (.inr (10, fs2))) (h4 : fs2[43]? = some (.int f3)) (kt : f3 = 0 → gg X M k n 137 [(0, .ref x0), (1, .int x1), (2, .int x2)] []) (kf : ¬ f3 = 0 → gg X M k n 133 [(0, .ref x0), (1, .int x1), (2, .int x2), (3, .int x3)] []) : gg X M k n 126 [(0, .ref x0), (1, .int x1), (2, .int x2), (3, .int x3)] [] := by
  refine g_aload_n ok d_Mo_makeRows_126 rfl (j := 0) rfl ?_
  refine gf_Mo_293 ok d_Mo_makeRows_127 h1 h4 ?_
  exact g_if_eq (tgt := 137) ok d_Mo_makeRows_130 (by decide) (fun z => (gg_keep [0, 1, 2] (kt z))) (fun z => (kf z))
theorem k_Mo_makeRows_133 {X : gC} {M : List mC} {k n : Nat} {x0 : Nat} {x1 : Int32} {x2 : Int32} {x3 : Int32} (ok : gO X c_Mo_makeRows "TripleStoreModel" w_Mo_makeRows)  (kt : ¬ x3 = 0 → gg X M k n 215 [(0, .ref x0), (1, .int x1), (2, .int x2)] []) (kf : x3 = 0 → gg X M k n 137 [(0, .ref x0), (1, .int x1), (2, .int x2)] []) : gg X M k n 133 [(0, .ref x0), (1, .int x1), (2, .int x2), (3, .int x3)] [] := by
  refine g_iload_n ok d_Mo_makeRows_133 rfl (j := 3) rfl ?_
  exact g_if_ne (tgt := 215) ok d_Mo_makeRows_134 (by decide) (fun z => (gg_keep [0, 1, 2] (kt z))) (fun z => (gg_keep [0, 1, 2] (kf z)))
theorem k_Mo_makeRows_137 {X : gC} {M : List mC} {k n : Nat} {x0 : Nat} {x1 : Int32} {x2 : Int32} (ok : gO X c_Mo_makeRows "TripleStoreModel" w_Mo_makeRows) (hl : gL X = 5)  (kk : gg X M k n 140 [(0, .ref x0), (1, .int x1), (2, .int x2), (4, .int 0)] []) : gg X M k n 137 [(0, .ref x0), (1, .int x1), (2, .int x2)] [] := by
  refine g_iconst (v := 0) ok d_Mo_makeRows_137 (by decide) ?_
  refine g_istore (L' := [(0, .ref x0), (1, .int x1), (2, .int x2), (4, .int 0)]) ok d_Mo_makeRows_138 (by rw [hl]; decide) rfl ?_
  exact kk
theorem k_Mo_makeRows_140 {X : gC} {M : List mC} {k n : Nat} {x0 : Nat} {x1 : Int32} {x2 : Int32} {x4 : Int32} (ok : gO X c_Mo_makeRows "TripleStoreModel" w_Mo_makeRows)  (kt : 6 ≤ x4 → gg X M k n 185 [(0, .ref x0), (1, .int x1), (2, .int x2)] []) (kf : ¬ 6 ≤ x4 → gg X M k n 147 [(0, .ref x0), (1, .int x1), (2, .int x2), (4, .int x4)] []) : gg X M k n 140 [(0, .ref x0), (1, .int x1), (2, .int x2), (4, .int x4)] [] := by
  refine g_iload ok d_Mo_makeRows_140 (j := 3) rfl ?_
  refine g_bipush (v := 6) ok d_Mo_makeRows_142 (by decide) ?_
  exact g_icmp_ge (tgt := 185) ok d_Mo_makeRows_144 (by decide) (fun z => (gg_keep [0, 1, 2] (kt z))) (fun z => (kf z))
theorem k_Mo_makeRows_147 {X : gC} {M : List mC} {k n : Nat} {x0 : Nat} {x1 : Int32} {x2 : Int32} {x4 : Int32} {fs2 : List Value} {f3 : Nat} {f5 : Int32} {f7 : Nat} {f9 : Nat} {g12 : Nat → Int32} {N13 : Nat} {g16 : Nat → Int64} {N17 : Nat} {g20 : Nat → Int64} {N21 : Nat} {M23 : List mC} (ok : gO X c_Mo_makeRows "TripleStoreModel" w_Mo_makeRows) (hl : gL X = 5) (h1 : M[x0]? = some (.inr (10, fs2))) (h4 : fs2[52]? = some (.ref f3)) (h6 : fs2[55]? = some (.int f5)) (h8 : fs2[47]? = some (.ref f7)) (h10 : fs2[54]? = some (.ref f9)) (h11 : M[f9]? = some (.inl (0, N13, .inl g12))) (h14 : vp_in x2 N13) (h15 : M[f7]? = some (.inl (1, N17, .inr (.inl g16)))) (h18 : vp_in ((6 * (g12 x2.toNatClampNeg)) + x4) N17) (h19 : M[f3]? = some (.inl (1, N21, .inr (.inl g20)))) (h22 : vp_in ((6 * f5) + x4) N21) (h24 : M.set f3 (.inl (1, N21, .inr (.inl (vp_updL g20 ((6 * f5) + x4).toNatClampNeg (g16 ((6 * (g12 x2.toNatClampNeg)) + x4).toNatClampNeg))))) = M23) (kk : gg X M23 k n 140 [(0, .ref x0), (1, .int x1), (2, .int x2), (4, .int (x4 + 1))] []) : gg X M k n 147 [(0, .ref x0), (1, .int x1), (2, .int x2), (4, .int x4)] [] := by
  refine g_aload_n ok d_Mo_makeRows_147 rfl (j := 0) rfl ?_
  refine gf_Mo_79 ok d_Mo_makeRows_148 h1 h4 ?_
  refine g_bipush (v := 6) ok d_Mo_makeRows_151 (by decide) ?_
  refine g_aload_n ok d_Mo_makeRows_153 rfl (j := 0) rfl ?_
  refine gf_Mo_358 ok d_Mo_makeRows_154 h1 h6 ?_
  refine g_imul ok d_Mo_makeRows_157 ?_
  refine g_iload ok d_Mo_makeRows_158 (j := 3) rfl ?_
  refine g_iadd ok d_Mo_makeRows_160 ?_
  refine g_aload_n ok d_Mo_makeRows_161 rfl (j := 0) rfl ?_
  refine gf_Mo_70 ok d_Mo_makeRows_162 h1 h8 ?_
  refine g_bipush (v := 6) ok d_Mo_makeRows_165 (by decide) ?_
  refine g_aload_n ok d_Mo_makeRows_167 rfl (j := 0) rfl ?_
  refine gf_Mo_85 ok d_Mo_makeRows_168 h1 h10 ?_
  refine g_iload_n ok d_Mo_makeRows_171 rfl (j := 2) rfl ?_
  refine g_iald (t := 0) ok rfl d_Mo_makeRows_172 h11 h14 ?_
  refine g_imul ok d_Mo_makeRows_173 ?_
  refine g_iload ok d_Mo_makeRows_174 (j := 3) rfl ?_
  refine g_iadd ok d_Mo_makeRows_176 ?_
  refine g_lald (t := 1) ok rfl d_Mo_makeRows_177 h15 h18 ?_
  refine g_last (t := 1) ok rfl d_Mo_makeRows_178 h19 h22 ?_
  rw [h24]
  have h25 : M23[f3]? = some (.inl (1, N21, .inr (.inl (vp_updL g20 ((6 * f5) + x4).toNatClampNeg (g16 ((6 * (g12 x2.toNatClampNeg)) + x4).toNatClampNeg))))) := by rw [← h24]; exact gs_eq h19
  refine g_iinc (L' := [(0, .ref x0), (1, .int x1), (2, .int x2), (4, .int (x4 + 1))]) (v := (x4 + 1)) ok d_Mo_makeRows_179 (j := 3) rfl rfl (by rw [hl]; decide) rfl ?_
  exact g_goto (tgt := 140) ok d_Mo_makeRows_182 (by decide) kk
theorem k_Mo_makeRows_185 {X : gC} {M : List mC} {k n : Nat} {x0 : Nat} {x1 : Int32} {x2 : Int32} {fs2 : List Value} {f3 : Nat} {f5 : Int32} {f7 : Nat} {f9 : Nat} {g12 : Nat → Int32} {N13 : Nat} {g16 : Nat → Int32} {N17 : Nat} {g20 : Nat → Int32} {N21 : Nat} {M23 : List mC} {fs29 : List Value} {M31 : List mC} (ok : gO X c_Mo_makeRows "TripleStoreModel" w_Mo_makeRows) (h1 : M[x0]? = some (.inr (10, fs2))) (h4 : fs2[53]? = some (.ref f3)) (h6 : fs2[55]? = some (.int f5)) (h8 : fs2[48]? = some (.ref f7)) (h10 : fs2[54]? = some (.ref f9)) (h11 : M[f9]? = some (.inl (0, N13, .inl g12))) (h14 : vp_in x2 N13) (h15 : M[f7]? = some (.inl (0, N17, .inl g16))) (h18 : vp_in (g12 x2.toNatClampNeg) N17) (h19 : M[f3]? = some (.inl (0, N21, .inl g20))) (h22 : vp_in f5 N21) (h24 : M.set f3 (.inl (0, N21, .inl (upd g20 f5.toNatClampNeg (g16 (g12 x2.toNatClampNeg).toNatClampNeg)))) = M23) (h28 : 59 ≤ fs2.length) (h30 : fs2.set 55 (.int (f5 + 1)) = fs29) (h32 : M23.set x0 (.inr (10, fs29)) = M31) (kk : gg X M31 k n 215 [(0, .ref x0), (1, .int x1), (2, .int x2)] []) : gg X M k n 185 [(0, .ref x0), (1, .int x1), (2, .int x2)] [] := by
  refine g_aload_n ok d_Mo_makeRows_185 rfl (j := 0) rfl ?_
  refine gf_Mo_82 ok d_Mo_makeRows_186 h1 h4 ?_
  refine g_aload_n ok d_Mo_makeRows_189 rfl (j := 0) rfl ?_
  refine gf_Mo_358 ok d_Mo_makeRows_190 h1 h6 ?_
  refine g_aload_n ok d_Mo_makeRows_193 rfl (j := 0) rfl ?_
  refine gf_Mo_73 ok d_Mo_makeRows_194 h1 h8 ?_
  refine g_aload_n ok d_Mo_makeRows_197 rfl (j := 0) rfl ?_
  refine gf_Mo_85 ok d_Mo_makeRows_198 h1 h10 ?_
  refine g_iload_n ok d_Mo_makeRows_201 rfl (j := 2) rfl ?_
  refine g_iald (t := 0) ok rfl d_Mo_makeRows_202 h11 h14 ?_
  refine g_iald (t := 0) ok rfl d_Mo_makeRows_203 h15 h18 ?_
  refine g_iast (t := 0) ok rfl d_Mo_makeRows_204 h19 h22 ?_
  rw [h24]
  have h25 : M23[f3]? = some (.inl (0, N21, .inl (upd g20 f5.toNatClampNeg (g16 (g12 x2.toNatClampNeg).toNatClampNeg)))) := by rw [← h24]; exact gs_eq h19
  refine g_aload_n ok d_Mo_makeRows_205 rfl (j := 0) rfl ?_
  refine g_dup ok d_Mo_makeRows_206 rfl ?_
  have h26 : M23[x0]? = some (.inr (10, fs2)) := by rw [← h24]; exact (gs_ne (ne_ao h19 h1)).trans h1
  refine gf_Mo_358 ok d_Mo_makeRows_207 h26 h6 ?_
  refine g_iconst (v := 1) ok d_Mo_makeRows_210 (by decide) ?_
  refine g_iadd ok d_Mo_makeRows_211 ?_
  have h27 : 55 < fs2.length := Nat.lt_of_lt_of_le (by decide) h28
  refine pf_Mo_358 ok d_Mo_makeRows_212 h26 h27 (fun _ => ⟨rfl, rfl⟩) ?_
  rw [h30]
  rw [h32]
  have h33 : M31[x0]? = some (.inr (10, fs29)) := by rw [← h32]; exact gs_eq h26
  have h34 : fs29[53]? = some (.ref f3) := by rw [← h30]; exact (List.getElem?_set_ne (by decide : 55 ≠ 53)).trans h4
  have h35 : fs29[48]? = some (.ref f7) := by rw [← h30]; exact (List.getElem?_set_ne (by decide : 55 ≠ 48)).trans h8
  have h36 : fs29[54]? = some (.ref f9) := by rw [← h30]; exact (List.getElem?_set_ne (by decide : 55 ≠ 54)).trans h10
  have h37 : fs29[55]? = some (.int (f5 + 1)) := by rw [← h30]; exact List.getElem?_set_self h27
  have h38 : 59 ≤ fs29.length := by rw [← h30, List.length_set]; exact h28
  exact kk
theorem k_Mo_makeRows_215 {X : gC} {M : List mC} {k n : Nat} {x0 : Nat} {x1 : Int32} {x2 : Int32} (ok : gO X c_Mo_makeRows "TripleStoreModel" w_Mo_makeRows) (hl : gL X = 5)  (kk : gg X M k n 71 [(0, .ref x0), (1, .int x1), (2, .int (x2 + 1))] []) : gg X M k n 215 [(0, .ref x0), (1, .int x1), (2, .int x2)] [] := by
  refine g_iinc (L' := [(0, .ref x0), (1, .int x1), (2, .int (x2 + 1))]) (v := (x2 + 1)) ok d_Mo_makeRows_215 (j := 2) rfl rfl (by rw [hl]; decide) rfl ?_
  exact g_goto (tgt := 71) ok d_Mo_makeRows_218 (by decide) kk
theorem k_Mo_makeRows_221 {X : gC} {M : List mC} {k n : Nat}  (ok : gO X c_Mo_makeRows "TripleStoreModel" w_Mo_makeRows)  {l9 : Launch} {rm : Room} {M0 : List mC} {post : Option Value → List mC → Prop} (E : gE X l9 y_Mo_makeRows rm 5 none M0 post) (hp : post (none) M) (hk : k ≤ rm.cells) (hn : n ≤ rm.slots) : gg X M k n 221 [] [] := by
  exact g_vret ok E d_Mo_makeRows_221 hp hk hn
theorem k_Mo_ask_0 {X : gC} {M : List mC} {k n : Nat} {x0 : Nat} {fs2 : List Value} {fs5 : List Value} {M7 : List mC} {fs13 : List Value} {M15 : List mC} {fs22 : List Value} {M24 : List mC} {fs32 : List Value} {M34 : List mC} {fs43 : List Value} {M45 : List mC} {fs55 : List Value} {M57 : List mC} {fs68 : List Value} {M70 : List mC} {fs82 : List Value} {M84 : List mC} {fs97 : List Value} {M99 : List mC} {fs113 : List Value} {M115 : List mC} {fs130 : List Value} {M132 : List mC} {fs148 : List Value} {M150 : List mC} {fs167 : List Value} {M169 : List mC} {fs187 : List Value} {M189 : List mC} {fs208 : List Value} {M210 : List mC} (ok : gO X c_Mo_ask "TripleStoreModel" w_Mo_ask) (h1 : M[x0]? = some (.inr (10, fs2))) (h4 : 59 ≤ fs2.length) (h6 : fs2.set 24 (.int 0) = fs5) (h8 : M.set x0 (.inr (10, fs5)) = M7) (h14 : fs5.set 25 (.int 0) = fs13) (h16 : M7.set x0 (.inr (10, fs13)) = M15) (h23 : fs13.set 26 (.int 0) = fs22) (h25 : M15.set x0 (.inr (10, fs22)) = M24) (h33 : fs22.set 27 (.int 0) = fs32) (h35 : M24.set x0 (.inr (10, fs32)) = M34) (h44 : fs32.set 32 (.int 0) = fs43) (h46 : M34.set x0 (.inr (10, fs43)) = M45) (h56 : fs43.set 35 (.int 0) = fs55) (h58 : M45.set x0 (.inr (10, fs55)) = M57) (h69 : fs55.set 39 (.int 0) = fs68) (h71 : M57.set x0 (.inr (10, fs68)) = M70) (h83 : fs68.set 41 (.int 0) = fs82) (h85 : M70.set x0 (.inr (10, fs82)) = M84) (h98 : fs82.set 43 (.int 0) = fs97) (h100 : M84.set x0 (.inr (10, fs97)) = M99) (h114 : fs97.set 44 (.int (-1)) = fs113) (h116 : M99.set x0 (.inr (10, fs113)) = M115) (h131 : fs113.set 45 (.int 0) = fs130) (h133 : M115.set x0 (.inr (10, fs130)) = M132) (h149 : fs130.set 46 (.int 10000) = fs148) (h151 : M132.set x0 (.inr (10, fs148)) = M150) (h168 : fs148.set 18 (.int 0) = fs167) (h170 : M150.set x0 (.inr (10, fs167)) = M169) (h188 : fs167.set 20 (.int (-1)) = fs187) (h190 : M169.set x0 (.inr (10, fs187)) = M189) (h209 : fs187.set 21 (.int 0) = fs208) (h211 : M189.set x0 (.inr (10, fs208)) = M210) {rm : Room} {post : Option Value → List mC → Prop} (hm : mm_ (gLa X) y_Mo_next w_Mo_next rm [.ref x0] M210 post) (hR : gF X rm 3 k n) (hlen : ∀ r M', post r M' → M'.length = M210.length) (kk : ∀ r M', post r M' → gg X M' (k + rm.cells) (n + rm.slots) 81 [(0, .ref x0)] (r.toList ++ [])) : gg X M k n 0 [(0, .ref x0)] [] := by
  refine g_aload_n ok d_Mo_ask_0 rfl (j := 0) rfl ?_
  refine g_iconst (v := 0) ok d_Mo_ask_1 (by decide) ?_
  have h3 : 24 < fs2.length := Nat.lt_of_lt_of_le (by decide) h4
  refine pf_Mo_229 ok d_Mo_ask_2 h1 h3 (fun _ => ⟨rfl, rfl⟩) ?_
  rw [h6]
  rw [h8]
  have h9 : M7[x0]? = some (.inr (10, fs5)) := by rw [← h8]; exact gs_eq h1
  have h10 : fs5[24]? = some (.int 0) := by rw [← h6]; exact List.getElem?_set_self h3
  have h11 : 59 ≤ fs5.length := by rw [← h6, List.length_set]; exact h4
  refine g_aload_n ok d_Mo_ask_5 rfl (j := 0) rfl ?_
  refine g_iconst (v := 0) ok d_Mo_ask_6 (by decide) ?_
  have h12 : 25 < fs5.length := Nat.lt_of_lt_of_le (by decide) h11
  refine pf_Mo_259 ok d_Mo_ask_7 h9 h12 (fun _ => ⟨rfl, rfl⟩) ?_
  rw [h14]
  rw [h16]
  have h17 : M15[x0]? = some (.inr (10, fs13)) := by rw [← h16]; exact gs_eq h9
  have h18 : fs13[24]? = some (.int 0) := by rw [← h14]; exact (List.getElem?_set_ne (by decide : 25 ≠ 24)).trans h10
  have h19 : fs13[25]? = some (.int 0) := by rw [← h14]; exact List.getElem?_set_self h12
  have h20 : 59 ≤ fs13.length := by rw [← h14, List.length_set]; exact h11
  refine g_aload_n ok d_Mo_ask_10 rfl (j := 0) rfl ?_
  refine g_iconst (v := 0) ok d_Mo_ask_11 (by decide) ?_
  have h21 : 26 < fs13.length := Nat.lt_of_lt_of_le (by decide) h20
  refine pf_Mo_278 ok d_Mo_ask_12 h17 h21 (fun _ => ⟨rfl, rfl⟩) ?_
  rw [h23]
  rw [h25]
  have h26 : M24[x0]? = some (.inr (10, fs22)) := by rw [← h25]; exact gs_eq h17
  have h27 : fs22[24]? = some (.int 0) := by rw [← h23]; exact (List.getElem?_set_ne (by decide : 26 ≠ 24)).trans h18
  have h28 : fs22[25]? = some (.int 0) := by rw [← h23]; exact (List.getElem?_set_ne (by decide : 26 ≠ 25)).trans h19
  have h29 : fs22[26]? = some (.int 0) := by rw [← h23]; exact List.getElem?_set_self h21
  have h30 : 59 ≤ fs22.length := by rw [← h23, List.length_set]; exact h20
  refine g_aload_n ok d_Mo_ask_15 rfl (j := 0) rfl ?_
  refine g_iconst (v := 0) ok d_Mo_ask_16 (by decide) ?_
  have h31 : 27 < fs22.length := Nat.lt_of_lt_of_le (by decide) h30
  refine pf_Mo_250 ok d_Mo_ask_17 h26 h31 (fun _ => ⟨rfl, rfl⟩) ?_
  rw [h33]
  rw [h35]
  have h36 : M34[x0]? = some (.inr (10, fs32)) := by rw [← h35]; exact gs_eq h26
  have h37 : fs32[24]? = some (.int 0) := by rw [← h33]; exact (List.getElem?_set_ne (by decide : 27 ≠ 24)).trans h27
  have h38 : fs32[25]? = some (.int 0) := by rw [← h33]; exact (List.getElem?_set_ne (by decide : 27 ≠ 25)).trans h28
  have h39 : fs32[26]? = some (.int 0) := by rw [← h33]; exact (List.getElem?_set_ne (by decide : 27 ≠ 26)).trans h29
  have h40 : fs32[27]? = some (.int 0) := by rw [← h33]; exact List.getElem?_set_self h31
  have h41 : 59 ≤ fs32.length := by rw [← h33, List.length_set]; exact h30
  refine g_aload_n ok d_Mo_ask_20 rfl (j := 0) rfl ?_
  refine g_iconst (v := 0) ok d_Mo_ask_21 (by decide) ?_
  have h42 : 32 < fs32.length := Nat.lt_of_lt_of_le (by decide) h41
  refine pf_Mo_244 ok d_Mo_ask_22 h36 h42 (fun _ => ⟨rfl, rfl⟩) ?_
  rw [h44]
  rw [h46]
  have h47 : M45[x0]? = some (.inr (10, fs43)) := by rw [← h46]; exact gs_eq h36
  have h48 : fs43[24]? = some (.int 0) := by rw [← h44]; exact (List.getElem?_set_ne (by decide : 32 ≠ 24)).trans h37
  have h49 : fs43[25]? = some (.int 0) := by rw [← h44]; exact (List.getElem?_set_ne (by decide : 32 ≠ 25)).trans h38
  have h50 : fs43[26]? = some (.int 0) := by rw [← h44]; exact (List.getElem?_set_ne (by decide : 32 ≠ 26)).trans h39
  have h51 : fs43[27]? = some (.int 0) := by rw [← h44]; exact (List.getElem?_set_ne (by decide : 32 ≠ 27)).trans h40
  have h52 : fs43[32]? = some (.int 0) := by rw [← h44]; exact List.getElem?_set_self h42
  have h53 : 59 ≤ fs43.length := by rw [← h44, List.length_set]; exact h41
  refine g_aload_n ok d_Mo_ask_25 rfl (j := 0) rfl ?_
  refine g_iconst (v := 0) ok d_Mo_ask_26 (by decide) ?_
  have h54 : 35 < fs43.length := Nat.lt_of_lt_of_le (by decide) h53
  refine pf_Mo_268 ok d_Mo_ask_27 h47 h54 (fun _ => ⟨rfl, rfl⟩) ?_
  rw [h56]
  rw [h58]
  have h59 : M57[x0]? = some (.inr (10, fs55)) := by rw [← h58]; exact gs_eq h47
  have h60 : fs55[24]? = some (.int 0) := by rw [← h56]; exact (List.getElem?_set_ne (by decide : 35 ≠ 24)).trans h48
  have h61 : fs55[25]? = some (.int 0) := by rw [← h56]; exact (List.getElem?_set_ne (by decide : 35 ≠ 25)).trans h49
  have h62 : fs55[26]? = some (.int 0) := by rw [← h56]; exact (List.getElem?_set_ne (by decide : 35 ≠ 26)).trans h50
  have h63 : fs55[27]? = some (.int 0) := by rw [← h56]; exact (List.getElem?_set_ne (by decide : 35 ≠ 27)).trans h51
  have h64 : fs55[32]? = some (.int 0) := by rw [← h56]; exact (List.getElem?_set_ne (by decide : 35 ≠ 32)).trans h52
  have h65 : fs55[35]? = some (.int 0) := by rw [← h56]; exact List.getElem?_set_self h54
  have h66 : 59 ≤ fs55.length := by rw [← h56, List.length_set]; exact h53
  refine g_aload_n ok d_Mo_ask_30 rfl (j := 0) rfl ?_
  refine g_iconst (v := 0) ok d_Mo_ask_31 (by decide) ?_
  have h67 : 39 < fs55.length := Nat.lt_of_lt_of_le (by decide) h66
  refine pf_Mo_247 ok d_Mo_ask_32 h59 h67 (fun _ => ⟨rfl, rfl⟩) ?_
  rw [h69]
  rw [h71]
  have h72 : M70[x0]? = some (.inr (10, fs68)) := by rw [← h71]; exact gs_eq h59
  have h73 : fs68[24]? = some (.int 0) := by rw [← h69]; exact (List.getElem?_set_ne (by decide : 39 ≠ 24)).trans h60
  have h74 : fs68[25]? = some (.int 0) := by rw [← h69]; exact (List.getElem?_set_ne (by decide : 39 ≠ 25)).trans h61
  have h75 : fs68[26]? = some (.int 0) := by rw [← h69]; exact (List.getElem?_set_ne (by decide : 39 ≠ 26)).trans h62
  have h76 : fs68[27]? = some (.int 0) := by rw [← h69]; exact (List.getElem?_set_ne (by decide : 39 ≠ 27)).trans h63
  have h77 : fs68[32]? = some (.int 0) := by rw [← h69]; exact (List.getElem?_set_ne (by decide : 39 ≠ 32)).trans h64
  have h78 : fs68[35]? = some (.int 0) := by rw [← h69]; exact (List.getElem?_set_ne (by decide : 39 ≠ 35)).trans h65
  have h79 : fs68[39]? = some (.int 0) := by rw [← h69]; exact List.getElem?_set_self h67
  have h80 : 59 ≤ fs68.length := by rw [← h69, List.length_set]; exact h66
  refine g_aload_n ok d_Mo_ask_35 rfl (j := 0) rfl ?_
  refine g_iconst (v := 0) ok d_Mo_ask_36 (by decide) ?_
  have h81 : 41 < fs68.length := Nat.lt_of_lt_of_le (by decide) h80
  refine pf_Mo_296 ok d_Mo_ask_37 h72 h81 (fun _ => ⟨rfl, rfl⟩) ?_
  rw [h83]
  rw [h85]
  have h86 : M84[x0]? = some (.inr (10, fs82)) := by rw [← h85]; exact gs_eq h72
  have h87 : fs82[24]? = some (.int 0) := by rw [← h83]; exact (List.getElem?_set_ne (by decide : 41 ≠ 24)).trans h73
  have h88 : fs82[25]? = some (.int 0) := by rw [← h83]; exact (List.getElem?_set_ne (by decide : 41 ≠ 25)).trans h74
  have h89 : fs82[26]? = some (.int 0) := by rw [← h83]; exact (List.getElem?_set_ne (by decide : 41 ≠ 26)).trans h75
  have h90 : fs82[27]? = some (.int 0) := by rw [← h83]; exact (List.getElem?_set_ne (by decide : 41 ≠ 27)).trans h76
  have h91 : fs82[32]? = some (.int 0) := by rw [← h83]; exact (List.getElem?_set_ne (by decide : 41 ≠ 32)).trans h77
  have h92 : fs82[35]? = some (.int 0) := by rw [← h83]; exact (List.getElem?_set_ne (by decide : 41 ≠ 35)).trans h78
  have h93 : fs82[39]? = some (.int 0) := by rw [← h83]; exact (List.getElem?_set_ne (by decide : 41 ≠ 39)).trans h79
  have h94 : fs82[41]? = some (.int 0) := by rw [← h83]; exact List.getElem?_set_self h81
  have h95 : 59 ≤ fs82.length := by rw [← h83, List.length_set]; exact h80
  refine g_aload_n ok d_Mo_ask_40 rfl (j := 0) rfl ?_
  refine g_iconst (v := 0) ok d_Mo_ask_41 (by decide) ?_
  have h96 : 43 < fs82.length := Nat.lt_of_lt_of_le (by decide) h95
  refine pf_Mo_293 ok d_Mo_ask_42 h86 h96 (fun _ => ⟨rfl, rfl⟩) ?_
  rw [h98]
  rw [h100]
  have h101 : M99[x0]? = some (.inr (10, fs97)) := by rw [← h100]; exact gs_eq h86
  have h102 : fs97[24]? = some (.int 0) := by rw [← h98]; exact (List.getElem?_set_ne (by decide : 43 ≠ 24)).trans h87
  have h103 : fs97[25]? = some (.int 0) := by rw [← h98]; exact (List.getElem?_set_ne (by decide : 43 ≠ 25)).trans h88
  have h104 : fs97[26]? = some (.int 0) := by rw [← h98]; exact (List.getElem?_set_ne (by decide : 43 ≠ 26)).trans h89
  have h105 : fs97[27]? = some (.int 0) := by rw [← h98]; exact (List.getElem?_set_ne (by decide : 43 ≠ 27)).trans h90
  have h106 : fs97[32]? = some (.int 0) := by rw [← h98]; exact (List.getElem?_set_ne (by decide : 43 ≠ 32)).trans h91
  have h107 : fs97[35]? = some (.int 0) := by rw [← h98]; exact (List.getElem?_set_ne (by decide : 43 ≠ 35)).trans h92
  have h108 : fs97[39]? = some (.int 0) := by rw [← h98]; exact (List.getElem?_set_ne (by decide : 43 ≠ 39)).trans h93
  have h109 : fs97[41]? = some (.int 0) := by rw [← h98]; exact (List.getElem?_set_ne (by decide : 43 ≠ 41)).trans h94
  have h110 : fs97[43]? = some (.int 0) := by rw [← h98]; exact List.getElem?_set_self h96
  have h111 : 59 ≤ fs97.length := by rw [← h98, List.length_set]; exact h95
  refine g_aload_n ok d_Mo_ask_45 rfl (j := 0) rfl ?_
  refine g_iconst (v := (-1)) ok d_Mo_ask_46 (by decide) ?_
  have h112 : 44 < fs97.length := Nat.lt_of_lt_of_le (by decide) h111
  refine pf_Mo_302 ok d_Mo_ask_47 h101 h112 (fun _ => ⟨rfl, rfl⟩) ?_
  rw [h114]
  rw [h116]
  have h117 : M115[x0]? = some (.inr (10, fs113)) := by rw [← h116]; exact gs_eq h101
  have h118 : fs113[24]? = some (.int 0) := by rw [← h114]; exact (List.getElem?_set_ne (by decide : 44 ≠ 24)).trans h102
  have h119 : fs113[25]? = some (.int 0) := by rw [← h114]; exact (List.getElem?_set_ne (by decide : 44 ≠ 25)).trans h103
  have h120 : fs113[26]? = some (.int 0) := by rw [← h114]; exact (List.getElem?_set_ne (by decide : 44 ≠ 26)).trans h104
  have h121 : fs113[27]? = some (.int 0) := by rw [← h114]; exact (List.getElem?_set_ne (by decide : 44 ≠ 27)).trans h105
  have h122 : fs113[32]? = some (.int 0) := by rw [← h114]; exact (List.getElem?_set_ne (by decide : 44 ≠ 32)).trans h106
  have h123 : fs113[35]? = some (.int 0) := by rw [← h114]; exact (List.getElem?_set_ne (by decide : 44 ≠ 35)).trans h107
  have h124 : fs113[39]? = some (.int 0) := by rw [← h114]; exact (List.getElem?_set_ne (by decide : 44 ≠ 39)).trans h108
  have h125 : fs113[41]? = some (.int 0) := by rw [← h114]; exact (List.getElem?_set_ne (by decide : 44 ≠ 41)).trans h109
  have h126 : fs113[43]? = some (.int 0) := by rw [← h114]; exact (List.getElem?_set_ne (by decide : 44 ≠ 43)).trans h110
  have h127 : fs113[44]? = some (.int (-1)) := by rw [← h114]; exact List.getElem?_set_self h112
  have h128 : 59 ≤ fs113.length := by rw [← h114, List.length_set]; exact h111
  refine g_aload_n ok d_Mo_ask_50 rfl (j := 0) rfl ?_
  refine g_iconst (v := 0) ok d_Mo_ask_51 (by decide) ?_
  have h129 : 45 < fs113.length := Nat.lt_of_lt_of_le (by decide) h128
  refine pf_Mo_305 ok d_Mo_ask_52 h117 h129 (fun _ => ⟨rfl, rfl⟩) ?_
  rw [h131]
  rw [h133]
  have h134 : M132[x0]? = some (.inr (10, fs130)) := by rw [← h133]; exact gs_eq h117
  have h135 : fs130[24]? = some (.int 0) := by rw [← h131]; exact (List.getElem?_set_ne (by decide : 45 ≠ 24)).trans h118
  have h136 : fs130[25]? = some (.int 0) := by rw [← h131]; exact (List.getElem?_set_ne (by decide : 45 ≠ 25)).trans h119
  have h137 : fs130[26]? = some (.int 0) := by rw [← h131]; exact (List.getElem?_set_ne (by decide : 45 ≠ 26)).trans h120
  have h138 : fs130[27]? = some (.int 0) := by rw [← h131]; exact (List.getElem?_set_ne (by decide : 45 ≠ 27)).trans h121
  have h139 : fs130[32]? = some (.int 0) := by rw [← h131]; exact (List.getElem?_set_ne (by decide : 45 ≠ 32)).trans h122
  have h140 : fs130[35]? = some (.int 0) := by rw [← h131]; exact (List.getElem?_set_ne (by decide : 45 ≠ 35)).trans h123
  have h141 : fs130[39]? = some (.int 0) := by rw [← h131]; exact (List.getElem?_set_ne (by decide : 45 ≠ 39)).trans h124
  have h142 : fs130[41]? = some (.int 0) := by rw [← h131]; exact (List.getElem?_set_ne (by decide : 45 ≠ 41)).trans h125
  have h143 : fs130[43]? = some (.int 0) := by rw [← h131]; exact (List.getElem?_set_ne (by decide : 45 ≠ 43)).trans h126
  have h144 : fs130[44]? = some (.int (-1)) := by rw [← h131]; exact (List.getElem?_set_ne (by decide : 45 ≠ 44)).trans h127
  have h145 : fs130[45]? = some (.int 0) := by rw [← h131]; exact List.getElem?_set_self h129
  have h146 : 59 ≤ fs130.length := by rw [← h131, List.length_set]; exact h128
  refine g_aload_n ok d_Mo_ask_55 rfl (j := 0) rfl ?_
  refine g_sipush (v := 10000) ok d_Mo_ask_56 (by decide) ?_
  have h147 : 46 < fs130.length := Nat.lt_of_lt_of_le (by decide) h146
  refine pf_Mo_308 ok d_Mo_ask_59 h134 h147 (fun _ => ⟨rfl, rfl⟩) ?_
  rw [h149]
  rw [h151]
  have h152 : M150[x0]? = some (.inr (10, fs148)) := by rw [← h151]; exact gs_eq h134
  have h153 : fs148[24]? = some (.int 0) := by rw [← h149]; exact (List.getElem?_set_ne (by decide : 46 ≠ 24)).trans h135
  have h154 : fs148[25]? = some (.int 0) := by rw [← h149]; exact (List.getElem?_set_ne (by decide : 46 ≠ 25)).trans h136
  have h155 : fs148[26]? = some (.int 0) := by rw [← h149]; exact (List.getElem?_set_ne (by decide : 46 ≠ 26)).trans h137
  have h156 : fs148[27]? = some (.int 0) := by rw [← h149]; exact (List.getElem?_set_ne (by decide : 46 ≠ 27)).trans h138
  have h157 : fs148[32]? = some (.int 0) := by rw [← h149]; exact (List.getElem?_set_ne (by decide : 46 ≠ 32)).trans h139
  have h158 : fs148[35]? = some (.int 0) := by rw [← h149]; exact (List.getElem?_set_ne (by decide : 46 ≠ 35)).trans h140
  have h159 : fs148[39]? = some (.int 0) := by rw [← h149]; exact (List.getElem?_set_ne (by decide : 46 ≠ 39)).trans h141
  have h160 : fs148[41]? = some (.int 0) := by rw [← h149]; exact (List.getElem?_set_ne (by decide : 46 ≠ 41)).trans h142
  have h161 : fs148[43]? = some (.int 0) := by rw [← h149]; exact (List.getElem?_set_ne (by decide : 46 ≠ 43)).trans h143
  have h162 : fs148[44]? = some (.int (-1)) := by rw [← h149]; exact (List.getElem?_set_ne (by decide : 46 ≠ 44)).trans h144
  have h163 : fs148[45]? = some (.int 0) := by rw [← h149]; exact (List.getElem?_set_ne (by decide : 46 ≠ 45)).trans h145
  have h164 : fs148[46]? = some (.int 10000) := by rw [← h149]; exact List.getElem?_set_self h147
  have h165 : 59 ≤ fs148.length := by rw [← h149, List.length_set]; exact h146
  refine g_aload_n ok d_Mo_ask_62 rfl (j := 0) rfl ?_
  refine g_iconst (v := 0) ok d_Mo_ask_63 (by decide) ?_
  have h166 : 18 < fs148.length := Nat.lt_of_lt_of_le (by decide) h165
  refine pf_Mo_172 ok d_Mo_ask_64 h152 h166 (fun _ => ⟨rfl, rfl⟩) ?_
  rw [h168]
  rw [h170]
  have h171 : M169[x0]? = some (.inr (10, fs167)) := by rw [← h170]; exact gs_eq h152
  have h172 : fs167[24]? = some (.int 0) := by rw [← h168]; exact (List.getElem?_set_ne (by decide : 18 ≠ 24)).trans h153
  have h173 : fs167[25]? = some (.int 0) := by rw [← h168]; exact (List.getElem?_set_ne (by decide : 18 ≠ 25)).trans h154
  have h174 : fs167[26]? = some (.int 0) := by rw [← h168]; exact (List.getElem?_set_ne (by decide : 18 ≠ 26)).trans h155
  have h175 : fs167[27]? = some (.int 0) := by rw [← h168]; exact (List.getElem?_set_ne (by decide : 18 ≠ 27)).trans h156
  have h176 : fs167[32]? = some (.int 0) := by rw [← h168]; exact (List.getElem?_set_ne (by decide : 18 ≠ 32)).trans h157
  have h177 : fs167[35]? = some (.int 0) := by rw [← h168]; exact (List.getElem?_set_ne (by decide : 18 ≠ 35)).trans h158
  have h178 : fs167[39]? = some (.int 0) := by rw [← h168]; exact (List.getElem?_set_ne (by decide : 18 ≠ 39)).trans h159
  have h179 : fs167[41]? = some (.int 0) := by rw [← h168]; exact (List.getElem?_set_ne (by decide : 18 ≠ 41)).trans h160
  have h180 : fs167[43]? = some (.int 0) := by rw [← h168]; exact (List.getElem?_set_ne (by decide : 18 ≠ 43)).trans h161
  have h181 : fs167[44]? = some (.int (-1)) := by rw [← h168]; exact (List.getElem?_set_ne (by decide : 18 ≠ 44)).trans h162
  have h182 : fs167[45]? = some (.int 0) := by rw [← h168]; exact (List.getElem?_set_ne (by decide : 18 ≠ 45)).trans h163
  have h183 : fs167[46]? = some (.int 10000) := by rw [← h168]; exact (List.getElem?_set_ne (by decide : 18 ≠ 46)).trans h164
  have h184 : fs167[18]? = some (.int 0) := by rw [← h168]; exact List.getElem?_set_self h166
  have h185 : 59 ≤ fs167.length := by rw [← h168, List.length_set]; exact h165
  refine g_aload_n ok d_Mo_ask_67 rfl (j := 0) rfl ?_
  refine g_iconst (v := (-1)) ok d_Mo_ask_68 (by decide) ?_
  have h186 : 20 < fs167.length := Nat.lt_of_lt_of_le (by decide) h185
  refine pf_Mo_220 ok d_Mo_ask_69 h171 h186 (fun _ => ⟨rfl, rfl⟩) ?_
  rw [h188]
  rw [h190]
  have h191 : M189[x0]? = some (.inr (10, fs187)) := by rw [← h190]; exact gs_eq h171
  have h192 : fs187[24]? = some (.int 0) := by rw [← h188]; exact (List.getElem?_set_ne (by decide : 20 ≠ 24)).trans h172
  have h193 : fs187[25]? = some (.int 0) := by rw [← h188]; exact (List.getElem?_set_ne (by decide : 20 ≠ 25)).trans h173
  have h194 : fs187[26]? = some (.int 0) := by rw [← h188]; exact (List.getElem?_set_ne (by decide : 20 ≠ 26)).trans h174
  have h195 : fs187[27]? = some (.int 0) := by rw [← h188]; exact (List.getElem?_set_ne (by decide : 20 ≠ 27)).trans h175
  have h196 : fs187[32]? = some (.int 0) := by rw [← h188]; exact (List.getElem?_set_ne (by decide : 20 ≠ 32)).trans h176
  have h197 : fs187[35]? = some (.int 0) := by rw [← h188]; exact (List.getElem?_set_ne (by decide : 20 ≠ 35)).trans h177
  have h198 : fs187[39]? = some (.int 0) := by rw [← h188]; exact (List.getElem?_set_ne (by decide : 20 ≠ 39)).trans h178
  have h199 : fs187[41]? = some (.int 0) := by rw [← h188]; exact (List.getElem?_set_ne (by decide : 20 ≠ 41)).trans h179
  have h200 : fs187[43]? = some (.int 0) := by rw [← h188]; exact (List.getElem?_set_ne (by decide : 20 ≠ 43)).trans h180
  have h201 : fs187[44]? = some (.int (-1)) := by rw [← h188]; exact (List.getElem?_set_ne (by decide : 20 ≠ 44)).trans h181
  have h202 : fs187[45]? = some (.int 0) := by rw [← h188]; exact (List.getElem?_set_ne (by decide : 20 ≠ 45)).trans h182
  have h203 : fs187[46]? = some (.int 10000) := by rw [← h188]; exact (List.getElem?_set_ne (by decide : 20 ≠ 46)).trans h183
  have h204 : fs187[18]? = some (.int 0) := by rw [← h188]; exact (List.getElem?_set_ne (by decide : 20 ≠ 18)).trans h184
  have h205 : fs187[20]? = some (.int (-1)) := by rw [← h188]; exact List.getElem?_set_self h186
  have h206 : 59 ≤ fs187.length := by rw [← h188, List.length_set]; exact h185
  refine g_aload_n ok d_Mo_ask_72 rfl (j := 0) rfl ?_
  refine g_iconst (v := 0) ok d_Mo_ask_73 (by decide) ?_
  have h207 : 21 < fs187.length := Nat.lt_of_lt_of_le (by decide) h206
  refine pf_Mo_281 ok d_Mo_ask_74 h191 h207 (fun _ => ⟨rfl, rfl⟩) ?_
  rw [h209]
  rw [h211]
  have h212 : M210[x0]? = some (.inr (10, fs208)) := by rw [← h211]; exact gs_eq h191
  have h213 : fs208[24]? = some (.int 0) := by rw [← h209]; exact (List.getElem?_set_ne (by decide : 21 ≠ 24)).trans h192
  have h214 : fs208[25]? = some (.int 0) := by rw [← h209]; exact (List.getElem?_set_ne (by decide : 21 ≠ 25)).trans h193
  have h215 : fs208[26]? = some (.int 0) := by rw [← h209]; exact (List.getElem?_set_ne (by decide : 21 ≠ 26)).trans h194
  have h216 : fs208[27]? = some (.int 0) := by rw [← h209]; exact (List.getElem?_set_ne (by decide : 21 ≠ 27)).trans h195
  have h217 : fs208[32]? = some (.int 0) := by rw [← h209]; exact (List.getElem?_set_ne (by decide : 21 ≠ 32)).trans h196
  have h218 : fs208[35]? = some (.int 0) := by rw [← h209]; exact (List.getElem?_set_ne (by decide : 21 ≠ 35)).trans h197
  have h219 : fs208[39]? = some (.int 0) := by rw [← h209]; exact (List.getElem?_set_ne (by decide : 21 ≠ 39)).trans h198
  have h220 : fs208[41]? = some (.int 0) := by rw [← h209]; exact (List.getElem?_set_ne (by decide : 21 ≠ 41)).trans h199
  have h221 : fs208[43]? = some (.int 0) := by rw [← h209]; exact (List.getElem?_set_ne (by decide : 21 ≠ 43)).trans h200
  have h222 : fs208[44]? = some (.int (-1)) := by rw [← h209]; exact (List.getElem?_set_ne (by decide : 21 ≠ 44)).trans h201
  have h223 : fs208[45]? = some (.int 0) := by rw [← h209]; exact (List.getElem?_set_ne (by decide : 21 ≠ 45)).trans h202
  have h224 : fs208[46]? = some (.int 10000) := by rw [← h209]; exact (List.getElem?_set_ne (by decide : 21 ≠ 46)).trans h203
  have h225 : fs208[18]? = some (.int 0) := by rw [← h209]; exact (List.getElem?_set_ne (by decide : 21 ≠ 18)).trans h204
  have h226 : fs208[20]? = some (.int (-1)) := by rw [← h209]; exact (List.getElem?_set_ne (by decide : 21 ≠ 20)).trans h205
  have h227 : fs208[21]? = some (.int 0) := by rw [← h209]; exact List.getElem?_set_self h207
  have h228 : 59 ≤ fs208.length := by rw [← h209, List.length_set]; exact h206
  refine g_aload_n ok d_Mo_ask_77 rfl (j := 0) rfl ?_
  exact gc_Mo_226 (As := []) (rest := []) ok d_Mo_ask_78 hm rfl rfl (Nat.le_of_ble_eq_true rfl) hR h212 hlen kk
theorem k_Mo_ask_81 {X : gC} {M : List mC} {k n : Nat} {x0 : Nat} {fs2 : List Value} (ok : gO X c_Mo_ask "TripleStoreModel" w_Mo_ask) (h1 : M[x0]? = some (.inr (10, fs2))) {rm : Room} {post : Option Value → List mC → Prop} (hm : mm_ (gLa X) y_Mo_readQuery w_Mo_readQuery rm [.ref x0] M post) (hR : gF X rm 2 k n) (hlen : ∀ r M', post r M' → M'.length = M.length) (kk : ∀ r M', post r M' → gg X M' (k + rm.cells) (n + rm.slots) 85 [(0, .ref x0)] (r.toList ++ [])) : gg X M k n 81 [(0, .ref x0)] [] := by
  refine g_aload_n ok d_Mo_ask_81 rfl (j := 0) rfl ?_
  exact gc_Mo_361 (As := []) (rest := []) ok d_Mo_ask_82 hm rfl rfl (Nat.le_of_ble_eq_true rfl) hR h1 hlen kk
theorem k_Mo_ask_85 {X : gC} {M : List mC} {k n : Nat} {x0 : Nat} {fs2 : List Value} {fs5 : List Value} {M7 : List mC} {f12 : Int32} {fs16 : List Value} {M18 : List mC} (ok : gO X c_Mo_ask "TripleStoreModel" w_Mo_ask) (h1 : M[x0]? = some (.inr (10, fs2))) (h4 : 59 ≤ fs2.length) (h6 : fs2.set 13 (.int 0) = fs5) (h8 : M.set x0 (.inr (10, fs5)) = M7) (h13 : fs2[20]? = some (.int f12)) (h17 : fs5.set 14 (.int f12) = fs16) (h19 : M7.set x0 (.inr (10, fs16)) = M18) (kt : 0 ≤ f12 → gg X M18 k n 110 [(0, .ref x0)] [.ref x0]) (kf : ¬ 0 ≤ f12 → gg X M18 k n 106 [(0, .ref x0)] [.ref x0]) : gg X M k n 85 [(0, .ref x0)] [] := by
  refine g_aload_n ok d_Mo_ask_85 rfl (j := 0) rfl ?_
  refine g_iconst (v := 0) ok d_Mo_ask_86 (by decide) ?_
  have h3 : 13 < fs2.length := Nat.lt_of_lt_of_le (by decide) h4
  refine pf_Mo_161 ok d_Mo_ask_87 h1 h3 (fun _ => ⟨rfl, rfl⟩) ?_
  rw [h6]
  rw [h8]
  have h9 : M7[x0]? = some (.inr (10, fs5)) := by rw [← h8]; exact gs_eq h1
  have h10 : fs5[13]? = some (.int 0) := by rw [← h6]; exact List.getElem?_set_self h3
  have h11 : 59 ≤ fs5.length := by rw [← h6, List.length_set]; exact h4
  refine g_aload_n ok d_Mo_ask_90 rfl (j := 0) rfl ?_
  refine g_aload_n ok d_Mo_ask_91 rfl (j := 0) rfl ?_
  have h14 : fs5[20]? = some (.int f12) := by rw [← h6]; exact (List.getElem?_set_ne (by decide : 13 ≠ 20)).trans h13
  refine gf_Mo_220 ok d_Mo_ask_92 h9 h14 ?_
  have h15 : 14 < fs5.length := Nat.lt_of_lt_of_le (by decide) h11
  refine pf_Mo_30 ok d_Mo_ask_95 h9 h15 (fun _ => ⟨rfl, rfl⟩) ?_
  rw [h17]
  rw [h19]
  have h20 : M18[x0]? = some (.inr (10, fs16)) := by rw [← h19]; exact gs_eq h9
  have h21 : fs16[13]? = some (.int 0) := by rw [← h17]; exact (List.getElem?_set_ne (by decide : 14 ≠ 13)).trans h10
  have h22 : fs16[20]? = some (.int f12) := by rw [← h17]; exact (List.getElem?_set_ne (by decide : 14 ≠ 20)).trans h14
  have h23 : fs16[14]? = some (.int f12) := by rw [← h17]; exact List.getElem?_set_self h15
  have h24 : 59 ≤ fs16.length := by rw [← h17, List.length_set]; exact h11
  refine g_aload_n ok d_Mo_ask_98 rfl (j := 0) rfl ?_
  refine g_aload_n ok d_Mo_ask_99 rfl (j := 0) rfl ?_
  refine gf_Mo_220 ok d_Mo_ask_100 h20 h22 ?_
  exact g_if_ge (tgt := 110) ok d_Mo_ask_103 (by decide) (fun z => (kt z)) (fun z => (kf z))
theorem k_Mo_ask_106 {X : gC} {M : List mC} {k n : Nat} {x0 : Nat} (ok : gO X c_Mo_ask "TripleStoreModel" w_Mo_ask)  (kk : gg X M k n 111 [(0, .ref x0)] [.int 1, .ref x0]) : gg X M k n 106 [(0, .ref x0)] [.ref x0] := by
  refine g_iconst (v := 1) ok d_Mo_ask_106 (by decide) ?_
  exact g_goto (tgt := 111) ok d_Mo_ask_107 (by decide) kk
theorem k_Mo_ask_110 {X : gC} {M : List mC} {k n : Nat} {x0 : Nat} (ok : gO X c_Mo_ask "TripleStoreModel" w_Mo_ask)  (kk : gg X M k n 111 [(0, .ref x0)] [.int 0, .ref x0]) : gg X M k n 110 [(0, .ref x0)] [.ref x0] := by
  refine g_iconst (v := 0) ok d_Mo_ask_110 (by decide) ?_
  exact kk
theorem k_Mo_ask_111 {X : gC} {M : List mC} {k n : Nat} {x0 : Nat} {s1 : Int32} {fs2 : List Value} (ok : gO X c_Mo_ask "TripleStoreModel" w_Mo_ask) (h1 : M[x0]? = some (.inr (10, fs2))) {rm : Room} {post : Option Value → List mC → Prop} (hm : mm_ (gLa X) y_Mo_good w_Mo_good rm [.ref x0, .int s1, .int 1] M post) (hR : gF X rm 3 k n) (hlen : ∀ r M', post r M' → M'.length = M.length) (kk : ∀ r M', post r M' → gg X M' (k + rm.cells) (n + rm.slots) 115 [(0, .ref x0)] (r.toList ++ [])) : gg X M k n 111 [(0, .ref x0)] [.int s1, .ref x0] := by
  refine g_iconst (v := 1) ok d_Mo_ask_111 (by decide) ?_
  exact gc_Mo_109 (As := [.int s1, .int 1]) (rest := []) ok d_Mo_ask_112 hm rfl rfl (Nat.le_of_ble_eq_true rfl) hR h1 hlen kk
theorem k_Mo_ask_115 {X : gC} {M : List mC} {k n : Nat} {x0 : Nat} {s0 : Int32} (ok : gO X c_Mo_ask "TripleStoreModel" w_Mo_ask)  (kt : ¬ s0 = 0 → gg X M k n 120 [(0, .ref x0)] []) (kf : s0 = 0 → gg X M k n 118 [] []) : gg X M k n 115 [(0, .ref x0)] [.int s0] := by
  exact g_if_ne (tgt := 120) ok d_Mo_ask_115 (by decide) (fun z => (kt z)) (fun z => (gg_keep [] (kf z)))
theorem k_Mo_ask_118 {X : gC} {M : List mC} {k n : Nat}  (ok : gO X c_Mo_ask "TripleStoreModel" w_Mo_ask)  {l9 : Launch} {rm : Room} {M0 : List mC} {post : Option Value → List mC → Prop} (E : gE X l9 y_Mo_ask rm 2 (some .int) M0 post) (hp : post (some (.int 0)) M) (hk : k ≤ rm.cells) (hn : n ≤ rm.slots) : gg X M k n 118 [] [] := by
  refine g_iconst (v := 0) ok d_Mo_ask_118 (by decide) ?_
  exact g_iret ok E d_Mo_ask_119 hp hk hn
theorem k_Mo_ask_120 {X : gC} {M : List mC} {k n : Nat} {x0 : Nat} (ok : gO X c_Mo_ask "TripleStoreModel" w_Mo_ask) (hl : gL X = 2)  (kk : gg X M k n 122 [(0, .ref x0), (1, .int 0)] []) : gg X M k n 120 [(0, .ref x0)] [] := by
  refine g_iconst (v := 0) ok d_Mo_ask_120 (by decide) ?_
  refine g_istore_n (L' := [(0, .ref x0), (1, .int 0)]) ok d_Mo_ask_121 rfl (by rw [hl]; decide) rfl ?_
  exact kk
theorem k_Mo_ask_122 {X : gC} {M : List mC} {k n : Nat} {x0 : Nat} {x1 : Int32} {fs2 : List Value} {f3 : Int32} (ok : gO X c_Mo_ask "TripleStoreModel" w_Mo_ask) (h1 : M[x0]? = some (.inr (10, fs2))) (h4 : fs2[41]? = some (.int f3)) (kt : f3 ≤ x1 → gg X M k n 148 [(0, .ref x0)] []) (kf : ¬ f3 ≤ x1 → gg X M k n 130 [(0, .ref x0), (1, .int x1)] []) : gg X M k n 122 [(0, .ref x0), (1, .int x1)] [] := by
  refine g_iload_n ok d_Mo_ask_122 rfl (j := 1) rfl ?_
  refine g_aload_n ok d_Mo_ask_123 rfl (j := 0) rfl ?_
  refine gf_Mo_296 ok d_Mo_ask_124 h1 h4 ?_
  exact g_icmp_ge (tgt := 148) ok d_Mo_ask_127 (by decide) (fun z => (gg_keep [0] (kt z))) (fun z => (kf z))
theorem k_Mo_ask_130 {X : gC} {M : List mC} {k n : Nat} {x0 : Nat} {x1 : Int32} {fs2 : List Value} {f3 : Nat} {f5 : Nat} {g8 : Nat → Int32} {N9 : Nat} {g12 : Nat → Int32} {N13 : Nat} {M15 : List mC} (ok : gO X c_Mo_ask "TripleStoreModel" w_Mo_ask) (hl : gL X = 2) (h1 : M[x0]? = some (.inr (10, fs2))) (h4 : fs2[56]? = some (.ref f3)) (h6 : fs2[40]? = some (.ref f5)) (h7 : M[f5]? = some (.inl (0, N9, .inl g8))) (h10 : vp_in x1 N9) (h11 : M[f3]? = some (.inl (0, N13, .inl g12))) (h14 : vp_in x1 N13) (h16 : M.set f3 (.inl (0, N13, .inl (upd g12 x1.toNatClampNeg (g8 x1.toNatClampNeg)))) = M15) (kk : gg X M15 k n 122 [(0, .ref x0), (1, .int (x1 + 1))] []) : gg X M k n 130 [(0, .ref x0), (1, .int x1)] [] := by
  refine g_aload_n ok d_Mo_ask_130 rfl (j := 0) rfl ?_
  refine gf_Mo_88 ok d_Mo_ask_131 h1 h4 ?_
  refine g_iload_n ok d_Mo_ask_134 rfl (j := 1) rfl ?_
  refine g_aload_n ok d_Mo_ask_135 rfl (j := 0) rfl ?_
  refine gf_Mo_64 ok d_Mo_ask_136 h1 h6 ?_
  refine g_iload_n ok d_Mo_ask_139 rfl (j := 1) rfl ?_
  refine g_iald (t := 0) ok rfl d_Mo_ask_140 h7 h10 ?_
  refine g_iast (t := 0) ok rfl d_Mo_ask_141 h11 h14 ?_
  rw [h16]
  have h17 : M15[f3]? = some (.inl (0, N13, .inl (upd g12 x1.toNatClampNeg (g8 x1.toNatClampNeg)))) := by rw [← h16]; exact gs_eq h11
  refine g_iinc (L' := [(0, .ref x0), (1, .int (x1 + 1))]) (v := (x1 + 1)) ok d_Mo_ask_142 (j := 1) rfl rfl (by rw [hl]; decide) rfl ?_
  exact g_goto (tgt := 122) ok d_Mo_ask_145 (by decide) kk
theorem k_Mo_ask_148 {X : gC} {M : List mC} {k n : Nat} {x0 : Nat} {fs2 : List Value} {f3 : Int32} {fs7 : List Value} {M9 : List mC} {fs16 : List Value} {M18 : List mC} {fs26 : List Value} {M28 : List mC} {fs37 : List Value} {M39 : List mC} (ok : gO X c_Mo_ask "TripleStoreModel" w_Mo_ask) (hl : gL X = 2) (h1 : M[x0]? = some (.inr (10, fs2))) (h4 : fs2[41]? = some (.int f3)) (h6 : 59 ≤ fs2.length) (h8 : fs2.set 57 (.int f3) = fs7) (h10 : M.set x0 (.inr (10, fs7)) = M9) (h17 : fs7.set 55 (.int 0) = fs16) (h19 : M9.set x0 (.inr (10, fs16)) = M18) (h27 : fs16.set 50 (.int 0) = fs26) (h29 : M18.set x0 (.inr (10, fs26)) = M28) (h38 : fs26.set 51 (.int 0) = fs37) (h40 : M28.set x0 (.inr (10, fs37)) = M39) (kk : gg X M39 k n 173 [(0, .ref x0), (1, .int 0)] []) : gg X M k n 148 [(0, .ref x0)] [] := by
  refine g_aload_n ok d_Mo_ask_148 rfl (j := 0) rfl ?_
  refine g_aload_n ok d_Mo_ask_149 rfl (j := 0) rfl ?_
  refine gf_Mo_296 ok d_Mo_ask_150 h1 h4 ?_
  have h5 : 57 < fs2.length := Nat.lt_of_lt_of_le (by decide) h6
  refine pf_Mo_364 ok d_Mo_ask_153 h1 h5 (fun _ => ⟨rfl, rfl⟩) ?_
  rw [h8]
  rw [h10]
  have h11 : M9[x0]? = some (.inr (10, fs7)) := by rw [← h10]; exact gs_eq h1
  have h12 : fs7[41]? = some (.int f3) := by rw [← h8]; exact (List.getElem?_set_ne (by decide : 57 ≠ 41)).trans h4
  have h13 : fs7[57]? = some (.int f3) := by rw [← h8]; exact List.getElem?_set_self h5
  have h14 : 59 ≤ fs7.length := by rw [← h8, List.length_set]; exact h6
  refine g_aload_n ok d_Mo_ask_156 rfl (j := 0) rfl ?_
  refine g_iconst (v := 0) ok d_Mo_ask_157 (by decide) ?_
  have h15 : 55 < fs7.length := Nat.lt_of_lt_of_le (by decide) h14
  refine pf_Mo_358 ok d_Mo_ask_158 h11 h15 (fun _ => ⟨rfl, rfl⟩) ?_
  rw [h17]
  rw [h19]
  have h20 : M18[x0]? = some (.inr (10, fs16)) := by rw [← h19]; exact gs_eq h11
  have h21 : fs16[41]? = some (.int f3) := by rw [← h17]; exact (List.getElem?_set_ne (by decide : 55 ≠ 41)).trans h12
  have h22 : fs16[57]? = some (.int f3) := by rw [← h17]; exact (List.getElem?_set_ne (by decide : 55 ≠ 57)).trans h13
  have h23 : fs16[55]? = some (.int 0) := by rw [← h17]; exact List.getElem?_set_self h15
  have h24 : 59 ≤ fs16.length := by rw [← h17, List.length_set]; exact h14
  refine g_aload_n ok d_Mo_ask_161 rfl (j := 0) rfl ?_
  refine g_iconst (v := 0) ok d_Mo_ask_162 (by decide) ?_
  have h25 : 50 < fs16.length := Nat.lt_of_lt_of_le (by decide) h24
  refine pf_Mo_318 ok d_Mo_ask_163 h20 h25 (fun _ => ⟨rfl, rfl⟩) ?_
  rw [h27]
  rw [h29]
  have h30 : M28[x0]? = some (.inr (10, fs26)) := by rw [← h29]; exact gs_eq h20
  have h31 : fs26[41]? = some (.int f3) := by rw [← h27]; exact (List.getElem?_set_ne (by decide : 50 ≠ 41)).trans h21
  have h32 : fs26[57]? = some (.int f3) := by rw [← h27]; exact (List.getElem?_set_ne (by decide : 50 ≠ 57)).trans h22
  have h33 : fs26[55]? = some (.int 0) := by rw [← h27]; exact (List.getElem?_set_ne (by decide : 50 ≠ 55)).trans h23
  have h34 : fs26[50]? = some (.int 0) := by rw [← h27]; exact List.getElem?_set_self h25
  have h35 : 59 ≤ fs26.length := by rw [← h27, List.length_set]; exact h24
  refine g_aload_n ok d_Mo_ask_166 rfl (j := 0) rfl ?_
  refine g_iconst (v := 0) ok d_Mo_ask_167 (by decide) ?_
  have h36 : 51 < fs26.length := Nat.lt_of_lt_of_le (by decide) h35
  refine pf_Mo_311 ok d_Mo_ask_168 h30 h36 (fun _ => ⟨rfl, rfl⟩) ?_
  rw [h38]
  rw [h40]
  have h41 : M39[x0]? = some (.inr (10, fs37)) := by rw [← h40]; exact gs_eq h30
  have h42 : fs37[41]? = some (.int f3) := by rw [← h38]; exact (List.getElem?_set_ne (by decide : 51 ≠ 41)).trans h31
  have h43 : fs37[57]? = some (.int f3) := by rw [← h38]; exact (List.getElem?_set_ne (by decide : 51 ≠ 57)).trans h32
  have h44 : fs37[55]? = some (.int 0) := by rw [← h38]; exact (List.getElem?_set_ne (by decide : 51 ≠ 55)).trans h33
  have h45 : fs37[50]? = some (.int 0) := by rw [← h38]; exact (List.getElem?_set_ne (by decide : 51 ≠ 50)).trans h34
  have h46 : fs37[51]? = some (.int 0) := by rw [← h38]; exact List.getElem?_set_self h36
  have h47 : 59 ≤ fs37.length := by rw [← h38, List.length_set]; exact h35
  refine g_iconst (v := 0) ok d_Mo_ask_171 (by decide) ?_
  refine g_istore_n (L' := [(0, .ref x0), (1, .int 0)]) ok d_Mo_ask_172 rfl (by rw [hl]; decide) rfl ?_
  exact kk
theorem k_Mo_ask_173 {X : gC} {M : List mC} {k n : Nat} {x0 : Nat} {x1 : Int32} {fs2 : List Value} {f3 : Int32} (ok : gO X c_Mo_ask "TripleStoreModel" w_Mo_ask) (h1 : M[x0]? = some (.inr (10, fs2))) (h4 : fs2[32]? = some (.int f3)) (kt : f3 ≤ x1 → gg X M k n 210 [(0, .ref x0)] []) (kf : ¬ f3 ≤ x1 → gg X M k n 181 [(0, .ref x0), (1, .int x1)] []) : gg X M k n 173 [(0, .ref x0), (1, .int x1)] [] := by
  refine g_iload_n ok d_Mo_ask_173 rfl (j := 1) rfl ?_
  refine g_aload_n ok d_Mo_ask_174 rfl (j := 0) rfl ?_
  refine gf_Mo_244 ok d_Mo_ask_175 h1 h4 ?_
  exact g_icmp_ge (tgt := 210) ok d_Mo_ask_178 (by decide) (fun z => (gg_keep [0] (kt z))) (fun z => (kf z))
theorem k_Mo_ask_181 {X : gC} {M : List mC} {k n : Nat} {x0 : Nat} {x1 : Int32} {fs2 : List Value} {f3 : Int32} (ok : gO X c_Mo_ask "TripleStoreModel" w_Mo_ask) (h1 : M[x0]? = some (.inr (10, fs2))) (h4 : fs2[51]? = some (.int f3)) (kt : ¬ f3 = 0 → gg X M k n 210 [(0, .ref x0)] []) (kf : f3 = 0 → gg X M k n 188 [(0, .ref x0), (1, .int x1)] []) : gg X M k n 181 [(0, .ref x0), (1, .int x1)] [] := by
  refine g_aload_n ok d_Mo_ask_181 rfl (j := 0) rfl ?_
  refine gf_Mo_311 ok d_Mo_ask_182 h1 h4 ?_
  exact g_if_ne (tgt := 210) ok d_Mo_ask_185 (by decide) (fun z => (gg_keep [0] (kt z))) (fun z => (kf z))
theorem k_Mo_ask_188 {X : gC} {M : List mC} {k n : Nat} {x0 : Nat} {x1 : Int32} {fs2 : List Value} {f3 : Nat} {g6 : Nat → Int32} {N7 : Nat} {f9 : Nat} {g12 : Nat → Int32} {N13 : Nat} (ok : gO X c_Mo_ask "TripleStoreModel" w_Mo_ask) (h1 : M[x0]? = some (.inr (10, fs2))) (h4 : fs2[30]? = some (.ref f3)) (h5 : M[f3]? = some (.inl (0, N7, .inl g6))) (h8 : vp_in x1 N7) (h10 : fs2[31]? = some (.ref f9)) (h11 : M[f9]? = some (.inl (0, N13, .inl g12))) (h14 : vp_in x1 N13) {rm : Room} {post : Option Value → List mC → Prop} (hm : mm_ (gLa X) y_Mo_work w_Mo_work rm [.ref x0, .int (g6 x1.toNatClampNeg), .int (g12 x1.toNatClampNeg)] M post) (hR : gF X rm 4 k n) (hlen : ∀ r M', post r M' → M'.length = M.length) (kk : ∀ r M', post r M' → gg X M' (k + rm.cells) (n + rm.slots) 204 [(0, .ref x0), (1, .int x1)] (r.toList ++ [])) : gg X M k n 188 [(0, .ref x0), (1, .int x1)] [] := by
  refine g_aload_n ok d_Mo_ask_188 rfl (j := 0) rfl ?_
  refine g_aload_n ok d_Mo_ask_189 rfl (j := 0) rfl ?_
  refine gf_Mo_43 ok d_Mo_ask_190 h1 h4 ?_
  refine g_iload_n ok d_Mo_ask_193 rfl (j := 1) rfl ?_
  refine g_iald (t := 0) ok rfl d_Mo_ask_194 h5 h8 ?_
  refine g_aload_n ok d_Mo_ask_195 rfl (j := 0) rfl ?_
  refine gf_Mo_46 ok d_Mo_ask_196 h1 h10 ?_
  refine g_iload_n ok d_Mo_ask_199 rfl (j := 1) rfl ?_
  refine g_iald (t := 0) ok rfl d_Mo_ask_200 h11 h14 ?_
  exact gc_Mo_367 (As := [.int (g6 x1.toNatClampNeg), .int (g12 x1.toNatClampNeg)]) (rest := []) ok d_Mo_ask_201 hm rfl rfl (Nat.le_of_ble_eq_true rfl) hR h1 hlen kk
theorem k_Mo_ask_204 {X : gC} {M : List mC} {k n : Nat} {x0 : Nat} {x1 : Int32} (ok : gO X c_Mo_ask "TripleStoreModel" w_Mo_ask) (hl : gL X = 2)  (kk : gg X M k n 173 [(0, .ref x0), (1, .int (x1 + 1))] []) : gg X M k n 204 [(0, .ref x0), (1, .int x1)] [] := by
  refine g_iinc (L' := [(0, .ref x0), (1, .int (x1 + 1))]) (v := (x1 + 1)) ok d_Mo_ask_204 (j := 1) rfl rfl (by rw [hl]; decide) rfl ?_
  exact g_goto (tgt := 173) ok d_Mo_ask_207 (by decide) kk
theorem k_Mo_ask_210 {X : gC} {M : List mC} {k n : Nat} {x0 : Nat} {fs2 : List Value} {f3 : Int32} (ok : gO X c_Mo_ask "TripleStoreModel" w_Mo_ask) (h1 : M[x0]? = some (.inr (10, fs2))) (h4 : fs2[51]? = some (.int f3)) (kt : ¬ f3 = 0 → gg X M k n 222 [(0, .ref x0)] [.ref x0]) (kf : f3 = 0 → gg X M k n 218 [(0, .ref x0)] [.ref x0]) : gg X M k n 210 [(0, .ref x0)] [] := by
  refine g_aload_n ok d_Mo_ask_210 rfl (j := 0) rfl ?_
  refine g_aload_n ok d_Mo_ask_211 rfl (j := 0) rfl ?_
  refine gf_Mo_311 ok d_Mo_ask_212 h1 h4 ?_
  exact g_if_ne (tgt := 222) ok d_Mo_ask_215 (by decide) (fun z => (kt z)) (fun z => (kf z))
theorem k_Mo_ask_218 {X : gC} {M : List mC} {k n : Nat} {x0 : Nat} (ok : gO X c_Mo_ask "TripleStoreModel" w_Mo_ask)  (kk : gg X M k n 223 [(0, .ref x0)] [.int 1, .ref x0]) : gg X M k n 218 [(0, .ref x0)] [.ref x0] := by
  refine g_iconst (v := 1) ok d_Mo_ask_218 (by decide) ?_
  exact g_goto (tgt := 223) ok d_Mo_ask_219 (by decide) kk
theorem k_Mo_ask_222 {X : gC} {M : List mC} {k n : Nat} {x0 : Nat} (ok : gO X c_Mo_ask "TripleStoreModel" w_Mo_ask)  (kk : gg X M k n 223 [(0, .ref x0)] [.int 0, .ref x0]) : gg X M k n 222 [(0, .ref x0)] [.ref x0] := by
  refine g_iconst (v := 0) ok d_Mo_ask_222 (by decide) ?_
  exact kk
theorem k_Mo_ask_223 {X : gC} {M : List mC} {k n : Nat} {x0 : Nat} {s1 : Int32} {fs2 : List Value} (ok : gO X c_Mo_ask "TripleStoreModel" w_Mo_ask) (h1 : M[x0]? = some (.inr (10, fs2))) {rm : Room} {post : Option Value → List mC → Prop} (hm : mm_ (gLa X) y_Mo_good w_Mo_good rm [.ref x0, .int s1, .int 2] M post) (hR : gF X rm 3 k n) (hlen : ∀ r M', post r M' → M'.length = M.length) (kk : ∀ r M', post r M' → gg X M' (k + rm.cells) (n + rm.slots) 227 [(0, .ref x0)] (r.toList ++ [])) : gg X M k n 223 [(0, .ref x0)] [.int s1, .ref x0] := by
  refine g_iconst (v := 2) ok d_Mo_ask_223 (by decide) ?_
  exact gc_Mo_109 (As := [.int s1, .int 2]) (rest := []) ok d_Mo_ask_224 hm rfl rfl (Nat.le_of_ble_eq_true rfl) hR h1 hlen kk
theorem k_Mo_ask_227 {X : gC} {M : List mC} {k n : Nat} {x0 : Nat} {s0 : Int32} (ok : gO X c_Mo_ask "TripleStoreModel" w_Mo_ask)  (kt : ¬ s0 = 0 → gg X M k n 232 [(0, .ref x0)] []) (kf : s0 = 0 → gg X M k n 230 [] []) : gg X M k n 227 [(0, .ref x0)] [.int s0] := by
  exact g_if_ne (tgt := 232) ok d_Mo_ask_227 (by decide) (fun z => (kt z)) (fun z => (gg_keep [] (kf z)))
theorem k_Mo_ask_230 {X : gC} {M : List mC} {k n : Nat}  (ok : gO X c_Mo_ask "TripleStoreModel" w_Mo_ask)  {l9 : Launch} {rm : Room} {M0 : List mC} {post : Option Value → List mC → Prop} (E : gE X l9 y_Mo_ask rm 2 (some .int) M0 post) (hp : post (some (.int 0)) M) (hk : k ≤ rm.cells) (hn : n ≤ rm.slots) : gg X M k n 230 [] [] := by
  refine g_iconst (v := 0) ok d_Mo_ask_230 (by decide) ?_
  exact g_iret ok E d_Mo_ask_231 hp hk hn
theorem k_Mo_ask_232 {X : gC} {M : List mC} {k n : Nat} {x0 : Nat} {fs2 : List Value} (ok : gO X c_Mo_ask "TripleStoreModel" w_Mo_ask) (h1 : M[x0]? = some (.inr (10, fs2))) {rm : Room} {post : Option Value → List mC → Prop} (hm : mm_ (gLa X) y_Mo_makeRows w_Mo_makeRows rm [.ref x0] M post) (hR : gF X rm 5 k n) (hlen : ∀ r M', post r M' → M'.length = M.length) (kk : ∀ r M', post r M' → gg X M' (k + rm.cells) (n + rm.slots) 236 [(0, .ref x0)] (r.toList ++ [])) : gg X M k n 232 [(0, .ref x0)] [] := by
  refine g_aload_n ok d_Mo_ask_232 rfl (j := 0) rfl ?_
  exact gc_Mo_370 (As := []) (rest := []) ok d_Mo_ask_233 hm rfl rfl (Nat.le_of_ble_eq_true rfl) hR h1 hlen kk
theorem k_Mo_ask_236 {X : gC} {M : List mC} {k n : Nat} {x0 : Nat} {fs2 : List Value} {f3 : Int32} (ok : gO X c_Mo_ask "TripleStoreModel" w_Mo_ask) (h1 : M[x0]? = some (.inr (10, fs2))) (h4 : fs2[55]? = some (.int f3)) {l9 : Launch} {rm : Room} {M0 : List mC} {post : Option Value → List mC → Prop} (E : gE X l9 y_Mo_ask rm 2 (some .int) M0 post) (hp : post (some (.int f3)) M) (hk : k ≤ rm.cells) (hn : n ≤ rm.slots) : gg X M k n 236 [(0, .ref x0)] [] := by
  refine g_aload_n ok d_Mo_ask_236 rfl (j := 0) rfl ?_
  refine gf_Mo_358 ok d_Mo_ask_237 h1 h4 ?_
  exact g_iret ok E d_Mo_ask_240 hp hk hn
theorem k_Mo_fault_0 {X : gC} {M : List mC} {k n : Nat} {x0 : Nat} {fs2 : List Value} {fs5 : List Value} {M7 : List mC} {f12 : Int32} (ok : gO X c_Mo_fault "TripleStoreModel" w_Mo_fault) (h1 : M[x0]? = some (.inr (10, fs2))) (h4 : 59 ≤ fs2.length) (h6 : fs2.set 58 (.int 0) = fs5) (h8 : M.set x0 (.inr (10, fs5)) = M7) (h13 : fs2[14]? = some (.int f12)) {l9 : Launch} {rm : Room} {M0 : List mC} {post : Option Value → List mC → Prop} (E : gE X l9 y_Mo_fault rm 1 (some .int) M0 post) (hp : post (some (.int f12)) M7) (hk : k ≤ rm.cells) (hn : n ≤ rm.slots) : gg X M k n 0 [(0, .ref x0)] [] := by
  refine g_aload_n ok d_Mo_fault_0 rfl (j := 0) rfl ?_
  refine g_iconst (v := 0) ok d_Mo_fault_1 (by decide) ?_
  have h3 : 58 < fs2.length := Nat.lt_of_lt_of_le (by decide) h4
  refine pf_Mo_91 ok d_Mo_fault_2 h1 h3 (fun _ => ⟨rfl, rfl⟩) ?_
  rw [h6]
  rw [h8]
  have h9 : M7[x0]? = some (.inr (10, fs5)) := by rw [← h8]; exact gs_eq h1
  have h10 : fs5[58]? = some (.int 0) := by rw [← h6]; exact List.getElem?_set_self h3
  have h11 : 59 ≤ fs5.length := by rw [← h6, List.length_set]; exact h4
  refine g_aload_n ok d_Mo_fault_5 rfl (j := 0) rfl ?_
  have h14 : fs5[14]? = some (.int f12) := by rw [← h6]; exact (List.getElem?_set_ne (by decide : 58 ≠ 14)).trans h13
  refine gf_Mo_30 ok d_Mo_fault_6 h9 h14 ?_
  exact g_iret ok E d_Mo_fault_9 hp hk hn
theorem k_Mo_cell_0 {X : gC} {M : List mC} {k n : Nat} {x0 : Nat} {x1 : Int32} {x2 : Int32} {fs2 : List Value} {f3 : Int32} (ok : gO X c_Mo_cell "TripleStoreModel" w_Mo_cell) (h1 : M[x0]? = some (.inr (10, fs2))) (h4 : fs2[55]? = some (.int f3)) {rm : Room} {post : Option Value → List mC → Prop} (hm : mm_ (gLa X) y_Mo_in w_Mo_in rm [.int x1, .int 0, .int (f3 - 1)] M post) (hR : gF X rm 3 k n) (hlen : ∀ r M', post r M' → M'.length = M.length) (kk : ∀ r M', post r M' → gg X M' (k + rm.cells) (n + rm.slots) 12 [(0, .ref x0), (1, .int x1), (2, .int x2)] (r.toList ++ [.ref x0])) : gg X M k n 0 [(0, .ref x0), (1, .int x1), (2, .int x2)] [] := by
  refine g_aload_n ok d_Mo_cell_0 rfl (j := 0) rfl ?_
  refine g_iload_n ok d_Mo_cell_1 rfl (j := 1) rfl ?_
  refine g_iconst (v := 0) ok d_Mo_cell_2 (by decide) ?_
  refine g_aload_n ok d_Mo_cell_3 rfl (j := 0) rfl ?_
  refine gf_Mo_358 ok d_Mo_cell_4 h1 h4 ?_
  refine g_iconst (v := 1) ok d_Mo_cell_7 (by decide) ?_
  refine g_isub ok d_Mo_cell_8 ?_
  exact gc_Mo_94 (As := [.int x1, .int 0, .int (f3 - 1)]) (rest := [.ref x0]) ok d_Mo_cell_9 hm rfl rfl (Nat.le_of_ble_eq_true rfl) hR hlen kk
theorem k_Mo_cell_12 {X : gC} {M : List mC} {k n : Nat} {x0 : Nat} {x1 : Int32} {x2 : Int32} {s1 : Int32} (ok : gO X c_Mo_cell "TripleStoreModel" w_Mo_cell)  (kt : s1 = 0 → gg X M k n 33 [(0, .ref x0), (1, .int x1), (2, .int x2)] [.ref x0]) (kf : ¬ s1 = 0 → gg X M k n 15 [(0, .ref x0), (1, .int x1), (2, .int x2)] [.ref x0]) : gg X M k n 12 [(0, .ref x0), (1, .int x1), (2, .int x2)] [.int s1, .ref x0] := by
  exact g_if_eq (tgt := 33) ok d_Mo_cell_12 (by decide) (fun z => (kt z)) (fun z => (kf z))
theorem k_Mo_cell_15 {X : gC} {M : List mC} {k n : Nat} {x0 : Nat} {x1 : Int32} {x2 : Int32} {fs2 : List Value} {f3 : Int32} (ok : gO X c_Mo_cell "TripleStoreModel" w_Mo_cell) (h1 : M[x0]? = some (.inr (10, fs2))) (h4 : fs2[57]? = some (.int f3)) {rm : Room} {post : Option Value → List mC → Prop} (hm : mm_ (gLa X) y_Mo_in w_Mo_in rm [.int x2, .int 0, .int (f3 - 1)] M post) (hR : gF X rm 3 k n) (hlen : ∀ r M', post r M' → M'.length = M.length) (kk : ∀ r M', post r M' → gg X M' (k + rm.cells) (n + rm.slots) 26 [(0, .ref x0), (1, .int x1), (2, .int x2)] (r.toList ++ [.ref x0])) : gg X M k n 15 [(0, .ref x0), (1, .int x1), (2, .int x2)] [.ref x0] := by
  refine g_iload_n ok d_Mo_cell_15 rfl (j := 2) rfl ?_
  refine g_iconst (v := 0) ok d_Mo_cell_16 (by decide) ?_
  refine g_aload_n ok d_Mo_cell_17 rfl (j := 0) rfl ?_
  refine gf_Mo_364 ok d_Mo_cell_18 h1 h4 ?_
  refine g_iconst (v := 1) ok d_Mo_cell_21 (by decide) ?_
  refine g_isub ok d_Mo_cell_22 ?_
  exact gc_Mo_94 (As := [.int x2, .int 0, .int (f3 - 1)]) (rest := [.ref x0]) ok d_Mo_cell_23 hm rfl rfl (Nat.le_of_ble_eq_true rfl) hR hlen kk
theorem k_Mo_cell_26 {X : gC} {M : List mC} {k n : Nat} {x0 : Nat} {x1 : Int32} {x2 : Int32} {s1 : Int32} (ok : gO X c_Mo_cell "TripleStoreModel" w_Mo_cell)  (kt : s1 = 0 → gg X M k n 33 [(0, .ref x0), (1, .int x1), (2, .int x2)] [.ref x0]) (kf : ¬ s1 = 0 → gg X M k n 29 [(0, .ref x0), (1, .int x1), (2, .int x2)] [.ref x0]) : gg X M k n 26 [(0, .ref x0), (1, .int x1), (2, .int x2)] [.int s1, .ref x0] := by
  exact g_if_eq (tgt := 33) ok d_Mo_cell_26 (by decide) (fun z => (kt z)) (fun z => (kf z))
theorem k_Mo_cell_29 {X : gC} {M : List mC} {k n : Nat} {x0 : Nat} {x1 : Int32} {x2 : Int32} (ok : gO X c_Mo_cell "TripleStoreModel" w_Mo_cell)  (kk : gg X M k n 34 [(0, .ref x0), (1, .int x1), (2, .int x2)] [.int 1, .ref x0]) : gg X M k n 29 [(0, .ref x0), (1, .int x1), (2, .int x2)] [.ref x0] := by
  refine g_iconst (v := 1) ok d_Mo_cell_29 (by decide) ?_
  exact g_goto (tgt := 34) ok d_Mo_cell_30 (by decide) kk
theorem k_Mo_cell_33 {X : gC} {M : List mC} {k n : Nat} {x0 : Nat} {x1 : Int32} {x2 : Int32} (ok : gO X c_Mo_cell "TripleStoreModel" w_Mo_cell)  (kk : gg X M k n 34 [(0, .ref x0), (1, .int x1), (2, .int x2)] [.int 0, .ref x0]) : gg X M k n 33 [(0, .ref x0), (1, .int x1), (2, .int x2)] [.ref x0] := by
  refine g_iconst (v := 0) ok d_Mo_cell_33 (by decide) ?_
  exact kk
theorem k_Mo_cell_34 {X : gC} {M : List mC} {k n : Nat} {x0 : Nat} {x1 : Int32} {x2 : Int32} {s1 : Int32} {fs2 : List Value} (ok : gO X c_Mo_cell "TripleStoreModel" w_Mo_cell) (h1 : M[x0]? = some (.inr (10, fs2))) {rm : Room} {post : Option Value → List mC → Prop} (hm : mm_ (gLa X) y_Mo_good w_Mo_good rm [.ref x0, .int s1, .int 1] M post) (hR : gF X rm 3 k n) (hlen : ∀ r M', post r M' → M'.length = M.length) (kk : ∀ r M', post r M' → gg X M' (k + rm.cells) (n + rm.slots) 38 [(0, .ref x0), (1, .int x1), (2, .int x2)] (r.toList ++ [])) : gg X M k n 34 [(0, .ref x0), (1, .int x1), (2, .int x2)] [.int s1, .ref x0] := by
  refine g_iconst (v := 1) ok d_Mo_cell_34 (by decide) ?_
  exact gc_Mo_109 (As := [.int s1, .int 1]) (rest := []) ok d_Mo_cell_35 hm rfl rfl (Nat.le_of_ble_eq_true rfl) hR h1 hlen kk
theorem k_Mo_cell_38 {X : gC} {M : List mC} {k n : Nat} {x0 : Nat} {x1 : Int32} {x2 : Int32} {s0 : Int32} (ok : gO X c_Mo_cell "TripleStoreModel" w_Mo_cell)  (kt : ¬ s0 = 0 → gg X M k n 43 [(0, .ref x0), (1, .int x1), (2, .int x2)] []) (kf : s0 = 0 → gg X M k n 41 [] []) : gg X M k n 38 [(0, .ref x0), (1, .int x1), (2, .int x2)] [.int s0] := by
  exact g_if_ne (tgt := 43) ok d_Mo_cell_38 (by decide) (fun z => (kt z)) (fun z => (gg_keep [] (kf z)))
theorem k_Mo_cell_41 {X : gC} {M : List mC} {k n : Nat}  (ok : gO X c_Mo_cell "TripleStoreModel" w_Mo_cell)  {l9 : Launch} {rm : Room} {M0 : List mC} {post : Option Value → List mC → Prop} (E : gE X l9 y_Mo_cell rm 4 (some .long) M0 post) (hp : post (some (.long 0)) M) (hk : k ≤ rm.cells) (hn : n ≤ rm.slots) : gg X M k n 41 [] [] := by
  refine g_lconst (v := 0) ok d_Mo_cell_41 (by decide) ?_
  exact g_lret ok E d_Mo_cell_42 hp hk hn
theorem k_Mo_cell_43 {X : gC} {M : List mC} {k n : Nat} {x0 : Nat} {x1 : Int32} {x2 : Int32} {fs2 : List Value} {f3 : Nat} {g6 : Nat → Int32} {N7 : Nat} {f9 : Nat} {g12 : Nat → Int32} {N13 : Nat} (ok : gO X c_Mo_cell "TripleStoreModel" w_Mo_cell) (hl : gL X = 4) (h1 : M[x0]? = some (.inr (10, fs2))) (h4 : fs2[56]? = some (.ref f3)) (h5 : M[f3]? = some (.inl (0, N7, .inl g6))) (h8 : vp_in x2 N7) (h10 : fs2[53]? = some (.ref f9)) (h11 : M[f9]? = some (.inl (0, N13, .inl g12))) (h14 : vp_in x1 N13) (kt : ¬ (((g12 x1.toNatClampNeg) >>> ((g6 x2.toNatClampNeg) &&& 31)) &&& 1) = 1 → gg X M k n 69 [(0, .ref x0), (1, .int x1), (3, .int (g6 x2.toNatClampNeg))] [.ref x0]) (kf : (((g12 x1.toNatClampNeg) >>> ((g6 x2.toNatClampNeg) &&& 31)) &&& 1) = 1 → gg X M k n 65 [(0, .ref x0), (1, .int x1), (3, .int (g6 x2.toNatClampNeg))] [.ref x0]) : gg X M k n 43 [(0, .ref x0), (1, .int x1), (2, .int x2)] [] := by
  refine g_aload_n ok d_Mo_cell_43 rfl (j := 0) rfl ?_
  refine gf_Mo_88 ok d_Mo_cell_44 h1 h4 ?_
  refine g_iload_n ok d_Mo_cell_47 rfl (j := 2) rfl ?_
  refine g_iald (t := 0) ok rfl d_Mo_cell_48 h5 h8 ?_
  refine g_istore_n (L' := [(0, .ref x0), (1, .int x1), (2, .int x2), (3, .int (g6 x2.toNatClampNeg))]) ok d_Mo_cell_49 rfl (by rw [hl]; decide) rfl ?_
  refine g_aload_n ok d_Mo_cell_50 rfl (j := 0) rfl ?_
  refine g_aload_n ok d_Mo_cell_51 rfl (j := 0) rfl ?_
  refine gf_Mo_82 ok d_Mo_cell_52 h1 h10 ?_
  refine g_iload_n ok d_Mo_cell_55 rfl (j := 1) rfl ?_
  refine g_iald (t := 0) ok rfl d_Mo_cell_56 h11 h14 ?_
  refine g_iload_n ok d_Mo_cell_57 rfl (j := 3) rfl ?_
  refine g_ishr ok d_Mo_cell_58 ?_
  refine g_iconst (v := 1) ok d_Mo_cell_59 (by decide) ?_
  refine g_iand ok d_Mo_cell_60 ?_
  refine g_iconst (v := 1) ok d_Mo_cell_61 (by decide) ?_
  exact g_icmp_ne (tgt := 69) ok d_Mo_cell_62 (by decide) (fun z => (gg_keep [0, 1, 3] (kt z))) (fun z => (gg_keep [0, 1, 3] (kf z)))
theorem k_Mo_cell_65 {X : gC} {M : List mC} {k n : Nat} {x0 : Nat} {x1 : Int32} {x3 : Int32} (ok : gO X c_Mo_cell "TripleStoreModel" w_Mo_cell)  (kk : gg X M k n 70 [(0, .ref x0), (1, .int x1), (3, .int x3)] [.int 1, .ref x0]) : gg X M k n 65 [(0, .ref x0), (1, .int x1), (3, .int x3)] [.ref x0] := by
  refine g_iconst (v := 1) ok d_Mo_cell_65 (by decide) ?_
  exact g_goto (tgt := 70) ok d_Mo_cell_66 (by decide) kk
theorem k_Mo_cell_69 {X : gC} {M : List mC} {k n : Nat} {x0 : Nat} {x1 : Int32} {x3 : Int32} (ok : gO X c_Mo_cell "TripleStoreModel" w_Mo_cell)  (kk : gg X M k n 70 [(0, .ref x0), (1, .int x1), (3, .int x3)] [.int 0, .ref x0]) : gg X M k n 69 [(0, .ref x0), (1, .int x1), (3, .int x3)] [.ref x0] := by
  refine g_iconst (v := 0) ok d_Mo_cell_69 (by decide) ?_
  exact kk
theorem k_Mo_cell_70 {X : gC} {M : List mC} {k n : Nat} {x0 : Nat} {x1 : Int32} {x3 : Int32} {s1 : Int32} {fs2 : List Value} (ok : gO X c_Mo_cell "TripleStoreModel" w_Mo_cell) (h1 : M[x0]? = some (.inr (10, fs2))) {rm : Room} {post : Option Value → List mC → Prop} (hm : mm_ (gLa X) y_Mo_good w_Mo_good rm [.ref x0, .int s1, .int 2] M post) (hR : gF X rm 3 k n) (hlen : ∀ r M', post r M' → M'.length = M.length) (kk : ∀ r M', post r M' → gg X M' (k + rm.cells) (n + rm.slots) 74 [(0, .ref x0), (1, .int x1), (3, .int x3)] (r.toList ++ [])) : gg X M k n 70 [(0, .ref x0), (1, .int x1), (3, .int x3)] [.int s1, .ref x0] := by
  refine g_iconst (v := 2) ok d_Mo_cell_70 (by decide) ?_
  exact gc_Mo_109 (As := [.int s1, .int 2]) (rest := []) ok d_Mo_cell_71 hm rfl rfl (Nat.le_of_ble_eq_true rfl) hR h1 hlen kk
theorem k_Mo_cell_74 {X : gC} {M : List mC} {k n : Nat} {x0 : Nat} {x1 : Int32} {x3 : Int32} {s0 : Int32} (ok : gO X c_Mo_cell "TripleStoreModel" w_Mo_cell)  (kt : s0 = 0 → gg X M k n 91 [] []) (kf : ¬ s0 = 0 → gg X M k n 77 [(0, .ref x0), (1, .int x1), (3, .int x3)] []) : gg X M k n 74 [(0, .ref x0), (1, .int x1), (3, .int x3)] [.int s0] := by
  exact g_if_eq (tgt := 91) ok d_Mo_cell_74 (by decide) (fun z => (gg_keep [] (kt z))) (fun z => (kf z))
theorem k_Mo_cell_77 {X : gC} {M : List mC} {k n : Nat} {x0 : Nat} {x1 : Int32} {x3 : Int32} {fs2 : List Value} {f3 : Nat} {g6 : Nat → Int64} {N7 : Nat} (ok : gO X c_Mo_cell "TripleStoreModel" w_Mo_cell) (h1 : M[x0]? = some (.inr (10, fs2))) (h4 : fs2[52]? = some (.ref f3)) (h5 : M[f3]? = some (.inl (1, N7, .inr (.inl g6)))) (h8 : vp_in ((6 * x1) + x3) N7) (kk : gg X M k n 92 [] [.long (g6 ((6 * x1) + x3).toNatClampNeg)]) : gg X M k n 77 [(0, .ref x0), (1, .int x1), (3, .int x3)] [] := by
  refine g_aload_n ok d_Mo_cell_77 rfl (j := 0) rfl ?_
  refine gf_Mo_79 ok d_Mo_cell_78 h1 h4 ?_
  refine g_bipush (v := 6) ok d_Mo_cell_81 (by decide) ?_
  refine g_iload_n ok d_Mo_cell_83 rfl (j := 1) rfl ?_
  refine g_imul ok d_Mo_cell_84 ?_
  refine g_iload_n ok d_Mo_cell_85 rfl (j := 2) rfl ?_
  refine g_iadd ok d_Mo_cell_86 ?_
  refine g_lald (t := 1) ok rfl d_Mo_cell_87 h5 h8 ?_
  exact g_goto (tgt := 92) ok d_Mo_cell_88 (by decide) (gg_keep [] kk)
theorem k_Mo_cell_91 {X : gC} {M : List mC} {k n : Nat}  (ok : gO X c_Mo_cell "TripleStoreModel" w_Mo_cell)  (kk : gg X M k n 92 [] [.long 0]) : gg X M k n 91 [] [] := by
  refine g_lconst (v := 0) ok d_Mo_cell_91 (by decide) ?_
  exact kk
theorem k_Mo_cell_92 {X : gC} {M : List mC} {k n : Nat} {s0 : Int64} (ok : gO X c_Mo_cell "TripleStoreModel" w_Mo_cell)  {l9 : Launch} {rm : Room} {M0 : List mC} {post : Option Value → List mC → Prop} (E : gE X l9 y_Mo_cell rm 4 (some .long) M0 post) (hp : post (some (.long s0)) M) (hk : k ≤ rm.cells) (hn : n ≤ rm.slots) : gg X M k n 92 [] [.long s0] := by
  exact g_lret ok E d_Mo_cell_92 hp hk hn
theorem k_Mo_count_0 {X : gC} {M : List mC} {k n : Nat} {x0 : Nat} {x1 : Int32} (ok : gO X c_Mo_count "TripleStoreModel" w_Mo_count)  {rm : Room} {post : Option Value → List mC → Prop} (hm : mm_ (gLa X) y_Mo_in w_Mo_in rm [.int x1, .int 0, .int 6] M post) (hR : gF X rm 3 k n) (hlen : ∀ r M', post r M' → M'.length = M.length) (kk : ∀ r M', post r M' → gg X M' (k + rm.cells) (n + rm.slots) 8 [(0, .ref x0), (1, .int x1)] (r.toList ++ [.ref x0])) : gg X M k n 0 [(0, .ref x0), (1, .int x1)] [] := by
  refine g_aload_n ok d_Mo_count_0 rfl (j := 0) rfl ?_
  refine g_iload_n ok d_Mo_count_1 rfl (j := 1) rfl ?_
  refine g_iconst (v := 0) ok d_Mo_count_2 (by decide) ?_
  refine g_bipush (v := 6) ok d_Mo_count_3 (by decide) ?_
  exact gc_Mo_94 (As := [.int x1, .int 0, .int 6]) (rest := [.ref x0]) ok d_Mo_count_5 hm rfl rfl (Nat.le_of_ble_eq_true rfl) hR hlen kk
theorem k_Mo_count_8 {X : gC} {M : List mC} {k n : Nat} {x0 : Nat} {x1 : Int32} {s1 : Int32} {fs2 : List Value} (ok : gO X c_Mo_count "TripleStoreModel" w_Mo_count) (h1 : M[x0]? = some (.inr (10, fs2))) {rm : Room} {post : Option Value → List mC → Prop} (hm : mm_ (gLa X) y_Mo_good w_Mo_good rm [.ref x0, .int s1, .int 1] M post) (hR : gF X rm 3 k n) (hlen : ∀ r M', post r M' → M'.length = M.length) (kk : ∀ r M', post r M' → gg X M' (k + rm.cells) (n + rm.slots) 12 [(0, .ref x0), (1, .int x1)] (r.toList ++ [])) : gg X M k n 8 [(0, .ref x0), (1, .int x1)] [.int s1, .ref x0] := by
  refine g_iconst (v := 1) ok d_Mo_count_8 (by decide) ?_
  exact gc_Mo_109 (As := [.int s1, .int 1]) (rest := []) ok d_Mo_count_9 hm rfl rfl (Nat.le_of_ble_eq_true rfl) hR h1 hlen kk
theorem k_Mo_count_12 {X : gC} {M : List mC} {k n : Nat} {x0 : Nat} {x1 : Int32} {s0 : Int32} (ok : gO X c_Mo_count "TripleStoreModel" w_Mo_count)  (kt : ¬ s0 = 0 → gg X M k n 17 [(0, .ref x0), (1, .int x1)] []) (kf : s0 = 0 → gg X M k n 15 [] []) : gg X M k n 12 [(0, .ref x0), (1, .int x1)] [.int s0] := by
  exact g_if_ne (tgt := 17) ok d_Mo_count_12 (by decide) (fun z => (kt z)) (fun z => (gg_keep [] (kf z)))
theorem k_Mo_count_15 {X : gC} {M : List mC} {k n : Nat}  (ok : gO X c_Mo_count "TripleStoreModel" w_Mo_count)  {l9 : Launch} {rm : Room} {M0 : List mC} {post : Option Value → List mC → Prop} (E : gE X l9 y_Mo_count rm 2 (some .int) M0 post) (hp : post (some (.int 0)) M) (hk : k ≤ rm.cells) (hn : n ≤ rm.slots) : gg X M k n 15 [] [] := by
  refine g_iconst (v := 0) ok d_Mo_count_15 (by decide) ?_
  exact g_iret ok E d_Mo_count_16 hp hk hn
theorem k_Mo_count_17 {X : gC} {M : List mC} {k n : Nat} {x0 : Nat} {x1 : Int32} (ok : gO X c_Mo_count "TripleStoreModel" w_Mo_count)  (kt : 3 ≤ x1 → gg X M k n 50 [(0, .ref x0), (1, .int x1)] []) (kf : ¬ 3 ≤ x1 → gg X M k n 22 [(0, .ref x0), (1, .int x1)] []) : gg X M k n 17 [(0, .ref x0), (1, .int x1)] [] := by
  refine g_iload_n ok d_Mo_count_17 rfl (j := 1) rfl ?_
  refine g_iconst (v := 3) ok d_Mo_count_18 (by decide) ?_
  exact g_icmp_ge (tgt := 50) ok d_Mo_count_19 (by decide) (fun z => (kt z)) (fun z => (kf z))
theorem k_Mo_count_22 {X : gC} {M : List mC} {k n : Nat} {x0 : Nat} {x1 : Int32} (ok : gO X c_Mo_count "TripleStoreModel" w_Mo_count)  (kt : ¬ x1 = 0 → gg X M k n 33 [(0, .ref x0), (1, .int x1)] []) (kf : x1 = 0 → gg X M k n 26 [(0, .ref x0)] []) : gg X M k n 22 [(0, .ref x0), (1, .int x1)] [] := by
  refine g_iload_n ok d_Mo_count_22 rfl (j := 1) rfl ?_
  exact g_if_ne (tgt := 33) ok d_Mo_count_23 (by decide) (fun z => (kt z)) (fun z => (gg_keep [0] (kf z)))
theorem k_Mo_count_26 {X : gC} {M : List mC} {k n : Nat} {x0 : Nat} {fs2 : List Value} {f3 : Int32} (ok : gO X c_Mo_count "TripleStoreModel" w_Mo_count) (h1 : M[x0]? = some (.inr (10, fs2))) (h4 : fs2[1]? = some (.int f3)) (kk : gg X M k n 49 [] [.int f3]) : gg X M k n 26 [(0, .ref x0)] [] := by
  refine g_aload_n ok d_Mo_count_26 rfl (j := 0) rfl ?_
  refine gf_Mo_102 ok d_Mo_count_27 h1 h4 ?_
  exact g_goto (tgt := 49) ok d_Mo_count_30 (by decide) (gg_keep [] kk)
theorem k_Mo_count_33 {X : gC} {M : List mC} {k n : Nat} {x0 : Nat} {x1 : Int32} (ok : gO X c_Mo_count "TripleStoreModel" w_Mo_count)  (kt : ¬ x1 = 1 → gg X M k n 45 [(0, .ref x0)] []) (kf : x1 = 1 → gg X M k n 38 [(0, .ref x0)] []) : gg X M k n 33 [(0, .ref x0), (1, .int x1)] [] := by
  refine g_iload_n ok d_Mo_count_33 rfl (j := 1) rfl ?_
  refine g_iconst (v := 1) ok d_Mo_count_34 (by decide) ?_
  exact g_icmp_ne (tgt := 45) ok d_Mo_count_35 (by decide) (fun z => (gg_keep [0] (kt z))) (fun z => (gg_keep [0] (kf z)))
theorem k_Mo_count_38 {X : gC} {M : List mC} {k n : Nat} {x0 : Nat} {fs2 : List Value} {f3 : Int32} (ok : gO X c_Mo_count "TripleStoreModel" w_Mo_count) (h1 : M[x0]? = some (.inr (10, fs2))) (h4 : fs2[57]? = some (.int f3)) (kk : gg X M k n 49 [] [.int f3]) : gg X M k n 38 [(0, .ref x0)] [] := by
  refine g_aload_n ok d_Mo_count_38 rfl (j := 0) rfl ?_
  refine gf_Mo_364 ok d_Mo_count_39 h1 h4 ?_
  exact g_goto (tgt := 49) ok d_Mo_count_42 (by decide) (gg_keep [] kk)
theorem k_Mo_count_45 {X : gC} {M : List mC} {k n : Nat} {x0 : Nat} {fs2 : List Value} {f3 : Int32} (ok : gO X c_Mo_count "TripleStoreModel" w_Mo_count) (h1 : M[x0]? = some (.inr (10, fs2))) (h4 : fs2[55]? = some (.int f3)) (kk : gg X M k n 49 [] [.int f3]) : gg X M k n 45 [(0, .ref x0)] [] := by
  refine g_aload_n ok d_Mo_count_45 rfl (j := 0) rfl ?_
  refine gf_Mo_358 ok d_Mo_count_46 h1 h4 ?_
  exact (gg_keep [] kk)
theorem k_Mo_count_49 {X : gC} {M : List mC} {k n : Nat} {s0 : Int32} (ok : gO X c_Mo_count "TripleStoreModel" w_Mo_count)  {l9 : Launch} {rm : Room} {M0 : List mC} {post : Option Value → List mC → Prop} (E : gE X l9 y_Mo_count rm 2 (some .int) M0 post) (hp : post (some (.int s0)) M) (hk : k ≤ rm.cells) (hn : n ≤ rm.slots) : gg X M k n 49 [] [.int s0] := by
  exact g_iret ok E d_Mo_count_49 hp hk hn
theorem k_Mo_count_50 {X : gC} {M : List mC} {k n : Nat} {x0 : Nat} {x1 : Int32} (ok : gO X c_Mo_count "TripleStoreModel" w_Mo_count)  (kt : ¬ x1 = 3 → gg X M k n 62 [(0, .ref x0), (1, .int x1)] []) (kf : x1 = 3 → gg X M k n 55 [(0, .ref x0)] []) : gg X M k n 50 [(0, .ref x0), (1, .int x1)] [] := by
  refine g_iload_n ok d_Mo_count_50 rfl (j := 1) rfl ?_
  refine g_iconst (v := 3) ok d_Mo_count_51 (by decide) ?_
  exact g_icmp_ne (tgt := 62) ok d_Mo_count_52 (by decide) (fun z => (kt z)) (fun z => (gg_keep [0] (kf z)))
theorem k_Mo_count_55 {X : gC} {M : List mC} {k n : Nat} {x0 : Nat} {fs2 : List Value} {f3 : Int32} (ok : gO X c_Mo_count "TripleStoreModel" w_Mo_count) (h1 : M[x0]? = some (.inr (10, fs2))) (h4 : fs2[8]? = some (.int f3)) (kk : gg X M k n 106 [] [.int f3]) : gg X M k n 55 [(0, .ref x0)] [] := by
  refine g_aload_n ok d_Mo_count_55 rfl (j := 0) rfl ?_
  refine gf_Mo_130 ok d_Mo_count_56 h1 h4 ?_
  exact g_goto (tgt := 106) ok d_Mo_count_59 (by decide) (gg_keep [] kk)
theorem k_Mo_count_62 {X : gC} {M : List mC} {k n : Nat} {x0 : Nat} {x1 : Int32} (ok : gO X c_Mo_count "TripleStoreModel" w_Mo_count)  (kt : ¬ x1 = 4 → gg X M k n 74 [(0, .ref x0), (1, .int x1)] []) (kf : x1 = 4 → gg X M k n 67 [(0, .ref x0)] []) : gg X M k n 62 [(0, .ref x0), (1, .int x1)] [] := by
  refine g_iload_n ok d_Mo_count_62 rfl (j := 1) rfl ?_
  refine g_iconst (v := 4) ok d_Mo_count_63 (by decide) ?_
  exact g_icmp_ne (tgt := 74) ok d_Mo_count_64 (by decide) (fun z => (kt z)) (fun z => (gg_keep [0] (kf z)))
theorem k_Mo_count_67 {X : gC} {M : List mC} {k n : Nat} {x0 : Nat} {fs2 : List Value} {f3 : Int32} (ok : gO X c_Mo_count "TripleStoreModel" w_Mo_count) (h1 : M[x0]? = some (.inr (10, fs2))) (h4 : fs2[9]? = some (.int f3)) (kk : gg X M k n 106 [] [.int f3]) : gg X M k n 67 [(0, .ref x0)] [] := by
  refine g_aload_n ok d_Mo_count_67 rfl (j := 0) rfl ?_
  refine gf_Mo_120 ok d_Mo_count_68 h1 h4 ?_
  exact g_goto (tgt := 106) ok d_Mo_count_71 (by decide) (gg_keep [] kk)
theorem k_Mo_count_74 {X : gC} {M : List mC} {k n : Nat} {x0 : Nat} {x1 : Int32} (ok : gO X c_Mo_count "TripleStoreModel" w_Mo_count)  (kt : ¬ x1 = 5 → gg X M k n 102 [(0, .ref x0)] []) (kf : x1 = 5 → gg X M k n 79 [(0, .ref x0)] []) : gg X M k n 74 [(0, .ref x0), (1, .int x1)] [] := by
  refine g_iload_n ok d_Mo_count_74 rfl (j := 1) rfl ?_
  refine g_iconst (v := 5) ok d_Mo_count_75 (by decide) ?_
  exact g_icmp_ne (tgt := 102) ok d_Mo_count_76 (by decide) (fun z => (gg_keep [0] (kt z))) (fun z => (gg_keep [0] (kf z)))
theorem k_Mo_count_79 {X : gC} {M : List mC} {k n : Nat} {x0 : Nat} {fs2 : List Value} {f3 : Int32} (ok : gO X c_Mo_count "TripleStoreModel" w_Mo_count) (h1 : M[x0]? = some (.inr (10, fs2))) (h4 : fs2[10]? = some (.int f3)) (kt : f3 = 0 → gg X M k n 98 [] []) (kf : ¬ f3 = 0 → gg X M k n 86 [(0, .ref x0)] []) : gg X M k n 79 [(0, .ref x0)] [] := by
  refine g_aload_n ok d_Mo_count_79 rfl (j := 0) rfl ?_
  refine gf_Mo_123 ok d_Mo_count_80 h1 h4 ?_
  exact g_if_eq (tgt := 98) ok d_Mo_count_83 (by decide) (fun z => (gg_keep [] (kt z))) (fun z => (kf z))
theorem k_Mo_count_86 {X : gC} {M : List mC} {k n : Nat} {x0 : Nat} {fs2 : List Value} {f3 : Int32} {f5 : Int32} (ok : gO X c_Mo_count "TripleStoreModel" w_Mo_count) (h1 : M[x0]? = some (.inr (10, fs2))) (h4 : fs2[7]? = some (.int f3)) (h6 : fs2[11]? = some (.int f5)) (kk : gg X M k n 106 [] [.int (f3 - f5)]) : gg X M k n 86 [(0, .ref x0)] [] := by
  refine g_aload_n ok d_Mo_count_86 rfl (j := 0) rfl ?_
  refine gf_Mo_117 ok d_Mo_count_87 h1 h4 ?_
  refine g_aload_n ok d_Mo_count_90 rfl (j := 0) rfl ?_
  refine gf_Mo_148 ok d_Mo_count_91 h1 h6 ?_
  refine g_isub ok d_Mo_count_94 ?_
  exact g_goto (tgt := 106) ok d_Mo_count_95 (by decide) (gg_keep [] kk)
theorem k_Mo_count_98 {X : gC} {M : List mC} {k n : Nat}  (ok : gO X c_Mo_count "TripleStoreModel" w_Mo_count)  (kk : gg X M k n 106 [] [.int 0]) : gg X M k n 98 [] [] := by
  refine g_iconst (v := 0) ok d_Mo_count_98 (by decide) ?_
  exact g_goto (tgt := 106) ok d_Mo_count_99 (by decide) kk
theorem k_Mo_count_102 {X : gC} {M : List mC} {k n : Nat} {x0 : Nat} {fs2 : List Value} {f3 : Int32} (ok : gO X c_Mo_count "TripleStoreModel" w_Mo_count) (h1 : M[x0]? = some (.inr (10, fs2))) (h4 : fs2[13]? = some (.int f3)) (kk : gg X M k n 106 [] [.int f3]) : gg X M k n 102 [(0, .ref x0)] [] := by
  refine g_aload_n ok d_Mo_count_102 rfl (j := 0) rfl ?_
  refine gf_Mo_161 ok d_Mo_count_103 h1 h4 ?_
  exact (gg_keep [] kk)
theorem k_Mo_count_106 {X : gC} {M : List mC} {k n : Nat} {s0 : Int32} (ok : gO X c_Mo_count "TripleStoreModel" w_Mo_count)  {l9 : Launch} {rm : Room} {M0 : List mC} {post : Option Value → List mC → Prop} (E : gE X l9 y_Mo_count rm 2 (some .int) M0 post) (hp : post (some (.int s0)) M) (hk : k ≤ rm.cells) (hn : n ≤ rm.slots) : gg X M k n 106 [] [.int s0] := by
  exact g_iret ok E d_Mo_count_106 hp hk hn

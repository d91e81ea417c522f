theorem k_Mo_init_0 {X : gC} {M : List mC} {k n : Nat} {x0 : Nat} (ok : gO X c_Mo_init "TripleStoreModel" w_Mo_init)  (hf : 1 ≤ (gR X).frames) (hl2 : (([] : List Value).map fun v => v.category).sum + 12 ≤ (gR X).locals) (kk : gg X M k n 4 [(0, .ref x0)] []) : gg X M k n 0 [(0, .ref x0)] [] := by
  refine g_aload_n ok d_Mo_init_0 rfl (j := 0) rfl ?_
  exact g_objI ok ml_Mo_1 wn_Object i_Object d_Mo_init_1 hf hl2 kk
theorem k_Mo_init_4 {X : gC} {M : List mC} {k n : Nat} {x0 : Nat} {M4 : List mC} {q5 : Nat} {fs10 : List Value} {M14 : List mC} {M21 : List mC} {q22 : Nat} {M29 : List mC} {M37 : List mC} {q38 : Nat} {M47 : List mC} {M56 : List mC} {q57 : Nat} {M68 : List mC} {M78 : List mC} {q79 : Nat} {M92 : List mC} {M103 : List mC} {q104 : Nat} {M119 : List mC} {M129 : List mC} {M142 : List mC} {q143 : Nat} {M166 : List mC} {M180 : List mC} {q181 : Nat} {M200 : List mC} {M215 : List mC} {q216 : Nat} {M237 : List mC} {M253 : List mC} {q254 : Nat} {M277 : List mC} {M294 : List mC} {q295 : Nat} {M320 : List mC} {M338 : List mC} {q339 : Nat} {M366 : List mC} {M385 : List mC} {q386 : Nat} {M415 : List mC} {M435 : List mC} {q436 : Nat} {M467 : List mC} {M488 : List mC} {q489 : Nat} {M522 : List mC} {M544 : List mC} {q545 : Nat} {M580 : List mC} {M603 : List mC} {q604 : Nat} {M641 : List mC} {M665 : List mC} {q666 : Nat} {M705 : List mC} {M730 : List mC} {q731 : Nat} {M772 : List mC} {M798 : List mC} {q799 : Nat} {M842 : List mC} {M869 : List mC} {q870 : Nat} {M915 : List mC} {M943 : List mC} {q944 : Nat} {M991 : List mC} {M1020 : List mC} {q1021 : Nat} {M1070 : List mC} {M1100 : List mC} {q1101 : Nat} {M1152 : List mC} {M1183 : List mC} {q1184 : Nat} {M1237 : List mC} (ok : gO X c_Mo_init "TripleStoreModel" w_Mo_init) (hin : (gM X).name = "<init>") (h1 : k + 1 ≤ (gR X).cells) (h2 : n + 144 ≤ (gR X).slots) (h3 : gW M [(0, .ref x0)] [.ref x0]) (h6 : M ++ [.inl (1, 144, .inr (.inl (fun _ => 0)))] = M4) (h7 : M.length = q5) (h9 : M[x0]? = some (.inr (10, fs10))) (h13 : 59 ≤ fs10.length) (h15 : M4.set x0 (.inr (10, (fs10.set 0 (.ref q5)))) = M14) (h18 : k + 1 + 1 ≤ (gR X).cells) (h19 : n + 144 + 144 ≤ (gR X).slots) (h20 : gW M14 [(0, .ref x0)] [.ref x0]) (h23 : M14 ++ [.inl (1, 144, .inr (.inl (fun _ => 0)))] = M21) (h24 : M14.length = q22) (h30 : M21.set x0 (.inr (10, ((fs10.set 0 (.ref q5)).set 2 (.ref q22)))) = M29) (h34 : k + 1 + 1 + 1 ≤ (gR X).cells) (h35 : n + 144 + 144 + 2400 ≤ (gR X).slots) (h36 : gW M29 [(0, .ref x0)] [.ref x0]) (h39 : M29 ++ [.inl (1, 2400, .inr (.inl (fun _ => 0)))] = M37) (h40 : M29.length = q38) (h48 : M37.set x0 (.inr (10, (((fs10.set 0 (.ref q5)).set 2 (.ref q22)).set 4 (.ref q38)))) = M47) (h53 : k + 1 + 1 + 1 + 1 ≤ (gR X).cells) (h54 : n + 144 + 144 + 2400 + 800 ≤ (gR X).slots) (h55 : gW M47 [(0, .ref x0)] [.ref x0]) (h58 : M47 ++ [.inl (3, 800, .inl (fun _ => 0))] = M56) (h59 : M47.length = q57) (h69 : M56.set x0 (.inr (10, ((((fs10.set 0 (.ref q5)).set 2 (.ref q22)).set 4 (.ref q38)).set 5 (.ref q57)))) = M68) (h75 : k + 1 + 1 + 1 + 1 + 1 ≤ (gR X).cells) (h76 : n + 144 + 144 + 2400 + 800 + 800 ≤ (gR X).slots) (h77 : gW M68 [(0, .ref x0)] [.ref x0]) (h80 : M68 ++ [.inl (0, 800, .inl (fun _ => 0))] = M78) (h81 : M68.length = q79) (h93 : M78.set x0 (.inr (10, (((((fs10.set 0 (.ref q5)).set 2 (.ref q22)).set 4 (.ref q38)).set 5 (.ref q57)).set 6 (.ref q79)))) = M92) (h100 : k + 1 + 1 + 1 + 1 + 1 + 1 ≤ (gR X).cells) (h101 : n + 144 + 144 + 2400 + 800 + 800 + 160 ≤ (gR X).slots) (h102 : gW M92 [(0, .ref x0)] [.ref x0]) (h105 : M92 ++ [.inl (0, 160, .inl (fun _ => 0))] = M103) (h106 : M92.length = q104) (h120 : M103.set x0 (.inr (10, ((((((fs10.set 0 (.ref q5)).set 2 (.ref q22)).set 4 (.ref q38)).set 5 (.ref q57)).set 6 (.ref q79)).set 12 (.ref q104)))) = M119) (h130 : M119.set x0 (.inr (10, (((((((fs10.set 0 (.ref q5)).set 2 (.ref q22)).set 4 (.ref q38)).set 5 (.ref q57)).set 6 (.ref q79)).set 12 (.ref q104)).set 14 (.int (-1))))) = M129) (h139 : k + 1 + 1 + 1 + 1 + 1 + 1 + 1 ≤ (gR X).cells) (h140 : n + 144 + 144 + 2400 + 800 + 800 + 160 + 6 ≤ (gR X).slots) (h141 : gW M129 [(0, .ref x0)] [.ref x0]) (h144 : M129 ++ [.inl (1, 6, .inr (.inl (fun _ => 0)))] = M142) (h145 : M129.length = q143) (h167 : M142.set x0 (.inr (10, ((((((((fs10.set 0 (.ref q5)).set 2 (.ref q22)).set 4 (.ref q38)).set 5 (.ref q57)).set 6 (.ref q79)).set 12 (.ref q104)).set 14 (.int (-1))).set 23 (.ref q143)))) = M166) (h177 : k + 1 + 1 + 1 + 1 + 1 + 1 + 1 + 1 ≤ (gR X).cells) (h178 : n + 144 + 144 + 2400 + 800 + 800 + 160 + 6 + 5 ≤ (gR X).slots) (h179 : gW M166 [(0, .ref x0)] [.ref x0]) (h182 : M166 ++ [.inl (0, 5, .inl (fun _ => 0))] = M180) (h183 : M166.length = q181) (h201 : M180.set x0 (.inr (10, (((((((((fs10.set 0 (.ref q5)).set 2 (.ref q22)).set 4 (.ref q38)).set 5 (.ref q57)).set 6 (.ref q79)).set 12 (.ref q104)).set 14 (.int (-1))).set 23 (.ref q143)).set 28 (.ref q181)))) = M200) (h212 : k + 1 + 1 + 1 + 1 + 1 + 1 + 1 + 1 + 1 ≤ (gR X).cells) (h213 : n + 144 + 144 + 2400 + 800 + 800 + 160 + 6 + 5 + 5 ≤ (gR X).slots) (h214 : gW M200 [(0, .ref x0)] [.ref x0]) (h217 : M200 ++ [.inl (0, 5, .inl (fun _ => 0))] = M215) (h218 : M200.length = q216) (h238 : M215.set x0 (.inr (10, ((((((((((fs10.set 0 (.ref q5)).set 2 (.ref q22)).set 4 (.ref q38)).set 5 (.ref q57)).set 6 (.ref q79)).set 12 (.ref q104)).set 14 (.int (-1))).set 23 (.ref q143)).set 28 (.ref q181)).set 29 (.ref q216)))) = M237) (h250 : k + 1 + 1 + 1 + 1 + 1 + 1 + 1 + 1 + 1 + 1 ≤ (gR X).cells) (h251 : n + 144 + 144 + 2400 + 800 + 800 + 160 + 6 + 5 + 5 + 400 ≤ (gR X).slots) (h252 : gW M237 [(0, .ref x0)] [.ref x0]) (h255 : M237 ++ [.inl (0, 400, .inl (fun _ => 0))] = M253) (h256 : M237.length = q254) (h278 : M253.set x0 (.inr (10, (((((((((((fs10.set 0 (.ref q5)).set 2 (.ref q22)).set 4 (.ref q38)).set 5 (.ref q57)).set 6 (.ref q79)).set 12 (.ref q104)).set 14 (.int (-1))).set 23 (.ref q143)).set 28 (.ref q181)).set 29 (.ref q216)).set 30 (.ref q254)))) = M277) (h291 : k + 1 + 1 + 1 + 1 + 1 + 1 + 1 + 1 + 1 + 1 + 1 ≤ (gR X).cells) (h292 : n + 144 + 144 + 2400 + 800 + 800 + 160 + 6 + 5 + 5 + 400 + 400 ≤ (gR X).slots) (h293 : gW M277 [(0, .ref x0)] [.ref x0]) (h296 : M277 ++ [.inl (0, 400, .inl (fun _ => 0))] = M294) (h297 : M277.length = q295) (h321 : M294.set x0 (.inr (10, ((((((((((((fs10.set 0 (.ref q5)).set 2 (.ref q22)).set 4 (.ref q38)).set 5 (.ref q57)).set 6 (.ref q79)).set 12 (.ref q104)).set 14 (.int (-1))).set 23 (.ref q143)).set 28 (.ref q181)).set 29 (.ref q216)).set 30 (.ref q254)).set 31 (.ref q295)))) = M320) (h335 : k + 1 + 1 + 1 + 1 + 1 + 1 + 1 + 1 + 1 + 1 + 1 + 1 ≤ (gR X).cells) (h336 : n + 144 + 144 + 2400 + 800 + 800 + 160 + 6 + 5 + 5 + 400 + 400 + 120 ≤ (gR X).slots) (h337 : gW M320 [(0, .ref x0)] [.ref x0]) (h340 : M320 ++ [.inl (0, 120, .inl (fun _ => 0))] = M338) (h341 : M320.length = q339) (h367 : M338.set x0 (.inr (10, (((((((((((((fs10.set 0 (.ref q5)).set 2 (.ref q22)).set 4 (.ref q38)).set 5 (.ref q57)).set 6 (.ref q79)).set 12 (.ref q104)).set 14 (.int (-1))).set 23 (.ref q143)).set 28 (.ref q181)).set 29 (.ref q216)).set 30 (.ref q254)).set 31 (.ref q295)).set 33 (.ref q339)))) = M366) (h382 : k + 1 + 1 + 1 + 1 + 1 + 1 + 1 + 1 + 1 + 1 + 1 + 1 + 1 ≤ (gR X).cells) (h383 : n + 144 + 144 + 2400 + 800 + 800 + 160 + 6 + 5 + 5 + 400 + 400 + 120 + 120 ≤ (gR X).slots) (h384 : gW M366 [(0, .ref x0)] [.ref x0]) (h387 : M366 ++ [.inl (1, 120, .inr (.inl (fun _ => 0)))] = M385) (h388 : M366.length = q386) (h416 : M385.set x0 (.inr (10, ((((((((((((((fs10.set 0 (.ref q5)).set 2 (.ref q22)).set 4 (.ref q38)).set 5 (.ref q57)).set 6 (.ref q79)).set 12 (.ref q104)).set 14 (.int (-1))).set 23 (.ref q143)).set 28 (.ref q181)).set 29 (.ref q216)).set 30 (.ref q254)).set 31 (.ref q295)).set 33 (.ref q339)).set 34 (.ref q386)))) = M415) (h432 : k + 1 + 1 + 1 + 1 + 1 + 1 + 1 + 1 + 1 + 1 + 1 + 1 + 1 + 1 ≤ (gR X).cells) (h433 : n + 144 + 144 + 2400 + 800 + 800 + 160 + 6 + 5 + 5 + 400 + 400 + 120 + 120 + 14 ≤ (gR X).slots) (h434 : gW M415 [(0, .ref x0)] [.ref x0]) (h437 : M415 ++ [.inl (0, 14, .inl (fun _ => 0))] = M435) (h438 : M415.length = q436) (h468 : M435.set x0 (.inr (10, (((((((((((((((fs10.set 0 (.ref q5)).set 2 (.ref q22)).set 4 (.ref q38)).set 5 (.ref q57)).set 6 (.ref q79)).set 12 (.ref q104)).set 14 (.int (-1))).set 23 (.ref q143)).set 28 (.ref q181)).set 29 (.ref q216)).set 30 (.ref q254)).set 31 (.ref q295)).set 33 (.ref q339)).set 34 (.ref q386)).set 36 (.ref q436)))) = M467) (h485 : k + 1 + 1 + 1 + 1 + 1 + 1 + 1 + 1 + 1 + 1 + 1 + 1 + 1 + 1 + 1 ≤ (gR X).cells) (h486 : n + 144 + 144 + 2400 + 800 + 800 + 160 + 6 + 5 + 5 + 400 + 400 + 120 + 120 + 14 + 14 ≤ (gR X).slots) (h487 : gW M467 [(0, .ref x0)] [.ref x0]) (h490 : M467 ++ [.inl (0, 14, .inl (fun _ => 0))] = M488) (h491 : M467.length = q489) (h523 : M488.set x0 (.inr (10, ((((((((((((((((fs10.set 0 (.ref q5)).set 2 (.ref q22)).set 4 (.ref q38)).set 5 (.ref q57)).set 6 (.ref q79)).set 12 (.ref q104)).set 14 (.int (-1))).set 23 (.ref q143)).set 28 (.ref q181)).set 29 (.ref q216)).set 30 (.ref q254)).set 31 (.ref q295)).set 33 (.ref q339)).set 34 (.ref q386)).set 36 (.ref q436)).set 37 (.ref q489)))) = M522) (h541 : k + 1 + 1 + 1 + 1 + 1 + 1 + 1 + 1 + 1 + 1 + 1 + 1 + 1 + 1 + 1 + 1 ≤ (gR X).cells) (h542 : n + 144 + 144 + 2400 + 800 + 800 + 160 + 6 + 5 + 5 + 400 + 400 + 120 + 120 + 14 + 14 + 14 ≤ (gR X).slots) (h543 : gW M522 [(0, .ref x0)] [.ref x0]) (h546 : M522 ++ [.inl (3, 14, .inl (fun _ => 0))] = M544) (h547 : M522.length = q545) (h581 : M544.set x0 (.inr (10, (((((((((((((((((fs10.set 0 (.ref q5)).set 2 (.ref q22)).set 4 (.ref q38)).set 5 (.ref q57)).set 6 (.ref q79)).set 12 (.ref q104)).set 14 (.int (-1))).set 23 (.ref q143)).set 28 (.ref q181)).set 29 (.ref q216)).set 30 (.ref q254)).set 31 (.ref q295)).set 33 (.ref q339)).set 34 (.ref q386)).set 36 (.ref q436)).set 37 (.ref q489)).set 38 (.ref q545)))) = M580) (h600 : k + 1 + 1 + 1 + 1 + 1 + 1 + 1 + 1 + 1 + 1 + 1 + 1 + 1 + 1 + 1 + 1 + 1 ≤ (gR X).cells) (h601 : n + 144 + 144 + 2400 + 800 + 800 + 160 + 6 + 5 + 5 + 400 + 400 + 120 + 120 + 14 + 14 + 14 + 80 ≤ (gR X).slots) (h602 : gW M580 [(0, .ref x0)] [.ref x0]) (h605 : M580 ++ [.inl (0, 80, .inl (fun _ => 0))] = M603) (h606 : M580.length = q604) (h642 : M603.set x0 (.inr (10, ((((((((((((((((((fs10.set 0 (.ref q5)).set 2 (.ref q22)).set 4 (.ref q38)).set 5 (.ref q57)).set 6 (.ref q79)).set 12 (.ref q104)).set 14 (.int (-1))).set 23 (.ref q143)).set 28 (.ref q181)).set 29 (.ref q216)).set 30 (.ref q254)).set 31 (.ref q295)).set 33 (.ref q339)).set 34 (.ref q386)).set 36 (.ref q436)).set 37 (.ref q489)).set 38 (.ref q545)).set 40 (.ref q604)))) = M641) (h662 : k + 1 + 1 + 1 + 1 + 1 + 1 + 1 + 1 + 1 + 1 + 1 + 1 + 1 + 1 + 1 + 1 + 1 + 1 ≤ (gR X).cells) (h663 : n + 144 + 144 + 2400 + 800 + 800 + 160 + 6 + 5 + 5 + 400 + 400 + 120 + 120 + 14 + 14 + 14 + 80 + 5 ≤ (gR X).slots) (h664 : gW M641 [(0, .ref x0)] [.ref x0]) (h667 : M641 ++ [.inl (0, 5, .inl (fun _ => 0))] = M665) (h668 : M641.length = q666) (h706 : M665.set x0 (.inr (10, (((((((((((((((((((fs10.set 0 (.ref q5)).set 2 (.ref q22)).set 4 (.ref q38)).set 5 (.ref q57)).set 6 (.ref q79)).set 12 (.ref q104)).set 14 (.int (-1))).set 23 (.ref q143)).set 28 (.ref q181)).set 29 (.ref q216)).set 30 (.ref q254)).set 31 (.ref q295)).set 33 (.ref q339)).set 34 (.ref q386)).set 36 (.ref q436)).set 37 (.ref q489)).set 38 (.ref q545)).set 40 (.ref q604)).set 42 (.ref q666)))) = M705) (h727 : k + 1 + 1 + 1 + 1 + 1 + 1 + 1 + 1 + 1 + 1 + 1 + 1 + 1 + 1 + 1 + 1 + 1 + 1 + 1 ≤ (gR X).cells) (h728 : n + 144 + 144 + 2400 + 800 + 800 + 160 + 6 + 5 + 5 + 400 + 400 + 120 + 120 + 14 + 14 + 14 + 80 + 5 + 9900 ≤ (gR X).slots) (h729 : gW M705 [(0, .ref x0)] [.ref x0]) (h732 : M705 ++ [.inl (1, 9900, .inr (.inl (fun _ => 0)))] = M730) (h733 : M705.length = q731) (h773 : M730.set x0 (.inr (10, ((((((((((((((((((((fs10.set 0 (.ref q5)).set 2 (.ref q22)).set 4 (.ref q38)).set 5 (.ref q57)).set 6 (.ref q79)).set 12 (.ref q104)).set 14 (.int (-1))).set 23 (.ref q143)).set 28 (.ref q181)).set 29 (.ref q216)).set 30 (.ref q254)).set 31 (.ref q295)).set 33 (.ref q339)).set 34 (.ref q386)).set 36 (.ref q436)).set 37 (.ref q489)).set 38 (.ref q545)).set 40 (.ref q604)).set 42 (.ref q666)).set 47 (.ref q731)))) = M772) (h795 : k + 1 + 1 + 1 + 1 + 1 + 1 + 1 + 1 + 1 + 1 + 1 + 1 + 1 + 1 + 1 + 1 + 1 + 1 + 1 + 1 ≤ (gR X).cells) (h796 : n + 144 + 144 + 2400 + 800 + 800 + 160 + 6 + 5 + 5 + 400 + 400 + 120 + 120 + 14 + 14 + 14 + 80 + 5 + 9900 + 1650 ≤ (gR X).slots) (h797 : gW M772 [(0, .ref x0)] [.ref x0]) (h800 : M772 ++ [.inl (0, 1650, .inl (fun _ => 0))] = M798) (h801 : M772.length = q799) (h843 : M798.set x0 (.inr (10, (((((((((((((((((((((fs10.set 0 (.ref q5)).set 2 (.ref q22)).set 4 (.ref q38)).set 5 (.ref q57)).set 6 (.ref q79)).set 12 (.ref q104)).set 14 (.int (-1))).set 23 (.ref q143)).set 28 (.ref q181)).set 29 (.ref q216)).set 30 (.ref q254)).set 31 (.ref q295)).set 33 (.ref q339)).set 34 (.ref q386)).set 36 (.ref q436)).set 37 (.ref q489)).set 38 (.ref q545)).set 40 (.ref q604)).set 42 (.ref q666)).set 47 (.ref q731)).set 48 (.ref q799)))) = M842) (h866 : k + 1 + 1 + 1 + 1 + 1 + 1 + 1 + 1 + 1 + 1 + 1 + 1 + 1 + 1 + 1 + 1 + 1 + 1 + 1 + 1 + 1 ≤ (gR X).cells) (h867 : n + 144 + 144 + 2400 + 800 + 800 + 160 + 6 + 5 + 5 + 400 + 400 + 120 + 120 + 14 + 14 + 14 + 80 + 5 + 9900 + 1650 + 11 ≤ (gR X).slots) (h868 : gW M842 [(0, .ref x0)] [.ref x0]) (h871 : M842 ++ [.inl (0, 11, .inl (fun _ => 0))] = M869) (h872 : M842.length = q870) (h916 : M869.set x0 (.inr (10, ((((((((((((((((((((((fs10.set 0 (.ref q5)).set 2 (.ref q22)).set 4 (.ref q38)).set 5 (.ref q57)).set 6 (.ref q79)).set 12 (.ref q104)).set 14 (.int (-1))).set 23 (.ref q143)).set 28 (.ref q181)).set 29 (.ref q216)).set 30 (.ref q254)).set 31 (.ref q295)).set 33 (.ref q339)).set 34 (.ref q386)).set 36 (.ref q436)).set 37 (.ref q489)).set 38 (.ref q545)).set 40 (.ref q604)).set 42 (.ref q666)).set 47 (.ref q731)).set 48 (.ref q799)).set 49 (.ref q870)))) = M915) (h940 : k + 1 + 1 + 1 + 1 + 1 + 1 + 1 + 1 + 1 + 1 + 1 + 1 + 1 + 1 + 1 + 1 + 1 + 1 + 1 + 1 + 1 + 1 ≤ (gR X).cells) (h941 : n + 144 + 144 + 2400 + 800 + 800 + 160 + 6 + 5 + 5 + 400 + 400 + 120 + 120 + 14 + 14 + 14 + 80 + 5 + 9900 + 1650 + 11 + 900 ≤ (gR X).slots) (h942 : gW M915 [(0, .ref x0)] [.ref x0]) (h945 : M915 ++ [.inl (1, 900, .inr (.inl (fun _ => 0)))] = M943) (h946 : M915.length = q944) (h992 : M943.set x0 (.inr (10, (((((((((((((((((((((((fs10.set 0 (.ref q5)).set 2 (.ref q22)).set 4 (.ref q38)).set 5 (.ref q57)).set 6 (.ref q79)).set 12 (.ref q104)).set 14 (.int (-1))).set 23 (.ref q143)).set 28 (.ref q181)).set 29 (.ref q216)).set 30 (.ref q254)).set 31 (.ref q295)).set 33 (.ref q339)).set 34 (.ref q386)).set 36 (.ref q436)).set 37 (.ref q489)).set 38 (.ref q545)).set 40 (.ref q604)).set 42 (.ref q666)).set 47 (.ref q731)).set 48 (.ref q799)).set 49 (.ref q870)).set 52 (.ref q944)))) = M991) (h1017 : k + 1 + 1 + 1 + 1 + 1 + 1 + 1 + 1 + 1 + 1 + 1 + 1 + 1 + 1 + 1 + 1 + 1 + 1 + 1 + 1 + 1 + 1 + 1 ≤ (gR X).cells) (h1018 : n + 144 + 144 + 2400 + 800 + 800 + 160 + 6 + 5 + 5 + 400 + 400 + 120 + 120 + 14 + 14 + 14 + 80 + 5 + 9900 + 1650 + 11 + 900 + 150 ≤ (gR X).slots) (h1019 : gW M991 [(0, .ref x0)] [.ref x0]) (h1022 : M991 ++ [.inl (0, 150, .inl (fun _ => 0))] = M1020) (h1023 : M991.length = q1021) (h1071 : M1020.set x0 (.inr (10, ((((((((((((((((((((((((fs10.set 0 (.ref q5)).set 2 (.ref q22)).set 4 (.ref q38)).set 5 (.ref q57)).set 6 (.ref q79)).set 12 (.ref q104)).set 14 (.int (-1))).set 23 (.ref q143)).set 28 (.ref q181)).set 29 (.ref q216)).set 30 (.ref q254)).set 31 (.ref q295)).set 33 (.ref q339)).set 34 (.ref q386)).set 36 (.ref q436)).set 37 (.ref q489)).set 38 (.ref q545)).set 40 (.ref q604)).set 42 (.ref q666)).set 47 (.ref q731)).set 48 (.ref q799)).set 49 (.ref q870)).set 52 (.ref q944)).set 53 (.ref q1021)))) = M1070) (h1097 : k + 1 + 1 + 1 + 1 + 1 + 1 + 1 + 1 + 1 + 1 + 1 + 1 + 1 + 1 + 1 + 1 + 1 + 1 + 1 + 1 + 1 + 1 + 1 + 1 ≤ (gR X).cells) (h1098 : n + 144 + 144 + 2400 + 800 + 800 + 160 + 6 + 5 + 5 + 400 + 400 + 120 + 120 + 14 + 14 + 14 + 80 + 5 + 9900 + 1650 + 11 + 900 + 150 + 150 ≤ (gR X).slots) (h1099 : gW M1070 [(0, .ref x0)] [.ref x0]) (h1102 : M1070 ++ [.inl (0, 150, .inl (fun _ => 0))] = M1100) (h1103 : M1070.length = q1101) (h1153 : M1100.set x0 (.inr (10, (((((((((((((((((((((((((fs10.set 0 (.ref q5)).set 2 (.ref q22)).set 4 (.ref q38)).set 5 (.ref q57)).set 6 (.ref q79)).set 12 (.ref q104)).set 14 (.int (-1))).set 23 (.ref q143)).set 28 (.ref q181)).set 29 (.ref q216)).set 30 (.ref q254)).set 31 (.ref q295)).set 33 (.ref q339)).set 34 (.ref q386)).set 36 (.ref q436)).set 37 (.ref q489)).set 38 (.ref q545)).set 40 (.ref q604)).set 42 (.ref q666)).set 47 (.ref q731)).set 48 (.ref q799)).set 49 (.ref q870)).set 52 (.ref q944)).set 53 (.ref q1021)).set 54 (.ref q1101)))) = M1152) (h1180 : k + 1 + 1 + 1 + 1 + 1 + 1 + 1 + 1 + 1 + 1 + 1 + 1 + 1 + 1 + 1 + 1 + 1 + 1 + 1 + 1 + 1 + 1 + 1 + 1 + 1 ≤ (gR X).cells) (h1181 : n + 144 + 144 + 2400 + 800 + 800 + 160 + 6 + 5 + 5 + 400 + 400 + 120 + 120 + 14 + 14 + 14 + 80 + 5 + 9900 + 1650 + 11 + 900 + 150 + 150 + 80 ≤ (gR X).slots) (h1182 : gW M1152 [(0, .ref x0)] [.ref x0]) (h1185 : M1152 ++ [.inl (0, 80, .inl (fun _ => 0))] = M1183) (h1186 : M1152.length = q1184) (h1238 : M1183.set x0 (.inr (10, ((((((((((((((((((((((((((fs10.set 0 (.ref q5)).set 2 (.ref q22)).set 4 (.ref q38)).set 5 (.ref q57)).set 6 (.ref q79)).set 12 (.ref q104)).set 14 (.int (-1))).set 23 (.ref q143)).set 28 (.ref q181)).set 29 (.ref q216)).set 30 (.ref q254)).set 31 (.ref q295)).set 33 (.ref q339)).set 34 (.ref q386)).set 36 (.ref q436)).set 37 (.ref q489)).set 38 (.ref q545)).set 40 (.ref q604)).set 42 (.ref q666)).set 47 (.ref q731)).set 48 (.ref q799)).set 49 (.ref q870)).set 52 (.ref q944)).set 53 (.ref q1021)).set 54 (.ref q1101)).set 56 (.ref q1184)))) = M1237) {l9 : Launch} {rm : Room} {M0 : List mC} {post : Option Value → List mC → Prop} (E : gE X l9 y_Mo_init rm 1 none M0 post) (hp : post (none) M1237) (hk : k + 1 + 1 + 1 + 1 + 1 + 1 + 1 + 1 + 1 + 1 + 1 + 1 + 1 + 1 + 1 + 1 + 1 + 1 + 1 + 1 + 1 + 1 + 1 + 1 + 1 ≤ rm.cells) (hn : n + 144 + 144 + 2400 + 800 + 800 + 160 + 6 + 5 + 5 + 400 + 400 + 120 + 120 + 14 + 14 + 14 + 80 + 5 + 9900 + 1650 + 11 + 900 + 150 + 150 + 80 ≤ rm.slots) : gg X M k n 4 [(0, .ref x0)] [] := by
  refine g_aload_n ok d_Mo_init_4 rfl (j := 0) rfl ?_
  refine g_sipush (v := 144) ok d_Mo_init_5 (by decide) ?_
  refine g_newa (atype := .long) (ty := .long) (t := 1) (N := 144) (a0 := (144, .inr (.inl (fun _ => 0)))) ok (List.mem_cons_of_mem _ (gT_at 56 (by decide +kernel) (by decide +kernel))) rfl rfl (fun _ => rfl) (fun _ => rfl) (by decide) (by decide) (by decide) d_Mo_init_8 h1 h2 h3 ?_
  rw [h6, h7]
  have h8 : M4[q5]? = some (.inl (1, 144, .inr (.inl (fun _ => 0)))) := by rw [← h6, ← h7]; exact ga_new _ _
  have h11 : M4[x0]? = some (.inr (10, fs10)) := by rw [← h6]; exact ga_old h9
  have h12 : 0 < (fs10).length := by first | omega | (simp only [List.length_set]; omega)
  refine pf_Mo_7 ok hin d_Mo_init_10 h11 h12 (fun _ => ⟨rfl, rfl⟩) ?_
  rw [h15]
  have h16 : M14[x0]? = some (.inr (10, (fs10.set 0 (.ref q5)))) := by rw [← h15]; exact gs_eq h11
  have h17 : (fs10.set 0 (.ref q5))[0]? = some (.ref q5) := List.getElem?_set_self h12
  refine g_aload_n ok d_Mo_init_13 rfl (j := 0) rfl ?_
  refine g_sipush (v := 144) ok d_Mo_init_14 (by decide) ?_
  refine g_newa (atype := .long) (ty := .long) (t := 1) (N := 144) (a0 := (144, .inr (.inl (fun _ => 0)))) ok (List.mem_cons_of_mem _ (gT_at 56 (by decide +kernel) (by decide +kernel))) rfl rfl (fun _ => rfl) (fun _ => rfl) (by decide) (by decide) (by decide) d_Mo_init_17 h18 h19 h20 ?_
  rw [h23, h24]
  have h25 : M21[q22]? = some (.inl (1, 144, .inr (.inl (fun _ => 0)))) := by rw [← h23, ← h24]; exact ga_new _ _
  have h26 : M14[q5]? = some (.inl (1, 144, .inr (.inl (fun _ => 0)))) := by rw [← h15]; exact (gs_ne (Ne.symm (ne_ao h8 h11))).trans h8
  have h27 : M21[x0]? = some (.inr (10, (fs10.set 0 (.ref q5)))) := by rw [← h23]; exact ga_old h16
  have h28 : 2 < ((fs10.set 0 (.ref q5))).length := by first | omega | (simp only [List.length_set]; omega)
  refine pf_Mo_13 ok hin d_Mo_init_19 h27 h28 (fun _ => ⟨rfl, rfl⟩) ?_
  rw [h30]
  have h31 : M29[x0]? = some (.inr (10, ((fs10.set 0 (.ref q5)).set 2 (.ref q22)))) := by rw [← h30]; exact gs_eq h27
  have h32 := (List.getElem?_set_ne (a := .ref q22) (by decide : 2 ≠ 0)).trans h17
  have h33 : ((fs10.set 0 (.ref q5)).set 2 (.ref q22))[2]? = some (.ref q22) := List.getElem?_set_self h28
  refine g_aload_n ok d_Mo_init_22 rfl (j := 0) rfl ?_
  refine g_sipush (v := 2400) ok d_Mo_init_23 (by decide) ?_
  refine g_newa (atype := .long) (ty := .long) (t := 1) (N := 2400) (a0 := (2400, .inr (.inl (fun _ => 0)))) ok (List.mem_cons_of_mem _ (gT_at 56 (by decide +kernel) (by decide +kernel))) rfl rfl (fun _ => rfl) (fun _ => rfl) (by decide) (by decide) (by decide) d_Mo_init_26 h34 h35 h36 ?_
  rw [h39, h40]
  have h41 : M37[q38]? = some (.inl (1, 2400, .inr (.inl (fun _ => 0)))) := by rw [← h39, ← h40]; exact ga_new _ _
  have h42 : M21[q5]? = some (.inl (1, 144, .inr (.inl (fun _ => 0)))) := by rw [← h23]; exact ga_old h26
  have h43 : M29[q5]? = some (.inl (1, 144, .inr (.inl (fun _ => 0)))) := by rw [← h30]; exact (gs_ne (Ne.symm (ne_ao h42 h27))).trans h42
  have h44 : M29[q22]? = some (.inl (1, 144, .inr (.inl (fun _ => 0)))) := by rw [← h30]; exact (gs_ne (Ne.symm (ne_ao h25 h27))).trans h25
  have h45 : M37[x0]? = some (.inr (10, ((fs10.set 0 (.ref q5)).set 2 (.ref q22)))) := by rw [← h39]; exact ga_old h31
  have h46 : 4 < (((fs10.set 0 (.ref q5)).set 2 (.ref q22))).length := by first | omega | (simp only [List.length_set]; omega)
  refine pf_Mo_16 ok hin d_Mo_init_28 h45 h46 (fun _ => ⟨rfl, rfl⟩) ?_
  rw [h48]
  have h49 : M47[x0]? = some (.inr (10, (((fs10.set 0 (.ref q5)).set 2 (.ref q22)).set 4 (.ref q38)))) := by rw [← h48]; exact gs_eq h45
  have h50 := (List.getElem?_set_ne (a := .ref q38) (by decide : 4 ≠ 0)).trans h32
  have h51 := (List.getElem?_set_ne (a := .ref q38) (by decide : 4 ≠ 2)).trans h33
  have h52 : (((fs10.set 0 (.ref q5)).set 2 (.ref q22)).set 4 (.ref q38))[4]? = some (.ref q38) := List.getElem?_set_self h46
  refine g_aload_n ok d_Mo_init_31 rfl (j := 0) rfl ?_
  refine g_sipush (v := 800) ok d_Mo_init_32 (by decide) ?_
  refine g_newa (atype := .boolean) (ty := .boolean) (t := 3) (N := 800) (a0 := (800, .inl (fun _ => 0))) ok (List.mem_cons_of_mem _ (gT_at 82 (by decide +kernel) (by decide +kernel))) rfl rfl (fun _ => rfl) (fun _ => rfl) (by decide) (by decide) (by decide) d_Mo_init_35 h53 h54 h55 ?_
  rw [h58, h59]
  have h60 : M56[q57]? = some (.inl (3, 800, .inl (fun _ => 0))) := by rw [← h58, ← h59]; exact ga_new _ _
  have h61 : M37[q5]? = some (.inl (1, 144, .inr (.inl (fun _ => 0)))) := by rw [← h39]; exact ga_old h43
  have h62 : M47[q5]? = some (.inl (1, 144, .inr (.inl (fun _ => 0)))) := by rw [← h48]; exact (gs_ne (Ne.symm (ne_ao h61 h45))).trans h61
  have h63 : M37[q22]? = some (.inl (1, 144, .inr (.inl (fun _ => 0)))) := by rw [← h39]; exact ga_old h44
  have h64 : M47[q22]? = some (.inl (1, 144, .inr (.inl (fun _ => 0)))) := by rw [← h48]; exact (gs_ne (Ne.symm (ne_ao h63 h45))).trans h63
  have h65 : M47[q38]? = some (.inl (1, 2400, .inr (.inl (fun _ => 0)))) := by rw [← h48]; exact (gs_ne (Ne.symm (ne_ao h41 h45))).trans h41
  have h66 : M56[x0]? = some (.inr (10, (((fs10.set 0 (.ref q5)).set 2 (.ref q22)).set 4 (.ref q38)))) := by rw [← h58]; exact ga_old h49
  have h67 : 5 < ((((fs10.set 0 (.ref q5)).set 2 (.ref q22)).set 4 (.ref q38))).length := by first | omega | (simp only [List.length_set]; omega)
  refine pf_Mo_19 ok hin d_Mo_init_37 h66 h67 (fun _ => ⟨rfl, rfl⟩) ?_
  rw [h69]
  have h70 : M68[x0]? = some (.inr (10, ((((fs10.set 0 (.ref q5)).set 2 (.ref q22)).set 4 (.ref q38)).set 5 (.ref q57)))) := by rw [← h69]; exact gs_eq h66
  have h71 := (List.getElem?_set_ne (a := .ref q57) (by decide : 5 ≠ 0)).trans h50
  have h72 := (List.getElem?_set_ne (a := .ref q57) (by decide : 5 ≠ 2)).trans h51
  have h73 := (List.getElem?_set_ne (a := .ref q57) (by decide : 5 ≠ 4)).trans h52
  have h74 : ((((fs10.set 0 (.ref q5)).set 2 (.ref q22)).set 4 (.ref q38)).set 5 (.ref q57))[5]? = some (.ref q57) := List.getElem?_set_self h67
  refine g_aload_n ok d_Mo_init_40 rfl (j := 0) rfl ?_
  refine g_sipush (v := 800) ok d_Mo_init_41 (by decide) ?_
  refine g_newa (atype := .int) (ty := .int) (t := 0) (N := 800) (a0 := (800, .inl (fun _ => 0))) ok (List.mem_cons_of_mem _ (gT_at 83 (by decide +kernel) (by decide +kernel))) rfl rfl (fun _ => rfl) (fun _ => rfl) (by decide) (by decide) (by decide) d_Mo_init_44 h75 h76 h77 ?_
  rw [h80, h81]
  have h82 : M78[q79]? = some (.inl (0, 800, .inl (fun _ => 0))) := by rw [← h80, ← h81]; exact ga_new _ _
  have h83 : M56[q5]? = some (.inl (1, 144, .inr (.inl (fun _ => 0)))) := by rw [← h58]; exact ga_old h62
  have h84 : M68[q5]? = some (.inl (1, 144, .inr (.inl (fun _ => 0)))) := by rw [← h69]; exact (gs_ne (Ne.symm (ne_ao h83 h66))).trans h83
  have h85 : M56[q22]? = some (.inl (1, 144, .inr (.inl (fun _ => 0)))) := by rw [← h58]; exact ga_old h64
  have h86 : M68[q22]? = some (.inl (1, 144, .inr (.inl (fun _ => 0)))) := by rw [← h69]; exact (gs_ne (Ne.symm (ne_ao h85 h66))).trans h85
  have h87 : M56[q38]? = some (.inl (1, 2400, .inr (.inl (fun _ => 0)))) := by rw [← h58]; exact ga_old h65
  have h88 : M68[q38]? = some (.inl (1, 2400, .inr (.inl (fun _ => 0)))) := by rw [← h69]; exact (gs_ne (Ne.symm (ne_ao h87 h66))).trans h87
  have h89 : M68[q57]? = some (.inl (3, 800, .inl (fun _ => 0))) := by rw [← h69]; exact (gs_ne (Ne.symm (ne_ao h60 h66))).trans h60
  have h90 : M78[x0]? = some (.inr (10, ((((fs10.set 0 (.ref q5)).set 2 (.ref q22)).set 4 (.ref q38)).set 5 (.ref q57)))) := by rw [← h80]; exact ga_old h70
  have h91 : 6 < (((((fs10.set 0 (.ref q5)).set 2 (.ref q22)).set 4 (.ref q38)).set 5 (.ref q57))).length := by first | omega | (simp only [List.length_set]; omega)
  refine pf_Mo_23 ok hin d_Mo_init_46 h90 h91 (fun _ => ⟨rfl, rfl⟩) ?_
  rw [h93]
  have h94 : M92[x0]? = some (.inr (10, (((((fs10.set 0 (.ref q5)).set 2 (.ref q22)).set 4 (.ref q38)).set 5 (.ref q57)).set 6 (.ref q79)))) := by rw [← h93]; exact gs_eq h90
  have h95 := (List.getElem?_set_ne (a := .ref q79) (by decide : 6 ≠ 0)).trans h71
  have h96 := (List.getElem?_set_ne (a := .ref q79) (by decide : 6 ≠ 2)).trans h72
  have h97 := (List.getElem?_set_ne (a := .ref q79) (by decide : 6 ≠ 4)).trans h73
  have h98 := (List.getElem?_set_ne (a := .ref q79) (by decide : 6 ≠ 5)).trans h74
  have h99 : (((((fs10.set 0 (.ref q5)).set 2 (.ref q22)).set 4 (.ref q38)).set 5 (.ref q57)).set 6 (.ref q79))[6]? = some (.ref q79) := List.getElem?_set_self h91
  refine g_aload_n ok d_Mo_init_49 rfl (j := 0) rfl ?_
  refine g_sipush (v := 160) ok d_Mo_init_50 (by decide) ?_
  refine g_newa (atype := .int) (ty := .int) (t := 0) (N := 160) (a0 := (160, .inl (fun _ => 0))) ok (List.mem_cons_of_mem _ (gT_at 83 (by decide +kernel) (by decide +kernel))) rfl rfl (fun _ => rfl) (fun _ => rfl) (by decide) (by decide) (by decide) d_Mo_init_53 h100 h101 h102 ?_
  rw [h105, h106]
  have h107 : M103[q104]? = some (.inl (0, 160, .inl (fun _ => 0))) := by rw [← h105, ← h106]; exact ga_new _ _
  have h108 : M78[q5]? = some (.inl (1, 144, .inr (.inl (fun _ => 0)))) := by rw [← h80]; exact ga_old h84
  have h109 : M92[q5]? = some (.inl (1, 144, .inr (.inl (fun _ => 0)))) := by rw [← h93]; exact (gs_ne (Ne.symm (ne_ao h108 h90))).trans h108
  have h110 : M78[q22]? = some (.inl (1, 144, .inr (.inl (fun _ => 0)))) := by rw [← h80]; exact ga_old h86
  have h111 : M92[q22]? = some (.inl (1, 144, .inr (.inl (fun _ => 0)))) := by rw [← h93]; exact (gs_ne (Ne.symm (ne_ao h110 h90))).trans h110
  have h112 : M78[q38]? = some (.inl (1, 2400, .inr (.inl (fun _ => 0)))) := by rw [← h80]; exact ga_old h88
  have h113 : M92[q38]? = some (.inl (1, 2400, .inr (.inl (fun _ => 0)))) := by rw [← h93]; exact (gs_ne (Ne.symm (ne_ao h112 h90))).trans h112
  have h114 : M78[q57]? = some (.inl (3, 800, .inl (fun _ => 0))) := by rw [← h80]; exact ga_old h89
  have h115 : M92[q57]? = some (.inl (3, 800, .inl (fun _ => 0))) := by rw [← h93]; exact (gs_ne (Ne.symm (ne_ao h114 h90))).trans h114
  have h116 : M92[q79]? = some (.inl (0, 800, .inl (fun _ => 0))) := by rw [← h93]; exact (gs_ne (Ne.symm (ne_ao h82 h90))).trans h82
  have h117 : M103[x0]? = some (.inr (10, (((((fs10.set 0 (.ref q5)).set 2 (.ref q22)).set 4 (.ref q38)).set 5 (.ref q57)).set 6 (.ref q79)))) := by rw [← h105]; exact ga_old h94
  have h118 : 12 < ((((((fs10.set 0 (.ref q5)).set 2 (.ref q22)).set 4 (.ref q38)).set 5 (.ref q57)).set 6 (.ref q79))).length := by first | omega | (simp only [List.length_set]; omega)
  refine pf_Mo_27 ok hin d_Mo_init_55 h117 h118 (fun _ => ⟨rfl, rfl⟩) ?_
  rw [h120]
  have h121 : M119[x0]? = some (.inr (10, ((((((fs10.set 0 (.ref q5)).set 2 (.ref q22)).set 4 (.ref q38)).set 5 (.ref q57)).set 6 (.ref q79)).set 12 (.ref q104)))) := by rw [← h120]; exact gs_eq h117
  have h122 := (List.getElem?_set_ne (a := .ref q104) (by decide : 12 ≠ 0)).trans h95
  have h123 := (List.getElem?_set_ne (a := .ref q104) (by decide : 12 ≠ 2)).trans h96
  have h124 := (List.getElem?_set_ne (a := .ref q104) (by decide : 12 ≠ 4)).trans h97
  have h125 := (List.getElem?_set_ne (a := .ref q104) (by decide : 12 ≠ 5)).trans h98
  have h126 := (List.getElem?_set_ne (a := .ref q104) (by decide : 12 ≠ 6)).trans h99
  have h127 : ((((((fs10.set 0 (.ref q5)).set 2 (.ref q22)).set 4 (.ref q38)).set 5 (.ref q57)).set 6 (.ref q79)).set 12 (.ref q104))[12]? = some (.ref q104) := List.getElem?_set_self h118
  refine g_aload_n ok d_Mo_init_58 rfl (j := 0) rfl ?_
  refine g_iconst (v := (-1)) ok d_Mo_init_59 (by decide) ?_
  have h128 : 14 < (((((((fs10.set 0 (.ref q5)).set 2 (.ref q22)).set 4 (.ref q38)).set 5 (.ref q57)).set 6 (.ref q79)).set 12 (.ref q104))).length := by first | omega | (simp only [List.length_set]; omega)
  refine pf_Mo_30 ok d_Mo_init_60 h121 h128 (fun _ => ⟨rfl, rfl⟩) ?_
  rw [h130]
  have h131 : M129[x0]? = some (.inr (10, (((((((fs10.set 0 (.ref q5)).set 2 (.ref q22)).set 4 (.ref q38)).set 5 (.ref q57)).set 6 (.ref q79)).set 12 (.ref q104)).set 14 (.int (-1))))) := by rw [← h130]; exact gs_eq h121
  have h132 := (List.getElem?_set_ne (a := .int (-1)) (by decide : 14 ≠ 0)).trans h122
  have h133 := (List.getElem?_set_ne (a := .int (-1)) (by decide : 14 ≠ 2)).trans h123
  have h134 := (List.getElem?_set_ne (a := .int (-1)) (by decide : 14 ≠ 4)).trans h124
  have h135 := (List.getElem?_set_ne (a := .int (-1)) (by decide : 14 ≠ 5)).trans h125
  have h136 := (List.getElem?_set_ne (a := .int (-1)) (by decide : 14 ≠ 6)).trans h126
  have h137 := (List.getElem?_set_ne (a := .int (-1)) (by decide : 14 ≠ 12)).trans h127
  have h138 : (((((((fs10.set 0 (.ref q5)).set 2 (.ref q22)).set 4 (.ref q38)).set 5 (.ref q57)).set 6 (.ref q79)).set 12 (.ref q104)).set 14 (.int (-1)))[14]? = some (.int (-1)) := List.getElem?_set_self h128
  refine g_aload_n ok d_Mo_init_63 rfl (j := 0) rfl ?_
  refine g_bipush (v := 6) ok d_Mo_init_64 (by decide) ?_
  refine g_newa (atype := .long) (ty := .long) (t := 1) (N := 6) (a0 := (6, .inr (.inl (fun _ => 0)))) ok (List.mem_cons_of_mem _ (gT_at 56 (by decide +kernel) (by decide +kernel))) rfl rfl (fun _ => rfl) (fun _ => rfl) (by decide) (by decide) (by decide) d_Mo_init_66 h139 h140 h141 ?_
  rw [h144, h145]
  have h146 : M142[q143]? = some (.inl (1, 6, .inr (.inl (fun _ => 0)))) := by rw [← h144, ← h145]; exact ga_new _ _
  have h147 : M103[q5]? = some (.inl (1, 144, .inr (.inl (fun _ => 0)))) := by rw [← h105]; exact ga_old h109
  have h148 : M119[q5]? = some (.inl (1, 144, .inr (.inl (fun _ => 0)))) := by rw [← h120]; exact (gs_ne (Ne.symm (ne_ao h147 h117))).trans h147
  have h149 : M129[q5]? = some (.inl (1, 144, .inr (.inl (fun _ => 0)))) := by rw [← h130]; exact (gs_ne (Ne.symm (ne_ao h148 h121))).trans h148
  have h150 : M103[q22]? = some (.inl (1, 144, .inr (.inl (fun _ => 0)))) := by rw [← h105]; exact ga_old h111
  have h151 : M119[q22]? = some (.inl (1, 144, .inr (.inl (fun _ => 0)))) := by rw [← h120]; exact (gs_ne (Ne.symm (ne_ao h150 h117))).trans h150
  have h152 : M129[q22]? = some (.inl (1, 144, .inr (.inl (fun _ => 0)))) := by rw [← h130]; exact (gs_ne (Ne.symm (ne_ao h151 h121))).trans h151
  have h153 : M103[q38]? = some (.inl (1, 2400, .inr (.inl (fun _ => 0)))) := by rw [← h105]; exact ga_old h113
  have h154 : M119[q38]? = some (.inl (1, 2400, .inr (.inl (fun _ => 0)))) := by rw [← h120]; exact (gs_ne (Ne.symm (ne_ao h153 h117))).trans h153
  have h155 : M129[q38]? = some (.inl (1, 2400, .inr (.inl (fun _ => 0)))) := by rw [← h130]; exact (gs_ne (Ne.symm (ne_ao h154 h121))).trans h154
  have h156 : M103[q57]? = some (.inl (3, 800, .inl (fun _ => 0))) := by rw [← h105]; exact ga_old h115
  have h157 : M119[q57]? = some (.inl (3, 800, .inl (fun _ => 0))) := by rw [← h120]; exact (gs_ne (Ne.symm (ne_ao h156 h117))).trans h156
  have h158 : M129[q57]? = some (.inl (3, 800, .inl (fun _ => 0))) := by rw [← h130]; exact (gs_ne (Ne.symm (ne_ao h157 h121))).trans h157
  have h159 : M103[q79]? = some (.inl (0, 800, .inl (fun _ => 0))) := by rw [← h105]; exact ga_old h116
  have h160 : M119[q79]? = some (.inl (0, 800, .inl (fun _ => 0))) := by rw [← h120]; exact (gs_ne (Ne.symm (ne_ao h159 h117))).trans h159
  have h161 : M129[q79]? = some (.inl (0, 800, .inl (fun _ => 0))) := by rw [← h130]; exact (gs_ne (Ne.symm (ne_ao h160 h121))).trans h160
  have h162 : M119[q104]? = some (.inl (0, 160, .inl (fun _ => 0))) := by rw [← h120]; exact (gs_ne (Ne.symm (ne_ao h107 h117))).trans h107
  have h163 : M129[q104]? = some (.inl (0, 160, .inl (fun _ => 0))) := by rw [← h130]; exact (gs_ne (Ne.symm (ne_ao h162 h121))).trans h162
  have h164 : M142[x0]? = some (.inr (10, (((((((fs10.set 0 (.ref q5)).set 2 (.ref q22)).set 4 (.ref q38)).set 5 (.ref q57)).set 6 (.ref q79)).set 12 (.ref q104)).set 14 (.int (-1))))) := by rw [← h144]; exact ga_old h131
  have h165 : 23 < ((((((((fs10.set 0 (.ref q5)).set 2 (.ref q22)).set 4 (.ref q38)).set 5 (.ref q57)).set 6 (.ref q79)).set 12 (.ref q104)).set 14 (.int (-1)))).length := by first | omega | (simp only [List.length_set]; omega)
  refine pf_Mo_34 ok hin d_Mo_init_68 h164 h165 (fun _ => ⟨rfl, rfl⟩) ?_
  rw [h167]
  have h168 : M166[x0]? = some (.inr (10, ((((((((fs10.set 0 (.ref q5)).set 2 (.ref q22)).set 4 (.ref q38)).set 5 (.ref q57)).set 6 (.ref q79)).set 12 (.ref q104)).set 14 (.int (-1))).set 23 (.ref q143)))) := by rw [← h167]; exact gs_eq h164
  have h169 := (List.getElem?_set_ne (a := .ref q143) (by decide : 23 ≠ 0)).trans h132
  have h170 := (List.getElem?_set_ne (a := .ref q143) (by decide : 23 ≠ 2)).trans h133
  have h171 := (List.getElem?_set_ne (a := .ref q143) (by decide : 23 ≠ 4)).trans h134
  have h172 := (List.getElem?_set_ne (a := .ref q143) (by decide : 23 ≠ 5)).trans h135
  have h173 := (List.getElem?_set_ne (a := .ref q143) (by decide : 23 ≠ 6)).trans h136
  have h174 := (List.getElem?_set_ne (a := .ref q143) (by decide : 23 ≠ 12)).trans h137
  have h175 := (List.getElem?_set_ne (a := .ref q143) (by decide : 23 ≠ 14)).trans h138
  have h176 : ((((((((fs10.set 0 (.ref q5)).set 2 (.ref q22)).set 4 (.ref q38)).set 5 (.ref q57)).set 6 (.ref q79)).set 12 (.ref q104)).set 14 (.int (-1))).set 23 (.ref q143))[23]? = some (.ref q143) := List.getElem?_set_self h165
  refine g_aload_n ok d_Mo_init_71 rfl (j := 0) rfl ?_
  refine g_iconst (v := 5) ok d_Mo_init_72 (by decide) ?_
  refine g_newa (atype := .int) (ty := .int) (t := 0) (N := 5) (a0 := (5, .inl (fun _ => 0))) ok (List.mem_cons_of_mem _ (gT_at 83 (by decide +kernel) (by decide +kernel))) rfl rfl (fun _ => rfl) (fun _ => rfl) (by decide) (by decide) (by decide) d_Mo_init_73 h177 h178 h179 ?_
  rw [h182, h183]
  have h184 : M180[q181]? = some (.inl (0, 5, .inl (fun _ => 0))) := by rw [← h182, ← h183]; exact ga_new _ _
  have h185 : M142[q5]? = some (.inl (1, 144, .inr (.inl (fun _ => 0)))) := by rw [← h144]; exact ga_old h149
  have h186 : M166[q5]? = some (.inl (1, 144, .inr (.inl (fun _ => 0)))) := by rw [← h167]; exact (gs_ne (Ne.symm (ne_ao h185 h164))).trans h185
  have h187 : M142[q22]? = some (.inl (1, 144, .inr (.inl (fun _ => 0)))) := by rw [← h144]; exact ga_old h152
  have h188 : M166[q22]? = some (.inl (1, 144, .inr (.inl (fun _ => 0)))) := by rw [← h167]; exact (gs_ne (Ne.symm (ne_ao h187 h164))).trans h187
  have h189 : M142[q38]? = some (.inl (1, 2400, .inr (.inl (fun _ => 0)))) := by rw [← h144]; exact ga_old h155
  have h190 : M166[q38]? = some (.inl (1, 2400, .inr (.inl (fun _ => 0)))) := by rw [← h167]; exact (gs_ne (Ne.symm (ne_ao h189 h164))).trans h189
  have h191 : M142[q57]? = some (.inl (3, 800, .inl (fun _ => 0))) := by rw [← h144]; exact ga_old h158
  have h192 : M166[q57]? = some (.inl (3, 800, .inl (fun _ => 0))) := by rw [← h167]; exact (gs_ne (Ne.symm (ne_ao h191 h164))).trans h191
  have h193 : M142[q79]? = some (.inl (0, 800, .inl (fun _ => 0))) := by rw [← h144]; exact ga_old h161
  have h194 : M166[q79]? = some (.inl (0, 800, .inl (fun _ => 0))) := by rw [← h167]; exact (gs_ne (Ne.symm (ne_ao h193 h164))).trans h193
  have h195 : M142[q104]? = some (.inl (0, 160, .inl (fun _ => 0))) := by rw [← h144]; exact ga_old h163
  have h196 : M166[q104]? = some (.inl (0, 160, .inl (fun _ => 0))) := by rw [← h167]; exact (gs_ne (Ne.symm (ne_ao h195 h164))).trans h195
  have h197 : M166[q143]? = some (.inl (1, 6, .inr (.inl (fun _ => 0)))) := by rw [← h167]; exact (gs_ne (Ne.symm (ne_ao h146 h164))).trans h146
  have h198 : M180[x0]? = some (.inr (10, ((((((((fs10.set 0 (.ref q5)).set 2 (.ref q22)).set 4 (.ref q38)).set 5 (.ref q57)).set 6 (.ref q79)).set 12 (.ref q104)).set 14 (.int (-1))).set 23 (.ref q143)))) := by rw [← h182]; exact ga_old h168
  have h199 : 28 < (((((((((fs10.set 0 (.ref q5)).set 2 (.ref q22)).set 4 (.ref q38)).set 5 (.ref q57)).set 6 (.ref q79)).set 12 (.ref q104)).set 14 (.int (-1))).set 23 (.ref q143))).length := by first | omega | (simp only [List.length_set]; omega)
  refine pf_Mo_37 ok hin d_Mo_init_75 h198 h199 (fun _ => ⟨rfl, rfl⟩) ?_
  rw [h201]
  have h202 : M200[x0]? = some (.inr (10, (((((((((fs10.set 0 (.ref q5)).set 2 (.ref q22)).set 4 (.ref q38)).set 5 (.ref q57)).set 6 (.ref q79)).set 12 (.ref q104)).set 14 (.int (-1))).set 23 (.ref q143)).set 28 (.ref q181)))) := by rw [← h201]; exact gs_eq h198
  have h203 := (List.getElem?_set_ne (a := .ref q181) (by decide : 28 ≠ 0)).trans h169
  have h204 := (List.getElem?_set_ne (a := .ref q181) (by decide : 28 ≠ 2)).trans h170
  have h205 := (List.getElem?_set_ne (a := .ref q181) (by decide : 28 ≠ 4)).trans h171
  have h206 := (List.getElem?_set_ne (a := .ref q181) (by decide : 28 ≠ 5)).trans h172
  have h207 := (List.getElem?_set_ne (a := .ref q181) (by decide : 28 ≠ 6)).trans h173
  have h208 := (List.getElem?_set_ne (a := .ref q181) (by decide : 28 ≠ 12)).trans h174
  have h209 := (List.getElem?_set_ne (a := .ref q181) (by decide : 28 ≠ 14)).trans h175
  have h210 := (List.getElem?_set_ne (a := .ref q181) (by decide : 28 ≠ 23)).trans h176
  have h211 : (((((((((fs10.set 0 (.ref q5)).set 2 (.ref q22)).set 4 (.ref q38)).set 5 (.ref q57)).set 6 (.ref q79)).set 12 (.ref q104)).set 14 (.int (-1))).set 23 (.ref q143)).set 28 (.ref q181))[28]? = some (.ref q181) := List.getElem?_set_self h199
  refine g_aload_n ok d_Mo_init_78 rfl (j := 0) rfl ?_
  refine g_iconst (v := 5) ok d_Mo_init_79 (by decide) ?_
  refine g_newa (atype := .int) (ty := .int) (t := 0) (N := 5) (a0 := (5, .inl (fun _ => 0))) ok (List.mem_cons_of_mem _ (gT_at 83 (by decide +kernel) (by decide +kernel))) rfl rfl (fun _ => rfl) (fun _ => rfl) (by decide) (by decide) (by decide) d_Mo_init_80 h212 h213 h214 ?_
  rw [h217, h218]
  have h219 : M215[q216]? = some (.inl (0, 5, .inl (fun _ => 0))) := by rw [← h217, ← h218]; exact ga_new _ _
  have h220 : M180[q5]? = some (.inl (1, 144, .inr (.inl (fun _ => 0)))) := by rw [← h182]; exact ga_old h186
  have h221 : M200[q5]? = some (.inl (1, 144, .inr (.inl (fun _ => 0)))) := by rw [← h201]; exact (gs_ne (Ne.symm (ne_ao h220 h198))).trans h220
  have h222 : M180[q22]? = some (.inl (1, 144, .inr (.inl (fun _ => 0)))) := by rw [← h182]; exact ga_old h188
  have h223 : M200[q22]? = some (.inl (1, 144, .inr (.inl (fun _ => 0)))) := by rw [← h201]; exact (gs_ne (Ne.symm (ne_ao h222 h198))).trans h222
  have h224 : M180[q38]? = some (.inl (1, 2400, .inr (.inl (fun _ => 0)))) := by rw [← h182]; exact ga_old h190
  have h225 : M200[q38]? = some (.inl (1, 2400, .inr (.inl (fun _ => 0)))) := by rw [← h201]; exact (gs_ne (Ne.symm (ne_ao h224 h198))).trans h224
  have h226 : M180[q57]? = some (.inl (3, 800, .inl (fun _ => 0))) := by rw [← h182]; exact ga_old h192
  have h227 : M200[q57]? = some (.inl (3, 800, .inl (fun _ => 0))) := by rw [← h201]; exact (gs_ne (Ne.symm (ne_ao h226 h198))).trans h226
  have h228 : M180[q79]? = some (.inl (0, 800, .inl (fun _ => 0))) := by rw [← h182]; exact ga_old h194
  have h229 : M200[q79]? = some (.inl (0, 800, .inl (fun _ => 0))) := by rw [← h201]; exact (gs_ne (Ne.symm (ne_ao h228 h198))).trans h228
  have h230 : M180[q104]? = some (.inl (0, 160, .inl (fun _ => 0))) := by rw [← h182]; exact ga_old h196
  have h231 : M200[q104]? = some (.inl (0, 160, .inl (fun _ => 0))) := by rw [← h201]; exact (gs_ne (Ne.symm (ne_ao h230 h198))).trans h230
  have h232 : M180[q143]? = some (.inl (1, 6, .inr (.inl (fun _ => 0)))) := by rw [← h182]; exact ga_old h197
  have h233 : M200[q143]? = some (.inl (1, 6, .inr (.inl (fun _ => 0)))) := by rw [← h201]; exact (gs_ne (Ne.symm (ne_ao h232 h198))).trans h232
  have h234 : M200[q181]? = some (.inl (0, 5, .inl (fun _ => 0))) := by rw [← h201]; exact (gs_ne (Ne.symm (ne_ao h184 h198))).trans h184
  have h235 : M215[x0]? = some (.inr (10, (((((((((fs10.set 0 (.ref q5)).set 2 (.ref q22)).set 4 (.ref q38)).set 5 (.ref q57)).set 6 (.ref q79)).set 12 (.ref q104)).set 14 (.int (-1))).set 23 (.ref q143)).set 28 (.ref q181)))) := by rw [← h217]; exact ga_old h202
  have h236 : 29 < ((((((((((fs10.set 0 (.ref q5)).set 2 (.ref q22)).set 4 (.ref q38)).set 5 (.ref q57)).set 6 (.ref q79)).set 12 (.ref q104)).set 14 (.int (-1))).set 23 (.ref q143)).set 28 (.ref q181))).length := by first | omega | (simp only [List.length_set]; omega)
  refine pf_Mo_40 ok hin d_Mo_init_82 h235 h236 (fun _ => ⟨rfl, rfl⟩) ?_
  rw [h238]
  have h239 : M237[x0]? = some (.inr (10, ((((((((((fs10.set 0 (.ref q5)).set 2 (.ref q22)).set 4 (.ref q38)).set 5 (.ref q57)).set 6 (.ref q79)).set 12 (.ref q104)).set 14 (.int (-1))).set 23 (.ref q143)).set 28 (.ref q181)).set 29 (.ref q216)))) := by rw [← h238]; exact gs_eq h235
  have h240 := (List.getElem?_set_ne (a := .ref q216) (by decide : 29 ≠ 0)).trans h203
  have h241 := (List.getElem?_set_ne (a := .ref q216) (by decide : 29 ≠ 2)).trans h204
  have h242 := (List.getElem?_set_ne (a := .ref q216) (by decide : 29 ≠ 4)).trans h205
  have h243 := (List.getElem?_set_ne (a := .ref q216) (by decide : 29 ≠ 5)).trans h206
  have h244 := (List.getElem?_set_ne (a := .ref q216) (by decide : 29 ≠ 6)).trans h207
  have h245 := (List.getElem?_set_ne (a := .ref q216) (by decide : 29 ≠ 12)).trans h208
  have h246 := (List.getElem?_set_ne (a := .ref q216) (by decide : 29 ≠ 14)).trans h209
  have h247 := (List.getElem?_set_ne (a := .ref q216) (by decide : 29 ≠ 23)).trans h210
  have h248 := (List.getElem?_set_ne (a := .ref q216) (by decide : 29 ≠ 28)).trans h211
  have h249 : ((((((((((fs10.set 0 (.ref q5)).set 2 (.ref q22)).set 4 (.ref q38)).set 5 (.ref q57)).set 6 (.ref q79)).set 12 (.ref q104)).set 14 (.int (-1))).set 23 (.ref q143)).set 28 (.ref q181)).set 29 (.ref q216))[29]? = some (.ref q216) := List.getElem?_set_self h236
  refine g_aload_n ok d_Mo_init_85 rfl (j := 0) rfl ?_
  refine g_sipush (v := 400) ok d_Mo_init_86 (by decide) ?_
  refine g_newa (atype := .int) (ty := .int) (t := 0) (N := 400) (a0 := (400, .inl (fun _ => 0))) ok (List.mem_cons_of_mem _ (gT_at 83 (by decide +kernel) (by decide +kernel))) rfl rfl (fun _ => rfl) (fun _ => rfl) (by decide) (by decide) (by decide) d_Mo_init_89 h250 h251 h252 ?_
  rw [h255, h256]
  have h257 : M253[q254]? = some (.inl (0, 400, .inl (fun _ => 0))) := by rw [← h255, ← h256]; exact ga_new _ _
  have h258 : M215[q5]? = some (.inl (1, 144, .inr (.inl (fun _ => 0)))) := by rw [← h217]; exact ga_old h221
  have h259 : M237[q5]? = some (.inl (1, 144, .inr (.inl (fun _ => 0)))) := by rw [← h238]; exact (gs_ne (Ne.symm (ne_ao h258 h235))).trans h258
  have h260 : M215[q22]? = some (.inl (1, 144, .inr (.inl (fun _ => 0)))) := by rw [← h217]; exact ga_old h223
  have h261 : M237[q22]? = some (.inl (1, 144, .inr (.inl (fun _ => 0)))) := by rw [← h238]; exact (gs_ne (Ne.symm (ne_ao h260 h235))).trans h260
  have h262 : M215[q38]? = some (.inl (1, 2400, .inr (.inl (fun _ => 0)))) := by rw [← h217]; exact ga_old h225
  have h263 : M237[q38]? = some (.inl (1, 2400, .inr (.inl (fun _ => 0)))) := by rw [← h238]; exact (gs_ne (Ne.symm (ne_ao h262 h235))).trans h262
  have h264 : M215[q57]? = some (.inl (3, 800, .inl (fun _ => 0))) := by rw [← h217]; exact ga_old h227
  have h265 : M237[q57]? = some (.inl (3, 800, .inl (fun _ => 0))) := by rw [← h238]; exact (gs_ne (Ne.symm (ne_ao h264 h235))).trans h264
  have h266 : M215[q79]? = some (.inl (0, 800, .inl (fun _ => 0))) := by rw [← h217]; exact ga_old h229
  have h267 : M237[q79]? = some (.inl (0, 800, .inl (fun _ => 0))) := by rw [← h238]; exact (gs_ne (Ne.symm (ne_ao h266 h235))).trans h266
  have h268 : M215[q104]? = some (.inl (0, 160, .inl (fun _ => 0))) := by rw [← h217]; exact ga_old h231
  have h269 : M237[q104]? = some (.inl (0, 160, .inl (fun _ => 0))) := by rw [← h238]; exact (gs_ne (Ne.symm (ne_ao h268 h235))).trans h268
  have h270 : M215[q143]? = some (.inl (1, 6, .inr (.inl (fun _ => 0)))) := by rw [← h217]; exact ga_old h233
  have h271 : M237[q143]? = some (.inl (1, 6, .inr (.inl (fun _ => 0)))) := by rw [← h238]; exact (gs_ne (Ne.symm (ne_ao h270 h235))).trans h270
  have h272 : M215[q181]? = some (.inl (0, 5, .inl (fun _ => 0))) := by rw [← h217]; exact ga_old h234
  have h273 : M237[q181]? = some (.inl (0, 5, .inl (fun _ => 0))) := by rw [← h238]; exact (gs_ne (Ne.symm (ne_ao h272 h235))).trans h272
  have h274 : M237[q216]? = some (.inl (0, 5, .inl (fun _ => 0))) := by rw [← h238]; exact (gs_ne (Ne.symm (ne_ao h219 h235))).trans h219
  have h275 : M253[x0]? = some (.inr (10, ((((((((((fs10.set 0 (.ref q5)).set 2 (.ref q22)).set 4 (.ref q38)).set 5 (.ref q57)).set 6 (.ref q79)).set 12 (.ref q104)).set 14 (.int (-1))).set 23 (.ref q143)).set 28 (.ref q181)).set 29 (.ref q216)))) := by rw [← h255]; exact ga_old h239
  have h276 : 30 < (((((((((((fs10.set 0 (.ref q5)).set 2 (.ref q22)).set 4 (.ref q38)).set 5 (.ref q57)).set 6 (.ref q79)).set 12 (.ref q104)).set 14 (.int (-1))).set 23 (.ref q143)).set 28 (.ref q181)).set 29 (.ref q216))).length := by first | omega | (simp only [List.length_set]; omega)
  refine pf_Mo_43 ok hin d_Mo_init_91 h275 h276 (fun _ => ⟨rfl, rfl⟩) ?_
  rw [h278]
  have h279 : M277[x0]? = some (.inr (10, (((((((((((fs10.set 0 (.ref q5)).set 2 (.ref q22)).set 4 (.ref q38)).set 5 (.ref q57)).set 6 (.ref q79)).set 12 (.ref q104)).set 14 (.int (-1))).set 23 (.ref q143)).set 28 (.ref q181)).set 29 (.ref q216)).set 30 (.ref q254)))) := by rw [← h278]; exact gs_eq h275
  have h280 := (List.getElem?_set_ne (a := .ref q254) (by decide : 30 ≠ 0)).trans h240
  have h281 := (List.getElem?_set_ne (a := .ref q254) (by decide : 30 ≠ 2)).trans h241
  have h282 := (List.getElem?_set_ne (a := .ref q254) (by decide : 30 ≠ 4)).trans h242
  have h283 := (List.getElem?_set_ne (a := .ref q254) (by decide : 30 ≠ 5)).trans h243
  have h284 := (List.getElem?_set_ne (a := .ref q254) (by decide : 30 ≠ 6)).trans h244
  have h285 := (List.getElem?_set_ne (a := .ref q254) (by decide : 30 ≠ 12)).trans h245
  have h286 := (List.getElem?_set_ne (a := .ref q254) (by decide : 30 ≠ 14)).trans h246
  have h287 := (List.getElem?_set_ne (a := .ref q254) (by decide : 30 ≠ 23)).trans h247
  have h288 := (List.getElem?_set_ne (a := .ref q254) (by decide : 30 ≠ 28)).trans h248
  have h289 := (List.getElem?_set_ne (a := .ref q254) (by decide : 30 ≠ 29)).trans h249
  have h290 : (((((((((((fs10.set 0 (.ref q5)).set 2 (.ref q22)).set 4 (.ref q38)).set 5 (.ref q57)).set 6 (.ref q79)).set 12 (.ref q104)).set 14 (.int (-1))).set 23 (.ref q143)).set 28 (.ref q181)).set 29 (.ref q216)).set 30 (.ref q254))[30]? = some (.ref q254) := List.getElem?_set_self h276
  refine g_aload_n ok d_Mo_init_94 rfl (j := 0) rfl ?_
  refine g_sipush (v := 400) ok d_Mo_init_95 (by decide) ?_
  refine g_newa (atype := .int) (ty := .int) (t := 0) (N := 400) (a0 := (400, .inl (fun _ => 0))) ok (List.mem_cons_of_mem _ (gT_at 83 (by decide +kernel) (by decide +kernel))) rfl rfl (fun _ => rfl) (fun _ => rfl) (by decide) (by decide) (by decide) d_Mo_init_98 h291 h292 h293 ?_
  rw [h296, h297]
  have h298 : M294[q295]? = some (.inl (0, 400, .inl (fun _ => 0))) := by rw [← h296, ← h297]; exact ga_new _ _
  have h299 : M253[q5]? = some (.inl (1, 144, .inr (.inl (fun _ => 0)))) := by rw [← h255]; exact ga_old h259
  have h300 : M277[q5]? = some (.inl (1, 144, .inr (.inl (fun _ => 0)))) := by rw [← h278]; exact (gs_ne (Ne.symm (ne_ao h299 h275))).trans h299
  have h301 : M253[q22]? = some (.inl (1, 144, .inr (.inl (fun _ => 0)))) := by rw [← h255]; exact ga_old h261
  have h302 : M277[q22]? = some (.inl (1, 144, .inr (.inl (fun _ => 0)))) := by rw [← h278]; exact (gs_ne (Ne.symm (ne_ao h301 h275))).trans h301
  have h303 : M253[q38]? = some (.inl (1, 2400, .inr (.inl (fun _ => 0)))) := by rw [← h255]; exact ga_old h263
  have h304 : M277[q38]? = some (.inl (1, 2400, .inr (.inl (fun _ => 0)))) := by rw [← h278]; exact (gs_ne (Ne.symm (ne_ao h303 h275))).trans h303
  have h305 : M253[q57]? = some (.inl (3, 800, .inl (fun _ => 0))) := by rw [← h255]; exact ga_old h265
  have h306 : M277[q57]? = some (.inl (3, 800, .inl (fun _ => 0))) := by rw [← h278]; exact (gs_ne (Ne.symm (ne_ao h305 h275))).trans h305
  have h307 : M253[q79]? = some (.inl (0, 800, .inl (fun _ => 0))) := by rw [← h255]; exact ga_old h267
  have h308 : M277[q79]? = some (.inl (0, 800, .inl (fun _ => 0))) := by rw [← h278]; exact (gs_ne (Ne.symm (ne_ao h307 h275))).trans h307
  have h309 : M253[q104]? = some (.inl (0, 160, .inl (fun _ => 0))) := by rw [← h255]; exact ga_old h269
  have h310 : M277[q104]? = some (.inl (0, 160, .inl (fun _ => 0))) := by rw [← h278]; exact (gs_ne (Ne.symm (ne_ao h309 h275))).trans h309
  have h311 : M253[q143]? = some (.inl (1, 6, .inr (.inl (fun _ => 0)))) := by rw [← h255]; exact ga_old h271
  have h312 : M277[q143]? = some (.inl (1, 6, .inr (.inl (fun _ => 0)))) := by rw [← h278]; exact (gs_ne (Ne.symm (ne_ao h311 h275))).trans h311
  have h313 : M253[q181]? = some (.inl (0, 5, .inl (fun _ => 0))) := by rw [← h255]; exact ga_old h273
  have h314 : M277[q181]? = some (.inl (0, 5, .inl (fun _ => 0))) := by rw [← h278]; exact (gs_ne (Ne.symm (ne_ao h313 h275))).trans h313
  have h315 : M253[q216]? = some (.inl (0, 5, .inl (fun _ => 0))) := by rw [← h255]; exact ga_old h274
  have h316 : M277[q216]? = some (.inl (0, 5, .inl (fun _ => 0))) := by rw [← h278]; exact (gs_ne (Ne.symm (ne_ao h315 h275))).trans h315
  have h317 : M277[q254]? = some (.inl (0, 400, .inl (fun _ => 0))) := by rw [← h278]; exact (gs_ne (Ne.symm (ne_ao h257 h275))).trans h257
  have h318 : M294[x0]? = some (.inr (10, (((((((((((fs10.set 0 (.ref q5)).set 2 (.ref q22)).set 4 (.ref q38)).set 5 (.ref q57)).set 6 (.ref q79)).set 12 (.ref q104)).set 14 (.int (-1))).set 23 (.ref q143)).set 28 (.ref q181)).set 29 (.ref q216)).set 30 (.ref q254)))) := by rw [← h296]; exact ga_old h279
  have h319 : 31 < ((((((((((((fs10.set 0 (.ref q5)).set 2 (.ref q22)).set 4 (.ref q38)).set 5 (.ref q57)).set 6 (.ref q79)).set 12 (.ref q104)).set 14 (.int (-1))).set 23 (.ref q143)).set 28 (.ref q181)).set 29 (.ref q216)).set 30 (.ref q254))).length := by first | omega | (simp only [List.length_set]; omega)
  refine pf_Mo_46 ok hin d_Mo_init_100 h318 h319 (fun _ => ⟨rfl, rfl⟩) ?_
  rw [h321]
  have h322 : M320[x0]? = some (.inr (10, ((((((((((((fs10.set 0 (.ref q5)).set 2 (.ref q22)).set 4 (.ref q38)).set 5 (.ref q57)).set 6 (.ref q79)).set 12 (.ref q104)).set 14 (.int (-1))).set 23 (.ref q143)).set 28 (.ref q181)).set 29 (.ref q216)).set 30 (.ref q254)).set 31 (.ref q295)))) := by rw [← h321]; exact gs_eq h318
  have h323 := (List.getElem?_set_ne (a := .ref q295) (by decide : 31 ≠ 0)).trans h280
  have h324 := (List.getElem?_set_ne (a := .ref q295) (by decide : 31 ≠ 2)).trans h281
  have h325 := (List.getElem?_set_ne (a := .ref q295) (by decide : 31 ≠ 4)).trans h282
  have h326 := (List.getElem?_set_ne (a := .ref q295) (by decide : 31 ≠ 5)).trans h283
  have h327 := (List.getElem?_set_ne (a := .ref q295) (by decide : 31 ≠ 6)).trans h284
  have h328 := (List.getElem?_set_ne (a := .ref q295) (by decide : 31 ≠ 12)).trans h285
  have h329 := (List.getElem?_set_ne (a := .ref q295) (by decide : 31 ≠ 14)).trans h286
  have h330 := (List.getElem?_set_ne (a := .ref q295) (by decide : 31 ≠ 23)).trans h287
  have h331 := (List.getElem?_set_ne (a := .ref q295) (by decide : 31 ≠ 28)).trans h288
  have h332 := (List.getElem?_set_ne (a := .ref q295) (by decide : 31 ≠ 29)).trans h289
  have h333 := (List.getElem?_set_ne (a := .ref q295) (by decide : 31 ≠ 30)).trans h290
  have h334 : ((((((((((((fs10.set 0 (.ref q5)).set 2 (.ref q22)).set 4 (.ref q38)).set 5 (.ref q57)).set 6 (.ref q79)).set 12 (.ref q104)).set 14 (.int (-1))).set 23 (.ref q143)).set 28 (.ref q181)).set 29 (.ref q216)).set 30 (.ref q254)).set 31 (.ref q295))[31]? = some (.ref q295) := List.getElem?_set_self h319
  refine g_aload_n ok d_Mo_init_103 rfl (j := 0) rfl ?_
  refine g_bipush (v := 120) ok d_Mo_init_104 (by decide) ?_
  refine g_newa (atype := .int) (ty := .int) (t := 0) (N := 120) (a0 := (120, .inl (fun _ => 0))) ok (List.mem_cons_of_mem _ (gT_at 83 (by decide +kernel) (by decide +kernel))) rfl rfl (fun _ => rfl) (fun _ => rfl) (by decide) (by decide) (by decide) d_Mo_init_106 h335 h336 h337 ?_
  rw [h340, h341]
  have h342 : M338[q339]? = some (.inl (0, 120, .inl (fun _ => 0))) := by rw [← h340, ← h341]; exact ga_new _ _
  have h343 : M294[q5]? = some (.inl (1, 144, .inr (.inl (fun _ => 0)))) := by rw [← h296]; exact ga_old h300
  have h344 : M320[q5]? = some (.inl (1, 144, .inr (.inl (fun _ => 0)))) := by rw [← h321]; exact (gs_ne (Ne.symm (ne_ao h343 h318))).trans h343
  have h345 : M294[q22]? = some (.inl (1, 144, .inr (.inl (fun _ => 0)))) := by rw [← h296]; exact ga_old h302
  have h346 : M320[q22]? = some (.inl (1, 144, .inr (.inl (fun _ => 0)))) := by rw [← h321]; exact (gs_ne (Ne.symm (ne_ao h345 h318))).trans h345
  have h347 : M294[q38]? = some (.inl (1, 2400, .inr (.inl (fun _ => 0)))) := by rw [← h296]; exact ga_old h304
  have h348 : M320[q38]? = some (.inl (1, 2400, .inr (.inl (fun _ => 0)))) := by rw [← h321]; exact (gs_ne (Ne.symm (ne_ao h347 h318))).trans h347
  have h349 : M294[q57]? = some (.inl (3, 800, .inl (fun _ => 0))) := by rw [← h296]; exact ga_old h306
  have h350 : M320[q57]? = some (.inl (3, 800, .inl (fun _ => 0))) := by rw [← h321]; exact (gs_ne (Ne.symm (ne_ao h349 h318))).trans h349
  have h351 : M294[q79]? = some (.inl (0, 800, .inl (fun _ => 0))) := by rw [← h296]; exact ga_old h308
  have h352 : M320[q79]? = some (.inl (0, 800, .inl (fun _ => 0))) := by rw [← h321]; exact (gs_ne (Ne.symm (ne_ao h351 h318))).trans h351
  have h353 : M294[q104]? = some (.inl (0, 160, .inl (fun _ => 0))) := by rw [← h296]; exact ga_old h310
  have h354 : M320[q104]? = some (.inl (0, 160, .inl (fun _ => 0))) := by rw [← h321]; exact (gs_ne (Ne.symm (ne_ao h353 h318))).trans h353
  have h355 : M294[q143]? = some (.inl (1, 6, .inr (.inl (fun _ => 0)))) := by rw [← h296]; exact ga_old h312
  have h356 : M320[q143]? = some (.inl (1, 6, .inr (.inl (fun _ => 0)))) := by rw [← h321]; exact (gs_ne (Ne.symm (ne_ao h355 h318))).trans h355
  have h357 : M294[q181]? = some (.inl (0, 5, .inl (fun _ => 0))) := by rw [← h296]; exact ga_old h314
  have h358 : M320[q181]? = some (.inl (0, 5, .inl (fun _ => 0))) := by rw [← h321]; exact (gs_ne (Ne.symm (ne_ao h357 h318))).trans h357
  have h359 : M294[q216]? = some (.inl (0, 5, .inl (fun _ => 0))) := by rw [← h296]; exact ga_old h316
  have h360 : M320[q216]? = some (.inl (0, 5, .inl (fun _ => 0))) := by rw [← h321]; exact (gs_ne (Ne.symm (ne_ao h359 h318))).trans h359
  have h361 : M294[q254]? = some (.inl (0, 400, .inl (fun _ => 0))) := by rw [← h296]; exact ga_old h317
  have h362 : M320[q254]? = some (.inl (0, 400, .inl (fun _ => 0))) := by rw [← h321]; exact (gs_ne (Ne.symm (ne_ao h361 h318))).trans h361
  have h363 : M320[q295]? = some (.inl (0, 400, .inl (fun _ => 0))) := by rw [← h321]; exact (gs_ne (Ne.symm (ne_ao h298 h318))).trans h298
  have h364 : M338[x0]? = some (.inr (10, ((((((((((((fs10.set 0 (.ref q5)).set 2 (.ref q22)).set 4 (.ref q38)).set 5 (.ref q57)).set 6 (.ref q79)).set 12 (.ref q104)).set 14 (.int (-1))).set 23 (.ref q143)).set 28 (.ref q181)).set 29 (.ref q216)).set 30 (.ref q254)).set 31 (.ref q295)))) := by rw [← h340]; exact ga_old h322
  have h365 : 33 < (((((((((((((fs10.set 0 (.ref q5)).set 2 (.ref q22)).set 4 (.ref q38)).set 5 (.ref q57)).set 6 (.ref q79)).set 12 (.ref q104)).set 14 (.int (-1))).set 23 (.ref q143)).set 28 (.ref q181)).set 29 (.ref q216)).set 30 (.ref q254)).set 31 (.ref q295))).length := by first | omega | (simp only [List.length_set]; omega)
  refine pf_Mo_49 ok hin d_Mo_init_108 h364 h365 (fun _ => ⟨rfl, rfl⟩) ?_
  rw [h367]
  have h368 : M366[x0]? = some (.inr (10, (((((((((((((fs10.set 0 (.ref q5)).set 2 (.ref q22)).set 4 (.ref q38)).set 5 (.ref q57)).set 6 (.ref q79)).set 12 (.ref q104)).set 14 (.int (-1))).set 23 (.ref q143)).set 28 (.ref q181)).set 29 (.ref q216)).set 30 (.ref q254)).set 31 (.ref q295)).set 33 (.ref q339)))) := by rw [← h367]; exact gs_eq h364
  have h369 := (List.getElem?_set_ne (a := .ref q339) (by decide : 33 ≠ 0)).trans h323
  have h370 := (List.getElem?_set_ne (a := .ref q339) (by decide : 33 ≠ 2)).trans h324
  have h371 := (List.getElem?_set_ne (a := .ref q339) (by decide : 33 ≠ 4)).trans h325
  have h372 := (List.getElem?_set_ne (a := .ref q339) (by decide : 33 ≠ 5)).trans h326
  have h373 := (List.getElem?_set_ne (a := .ref q339) (by decide : 33 ≠ 6)).trans h327
  have h374 := (List.getElem?_set_ne (a := .ref q339) (by decide : 33 ≠ 12)).trans h328
  have h375 := (List.getElem?_set_ne (a := .ref q339) (by decide : 33 ≠ 14)).trans h329
  have h376 := (List.getElem?_set_ne (a := .ref q339) (by decide : 33 ≠ 23)).trans h330
  have h377 := (List.getElem?_set_ne (a := .ref q339) (by decide : 33 ≠ 28)).trans h331
  have h378 := (List.getElem?_set_ne (a := .ref q339) (by decide : 33 ≠ 29)).trans h332
  have h379 := (List.getElem?_set_ne (a := .ref q339) (by decide : 33 ≠ 30)).trans h333
  have h380 := (List.getElem?_set_ne (a := .ref q339) (by decide : 33 ≠ 31)).trans h334
  have h381 : (((((((((((((fs10.set 0 (.ref q5)).set 2 (.ref q22)).set 4 (.ref q38)).set 5 (.ref q57)).set 6 (.ref q79)).set 12 (.ref q104)).set 14 (.int (-1))).set 23 (.ref q143)).set 28 (.ref q181)).set 29 (.ref q216)).set 30 (.ref q254)).set 31 (.ref q295)).set 33 (.ref q339))[33]? = some (.ref q339) := List.getElem?_set_self h365
  refine g_aload_n ok d_Mo_init_111 rfl (j := 0) rfl ?_
  refine g_bipush (v := 120) ok d_Mo_init_112 (by decide) ?_
  refine g_newa (atype := .long) (ty := .long) (t := 1) (N := 120) (a0 := (120, .inr (.inl (fun _ => 0)))) ok (List.mem_cons_of_mem _ (gT_at 56 (by decide +kernel) (by decide +kernel))) rfl rfl (fun _ => rfl) (fun _ => rfl) (by decide) (by decide) (by decide) d_Mo_init_114 h382 h383 h384 ?_
  rw [h387, h388]
  have h389 : M385[q386]? = some (.inl (1, 120, .inr (.inl (fun _ => 0)))) := by rw [← h387, ← h388]; exact ga_new _ _
  have h390 : M338[q5]? = some (.inl (1, 144, .inr (.inl (fun _ => 0)))) := by rw [← h340]; exact ga_old h344
  have h391 : M366[q5]? = some (.inl (1, 144, .inr (.inl (fun _ => 0)))) := by rw [← h367]; exact (gs_ne (Ne.symm (ne_ao h390 h364))).trans h390
  have h392 : M338[q22]? = some (.inl (1, 144, .inr (.inl (fun _ => 0)))) := by rw [← h340]; exact ga_old h346
  have h393 : M366[q22]? = some (.inl (1, 144, .inr (.inl (fun _ => 0)))) := by rw [← h367]; exact (gs_ne (Ne.symm (ne_ao h392 h364))).trans h392
  have h394 : M338[q38]? = some (.inl (1, 2400, .inr (.inl (fun _ => 0)))) := by rw [← h340]; exact ga_old h348
  have h395 : M366[q38]? = some (.inl (1, 2400, .inr (.inl (fun _ => 0)))) := by rw [← h367]; exact (gs_ne (Ne.symm (ne_ao h394 h364))).trans h394
  have h396 : M338[q57]? = some (.inl (3, 800, .inl (fun _ => 0))) := by rw [← h340]; exact ga_old h350
  have h397 : M366[q57]? = some (.inl (3, 800, .inl (fun _ => 0))) := by rw [← h367]; exact (gs_ne (Ne.symm (ne_ao h396 h364))).trans h396
  have h398 : M338[q79]? = some (.inl (0, 800, .inl (fun _ => 0))) := by rw [← h340]; exact ga_old h352
  have h399 : M366[q79]? = some (.inl (0, 800, .inl (fun _ => 0))) := by rw [← h367]; exact (gs_ne (Ne.symm (ne_ao h398 h364))).trans h398
  have h400 : M338[q104]? = some (.inl (0, 160, .inl (fun _ => 0))) := by rw [← h340]; exact ga_old h354
  have h401 : M366[q104]? = some (.inl (0, 160, .inl (fun _ => 0))) := by rw [← h367]; exact (gs_ne (Ne.symm (ne_ao h400 h364))).trans h400
  have h402 : M338[q143]? = some (.inl (1, 6, .inr (.inl (fun _ => 0)))) := by rw [← h340]; exact ga_old h356
  have h403 : M366[q143]? = some (.inl (1, 6, .inr (.inl (fun _ => 0)))) := by rw [← h367]; exact (gs_ne (Ne.symm (ne_ao h402 h364))).trans h402
  have h404 : M338[q181]? = some (.inl (0, 5, .inl (fun _ => 0))) := by rw [← h340]; exact ga_old h358
  have h405 : M366[q181]? = some (.inl (0, 5, .inl (fun _ => 0))) := by rw [← h367]; exact (gs_ne (Ne.symm (ne_ao h404 h364))).trans h404
  have h406 : M338[q216]? = some (.inl (0, 5, .inl (fun _ => 0))) := by rw [← h340]; exact ga_old h360
  have h407 : M366[q216]? = some (.inl (0, 5, .inl (fun _ => 0))) := by rw [← h367]; exact (gs_ne (Ne.symm (ne_ao h406 h364))).trans h406
  have h408 : M338[q254]? = some (.inl (0, 400, .inl (fun _ => 0))) := by rw [← h340]; exact ga_old h362
  have h409 : M366[q254]? = some (.inl (0, 400, .inl (fun _ => 0))) := by rw [← h367]; exact (gs_ne (Ne.symm (ne_ao h408 h364))).trans h408
  have h410 : M338[q295]? = some (.inl (0, 400, .inl (fun _ => 0))) := by rw [← h340]; exact ga_old h363
  have h411 : M366[q295]? = some (.inl (0, 400, .inl (fun _ => 0))) := by rw [← h367]; exact (gs_ne (Ne.symm (ne_ao h410 h364))).trans h410
  have h412 : M366[q339]? = some (.inl (0, 120, .inl (fun _ => 0))) := by rw [← h367]; exact (gs_ne (Ne.symm (ne_ao h342 h364))).trans h342
  have h413 : M385[x0]? = some (.inr (10, (((((((((((((fs10.set 0 (.ref q5)).set 2 (.ref q22)).set 4 (.ref q38)).set 5 (.ref q57)).set 6 (.ref q79)).set 12 (.ref q104)).set 14 (.int (-1))).set 23 (.ref q143)).set 28 (.ref q181)).set 29 (.ref q216)).set 30 (.ref q254)).set 31 (.ref q295)).set 33 (.ref q339)))) := by rw [← h387]; exact ga_old h368
  have h414 : 34 < ((((((((((((((fs10.set 0 (.ref q5)).set 2 (.ref q22)).set 4 (.ref q38)).set 5 (.ref q57)).set 6 (.ref q79)).set 12 (.ref q104)).set 14 (.int (-1))).set 23 (.ref q143)).set 28 (.ref q181)).set 29 (.ref q216)).set 30 (.ref q254)).set 31 (.ref q295)).set 33 (.ref q339))).length := by first | omega | (simp only [List.length_set]; omega)
  refine pf_Mo_52 ok hin d_Mo_init_116 h413 h414 (fun _ => ⟨rfl, rfl⟩) ?_
  rw [h416]
  have h417 : M415[x0]? = some (.inr (10, ((((((((((((((fs10.set 0 (.ref q5)).set 2 (.ref q22)).set 4 (.ref q38)).set 5 (.ref q57)).set 6 (.ref q79)).set 12 (.ref q104)).set 14 (.int (-1))).set 23 (.ref q143)).set 28 (.ref q181)).set 29 (.ref q216)).set 30 (.ref q254)).set 31 (.ref q295)).set 33 (.ref q339)).set 34 (.ref q386)))) := by rw [← h416]; exact gs_eq h413
  have h418 := (List.getElem?_set_ne (a := .ref q386) (by decide : 34 ≠ 0)).trans h369
  have h419 := (List.getElem?_set_ne (a := .ref q386) (by decide : 34 ≠ 2)).trans h370
  have h420 := (List.getElem?_set_ne (a := .ref q386) (by decide : 34 ≠ 4)).trans h371
  have h421 := (List.getElem?_set_ne (a := .ref q386) (by decide : 34 ≠ 5)).trans h372
  have h422 := (List.getElem?_set_ne (a := .ref q386) (by decide : 34 ≠ 6)).trans h373
  have h423 := (List.getElem?_set_ne (a := .ref q386) (by decide : 34 ≠ 12)).trans h374
  have h424 := (List.getElem?_set_ne (a := .ref q386) (by decide : 34 ≠ 14)).trans h375
  have h425 := (List.getElem?_set_ne (a := .ref q386) (by decide : 34 ≠ 23)).trans h376
  have h426 := (List.getElem?_set_ne (a := .ref q386) (by decide : 34 ≠ 28)).trans h377
  have h427 := (List.getElem?_set_ne (a := .ref q386) (by decide : 34 ≠ 29)).trans h378
  have h428 := (List.getElem?_set_ne (a := .ref q386) (by decide : 34 ≠ 30)).trans h379
  have h429 := (List.getElem?_set_ne (a := .ref q386) (by decide : 34 ≠ 31)).trans h380
  have h430 := (List.getElem?_set_ne (a := .ref q386) (by decide : 34 ≠ 33)).trans h381
  have h431 : ((((((((((((((fs10.set 0 (.ref q5)).set 2 (.ref q22)).set 4 (.ref q38)).set 5 (.ref q57)).set 6 (.ref q79)).set 12 (.ref q104)).set 14 (.int (-1))).set 23 (.ref q143)).set 28 (.ref q181)).set 29 (.ref q216)).set 30 (.ref q254)).set 31 (.ref q295)).set 33 (.ref q339)).set 34 (.ref q386))[34]? = some (.ref q386) := List.getElem?_set_self h414
  refine g_aload_n ok d_Mo_init_119 rfl (j := 0) rfl ?_
  refine g_bipush (v := 14) ok d_Mo_init_120 (by decide) ?_
  refine g_newa (atype := .int) (ty := .int) (t := 0) (N := 14) (a0 := (14, .inl (fun _ => 0))) ok (List.mem_cons_of_mem _ (gT_at 83 (by decide +kernel) (by decide +kernel))) rfl rfl (fun _ => rfl) (fun _ => rfl) (by decide) (by decide) (by decide) d_Mo_init_122 h432 h433 h434 ?_
  rw [h437, h438]
  have h439 : M435[q436]? = some (.inl (0, 14, .inl (fun _ => 0))) := by rw [← h437, ← h438]; exact ga_new _ _
  have h440 : M385[q5]? = some (.inl (1, 144, .inr (.inl (fun _ => 0)))) := by rw [← h387]; exact ga_old h391
  have h441 : M415[q5]? = some (.inl (1, 144, .inr (.inl (fun _ => 0)))) := by rw [← h416]; exact (gs_ne (Ne.symm (ne_ao h440 h413))).trans h440
  have h442 : M385[q22]? = some (.inl (1, 144, .inr (.inl (fun _ => 0)))) := by rw [← h387]; exact ga_old h393
  have h443 : M415[q22]? = some (.inl (1, 144, .inr (.inl (fun _ => 0)))) := by rw [← h416]; exact (gs_ne (Ne.symm (ne_ao h442 h413))).trans h442
  have h444 : M385[q38]? = some (.inl (1, 2400, .inr (.inl (fun _ => 0)))) := by rw [← h387]; exact ga_old h395
  have h445 : M415[q38]? = some (.inl (1, 2400, .inr (.inl (fun _ => 0)))) := by rw [← h416]; exact (gs_ne (Ne.symm (ne_ao h444 h413))).trans h444
  have h446 : M385[q57]? = some (.inl (3, 800, .inl (fun _ => 0))) := by rw [← h387]; exact ga_old h397
  have h447 : M415[q57]? = some (.inl (3, 800, .inl (fun _ => 0))) := by rw [← h416]; exact (gs_ne (Ne.symm (ne_ao h446 h413))).trans h446
  have h448 : M385[q79]? = some (.inl (0, 800, .inl (fun _ => 0))) := by rw [← h387]; exact ga_old h399
  have h449 : M415[q79]? = some (.inl (0, 800, .inl (fun _ => 0))) := by rw [← h416]; exact (gs_ne (Ne.symm (ne_ao h448 h413))).trans h448
  have h450 : M385[q104]? = some (.inl (0, 160, .inl (fun _ => 0))) := by rw [← h387]; exact ga_old h401
  have h451 : M415[q104]? = some (.inl (0, 160, .inl (fun _ => 0))) := by rw [← h416]; exact (gs_ne (Ne.symm (ne_ao h450 h413))).trans h450
  have h452 : M385[q143]? = some (.inl (1, 6, .inr (.inl (fun _ => 0)))) := by rw [← h387]; exact ga_old h403
  have h453 : M415[q143]? = some (.inl (1, 6, .inr (.inl (fun _ => 0)))) := by rw [← h416]; exact (gs_ne (Ne.symm (ne_ao h452 h413))).trans h452
  have h454 : M385[q181]? = some (.inl (0, 5, .inl (fun _ => 0))) := by rw [← h387]; exact ga_old h405
  have h455 : M415[q181]? = some (.inl (0, 5, .inl (fun _ => 0))) := by rw [← h416]; exact (gs_ne (Ne.symm (ne_ao h454 h413))).trans h454
  have h456 : M385[q216]? = some (.inl (0, 5, .inl (fun _ => 0))) := by rw [← h387]; exact ga_old h407
  have h457 : M415[q216]? = some (.inl (0, 5, .inl (fun _ => 0))) := by rw [← h416]; exact (gs_ne (Ne.symm (ne_ao h456 h413))).trans h456
  have h458 : M385[q254]? = some (.inl (0, 400, .inl (fun _ => 0))) := by rw [← h387]; exact ga_old h409
  have h459 : M415[q254]? = some (.inl (0, 400, .inl (fun _ => 0))) := by rw [← h416]; exact (gs_ne (Ne.symm (ne_ao h458 h413))).trans h458
  have h460 : M385[q295]? = some (.inl (0, 400, .inl (fun _ => 0))) := by rw [← h387]; exact ga_old h411
  have h461 : M415[q295]? = some (.inl (0, 400, .inl (fun _ => 0))) := by rw [← h416]; exact (gs_ne (Ne.symm (ne_ao h460 h413))).trans h460
  have h462 : M385[q339]? = some (.inl (0, 120, .inl (fun _ => 0))) := by rw [← h387]; exact ga_old h412
  have h463 : M415[q339]? = some (.inl (0, 120, .inl (fun _ => 0))) := by rw [← h416]; exact (gs_ne (Ne.symm (ne_ao h462 h413))).trans h462
  have h464 : M415[q386]? = some (.inl (1, 120, .inr (.inl (fun _ => 0)))) := by rw [← h416]; exact (gs_ne (Ne.symm (ne_ao h389 h413))).trans h389
  have h465 : M435[x0]? = some (.inr (10, ((((((((((((((fs10.set 0 (.ref q5)).set 2 (.ref q22)).set 4 (.ref q38)).set 5 (.ref q57)).set 6 (.ref q79)).set 12 (.ref q104)).set 14 (.int (-1))).set 23 (.ref q143)).set 28 (.ref q181)).set 29 (.ref q216)).set 30 (.ref q254)).set 31 (.ref q295)).set 33 (.ref q339)).set 34 (.ref q386)))) := by rw [← h437]; exact ga_old h417
  have h466 : 36 < (((((((((((((((fs10.set 0 (.ref q5)).set 2 (.ref q22)).set 4 (.ref q38)).set 5 (.ref q57)).set 6 (.ref q79)).set 12 (.ref q104)).set 14 (.int (-1))).set 23 (.ref q143)).set 28 (.ref q181)).set 29 (.ref q216)).set 30 (.ref q254)).set 31 (.ref q295)).set 33 (.ref q339)).set 34 (.ref q386))).length := by first | omega | (simp only [List.length_set]; omega)
  refine pf_Mo_55 ok hin d_Mo_init_124 h465 h466 (fun _ => ⟨rfl, rfl⟩) ?_
  rw [h468]
  have h469 : M467[x0]? = some (.inr (10, (((((((((((((((fs10.set 0 (.ref q5)).set 2 (.ref q22)).set 4 (.ref q38)).set 5 (.ref q57)).set 6 (.ref q79)).set 12 (.ref q104)).set 14 (.int (-1))).set 23 (.ref q143)).set 28 (.ref q181)).set 29 (.ref q216)).set 30 (.ref q254)).set 31 (.ref q295)).set 33 (.ref q339)).set 34 (.ref q386)).set 36 (.ref q436)))) := by rw [← h468]; exact gs_eq h465
  have h470 := (List.getElem?_set_ne (a := .ref q436) (by decide : 36 ≠ 0)).trans h418
  have h471 := (List.getElem?_set_ne (a := .ref q436) (by decide : 36 ≠ 2)).trans h419
  have h472 := (List.getElem?_set_ne (a := .ref q436) (by decide : 36 ≠ 4)).trans h420
  have h473 := (List.getElem?_set_ne (a := .ref q436) (by decide : 36 ≠ 5)).trans h421
  have h474 := (List.getElem?_set_ne (a := .ref q436) (by decide : 36 ≠ 6)).trans h422
  have h475 := (List.getElem?_set_ne (a := .ref q436) (by decide : 36 ≠ 12)).trans h423
  have h476 := (List.getElem?_set_ne (a := .ref q436) (by decide : 36 ≠ 14)).trans h424
  have h477 := (List.getElem?_set_ne (a := .ref q436) (by decide : 36 ≠ 23)).trans h425
  have h478 := (List.getElem?_set_ne (a := .ref q436) (by decide : 36 ≠ 28)).trans h426
  have h479 := (List.getElem?_set_ne (a := .ref q436) (by decide : 36 ≠ 29)).trans h427
  have h480 := (List.getElem?_set_ne (a := .ref q436) (by decide : 36 ≠ 30)).trans h428
  have h481 := (List.getElem?_set_ne (a := .ref q436) (by decide : 36 ≠ 31)).trans h429
  have h482 := (List.getElem?_set_ne (a := .ref q436) (by decide : 36 ≠ 33)).trans h430
  have h483 := (List.getElem?_set_ne (a := .ref q436) (by decide : 36 ≠ 34)).trans h431
  have h484 : (((((((((((((((fs10.set 0 (.ref q5)).set 2 (.ref q22)).set 4 (.ref q38)).set 5 (.ref q57)).set 6 (.ref q79)).set 12 (.ref q104)).set 14 (.int (-1))).set 23 (.ref q143)).set 28 (.ref q181)).set 29 (.ref q216)).set 30 (.ref q254)).set 31 (.ref q295)).set 33 (.ref q339)).set 34 (.ref q386)).set 36 (.ref q436))[36]? = some (.ref q436) := List.getElem?_set_self h466
  refine g_aload_n ok d_Mo_init_127 rfl (j := 0) rfl ?_
  refine g_bipush (v := 14) ok d_Mo_init_128 (by decide) ?_
  refine g_newa (atype := .int) (ty := .int) (t := 0) (N := 14) (a0 := (14, .inl (fun _ => 0))) ok (List.mem_cons_of_mem _ (gT_at 83 (by decide +kernel) (by decide +kernel))) rfl rfl (fun _ => rfl) (fun _ => rfl) (by decide) (by decide) (by decide) d_Mo_init_130 h485 h486 h487 ?_
  rw [h490, h491]
  have h492 : M488[q489]? = some (.inl (0, 14, .inl (fun _ => 0))) := by rw [← h490, ← h491]; exact ga_new _ _
  have h493 : M435[q5]? = some (.inl (1, 144, .inr (.inl (fun _ => 0)))) := by rw [← h437]; exact ga_old h441
  have h494 : M467[q5]? = some (.inl (1, 144, .inr (.inl (fun _ => 0)))) := by rw [← h468]; exact (gs_ne (Ne.symm (ne_ao h493 h465))).trans h493
  have h495 : M435[q22]? = some (.inl (1, 144, .inr (.inl (fun _ => 0)))) := by rw [← h437]; exact ga_old h443
  have h496 : M467[q22]? = some (.inl (1, 144, .inr (.inl (fun _ => 0)))) := by rw [← h468]; exact (gs_ne (Ne.symm (ne_ao h495 h465))).trans h495
  have h497 : M435[q38]? = some (.inl (1, 2400, .inr (.inl (fun _ => 0)))) := by rw [← h437]; exact ga_old h445
  have h498 : M467[q38]? = some (.inl (1, 2400, .inr (.inl (fun _ => 0)))) := by rw [← h468]; exact (gs_ne (Ne.symm (ne_ao h497 h465))).trans h497
  have h499 : M435[q57]? = some (.inl (3, 800, .inl (fun _ => 0))) := by rw [← h437]; exact ga_old h447
  have h500 : M467[q57]? = some (.inl (3, 800, .inl (fun _ => 0))) := by rw [← h468]; exact (gs_ne (Ne.symm (ne_ao h499 h465))).trans h499
  have h501 : M435[q79]? = some (.inl (0, 800, .inl (fun _ => 0))) := by rw [← h437]; exact ga_old h449
  have h502 : M467[q79]? = some (.inl (0, 800, .inl (fun _ => 0))) := by rw [← h468]; exact (gs_ne (Ne.symm (ne_ao h501 h465))).trans h501
  have h503 : M435[q104]? = some (.inl (0, 160, .inl (fun _ => 0))) := by rw [← h437]; exact ga_old h451
  have h504 : M467[q104]? = some (.inl (0, 160, .inl (fun _ => 0))) := by rw [← h468]; exact (gs_ne (Ne.symm (ne_ao h503 h465))).trans h503
  have h505 : M435[q143]? = some (.inl (1, 6, .inr (.inl (fun _ => 0)))) := by rw [← h437]; exact ga_old h453
  have h506 : M467[q143]? = some (.inl (1, 6, .inr (.inl (fun _ => 0)))) := by rw [← h468]; exact (gs_ne (Ne.symm (ne_ao h505 h465))).trans h505
  have h507 : M435[q181]? = some (.inl (0, 5, .inl (fun _ => 0))) := by rw [← h437]; exact ga_old h455
  have h508 : M467[q181]? = some (.inl (0, 5, .inl (fun _ => 0))) := by rw [← h468]; exact (gs_ne (Ne.symm (ne_ao h507 h465))).trans h507
  have h509 : M435[q216]? = some (.inl (0, 5, .inl (fun _ => 0))) := by rw [← h437]; exact ga_old h457
  have h510 : M467[q216]? = some (.inl (0, 5, .inl (fun _ => 0))) := by rw [← h468]; exact (gs_ne (Ne.symm (ne_ao h509 h465))).trans h509
  have h511 : M435[q254]? = some (.inl (0, 400, .inl (fun _ => 0))) := by rw [← h437]; exact ga_old h459
  have h512 : M467[q254]? = some (.inl (0, 400, .inl (fun _ => 0))) := by rw [← h468]; exact (gs_ne (Ne.symm (ne_ao h511 h465))).trans h511
  have h513 : M435[q295]? = some (.inl (0, 400, .inl (fun _ => 0))) := by rw [← h437]; exact ga_old h461
  have h514 : M467[q295]? = some (.inl (0, 400, .inl (fun _ => 0))) := by rw [← h468]; exact (gs_ne (Ne.symm (ne_ao h513 h465))).trans h513
  have h515 : M435[q339]? = some (.inl (0, 120, .inl (fun _ => 0))) := by rw [← h437]; exact ga_old h463
  have h516 : M467[q339]? = some (.inl (0, 120, .inl (fun _ => 0))) := by rw [← h468]; exact (gs_ne (Ne.symm (ne_ao h515 h465))).trans h515
  have h517 : M435[q386]? = some (.inl (1, 120, .inr (.inl (fun _ => 0)))) := by rw [← h437]; exact ga_old h464
  have h518 : M467[q386]? = some (.inl (1, 120, .inr (.inl (fun _ => 0)))) := by rw [← h468]; exact (gs_ne (Ne.symm (ne_ao h517 h465))).trans h517
  have h519 : M467[q436]? = some (.inl (0, 14, .inl (fun _ => 0))) := by rw [← h468]; exact (gs_ne (Ne.symm (ne_ao h439 h465))).trans h439
  have h520 : M488[x0]? = some (.inr (10, (((((((((((((((fs10.set 0 (.ref q5)).set 2 (.ref q22)).set 4 (.ref q38)).set 5 (.ref q57)).set 6 (.ref q79)).set 12 (.ref q104)).set 14 (.int (-1))).set 23 (.ref q143)).set 28 (.ref q181)).set 29 (.ref q216)).set 30 (.ref q254)).set 31 (.ref q295)).set 33 (.ref q339)).set 34 (.ref q386)).set 36 (.ref q436)))) := by rw [← h490]; exact ga_old h469
  have h521 : 37 < ((((((((((((((((fs10.set 0 (.ref q5)).set 2 (.ref q22)).set 4 (.ref q38)).set 5 (.ref q57)).set 6 (.ref q79)).set 12 (.ref q104)).set 14 (.int (-1))).set 23 (.ref q143)).set 28 (.ref q181)).set 29 (.ref q216)).set 30 (.ref q254)).set 31 (.ref q295)).set 33 (.ref q339)).set 34 (.ref q386)).set 36 (.ref q436))).length := by first | omega | (simp only [List.length_set]; omega)
  refine pf_Mo_58 ok hin d_Mo_init_132 h520 h521 (fun _ => ⟨rfl, rfl⟩) ?_
  rw [h523]
  have h524 : M522[x0]? = some (.inr (10, ((((((((((((((((fs10.set 0 (.ref q5)).set 2 (.ref q22)).set 4 (.ref q38)).set 5 (.ref q57)).set 6 (.ref q79)).set 12 (.ref q104)).set 14 (.int (-1))).set 23 (.ref q143)).set 28 (.ref q181)).set 29 (.ref q216)).set 30 (.ref q254)).set 31 (.ref q295)).set 33 (.ref q339)).set 34 (.ref q386)).set 36 (.ref q436)).set 37 (.ref q489)))) := by rw [← h523]; exact gs_eq h520
  have h525 := (List.getElem?_set_ne (a := .ref q489) (by decide : 37 ≠ 0)).trans h470
  have h526 := (List.getElem?_set_ne (a := .ref q489) (by decide : 37 ≠ 2)).trans h471
  have h527 := (List.getElem?_set_ne (a := .ref q489) (by decide : 37 ≠ 4)).trans h472
  have h528 := (List.getElem?_set_ne (a := .ref q489) (by decide : 37 ≠ 5)).trans h473
  have h529 := (List.getElem?_set_ne (a := .ref q489) (by decide : 37 ≠ 6)).trans h474
  have h530 := (List.getElem?_set_ne (a := .ref q489) (by decide : 37 ≠ 12)).trans h475
  have h531 := (List.getElem?_set_ne (a := .ref q489) (by decide : 37 ≠ 14)).trans h476
  have h532 := (List.getElem?_set_ne (a := .ref q489) (by decide : 37 ≠ 23)).trans h477
  have h533 := (List.getElem?_set_ne (a := .ref q489) (by decide : 37 ≠ 28)).trans h478
  have h534 := (List.getElem?_set_ne (a := .ref q489) (by decide : 37 ≠ 29)).trans h479
  have h535 := (List.getElem?_set_ne (a := .ref q489) (by decide : 37 ≠ 30)).trans h480
  have h536 := (List.getElem?_set_ne (a := .ref q489) (by decide : 37 ≠ 31)).trans h481
  have h537 := (List.getElem?_set_ne (a := .ref q489) (by decide : 37 ≠ 33)).trans h482
  have h538 := (List.getElem?_set_ne (a := .ref q489) (by decide : 37 ≠ 34)).trans h483
  have h539 := (List.getElem?_set_ne (a := .ref q489) (by decide : 37 ≠ 36)).trans h484
  have h540 : ((((((((((((((((fs10.set 0 (.ref q5)).set 2 (.ref q22)).set 4 (.ref q38)).set 5 (.ref q57)).set 6 (.ref q79)).set 12 (.ref q104)).set 14 (.int (-1))).set 23 (.ref q143)).set 28 (.ref q181)).set 29 (.ref q216)).set 30 (.ref q254)).set 31 (.ref q295)).set 33 (.ref q339)).set 34 (.ref q386)).set 36 (.ref q436)).set 37 (.ref q489))[37]? = some (.ref q489) := List.getElem?_set_self h521
  refine g_aload_n ok d_Mo_init_135 rfl (j := 0) rfl ?_
  refine g_bipush (v := 14) ok d_Mo_init_136 (by decide) ?_
  refine g_newa (atype := .boolean) (ty := .boolean) (t := 3) (N := 14) (a0 := (14, .inl (fun _ => 0))) ok (List.mem_cons_of_mem _ (gT_at 82 (by decide +kernel) (by decide +kernel))) rfl rfl (fun _ => rfl) (fun _ => rfl) (by decide) (by decide) (by decide) d_Mo_init_138 h541 h542 h543 ?_
  rw [h546, h547]
  have h548 : M544[q545]? = some (.inl (3, 14, .inl (fun _ => 0))) := by rw [← h546, ← h547]; exact ga_new _ _
  have h549 : M488[q5]? = some (.inl (1, 144, .inr (.inl (fun _ => 0)))) := by rw [← h490]; exact ga_old h494
  have h550 : M522[q5]? = some (.inl (1, 144, .inr (.inl (fun _ => 0)))) := by rw [← h523]; exact (gs_ne (Ne.symm (ne_ao h549 h520))).trans h549
  have h551 : M488[q22]? = some (.inl (1, 144, .inr (.inl (fun _ => 0)))) := by rw [← h490]; exact ga_old h496
  have h552 : M522[q22]? = some (.inl (1, 144, .inr (.inl (fun _ => 0)))) := by rw [← h523]; exact (gs_ne (Ne.symm (ne_ao h551 h520))).trans h551
  have h553 : M488[q38]? = some (.inl (1, 2400, .inr (.inl (fun _ => 0)))) := by rw [← h490]; exact ga_old h498
  have h554 : M522[q38]? = some (.inl (1, 2400, .inr (.inl (fun _ => 0)))) := by rw [← h523]; exact (gs_ne (Ne.symm (ne_ao h553 h520))).trans h553
  have h555 : M488[q57]? = some (.inl (3, 800, .inl (fun _ => 0))) := by rw [← h490]; exact ga_old h500
  have h556 : M522[q57]? = some (.inl (3, 800, .inl (fun _ => 0))) := by rw [← h523]; exact (gs_ne (Ne.symm (ne_ao h555 h520))).trans h555
  have h557 : M488[q79]? = some (.inl (0, 800, .inl (fun _ => 0))) := by rw [← h490]; exact ga_old h502
  have h558 : M522[q79]? = some (.inl (0, 800, .inl (fun _ => 0))) := by rw [← h523]; exact (gs_ne (Ne.symm (ne_ao h557 h520))).trans h557
  have h559 : M488[q104]? = some (.inl (0, 160, .inl (fun _ => 0))) := by rw [← h490]; exact ga_old h504
  have h560 : M522[q104]? = some (.inl (0, 160, .inl (fun _ => 0))) := by rw [← h523]; exact (gs_ne (Ne.symm (ne_ao h559 h520))).trans h559
  have h561 : M488[q143]? = some (.inl (1, 6, .inr (.inl (fun _ => 0)))) := by rw [← h490]; exact ga_old h506
  have h562 : M522[q143]? = some (.inl (1, 6, .inr (.inl (fun _ => 0)))) := by rw [← h523]; exact (gs_ne (Ne.symm (ne_ao h561 h520))).trans h561
  have h563 : M488[q181]? = some (.inl (0, 5, .inl (fun _ => 0))) := by rw [← h490]; exact ga_old h508
  have h564 : M522[q181]? = some (.inl (0, 5, .inl (fun _ => 0))) := by rw [← h523]; exact (gs_ne (Ne.symm (ne_ao h563 h520))).trans h563
  have h565 : M488[q216]? = some (.inl (0, 5, .inl (fun _ => 0))) := by rw [← h490]; exact ga_old h510
  have h566 : M522[q216]? = some (.inl (0, 5, .inl (fun _ => 0))) := by rw [← h523]; exact (gs_ne (Ne.symm (ne_ao h565 h520))).trans h565
  have h567 : M488[q254]? = some (.inl (0, 400, .inl (fun _ => 0))) := by rw [← h490]; exact ga_old h512
  have h568 : M522[q254]? = some (.inl (0, 400, .inl (fun _ => 0))) := by rw [← h523]; exact (gs_ne (Ne.symm (ne_ao h567 h520))).trans h567
  have h569 : M488[q295]? = some (.inl (0, 400, .inl (fun _ => 0))) := by rw [← h490]; exact ga_old h514
  have h570 : M522[q295]? = some (.inl (0, 400, .inl (fun _ => 0))) := by rw [← h523]; exact (gs_ne (Ne.symm (ne_ao h569 h520))).trans h569
  have h571 : M488[q339]? = some (.inl (0, 120, .inl (fun _ => 0))) := by rw [← h490]; exact ga_old h516
  have h572 : M522[q339]? = some (.inl (0, 120, .inl (fun _ => 0))) := by rw [← h523]; exact (gs_ne (Ne.symm (ne_ao h571 h520))).trans h571
  have h573 : M488[q386]? = some (.inl (1, 120, .inr (.inl (fun _ => 0)))) := by rw [← h490]; exact ga_old h518
  have h574 : M522[q386]? = some (.inl (1, 120, .inr (.inl (fun _ => 0)))) := by rw [← h523]; exact (gs_ne (Ne.symm (ne_ao h573 h520))).trans h573
  have h575 : M488[q436]? = some (.inl (0, 14, .inl (fun _ => 0))) := by rw [← h490]; exact ga_old h519
  have h576 : M522[q436]? = some (.inl (0, 14, .inl (fun _ => 0))) := by rw [← h523]; exact (gs_ne (Ne.symm (ne_ao h575 h520))).trans h575
  have h577 : M522[q489]? = some (.inl (0, 14, .inl (fun _ => 0))) := by rw [← h523]; exact (gs_ne (Ne.symm (ne_ao h492 h520))).trans h492
  have h578 : M544[x0]? = some (.inr (10, ((((((((((((((((fs10.set 0 (.ref q5)).set 2 (.ref q22)).set 4 (.ref q38)).set 5 (.ref q57)).set 6 (.ref q79)).set 12 (.ref q104)).set 14 (.int (-1))).set 23 (.ref q143)).set 28 (.ref q181)).set 29 (.ref q216)).set 30 (.ref q254)).set 31 (.ref q295)).set 33 (.ref q339)).set 34 (.ref q386)).set 36 (.ref q436)).set 37 (.ref q489)))) := by rw [← h546]; exact ga_old h524
  have h579 : 38 < (((((((((((((((((fs10.set 0 (.ref q5)).set 2 (.ref q22)).set 4 (.ref q38)).set 5 (.ref q57)).set 6 (.ref q79)).set 12 (.ref q104)).set 14 (.int (-1))).set 23 (.ref q143)).set 28 (.ref q181)).set 29 (.ref q216)).set 30 (.ref q254)).set 31 (.ref q295)).set 33 (.ref q339)).set 34 (.ref q386)).set 36 (.ref q436)).set 37 (.ref q489))).length := by first | omega | (simp only [List.length_set]; omega)
  refine pf_Mo_61 ok hin d_Mo_init_140 h578 h579 (fun _ => ⟨rfl, rfl⟩) ?_
  rw [h581]
  have h582 : M580[x0]? = some (.inr (10, (((((((((((((((((fs10.set 0 (.ref q5)).set 2 (.ref q22)).set 4 (.ref q38)).set 5 (.ref q57)).set 6 (.ref q79)).set 12 (.ref q104)).set 14 (.int (-1))).set 23 (.ref q143)).set 28 (.ref q181)).set 29 (.ref q216)).set 30 (.ref q254)).set 31 (.ref q295)).set 33 (.ref q339)).set 34 (.ref q386)).set 36 (.ref q436)).set 37 (.ref q489)).set 38 (.ref q545)))) := by rw [← h581]; exact gs_eq h578
  have h583 := (List.getElem?_set_ne (a := .ref q545) (by decide : 38 ≠ 0)).trans h525
  have h584 := (List.getElem?_set_ne (a := .ref q545) (by decide : 38 ≠ 2)).trans h526
  have h585 := (List.getElem?_set_ne (a := .ref q545) (by decide : 38 ≠ 4)).trans h527
  have h586 := (List.getElem?_set_ne (a := .ref q545) (by decide : 38 ≠ 5)).trans h528
  have h587 := (List.getElem?_set_ne (a := .ref q545) (by decide : 38 ≠ 6)).trans h529
  have h588 := (List.getElem?_set_ne (a := .ref q545) (by decide : 38 ≠ 12)).trans h530
  have h589 := (List.getElem?_set_ne (a := .ref q545) (by decide : 38 ≠ 14)).trans h531
  have h590 := (List.getElem?_set_ne (a := .ref q545) (by decide : 38 ≠ 23)).trans h532
  have h591 := (List.getElem?_set_ne (a := .ref q545) (by decide : 38 ≠ 28)).trans h533
  have h592 := (List.getElem?_set_ne (a := .ref q545) (by decide : 38 ≠ 29)).trans h534
  have h593 := (List.getElem?_set_ne (a := .ref q545) (by decide : 38 ≠ 30)).trans h535
  have h594 := (List.getElem?_set_ne (a := .ref q545) (by decide : 38 ≠ 31)).trans h536
  have h595 := (List.getElem?_set_ne (a := .ref q545) (by decide : 38 ≠ 33)).trans h537
  have h596 := (List.getElem?_set_ne (a := .ref q545) (by decide : 38 ≠ 34)).trans h538
  have h597 := (List.getElem?_set_ne (a := .ref q545) (by decide : 38 ≠ 36)).trans h539
  have h598 := (List.getElem?_set_ne (a := .ref q545) (by decide : 38 ≠ 37)).trans h540
  have h599 : (((((((((((((((((fs10.set 0 (.ref q5)).set 2 (.ref q22)).set 4 (.ref q38)).set 5 (.ref q57)).set 6 (.ref q79)).set 12 (.ref q104)).set 14 (.int (-1))).set 23 (.ref q143)).set 28 (.ref q181)).set 29 (.ref q216)).set 30 (.ref q254)).set 31 (.ref q295)).set 33 (.ref q339)).set 34 (.ref q386)).set 36 (.ref q436)).set 37 (.ref q489)).set 38 (.ref q545))[38]? = some (.ref q545) := List.getElem?_set_self h579
  refine g_aload_n ok d_Mo_init_143 rfl (j := 0) rfl ?_
  refine g_bipush (v := 80) ok d_Mo_init_144 (by decide) ?_
  refine g_newa (atype := .int) (ty := .int) (t := 0) (N := 80) (a0 := (80, .inl (fun _ => 0))) ok (List.mem_cons_of_mem _ (gT_at 83 (by decide +kernel) (by decide +kernel))) rfl rfl (fun _ => rfl) (fun _ => rfl) (by decide) (by decide) (by decide) d_Mo_init_146 h600 h601 h602 ?_
  rw [h605, h606]
  have h607 : M603[q604]? = some (.inl (0, 80, .inl (fun _ => 0))) := by rw [← h605, ← h606]; exact ga_new _ _
  have h608 : M544[q5]? = some (.inl (1, 144, .inr (.inl (fun _ => 0)))) := by rw [← h546]; exact ga_old h550
  have h609 : M580[q5]? = some (.inl (1, 144, .inr (.inl (fun _ => 0)))) := by rw [← h581]; exact (gs_ne (Ne.symm (ne_ao h608 h578))).trans h608
  have h610 : M544[q22]? = some (.inl (1, 144, .inr (.inl (fun _ => 0)))) := by rw [← h546]; exact ga_old h552
  have h611 : M580[q22]? = some (.inl (1, 144, .inr (.inl (fun _ => 0)))) := by rw [← h581]; exact (gs_ne (Ne.symm (ne_ao h610 h578))).trans h610
  have h612 : M544[q38]? = some (.inl (1, 2400, .inr (.inl (fun _ => 0)))) := by rw [← h546]; exact ga_old h554
  have h613 : M580[q38]? = some (.inl (1, 2400, .inr (.inl (fun _ => 0)))) := by rw [← h581]; exact (gs_ne (Ne.symm (ne_ao h612 h578))).trans h612
  have h614 : M544[q57]? = some (.inl (3, 800, .inl (fun _ => 0))) := by rw [← h546]; exact ga_old h556
  have h615 : M580[q57]? = some (.inl (3, 800, .inl (fun _ => 0))) := by rw [← h581]; exact (gs_ne (Ne.symm (ne_ao h614 h578))).trans h614
  have h616 : M544[q79]? = some (.inl (0, 800, .inl (fun _ => 0))) := by rw [← h546]; exact ga_old h558
  have h617 : M580[q79]? = some (.inl (0, 800, .inl (fun _ => 0))) := by rw [← h581]; exact (gs_ne (Ne.symm (ne_ao h616 h578))).trans h616
  have h618 : M544[q104]? = some (.inl (0, 160, .inl (fun _ => 0))) := by rw [← h546]; exact ga_old h560
  have h619 : M580[q104]? = some (.inl (0, 160, .inl (fun _ => 0))) := by rw [← h581]; exact (gs_ne (Ne.symm (ne_ao h618 h578))).trans h618
  have h620 : M544[q143]? = some (.inl (1, 6, .inr (.inl (fun _ => 0)))) := by rw [← h546]; exact ga_old h562
  have h621 : M580[q143]? = some (.inl (1, 6, .inr (.inl (fun _ => 0)))) := by rw [← h581]; exact (gs_ne (Ne.symm (ne_ao h620 h578))).trans h620
  have h622 : M544[q181]? = some (.inl (0, 5, .inl (fun _ => 0))) := by rw [← h546]; exact ga_old h564
  have h623 : M580[q181]? = some (.inl (0, 5, .inl (fun _ => 0))) := by rw [← h581]; exact (gs_ne (Ne.symm (ne_ao h622 h578))).trans h622
  have h624 : M544[q216]? = some (.inl (0, 5, .inl (fun _ => 0))) := by rw [← h546]; exact ga_old h566
  have h625 : M580[q216]? = some (.inl (0, 5, .inl (fun _ => 0))) := by rw [← h581]; exact (gs_ne (Ne.symm (ne_ao h624 h578))).trans h624
  have h626 : M544[q254]? = some (.inl (0, 400, .inl (fun _ => 0))) := by rw [← h546]; exact ga_old h568
  have h627 : M580[q254]? = some (.inl (0, 400, .inl (fun _ => 0))) := by rw [← h581]; exact (gs_ne (Ne.symm (ne_ao h626 h578))).trans h626
  have h628 : M544[q295]? = some (.inl (0, 400, .inl (fun _ => 0))) := by rw [← h546]; exact ga_old h570
  have h629 : M580[q295]? = some (.inl (0, 400, .inl (fun _ => 0))) := by rw [← h581]; exact (gs_ne (Ne.symm (ne_ao h628 h578))).trans h628
  have h630 : M544[q339]? = some (.inl (0, 120, .inl (fun _ => 0))) := by rw [← h546]; exact ga_old h572
  have h631 : M580[q339]? = some (.inl (0, 120, .inl (fun _ => 0))) := by rw [← h581]; exact (gs_ne (Ne.symm (ne_ao h630 h578))).trans h630
  have h632 : M544[q386]? = some (.inl (1, 120, .inr (.inl (fun _ => 0)))) := by rw [← h546]; exact ga_old h574
  have h633 : M580[q386]? = some (.inl (1, 120, .inr (.inl (fun _ => 0)))) := by rw [← h581]; exact (gs_ne (Ne.symm (ne_ao h632 h578))).trans h632
  have h634 : M544[q436]? = some (.inl (0, 14, .inl (fun _ => 0))) := by rw [← h546]; exact ga_old h576
  have h635 : M580[q436]? = some (.inl (0, 14, .inl (fun _ => 0))) := by rw [← h581]; exact (gs_ne (Ne.symm (ne_ao h634 h578))).trans h634
  have h636 : M544[q489]? = some (.inl (0, 14, .inl (fun _ => 0))) := by rw [← h546]; exact ga_old h577
  have h637 : M580[q489]? = some (.inl (0, 14, .inl (fun _ => 0))) := by rw [← h581]; exact (gs_ne (Ne.symm (ne_ao h636 h578))).trans h636
  have h638 : M580[q545]? = some (.inl (3, 14, .inl (fun _ => 0))) := by rw [← h581]; exact (gs_ne (Ne.symm (ne_ao h548 h578))).trans h548
  have h639 : M603[x0]? = some (.inr (10, (((((((((((((((((fs10.set 0 (.ref q5)).set 2 (.ref q22)).set 4 (.ref q38)).set 5 (.ref q57)).set 6 (.ref q79)).set 12 (.ref q104)).set 14 (.int (-1))).set 23 (.ref q143)).set 28 (.ref q181)).set 29 (.ref q216)).set 30 (.ref q254)).set 31 (.ref q295)).set 33 (.ref q339)).set 34 (.ref q386)).set 36 (.ref q436)).set 37 (.ref q489)).set 38 (.ref q545)))) := by rw [← h605]; exact ga_old h582
  have h640 : 40 < ((((((((((((((((((fs10.set 0 (.ref q5)).set 2 (.ref q22)).set 4 (.ref q38)).set 5 (.ref q57)).set 6 (.ref q79)).set 12 (.ref q104)).set 14 (.int (-1))).set 23 (.ref q143)).set 28 (.ref q181)).set 29 (.ref q216)).set 30 (.ref q254)).set 31 (.ref q295)).set 33 (.ref q339)).set 34 (.ref q386)).set 36 (.ref q436)).set 37 (.ref q489)).set 38 (.ref q545))).length := by first | omega | (simp only [List.length_set]; omega)
  refine pf_Mo_64 ok hin d_Mo_init_148 h639 h640 (fun _ => ⟨rfl, rfl⟩) ?_
  rw [h642]
  have h643 : M641[x0]? = some (.inr (10, ((((((((((((((((((fs10.set 0 (.ref q5)).set 2 (.ref q22)).set 4 (.ref q38)).set 5 (.ref q57)).set 6 (.ref q79)).set 12 (.ref q104)).set 14 (.int (-1))).set 23 (.ref q143)).set 28 (.ref q181)).set 29 (.ref q216)).set 30 (.ref q254)).set 31 (.ref q295)).set 33 (.ref q339)).set 34 (.ref q386)).set 36 (.ref q436)).set 37 (.ref q489)).set 38 (.ref q545)).set 40 (.ref q604)))) := by rw [← h642]; exact gs_eq h639
  have h644 := (List.getElem?_set_ne (a := .ref q604) (by decide : 40 ≠ 0)).trans h583
  have h645 := (List.getElem?_set_ne (a := .ref q604) (by decide : 40 ≠ 2)).trans h584
  have h646 := (List.getElem?_set_ne (a := .ref q604) (by decide : 40 ≠ 4)).trans h585
  have h647 := (List.getElem?_set_ne (a := .ref q604) (by decide : 40 ≠ 5)).trans h586
  have h648 := (List.getElem?_set_ne (a := .ref q604) (by decide : 40 ≠ 6)).trans h587
  have h649 := (List.getElem?_set_ne (a := .ref q604) (by decide : 40 ≠ 12)).trans h588
  have h650 := (List.getElem?_set_ne (a := .ref q604) (by decide : 40 ≠ 14)).trans h589
  have h651 := (List.getElem?_set_ne (a := .ref q604) (by decide : 40 ≠ 23)).trans h590
  have h652 := (List.getElem?_set_ne (a := .ref q604) (by decide : 40 ≠ 28)).trans h591
  have h653 := (List.getElem?_set_ne (a := .ref q604) (by decide : 40 ≠ 29)).trans h592
  have h654 := (List.getElem?_set_ne (a := .ref q604) (by decide : 40 ≠ 30)).trans h593
  have h655 := (List.getElem?_set_ne (a := .ref q604) (by decide : 40 ≠ 31)).trans h594
  have h656 := (List.getElem?_set_ne (a := .ref q604) (by decide : 40 ≠ 33)).trans h595
  have h657 := (List.getElem?_set_ne (a := .ref q604) (by decide : 40 ≠ 34)).trans h596
  have h658 := (List.getElem?_set_ne (a := .ref q604) (by decide : 40 ≠ 36)).trans h597
  have h659 := (List.getElem?_set_ne (a := .ref q604) (by decide : 40 ≠ 37)).trans h598
  have h660 := (List.getElem?_set_ne (a := .ref q604) (by decide : 40 ≠ 38)).trans h599
  have h661 : ((((((((((((((((((fs10.set 0 (.ref q5)).set 2 (.ref q22)).set 4 (.ref q38)).set 5 (.ref q57)).set 6 (.ref q79)).set 12 (.ref q104)).set 14 (.int (-1))).set 23 (.ref q143)).set 28 (.ref q181)).set 29 (.ref q216)).set 30 (.ref q254)).set 31 (.ref q295)).set 33 (.ref q339)).set 34 (.ref q386)).set 36 (.ref q436)).set 37 (.ref q489)).set 38 (.ref q545)).set 40 (.ref q604))[40]? = some (.ref q604) := List.getElem?_set_self h640
  refine g_aload_n ok d_Mo_init_151 rfl (j := 0) rfl ?_
  refine g_iconst (v := 5) ok d_Mo_init_152 (by decide) ?_
  refine g_newa (atype := .int) (ty := .int) (t := 0) (N := 5) (a0 := (5, .inl (fun _ => 0))) ok (List.mem_cons_of_mem _ (gT_at 83 (by decide +kernel) (by decide +kernel))) rfl rfl (fun _ => rfl) (fun _ => rfl) (by decide) (by decide) (by decide) d_Mo_init_153 h662 h663 h664 ?_
  rw [h667, h668]
  have h669 : M665[q666]? = some (.inl (0, 5, .inl (fun _ => 0))) := by rw [← h667, ← h668]; exact ga_new _ _
  have h670 : M603[q5]? = some (.inl (1, 144, .inr (.inl (fun _ => 0)))) := by rw [← h605]; exact ga_old h609
  have h671 : M641[q5]? = some (.inl (1, 144, .inr (.inl (fun _ => 0)))) := by rw [← h642]; exact (gs_ne (Ne.symm (ne_ao h670 h639))).trans h670
  have h672 : M603[q22]? = some (.inl (1, 144, .inr (.inl (fun _ => 0)))) := by rw [← h605]; exact ga_old h611
  have h673 : M641[q22]? = some (.inl (1, 144, .inr (.inl (fun _ => 0)))) := by rw [← h642]; exact (gs_ne (Ne.symm (ne_ao h672 h639))).trans h672
  have h674 : M603[q38]? = some (.inl (1, 2400, .inr (.inl (fun _ => 0)))) := by rw [← h605]; exact ga_old h613
  have h675 : M641[q38]? = some (.inl (1, 2400, .inr (.inl (fun _ => 0)))) := by rw [← h642]; exact (gs_ne (Ne.symm (ne_ao h674 h639))).trans h674
  have h676 : M603[q57]? = some (.inl (3, 800, .inl (fun _ => 0))) := by rw [← h605]; exact ga_old h615
  have h677 : M641[q57]? = some (.inl (3, 800, .inl (fun _ => 0))) := by rw [← h642]; exact (gs_ne (Ne.symm (ne_ao h676 h639))).trans h676
  have h678 : M603[q79]? = some (.inl (0, 800, .inl (fun _ => 0))) := by rw [← h605]; exact ga_old h617
  have h679 : M641[q79]? = some (.inl (0, 800, .inl (fun _ => 0))) := by rw [← h642]; exact (gs_ne (Ne.symm (ne_ao h678 h639))).trans h678
  have h680 : M603[q104]? = some (.inl (0, 160, .inl (fun _ => 0))) := by rw [← h605]; exact ga_old h619
  have h681 : M641[q104]? = some (.inl (0, 160, .inl (fun _ => 0))) := by rw [← h642]; exact (gs_ne (Ne.symm (ne_ao h680 h639))).trans h680
  have h682 : M603[q143]? = some (.inl (1, 6, .inr (.inl (fun _ => 0)))) := by rw [← h605]; exact ga_old h621
  have h683 : M641[q143]? = some (.inl (1, 6, .inr (.inl (fun _ => 0)))) := by rw [← h642]; exact (gs_ne (Ne.symm (ne_ao h682 h639))).trans h682
  have h684 : M603[q181]? = some (.inl (0, 5, .inl (fun _ => 0))) := by rw [← h605]; exact ga_old h623
  have h685 : M641[q181]? = some (.inl (0, 5, .inl (fun _ => 0))) := by rw [← h642]; exact (gs_ne (Ne.symm (ne_ao h684 h639))).trans h684
  have h686 : M603[q216]? = some (.inl (0, 5, .inl (fun _ => 0))) := by rw [← h605]; exact ga_old h625
  have h687 : M641[q216]? = some (.inl (0, 5, .inl (fun _ => 0))) := by rw [← h642]; exact (gs_ne (Ne.symm (ne_ao h686 h639))).trans h686
  have h688 : M603[q254]? = some (.inl (0, 400, .inl (fun _ => 0))) := by rw [← h605]; exact ga_old h627
  have h689 : M641[q254]? = some (.inl (0, 400, .inl (fun _ => 0))) := by rw [← h642]; exact (gs_ne (Ne.symm (ne_ao h688 h639))).trans h688
  have h690 : M603[q295]? = some (.inl (0, 400, .inl (fun _ => 0))) := by rw [← h605]; exact ga_old h629
  have h691 : M641[q295]? = some (.inl (0, 400, .inl (fun _ => 0))) := by rw [← h642]; exact (gs_ne (Ne.symm (ne_ao h690 h639))).trans h690
  have h692 : M603[q339]? = some (.inl (0, 120, .inl (fun _ => 0))) := by rw [← h605]; exact ga_old h631
  have h693 : M641[q339]? = some (.inl (0, 120, .inl (fun _ => 0))) := by rw [← h642]; exact (gs_ne (Ne.symm (ne_ao h692 h639))).trans h692
  have h694 : M603[q386]? = some (.inl (1, 120, .inr (.inl (fun _ => 0)))) := by rw [← h605]; exact ga_old h633
  have h695 : M641[q386]? = some (.inl (1, 120, .inr (.inl (fun _ => 0)))) := by rw [← h642]; exact (gs_ne (Ne.symm (ne_ao h694 h639))).trans h694
  have h696 : M603[q436]? = some (.inl (0, 14, .inl (fun _ => 0))) := by rw [← h605]; exact ga_old h635
  have h697 : M641[q436]? = some (.inl (0, 14, .inl (fun _ => 0))) := by rw [← h642]; exact (gs_ne (Ne.symm (ne_ao h696 h639))).trans h696
  have h698 : M603[q489]? = some (.inl (0, 14, .inl (fun _ => 0))) := by rw [← h605]; exact ga_old h637
  have h699 : M641[q489]? = some (.inl (0, 14, .inl (fun _ => 0))) := by rw [← h642]; exact (gs_ne (Ne.symm (ne_ao h698 h639))).trans h698
  have h700 : M603[q545]? = some (.inl (3, 14, .inl (fun _ => 0))) := by rw [← h605]; exact ga_old h638
  have h701 : M641[q545]? = some (.inl (3, 14, .inl (fun _ => 0))) := by rw [← h642]; exact (gs_ne (Ne.symm (ne_ao h700 h639))).trans h700
  have h702 : M641[q604]? = some (.inl (0, 80, .inl (fun _ => 0))) := by rw [← h642]; exact (gs_ne (Ne.symm (ne_ao h607 h639))).trans h607
  have h703 : M665[x0]? = some (.inr (10, ((((((((((((((((((fs10.set 0 (.ref q5)).set 2 (.ref q22)).set 4 (.ref q38)).set 5 (.ref q57)).set 6 (.ref q79)).set 12 (.ref q104)).set 14 (.int (-1))).set 23 (.ref q143)).set 28 (.ref q181)).set 29 (.ref q216)).set 30 (.ref q254)).set 31 (.ref q295)).set 33 (.ref q339)).set 34 (.ref q386)).set 36 (.ref q436)).set 37 (.ref q489)).set 38 (.ref q545)).set 40 (.ref q604)))) := by rw [← h667]; exact ga_old h643
  have h704 : 42 < (((((((((((((((((((fs10.set 0 (.ref q5)).set 2 (.ref q22)).set 4 (.ref q38)).set 5 (.ref q57)).set 6 (.ref q79)).set 12 (.ref q104)).set 14 (.int (-1))).set 23 (.ref q143)).set 28 (.ref q181)).set 29 (.ref q216)).set 30 (.ref q254)).set 31 (.ref q295)).set 33 (.ref q339)).set 34 (.ref q386)).set 36 (.ref q436)).set 37 (.ref q489)).set 38 (.ref q545)).set 40 (.ref q604))).length := by first | omega | (simp only [List.length_set]; omega)
  refine pf_Mo_67 ok hin d_Mo_init_155 h703 h704 (fun _ => ⟨rfl, rfl⟩) ?_
  rw [h706]
  have h707 : M705[x0]? = some (.inr (10, (((((((((((((((((((fs10.set 0 (.ref q5)).set 2 (.ref q22)).set 4 (.ref q38)).set 5 (.ref q57)).set 6 (.ref q79)).set 12 (.ref q104)).set 14 (.int (-1))).set 23 (.ref q143)).set 28 (.ref q181)).set 29 (.ref q216)).set 30 (.ref q254)).set 31 (.ref q295)).set 33 (.ref q339)).set 34 (.ref q386)).set 36 (.ref q436)).set 37 (.ref q489)).set 38 (.ref q545)).set 40 (.ref q604)).set 42 (.ref q666)))) := by rw [← h706]; exact gs_eq h703
  have h708 := (List.getElem?_set_ne (a := .ref q666) (by decide : 42 ≠ 0)).trans h644
  have h709 := (List.getElem?_set_ne (a := .ref q666) (by decide : 42 ≠ 2)).trans h645
  have h710 := (List.getElem?_set_ne (a := .ref q666) (by decide : 42 ≠ 4)).trans h646
  have h711 := (List.getElem?_set_ne (a := .ref q666) (by decide : 42 ≠ 5)).trans h647
  have h712 := (List.getElem?_set_ne (a := .ref q666) (by decide : 42 ≠ 6)).trans h648
  have h713 := (List.getElem?_set_ne (a := .ref q666) (by decide : 42 ≠ 12)).trans h649
  have h714 := (List.getElem?_set_ne (a := .ref q666) (by decide : 42 ≠ 14)).trans h650
  have h715 := (List.getElem?_set_ne (a := .ref q666) (by decide : 42 ≠ 23)).trans h651
  have h716 := (List.getElem?_set_ne (a := .ref q666) (by decide : 42 ≠ 28)).trans h652
  have h717 := (List.getElem?_set_ne (a := .ref q666) (by decide : 42 ≠ 29)).trans h653
  have h718 := (List.getElem?_set_ne (a := .ref q666) (by decide : 42 ≠ 30)).trans h654
  have h719 := (List.getElem?_set_ne (a := .ref q666) (by decide : 42 ≠ 31)).trans h655
  have h720 := (List.getElem?_set_ne (a := .ref q666) (by decide : 42 ≠ 33)).trans h656
  have h721 := (List.getElem?_set_ne (a := .ref q666) (by decide : 42 ≠ 34)).trans h657
  have h722 := (List.getElem?_set_ne (a := .ref q666) (by decide : 42 ≠ 36)).trans h658
  have h723 := (List.getElem?_set_ne (a := .ref q666) (by decide : 42 ≠ 37)).trans h659
  have h724 := (List.getElem?_set_ne (a := .ref q666) (by decide : 42 ≠ 38)).trans h660
  have h725 := (List.getElem?_set_ne (a := .ref q666) (by decide : 42 ≠ 40)).trans h661
  have h726 : (((((((((((((((((((fs10.set 0 (.ref q5)).set 2 (.ref q22)).set 4 (.ref q38)).set 5 (.ref q57)).set 6 (.ref q79)).set 12 (.ref q104)).set 14 (.int (-1))).set 23 (.ref q143)).set 28 (.ref q181)).set 29 (.ref q216)).set 30 (.ref q254)).set 31 (.ref q295)).set 33 (.ref q339)).set 34 (.ref q386)).set 36 (.ref q436)).set 37 (.ref q489)).set 38 (.ref q545)).set 40 (.ref q604)).set 42 (.ref q666))[42]? = some (.ref q666) := List.getElem?_set_self h704
  refine g_aload_n ok d_Mo_init_158 rfl (j := 0) rfl ?_
  refine g_sipush (v := 9900) ok d_Mo_init_159 (by decide) ?_
  refine g_newa (atype := .long) (ty := .long) (t := 1) (N := 9900) (a0 := (9900, .inr (.inl (fun _ => 0)))) ok (List.mem_cons_of_mem _ (gT_at 56 (by decide +kernel) (by decide +kernel))) rfl rfl (fun _ => rfl) (fun _ => rfl) (by decide) (by decide) (by decide) d_Mo_init_162 h727 h728 h729 ?_
  rw [h732, h733]
  have h734 : M730[q731]? = some (.inl (1, 9900, .inr (.inl (fun _ => 0)))) := by rw [← h732, ← h733]; exact ga_new _ _
  have h735 : M665[q5]? = some (.inl (1, 144, .inr (.inl (fun _ => 0)))) := by rw [← h667]; exact ga_old h671
  have h736 : M705[q5]? = some (.inl (1, 144, .inr (.inl (fun _ => 0)))) := by rw [← h706]; exact (gs_ne (Ne.symm (ne_ao h735 h703))).trans h735
  have h737 : M665[q22]? = some (.inl (1, 144, .inr (.inl (fun _ => 0)))) := by rw [← h667]; exact ga_old h673
  have h738 : M705[q22]? = some (.inl (1, 144, .inr (.inl (fun _ => 0)))) := by rw [← h706]; exact (gs_ne (Ne.symm (ne_ao h737 h703))).trans h737
  have h739 : M665[q38]? = some (.inl (1, 2400, .inr (.inl (fun _ => 0)))) := by rw [← h667]; exact ga_old h675
  have h740 : M705[q38]? = some (.inl (1, 2400, .inr (.inl (fun _ => 0)))) := by rw [← h706]; exact (gs_ne (Ne.symm (ne_ao h739 h703))).trans h739
  have h741 : M665[q57]? = some (.inl (3, 800, .inl (fun _ => 0))) := by rw [← h667]; exact ga_old h677
  have h742 : M705[q57]? = some (.inl (3, 800, .inl (fun _ => 0))) := by rw [← h706]; exact (gs_ne (Ne.symm (ne_ao h741 h703))).trans h741
  have h743 : M665[q79]? = some (.inl (0, 800, .inl (fun _ => 0))) := by rw [← h667]; exact ga_old h679
  have h744 : M705[q79]? = some (.inl (0, 800, .inl (fun _ => 0))) := by rw [← h706]; exact (gs_ne (Ne.symm (ne_ao h743 h703))).trans h743
  have h745 : M665[q104]? = some (.inl (0, 160, .inl (fun _ => 0))) := by rw [← h667]; exact ga_old h681
  have h746 : M705[q104]? = some (.inl (0, 160, .inl (fun _ => 0))) := by rw [← h706]; exact (gs_ne (Ne.symm (ne_ao h745 h703))).trans h745
  have h747 : M665[q143]? = some (.inl (1, 6, .inr (.inl (fun _ => 0)))) := by rw [← h667]; exact ga_old h683
  have h748 : M705[q143]? = some (.inl (1, 6, .inr (.inl (fun _ => 0)))) := by rw [← h706]; exact (gs_ne (Ne.symm (ne_ao h747 h703))).trans h747
  have h749 : M665[q181]? = some (.inl (0, 5, .inl (fun _ => 0))) := by rw [← h667]; exact ga_old h685
  have h750 : M705[q181]? = some (.inl (0, 5, .inl (fun _ => 0))) := by rw [← h706]; exact (gs_ne (Ne.symm (ne_ao h749 h703))).trans h749
  have h751 : M665[q216]? = some (.inl (0, 5, .inl (fun _ => 0))) := by rw [← h667]; exact ga_old h687
  have h752 : M705[q216]? = some (.inl (0, 5, .inl (fun _ => 0))) := by rw [← h706]; exact (gs_ne (Ne.symm (ne_ao h751 h703))).trans h751
  have h753 : M665[q254]? = some (.inl (0, 400, .inl (fun _ => 0))) := by rw [← h667]; exact ga_old h689
  have h754 : M705[q254]? = some (.inl (0, 400, .inl (fun _ => 0))) := by rw [← h706]; exact (gs_ne (Ne.symm (ne_ao h753 h703))).trans h753
  have h755 : M665[q295]? = some (.inl (0, 400, .inl (fun _ => 0))) := by rw [← h667]; exact ga_old h691
  have h756 : M705[q295]? = some (.inl (0, 400, .inl (fun _ => 0))) := by rw [← h706]; exact (gs_ne (Ne.symm (ne_ao h755 h703))).trans h755
  have h757 : M665[q339]? = some (.inl (0, 120, .inl (fun _ => 0))) := by rw [← h667]; exact ga_old h693
  have h758 : M705[q339]? = some (.inl (0, 120, .inl (fun _ => 0))) := by rw [← h706]; exact (gs_ne (Ne.symm (ne_ao h757 h703))).trans h757
  have h759 : M665[q386]? = some (.inl (1, 120, .inr (.inl (fun _ => 0)))) := by rw [← h667]; exact ga_old h695
  have h760 : M705[q386]? = some (.inl (1, 120, .inr (.inl (fun _ => 0)))) := by rw [← h706]; exact (gs_ne (Ne.symm (ne_ao h759 h703))).trans h759
  have h761 : M665[q436]? = some (.inl (0, 14, .inl (fun _ => 0))) := by rw [← h667]; exact ga_old h697
  have h762 : M705[q436]? = some (.inl (0, 14, .inl (fun _ => 0))) := by rw [← h706]; exact (gs_ne (Ne.symm (ne_ao h761 h703))).trans h761
  have h763 : M665[q489]? = some (.inl (0, 14, .inl (fun _ => 0))) := by rw [← h667]; exact ga_old h699
  have h764 : M705[q489]? = some (.inl (0, 14, .inl (fun _ => 0))) := by rw [← h706]; exact (gs_ne (Ne.symm (ne_ao h763 h703))).trans h763
  have h765 : M665[q545]? = some (.inl (3, 14, .inl (fun _ => 0))) := by rw [← h667]; exact ga_old h701
  have h766 : M705[q545]? = some (.inl (3, 14, .inl (fun _ => 0))) := by rw [← h706]; exact (gs_ne (Ne.symm (ne_ao h765 h703))).trans h765
  have h767 : M665[q604]? = some (.inl (0, 80, .inl (fun _ => 0))) := by rw [← h667]; exact ga_old h702
  have h768 : M705[q604]? = some (.inl (0, 80, .inl (fun _ => 0))) := by rw [← h706]; exact (gs_ne (Ne.symm (ne_ao h767 h703))).trans h767
  have h769 : M705[q666]? = some (.inl (0, 5, .inl (fun _ => 0))) := by rw [← h706]; exact (gs_ne (Ne.symm (ne_ao h669 h703))).trans h669
  have h770 : M730[x0]? = some (.inr (10, (((((((((((((((((((fs10.set 0 (.ref q5)).set 2 (.ref q22)).set 4 (.ref q38)).set 5 (.ref q57)).set 6 (.ref q79)).set 12 (.ref q104)).set 14 (.int (-1))).set 23 (.ref q143)).set 28 (.ref q181)).set 29 (.ref q216)).set 30 (.ref q254)).set 31 (.ref q295)).set 33 (.ref q339)).set 34 (.ref q386)).set 36 (.ref q436)).set 37 (.ref q489)).set 38 (.ref q545)).set 40 (.ref q604)).set 42 (.ref q666)))) := by rw [← h732]; exact ga_old h707
  have h771 : 47 < ((((((((((((((((((((fs10.set 0 (.ref q5)).set 2 (.ref q22)).set 4 (.ref q38)).set 5 (.ref q57)).set 6 (.ref q79)).set 12 (.ref q104)).set 14 (.int (-1))).set 23 (.ref q143)).set 28 (.ref q181)).set 29 (.ref q216)).set 30 (.ref q254)).set 31 (.ref q295)).set 33 (.ref q339)).set 34 (.ref q386)).set 36 (.ref q436)).set 37 (.ref q489)).set 38 (.ref q545)).set 40 (.ref q604)).set 42 (.ref q666))).length := by first | omega | (simp only [List.length_set]; omega)
  refine pf_Mo_70 ok hin d_Mo_init_164 h770 h771 (fun _ => ⟨rfl, rfl⟩) ?_
  rw [h773]
  have h774 : M772[x0]? = some (.inr (10, ((((((((((((((((((((fs10.set 0 (.ref q5)).set 2 (.ref q22)).set 4 (.ref q38)).set 5 (.ref q57)).set 6 (.ref q79)).set 12 (.ref q104)).set 14 (.int (-1))).set 23 (.ref q143)).set 28 (.ref q181)).set 29 (.ref q216)).set 30 (.ref q254)).set 31 (.ref q295)).set 33 (.ref q339)).set 34 (.ref q386)).set 36 (.ref q436)).set 37 (.ref q489)).set 38 (.ref q545)).set 40 (.ref q604)).set 42 (.ref q666)).set 47 (.ref q731)))) := by rw [← h773]; exact gs_eq h770
  have h775 := (List.getElem?_set_ne (a := .ref q731) (by decide : 47 ≠ 0)).trans h708
  have h776 := (List.getElem?_set_ne (a := .ref q731) (by decide : 47 ≠ 2)).trans h709
  have h777 := (List.getElem?_set_ne (a := .ref q731) (by decide : 47 ≠ 4)).trans h710
  have h778 := (List.getElem?_set_ne (a := .ref q731) (by decide : 47 ≠ 5)).trans h711
  have h779 := (List.getElem?_set_ne (a := .ref q731) (by decide : 47 ≠ 6)).trans h712
  have h780 := (List.getElem?_set_ne (a := .ref q731) (by decide : 47 ≠ 12)).trans h713
  have h781 := (List.getElem?_set_ne (a := .ref q731) (by decide : 47 ≠ 14)).trans h714
  have h782 := (List.getElem?_set_ne (a := .ref q731) (by decide : 47 ≠ 23)).trans h715
  have h783 := (List.getElem?_set_ne (a := .ref q731) (by decide : 47 ≠ 28)).trans h716
  have h784 := (List.getElem?_set_ne (a := .ref q731) (by decide : 47 ≠ 29)).trans h717
  have h785 := (List.getElem?_set_ne (a := .ref q731) (by decide : 47 ≠ 30)).trans h718
  have h786 := (List.getElem?_set_ne (a := .ref q731) (by decide : 47 ≠ 31)).trans h719
  have h787 := (List.getElem?_set_ne (a := .ref q731) (by decide : 47 ≠ 33)).trans h720
  have h788 := (List.getElem?_set_ne (a := .ref q731) (by decide : 47 ≠ 34)).trans h721
  have h789 := (List.getElem?_set_ne (a := .ref q731) (by decide : 47 ≠ 36)).trans h722
  have h790 := (List.getElem?_set_ne (a := .ref q731) (by decide : 47 ≠ 37)).trans h723
  have h791 := (List.getElem?_set_ne (a := .ref q731) (by decide : 47 ≠ 38)).trans h724
  have h792 := (List.getElem?_set_ne (a := .ref q731) (by decide : 47 ≠ 40)).trans h725
  have h793 := (List.getElem?_set_ne (a := .ref q731) (by decide : 47 ≠ 42)).trans h726
  have h794 : ((((((((((((((((((((fs10.set 0 (.ref q5)).set 2 (.ref q22)).set 4 (.ref q38)).set 5 (.ref q57)).set 6 (.ref q79)).set 12 (.ref q104)).set 14 (.int (-1))).set 23 (.ref q143)).set 28 (.ref q181)).set 29 (.ref q216)).set 30 (.ref q254)).set 31 (.ref q295)).set 33 (.ref q339)).set 34 (.ref q386)).set 36 (.ref q436)).set 37 (.ref q489)).set 38 (.ref q545)).set 40 (.ref q604)).set 42 (.ref q666)).set 47 (.ref q731))[47]? = some (.ref q731) := List.getElem?_set_self h771
  refine g_aload_n ok d_Mo_init_167 rfl (j := 0) rfl ?_
  refine g_sipush (v := 1650) ok d_Mo_init_168 (by decide) ?_
  refine g_newa (atype := .int) (ty := .int) (t := 0) (N := 1650) (a0 := (1650, .inl (fun _ => 0))) ok (List.mem_cons_of_mem _ (gT_at 83 (by decide +kernel) (by decide +kernel))) rfl rfl (fun _ => rfl) (fun _ => rfl) (by decide) (by decide) (by decide) d_Mo_init_171 h795 h796 h797 ?_
  rw [h800, h801]
  have h802 : M798[q799]? = some (.inl (0, 1650, .inl (fun _ => 0))) := by rw [← h800, ← h801]; exact ga_new _ _
  have h803 : M730[q5]? = some (.inl (1, 144, .inr (.inl (fun _ => 0)))) := by rw [← h732]; exact ga_old h736
  have h804 : M772[q5]? = some (.inl (1, 144, .inr (.inl (fun _ => 0)))) := by rw [← h773]; exact (gs_ne (Ne.symm (ne_ao h803 h770))).trans h803
  have h805 : M730[q22]? = some (.inl (1, 144, .inr (.inl (fun _ => 0)))) := by rw [← h732]; exact ga_old h738
  have h806 : M772[q22]? = some (.inl (1, 144, .inr (.inl (fun _ => 0)))) := by rw [← h773]; exact (gs_ne (Ne.symm (ne_ao h805 h770))).trans h805
  have h807 : M730[q38]? = some (.inl (1, 2400, .inr (.inl (fun _ => 0)))) := by rw [← h732]; exact ga_old h740
  have h808 : M772[q38]? = some (.inl (1, 2400, .inr (.inl (fun _ => 0)))) := by rw [← h773]; exact (gs_ne (Ne.symm (ne_ao h807 h770))).trans h807
  have h809 : M730[q57]? = some (.inl (3, 800, .inl (fun _ => 0))) := by rw [← h732]; exact ga_old h742
  have h810 : M772[q57]? = some (.inl (3, 800, .inl (fun _ => 0))) := by rw [← h773]; exact (gs_ne (Ne.symm (ne_ao h809 h770))).trans h809
  have h811 : M730[q79]? = some (.inl (0, 800, .inl (fun _ => 0))) := by rw [← h732]; exact ga_old h744
  have h812 : M772[q79]? = some (.inl (0, 800, .inl (fun _ => 0))) := by rw [← h773]; exact (gs_ne (Ne.symm (ne_ao h811 h770))).trans h811
  have h813 : M730[q104]? = some (.inl (0, 160, .inl (fun _ => 0))) := by rw [← h732]; exact ga_old h746
  have h814 : M772[q104]? = some (.inl (0, 160, .inl (fun _ => 0))) := by rw [← h773]; exact (gs_ne (Ne.symm (ne_ao h813 h770))).trans h813
  have h815 : M730[q143]? = some (.inl (1, 6, .inr (.inl (fun _ => 0)))) := by rw [← h732]; exact ga_old h748
  have h816 : M772[q143]? = some (.inl (1, 6, .inr (.inl (fun _ => 0)))) := by rw [← h773]; exact (gs_ne (Ne.symm (ne_ao h815 h770))).trans h815
  have h817 : M730[q181]? = some (.inl (0, 5, .inl (fun _ => 0))) := by rw [← h732]; exact ga_old h750
  have h818 : M772[q181]? = some (.inl (0, 5, .inl (fun _ => 0))) := by rw [← h773]; exact (gs_ne (Ne.symm (ne_ao h817 h770))).trans h817
  have h819 : M730[q216]? = some (.inl (0, 5, .inl (fun _ => 0))) := by rw [← h732]; exact ga_old h752
  have h820 : M772[q216]? = some (.inl (0, 5, .inl (fun _ => 0))) := by rw [← h773]; exact (gs_ne (Ne.symm (ne_ao h819 h770))).trans h819
  have h821 : M730[q254]? = some (.inl (0, 400, .inl (fun _ => 0))) := by rw [← h732]; exact ga_old h754
  have h822 : M772[q254]? = some (.inl (0, 400, .inl (fun _ => 0))) := by rw [← h773]; exact (gs_ne (Ne.symm (ne_ao h821 h770))).trans h821
  have h823 : M730[q295]? = some (.inl (0, 400, .inl (fun _ => 0))) := by rw [← h732]; exact ga_old h756
  have h824 : M772[q295]? = some (.inl (0, 400, .inl (fun _ => 0))) := by rw [← h773]; exact (gs_ne (Ne.symm (ne_ao h823 h770))).trans h823
  have h825 : M730[q339]? = some (.inl (0, 120, .inl (fun _ => 0))) := by rw [← h732]; exact ga_old h758
  have h826 : M772[q339]? = some (.inl (0, 120, .inl (fun _ => 0))) := by rw [← h773]; exact (gs_ne (Ne.symm (ne_ao h825 h770))).trans h825
  have h827 : M730[q386]? = some (.inl (1, 120, .inr (.inl (fun _ => 0)))) := by rw [← h732]; exact ga_old h760
  have h828 : M772[q386]? = some (.inl (1, 120, .inr (.inl (fun _ => 0)))) := by rw [← h773]; exact (gs_ne (Ne.symm (ne_ao h827 h770))).trans h827
  have h829 : M730[q436]? = some (.inl (0, 14, .inl (fun _ => 0))) := by rw [← h732]; exact ga_old h762
  have h830 : M772[q436]? = some (.inl (0, 14, .inl (fun _ => 0))) := by rw [← h773]; exact (gs_ne (Ne.symm (ne_ao h829 h770))).trans h829
  have h831 : M730[q489]? = some (.inl (0, 14, .inl (fun _ => 0))) := by rw [← h732]; exact ga_old h764
  have h832 : M772[q489]? = some (.inl (0, 14, .inl (fun _ => 0))) := by rw [← h773]; exact (gs_ne (Ne.symm (ne_ao h831 h770))).trans h831
  have h833 : M730[q545]? = some (.inl (3, 14, .inl (fun _ => 0))) := by rw [← h732]; exact ga_old h766
  have h834 : M772[q545]? = some (.inl (3, 14, .inl (fun _ => 0))) := by rw [← h773]; exact (gs_ne (Ne.symm (ne_ao h833 h770))).trans h833
  have h835 : M730[q604]? = some (.inl (0, 80, .inl (fun _ => 0))) := by rw [← h732]; exact ga_old h768
  have h836 : M772[q604]? = some (.inl (0, 80, .inl (fun _ => 0))) := by rw [← h773]; exact (gs_ne (Ne.symm (ne_ao h835 h770))).trans h835
  have h837 : M730[q666]? = some (.inl (0, 5, .inl (fun _ => 0))) := by rw [← h732]; exact ga_old h769
  have h838 : M772[q666]? = some (.inl (0, 5, .inl (fun _ => 0))) := by rw [← h773]; exact (gs_ne (Ne.symm (ne_ao h837 h770))).trans h837
  have h839 : M772[q731]? = some (.inl (1, 9900, .inr (.inl (fun _ => 0)))) := by rw [← h773]; exact (gs_ne (Ne.symm (ne_ao h734 h770))).trans h734
  have h840 : M798[x0]? = some (.inr (10, ((((((((((((((((((((fs10.set 0 (.ref q5)).set 2 (.ref q22)).set 4 (.ref q38)).set 5 (.ref q57)).set 6 (.ref q79)).set 12 (.ref q104)).set 14 (.int (-1))).set 23 (.ref q143)).set 28 (.ref q181)).set 29 (.ref q216)).set 30 (.ref q254)).set 31 (.ref q295)).set 33 (.ref q339)).set 34 (.ref q386)).set 36 (.ref q436)).set 37 (.ref q489)).set 38 (.ref q545)).set 40 (.ref q604)).set 42 (.ref q666)).set 47 (.ref q731)))) := by rw [← h800]; exact ga_old h774
  have h841 : 48 < (((((((((((((((((((((fs10.set 0 (.ref q5)).set 2 (.ref q22)).set 4 (.ref q38)).set 5 (.ref q57)).set 6 (.ref q79)).set 12 (.ref q104)).set 14 (.int (-1))).set 23 (.ref q143)).set 28 (.ref q181)).set 29 (.ref q216)).set 30 (.ref q254)).set 31 (.ref q295)).set 33 (.ref q339)).set 34 (.ref q386)).set 36 (.ref q436)).set 37 (.ref q489)).set 38 (.ref q545)).set 40 (.ref q604)).set 42 (.ref q666)).set 47 (.ref q731))).length := by first | omega | (simp only [List.length_set]; omega)
  refine pf_Mo_73 ok hin d_Mo_init_173 h840 h841 (fun _ => ⟨rfl, rfl⟩) ?_
  rw [h843]
  have h844 : M842[x0]? = some (.inr (10, (((((((((((((((((((((fs10.set 0 (.ref q5)).set 2 (.ref q22)).set 4 (.ref q38)).set 5 (.ref q57)).set 6 (.ref q79)).set 12 (.ref q104)).set 14 (.int (-1))).set 23 (.ref q143)).set 28 (.ref q181)).set 29 (.ref q216)).set 30 (.ref q254)).set 31 (.ref q295)).set 33 (.ref q339)).set 34 (.ref q386)).set 36 (.ref q436)).set 37 (.ref q489)).set 38 (.ref q545)).set 40 (.ref q604)).set 42 (.ref q666)).set 47 (.ref q731)).set 48 (.ref q799)))) := by rw [← h843]; exact gs_eq h840
  have h845 := (List.getElem?_set_ne (a := .ref q799) (by decide : 48 ≠ 0)).trans h775
  have h846 := (List.getElem?_set_ne (a := .ref q799) (by decide : 48 ≠ 2)).trans h776
  have h847 := (List.getElem?_set_ne (a := .ref q799) (by decide : 48 ≠ 4)).trans h777
  have h848 := (List.getElem?_set_ne (a := .ref q799) (by decide : 48 ≠ 5)).trans h778
  have h849 := (List.getElem?_set_ne (a := .ref q799) (by decide : 48 ≠ 6)).trans h779
  have h850 := (List.getElem?_set_ne (a := .ref q799) (by decide : 48 ≠ 12)).trans h780
  have h851 := (List.getElem?_set_ne (a := .ref q799) (by decide : 48 ≠ 14)).trans h781
  have h852 := (List.getElem?_set_ne (a := .ref q799) (by decide : 48 ≠ 23)).trans h782
  have h853 := (List.getElem?_set_ne (a := .ref q799) (by decide : 48 ≠ 28)).trans h783
  have h854 := (List.getElem?_set_ne (a := .ref q799) (by decide : 48 ≠ 29)).trans h784
  have h855 := (List.getElem?_set_ne (a := .ref q799) (by decide : 48 ≠ 30)).trans h785
  have h856 := (List.getElem?_set_ne (a := .ref q799) (by decide : 48 ≠ 31)).trans h786
  have h857 := (List.getElem?_set_ne (a := .ref q799) (by decide : 48 ≠ 33)).trans h787
  have h858 := (List.getElem?_set_ne (a := .ref q799) (by decide : 48 ≠ 34)).trans h788
  have h859 := (List.getElem?_set_ne (a := .ref q799) (by decide : 48 ≠ 36)).trans h789
  have h860 := (List.getElem?_set_ne (a := .ref q799) (by decide : 48 ≠ 37)).trans h790
  have h861 := (List.getElem?_set_ne (a := .ref q799) (by decide : 48 ≠ 38)).trans h791
  have h862 := (List.getElem?_set_ne (a := .ref q799) (by decide : 48 ≠ 40)).trans h792
  have h863 := (List.getElem?_set_ne (a := .ref q799) (by decide : 48 ≠ 42)).trans h793
  have h864 := (List.getElem?_set_ne (a := .ref q799) (by decide : 48 ≠ 47)).trans h794
  have h865 : (((((((((((((((((((((fs10.set 0 (.ref q5)).set 2 (.ref q22)).set 4 (.ref q38)).set 5 (.ref q57)).set 6 (.ref q79)).set 12 (.ref q104)).set 14 (.int (-1))).set 23 (.ref q143)).set 28 (.ref q181)).set 29 (.ref q216)).set 30 (.ref q254)).set 31 (.ref q295)).set 33 (.ref q339)).set 34 (.ref q386)).set 36 (.ref q436)).set 37 (.ref q489)).set 38 (.ref q545)).set 40 (.ref q604)).set 42 (.ref q666)).set 47 (.ref q731)).set 48 (.ref q799))[48]? = some (.ref q799) := List.getElem?_set_self h841
  refine g_aload_n ok d_Mo_init_176 rfl (j := 0) rfl ?_
  refine g_bipush (v := 11) ok d_Mo_init_177 (by decide) ?_
  refine g_newa (atype := .int) (ty := .int) (t := 0) (N := 11) (a0 := (11, .inl (fun _ => 0))) ok (List.mem_cons_of_mem _ (gT_at 83 (by decide +kernel) (by decide +kernel))) rfl rfl (fun _ => rfl) (fun _ => rfl) (by decide) (by decide) (by decide) d_Mo_init_179 h866 h867 h868 ?_
  rw [h871, h872]
  have h873 : M869[q870]? = some (.inl (0, 11, .inl (fun _ => 0))) := by rw [← h871, ← h872]; exact ga_new _ _
  have h874 : M798[q5]? = some (.inl (1, 144, .inr (.inl (fun _ => 0)))) := by rw [← h800]; exact ga_old h804
  have h875 : M842[q5]? = some (.inl (1, 144, .inr (.inl (fun _ => 0)))) := by rw [← h843]; exact (gs_ne (Ne.symm (ne_ao h874 h840))).trans h874
  have h876 : M798[q22]? = some (.inl (1, 144, .inr (.inl (fun _ => 0)))) := by rw [← h800]; exact ga_old h806
  have h877 : M842[q22]? = some (.inl (1, 144, .inr (.inl (fun _ => 0)))) := by rw [← h843]; exact (gs_ne (Ne.symm (ne_ao h876 h840))).trans h876
  have h878 : M798[q38]? = some (.inl (1, 2400, .inr (.inl (fun _ => 0)))) := by rw [← h800]; exact ga_old h808
  have h879 : M842[q38]? = some (.inl (1, 2400, .inr (.inl (fun _ => 0)))) := by rw [← h843]; exact (gs_ne (Ne.symm (ne_ao h878 h840))).trans h878
  have h880 : M798[q57]? = some (.inl (3, 800, .inl (fun _ => 0))) := by rw [← h800]; exact ga_old h810
  have h881 : M842[q57]? = some (.inl (3, 800, .inl (fun _ => 0))) := by rw [← h843]; exact (gs_ne (Ne.symm (ne_ao h880 h840))).trans h880
  have h882 : M798[q79]? = some (.inl (0, 800, .inl (fun _ => 0))) := by rw [← h800]; exact ga_old h812
  have h883 : M842[q79]? = some (.inl (0, 800, .inl (fun _ => 0))) := by rw [← h843]; exact (gs_ne (Ne.symm (ne_ao h882 h840))).trans h882
  have h884 : M798[q104]? = some (.inl (0, 160, .inl (fun _ => 0))) := by rw [← h800]; exact ga_old h814
  have h885 : M842[q104]? = some (.inl (0, 160, .inl (fun _ => 0))) := by rw [← h843]; exact (gs_ne (Ne.symm (ne_ao h884 h840))).trans h884
  have h886 : M798[q143]? = some (.inl (1, 6, .inr (.inl (fun _ => 0)))) := by rw [← h800]; exact ga_old h816
  have h887 : M842[q143]? = some (.inl (1, 6, .inr (.inl (fun _ => 0)))) := by rw [← h843]; exact (gs_ne (Ne.symm (ne_ao h886 h840))).trans h886
  have h888 : M798[q181]? = some (.inl (0, 5, .inl (fun _ => 0))) := by rw [← h800]; exact ga_old h818
  have h889 : M842[q181]? = some (.inl (0, 5, .inl (fun _ => 0))) := by rw [← h843]; exact (gs_ne (Ne.symm (ne_ao h888 h840))).trans h888
  have h890 : M798[q216]? = some (.inl (0, 5, .inl (fun _ => 0))) := by rw [← h800]; exact ga_old h820
  have h891 : M842[q216]? = some (.inl (0, 5, .inl (fun _ => 0))) := by rw [← h843]; exact (gs_ne (Ne.symm (ne_ao h890 h840))).trans h890
  have h892 : M798[q254]? = some (.inl (0, 400, .inl (fun _ => 0))) := by rw [← h800]; exact ga_old h822
  have h893 : M842[q254]? = some (.inl (0, 400, .inl (fun _ => 0))) := by rw [← h843]; exact (gs_ne (Ne.symm (ne_ao h892 h840))).trans h892
  have h894 : M798[q295]? = some (.inl (0, 400, .inl (fun _ => 0))) := by rw [← h800]; exact ga_old h824
  have h895 : M842[q295]? = some (.inl (0, 400, .inl (fun _ => 0))) := by rw [← h843]; exact (gs_ne (Ne.symm (ne_ao h894 h840))).trans h894
  have h896 : M798[q339]? = some (.inl (0, 120, .inl (fun _ => 0))) := by rw [← h800]; exact ga_old h826
  have h897 : M842[q339]? = some (.inl (0, 120, .inl (fun _ => 0))) := by rw [← h843]; exact (gs_ne (Ne.symm (ne_ao h896 h840))).trans h896
  have h898 : M798[q386]? = some (.inl (1, 120, .inr (.inl (fun _ => 0)))) := by rw [← h800]; exact ga_old h828
  have h899 : M842[q386]? = some (.inl (1, 120, .inr (.inl (fun _ => 0)))) := by rw [← h843]; exact (gs_ne (Ne.symm (ne_ao h898 h840))).trans h898
  have h900 : M798[q436]? = some (.inl (0, 14, .inl (fun _ => 0))) := by rw [← h800]; exact ga_old h830
  have h901 : M842[q436]? = some (.inl (0, 14, .inl (fun _ => 0))) := by rw [← h843]; exact (gs_ne (Ne.symm (ne_ao h900 h840))).trans h900
  have h902 : M798[q489]? = some (.inl (0, 14, .inl (fun _ => 0))) := by rw [← h800]; exact ga_old h832
  have h903 : M842[q489]? = some (.inl (0, 14, .inl (fun _ => 0))) := by rw [← h843]; exact (gs_ne (Ne.symm (ne_ao h902 h840))).trans h902
  have h904 : M798[q545]? = some (.inl (3, 14, .inl (fun _ => 0))) := by rw [← h800]; exact ga_old h834
  have h905 : M842[q545]? = some (.inl (3, 14, .inl (fun _ => 0))) := by rw [← h843]; exact (gs_ne (Ne.symm (ne_ao h904 h840))).trans h904
  have h906 : M798[q604]? = some (.inl (0, 80, .inl (fun _ => 0))) := by rw [← h800]; exact ga_old h836
  have h907 : M842[q604]? = some (.inl (0, 80, .inl (fun _ => 0))) := by rw [← h843]; exact (gs_ne (Ne.symm (ne_ao h906 h840))).trans h906
  have h908 : M798[q666]? = some (.inl (0, 5, .inl (fun _ => 0))) := by rw [← h800]; exact ga_old h838
  have h909 : M842[q666]? = some (.inl (0, 5, .inl (fun _ => 0))) := by rw [← h843]; exact (gs_ne (Ne.symm (ne_ao h908 h840))).trans h908
  have h910 : M798[q731]? = some (.inl (1, 9900, .inr (.inl (fun _ => 0)))) := by rw [← h800]; exact ga_old h839
  have h911 : M842[q731]? = some (.inl (1, 9900, .inr (.inl (fun _ => 0)))) := by rw [← h843]; exact (gs_ne (Ne.symm (ne_ao h910 h840))).trans h910
  have h912 : M842[q799]? = some (.inl (0, 1650, .inl (fun _ => 0))) := by rw [← h843]; exact (gs_ne (Ne.symm (ne_ao h802 h840))).trans h802
  have h913 : M869[x0]? = some (.inr (10, (((((((((((((((((((((fs10.set 0 (.ref q5)).set 2 (.ref q22)).set 4 (.ref q38)).set 5 (.ref q57)).set 6 (.ref q79)).set 12 (.ref q104)).set 14 (.int (-1))).set 23 (.ref q143)).set 28 (.ref q181)).set 29 (.ref q216)).set 30 (.ref q254)).set 31 (.ref q295)).set 33 (.ref q339)).set 34 (.ref q386)).set 36 (.ref q436)).set 37 (.ref q489)).set 38 (.ref q545)).set 40 (.ref q604)).set 42 (.ref q666)).set 47 (.ref q731)).set 48 (.ref q799)))) := by rw [← h871]; exact ga_old h844
  have h914 : 49 < ((((((((((((((((((((((fs10.set 0 (.ref q5)).set 2 (.ref q22)).set 4 (.ref q38)).set 5 (.ref q57)).set 6 (.ref q79)).set 12 (.ref q104)).set 14 (.int (-1))).set 23 (.ref q143)).set 28 (.ref q181)).set 29 (.ref q216)).set 30 (.ref q254)).set 31 (.ref q295)).set 33 (.ref q339)).set 34 (.ref q386)).set 36 (.ref q436)).set 37 (.ref q489)).set 38 (.ref q545)).set 40 (.ref q604)).set 42 (.ref q666)).set 47 (.ref q731)).set 48 (.ref q799))).length := by first | omega | (simp only [List.length_set]; omega)
  refine pf_Mo_76 ok hin d_Mo_init_181 h913 h914 (fun _ => ⟨rfl, rfl⟩) ?_
  rw [h916]
  have h917 : M915[x0]? = some (.inr (10, ((((((((((((((((((((((fs10.set 0 (.ref q5)).set 2 (.ref q22)).set 4 (.ref q38)).set 5 (.ref q57)).set 6 (.ref q79)).set 12 (.ref q104)).set 14 (.int (-1))).set 23 (.ref q143)).set 28 (.ref q181)).set 29 (.ref q216)).set 30 (.ref q254)).set 31 (.ref q295)).set 33 (.ref q339)).set 34 (.ref q386)).set 36 (.ref q436)).set 37 (.ref q489)).set 38 (.ref q545)).set 40 (.ref q604)).set 42 (.ref q666)).set 47 (.ref q731)).set 48 (.ref q799)).set 49 (.ref q870)))) := by rw [← h916]; exact gs_eq h913
  have h918 := (List.getElem?_set_ne (a := .ref q870) (by decide : 49 ≠ 0)).trans h845
  have h919 := (List.getElem?_set_ne (a := .ref q870) (by decide : 49 ≠ 2)).trans h846
  have h920 := (List.getElem?_set_ne (a := .ref q870) (by decide : 49 ≠ 4)).trans h847
  have h921 := (List.getElem?_set_ne (a := .ref q870) (by decide : 49 ≠ 5)).trans h848
  have h922 := (List.getElem?_set_ne (a := .ref q870) (by decide : 49 ≠ 6)).trans h849
  have h923 := (List.getElem?_set_ne (a := .ref q870) (by decide : 49 ≠ 12)).trans h850
  have h924 := (List.getElem?_set_ne (a := .ref q870) (by decide : 49 ≠ 14)).trans h851
  have h925 := (List.getElem?_set_ne (a := .ref q870) (by decide : 49 ≠ 23)).trans h852
  have h926 := (List.getElem?_set_ne (a := .ref q870) (by decide : 49 ≠ 28)).trans h853
  have h927 := (List.getElem?_set_ne (a := .ref q870) (by decide : 49 ≠ 29)).trans h854
  have h928 := (List.getElem?_set_ne (a := .ref q870) (by decide : 49 ≠ 30)).trans h855
  have h929 := (List.getElem?_set_ne (a := .ref q870) (by decide : 49 ≠ 31)).trans h856
  have h930 := (List.getElem?_set_ne (a := .ref q870) (by decide : 49 ≠ 33)).trans h857
  have h931 := (List.getElem?_set_ne (a := .ref q870) (by decide : 49 ≠ 34)).trans h858
  have h932 := (List.getElem?_set_ne (a := .ref q870) (by decide : 49 ≠ 36)).trans h859
  have h933 := (List.getElem?_set_ne (a := .ref q870) (by decide : 49 ≠ 37)).trans h860
  have h934 := (List.getElem?_set_ne (a := .ref q870) (by decide : 49 ≠ 38)).trans h861
  have h935 := (List.getElem?_set_ne (a := .ref q870) (by decide : 49 ≠ 40)).trans h862
  have h936 := (List.getElem?_set_ne (a := .ref q870) (by decide : 49 ≠ 42)).trans h863
  have h937 := (List.getElem?_set_ne (a := .ref q870) (by decide : 49 ≠ 47)).trans h864
  have h938 := (List.getElem?_set_ne (a := .ref q870) (by decide : 49 ≠ 48)).trans h865
  have h939 : ((((((((((((((((((((((fs10.set 0 (.ref q5)).set 2 (.ref q22)).set 4 (.ref q38)).set 5 (.ref q57)).set 6 (.ref q79)).set 12 (.ref q104)).set 14 (.int (-1))).set 23 (.ref q143)).set 28 (.ref q181)).set 29 (.ref q216)).set 30 (.ref q254)).set 31 (.ref q295)).set 33 (.ref q339)).set 34 (.ref q386)).set 36 (.ref q436)).set 37 (.ref q489)).set 38 (.ref q545)).set 40 (.ref q604)).set 42 (.ref q666)).set 47 (.ref q731)).set 48 (.ref q799)).set 49 (.ref q870))[49]? = some (.ref q870) := List.getElem?_set_self h914
  refine g_aload_n ok d_Mo_init_184 rfl (j := 0) rfl ?_
  refine g_sipush (v := 900) ok d_Mo_init_185 (by decide) ?_
  refine g_newa (atype := .long) (ty := .long) (t := 1) (N := 900) (a0 := (900, .inr (.inl (fun _ => 0)))) ok (List.mem_cons_of_mem _ (gT_at 56 (by decide +kernel) (by decide +kernel))) rfl rfl (fun _ => rfl) (fun _ => rfl) (by decide) (by decide) (by decide) d_Mo_init_188 h940 h941 h942 ?_
  rw [h945, h946]
  have h947 : M943[q944]? = some (.inl (1, 900, .inr (.inl (fun _ => 0)))) := by rw [← h945, ← h946]; exact ga_new _ _
  have h948 : M869[q5]? = some (.inl (1, 144, .inr (.inl (fun _ => 0)))) := by rw [← h871]; exact ga_old h875
  have h949 : M915[q5]? = some (.inl (1, 144, .inr (.inl (fun _ => 0)))) := by rw [← h916]; exact (gs_ne (Ne.symm (ne_ao h948 h913))).trans h948
  have h950 : M869[q22]? = some (.inl (1, 144, .inr (.inl (fun _ => 0)))) := by rw [← h871]; exact ga_old h877
  have h951 : M915[q22]? = some (.inl (1, 144, .inr (.inl (fun _ => 0)))) := by rw [← h916]; exact (gs_ne (Ne.symm (ne_ao h950 h913))).trans h950
  have h952 : M869[q38]? = some (.inl (1, 2400, .inr (.inl (fun _ => 0)))) := by rw [← h871]; exact ga_old h879
  have h953 : M915[q38]? = some (.inl (1, 2400, .inr (.inl (fun _ => 0)))) := by rw [← h916]; exact (gs_ne (Ne.symm (ne_ao h952 h913))).trans h952
  have h954 : M869[q57]? = some (.inl (3, 800, .inl (fun _ => 0))) := by rw [← h871]; exact ga_old h881
  have h955 : M915[q57]? = some (.inl (3, 800, .inl (fun _ => 0))) := by rw [← h916]; exact (gs_ne (Ne.symm (ne_ao h954 h913))).trans h954
  have h956 : M869[q79]? = some (.inl (0, 800, .inl (fun _ => 0))) := by rw [← h871]; exact ga_old h883
  have h957 : M915[q79]? = some (.inl (0, 800, .inl (fun _ => 0))) := by rw [← h916]; exact (gs_ne (Ne.symm (ne_ao h956 h913))).trans h956
  have h958 : M869[q104]? = some (.inl (0, 160, .inl (fun _ => 0))) := by rw [← h871]; exact ga_old h885
  have h959 : M915[q104]? = some (.inl (0, 160, .inl (fun _ => 0))) := by rw [← h916]; exact (gs_ne (Ne.symm (ne_ao h958 h913))).trans h958
  have h960 : M869[q143]? = some (.inl (1, 6, .inr (.inl (fun _ => 0)))) := by rw [← h871]; exact ga_old h887
  have h961 : M915[q143]? = some (.inl (1, 6, .inr (.inl (fun _ => 0)))) := by rw [← h916]; exact (gs_ne (Ne.symm (ne_ao h960 h913))).trans h960
  have h962 : M869[q181]? = some (.inl (0, 5, .inl (fun _ => 0))) := by rw [← h871]; exact ga_old h889
  have h963 : M915[q181]? = some (.inl (0, 5, .inl (fun _ => 0))) := by rw [← h916]; exact (gs_ne (Ne.symm (ne_ao h962 h913))).trans h962
  have h964 : M869[q216]? = some (.inl (0, 5, .inl (fun _ => 0))) := by rw [← h871]; exact ga_old h891
  have h965 : M915[q216]? = some (.inl (0, 5, .inl (fun _ => 0))) := by rw [← h916]; exact (gs_ne (Ne.symm (ne_ao h964 h913))).trans h964
  have h966 : M869[q254]? = some (.inl (0, 400, .inl (fun _ => 0))) := by rw [← h871]; exact ga_old h893
  have h967 : M915[q254]? = some (.inl (0, 400, .inl (fun _ => 0))) := by rw [← h916]; exact (gs_ne (Ne.symm (ne_ao h966 h913))).trans h966
  have h968 : M869[q295]? = some (.inl (0, 400, .inl (fun _ => 0))) := by rw [← h871]; exact ga_old h895
  have h969 : M915[q295]? = some (.inl (0, 400, .inl (fun _ => 0))) := by rw [← h916]; exact (gs_ne (Ne.symm (ne_ao h968 h913))).trans h968
  have h970 : M869[q339]? = some (.inl (0, 120, .inl (fun _ => 0))) := by rw [← h871]; exact ga_old h897
  have h971 : M915[q339]? = some (.inl (0, 120, .inl (fun _ => 0))) := by rw [← h916]; exact (gs_ne (Ne.symm (ne_ao h970 h913))).trans h970
  have h972 : M869[q386]? = some (.inl (1, 120, .inr (.inl (fun _ => 0)))) := by rw [← h871]; exact ga_old h899
  have h973 : M915[q386]? = some (.inl (1, 120, .inr (.inl (fun _ => 0)))) := by rw [← h916]; exact (gs_ne (Ne.symm (ne_ao h972 h913))).trans h972
  have h974 : M869[q436]? = some (.inl (0, 14, .inl (fun _ => 0))) := by rw [← h871]; exact ga_old h901
  have h975 : M915[q436]? = some (.inl (0, 14, .inl (fun _ => 0))) := by rw [← h916]; exact (gs_ne (Ne.symm (ne_ao h974 h913))).trans h974
  have h976 : M869[q489]? = some (.inl (0, 14, .inl (fun _ => 0))) := by rw [← h871]; exact ga_old h903
  have h977 : M915[q489]? = some (.inl (0, 14, .inl (fun _ => 0))) := by rw [← h916]; exact (gs_ne (Ne.symm (ne_ao h976 h913))).trans h976
  have h978 : M869[q545]? = some (.inl (3, 14, .inl (fun _ => 0))) := by rw [← h871]; exact ga_old h905
  have h979 : M915[q545]? = some (.inl (3, 14, .inl (fun _ => 0))) := by rw [← h916]; exact (gs_ne (Ne.symm (ne_ao h978 h913))).trans h978
  have h980 : M869[q604]? = some (.inl (0, 80, .inl (fun _ => 0))) := by rw [← h871]; exact ga_old h907
  have h981 : M915[q604]? = some (.inl (0, 80, .inl (fun _ => 0))) := by rw [← h916]; exact (gs_ne (Ne.symm (ne_ao h980 h913))).trans h980
  have h982 : M869[q666]? = some (.inl (0, 5, .inl (fun _ => 0))) := by rw [← h871]; exact ga_old h909
  have h983 : M915[q666]? = some (.inl (0, 5, .inl (fun _ => 0))) := by rw [← h916]; exact (gs_ne (Ne.symm (ne_ao h982 h913))).trans h982
  have h984 : M869[q731]? = some (.inl (1, 9900, .inr (.inl (fun _ => 0)))) := by rw [← h871]; exact ga_old h911
  have h985 : M915[q731]? = some (.inl (1, 9900, .inr (.inl (fun _ => 0)))) := by rw [← h916]; exact (gs_ne (Ne.symm (ne_ao h984 h913))).trans h984
  have h986 : M869[q799]? = some (.inl (0, 1650, .inl (fun _ => 0))) := by rw [← h871]; exact ga_old h912
  have h987 : M915[q799]? = some (.inl (0, 1650, .inl (fun _ => 0))) := by rw [← h916]; exact (gs_ne (Ne.symm (ne_ao h986 h913))).trans h986
  have h988 : M915[q870]? = some (.inl (0, 11, .inl (fun _ => 0))) := by rw [← h916]; exact (gs_ne (Ne.symm (ne_ao h873 h913))).trans h873
  have h989 : M943[x0]? = some (.inr (10, ((((((((((((((((((((((fs10.set 0 (.ref q5)).set 2 (.ref q22)).set 4 (.ref q38)).set 5 (.ref q57)).set 6 (.ref q79)).set 12 (.ref q104)).set 14 (.int (-1))).set 23 (.ref q143)).set 28 (.ref q181)).set 29 (.ref q216)).set 30 (.ref q254)).set 31 (.ref q295)).set 33 (.ref q339)).set 34 (.ref q386)).set 36 (.ref q436)).set 37 (.ref q489)).set 38 (.ref q545)).set 40 (.ref q604)).set 42 (.ref q666)).set 47 (.ref q731)).set 48 (.ref q799)).set 49 (.ref q870)))) := by rw [← h945]; exact ga_old h917
  have h990 : 52 < (((((((((((((((((((((((fs10.set 0 (.ref q5)).set 2 (.ref q22)).set 4 (.ref q38)).set 5 (.ref q57)).set 6 (.ref q79)).set 12 (.ref q104)).set 14 (.int (-1))).set 23 (.ref q143)).set 28 (.ref q181)).set 29 (.ref q216)).set 30 (.ref q254)).set 31 (.ref q295)).set 33 (.ref q339)).set 34 (.ref q386)).set 36 (.ref q436)).set 37 (.ref q489)).set 38 (.ref q545)).set 40 (.ref q604)).set 42 (.ref q666)).set 47 (.ref q731)).set 48 (.ref q799)).set 49 (.ref q870))).length := by first | omega | (simp only [List.length_set]; omega)
  refine pf_Mo_79 ok hin d_Mo_init_190 h989 h990 (fun _ => ⟨rfl, rfl⟩) ?_
  rw [h992]
  have h993 : M991[x0]? = some (.inr (10, (((((((((((((((((((((((fs10.set 0 (.ref q5)).set 2 (.ref q22)).set 4 (.ref q38)).set 5 (.ref q57)).set 6 (.ref q79)).set 12 (.ref q104)).set 14 (.int (-1))).set 23 (.ref q143)).set 28 (.ref q181)).set 29 (.ref q216)).set 30 (.ref q254)).set 31 (.ref q295)).set 33 (.ref q339)).set 34 (.ref q386)).set 36 (.ref q436)).set 37 (.ref q489)).set 38 (.ref q545)).set 40 (.ref q604)).set 42 (.ref q666)).set 47 (.ref q731)).set 48 (.ref q799)).set 49 (.ref q870)).set 52 (.ref q944)))) := by rw [← h992]; exact gs_eq h989
  have h994 := (List.getElem?_set_ne (a := .ref q944) (by decide : 52 ≠ 0)).trans h918
  have h995 := (List.getElem?_set_ne (a := .ref q944) (by decide : 52 ≠ 2)).trans h919
  have h996 := (List.getElem?_set_ne (a := .ref q944) (by decide : 52 ≠ 4)).trans h920
  have h997 := (List.getElem?_set_ne (a := .ref q944) (by decide : 52 ≠ 5)).trans h921
  have h998 := (List.getElem?_set_ne (a := .ref q944) (by decide : 52 ≠ 6)).trans h922
  have h999 := (List.getElem?_set_ne (a := .ref q944) (by decide : 52 ≠ 12)).trans h923
  have h1000 := (List.getElem?_set_ne (a := .ref q944) (by decide : 52 ≠ 14)).trans h924
  have h1001 := (List.getElem?_set_ne (a := .ref q944) (by decide : 52 ≠ 23)).trans h925
  have h1002 := (List.getElem?_set_ne (a := .ref q944) (by decide : 52 ≠ 28)).trans h926
  have h1003 := (List.getElem?_set_ne (a := .ref q944) (by decide : 52 ≠ 29)).trans h927
  have h1004 := (List.getElem?_set_ne (a := .ref q944) (by decide : 52 ≠ 30)).trans h928
  have h1005 := (List.getElem?_set_ne (a := .ref q944) (by decide : 52 ≠ 31)).trans h929
  have h1006 := (List.getElem?_set_ne (a := .ref q944) (by decide : 52 ≠ 33)).trans h930
  have h1007 := (List.getElem?_set_ne (a := .ref q944) (by decide : 52 ≠ 34)).trans h931
  have h1008 := (List.getElem?_set_ne (a := .ref q944) (by decide : 52 ≠ 36)).trans h932
  have h1009 := (List.getElem?_set_ne (a := .ref q944) (by decide : 52 ≠ 37)).trans h933
  have h1010 := (List.getElem?_set_ne (a := .ref q944) (by decide : 52 ≠ 38)).trans h934
  have h1011 := (List.getElem?_set_ne (a := .ref q944) (by decide : 52 ≠ 40)).trans h935
  have h1012 := (List.getElem?_set_ne (a := .ref q944) (by decide : 52 ≠ 42)).trans h936
  have h1013 := (List.getElem?_set_ne (a := .ref q944) (by decide : 52 ≠ 47)).trans h937
  have h1014 := (List.getElem?_set_ne (a := .ref q944) (by decide : 52 ≠ 48)).trans h938
  have h1015 := (List.getElem?_set_ne (a := .ref q944) (by decide : 52 ≠ 49)).trans h939
  have h1016 : (((((((((((((((((((((((fs10.set 0 (.ref q5)).set 2 (.ref q22)).set 4 (.ref q38)).set 5 (.ref q57)).set 6 (.ref q79)).set 12 (.ref q104)).set 14 (.int (-1))).set 23 (.ref q143)).set 28 (.ref q181)).set 29 (.ref q216)).set 30 (.ref q254)).set 31 (.ref q295)).set 33 (.ref q339)).set 34 (.ref q386)).set 36 (.ref q436)).set 37 (.ref q489)).set 38 (.ref q545)).set 40 (.ref q604)).set 42 (.ref q666)).set 47 (.ref q731)).set 48 (.ref q799)).set 49 (.ref q870)).set 52 (.ref q944))[52]? = some (.ref q944) := List.getElem?_set_self h990
  refine g_aload_n ok d_Mo_init_193 rfl (j := 0) rfl ?_
  refine g_sipush (v := 150) ok d_Mo_init_194 (by decide) ?_
  refine g_newa (atype := .int) (ty := .int) (t := 0) (N := 150) (a0 := (150, .inl (fun _ => 0))) ok (List.mem_cons_of_mem _ (gT_at 83 (by decide +kernel) (by decide +kernel))) rfl rfl (fun _ => rfl) (fun _ => rfl) (by decide) (by decide) (by decide) d_Mo_init_197 h1017 h1018 h1019 ?_
  rw [h1022, h1023]
  have h1024 : M1020[q1021]? = some (.inl (0, 150, .inl (fun _ => 0))) := by rw [← h1022, ← h1023]; exact ga_new _ _
  have h1025 : M943[q5]? = some (.inl (1, 144, .inr (.inl (fun _ => 0)))) := by rw [← h945]; exact ga_old h949
  have h1026 : M991[q5]? = some (.inl (1, 144, .inr (.inl (fun _ => 0)))) := by rw [← h992]; exact (gs_ne (Ne.symm (ne_ao h1025 h989))).trans h1025
  have h1027 : M943[q22]? = some (.inl (1, 144, .inr (.inl (fun _ => 0)))) := by rw [← h945]; exact ga_old h951
  have h1028 : M991[q22]? = some (.inl (1, 144, .inr (.inl (fun _ => 0)))) := by rw [← h992]; exact (gs_ne (Ne.symm (ne_ao h1027 h989))).trans h1027
  have h1029 : M943[q38]? = some (.inl (1, 2400, .inr (.inl (fun _ => 0)))) := by rw [← h945]; exact ga_old h953
  have h1030 : M991[q38]? = some (.inl (1, 2400, .inr (.inl (fun _ => 0)))) := by rw [← h992]; exact (gs_ne (Ne.symm (ne_ao h1029 h989))).trans h1029
  have h1031 : M943[q57]? = some (.inl (3, 800, .inl (fun _ => 0))) := by rw [← h945]; exact ga_old h955
  have h1032 : M991[q57]? = some (.inl (3, 800, .inl (fun _ => 0))) := by rw [← h992]; exact (gs_ne (Ne.symm (ne_ao h1031 h989))).trans h1031
  have h1033 : M943[q79]? = some (.inl (0, 800, .inl (fun _ => 0))) := by rw [← h945]; exact ga_old h957
  have h1034 : M991[q79]? = some (.inl (0, 800, .inl (fun _ => 0))) := by rw [← h992]; exact (gs_ne (Ne.symm (ne_ao h1033 h989))).trans h1033
  have h1035 : M943[q104]? = some (.inl (0, 160, .inl (fun _ => 0))) := by rw [← h945]; exact ga_old h959
  have h1036 : M991[q104]? = some (.inl (0, 160, .inl (fun _ => 0))) := by rw [← h992]; exact (gs_ne (Ne.symm (ne_ao h1035 h989))).trans h1035
  have h1037 : M943[q143]? = some (.inl (1, 6, .inr (.inl (fun _ => 0)))) := by rw [← h945]; exact ga_old h961
  have h1038 : M991[q143]? = some (.inl (1, 6, .inr (.inl (fun _ => 0)))) := by rw [← h992]; exact (gs_ne (Ne.symm (ne_ao h1037 h989))).trans h1037
  have h1039 : M943[q181]? = some (.inl (0, 5, .inl (fun _ => 0))) := by rw [← h945]; exact ga_old h963
  have h1040 : M991[q181]? = some (.inl (0, 5, .inl (fun _ => 0))) := by rw [← h992]; exact (gs_ne (Ne.symm (ne_ao h1039 h989))).trans h1039
  have h1041 : M943[q216]? = some (.inl (0, 5, .inl (fun _ => 0))) := by rw [← h945]; exact ga_old h965
  have h1042 : M991[q216]? = some (.inl (0, 5, .inl (fun _ => 0))) := by rw [← h992]; exact (gs_ne (Ne.symm (ne_ao h1041 h989))).trans h1041
  have h1043 : M943[q254]? = some (.inl (0, 400, .inl (fun _ => 0))) := by rw [← h945]; exact ga_old h967
  have h1044 : M991[q254]? = some (.inl (0, 400, .inl (fun _ => 0))) := by rw [← h992]; exact (gs_ne (Ne.symm (ne_ao h1043 h989))).trans h1043
  have h1045 : M943[q295]? = some (.inl (0, 400, .inl (fun _ => 0))) := by rw [← h945]; exact ga_old h969
  have h1046 : M991[q295]? = some (.inl (0, 400, .inl (fun _ => 0))) := by rw [← h992]; exact (gs_ne (Ne.symm (ne_ao h1045 h989))).trans h1045
  have h1047 : M943[q339]? = some (.inl (0, 120, .inl (fun _ => 0))) := by rw [← h945]; exact ga_old h971
  have h1048 : M991[q339]? = some (.inl (0, 120, .inl (fun _ => 0))) := by rw [← h992]; exact (gs_ne (Ne.symm (ne_ao h1047 h989))).trans h1047
  have h1049 : M943[q386]? = some (.inl (1, 120, .inr (.inl (fun _ => 0)))) := by rw [← h945]; exact ga_old h973
  have h1050 : M991[q386]? = some (.inl (1, 120, .inr (.inl (fun _ => 0)))) := by rw [← h992]; exact (gs_ne (Ne.symm (ne_ao h1049 h989))).trans h1049
  have h1051 : M943[q436]? = some (.inl (0, 14, .inl (fun _ => 0))) := by rw [← h945]; exact ga_old h975
  have h1052 : M991[q436]? = some (.inl (0, 14, .inl (fun _ => 0))) := by rw [← h992]; exact (gs_ne (Ne.symm (ne_ao h1051 h989))).trans h1051
  have h1053 : M943[q489]? = some (.inl (0, 14, .inl (fun _ => 0))) := by rw [← h945]; exact ga_old h977
  have h1054 : M991[q489]? = some (.inl (0, 14, .inl (fun _ => 0))) := by rw [← h992]; exact (gs_ne (Ne.symm (ne_ao h1053 h989))).trans h1053
  have h1055 : M943[q545]? = some (.inl (3, 14, .inl (fun _ => 0))) := by rw [← h945]; exact ga_old h979
  have h1056 : M991[q545]? = some (.inl (3, 14, .inl (fun _ => 0))) := by rw [← h992]; exact (gs_ne (Ne.symm (ne_ao h1055 h989))).trans h1055
  have h1057 : M943[q604]? = some (.inl (0, 80, .inl (fun _ => 0))) := by rw [← h945]; exact ga_old h981
  have h1058 : M991[q604]? = some (.inl (0, 80, .inl (fun _ => 0))) := by rw [← h992]; exact (gs_ne (Ne.symm (ne_ao h1057 h989))).trans h1057
  have h1059 : M943[q666]? = some (.inl (0, 5, .inl (fun _ => 0))) := by rw [← h945]; exact ga_old h983
  have h1060 : M991[q666]? = some (.inl (0, 5, .inl (fun _ => 0))) := by rw [← h992]; exact (gs_ne (Ne.symm (ne_ao h1059 h989))).trans h1059
  have h1061 : M943[q731]? = some (.inl (1, 9900, .inr (.inl (fun _ => 0)))) := by rw [← h945]; exact ga_old h985
  have h1062 : M991[q731]? = some (.inl (1, 9900, .inr (.inl (fun _ => 0)))) := by rw [← h992]; exact (gs_ne (Ne.symm (ne_ao h1061 h989))).trans h1061
  have h1063 : M943[q799]? = some (.inl (0, 1650, .inl (fun _ => 0))) := by rw [← h945]; exact ga_old h987
  have h1064 : M991[q799]? = some (.inl (0, 1650, .inl (fun _ => 0))) := by rw [← h992]; exact (gs_ne (Ne.symm (ne_ao h1063 h989))).trans h1063
  have h1065 : M943[q870]? = some (.inl (0, 11, .inl (fun _ => 0))) := by rw [← h945]; exact ga_old h988
  have h1066 : M991[q870]? = some (.inl (0, 11, .inl (fun _ => 0))) := by rw [← h992]; exact (gs_ne (Ne.symm (ne_ao h1065 h989))).trans h1065
  have h1067 : M991[q944]? = some (.inl (1, 900, .inr (.inl (fun _ => 0)))) := by rw [← h992]; exact (gs_ne (Ne.symm (ne_ao h947 h989))).trans h947
  have h1068 : M1020[x0]? = some (.inr (10, (((((((((((((((((((((((fs10.set 0 (.ref q5)).set 2 (.ref q22)).set 4 (.ref q38)).set 5 (.ref q57)).set 6 (.ref q79)).set 12 (.ref q104)).set 14 (.int (-1))).set 23 (.ref q143)).set 28 (.ref q181)).set 29 (.ref q216)).set 30 (.ref q254)).set 31 (.ref q295)).set 33 (.ref q339)).set 34 (.ref q386)).set 36 (.ref q436)).set 37 (.ref q489)).set 38 (.ref q545)).set 40 (.ref q604)).set 42 (.ref q666)).set 47 (.ref q731)).set 48 (.ref q799)).set 49 (.ref q870)).set 52 (.ref q944)))) := by rw [← h1022]; exact ga_old h993
  have h1069 : 53 < ((((((((((((((((((((((((fs10.set 0 (.ref q5)).set 2 (.ref q22)).set 4 (.ref q38)).set 5 (.ref q57)).set 6 (.ref q79)).set 12 (.ref q104)).set 14 (.int (-1))).set 23 (.ref q143)).set 28 (.ref q181)).set 29 (.ref q216)).set 30 (.ref q254)).set 31 (.ref q295)).set 33 (.ref q339)).set 34 (.ref q386)).set 36 (.ref q436)).set 37 (.ref q489)).set 38 (.ref q545)).set 40 (.ref q604)).set 42 (.ref q666)).set 47 (.ref q731)).set 48 (.ref q799)).set 49 (.ref q870)).set 52 (.ref q944))).length := by first | omega | (simp only [List.length_set]; omega)
  refine pf_Mo_82 ok hin d_Mo_init_199 h1068 h1069 (fun _ => ⟨rfl, rfl⟩) ?_
  rw [h1071]
  have h1072 : M1070[x0]? = some (.inr (10, ((((((((((((((((((((((((fs10.set 0 (.ref q5)).set 2 (.ref q22)).set 4 (.ref q38)).set 5 (.ref q57)).set 6 (.ref q79)).set 12 (.ref q104)).set 14 (.int (-1))).set 23 (.ref q143)).set 28 (.ref q181)).set 29 (.ref q216)).set 30 (.ref q254)).set 31 (.ref q295)).set 33 (.ref q339)).set 34 (.ref q386)).set 36 (.ref q436)).set 37 (.ref q489)).set 38 (.ref q545)).set 40 (.ref q604)).set 42 (.ref q666)).set 47 (.ref q731)).set 48 (.ref q799)).set 49 (.ref q870)).set 52 (.ref q944)).set 53 (.ref q1021)))) := by rw [← h1071]; exact gs_eq h1068
  have h1073 := (List.getElem?_set_ne (a := .ref q1021) (by decide : 53 ≠ 0)).trans h994
  have h1074 := (List.getElem?_set_ne (a := .ref q1021) (by decide : 53 ≠ 2)).trans h995
  have h1075 := (List.getElem?_set_ne (a := .ref q1021) (by decide : 53 ≠ 4)).trans h996
  have h1076 := (List.getElem?_set_ne (a := .ref q1021) (by decide : 53 ≠ 5)).trans h997
  have h1077 := (List.getElem?_set_ne (a := .ref q1021) (by decide : 53 ≠ 6)).trans h998
  have h1078 := (List.getElem?_set_ne (a := .ref q1021) (by decide : 53 ≠ 12)).trans h999
  have h1079 := (List.getElem?_set_ne (a := .ref q1021) (by decide : 53 ≠ 14)).trans h1000
  have h1080 := (List.getElem?_set_ne (a := .ref q1021) (by decide : 53 ≠ 23)).trans h1001
  have h1081 := (List.getElem?_set_ne (a := .ref q1021) (by decide : 53 ≠ 28)).trans h1002
  have h1082 := (List.getElem?_set_ne (a := .ref q1021) (by decide : 53 ≠ 29)).trans h1003
  have h1083 := (List.getElem?_set_ne (a := .ref q1021) (by decide : 53 ≠ 30)).trans h1004
  have h1084 := (List.getElem?_set_ne (a := .ref q1021) (by decide : 53 ≠ 31)).trans h1005
  have h1085 := (List.getElem?_set_ne (a := .ref q1021) (by decide : 53 ≠ 33)).trans h1006
  have h1086 := (List.getElem?_set_ne (a := .ref q1021) (by decide : 53 ≠ 34)).trans h1007
  have h1087 := (List.getElem?_set_ne (a := .ref q1021) (by decide : 53 ≠ 36)).trans h1008
  have h1088 := (List.getElem?_set_ne (a := .ref q1021) (by decide : 53 ≠ 37)).trans h1009
  have h1089 := (List.getElem?_set_ne (a := .ref q1021) (by decide : 53 ≠ 38)).trans h1010
  have h1090 := (List.getElem?_set_ne (a := .ref q1021) (by decide : 53 ≠ 40)).trans h1011
  have h1091 := (List.getElem?_set_ne (a := .ref q1021) (by decide : 53 ≠ 42)).trans h1012
  have h1092 := (List.getElem?_set_ne (a := .ref q1021) (by decide : 53 ≠ 47)).trans h1013
  have h1093 := (List.getElem?_set_ne (a := .ref q1021) (by decide : 53 ≠ 48)).trans h1014
  have h1094 := (List.getElem?_set_ne (a := .ref q1021) (by decide : 53 ≠ 49)).trans h1015
  have h1095 := (List.getElem?_set_ne (a := .ref q1021) (by decide : 53 ≠ 52)).trans h1016
  have h1096 : ((((((((((((((((((((((((fs10.set 0 (.ref q5)).set 2 (.ref q22)).set 4 (.ref q38)).set 5 (.ref q57)).set 6 (.ref q79)).set 12 (.ref q104)).set 14 (.int (-1))).set 23 (.ref q143)).set 28 (.ref q181)).set 29 (.ref q216)).set 30 (.ref q254)).set 31 (.ref q295)).set 33 (.ref q339)).set 34 (.ref q386)).set 36 (.ref q436)).set 37 (.ref q489)).set 38 (.ref q545)).set 40 (.ref q604)).set 42 (.ref q666)).set 47 (.ref q731)).set 48 (.ref q799)).set 49 (.ref q870)).set 52 (.ref q944)).set 53 (.ref q1021))[53]? = some (.ref q1021) := List.getElem?_set_self h1069
  refine g_aload_n ok d_Mo_init_202 rfl (j := 0) rfl ?_
  refine g_sipush (v := 150) ok d_Mo_init_203 (by decide) ?_
  refine g_newa (atype := .int) (ty := .int) (t := 0) (N := 150) (a0 := (150, .inl (fun _ => 0))) ok (List.mem_cons_of_mem _ (gT_at 83 (by decide +kernel) (by decide +kernel))) rfl rfl (fun _ => rfl) (fun _ => rfl) (by decide) (by decide) (by decide) d_Mo_init_206 h1097 h1098 h1099 ?_
  rw [h1102, h1103]
  have h1104 : M1100[q1101]? = some (.inl (0, 150, .inl (fun _ => 0))) := by rw [← h1102, ← h1103]; exact ga_new _ _
  have h1105 : M1020[q5]? = some (.inl (1, 144, .inr (.inl (fun _ => 0)))) := by rw [← h1022]; exact ga_old h1026
  have h1106 : M1070[q5]? = some (.inl (1, 144, .inr (.inl (fun _ => 0)))) := by rw [← h1071]; exact (gs_ne (Ne.symm (ne_ao h1105 h1068))).trans h1105
  have h1107 : M1020[q22]? = some (.inl (1, 144, .inr (.inl (fun _ => 0)))) := by rw [← h1022]; exact ga_old h1028
  have h1108 : M1070[q22]? = some (.inl (1, 144, .inr (.inl (fun _ => 0)))) := by rw [← h1071]; exact (gs_ne (Ne.symm (ne_ao h1107 h1068))).trans h1107
  have h1109 : M1020[q38]? = some (.inl (1, 2400, .inr (.inl (fun _ => 0)))) := by rw [← h1022]; exact ga_old h1030
  have h1110 : M1070[q38]? = some (.inl (1, 2400, .inr (.inl (fun _ => 0)))) := by rw [← h1071]; exact (gs_ne (Ne.symm (ne_ao h1109 h1068))).trans h1109
  have h1111 : M1020[q57]? = some (.inl (3, 800, .inl (fun _ => 0))) := by rw [← h1022]; exact ga_old h1032
  have h1112 : M1070[q57]? = some (.inl (3, 800, .inl (fun _ => 0))) := by rw [← h1071]; exact (gs_ne (Ne.symm (ne_ao h1111 h1068))).trans h1111
  have h1113 : M1020[q79]? = some (.inl (0, 800, .inl (fun _ => 0))) := by rw [← h1022]; exact ga_old h1034
  have h1114 : M1070[q79]? = some (.inl (0, 800, .inl (fun _ => 0))) := by rw [← h1071]; exact (gs_ne (Ne.symm (ne_ao h1113 h1068))).trans h1113
  have h1115 : M1020[q104]? = some (.inl (0, 160, .inl (fun _ => 0))) := by rw [← h1022]; exact ga_old h1036
  have h1116 : M1070[q104]? = some (.inl (0, 160, .inl (fun _ => 0))) := by rw [← h1071]; exact (gs_ne (Ne.symm (ne_ao h1115 h1068))).trans h1115
  have h1117 : M1020[q143]? = some (.inl (1, 6, .inr (.inl (fun _ => 0)))) := by rw [← h1022]; exact ga_old h1038
  have h1118 : M1070[q143]? = some (.inl (1, 6, .inr (.inl (fun _ => 0)))) := by rw [← h1071]; exact (gs_ne (Ne.symm (ne_ao h1117 h1068))).trans h1117
  have h1119 : M1020[q181]? = some (.inl (0, 5, .inl (fun _ => 0))) := by rw [← h1022]; exact ga_old h1040
  have h1120 : M1070[q181]? = some (.inl (0, 5, .inl (fun _ => 0))) := by rw [← h1071]; exact (gs_ne (Ne.symm (ne_ao h1119 h1068))).trans h1119
  have h1121 : M1020[q216]? = some (.inl (0, 5, .inl (fun _ => 0))) := by rw [← h1022]; exact ga_old h1042
  have h1122 : M1070[q216]? = some (.inl (0, 5, .inl (fun _ => 0))) := by rw [← h1071]; exact (gs_ne (Ne.symm (ne_ao h1121 h1068))).trans h1121
  have h1123 : M1020[q254]? = some (.inl (0, 400, .inl (fun _ => 0))) := by rw [← h1022]; exact ga_old h1044
  have h1124 : M1070[q254]? = some (.inl (0, 400, .inl (fun _ => 0))) := by rw [← h1071]; exact (gs_ne (Ne.symm (ne_ao h1123 h1068))).trans h1123
  have h1125 : M1020[q295]? = some (.inl (0, 400, .inl (fun _ => 0))) := by rw [← h1022]; exact ga_old h1046
  have h1126 : M1070[q295]? = some (.inl (0, 400, .inl (fun _ => 0))) := by rw [← h1071]; exact (gs_ne (Ne.symm (ne_ao h1125 h1068))).trans h1125
  have h1127 : M1020[q339]? = some (.inl (0, 120, .inl (fun _ => 0))) := by rw [← h1022]; exact ga_old h1048
  have h1128 : M1070[q339]? = some (.inl (0, 120, .inl (fun _ => 0))) := by rw [← h1071]; exact (gs_ne (Ne.symm (ne_ao h1127 h1068))).trans h1127
  have h1129 : M1020[q386]? = some (.inl (1, 120, .inr (.inl (fun _ => 0)))) := by rw [← h1022]; exact ga_old h1050
  have h1130 : M1070[q386]? = some (.inl (1, 120, .inr (.inl (fun _ => 0)))) := by rw [← h1071]; exact (gs_ne (Ne.symm (ne_ao h1129 h1068))).trans h1129
  have h1131 : M1020[q436]? = some (.inl (0, 14, .inl (fun _ => 0))) := by rw [← h1022]; exact ga_old h1052
  have h1132 : M1070[q436]? = some (.inl (0, 14, .inl (fun _ => 0))) := by rw [← h1071]; exact (gs_ne (Ne.symm (ne_ao h1131 h1068))).trans h1131
  have h1133 : M1020[q489]? = some (.inl (0, 14, .inl (fun _ => 0))) := by rw [← h1022]; exact ga_old h1054
  have h1134 : M1070[q489]? = some (.inl (0, 14, .inl (fun _ => 0))) := by rw [← h1071]; exact (gs_ne (Ne.symm (ne_ao h1133 h1068))).trans h1133
  have h1135 : M1020[q545]? = some (.inl (3, 14, .inl (fun _ => 0))) := by rw [← h1022]; exact ga_old h1056
  have h1136 : M1070[q545]? = some (.inl (3, 14, .inl (fun _ => 0))) := by rw [← h1071]; exact (gs_ne (Ne.symm (ne_ao h1135 h1068))).trans h1135
  have h1137 : M1020[q604]? = some (.inl (0, 80, .inl (fun _ => 0))) := by rw [← h1022]; exact ga_old h1058
  have h1138 : M1070[q604]? = some (.inl (0, 80, .inl (fun _ => 0))) := by rw [← h1071]; exact (gs_ne (Ne.symm (ne_ao h1137 h1068))).trans h1137
  have h1139 : M1020[q666]? = some (.inl (0, 5, .inl (fun _ => 0))) := by rw [← h1022]; exact ga_old h1060
  have h1140 : M1070[q666]? = some (.inl (0, 5, .inl (fun _ => 0))) := by rw [← h1071]; exact (gs_ne (Ne.symm (ne_ao h1139 h1068))).trans h1139
  have h1141 : M1020[q731]? = some (.inl (1, 9900, .inr (.inl (fun _ => 0)))) := by rw [← h1022]; exact ga_old h1062
  have h1142 : M1070[q731]? = some (.inl (1, 9900, .inr (.inl (fun _ => 0)))) := by rw [← h1071]; exact (gs_ne (Ne.symm (ne_ao h1141 h1068))).trans h1141
  have h1143 : M1020[q799]? = some (.inl (0, 1650, .inl (fun _ => 0))) := by rw [← h1022]; exact ga_old h1064
  have h1144 : M1070[q799]? = some (.inl (0, 1650, .inl (fun _ => 0))) := by rw [← h1071]; exact (gs_ne (Ne.symm (ne_ao h1143 h1068))).trans h1143
  have h1145 : M1020[q870]? = some (.inl (0, 11, .inl (fun _ => 0))) := by rw [← h1022]; exact ga_old h1066
  have h1146 : M1070[q870]? = some (.inl (0, 11, .inl (fun _ => 0))) := by rw [← h1071]; exact (gs_ne (Ne.symm (ne_ao h1145 h1068))).trans h1145
  have h1147 : M1020[q944]? = some (.inl (1, 900, .inr (.inl (fun _ => 0)))) := by rw [← h1022]; exact ga_old h1067
  have h1148 : M1070[q944]? = some (.inl (1, 900, .inr (.inl (fun _ => 0)))) := by rw [← h1071]; exact (gs_ne (Ne.symm (ne_ao h1147 h1068))).trans h1147
  have h1149 : M1070[q1021]? = some (.inl (0, 150, .inl (fun _ => 0))) := by rw [← h1071]; exact (gs_ne (Ne.symm (ne_ao h1024 h1068))).trans h1024
  have h1150 : M1100[x0]? = some (.inr (10, ((((((((((((((((((((((((fs10.set 0 (.ref q5)).set 2 (.ref q22)).set 4 (.ref q38)).set 5 (.ref q57)).set 6 (.ref q79)).set 12 (.ref q104)).set 14 (.int (-1))).set 23 (.ref q143)).set 28 (.ref q181)).set 29 (.ref q216)).set 30 (.ref q254)).set 31 (.ref q295)).set 33 (.ref q339)).set 34 (.ref q386)).set 36 (.ref q436)).set 37 (.ref q489)).set 38 (.ref q545)).set 40 (.ref q604)).set 42 (.ref q666)).set 47 (.ref q731)).set 48 (.ref q799)).set 49 (.ref q870)).set 52 (.ref q944)).set 53 (.ref q1021)))) := by rw [← h1102]; exact ga_old h1072
  have h1151 : 54 < (((((((((((((((((((((((((fs10.set 0 (.ref q5)).set 2 (.ref q22)).set 4 (.ref q38)).set 5 (.ref q57)).set 6 (.ref q79)).set 12 (.ref q104)).set 14 (.int (-1))).set 23 (.ref q143)).set 28 (.ref q181)).set 29 (.ref q216)).set 30 (.ref q254)).set 31 (.ref q295)).set 33 (.ref q339)).set 34 (.ref q386)).set 36 (.ref q436)).set 37 (.ref q489)).set 38 (.ref q545)).set 40 (.ref q604)).set 42 (.ref q666)).set 47 (.ref q731)).set 48 (.ref q799)).set 49 (.ref q870)).set 52 (.ref q944)).set 53 (.ref q1021))).length := by first | omega | (simp only [List.length_set]; omega)
  refine pf_Mo_85 ok hin d_Mo_init_208 h1150 h1151 (fun _ => ⟨rfl, rfl⟩) ?_
  rw [h1153]
  have h1154 : M1152[x0]? = some (.inr (10, (((((((((((((((((((((((((fs10.set 0 (.ref q5)).set 2 (.ref q22)).set 4 (.ref q38)).set 5 (.ref q57)).set 6 (.ref q79)).set 12 (.ref q104)).set 14 (.int (-1))).set 23 (.ref q143)).set 28 (.ref q181)).set 29 (.ref q216)).set 30 (.ref q254)).set 31 (.ref q295)).set 33 (.ref q339)).set 34 (.ref q386)).set 36 (.ref q436)).set 37 (.ref q489)).set 38 (.ref q545)).set 40 (.ref q604)).set 42 (.ref q666)).set 47 (.ref q731)).set 48 (.ref q799)).set 49 (.ref q870)).set 52 (.ref q944)).set 53 (.ref q1021)).set 54 (.ref q1101)))) := by rw [← h1153]; exact gs_eq h1150
  have h1155 := (List.getElem?_set_ne (a := .ref q1101) (by decide : 54 ≠ 0)).trans h1073
  have h1156 := (List.getElem?_set_ne (a := .ref q1101) (by decide : 54 ≠ 2)).trans h1074
  have h1157 := (List.getElem?_set_ne (a := .ref q1101) (by decide : 54 ≠ 4)).trans h1075
  have h1158 := (List.getElem?_set_ne (a := .ref q1101) (by decide : 54 ≠ 5)).trans h1076
  have h1159 := (List.getElem?_set_ne (a := .ref q1101) (by decide : 54 ≠ 6)).trans h1077
  have h1160 := (List.getElem?_set_ne (a := .ref q1101) (by decide : 54 ≠ 12)).trans h1078
  have h1161 := (List.getElem?_set_ne (a := .ref q1101) (by decide : 54 ≠ 14)).trans h1079
  have h1162 := (List.getElem?_set_ne (a := .ref q1101) (by decide : 54 ≠ 23)).trans h1080
  have h1163 := (List.getElem?_set_ne (a := .ref q1101) (by decide : 54 ≠ 28)).trans h1081
  have h1164 := (List.getElem?_set_ne (a := .ref q1101) (by decide : 54 ≠ 29)).trans h1082
  have h1165 := (List.getElem?_set_ne (a := .ref q1101) (by decide : 54 ≠ 30)).trans h1083
  have h1166 := (List.getElem?_set_ne (a := .ref q1101) (by decide : 54 ≠ 31)).trans h1084
  have h1167 := (List.getElem?_set_ne (a := .ref q1101) (by decide : 54 ≠ 33)).trans h1085
  have h1168 := (List.getElem?_set_ne (a := .ref q1101) (by decide : 54 ≠ 34)).trans h1086
  have h1169 := (List.getElem?_set_ne (a := .ref q1101) (by decide : 54 ≠ 36)).trans h1087
  have h1170 := (List.getElem?_set_ne (a := .ref q1101) (by decide : 54 ≠ 37)).trans h1088
  have h1171 := (List.getElem?_set_ne (a := .ref q1101) (by decide : 54 ≠ 38)).trans h1089
  have h1172 := (List.getElem?_set_ne (a := .ref q1101) (by decide : 54 ≠ 40)).trans h1090
  have h1173 := (List.getElem?_set_ne (a := .ref q1101) (by decide : 54 ≠ 42)).trans h1091
  have h1174 := (List.getElem?_set_ne (a := .ref q1101) (by decide : 54 ≠ 47)).trans h1092
  have h1175 := (List.getElem?_set_ne (a := .ref q1101) (by decide : 54 ≠ 48)).trans h1093
  have h1176 := (List.getElem?_set_ne (a := .ref q1101) (by decide : 54 ≠ 49)).trans h1094
  have h1177 := (List.getElem?_set_ne (a := .ref q1101) (by decide : 54 ≠ 52)).trans h1095
  have h1178 := (List.getElem?_set_ne (a := .ref q1101) (by decide : 54 ≠ 53)).trans h1096
  have h1179 : (((((((((((((((((((((((((fs10.set 0 (.ref q5)).set 2 (.ref q22)).set 4 (.ref q38)).set 5 (.ref q57)).set 6 (.ref q79)).set 12 (.ref q104)).set 14 (.int (-1))).set 23 (.ref q143)).set 28 (.ref q181)).set 29 (.ref q216)).set 30 (.ref q254)).set 31 (.ref q295)).set 33 (.ref q339)).set 34 (.ref q386)).set 36 (.ref q436)).set 37 (.ref q489)).set 38 (.ref q545)).set 40 (.ref q604)).set 42 (.ref q666)).set 47 (.ref q731)).set 48 (.ref q799)).set 49 (.ref q870)).set 52 (.ref q944)).set 53 (.ref q1021)).set 54 (.ref q1101))[54]? = some (.ref q1101) := List.getElem?_set_self h1151
  refine g_aload_n ok d_Mo_init_211 rfl (j := 0) rfl ?_
  refine g_bipush (v := 80) ok d_Mo_init_212 (by decide) ?_
  refine g_newa (atype := .int) (ty := .int) (t := 0) (N := 80) (a0 := (80, .inl (fun _ => 0))) ok (List.mem_cons_of_mem _ (gT_at 83 (by decide +kernel) (by decide +kernel))) rfl rfl (fun _ => rfl) (fun _ => rfl) (by decide) (by decide) (by decide) d_Mo_init_214 h1180 h1181 h1182 ?_
  rw [h1185, h1186]
  have h1187 : M1183[q1184]? = some (.inl (0, 80, .inl (fun _ => 0))) := by rw [← h1185, ← h1186]; exact ga_new _ _
  have h1188 : M1100[q5]? = some (.inl (1, 144, .inr (.inl (fun _ => 0)))) := by rw [← h1102]; exact ga_old h1106
  have h1189 : M1152[q5]? = some (.inl (1, 144, .inr (.inl (fun _ => 0)))) := by rw [← h1153]; exact (gs_ne (Ne.symm (ne_ao h1188 h1150))).trans h1188
  have h1190 : M1100[q22]? = some (.inl (1, 144, .inr (.inl (fun _ => 0)))) := by rw [← h1102]; exact ga_old h1108
  have h1191 : M1152[q22]? = some (.inl (1, 144, .inr (.inl (fun _ => 0)))) := by rw [← h1153]; exact (gs_ne (Ne.symm (ne_ao h1190 h1150))).trans h1190
  have h1192 : M1100[q38]? = some (.inl (1, 2400, .inr (.inl (fun _ => 0)))) := by rw [← h1102]; exact ga_old h1110
  have h1193 : M1152[q38]? = some (.inl (1, 2400, .inr (.inl (fun _ => 0)))) := by rw [← h1153]; exact (gs_ne (Ne.symm (ne_ao h1192 h1150))).trans h1192
  have h1194 : M1100[q57]? = some (.inl (3, 800, .inl (fun _ => 0))) := by rw [← h1102]; exact ga_old h1112
  have h1195 : M1152[q57]? = some (.inl (3, 800, .inl (fun _ => 0))) := by rw [← h1153]; exact (gs_ne (Ne.symm (ne_ao h1194 h1150))).trans h1194
  have h1196 : M1100[q79]? = some (.inl (0, 800, .inl (fun _ => 0))) := by rw [← h1102]; exact ga_old h1114
  have h1197 : M1152[q79]? = some (.inl (0, 800, .inl (fun _ => 0))) := by rw [← h1153]; exact (gs_ne (Ne.symm (ne_ao h1196 h1150))).trans h1196
  have h1198 : M1100[q104]? = some (.inl (0, 160, .inl (fun _ => 0))) := by rw [← h1102]; exact ga_old h1116
  have h1199 : M1152[q104]? = some (.inl (0, 160, .inl (fun _ => 0))) := by rw [← h1153]; exact (gs_ne (Ne.symm (ne_ao h1198 h1150))).trans h1198
  have h1200 : M1100[q143]? = some (.inl (1, 6, .inr (.inl (fun _ => 0)))) := by rw [← h1102]; exact ga_old h1118
  have h1201 : M1152[q143]? = some (.inl (1, 6, .inr (.inl (fun _ => 0)))) := by rw [← h1153]; exact (gs_ne (Ne.symm (ne_ao h1200 h1150))).trans h1200
  have h1202 : M1100[q181]? = some (.inl (0, 5, .inl (fun _ => 0))) := by rw [← h1102]; exact ga_old h1120
  have h1203 : M1152[q181]? = some (.inl (0, 5, .inl (fun _ => 0))) := by rw [← h1153]; exact (gs_ne (Ne.symm (ne_ao h1202 h1150))).trans h1202
  have h1204 : M1100[q216]? = some (.inl (0, 5, .inl (fun _ => 0))) := by rw [← h1102]; exact ga_old h1122
  have h1205 : M1152[q216]? = some (.inl (0, 5, .inl (fun _ => 0))) := by rw [← h1153]; exact (gs_ne (Ne.symm (ne_ao h1204 h1150))).trans h1204
  have h1206 : M1100[q254]? = some (.inl (0, 400, .inl (fun _ => 0))) := by rw [← h1102]; exact ga_old h1124
  have h1207 : M1152[q254]? = some (.inl (0, 400, .inl (fun _ => 0))) := by rw [← h1153]; exact (gs_ne (Ne.symm (ne_ao h1206 h1150))).trans h1206
  have h1208 : M1100[q295]? = some (.inl (0, 400, .inl (fun _ => 0))) := by rw [← h1102]; exact ga_old h1126
  have h1209 : M1152[q295]? = some (.inl (0, 400, .inl (fun _ => 0))) := by rw [← h1153]; exact (gs_ne (Ne.symm (ne_ao h1208 h1150))).trans h1208
  have h1210 : M1100[q339]? = some (.inl (0, 120, .inl (fun _ => 0))) := by rw [← h1102]; exact ga_old h1128
  have h1211 : M1152[q339]? = some (.inl (0, 120, .inl (fun _ => 0))) := by rw [← h1153]; exact (gs_ne (Ne.symm (ne_ao h1210 h1150))).trans h1210
  have h1212 : M1100[q386]? = some (.inl (1, 120, .inr (.inl (fun _ => 0)))) := by rw [← h1102]; exact ga_old h1130
  have h1213 : M1152[q386]? = some (.inl (1, 120, .inr (.inl (fun _ => 0)))) := by rw [← h1153]; exact (gs_ne (Ne.symm (ne_ao h1212 h1150))).trans h1212
  have h1214 : M1100[q436]? = some (.inl (0, 14, .inl (fun _ => 0))) := by rw [← h1102]; exact ga_old h1132
  have h1215 : M1152[q436]? = some (.inl (0, 14, .inl (fun _ => 0))) := by rw [← h1153]; exact (gs_ne (Ne.symm (ne_ao h1214 h1150))).trans h1214
  have h1216 : M1100[q489]? = some (.inl (0, 14, .inl (fun _ => 0))) := by rw [← h1102]; exact ga_old h1134
  have h1217 : M1152[q489]? = some (.inl (0, 14, .inl (fun _ => 0))) := by rw [← h1153]; exact (gs_ne (Ne.symm (ne_ao h1216 h1150))).trans h1216
  have h1218 : M1100[q545]? = some (.inl (3, 14, .inl (fun _ => 0))) := by rw [← h1102]; exact ga_old h1136
  have h1219 : M1152[q545]? = some (.inl (3, 14, .inl (fun _ => 0))) := by rw [← h1153]; exact (gs_ne (Ne.symm (ne_ao h1218 h1150))).trans h1218
  have h1220 : M1100[q604]? = some (.inl (0, 80, .inl (fun _ => 0))) := by rw [← h1102]; exact ga_old h1138
  have h1221 : M1152[q604]? = some (.inl (0, 80, .inl (fun _ => 0))) := by rw [← h1153]; exact (gs_ne (Ne.symm (ne_ao h1220 h1150))).trans h1220
  have h1222 : M1100[q666]? = some (.inl (0, 5, .inl (fun _ => 0))) := by rw [← h1102]; exact ga_old h1140
  have h1223 : M1152[q666]? = some (.inl (0, 5, .inl (fun _ => 0))) := by rw [← h1153]; exact (gs_ne (Ne.symm (ne_ao h1222 h1150))).trans h1222
  have h1224 : M1100[q731]? = some (.inl (1, 9900, .inr (.inl (fun _ => 0)))) := by rw [← h1102]; exact ga_old h1142
  have h1225 : M1152[q731]? = some (.inl (1, 9900, .inr (.inl (fun _ => 0)))) := by rw [← h1153]; exact (gs_ne (Ne.symm (ne_ao h1224 h1150))).trans h1224
  have h1226 : M1100[q799]? = some (.inl (0, 1650, .inl (fun _ => 0))) := by rw [← h1102]; exact ga_old h1144
  have h1227 : M1152[q799]? = some (.inl (0, 1650, .inl (fun _ => 0))) := by rw [← h1153]; exact (gs_ne (Ne.symm (ne_ao h1226 h1150))).trans h1226
  have h1228 : M1100[q870]? = some (.inl (0, 11, .inl (fun _ => 0))) := by rw [← h1102]; exact ga_old h1146
  have h1229 : M1152[q870]? = some (.inl (0, 11, .inl (fun _ => 0))) := by rw [← h1153]; exact (gs_ne (Ne.symm (ne_ao h1228 h1150))).trans h1228
  have h1230 : M1100[q944]? = some (.inl (1, 900, .inr (.inl (fun _ => 0)))) := by rw [← h1102]; exact ga_old h1148
  have h1231 : M1152[q944]? = some (.inl (1, 900, .inr (.inl (fun _ => 0)))) := by rw [← h1153]; exact (gs_ne (Ne.symm (ne_ao h1230 h1150))).trans h1230
  have h1232 : M1100[q1021]? = some (.inl (0, 150, .inl (fun _ => 0))) := by rw [← h1102]; exact ga_old h1149
  have h1233 : M1152[q1021]? = some (.inl (0, 150, .inl (fun _ => 0))) := by rw [← h1153]; exact (gs_ne (Ne.symm (ne_ao h1232 h1150))).trans h1232
  have h1234 : M1152[q1101]? = some (.inl (0, 150, .inl (fun _ => 0))) := by rw [← h1153]; exact (gs_ne (Ne.symm (ne_ao h1104 h1150))).trans h1104
  have h1235 : M1183[x0]? = some (.inr (10, (((((((((((((((((((((((((fs10.set 0 (.ref q5)).set 2 (.ref q22)).set 4 (.ref q38)).set 5 (.ref q57)).set 6 (.ref q79)).set 12 (.ref q104)).set 14 (.int (-1))).set 23 (.ref q143)).set 28 (.ref q181)).set 29 (.ref q216)).set 30 (.ref q254)).set 31 (.ref q295)).set 33 (.ref q339)).set 34 (.ref q386)).set 36 (.ref q436)).set 37 (.ref q489)).set 38 (.ref q545)).set 40 (.ref q604)).set 42 (.ref q666)).set 47 (.ref q731)).set 48 (.ref q799)).set 49 (.ref q870)).set 52 (.ref q944)).set 53 (.ref q1021)).set 54 (.ref q1101)))) := by rw [← h1185]; exact ga_old h1154
  have h1236 : 56 < ((((((((((((((((((((((((((fs10.set 0 (.ref q5)).set 2 (.ref q22)).set 4 (.ref q38)).set 5 (.ref q57)).set 6 (.ref q79)).set 12 (.ref q104)).set 14 (.int (-1))).set 23 (.ref q143)).set 28 (.ref q181)).set 29 (.ref q216)).set 30 (.ref q254)).set 31 (.ref q295)).set 33 (.ref q339)).set 34 (.ref q386)).set 36 (.ref q436)).set 37 (.ref q489)).set 38 (.ref q545)).set 40 (.ref q604)).set 42 (.ref q666)).set 47 (.ref q731)).set 48 (.ref q799)).set 49 (.ref q870)).set 52 (.ref q944)).set 53 (.ref q1021)).set 54 (.ref q1101))).length := by first | omega | (simp only [List.length_set]; omega)
  refine pf_Mo_88 ok hin d_Mo_init_216 h1235 h1236 (fun _ => ⟨rfl, rfl⟩) ?_
  rw [h1238]
  have h1239 : M1237[x0]? = some (.inr (10, ((((((((((((((((((((((((((fs10.set 0 (.ref q5)).set 2 (.ref q22)).set 4 (.ref q38)).set 5 (.ref q57)).set 6 (.ref q79)).set 12 (.ref q104)).set 14 (.int (-1))).set 23 (.ref q143)).set 28 (.ref q181)).set 29 (.ref q216)).set 30 (.ref q254)).set 31 (.ref q295)).set 33 (.ref q339)).set 34 (.ref q386)).set 36 (.ref q436)).set 37 (.ref q489)).set 38 (.ref q545)).set 40 (.ref q604)).set 42 (.ref q666)).set 47 (.ref q731)).set 48 (.ref q799)).set 49 (.ref q870)).set 52 (.ref q944)).set 53 (.ref q1021)).set 54 (.ref q1101)).set 56 (.ref q1184)))) := by rw [← h1238]; exact gs_eq h1235
  have h1240 := (List.getElem?_set_ne (a := .ref q1184) (by decide : 56 ≠ 0)).trans h1155
  have h1241 := (List.getElem?_set_ne (a := .ref q1184) (by decide : 56 ≠ 2)).trans h1156
  have h1242 := (List.getElem?_set_ne (a := .ref q1184) (by decide : 56 ≠ 4)).trans h1157
  have h1243 := (List.getElem?_set_ne (a := .ref q1184) (by decide : 56 ≠ 5)).trans h1158
  have h1244 := (List.getElem?_set_ne (a := .ref q1184) (by decide : 56 ≠ 6)).trans h1159
  have h1245 := (List.getElem?_set_ne (a := .ref q1184) (by decide : 56 ≠ 12)).trans h1160
  have h1246 := (List.getElem?_set_ne (a := .ref q1184) (by decide : 56 ≠ 14)).trans h1161
  have h1247 := (List.getElem?_set_ne (a := .ref q1184) (by decide : 56 ≠ 23)).trans h1162
  have h1248 := (List.getElem?_set_ne (a := .ref q1184) (by decide : 56 ≠ 28)).trans h1163
  have h1249 := (List.getElem?_set_ne (a := .ref q1184) (by decide : 56 ≠ 29)).trans h1164
  have h1250 := (List.getElem?_set_ne (a := .ref q1184) (by decide : 56 ≠ 30)).trans h1165
  have h1251 := (List.getElem?_set_ne (a := .ref q1184) (by decide : 56 ≠ 31)).trans h1166
  have h1252 := (List.getElem?_set_ne (a := .ref q1184) (by decide : 56 ≠ 33)).trans h1167
  have h1253 := (List.getElem?_set_ne (a := .ref q1184) (by decide : 56 ≠ 34)).trans h1168
  have h1254 := (List.getElem?_set_ne (a := .ref q1184) (by decide : 56 ≠ 36)).trans h1169
  have h1255 := (List.getElem?_set_ne (a := .ref q1184) (by decide : 56 ≠ 37)).trans h1170
  have h1256 := (List.getElem?_set_ne (a := .ref q1184) (by decide : 56 ≠ 38)).trans h1171
  have h1257 := (List.getElem?_set_ne (a := .ref q1184) (by decide : 56 ≠ 40)).trans h1172
  have h1258 := (List.getElem?_set_ne (a := .ref q1184) (by decide : 56 ≠ 42)).trans h1173
  have h1259 := (List.getElem?_set_ne (a := .ref q1184) (by decide : 56 ≠ 47)).trans h1174
  have h1260 := (List.getElem?_set_ne (a := .ref q1184) (by decide : 56 ≠ 48)).trans h1175
  have h1261 := (List.getElem?_set_ne (a := .ref q1184) (by decide : 56 ≠ 49)).trans h1176
  have h1262 := (List.getElem?_set_ne (a := .ref q1184) (by decide : 56 ≠ 52)).trans h1177
  have h1263 := (List.getElem?_set_ne (a := .ref q1184) (by decide : 56 ≠ 53)).trans h1178
  have h1264 := (List.getElem?_set_ne (a := .ref q1184) (by decide : 56 ≠ 54)).trans h1179
  have h1265 : ((((((((((((((((((((((((((fs10.set 0 (.ref q5)).set 2 (.ref q22)).set 4 (.ref q38)).set 5 (.ref q57)).set 6 (.ref q79)).set 12 (.ref q104)).set 14 (.int (-1))).set 23 (.ref q143)).set 28 (.ref q181)).set 29 (.ref q216)).set 30 (.ref q254)).set 31 (.ref q295)).set 33 (.ref q339)).set 34 (.ref q386)).set 36 (.ref q436)).set 37 (.ref q489)).set 38 (.ref q545)).set 40 (.ref q604)).set 42 (.ref q666)).set 47 (.ref q731)).set 48 (.ref q799)).set 49 (.ref q870)).set 52 (.ref q944)).set 53 (.ref q1021)).set 54 (.ref q1101)).set 56 (.ref q1184))[56]? = some (.ref q1184) := List.getElem?_set_self h1236
  exact g_vret ok E d_Mo_init_219 hp hk hn
theorem k_Mo_thrown_0 {X : gC} {M : List mC} {k n : Nat} {x0 : Nat} {fs2 : List Value} {f3 : Int32} (ok : gO X c_Mo_thrown "TripleStoreModel" w_Mo_thrown) (h1 : M[x0]? = some (.inr (10, fs2))) (h4 : fs2[58]? = some (.int f3)) {l9 : Launch} {rm : Room} {M0 : List mC} {post : Option Value → List mC → Prop} (E : gE X l9 y_Mo_thrown rm 1 (some .int) M0 post) (hp : post (some (.int f3)) M) (hk : k ≤ rm.cells) (hn : n ≤ rm.slots) : gg X M k n 0 [(0, .ref x0)] [] := by
  refine g_aload_n ok d_Mo_thrown_0 rfl (j := 0) rfl ?_
  refine gf_Mo_91 ok d_Mo_thrown_1 h1 h4 ?_
  exact g_iret ok E d_Mo_thrown_4 hp hk hn
theorem k_Mo_in_0 {X : gC} {M : List mC} {k n : Nat} {x0 : Int32} {x1 : Int32} {x2 : Int32} (ok : gO X c_Mo_in "TripleStoreModel" w_Mo_in)  (kt : x0 < x1 → gg X M k n 14 [] []) (kf : ¬ x0 < x1 → gg X M k n 5 [(0, .int x0), (2, .int x2)] []) : gg X M k n 0 [(0, .int x0), (1, .int x1), (2, .int x2)] [] := by
  refine g_iload_n ok d_Mo_in_0 rfl (j := 0) rfl ?_
  refine g_iload_n ok d_Mo_in_1 rfl (j := 1) rfl ?_
  exact g_icmp_lt (tgt := 14) ok d_Mo_in_2 (by decide) (fun z => (gg_keep [] (kt z))) (fun z => (gg_keep [0, 2] (kf z)))
theorem k_Mo_in_5 {X : gC} {M : List mC} {k n : Nat} {x0 : Int32} {x2 : Int32} (ok : gO X c_Mo_in "TripleStoreModel" w_Mo_in)  (kt : x2 < x0 → gg X M k n 14 [] []) (kf : ¬ x2 < x0 → gg X M k n 10 [] []) : gg X M k n 5 [(0, .int x0), (2, .int x2)] [] := by
  refine g_iload_n ok d_Mo_in_5 rfl (j := 0) rfl ?_
  refine g_iload_n ok d_Mo_in_6 rfl (j := 1) rfl ?_
  exact g_icmp_gt (tgt := 14) ok d_Mo_in_7 (by decide) (fun z => (gg_keep [] (kt z))) (fun z => (gg_keep [] (kf z)))
theorem k_Mo_in_10 {X : gC} {M : List mC} {k n : Nat}  (ok : gO X c_Mo_in "TripleStoreModel" w_Mo_in)  (kk : gg X M k n 15 [] [.int 1]) : gg X M k n 10 [] [] := by
  refine g_iconst (v := 1) ok d_Mo_in_10 (by decide) ?_
  exact g_goto (tgt := 15) ok d_Mo_in_11 (by decide) kk
theorem k_Mo_in_14 {X : gC} {M : List mC} {k n : Nat}  (ok : gO X c_Mo_in "TripleStoreModel" w_Mo_in)  (kk : gg X M k n 15 [] [.int 0]) : gg X M k n 14 [] [] := by
  refine g_iconst (v := 0) ok d_Mo_in_14 (by decide) ?_
  exact kk
theorem k_Mo_in_15 {X : gC} {M : List mC} {k n : Nat} {s0 : Int32} (ok : gO X c_Mo_in "TripleStoreModel" w_Mo_in)  {l9 : Launch} {rm : Room} {M0 : List mC} {post : Option Value → List mC → Prop} (E : gE X l9 y_Mo_in rm 3 (some .boolean) M0 post) (hz : narrow .boolean (.int s0) = .int s0) (hp : post (some (.int s0)) M) (hk : k ≤ rm.cells) (hn : n ≤ rm.slots) : gg X M k n 15 [] [.int s0] := by
  exact g_zret ok E d_Mo_in_15 hz hp hk hn
theorem k_Mo_good_0 {X : gC} {M : List mC} {k n : Nat} {x0 : Nat} {x1 : Int32} {x2 : Int32} (ok : gO X c_Mo_good "TripleStoreModel" w_Mo_good)  (kt : x1 = 0 → gg X M k n 9 [(0, .ref x0), (1, .int x1), (2, .int x2)] [.ref x0]) (kf : ¬ x1 = 0 → gg X M k n 5 [(0, .ref x0), (1, .int x1)] [.ref x0]) : gg X M k n 0 [(0, .ref x0), (1, .int x1), (2, .int x2)] [] := by
  refine g_aload_n ok d_Mo_good_0 rfl (j := 0) rfl ?_
  refine g_iload_n ok d_Mo_good_1 rfl (j := 1) rfl ?_
  exact g_if_eq (tgt := 9) ok d_Mo_good_2 (by decide) (fun z => (kt z)) (fun z => (gg_keep [0, 1] (kf z)))
theorem k_Mo_good_5 {X : gC} {M : List mC} {k n : Nat} {x0 : Nat} {x1 : Int32} (ok : gO X c_Mo_good "TripleStoreModel" w_Mo_good)  (kk : gg X M k n 10 [(0, .ref x0), (1, .int x1)] [.int 0, .ref x0]) : gg X M k n 5 [(0, .ref x0), (1, .int x1)] [.ref x0] := by
  refine g_iconst (v := 0) ok d_Mo_good_5 (by decide) ?_
  exact g_goto (tgt := 10) ok d_Mo_good_6 (by decide) kk
theorem k_Mo_good_9 {X : gC} {M : List mC} {k n : Nat} {x0 : Nat} {x1 : Int32} {x2 : Int32} (ok : gO X c_Mo_good "TripleStoreModel" w_Mo_good)  (kk : gg X M k n 10 [(0, .ref x0), (1, .int x1)] [.int x2, .ref x0]) : gg X M k n 9 [(0, .ref x0), (1, .int x1), (2, .int x2)] [.ref x0] := by
  refine g_iload_n ok d_Mo_good_9 rfl (j := 2) rfl ?_
  exact (gg_keep [0, 1] kk)
theorem k_Mo_good_10 {X : gC} {M : List mC} {k n : Nat} {x0 : Nat} {x1 : Int32} {s1 : Int32} {fs2 : List Value} {M5 : List mC} (ok : gO X c_Mo_good "TripleStoreModel" w_Mo_good) (h1 : M[x0]? = some (.inr (10, fs2))) (h4 : 59 ≤ fs2.length) (h6 : M.set x0 (.inr (10, (fs2.set 58 (.int s1)))) = M5) {l9 : Launch} {rm : Room} {M0 : List mC} {post : Option Value → List mC → Prop} (E : gE X l9 y_Mo_good rm 3 (some .boolean) M0 post) (hz : narrow .boolean (.int x1) = .int x1) (hp : post (some (.int x1)) M5) (hk : k ≤ rm.cells) (hn : n ≤ rm.slots) : gg X M k n 10 [(0, .ref x0), (1, .int x1)] [.int s1, .ref x0] := by
  have h3 : 58 < (fs2).length := by first | omega | (simp only [List.length_set]; omega)
  refine pf_Mo_91 ok d_Mo_good_10 h1 h3 (fun _ => ⟨rfl, rfl⟩) ?_
  rw [h6]
  have h7 : M5[x0]? = some (.inr (10, (fs2.set 58 (.int s1)))) := by rw [← h6]; exact gs_eq h1
  have h8 : (fs2.set 58 (.int s1))[58]? = some (.int s1) := List.getElem?_set_self h3
  refine g_iload_n ok d_Mo_good_13 rfl (j := 1) rfl ?_
  exact g_zret ok E d_Mo_good_14 hz hp hk hn
theorem k_Mo_isWord_0 {X : gC} {M : List mC} {k n : Nat} {x0 : Int64} (ok : gO X c_Mo_isWord "TripleStoreModel" w_Mo_isWord)  (kt : 0 < x0 → gg X M k n 8 [(0, .long x0)] []) (kf : ¬ 0 < x0 → gg X M k n 6 [] []) : gg X M k n 0 [(0, .long x0)] [] := by
  refine g_lload_n ok d_Mo_isWord_0 rfl (j := 0) rfl ?_
  refine g_lconst (v := 0) ok d_Mo_isWord_1 (by decide) ?_
  exact g_lc_gt (tgt := 8) ok d_Mo_isWord_2 d_Mo_isWord_3 (by decide) (fun z => (kt z)) (fun z => (gg_keep [] (kf z)))
theorem k_Mo_isWord_6 {X : gC} {M : List mC} {k n : Nat}  (ok : gO X c_Mo_isWord "TripleStoreModel" w_Mo_isWord)  {l9 : Launch} {rm : Room} {M0 : List mC} {post : Option Value → List mC → Prop} (E : gE X l9 y_Mo_isWord rm 5 (some .boolean) M0 post) (hp : post (some (.int 0)) M) (hk : k ≤ rm.cells) (hn : n ≤ rm.slots) : gg X M k n 6 [] [] := by
  refine g_iconst (v := 0) ok d_Mo_isWord_6 (by decide) ?_
  exact g_zret ok E d_Mo_isWord_7 rfl hp hk hn
theorem k_Mo_isWord_8 {X : gC} {M : List mC} {k n : Nat} {x0 : Int64} (ok : gO X c_Mo_isWord "TripleStoreModel" w_Mo_isWord) (hl : gL X = 5)  (kk : gg X M k n 12 [(0, .long x0), (2, .int 0), (3, .int 0)] []) : gg X M k n 8 [(0, .long x0)] [] := by
  refine g_iconst (v := 0) ok d_Mo_isWord_8 (by decide) ?_
  refine g_istore_n (L' := [(0, .long x0), (2, .int 0)]) ok d_Mo_isWord_9 rfl (by rw [hl]; decide) rfl ?_
  refine g_iconst (v := 0) ok d_Mo_isWord_10 (by decide) ?_
  refine g_istore_n (L' := [(0, .long x0), (2, .int 0), (3, .int 0)]) ok d_Mo_isWord_11 rfl (by rw [hl]; decide) rfl ?_
  exact kk
theorem k_Mo_isWord_12 {X : gC} {M : List mC} {k n : Nat} {x0 : Int64} {x2 : Int32} {x3 : Int32} (ok : gO X c_Mo_isWord "TripleStoreModel" w_Mo_isWord)  (kt : 8 ≤ x3 → gg X M k n 74 [] []) (kf : ¬ 8 ≤ x3 → gg X M k n 18 [(0, .long x0), (2, .int x2), (3, .int x3)] []) : gg X M k n 12 [(0, .long x0), (2, .int x2), (3, .int x3)] [] := by
  refine g_iload_n ok d_Mo_isWord_12 rfl (j := 2) rfl ?_
  refine g_bipush (v := 8) ok d_Mo_isWord_13 (by decide) ?_
  exact g_icmp_ge (tgt := 74) ok d_Mo_isWord_15 (by decide) (fun z => (gg_keep [] (kt z))) (fun z => (kf z))
theorem k_Mo_isWord_18 {X : gC} {M : List mC} {k n : Nat} {x0 : Int64} {x2 : Int32} {x3 : Int32} (ok : gO X c_Mo_isWord "TripleStoreModel" w_Mo_isWord) (hl : gL X = 5)  (kt : ¬ ((((x0 >>> (((8 * x3) : Int32).toInt64 &&& 63)) : Int64).toInt32) &&& 255) = 0 → gg X M k n 43 [(0, .long x0), (2, .int x2), (3, .int x3), (4, .int ((((x0 >>> (((8 * x3) : Int32).toInt64 &&& 63)) : Int64).toInt32) &&& 255))] []) (kf : ((((x0 >>> (((8 * x3) : Int32).toInt64 &&& 63)) : Int64).toInt32) &&& 255) = 0 → gg X M k n 36 [(0, .long x0), (2, .int x2), (3, .int x3), (4, .int ((((x0 >>> (((8 * x3) : Int32).toInt64 &&& 63)) : Int64).toInt32) &&& 255))] []) : gg X M k n 18 [(0, .long x0), (2, .int x2), (3, .int x3)] [] := by
  refine g_lload_n ok d_Mo_isWord_18 rfl (j := 0) rfl ?_
  refine g_bipush (v := 8) ok d_Mo_isWord_19 (by decide) ?_
  refine g_iload_n ok d_Mo_isWord_21 rfl (j := 2) rfl ?_
  refine g_imul ok d_Mo_isWord_22 ?_
  refine g_lshr ok d_Mo_isWord_23 ?_
  refine g_l2i ok d_Mo_isWord_24 ?_
  refine g_sipush (v := 255) ok d_Mo_isWord_25 (by decide) ?_
  refine g_iand ok d_Mo_isWord_28 ?_
  refine g_istore (L' := [(0, .long x0), (2, .int x2), (3, .int x3), (4, .int ((((x0 >>> (((8 * x3) : Int32).toInt64 &&& 63)) : Int64).toInt32) &&& 255))]) ok d_Mo_isWord_29 (by rw [hl]; decide) rfl ?_
  refine g_iload ok d_Mo_isWord_31 (j := 3) rfl ?_
  exact g_if_ne (tgt := 43) ok d_Mo_isWord_33 (by decide) (fun z => (kt z)) (fun z => (kf z))
theorem k_Mo_isWord_36 {X : gC} {M : List mC} {k n : Nat} {x0 : Int64} {x2 : Int32} {x3 : Int32} {x4 : Int32} (ok : gO X c_Mo_isWord "TripleStoreModel" w_Mo_isWord)  (kt : ¬ x3 = 0 → gg X M k n 61 [(0, .long x0), (2, .int x2), (3, .int x3), (4, .int x4)] []) (kf : x3 = 0 → gg X M k n 40 [] []) : gg X M k n 36 [(0, .long x0), (2, .int x2), (3, .int x3), (4, .int x4)] [] := by
  refine g_iload_n ok d_Mo_isWord_36 rfl (j := 2) rfl ?_
  exact g_if_ne (tgt := 61) ok d_Mo_isWord_37 (by decide) (fun z => (kt z)) (fun z => (gg_keep [] (kf z)))
theorem k_Mo_isWord_40 {X : gC} {M : List mC} {k n : Nat}  (ok : gO X c_Mo_isWord "TripleStoreModel" w_Mo_isWord)  (kk : gg X M k n 59 [] []) : gg X M k n 40 [] [] := by
  exact g_goto (tgt := 59) ok d_Mo_isWord_40 (by decide) kk
theorem k_Mo_isWord_43 {X : gC} {M : List mC} {k n : Nat} {x0 : Int64} {x2 : Int32} {x3 : Int32} {x4 : Int32} (ok : gO X c_Mo_isWord "TripleStoreModel" w_Mo_isWord)  (kt : ¬ x2 = 0 → gg X M k n 59 [] []) (kf : x2 = 0 → gg X M k n 47 [(0, .long x0), (2, .int x2), (3, .int x3), (4, .int x4)] []) : gg X M k n 43 [(0, .long x0), (2, .int x2), (3, .int x3), (4, .int x4)] [] := by
  refine g_iload_n ok d_Mo_isWord_43 rfl (j := 1) rfl ?_
  exact g_if_ne (tgt := 59) ok d_Mo_isWord_44 (by decide) (fun z => (gg_keep [] (kt z))) (fun z => (kf z))
theorem k_Mo_isWord_47 {X : gC} {M : List mC} {k n : Nat} {x0 : Int64} {x2 : Int32} {x3 : Int32} {x4 : Int32} (ok : gO X c_Mo_isWord "TripleStoreModel" w_Mo_isWord)  {rm : Room} {post : Option Value → List mC → Prop} (hm : mm_ (gLa X) y_Mo_in w_Mo_in rm [.int x4, .int 97, .int 122] M post) (hR : gF X rm 3 k n) (hlen : ∀ r M', post r M' → M'.length = M.length) (kk : ∀ r M', post r M' → gg X M' (k + rm.cells) (n + rm.slots) 56 [(0, .long x0), (2, .int x2), (3, .int x3), (4, .int x4)] (r.toList ++ [])) : gg X M k n 47 [(0, .long x0), (2, .int x2), (3, .int x3), (4, .int x4)] [] := by
  refine g_iload ok d_Mo_isWord_47 (j := 3) rfl ?_
  refine g_bipush (v := 97) ok d_Mo_isWord_49 (by decide) ?_
  refine g_bipush (v := 122) ok d_Mo_isWord_51 (by decide) ?_
  exact gc_Mo_94 (As := [.int x4, .int 97, .int 122]) (rest := []) ok d_Mo_isWord_53 hm rfl rfl (Nat.le_of_ble_eq_true rfl) hR hlen kk
theorem k_Mo_isWord_56 {X : gC} {M : List mC} {k n : Nat} {x0 : Int64} {x2 : Int32} {x3 : Int32} {x4 : Int32} {s0 : Int32} (ok : gO X c_Mo_isWord "TripleStoreModel" w_Mo_isWord)  (kt : ¬ s0 = 0 → gg X M k n 61 [(0, .long x0), (2, .int x2), (3, .int x3), (4, .int x4)] []) (kf : s0 = 0 → gg X M k n 59 [] []) : gg X M k n 56 [(0, .long x0), (2, .int x2), (3, .int x3), (4, .int x4)] [.int s0] := by
  exact g_if_ne (tgt := 61) ok d_Mo_isWord_56 (by decide) (fun z => (kt z)) (fun z => (gg_keep [] (kf z)))
theorem k_Mo_isWord_59 {X : gC} {M : List mC} {k n : Nat}  (ok : gO X c_Mo_isWord "TripleStoreModel" w_Mo_isWord)  {l9 : Launch} {rm : Room} {M0 : List mC} {post : Option Value → List mC → Prop} (E : gE X l9 y_Mo_isWord rm 5 (some .boolean) M0 post) (hp : post (some (.int 0)) M) (hk : k ≤ rm.cells) (hn : n ≤ rm.slots) : gg X M k n 59 [] [] := by
  refine g_iconst (v := 0) ok d_Mo_isWord_59 (by decide) ?_
  exact g_zret ok E d_Mo_isWord_60 rfl hp hk hn
theorem k_Mo_isWord_61 {X : gC} {M : List mC} {k n : Nat} {x0 : Int64} {x2 : Int32} {x3 : Int32} {x4 : Int32} (ok : gO X c_Mo_isWord "TripleStoreModel" w_Mo_isWord)  (kt : ¬ x4 = 0 → gg X M k n 68 [(0, .long x0), (2, .int x2), (3, .int x3)] []) (kf : x4 = 0 → gg X M k n 66 [(0, .long x0), (3, .int x3)] []) : gg X M k n 61 [(0, .long x0), (2, .int x2), (3, .int x3), (4, .int x4)] [] := by
  refine g_iload ok d_Mo_isWord_61 (j := 3) rfl ?_
  exact g_if_ne (tgt := 68) ok d_Mo_isWord_63 (by decide) (fun z => (gg_keep [0, 2, 3] (kt z))) (fun z => (gg_keep [0, 3] (kf z)))
theorem k_Mo_isWord_66 {X : gC} {M : List mC} {k n : Nat} {x0 : Int64} {x3 : Int32} (ok : gO X c_Mo_isWord "TripleStoreModel" w_Mo_isWord) (hl : gL X = 5)  (kk : gg X M k n 68 [(0, .long x0), (2, .int 1), (3, .int x3)] []) : gg X M k n 66 [(0, .long x0), (3, .int x3)] [] := by
  refine g_iconst (v := 1) ok d_Mo_isWord_66 (by decide) ?_
  refine g_istore_n (L' := [(0, .long x0), (2, .int 1), (3, .int x3)]) ok d_Mo_isWord_67 rfl (by rw [hl]; decide) rfl ?_
  exact kk
theorem k_Mo_isWord_68 {X : gC} {M : List mC} {k n : Nat} {x0 : Int64} {x2 : Int32} {x3 : Int32} (ok : gO X c_Mo_isWord "TripleStoreModel" w_Mo_isWord) (hl : gL X = 5)  (kk : gg X M k n 12 [(0, .long x0), (2, .int x2), (3, .int (x3 + 1))] []) : gg X M k n 68 [(0, .long x0), (2, .int x2), (3, .int x3)] [] := by
  refine g_iinc (L' := [(0, .long x0), (2, .int x2), (3, .int (x3 + 1))]) (v := (x3 + 1)) ok d_Mo_isWord_68 (j := 2) rfl rfl (by rw [hl]; decide) rfl ?_
  exact g_goto (tgt := 12) ok d_Mo_isWord_71 (by decide) kk
theorem k_Mo_isWord_74 {X : gC} {M : List mC} {k n : Nat}  (ok : gO X c_Mo_isWord "TripleStoreModel" w_Mo_isWord)  {l9 : Launch} {rm : Room} {M0 : List mC} {post : Option Value → List mC → Prop} (E : gE X l9 y_Mo_isWord rm 5 (some .boolean) M0 post) (hp : post (some (.int 1)) M) (hk : k ≤ rm.cells) (hn : n ≤ rm.slots) : gg X M k n 74 [] [] := by
  refine g_iconst (v := 1) ok d_Mo_isWord_74 (by decide) ?_
  exact g_zret ok E d_Mo_isWord_75 rfl hp hk hn
theorem k_Mo_isNumber_0 {X : gC} {M : List mC} {k n : Nat} {x0 : Int64} (ok : gO X c_Mo_isNumber "TripleStoreModel" w_Mo_isNumber)  (kt : (-1) < x0 → gg X M k n 20 [] []) (kf : ¬ (-1) < x0 → gg X M k n 8 [(0, .long x0)] []) : gg X M k n 0 [(0, .long x0)] [] := by
  refine g_lload_n ok d_Mo_isNumber_0 rfl (j := 0) rfl ?_
  refine g_ldc2 (v := (-1)) ok (List.mem_cons_of_mem _ (gT_at 1174 (by decide +kernel) (by decide +kernel))) d_Mo_isNumber_1 ?_
  exact g_lc_gt (tgt := 20) ok d_Mo_isNumber_4 d_Mo_isNumber_5 (by decide) (fun z => (gg_keep [] (kt z))) (fun z => (kf z))
theorem k_Mo_isNumber_8 {X : gC} {M : List mC} {k n : Nat} {x0 : Int64} (ok : gO X c_Mo_isNumber "TripleStoreModel" w_Mo_isNumber)  (kt : x0 < (-10000) → gg X M k n 20 [] []) (kf : ¬ x0 < (-10000) → gg X M k n 16 [] []) : gg X M k n 8 [(0, .long x0)] [] := by
  refine g_lload_n ok d_Mo_isNumber_8 rfl (j := 0) rfl ?_
  refine g_ldc2 (v := (-10000)) ok (List.mem_cons_of_mem _ (gT_at 1175 (by decide +kernel) (by decide +kernel))) d_Mo_isNumber_9 ?_
  exact g_lc_lt (tgt := 20) ok d_Mo_isNumber_12 d_Mo_isNumber_13 (by decide) (fun z => (gg_keep [] (kt z))) (fun z => (gg_keep [] (kf z)))
theorem k_Mo_isNumber_16 {X : gC} {M : List mC} {k n : Nat}  (ok : gO X c_Mo_isNumber "TripleStoreModel" w_Mo_isNumber)  (kk : gg X M k n 21 [] [.int 1]) : gg X M k n 16 [] [] := by
  refine g_iconst (v := 1) ok d_Mo_isNumber_16 (by decide) ?_
  exact g_goto (tgt := 21) ok d_Mo_isNumber_17 (by decide) kk
theorem k_Mo_isNumber_20 {X : gC} {M : List mC} {k n : Nat}  (ok : gO X c_Mo_isNumber "TripleStoreModel" w_Mo_isNumber)  (kk : gg X M k n 21 [] [.int 0]) : gg X M k n 20 [] [] := by
  refine g_iconst (v := 0) ok d_Mo_isNumber_20 (by decide) ?_
  exact kk
theorem k_Mo_isNumber_21 {X : gC} {M : List mC} {k n : Nat} {s0 : Int32} (ok : gO X c_Mo_isNumber "TripleStoreModel" w_Mo_isNumber)  {l9 : Launch} {rm : Room} {M0 : List mC} {post : Option Value → List mC → Prop} (E : gE X l9 y_Mo_isNumber rm 2 (some .boolean) M0 post) (hz : narrow .boolean (.int s0) = .int s0) (hp : post (some (.int s0)) M) (hk : k ≤ rm.cells) (hn : n ≤ rm.slots) : gg X M k n 21 [] [.int s0] := by
  exact g_zret ok E d_Mo_isNumber_21 hz hp hk hn
theorem k_Mo_compare_0 {X : gC} {M : List mC} {k n : Nat} {x0 : Int64} {x2 : Int64} (ok : gO X c_Mo_compare "TripleStoreModel" w_Mo_compare)  (kt : ¬ x0 = x2 → gg X M k n 8 [(0, .long x0), (2, .long x2)] []) (kf : x0 = x2 → gg X M k n 6 [] []) : gg X M k n 0 [(0, .long x0), (2, .long x2)] [] := by
  refine g_lload_n ok d_Mo_compare_0 rfl (j := 0) rfl ?_
  refine g_lload_n ok d_Mo_compare_1 rfl (j := 1) rfl ?_
  exact g_lc_ne (tgt := 8) ok d_Mo_compare_2 d_Mo_compare_3 (by decide) (fun z => (kt z)) (fun z => (gg_keep [] (kf z)))
theorem k_Mo_compare_6 {X : gC} {M : List mC} {k n : Nat}  (ok : gO X c_Mo_compare "TripleStoreModel" w_Mo_compare)  {l9 : Launch} {rm : Room} {M0 : List mC} {post : Option Value → List mC → Prop} (E : gE X l9 y_Mo_compare rm 8 (some .int) M0 post) (hp : post (some (.int 0)) M) (hk : k ≤ rm.cells) (hn : n ≤ rm.slots) : gg X M k n 6 [] [] := by
  refine g_iconst (v := 0) ok d_Mo_compare_6 (by decide) ?_
  exact g_iret ok E d_Mo_compare_7 hp hk hn
theorem k_Mo_compare_8 {X : gC} {M : List mC} {k n : Nat} {x0 : Int64} {x2 : Int64} (ok : gO X c_Mo_compare "TripleStoreModel" w_Mo_compare)  (kt : x0 < 0 → gg X M k n 20 [(0, .long x0), (2, .long x2)] []) (kf : ¬ x0 < 0 → gg X M k n 14 [(0, .long x0), (2, .long x2)] []) : gg X M k n 8 [(0, .long x0), (2, .long x2)] [] := by
  refine g_lload_n ok d_Mo_compare_8 rfl (j := 0) rfl ?_
  refine g_lconst (v := 0) ok d_Mo_compare_9 (by decide) ?_
  exact g_lc_lt (tgt := 20) ok d_Mo_compare_10 d_Mo_compare_11 (by decide) (fun z => (kt z)) (fun z => (kf z))
theorem k_Mo_compare_14 {X : gC} {M : List mC} {k n : Nat} {x0 : Int64} {x2 : Int64} (ok : gO X c_Mo_compare "TripleStoreModel" w_Mo_compare)  (kt : 0 ≤ x2 → gg X M k n 56 [(0, .long x0), (2, .long x2)] []) (kf : ¬ 0 ≤ x2 → gg X M k n 20 [(0, .long x0), (2, .long x2)] []) : gg X M k n 14 [(0, .long x0), (2, .long x2)] [] := by
  refine g_lload_n ok d_Mo_compare_14 rfl (j := 1) rfl ?_
  refine g_lconst (v := 0) ok d_Mo_compare_15 (by decide) ?_
  exact g_lc_ge (tgt := 56) ok d_Mo_compare_16 d_Mo_compare_17 (by decide) (fun z => (kt z)) (fun z => (kf z))
theorem k_Mo_compare_20 {X : gC} {M : List mC} {k n : Nat} {x0 : Int64} {x2 : Int64} (ok : gO X c_Mo_compare "TripleStoreModel" w_Mo_compare)  (kt : 0 ≤ x0 → gg X M k n 44 [(0, .long x0)] []) (kf : ¬ 0 ≤ x0 → gg X M k n 26 [(0, .long x0), (2, .long x2)] []) : gg X M k n 20 [(0, .long x0), (2, .long x2)] [] := by
  refine g_lload_n ok d_Mo_compare_20 rfl (j := 0) rfl ?_
  refine g_lconst (v := 0) ok d_Mo_compare_21 (by decide) ?_
  exact g_lc_ge (tgt := 44) ok d_Mo_compare_22 d_Mo_compare_23 (by decide) (fun z => (gg_keep [0] (kt z))) (fun z => (kf z))
theorem k_Mo_compare_26 {X : gC} {M : List mC} {k n : Nat} {x0 : Int64} {x2 : Int64} (ok : gO X c_Mo_compare "TripleStoreModel" w_Mo_compare)  (kt : 0 ≤ x2 → gg X M k n 44 [(0, .long x0)] []) (kf : ¬ 0 ≤ x2 → gg X M k n 32 [(0, .long x0), (2, .long x2)] []) : gg X M k n 26 [(0, .long x0), (2, .long x2)] [] := by
  refine g_lload_n ok d_Mo_compare_26 rfl (j := 1) rfl ?_
  refine g_lconst (v := 0) ok d_Mo_compare_27 (by decide) ?_
  exact g_lc_ge (tgt := 44) ok d_Mo_compare_28 d_Mo_compare_29 (by decide) (fun z => (gg_keep [0] (kt z))) (fun z => (kf z))
theorem k_Mo_compare_32 {X : gC} {M : List mC} {k n : Nat} {x0 : Int64} {x2 : Int64} (ok : gO X c_Mo_compare "TripleStoreModel" w_Mo_compare)  (kt : x0 ≤ x2 → gg X M k n 42 [] []) (kf : ¬ x0 ≤ x2 → gg X M k n 38 [] []) : gg X M k n 32 [(0, .long x0), (2, .long x2)] [] := by
  refine g_lload_n ok d_Mo_compare_32 rfl (j := 0) rfl ?_
  refine g_lload_n ok d_Mo_compare_33 rfl (j := 1) rfl ?_
  exact g_lc_le (tgt := 42) ok d_Mo_compare_34 d_Mo_compare_35 (by decide) (fun z => (gg_keep [] (kt z))) (fun z => (gg_keep [] (kf z)))
theorem k_Mo_compare_38 {X : gC} {M : List mC} {k n : Nat}  (ok : gO X c_Mo_compare "TripleStoreModel" w_Mo_compare)  (kk : gg X M k n 43 [] [.int (-1)]) : gg X M k n 38 [] [] := by
  refine g_iconst (v := (-1)) ok d_Mo_compare_38 (by decide) ?_
  exact g_goto (tgt := 43) ok d_Mo_compare_39 (by decide) kk
theorem k_Mo_compare_42 {X : gC} {M : List mC} {k n : Nat}  (ok : gO X c_Mo_compare "TripleStoreModel" w_Mo_compare)  (kk : gg X M k n 43 [] [.int 1]) : gg X M k n 42 [] [] := by
  refine g_iconst (v := 1) ok d_Mo_compare_42 (by decide) ?_
  exact kk
theorem k_Mo_compare_43 {X : gC} {M : List mC} {k n : Nat} {s0 : Int32} (ok : gO X c_Mo_compare "TripleStoreModel" w_Mo_compare)  {l9 : Launch} {rm : Room} {M0 : List mC} {post : Option Value → List mC → Prop} (E : gE X l9 y_Mo_compare rm 8 (some .int) M0 post) (hp : post (some (.int s0)) M) (hk : k ≤ rm.cells) (hn : n ≤ rm.slots) : gg X M k n 43 [] [.int s0] := by
  exact g_iret ok E d_Mo_compare_43 hp hk hn
theorem k_Mo_compare_44 {X : gC} {M : List mC} {k n : Nat} {x0 : Int64} (ok : gO X c_Mo_compare "TripleStoreModel" w_Mo_compare)  (kt : 0 ≤ x0 → gg X M k n 54 [] []) (kf : ¬ 0 ≤ x0 → gg X M k n 50 [] []) : gg X M k n 44 [(0, .long x0)] [] := by
  refine g_lload_n ok d_Mo_compare_44 rfl (j := 0) rfl ?_
  refine g_lconst (v := 0) ok d_Mo_compare_45 (by decide) ?_
  exact g_lc_ge (tgt := 54) ok d_Mo_compare_46 d_Mo_compare_47 (by decide) (fun z => (gg_keep [] (kt z))) (fun z => (gg_keep [] (kf z)))
theorem k_Mo_compare_50 {X : gC} {M : List mC} {k n : Nat}  (ok : gO X c_Mo_compare "TripleStoreModel" w_Mo_compare)  (kk : gg X M k n 55 [] [.int (-1)]) : gg X M k n 50 [] [] := by
  refine g_iconst (v := (-1)) ok d_Mo_compare_50 (by decide) ?_
  exact g_goto (tgt := 55) ok d_Mo_compare_51 (by decide) kk
theorem k_Mo_compare_54 {X : gC} {M : List mC} {k n : Nat}  (ok : gO X c_Mo_compare "TripleStoreModel" w_Mo_compare)  (kk : gg X M k n 55 [] [.int 1]) : gg X M k n 54 [] [] := by
  refine g_iconst (v := 1) ok d_Mo_compare_54 (by decide) ?_
  exact kk
theorem k_Mo_compare_55 {X : gC} {M : List mC} {k n : Nat} {s0 : Int32} (ok : gO X c_Mo_compare "TripleStoreModel" w_Mo_compare)  {l9 : Launch} {rm : Room} {M0 : List mC} {post : Option Value → List mC → Prop} (E : gE X l9 y_Mo_compare rm 8 (some .int) M0 post) (hp : post (some (.int s0)) M) (hk : k ≤ rm.cells) (hn : n ≤ rm.slots) : gg X M k n 55 [] [.int s0] := by
  exact g_iret ok E d_Mo_compare_55 hp hk hn
theorem k_Mo_compare_56 {X : gC} {M : List mC} {k n : Nat} {x0 : Int64} {x2 : Int64} (ok : gO X c_Mo_compare "TripleStoreModel" w_Mo_compare) (hl : gL X = 8)  (kk : gg X M k n 62 [(4, .long x0), (6, .long x2)] []) : gg X M k n 56 [(0, .long x0), (2, .long x2)] [] := by
  refine g_lload_n ok d_Mo_compare_56 rfl (j := 0) rfl ?_
  refine g_lstore (L' := [(0, .long x0), (2, .long x2), (4, .long x0)]) ok d_Mo_compare_57 (by rw [hl]; decide) rfl ?_
  refine g_lload_n ok d_Mo_compare_59 rfl (j := 1) rfl ?_
  refine g_lstore (L' := [(0, .long x0), (2, .long x2), (4, .long x0), (6, .long x2)]) ok d_Mo_compare_60 (by rw [hl]; decide) rfl ?_
  exact (gg_keep [4, 6] kk)
theorem k_Mo_compare_62 {X : gC} {M : List mC} {k n : Nat} {x4 : Int64} {x6 : Int64} (ok : gO X c_Mo_compare "TripleStoreModel" w_Mo_compare)  (kt : ¬ (x4 >>> ((56 : Int32).toInt64 &&& 63)) = 0 → gg X M k n 82 [(4, .long x4), (6, .long x6)] []) (kf : (x4 >>> ((56 : Int32).toInt64 &&& 63)) = 0 → gg X M k n 72 [(4, .long x4), (6, .long x6)] []) : gg X M k n 62 [(4, .long x4), (6, .long x6)] [] := by
  refine g_lload ok d_Mo_compare_62 (j := 0) rfl ?_
  refine g_bipush (v := 56) ok d_Mo_compare_64 (by decide) ?_
  refine g_lshr ok d_Mo_compare_66 ?_
  refine g_lconst (v := 0) ok d_Mo_compare_67 (by decide) ?_
  exact g_lc_ne (tgt := 82) ok d_Mo_compare_68 d_Mo_compare_69 (by decide) (fun z => (kt z)) (fun z => (kf z))
theorem k_Mo_compare_72 {X : gC} {M : List mC} {k n : Nat} {x4 : Int64} {x6 : Int64} (ok : gO X c_Mo_compare "TripleStoreModel" w_Mo_compare) (hl : gL X = 8)  (kk : gg X M k n 62 [(4, .long (x4 <<< ((8 : Int32).toInt64 &&& 63))), (6, .long x6)] []) : gg X M k n 72 [(4, .long x4), (6, .long x6)] [] := by
  refine g_lload ok d_Mo_compare_72 (j := 0) rfl ?_
  refine g_bipush (v := 8) ok d_Mo_compare_74 (by decide) ?_
  refine g_lshl ok d_Mo_compare_76 ?_
  refine g_lstore (L' := [(4, .long (x4 <<< ((8 : Int32).toInt64 &&& 63))), (6, .long x6)]) ok d_Mo_compare_77 (by rw [hl]; decide) rfl ?_
  exact g_goto (tgt := 62) ok d_Mo_compare_79 (by decide) kk
theorem k_Mo_compare_82 {X : gC} {M : List mC} {k n : Nat} {x4 : Int64} {x6 : Int64} (ok : gO X c_Mo_compare "TripleStoreModel" w_Mo_compare)  (kt : ¬ (x6 >>> ((56 : Int32).toInt64 &&& 63)) = 0 → gg X M k n 102 [(4, .long x4), (6, .long x6)] []) (kf : (x6 >>> ((56 : Int32).toInt64 &&& 63)) = 0 → gg X M k n 92 [(4, .long x4), (6, .long x6)] []) : gg X M k n 82 [(4, .long x4), (6, .long x6)] [] := by
  refine g_lload ok d_Mo_compare_82 (j := 1) rfl ?_
  refine g_bipush (v := 56) ok d_Mo_compare_84 (by decide) ?_
  refine g_lshr ok d_Mo_compare_86 ?_
  refine g_lconst (v := 0) ok d_Mo_compare_87 (by decide) ?_
  exact g_lc_ne (tgt := 102) ok d_Mo_compare_88 d_Mo_compare_89 (by decide) (fun z => (kt z)) (fun z => (kf z))
theorem k_Mo_compare_92 {X : gC} {M : List mC} {k n : Nat} {x4 : Int64} {x6 : Int64} (ok : gO X c_Mo_compare "TripleStoreModel" w_Mo_compare) (hl : gL X = 8)  (kk : gg X M k n 82 [(4, .long x4), (6, .long (x6 <<< ((8 : Int32).toInt64 &&& 63)))] []) : gg X M k n 92 [(4, .long x4), (6, .long x6)] [] := by
  refine g_lload ok d_Mo_compare_92 (j := 1) rfl ?_
  refine g_bipush (v := 8) ok d_Mo_compare_94 (by decide) ?_
  refine g_lshl ok d_Mo_compare_96 ?_
  refine g_lstore (L' := [(4, .long x4), (6, .long (x6 <<< ((8 : Int32).toInt64 &&& 63)))]) ok d_Mo_compare_97 (by rw [hl]; decide) rfl ?_
  exact g_goto (tgt := 82) ok d_Mo_compare_99 (by decide) kk
theorem k_Mo_compare_102 {X : gC} {M : List mC} {k n : Nat} {x4 : Int64} {x6 : Int64} (ok : gO X c_Mo_compare "TripleStoreModel" w_Mo_compare)  (kt : x6 ≤ x4 → gg X M k n 114 [] []) (kf : ¬ x6 ≤ x4 → gg X M k n 110 [] []) : gg X M k n 102 [(4, .long x4), (6, .long x6)] [] := by
  refine g_lload ok d_Mo_compare_102 (j := 0) rfl ?_
  refine g_lload ok d_Mo_compare_104 (j := 1) rfl ?_
  exact g_lc_ge (tgt := 114) ok d_Mo_compare_106 d_Mo_compare_107 (by decide) (fun z => (gg_keep [] (kt z))) (fun z => (gg_keep [] (kf z)))
theorem k_Mo_compare_110 {X : gC} {M : List mC} {k n : Nat}  (ok : gO X c_Mo_compare "TripleStoreModel" w_Mo_compare)  (kk : gg X M k n 115 [] [.int (-1)]) : gg X M k n 110 [] [] := by
  refine g_iconst (v := (-1)) ok d_Mo_compare_110 (by decide) ?_
  exact g_goto (tgt := 115) ok d_Mo_compare_111 (by decide) kk
theorem k_Mo_compare_114 {X : gC} {M : List mC} {k n : Nat}  (ok : gO X c_Mo_compare "TripleStoreModel" w_Mo_compare)  (kk : gg X M k n 115 [] [.int 1]) : gg X M k n 114 [] [] := by
  refine g_iconst (v := 1) ok d_Mo_compare_114 (by decide) ?_
  exact kk
theorem k_Mo_compare_115 {X : gC} {M : List mC} {k n : Nat} {s0 : Int32} (ok : gO X c_Mo_compare "TripleStoreModel" w_Mo_compare)  {l9 : Launch} {rm : Room} {M0 : List mC} {post : Option Value → List mC → Prop} (E : gE X l9 y_Mo_compare rm 8 (some .int) M0 post) (hp : post (some (.int s0)) M) (hk : k ≤ rm.cells) (hn : n ≤ rm.slots) : gg X M k n 115 [] [.int s0] := by
  exact g_iret ok E d_Mo_compare_115 hp hk hn
theorem k_Mo_find_0 {X : gC} {M : List mC} {k n : Nat} {x0 : Nat} {x1 : Int64} {x3 : Int64} {x5 : Int64} (ok : gO X c_Mo_find "TripleStoreModel" w_Mo_find) (hl : gL X = 8)  (kk : gg X M k n 3 [(0, .ref x0), (1, .long x1), (3, .long x3), (5, .long x5), (7, .int 0)] []) : gg X M k n 0 [(0, .ref x0), (1, .long x1), (3, .long x3), (5, .long x5)] [] := by
  refine g_iconst (v := 0) ok d_Mo_find_0 (by decide) ?_
  refine g_istore (L' := [(0, .ref x0), (1, .long x1), (3, .long x3), (5, .long x5), (7, .int 0)]) ok d_Mo_find_1 (by rw [hl]; decide) rfl ?_
  exact kk
theorem k_Mo_find_3 {X : gC} {M : List mC} {k n : Nat} {x0 : Nat} {x1 : Int64} {x3 : Int64} {x5 : Int64} {x7 : Int32} {fs2 : List Value} {f3 : Int32} (ok : gO X c_Mo_find "TripleStoreModel" w_Mo_find) (h1 : M[x0]? = some (.inr (10, fs2))) (h4 : fs2[1]? = some (.int f3)) (kt : f3 ≤ x7 → gg X M k n 65 [(7, .int x7)] []) (kf : ¬ f3 ≤ x7 → gg X M k n 12 [(0, .ref x0), (1, .long x1), (3, .long x3), (5, .long x5), (7, .int x7)] []) : gg X M k n 3 [(0, .ref x0), (1, .long x1), (3, .long x3), (5, .long x5), (7, .int x7)] [] := by
  refine g_iload ok d_Mo_find_3 (j := 4) rfl ?_
  refine g_aload_n ok d_Mo_find_5 rfl (j := 0) rfl ?_
  refine gf_Mo_102 ok d_Mo_find_6 h1 h4 ?_
  exact g_icmp_ge (tgt := 65) ok d_Mo_find_9 (by decide) (fun z => (gg_keep [7] (kt z))) (fun z => (kf z))
theorem k_Mo_find_12 {X : gC} {M : List mC} {k n : Nat} {x0 : Nat} {x1 : Int64} {x3 : Int64} {x5 : Int64} {x7 : Int32} {fs2 : List Value} {f3 : Nat} {g6 : Nat → Int64} {N7 : Nat} (ok : gO X c_Mo_find "TripleStoreModel" w_Mo_find) (h1 : M[x0]? = some (.inr (10, fs2))) (h4 : fs2[0]? = some (.ref f3)) (h5 : M[f3]? = some (.inl (1, N7, .inr (.inl g6)))) (h8 : vp_in (3 * x7) N7) (kt : ¬ (g6 (3 * x7).toNatClampNeg) = x1 → gg X M k n 59 [(0, .ref x0), (1, .long x1), (3, .long x3), (5, .long x5), (7, .int x7)] []) (kf : (g6 (3 * x7).toNatClampNeg) = x1 → gg X M k n 26 [(0, .ref x0), (1, .long x1), (3, .long x3), (5, .long x5), (7, .int x7)] []) : gg X M k n 12 [(0, .ref x0), (1, .long x1), (3, .long x3), (5, .long x5), (7, .int x7)] [] := by
  refine g_aload_n ok d_Mo_find_12 rfl (j := 0) rfl ?_
  refine gf_Mo_7 ok d_Mo_find_13 h1 h4 ?_
  refine g_iconst (v := 3) ok d_Mo_find_16 (by decide) ?_
  refine g_iload ok d_Mo_find_17 (j := 4) rfl ?_
  refine g_imul ok d_Mo_find_19 ?_
  refine g_lald (t := 1) ok rfl d_Mo_find_20 h5 h8 ?_
  refine g_lload_n ok d_Mo_find_21 rfl (j := 1) rfl ?_
  exact g_lc_ne (tgt := 59) ok d_Mo_find_22 d_Mo_find_23 (by decide) (fun z => (kt z)) (fun z => (kf z))
theorem k_Mo_find_26 {X : gC} {M : List mC} {k n : Nat} {x0 : Nat} {x1 : Int64} {x3 : Int64} {x5 : Int64} {x7 : Int32} {fs2 : List Value} {f3 : Nat} {g6 : Nat → Int64} {N7 : Nat} (ok : gO X c_Mo_find "TripleStoreModel" w_Mo_find) (h1 : M[x0]? = some (.inr (10, fs2))) (h4 : fs2[0]? = some (.ref f3)) (h5 : M[f3]? = some (.inl (1, N7, .inr (.inl g6)))) (h8 : vp_in ((3 * x7) + 1) N7) (kt : ¬ (g6 ((3 * x7) + 1).toNatClampNeg) = x3 → gg X M k n 59 [(0, .ref x0), (1, .long x1), (3, .long x3), (5, .long x5), (7, .int x7)] []) (kf : (g6 ((3 * x7) + 1).toNatClampNeg) = x3 → gg X M k n 42 [(0, .ref x0), (1, .long x1), (3, .long x3), (5, .long x5), (7, .int x7)] []) : gg X M k n 26 [(0, .ref x0), (1, .long x1), (3, .long x3), (5, .long x5), (7, .int x7)] [] := by
  refine g_aload_n ok d_Mo_find_26 rfl (j := 0) rfl ?_
  refine gf_Mo_7 ok d_Mo_find_27 h1 h4 ?_
  refine g_iconst (v := 3) ok d_Mo_find_30 (by decide) ?_
  refine g_iload ok d_Mo_find_31 (j := 4) rfl ?_
  refine g_imul ok d_Mo_find_33 ?_
  refine g_iconst (v := 1) ok d_Mo_find_34 (by decide) ?_
  refine g_iadd ok d_Mo_find_35 ?_
  refine g_lald (t := 1) ok rfl d_Mo_find_36 h5 h8 ?_
  refine g_lload_n ok d_Mo_find_37 rfl (j := 2) rfl ?_
  exact g_lc_ne (tgt := 59) ok d_Mo_find_38 d_Mo_find_39 (by decide) (fun z => (kt z)) (fun z => (kf z))
theorem k_Mo_find_42 {X : gC} {M : List mC} {k n : Nat} {x0 : Nat} {x1 : Int64} {x3 : Int64} {x5 : Int64} {x7 : Int32} {fs2 : List Value} {f3 : Nat} {g6 : Nat → Int64} {N7 : Nat} (ok : gO X c_Mo_find "TripleStoreModel" w_Mo_find) (h1 : M[x0]? = some (.inr (10, fs2))) (h4 : fs2[0]? = some (.ref f3)) (h5 : M[f3]? = some (.inl (1, N7, .inr (.inl g6)))) (h8 : vp_in ((3 * x7) + 2) N7) (kt : (g6 ((3 * x7) + 2).toNatClampNeg) = x5 → gg X M k n 65 [(7, .int x7)] []) (kf : ¬ (g6 ((3 * x7) + 2).toNatClampNeg) = x5 → gg X M k n 59 [(0, .ref x0), (1, .long x1), (3, .long x3), (5, .long x5), (7, .int x7)] []) : gg X M k n 42 [(0, .ref x0), (1, .long x1), (3, .long x3), (5, .long x5), (7, .int x7)] [] := by
  refine g_aload_n ok d_Mo_find_42 rfl (j := 0) rfl ?_
  refine gf_Mo_7 ok d_Mo_find_43 h1 h4 ?_
  refine g_iconst (v := 3) ok d_Mo_find_46 (by decide) ?_
  refine g_iload ok d_Mo_find_47 (j := 4) rfl ?_
  refine g_imul ok d_Mo_find_49 ?_
  refine g_iconst (v := 2) ok d_Mo_find_50 (by decide) ?_
  refine g_iadd ok d_Mo_find_51 ?_
  refine g_lald (t := 1) ok rfl d_Mo_find_52 h5 h8 ?_
  refine g_lload ok d_Mo_find_53 (j := 3) rfl ?_
  exact g_lc_eq (tgt := 65) ok d_Mo_find_55 d_Mo_find_56 (by decide) (fun z => (gg_keep [7] (kt z))) (fun z => (kf z))
theorem k_Mo_find_59 {X : gC} {M : List mC} {k n : Nat} {x0 : Nat} {x1 : Int64} {x3 : Int64} {x5 : Int64} {x7 : Int32} (ok : gO X c_Mo_find "TripleStoreModel" w_Mo_find) (hl : gL X = 8)  (kk : gg X M k n 3 [(0, .ref x0), (1, .long x1), (3, .long x3), (5, .long x5), (7, .int (x7 + 1))] []) : gg X M k n 59 [(0, .ref x0), (1, .long x1), (3, .long x3), (5, .long x5), (7, .int x7)] [] := by
  refine g_iinc (L' := [(0, .ref x0), (1, .long x1), (3, .long x3), (5, .long x5), (7, .int (x7 + 1))]) (v := (x7 + 1)) ok d_Mo_find_59 (j := 4) rfl rfl (by rw [hl]; decide) rfl ?_
  exact g_goto (tgt := 3) ok d_Mo_find_62 (by decide) kk
theorem k_Mo_find_65 {X : gC} {M : List mC} {k n : Nat} {x7 : Int32} (ok : gO X c_Mo_find "TripleStoreModel" w_Mo_find)  {l9 : Launch} {rm : Room} {M0 : List mC} {post : Option Value → List mC → Prop} (E : gE X l9 y_Mo_find rm 8 (some .int) M0 post) (hp : post (some (.int x7)) M) (hk : k ≤ rm.cells) (hn : n ≤ rm.slots) : gg X M k n 65 [(7, .int x7)] [] := by
  refine g_iload ok d_Mo_find_65 (j := 0) rfl ?_
  exact g_iret ok E d_Mo_find_67 hp hk hn
theorem k_Mo_apply_0 {X : gC} {M : List mC} {k n : Nat} {x0 : Nat} {x1 : Int32} {x2 : Int64} {x4 : Int64} {x6 : Int64} {fs2 : List Value} (ok : gO X c_Mo_apply "TripleStoreModel" w_Mo_apply) (h1 : M[x0]? = some (.inr (10, fs2))) {rm : Room} {post : Option Value → List mC → Prop} (hm : mm_ (gLa X) y_Mo_find w_Mo_find rm [.ref x0, .long x2, .long x4, .long x6] M post) (hR : gF X rm 8 k n) (hlen : ∀ r M', post r M' → M'.length = M.length) (kk : ∀ r M', post r M' → gg X M' (k + rm.cells) (n + rm.slots) 9 [(0, .ref x0), (1, .int x1), (2, .long x2), (4, .long x4), (6, .long x6)] (r.toList ++ [])) : gg X M k n 0 [(0, .ref x0), (1, .int x1), (2, .long x2), (4, .long x4), (6, .long x6)] [] := by
  refine g_aload_n ok d_Mo_apply_0 rfl (j := 0) rfl ?_
  refine g_lload_n ok d_Mo_apply_1 rfl (j := 2) rfl ?_
  refine g_lload ok d_Mo_apply_2 (j := 3) rfl ?_
  refine g_lload ok d_Mo_apply_4 (j := 4) rfl ?_
  exact gc_Mo_105 (As := [.long x2, .long x4, .long x6]) (rest := []) ok d_Mo_apply_6 hm rfl rfl (Nat.le_of_ble_eq_true rfl) hR h1 hlen kk
theorem k_Mo_apply_9 {X : gC} {M : List mC} {k n : Nat} {x0 : Nat} {x1 : Int32} {x2 : Int64} {x4 : Int64} {x6 : Int64} {s0 : Int32} (ok : gO X c_Mo_apply "TripleStoreModel" w_Mo_apply) (hl : gL X = 10)  (kt : x1 = 0 → gg X M k n 68 [(0, .ref x0), (8, .int s0)] []) (kf : ¬ x1 = 0 → gg X M k n 15 [(0, .ref x0), (2, .long x2), (4, .long x4), (6, .long x6)] []) : gg X M k n 9 [(0, .ref x0), (1, .int x1), (2, .long x2), (4, .long x4), (6, .long x6)] [.int s0] := by
  refine g_istore (L' := [(0, .ref x0), (1, .int x1), (2, .long x2), (4, .long x4), (6, .long x6), (8, .int s0)]) ok d_Mo_apply_9 (by rw [hl]; decide) rfl ?_
  refine g_iload_n ok d_Mo_apply_11 rfl (j := 1) rfl ?_
  exact g_if_eq (tgt := 68) ok d_Mo_apply_12 (by decide) (fun z => (gg_keep [0, 8] (kt z))) (fun z => (gg_keep [0, 2, 4, 6] (kf z)))
theorem k_Mo_apply_15 {X : gC} {M : List mC} {k n : Nat} {x0 : Nat} {x2 : Int64} {x4 : Int64} {x6 : Int64} {fs2 : List Value} {f3 : Nat} {f5 : Int32} {g8 : Nat → Int64} {N9 : Nat} {M11 : List mC} {M16 : List mC} {M21 : List mC} {M27 : List mC} (ok : gO X c_Mo_apply "TripleStoreModel" w_Mo_apply) (h1 : M[x0]? = some (.inr (10, fs2))) (h4 : fs2[0]? = some (.ref f3)) (h6 : fs2[1]? = some (.int f5)) (h7 : M[f3]? = some (.inl (1, N9, .inr (.inl g8)))) (h10 : vp_in (3 * f5) N9) (h12 : M.set f3 (.inl (1, N9, .inr (.inl (vp_updL g8 (3 * f5).toNatClampNeg x2)))) = M11) (h15 : vp_in ((3 * f5) + 1) N9) (h17 : M11.set f3 (.inl (1, N9, .inr (.inl (vp_updL (vp_updL g8 (3 * f5).toNatClampNeg x2) ((3 * f5) + 1).toNatClampNeg x4)))) = M16) (h20 : vp_in ((3 * f5) + 2) N9) (h22 : M16.set f3 (.inl (1, N9, .inr (.inl (vp_updL (vp_updL (vp_updL g8 (3 * f5).toNatClampNeg x2) ((3 * f5) + 1).toNatClampNeg x4) ((3 * f5) + 2).toNatClampNeg x6)))) = M21) (h26 : 59 ≤ fs2.length) (h28 : M21.set x0 (.inr (10, (fs2.set 1 (.int (f5 + 1))))) = M27) {l9 : Launch} {rm : Room} {M0 : List mC} {post : Option Value → List mC → Prop} (E : gE X l9 y_Mo_apply rm 10 none M0 post) (hp : post (none) M27) (hk : k ≤ rm.cells) (hn : n ≤ rm.slots) : gg X M k n 15 [(0, .ref x0), (2, .long x2), (4, .long x4), (6, .long x6)] [] := by
  refine g_aload_n ok d_Mo_apply_15 rfl (j := 0) rfl ?_
  refine gf_Mo_7 ok d_Mo_apply_16 h1 h4 ?_
  refine g_iconst (v := 3) ok d_Mo_apply_19 (by decide) ?_
  refine g_aload_n ok d_Mo_apply_20 rfl (j := 0) rfl ?_
  refine gf_Mo_102 ok d_Mo_apply_21 h1 h6 ?_
  refine g_imul ok d_Mo_apply_24 ?_
  refine g_lload_n ok d_Mo_apply_25 rfl (j := 1) rfl ?_
  refine g_last (t := 1) ok rfl d_Mo_apply_26 h7 h10 ?_
  rw [h12]
  have h13 : M11[f3]? = some (.inl (1, N9, .inr (.inl (vp_updL g8 (3 * f5).toNatClampNeg x2)))) := by rw [← h12]; exact gs_eq h7
  refine g_aload_n ok d_Mo_apply_27 rfl (j := 0) rfl ?_
  have h14 : M11[x0]? = some (.inr (10, fs2)) := by rw [← h12]; exact (gs_ne (ne_ao h7 h1)).trans h1
  refine gf_Mo_7 ok d_Mo_apply_28 h14 h4 ?_
  refine g_iconst (v := 3) ok d_Mo_apply_31 (by decide) ?_
  refine g_aload_n ok d_Mo_apply_32 rfl (j := 0) rfl ?_
  refine gf_Mo_102 ok d_Mo_apply_33 h14 h6 ?_
  refine g_imul ok d_Mo_apply_36 ?_
  refine g_iconst (v := 1) ok d_Mo_apply_37 (by decide) ?_
  refine g_iadd ok d_Mo_apply_38 ?_
  refine g_lload ok d_Mo_apply_39 (j := 2) rfl ?_
  refine g_last (t := 1) ok rfl d_Mo_apply_41 h13 h15 ?_
  rw [h17]
  have h18 : M16[f3]? = some (.inl (1, N9, .inr (.inl (vp_updL (vp_updL g8 (3 * f5).toNatClampNeg x2) ((3 * f5) + 1).toNatClampNeg x4)))) := by rw [← h17]; exact gs_eq h13
  refine g_aload_n ok d_Mo_apply_42 rfl (j := 0) rfl ?_
  have h19 : M16[x0]? = some (.inr (10, fs2)) := by rw [← h17]; exact (gs_ne (ne_ao h13 h14)).trans h14
  refine gf_Mo_7 ok d_Mo_apply_43 h19 h4 ?_
  refine g_iconst (v := 3) ok d_Mo_apply_46 (by decide) ?_
  refine g_aload_n ok d_Mo_apply_47 rfl (j := 0) rfl ?_
  refine gf_Mo_102 ok d_Mo_apply_48 h19 h6 ?_
  refine g_imul ok d_Mo_apply_51 ?_
  refine g_iconst (v := 2) ok d_Mo_apply_52 (by decide) ?_
  refine g_iadd ok d_Mo_apply_53 ?_
  refine g_lload ok d_Mo_apply_54 (j := 3) rfl ?_
  refine g_last (t := 1) ok rfl d_Mo_apply_56 h18 h20 ?_
  rw [h22]
  have h23 : M21[f3]? = some (.inl (1, N9, .inr (.inl (vp_updL (vp_updL (vp_updL g8 (3 * f5).toNatClampNeg x2) ((3 * f5) + 1).toNatClampNeg x4) ((3 * f5) + 2).toNatClampNeg x6)))) := by rw [← h22]; exact gs_eq h18
  refine g_aload_n ok d_Mo_apply_57 rfl (j := 0) rfl ?_
  refine g_dup ok d_Mo_apply_58 rfl ?_
  have h24 : M21[x0]? = some (.inr (10, fs2)) := by rw [← h22]; exact (gs_ne (ne_ao h18 h19)).trans h19
  refine gf_Mo_102 ok d_Mo_apply_59 h24 h6 ?_
  refine g_iconst (v := 1) ok d_Mo_apply_62 (by decide) ?_
  refine g_iadd ok d_Mo_apply_63 ?_
  have h25 : 1 < (fs2).length := by first | omega | (simp only [List.length_set]; omega)
  refine pf_Mo_102 ok d_Mo_apply_64 h24 h25 (fun _ => ⟨rfl, rfl⟩) ?_
  rw [h28]
  have h29 : M27[x0]? = some (.inr (10, (fs2.set 1 (.int (f5 + 1))))) := by rw [← h28]; exact gs_eq h24
  have h30 := (List.getElem?_set_ne (a := .int (f5 + 1)) (by decide : 1 ≠ 0)).trans h4
  have h31 : (fs2.set 1 (.int (f5 + 1)))[1]? = some (.int (f5 + 1)) := List.getElem?_set_self h25
  exact g_vret ok E d_Mo_apply_67 hp hk hn
theorem k_Mo_apply_68 {X : gC} {M : List mC} {k n : Nat} {x0 : Nat} {x8 : Int32} {fs2 : List Value} {f3 : Int32} {M7 : List mC} (ok : gO X c_Mo_apply "TripleStoreModel" w_Mo_apply) (hl : gL X = 10) (h1 : M[x0]? = some (.inr (10, fs2))) (h4 : fs2[1]? = some (.int f3)) (h6 : 59 ≤ fs2.length) (h8 : M.set x0 (.inr (10, (fs2.set 1 (.int (f3 - 1))))) = M7) (kk : gg X M7 k n 81 [(0, .ref x0), (8, .int x8), (9, .int 0)] []) : gg X M k n 68 [(0, .ref x0), (8, .int x8)] [] := by
  refine g_aload_n ok d_Mo_apply_68 rfl (j := 0) rfl ?_
  refine g_dup ok d_Mo_apply_69 rfl ?_
  refine gf_Mo_102 ok d_Mo_apply_70 h1 h4 ?_
  refine g_iconst (v := 1) ok d_Mo_apply_73 (by decide) ?_
  refine g_isub ok d_Mo_apply_74 ?_
  have h5 : 1 < (fs2).length := by first | omega | (simp only [List.length_set]; omega)
  refine pf_Mo_102 ok d_Mo_apply_75 h1 h5 (fun _ => ⟨rfl, rfl⟩) ?_
  rw [h8]
  have h9 : M7[x0]? = some (.inr (10, (fs2.set 1 (.int (f3 - 1))))) := by rw [← h8]; exact gs_eq h1
  have h10 : (fs2.set 1 (.int (f3 - 1)))[1]? = some (.int (f3 - 1)) := List.getElem?_set_self h5
  refine g_iconst (v := 0) ok d_Mo_apply_78 (by decide) ?_
  refine g_istore (L' := [(0, .ref x0), (8, .int x8), (9, .int 0)]) ok d_Mo_apply_79 (by rw [hl]; decide) rfl ?_
  exact kk
theorem k_Mo_apply_81 {X : gC} {M : List mC} {k n : Nat} {x0 : Nat} {x8 : Int32} {x9 : Int32} (ok : gO X c_Mo_apply "TripleStoreModel" w_Mo_apply)  (kt : 3 ≤ x9 → gg X M k n 119 [] []) (kf : ¬ 3 ≤ x9 → gg X M k n 87 [(0, .ref x0), (8, .int x8), (9, .int x9)] []) : gg X M k n 81 [(0, .ref x0), (8, .int x8), (9, .int x9)] [] := by
  refine g_iload ok d_Mo_apply_81 (j := 2) rfl ?_
  refine g_iconst (v := 3) ok d_Mo_apply_83 (by decide) ?_
  exact g_icmp_ge (tgt := 119) ok d_Mo_apply_84 (by decide) (fun z => (gg_keep [] (kt z))) (fun z => (kf z))
theorem k_Mo_apply_87 {X : gC} {M : List mC} {k n : Nat} {x0 : Nat} {x8 : Int32} {x9 : Int32} {fs2 : List Value} {f3 : Nat} {f5 : Int32} {g8 : Nat → Int64} {N9 : Nat} {M12 : List mC} (ok : gO X c_Mo_apply "TripleStoreModel" w_Mo_apply) (hl : gL X = 10) (h1 : M[x0]? = some (.inr (10, fs2))) (h4 : fs2[0]? = some (.ref f3)) (h6 : fs2[1]? = some (.int f5)) (h7 : M[f3]? = some (.inl (1, N9, .inr (.inl g8)))) (h10 : vp_in ((3 * f5) + x9) N9) (h11 : vp_in ((3 * x8) + x9) N9) (h13 : M.set f3 (.inl (1, N9, .inr (.inl (vp_updL g8 ((3 * x8) + x9).toNatClampNeg (g8 ((3 * f5) + x9).toNatClampNeg))))) = M12) (kk : gg X M12 k n 81 [(0, .ref x0), (8, .int x8), (9, .int (x9 + 1))] []) : gg X M k n 87 [(0, .ref x0), (8, .int x8), (9, .int x9)] [] := by
  refine g_aload_n ok d_Mo_apply_87 rfl (j := 0) rfl ?_
  refine gf_Mo_7 ok d_Mo_apply_88 h1 h4 ?_
  refine g_iconst (v := 3) ok d_Mo_apply_91 (by decide) ?_
  refine g_iload ok d_Mo_apply_92 (j := 1) rfl ?_
  refine g_imul ok d_Mo_apply_94 ?_
  refine g_iload ok d_Mo_apply_95 (j := 2) rfl ?_
  refine g_iadd ok d_Mo_apply_97 ?_
  refine g_aload_n ok d_Mo_apply_98 rfl (j := 0) rfl ?_
  refine gf_Mo_7 ok d_Mo_apply_99 h1 h4 ?_
  refine g_iconst (v := 3) ok d_Mo_apply_102 (by decide) ?_
  refine g_aload_n ok d_Mo_apply_103 rfl (j := 0) rfl ?_
  refine gf_Mo_102 ok d_Mo_apply_104 h1 h6 ?_
  refine g_imul ok d_Mo_apply_107 ?_
  refine g_iload ok d_Mo_apply_108 (j := 2) rfl ?_
  refine g_iadd ok d_Mo_apply_110 ?_
  refine g_lald (t := 1) ok rfl d_Mo_apply_111 h7 h10 ?_
  refine g_last (t := 1) ok rfl d_Mo_apply_112 h7 h11 ?_
  rw [h13]
  have h14 : M12[f3]? = some (.inl (1, N9, .inr (.inl (vp_updL g8 ((3 * x8) + x9).toNatClampNeg (g8 ((3 * f5) + x9).toNatClampNeg))))) := by rw [← h13]; exact gs_eq h7
  refine g_iinc (L' := [(0, .ref x0), (8, .int x8), (9, .int (x9 + 1))]) (v := (x9 + 1)) ok d_Mo_apply_113 (j := 2) rfl rfl (by rw [hl]; decide) rfl ?_
  exact g_goto (tgt := 81) ok d_Mo_apply_116 (by decide) kk
theorem k_Mo_apply_119 {X : gC} {M : List mC} {k n : Nat}  (ok : gO X c_Mo_apply "TripleStoreModel" w_Mo_apply)  {l9 : Launch} {rm : Room} {M0 : List mC} {post : Option Value → List mC → Prop} (E : gE X l9 y_Mo_apply rm 10 none M0 post) (hp : post (none) M) (hk : k ≤ rm.cells) (hn : n ≤ rm.slots) : gg X M k n 119 [] [] := by
  exact g_vret ok E d_Mo_apply_119 hp hk hn
theorem k_Mo_does_0 {X : gC} {M : List mC} {k n : Nat} {x0 : Nat} {x1 : Int32} {x2 : Int64} {x4 : Int64} {x6 : Int64} {fs2 : List Value} (ok : gO X c_Mo_does "TripleStoreModel" w_Mo_does) (h1 : M[x0]? = some (.inr (10, fs2))) {rm : Room} {post : Option Value → List mC → Prop} (hm : mm_ (gLa X) y_Mo_find w_Mo_find rm [.ref x0, .long x2, .long x4, .long x6] M post) (hR : gF X rm 8 k n) (hlen : ∀ r M', post r M' → M'.length = M.length) (kk : ∀ r M', post r M' → gg X M' (k + rm.cells) (n + rm.slots) 9 [(0, .ref x0), (1, .int x1), (2, .long x2), (4, .long x4), (6, .long x6)] (r.toList ++ [])) : gg X M k n 0 [(0, .ref x0), (1, .int x1), (2, .long x2), (4, .long x4), (6, .long x6)] [] := by
  refine g_aload_n ok d_Mo_does_0 rfl (j := 0) rfl ?_
  refine g_lload_n ok d_Mo_does_1 rfl (j := 2) rfl ?_
  refine g_lload ok d_Mo_does_2 (j := 3) rfl ?_
  refine g_lload ok d_Mo_does_4 (j := 4) rfl ?_
  exact gc_Mo_105 (As := [.long x2, .long x4, .long x6]) (rest := []) ok d_Mo_does_6 hm rfl rfl (Nat.le_of_ble_eq_true rfl) hR h1 hlen kk
theorem k_Mo_does_9 {X : gC} {M : List mC} {k n : Nat} {x0 : Nat} {x1 : Int32} {x2 : Int64} {x4 : Int64} {x6 : Int64} {s0 : Int32} {fs2 : List Value} {f3 : Int32} (ok : gO X c_Mo_does "TripleStoreModel" w_Mo_does) (h1 : M[x0]? = some (.inr (10, fs2))) (h4 : fs2[1]? = some (.int f3)) (kt : f3 ≤ s0 → gg X M k n 20 [(0, .ref x0), (1, .int x1), (2, .long x2), (4, .long x4), (6, .long x6)] []) (kf : ¬ f3 ≤ s0 → gg X M k n 16 [(0, .ref x0), (1, .int x1), (2, .long x2), (4, .long x4), (6, .long x6)] []) : gg X M k n 9 [(0, .ref x0), (1, .int x1), (2, .long x2), (4, .long x4), (6, .long x6)] [.int s0] := by
  refine g_aload_n ok d_Mo_does_9 rfl (j := 0) rfl ?_
  refine gf_Mo_102 ok d_Mo_does_10 h1 h4 ?_
  exact g_icmp_ge (tgt := 20) ok d_Mo_does_13 (by decide) (fun z => (kt z)) (fun z => (kf z))
theorem k_Mo_does_16 {X : gC} {M : List mC} {k n : Nat} {x0 : Nat} {x1 : Int32} {x2 : Int64} {x4 : Int64} {x6 : Int64} (ok : gO X c_Mo_does "TripleStoreModel" w_Mo_does)  (kk : gg X M k n 21 [(0, .ref x0), (1, .int x1), (2, .long x2), (4, .long x4), (6, .long x6)] [.int 1]) : gg X M k n 16 [(0, .ref x0), (1, .int x1), (2, .long x2), (4, .long x4), (6, .long x6)] [] := by
  refine g_iconst (v := 1) ok d_Mo_does_16 (by decide) ?_
  exact g_goto (tgt := 21) ok d_Mo_does_17 (by decide) kk
theorem k_Mo_does_20 {X : gC} {M : List mC} {k n : Nat} {x0 : Nat} {x1 : Int32} {x2 : Int64} {x4 : Int64} {x6 : Int64} (ok : gO X c_Mo_does "TripleStoreModel" w_Mo_does)  (kk : gg X M k n 21 [(0, .ref x0), (1, .int x1), (2, .long x2), (4, .long x4), (6, .long x6)] [.int 0]) : gg X M k n 20 [(0, .ref x0), (1, .int x1), (2, .long x2), (4, .long x4), (6, .long x6)] [] := by
  refine g_iconst (v := 0) ok d_Mo_does_20 (by decide) ?_
  exact kk
theorem k_Mo_does_21 {X : gC} {M : List mC} {k n : Nat} {x0 : Nat} {x1 : Int32} {x2 : Int64} {x4 : Int64} {x6 : Int64} {s0 : Int32} (ok : gO X c_Mo_does "TripleStoreModel" w_Mo_does) (hl : gL X = 9)  (kt : ¬ s0 = x1 → gg X M k n 31 [(0, .ref x0), (1, .int x1), (2, .long x2), (4, .long x4), (6, .long x6)] []) (kf : s0 = x1 → gg X M k n 29 [] []) : gg X M k n 21 [(0, .ref x0), (1, .int x1), (2, .long x2), (4, .long x4), (6, .long x6)] [.int s0] := by
  refine g_istore (L' := [(0, .ref x0), (1, .int x1), (2, .long x2), (4, .long x4), (6, .long x6), (8, .int s0)]) ok d_Mo_does_21 (by rw [hl]; decide) rfl ?_
  refine g_iload ok d_Mo_does_23 (j := 5) rfl ?_
  refine g_iload_n ok d_Mo_does_25 rfl (j := 1) rfl ?_
  exact g_icmp_ne (tgt := 31) ok d_Mo_does_26 (by decide) (fun z => (gg_keep [0, 1, 2, 4, 6] (kt z))) (fun z => (gg_keep [] (kf z)))
theorem k_Mo_does_29 {X : gC} {M : List mC} {k n : Nat}  (ok : gO X c_Mo_does "TripleStoreModel" w_Mo_does)  {l9 : Launch} {rm : Room} {M0 : List mC} {post : Option Value → List mC → Prop} (E : gE X l9 y_Mo_does rm 9 (some .int) M0 post) (hp : post (some (.int 0)) M) (hk : k ≤ rm.cells) (hn : n ≤ rm.slots) : gg X M k n 29 [] [] := by
  refine g_iconst (v := 0) ok d_Mo_does_29 (by decide) ?_
  exact g_iret ok E d_Mo_does_30 hp hk hn
theorem k_Mo_does_31 {X : gC} {M : List mC} {k n : Nat} {x0 : Nat} {x1 : Int32} {x2 : Int64} {x4 : Int64} {x6 : Int64} (ok : gO X c_Mo_does "TripleStoreModel" w_Mo_does)  (kt : x1 = 0 → gg X M k n 59 [(0, .ref x0), (1, .int x1), (2, .long x2), (4, .long x4), (6, .long x6)] []) (kf : ¬ x1 = 0 → gg X M k n 35 [(0, .ref x0), (1, .int x1), (2, .long x2), (4, .long x4), (6, .long x6)] []) : gg X M k n 31 [(0, .ref x0), (1, .int x1), (2, .long x2), (4, .long x4), (6, .long x6)] [] := by
  refine g_iload_n ok d_Mo_does_31 rfl (j := 1) rfl ?_
  exact g_if_eq (tgt := 59) ok d_Mo_does_32 (by decide) (fun z => (kt z)) (fun z => (kf z))
theorem k_Mo_does_35 {X : gC} {M : List mC} {k n : Nat} {x0 : Nat} {x1 : Int32} {x2 : Int64} {x4 : Int64} {x6 : Int64} {fs2 : List Value} {f3 : Int32} (ok : gO X c_Mo_does "TripleStoreModel" w_Mo_does) (h1 : M[x0]? = some (.inr (10, fs2))) (h4 : fs2[1]? = some (.int f3)) (kt : 48 ≤ f3 → gg X M k n 49 [(0, .ref x0), (1, .int x1), (2, .long x2), (4, .long x4), (6, .long x6)] [.ref x0]) (kf : ¬ 48 ≤ f3 → gg X M k n 45 [(0, .ref x0), (1, .int x1), (2, .long x2), (4, .long x4), (6, .long x6)] [.ref x0]) : gg X M k n 35 [(0, .ref x0), (1, .int x1), (2, .long x2), (4, .long x4), (6, .long x6)] [] := by
  refine g_aload_n ok d_Mo_does_35 rfl (j := 0) rfl ?_
  refine g_aload_n ok d_Mo_does_36 rfl (j := 0) rfl ?_
  refine gf_Mo_102 ok d_Mo_does_37 h1 h4 ?_
  refine g_bipush (v := 48) ok d_Mo_does_40 (by decide) ?_
  exact g_icmp_ge (tgt := 49) ok d_Mo_does_42 (by decide) (fun z => (kt z)) (fun z => (kf z))
theorem k_Mo_does_45 {X : gC} {M : List mC} {k n : Nat} {x0 : Nat} {x1 : Int32} {x2 : Int64} {x4 : Int64} {x6 : Int64} (ok : gO X c_Mo_does "TripleStoreModel" w_Mo_does)  (kk : gg X M k n 50 [(0, .ref x0), (1, .int x1), (2, .long x2), (4, .long x4), (6, .long x6)] [.int 1, .ref x0]) : gg X M k n 45 [(0, .ref x0), (1, .int x1), (2, .long x2), (4, .long x4), (6, .long x6)] [.ref x0] := by
  refine g_iconst (v := 1) ok d_Mo_does_45 (by decide) ?_
  exact g_goto (tgt := 50) ok d_Mo_does_46 (by decide) kk
theorem k_Mo_does_49 {X : gC} {M : List mC} {k n : Nat} {x0 : Nat} {x1 : Int32} {x2 : Int64} {x4 : Int64} {x6 : Int64} (ok : gO X c_Mo_does "TripleStoreModel" w_Mo_does)  (kk : gg X M k n 50 [(0, .ref x0), (1, .int x1), (2, .long x2), (4, .long x4), (6, .long x6)] [.int 0, .ref x0]) : gg X M k n 49 [(0, .ref x0), (1, .int x1), (2, .long x2), (4, .long x4), (6, .long x6)] [.ref x0] := by
  refine g_iconst (v := 0) ok d_Mo_does_49 (by decide) ?_
  exact kk
theorem k_Mo_does_50 {X : gC} {M : List mC} {k n : Nat} {x0 : Nat} {x1 : Int32} {x2 : Int64} {x4 : Int64} {x6 : Int64} {s1 : Int32} {fs2 : List Value} (ok : gO X c_Mo_does "TripleStoreModel" w_Mo_does) (h1 : M[x0]? = some (.inr (10, fs2))) {rm : Room} {post : Option Value → List mC → Prop} (hm : mm_ (gLa X) y_Mo_good w_Mo_good rm [.ref x0, .int s1, .int 2] M post) (hR : gF X rm 3 k n) (hlen : ∀ r M', post r M' → M'.length = M.length) (kk : ∀ r M', post r M' → gg X M' (k + rm.cells) (n + rm.slots) 54 [(0, .ref x0), (1, .int x1), (2, .long x2), (4, .long x4), (6, .long x6)] (r.toList ++ [])) : gg X M k n 50 [(0, .ref x0), (1, .int x1), (2, .long x2), (4, .long x4), (6, .long x6)] [.int s1, .ref x0] := by
  refine g_iconst (v := 2) ok d_Mo_does_50 (by decide) ?_
  exact gc_Mo_109 (As := [.int s1, .int 2]) (rest := []) ok d_Mo_does_51 hm rfl rfl (Nat.le_of_ble_eq_true rfl) hR h1 hlen kk
theorem k_Mo_does_54 {X : gC} {M : List mC} {k n : Nat} {x0 : Nat} {x1 : Int32} {x2 : Int64} {x4 : Int64} {x6 : Int64} {s0 : Int32} (ok : gO X c_Mo_does "TripleStoreModel" w_Mo_does)  (kt : ¬ s0 = 0 → gg X M k n 59 [(0, .ref x0), (1, .int x1), (2, .long x2), (4, .long x4), (6, .long x6)] []) (kf : s0 = 0 → gg X M k n 57 [] []) : gg X M k n 54 [(0, .ref x0), (1, .int x1), (2, .long x2), (4, .long x4), (6, .long x6)] [.int s0] := by
  exact g_if_ne (tgt := 59) ok d_Mo_does_54 (by decide) (fun z => (kt z)) (fun z => (gg_keep [] (kf z)))
theorem k_Mo_does_57 {X : gC} {M : List mC} {k n : Nat}  (ok : gO X c_Mo_does "TripleStoreModel" w_Mo_does)  {l9 : Launch} {rm : Room} {M0 : List mC} {post : Option Value → List mC → Prop} (E : gE X l9 y_Mo_does rm 9 (some .int) M0 post) (hp : post (some (.int 0)) M) (hk : k ≤ rm.cells) (hn : n ≤ rm.slots) : gg X M k n 57 [] [] := by
  refine g_iconst (v := 0) ok d_Mo_does_57 (by decide) ?_
  exact g_iret ok E d_Mo_does_58 hp hk hn
theorem k_Mo_does_59 {X : gC} {M : List mC} {k n : Nat} {x0 : Nat} {x1 : Int32} {x2 : Int64} {x4 : Int64} {x6 : Int64} {fs2 : List Value} (ok : gO X c_Mo_does "TripleStoreModel" w_Mo_does) (h1 : M[x0]? = some (.inr (10, fs2))) {rm : Room} {post : Option Value → List mC → Prop} (hm : mm_ (gLa X) y_Mo_apply w_Mo_apply rm [.ref x0, .int x1, .long x2, .long x4, .long x6] M post) (hR : gF X rm 10 k n) (hlen : ∀ r M', post r M' → M'.length = M.length) (kk : ∀ r M', post r M' → gg X M' (k + rm.cells) (n + rm.slots) 69 [(0, .ref x0), (1, .int x1), (2, .long x2), (4, .long x4), (6, .long x6)] (r.toList ++ [])) : gg X M k n 59 [(0, .ref x0), (1, .int x1), (2, .long x2), (4, .long x4), (6, .long x6)] [] := by
  refine g_aload_n ok d_Mo_does_59 rfl (j := 0) rfl ?_
  refine g_iload_n ok d_Mo_does_60 rfl (j := 1) rfl ?_
  refine g_lload_n ok d_Mo_does_61 rfl (j := 2) rfl ?_
  refine g_lload ok d_Mo_does_62 (j := 3) rfl ?_
  refine g_lload ok d_Mo_does_64 (j := 4) rfl ?_
  exact gc_Mo_113 (As := [.int x1, .long x2, .long x4, .long x6]) (rest := []) ok d_Mo_does_66 hm rfl rfl (Nat.le_of_ble_eq_true rfl) hR h1 hlen kk
theorem k_Mo_does_69 {X : gC} {M : List mC} {k n : Nat} {x0 : Nat} {x1 : Int32} {x2 : Int64} {x4 : Int64} {x6 : Int64} {fs2 : List Value} {f3 : Nat} {f5 : Int32} {g8 : Nat → Int64} {N9 : Nat} {M11 : List mC} {M16 : List mC} {M21 : List mC} {f25 : Nat} {g28 : Nat → Int32} {N29 : Nat} {M35 : List mC} {f39 : Nat} {f41 : Int32} {g44 : Nat → Int32} {N45 : Nat} {M53 : List mC} {M59 : List mC} {f67 : Int32} (ok : gO X c_Mo_does "TripleStoreModel" w_Mo_does) (h1 : M[x0]? = some (.inr (10, fs2))) (h4 : fs2[4]? = some (.ref f3)) (h6 : fs2[7]? = some (.int f5)) (h7 : M[f3]? = some (.inl (1, N9, .inr (.inl g8)))) (h10 : vp_in (3 * f5) N9) (h12 : M.set f3 (.inl (1, N9, .inr (.inl (vp_updL g8 (3 * f5).toNatClampNeg x2)))) = M11) (h15 : vp_in ((3 * f5) + 1) N9) (h17 : M11.set f3 (.inl (1, N9, .inr (.inl (vp_updL (vp_updL g8 (3 * f5).toNatClampNeg x2) ((3 * f5) + 1).toNatClampNeg x4)))) = M16) (h20 : vp_in ((3 * f5) + 2) N9) (h22 : M16.set f3 (.inl (1, N9, .inr (.inl (vp_updL (vp_updL (vp_updL g8 (3 * f5).toNatClampNeg x2) ((3 * f5) + 1).toNatClampNeg x4) ((3 * f5) + 2).toNatClampNeg x6)))) = M21) (h26 : fs2[5]? = some (.ref f25)) (h27 : M[f25]? = some (.inl (3, N29, .inl g28))) (h31 : f25 ≠ f3) (h34 : vp_in f5 N29) (h36 : M21.set f25 (.inl (3, N29, .inl (upd g28 f5.toNatClampNeg (vp_nar .boolean x1)))) = M35) (h40 : fs2[6]? = some (.ref f39)) (h42 : fs2[9]? = some (.int f41)) (h43 : M[f39]? = some (.inl (0, N45, .inl g44))) (h47 : f3 ≠ f39) (h51 : f25 ≠ f39) (h52 : vp_in f5 N45) (h54 : M35.set f39 (.inl (0, N45, .inl (upd g44 f5.toNatClampNeg f41))) = M53) (h58 : 59 ≤ fs2.length) (h60 : M53.set x0 (.inr (10, (fs2.set 7 (.int (f5 + 1))))) = M59) (h68 : fs2[10]? = some (.int f67)) (kt : ¬ f67 = 0 → gg X M59 k n 155 [] []) (kf : f67 = 0 → gg X M59 k n 151 [(0, .ref x0)] []) : gg X M k n 69 [(0, .ref x0), (1, .int x1), (2, .long x2), (4, .long x4), (6, .long x6)] [] := by
  refine g_aload_n ok d_Mo_does_69 rfl (j := 0) rfl ?_
  refine gf_Mo_16 ok d_Mo_does_70 h1 h4 ?_
  refine g_iconst (v := 3) ok d_Mo_does_73 (by decide) ?_
  refine g_aload_n ok d_Mo_does_74 rfl (j := 0) rfl ?_
  refine gf_Mo_117 ok d_Mo_does_75 h1 h6 ?_
  refine g_imul ok d_Mo_does_78 ?_
  refine g_lload_n ok d_Mo_does_79 rfl (j := 2) rfl ?_
  refine g_last (t := 1) ok rfl d_Mo_does_80 h7 h10 ?_
  rw [h12]
  have h13 : M11[f3]? = some (.inl (1, N9, .inr (.inl (vp_updL g8 (3 * f5).toNatClampNeg x2)))) := by rw [← h12]; exact gs_eq h7
  refine g_aload_n ok d_Mo_does_81 rfl (j := 0) rfl ?_
  have h14 : M11[x0]? = some (.inr (10, fs2)) := by rw [← h12]; exact (gs_ne (ne_ao h7 h1)).trans h1
  refine gf_Mo_16 ok d_Mo_does_82 h14 h4 ?_
  refine g_iconst (v := 3) ok d_Mo_does_85 (by decide) ?_
  refine g_aload_n ok d_Mo_does_86 rfl (j := 0) rfl ?_
  refine gf_Mo_117 ok d_Mo_does_87 h14 h6 ?_
  refine g_imul ok d_Mo_does_90 ?_
  refine g_iconst (v := 1) ok d_Mo_does_91 (by decide) ?_
  refine g_iadd ok d_Mo_does_92 ?_
  refine g_lload ok d_Mo_does_93 (j := 3) rfl ?_
  refine g_last (t := 1) ok rfl d_Mo_does_95 h13 h15 ?_
  rw [h17]
  have h18 : M16[f3]? = some (.inl (1, N9, .inr (.inl (vp_updL (vp_updL g8 (3 * f5).toNatClampNeg x2) ((3 * f5) + 1).toNatClampNeg x4)))) := by rw [← h17]; exact gs_eq h13
  refine g_aload_n ok d_Mo_does_96 rfl (j := 0) rfl ?_
  have h19 : M16[x0]? = some (.inr (10, fs2)) := by rw [← h17]; exact (gs_ne (ne_ao h13 h14)).trans h14
  refine gf_Mo_16 ok d_Mo_does_97 h19 h4 ?_
  refine g_iconst (v := 3) ok d_Mo_does_100 (by decide) ?_
  refine g_aload_n ok d_Mo_does_101 rfl (j := 0) rfl ?_
  refine gf_Mo_117 ok d_Mo_does_102 h19 h6 ?_
  refine g_imul ok d_Mo_does_105 ?_
  refine g_iconst (v := 2) ok d_Mo_does_106 (by decide) ?_
  refine g_iadd ok d_Mo_does_107 ?_
  refine g_lload ok d_Mo_does_108 (j := 4) rfl ?_
  refine g_last (t := 1) ok rfl d_Mo_does_110 h18 h20 ?_
  rw [h22]
  have h23 : M21[f3]? = some (.inl (1, N9, .inr (.inl (vp_updL (vp_updL (vp_updL g8 (3 * f5).toNatClampNeg x2) ((3 * f5) + 1).toNatClampNeg x4) ((3 * f5) + 2).toNatClampNeg x6)))) := by rw [← h22]; exact gs_eq h18
  refine g_aload_n ok d_Mo_does_111 rfl (j := 0) rfl ?_
  have h24 : M21[x0]? = some (.inr (10, fs2)) := by rw [← h22]; exact (gs_ne (ne_ao h18 h19)).trans h19
  refine gf_Mo_19 ok d_Mo_does_112 h24 h26 ?_
  refine g_aload_n ok d_Mo_does_115 rfl (j := 0) rfl ?_
  refine gf_Mo_117 ok d_Mo_does_116 h24 h6 ?_
  refine g_iload_n ok d_Mo_does_119 rfl (j := 1) rfl ?_
  have h30 : M11[f25]? = some (.inl (3, N29, .inl g28)) := by rw [← h12]; exact (gs_ne (Ne.symm h31)).trans h27
  have h32 : M16[f25]? = some (.inl (3, N29, .inl g28)) := by rw [← h17]; exact (gs_ne (Ne.symm h31)).trans h30
  have h33 : M21[f25]? = some (.inl (3, N29, .inl g28)) := by rw [← h22]; exact (gs_ne (Ne.symm h31)).trans h32
  refine g_zast (t := 3) ok rfl d_Mo_does_120 h33 h34 ?_
  rw [h36]
  have h37 : M35[f25]? = some (.inl (3, N29, .inl (upd g28 f5.toNatClampNeg (vp_nar .boolean x1)))) := by rw [← h36]; exact gs_eq h33
  refine g_aload_n ok d_Mo_does_121 rfl (j := 0) rfl ?_
  have h38 : M35[x0]? = some (.inr (10, fs2)) := by rw [← h36]; exact (gs_ne (ne_ao h33 h24)).trans h24
  refine gf_Mo_23 ok d_Mo_does_122 h38 h40 ?_
  refine g_aload_n ok d_Mo_does_125 rfl (j := 0) rfl ?_
  refine gf_Mo_117 ok d_Mo_does_126 h38 h6 ?_
  refine g_aload_n ok d_Mo_does_129 rfl (j := 0) rfl ?_
  refine gf_Mo_120 ok d_Mo_does_130 h38 h42 ?_
  have h46 : M11[f39]? = some (.inl (0, N45, .inl g44)) := by rw [← h12]; exact (gs_ne h47).trans h43
  have h48 : M16[f39]? = some (.inl (0, N45, .inl g44)) := by rw [← h17]; exact (gs_ne h47).trans h46
  have h49 : M21[f39]? = some (.inl (0, N45, .inl g44)) := by rw [← h22]; exact (gs_ne h47).trans h48
  have h50 : M35[f39]? = some (.inl (0, N45, .inl g44)) := by rw [← h36]; exact (gs_ne h51).trans h49
  refine g_iast (t := 0) ok rfl d_Mo_does_133 h50 h52 ?_
  rw [h54]
  have h55 : M53[f39]? = some (.inl (0, N45, .inl (upd g44 f5.toNatClampNeg f41))) := by rw [← h54]; exact gs_eq h50
  refine g_aload_n ok d_Mo_does_134 rfl (j := 0) rfl ?_
  refine g_dup ok d_Mo_does_135 rfl ?_
  have h56 : M53[x0]? = some (.inr (10, fs2)) := by rw [← h54]; exact (gs_ne (ne_ao h50 h38)).trans h38
  refine gf_Mo_117 ok d_Mo_does_136 h56 h6 ?_
  refine g_iconst (v := 1) ok d_Mo_does_139 (by decide) ?_
  refine g_iadd ok d_Mo_does_140 ?_
  have h57 : 7 < (fs2).length := by first | omega | (simp only [List.length_set]; omega)
  refine pf_Mo_117 ok d_Mo_does_141 h56 h57 (fun _ => ⟨rfl, rfl⟩) ?_
  rw [h60]
  have h61 : M59[x0]? = some (.inr (10, (fs2.set 7 (.int (f5 + 1))))) := by rw [← h60]; exact gs_eq h56
  have h62 := (List.getElem?_set_ne (a := .int (f5 + 1)) (by decide : 7 ≠ 4)).trans h4
  have h63 := (List.getElem?_set_ne (a := .int (f5 + 1)) (by decide : 7 ≠ 5)).trans h26
  have h64 := (List.getElem?_set_ne (a := .int (f5 + 1)) (by decide : 7 ≠ 6)).trans h40
  have h65 := (List.getElem?_set_ne (a := .int (f5 + 1)) (by decide : 7 ≠ 9)).trans h42
  have h66 : (fs2.set 7 (.int (f5 + 1)))[7]? = some (.int (f5 + 1)) := List.getElem?_set_self h57
  refine g_aload_n ok d_Mo_does_144 rfl (j := 0) rfl ?_
  have h69 := (List.getElem?_set_ne (a := .int (f5 + 1)) (by decide : 7 ≠ 10)).trans h68
  refine gf_Mo_123 ok d_Mo_does_145 h61 h69 ?_
  exact g_if_ne (tgt := 155) ok d_Mo_does_148 (by decide) (fun z => (gg_keep [] (kt z))) (fun z => (gg_keep [0] (kf z)))
theorem k_Mo_does_151 {X : gC} {M : List mC} {k n : Nat} {x0 : Nat} {fs2 : List Value} (ok : gO X c_Mo_does "TripleStoreModel" w_Mo_does) (h1 : M[x0]? = some (.inr (10, fs2))) {rm : Room} {post : Option Value → List mC → Prop} (hm : mm_ (gLa X) y_Mo_close w_Mo_close rm [.ref x0] M post) (hR : gF X rm 1 k n) (hlen : ∀ r M', post r M' → M'.length = M.length) (kk : ∀ r M', post r M' → gg X M' (k + rm.cells) (n + rm.slots) 155 [] (r.toList ++ [])) : gg X M k n 151 [(0, .ref x0)] [] := by
  refine g_aload_n ok d_Mo_does_151 rfl (j := 0) rfl ?_
  exact gc_Mo_127 (As := []) (rest := []) ok d_Mo_does_152 hm rfl rfl (Nat.le_of_ble_eq_true rfl) hR h1 hlen (fun r M' q => (gg_keep [] (kk r M' q)))
theorem k_Mo_does_155 {X : gC} {M : List mC} {k n : Nat}  (ok : gO X c_Mo_does "TripleStoreModel" w_Mo_does)  {l9 : Launch} {rm : Room} {M0 : List mC} {post : Option Value → List mC → Prop} (E : gE X l9 y_Mo_does rm 9 (some .int) M0 post) (hp : post (some (.int 1)) M) (hk : k ≤ rm.cells) (hn : n ≤ rm.slots) : gg X M k n 155 [] [] := by
  refine g_iconst (v := 1) ok d_Mo_does_155 (by decide) ?_
  exact g_iret ok E d_Mo_does_156 hp hk hn
theorem k_Mo_close_0 {X : gC} {M : List mC} {k n : Nat} {x0 : Nat} {fs2 : List Value} {f3 : Int32} {M7 : List mC} {f11 : Int32} {M15 : List mC} {M21 : List mC} (ok : gO X c_Mo_close "TripleStoreModel" w_Mo_close) (h1 : M[x0]? = some (.inr (10, fs2))) (h4 : fs2[8]? = some (.int f3)) (h6 : 59 ≤ fs2.length) (h8 : M.set x0 (.inr (10, (fs2.set 8 (.int (f3 + 1))))) = M7) (h12 : fs2[9]? = some (.int f11)) (h16 : M7.set x0 (.inr (10, ((fs2.set 8 (.int (f3 + 1))).set 9 (.int (f11 + 1))))) = M15) (h22 : M15.set x0 (.inr (10, (((fs2.set 8 (.int (f3 + 1))).set 9 (.int (f11 + 1))).set 10 (.int 0)))) = M21) {l9 : Launch} {rm : Room} {M0 : List mC} {post : Option Value → List mC → Prop} (E : gE X l9 y_Mo_close rm 1 none M0 post) (hp : post (none) M21) (hk : k ≤ rm.cells) (hn : n ≤ rm.slots) : gg X M k n 0 [(0, .ref x0)] [] := by
  refine g_aload_n ok d_Mo_close_0 rfl (j := 0) rfl ?_
  refine g_dup ok d_Mo_close_1 rfl ?_
  refine gf_Mo_130 ok d_Mo_close_2 h1 h4 ?_
  refine g_iconst (v := 1) ok d_Mo_close_5 (by decide) ?_
  refine g_iadd ok d_Mo_close_6 ?_
  have h5 : 8 < (fs2).length := by first | omega | (simp only [List.length_set]; omega)
  refine pf_Mo_130 ok d_Mo_close_7 h1 h5 (fun _ => ⟨rfl, rfl⟩) ?_
  rw [h8]
  have h9 : M7[x0]? = some (.inr (10, (fs2.set 8 (.int (f3 + 1))))) := by rw [← h8]; exact gs_eq h1
  have h10 : (fs2.set 8 (.int (f3 + 1)))[8]? = some (.int (f3 + 1)) := List.getElem?_set_self h5
  refine g_aload_n ok d_Mo_close_10 rfl (j := 0) rfl ?_
  refine g_dup ok d_Mo_close_11 rfl ?_
  have h13 := (List.getElem?_set_ne (a := .int (f3 + 1)) (by decide : 8 ≠ 9)).trans h12
  refine gf_Mo_120 ok d_Mo_close_12 h9 h13 ?_
  refine g_iconst (v := 1) ok d_Mo_close_15 (by decide) ?_
  refine g_iadd ok d_Mo_close_16 ?_
  have h14 : 9 < ((fs2.set 8 (.int (f3 + 1)))).length := by first | omega | (simp only [List.length_set]; omega)
  refine pf_Mo_120 ok d_Mo_close_17 h9 h14 (fun _ => ⟨rfl, rfl⟩) ?_
  rw [h16]
  have h17 : M15[x0]? = some (.inr (10, ((fs2.set 8 (.int (f3 + 1))).set 9 (.int (f11 + 1))))) := by rw [← h16]; exact gs_eq h9
  have h18 := (List.getElem?_set_ne (a := .int (f11 + 1)) (by decide : 9 ≠ 8)).trans h10
  have h19 : ((fs2.set 8 (.int (f3 + 1))).set 9 (.int (f11 + 1)))[9]? = some (.int (f11 + 1)) := List.getElem?_set_self h14
  refine g_aload_n ok d_Mo_close_20 rfl (j := 0) rfl ?_
  refine g_iconst (v := 0) ok d_Mo_close_21 (by decide) ?_
  have h20 : 10 < (((fs2.set 8 (.int (f3 + 1))).set 9 (.int (f11 + 1)))).length := by first | omega | (simp only [List.length_set]; omega)
  refine pf_Mo_123 ok d_Mo_close_22 h17 h20 (fun _ => ⟨rfl, rfl⟩) ?_
  rw [h22]
  have h23 : M21[x0]? = some (.inr (10, (((fs2.set 8 (.int (f3 + 1))).set 9 (.int (f11 + 1))).set 10 (.int 0)))) := by rw [← h22]; exact gs_eq h17
  have h24 := (List.getElem?_set_ne (a := .int 0) (by decide : 10 ≠ 8)).trans h18
  have h25 := (List.getElem?_set_ne (a := .int 0) (by decide : 10 ≠ 9)).trans h19
  have h26 : (((fs2.set 8 (.int (f3 + 1))).set 9 (.int (f11 + 1))).set 10 (.int 0))[10]? = some (.int 0) := List.getElem?_set_self h20
  exact g_vret ok E d_Mo_close_25 hp hk hn
theorem k_Mo_isTriple_0 {X : gC} {M : List mC} {k n : Nat} {x0 : Nat} {x1 : Int64} {x3 : Int64} {x5 : Int64} (ok : gO X c_Mo_isTriple "TripleStoreModel" w_Mo_isTriple)  {rm : Room} {post : Option Value → List mC → Prop} (hm : mm_ (gLa X) y_Mo_isWord w_Mo_isWord rm [.long x1] M post) (hR : gF X rm 5 k n) (hlen : ∀ r M', post r M' → M'.length = M.length) (kk : ∀ r M', post r M' → gg X M' (k + rm.cells) (n + rm.slots) 5 [(0, .ref x0), (3, .long x3), (5, .long x5)] (r.toList ++ [.ref x0])) : gg X M k n 0 [(0, .ref x0), (1, .long x1), (3, .long x3), (5, .long x5)] [] := by
  refine g_aload_n ok d_Mo_isTriple_0 rfl (j := 0) rfl ?_
  refine g_lload_n ok d_Mo_isTriple_1 rfl (j := 1) rfl ?_
  exact gc_Mo_133 (As := [.long x1]) (rest := [.ref x0]) ok d_Mo_isTriple_2 hm rfl rfl (Nat.le_of_ble_eq_true rfl) hR hlen (fun r M' q => (gg_keep [0, 3, 5] (kk r M' q)))
theorem k_Mo_isTriple_5 {X : gC} {M : List mC} {k n : Nat} {x0 : Nat} {x3 : Int64} {x5 : Int64} {s1 : Int32} (ok : gO X c_Mo_isTriple "TripleStoreModel" w_Mo_isTriple)  (kt : s1 = 0 → gg X M k n 35 [(0, .ref x0)] [.ref x0]) (kf : ¬ s1 = 0 → gg X M k n 8 [(0, .ref x0), (3, .long x3), (5, .long x5)] [.ref x0]) : gg X M k n 5 [(0, .ref x0), (3, .long x3), (5, .long x5)] [.int s1, .ref x0] := by
  exact g_if_eq (tgt := 35) ok d_Mo_isTriple_5 (by decide) (fun z => (gg_keep [0] (kt z))) (fun z => (kf z))
theorem k_Mo_isTriple_8 {X : gC} {M : List mC} {k n : Nat} {x0 : Nat} {x3 : Int64} {x5 : Int64} (ok : gO X c_Mo_isTriple "TripleStoreModel" w_Mo_isTriple)  {rm : Room} {post : Option Value → List mC → Prop} (hm : mm_ (gLa X) y_Mo_isWord w_Mo_isWord rm [.long x3] M post) (hR : gF X rm 5 k n) (hlen : ∀ r M', post r M' → M'.length = M.length) (kk : ∀ r M', post r M' → gg X M' (k + rm.cells) (n + rm.slots) 12 [(0, .ref x0), (5, .long x5)] (r.toList ++ [.ref x0])) : gg X M k n 8 [(0, .ref x0), (3, .long x3), (5, .long x5)] [.ref x0] := by
  refine g_lload_n ok d_Mo_isTriple_8 rfl (j := 1) rfl ?_
  exact gc_Mo_133 (As := [.long x3]) (rest := [.ref x0]) ok d_Mo_isTriple_9 hm rfl rfl (Nat.le_of_ble_eq_true rfl) hR hlen (fun r M' q => (gg_keep [0, 5] (kk r M' q)))
theorem k_Mo_isTriple_12 {X : gC} {M : List mC} {k n : Nat} {x0 : Nat} {x5 : Int64} {s1 : Int32} (ok : gO X c_Mo_isTriple "TripleStoreModel" w_Mo_isTriple)  (kt : s1 = 0 → gg X M k n 35 [(0, .ref x0)] [.ref x0]) (kf : ¬ s1 = 0 → gg X M k n 15 [(0, .ref x0), (5, .long x5)] [.ref x0]) : gg X M k n 12 [(0, .ref x0), (5, .long x5)] [.int s1, .ref x0] := by
  exact g_if_eq (tgt := 35) ok d_Mo_isTriple_12 (by decide) (fun z => (gg_keep [0] (kt z))) (fun z => (kf z))
theorem k_Mo_isTriple_15 {X : gC} {M : List mC} {k n : Nat} {x0 : Nat} {x5 : Int64} (ok : gO X c_Mo_isTriple "TripleStoreModel" w_Mo_isTriple)  {rm : Room} {post : Option Value → List mC → Prop} (hm : mm_ (gLa X) y_Mo_isWord w_Mo_isWord rm [.long x5] M post) (hR : gF X rm 5 k n) (hlen : ∀ r M', post r M' → M'.length = M.length) (kk : ∀ r M', post r M' → gg X M' (k + rm.cells) (n + rm.slots) 20 [(0, .ref x0), (5, .long x5)] (r.toList ++ [.ref x0])) : gg X M k n 15 [(0, .ref x0), (5, .long x5)] [.ref x0] := by
  refine g_lload ok d_Mo_isTriple_15 (j := 1) rfl ?_
  exact gc_Mo_133 (As := [.long x5]) (rest := [.ref x0]) ok d_Mo_isTriple_17 hm rfl rfl (Nat.le_of_ble_eq_true rfl) hR hlen kk
theorem k_Mo_isTriple_20 {X : gC} {M : List mC} {k n : Nat} {x0 : Nat} {x5 : Int64} {s1 : Int32} (ok : gO X c_Mo_isTriple "TripleStoreModel" w_Mo_isTriple)  (kt : ¬ s1 = 0 → gg X M k n 31 [(0, .ref x0)] [.ref x0]) (kf : s1 = 0 → gg X M k n 23 [(0, .ref x0), (5, .long x5)] [.ref x0]) : gg X M k n 20 [(0, .ref x0), (5, .long x5)] [.int s1, .ref x0] := by
  exact g_if_ne (tgt := 31) ok d_Mo_isTriple_20 (by decide) (fun z => (gg_keep [0] (kt z))) (fun z => (kf z))
theorem k_Mo_isTriple_23 {X : gC} {M : List mC} {k n : Nat} {x0 : Nat} {x5 : Int64} (ok : gO X c_Mo_isTriple "TripleStoreModel" w_Mo_isTriple)  {rm : Room} {post : Option Value → List mC → Prop} (hm : mm_ (gLa X) y_Mo_isNumber w_Mo_isNumber rm [.long x5] M post) (hR : gF X rm 2 k n) (hlen : ∀ r M', post r M' → M'.length = M.length) (kk : ∀ r M', post r M' → gg X M' (k + rm.cells) (n + rm.slots) 28 [(0, .ref x0)] (r.toList ++ [.ref x0])) : gg X M k n 23 [(0, .ref x0), (5, .long x5)] [.ref x0] := by
  refine g_lload ok d_Mo_isTriple_23 (j := 1) rfl ?_
  exact gc_Mo_137 (As := [.long x5]) (rest := [.ref x0]) ok d_Mo_isTriple_25 hm rfl rfl (Nat.le_of_ble_eq_true rfl) hR hlen (fun r M' q => (gg_keep [0] (kk r M' q)))
theorem k_Mo_isTriple_28 {X : gC} {M : List mC} {k n : Nat} {x0 : Nat} {s1 : Int32} (ok : gO X c_Mo_isTriple "TripleStoreModel" w_Mo_isTriple)  (kt : s1 = 0 → gg X M k n 35 [(0, .ref x0)] [.ref x0]) (kf : ¬ s1 = 0 → gg X M k n 31 [(0, .ref x0)] [.ref x0]) : gg X M k n 28 [(0, .ref x0)] [.int s1, .ref x0] := by
  exact g_if_eq (tgt := 35) ok d_Mo_isTriple_28 (by decide) (fun z => (kt z)) (fun z => (kf z))
theorem k_Mo_isTriple_31 {X : gC} {M : List mC} {k n : Nat} {x0 : Nat} (ok : gO X c_Mo_isTriple "TripleStoreModel" w_Mo_isTriple)  (kk : gg X M k n 36 [(0, .ref x0)] [.int 1, .ref x0]) : gg X M k n 31 [(0, .ref x0)] [.ref x0] := by
  refine g_iconst (v := 1) ok d_Mo_isTriple_31 (by decide) ?_
  exact g_goto (tgt := 36) ok d_Mo_isTriple_32 (by decide) kk
theorem k_Mo_isTriple_35 {X : gC} {M : List mC} {k n : Nat} {x0 : Nat} (ok : gO X c_Mo_isTriple "TripleStoreModel" w_Mo_isTriple)  (kk : gg X M k n 36 [(0, .ref x0)] [.int 0, .ref x0]) : gg X M k n 35 [(0, .ref x0)] [.ref x0] := by
  refine g_iconst (v := 0) ok d_Mo_isTriple_35 (by decide) ?_
  exact kk
theorem k_Mo_isTriple_36 {X : gC} {M : List mC} {k n : Nat} {x0 : Nat} {s1 : Int32} {fs2 : List Value} (ok : gO X c_Mo_isTriple "TripleStoreModel" w_Mo_isTriple) (h1 : M[x0]? = some (.inr (10, fs2))) {rm : Room} {post : Option Value → List mC → Prop} (hm : mm_ (gLa X) y_Mo_good w_Mo_good rm [.ref x0, .int s1, .int 1] M post) (hR : gF X rm 3 k n) (hlen : ∀ r M', post r M' → M'.length = M.length) (kk : ∀ r M', post r M' → gg X M' (k + rm.cells) (n + rm.slots) 40 [] (r.toList ++ [])) : gg X M k n 36 [(0, .ref x0)] [.int s1, .ref x0] := by
  refine g_iconst (v := 1) ok d_Mo_isTriple_36 (by decide) ?_
  exact gc_Mo_109 (As := [.int s1, .int 1]) (rest := []) ok d_Mo_isTriple_37 hm rfl rfl (Nat.le_of_ble_eq_true rfl) hR h1 hlen (fun r M' q => (gg_keep [] (kk r M' q)))
theorem k_Mo_isTriple_40 {X : gC} {M : List mC} {k n : Nat} {s0 : Int32} (ok : gO X c_Mo_isTriple "TripleStoreModel" w_Mo_isTriple)  {l9 : Launch} {rm : Room} {M0 : List mC} {post : Option Value → List mC → Prop} (E : gE X l9 y_Mo_isTriple rm 7 (some .boolean) M0 post) (hz : narrow .boolean (.int s0) = .int s0) (hp : post (some (.int s0)) M) (hk : k ≤ rm.cells) (hn : n ≤ rm.slots) : gg X M k n 40 [] [.int s0] := by
  exact g_zret ok E d_Mo_isTriple_40 hz hp hk hn
theorem k_Mo_add_0 {X : gC} {M : List mC} {k n : Nat} {x0 : Nat} {x1 : Int64} {x3 : Int64} {x5 : Int64} {fs2 : List Value} (ok : gO X c_Mo_add "TripleStoreModel" w_Mo_add) (h1 : M[x0]? = some (.inr (10, fs2))) {rm : Room} {post : Option Value → List mC → Prop} (hm : mm_ (gLa X) y_Mo_isTriple w_Mo_isTriple rm [.ref x0, .long x1, .long x3, .long x5] M post) (hR : gF X rm 7 k n) (hlen : ∀ r M', post r M' → M'.length = M.length) (kk : ∀ r M', post r M' → gg X M' (k + rm.cells) (n + rm.slots) 8 [(0, .ref x0), (1, .long x1), (3, .long x3), (5, .long x5)] (r.toList ++ [])) : gg X M k n 0 [(0, .ref x0), (1, .long x1), (3, .long x3), (5, .long x5)] [] := by
  refine g_aload_n ok d_Mo_add_0 rfl (j := 0) rfl ?_
  refine g_lload_n ok d_Mo_add_1 rfl (j := 1) rfl ?_
  refine g_lload_n ok d_Mo_add_2 rfl (j := 2) rfl ?_
  refine g_lload ok d_Mo_add_3 (j := 3) rfl ?_
  exact gc_Mo_140 (As := [.long x1, .long x3, .long x5]) (rest := []) ok d_Mo_add_5 hm rfl rfl (Nat.le_of_ble_eq_true rfl) hR h1 hlen kk
theorem k_Mo_add_8 {X : gC} {M : List mC} {k n : Nat} {x0 : Nat} {x1 : Int64} {x3 : Int64} {x5 : Int64} {s0 : Int32} (ok : gO X c_Mo_add "TripleStoreModel" w_Mo_add)  (kt : s0 = 0 → gg X M k n 23 [] []) (kf : ¬ s0 = 0 → gg X M k n 11 [(0, .ref x0), (1, .long x1), (3, .long x3), (5, .long x5)] []) : gg X M k n 8 [(0, .ref x0), (1, .long x1), (3, .long x3), (5, .long x5)] [.int s0] := by
  exact g_if_eq (tgt := 23) ok d_Mo_add_8 (by decide) (fun z => (gg_keep [] (kt z))) (fun z => (kf z))
theorem k_Mo_add_11 {X : gC} {M : List mC} {k n : Nat} {x0 : Nat} {x1 : Int64} {x3 : Int64} {x5 : Int64} {fs2 : List Value} (ok : gO X c_Mo_add "TripleStoreModel" w_Mo_add) (h1 : M[x0]? = some (.inr (10, fs2))) {rm : Room} {post : Option Value → List mC → Prop} (hm : mm_ (gLa X) y_Mo_does w_Mo_does rm [.ref x0, .int 1, .long x1, .long x3, .long x5] M post) (hR : gF X rm 9 k n) (hlen : ∀ r M', post r M' → M'.length = M.length) (kk : ∀ r M', post r M' → gg X M' (k + rm.cells) (n + rm.slots) 20 [] (r.toList ++ [])) : gg X M k n 11 [(0, .ref x0), (1, .long x1), (3, .long x3), (5, .long x5)] [] := by
  refine g_aload_n ok d_Mo_add_11 rfl (j := 0) rfl ?_
  refine g_iconst (v := 1) ok d_Mo_add_12 (by decide) ?_
  refine g_lload_n ok d_Mo_add_13 rfl (j := 1) rfl ?_
  refine g_lload_n ok d_Mo_add_14 rfl (j := 2) rfl ?_
  refine g_lload ok d_Mo_add_15 (j := 3) rfl ?_
  exact gc_Mo_144 (As := [.int 1, .long x1, .long x3, .long x5]) (rest := []) ok d_Mo_add_17 hm rfl rfl (Nat.le_of_ble_eq_true rfl) hR h1 hlen (fun r M' q => (gg_keep [] (kk r M' q)))
theorem k_Mo_add_20 {X : gC} {M : List mC} {k n : Nat} {s0 : Int32} (ok : gO X c_Mo_add "TripleStoreModel" w_Mo_add)  (kk : gg X M k n 24 [] [.int s0]) : gg X M k n 20 [] [.int s0] := by
  exact g_goto (tgt := 24) ok d_Mo_add_20 (by decide) kk
theorem k_Mo_add_23 {X : gC} {M : List mC} {k n : Nat}  (ok : gO X c_Mo_add "TripleStoreModel" w_Mo_add)  (kk : gg X M k n 24 [] [.int 0]) : gg X M k n 23 [] [] := by
  refine g_iconst (v := 0) ok d_Mo_add_23 (by decide) ?_
  exact kk
theorem k_Mo_add_24 {X : gC} {M : List mC} {k n : Nat} {s0 : Int32} (ok : gO X c_Mo_add "TripleStoreModel" w_Mo_add)  {l9 : Launch} {rm : Room} {M0 : List mC} {post : Option Value → List mC → Prop} (E : gE X l9 y_Mo_add rm 7 (some .int) M0 post) (hp : post (some (.int s0)) M) (hk : k ≤ rm.cells) (hn : n ≤ rm.slots) : gg X M k n 24 [] [.int s0] := by
  exact g_iret ok E d_Mo_add_24 hp hk hn
theorem k_Mo_remove_0 {X : gC} {M : List mC} {k n : Nat} {x0 : Nat} {x1 : Int64} {x3 : Int64} {x5 : Int64} {fs2 : List Value} (ok : gO X c_Mo_remove "TripleStoreModel" w_Mo_remove) (h1 : M[x0]? = some (.inr (10, fs2))) {rm : Room} {post : Option Value → List mC → Prop} (hm : mm_ (gLa X) y_Mo_isTriple w_Mo_isTriple rm [.ref x0, .long x1, .long x3, .long x5] M post) (hR : gF X rm 7 k n) (hlen : ∀ r M', post r M' → M'.length = M.length) (kk : ∀ r M', post r M' → gg X M' (k + rm.cells) (n + rm.slots) 8 [(0, .ref x0), (1, .long x1), (3, .long x3), (5, .long x5)] (r.toList ++ [])) : gg X M k n 0 [(0, .ref x0), (1, .long x1), (3, .long x3), (5, .long x5)] [] := by
  refine g_aload_n ok d_Mo_remove_0 rfl (j := 0) rfl ?_
  refine g_lload_n ok d_Mo_remove_1 rfl (j := 1) rfl ?_
  refine g_lload_n ok d_Mo_remove_2 rfl (j := 2) rfl ?_
  refine g_lload ok d_Mo_remove_3 (j := 3) rfl ?_
  exact gc_Mo_140 (As := [.long x1, .long x3, .long x5]) (rest := []) ok d_Mo_remove_5 hm rfl rfl (Nat.le_of_ble_eq_true rfl) hR h1 hlen kk
theorem k_Mo_remove_8 {X : gC} {M : List mC} {k n : Nat} {x0 : Nat} {x1 : Int64} {x3 : Int64} {x5 : Int64} {s0 : Int32} (ok : gO X c_Mo_remove "TripleStoreModel" w_Mo_remove)  (kt : s0 = 0 → gg X M k n 23 [] []) (kf : ¬ s0 = 0 → gg X M k n 11 [(0, .ref x0), (1, .long x1), (3, .long x3), (5, .long x5)] []) : gg X M k n 8 [(0, .ref x0), (1, .long x1), (3, .long x3), (5, .long x5)] [.int s0] := by
  exact g_if_eq (tgt := 23) ok d_Mo_remove_8 (by decide) (fun z => (gg_keep [] (kt z))) (fun z => (kf z))
theorem k_Mo_remove_11 {X : gC} {M : List mC} {k n : Nat} {x0 : Nat} {x1 : Int64} {x3 : Int64} {x5 : Int64} {fs2 : List Value} (ok : gO X c_Mo_remove "TripleStoreModel" w_Mo_remove) (h1 : M[x0]? = some (.inr (10, fs2))) {rm : Room} {post : Option Value → List mC → Prop} (hm : mm_ (gLa X) y_Mo_does w_Mo_does rm [.ref x0, .int 0, .long x1, .long x3, .long x5] M post) (hR : gF X rm 9 k n) (hlen : ∀ r M', post r M' → M'.length = M.length) (kk : ∀ r M', post r M' → gg X M' (k + rm.cells) (n + rm.slots) 20 [] (r.toList ++ [])) : gg X M k n 11 [(0, .ref x0), (1, .long x1), (3, .long x3), (5, .long x5)] [] := by
  refine g_aload_n ok d_Mo_remove_11 rfl (j := 0) rfl ?_
  refine g_iconst (v := 0) ok d_Mo_remove_12 (by decide) ?_
  refine g_lload_n ok d_Mo_remove_13 rfl (j := 1) rfl ?_
  refine g_lload_n ok d_Mo_remove_14 rfl (j := 2) rfl ?_
  refine g_lload ok d_Mo_remove_15 (j := 3) rfl ?_
  exact gc_Mo_144 (As := [.int 0, .long x1, .long x3, .long x5]) (rest := []) ok d_Mo_remove_17 hm rfl rfl (Nat.le_of_ble_eq_true rfl) hR h1 hlen (fun r M' q => (gg_keep [] (kk r M' q)))
theorem k_Mo_remove_20 {X : gC} {M : List mC} {k n : Nat} {s0 : Int32} (ok : gO X c_Mo_remove "TripleStoreModel" w_Mo_remove)  (kk : gg X M k n 24 [] [.int s0]) : gg X M k n 20 [] [.int s0] := by
  exact g_goto (tgt := 24) ok d_Mo_remove_20 (by decide) kk
theorem k_Mo_remove_23 {X : gC} {M : List mC} {k n : Nat}  (ok : gO X c_Mo_remove "TripleStoreModel" w_Mo_remove)  (kk : gg X M k n 24 [] [.int 0]) : gg X M k n 23 [] [] := by
  refine g_iconst (v := 0) ok d_Mo_remove_23 (by decide) ?_
  exact kk
theorem k_Mo_remove_24 {X : gC} {M : List mC} {k n : Nat} {s0 : Int32} (ok : gO X c_Mo_remove "TripleStoreModel" w_Mo_remove)  {l9 : Launch} {rm : Room} {M0 : List mC} {post : Option Value → List mC → Prop} (E : gE X l9 y_Mo_remove rm 7 (some .int) M0 post) (hp : post (some (.int s0)) M) (hk : k ≤ rm.cells) (hn : n ≤ rm.slots) : gg X M k n 24 [] [.int s0] := by
  exact g_iret ok E d_Mo_remove_24 hp hk hn
theorem k_Mo_begin_0 {X : gC} {M : List mC} {k n : Nat} {x0 : Nat} {fs2 : List Value} {f3 : Int32} (ok : gO X c_Mo_begin "TripleStoreModel" w_Mo_begin) (h1 : M[x0]? = some (.inr (10, fs2))) (h4 : fs2[10]? = some (.int f3)) (kt : ¬ f3 = 0 → gg X M k n 12 [(0, .ref x0)] [.ref x0]) (kf : f3 = 0 → gg X M k n 8 [(0, .ref x0)] [.ref x0]) : gg X M k n 0 [(0, .ref x0)] [] := by
  refine g_aload_n ok d_Mo_begin_0 rfl (j := 0) rfl ?_
  refine g_aload_n ok d_Mo_begin_1 rfl (j := 0) rfl ?_
  refine gf_Mo_123 ok d_Mo_begin_2 h1 h4 ?_
  exact g_if_ne (tgt := 12) ok d_Mo_begin_5 (by decide) (fun z => (kt z)) (fun z => (kf z))
theorem k_Mo_begin_8 {X : gC} {M : List mC} {k n : Nat} {x0 : Nat} (ok : gO X c_Mo_begin "TripleStoreModel" w_Mo_begin)  (kk : gg X M k n 13 [(0, .ref x0)] [.int 1, .ref x0]) : gg X M k n 8 [(0, .ref x0)] [.ref x0] := by
  refine g_iconst (v := 1) ok d_Mo_begin_8 (by decide) ?_
  exact g_goto (tgt := 13) ok d_Mo_begin_9 (by decide) kk
theorem k_Mo_begin_12 {X : gC} {M : List mC} {k n : Nat} {x0 : Nat} (ok : gO X c_Mo_begin "TripleStoreModel" w_Mo_begin)  (kk : gg X M k n 13 [(0, .ref x0)] [.int 0, .ref x0]) : gg X M k n 12 [(0, .ref x0)] [.ref x0] := by
  refine g_iconst (v := 0) ok d_Mo_begin_12 (by decide) ?_
  exact kk
theorem k_Mo_begin_13 {X : gC} {M : List mC} {k n : Nat} {x0 : Nat} {s1 : Int32} {fs2 : List Value} (ok : gO X c_Mo_begin "TripleStoreModel" w_Mo_begin) (h1 : M[x0]? = some (.inr (10, fs2))) {rm : Room} {post : Option Value → List mC → Prop} (hm : mm_ (gLa X) y_Mo_good w_Mo_good rm [.ref x0, .int s1, .int 1] M post) (hR : gF X rm 3 k n) (hlen : ∀ r M', post r M' → M'.length = M.length) (kk : ∀ r M', post r M' → gg X M' (k + rm.cells) (n + rm.slots) 17 [(0, .ref x0)] (r.toList ++ [])) : gg X M k n 13 [(0, .ref x0)] [.int s1, .ref x0] := by
  refine g_iconst (v := 1) ok d_Mo_begin_13 (by decide) ?_
  exact gc_Mo_109 (As := [.int s1, .int 1]) (rest := []) ok d_Mo_begin_14 hm rfl rfl (Nat.le_of_ble_eq_true rfl) hR h1 hlen kk
theorem k_Mo_begin_17 {X : gC} {M : List mC} {k n : Nat} {x0 : Nat} {s0 : Int32} (ok : gO X c_Mo_begin "TripleStoreModel" w_Mo_begin)  (kt : ¬ s0 = 0 → gg X M k n 22 [(0, .ref x0)] []) (kf : s0 = 0 → gg X M k n 20 [] []) : gg X M k n 17 [(0, .ref x0)] [.int s0] := by
  exact g_if_ne (tgt := 22) ok d_Mo_begin_17 (by decide) (fun z => (kt z)) (fun z => (gg_keep [] (kf z)))
theorem k_Mo_begin_20 {X : gC} {M : List mC} {k n : Nat}  (ok : gO X c_Mo_begin "TripleStoreModel" w_Mo_begin)  {l9 : Launch} {rm : Room} {M0 : List mC} {post : Option Value → List mC → Prop} (E : gE X l9 y_Mo_begin rm 1 (some .int) M0 post) (hp : post (some (.int 0)) M) (hk : k ≤ rm.cells) (hn : n ≤ rm.slots) : gg X M k n 20 [] [] := by
  refine g_iconst (v := 0) ok d_Mo_begin_20 (by decide) ?_
  exact g_iret ok E d_Mo_begin_21 hp hk hn
theorem k_Mo_begin_22 {X : gC} {M : List mC} {k n : Nat} {x0 : Nat} {fs2 : List Value} {M5 : List mC} {f9 : Int32} {M13 : List mC} {f19 : Int32} (ok : gO X c_Mo_begin "TripleStoreModel" w_Mo_begin) (h1 : M[x0]? = some (.inr (10, fs2))) (h4 : 59 ≤ fs2.length) (h6 : M.set x0 (.inr (10, (fs2.set 10 (.int 1)))) = M5) (h10 : fs2[7]? = some (.int f9)) (h14 : M5.set x0 (.inr (10, ((fs2.set 10 (.int 1)).set 11 (.int f9)))) = M13) (h20 : fs2[8]? = some (.int f19)) {l9 : Launch} {rm : Room} {M0 : List mC} {post : Option Value → List mC → Prop} (E : gE X l9 y_Mo_begin rm 1 (some .int) M0 post) (hp : post (some (.int f19)) M13) (hk : k ≤ rm.cells) (hn : n ≤ rm.slots) : gg X M k n 22 [(0, .ref x0)] [] := by
  refine g_aload_n ok d_Mo_begin_22 rfl (j := 0) rfl ?_
  refine g_iconst (v := 1) ok d_Mo_begin_23 (by decide) ?_
  have h3 : 10 < (fs2).length := by first | omega | (simp only [List.length_set]; omega)
  refine pf_Mo_123 ok d_Mo_begin_24 h1 h3 (fun _ => ⟨rfl, rfl⟩) ?_
  rw [h6]
  have h7 : M5[x0]? = some (.inr (10, (fs2.set 10 (.int 1)))) := by rw [← h6]; exact gs_eq h1
  have h8 : (fs2.set 10 (.int 1))[10]? = some (.int 1) := List.getElem?_set_self h3
  refine g_aload_n ok d_Mo_begin_27 rfl (j := 0) rfl ?_
  refine g_aload_n ok d_Mo_begin_28 rfl (j := 0) rfl ?_
  have h11 := (List.getElem?_set_ne (a := .int 1) (by decide : 10 ≠ 7)).trans h10
  refine gf_Mo_117 ok d_Mo_begin_29 h7 h11 ?_
  have h12 : 11 < ((fs2.set 10 (.int 1))).length := by first | omega | (simp only [List.length_set]; omega)
  refine pf_Mo_148 ok d_Mo_begin_32 h7 h12 (fun _ => ⟨rfl, rfl⟩) ?_
  rw [h14]
  have h15 : M13[x0]? = some (.inr (10, ((fs2.set 10 (.int 1)).set 11 (.int f9)))) := by rw [← h14]; exact gs_eq h7
  have h16 := (List.getElem?_set_ne (a := .int f9) (by decide : 11 ≠ 10)).trans h8
  have h17 := (List.getElem?_set_ne (a := .int f9) (by decide : 11 ≠ 7)).trans h11
  have h18 : ((fs2.set 10 (.int 1)).set 11 (.int f9))[11]? = some (.int f9) := List.getElem?_set_self h12
  refine g_aload_n ok d_Mo_begin_35 rfl (j := 0) rfl ?_
  have h21 := (List.getElem?_set_ne (a := .int 1) (by decide : 10 ≠ 8)).trans h20
  have h22 := (List.getElem?_set_ne (a := .int f9) (by decide : 11 ≠ 8)).trans h21
  refine gf_Mo_130 ok d_Mo_begin_36 h15 h22 ?_
  exact g_iret ok E d_Mo_begin_39 hp hk hn
theorem k_Mo_commit_0 {X : gC} {M : List mC} {k n : Nat} {x0 : Nat} {fs2 : List Value} {f3 : Int32} (ok : gO X c_Mo_commit "TripleStoreModel" w_Mo_commit) (h1 : M[x0]? = some (.inr (10, fs2))) (h4 : fs2[10]? = some (.int f3)) {rm : Room} {post : Option Value → List mC → Prop} (hm : mm_ (gLa X) y_Mo_good w_Mo_good rm [.ref x0, .int f3, .int 1] M post) (hR : gF X rm 3 k n) (hlen : ∀ r M', post r M' → M'.length = M.length) (kk : ∀ r M', post r M' → gg X M' (k + rm.cells) (n + rm.slots) 9 [(0, .ref x0)] (r.toList ++ [])) : gg X M k n 0 [(0, .ref x0)] [] := by
  refine g_aload_n ok d_Mo_commit_0 rfl (j := 0) rfl ?_
  refine g_aload_n ok d_Mo_commit_1 rfl (j := 0) rfl ?_
  refine gf_Mo_123 ok d_Mo_commit_2 h1 h4 ?_
  refine g_iconst (v := 1) ok d_Mo_commit_5 (by decide) ?_
  exact gc_Mo_109 (As := [.int f3, .int 1]) (rest := []) ok d_Mo_commit_6 hm rfl rfl (Nat.le_of_ble_eq_true rfl) hR h1 hlen kk
theorem k_Mo_commit_9 {X : gC} {M : List mC} {k n : Nat} {x0 : Nat} {s0 : Int32} (ok : gO X c_Mo_commit "TripleStoreModel" w_Mo_commit)  (kt : ¬ s0 = 0 → gg X M k n 14 [(0, .ref x0)] []) (kf : s0 = 0 → gg X M k n 12 [] []) : gg X M k n 9 [(0, .ref x0)] [.int s0] := by
  exact g_if_ne (tgt := 14) ok d_Mo_commit_9 (by decide) (fun z => (kt z)) (fun z => (gg_keep [] (kf z)))
theorem k_Mo_commit_12 {X : gC} {M : List mC} {k n : Nat}  (ok : gO X c_Mo_commit "TripleStoreModel" w_Mo_commit)  {l9 : Launch} {rm : Room} {M0 : List mC} {post : Option Value → List mC → Prop} (E : gE X l9 y_Mo_commit rm 1 (some .int) M0 post) (hp : post (some (.int 0)) M) (hk : k ≤ rm.cells) (hn : n ≤ rm.slots) : gg X M k n 12 [] [] := by
  refine g_iconst (v := 0) ok d_Mo_commit_12 (by decide) ?_
  exact g_iret ok E d_Mo_commit_13 hp hk hn
theorem k_Mo_commit_14 {X : gC} {M : List mC} {k n : Nat} {x0 : Nat} {fs2 : List Value} (ok : gO X c_Mo_commit "TripleStoreModel" w_Mo_commit) (h1 : M[x0]? = some (.inr (10, fs2))) {rm : Room} {post : Option Value → List mC → Prop} (hm : mm_ (gLa X) y_Mo_close w_Mo_close rm [.ref x0] M post) (hR : gF X rm 1 k n) (hlen : ∀ r M', post r M' → M'.length = M.length) (kk : ∀ r M', post r M' → gg X M' (k + rm.cells) (n + rm.slots) 18 [(0, .ref x0)] (r.toList ++ [])) : gg X M k n 14 [(0, .ref x0)] [] := by
  refine g_aload_n ok d_Mo_commit_14 rfl (j := 0) rfl ?_
  exact gc_Mo_127 (As := []) (rest := []) ok d_Mo_commit_15 hm rfl rfl (Nat.le_of_ble_eq_true rfl) hR h1 hlen kk
theorem k_Mo_commit_18 {X : gC} {M : List mC} {k n : Nat} {x0 : Nat} {fs2 : List Value} {f3 : Int32} {f5 : Int32} (ok : gO X c_Mo_commit "TripleStoreModel" w_Mo_commit) (h1 : M[x0]? = some (.inr (10, fs2))) (h4 : fs2[7]? = some (.int f3)) (h6 : fs2[11]? = some (.int f5)) {l9 : Launch} {rm : Room} {M0 : List mC} {post : Option Value → List mC → Prop} (E : gE X l9 y_Mo_commit rm 1 (some .int) M0 post) (hp : post (some (.int (f3 - f5))) M) (hk : k ≤ rm.cells) (hn : n ≤ rm.slots) : gg X M k n 18 [(0, .ref x0)] [] := by
  refine g_aload_n ok d_Mo_commit_18 rfl (j := 0) rfl ?_
  refine gf_Mo_117 ok d_Mo_commit_19 h1 h4 ?_
  refine g_aload_n ok d_Mo_commit_22 rfl (j := 0) rfl ?_
  refine gf_Mo_148 ok d_Mo_commit_23 h1 h6 ?_
  refine g_isub ok d_Mo_commit_26 ?_
  exact g_iret ok E d_Mo_commit_27 hp hk hn
theorem k_Mo_undo_0 {X : gC} {M : List mC} {k n : Nat} {x0 : Nat} {x1 : Int32} {fs2 : List Value} {f3 : Int32} (ok : gO X c_Mo_undo "TripleStoreModel" w_Mo_undo) (h1 : M[x0]? = some (.inr (10, fs2))) (h4 : fs2[7]? = some (.int f3)) (kt : f3 ≤ x1 → gg X M k n 79 [] []) (kf : ¬ f3 ≤ x1 → gg X M k n 8 [(0, .ref x0), (1, .int x1)] []) : gg X M k n 0 [(0, .ref x0), (1, .int x1)] [] := by
  refine g_aload_n ok d_Mo_undo_0 rfl (j := 0) rfl ?_
  refine gf_Mo_117 ok d_Mo_undo_1 h1 h4 ?_
  refine g_iload_n ok d_Mo_undo_4 rfl (j := 1) rfl ?_
  exact g_icmp_le (tgt := 79) ok d_Mo_undo_5 (by decide) (fun z => (gg_keep [] (kt z))) (fun z => (kf z))
theorem k_Mo_undo_8 {X : gC} {M : List mC} {k n : Nat} {x0 : Nat} {x1 : Int32} {fs2 : List Value} {f3 : Int32} {M7 : List mC} {f11 : Nat} {g15 : Nat → Int32} {N16 : Nat} (ok : gO X c_Mo_undo "TripleStoreModel" w_Mo_undo) (h1 : M[x0]? = some (.inr (10, fs2))) (h4 : fs2[7]? = some (.int f3)) (h6 : 59 ≤ fs2.length) (h8 : M.set x0 (.inr (10, (fs2.set 7 (.int (f3 - 1))))) = M7) (h12 : fs2[5]? = some (.ref f11)) (h14 : M[f11]? = some (.inl (3, N16, .inl g15))) (h18 : vp_in (f3 - 1) N16) (kt : ¬ (g15 (f3 - 1).toNatClampNeg) = 0 → gg X M7 k n 35 [(0, .ref x0), (1, .int x1)] [.ref x0]) (kf : (g15 (f3 - 1).toNatClampNeg) = 0 → gg X M7 k n 31 [(0, .ref x0), (1, .int x1)] [.ref x0]) : gg X M k n 8 [(0, .ref x0), (1, .int x1)] [] := by
  refine g_aload_n ok d_Mo_undo_8 rfl (j := 0) rfl ?_
  refine g_dup ok d_Mo_undo_9 rfl ?_
  refine gf_Mo_117 ok d_Mo_undo_10 h1 h4 ?_
  refine g_iconst (v := 1) ok d_Mo_undo_13 (by decide) ?_
  refine g_isub ok d_Mo_undo_14 ?_
  have h5 : 7 < (fs2).length := by first | omega | (simp only [List.length_set]; omega)
  refine pf_Mo_117 ok d_Mo_undo_15 h1 h5 (fun _ => ⟨rfl, rfl⟩) ?_
  rw [h8]
  have h9 : M7[x0]? = some (.inr (10, (fs2.set 7 (.int (f3 - 1))))) := by rw [← h8]; exact gs_eq h1
  have h10 : (fs2.set 7 (.int (f3 - 1)))[7]? = some (.int (f3 - 1)) := List.getElem?_set_self h5
  refine g_aload_n ok d_Mo_undo_18 rfl (j := 0) rfl ?_
  refine g_aload_n ok d_Mo_undo_19 rfl (j := 0) rfl ?_
  have h13 := (List.getElem?_set_ne (a := .int (f3 - 1)) (by decide : 7 ≠ 5)).trans h12
  refine gf_Mo_19 ok d_Mo_undo_20 h9 h13 ?_
  refine g_aload_n ok d_Mo_undo_23 rfl (j := 0) rfl ?_
  refine gf_Mo_117 ok d_Mo_undo_24 h9 h10 ?_
  have h17 : M7[f11]? = some (.inl (3, N16, .inl g15)) := by rw [← h8]; exact (gs_ne (Ne.symm (ne_ao h14 h1))).trans h14
  refine g_zald (t := 3) ok rfl d_Mo_undo_27 h17 h18 ?_
  exact g_if_ne (tgt := 35) ok d_Mo_undo_28 (by decide) (fun z => (kt z)) (fun z => (kf z))
theorem k_Mo_undo_31 {X : gC} {M : List mC} {k n : Nat} {x0 : Nat} {x1 : Int32} (ok : gO X c_Mo_undo "TripleStoreModel" w_Mo_undo)  (kk : gg X M k n 36 [(0, .ref x0), (1, .int x1)] [.int 1, .ref x0]) : gg X M k n 31 [(0, .ref x0), (1, .int x1)] [.ref x0] := by
  refine g_iconst (v := 1) ok d_Mo_undo_31 (by decide) ?_
  exact g_goto (tgt := 36) ok d_Mo_undo_32 (by decide) kk
theorem k_Mo_undo_35 {X : gC} {M : List mC} {k n : Nat} {x0 : Nat} {x1 : Int32} (ok : gO X c_Mo_undo "TripleStoreModel" w_Mo_undo)  (kk : gg X M k n 36 [(0, .ref x0), (1, .int x1)] [.int 0, .ref x0]) : gg X M k n 35 [(0, .ref x0), (1, .int x1)] [.ref x0] := by
  refine g_iconst (v := 0) ok d_Mo_undo_35 (by decide) ?_
  exact kk
theorem k_Mo_undo_36 {X : gC} {M : List mC} {k n : Nat} {x0 : Nat} {x1 : Int32} {s1 : Int32} {fs2 : List Value} {f3 : Nat} {f5 : Int32} {g8 : Nat → Int64} {N9 : Nat} (ok : gO X c_Mo_undo "TripleStoreModel" w_Mo_undo) (h1 : M[x0]? = some (.inr (10, fs2))) (h4 : fs2[4]? = some (.ref f3)) (h6 : fs2[7]? = some (.int f5)) (h7 : M[f3]? = some (.inl (1, N9, .inr (.inl g8)))) (h10 : vp_in (3 * f5) N9) (h11 : vp_in ((3 * f5) + 1) N9) (h12 : vp_in ((3 * f5) + 2) N9) {rm : Room} {post : Option Value → List mC → Prop} (hm : mm_ (gLa X) y_Mo_apply w_Mo_apply rm [.ref x0, .int s1, .long (g8 (3 * f5).toNatClampNeg), .long (g8 ((3 * f5) + 1).toNatClampNeg), .long (g8 ((3 * f5) + 2).toNatClampNeg)] M post) (hR : gF X rm 10 k n) (hlen : ∀ r M', post r M' → M'.length = M.length) (kk : ∀ r M', post r M' → gg X M' (k + rm.cells) (n + rm.slots) 76 [(0, .ref x0), (1, .int x1)] (r.toList ++ [])) : gg X M k n 36 [(0, .ref x0), (1, .int x1)] [.int s1, .ref x0] := by
  refine g_aload_n ok d_Mo_undo_36 rfl (j := 0) rfl ?_
  refine gf_Mo_16 ok d_Mo_undo_37 h1 h4 ?_
  refine g_iconst (v := 3) ok d_Mo_undo_40 (by decide) ?_
  refine g_aload_n ok d_Mo_undo_41 rfl (j := 0) rfl ?_
  refine gf_Mo_117 ok d_Mo_undo_42 h1 h6 ?_
  refine g_imul ok d_Mo_undo_45 ?_
  refine g_lald (t := 1) ok rfl d_Mo_undo_46 h7 h10 ?_
  refine g_aload_n ok d_Mo_undo_47 rfl (j := 0) rfl ?_
  refine gf_Mo_16 ok d_Mo_undo_48 h1 h4 ?_
  refine g_iconst (v := 3) ok d_Mo_undo_51 (by decide) ?_
  refine g_aload_n ok d_Mo_undo_52 rfl (j := 0) rfl ?_
  refine gf_Mo_117 ok d_Mo_undo_53 h1 h6 ?_
  refine g_imul ok d_Mo_undo_56 ?_
  refine g_iconst (v := 1) ok d_Mo_undo_57 (by decide) ?_
  refine g_iadd ok d_Mo_undo_58 ?_
  refine g_lald (t := 1) ok rfl d_Mo_undo_59 h7 h11 ?_
  refine g_aload_n ok d_Mo_undo_60 rfl (j := 0) rfl ?_
  refine gf_Mo_16 ok d_Mo_undo_61 h1 h4 ?_
  refine g_iconst (v := 3) ok d_Mo_undo_64 (by decide) ?_
  refine g_aload_n ok d_Mo_undo_65 rfl (j := 0) rfl ?_
  refine gf_Mo_117 ok d_Mo_undo_66 h1 h6 ?_
  refine g_imul ok d_Mo_undo_69 ?_
  refine g_iconst (v := 2) ok d_Mo_undo_70 (by decide) ?_
  refine g_iadd ok d_Mo_undo_71 ?_
  refine g_lald (t := 1) ok rfl d_Mo_undo_72 h7 h12 ?_
  exact gc_Mo_113 (As := [.int s1, .long (g8 (3 * f5).toNatClampNeg), .long (g8 ((3 * f5) + 1).toNatClampNeg), .long (g8 ((3 * f5) + 2).toNatClampNeg)]) (rest := []) ok d_Mo_undo_73 hm rfl rfl (Nat.le_of_ble_eq_true rfl) hR h1 hlen kk
theorem k_Mo_undo_76 {X : gC} {M : List mC} {k n : Nat} {x0 : Nat} {x1 : Int32} (ok : gO X c_Mo_undo "TripleStoreModel" w_Mo_undo)  (kk : gg X M k n 0 [(0, .ref x0), (1, .int x1)] []) : gg X M k n 76 [(0, .ref x0), (1, .int x1)] [] := by
  exact g_goto (tgt := 0) ok d_Mo_undo_76 (by decide) kk
theorem k_Mo_undo_79 {X : gC} {M : List mC} {k n : Nat}  (ok : gO X c_Mo_undo "TripleStoreModel" w_Mo_undo)  {l9 : Launch} {rm : Room} {M0 : List mC} {post : Option Value → List mC → Prop} (E : gE X l9 y_Mo_undo rm 2 none M0 post) (hp : post (none) M) (hk : k ≤ rm.cells) (hn : n ≤ rm.slots) : gg X M k n 79 [] [] := by
  exact g_vret ok E d_Mo_undo_79 hp hk hn
theorem k_Mo_rollback_0 {X : gC} {M : List mC} {k n : Nat} {x0 : Nat} {fs2 : List Value} {f3 : Int32} (ok : gO X c_Mo_rollback "TripleStoreModel" w_Mo_rollback) (h1 : M[x0]? = some (.inr (10, fs2))) (h4 : fs2[10]? = some (.int f3)) {rm : Room} {post : Option Value → List mC → Prop} (hm : mm_ (gLa X) y_Mo_good w_Mo_good rm [.ref x0, .int f3, .int 1] M post) (hR : gF X rm 3 k n) (hlen : ∀ r M', post r M' → M'.length = M.length) (kk : ∀ r M', post r M' → gg X M' (k + rm.cells) (n + rm.slots) 9 [(0, .ref x0)] (r.toList ++ [])) : gg X M k n 0 [(0, .ref x0)] [] := by
  refine g_aload_n ok d_Mo_rollback_0 rfl (j := 0) rfl ?_
  refine g_aload_n ok d_Mo_rollback_1 rfl (j := 0) rfl ?_
  refine gf_Mo_123 ok d_Mo_rollback_2 h1 h4 ?_
  refine g_iconst (v := 1) ok d_Mo_rollback_5 (by decide) ?_
  exact gc_Mo_109 (As := [.int f3, .int 1]) (rest := []) ok d_Mo_rollback_6 hm rfl rfl (Nat.le_of_ble_eq_true rfl) hR h1 hlen kk
theorem k_Mo_rollback_9 {X : gC} {M : List mC} {k n : Nat} {x0 : Nat} {s0 : Int32} (ok : gO X c_Mo_rollback "TripleStoreModel" w_Mo_rollback)  (kt : ¬ s0 = 0 → gg X M k n 14 [(0, .ref x0)] []) (kf : s0 = 0 → gg X M k n 12 [] []) : gg X M k n 9 [(0, .ref x0)] [.int s0] := by
  exact g_if_ne (tgt := 14) ok d_Mo_rollback_9 (by decide) (fun z => (kt z)) (fun z => (gg_keep [] (kf z)))
theorem k_Mo_rollback_12 {X : gC} {M : List mC} {k n : Nat}  (ok : gO X c_Mo_rollback "TripleStoreModel" w_Mo_rollback)  {l9 : Launch} {rm : Room} {M0 : List mC} {post : Option Value → List mC → Prop} (E : gE X l9 y_Mo_rollback rm 2 (some .int) M0 post) (hp : post (some (.int 0)) M) (hk : k ≤ rm.cells) (hn : n ≤ rm.slots) : gg X M k n 12 [] [] := by
  refine g_iconst (v := 0) ok d_Mo_rollback_12 (by decide) ?_
  exact g_iret ok E d_Mo_rollback_13 hp hk hn
theorem k_Mo_rollback_14 {X : gC} {M : List mC} {k n : Nat} {x0 : Nat} {fs2 : List Value} {f3 : Int32} {f5 : Int32} (ok : gO X c_Mo_rollback "TripleStoreModel" w_Mo_rollback) (hl : gL X = 2) (h1 : M[x0]? = some (.inr (10, fs2))) (h4 : fs2[7]? = some (.int f3)) (h6 : fs2[11]? = some (.int f5)) {rm : Room} {post : Option Value → List mC → Prop} (hm : mm_ (gLa X) y_Mo_undo w_Mo_undo rm [.ref x0, .int f5] M post) (hR : gF X rm 2 k n) (hlen : ∀ r M', post r M' → M'.length = M.length) (kk : ∀ r M', post r M' → gg X M' (k + rm.cells) (n + rm.slots) 32 [(0, .ref x0), (1, .int (f3 - f5))] (r.toList ++ [])) : gg X M k n 14 [(0, .ref x0)] [] := by
  refine g_aload_n ok d_Mo_rollback_14 rfl (j := 0) rfl ?_
  refine gf_Mo_117 ok d_Mo_rollback_15 h1 h4 ?_
  refine g_aload_n ok d_Mo_rollback_18 rfl (j := 0) rfl ?_
  refine gf_Mo_148 ok d_Mo_rollback_19 h1 h6 ?_
  refine g_isub ok d_Mo_rollback_22 ?_
  refine g_istore_n (L' := [(0, .ref x0), (1, .int (f3 - f5))]) ok d_Mo_rollback_23 rfl (by rw [hl]; decide) rfl ?_
  refine g_aload_n ok d_Mo_rollback_24 rfl (j := 0) rfl ?_
  refine g_aload_n ok d_Mo_rollback_25 rfl (j := 0) rfl ?_
  refine gf_Mo_148 ok d_Mo_rollback_26 h1 h6 ?_
  exact gc_Mo_151 (As := [.int f5]) (rest := []) ok d_Mo_rollback_29 hm rfl rfl (Nat.le_of_ble_eq_true rfl) hR h1 hlen kk
theorem k_Mo_rollback_32 {X : gC} {M : List mC} {k n : Nat} {x0 : Nat} {x1 : Int32} {fs2 : List Value} {M5 : List mC} (ok : gO X c_Mo_rollback "TripleStoreModel" w_Mo_rollback) (h1 : M[x0]? = some (.inr (10, fs2))) (h4 : 59 ≤ fs2.length) (h6 : M.set x0 (.inr (10, (fs2.set 10 (.int 0)))) = M5) {l9 : Launch} {rm : Room} {M0 : List mC} {post : Option Value → List mC → Prop} (E : gE X l9 y_Mo_rollback rm 2 (some .int) M0 post) (hp : post (some (.int x1)) M5) (hk : k ≤ rm.cells) (hn : n ≤ rm.slots) : gg X M k n 32 [(0, .ref x0), (1, .int x1)] [] := by
  refine g_aload_n ok d_Mo_rollback_32 rfl (j := 0) rfl ?_
  refine g_iconst (v := 0) ok d_Mo_rollback_33 (by decide) ?_
  have h3 : 10 < (fs2).length := by first | omega | (simp only [List.length_set]; omega)
  refine pf_Mo_123 ok d_Mo_rollback_34 h1 h3 (fun _ => ⟨rfl, rfl⟩) ?_
  rw [h6]
  have h7 : M5[x0]? = some (.inr (10, (fs2.set 10 (.int 0)))) := by rw [← h6]; exact gs_eq h1
  have h8 : (fs2.set 10 (.int 0))[10]? = some (.int 0) := List.getElem?_set_self h3
  refine g_iload_n ok d_Mo_rollback_37 rfl (j := 1) rfl ?_
  exact g_iret ok E d_Mo_rollback_38 hp hk hn
theorem k_Mo_settle_0 {X : gC} {M : List mC} {k n : Nat} {x0 : Nat} {fs2 : List Value} {f3 : Int32} (ok : gO X c_Mo_settle "TripleStoreModel" w_Mo_settle) (h1 : M[x0]? = some (.inr (10, fs2))) (h4 : fs2[10]? = some (.int f3)) (kt : f3 = 0 → gg X M k n 19 [(0, .ref x0)] []) (kf : ¬ f3 = 0 → gg X M k n 7 [(0, .ref x0)] []) : gg X M k n 0 [(0, .ref x0)] [] := by
  refine g_aload_n ok d_Mo_settle_0 rfl (j := 0) rfl ?_
  refine gf_Mo_123 ok d_Mo_settle_1 h1 h4 ?_
  exact g_if_eq (tgt := 19) ok d_Mo_settle_4 (by decide) (fun z => (kt z)) (fun z => (kf z))
theorem k_Mo_settle_7 {X : gC} {M : List mC} {k n : Nat} {x0 : Nat} {fs2 : List Value} {f3 : Int32} {f5 : Int32} (ok : gO X c_Mo_settle "TripleStoreModel" w_Mo_settle) (h1 : M[x0]? = some (.inr (10, fs2))) (h4 : fs2[7]? = some (.int f3)) (h6 : fs2[11]? = some (.int f5)) (kk : gg X M k n 20 [(0, .ref x0)] [.int (f3 - f5)]) : gg X M k n 7 [(0, .ref x0)] [] := by
  refine g_aload_n ok d_Mo_settle_7 rfl (j := 0) rfl ?_
  refine gf_Mo_117 ok d_Mo_settle_8 h1 h4 ?_
  refine g_aload_n ok d_Mo_settle_11 rfl (j := 0) rfl ?_
  refine gf_Mo_148 ok d_Mo_settle_12 h1 h6 ?_
  refine g_isub ok d_Mo_settle_15 ?_
  exact g_goto (tgt := 20) ok d_Mo_settle_16 (by decide) kk
theorem k_Mo_settle_19 {X : gC} {M : List mC} {k n : Nat} {x0 : Nat} (ok : gO X c_Mo_settle "TripleStoreModel" w_Mo_settle)  (kk : gg X M k n 20 [(0, .ref x0)] [.int 0]) : gg X M k n 19 [(0, .ref x0)] [] := by
  refine g_iconst (v := 0) ok d_Mo_settle_19 (by decide) ?_
  exact kk
theorem k_Mo_settle_20 {X : gC} {M : List mC} {k n : Nat} {x0 : Nat} {s0 : Int32} {fs2 : List Value} {f3 : Int32} (ok : gO X c_Mo_settle "TripleStoreModel" w_Mo_settle) (hl : gL X = 5) (h1 : M[x0]? = some (.inr (10, fs2))) (h4 : fs2[7]? = some (.int f3)) (kk : gg X M k n 35 [(0, .ref x0), (1, .int s0), (2, .int (f3 - s0)), (3, .int (f3 - 1))] []) : gg X M k n 20 [(0, .ref x0)] [.int s0] := by
  refine g_istore_n (L' := [(0, .ref x0), (1, .int s0)]) ok d_Mo_settle_20 rfl (by rw [hl]; decide) rfl ?_
  refine g_aload_n ok d_Mo_settle_21 rfl (j := 0) rfl ?_
  refine gf_Mo_117 ok d_Mo_settle_22 h1 h4 ?_
  refine g_iload_n ok d_Mo_settle_25 rfl (j := 1) rfl ?_
  refine g_isub ok d_Mo_settle_26 ?_
  refine g_istore_n (L' := [(0, .ref x0), (1, .int s0), (2, .int (f3 - s0))]) ok d_Mo_settle_27 rfl (by rw [hl]; decide) rfl ?_
  refine g_aload_n ok d_Mo_settle_28 rfl (j := 0) rfl ?_
  refine gf_Mo_117 ok d_Mo_settle_29 h1 h4 ?_
  refine g_iconst (v := 1) ok d_Mo_settle_32 (by decide) ?_
  refine g_isub ok d_Mo_settle_33 ?_
  refine g_istore_n (L' := [(0, .ref x0), (1, .int s0), (2, .int (f3 - s0)), (3, .int (f3 - 1))]) ok d_Mo_settle_34 rfl (by rw [hl]; decide) rfl ?_
  exact kk
theorem k_Mo_settle_35 {X : gC} {M : List mC} {k n : Nat} {x0 : Nat} {x1 : Int32} {x2 : Int32} {x3 : Int32} (ok : gO X c_Mo_settle "TripleStoreModel" w_Mo_settle)  (kt : x3 < x2 → gg X M k n 92 [(0, .ref x0), (1, .int x1), (2, .int x2)] []) (kf : ¬ x3 < x2 → gg X M k n 40 [(0, .ref x0), (1, .int x1), (2, .int x2), (3, .int x3)] []) : gg X M k n 35 [(0, .ref x0), (1, .int x1), (2, .int x2), (3, .int x3)] [] := by
  refine g_iload_n ok d_Mo_settle_35 rfl (j := 3) rfl ?_
  refine g_iload_n ok d_Mo_settle_36 rfl (j := 2) rfl ?_
  exact g_icmp_lt (tgt := 92) ok d_Mo_settle_37 (by decide) (fun z => (gg_keep [0, 1, 2] (kt z))) (fun z => (kf z))
theorem k_Mo_settle_40 {X : gC} {M : List mC} {k n : Nat} {x0 : Nat} {x1 : Int32} {x2 : Int32} {x3 : Int32} {fs2 : List Value} {f3 : Nat} {g6 : Nat → Int32} {N7 : Nat} (ok : gO X c_Mo_settle "TripleStoreModel" w_Mo_settle) (h1 : M[x0]? = some (.inr (10, fs2))) (h4 : fs2[5]? = some (.ref f3)) (h5 : M[f3]? = some (.inl (3, N7, .inl g6))) (h8 : vp_in x3 N7) (kt : ¬ (g6 x3.toNatClampNeg) = 0 → gg X M k n 54 [(0, .ref x0), (1, .int x1), (2, .int x2), (3, .int x3)] [.ref x0]) (kf : (g6 x3.toNatClampNeg) = 0 → gg X M k n 50 [(0, .ref x0), (1, .int x1), (2, .int x2), (3, .int x3)] [.ref x0]) : gg X M k n 40 [(0, .ref x0), (1, .int x1), (2, .int x2), (3, .int x3)] [] := by
  refine g_aload_n ok d_Mo_settle_40 rfl (j := 0) rfl ?_
  refine g_aload_n ok d_Mo_settle_41 rfl (j := 0) rfl ?_
  refine gf_Mo_19 ok d_Mo_settle_42 h1 h4 ?_
  refine g_iload_n ok d_Mo_settle_45 rfl (j := 3) rfl ?_
  refine g_zald (t := 3) ok rfl d_Mo_settle_46 h5 h8 ?_
  exact g_if_ne (tgt := 54) ok d_Mo_settle_47 (by decide) (fun z => (kt z)) (fun z => (kf z))
theorem k_Mo_settle_50 {X : gC} {M : List mC} {k n : Nat} {x0 : Nat} {x1 : Int32} {x2 : Int32} {x3 : Int32} (ok : gO X c_Mo_settle "TripleStoreModel" w_Mo_settle)  (kk : gg X M k n 55 [(0, .ref x0), (1, .int x1), (2, .int x2), (3, .int x3)] [.int 1, .ref x0]) : gg X M k n 50 [(0, .ref x0), (1, .int x1), (2, .int x2), (3, .int x3)] [.ref x0] := by
  refine g_iconst (v := 1) ok d_Mo_settle_50 (by decide) ?_
  exact g_goto (tgt := 55) ok d_Mo_settle_51 (by decide) kk
theorem k_Mo_settle_54 {X : gC} {M : List mC} {k n : Nat} {x0 : Nat} {x1 : Int32} {x2 : Int32} {x3 : Int32} (ok : gO X c_Mo_settle "TripleStoreModel" w_Mo_settle)  (kk : gg X M k n 55 [(0, .ref x0), (1, .int x1), (2, .int x2), (3, .int x3)] [.int 0, .ref x0]) : gg X M k n 54 [(0, .ref x0), (1, .int x1), (2, .int x2), (3, .int x3)] [.ref x0] := by
  refine g_iconst (v := 0) ok d_Mo_settle_54 (by decide) ?_
  exact kk
theorem k_Mo_settle_55 {X : gC} {M : List mC} {k n : Nat} {x0 : Nat} {x1 : Int32} {x2 : Int32} {x3 : Int32} {s1 : Int32} {fs2 : List Value} {f3 : Nat} {g6 : Nat → Int64} {N7 : Nat} (ok : gO X c_Mo_settle "TripleStoreModel" w_Mo_settle) (h1 : M[x0]? = some (.inr (10, fs2))) (h4 : fs2[4]? = some (.ref f3)) (h5 : M[f3]? = some (.inl (1, N7, .inr (.inl g6)))) (h8 : vp_in (3 * x3) N7) (h9 : vp_in ((3 * x3) + 1) N7) (h10 : vp_in ((3 * x3) + 2) N7) {rm : Room} {post : Option Value → List mC → Prop} (hm : mm_ (gLa X) y_Mo_apply w_Mo_apply rm [.ref x0, .int s1, .long (g6 (3 * x3).toNatClampNeg), .long (g6 ((3 * x3) + 1).toNatClampNeg), .long (g6 ((3 * x3) + 2).toNatClampNeg)] M post) (hR : gF X rm 10 k n) (hlen : ∀ r M', post r M' → M'.length = M.length) (kk : ∀ r M', post r M' → gg X M' (k + rm.cells) (n + rm.slots) 86 [(0, .ref x0), (1, .int x1), (2, .int x2), (3, .int x3)] (r.toList ++ [])) : gg X M k n 55 [(0, .ref x0), (1, .int x1), (2, .int x2), (3, .int x3)] [.int s1, .ref x0] := by
  refine g_aload_n ok d_Mo_settle_55 rfl (j := 0) rfl ?_
  refine gf_Mo_16 ok d_Mo_settle_56 h1 h4 ?_
  refine g_iconst (v := 3) ok d_Mo_settle_59 (by decide) ?_
  refine g_iload_n ok d_Mo_settle_60 rfl (j := 3) rfl ?_
  refine g_imul ok d_Mo_settle_61 ?_
  refine g_lald (t := 1) ok rfl d_Mo_settle_62 h5 h8 ?_
  refine g_aload_n ok d_Mo_settle_63 rfl (j := 0) rfl ?_
  refine gf_Mo_16 ok d_Mo_settle_64 h1 h4 ?_
  refine g_iconst (v := 3) ok d_Mo_settle_67 (by decide) ?_
  refine g_iload_n ok d_Mo_settle_68 rfl (j := 3) rfl ?_
  refine g_imul ok d_Mo_settle_69 ?_
  refine g_iconst (v := 1) ok d_Mo_settle_70 (by decide) ?_
  refine g_iadd ok d_Mo_settle_71 ?_
  refine g_lald (t := 1) ok rfl d_Mo_settle_72 h5 h9 ?_
  refine g_aload_n ok d_Mo_settle_73 rfl (j := 0) rfl ?_
  refine gf_Mo_16 ok d_Mo_settle_74 h1 h4 ?_
  refine g_iconst (v := 3) ok d_Mo_settle_77 (by decide) ?_
  refine g_iload_n ok d_Mo_settle_78 rfl (j := 3) rfl ?_
  refine g_imul ok d_Mo_settle_79 ?_
  refine g_iconst (v := 2) ok d_Mo_settle_80 (by decide) ?_
  refine g_iadd ok d_Mo_settle_81 ?_
  refine g_lald (t := 1) ok rfl d_Mo_settle_82 h5 h10 ?_
  exact gc_Mo_113 (As := [.int s1, .long (g6 (3 * x3).toNatClampNeg), .long (g6 ((3 * x3) + 1).toNatClampNeg), .long (g6 ((3 * x3) + 2).toNatClampNeg)]) (rest := []) ok d_Mo_settle_83 hm rfl rfl (Nat.le_of_ble_eq_true rfl) hR h1 hlen kk
theorem k_Mo_settle_86 {X : gC} {M : List mC} {k n : Nat} {x0 : Nat} {x1 : Int32} {x2 : Int32} {x3 : Int32} (ok : gO X c_Mo_settle "TripleStoreModel" w_Mo_settle) (hl : gL X = 5)  (kk : gg X M k n 35 [(0, .ref x0), (1, .int x1), (2, .int x2), (3, .int (x3 + (-1)))] []) : gg X M k n 86 [(0, .ref x0), (1, .int x1), (2, .int x2), (3, .int x3)] [] := by
  refine g_iinc (L' := [(0, .ref x0), (1, .int x1), (2, .int x2), (3, .int (x3 + (-1)))]) (v := (x3 + (-1))) ok d_Mo_settle_86 (j := 3) rfl rfl (by rw [hl]; decide) rfl ?_
  exact g_goto (tgt := 35) ok d_Mo_settle_89 (by decide) kk
theorem k_Mo_settle_92 {X : gC} {M : List mC} {k n : Nat} {x0 : Nat} {x1 : Int32} {x2 : Int32} (ok : gO X c_Mo_settle "TripleStoreModel" w_Mo_settle) (hl : gL X = 5)  (kk : gg X M k n 94 [(0, .ref x0), (1, .int x1), (2, .int x2), (3, .int 0)] []) : gg X M k n 92 [(0, .ref x0), (1, .int x1), (2, .int x2)] [] := by
  refine g_iconst (v := 0) ok d_Mo_settle_92 (by decide) ?_
  refine g_istore_n (L' := [(0, .ref x0), (1, .int x1), (2, .int x2), (3, .int 0)]) ok d_Mo_settle_93 rfl (by rw [hl]; decide) rfl ?_
  exact kk
theorem k_Mo_settle_94 {X : gC} {M : List mC} {k n : Nat} {x0 : Nat} {x1 : Int32} {x2 : Int32} {x3 : Int32} {fs2 : List Value} {f3 : Int32} (ok : gO X c_Mo_settle "TripleStoreModel" w_Mo_settle) (h1 : M[x0]? = some (.inr (10, fs2))) (h4 : fs2[1]? = some (.int f3)) (kt : (3 * f3) ≤ x3 → gg X M k n 122 [(0, .ref x0), (1, .int x1), (2, .int x2)] []) (kf : ¬ (3 * f3) ≤ x3 → gg X M k n 104 [(0, .ref x0), (1, .int x1), (2, .int x2), (3, .int x3)] []) : gg X M k n 94 [(0, .ref x0), (1, .int x1), (2, .int x2), (3, .int x3)] [] := by
  refine g_iload_n ok d_Mo_settle_94 rfl (j := 3) rfl ?_
  refine g_iconst (v := 3) ok d_Mo_settle_95 (by decide) ?_
  refine g_aload_n ok d_Mo_settle_96 rfl (j := 0) rfl ?_
  refine gf_Mo_102 ok d_Mo_settle_97 h1 h4 ?_
  refine g_imul ok d_Mo_settle_100 ?_
  exact g_icmp_ge (tgt := 122) ok d_Mo_settle_101 (by decide) (fun z => (gg_keep [0, 1, 2] (kt z))) (fun z => (kf z))
theorem k_Mo_settle_104 {X : gC} {M : List mC} {k n : Nat} {x0 : Nat} {x1 : Int32} {x2 : Int32} {x3 : Int32} {fs2 : List Value} {f3 : Nat} {f5 : Nat} {g8 : Nat → Int64} {N9 : Nat} {g12 : Nat → Int64} {N13 : Nat} {M15 : List mC} (ok : gO X c_Mo_settle "TripleStoreModel" w_Mo_settle) (hl : gL X = 5) (h1 : M[x0]? = some (.inr (10, fs2))) (h4 : fs2[2]? = some (.ref f3)) (h6 : fs2[0]? = some (.ref f5)) (h7 : M[f5]? = some (.inl (1, N9, .inr (.inl g8)))) (h10 : vp_in x3 N9) (h11 : M[f3]? = some (.inl (1, N13, .inr (.inl g12)))) (h14 : vp_in x3 N13) (h16 : M.set f3 (.inl (1, N13, .inr (.inl (vp_updL g12 x3.toNatClampNeg (g8 x3.toNatClampNeg))))) = M15) (kk : gg X M15 k n 94 [(0, .ref x0), (1, .int x1), (2, .int x2), (3, .int (x3 + 1))] []) : gg X M k n 104 [(0, .ref x0), (1, .int x1), (2, .int x2), (3, .int x3)] [] := by
  refine g_aload_n ok d_Mo_settle_104 rfl (j := 0) rfl ?_
  refine gf_Mo_13 ok d_Mo_settle_105 h1 h4 ?_
  refine g_iload_n ok d_Mo_settle_108 rfl (j := 3) rfl ?_
  refine g_aload_n ok d_Mo_settle_109 rfl (j := 0) rfl ?_
  refine gf_Mo_7 ok d_Mo_settle_110 h1 h6 ?_
  refine g_iload_n ok d_Mo_settle_113 rfl (j := 3) rfl ?_
  refine g_lald (t := 1) ok rfl d_Mo_settle_114 h7 h10 ?_
  refine g_last (t := 1) ok rfl d_Mo_settle_115 h11 h14 ?_
  rw [h16]
  have h17 : M15[f3]? = some (.inl (1, N13, .inr (.inl (vp_updL g12 x3.toNatClampNeg (g8 x3.toNatClampNeg))))) := by rw [← h16]; exact gs_eq h11
  refine g_iinc (L' := [(0, .ref x0), (1, .int x1), (2, .int x2), (3, .int (x3 + 1))]) (v := (x3 + 1)) ok d_Mo_settle_116 (j := 3) rfl rfl (by rw [hl]; decide) rfl ?_
  exact g_goto (tgt := 94) ok d_Mo_settle_119 (by decide) kk
theorem k_Mo_settle_122 {X : gC} {M : List mC} {k n : Nat} {x0 : Nat} {x1 : Int32} {x2 : Int32} {fs2 : List Value} {f3 : Int32} {M7 : List mC} (ok : gO X c_Mo_settle "TripleStoreModel" w_Mo_settle) (hl : gL X = 5) (h1 : M[x0]? = some (.inr (10, fs2))) (h4 : fs2[1]? = some (.int f3)) (h6 : 59 ≤ fs2.length) (h8 : M.set x0 (.inr (10, (fs2.set 3 (.int f3)))) = M7) (kk : gg X M7 k n 132 [(0, .ref x0), (1, .int x1), (2, .int x2), (3, .int 0)] []) : gg X M k n 122 [(0, .ref x0), (1, .int x1), (2, .int x2)] [] := by
  refine g_aload_n ok d_Mo_settle_122 rfl (j := 0) rfl ?_
  refine g_aload_n ok d_Mo_settle_123 rfl (j := 0) rfl ?_
  refine gf_Mo_102 ok d_Mo_settle_124 h1 h4 ?_
  have h5 : 3 < (fs2).length := by first | omega | (simp only [List.length_set]; omega)
  refine pf_Mo_155 ok d_Mo_settle_127 h1 h5 (fun _ => ⟨rfl, rfl⟩) ?_
  rw [h8]
  have h9 : M7[x0]? = some (.inr (10, (fs2.set 3 (.int f3)))) := by rw [← h8]; exact gs_eq h1
  have h10 := (List.getElem?_set_ne (a := .int f3) (by decide : 3 ≠ 1)).trans h4
  have h11 : (fs2.set 3 (.int f3))[3]? = some (.int f3) := List.getElem?_set_self h5
  refine g_iconst (v := 0) ok d_Mo_settle_130 (by decide) ?_
  refine g_istore_n (L' := [(0, .ref x0), (1, .int x1), (2, .int x2), (3, .int 0)]) ok d_Mo_settle_131 rfl (by rw [hl]; decide) rfl ?_
  exact kk
theorem k_Mo_settle_132 {X : gC} {M : List mC} {k n : Nat} {x0 : Nat} {x1 : Int32} {x2 : Int32} {x3 : Int32} (ok : gO X c_Mo_settle "TripleStoreModel" w_Mo_settle)  (kt : x1 ≤ x3 → gg X M k n 241 [(0, .ref x0), (1, .int x1)] []) (kf : ¬ x1 ≤ x3 → gg X M k n 137 [(0, .ref x0), (1, .int x1), (2, .int x2), (3, .int x3)] []) : gg X M k n 132 [(0, .ref x0), (1, .int x1), (2, .int x2), (3, .int x3)] [] := by
  refine g_iload_n ok d_Mo_settle_132 rfl (j := 3) rfl ?_
  refine g_iload_n ok d_Mo_settle_133 rfl (j := 1) rfl ?_
  exact g_icmp_ge (tgt := 241) ok d_Mo_settle_134 (by decide) (fun z => (gg_keep [0, 1] (kt z))) (fun z => (kf z))
theorem k_Mo_settle_137 {X : gC} {M : List mC} {k n : Nat} {x0 : Nat} {x1 : Int32} {x2 : Int32} {x3 : Int32} (ok : gO X c_Mo_settle "TripleStoreModel" w_Mo_settle) (hl : gL X = 5)  (kk : gg X M k n 140 [(0, .ref x0), (1, .int x1), (2, .int x2), (3, .int x3), (4, .int 0)] []) : gg X M k n 137 [(0, .ref x0), (1, .int x1), (2, .int x2), (3, .int x3)] [] := by
  refine g_iconst (v := 0) ok d_Mo_settle_137 (by decide) ?_
  refine g_istore (L' := [(0, .ref x0), (1, .int x1), (2, .int x2), (3, .int x3), (4, .int 0)]) ok d_Mo_settle_138 (by rw [hl]; decide) rfl ?_
  exact kk
theorem k_Mo_settle_140 {X : gC} {M : List mC} {k n : Nat} {x0 : Nat} {x1 : Int32} {x2 : Int32} {x3 : Int32} {x4 : Int32} (ok : gO X c_Mo_settle "TripleStoreModel" w_Mo_settle)  (kt : 3 ≤ x4 → gg X M k n 176 [(0, .ref x0), (1, .int x1), (2, .int x2), (3, .int x3)] []) (kf : ¬ 3 ≤ x4 → gg X M k n 146 [(0, .ref x0), (1, .int x1), (2, .int x2), (3, .int x3), (4, .int x4)] []) : gg X M k n 140 [(0, .ref x0), (1, .int x1), (2, .int x2), (3, .int x3), (4, .int x4)] [] := by
  refine g_iload ok d_Mo_settle_140 (j := 4) rfl ?_
  refine g_iconst (v := 3) ok d_Mo_settle_142 (by decide) ?_
  exact g_icmp_ge (tgt := 176) ok d_Mo_settle_143 (by decide) (fun z => (gg_keep [0, 1, 2, 3] (kt z))) (fun z => (kf z))
theorem k_Mo_settle_146 {X : gC} {M : List mC} {k n : Nat} {x0 : Nat} {x1 : Int32} {x2 : Int32} {x3 : Int32} {x4 : Int32} {fs2 : List Value} {f3 : Nat} {g6 : Nat → Int64} {N7 : Nat} {M10 : List mC} (ok : gO X c_Mo_settle "TripleStoreModel" w_Mo_settle) (hl : gL X = 5) (h1 : M[x0]? = some (.inr (10, fs2))) (h4 : fs2[4]? = some (.ref f3)) (h5 : M[f3]? = some (.inl (1, N7, .inr (.inl g6)))) (h8 : vp_in ((3 * (x2 + x3)) + x4) N7) (h9 : vp_in ((3 * x3) + x4) N7) (h11 : M.set f3 (.inl (1, N7, .inr (.inl (vp_updL g6 ((3 * x3) + x4).toNatClampNeg (g6 ((3 * (x2 + x3)) + x4).toNatClampNeg))))) = M10) (kk : gg X M10 k n 140 [(0, .ref x0), (1, .int x1), (2, .int x2), (3, .int x3), (4, .int (x4 + 1))] []) : gg X M k n 146 [(0, .ref x0), (1, .int x1), (2, .int x2), (3, .int x3), (4, .int x4)] [] := by
  refine g_aload_n ok d_Mo_settle_146 rfl (j := 0) rfl ?_
  refine gf_Mo_16 ok d_Mo_settle_147 h1 h4 ?_
  refine g_iconst (v := 3) ok d_Mo_settle_150 (by decide) ?_
  refine g_iload_n ok d_Mo_settle_151 rfl (j := 3) rfl ?_
  refine g_imul ok d_Mo_settle_152 ?_
  refine g_iload ok d_Mo_settle_153 (j := 4) rfl ?_
  refine g_iadd ok d_Mo_settle_155 ?_
  refine g_aload_n ok d_Mo_settle_156 rfl (j := 0) rfl ?_
  refine gf_Mo_16 ok d_Mo_settle_157 h1 h4 ?_
  refine g_iconst (v := 3) ok d_Mo_settle_160 (by decide) ?_
  refine g_iload_n ok d_Mo_settle_161 rfl (j := 2) rfl ?_
  refine g_iload_n ok d_Mo_settle_162 rfl (j := 3) rfl ?_
  refine g_iadd ok d_Mo_settle_163 ?_
  refine g_imul ok d_Mo_settle_164 ?_
  refine g_iload ok d_Mo_settle_165 (j := 4) rfl ?_
  refine g_iadd ok d_Mo_settle_167 ?_
  refine g_lald (t := 1) ok rfl d_Mo_settle_168 h5 h8 ?_
  refine g_last (t := 1) ok rfl d_Mo_settle_169 h5 h9 ?_
  rw [h11]
  have h12 : M10[f3]? = some (.inl (1, N7, .inr (.inl (vp_updL g6 ((3 * x3) + x4).toNatClampNeg (g6 ((3 * (x2 + x3)) + x4).toNatClampNeg))))) := by rw [← h11]; exact gs_eq h5
  refine g_iinc (L' := [(0, .ref x0), (1, .int x1), (2, .int x2), (3, .int x3), (4, .int (x4 + 1))]) (v := (x4 + 1)) ok d_Mo_settle_170 (j := 4) rfl rfl (by rw [hl]; decide) rfl ?_
  exact g_goto (tgt := 140) ok d_Mo_settle_173 (by decide) kk
theorem k_Mo_settle_176 {X : gC} {M : List mC} {k n : Nat} {x0 : Nat} {x1 : Int32} {x2 : Int32} {x3 : Int32} {fs2 : List Value} {f3 : Nat} {g6 : Nat → Int32} {N7 : Nat} {M10 : List mC} {f14 : Nat} {g17 : Nat → Int32} {N18 : Nat} {M22 : List mC} {f28 : Nat} {g31 : Nat → Int64} {N32 : Nat} (ok : gO X c_Mo_settle "TripleStoreModel" w_Mo_settle) (h1 : M[x0]? = some (.inr (10, fs2))) (h4 : fs2[5]? = some (.ref f3)) (h5 : M[f3]? = some (.inl (3, N7, .inl g6))) (h8 : vp_in (x2 + x3) N7) (h9 : vp_in x3 N7) (h11 : M.set f3 (.inl (3, N7, .inl (upd g6 x3.toNatClampNeg (vp_nar .boolean (g6 (x2 + x3).toNatClampNeg))))) = M10) (h15 : fs2[6]? = some (.ref f14)) (h16 : M[f14]? = some (.inl (0, N18, .inl g17))) (h20 : f14 ≠ f3) (h21 : vp_in x3 N18) (h23 : M10.set f14 (.inl (0, N18, .inl (upd g17 x3.toNatClampNeg 0))) = M22) (h27 : vp_in x3 N7) (h29 : fs2[4]? = some (.ref f28)) (h30 : M[f28]? = some (.inl (1, N32, .inr (.inl g31)))) (h34 : f28 ≠ f3) (h36 : f14 ≠ f28) (h37 : vp_in (3 * x3) N32) (h38 : vp_in ((3 * x3) + 1) N32) (h39 : vp_in ((3 * x3) + 2) N32) {rm : Room} {post : Option Value → List mC → Prop} (hm : mm_ (gLa X) y_Mo_apply w_Mo_apply rm [.ref x0, .int ((upd g6 x3.toNatClampNeg (vp_nar .boolean (g6 (x2 + x3).toNatClampNeg))) x3.toNatClampNeg), .long (g31 (3 * x3).toNatClampNeg), .long (g31 ((3 * x3) + 1).toNatClampNeg), .long (g31 ((3 * x3) + 2).toNatClampNeg)] M22 post) (hR : gF X rm 10 k n) (hlen : ∀ r M', post r M' → M'.length = M22.length) (kk : ∀ r M', post r M' → gg X M' (k + rm.cells) (n + rm.slots) 235 [(0, .ref x0), (1, .int x1), (2, .int x2), (3, .int x3)] (r.toList ++ [])) : gg X M k n 176 [(0, .ref x0), (1, .int x1), (2, .int x2), (3, .int x3)] [] := by
  refine g_aload_n ok d_Mo_settle_176 rfl (j := 0) rfl ?_
  refine gf_Mo_19 ok d_Mo_settle_177 h1 h4 ?_
  refine g_iload_n ok d_Mo_settle_180 rfl (j := 3) rfl ?_
  refine g_aload_n ok d_Mo_settle_181 rfl (j := 0) rfl ?_
  refine gf_Mo_19 ok d_Mo_settle_182 h1 h4 ?_
  refine g_iload_n ok d_Mo_settle_185 rfl (j := 2) rfl ?_
  refine g_iload_n ok d_Mo_settle_186 rfl (j := 3) rfl ?_
  refine g_iadd ok d_Mo_settle_187 ?_
  refine g_zald (t := 3) ok rfl d_Mo_settle_188 h5 h8 ?_
  refine g_zast (t := 3) ok rfl d_Mo_settle_189 h5 h9 ?_
  rw [h11]
  have h12 : M10[f3]? = some (.inl (3, N7, .inl (upd g6 x3.toNatClampNeg (vp_nar .boolean (g6 (x2 + x3).toNatClampNeg))))) := by rw [← h11]; exact gs_eq h5
  refine g_aload_n ok d_Mo_settle_190 rfl (j := 0) rfl ?_
  have h13 : M10[x0]? = some (.inr (10, fs2)) := by rw [← h11]; exact (gs_ne (ne_ao h5 h1)).trans h1
  refine gf_Mo_23 ok d_Mo_settle_191 h13 h15 ?_
  refine g_iload_n ok d_Mo_settle_194 rfl (j := 3) rfl ?_
  refine g_iconst (v := 0) ok d_Mo_settle_195 (by decide) ?_
  have h19 : M10[f14]? = some (.inl (0, N18, .inl g17)) := by rw [← h11]; exact (gs_ne (Ne.symm h20)).trans h16
  refine g_iast (t := 0) ok rfl d_Mo_settle_196 h19 h21 ?_
  rw [h23]
  have h24 : M22[f14]? = some (.inl (0, N18, .inl (upd g17 x3.toNatClampNeg 0))) := by rw [← h23]; exact gs_eq h19
  refine g_aload_n ok d_Mo_settle_197 rfl (j := 0) rfl ?_
  refine g_aload_n ok d_Mo_settle_198 rfl (j := 0) rfl ?_
  have h25 : M22[x0]? = some (.inr (10, fs2)) := by rw [← h23]; exact (gs_ne (ne_ao h19 h13)).trans h13
  refine gf_Mo_19 ok d_Mo_settle_199 h25 h4 ?_
  refine g_iload_n ok d_Mo_settle_202 rfl (j := 3) rfl ?_
  have h26 : M22[f3]? = some (.inl (3, N7, .inl (upd g6 x3.toNatClampNeg (vp_nar .boolean (g6 (x2 + x3).toNatClampNeg))))) := by rw [← h23]; exact (gs_ne h20).trans h12
  refine g_zald (t := 3) ok rfl d_Mo_settle_203 h26 h27 ?_
  refine g_aload_n ok d_Mo_settle_204 rfl (j := 0) rfl ?_
  refine gf_Mo_16 ok d_Mo_settle_205 h25 h29 ?_
  refine g_iconst (v := 3) ok d_Mo_settle_208 (by decide) ?_
  refine g_iload_n ok d_Mo_settle_209 rfl (j := 3) rfl ?_
  refine g_imul ok d_Mo_settle_210 ?_
  have h33 : M10[f28]? = some (.inl (1, N32, .inr (.inl g31))) := by rw [← h11]; exact (gs_ne (Ne.symm h34)).trans h30
  have h35 : M22[f28]? = some (.inl (1, N32, .inr (.inl g31))) := by rw [← h23]; exact (gs_ne h36).trans h33
  refine g_lald (t := 1) ok rfl d_Mo_settle_211 h35 h37 ?_
  refine g_aload_n ok d_Mo_settle_212 rfl (j := 0) rfl ?_
  refine gf_Mo_16 ok d_Mo_settle_213 h25 h29 ?_
  refine g_iconst (v := 3) ok d_Mo_settle_216 (by decide) ?_
  refine g_iload_n ok d_Mo_settle_217 rfl (j := 3) rfl ?_
  refine g_imul ok d_Mo_settle_218 ?_
  refine g_iconst (v := 1) ok d_Mo_settle_219 (by decide) ?_
  refine g_iadd ok d_Mo_settle_220 ?_
  refine g_lald (t := 1) ok rfl d_Mo_settle_221 h35 h38 ?_
  refine g_aload_n ok d_Mo_settle_222 rfl (j := 0) rfl ?_
  refine gf_Mo_16 ok d_Mo_settle_223 h25 h29 ?_
  refine g_iconst (v := 3) ok d_Mo_settle_226 (by decide) ?_
  refine g_iload_n ok d_Mo_settle_227 rfl (j := 3) rfl ?_
  refine g_imul ok d_Mo_settle_228 ?_
  refine g_iconst (v := 2) ok d_Mo_settle_229 (by decide) ?_
  refine g_iadd ok d_Mo_settle_230 ?_
  refine g_lald (t := 1) ok rfl d_Mo_settle_231 h35 h39 ?_
  exact gc_Mo_113 (As := [.int ((upd g6 x3.toNatClampNeg (vp_nar .boolean (g6 (x2 + x3).toNatClampNeg))) x3.toNatClampNeg), .long (g31 (3 * x3).toNatClampNeg), .long (g31 ((3 * x3) + 1).toNatClampNeg), .long (g31 ((3 * x3) + 2).toNatClampNeg)]) (rest := []) ok d_Mo_settle_232 hm rfl rfl (Nat.le_of_ble_eq_true rfl) hR h25 hlen kk
theorem k_Mo_settle_235 {X : gC} {M : List mC} {k n : Nat} {x0 : Nat} {x1 : Int32} {x2 : Int32} {x3 : Int32} (ok : gO X c_Mo_settle "TripleStoreModel" w_Mo_settle) (hl : gL X = 5)  (kk : gg X M k n 132 [(0, .ref x0), (1, .int x1), (2, .int x2), (3, .int (x3 + 1))] []) : gg X M k n 235 [(0, .ref x0), (1, .int x1), (2, .int x2), (3, .int x3)] [] := by
  refine g_iinc (L' := [(0, .ref x0), (1, .int x1), (2, .int x2), (3, .int (x3 + 1))]) (v := (x3 + 1)) ok d_Mo_settle_235 (j := 3) rfl rfl (by rw [hl]; decide) rfl ?_
  exact g_goto (tgt := 132) ok d_Mo_settle_238 (by decide) kk
theorem k_Mo_settle_241 {X : gC} {M : List mC} {k n : Nat} {x0 : Nat} {x1 : Int32} {fs2 : List Value} {M5 : List mC} {M10 : List mC} {M16 : List mC} (ok : gO X c_Mo_settle "TripleStoreModel" w_Mo_settle) (h1 : M[x0]? = some (.inr (10, fs2))) (h4 : 59 ≤ fs2.length) (h6 : M.set x0 (.inr (10, (fs2.set 7 (.int x1)))) = M5) (h11 : M5.set x0 (.inr (10, ((fs2.set 7 (.int x1)).set 11 (.int 0)))) = M10) (h17 : M10.set x0 (.inr (10, (((fs2.set 7 (.int x1)).set 11 (.int 0)).set 9 (.int 0)))) = M16) {l9 : Launch} {rm : Room} {M0 : List mC} {post : Option Value → List mC → Prop} (E : gE X l9 y_Mo_settle rm 5 none M0 post) (hp : post (none) M16) (hk : k ≤ rm.cells) (hn : n ≤ rm.slots) : gg X M k n 241 [(0, .ref x0), (1, .int x1)] [] := by
  refine g_aload_n ok d_Mo_settle_241 rfl (j := 0) rfl ?_
  refine g_iload_n ok d_Mo_settle_242 rfl (j := 1) rfl ?_
  have h3 : 7 < (fs2).length := by first | omega | (simp only [List.length_set]; omega)
  refine pf_Mo_117 ok d_Mo_settle_243 h1 h3 (fun _ => ⟨rfl, rfl⟩) ?_
  rw [h6]
  have h7 : M5[x0]? = some (.inr (10, (fs2.set 7 (.int x1)))) := by rw [← h6]; exact gs_eq h1
  have h8 : (fs2.set 7 (.int x1))[7]? = some (.int x1) := List.getElem?_set_self h3
  refine g_aload_n ok d_Mo_settle_246 rfl (j := 0) rfl ?_
  refine g_iconst (v := 0) ok d_Mo_settle_247 (by decide) ?_
  have h9 : 11 < ((fs2.set 7 (.int x1))).length := by first | omega | (simp only [List.length_set]; omega)
  refine pf_Mo_148 ok d_Mo_settle_248 h7 h9 (fun _ => ⟨rfl, rfl⟩) ?_
  rw [h11]
  have h12 : M10[x0]? = some (.inr (10, ((fs2.set 7 (.int x1)).set 11 (.int 0)))) := by rw [← h11]; exact gs_eq h7
  have h13 := (List.getElem?_set_ne (a := .int 0) (by decide : 11 ≠ 7)).trans h8
  have h14 : ((fs2.set 7 (.int x1)).set 11 (.int 0))[11]? = some (.int 0) := List.getElem?_set_self h9
  refine g_aload_n ok d_Mo_settle_251 rfl (j := 0) rfl ?_
  refine g_iconst (v := 0) ok d_Mo_settle_252 (by decide) ?_
  have h15 : 9 < (((fs2.set 7 (.int x1)).set 11 (.int 0))).length := by first | omega | (simp only [List.length_set]; omega)
  refine pf_Mo_120 ok d_Mo_settle_253 h12 h15 (fun _ => ⟨rfl, rfl⟩) ?_
  rw [h17]
  have h18 : M16[x0]? = some (.inr (10, (((fs2.set 7 (.int x1)).set 11 (.int 0)).set 9 (.int 0)))) := by rw [← h17]; exact gs_eq h12
  have h19 := (List.getElem?_set_ne (a := .int 0) (by decide : 9 ≠ 7)).trans h13
  have h20 := (List.getElem?_set_ne (a := .int 0) (by decide : 9 ≠ 11)).trans h14
  have h21 : (((fs2.set 7 (.int x1)).set 11 (.int 0)).set 9 (.int 0))[9]? = some (.int 0) := List.getElem?_set_self h15
  exact g_vret ok E d_Mo_settle_256 hp hk hn
theorem k_Mo_sync_0 {X : gC} {M : List mC} {k n : Nat} {x0 : Nat} {fs2 : List Value} {M5 : List mC} {f9 : Int32} (ok : gO X c_Mo_sync "TripleStoreModel" w_Mo_sync) (hl : gL X = 2) (h1 : M[x0]? = some (.inr (10, fs2))) (h4 : 59 ≤ fs2.length) (h6 : M.set x0 (.inr (10, (fs2.set 58 (.int 0)))) = M5) (h10 : fs2[9]? = some (.int f9)) {rm : Room} {post : Option Value → List mC → Prop} (hm : mm_ (gLa X) y_Mo_settle w_Mo_settle rm [.ref x0] M5 post) (hR : gF X rm 5 k n) (hlen : ∀ r M', post r M' → M'.length = M5.length) (kk : ∀ r M', post r M' → gg X M' (k + rm.cells) (n + rm.slots) 14 [(1, .int f9)] (r.toList ++ [])) : gg X M k n 0 [(0, .ref x0)] [] := by
  refine g_aload_n ok d_Mo_sync_0 rfl (j := 0) rfl ?_
  refine g_iconst (v := 0) ok d_Mo_sync_1 (by decide) ?_
  have h3 : 58 < (fs2).length := by first | omega | (simp only [List.length_set]; omega)
  refine pf_Mo_91 ok d_Mo_sync_2 h1 h3 (fun _ => ⟨rfl, rfl⟩) ?_
  rw [h6]
  have h7 : M5[x0]? = some (.inr (10, (fs2.set 58 (.int 0)))) := by rw [← h6]; exact gs_eq h1
  have h8 : (fs2.set 58 (.int 0))[58]? = some (.int 0) := List.getElem?_set_self h3
  refine g_aload_n ok d_Mo_sync_5 rfl (j := 0) rfl ?_
  have h11 := (List.getElem?_set_ne (a := .int 0) (by decide : 58 ≠ 9)).trans h10
  refine gf_Mo_120 ok d_Mo_sync_6 h7 h11 ?_
  refine g_istore_n (L' := [(0, .ref x0), (1, .int f9)]) ok d_Mo_sync_9 rfl (by rw [hl]; decide) rfl ?_
  refine g_aload_n ok d_Mo_sync_10 rfl (j := 0) rfl ?_
  exact gc_Mo_158 (As := []) (rest := []) ok d_Mo_sync_11 hm rfl rfl (Nat.le_of_ble_eq_true rfl) hR h7 hlen (fun r M' q => (gg_keep [1] (kk r M' q)))
theorem k_Mo_sync_14 {X : gC} {M : List mC} {k n : Nat} {x1 : Int32} (ok : gO X c_Mo_sync "TripleStoreModel" w_Mo_sync)  {l9 : Launch} {rm : Room} {M0 : List mC} {post : Option Value → List mC → Prop} (E : gE X l9 y_Mo_sync rm 2 (some .int) M0 post) (hp : post (some (.int x1)) M) (hk : k ≤ rm.cells) (hn : n ≤ rm.slots) : gg X M k n 14 [(1, .int x1)] [] := by
  refine g_iload_n ok d_Mo_sync_14 rfl (j := 0) rfl ?_
  exact g_iret ok E d_Mo_sync_15 hp hk hn
theorem k_Mo_crash_0 {X : gC} {M : List mC} {k n : Nat} {x0 : Nat} {x1 : Int32} (ok : gO X c_Mo_crash "TripleStoreModel" w_Mo_crash)  {rm : Room} {post : Option Value → List mC → Prop} (hm : mm_ (gLa X) y_Mo_in w_Mo_in rm [.int x1, .int 0, .int 1000] M post) (hR : gF X rm 3 k n) (hlen : ∀ r M', post r M' → M'.length = M.length) (kk : ∀ r M', post r M' → gg X M' (k + rm.cells) (n + rm.slots) 9 [(0, .ref x0), (1, .int x1)] (r.toList ++ [.ref x0])) : gg X M k n 0 [(0, .ref x0), (1, .int x1)] [] := by
  refine g_aload_n ok d_Mo_crash_0 rfl (j := 0) rfl ?_
  refine g_iload_n ok d_Mo_crash_1 rfl (j := 1) rfl ?_
  refine g_iconst (v := 0) ok d_Mo_crash_2 (by decide) ?_
  refine g_sipush (v := 1000) ok d_Mo_crash_3 (by decide) ?_
  exact gc_Mo_94 (As := [.int x1, .int 0, .int 1000]) (rest := [.ref x0]) ok d_Mo_crash_6 hm rfl rfl (Nat.le_of_ble_eq_true rfl) hR hlen kk
theorem k_Mo_crash_9 {X : gC} {M : List mC} {k n : Nat} {x0 : Nat} {x1 : Int32} {s1 : Int32} {fs2 : List Value} (ok : gO X c_Mo_crash "TripleStoreModel" w_Mo_crash) (h1 : M[x0]? = some (.inr (10, fs2))) {rm : Room} {post : Option Value → List mC → Prop} (hm : mm_ (gLa X) y_Mo_good w_Mo_good rm [.ref x0, .int s1, .int 1] M post) (hR : gF X rm 3 k n) (hlen : ∀ r M', post r M' → M'.length = M.length) (kk : ∀ r M', post r M' → gg X M' (k + rm.cells) (n + rm.slots) 13 [(0, .ref x0), (1, .int x1)] (r.toList ++ [])) : gg X M k n 9 [(0, .ref x0), (1, .int x1)] [.int s1, .ref x0] := by
  refine g_iconst (v := 1) ok d_Mo_crash_9 (by decide) ?_
  exact gc_Mo_109 (As := [.int s1, .int 1]) (rest := []) ok d_Mo_crash_10 hm rfl rfl (Nat.le_of_ble_eq_true rfl) hR h1 hlen kk
theorem k_Mo_crash_13 {X : gC} {M : List mC} {k n : Nat} {x0 : Nat} {x1 : Int32} {s0 : Int32} (ok : gO X c_Mo_crash "TripleStoreModel" w_Mo_crash)  (kt : ¬ s0 = 0 → gg X M k n 18 [(0, .ref x0), (1, .int x1)] []) (kf : s0 = 0 → gg X M k n 16 [] []) : gg X M k n 13 [(0, .ref x0), (1, .int x1)] [.int s0] := by
  exact g_if_ne (tgt := 18) ok d_Mo_crash_13 (by decide) (fun z => (kt z)) (fun z => (gg_keep [] (kf z)))
theorem k_Mo_crash_16 {X : gC} {M : List mC} {k n : Nat}  (ok : gO X c_Mo_crash "TripleStoreModel" w_Mo_crash)  {l9 : Launch} {rm : Room} {M0 : List mC} {post : Option Value → List mC → Prop} (E : gE X l9 y_Mo_crash rm 4 (some .int) M0 post) (hp : post (some (.int 0)) M) (hk : k ≤ rm.cells) (hn : n ≤ rm.slots) : gg X M k n 16 [] [] := by
  refine g_iconst (v := 0) ok d_Mo_crash_16 (by decide) ?_
  exact g_iret ok E d_Mo_crash_17 hp hk hn
theorem k_Mo_crash_18 {X : gC} {M : List mC} {k n : Nat} {x0 : Nat} {x1 : Int32} (ok : gO X c_Mo_crash "TripleStoreModel" w_Mo_crash) (hl : gL X = 4)  (kk : gg X M k n 20 [(0, .ref x0), (1, .int x1), (2, .int 0)] []) : gg X M k n 18 [(0, .ref x0), (1, .int x1)] [] := by
  refine g_iconst (v := 0) ok d_Mo_crash_18 (by decide) ?_
  refine g_istore_n (L' := [(0, .ref x0), (1, .int x1), (2, .int 0)]) ok d_Mo_crash_19 rfl (by rw [hl]; decide) rfl ?_
  exact kk
theorem k_Mo_crash_20 {X : gC} {M : List mC} {k n : Nat} {x0 : Nat} {x1 : Int32} {x2 : Int32} {fs2 : List Value} {f3 : Int32} (ok : gO X c_Mo_crash "TripleStoreModel" w_Mo_crash) (h1 : M[x0]? = some (.inr (10, fs2))) (h4 : fs2[3]? = some (.int f3)) (kt : (3 * f3) ≤ x2 → gg X M k n 48 [(0, .ref x0), (1, .int x1)] []) (kf : ¬ (3 * f3) ≤ x2 → gg X M k n 30 [(0, .ref x0), (1, .int x1), (2, .int x2)] []) : gg X M k n 20 [(0, .ref x0), (1, .int x1), (2, .int x2)] [] := by
  refine g_iload_n ok d_Mo_crash_20 rfl (j := 2) rfl ?_
  refine g_iconst (v := 3) ok d_Mo_crash_21 (by decide) ?_
  refine g_aload_n ok d_Mo_crash_22 rfl (j := 0) rfl ?_
  refine gf_Mo_155 ok d_Mo_crash_23 h1 h4 ?_
  refine g_imul ok d_Mo_crash_26 ?_
  exact g_icmp_ge (tgt := 48) ok d_Mo_crash_27 (by decide) (fun z => (gg_keep [0, 1] (kt z))) (fun z => (kf z))
theorem k_Mo_crash_30 {X : gC} {M : List mC} {k n : Nat} {x0 : Nat} {x1 : Int32} {x2 : Int32} {fs2 : List Value} {f3 : Nat} {f5 : Nat} {g8 : Nat → Int64} {N9 : Nat} {g12 : Nat → Int64} {N13 : Nat} {M15 : List mC} (ok : gO X c_Mo_crash "TripleStoreModel" w_Mo_crash) (hl : gL X = 4) (h1 : M[x0]? = some (.inr (10, fs2))) (h4 : fs2[0]? = some (.ref f3)) (h6 : fs2[2]? = some (.ref f5)) (h7 : M[f5]? = some (.inl (1, N9, .inr (.inl g8)))) (h10 : vp_in x2 N9) (h11 : M[f3]? = some (.inl (1, N13, .inr (.inl g12)))) (h14 : vp_in x2 N13) (h16 : M.set f3 (.inl (1, N13, .inr (.inl (vp_updL g12 x2.toNatClampNeg (g8 x2.toNatClampNeg))))) = M15) (kk : gg X M15 k n 20 [(0, .ref x0), (1, .int x1), (2, .int (x2 + 1))] []) : gg X M k n 30 [(0, .ref x0), (1, .int x1), (2, .int x2)] [] := by
  refine g_aload_n ok d_Mo_crash_30 rfl (j := 0) rfl ?_
  refine gf_Mo_7 ok d_Mo_crash_31 h1 h4 ?_
  refine g_iload_n ok d_Mo_crash_34 rfl (j := 2) rfl ?_
  refine g_aload_n ok d_Mo_crash_35 rfl (j := 0) rfl ?_
  refine gf_Mo_13 ok d_Mo_crash_36 h1 h6 ?_
  refine g_iload_n ok d_Mo_crash_39 rfl (j := 2) rfl ?_
  refine g_lald (t := 1) ok rfl d_Mo_crash_40 h7 h10 ?_
  refine g_last (t := 1) ok rfl d_Mo_crash_41 h11 h14 ?_
  rw [h16]
  have h17 : M15[f3]? = some (.inl (1, N13, .inr (.inl (vp_updL g12 x2.toNatClampNeg (g8 x2.toNatClampNeg))))) := by rw [← h16]; exact gs_eq h11
  refine g_iinc (L' := [(0, .ref x0), (1, .int x1), (2, .int (x2 + 1))]) (v := (x2 + 1)) ok d_Mo_crash_42 (j := 2) rfl rfl (by rw [hl]; decide) rfl ?_
  exact g_goto (tgt := 20) ok d_Mo_crash_45 (by decide) kk
theorem k_Mo_crash_48 {X : gC} {M : List mC} {k n : Nat} {x0 : Nat} {x1 : Int32} {fs2 : List Value} {f3 : Int32} {M7 : List mC} {f12 : Int32} (ok : gO X c_Mo_crash "TripleStoreModel" w_Mo_crash) (h1 : M[x0]? = some (.inr (10, fs2))) (h4 : fs2[3]? = some (.int f3)) (h6 : 59 ≤ fs2.length) (h8 : M.set x0 (.inr (10, (fs2.set 1 (.int f3)))) = M7) (h13 : fs2[10]? = some (.int f12)) (kt : f12 = 0 → gg X M7 k n 70 [(0, .ref x0), (1, .int x1)] []) (kf : ¬ f12 = 0 → gg X M7 k n 63 [(0, .ref x0), (1, .int x1)] []) : gg X M k n 48 [(0, .ref x0), (1, .int x1)] [] := by
  refine g_aload_n ok d_Mo_crash_48 rfl (j := 0) rfl ?_
  refine g_aload_n ok d_Mo_crash_49 rfl (j := 0) rfl ?_
  refine gf_Mo_155 ok d_Mo_crash_50 h1 h4 ?_
  have h5 : 1 < (fs2).length := by first | omega | (simp only [List.length_set]; omega)
  refine pf_Mo_102 ok d_Mo_crash_53 h1 h5 (fun _ => ⟨rfl, rfl⟩) ?_
  rw [h8]
  have h9 : M7[x0]? = some (.inr (10, (fs2.set 1 (.int f3)))) := by rw [← h8]; exact gs_eq h1
  have h10 := (List.getElem?_set_ne (a := .int f3) (by decide : 1 ≠ 3)).trans h4
  have h11 : (fs2.set 1 (.int f3))[1]? = some (.int f3) := List.getElem?_set_self h5
  refine g_aload_n ok d_Mo_crash_56 rfl (j := 0) rfl ?_
  have h14 := (List.getElem?_set_ne (a := .int f3) (by decide : 1 ≠ 10)).trans h13
  refine gf_Mo_123 ok d_Mo_crash_57 h9 h14 ?_
  exact g_if_eq (tgt := 70) ok d_Mo_crash_60 (by decide) (fun z => (kt z)) (fun z => (kf z))
theorem k_Mo_crash_63 {X : gC} {M : List mC} {k n : Nat} {x0 : Nat} {x1 : Int32} {fs2 : List Value} {f3 : Int32} (ok : gO X c_Mo_crash "TripleStoreModel" w_Mo_crash) (h1 : M[x0]? = some (.inr (10, fs2))) (h4 : fs2[11]? = some (.int f3)) (kk : gg X M k n 74 [(0, .ref x0), (1, .int x1)] [.int f3]) : gg X M k n 63 [(0, .ref x0), (1, .int x1)] [] := by
  refine g_aload_n ok d_Mo_crash_63 rfl (j := 0) rfl ?_
  refine gf_Mo_148 ok d_Mo_crash_64 h1 h4 ?_
  exact g_goto (tgt := 74) ok d_Mo_crash_67 (by decide) kk
theorem k_Mo_crash_70 {X : gC} {M : List mC} {k n : Nat} {x0 : Nat} {x1 : Int32} {fs2 : List Value} {f3 : Int32} (ok : gO X c_Mo_crash "TripleStoreModel" w_Mo_crash) (h1 : M[x0]? = some (.inr (10, fs2))) (h4 : fs2[7]? = some (.int f3)) (kk : gg X M k n 74 [(0, .ref x0), (1, .int x1)] [.int f3]) : gg X M k n 70 [(0, .ref x0), (1, .int x1)] [] := by
  refine g_aload_n ok d_Mo_crash_70 rfl (j := 0) rfl ?_
  refine gf_Mo_117 ok d_Mo_crash_71 h1 h4 ?_
  exact kk
theorem k_Mo_crash_74 {X : gC} {M : List mC} {k n : Nat} {x0 : Nat} {x1 : Int32} {s0 : Int32} (ok : gO X c_Mo_crash "TripleStoreModel" w_Mo_crash) (hl : gL X = 4)  (kk : gg X M k n 77 [(0, .ref x0), (1, .int x1), (2, .int s0), (3, .int 0)] []) : gg X M k n 74 [(0, .ref x0), (1, .int x1)] [.int s0] := by
  refine g_istore_n (L' := [(0, .ref x0), (1, .int x1), (2, .int s0)]) ok d_Mo_crash_74 rfl (by rw [hl]; decide) rfl ?_
  refine g_iconst (v := 0) ok d_Mo_crash_75 (by decide) ?_
  refine g_istore_n (L' := [(0, .ref x0), (1, .int x1), (2, .int s0), (3, .int 0)]) ok d_Mo_crash_76 rfl (by rw [hl]; decide) rfl ?_
  exact kk
theorem k_Mo_crash_77 {X : gC} {M : List mC} {k n : Nat} {x0 : Nat} {x1 : Int32} {x2 : Int32} {x3 : Int32} (ok : gO X c_Mo_crash "TripleStoreModel" w_Mo_crash)  (kt : x2 ≤ x3 → gg X M k n 136 [(0, .ref x0)] []) (kf : ¬ x2 ≤ x3 → gg X M k n 82 [(0, .ref x0), (1, .int x1), (2, .int x2), (3, .int x3)] []) : gg X M k n 77 [(0, .ref x0), (1, .int x1), (2, .int x2), (3, .int x3)] [] := by
  refine g_iload_n ok d_Mo_crash_77 rfl (j := 3) rfl ?_
  refine g_iload_n ok d_Mo_crash_78 rfl (j := 2) rfl ?_
  exact g_icmp_ge (tgt := 136) ok d_Mo_crash_79 (by decide) (fun z => (gg_keep [0] (kt z))) (fun z => (kf z))
theorem k_Mo_crash_82 {X : gC} {M : List mC} {k n : Nat} {x0 : Nat} {x1 : Int32} {x2 : Int32} {x3 : Int32} {fs2 : List Value} {f3 : Nat} {g6 : Nat → Int32} {N7 : Nat} (ok : gO X c_Mo_crash "TripleStoreModel" w_Mo_crash) (h1 : M[x0]? = some (.inr (10, fs2))) (h4 : fs2[6]? = some (.ref f3)) (h5 : M[f3]? = some (.inl (0, N7, .inl g6))) (h8 : vp_in x3 N7) (kt : x1 ≤ (g6 x3.toNatClampNeg) → gg X M k n 130 [(0, .ref x0), (1, .int x1), (2, .int x2), (3, .int x3)] []) (kf : ¬ x1 ≤ (g6 x3.toNatClampNeg) → gg X M k n 92 [(0, .ref x0), (1, .int x1), (2, .int x2), (3, .int x3)] []) : gg X M k n 82 [(0, .ref x0), (1, .int x1), (2, .int x2), (3, .int x3)] [] := by
  refine g_aload_n ok d_Mo_crash_82 rfl (j := 0) rfl ?_
  refine gf_Mo_23 ok d_Mo_crash_83 h1 h4 ?_
  refine g_iload_n ok d_Mo_crash_86 rfl (j := 3) rfl ?_
  refine g_iald (t := 0) ok rfl d_Mo_crash_87 h5 h8 ?_
  refine g_iload_n ok d_Mo_crash_88 rfl (j := 1) rfl ?_
  exact g_icmp_ge (tgt := 130) ok d_Mo_crash_89 (by decide) (fun z => (kt z)) (fun z => (kf z))
theorem k_Mo_crash_92 {X : gC} {M : List mC} {k n : Nat} {x0 : Nat} {x1 : Int32} {x2 : Int32} {x3 : Int32} {fs2 : List Value} {f3 : Nat} {g6 : Nat → Int32} {N7 : Nat} {f9 : Nat} {g12 : Nat → Int64} {N13 : Nat} (ok : gO X c_Mo_crash "TripleStoreModel" w_Mo_crash) (h1 : M[x0]? = some (.inr (10, fs2))) (h4 : fs2[5]? = some (.ref f3)) (h5 : M[f3]? = some (.inl (3, N7, .inl g6))) (h8 : vp_in x3 N7) (h10 : fs2[4]? = some (.ref f9)) (h11 : M[f9]? = some (.inl (1, N13, .inr (.inl g12)))) (h14 : vp_in (3 * x3) N13) (h15 : vp_in ((3 * x3) + 1) N13) (h16 : vp_in ((3 * x3) + 2) N13) {rm : Room} {post : Option Value → List mC → Prop} (hm : mm_ (gLa X) y_Mo_apply w_Mo_apply rm [.ref x0, .int (g6 x3.toNatClampNeg), .long (g12 (3 * x3).toNatClampNeg), .long (g12 ((3 * x3) + 1).toNatClampNeg), .long (g12 ((3 * x3) + 2).toNatClampNeg)] M post) (hR : gF X rm 10 k n) (hlen : ∀ r M', post r M' → M'.length = M.length) (kk : ∀ r M', post r M' → gg X M' (k + rm.cells) (n + rm.slots) 130 [(0, .ref x0), (1, .int x1), (2, .int x2), (3, .int x3)] (r.toList ++ [])) : gg X M k n 92 [(0, .ref x0), (1, .int x1), (2, .int x2), (3, .int x3)] [] := by
  refine g_aload_n ok d_Mo_crash_92 rfl (j := 0) rfl ?_
  refine g_aload_n ok d_Mo_crash_93 rfl (j := 0) rfl ?_
  refine gf_Mo_19 ok d_Mo_crash_94 h1 h4 ?_
  refine g_iload_n ok d_Mo_crash_97 rfl (j := 3) rfl ?_
  refine g_zald (t := 3) ok rfl d_Mo_crash_98 h5 h8 ?_
  refine g_aload_n ok d_Mo_crash_99 rfl (j := 0) rfl ?_
  refine gf_Mo_16 ok d_Mo_crash_100 h1 h10 ?_
  refine g_iconst (v := 3) ok d_Mo_crash_103 (by decide) ?_
  refine g_iload_n ok d_Mo_crash_104 rfl (j := 3) rfl ?_
  refine g_imul ok d_Mo_crash_105 ?_
  refine g_lald (t := 1) ok rfl d_Mo_crash_106 h11 h14 ?_
  refine g_aload_n ok d_Mo_crash_107 rfl (j := 0) rfl ?_
  refine gf_Mo_16 ok d_Mo_crash_108 h1 h10 ?_
  refine g_iconst (v := 3) ok d_Mo_crash_111 (by decide) ?_
  refine g_iload_n ok d_Mo_crash_112 rfl (j := 3) rfl ?_
  refine g_imul ok d_Mo_crash_113 ?_
  refine g_iconst (v := 1) ok d_Mo_crash_114 (by decide) ?_
  refine g_iadd ok d_Mo_crash_115 ?_
  refine g_lald (t := 1) ok rfl d_Mo_crash_116 h11 h15 ?_
  refine g_aload_n ok d_Mo_crash_117 rfl (j := 0) rfl ?_
  refine gf_Mo_16 ok d_Mo_crash_118 h1 h10 ?_
  refine g_iconst (v := 3) ok d_Mo_crash_121 (by decide) ?_
  refine g_iload_n ok d_Mo_crash_122 rfl (j := 3) rfl ?_
  refine g_imul ok d_Mo_crash_123 ?_
  refine g_iconst (v := 2) ok d_Mo_crash_124 (by decide) ?_
  refine g_iadd ok d_Mo_crash_125 ?_
  refine g_lald (t := 1) ok rfl d_Mo_crash_126 h11 h16 ?_
  exact gc_Mo_113 (As := [.int (g6 x3.toNatClampNeg), .long (g12 (3 * x3).toNatClampNeg), .long (g12 ((3 * x3) + 1).toNatClampNeg), .long (g12 ((3 * x3) + 2).toNatClampNeg)]) (rest := []) ok d_Mo_crash_127 hm rfl rfl (Nat.le_of_ble_eq_true rfl) hR h1 hlen kk
theorem k_Mo_crash_130 {X : gC} {M : List mC} {k n : Nat} {x0 : Nat} {x1 : Int32} {x2 : Int32} {x3 : Int32} (ok : gO X c_Mo_crash "TripleStoreModel" w_Mo_crash) (hl : gL X = 4)  (kk : gg X M k n 77 [(0, .ref x0), (1, .int x1), (2, .int x2), (3, .int (x3 + 1))] []) : gg X M k n 130 [(0, .ref x0), (1, .int x1), (2, .int x2), (3, .int x3)] [] := by
  refine g_iinc (L' := [(0, .ref x0), (1, .int x1), (2, .int x2), (3, .int (x3 + 1))]) (v := (x3 + 1)) ok d_Mo_crash_130 (j := 3) rfl rfl (by rw [hl]; decide) rfl ?_
  exact g_goto (tgt := 77) ok d_Mo_crash_133 (by decide) kk
theorem k_Mo_crash_136 {X : gC} {M : List mC} {k n : Nat} {x0 : Nat} {fs2 : List Value} {M5 : List mC} {M10 : List mC} (ok : gO X c_Mo_crash "TripleStoreModel" w_Mo_crash) (h1 : M[x0]? = some (.inr (10, fs2))) (h4 : 59 ≤ fs2.length) (h6 : M.set x0 (.inr (10, (fs2.set 10 (.int 0)))) = M5) (h11 : M5.set x0 (.inr (10, ((fs2.set 10 (.int 0)).set 7 (.int 0)))) = M10) {rm : Room} {post : Option Value → List mC → Prop} (hm : mm_ (gLa X) y_Mo_settle w_Mo_settle rm [.ref x0] M10 post) (hR : gF X rm 5 k n) (hlen : ∀ r M', post r M' → M'.length = M10.length) (kk : ∀ r M', post r M' → gg X M' (k + rm.cells) (n + rm.slots) 150 [(0, .ref x0)] (r.toList ++ [])) : gg X M k n 136 [(0, .ref x0)] [] := by
  refine g_aload_n ok d_Mo_crash_136 rfl (j := 0) rfl ?_
  refine g_iconst (v := 0) ok d_Mo_crash_137 (by decide) ?_
  have h3 : 10 < (fs2).length := by first | omega | (simp only [List.length_set]; omega)
  refine pf_Mo_123 ok d_Mo_crash_138 h1 h3 (fun _ => ⟨rfl, rfl⟩) ?_
  rw [h6]
  have h7 : M5[x0]? = some (.inr (10, (fs2.set 10 (.int 0)))) := by rw [← h6]; exact gs_eq h1
  have h8 : (fs2.set 10 (.int 0))[10]? = some (.int 0) := List.getElem?_set_self h3
  refine g_aload_n ok d_Mo_crash_141 rfl (j := 0) rfl ?_
  refine g_iconst (v := 0) ok d_Mo_crash_142 (by decide) ?_
  have h9 : 7 < ((fs2.set 10 (.int 0))).length := by first | omega | (simp only [List.length_set]; omega)
  refine pf_Mo_117 ok d_Mo_crash_143 h7 h9 (fun _ => ⟨rfl, rfl⟩) ?_
  rw [h11]
  have h12 : M10[x0]? = some (.inr (10, ((fs2.set 10 (.int 0)).set 7 (.int 0)))) := by rw [← h11]; exact gs_eq h7
  have h13 := (List.getElem?_set_ne (a := .int 0) (by decide : 7 ≠ 10)).trans h8
  have h14 : ((fs2.set 10 (.int 0)).set 7 (.int 0))[7]? = some (.int 0) := List.getElem?_set_self h9
  refine g_aload_n ok d_Mo_crash_146 rfl (j := 0) rfl ?_
  exact gc_Mo_158 (As := []) (rest := []) ok d_Mo_crash_147 hm rfl rfl (Nat.le_of_ble_eq_true rfl) hR h12 hlen kk
theorem k_Mo_crash_150 {X : gC} {M : List mC} {k n : Nat} {x0 : Nat} {fs2 : List Value} {f3 : Int32} (ok : gO X c_Mo_crash "TripleStoreModel" w_Mo_crash) (h1 : M[x0]? = some (.inr (10, fs2))) (h4 : fs2[1]? = some (.int f3)) {l9 : Launch} {rm : Room} {M0 : List mC} {post : Option Value → List mC → Prop} (E : gE X l9 y_Mo_crash rm 4 (some .int) M0 post) (hp : post (some (.int f3)) M) (hk : k ≤ rm.cells) (hn : n ≤ rm.slots) : gg X M k n 150 [(0, .ref x0)] [] := by
  refine g_aload_n ok d_Mo_crash_150 rfl (j := 0) rfl ?_
  refine gf_Mo_102 ok d_Mo_crash_151 h1 h4 ?_
  exact g_iret ok E d_Mo_crash_154 hp hk hn
theorem k_Mo_append_0 {X : gC} {M : List mC} {k n : Nat} {x0 : Nat} {x1 : Int64} {x3 : Int32} (ok : gO X c_Mo_append "TripleStoreModel" w_Mo_append)  {rm : Room} {post : Option Value → List mC → Prop} (hm : mm_ (gLa X) y_Mo_in w_Mo_in rm [.int x3, .int 1, .int 8] M post) (hR : gF X rm 3 k n) (hlen : ∀ r M', post r M' → M'.length = M.length) (kk : ∀ r M', post r M' → gg X M' (k + rm.cells) (n + rm.slots) 8 [(0, .ref x0), (1, .long x1), (3, .int x3)] (r.toList ++ [.ref x0])) : gg X M k n 0 [(0, .ref x0), (1, .long x1), (3, .int x3)] [] := by
  refine g_aload_n ok d_Mo_append_0 rfl (j := 0) rfl ?_
  refine g_iload_n ok d_Mo_append_1 rfl (j := 2) rfl ?_
  refine g_iconst (v := 1) ok d_Mo_append_2 (by decide) ?_
  refine g_bipush (v := 8) ok d_Mo_append_3 (by decide) ?_
  exact gc_Mo_94 (As := [.int x3, .int 1, .int 8]) (rest := [.ref x0]) ok d_Mo_append_5 hm rfl rfl (Nat.le_of_ble_eq_true rfl) hR hlen kk
theorem k_Mo_append_8 {X : gC} {M : List mC} {k n : Nat} {x0 : Nat} {x1 : Int64} {x3 : Int32} {s1 : Int32} {fs2 : List Value} (ok : gO X c_Mo_append "TripleStoreModel" w_Mo_append) (h1 : M[x0]? = some (.inr (10, fs2))) {rm : Room} {post : Option Value → List mC → Prop} (hm : mm_ (gLa X) y_Mo_good w_Mo_good rm [.ref x0, .int s1, .int 1] M post) (hR : gF X rm 3 k n) (hlen : ∀ r M', post r M' → M'.length = M.length) (kk : ∀ r M', post r M' → gg X M' (k + rm.cells) (n + rm.slots) 12 [(0, .ref x0), (1, .long x1), (3, .int x3)] (r.toList ++ [])) : gg X M k n 8 [(0, .ref x0), (1, .long x1), (3, .int x3)] [.int s1, .ref x0] := by
  refine g_iconst (v := 1) ok d_Mo_append_8 (by decide) ?_
  exact gc_Mo_109 (As := [.int s1, .int 1]) (rest := []) ok d_Mo_append_9 hm rfl rfl (Nat.le_of_ble_eq_true rfl) hR h1 hlen kk
theorem k_Mo_append_12 {X : gC} {M : List mC} {k n : Nat} {x0 : Nat} {x1 : Int64} {x3 : Int32} {s0 : Int32} (ok : gO X c_Mo_append "TripleStoreModel" w_Mo_append)  (kt : ¬ s0 = 0 → gg X M k n 17 [(0, .ref x0), (1, .long x1), (3, .int x3)] []) (kf : s0 = 0 → gg X M k n 15 [] []) : gg X M k n 12 [(0, .ref x0), (1, .long x1), (3, .int x3)] [.int s0] := by
  exact g_if_ne (tgt := 17) ok d_Mo_append_12 (by decide) (fun z => (kt z)) (fun z => (gg_keep [] (kf z)))
theorem k_Mo_append_15 {X : gC} {M : List mC} {k n : Nat}  (ok : gO X c_Mo_append "TripleStoreModel" w_Mo_append)  {l9 : Launch} {rm : Room} {M0 : List mC} {post : Option Value → List mC → Prop} (E : gE X l9 y_Mo_append rm 5 (some .int) M0 post) (hp : post (some (.int 0)) M) (hk : k ≤ rm.cells) (hn : n ≤ rm.slots) : gg X M k n 15 [] [] := by
  refine g_iconst (v := 0) ok d_Mo_append_15 (by decide) ?_
  exact g_iret ok E d_Mo_append_16 hp hk hn
theorem k_Mo_append_17 {X : gC} {M : List mC} {k n : Nat} {x0 : Nat} {x1 : Int64} {x3 : Int32} (ok : gO X c_Mo_append "TripleStoreModel" w_Mo_append) (hl : gL X = 5)  (kk : gg X M k n 20 [(0, .ref x0), (1, .long x1), (3, .int x3), (4, .int 0)] []) : gg X M k n 17 [(0, .ref x0), (1, .long x1), (3, .int x3)] [] := by
  refine g_iconst (v := 0) ok d_Mo_append_17 (by decide) ?_
  refine g_istore (L' := [(0, .ref x0), (1, .long x1), (3, .int x3), (4, .int 0)]) ok d_Mo_append_18 (by rw [hl]; decide) rfl ?_
  exact kk
theorem k_Mo_append_20 {X : gC} {M : List mC} {k n : Nat} {x0 : Nat} {x1 : Int64} {x3 : Int32} {x4 : Int32} (ok : gO X c_Mo_append "TripleStoreModel" w_Mo_append)  (kt : x3 ≤ x4 → gg X M k n 61 [(0, .ref x0), (1, .long x1), (3, .int x3)] []) (kf : ¬ x3 ≤ x4 → gg X M k n 26 [(0, .ref x0), (1, .long x1), (3, .int x3), (4, .int x4)] []) : gg X M k n 20 [(0, .ref x0), (1, .long x1), (3, .int x3), (4, .int x4)] [] := by
  refine g_iload ok d_Mo_append_20 (j := 3) rfl ?_
  refine g_iload_n ok d_Mo_append_22 rfl (j := 2) rfl ?_
  exact g_icmp_ge (tgt := 61) ok d_Mo_append_23 (by decide) (fun z => (gg_keep [0, 1, 3] (kt z))) (fun z => (kf z))
theorem k_Mo_append_26 {X : gC} {M : List mC} {k n : Nat} {x0 : Nat} {x1 : Int64} {x3 : Int32} {x4 : Int32} (ok : gO X c_Mo_append "TripleStoreModel" w_Mo_append)  {rm : Room} {post : Option Value → List mC → Prop} (hm : mm_ (gLa X) y_Mo_in w_Mo_in rm [.int ((((x1 >>> (((8 * x4) : Int32).toInt64 &&& 63)) : Int64).toInt32) &&& 255), .int 32, .int 126] M post) (hR : gF X rm 3 k n) (hlen : ∀ r M', post r M' → M'.length = M.length) (kk : ∀ r M', post r M' → gg X M' (k + rm.cells) (n + rm.slots) 46 [(0, .ref x0), (1, .long x1), (3, .int x3), (4, .int x4)] (r.toList ++ [.ref x0])) : gg X M k n 26 [(0, .ref x0), (1, .long x1), (3, .int x3), (4, .int x4)] [] := by
  refine g_aload_n ok d_Mo_append_26 rfl (j := 0) rfl ?_
  refine g_lload_n ok d_Mo_append_27 rfl (j := 1) rfl ?_
  refine g_bipush (v := 8) ok d_Mo_append_28 (by decide) ?_
  refine g_iload ok d_Mo_append_30 (j := 3) rfl ?_
  refine g_imul ok d_Mo_append_32 ?_
  refine g_lshr ok d_Mo_append_33 ?_
  refine g_l2i ok d_Mo_append_34 ?_
  refine g_sipush (v := 255) ok d_Mo_append_35 (by decide) ?_
  refine g_iand ok d_Mo_append_38 ?_
  refine g_bipush (v := 32) ok d_Mo_append_39 (by decide) ?_
  refine g_bipush (v := 126) ok d_Mo_append_41 (by decide) ?_
  exact gc_Mo_94 (As := [.int ((((x1 >>> (((8 * x4) : Int32).toInt64 &&& 63)) : Int64).toInt32) &&& 255), .int 32, .int 126]) (rest := [.ref x0]) ok d_Mo_append_43 hm rfl rfl (Nat.le_of_ble_eq_true rfl) hR hlen kk
theorem k_Mo_append_46 {X : gC} {M : List mC} {k n : Nat} {x0 : Nat} {x1 : Int64} {x3 : Int32} {x4 : Int32} {s1 : Int32} {fs2 : List Value} (ok : gO X c_Mo_append "TripleStoreModel" w_Mo_append) (h1 : M[x0]? = some (.inr (10, fs2))) {rm : Room} {post : Option Value → List mC → Prop} (hm : mm_ (gLa X) y_Mo_good w_Mo_good rm [.ref x0, .int s1, .int 1] M post) (hR : gF X rm 3 k n) (hlen : ∀ r M', post r M' → M'.length = M.length) (kk : ∀ r M', post r M' → gg X M' (k + rm.cells) (n + rm.slots) 50 [(0, .ref x0), (1, .long x1), (3, .int x3), (4, .int x4)] (r.toList ++ [])) : gg X M k n 46 [(0, .ref x0), (1, .long x1), (3, .int x3), (4, .int x4)] [.int s1, .ref x0] := by
  refine g_iconst (v := 1) ok d_Mo_append_46 (by decide) ?_
  exact gc_Mo_109 (As := [.int s1, .int 1]) (rest := []) ok d_Mo_append_47 hm rfl rfl (Nat.le_of_ble_eq_true rfl) hR h1 hlen kk
theorem k_Mo_append_50 {X : gC} {M : List mC} {k n : Nat} {x0 : Nat} {x1 : Int64} {x3 : Int32} {x4 : Int32} {s0 : Int32} (ok : gO X c_Mo_append "TripleStoreModel" w_Mo_append)  (kt : ¬ s0 = 0 → gg X M k n 55 [(0, .ref x0), (1, .long x1), (3, .int x3), (4, .int x4)] []) (kf : s0 = 0 → gg X M k n 53 [] []) : gg X M k n 50 [(0, .ref x0), (1, .long x1), (3, .int x3), (4, .int x4)] [.int s0] := by
  exact g_if_ne (tgt := 55) ok d_Mo_append_50 (by decide) (fun z => (kt z)) (fun z => (gg_keep [] (kf z)))
theorem k_Mo_append_53 {X : gC} {M : List mC} {k n : Nat}  (ok : gO X c_Mo_append "TripleStoreModel" w_Mo_append)  {l9 : Launch} {rm : Room} {M0 : List mC} {post : Option Value → List mC → Prop} (E : gE X l9 y_Mo_append rm 5 (some .int) M0 post) (hp : post (some (.int 0)) M) (hk : k ≤ rm.cells) (hn : n ≤ rm.slots) : gg X M k n 53 [] [] := by
  refine g_iconst (v := 0) ok d_Mo_append_53 (by decide) ?_
  exact g_iret ok E d_Mo_append_54 hp hk hn
theorem k_Mo_append_55 {X : gC} {M : List mC} {k n : Nat} {x0 : Nat} {x1 : Int64} {x3 : Int32} {x4 : Int32} (ok : gO X c_Mo_append "TripleStoreModel" w_Mo_append) (hl : gL X = 5)  (kk : gg X M k n 20 [(0, .ref x0), (1, .long x1), (3, .int x3), (4, .int (x4 + 1))] []) : gg X M k n 55 [(0, .ref x0), (1, .long x1), (3, .int x3), (4, .int x4)] [] := by
  refine g_iinc (L' := [(0, .ref x0), (1, .long x1), (3, .int x3), (4, .int (x4 + 1))]) (v := (x4 + 1)) ok d_Mo_append_55 (j := 3) rfl rfl (by rw [hl]; decide) rfl ?_
  exact g_goto (tgt := 20) ok d_Mo_append_58 (by decide) kk
theorem k_Mo_append_61 {X : gC} {M : List mC} {k n : Nat} {x0 : Nat} {x1 : Int64} {x3 : Int32} {fs2 : List Value} {f3 : Int32} (ok : gO X c_Mo_append "TripleStoreModel" w_Mo_append) (h1 : M[x0]? = some (.inr (10, fs2))) (h4 : fs2[13]? = some (.int f3)) (kt : 160 < (f3 + x3) → gg X M k n 78 [(0, .ref x0), (1, .long x1), (3, .int x3)] [.ref x0]) (kf : ¬ 160 < (f3 + x3) → gg X M k n 74 [(0, .ref x0), (1, .long x1), (3, .int x3)] [.ref x0]) : gg X M k n 61 [(0, .ref x0), (1, .long x1), (3, .int x3)] [] := by
  refine g_aload_n ok d_Mo_append_61 rfl (j := 0) rfl ?_
  refine g_aload_n ok d_Mo_append_62 rfl (j := 0) rfl ?_
  refine gf_Mo_161 ok d_Mo_append_63 h1 h4 ?_
  refine g_iload_n ok d_Mo_append_66 rfl (j := 2) rfl ?_
  refine g_iadd ok d_Mo_append_67 ?_
  refine g_sipush (v := 160) ok d_Mo_append_68 (by decide) ?_
  exact g_icmp_gt (tgt := 78) ok d_Mo_append_71 (by decide) (fun z => (kt z)) (fun z => (kf z))
theorem k_Mo_append_74 {X : gC} {M : List mC} {k n : Nat} {x0 : Nat} {x1 : Int64} {x3 : Int32} (ok : gO X c_Mo_append "TripleStoreModel" w_Mo_append)  (kk : gg X M k n 79 [(0, .ref x0), (1, .long x1), (3, .int x3)] [.int 1, .ref x0]) : gg X M k n 74 [(0, .ref x0), (1, .long x1), (3, .int x3)] [.ref x0] := by
  refine g_iconst (v := 1) ok d_Mo_append_74 (by decide) ?_
  exact g_goto (tgt := 79) ok d_Mo_append_75 (by decide) kk
theorem k_Mo_append_78 {X : gC} {M : List mC} {k n : Nat} {x0 : Nat} {x1 : Int64} {x3 : Int32} (ok : gO X c_Mo_append "TripleStoreModel" w_Mo_append)  (kk : gg X M k n 79 [(0, .ref x0), (1, .long x1), (3, .int x3)] [.int 0, .ref x0]) : gg X M k n 78 [(0, .ref x0), (1, .long x1), (3, .int x3)] [.ref x0] := by
  refine g_iconst (v := 0) ok d_Mo_append_78 (by decide) ?_
  exact kk
theorem k_Mo_append_79 {X : gC} {M : List mC} {k n : Nat} {x0 : Nat} {x1 : Int64} {x3 : Int32} {s1 : Int32} {fs2 : List Value} (ok : gO X c_Mo_append "TripleStoreModel" w_Mo_append) (h1 : M[x0]? = some (.inr (10, fs2))) {rm : Room} {post : Option Value → List mC → Prop} (hm : mm_ (gLa X) y_Mo_good w_Mo_good rm [.ref x0, .int s1, .int 2] M post) (hR : gF X rm 3 k n) (hlen : ∀ r M', post r M' → M'.length = M.length) (kk : ∀ r M', post r M' → gg X M' (k + rm.cells) (n + rm.slots) 83 [(0, .ref x0), (1, .long x1), (3, .int x3)] (r.toList ++ [])) : gg X M k n 79 [(0, .ref x0), (1, .long x1), (3, .int x3)] [.int s1, .ref x0] := by
  refine g_iconst (v := 2) ok d_Mo_append_79 (by decide) ?_
  exact gc_Mo_109 (As := [.int s1, .int 2]) (rest := []) ok d_Mo_append_80 hm rfl rfl (Nat.le_of_ble_eq_true rfl) hR h1 hlen kk
theorem k_Mo_append_83 {X : gC} {M : List mC} {k n : Nat} {x0 : Nat} {x1 : Int64} {x3 : Int32} {s0 : Int32} (ok : gO X c_Mo_append "TripleStoreModel" w_Mo_append)  (kt : ¬ s0 = 0 → gg X M k n 88 [(0, .ref x0), (1, .long x1), (3, .int x3)] []) (kf : s0 = 0 → gg X M k n 86 [] []) : gg X M k n 83 [(0, .ref x0), (1, .long x1), (3, .int x3)] [.int s0] := by
  exact g_if_ne (tgt := 88) ok d_Mo_append_83 (by decide) (fun z => (kt z)) (fun z => (gg_keep [] (kf z)))
theorem k_Mo_append_86 {X : gC} {M : List mC} {k n : Nat}  (ok : gO X c_Mo_append "TripleStoreModel" w_Mo_append)  {l9 : Launch} {rm : Room} {M0 : List mC} {post : Option Value → List mC → Prop} (E : gE X l9 y_Mo_append rm 5 (some .int) M0 post) (hp : post (some (.int 0)) M) (hk : k ≤ rm.cells) (hn : n ≤ rm.slots) : gg X M k n 86 [] [] := by
  refine g_iconst (v := 0) ok d_Mo_append_86 (by decide) ?_
  exact g_iret ok E d_Mo_append_87 hp hk hn
theorem k_Mo_append_88 {X : gC} {M : List mC} {k n : Nat} {x0 : Nat} {x1 : Int64} {x3 : Int32} (ok : gO X c_Mo_append "TripleStoreModel" w_Mo_append) (hl : gL X = 5)  (kk : gg X M k n 93 [(0, .ref x0), (1, .long x1), (4, .int (x3 - 1))] []) : gg X M k n 88 [(0, .ref x0), (1, .long x1), (3, .int x3)] [] := by
  refine g_iload_n ok d_Mo_append_88 rfl (j := 2) rfl ?_
  refine g_iconst (v := 1) ok d_Mo_append_89 (by decide) ?_
  refine g_isub ok d_Mo_append_90 ?_
  refine g_istore (L' := [(0, .ref x0), (1, .long x1), (3, .int x3), (4, .int (x3 - 1))]) ok d_Mo_append_91 (by rw [hl]; decide) rfl ?_
  exact (gg_keep [0, 1, 4] kk)
theorem k_Mo_append_93 {X : gC} {M : List mC} {k n : Nat} {x0 : Nat} {x1 : Int64} {x4 : Int32} (ok : gO X c_Mo_append "TripleStoreModel" w_Mo_append)  (kt : x4 < 0 → gg X M k n 135 [(0, .ref x0)] []) (kf : ¬ x4 < 0 → gg X M k n 98 [(0, .ref x0), (1, .long x1), (4, .int x4)] []) : gg X M k n 93 [(0, .ref x0), (1, .long x1), (4, .int x4)] [] := by
  refine g_iload ok d_Mo_append_93 (j := 2) rfl ?_
  exact g_if_lt (tgt := 135) ok d_Mo_append_95 (by decide) (fun z => (gg_keep [0] (kt z))) (fun z => (kf z))
theorem k_Mo_append_98 {X : gC} {M : List mC} {k n : Nat} {x0 : Nat} {x1 : Int64} {x4 : Int32} {fs2 : List Value} {f3 : Nat} {f5 : Int32} {g8 : Nat → Int32} {N9 : Nat} {M11 : List mC} {M17 : List mC} (ok : gO X c_Mo_append "TripleStoreModel" w_Mo_append) (hl : gL X = 5) (h1 : M[x0]? = some (.inr (10, fs2))) (h4 : fs2[12]? = some (.ref f3)) (h6 : fs2[13]? = some (.int f5)) (h7 : M[f3]? = some (.inl (0, N9, .inl g8))) (h10 : vp_in f5 N9) (h12 : M.set f3 (.inl (0, N9, .inl (upd g8 f5.toNatClampNeg ((((x1 >>> (((8 * x4) : Int32).toInt64 &&& 63)) : Int64).toInt32) &&& 255)))) = M11) (h16 : 59 ≤ fs2.length) (h18 : M11.set x0 (.inr (10, (fs2.set 13 (.int (f5 + 1))))) = M17) (kk : gg X M17 k n 93 [(0, .ref x0), (1, .long x1), (4, .int (x4 + (-1)))] []) : gg X M k n 98 [(0, .ref x0), (1, .long x1), (4, .int x4)] [] := by
  refine g_aload_n ok d_Mo_append_98 rfl (j := 0) rfl ?_
  refine gf_Mo_27 ok d_Mo_append_99 h1 h4 ?_
  refine g_aload_n ok d_Mo_append_102 rfl (j := 0) rfl ?_
  refine gf_Mo_161 ok d_Mo_append_103 h1 h6 ?_
  refine g_lload_n ok d_Mo_append_106 rfl (j := 1) rfl ?_
  refine g_bipush (v := 8) ok d_Mo_append_107 (by decide) ?_
  refine g_iload ok d_Mo_append_109 (j := 2) rfl ?_
  refine g_imul ok d_Mo_append_111 ?_
  refine g_lshr ok d_Mo_append_112 ?_
  refine g_l2i ok d_Mo_append_113 ?_
  refine g_sipush (v := 255) ok d_Mo_append_114 (by decide) ?_
  refine g_iand ok d_Mo_append_117 ?_
  refine g_iast (t := 0) ok rfl d_Mo_append_118 h7 h10 ?_
  rw [h12]
  have h13 : M11[f3]? = some (.inl (0, N9, .inl (upd g8 f5.toNatClampNeg ((((x1 >>> (((8 * x4) : Int32).toInt64 &&& 63)) : Int64).toInt32) &&& 255)))) := by rw [← h12]; exact gs_eq h7
  refine g_aload_n ok d_Mo_append_119 rfl (j := 0) rfl ?_
  refine g_dup ok d_Mo_append_120 rfl ?_
  have h14 : M11[x0]? = some (.inr (10, fs2)) := by rw [← h12]; exact (gs_ne (ne_ao h7 h1)).trans h1
  refine gf_Mo_161 ok d_Mo_append_121 h14 h6 ?_
  refine g_iconst (v := 1) ok d_Mo_append_124 (by decide) ?_
  refine g_iadd ok d_Mo_append_125 ?_
  have h15 : 13 < (fs2).length := by first | omega | (simp only [List.length_set]; omega)
  refine pf_Mo_161 ok d_Mo_append_126 h14 h15 (fun _ => ⟨rfl, rfl⟩) ?_
  rw [h18]
  have h19 : M17[x0]? = some (.inr (10, (fs2.set 13 (.int (f5 + 1))))) := by rw [← h18]; exact gs_eq h14
  have h20 := (List.getElem?_set_ne (a := .int (f5 + 1)) (by decide : 13 ≠ 12)).trans h4
  have h21 : (fs2.set 13 (.int (f5 + 1)))[13]? = some (.int (f5 + 1)) := List.getElem?_set_self h15
  refine g_iinc (L' := [(0, .ref x0), (1, .long x1), (4, .int (x4 + (-1)))]) (v := (x4 + (-1))) ok d_Mo_append_129 (j := 2) rfl rfl (by rw [hl]; decide) rfl ?_
  exact g_goto (tgt := 93) ok d_Mo_append_132 (by decide) kk
theorem k_Mo_append_135 {X : gC} {M : List mC} {k n : Nat} {x0 : Nat} {fs2 : List Value} {f3 : Int32} (ok : gO X c_Mo_append "TripleStoreModel" w_Mo_append) (h1 : M[x0]? = some (.inr (10, fs2))) (h4 : fs2[13]? = some (.int f3)) {l9 : Launch} {rm : Room} {M0 : List mC} {post : Option Value → List mC → Prop} (E : gE X l9 y_Mo_append rm 5 (some .int) M0 post) (hp : post (some (.int f3)) M) (hk : k ≤ rm.cells) (hn : n ≤ rm.slots) : gg X M k n 135 [(0, .ref x0)] [] := by
  refine g_aload_n ok d_Mo_append_135 rfl (j := 0) rfl ?_
  refine gf_Mo_161 ok d_Mo_append_136 h1 h4 ?_
  exact g_iret ok E d_Mo_append_139 hp hk hn
theorem k_Mo_isLetter_0 {X : gC} {M : List mC} {k n : Nat} {x0 : Int32} (ok : gO X c_Mo_isLetter "TripleStoreModel" w_Mo_isLetter)  {rm : Room} {post : Option Value → List mC → Prop} (hm : mm_ (gLa X) y_Mo_in w_Mo_in rm [.int x0, .int 97, .int 122] M post) (hR : gF X rm 3 k n) (hlen : ∀ r M', post r M' → M'.length = M.length) (kk : ∀ r M', post r M' → gg X M' (k + rm.cells) (n + rm.slots) 8 [] (r.toList ++ [])) : gg X M k n 0 [(0, .int x0)] [] := by
  refine g_iload_n ok d_Mo_isLetter_0 rfl (j := 0) rfl ?_
  refine g_bipush (v := 97) ok d_Mo_isLetter_1 (by decide) ?_
  refine g_bipush (v := 122) ok d_Mo_isLetter_3 (by decide) ?_
  exact gc_Mo_94 (As := [.int x0, .int 97, .int 122]) (rest := []) ok d_Mo_isLetter_5 hm rfl rfl (Nat.le_of_ble_eq_true rfl) hR hlen (fun r M' q => (gg_keep [] (kk r M' q)))
theorem k_Mo_isLetter_8 {X : gC} {M : List mC} {k n : Nat} {s0 : Int32} (ok : gO X c_Mo_isLetter "TripleStoreModel" w_Mo_isLetter)  {l9 : Launch} {rm : Room} {M0 : List mC} {post : Option Value → List mC → Prop} (E : gE X l9 y_Mo_isLetter rm 1 (some .boolean) M0 post) (hz : narrow .boolean (.int s0) = .int s0) (hp : post (some (.int s0)) M) (hk : k ≤ rm.cells) (hn : n ≤ rm.slots) : gg X M k n 8 [] [.int s0] := by
  exact g_zret ok E d_Mo_isLetter_8 hz hp hk hn
theorem k_Mo_isFigure_0 {X : gC} {M : List mC} {k n : Nat} {x0 : Int32} (ok : gO X c_Mo_isFigure "TripleStoreModel" w_Mo_isFigure)  {rm : Room} {post : Option Value → List mC → Prop} (hm : mm_ (gLa X) y_Mo_in w_Mo_in rm [.int x0, .int 48, .int 57] M post) (hR : gF X rm 3 k n) (hlen : ∀ r M', post r M' → M'.length = M.length) (kk : ∀ r M', post r M' → gg X M' (k + rm.cells) (n + rm.slots) 8 [] (r.toList ++ [])) : gg X M k n 0 [(0, .int x0)] [] := by
  refine g_iload_n ok d_Mo_isFigure_0 rfl (j := 0) rfl ?_
  refine g_bipush (v := 48) ok d_Mo_isFigure_1 (by decide) ?_
  refine g_bipush (v := 57) ok d_Mo_isFigure_3 (by decide) ?_
  exact gc_Mo_94 (As := [.int x0, .int 48, .int 57]) (rest := []) ok d_Mo_isFigure_5 hm rfl rfl (Nat.le_of_ble_eq_true rfl) hR hlen (fun r M' q => (gg_keep [] (kk r M' q)))
theorem k_Mo_isFigure_8 {X : gC} {M : List mC} {k n : Nat} {s0 : Int32} (ok : gO X c_Mo_isFigure "TripleStoreModel" w_Mo_isFigure)  {l9 : Launch} {rm : Room} {M0 : List mC} {post : Option Value → List mC → Prop} (E : gE X l9 y_Mo_isFigure rm 1 (some .boolean) M0 post) (hz : narrow .boolean (.int s0) = .int s0) (hp : post (some (.int s0)) M) (hk : k ≤ rm.cells) (hn : n ≤ rm.slots) : gg X M k n 8 [] [.int s0] := by
  exact g_zret ok E d_Mo_isFigure_8 hz hp hk hn
theorem k_Mo_letters_0 {X : gC} {M : List mC} {k n : Nat} {x0 : Nat} {x1 : Int32} {fs2 : List Value} {M5 : List mC} (ok : gO X c_Mo_letters "TripleStoreModel" w_Mo_letters) (hl : gL X = 3) (h1 : M[x0]? = some (.inr (10, fs2))) (h4 : 59 ≤ fs2.length) (h6 : M.set x0 (.inr (10, (fs2.set 16 (.long 0)))) = M5) (kk : gg X M5 k n 7 [(0, .ref x0), (1, .int x1), (2, .int x1)] []) : gg X M k n 0 [(0, .ref x0), (1, .int x1)] [] := by
  refine g_iload_n ok d_Mo_letters_0 rfl (j := 1) rfl ?_
  refine g_istore_n (L' := [(0, .ref x0), (1, .int x1), (2, .int x1)]) ok d_Mo_letters_1 rfl (by rw [hl]; decide) rfl ?_
  refine g_aload_n ok d_Mo_letters_2 rfl (j := 0) rfl ?_
  refine g_lconst (v := 0) ok d_Mo_letters_3 (by decide) ?_
  have h3 : 16 < (fs2).length := by first | omega | (simp only [List.length_set]; omega)
  refine pf_Mo_164 ok d_Mo_letters_4 h1 h3 (fun _ => ⟨rfl, rfl⟩) ?_
  rw [h6]
  have h7 : M5[x0]? = some (.inr (10, (fs2.set 16 (.long 0)))) := by rw [← h6]; exact gs_eq h1
  have h8 : (fs2.set 16 (.long 0))[16]? = some (.long 0) := List.getElem?_set_self h3
  exact kk
theorem k_Mo_letters_7 {X : gC} {M : List mC} {k n : Nat} {x0 : Nat} {x1 : Int32} {x2 : Int32} {fs2 : List Value} {f3 : Int32} (ok : gO X c_Mo_letters "TripleStoreModel" w_Mo_letters) (h1 : M[x0]? = some (.inr (10, fs2))) (h4 : fs2[13]? = some (.int f3)) (kt : f3 ≤ x2 → gg X M k n 60 [(2, .int x2)] []) (kf : ¬ f3 ≤ x2 → gg X M k n 15 [(0, .ref x0), (1, .int x1), (2, .int x2)] []) : gg X M k n 7 [(0, .ref x0), (1, .int x1), (2, .int x2)] [] := by
  refine g_iload_n ok d_Mo_letters_7 rfl (j := 2) rfl ?_
  refine g_aload_n ok d_Mo_letters_8 rfl (j := 0) rfl ?_
  refine gf_Mo_161 ok d_Mo_letters_9 h1 h4 ?_
  exact g_icmp_ge (tgt := 60) ok d_Mo_letters_12 (by decide) (fun z => (gg_keep [2] (kt z))) (fun z => (kf z))
theorem k_Mo_letters_15 {X : gC} {M : List mC} {k n : Nat} {x0 : Nat} {x1 : Int32} {x2 : Int32} {fs2 : List Value} {f3 : Nat} {g6 : Nat → Int32} {N7 : Nat} (ok : gO X c_Mo_letters "TripleStoreModel" w_Mo_letters) (h1 : M[x0]? = some (.inr (10, fs2))) (h4 : fs2[12]? = some (.ref f3)) (h5 : M[f3]? = some (.inl (0, N7, .inl g6))) (h8 : vp_in x2 N7) {rm : Room} {post : Option Value → List mC → Prop} (hm : mm_ (gLa X) y_Mo_isLetter w_Mo_isLetter rm [.int (g6 x2.toNatClampNeg)] M post) (hR : gF X rm 1 k n) (hlen : ∀ r M', post r M' → M'.length = M.length) (kk : ∀ r M', post r M' → gg X M' (k + rm.cells) (n + rm.slots) 24 [(0, .ref x0), (1, .int x1), (2, .int x2)] (r.toList ++ [])) : gg X M k n 15 [(0, .ref x0), (1, .int x1), (2, .int x2)] [] := by
  refine g_aload_n ok d_Mo_letters_15 rfl (j := 0) rfl ?_
  refine gf_Mo_27 ok d_Mo_letters_16 h1 h4 ?_
  refine g_iload_n ok d_Mo_letters_19 rfl (j := 2) rfl ?_
  refine g_iald (t := 0) ok rfl d_Mo_letters_20 h5 h8 ?_
  exact gc_Mo_168 (As := [.int (g6 x2.toNatClampNeg)]) (rest := []) ok d_Mo_letters_21 hm rfl rfl (Nat.le_of_ble_eq_true rfl) hR hlen kk
theorem k_Mo_letters_24 {X : gC} {M : List mC} {k n : Nat} {x0 : Nat} {x1 : Int32} {x2 : Int32} {s0 : Int32} (ok : gO X c_Mo_letters "TripleStoreModel" w_Mo_letters)  (kt : s0 = 0 → gg X M k n 60 [(2, .int x2)] []) (kf : ¬ s0 = 0 → gg X M k n 27 [(0, .ref x0), (1, .int x1), (2, .int x2)] []) : gg X M k n 24 [(0, .ref x0), (1, .int x1), (2, .int x2)] [.int s0] := by
  exact g_if_eq (tgt := 60) ok d_Mo_letters_24 (by decide) (fun z => (gg_keep [2] (kt z))) (fun z => (kf z))
theorem k_Mo_letters_27 {X : gC} {M : List mC} {k n : Nat} {x0 : Nat} {x1 : Int32} {x2 : Int32} (ok : gO X c_Mo_letters "TripleStoreModel" w_Mo_letters)  (kt : 8 ≤ (x2 - x1) → gg X M k n 54 [(0, .ref x0), (1, .int x1), (2, .int x2)] []) (kf : ¬ 8 ≤ (x2 - x1) → gg X M k n 35 [(0, .ref x0), (1, .int x1), (2, .int x2)] []) : gg X M k n 27 [(0, .ref x0), (1, .int x1), (2, .int x2)] [] := by
  refine g_iload_n ok d_Mo_letters_27 rfl (j := 2) rfl ?_
  refine g_iload_n ok d_Mo_letters_28 rfl (j := 1) rfl ?_
  refine g_isub ok d_Mo_letters_29 ?_
  refine g_bipush (v := 8) ok d_Mo_letters_30 (by decide) ?_
  exact g_icmp_ge (tgt := 54) ok d_Mo_letters_32 (by decide) (fun z => (kt z)) (fun z => (kf z))
theorem k_Mo_letters_35 {X : gC} {M : List mC} {k n : Nat} {x0 : Nat} {x1 : Int32} {x2 : Int32} {fs2 : List Value} {f3 : Int64} {f5 : Nat} {g8 : Nat → Int32} {N9 : Nat} {M13 : List mC} (ok : gO X c_Mo_letters "TripleStoreModel" w_Mo_letters) (h1 : M[x0]? = some (.inr (10, fs2))) (h4 : fs2[16]? = some (.long f3)) (h6 : fs2[12]? = some (.ref f5)) (h7 : M[f5]? = some (.inl (0, N9, .inl g8))) (h10 : vp_in x2 N9) (h12 : 59 ≤ fs2.length) (h14 : M.set x0 (.inr (10, (fs2.set 16 (.long ((f3 <<< ((8 : Int32).toInt64 &&& 63)) ||| (((g8 x2.toNatClampNeg) : Int32).toInt64)))))) = M13) (kk : gg X M13 k n 54 [(0, .ref x0), (1, .int x1), (2, .int x2)] []) : gg X M k n 35 [(0, .ref x0), (1, .int x1), (2, .int x2)] [] := by
  refine g_aload_n ok d_Mo_letters_35 rfl (j := 0) rfl ?_
  refine g_aload_n ok d_Mo_letters_36 rfl (j := 0) rfl ?_
  refine gf_Mo_164 ok d_Mo_letters_37 h1 h4 ?_
  refine g_bipush (v := 8) ok d_Mo_letters_40 (by decide) ?_
  refine g_lshl ok d_Mo_letters_42 ?_
  refine g_aload_n ok d_Mo_letters_43 rfl (j := 0) rfl ?_
  refine gf_Mo_27 ok d_Mo_letters_44 h1 h6 ?_
  refine g_iload_n ok d_Mo_letters_47 rfl (j := 2) rfl ?_
  refine g_iald (t := 0) ok rfl d_Mo_letters_48 h7 h10 ?_
  refine g_i2l ok d_Mo_letters_49 ?_
  refine g_lor ok d_Mo_letters_50 ?_
  have h11 : 16 < (fs2).length := by first | omega | (simp only [List.length_set]; omega)
  refine pf_Mo_164 ok d_Mo_letters_51 h1 h11 (fun _ => ⟨rfl, rfl⟩) ?_
  rw [h14]
  have h15 : M13[x0]? = some (.inr (10, (fs2.set 16 (.long ((f3 <<< ((8 : Int32).toInt64 &&& 63)) ||| (((g8 x2.toNatClampNeg) : Int32).toInt64)))))) := by rw [← h14]; exact gs_eq h1
  have h16 := (List.getElem?_set_ne (a := .long ((f3 <<< ((8 : Int32).toInt64 &&& 63)) ||| (((g8 x2.toNatClampNeg) : Int32).toInt64))) (by decide : 16 ≠ 12)).trans h6
  have h17 : (fs2.set 16 (.long ((f3 <<< ((8 : Int32).toInt64 &&& 63)) ||| (((g8 x2.toNatClampNeg) : Int32).toInt64))))[16]? = some (.long ((f3 <<< ((8 : Int32).toInt64 &&& 63)) ||| (((g8 x2.toNatClampNeg) : Int32).toInt64))) := List.getElem?_set_self h11
  exact kk
theorem k_Mo_letters_54 {X : gC} {M : List mC} {k n : Nat} {x0 : Nat} {x1 : Int32} {x2 : Int32} (ok : gO X c_Mo_letters "TripleStoreModel" w_Mo_letters) (hl : gL X = 3)  (kk : gg X M k n 7 [(0, .ref x0), (1, .int x1), (2, .int (x2 + 1))] []) : gg X M k n 54 [(0, .ref x0), (1, .int x1), (2, .int x2)] [] := by
  refine g_iinc (L' := [(0, .ref x0), (1, .int x1), (2, .int (x2 + 1))]) (v := (x2 + 1)) ok d_Mo_letters_54 (j := 2) rfl rfl (by rw [hl]; decide) rfl ?_
  exact g_goto (tgt := 7) ok d_Mo_letters_57 (by decide) kk
theorem k_Mo_letters_60 {X : gC} {M : List mC} {k n : Nat} {x2 : Int32} (ok : gO X c_Mo_letters "TripleStoreModel" w_Mo_letters)  {l9 : Launch} {rm : Room} {M0 : List mC} {post : Option Value → List mC → Prop} (E : gE X l9 y_Mo_letters rm 3 (some .int) M0 post) (hp : post (some (.int x2)) M) (hk : k ≤ rm.cells) (hn : n ≤ rm.slots) : gg X M k n 60 [(2, .int x2)] [] := by
  refine g_iload_n ok d_Mo_letters_60 rfl (j := 0) rfl ?_
  exact g_iret ok E d_Mo_letters_61 hp hk hn
theorem k_Mo_next_0 {X : gC} {M : List mC} {k n : Nat} {x0 : Nat} {fs2 : List Value} {f3 : Int32} {M7 : List mC} (ok : gO X c_Mo_next "TripleStoreModel" w_Mo_next) (hl : gL X = 3) (h1 : M[x0]? = some (.inr (10, fs2))) (h4 : fs2[18]? = some (.int f3)) (h6 : 59 ≤ fs2.length) (h8 : M.set x0 (.inr (10, (fs2.set 19 (.int f3)))) = M7) (kk : gg X M7 k n 13 [(0, .ref x0), (1, .int f3)] []) : gg X M k n 0 [(0, .ref x0)] [] := by
  refine g_aload_n ok d_Mo_next_0 rfl (j := 0) rfl ?_
  refine g_aload_n ok d_Mo_next_1 rfl (j := 0) rfl ?_
  refine gf_Mo_172 ok d_Mo_next_2 h1 h4 ?_
  have h5 : 19 < (fs2).length := by first | omega | (simp only [List.length_set]; omega)
  refine pf_Mo_175 ok d_Mo_next_5 h1 h5 (fun _ => ⟨rfl, rfl⟩) ?_
  rw [h8]
  have h9 : M7[x0]? = some (.inr (10, (fs2.set 19 (.int f3)))) := by rw [← h8]; exact gs_eq h1
  have h10 := (List.getElem?_set_ne (a := .int f3) (by decide : 19 ≠ 18)).trans h4
  have h11 : (fs2.set 19 (.int f3))[19]? = some (.int f3) := List.getElem?_set_self h5
  refine g_aload_n ok d_Mo_next_8 rfl (j := 0) rfl ?_
  refine gf_Mo_172 ok d_Mo_next_9 h9 h10 ?_
  refine g_istore_n (L' := [(0, .ref x0), (1, .int f3)]) ok d_Mo_next_12 rfl (by rw [hl]; decide) rfl ?_
  exact kk
theorem k_Mo_next_13 {X : gC} {M : List mC} {k n : Nat} {x0 : Nat} {x1 : Int32} {fs2 : List Value} {f3 : Int32} (ok : gO X c_Mo_next "TripleStoreModel" w_Mo_next) (h1 : M[x0]? = some (.inr (10, fs2))) (h4 : fs2[13]? = some (.int f3)) (kt : f3 ≤ x1 → gg X M k n 38 [(0, .ref x0), (1, .int x1)] []) (kf : ¬ f3 ≤ x1 → gg X M k n 21 [(0, .ref x0), (1, .int x1)] []) : gg X M k n 13 [(0, .ref x0), (1, .int x1)] [] := by
  refine g_iload_n ok d_Mo_next_13 rfl (j := 1) rfl ?_
  refine g_aload_n ok d_Mo_next_14 rfl (j := 0) rfl ?_
  refine gf_Mo_161 ok d_Mo_next_15 h1 h4 ?_
  exact g_icmp_ge (tgt := 38) ok d_Mo_next_18 (by decide) (fun z => (kt z)) (fun z => (kf z))
theorem k_Mo_next_21 {X : gC} {M : List mC} {k n : Nat} {x0 : Nat} {x1 : Int32} {fs2 : List Value} {f3 : Nat} {g6 : Nat → Int32} {N7 : Nat} (ok : gO X c_Mo_next "TripleStoreModel" w_Mo_next) (h1 : M[x0]? = some (.inr (10, fs2))) (h4 : fs2[12]? = some (.ref f3)) (h5 : M[f3]? = some (.inl (0, N7, .inl g6))) (h8 : vp_in x1 N7) (kt : ¬ (g6 x1.toNatClampNeg) = 32 → gg X M k n 38 [(0, .ref x0), (1, .int x1)] []) (kf : (g6 x1.toNatClampNeg) = 32 → gg X M k n 32 [(0, .ref x0), (1, .int x1)] []) : gg X M k n 21 [(0, .ref x0), (1, .int x1)] [] := by
  refine g_aload_n ok d_Mo_next_21 rfl (j := 0) rfl ?_
  refine gf_Mo_27 ok d_Mo_next_22 h1 h4 ?_
  refine g_iload_n ok d_Mo_next_25 rfl (j := 1) rfl ?_
  refine g_iald (t := 0) ok rfl d_Mo_next_26 h5 h8 ?_
  refine g_bipush (v := 32) ok d_Mo_next_27 (by decide) ?_
  exact g_icmp_ne (tgt := 38) ok d_Mo_next_29 (by decide) (fun z => (kt z)) (fun z => (kf z))
theorem k_Mo_next_32 {X : gC} {M : List mC} {k n : Nat} {x0 : Nat} {x1 : Int32} (ok : gO X c_Mo_next "TripleStoreModel" w_Mo_next) (hl : gL X = 3)  (kk : gg X M k n 13 [(0, .ref x0), (1, .int (x1 + 1))] []) : gg X M k n 32 [(0, .ref x0), (1, .int x1)] [] := by
  refine g_iinc (L' := [(0, .ref x0), (1, .int (x1 + 1))]) (v := (x1 + 1)) ok d_Mo_next_32 (j := 1) rfl rfl (by rw [hl]; decide) rfl ?_
  exact g_goto (tgt := 13) ok d_Mo_next_35 (by decide) kk
theorem k_Mo_next_38 {X : gC} {M : List mC} {k n : Nat} {x0 : Nat} {x1 : Int32} {fs2 : List Value} {M5 : List mC} {M10 : List mC} {f15 : Int32} (ok : gO X c_Mo_next "TripleStoreModel" w_Mo_next) (h1 : M[x0]? = some (.inr (10, fs2))) (h4 : 59 ≤ fs2.length) (h6 : M.set x0 (.inr (10, (fs2.set 17 (.int x1)))) = M5) (h11 : M5.set x0 (.inr (10, ((fs2.set 17 (.int x1)).set 15 (.int 0)))) = M10) (h16 : fs2[13]? = some (.int f15)) (kt : ¬ x1 = f15 → gg X M10 k n 57 [(0, .ref x0), (1, .int x1)] []) (kf : x1 = f15 → gg X M10 k n 56 [] []) : gg X M k n 38 [(0, .ref x0), (1, .int x1)] [] := by
  refine g_aload_n ok d_Mo_next_38 rfl (j := 0) rfl ?_
  refine g_iload_n ok d_Mo_next_39 rfl (j := 1) rfl ?_
  have h3 : 17 < (fs2).length := by first | omega | (simp only [List.length_set]; omega)
  refine pf_Mo_178 ok d_Mo_next_40 h1 h3 (fun _ => ⟨rfl, rfl⟩) ?_
  rw [h6]
  have h7 : M5[x0]? = some (.inr (10, (fs2.set 17 (.int x1)))) := by rw [← h6]; exact gs_eq h1
  have h8 : (fs2.set 17 (.int x1))[17]? = some (.int x1) := List.getElem?_set_self h3
  refine g_aload_n ok d_Mo_next_43 rfl (j := 0) rfl ?_
  refine g_iconst (v := 0) ok d_Mo_next_44 (by decide) ?_
  have h9 : 15 < ((fs2.set 17 (.int x1))).length := by first | omega | (simp only [List.length_set]; omega)
  refine pf_Mo_181 ok d_Mo_next_45 h7 h9 (fun _ => ⟨rfl, rfl⟩) ?_
  rw [h11]
  have h12 : M10[x0]? = some (.inr (10, ((fs2.set 17 (.int x1)).set 15 (.int 0)))) := by rw [← h11]; exact gs_eq h7
  have h13 := (List.getElem?_set_ne (a := .int 0) (by decide : 15 ≠ 17)).trans h8
  have h14 : ((fs2.set 17 (.int x1)).set 15 (.int 0))[15]? = some (.int 0) := List.getElem?_set_self h9
  refine g_iload_n ok d_Mo_next_48 rfl (j := 1) rfl ?_
  refine g_aload_n ok d_Mo_next_49 rfl (j := 0) rfl ?_
  have h17 := (List.getElem?_set_ne (a := .int x1) (by decide : 17 ≠ 13)).trans h16
  have h18 := (List.getElem?_set_ne (a := .int 0) (by decide : 15 ≠ 13)).trans h17
  refine gf_Mo_161 ok d_Mo_next_50 h12 h18 ?_
  exact g_icmp_ne (tgt := 57) ok d_Mo_next_53 (by decide) (fun z => (kt z)) (fun z => (gg_keep [] (kf z)))
theorem k_Mo_next_56 {X : gC} {M : List mC} {k n : Nat}  (ok : gO X c_Mo_next "TripleStoreModel" w_Mo_next)  {l9 : Launch} {rm : Room} {M0 : List mC} {post : Option Value → List mC → Prop} (E : gE X l9 y_Mo_next rm 3 none M0 post) (hp : post (none) M) (hk : k ≤ rm.cells) (hn : n ≤ rm.slots) : gg X M k n 56 [] [] := by
  exact g_vret ok E d_Mo_next_56 hp hk hn
theorem k_Mo_next_57 {X : gC} {M : List mC} {k n : Nat} {x0 : Nat} {x1 : Int32} {fs2 : List Value} {f3 : Nat} {g6 : Nat → Int32} {N7 : Nat} {M11 : List mC} (ok : gO X c_Mo_next "TripleStoreModel" w_Mo_next) (hl : gL X = 3) (h1 : M[x0]? = some (.inr (10, fs2))) (h4 : fs2[12]? = some (.ref f3)) (h5 : M[f3]? = some (.inl (0, N7, .inl g6))) (h8 : vp_in x1 N7) (h10 : 59 ≤ fs2.length) (h12 : M.set x0 (.inr (10, (fs2.set 18 (.int (x1 + 1))))) = M11) {rm : Room} {post : Option Value → List mC → Prop} (hm : mm_ (gLa X) y_Mo_isLetter w_Mo_isLetter rm [.int (g6 x1.toNatClampNeg)] M11 post) (hR : gF X rm 1 k n) (hlen : ∀ r M', post r M' → M'.length = M11.length) (kk : ∀ r M', post r M' → gg X M' (k + rm.cells) (n + rm.slots) 75 [(0, .ref x0), (1, .int x1), (2, .int (g6 x1.toNatClampNeg))] (r.toList ++ [])) : gg X M k n 57 [(0, .ref x0), (1, .int x1)] [] := by
  refine g_aload_n ok d_Mo_next_57 rfl (j := 0) rfl ?_
  refine gf_Mo_27 ok d_Mo_next_58 h1 h4 ?_
  refine g_iload_n ok d_Mo_next_61 rfl (j := 1) rfl ?_
  refine g_iald (t := 0) ok rfl d_Mo_next_62 h5 h8 ?_
  refine g_istore_n (L' := [(0, .ref x0), (1, .int x1), (2, .int (g6 x1.toNatClampNeg))]) ok d_Mo_next_63 rfl (by rw [hl]; decide) rfl ?_
  refine g_aload_n ok d_Mo_next_64 rfl (j := 0) rfl ?_
  refine g_iload_n ok d_Mo_next_65 rfl (j := 1) rfl ?_
  refine g_iconst (v := 1) ok d_Mo_next_66 (by decide) ?_
  refine g_iadd ok d_Mo_next_67 ?_
  have h9 : 18 < (fs2).length := by first | omega | (simp only [List.length_set]; omega)
  refine pf_Mo_172 ok d_Mo_next_68 h1 h9 (fun _ => ⟨rfl, rfl⟩) ?_
  rw [h12]
  have h13 : M11[x0]? = some (.inr (10, (fs2.set 18 (.int (x1 + 1))))) := by rw [← h12]; exact gs_eq h1
  have h14 := (List.getElem?_set_ne (a := .int (x1 + 1)) (by decide : 18 ≠ 12)).trans h4
  have h15 : (fs2.set 18 (.int (x1 + 1)))[18]? = some (.int (x1 + 1)) := List.getElem?_set_self h9
  refine g_iload_n ok d_Mo_next_71 rfl (j := 2) rfl ?_
  exact gc_Mo_168 (As := [.int (g6 x1.toNatClampNeg)]) (rest := []) ok d_Mo_next_72 hm rfl rfl (Nat.le_of_ble_eq_true rfl) hR hlen kk
theorem k_Mo_next_75 {X : gC} {M : List mC} {k n : Nat} {x0 : Nat} {x1 : Int32} {x2 : Int32} {s0 : Int32} (ok : gO X c_Mo_next "TripleStoreModel" w_Mo_next)  (kt : s0 = 0 → gg X M k n 110 [(0, .ref x0), (1, .int x1), (2, .int x2)] []) (kf : ¬ s0 = 0 → gg X M k n 78 [(0, .ref x0), (1, .int x1)] []) : gg X M k n 75 [(0, .ref x0), (1, .int x1), (2, .int x2)] [.int s0] := by
  exact g_if_eq (tgt := 110) ok d_Mo_next_75 (by decide) (fun z => (kt z)) (fun z => (gg_keep [0, 1] (kf z)))
theorem k_Mo_next_78 {X : gC} {M : List mC} {k n : Nat} {x0 : Nat} {x1 : Int32} {fs2 : List Value} (ok : gO X c_Mo_next "TripleStoreModel" w_Mo_next) (h1 : M[x0]? = some (.inr (10, fs2))) {rm : Room} {post : Option Value → List mC → Prop} (hm : mm_ (gLa X) y_Mo_letters w_Mo_letters rm [.ref x0, .int x1] M post) (hR : gF X rm 3 k n) (hlen : ∀ r M', post r M' → M'.length = M.length) (kk : ∀ r M', post r M' → gg X M' (k + rm.cells) (n + rm.slots) 84 [(0, .ref x0), (1, .int x1)] (r.toList ++ [.ref x0])) : gg X M k n 78 [(0, .ref x0), (1, .int x1)] [] := by
  refine g_aload_n ok d_Mo_next_78 rfl (j := 0) rfl ?_
  refine g_aload_n ok d_Mo_next_79 rfl (j := 0) rfl ?_
  refine g_iload_n ok d_Mo_next_80 rfl (j := 1) rfl ?_
  exact gc_Mo_184 (As := [.int x1]) (rest := [.ref x0]) ok d_Mo_next_81 hm rfl rfl (Nat.le_of_ble_eq_true rfl) hR h1 hlen kk
theorem k_Mo_next_84 {X : gC} {M : List mC} {k n : Nat} {x0 : Nat} {x1 : Int32} {s1 : Int32} {fs2 : List Value} {M5 : List mC} (ok : gO X c_Mo_next "TripleStoreModel" w_Mo_next) (h1 : M[x0]? = some (.inr (10, fs2))) (h4 : 59 ≤ fs2.length) (h6 : M.set x0 (.inr (10, (fs2.set 18 (.int s1)))) = M5) (kt : (s1 - x1) ≤ 8 → gg X M5 k n 103 [(0, .ref x0)] [.ref x0]) (kf : ¬ (s1 - x1) ≤ 8 → gg X M5 k n 99 [(0, .ref x0)] [.ref x0]) : gg X M k n 84 [(0, .ref x0), (1, .int x1)] [.int s1, .ref x0] := by
  have h3 : 18 < (fs2).length := by first | omega | (simp only [List.length_set]; omega)
  refine pf_Mo_172 ok d_Mo_next_84 h1 h3 (fun _ => ⟨rfl, rfl⟩) ?_
  rw [h6]
  have h7 : M5[x0]? = some (.inr (10, (fs2.set 18 (.int s1)))) := by rw [← h6]; exact gs_eq h1
  have h8 : (fs2.set 18 (.int s1))[18]? = some (.int s1) := List.getElem?_set_self h3
  refine g_aload_n ok d_Mo_next_87 rfl (j := 0) rfl ?_
  refine g_aload_n ok d_Mo_next_88 rfl (j := 0) rfl ?_
  refine gf_Mo_172 ok d_Mo_next_89 h7 h8 ?_
  refine g_iload_n ok d_Mo_next_92 rfl (j := 1) rfl ?_
  refine g_isub ok d_Mo_next_93 ?_
  refine g_bipush (v := 8) ok d_Mo_next_94 (by decide) ?_
  exact g_icmp_le (tgt := 103) ok d_Mo_next_96 (by decide) (fun z => (gg_keep [0] (kt z))) (fun z => (gg_keep [0] (kf z)))
theorem k_Mo_next_99 {X : gC} {M : List mC} {k n : Nat} {x0 : Nat} (ok : gO X c_Mo_next "TripleStoreModel" w_Mo_next)  (kk : gg X M k n 104 [(0, .ref x0)] [.int 5, .ref x0]) : gg X M k n 99 [(0, .ref x0)] [.ref x0] := by
  refine g_iconst (v := 5) ok d_Mo_next_99 (by decide) ?_
  exact g_goto (tgt := 104) ok d_Mo_next_100 (by decide) kk
theorem k_Mo_next_103 {X : gC} {M : List mC} {k n : Nat} {x0 : Nat} (ok : gO X c_Mo_next "TripleStoreModel" w_Mo_next)  (kk : gg X M k n 104 [(0, .ref x0)] [.int 1, .ref x0]) : gg X M k n 103 [(0, .ref x0)] [.ref x0] := by
  refine g_iconst (v := 1) ok d_Mo_next_103 (by decide) ?_
  exact kk
theorem k_Mo_next_104 {X : gC} {M : List mC} {k n : Nat} {x0 : Nat} {s1 : Int32} {fs2 : List Value} {M5 : List mC} (ok : gO X c_Mo_next "TripleStoreModel" w_Mo_next) (h1 : M[x0]? = some (.inr (10, fs2))) (h4 : 59 ≤ fs2.length) (h6 : M.set x0 (.inr (10, (fs2.set 15 (.int s1)))) = M5) (kk : gg X M5 k n 315 [] []) : gg X M k n 104 [(0, .ref x0)] [.int s1, .ref x0] := by
  have h3 : 15 < (fs2).length := by first | omega | (simp only [List.length_set]; omega)
  refine pf_Mo_181 ok d_Mo_next_104 h1 h3 (fun _ => ⟨rfl, rfl⟩) ?_
  rw [h6]
  have h7 : M5[x0]? = some (.inr (10, (fs2.set 15 (.int s1)))) := by rw [← h6]; exact gs_eq h1
  have h8 : (fs2.set 15 (.int s1))[15]? = some (.int s1) := List.getElem?_set_self h3
  exact g_goto (tgt := 315) ok d_Mo_next_107 (by decide) (gg_keep [] kk)
theorem k_Mo_next_110 {X : gC} {M : List mC} {k n : Nat} {x0 : Nat} {x1 : Int32} {x2 : Int32} (ok : gO X c_Mo_next "TripleStoreModel" w_Mo_next)  {rm : Room} {post : Option Value → List mC → Prop} (hm : mm_ (gLa X) y_Mo_isFigure w_Mo_isFigure rm [.int x2] M post) (hR : gF X rm 1 k n) (hlen : ∀ r M', post r M' → M'.length = M.length) (kk : ∀ r M', post r M' → gg X M' (k + rm.cells) (n + rm.slots) 114 [(0, .ref x0), (1, .int x1), (2, .int x2)] (r.toList ++ [])) : gg X M k n 110 [(0, .ref x0), (1, .int x1), (2, .int x2)] [] := by
  refine g_iload_n ok d_Mo_next_110 rfl (j := 2) rfl ?_
  exact gc_Mo_188 (As := [.int x2]) (rest := []) ok d_Mo_next_111 hm rfl rfl (Nat.le_of_ble_eq_true rfl) hR hlen kk
theorem k_Mo_next_114 {X : gC} {M : List mC} {k n : Nat} {x0 : Nat} {x1 : Int32} {x2 : Int32} {s0 : Int32} (ok : gO X c_Mo_next "TripleStoreModel" w_Mo_next)  (kt : s0 = 0 → gg X M k n 212 [(0, .ref x0), (1, .int x1), (2, .int x2)] []) (kf : ¬ s0 = 0 → gg X M k n 117 [(0, .ref x0), (1, .int x1)] []) : gg X M k n 114 [(0, .ref x0), (1, .int x1), (2, .int x2)] [.int s0] := by
  exact g_if_eq (tgt := 212) ok d_Mo_next_114 (by decide) (fun z => (kt z)) (fun z => (gg_keep [0, 1] (kf z)))
theorem k_Mo_next_117 {X : gC} {M : List mC} {k n : Nat} {x0 : Nat} {x1 : Int32} {fs2 : List Value} {M5 : List mC} (ok : gO X c_Mo_next "TripleStoreModel" w_Mo_next) (h1 : M[x0]? = some (.inr (10, fs2))) (h4 : 59 ≤ fs2.length) (h6 : M.set x0 (.inr (10, (fs2.set 16 (.long 0)))) = M5) (kk : gg X M5 k n 122 [(0, .ref x0), (1, .int x1)] []) : gg X M k n 117 [(0, .ref x0), (1, .int x1)] [] := by
  refine g_aload_n ok d_Mo_next_117 rfl (j := 0) rfl ?_
  refine g_lconst (v := 0) ok d_Mo_next_118 (by decide) ?_
  have h3 : 16 < (fs2).length := by first | omega | (simp only [List.length_set]; omega)
  refine pf_Mo_164 ok d_Mo_next_119 h1 h3 (fun _ => ⟨rfl, rfl⟩) ?_
  rw [h6]
  have h7 : M5[x0]? = some (.inr (10, (fs2.set 16 (.long 0)))) := by rw [← h6]; exact gs_eq h1
  have h8 : (fs2.set 16 (.long 0))[16]? = some (.long 0) := List.getElem?_set_self h3
  exact kk
theorem k_Mo_next_122 {X : gC} {M : List mC} {k n : Nat} {x0 : Nat} {x1 : Int32} {fs2 : List Value} {f3 : Int32} (ok : gO X c_Mo_next "TripleStoreModel" w_Mo_next) (h1 : M[x0]? = some (.inr (10, fs2))) (h4 : fs2[13]? = some (.int f3)) (kt : f3 ≤ x1 → gg X M k n 182 [(0, .ref x0), (1, .int x1)] []) (kf : ¬ f3 ≤ x1 → gg X M k n 130 [(0, .ref x0), (1, .int x1)] []) : gg X M k n 122 [(0, .ref x0), (1, .int x1)] [] := by
  refine g_iload_n ok d_Mo_next_122 rfl (j := 1) rfl ?_
  refine g_aload_n ok d_Mo_next_123 rfl (j := 0) rfl ?_
  refine gf_Mo_161 ok d_Mo_next_124 h1 h4 ?_
  exact g_icmp_ge (tgt := 182) ok d_Mo_next_127 (by decide) (fun z => (kt z)) (fun z => (kf z))
theorem k_Mo_next_130 {X : gC} {M : List mC} {k n : Nat} {x0 : Nat} {x1 : Int32} {fs2 : List Value} {f3 : Nat} {g6 : Nat → Int32} {N7 : Nat} (ok : gO X c_Mo_next "TripleStoreModel" w_Mo_next) (h1 : M[x0]? = some (.inr (10, fs2))) (h4 : fs2[12]? = some (.ref f3)) (h5 : M[f3]? = some (.inl (0, N7, .inl g6))) (h8 : vp_in x1 N7) {rm : Room} {post : Option Value → List mC → Prop} (hm : mm_ (gLa X) y_Mo_isFigure w_Mo_isFigure rm [.int (g6 x1.toNatClampNeg)] M post) (hR : gF X rm 1 k n) (hlen : ∀ r M', post r M' → M'.length = M.length) (kk : ∀ r M', post r M' → gg X M' (k + rm.cells) (n + rm.slots) 139 [(0, .ref x0), (1, .int x1)] (r.toList ++ [])) : gg X M k n 130 [(0, .ref x0), (1, .int x1)] [] := by
  refine g_aload_n ok d_Mo_next_130 rfl (j := 0) rfl ?_
  refine gf_Mo_27 ok d_Mo_next_131 h1 h4 ?_
  refine g_iload_n ok d_Mo_next_134 rfl (j := 1) rfl ?_
  refine g_iald (t := 0) ok rfl d_Mo_next_135 h5 h8 ?_
  exact gc_Mo_188 (As := [.int (g6 x1.toNatClampNeg)]) (rest := []) ok d_Mo_next_136 hm rfl rfl (Nat.le_of_ble_eq_true rfl) hR hlen kk
theorem k_Mo_next_139 {X : gC} {M : List mC} {k n : Nat} {x0 : Nat} {x1 : Int32} {s0 : Int32} (ok : gO X c_Mo_next "TripleStoreModel" w_Mo_next)  (kt : s0 = 0 → gg X M k n 182 [(0, .ref x0), (1, .int x1)] []) (kf : ¬ s0 = 0 → gg X M k n 142 [(0, .ref x0), (1, .int x1)] []) : gg X M k n 139 [(0, .ref x0), (1, .int x1)] [.int s0] := by
  exact g_if_eq (tgt := 182) ok d_Mo_next_139 (by decide) (fun z => (kt z)) (fun z => (kf z))
theorem k_Mo_next_142 {X : gC} {M : List mC} {k n : Nat} {x0 : Nat} {x1 : Int32} {fs2 : List Value} {f3 : Int32} (ok : gO X c_Mo_next "TripleStoreModel" w_Mo_next) (h1 : M[x0]? = some (.inr (10, fs2))) (h4 : fs2[17]? = some (.int f3)) (kt : 4 ≤ (x1 - f3) → gg X M k n 176 [(0, .ref x0), (1, .int x1)] []) (kf : ¬ 4 ≤ (x1 - f3) → gg X M k n 152 [(0, .ref x0), (1, .int x1)] []) : gg X M k n 142 [(0, .ref x0), (1, .int x1)] [] := by
  refine g_iload_n ok d_Mo_next_142 rfl (j := 1) rfl ?_
  refine g_aload_n ok d_Mo_next_143 rfl (j := 0) rfl ?_
  refine gf_Mo_178 ok d_Mo_next_144 h1 h4 ?_
  refine g_isub ok d_Mo_next_147 ?_
  refine g_iconst (v := 4) ok d_Mo_next_148 (by decide) ?_
  exact g_icmp_ge (tgt := 176) ok d_Mo_next_149 (by decide) (fun z => (kt z)) (fun z => (kf z))
theorem k_Mo_next_152 {X : gC} {M : List mC} {k n : Nat} {x0 : Nat} {x1 : Int32} {fs2 : List Value} {f3 : Int64} {f5 : Nat} {g8 : Nat → Int32} {N9 : Nat} {M13 : List mC} (ok : gO X c_Mo_next "TripleStoreModel" w_Mo_next) (h1 : M[x0]? = some (.inr (10, fs2))) (h4 : fs2[16]? = some (.long f3)) (h6 : fs2[12]? = some (.ref f5)) (h7 : M[f5]? = some (.inl (0, N9, .inl g8))) (h10 : vp_in x1 N9) (h12 : 59 ≤ fs2.length) (h14 : M.set x0 (.inr (10, (fs2.set 16 (.long (((10 * f3) + (((g8 x1.toNatClampNeg) : Int32).toInt64)) - 48))))) = M13) (kk : gg X M13 k n 176 [(0, .ref x0), (1, .int x1)] []) : gg X M k n 152 [(0, .ref x0), (1, .int x1)] [] := by
  refine g_aload_n ok d_Mo_next_152 rfl (j := 0) rfl ?_
  refine g_ldc2 (v := 10) ok (List.mem_cons_of_mem _ (gT_at 1250 (by decide +kernel) (by decide +kernel))) d_Mo_next_153 ?_
  refine g_aload_n ok d_Mo_next_156 rfl (j := 0) rfl ?_
  refine gf_Mo_164 ok d_Mo_next_157 h1 h4 ?_
  refine g_lmul ok d_Mo_next_160 ?_
  refine g_aload_n ok d_Mo_next_161 rfl (j := 0) rfl ?_
  refine gf_Mo_27 ok d_Mo_next_162 h1 h6 ?_
  refine g_iload_n ok d_Mo_next_165 rfl (j := 1) rfl ?_
  refine g_iald (t := 0) ok rfl d_Mo_next_166 h7 h10 ?_
  refine g_i2l ok d_Mo_next_167 ?_
  refine g_ladd ok d_Mo_next_168 ?_
  refine g_ldc2 (v := 48) ok (List.mem_cons_of_mem _ (gT_at 1251 (by decide +kernel) (by decide +kernel))) d_Mo_next_169 ?_
  refine g_lsub ok d_Mo_next_172 ?_
  have h11 : 16 < (fs2).length := by first | omega | (simp only [List.length_set]; omega)
  refine pf_Mo_164 ok d_Mo_next_173 h1 h11 (fun _ => ⟨rfl, rfl⟩) ?_
  rw [h14]
  have h15 : M13[x0]? = some (.inr (10, (fs2.set 16 (.long (((10 * f3) + (((g8 x1.toNatClampNeg) : Int32).toInt64)) - 48))))) := by rw [← h14]; exact gs_eq h1
  have h16 := (List.getElem?_set_ne (a := .long (((10 * f3) + (((g8 x1.toNatClampNeg) : Int32).toInt64)) - 48)) (by decide : 16 ≠ 12)).trans h6
  have h17 : (fs2.set 16 (.long (((10 * f3) + (((g8 x1.toNatClampNeg) : Int32).toInt64)) - 48)))[16]? = some (.long (((10 * f3) + (((g8 x1.toNatClampNeg) : Int32).toInt64)) - 48)) := List.getElem?_set_self h11
  exact kk
theorem k_Mo_next_176 {X : gC} {M : List mC} {k n : Nat} {x0 : Nat} {x1 : Int32} (ok : gO X c_Mo_next "TripleStoreModel" w_Mo_next) (hl : gL X = 3)  (kk : gg X M k n 122 [(0, .ref x0), (1, .int (x1 + 1))] []) : gg X M k n 176 [(0, .ref x0), (1, .int x1)] [] := by
  refine g_iinc (L' := [(0, .ref x0), (1, .int (x1 + 1))]) (v := (x1 + 1)) ok d_Mo_next_176 (j := 1) rfl rfl (by rw [hl]; decide) rfl ?_
  exact g_goto (tgt := 122) ok d_Mo_next_179 (by decide) kk
theorem k_Mo_next_182 {X : gC} {M : List mC} {k n : Nat} {x0 : Nat} {x1 : Int32} {fs2 : List Value} {M5 : List mC} {f9 : Int32} (ok : gO X c_Mo_next "TripleStoreModel" w_Mo_next) (h1 : M[x0]? = some (.inr (10, fs2))) (h4 : 59 ≤ fs2.length) (h6 : M.set x0 (.inr (10, (fs2.set 18 (.int x1)))) = M5) (h10 : fs2[17]? = some (.int f9)) (kt : (x1 - f9) ≤ 4 → gg X M5 k n 205 [(0, .ref x0)] [.ref x0]) (kf : ¬ (x1 - f9) ≤ 4 → gg X M5 k n 201 [(0, .ref x0)] [.ref x0]) : gg X M k n 182 [(0, .ref x0), (1, .int x1)] [] := by
  refine g_aload_n ok d_Mo_next_182 rfl (j := 0) rfl ?_
  refine g_iload_n ok d_Mo_next_183 rfl (j := 1) rfl ?_
  have h3 : 18 < (fs2).length := by first | omega | (simp only [List.length_set]; omega)
  refine pf_Mo_172 ok d_Mo_next_184 h1 h3 (fun _ => ⟨rfl, rfl⟩) ?_
  rw [h6]
  have h7 : M5[x0]? = some (.inr (10, (fs2.set 18 (.int x1)))) := by rw [← h6]; exact gs_eq h1
  have h8 : (fs2.set 18 (.int x1))[18]? = some (.int x1) := List.getElem?_set_self h3
  refine g_aload_n ok d_Mo_next_187 rfl (j := 0) rfl ?_
  refine g_aload_n ok d_Mo_next_188 rfl (j := 0) rfl ?_
  refine gf_Mo_172 ok d_Mo_next_189 h7 h8 ?_
  refine g_aload_n ok d_Mo_next_192 rfl (j := 0) rfl ?_
  have h11 := (List.getElem?_set_ne (a := .int x1) (by decide : 18 ≠ 17)).trans h10
  refine gf_Mo_178 ok d_Mo_next_193 h7 h11 ?_
  refine g_isub ok d_Mo_next_196 ?_
  refine g_iconst (v := 4) ok d_Mo_next_197 (by decide) ?_
  exact g_icmp_le (tgt := 205) ok d_Mo_next_198 (by decide) (fun z => (gg_keep [0] (kt z))) (fun z => (gg_keep [0] (kf z)))
theorem k_Mo_next_201 {X : gC} {M : List mC} {k n : Nat} {x0 : Nat} (ok : gO X c_Mo_next "TripleStoreModel" w_Mo_next)  (kk : gg X M k n 206 [(0, .ref x0)] [.int 5, .ref x0]) : gg X M k n 201 [(0, .ref x0)] [.ref x0] := by
  refine g_iconst (v := 5) ok d_Mo_next_201 (by decide) ?_
  exact g_goto (tgt := 206) ok d_Mo_next_202 (by decide) kk
theorem k_Mo_next_205 {X : gC} {M : List mC} {k n : Nat} {x0 : Nat} (ok : gO X c_Mo_next "TripleStoreModel" w_Mo_next)  (kk : gg X M k n 206 [(0, .ref x0)] [.int 2, .ref x0]) : gg X M k n 205 [(0, .ref x0)] [.ref x0] := by
  refine g_iconst (v := 2) ok d_Mo_next_205 (by decide) ?_
  exact kk
theorem k_Mo_next_206 {X : gC} {M : List mC} {k n : Nat} {x0 : Nat} {s1 : Int32} {fs2 : List Value} {M5 : List mC} (ok : gO X c_Mo_next "TripleStoreModel" w_Mo_next) (h1 : M[x0]? = some (.inr (10, fs2))) (h4 : 59 ≤ fs2.length) (h6 : M.set x0 (.inr (10, (fs2.set 15 (.int s1)))) = M5) (kk : gg X M5 k n 315 [] []) : gg X M k n 206 [(0, .ref x0)] [.int s1, .ref x0] := by
  have h3 : 15 < (fs2).length := by first | omega | (simp only [List.length_set]; omega)
  refine pf_Mo_181 ok d_Mo_next_206 h1 h3 (fun _ => ⟨rfl, rfl⟩) ?_
  rw [h6]
  have h7 : M5[x0]? = some (.inr (10, (fs2.set 15 (.int s1)))) := by rw [← h6]; exact gs_eq h1
  have h8 : (fs2.set 15 (.int s1))[15]? = some (.int s1) := List.getElem?_set_self h3
  exact g_goto (tgt := 315) ok d_Mo_next_209 (by decide) (gg_keep [] kk)
theorem k_Mo_next_212 {X : gC} {M : List mC} {k n : Nat} {x0 : Nat} {x1 : Int32} {x2 : Int32} (ok : gO X c_Mo_next "TripleStoreModel" w_Mo_next)  (kt : ¬ x2 = 63 → gg X M k n 258 [(0, .ref x0), (2, .int x2)] []) (kf : x2 = 63 → gg X M k n 218 [(0, .ref x0), (1, .int x1)] []) : gg X M k n 212 [(0, .ref x0), (1, .int x1), (2, .int x2)] [] := by
  refine g_iload_n ok d_Mo_next_212 rfl (j := 2) rfl ?_
  refine g_bipush (v := 63) ok d_Mo_next_213 (by decide) ?_
  exact g_icmp_ne (tgt := 258) ok d_Mo_next_215 (by decide) (fun z => (gg_keep [0, 2] (kt z))) (fun z => (gg_keep [0, 1] (kf z)))
theorem k_Mo_next_218 {X : gC} {M : List mC} {k n : Nat} {x0 : Nat} {x1 : Int32} {fs2 : List Value} (ok : gO X c_Mo_next "TripleStoreModel" w_Mo_next) (h1 : M[x0]? = some (.inr (10, fs2))) {rm : Room} {post : Option Value → List mC → Prop} (hm : mm_ (gLa X) y_Mo_letters w_Mo_letters rm [.ref x0, .int (x1 + 1)] M post) (hR : gF X rm 3 k n) (hlen : ∀ r M', post r M' → M'.length = M.length) (kk : ∀ r M', post r M' → gg X M' (k + rm.cells) (n + rm.slots) 226 [(0, .ref x0), (1, .int x1)] (r.toList ++ [.ref x0])) : gg X M k n 218 [(0, .ref x0), (1, .int x1)] [] := by
  refine g_aload_n ok d_Mo_next_218 rfl (j := 0) rfl ?_
  refine g_aload_n ok d_Mo_next_219 rfl (j := 0) rfl ?_
  refine g_iload_n ok d_Mo_next_220 rfl (j := 1) rfl ?_
  refine g_iconst (v := 1) ok d_Mo_next_221 (by decide) ?_
  refine g_iadd ok d_Mo_next_222 ?_
  exact gc_Mo_184 (As := [.int (x1 + 1)]) (rest := [.ref x0]) ok d_Mo_next_223 hm rfl rfl (Nat.le_of_ble_eq_true rfl) hR h1 hlen kk
theorem k_Mo_next_226 {X : gC} {M : List mC} {k n : Nat} {x0 : Nat} {x1 : Int32} {s1 : Int32} {fs2 : List Value} {M5 : List mC} (ok : gO X c_Mo_next "TripleStoreModel" w_Mo_next) (h1 : M[x0]? = some (.inr (10, fs2))) (h4 : 59 ≤ fs2.length) (h6 : M.set x0 (.inr (10, (fs2.set 18 (.int s1)))) = M5) {rm : Room} {post : Option Value → List mC → Prop} (hm : mm_ (gLa X) y_Mo_in w_Mo_in rm [.int ((s1 - x1) - 1), .int 1, .int 8] M5 post) (hR : gF X rm 3 k n) (hlen : ∀ r M', post r M' → M'.length = M5.length) (kk : ∀ r M', post r M' → gg X M' (k + rm.cells) (n + rm.slots) 244 [(0, .ref x0)] (r.toList ++ [.ref x0])) : gg X M k n 226 [(0, .ref x0), (1, .int x1)] [.int s1, .ref x0] := by
  have h3 : 18 < (fs2).length := by first | omega | (simp only [List.length_set]; omega)
  refine pf_Mo_172 ok d_Mo_next_226 h1 h3 (fun _ => ⟨rfl, rfl⟩) ?_
  rw [h6]
  have h7 : M5[x0]? = some (.inr (10, (fs2.set 18 (.int s1)))) := by rw [← h6]; exact gs_eq h1
  have h8 : (fs2.set 18 (.int s1))[18]? = some (.int s1) := List.getElem?_set_self h3
  refine g_aload_n ok d_Mo_next_229 rfl (j := 0) rfl ?_
  refine g_aload_n ok d_Mo_next_230 rfl (j := 0) rfl ?_
  refine gf_Mo_172 ok d_Mo_next_231 h7 h8 ?_
  refine g_iload_n ok d_Mo_next_234 rfl (j := 1) rfl ?_
  refine g_isub ok d_Mo_next_235 ?_
  refine g_iconst (v := 1) ok d_Mo_next_236 (by decide) ?_
  refine g_isub ok d_Mo_next_237 ?_
  refine g_iconst (v := 1) ok d_Mo_next_238 (by decide) ?_
  refine g_bipush (v := 8) ok d_Mo_next_239 (by decide) ?_
  exact gc_Mo_94 (As := [.int ((s1 - x1) - 1), .int 1, .int 8]) (rest := [.ref x0]) ok d_Mo_next_241 hm rfl rfl (Nat.le_of_ble_eq_true rfl) hR hlen (fun r M' q => (gg_keep [0] (kk r M' q)))
theorem k_Mo_next_244 {X : gC} {M : List mC} {k n : Nat} {x0 : Nat} {s1 : Int32} (ok : gO X c_Mo_next "TripleStoreModel" w_Mo_next)  (kt : s1 = 0 → gg X M k n 251 [(0, .ref x0)] [.ref x0]) (kf : ¬ s1 = 0 → gg X M k n 247 [(0, .ref x0)] [.ref x0]) : gg X M k n 244 [(0, .ref x0)] [.int s1, .ref x0] := by
  exact g_if_eq (tgt := 251) ok d_Mo_next_244 (by decide) (fun z => (kt z)) (fun z => (kf z))
theorem k_Mo_next_247 {X : gC} {M : List mC} {k n : Nat} {x0 : Nat} (ok : gO X c_Mo_next "TripleStoreModel" w_Mo_next)  (kk : gg X M k n 252 [(0, .ref x0)] [.int 3, .ref x0]) : gg X M k n 247 [(0, .ref x0)] [.ref x0] := by
  refine g_iconst (v := 3) ok d_Mo_next_247 (by decide) ?_
  exact g_goto (tgt := 252) ok d_Mo_next_248 (by decide) kk
theorem k_Mo_next_251 {X : gC} {M : List mC} {k n : Nat} {x0 : Nat} (ok : gO X c_Mo_next "TripleStoreModel" w_Mo_next)  (kk : gg X M k n 252 [(0, .ref x0)] [.int 5, .ref x0]) : gg X M k n 251 [(0, .ref x0)] [.ref x0] := by
  refine g_iconst (v := 5) ok d_Mo_next_251 (by decide) ?_
  exact kk
theorem k_Mo_next_252 {X : gC} {M : List mC} {k n : Nat} {x0 : Nat} {s1 : Int32} {fs2 : List Value} {M5 : List mC} (ok : gO X c_Mo_next "TripleStoreModel" w_Mo_next) (h1 : M[x0]? = some (.inr (10, fs2))) (h4 : 59 ≤ fs2.length) (h6 : M.set x0 (.inr (10, (fs2.set 15 (.int s1)))) = M5) (kk : gg X M5 k n 315 [] []) : gg X M k n 252 [(0, .ref x0)] [.int s1, .ref x0] := by
  have h3 : 15 < (fs2).length := by first | omega | (simp only [List.length_set]; omega)
  refine pf_Mo_181 ok d_Mo_next_252 h1 h3 (fun _ => ⟨rfl, rfl⟩) ?_
  rw [h6]
  have h7 : M5[x0]? = some (.inr (10, (fs2.set 15 (.int s1)))) := by rw [← h6]; exact gs_eq h1
  have h8 : (fs2.set 15 (.int s1))[15]? = some (.int s1) := List.getElem?_set_self h3
  exact g_goto (tgt := 315) ok d_Mo_next_255 (by decide) (gg_keep [] kk)
theorem k_Mo_next_258 {X : gC} {M : List mC} {k n : Nat} {x0 : Nat} {x2 : Int32} {fs2 : List Value} {M5 : List mC} (ok : gO X c_Mo_next "TripleStoreModel" w_Mo_next) (h1 : M[x0]? = some (.inr (10, fs2))) (h4 : 59 ≤ fs2.length) (h6 : M.set x0 (.inr (10, (fs2.set 16 (.long (x2.toInt64))))) = M5) (kt : x2 = 123 → gg X M5 k n 307 [(0, .ref x0)] [.ref x0]) (kf : ¬ x2 = 123 → gg X M5 k n 271 [(0, .ref x0), (2, .int x2)] [.ref x0]) : gg X M k n 258 [(0, .ref x0), (2, .int x2)] [] := by
  refine g_aload_n ok d_Mo_next_258 rfl (j := 0) rfl ?_
  refine g_iload_n ok d_Mo_next_259 rfl (j := 1) rfl ?_
  refine g_i2l ok d_Mo_next_260 ?_
  have h3 : 16 < (fs2).length := by first | omega | (simp only [List.length_set]; omega)
  refine pf_Mo_164 ok d_Mo_next_261 h1 h3 (fun _ => ⟨rfl, rfl⟩) ?_
  rw [h6]
  have h7 : M5[x0]? = some (.inr (10, (fs2.set 16 (.long (x2.toInt64))))) := by rw [← h6]; exact gs_eq h1
  have h8 : (fs2.set 16 (.long (x2.toInt64)))[16]? = some (.long (x2.toInt64)) := List.getElem?_set_self h3
  refine g_aload_n ok d_Mo_next_264 rfl (j := 0) rfl ?_
  refine g_iload_n ok d_Mo_next_265 rfl (j := 1) rfl ?_
  refine g_bipush (v := 123) ok d_Mo_next_266 (by decide) ?_
  exact g_icmp_eq (tgt := 307) ok d_Mo_next_268 (by decide) (fun z => (gg_keep [0] (kt z))) (fun z => (kf z))
theorem k_Mo_next_271 {X : gC} {M : List mC} {k n : Nat} {x0 : Nat} {x2 : Int32} (ok : gO X c_Mo_next "TripleStoreModel" w_Mo_next)  (kt : x2 = 125 → gg X M k n 307 [(0, .ref x0)] [.ref x0]) (kf : ¬ x2 = 125 → gg X M k n 277 [(0, .ref x0), (2, .int x2)] [.ref x0]) : gg X M k n 271 [(0, .ref x0), (2, .int x2)] [.ref x0] := by
  refine g_iload_n ok d_Mo_next_271 rfl (j := 1) rfl ?_
  refine g_bipush (v := 125) ok d_Mo_next_272 (by decide) ?_
  exact g_icmp_eq (tgt := 307) ok d_Mo_next_274 (by decide) (fun z => (gg_keep [0] (kt z))) (fun z => (kf z))
theorem k_Mo_next_277 {X : gC} {M : List mC} {k n : Nat} {x0 : Nat} {x2 : Int32} (ok : gO X c_Mo_next "TripleStoreModel" w_Mo_next)  (kt : x2 = 46 → gg X M k n 307 [(0, .ref x0)] [.ref x0]) (kf : ¬ x2 = 46 → gg X M k n 283 [(0, .ref x0), (2, .int x2)] [.ref x0]) : gg X M k n 277 [(0, .ref x0), (2, .int x2)] [.ref x0] := by
  refine g_iload_n ok d_Mo_next_277 rfl (j := 1) rfl ?_
  refine g_bipush (v := 46) ok d_Mo_next_278 (by decide) ?_
  exact g_icmp_eq (tgt := 307) ok d_Mo_next_280 (by decide) (fun z => (gg_keep [0] (kt z))) (fun z => (kf z))
theorem k_Mo_next_283 {X : gC} {M : List mC} {k n : Nat} {x0 : Nat} {x2 : Int32} (ok : gO X c_Mo_next "TripleStoreModel" w_Mo_next)  (kt : x2 = 61 → gg X M k n 307 [(0, .ref x0)] [.ref x0]) (kf : ¬ x2 = 61 → gg X M k n 289 [(0, .ref x0), (2, .int x2)] [.ref x0]) : gg X M k n 283 [(0, .ref x0), (2, .int x2)] [.ref x0] := by
  refine g_iload_n ok d_Mo_next_283 rfl (j := 1) rfl ?_
  refine g_bipush (v := 61) ok d_Mo_next_284 (by decide) ?_
  exact g_icmp_eq (tgt := 307) ok d_Mo_next_286 (by decide) (fun z => (gg_keep [0] (kt z))) (fun z => (kf z))
theorem k_Mo_next_289 {X : gC} {M : List mC} {k n : Nat} {x0 : Nat} {x2 : Int32} (ok : gO X c_Mo_next "TripleStoreModel" w_Mo_next)  (kt : x2 = 60 → gg X M k n 307 [(0, .ref x0)] [.ref x0]) (kf : ¬ x2 = 60 → gg X M k n 295 [(0, .ref x0), (2, .int x2)] [.ref x0]) : gg X M k n 289 [(0, .ref x0), (2, .int x2)] [.ref x0] := by
  refine g_iload_n ok d_Mo_next_289 rfl (j := 1) rfl ?_
  refine g_bipush (v := 60) ok d_Mo_next_290 (by decide) ?_
  exact g_icmp_eq (tgt := 307) ok d_Mo_next_292 (by decide) (fun z => (gg_keep [0] (kt z))) (fun z => (kf z))
theorem k_Mo_next_295 {X : gC} {M : List mC} {k n : Nat} {x0 : Nat} {x2 : Int32} (ok : gO X c_Mo_next "TripleStoreModel" w_Mo_next)  (kt : x2 = 62 → gg X M k n 307 [(0, .ref x0)] [.ref x0]) (kf : ¬ x2 = 62 → gg X M k n 301 [(0, .ref x0), (2, .int x2)] [.ref x0]) : gg X M k n 295 [(0, .ref x0), (2, .int x2)] [.ref x0] := by
  refine g_iload_n ok d_Mo_next_295 rfl (j := 1) rfl ?_
  refine g_bipush (v := 62) ok d_Mo_next_296 (by decide) ?_
  exact g_icmp_eq (tgt := 307) ok d_Mo_next_298 (by decide) (fun z => (gg_keep [0] (kt z))) (fun z => (kf z))
theorem k_Mo_next_301 {X : gC} {M : List mC} {k n : Nat} {x0 : Nat} {x2 : Int32} (ok : gO X c_Mo_next "TripleStoreModel" w_Mo_next)  (kt : ¬ x2 = 33 → gg X M k n 311 [(0, .ref x0)] [.ref x0]) (kf : x2 = 33 → gg X M k n 307 [(0, .ref x0)] [.ref x0]) : gg X M k n 301 [(0, .ref x0), (2, .int x2)] [.ref x0] := by
  refine g_iload_n ok d_Mo_next_301 rfl (j := 1) rfl ?_
  refine g_bipush (v := 33) ok d_Mo_next_302 (by decide) ?_
  exact g_icmp_ne (tgt := 311) ok d_Mo_next_304 (by decide) (fun z => (gg_keep [0] (kt z))) (fun z => (gg_keep [0] (kf z)))
theorem k_Mo_next_307 {X : gC} {M : List mC} {k n : Nat} {x0 : Nat} (ok : gO X c_Mo_next "TripleStoreModel" w_Mo_next)  (kk : gg X M k n 312 [(0, .ref x0)] [.int 4, .ref x0]) : gg X M k n 307 [(0, .ref x0)] [.ref x0] := by
  refine g_iconst (v := 4) ok d_Mo_next_307 (by decide) ?_
  exact g_goto (tgt := 312) ok d_Mo_next_308 (by decide) kk
theorem k_Mo_next_311 {X : gC} {M : List mC} {k n : Nat} {x0 : Nat} (ok : gO X c_Mo_next "TripleStoreModel" w_Mo_next)  (kk : gg X M k n 312 [(0, .ref x0)] [.int 5, .ref x0]) : gg X M k n 311 [(0, .ref x0)] [.ref x0] := by
  refine g_iconst (v := 5) ok d_Mo_next_311 (by decide) ?_
  exact kk
theorem k_Mo_next_312 {X : gC} {M : List mC} {k n : Nat} {x0 : Nat} {s1 : Int32} {fs2 : List Value} {M5 : List mC} (ok : gO X c_Mo_next "TripleStoreModel" w_Mo_next) (h1 : M[x0]? = some (.inr (10, fs2))) (h4 : 59 ≤ fs2.length) (h6 : M.set x0 (.inr (10, (fs2.set 15 (.int s1)))) = M5) (kk : gg X M5 k n 315 [] []) : gg X M k n 312 [(0, .ref x0)] [.int s1, .ref x0] := by
  have h3 : 15 < (fs2).length := by first | omega | (simp only [List.length_set]; omega)
  refine pf_Mo_181 ok d_Mo_next_312 h1 h3 (fun _ => ⟨rfl, rfl⟩) ?_
  rw [h6]
  have h7 : M5[x0]? = some (.inr (10, (fs2.set 15 (.int s1)))) := by rw [← h6]; exact gs_eq h1
  have h8 : (fs2.set 15 (.int s1))[15]? = some (.int s1) := List.getElem?_set_self h3
  exact (gg_keep [] kk)
theorem k_Mo_next_315 {X : gC} {M : List mC} {k n : Nat}  (ok : gO X c_Mo_next "TripleStoreModel" w_Mo_next)  {l9 : Launch} {rm : Room} {M0 : List mC} {post : Option Value → List mC → Prop} (E : gE X l9 y_Mo_next rm 3 none M0 post) (hp : post (none) M) (hk : k ≤ rm.cells) (hn : n ≤ rm.slots) : gg X M k n 315 [] [] := by
  exact g_vret ok E d_Mo_next_315 hp hk hn
theorem k_Mo_isKey_0 {X : gC} {M : List mC} {k n : Nat} {x0 : Nat} {x1 : Int32} {fs2 : List Value} {f3 : Int32} (ok : gO X c_Mo_isKey "TripleStoreModel" w_Mo_isKey) (h1 : M[x0]? = some (.inr (10, fs2))) (h4 : fs2[15]? = some (.int f3)) (kt : f3 = 1 → gg X M k n 10 [(0, .ref x0), (1, .int x1)] []) (kf : ¬ f3 = 1 → gg X M k n 8 [] []) : gg X M k n 0 [(0, .ref x0), (1, .int x1)] [] := by
  refine g_aload_n ok d_Mo_isKey_0 rfl (j := 0) rfl ?_
  refine gf_Mo_181 ok d_Mo_isKey_1 h1 h4 ?_
  refine g_iconst (v := 1) ok d_Mo_isKey_4 (by decide) ?_
  exact g_icmp_eq (tgt := 10) ok d_Mo_isKey_5 (by decide) (fun z => (kt z)) (fun z => (gg_keep [] (kf z)))
theorem k_Mo_isKey_8 {X : gC} {M : List mC} {k n : Nat}  (ok : gO X c_Mo_isKey "TripleStoreModel" w_Mo_isKey)  {l9 : Launch} {rm : Room} {M0 : List mC} {post : Option Value → List mC → Prop} (E : gE X l9 y_Mo_isKey rm 4 (some .boolean) M0 post) (hp : post (some (.int 0)) M) (hk : k ≤ rm.cells) (hn : n ≤ rm.slots) : gg X M k n 8 [] [] := by
  refine g_iconst (v := 0) ok d_Mo_isKey_8 (by decide) ?_
  exact g_zret ok E d_Mo_isKey_9 rfl hp hk hn
theorem k_Mo_isKey_10 {X : gC} {M : List mC} {k n : Nat} {x0 : Nat} {x1 : Int32} (ok : gO X c_Mo_isKey "TripleStoreModel" w_Mo_isKey)  (kt : ¬ x1 = 0 → gg X M k n 20 [(0, .ref x0), (1, .int x1)] []) (kf : x1 = 0 → gg X M k n 14 [(0, .ref x0)] []) : gg X M k n 10 [(0, .ref x0), (1, .int x1)] [] := by
  refine g_iload_n ok d_Mo_isKey_10 rfl (j := 1) rfl ?_
  exact g_if_ne (tgt := 20) ok d_Mo_isKey_11 (by decide) (fun z => (kt z)) (fun z => (gg_keep [0] (kf z)))
theorem k_Mo_isKey_14 {X : gC} {M : List mC} {k n : Nat} {x0 : Nat} (ok : gO X c_Mo_isKey "TripleStoreModel" w_Mo_isKey)  (kk : gg X M k n 126 [(0, .ref x0)] [.long 126879447475060]) : gg X M k n 14 [(0, .ref x0)] [] := by
  refine g_ldc2 (v := 126879447475060) ok (List.mem_cons_of_mem _ (gT_at 1260 (by decide +kernel) (by decide +kernel))) d_Mo_isKey_14 ?_
  exact g_goto (tgt := 126) ok d_Mo_isKey_17 (by decide) kk
theorem k_Mo_isKey_20 {X : gC} {M : List mC} {k n : Nat} {x0 : Nat} {x1 : Int32} (ok : gO X c_Mo_isKey "TripleStoreModel" w_Mo_isKey)  (kt : ¬ x1 = 1 → gg X M k n 31 [(0, .ref x0), (1, .int x1)] []) (kf : x1 = 1 → gg X M k n 25 [(0, .ref x0)] []) : gg X M k n 20 [(0, .ref x0), (1, .int x1)] [] := by
  refine g_iload_n ok d_Mo_isKey_20 rfl (j := 1) rfl ?_
  refine g_iconst (v := 1) ok d_Mo_isKey_21 (by decide) ?_
  exact g_icmp_ne (tgt := 31) ok d_Mo_isKey_22 (by decide) (fun z => (kt z)) (fun z => (gg_keep [0] (kf z)))
theorem k_Mo_isKey_25 {X : gC} {M : List mC} {k n : Nat} {x0 : Nat} (ok : gO X c_Mo_isKey "TripleStoreModel" w_Mo_isKey)  (kk : gg X M k n 126 [(0, .ref x0)] [.long 7235441220169655156]) : gg X M k n 25 [(0, .ref x0)] [] := by
  refine g_ldc2 (v := 7235441220169655156) ok (List.mem_cons_of_mem _ (gT_at 1261 (by decide +kernel) (by decide +kernel))) d_Mo_isKey_25 ?_
  exact g_goto (tgt := 126) ok d_Mo_isKey_28 (by decide) kk
theorem k_Mo_isKey_31 {X : gC} {M : List mC} {k n : Nat} {x0 : Nat} {x1 : Int32} (ok : gO X c_Mo_isKey "TripleStoreModel" w_Mo_isKey)  (kt : ¬ x1 = 2 → gg X M k n 42 [(0, .ref x0), (1, .int x1)] []) (kf : x1 = 2 → gg X M k n 36 [(0, .ref x0)] []) : gg X M k n 31 [(0, .ref x0), (1, .int x1)] [] := by
  refine g_iload_n ok d_Mo_isKey_31 rfl (j := 1) rfl ?_
  refine g_iconst (v := 2) ok d_Mo_isKey_32 (by decide) ?_
  exact g_icmp_ne (tgt := 42) ok d_Mo_isKey_33 (by decide) (fun z => (kt z)) (fun z => (gg_keep [0] (kf z)))
theorem k_Mo_isKey_36 {X : gC} {M : List mC} {k n : Nat} {x0 : Nat} (ok : gO X c_Mo_isKey "TripleStoreModel" w_Mo_isKey)  (kk : gg X M k n 126 [(0, .ref x0)] [.long 478660552050]) : gg X M k n 36 [(0, .ref x0)] [] := by
  refine g_ldc2 (v := 478660552050) ok (List.mem_cons_of_mem _ (gT_at 1262 (by decide +kernel) (by decide +kernel))) d_Mo_isKey_36 ?_
  exact g_goto (tgt := 126) ok d_Mo_isKey_39 (by decide) kk
theorem k_Mo_isKey_42 {X : gC} {M : List mC} {k n : Nat} {x0 : Nat} {x1 : Int32} (ok : gO X c_Mo_isKey "TripleStoreModel" w_Mo_isKey)  (kt : ¬ x1 = 3 → gg X M k n 53 [(0, .ref x0), (1, .int x1)] []) (kf : x1 = 3 → gg X M k n 47 [(0, .ref x0)] []) : gg X M k n 42 [(0, .ref x0), (1, .int x1)] [] := by
  refine g_iload_n ok d_Mo_isKey_42 rfl (j := 1) rfl ?_
  refine g_iconst (v := 3) ok d_Mo_isKey_43 (by decide) ?_
  exact g_icmp_ne (tgt := 53) ok d_Mo_isKey_44 (by decide) (fun z => (kt z)) (fun z => (gg_keep [0] (kf z)))
theorem k_Mo_isKey_47 {X : gC} {M : List mC} {k n : Nat} {x0 : Nat} (ok : gO X c_Mo_isKey "TripleStoreModel" w_Mo_isKey)  (kk : gg X M k n 126 [(0, .ref x0)] [.long 1684370275]) : gg X M k n 47 [(0, .ref x0)] [] := by
  refine g_ldc2 (v := 1684370275) ok (List.mem_cons_of_mem _ (gT_at 1263 (by decide +kernel) (by decide +kernel))) d_Mo_isKey_47 ?_
  exact g_goto (tgt := 126) ok d_Mo_isKey_50 (by decide) kk
theorem k_Mo_isKey_53 {X : gC} {M : List mC} {k n : Nat} {x0 : Nat} {x1 : Int32} (ok : gO X c_Mo_isKey "TripleStoreModel" w_Mo_isKey)  (kt : ¬ x1 = 4 → gg X M k n 64 [(0, .ref x0), (1, .int x1)] []) (kf : x1 = 4 → gg X M k n 58 [(0, .ref x0)] []) : gg X M k n 53 [(0, .ref x0), (1, .int x1)] [] := by
  refine g_iload_n ok d_Mo_isKey_53 rfl (j := 1) rfl ?_
  refine g_iconst (v := 4) ok d_Mo_isKey_54 (by decide) ?_
  exact g_icmp_ne (tgt := 64) ok d_Mo_isKey_55 (by decide) (fun z => (kt z)) (fun z => (gg_keep [0] (kf z)))
theorem k_Mo_isKey_58 {X : gC} {M : List mC} {k n : Nat} {x0 : Nat} (ok : gO X c_Mo_isKey "TripleStoreModel" w_Mo_isKey)  (kk : gg X M k n 126 [(0, .ref x0)] [.long 465625246068]) : gg X M k n 58 [(0, .ref x0)] [] := by
  refine g_ldc2 (v := 465625246068) ok (List.mem_cons_of_mem _ (gT_at 1264 (by decide +kernel) (by decide +kernel))) d_Mo_isKey_58 ?_
  exact g_goto (tgt := 126) ok d_Mo_isKey_61 (by decide) kk
theorem k_Mo_isKey_64 {X : gC} {M : List mC} {k n : Nat} {x0 : Nat} {x1 : Int32} (ok : gO X c_Mo_isKey "TripleStoreModel" w_Mo_isKey)  (kt : ¬ x1 = 5 → gg X M k n 75 [(0, .ref x0), (1, .int x1)] []) (kf : x1 = 5 → gg X M k n 69 [(0, .ref x0)] []) : gg X M k n 64 [(0, .ref x0), (1, .int x1)] [] := by
  refine g_iload_n ok d_Mo_isKey_64 rfl (j := 1) rfl ?_
  refine g_iconst (v := 5) ok d_Mo_isKey_65 (by decide) ?_
  exact g_icmp_ne (tgt := 75) ok d_Mo_isKey_66 (by decide) (fun z => (kt z)) (fun z => (gg_keep [0] (kf z)))
theorem k_Mo_isKey_69 {X : gC} {M : List mC} {k n : Nat} {x0 : Nat} (ok : gO X c_Mo_isKey "TripleStoreModel" w_Mo_isKey)  (kk : gg X M k n 126 [(0, .ref x0)] [.long 112602977166706]) : gg X M k n 69 [(0, .ref x0)] [] := by
  refine g_ldc2 (v := 112602977166706) ok (List.mem_cons_of_mem _ (gT_at 1265 (by decide +kernel) (by decide +kernel))) d_Mo_isKey_69 ?_
  exact g_goto (tgt := 126) ok d_Mo_isKey_72 (by decide) kk
theorem k_Mo_isKey_75 {X : gC} {M : List mC} {k n : Nat} {x0 : Nat} {x1 : Int32} (ok : gO X c_Mo_isKey "TripleStoreModel" w_Mo_isKey)  (kt : ¬ x1 = 6 → gg X M k n 87 [(0, .ref x0), (1, .int x1)] []) (kf : x1 = 6 → gg X M k n 81 [(0, .ref x0)] []) : gg X M k n 75 [(0, .ref x0), (1, .int x1)] [] := by
  refine g_iload_n ok d_Mo_isKey_75 rfl (j := 1) rfl ?_
  refine g_bipush (v := 6) ok d_Mo_isKey_76 (by decide) ?_
  exact g_icmp_ne (tgt := 87) ok d_Mo_isKey_78 (by decide) (fun z => (kt z)) (fun z => (gg_keep [0] (kf z)))
theorem k_Mo_isKey_81 {X : gC} {M : List mC} {k n : Nat} {x0 : Nat} (ok : gO X c_Mo_isKey "TripleStoreModel" w_Mo_isKey)  (kk : gg X M k n 126 [(0, .ref x0)] [.long 8030046131791487340]) : gg X M k n 81 [(0, .ref x0)] [] := by
  refine g_ldc2 (v := 8030046131791487340) ok (List.mem_cons_of_mem _ (gT_at 1266 (by decide +kernel) (by decide +kernel))) d_Mo_isKey_81 ?_
  exact g_goto (tgt := 126) ok d_Mo_isKey_84 (by decide) kk
theorem k_Mo_isKey_87 {X : gC} {M : List mC} {k n : Nat} {x0 : Nat} {x1 : Int32} (ok : gO X c_Mo_isKey "TripleStoreModel" w_Mo_isKey)  (kt : ¬ x1 = 7 → gg X M k n 99 [(0, .ref x0), (1, .int x1)] []) (kf : x1 = 7 → gg X M k n 93 [(0, .ref x0)] []) : gg X M k n 87 [(0, .ref x0), (1, .int x1)] [] := by
  refine g_iload_n ok d_Mo_isKey_87 rfl (j := 1) rfl ?_
  refine g_bipush (v := 7) ok d_Mo_isKey_88 (by decide) ?_
  exact g_icmp_ne (tgt := 99) ok d_Mo_isKey_90 (by decide) (fun z => (kt z)) (fun z => (gg_keep [0] (kf z)))
theorem k_Mo_isKey_93 {X : gC} {M : List mC} {k n : Nat} {x0 : Nat} (ok : gO X c_Mo_isKey "TripleStoreModel" w_Mo_isKey)  (kk : gg X M k n 126 [(0, .ref x0)] [.long 469920281971]) : gg X M k n 93 [(0, .ref x0)] [] := by
  refine g_ldc2 (v := 469920281971) ok (List.mem_cons_of_mem _ (gT_at 1267 (by decide +kernel) (by decide +kernel))) d_Mo_isKey_93 ?_
  exact g_goto (tgt := 126) ok d_Mo_isKey_96 (by decide) kk
theorem k_Mo_isKey_99 {X : gC} {M : List mC} {k n : Nat} {x0 : Nat} {x1 : Int32} (ok : gO X c_Mo_isKey "TripleStoreModel" w_Mo_isKey)  (kt : ¬ x1 = 8 → gg X M k n 111 [(0, .ref x0), (1, .int x1)] []) (kf : x1 = 8 → gg X M k n 105 [(0, .ref x0)] []) : gg X M k n 99 [(0, .ref x0), (1, .int x1)] [] := by
  refine g_iload_n ok d_Mo_isKey_99 rfl (j := 1) rfl ?_
  refine g_bipush (v := 8) ok d_Mo_isKey_100 (by decide) ?_
  exact g_icmp_ne (tgt := 111) ok d_Mo_isKey_102 (by decide) (fun z => (kt z)) (fun z => (gg_keep [0] (kf z)))
theorem k_Mo_isKey_105 {X : gC} {M : List mC} {k n : Nat} {x0 : Nat} (ok : gO X c_Mo_isKey "TripleStoreModel" w_Mo_isKey)  (kk : gg X M k n 126 [(0, .ref x0)] [.long 504363577198]) : gg X M k n 105 [(0, .ref x0)] [] := by
  refine g_ldc2 (v := 504363577198) ok (List.mem_cons_of_mem _ (gT_at 1268 (by decide +kernel) (by decide +kernel))) d_Mo_isKey_105 ?_
  exact g_goto (tgt := 126) ok d_Mo_isKey_108 (by decide) kk
theorem k_Mo_isKey_111 {X : gC} {M : List mC} {k n : Nat} {x0 : Nat} {x1 : Int32} (ok : gO X c_Mo_isKey "TripleStoreModel" w_Mo_isKey)  (kt : ¬ x1 = 9 → gg X M k n 123 [(0, .ref x0)] []) (kf : x1 = 9 → gg X M k n 117 [(0, .ref x0)] []) : gg X M k n 111 [(0, .ref x0), (1, .int x1)] [] := by
  refine g_iload_n ok d_Mo_isKey_111 rfl (j := 1) rfl ?_
  refine g_bipush (v := 9) ok d_Mo_isKey_112 (by decide) ?_
  exact g_icmp_ne (tgt := 123) ok d_Mo_isKey_114 (by decide) (fun z => (gg_keep [0] (kt z))) (fun z => (gg_keep [0] (kf z)))
theorem k_Mo_isKey_117 {X : gC} {M : List mC} {k n : Nat} {x0 : Nat} (ok : gO X c_Mo_isKey "TripleStoreModel" w_Mo_isKey)  (kk : gg X M k n 126 [(0, .ref x0)] [.long 7237492]) : gg X M k n 117 [(0, .ref x0)] [] := by
  refine g_ldc2 (v := 7237492) ok (List.mem_cons_of_mem _ (gT_at 1269 (by decide +kernel) (by decide +kernel))) d_Mo_isKey_117 ?_
  exact g_goto (tgt := 126) ok d_Mo_isKey_120 (by decide) kk
theorem k_Mo_isKey_123 {X : gC} {M : List mC} {k n : Nat} {x0 : Nat} (ok : gO X c_Mo_isKey "TripleStoreModel" w_Mo_isKey)  (kk : gg X M k n 126 [(0, .ref x0)] [.long 422776761956]) : gg X M k n 123 [(0, .ref x0)] [] := by
  refine g_ldc2 (v := 422776761956) ok (List.mem_cons_of_mem _ (gT_at 1270 (by decide +kernel) (by decide +kernel))) d_Mo_isKey_123 ?_
  exact kk
theorem k_Mo_isKey_126 {X : gC} {M : List mC} {k n : Nat} {x0 : Nat} {s0 : Int64} {fs2 : List Value} {f3 : Int64} (ok : gO X c_Mo_isKey "TripleStoreModel" w_Mo_isKey) (hl : gL X = 4) (h1 : M[x0]? = some (.inr (10, fs2))) (h4 : fs2[16]? = some (.long f3)) (kt : ¬ f3 = s0 → gg X M k n 140 [] []) (kf : f3 = s0 → gg X M k n 136 [] []) : gg X M k n 126 [(0, .ref x0)] [.long s0] := by
  refine g_lstore_n (L' := [(0, .ref x0), (2, .long s0)]) ok d_Mo_isKey_126 rfl (by rw [hl]; decide) rfl ?_
  refine g_aload_n ok d_Mo_isKey_127 rfl (j := 0) rfl ?_
  refine gf_Mo_164 ok d_Mo_isKey_128 h1 h4 ?_
  refine g_lload_n ok d_Mo_isKey_131 rfl (j := 1) rfl ?_
  exact g_lc_ne (tgt := 140) ok d_Mo_isKey_132 d_Mo_isKey_133 (by decide) (fun z => (gg_keep [] (kt z))) (fun z => (gg_keep [] (kf z)))
theorem k_Mo_isKey_136 {X : gC} {M : List mC} {k n : Nat}  (ok : gO X c_Mo_isKey "TripleStoreModel" w_Mo_isKey)  (kk : gg X M k n 141 [] [.int 1]) : gg X M k n 136 [] [] := by
  refine g_iconst (v := 1) ok d_Mo_isKey_136 (by decide) ?_
  exact g_goto (tgt := 141) ok d_Mo_isKey_137 (by decide) kk
theorem k_Mo_isKey_140 {X : gC} {M : List mC} {k n : Nat}  (ok : gO X c_Mo_isKey "TripleStoreModel" w_Mo_isKey)  (kk : gg X M k n 141 [] [.int 0]) : gg X M k n 140 [] [] := by
  refine g_iconst (v := 0) ok d_Mo_isKey_140 (by decide) ?_
  exact kk
theorem k_Mo_isKey_141 {X : gC} {M : List mC} {k n : Nat} {s0 : Int32} (ok : gO X c_Mo_isKey "TripleStoreModel" w_Mo_isKey)  {l9 : Launch} {rm : Room} {M0 : List mC} {post : Option Value → List mC → Prop} (E : gE X l9 y_Mo_isKey rm 4 (some .boolean) M0 post) (hz : narrow .boolean (.int s0) = .int s0) (hp : post (some (.int s0)) M) (hk : k ≤ rm.cells) (hn : n ≤ rm.slots) : gg X M k n 141 [] [.int s0] := by
  exact g_zret ok E d_Mo_isKey_141 hz hp hk hn
theorem k_Mo_isTerm_0 {X : gC} {M : List mC} {k n : Nat} {x0 : Nat} {fs2 : List Value} {f3 : Int32} (ok : gO X c_Mo_isTerm "TripleStoreModel" w_Mo_isTerm) (h1 : M[x0]? = some (.inr (10, fs2))) (h4 : fs2[15]? = some (.int f3)) (kt : ¬ f3 = 2 → gg X M k n 10 [(0, .ref x0)] []) (kf : f3 = 2 → gg X M k n 8 [] []) : gg X M k n 0 [(0, .ref x0)] [] := by
  refine g_aload_n ok d_Mo_isTerm_0 rfl (j := 0) rfl ?_
  refine gf_Mo_181 ok d_Mo_isTerm_1 h1 h4 ?_
  refine g_iconst (v := 2) ok d_Mo_isTerm_4 (by decide) ?_
  exact g_icmp_ne (tgt := 10) ok d_Mo_isTerm_5 (by decide) (fun z => (kt z)) (fun z => (gg_keep [] (kf z)))
theorem k_Mo_isTerm_8 {X : gC} {M : List mC} {k n : Nat}  (ok : gO X c_Mo_isTerm "TripleStoreModel" w_Mo_isTerm)  {l9 : Launch} {rm : Room} {M0 : List mC} {post : Option Value → List mC → Prop} (E : gE X l9 y_Mo_isTerm rm 3 (some .boolean) M0 post) (hp : post (some (.int 1)) M) (hk : k ≤ rm.cells) (hn : n ≤ rm.slots) : gg X M k n 8 [] [] := by
  refine g_iconst (v := 1) ok d_Mo_isTerm_8 (by decide) ?_
  exact g_zret ok E d_Mo_isTerm_9 rfl hp hk hn
theorem k_Mo_isTerm_10 {X : gC} {M : List mC} {k n : Nat} {x0 : Nat} (ok : gO X c_Mo_isTerm "TripleStoreModel" w_Mo_isTerm) (hl : gL X = 3)  (kk : gg X M k n 14 [(0, .ref x0), (1, .int 0), (2, .int 0)] []) : gg X M k n 10 [(0, .ref x0)] [] := by
  refine g_iconst (v := 0) ok d_Mo_isTerm_10 (by decide) ?_
  refine g_istore_n (L' := [(0, .ref x0), (1, .int 0)]) ok d_Mo_isTerm_11 rfl (by rw [hl]; decide) rfl ?_
  refine g_iconst (v := 0) ok d_Mo_isTerm_12 (by decide) ?_
  refine g_istore_n (L' := [(0, .ref x0), (1, .int 0), (2, .int 0)]) ok d_Mo_isTerm_13 rfl (by rw [hl]; decide) rfl ?_
  exact kk
theorem k_Mo_isTerm_14 {X : gC} {M : List mC} {k n : Nat} {x0 : Nat} {x1 : Int32} {x2 : Int32} (ok : gO X c_Mo_isTerm "TripleStoreModel" w_Mo_isTerm)  (kt : 11 ≤ x2 → gg X M k n 36 [(0, .ref x0), (1, .int x1)] []) (kf : ¬ 11 ≤ x2 → gg X M k n 20 [(0, .ref x0), (1, .int x1), (2, .int x2)] []) : gg X M k n 14 [(0, .ref x0), (1, .int x1), (2, .int x2)] [] := by
  refine g_iload_n ok d_Mo_isTerm_14 rfl (j := 2) rfl ?_
  refine g_bipush (v := 11) ok d_Mo_isTerm_15 (by decide) ?_
  exact g_icmp_ge (tgt := 36) ok d_Mo_isTerm_17 (by decide) (fun z => (gg_keep [0, 1] (kt z))) (fun z => (kf z))
theorem k_Mo_isTerm_20 {X : gC} {M : List mC} {k n : Nat} {x0 : Nat} {x1 : Int32} {x2 : Int32} {fs2 : List Value} (ok : gO X c_Mo_isTerm "TripleStoreModel" w_Mo_isTerm) (h1 : M[x0]? = some (.inr (10, fs2))) {rm : Room} {post : Option Value → List mC → Prop} (hm : mm_ (gLa X) y_Mo_isKey w_Mo_isKey rm [.ref x0, .int x2] M post) (hR : gF X rm 4 k n) (hlen : ∀ r M', post r M' → M'.length = M.length) (kk : ∀ r M', post r M' → gg X M' (k + rm.cells) (n + rm.slots) 25 [(0, .ref x0), (1, .int x1), (2, .int x2)] (r.toList ++ [])) : gg X M k n 20 [(0, .ref x0), (1, .int x1), (2, .int x2)] [] := by
  refine g_aload_n ok d_Mo_isTerm_20 rfl (j := 0) rfl ?_
  refine g_iload_n ok d_Mo_isTerm_21 rfl (j := 2) rfl ?_
  exact gc_Mo_217 (As := [.int x2]) (rest := []) ok d_Mo_isTerm_22 hm rfl rfl (Nat.le_of_ble_eq_true rfl) hR h1 hlen kk
theorem k_Mo_isTerm_25 {X : gC} {M : List mC} {k n : Nat} {x0 : Nat} {x1 : Int32} {x2 : Int32} {s0 : Int32} (ok : gO X c_Mo_isTerm "TripleStoreModel" w_Mo_isTerm)  (kt : s0 = 0 → gg X M k n 30 [(0, .ref x0), (1, .int x1), (2, .int x2)] []) (kf : ¬ s0 = 0 → gg X M k n 28 [(0, .ref x0), (2, .int x2)] []) : gg X M k n 25 [(0, .ref x0), (1, .int x1), (2, .int x2)] [.int s0] := by
  exact g_if_eq (tgt := 30) ok d_Mo_isTerm_25 (by decide) (fun z => (kt z)) (fun z => (gg_keep [0, 2] (kf z)))
theorem k_Mo_isTerm_28 {X : gC} {M : List mC} {k n : Nat} {x0 : Nat} {x2 : Int32} (ok : gO X c_Mo_isTerm "TripleStoreModel" w_Mo_isTerm) (hl : gL X = 3)  (kk : gg X M k n 30 [(0, .ref x0), (1, .int 1), (2, .int x2)] []) : gg X M k n 28 [(0, .ref x0), (2, .int x2)] [] := by
  refine g_iconst (v := 1) ok d_Mo_isTerm_28 (by decide) ?_
  refine g_istore_n (L' := [(0, .ref x0), (1, .int 1), (2, .int x2)]) ok d_Mo_isTerm_29 rfl (by rw [hl]; decide) rfl ?_
  exact kk
theorem k_Mo_isTerm_30 {X : gC} {M : List mC} {k n : Nat} {x0 : Nat} {x1 : Int32} {x2 : Int32} (ok : gO X c_Mo_isTerm "TripleStoreModel" w_Mo_isTerm) (hl : gL X = 3)  (kk : gg X M k n 14 [(0, .ref x0), (1, .int x1), (2, .int (x2 + 1))] []) : gg X M k n 30 [(0, .ref x0), (1, .int x1), (2, .int x2)] [] := by
  refine g_iinc (L' := [(0, .ref x0), (1, .int x1), (2, .int (x2 + 1))]) (v := (x2 + 1)) ok d_Mo_isTerm_30 (j := 2) rfl rfl (by rw [hl]; decide) rfl ?_
  exact g_goto (tgt := 14) ok d_Mo_isTerm_33 (by decide) kk
theorem k_Mo_isTerm_36 {X : gC} {M : List mC} {k n : Nat} {x0 : Nat} {x1 : Int32} {fs2 : List Value} {f3 : Int32} (ok : gO X c_Mo_isTerm "TripleStoreModel" w_Mo_isTerm) (h1 : M[x0]? = some (.inr (10, fs2))) (h4 : fs2[15]? = some (.int f3)) (kt : ¬ f3 = 1 → gg X M k n 52 [] []) (kf : f3 = 1 → gg X M k n 44 [(1, .int x1)] []) : gg X M k n 36 [(0, .ref x0), (1, .int x1)] [] := by
  refine g_aload_n ok d_Mo_isTerm_36 rfl (j := 0) rfl ?_
  refine gf_Mo_181 ok d_Mo_isTerm_37 h1 h4 ?_
  refine g_iconst (v := 1) ok d_Mo_isTerm_40 (by decide) ?_
  exact g_icmp_ne (tgt := 52) ok d_Mo_isTerm_41 (by decide) (fun z => (gg_keep [] (kt z))) (fun z => (gg_keep [1] (kf z)))
theorem k_Mo_isTerm_44 {X : gC} {M : List mC} {k n : Nat} {x1 : Int32} (ok : gO X c_Mo_isTerm "TripleStoreModel" w_Mo_isTerm)  (kt : ¬ x1 = 0 → gg X M k n 52 [] []) (kf : x1 = 0 → gg X M k n 48 [] []) : gg X M k n 44 [(1, .int x1)] [] := by
  refine g_iload_n ok d_Mo_isTerm_44 rfl (j := 0) rfl ?_
  exact g_if_ne (tgt := 52) ok d_Mo_isTerm_45 (by decide) (fun z => (gg_keep [] (kt z))) (fun z => (gg_keep [] (kf z)))
theorem k_Mo_isTerm_48 {X : gC} {M : List mC} {k n : Nat}  (ok : gO X c_Mo_isTerm "TripleStoreModel" w_Mo_isTerm)  (kk : gg X M k n 53 [] [.int 1]) : gg X M k n 48 [] [] := by
  refine g_iconst (v := 1) ok d_Mo_isTerm_48 (by decide) ?_
  exact g_goto (tgt := 53) ok d_Mo_isTerm_49 (by decide) kk
theorem k_Mo_isTerm_52 {X : gC} {M : List mC} {k n : Nat}  (ok : gO X c_Mo_isTerm "TripleStoreModel" w_Mo_isTerm)  (kk : gg X M k n 53 [] [.int 0]) : gg X M k n 52 [] [] := by
  refine g_iconst (v := 0) ok d_Mo_isTerm_52 (by decide) ?_
  exact kk
theorem k_Mo_isTerm_53 {X : gC} {M : List mC} {k n : Nat} {s0 : Int32} (ok : gO X c_Mo_isTerm "TripleStoreModel" w_Mo_isTerm)  {l9 : Launch} {rm : Room} {M0 : List mC} {post : Option Value → List mC → Prop} (E : gE X l9 y_Mo_isTerm rm 3 (some .boolean) M0 post) (hz : narrow .boolean (.int s0) = .int s0) (hp : post (some (.int s0)) M) (hk : k ≤ rm.cells) (hn : n ≤ rm.slots) : gg X M k n 53 [] [.int s0] := by
  exact g_zret ok E d_Mo_isTerm_53 hz hp hk hn
theorem k_Mo_isSign_0 {X : gC} {M : List mC} {k n : Nat} {x0 : Nat} {x1 : Int32} {fs2 : List Value} {f3 : Int32} (ok : gO X c_Mo_isSign "TripleStoreModel" w_Mo_isSign) (h1 : M[x0]? = some (.inr (10, fs2))) (h4 : fs2[15]? = some (.int f3)) (kt : ¬ f3 = 4 → gg X M k n 22 [] []) (kf : f3 = 4 → gg X M k n 8 [(0, .ref x0), (1, .int x1)] []) : gg X M k n 0 [(0, .ref x0), (1, .int x1)] [] := by
  refine g_aload_n ok d_Mo_isSign_0 rfl (j := 0) rfl ?_
  refine gf_Mo_181 ok d_Mo_isSign_1 h1 h4 ?_
  refine g_iconst (v := 4) ok d_Mo_isSign_4 (by decide) ?_
  exact g_icmp_ne (tgt := 22) ok d_Mo_isSign_5 (by decide) (fun z => (gg_keep [] (kt z))) (fun z => (kf z))
theorem k_Mo_isSign_8 {X : gC} {M : List mC} {k n : Nat} {x0 : Nat} {x1 : Int32} {fs2 : List Value} {f3 : Int64} (ok : gO X c_Mo_isSign "TripleStoreModel" w_Mo_isSign) (h1 : M[x0]? = some (.inr (10, fs2))) (h4 : fs2[16]? = some (.long f3)) (kt : ¬ f3 = (x1.toInt64) → gg X M k n 22 [] []) (kf : f3 = (x1.toInt64) → gg X M k n 18 [] []) : gg X M k n 8 [(0, .ref x0), (1, .int x1)] [] := by
  refine g_aload_n ok d_Mo_isSign_8 rfl (j := 0) rfl ?_
  refine gf_Mo_164 ok d_Mo_isSign_9 h1 h4 ?_
  refine g_iload_n ok d_Mo_isSign_12 rfl (j := 1) rfl ?_
  refine g_i2l ok d_Mo_isSign_13 ?_
  exact g_lc_ne (tgt := 22) ok d_Mo_isSign_14 d_Mo_isSign_15 (by decide) (fun z => (gg_keep [] (kt z))) (fun z => (gg_keep [] (kf z)))
theorem k_Mo_isSign_18 {X : gC} {M : List mC} {k n : Nat}  (ok : gO X c_Mo_isSign "TripleStoreModel" w_Mo_isSign)  (kk : gg X M k n 23 [] [.int 1]) : gg X M k n 18 [] [] := by
  refine g_iconst (v := 1) ok d_Mo_isSign_18 (by decide) ?_
  exact g_goto (tgt := 23) ok d_Mo_isSign_19 (by decide) kk
theorem k_Mo_isSign_22 {X : gC} {M : List mC} {k n : Nat}  (ok : gO X c_Mo_isSign "TripleStoreModel" w_Mo_isSign)  (kk : gg X M k n 23 [] [.int 0]) : gg X M k n 22 [] [] := by
  refine g_iconst (v := 0) ok d_Mo_isSign_22 (by decide) ?_
  exact kk
theorem k_Mo_isSign_23 {X : gC} {M : List mC} {k n : Nat} {s0 : Int32} (ok : gO X c_Mo_isSign "TripleStoreModel" w_Mo_isSign)  {l9 : Launch} {rm : Room} {M0 : List mC} {post : Option Value → List mC → Prop} (E : gE X l9 y_Mo_isSign rm 2 (some .boolean) M0 post) (hz : narrow .boolean (.int s0) = .int s0) (hp : post (some (.int s0)) M) (hk : k ≤ rm.cells) (hn : n ≤ rm.slots) : gg X M k n 23 [] [.int s0] := by
  exact g_zret ok E d_Mo_isSign_23 hz hp hk hn
theorem k_Mo_stop_0 {X : gC} {M : List mC} {k n : Nat} {x0 : Nat} {fs2 : List Value} {f3 : Int32} (ok : gO X c_Mo_stop "TripleStoreModel" w_Mo_stop) (h1 : M[x0]? = some (.inr (10, fs2))) (h4 : fs2[20]? = some (.int f3)) (kt : 0 ≤ f3 → gg X M k n 29 [] []) (kf : ¬ 0 ≤ f3 → gg X M k n 7 [(0, .ref x0)] []) : gg X M k n 0 [(0, .ref x0)] [] := by
  refine g_aload_n ok d_Mo_stop_0 rfl (j := 0) rfl ?_
  refine gf_Mo_220 ok d_Mo_stop_1 h1 h4 ?_
  exact g_if_ge (tgt := 29) ok d_Mo_stop_4 (by decide) (fun z => (gg_keep [] (kt z))) (fun z => (kf z))
theorem k_Mo_stop_7 {X : gC} {M : List mC} {k n : Nat} {x0 : Nat} {fs2 : List Value} {f3 : Int32} (ok : gO X c_Mo_stop "TripleStoreModel" w_Mo_stop) (h1 : M[x0]? = some (.inr (10, fs2))) (h4 : fs2[15]? = some (.int f3)) (kt : ¬ f3 = 0 → gg X M k n 22 [(0, .ref x0)] [.ref x0]) (kf : f3 = 0 → gg X M k n 15 [(0, .ref x0)] [.ref x0]) : gg X M k n 7 [(0, .ref x0)] [] := by
  refine g_aload_n ok d_Mo_stop_7 rfl (j := 0) rfl ?_
  refine g_aload_n ok d_Mo_stop_8 rfl (j := 0) rfl ?_
  refine gf_Mo_181 ok d_Mo_stop_9 h1 h4 ?_
  exact g_if_ne (tgt := 22) ok d_Mo_stop_12 (by decide) (fun z => (kt z)) (fun z => (kf z))
theorem k_Mo_stop_15 {X : gC} {M : List mC} {k n : Nat} {x0 : Nat} {fs2 : List Value} {f3 : Int32} (ok : gO X c_Mo_stop "TripleStoreModel" w_Mo_stop) (h1 : M[x0]? = some (.inr (10, fs2))) (h4 : fs2[19]? = some (.int f3)) (kk : gg X M k n 26 [(0, .ref x0)] [.int f3, .ref x0]) : gg X M k n 15 [(0, .ref x0)] [.ref x0] := by
  refine g_aload_n ok d_Mo_stop_15 rfl (j := 0) rfl ?_
  refine gf_Mo_175 ok d_Mo_stop_16 h1 h4 ?_
  exact g_goto (tgt := 26) ok d_Mo_stop_19 (by decide) kk
theorem k_Mo_stop_22 {X : gC} {M : List mC} {k n : Nat} {x0 : Nat} {fs2 : List Value} {f3 : Int32} (ok : gO X c_Mo_stop "TripleStoreModel" w_Mo_stop) (h1 : M[x0]? = some (.inr (10, fs2))) (h4 : fs2[17]? = some (.int f3)) (kk : gg X M k n 26 [(0, .ref x0)] [.int f3, .ref x0]) : gg X M k n 22 [(0, .ref x0)] [.ref x0] := by
  refine g_aload_n ok d_Mo_stop_22 rfl (j := 0) rfl ?_
  refine gf_Mo_178 ok d_Mo_stop_23 h1 h4 ?_
  exact kk
theorem k_Mo_stop_26 {X : gC} {M : List mC} {k n : Nat} {x0 : Nat} {s1 : Int32} {fs2 : List Value} {M5 : List mC} (ok : gO X c_Mo_stop "TripleStoreModel" w_Mo_stop) (h1 : M[x0]? = some (.inr (10, fs2))) (h4 : 59 ≤ fs2.length) (h6 : M.set x0 (.inr (10, (fs2.set 20 (.int s1)))) = M5) (kk : gg X M5 k n 29 [] []) : gg X M k n 26 [(0, .ref x0)] [.int s1, .ref x0] := by
  have h3 : 20 < (fs2).length := by first | omega | (simp only [List.length_set]; omega)
  refine pf_Mo_220 ok d_Mo_stop_26 h1 h3 (fun _ => ⟨rfl, rfl⟩) ?_
  rw [h6]
  have h7 : M5[x0]? = some (.inr (10, (fs2.set 20 (.int s1)))) := by rw [← h6]; exact gs_eq h1
  have h8 : (fs2.set 20 (.int s1))[20]? = some (.int s1) := List.getElem?_set_self h3
  exact (gg_keep [] kk)
theorem k_Mo_stop_29 {X : gC} {M : List mC} {k n : Nat}  (ok : gO X c_Mo_stop "TripleStoreModel" w_Mo_stop)  {l9 : Launch} {rm : Room} {M0 : List mC} {post : Option Value → List mC → Prop} (E : gE X l9 y_Mo_stop rm 1 none M0 post) (hp : post (none) M) (hk : k ≤ rm.cells) (hn : n ≤ rm.slots) : gg X M k n 29 [] [] := by
  exact g_vret ok E d_Mo_stop_29 hp hk hn
theorem k_Mo_goOn_0 {X : gC} {M : List mC} {k n : Nat} {x0 : Nat} {x1 : Int32} (ok : gO X c_Mo_goOn "TripleStoreModel" w_Mo_goOn)  (kt : ¬ x1 = 0 → gg X M k n 8 [(0, .ref x0)] []) (kf : x1 = 0 → gg X M k n 4 [(0, .ref x0)] []) : gg X M k n 0 [(0, .ref x0), (1, .int x1)] [] := by
  refine g_iload_n ok d_Mo_goOn_0 rfl (j := 1) rfl ?_
  exact g_if_ne (tgt := 8) ok d_Mo_goOn_1 (by decide) (fun z => (gg_keep [0] (kt z))) (fun z => (gg_keep [0] (kf z)))
theorem k_Mo_goOn_4 {X : gC} {M : List mC} {k n : Nat} {x0 : Nat} {fs2 : List Value} (ok : gO X c_Mo_goOn "TripleStoreModel" w_Mo_goOn) (h1 : M[x0]? = some (.inr (10, fs2))) {rm : Room} {post : Option Value → List mC → Prop} (hm : mm_ (gLa X) y_Mo_stop w_Mo_stop rm [.ref x0] M post) (hR : gF X rm 1 k n) (hlen : ∀ r M', post r M' → M'.length = M.length) (kk : ∀ r M', post r M' → gg X M' (k + rm.cells) (n + rm.slots) 8 [(0, .ref x0)] (r.toList ++ [])) : gg X M k n 4 [(0, .ref x0)] [] := by
  refine g_aload_n ok d_Mo_goOn_4 rfl (j := 0) rfl ?_
  exact gc_Mo_223 (As := []) (rest := []) ok d_Mo_goOn_5 hm rfl rfl (Nat.le_of_ble_eq_true rfl) hR h1 hlen kk
theorem k_Mo_goOn_8 {X : gC} {M : List mC} {k n : Nat} {x0 : Nat} {fs2 : List Value} {f3 : Int32} (ok : gO X c_Mo_goOn "TripleStoreModel" w_Mo_goOn) (h1 : M[x0]? = some (.inr (10, fs2))) (h4 : fs2[20]? = some (.int f3)) (kt : f3 < 0 → gg X M k n 17 [(0, .ref x0)] []) (kf : ¬ f3 < 0 → gg X M k n 15 [] []) : gg X M k n 8 [(0, .ref x0)] [] := by
  refine g_aload_n ok d_Mo_goOn_8 rfl (j := 0) rfl ?_
  refine gf_Mo_220 ok d_Mo_goOn_9 h1 h4 ?_
  exact g_if_lt (tgt := 17) ok d_Mo_goOn_12 (by decide) (fun z => (kt z)) (fun z => (gg_keep [] (kf z)))
theorem k_Mo_goOn_15 {X : gC} {M : List mC} {k n : Nat}  (ok : gO X c_Mo_goOn "TripleStoreModel" w_Mo_goOn)  {l9 : Launch} {rm : Room} {M0 : List mC} {post : Option Value → List mC → Prop} (E : gE X l9 y_Mo_goOn rm 2 (some .boolean) M0 post) (hp : post (some (.int 0)) M) (hk : k ≤ rm.cells) (hn : n ≤ rm.slots) : gg X M k n 15 [] [] := by
  refine g_iconst (v := 0) ok d_Mo_goOn_15 (by decide) ?_
  exact g_zret ok E d_Mo_goOn_16 rfl hp hk hn
theorem k_Mo_goOn_17 {X : gC} {M : List mC} {k n : Nat} {x0 : Nat} {fs2 : List Value} (ok : gO X c_Mo_goOn "TripleStoreModel" w_Mo_goOn) (h1 : M[x0]? = some (.inr (10, fs2))) {rm : Room} {post : Option Value → List mC → Prop} (hm : mm_ (gLa X) y_Mo_next w_Mo_next rm [.ref x0] M post) (hR : gF X rm 3 k n) (hlen : ∀ r M', post r M' → M'.length = M.length) (kk : ∀ r M', post r M' → gg X M' (k + rm.cells) (n + rm.slots) 21 [] (r.toList ++ [])) : gg X M k n 17 [(0, .ref x0)] [] := by
  refine g_aload_n ok d_Mo_goOn_17 rfl (j := 0) rfl ?_
  exact gc_Mo_226 (As := []) (rest := []) ok d_Mo_goOn_18 hm rfl rfl (Nat.le_of_ble_eq_true rfl) hR h1 hlen (fun r M' q => (gg_keep [] (kk r M' q)))
theorem k_Mo_goOn_21 {X : gC} {M : List mC} {k n : Nat}  (ok : gO X c_Mo_goOn "TripleStoreModel" w_Mo_goOn)  {l9 : Launch} {rm : Room} {M0 : List mC} {post : Option Value → List mC → Prop} (E : gE X l9 y_Mo_goOn rm 2 (some .boolean) M0 post) (hp : post (some (.int 1)) M) (hk : k ≤ rm.cells) (hn : n ≤ rm.slots) : gg X M k n 21 [] [] := by
  refine g_iconst (v := 1) ok d_Mo_goOn_21 (by decide) ?_
  exact g_zret ok E d_Mo_goOn_22 rfl hp hk hn
theorem k_Mo_readVariable_0 {X : gC} {M : List mC} {k n : Nat} {x0 : Nat} (ok : gO X c_Mo_readVariable "TripleStoreModel" w_Mo_readVariable) (hl : gL X = 3)  (kk : gg X M k n 4 [(0, .ref x0), (1, .int (-1)), (2, .int 0)] []) : gg X M k n 0 [(0, .ref x0)] [] := by
  refine g_iconst (v := (-1)) ok d_Mo_readVariable_0 (by decide) ?_
  refine g_istore_n (L' := [(0, .ref x0), (1, .int (-1))]) ok d_Mo_readVariable_1 rfl (by rw [hl]; decide) rfl ?_
  refine g_iconst (v := 0) ok d_Mo_readVariable_2 (by decide) ?_
  refine g_istore_n (L' := [(0, .ref x0), (1, .int (-1)), (2, .int 0)]) ok d_Mo_readVariable_3 rfl (by rw [hl]; decide) rfl ?_
  exact kk
theorem k_Mo_readVariable_4 {X : gC} {M : List mC} {k n : Nat} {x0 : Nat} {x1 : Int32} {x2 : Int32} {fs2 : List Value} {f3 : Int32} (ok : gO X c_Mo_readVariable "TripleStoreModel" w_Mo_readVariable) (h1 : M[x0]? = some (.inr (10, fs2))) (h4 : fs2[24]? = some (.int f3)) (kt : f3 ≤ x2 → gg X M k n 34 [(0, .ref x0), (1, .int x1)] []) (kf : ¬ f3 ≤ x2 → gg X M k n 12 [(0, .ref x0), (1, .int x1), (2, .int x2)] []) : gg X M k n 4 [(0, .ref x0), (1, .int x1), (2, .int x2)] [] := by
  refine g_iload_n ok d_Mo_readVariable_4 rfl (j := 2) rfl ?_
  refine g_aload_n ok d_Mo_readVariable_5 rfl (j := 0) rfl ?_
  refine gf_Mo_229 ok d_Mo_readVariable_6 h1 h4 ?_
  exact g_icmp_ge (tgt := 34) ok d_Mo_readVariable_9 (by decide) (fun z => (gg_keep [0, 1] (kt z))) (fun z => (kf z))
theorem k_Mo_readVariable_12 {X : gC} {M : List mC} {k n : Nat} {x0 : Nat} {x1 : Int32} {x2 : Int32} {fs2 : List Value} {f3 : Nat} {g6 : Nat → Int64} {N7 : Nat} {f9 : Int64} (ok : gO X c_Mo_readVariable "TripleStoreModel" w_Mo_readVariable) (h1 : M[x0]? = some (.inr (10, fs2))) (h4 : fs2[23]? = some (.ref f3)) (h5 : M[f3]? = some (.inl (1, N7, .inr (.inl g6)))) (h8 : vp_in x2 N7) (h10 : fs2[16]? = some (.long f9)) (kt : ¬ (g6 x2.toNatClampNeg) = f9 → gg X M k n 28 [(0, .ref x0), (1, .int x1), (2, .int x2)] []) (kf : (g6 x2.toNatClampNeg) = f9 → gg X M k n 26 [(0, .ref x0), (2, .int x2)] []) : gg X M k n 12 [(0, .ref x0), (1, .int x1), (2, .int x2)] [] := by
  refine g_aload_n ok d_Mo_readVariable_12 rfl (j := 0) rfl ?_
  refine gf_Mo_34 ok d_Mo_readVariable_13 h1 h4 ?_
  refine g_iload_n ok d_Mo_readVariable_16 rfl (j := 2) rfl ?_
  refine g_lald (t := 1) ok rfl d_Mo_readVariable_17 h5 h8 ?_
  refine g_aload_n ok d_Mo_readVariable_18 rfl (j := 0) rfl ?_
  refine gf_Mo_164 ok d_Mo_readVariable_19 h1 h10 ?_
  exact g_lc_ne (tgt := 28) ok d_Mo_readVariable_22 d_Mo_readVariable_23 (by decide) (fun z => (kt z)) (fun z => (gg_keep [0, 2] (kf z)))
theorem k_Mo_readVariable_26 {X : gC} {M : List mC} {k n : Nat} {x0 : Nat} {x2 : Int32} (ok : gO X c_Mo_readVariable "TripleStoreModel" w_Mo_readVariable) (hl : gL X = 3)  (kk : gg X M k n 28 [(0, .ref x0), (1, .int x2), (2, .int x2)] []) : gg X M k n 26 [(0, .ref x0), (2, .int x2)] [] := by
  refine g_iload_n ok d_Mo_readVariable_26 rfl (j := 1) rfl ?_
  refine g_istore_n (L' := [(0, .ref x0), (1, .int x2), (2, .int x2)]) ok d_Mo_readVariable_27 rfl (by rw [hl]; decide) rfl ?_
  exact kk
theorem k_Mo_readVariable_28 {X : gC} {M : List mC} {k n : Nat} {x0 : Nat} {x1 : Int32} {x2 : Int32} (ok : gO X c_Mo_readVariable "TripleStoreModel" w_Mo_readVariable) (hl : gL X = 3)  (kk : gg X M k n 4 [(0, .ref x0), (1, .int x1), (2, .int (x2 + 1))] []) : gg X M k n 28 [(0, .ref x0), (1, .int x1), (2, .int x2)] [] := by
  refine g_iinc (L' := [(0, .ref x0), (1, .int x1), (2, .int (x2 + 1))]) (v := (x2 + 1)) ok d_Mo_readVariable_28 (j := 2) rfl rfl (by rw [hl]; decide) rfl ?_
  exact g_goto (tgt := 4) ok d_Mo_readVariable_31 (by decide) kk
theorem k_Mo_readVariable_34 {X : gC} {M : List mC} {k n : Nat} {x0 : Nat} {x1 : Int32} {fs2 : List Value} {f3 : Int32} (ok : gO X c_Mo_readVariable "TripleStoreModel" w_Mo_readVariable) (h1 : M[x0]? = some (.inr (10, fs2))) (h4 : fs2[15]? = some (.int f3)) (kt : ¬ f3 = 3 → gg X M k n 83 [(0, .ref x0), (1, .int x1)] []) (kf : f3 = 3 → gg X M k n 42 [(0, .ref x0), (1, .int x1)] []) : gg X M k n 34 [(0, .ref x0), (1, .int x1)] [] := by
  refine g_aload_n ok d_Mo_readVariable_34 rfl (j := 0) rfl ?_
  refine gf_Mo_181 ok d_Mo_readVariable_35 h1 h4 ?_
  refine g_iconst (v := 3) ok d_Mo_readVariable_38 (by decide) ?_
  exact g_icmp_ne (tgt := 83) ok d_Mo_readVariable_39 (by decide) (fun z => (kt z)) (fun z => (kf z))
theorem k_Mo_readVariable_42 {X : gC} {M : List mC} {k n : Nat} {x0 : Nat} {x1 : Int32} (ok : gO X c_Mo_readVariable "TripleStoreModel" w_Mo_readVariable)  (kt : 0 ≤ x1 → gg X M k n 83 [(0, .ref x0), (1, .int x1)] []) (kf : ¬ 0 ≤ x1 → gg X M k n 46 [(0, .ref x0), (1, .int x1)] []) : gg X M k n 42 [(0, .ref x0), (1, .int x1)] [] := by
  refine g_iload_n ok d_Mo_readVariable_42 rfl (j := 1) rfl ?_
  exact g_if_ge (tgt := 83) ok d_Mo_readVariable_43 (by decide) (fun z => (kt z)) (fun z => (kf z))
theorem k_Mo_readVariable_46 {X : gC} {M : List mC} {k n : Nat} {x0 : Nat} {x1 : Int32} {fs2 : List Value} {f3 : Int32} (ok : gO X c_Mo_readVariable "TripleStoreModel" w_Mo_readVariable) (h1 : M[x0]? = some (.inr (10, fs2))) (h4 : fs2[24]? = some (.int f3)) (kt : 6 ≤ f3 → gg X M k n 83 [(0, .ref x0), (1, .int x1)] []) (kf : ¬ 6 ≤ f3 → gg X M k n 55 [(0, .ref x0)] []) : gg X M k n 46 [(0, .ref x0), (1, .int x1)] [] := by
  refine g_aload_n ok d_Mo_readVariable_46 rfl (j := 0) rfl ?_
  refine gf_Mo_229 ok d_Mo_readVariable_47 h1 h4 ?_
  refine g_bipush (v := 6) ok d_Mo_readVariable_50 (by decide) ?_
  exact g_icmp_ge (tgt := 83) ok d_Mo_readVariable_52 (by decide) (fun z => (kt z)) (fun z => (gg_keep [0] (kf z)))
theorem k_Mo_readVariable_55 {X : gC} {M : List mC} {k n : Nat} {x0 : Nat} {fs2 : List Value} {f3 : Nat} {f5 : Int32} {f7 : Int64} {g10 : Nat → Int64} {N11 : Nat} {M13 : List mC} {M19 : List mC} (ok : gO X c_Mo_readVariable "TripleStoreModel" w_Mo_readVariable) (hl : gL X = 3) (h1 : M[x0]? = some (.inr (10, fs2))) (h4 : fs2[23]? = some (.ref f3)) (h6 : fs2[24]? = some (.int f5)) (h8 : fs2[16]? = some (.long f7)) (h9 : M[f3]? = some (.inl (1, N11, .inr (.inl g10)))) (h12 : vp_in f5 N11) (h14 : M.set f3 (.inl (1, N11, .inr (.inl (vp_updL g10 f5.toNatClampNeg f7)))) = M13) (h18 : 59 ≤ fs2.length) (h20 : M13.set x0 (.inr (10, (fs2.set 24 (.int (f5 + 1))))) = M19) (kk : gg X M19 k n 83 [(0, .ref x0), (1, .int f5)] []) : gg X M k n 55 [(0, .ref x0)] [] := by
  refine g_aload_n ok d_Mo_readVariable_55 rfl (j := 0) rfl ?_
  refine gf_Mo_34 ok d_Mo_readVariable_56 h1 h4 ?_
  refine g_aload_n ok d_Mo_readVariable_59 rfl (j := 0) rfl ?_
  refine gf_Mo_229 ok d_Mo_readVariable_60 h1 h6 ?_
  refine g_aload_n ok d_Mo_readVariable_63 rfl (j := 0) rfl ?_
  refine gf_Mo_164 ok d_Mo_readVariable_64 h1 h8 ?_
  refine g_last (t := 1) ok rfl d_Mo_readVariable_67 h9 h12 ?_
  rw [h14]
  have h15 : M13[f3]? = some (.inl (1, N11, .inr (.inl (vp_updL g10 f5.toNatClampNeg f7)))) := by rw [← h14]; exact gs_eq h9
  refine g_aload_n ok d_Mo_readVariable_68 rfl (j := 0) rfl ?_
  have h16 : M13[x0]? = some (.inr (10, fs2)) := by rw [← h14]; exact (gs_ne (ne_ao h9 h1)).trans h1
  refine gf_Mo_229 ok d_Mo_readVariable_69 h16 h6 ?_
  refine g_istore_n (L' := [(0, .ref x0), (1, .int f5)]) ok d_Mo_readVariable_72 rfl (by rw [hl]; decide) rfl ?_
  refine g_aload_n ok d_Mo_readVariable_73 rfl (j := 0) rfl ?_
  refine g_dup ok d_Mo_readVariable_74 rfl ?_
  refine gf_Mo_229 ok d_Mo_readVariable_75 h16 h6 ?_
  refine g_iconst (v := 1) ok d_Mo_readVariable_78 (by decide) ?_
  refine g_iadd ok d_Mo_readVariable_79 ?_
  have h17 : 24 < (fs2).length := by first | omega | (simp only [List.length_set]; omega)
  refine pf_Mo_229 ok d_Mo_readVariable_80 h16 h17 (fun _ => ⟨rfl, rfl⟩) ?_
  rw [h20]
  have h21 : M19[x0]? = some (.inr (10, (fs2.set 24 (.int (f5 + 1))))) := by rw [← h20]; exact gs_eq h16
  have h22 := (List.getElem?_set_ne (a := .int (f5 + 1)) (by decide : 24 ≠ 23)).trans h4
  have h23 := (List.getElem?_set_ne (a := .int (f5 + 1)) (by decide : 24 ≠ 16)).trans h8
  have h24 : (fs2.set 24 (.int (f5 + 1)))[24]? = some (.int (f5 + 1)) := List.getElem?_set_self h17
  exact kk
theorem k_Mo_readVariable_83 {X : gC} {M : List mC} {k n : Nat} {x0 : Nat} {x1 : Int32} {fs2 : List Value} {f3 : Int32} (ok : gO X c_Mo_readVariable "TripleStoreModel" w_Mo_readVariable) (h1 : M[x0]? = some (.inr (10, fs2))) (h4 : fs2[15]? = some (.int f3)) (kt : ¬ f3 = 3 → gg X M k n 100 [(0, .ref x0), (1, .int x1)] [.ref x0]) (kf : f3 = 3 → gg X M k n 92 [(0, .ref x0), (1, .int x1)] [.ref x0]) : gg X M k n 83 [(0, .ref x0), (1, .int x1)] [] := by
  refine g_aload_n ok d_Mo_readVariable_83 rfl (j := 0) rfl ?_
  refine g_aload_n ok d_Mo_readVariable_84 rfl (j := 0) rfl ?_
  refine gf_Mo_181 ok d_Mo_readVariable_85 h1 h4 ?_
  refine g_iconst (v := 3) ok d_Mo_readVariable_88 (by decide) ?_
  exact g_icmp_ne (tgt := 100) ok d_Mo_readVariable_89 (by decide) (fun z => (kt z)) (fun z => (kf z))
theorem k_Mo_readVariable_92 {X : gC} {M : List mC} {k n : Nat} {x0 : Nat} {x1 : Int32} (ok : gO X c_Mo_readVariable "TripleStoreModel" w_Mo_readVariable)  (kt : x1 < 0 → gg X M k n 100 [(0, .ref x0), (1, .int x1)] [.ref x0]) (kf : ¬ x1 < 0 → gg X M k n 96 [(0, .ref x0), (1, .int x1)] [.ref x0]) : gg X M k n 92 [(0, .ref x0), (1, .int x1)] [.ref x0] := by
  refine g_iload_n ok d_Mo_readVariable_92 rfl (j := 1) rfl ?_
  exact g_if_lt (tgt := 100) ok d_Mo_readVariable_93 (by decide) (fun z => (kt z)) (fun z => (kf z))
theorem k_Mo_readVariable_96 {X : gC} {M : List mC} {k n : Nat} {x0 : Nat} {x1 : Int32} (ok : gO X c_Mo_readVariable "TripleStoreModel" w_Mo_readVariable)  (kk : gg X M k n 101 [(0, .ref x0), (1, .int x1)] [.int 1, .ref x0]) : gg X M k n 96 [(0, .ref x0), (1, .int x1)] [.ref x0] := by
  refine g_iconst (v := 1) ok d_Mo_readVariable_96 (by decide) ?_
  exact g_goto (tgt := 101) ok d_Mo_readVariable_97 (by decide) kk
theorem k_Mo_readVariable_100 {X : gC} {M : List mC} {k n : Nat} {x0 : Nat} {x1 : Int32} (ok : gO X c_Mo_readVariable "TripleStoreModel" w_Mo_readVariable)  (kk : gg X M k n 101 [(0, .ref x0), (1, .int x1)] [.int 0, .ref x0]) : gg X M k n 100 [(0, .ref x0), (1, .int x1)] [.ref x0] := by
  refine g_iconst (v := 0) ok d_Mo_readVariable_100 (by decide) ?_
  exact kk
theorem k_Mo_readVariable_101 {X : gC} {M : List mC} {k n : Nat} {x0 : Nat} {x1 : Int32} {s1 : Int32} {fs2 : List Value} (ok : gO X c_Mo_readVariable "TripleStoreModel" w_Mo_readVariable) (h1 : M[x0]? = some (.inr (10, fs2))) {rm : Room} {post : Option Value → List mC → Prop} (hm : mm_ (gLa X) y_Mo_goOn w_Mo_goOn rm [.ref x0, .int s1] M post) (hR : gF X rm 2 k n) (hlen : ∀ r M', post r M' → M'.length = M.length) (kk : ∀ r M', post r M' → gg X M' (k + rm.cells) (n + rm.slots) 104 [(1, .int x1)] (r.toList ++ [])) : gg X M k n 101 [(0, .ref x0), (1, .int x1)] [.int s1, .ref x0] := by
  exact gc_Mo_232 (As := [.int s1]) (rest := []) ok d_Mo_readVariable_101 hm rfl rfl (Nat.le_of_ble_eq_true rfl) hR h1 hlen (fun r M' q => (gg_keep [1] (kk r M' q)))
theorem k_Mo_readVariable_104 {X : gC} {M : List mC} {k n : Nat} {x1 : Int32} {s0 : Int32} (ok : gO X c_Mo_readVariable "TripleStoreModel" w_Mo_readVariable)  (kt : s0 = 0 → gg X M k n 111 [] []) (kf : ¬ s0 = 0 → gg X M k n 107 [(1, .int x1)] []) : gg X M k n 104 [(1, .int x1)] [.int s0] := by
  exact g_if_eq (tgt := 111) ok d_Mo_readVariable_104 (by decide) (fun z => (gg_keep [] (kt z))) (fun z => (kf z))
theorem k_Mo_readVariable_107 {X : gC} {M : List mC} {k n : Nat} {x1 : Int32} (ok : gO X c_Mo_readVariable "TripleStoreModel" w_Mo_readVariable)  (kk : gg X M k n 112 [] [.int x1]) : gg X M k n 107 [(1, .int x1)] [] := by
  refine g_iload_n ok d_Mo_readVariable_107 rfl (j := 0) rfl ?_
  exact g_goto (tgt := 112) ok d_Mo_readVariable_108 (by decide) (gg_keep [] kk)
theorem k_Mo_readVariable_111 {X : gC} {M : List mC} {k n : Nat}  (ok : gO X c_Mo_readVariable "TripleStoreModel" w_Mo_readVariable)  (kk : gg X M k n 112 [] [.int (-1)]) : gg X M k n 111 [] [] := by
  refine g_iconst (v := (-1)) ok d_Mo_readVariable_111 (by decide) ?_
  exact kk
theorem k_Mo_readVariable_112 {X : gC} {M : List mC} {k n : Nat} {s0 : Int32} (ok : gO X c_Mo_readVariable "TripleStoreModel" w_Mo_readVariable)  {l9 : Launch} {rm : Room} {M0 : List mC} {post : Option Value → List mC → Prop} (E : gE X l9 y_Mo_readVariable rm 3 (some .int) M0 post) (hp : post (some (.int s0)) M) (hk : k ≤ rm.cells) (hn : n ≤ rm.slots) : gg X M k n 112 [] [.int s0] := by
  exact g_iret ok E d_Mo_readVariable_112 hp hk hn
theorem k_Mo_readSide_0 {X : gC} {M : List mC} {k n : Nat} {x0 : Nat} {x1 : Int32} {fs2 : List Value} {f3 : Nat} {g6 : Nat → Int32} {N7 : Nat} {M9 : List mC} {f13 : Int32} (ok : gO X c_Mo_readSide "TripleStoreModel" w_Mo_readSide) (h1 : M[x0]? = some (.inr (10, fs2))) (h4 : fs2[33]? = some (.ref f3)) (h5 : M[f3]? = some (.inl (0, N7, .inl g6))) (h8 : vp_in x1 N7) (h10 : M.set f3 (.inl (0, N7, .inl (upd g6 x1.toNatClampNeg (-1)))) = M9) (h14 : fs2[15]? = some (.int f13)) (kt : ¬ f13 = 3 → gg X M9 k n 28 [(0, .ref x0), (1, .int x1)] []) (kf : f13 = 3 → gg X M9 k n 15 [(0, .ref x0), (1, .int x1)] []) : gg X M k n 0 [(0, .ref x0), (1, .int x1)] [] := by
  refine g_aload_n ok d_Mo_readSide_0 rfl (j := 0) rfl ?_
  refine gf_Mo_49 ok d_Mo_readSide_1 h1 h4 ?_
  refine g_iload_n ok d_Mo_readSide_4 rfl (j := 1) rfl ?_
  refine g_iconst (v := (-1)) ok d_Mo_readSide_5 (by decide) ?_
  refine g_iast (t := 0) ok rfl d_Mo_readSide_6 h5 h8 ?_
  rw [h10]
  have h11 : M9[f3]? = some (.inl (0, N7, .inl (upd g6 x1.toNatClampNeg (-1)))) := by rw [← h10]; exact gs_eq h5
  refine g_aload_n ok d_Mo_readSide_7 rfl (j := 0) rfl ?_
  have h12 : M9[x0]? = some (.inr (10, fs2)) := by rw [← h10]; exact (gs_ne (ne_ao h5 h1)).trans h1
  refine gf_Mo_181 ok d_Mo_readSide_8 h12 h14 ?_
  refine g_iconst (v := 3) ok d_Mo_readSide_11 (by decide) ?_
  exact g_icmp_ne (tgt := 28) ok d_Mo_readSide_12 (by decide) (fun z => (kt z)) (fun z => (kf z))
theorem k_Mo_readSide_15 {X : gC} {M : List mC} {k n : Nat} {x0 : Nat} {x1 : Int32} {fs2 : List Value} {f3 : Nat} (ok : gO X c_Mo_readSide "TripleStoreModel" w_Mo_readSide) (h1 : M[x0]? = some (.inr (10, fs2))) (h4 : fs2[33]? = some (.ref f3)) {rm : Room} {post : Option Value → List mC → Prop} (hm : mm_ (gLa X) y_Mo_readVariable w_Mo_readVariable rm [.ref x0] M post) (hR : gF X rm 3 k n) (hlen : ∀ r M', post r M' → M'.length = M.length) (kk : ∀ r M', post r M' → gg X M' (k + rm.cells) (n + rm.slots) 24 [] (r.toList ++ [.int x1, .ref f3])) : gg X M k n 15 [(0, .ref x0), (1, .int x1)] [] := by
  refine g_aload_n ok d_Mo_readSide_15 rfl (j := 0) rfl ?_
  refine gf_Mo_49 ok d_Mo_readSide_16 h1 h4 ?_
  refine g_iload_n ok d_Mo_readSide_19 rfl (j := 1) rfl ?_
  refine g_aload_n ok d_Mo_readSide_20 rfl (j := 0) rfl ?_
  exact gc_Mo_236 (As := []) (rest := [.int x1, .ref f3]) ok d_Mo_readSide_21 hm rfl rfl (Nat.le_of_ble_eq_true rfl) hR h1 hlen (fun r M' q => (gg_keep [] (kk r M' q)))
theorem k_Mo_readSide_24 {X : gC} {M : List mC} {k n : Nat} {s0 : Nat} {s1 : Int32} {s2 : Int32} {g2 : Nat → Int32} {N3 : Nat} {M5 : List mC} (ok : gO X c_Mo_readSide "TripleStoreModel" w_Mo_readSide) (h1 : M[s0]? = some (.inl (0, N3, .inl g2))) (h4 : vp_in s1 N3) (h6 : M.set s0 (.inl (0, N3, .inl (upd g2 s1.toNatClampNeg s2))) = M5) (kk : gg X M5 k n 66 [] []) : gg X M k n 24 [] [.int s2, .int s1, .ref s0] := by
  refine g_iast (t := 0) ok rfl d_Mo_readSide_24 h1 h4 ?_
  rw [h6]
  have h7 : M5[s0]? = some (.inl (0, N3, .inl (upd g2 s1.toNatClampNeg s2))) := by rw [← h6]; exact gs_eq h1
  exact g_goto (tgt := 66) ok d_Mo_readSide_25 (by decide) kk
theorem k_Mo_readSide_28 {X : gC} {M : List mC} {k n : Nat} {x0 : Nat} {x1 : Int32} {fs2 : List Value} {f3 : Nat} {f5 : Int32} (ok : gO X c_Mo_readSide "TripleStoreModel" w_Mo_readSide) (h1 : M[x0]? = some (.inr (10, fs2))) (h4 : fs2[34]? = some (.ref f3)) (h6 : fs2[15]? = some (.int f5)) (kt : ¬ f5 = 2 → gg X M k n 52 [(0, .ref x0)] [.int x1, .ref f3]) (kf : f5 = 2 → gg X M k n 41 [(0, .ref x0)] [.int x1, .ref f3]) : gg X M k n 28 [(0, .ref x0), (1, .int x1)] [] := by
  refine g_aload_n ok d_Mo_readSide_28 rfl (j := 0) rfl ?_
  refine gf_Mo_52 ok d_Mo_readSide_29 h1 h4 ?_
  refine g_iload_n ok d_Mo_readSide_32 rfl (j := 1) rfl ?_
  refine g_aload_n ok d_Mo_readSide_33 rfl (j := 0) rfl ?_
  refine gf_Mo_181 ok d_Mo_readSide_34 h1 h6 ?_
  refine g_iconst (v := 2) ok d_Mo_readSide_37 (by decide) ?_
  exact g_icmp_ne (tgt := 52) ok d_Mo_readSide_38 (by decide) (fun z => (gg_keep [0] (kt z))) (fun z => (gg_keep [0] (kf z)))
theorem k_Mo_readSide_41 {X : gC} {M : List mC} {k n : Nat} {x0 : Nat} {s0 : Nat} {s1 : Int32} {fs2 : List Value} {f3 : Int64} (ok : gO X c_Mo_readSide "TripleStoreModel" w_Mo_readSide) (h1 : M[x0]? = some (.inr (10, fs2))) (h4 : fs2[16]? = some (.long f3)) (kk : gg X M k n 56 [(0, .ref x0)] [.long ((-1) - f3), .int s1, .ref s0]) : gg X M k n 41 [(0, .ref x0)] [.int s1, .ref s0] := by
  refine g_ldc2 (v := (-1)) ok (List.mem_cons_of_mem _ (gT_at 1174 (by decide +kernel) (by decide +kernel))) d_Mo_readSide_41 ?_
  refine g_aload_n ok d_Mo_readSide_44 rfl (j := 0) rfl ?_
  refine gf_Mo_164 ok d_Mo_readSide_45 h1 h4 ?_
  refine g_lsub ok d_Mo_readSide_48 ?_
  exact g_goto (tgt := 56) ok d_Mo_readSide_49 (by decide) kk
theorem k_Mo_readSide_52 {X : gC} {M : List mC} {k n : Nat} {x0 : Nat} {s0 : Nat} {s1 : Int32} {fs2 : List Value} {f3 : Int64} (ok : gO X c_Mo_readSide "TripleStoreModel" w_Mo_readSide) (h1 : M[x0]? = some (.inr (10, fs2))) (h4 : fs2[16]? = some (.long f3)) (kk : gg X M k n 56 [(0, .ref x0)] [.long f3, .int s1, .ref s0]) : gg X M k n 52 [(0, .ref x0)] [.int s1, .ref s0] := by
  refine g_aload_n ok d_Mo_readSide_52 rfl (j := 0) rfl ?_
  refine gf_Mo_164 ok d_Mo_readSide_53 h1 h4 ?_
  exact kk
theorem k_Mo_readSide_56 {X : gC} {M : List mC} {k n : Nat} {x0 : Nat} {s0 : Nat} {s1 : Int32} {s2 : Int64} {g2 : Nat → Int64} {N3 : Nat} {M5 : List mC} {fs9 : List Value} (ok : gO X c_Mo_readSide "TripleStoreModel" w_Mo_readSide) (h1 : M[s0]? = some (.inl (1, N3, .inr (.inl g2)))) (h4 : vp_in s1 N3) (h6 : M.set s0 (.inl (1, N3, .inr (.inl (vp_updL g2 s1.toNatClampNeg s2)))) = M5) (h8 : M[x0]? = some (.inr (10, fs9))) {rm : Room} {post : Option Value → List mC → Prop} (hm : mm_ (gLa X) y_Mo_isTerm w_Mo_isTerm rm [.ref x0] M5 post) (hR : gF X rm 3 k n) (hlen : ∀ r M', post r M' → M'.length = M5.length) (kk : ∀ r M', post r M' → gg X M' (k + rm.cells) (n + rm.slots) 62 [(0, .ref x0)] (r.toList ++ [.ref x0])) : gg X M k n 56 [(0, .ref x0)] [.long s2, .int s1, .ref s0] := by
  refine g_last (t := 1) ok rfl d_Mo_readSide_56 h1 h4 ?_
  rw [h6]
  have h7 : M5[s0]? = some (.inl (1, N3, .inr (.inl (vp_updL g2 s1.toNatClampNeg s2)))) := by rw [← h6]; exact gs_eq h1
  refine g_aload_n ok d_Mo_readSide_57 rfl (j := 0) rfl ?_
  refine g_aload_n ok d_Mo_readSide_58 rfl (j := 0) rfl ?_
  have h10 : M5[x0]? = some (.inr (10, fs9)) := by rw [← h6]; exact (gs_ne (ne_ao h1 h8)).trans h8
  exact gc_Mo_240 (As := []) (rest := [.ref x0]) ok d_Mo_readSide_59 hm rfl rfl (Nat.le_of_ble_eq_true rfl) hR h10 hlen kk
theorem k_Mo_readSide_62 {X : gC} {M : List mC} {k n : Nat} {x0 : Nat} {s1 : Int32} {fs2 : List Value} (ok : gO X c_Mo_readSide "TripleStoreModel" w_Mo_readSide) (h1 : M[x0]? = some (.inr (10, fs2))) {rm : Room} {post : Option Value → List mC → Prop} (hm : mm_ (gLa X) y_Mo_goOn w_Mo_goOn rm [.ref x0, .int s1] M post) (hR : gF X rm 2 k n) (hlen : ∀ r M', post r M' → M'.length = M.length) (kk : ∀ r M', post r M' → gg X M' (k + rm.cells) (n + rm.slots) 65 [] (r.toList ++ [])) : gg X M k n 62 [(0, .ref x0)] [.int s1, .ref x0] := by
  exact gc_Mo_232 (As := [.int s1]) (rest := []) ok d_Mo_readSide_62 hm rfl rfl (Nat.le_of_ble_eq_true rfl) hR h1 hlen (fun r M' q => (gg_keep [] (kk r M' q)))
theorem k_Mo_readSide_65 {X : gC} {M : List mC} {k n : Nat} {s0 : Int32} (ok : gO X c_Mo_readSide "TripleStoreModel" w_Mo_readSide) (hl : gL X = 3)  (kk : gg X M k n 66 [] []) : gg X M k n 65 [] [.int s0] := by
  refine g_istore_n (L' := [(2, .int s0)]) ok d_Mo_readSide_65 rfl (by rw [hl]; decide) rfl ?_
  exact (gg_keep [] kk)
theorem k_Mo_readSide_66 {X : gC} {M : List mC} {k n : Nat}  (ok : gO X c_Mo_readSide "TripleStoreModel" w_Mo_readSide)  {l9 : Launch} {rm : Room} {M0 : List mC} {post : Option Value → List mC → Prop} (E : gE X l9 y_Mo_readSide rm 3 none M0 post) (hp : post (none) M) (hk : k ≤ rm.cells) (hn : n ≤ rm.slots) : gg X M k n 66 [] [] := by
  exact g_vret ok E d_Mo_readSide_66 hp hk hn
theorem k_Mo_emit_0 {X : gC} {M : List mC} {k n : Nat} {x0 : Nat} {x1 : Int32} {x2 : Int32} {fs2 : List Value} {f3 : Nat} {f5 : Int32} {g8 : Nat → Int32} {N9 : Nat} {M11 : List mC} {f15 : Nat} {g18 : Nat → Int32} {N19 : Nat} {M23 : List mC} {M29 : List mC} (ok : gO X c_Mo_emit "TripleStoreModel" w_Mo_emit) (h1 : M[x0]? = some (.inr (10, fs2))) (h4 : fs2[30]? = some (.ref f3)) (h6 : fs2[32]? = some (.int f5)) (h7 : M[f3]? = some (.inl (0, N9, .inl g8))) (h10 : vp_in f5 N9) (h12 : M.set f3 (.inl (0, N9, .inl (upd g8 f5.toNatClampNeg x1))) = M11) (h16 : fs2[31]? = some (.ref f15)) (h17 : M[f15]? = some (.inl (0, N19, .inl g18))) (h21 : f15 ≠ f3) (h22 : vp_in f5 N19) (h24 : M11.set f15 (.inl (0, N19, .inl (upd g18 f5.toNatClampNeg x2))) = M23) (h28 : 59 ≤ fs2.length) (h30 : M23.set x0 (.inr (10, (fs2.set 32 (.int (f5 + 1))))) = M29) {l9 : Launch} {rm : Room} {M0 : List mC} {post : Option Value → List mC → Prop} (E : gE X l9 y_Mo_emit rm 3 none M0 post) (hp : post (none) M29) (hk : k ≤ rm.cells) (hn : n ≤ rm.slots) : gg X M k n 0 [(0, .ref x0), (1, .int x1), (2, .int x2)] [] := by
  refine g_aload_n ok d_Mo_emit_0 rfl (j := 0) rfl ?_
  refine gf_Mo_43 ok d_Mo_emit_1 h1 h4 ?_
  refine g_aload_n ok d_Mo_emit_4 rfl (j := 0) rfl ?_
  refine gf_Mo_244 ok d_Mo_emit_5 h1 h6 ?_
  refine g_iload_n ok d_Mo_emit_8 rfl (j := 1) rfl ?_
  refine g_iast (t := 0) ok rfl d_Mo_emit_9 h7 h10 ?_
  rw [h12]
  have h13 : M11[f3]? = some (.inl (0, N9, .inl (upd g8 f5.toNatClampNeg x1))) := by rw [← h12]; exact gs_eq h7
  refine g_aload_n ok d_Mo_emit_10 rfl (j := 0) rfl ?_
  have h14 : M11[x0]? = some (.inr (10, fs2)) := by rw [← h12]; exact (gs_ne (ne_ao h7 h1)).trans h1
  refine gf_Mo_46 ok d_Mo_emit_11 h14 h16 ?_
  refine g_aload_n ok d_Mo_emit_14 rfl (j := 0) rfl ?_
  refine gf_Mo_244 ok d_Mo_emit_15 h14 h6 ?_
  refine g_iload_n ok d_Mo_emit_18 rfl (j := 2) rfl ?_
  have h20 : M11[f15]? = some (.inl (0, N19, .inl g18)) := by rw [← h12]; exact (gs_ne (Ne.symm h21)).trans h17
  refine g_iast (t := 0) ok rfl d_Mo_emit_19 h20 h22 ?_
  rw [h24]
  have h25 : M23[f15]? = some (.inl (0, N19, .inl (upd g18 f5.toNatClampNeg x2))) := by rw [← h24]; exact gs_eq h20
  refine g_aload_n ok d_Mo_emit_20 rfl (j := 0) rfl ?_
  refine g_dup ok d_Mo_emit_21 rfl ?_
  have h26 : M23[x0]? = some (.inr (10, fs2)) := by rw [← h24]; exact (gs_ne (ne_ao h20 h14)).trans h14
  refine gf_Mo_244 ok d_Mo_emit_22 h26 h6 ?_
  refine g_iconst (v := 1) ok d_Mo_emit_25 (by decide) ?_
  refine g_iadd ok d_Mo_emit_26 ?_
  have h27 : 32 < (fs2).length := by first | omega | (simp only [List.length_set]; omega)
  refine pf_Mo_244 ok d_Mo_emit_27 h26 h27 (fun _ => ⟨rfl, rfl⟩) ?_
  rw [h30]
  have h31 : M29[x0]? = some (.inr (10, (fs2.set 32 (.int (f5 + 1))))) := by rw [← h30]; exact gs_eq h26
  have h32 := (List.getElem?_set_ne (a := .int (f5 + 1)) (by decide : 32 ≠ 30)).trans h4
  have h33 := (List.getElem?_set_ne (a := .int (f5 + 1)) (by decide : 32 ≠ 31)).trans h16
  have h34 : (fs2.set 32 (.int (f5 + 1)))[32]? = some (.int (f5 + 1)) := List.getElem?_set_self h27
  exact g_vret ok E d_Mo_emit_30 hp hk hn
theorem k_Mo_readTest_0 {X : gC} {M : List mC} {k n : Nat} {x0 : Nat} {fs2 : List Value} {f3 : Int32} {M7 : List mC} {f11 : Nat} {f14 : Nat} {f17 : Int32} {g21 : Nat → Int32} {N22 : Nat} {g26 : Nat → Int32} {N27 : Nat} {M30 : List mC} {f34 : Nat} {g38 : Nat → Int32} {N39 : Nat} {M44 : List mC} (ok : gO X c_Mo_readTest "TripleStoreModel" w_Mo_readTest) (hl : gL X = 3) (h1 : M[x0]? = some (.inr (10, fs2))) (h4 : fs2[39]? = some (.int f3)) (h6 : 59 ≤ fs2.length) (h8 : M.set x0 (.inr (10, (fs2.set 39 (.int (f3 + 1))))) = M7) (h12 : fs2[36]? = some (.ref f11)) (h15 : fs2[29]? = some (.ref f14)) (h18 : fs2[27]? = some (.int f17)) (h20 : M[f14]? = some (.inl (0, N22, .inl g21))) (h24 : vp_in (f17 - 1) N22) (h25 : M[f11]? = some (.inl (0, N27, .inl g26))) (h29 : vp_in f3 N27) (h31 : M7.set f11 (.inl (0, N27, .inl (upd g26 f3.toNatClampNeg (g21 (f17 - 1).toNatClampNeg)))) = M30) (h35 : fs2[38]? = some (.ref f34)) (h37 : M[f34]? = some (.inl (3, N39, .inl g38))) (h42 : f11 ≠ f34) (h43 : vp_in f3 N39) (h45 : M30.set f34 (.inl (3, N39, .inl (upd g38 f3.toNatClampNeg (vp_nar .boolean 0)))) = M44) (kk : gg X M44 k n 41 [(0, .ref x0), (1, .int f3), (2, .int 0)] []) : gg X M k n 0 [(0, .ref x0)] [] := by
  refine g_aload_n ok d_Mo_readTest_0 rfl (j := 0) rfl ?_
  refine gf_Mo_247 ok d_Mo_readTest_1 h1 h4 ?_
  refine g_istore_n (L' := [(0, .ref x0), (1, .int f3)]) ok d_Mo_readTest_4 rfl (by rw [hl]; decide) rfl ?_
  refine g_aload_n ok d_Mo_readTest_5 rfl (j := 0) rfl ?_
  refine g_dup ok d_Mo_readTest_6 rfl ?_
  refine gf_Mo_247 ok d_Mo_readTest_7 h1 h4 ?_
  refine g_iconst (v := 1) ok d_Mo_readTest_10 (by decide) ?_
  refine g_iadd ok d_Mo_readTest_11 ?_
  have h5 : 39 < (fs2).length := by first | omega | (simp only [List.length_set]; omega)
  refine pf_Mo_247 ok d_Mo_readTest_12 h1 h5 (fun _ => ⟨rfl, rfl⟩) ?_
  rw [h8]
  have h9 : M7[x0]? = some (.inr (10, (fs2.set 39 (.int (f3 + 1))))) := by rw [← h8]; exact gs_eq h1
  have h10 : (fs2.set 39 (.int (f3 + 1)))[39]? = some (.int (f3 + 1)) := List.getElem?_set_self h5
  refine g_aload_n ok d_Mo_readTest_15 rfl (j := 0) rfl ?_
  have h13 := (List.getElem?_set_ne (a := .int (f3 + 1)) (by decide : 39 ≠ 36)).trans h12
  refine gf_Mo_55 ok d_Mo_readTest_16 h9 h13 ?_
  refine g_iload_n ok d_Mo_readTest_19 rfl (j := 1) rfl ?_
  refine g_aload_n ok d_Mo_readTest_20 rfl (j := 0) rfl ?_
  have h16 := (List.getElem?_set_ne (a := .int (f3 + 1)) (by decide : 39 ≠ 29)).trans h15
  refine gf_Mo_40 ok d_Mo_readTest_21 h9 h16 ?_
  refine g_aload_n ok d_Mo_readTest_24 rfl (j := 0) rfl ?_
  have h19 := (List.getElem?_set_ne (a := .int (f3 + 1)) (by decide : 39 ≠ 27)).trans h18
  refine gf_Mo_250 ok d_Mo_readTest_25 h9 h19 ?_
  refine g_iconst (v := 1) ok d_Mo_readTest_28 (by decide) ?_
  refine g_isub ok d_Mo_readTest_29 ?_
  have h23 : M7[f14]? = some (.inl (0, N22, .inl g21)) := by rw [← h8]; exact (gs_ne (Ne.symm (ne_ao h20 h1))).trans h20
  refine g_iald (t := 0) ok rfl d_Mo_readTest_30 h23 h24 ?_
  have h28 : M7[f11]? = some (.inl (0, N27, .inl g26)) := by rw [← h8]; exact (gs_ne (Ne.symm (ne_ao h25 h1))).trans h25
  refine g_iast (t := 0) ok rfl d_Mo_readTest_31 h28 h29 ?_
  rw [h31]
  have h32 : M30[f11]? = some (.inl (0, N27, .inl (upd g26 f3.toNatClampNeg (g21 (f17 - 1).toNatClampNeg)))) := by rw [← h31]; exact gs_eq h28
  refine g_aload_n ok d_Mo_readTest_32 rfl (j := 0) rfl ?_
  have h33 : M30[x0]? = some (.inr (10, (fs2.set 39 (.int (f3 + 1))))) := by rw [← h31]; exact (gs_ne (ne_ao h28 h9)).trans h9
  have h36 := (List.getElem?_set_ne (a := .int (f3 + 1)) (by decide : 39 ≠ 38)).trans h35
  refine gf_Mo_61 ok d_Mo_readTest_33 h33 h36 ?_
  refine g_iload_n ok d_Mo_readTest_36 rfl (j := 1) rfl ?_
  refine g_iconst (v := 0) ok d_Mo_readTest_37 (by decide) ?_
  have h40 : M7[f34]? = some (.inl (3, N39, .inl g38)) := by rw [← h8]; exact (gs_ne (Ne.symm (ne_ao h37 h1))).trans h37
  have h41 : M30[f34]? = some (.inl (3, N39, .inl g38)) := by rw [← h31]; exact (gs_ne h42).trans h40
  refine g_zast (t := 3) ok rfl d_Mo_readTest_38 h41 h43 ?_
  rw [h45]
  have h46 : M44[f34]? = some (.inl (3, N39, .inl (upd g38 f3.toNatClampNeg (vp_nar .boolean 0)))) := by rw [← h45]; exact gs_eq h41
  refine g_iconst (v := 0) ok d_Mo_readTest_39 (by decide) ?_
  refine g_istore_n (L' := [(0, .ref x0), (1, .int f3), (2, .int 0)]) ok d_Mo_readTest_40 rfl (by rw [hl]; decide) rfl ?_
  exact kk
theorem k_Mo_readTest_41 {X : gC} {M : List mC} {k n : Nat} {x0 : Nat} {x1 : Int32} {x2 : Int32} {fs2 : List Value} (ok : gO X c_Mo_readTest "TripleStoreModel" w_Mo_readTest) (h1 : M[x0]? = some (.inr (10, fs2))) {rm : Room} {post : Option Value → List mC → Prop} (hm : mm_ (gLa X) y_Mo_isKey w_Mo_isKey rm [.ref x0, .int 9] M post) (hR : gF X rm 4 k n) (hlen : ∀ r M', post r M' → M'.length = M.length) (kk : ∀ r M', post r M' → gg X M' (k + rm.cells) (n + rm.slots) 47 [(0, .ref x0), (1, .int x1), (2, .int x2)] (r.toList ++ [])) : gg X M k n 41 [(0, .ref x0), (1, .int x1), (2, .int x2)] [] := by
  refine g_aload_n ok d_Mo_readTest_41 rfl (j := 0) rfl ?_
  refine g_bipush (v := 9) ok d_Mo_readTest_42 (by decide) ?_
  exact gc_Mo_217 (As := [.int 9]) (rest := []) ok d_Mo_readTest_44 hm rfl rfl (Nat.le_of_ble_eq_true rfl) hR h1 hlen kk
theorem k_Mo_readTest_47 {X : gC} {M : List mC} {k n : Nat} {x0 : Nat} {x1 : Int32} {x2 : Int32} {s0 : Int32} (ok : gO X c_Mo_readTest "TripleStoreModel" w_Mo_readTest)  (kt : s0 = 0 → gg X M k n 101 [(0, .ref x0), (1, .int x1)] []) (kf : ¬ s0 = 0 → gg X M k n 50 [(0, .ref x0), (1, .int x1), (2, .int x2)] []) : gg X M k n 47 [(0, .ref x0), (1, .int x1), (2, .int x2)] [.int s0] := by
  exact g_if_eq (tgt := 101) ok d_Mo_readTest_47 (by decide) (fun z => (gg_keep [0, 1] (kt z))) (fun z => (kf z))
theorem k_Mo_readTest_50 {X : gC} {M : List mC} {k n : Nat} {x0 : Nat} {x1 : Int32} {x2 : Int32} {fs2 : List Value} {f3 : Int32} (ok : gO X c_Mo_readTest "TripleStoreModel" w_Mo_readTest) (h1 : M[x0]? = some (.inr (10, fs2))) (h4 : fs2[20]? = some (.int f3)) (kt : 0 ≤ f3 → gg X M k n 101 [(0, .ref x0), (1, .int x1)] []) (kf : ¬ 0 ≤ f3 → gg X M k n 57 [(0, .ref x0), (1, .int x1), (2, .int x2)] []) : gg X M k n 50 [(0, .ref x0), (1, .int x1), (2, .int x2)] [] := by
  refine g_aload_n ok d_Mo_readTest_50 rfl (j := 0) rfl ?_
  refine gf_Mo_220 ok d_Mo_readTest_51 h1 h4 ?_
  exact g_if_ge (tgt := 101) ok d_Mo_readTest_54 (by decide) (fun z => (gg_keep [0, 1] (kt z))) (fun z => (kf z))
theorem k_Mo_readTest_57 {X : gC} {M : List mC} {k n : Nat} {x0 : Nat} {x1 : Int32} {x2 : Int32} {fs2 : List Value} {f3 : Nat} {g6 : Nat → Int32} {N7 : Nat} (ok : gO X c_Mo_readTest "TripleStoreModel" w_Mo_readTest) (h1 : M[x0]? = some (.inr (10, fs2))) (h4 : fs2[38]? = some (.ref f3)) (h5 : M[f3]? = some (.inl (3, N7, .inl g6))) (h8 : vp_in x1 N7) (kt : ¬ (g6 x1.toNatClampNeg) = 0 → gg X M k n 75 [(0, .ref x0), (1, .int x1), (2, .int x2)] [.int x1, .ref f3]) (kf : (g6 x1.toNatClampNeg) = 0 → gg X M k n 71 [(0, .ref x0), (1, .int x1), (2, .int x2)] [.int x1, .ref f3]) : gg X M k n 57 [(0, .ref x0), (1, .int x1), (2, .int x2)] [] := by
  refine g_aload_n ok d_Mo_readTest_57 rfl (j := 0) rfl ?_
  refine gf_Mo_61 ok d_Mo_readTest_58 h1 h4 ?_
  refine g_iload_n ok d_Mo_readTest_61 rfl (j := 1) rfl ?_
  refine g_aload_n ok d_Mo_readTest_62 rfl (j := 0) rfl ?_
  refine gf_Mo_61 ok d_Mo_readTest_63 h1 h4 ?_
  refine g_iload_n ok d_Mo_readTest_66 rfl (j := 1) rfl ?_
  refine g_zald (t := 3) ok rfl d_Mo_readTest_67 h5 h8 ?_
  exact g_if_ne (tgt := 75) ok d_Mo_readTest_68 (by decide) (fun z => (kt z)) (fun z => (kf z))
theorem k_Mo_readTest_71 {X : gC} {M : List mC} {k n : Nat} {x0 : Nat} {x1 : Int32} {x2 : Int32} {s0 : Nat} {s1 : Int32} (ok : gO X c_Mo_readTest "TripleStoreModel" w_Mo_readTest)  (kk : gg X M k n 76 [(0, .ref x0), (1, .int x1), (2, .int x2)] [.int 1, .int s1, .ref s0]) : gg X M k n 71 [(0, .ref x0), (1, .int x1), (2, .int x2)] [.int s1, .ref s0] := by
  refine g_iconst (v := 1) ok d_Mo_readTest_71 (by decide) ?_
  exact g_goto (tgt := 76) ok d_Mo_readTest_72 (by decide) kk
theorem k_Mo_readTest_75 {X : gC} {M : List mC} {k n : Nat} {x0 : Nat} {x1 : Int32} {x2 : Int32} {s0 : Nat} {s1 : Int32} (ok : gO X c_Mo_readTest "TripleStoreModel" w_Mo_readTest)  (kk : gg X M k n 76 [(0, .ref x0), (1, .int x1), (2, .int x2)] [.int 0, .int s1, .ref s0]) : gg X M k n 75 [(0, .ref x0), (1, .int x1), (2, .int x2)] [.int s1, .ref s0] := by
  refine g_iconst (v := 0) ok d_Mo_readTest_75 (by decide) ?_
  exact kk
theorem k_Mo_readTest_76 {X : gC} {M : List mC} {k n : Nat} {x0 : Nat} {x1 : Int32} {x2 : Int32} {s0 : Nat} {s1 : Int32} {s2 : Int32} {g2 : Nat → Int32} {N3 : Nat} {M5 : List mC} (ok : gO X c_Mo_readTest "TripleStoreModel" w_Mo_readTest) (h1 : M[s0]? = some (.inl (3, N3, .inl g2))) (h4 : vp_in s1 N3) (h6 : M.set s0 (.inl (3, N3, .inl (upd g2 s1.toNatClampNeg (vp_nar .boolean s2)))) = M5) (kt : 4 ≤ x2 → gg X M5 k n 87 [(0, .ref x0), (1, .int x1), (2, .int x2)] [.ref x0]) (kf : ¬ 4 ≤ x2 → gg X M5 k n 83 [(0, .ref x0), (1, .int x1), (2, .int x2)] [.ref x0]) : gg X M k n 76 [(0, .ref x0), (1, .int x1), (2, .int x2)] [.int s2, .int s1, .ref s0] := by
  refine g_zast (t := 3) ok rfl d_Mo_readTest_76 h1 h4 ?_
  rw [h6]
  have h7 : M5[s0]? = some (.inl (3, N3, .inl (upd g2 s1.toNatClampNeg (vp_nar .boolean s2)))) := by rw [← h6]; exact gs_eq h1
  refine g_aload_n ok d_Mo_readTest_77 rfl (j := 0) rfl ?_
  refine g_iload_n ok d_Mo_readTest_78 rfl (j := 2) rfl ?_
  refine g_iconst (v := 4) ok d_Mo_readTest_79 (by decide) ?_
  exact g_icmp_ge (tgt := 87) ok d_Mo_readTest_80 (by decide) (fun z => (kt z)) (fun z => (kf z))
theorem k_Mo_readTest_83 {X : gC} {M : List mC} {k n : Nat} {x0 : Nat} {x1 : Int32} {x2 : Int32} (ok : gO X c_Mo_readTest "TripleStoreModel" w_Mo_readTest)  (kk : gg X M k n 88 [(0, .ref x0), (1, .int x1), (2, .int x2)] [.int 1, .ref x0]) : gg X M k n 83 [(0, .ref x0), (1, .int x1), (2, .int x2)] [.ref x0] := by
  refine g_iconst (v := 1) ok d_Mo_readTest_83 (by decide) ?_
  exact g_goto (tgt := 88) ok d_Mo_readTest_84 (by decide) kk
theorem k_Mo_readTest_87 {X : gC} {M : List mC} {k n : Nat} {x0 : Nat} {x1 : Int32} {x2 : Int32} (ok : gO X c_Mo_readTest "TripleStoreModel" w_Mo_readTest)  (kk : gg X M k n 88 [(0, .ref x0), (1, .int x1), (2, .int x2)] [.int 0, .ref x0]) : gg X M k n 87 [(0, .ref x0), (1, .int x1), (2, .int x2)] [.ref x0] := by
  refine g_iconst (v := 0) ok d_Mo_readTest_87 (by decide) ?_
  exact kk
theorem k_Mo_readTest_88 {X : gC} {M : List mC} {k n : Nat} {x0 : Nat} {x1 : Int32} {x2 : Int32} {s1 : Int32} {fs2 : List Value} (ok : gO X c_Mo_readTest "TripleStoreModel" w_Mo_readTest) (h1 : M[x0]? = some (.inr (10, fs2))) {rm : Room} {post : Option Value → List mC → Prop} (hm : mm_ (gLa X) y_Mo_goOn w_Mo_goOn rm [.ref x0, .int s1] M post) (hR : gF X rm 2 k n) (hlen : ∀ r M', post r M' → M'.length = M.length) (kk : ∀ r M', post r M' → gg X M' (k + rm.cells) (n + rm.slots) 91 [(0, .ref x0), (1, .int x1), (2, .int x2)] (r.toList ++ [])) : gg X M k n 88 [(0, .ref x0), (1, .int x1), (2, .int x2)] [.int s1, .ref x0] := by
  exact gc_Mo_232 (As := [.int s1]) (rest := []) ok d_Mo_readTest_88 hm rfl rfl (Nat.le_of_ble_eq_true rfl) hR h1 hlen kk
theorem k_Mo_readTest_91 {X : gC} {M : List mC} {k n : Nat} {x0 : Nat} {x1 : Int32} {x2 : Int32} {s0 : Int32} (ok : gO X c_Mo_readTest "TripleStoreModel" w_Mo_readTest)  (kt : ¬ s0 = 0 → gg X M k n 95 [(0, .ref x0), (1, .int x1), (2, .int x2)] []) (kf : s0 = 0 → gg X M k n 94 [] []) : gg X M k n 91 [(0, .ref x0), (1, .int x1), (2, .int x2)] [.int s0] := by
  exact g_if_ne (tgt := 95) ok d_Mo_readTest_91 (by decide) (fun z => (kt z)) (fun z => (gg_keep [] (kf z)))
theorem k_Mo_readTest_94 {X : gC} {M : List mC} {k n : Nat}  (ok : gO X c_Mo_readTest "TripleStoreModel" w_Mo_readTest)  {l9 : Launch} {rm : Room} {M0 : List mC} {post : Option Value → List mC → Prop} (E : gE X l9 y_Mo_readTest rm 3 none M0 post) (hp : post (none) M) (hk : k ≤ rm.cells) (hn : n ≤ rm.slots) : gg X M k n 94 [] [] := by
  exact g_vret ok E d_Mo_readTest_94 hp hk hn
theorem k_Mo_readTest_95 {X : gC} {M : List mC} {k n : Nat} {x0 : Nat} {x1 : Int32} {x2 : Int32} (ok : gO X c_Mo_readTest "TripleStoreModel" w_Mo_readTest) (hl : gL X = 3)  (kk : gg X M k n 41 [(0, .ref x0), (1, .int x1), (2, .int (x2 + 1))] []) : gg X M k n 95 [(0, .ref x0), (1, .int x1), (2, .int x2)] [] := by
  refine g_iinc (L' := [(0, .ref x0), (1, .int x1), (2, .int (x2 + 1))]) (v := (x2 + 1)) ok d_Mo_readTest_95 (j := 2) rfl rfl (by rw [hl]; decide) rfl ?_
  exact g_goto (tgt := 41) ok d_Mo_readTest_98 (by decide) kk
theorem k_Mo_readTest_101 {X : gC} {M : List mC} {k n : Nat} {x0 : Nat} {x1 : Int32} {fs2 : List Value} (ok : gO X c_Mo_readTest "TripleStoreModel" w_Mo_readTest) (h1 : M[x0]? = some (.inr (10, fs2))) {rm : Room} {post : Option Value → List mC → Prop} (hm : mm_ (gLa X) y_Mo_isKey w_Mo_isKey rm [.ref x0, .int 10] M post) (hR : gF X rm 4 k n) (hlen : ∀ r M', post r M' → M'.length = M.length) (kk : ∀ r M', post r M' → gg X M' (k + rm.cells) (n + rm.slots) 107 [(0, .ref x0), (1, .int x1)] (r.toList ++ [])) : gg X M k n 101 [(0, .ref x0), (1, .int x1)] [] := by
  refine g_aload_n ok d_Mo_readTest_101 rfl (j := 0) rfl ?_
  refine g_bipush (v := 10) ok d_Mo_readTest_102 (by decide) ?_
  exact gc_Mo_217 (As := [.int 10]) (rest := []) ok d_Mo_readTest_104 hm rfl rfl (Nat.le_of_ble_eq_true rfl) hR h1 hlen kk
theorem k_Mo_readTest_107 {X : gC} {M : List mC} {k n : Nat} {x0 : Nat} {x1 : Int32} {s0 : Int32} (ok : gO X c_Mo_readTest "TripleStoreModel" w_Mo_readTest)  (kt : s0 = 0 → gg X M k n 138 [(0, .ref x0), (1, .int x1)] []) (kf : ¬ s0 = 0 → gg X M k n 110 [(0, .ref x0), (1, .int x1)] []) : gg X M k n 107 [(0, .ref x0), (1, .int x1)] [.int s0] := by
  exact g_if_eq (tgt := 138) ok d_Mo_readTest_107 (by decide) (fun z => (kt z)) (fun z => (kf z))
theorem k_Mo_readTest_110 {X : gC} {M : List mC} {k n : Nat} {x0 : Nat} {x1 : Int32} {fs2 : List Value} (ok : gO X c_Mo_readTest "TripleStoreModel" w_Mo_readTest) (h1 : M[x0]? = some (.inr (10, fs2))) {rm : Room} {post : Option Value → List mC → Prop} (hm : mm_ (gLa X) y_Mo_next w_Mo_next rm [.ref x0] M post) (hR : gF X rm 3 k n) (hlen : ∀ r M', post r M' → M'.length = M.length) (kk : ∀ r M', post r M' → gg X M' (k + rm.cells) (n + rm.slots) 114 [(0, .ref x0), (1, .int x1)] (r.toList ++ [])) : gg X M k n 110 [(0, .ref x0), (1, .int x1)] [] := by
  refine g_aload_n ok d_Mo_readTest_110 rfl (j := 0) rfl ?_
  exact gc_Mo_226 (As := []) (rest := []) ok d_Mo_readTest_111 hm rfl rfl (Nat.le_of_ble_eq_true rfl) hR h1 hlen kk
theorem k_Mo_readTest_114 {X : gC} {M : List mC} {k n : Nat} {x0 : Nat} {x1 : Int32} {fs2 : List Value} {f3 : Nat} {g6 : Nat → Int32} {N7 : Nat} {M9 : List mC} {f13 : Nat} (ok : gO X c_Mo_readTest "TripleStoreModel" w_Mo_readTest) (h1 : M[x0]? = some (.inr (10, fs2))) (h4 : fs2[37]? = some (.ref f3)) (h5 : M[f3]? = some (.inl (0, N7, .inl g6))) (h8 : vp_in x1 N7) (h10 : M.set f3 (.inl (0, N7, .inl (upd g6 x1.toNatClampNeg 98))) = M9) (h14 : fs2[33]? = some (.ref f13)) {rm : Room} {post : Option Value → List mC → Prop} (hm : mm_ (gLa X) y_Mo_readVariable w_Mo_readVariable rm [.ref x0] M9 post) (hR : gF X rm 3 k n) (hlen : ∀ r M', post r M' → M'.length = M9.length) (kk : ∀ r M', post r M' → gg X M' (k + rm.cells) (n + rm.slots) 136 [] (r.toList ++ [.int (60 + (2 * x1)), .ref f13])) : gg X M k n 114 [(0, .ref x0), (1, .int x1)] [] := by
  refine g_aload_n ok d_Mo_readTest_114 rfl (j := 0) rfl ?_
  refine gf_Mo_58 ok d_Mo_readTest_115 h1 h4 ?_
  refine g_iload_n ok d_Mo_readTest_118 rfl (j := 1) rfl ?_
  refine g_bipush (v := 98) ok d_Mo_readTest_119 (by decide) ?_
  refine g_iast (t := 0) ok rfl d_Mo_readTest_121 h5 h8 ?_
  rw [h10]
  have h11 : M9[f3]? = some (.inl (0, N7, .inl (upd g6 x1.toNatClampNeg 98))) := by rw [← h10]; exact gs_eq h5
  refine g_aload_n ok d_Mo_readTest_122 rfl (j := 0) rfl ?_
  have h12 : M9[x0]? = some (.inr (10, fs2)) := by rw [← h10]; exact (gs_ne (ne_ao h5 h1)).trans h1
  refine gf_Mo_49 ok d_Mo_readTest_123 h12 h14 ?_
  refine g_bipush (v := 60) ok d_Mo_readTest_126 (by decide) ?_
  refine g_iconst (v := 2) ok d_Mo_readTest_128 (by decide) ?_
  refine g_iload_n ok d_Mo_readTest_129 rfl (j := 1) rfl ?_
  refine g_imul ok d_Mo_readTest_130 ?_
  refine g_iadd ok d_Mo_readTest_131 ?_
  refine g_aload_n ok d_Mo_readTest_132 rfl (j := 0) rfl ?_
  exact gc_Mo_236 (As := []) (rest := [.int (60 + (2 * x1)), .ref f13]) ok d_Mo_readTest_133 hm rfl rfl (Nat.le_of_ble_eq_true rfl) hR h12 hlen (fun r M' q => (gg_keep [] (kk r M' q)))
theorem k_Mo_readTest_136 {X : gC} {M : List mC} {k n : Nat} {s0 : Nat} {s1 : Int32} {s2 : Int32} {g2 : Nat → Int32} {N3 : Nat} {M5 : List mC} (ok : gO X c_Mo_readTest "TripleStoreModel" w_Mo_readTest) (h1 : M[s0]? = some (.inl (0, N3, .inl g2))) (h4 : vp_in s1 N3) (h6 : M.set s0 (.inl (0, N3, .inl (upd g2 s1.toNatClampNeg s2))) = M5) {l9 : Launch} {rm : Room} {M0 : List mC} {post : Option Value → List mC → Prop} (E : gE X l9 y_Mo_readTest rm 3 none M0 post) (hp : post (none) M5) (hk : k ≤ rm.cells) (hn : n ≤ rm.slots) : gg X M k n 136 [] [.int s2, .int s1, .ref s0] := by
  refine g_iast (t := 0) ok rfl d_Mo_readTest_136 h1 h4 ?_
  rw [h6]
  have h7 : M5[s0]? = some (.inl (0, N3, .inl (upd g2 s1.toNatClampNeg s2))) := by rw [← h6]; exact gs_eq h1
  exact g_vret ok E d_Mo_readTest_137 hp hk hn
theorem k_Mo_readTest_138 {X : gC} {M : List mC} {k n : Nat} {x0 : Nat} {x1 : Int32} {fs2 : List Value} (ok : gO X c_Mo_readTest "TripleStoreModel" w_Mo_readTest) (h1 : M[x0]? = some (.inr (10, fs2))) {rm : Room} {post : Option Value → List mC → Prop} (hm : mm_ (gLa X) y_Mo_readSide w_Mo_readSide rm [.ref x0, .int (60 + (2 * x1))] M post) (hR : gF X rm 3 k n) (hlen : ∀ r M', post r M' → M'.length = M.length) (kk : ∀ r M', post r M' → gg X M' (k + rm.cells) (n + rm.slots) 148 [(0, .ref x0), (1, .int x1)] (r.toList ++ [])) : gg X M k n 138 [(0, .ref x0), (1, .int x1)] [] := by
  refine g_aload_n ok d_Mo_readTest_138 rfl (j := 0) rfl ?_
  refine g_bipush (v := 60) ok d_Mo_readTest_139 (by decide) ?_
  refine g_iconst (v := 2) ok d_Mo_readTest_141 (by decide) ?_
  refine g_iload_n ok d_Mo_readTest_142 rfl (j := 1) rfl ?_
  refine g_imul ok d_Mo_readTest_143 ?_
  refine g_iadd ok d_Mo_readTest_144 ?_
  exact gc_Mo_253 (As := [.int (60 + (2 * x1))]) (rest := []) ok d_Mo_readTest_145 hm rfl rfl (Nat.le_of_ble_eq_true rfl) hR h1 hlen kk
theorem k_Mo_readTest_148 {X : gC} {M : List mC} {k n : Nat} {x0 : Nat} {x1 : Int32} {fs2 : List Value} {f3 : Int32} (ok : gO X c_Mo_readTest "TripleStoreModel" w_Mo_readTest) (h1 : M[x0]? = some (.inr (10, fs2))) (h4 : fs2[20]? = some (.int f3)) (kt : f3 < 0 → gg X M k n 156 [(0, .ref x0), (1, .int x1)] []) (kf : ¬ f3 < 0 → gg X M k n 155 [] []) : gg X M k n 148 [(0, .ref x0), (1, .int x1)] [] := by
  refine g_aload_n ok d_Mo_readTest_148 rfl (j := 0) rfl ?_
  refine gf_Mo_220 ok d_Mo_readTest_149 h1 h4 ?_
  exact g_if_lt (tgt := 156) ok d_Mo_readTest_152 (by decide) (fun z => (kt z)) (fun z => (gg_keep [] (kf z)))
theorem k_Mo_readTest_155 {X : gC} {M : List mC} {k n : Nat}  (ok : gO X c_Mo_readTest "TripleStoreModel" w_Mo_readTest)  {l9 : Launch} {rm : Room} {M0 : List mC} {post : Option Value → List mC → Prop} (E : gE X l9 y_Mo_readTest rm 3 none M0 post) (hp : post (none) M) (hk : k ≤ rm.cells) (hn : n ≤ rm.slots) : gg X M k n 155 [] [] := by
  exact g_vret ok E d_Mo_readTest_155 hp hk hn
theorem k_Mo_readTest_156 {X : gC} {M : List mC} {k n : Nat} {x0 : Nat} {x1 : Int32} {fs2 : List Value} {f3 : Nat} {f5 : Int64} {g8 : Nat → Int32} {N9 : Nat} {M11 : List mC} (ok : gO X c_Mo_readTest "TripleStoreModel" w_Mo_readTest) (h1 : M[x0]? = some (.inr (10, fs2))) (h4 : fs2[37]? = some (.ref f3)) (h6 : fs2[16]? = some (.long f5)) (h7 : M[f3]? = some (.inl (0, N9, .inl g8))) (h10 : vp_in x1 N9) (h12 : M.set f3 (.inl (0, N9, .inl (upd g8 x1.toNatClampNeg ((f5 : Int64).toInt32)))) = M11) {rm : Room} {post : Option Value → List mC → Prop} (hm : mm_ (gLa X) y_Mo_isSign w_Mo_isSign rm [.ref x0, .int 61] M11 post) (hR : gF X rm 2 k n) (hlen : ∀ r M', post r M' → M'.length = M11.length) (kk : ∀ r M', post r M' → gg X M' (k + rm.cells) (n + rm.slots) 174 [(0, .ref x0), (1, .int x1)] (r.toList ++ [.ref x0])) : gg X M k n 156 [(0, .ref x0), (1, .int x1)] [] := by
  refine g_aload_n ok d_Mo_readTest_156 rfl (j := 0) rfl ?_
  refine gf_Mo_58 ok d_Mo_readTest_157 h1 h4 ?_
  refine g_iload_n ok d_Mo_readTest_160 rfl (j := 1) rfl ?_
  refine g_aload_n ok d_Mo_readTest_161 rfl (j := 0) rfl ?_
  refine gf_Mo_164 ok d_Mo_readTest_162 h1 h6 ?_
  refine g_l2i ok d_Mo_readTest_165 ?_
  refine g_iast (t := 0) ok rfl d_Mo_readTest_166 h7 h10 ?_
  rw [h12]
  have h13 : M11[f3]? = some (.inl (0, N9, .inl (upd g8 x1.toNatClampNeg ((f5 : Int64).toInt32)))) := by rw [← h12]; exact gs_eq h7
  refine g_aload_n ok d_Mo_readTest_167 rfl (j := 0) rfl ?_
  refine g_aload_n ok d_Mo_readTest_168 rfl (j := 0) rfl ?_
  refine g_bipush (v := 61) ok d_Mo_readTest_169 (by decide) ?_
  have h14 : M11[x0]? = some (.inr (10, fs2)) := by rw [← h12]; exact (gs_ne (ne_ao h7 h1)).trans h1
  exact gc_Mo_256 (As := [.int 61]) (rest := [.ref x0]) ok d_Mo_readTest_171 hm rfl rfl (Nat.le_of_ble_eq_true rfl) hR h14 hlen kk
theorem k_Mo_readTest_174 {X : gC} {M : List mC} {k n : Nat} {x0 : Nat} {x1 : Int32} {s1 : Int32} (ok : gO X c_Mo_readTest "TripleStoreModel" w_Mo_readTest)  (kt : ¬ s1 = 0 → gg X M k n 204 [(0, .ref x0), (1, .int x1)] [.ref x0]) (kf : s1 = 0 → gg X M k n 177 [(0, .ref x0), (1, .int x1)] [.ref x0]) : gg X M k n 174 [(0, .ref x0), (1, .int x1)] [.int s1, .ref x0] := by
  exact g_if_ne (tgt := 204) ok d_Mo_readTest_174 (by decide) (fun z => (kt z)) (fun z => (kf z))
theorem k_Mo_readTest_177 {X : gC} {M : List mC} {k n : Nat} {x0 : Nat} {x1 : Int32} {fs2 : List Value} (ok : gO X c_Mo_readTest "TripleStoreModel" w_Mo_readTest) (h1 : M[x0]? = some (.inr (10, fs2))) {rm : Room} {post : Option Value → List mC → Prop} (hm : mm_ (gLa X) y_Mo_isSign w_Mo_isSign rm [.ref x0, .int 60] M post) (hR : gF X rm 2 k n) (hlen : ∀ r M', post r M' → M'.length = M.length) (kk : ∀ r M', post r M' → gg X M' (k + rm.cells) (n + rm.slots) 183 [(0, .ref x0), (1, .int x1)] (r.toList ++ [.ref x0])) : gg X M k n 177 [(0, .ref x0), (1, .int x1)] [.ref x0] := by
  refine g_aload_n ok d_Mo_readTest_177 rfl (j := 0) rfl ?_
  refine g_bipush (v := 60) ok d_Mo_readTest_178 (by decide) ?_
  exact gc_Mo_256 (As := [.int 60]) (rest := [.ref x0]) ok d_Mo_readTest_180 hm rfl rfl (Nat.le_of_ble_eq_true rfl) hR h1 hlen kk
theorem k_Mo_readTest_183 {X : gC} {M : List mC} {k n : Nat} {x0 : Nat} {x1 : Int32} {s1 : Int32} (ok : gO X c_Mo_readTest "TripleStoreModel" w_Mo_readTest)  (kt : ¬ s1 = 0 → gg X M k n 204 [(0, .ref x0), (1, .int x1)] [.ref x0]) (kf : s1 = 0 → gg X M k n 186 [(0, .ref x0), (1, .int x1)] [.ref x0]) : gg X M k n 183 [(0, .ref x0), (1, .int x1)] [.int s1, .ref x0] := by
  exact g_if_ne (tgt := 204) ok d_Mo_readTest_183 (by decide) (fun z => (kt z)) (fun z => (kf z))
theorem k_Mo_readTest_186 {X : gC} {M : List mC} {k n : Nat} {x0 : Nat} {x1 : Int32} {fs2 : List Value} (ok : gO X c_Mo_readTest "TripleStoreModel" w_Mo_readTest) (h1 : M[x0]? = some (.inr (10, fs2))) {rm : Room} {post : Option Value → List mC → Prop} (hm : mm_ (gLa X) y_Mo_isSign w_Mo_isSign rm [.ref x0, .int 62] M post) (hR : gF X rm 2 k n) (hlen : ∀ r M', post r M' → M'.length = M.length) (kk : ∀ r M', post r M' → gg X M' (k + rm.cells) (n + rm.slots) 192 [(0, .ref x0), (1, .int x1)] (r.toList ++ [.ref x0])) : gg X M k n 186 [(0, .ref x0), (1, .int x1)] [.ref x0] := by
  refine g_aload_n ok d_Mo_readTest_186 rfl (j := 0) rfl ?_
  refine g_bipush (v := 62) ok d_Mo_readTest_187 (by decide) ?_
  exact gc_Mo_256 (As := [.int 62]) (rest := [.ref x0]) ok d_Mo_readTest_189 hm rfl rfl (Nat.le_of_ble_eq_true rfl) hR h1 hlen kk
theorem k_Mo_readTest_192 {X : gC} {M : List mC} {k n : Nat} {x0 : Nat} {x1 : Int32} {s1 : Int32} (ok : gO X c_Mo_readTest "TripleStoreModel" w_Mo_readTest)  (kt : ¬ s1 = 0 → gg X M k n 204 [(0, .ref x0), (1, .int x1)] [.ref x0]) (kf : s1 = 0 → gg X M k n 195 [(0, .ref x0), (1, .int x1)] [.ref x0]) : gg X M k n 192 [(0, .ref x0), (1, .int x1)] [.int s1, .ref x0] := by
  exact g_if_ne (tgt := 204) ok d_Mo_readTest_192 (by decide) (fun z => (kt z)) (fun z => (kf z))
theorem k_Mo_readTest_195 {X : gC} {M : List mC} {k n : Nat} {x0 : Nat} {x1 : Int32} {fs2 : List Value} (ok : gO X c_Mo_readTest "TripleStoreModel" w_Mo_readTest) (h1 : M[x0]? = some (.inr (10, fs2))) {rm : Room} {post : Option Value → List mC → Prop} (hm : mm_ (gLa X) y_Mo_isSign w_Mo_isSign rm [.ref x0, .int 33] M post) (hR : gF X rm 2 k n) (hlen : ∀ r M', post r M' → M'.length = M.length) (kk : ∀ r M', post r M' → gg X M' (k + rm.cells) (n + rm.slots) 201 [(0, .ref x0), (1, .int x1)] (r.toList ++ [.ref x0])) : gg X M k n 195 [(0, .ref x0), (1, .int x1)] [.ref x0] := by
  refine g_aload_n ok d_Mo_readTest_195 rfl (j := 0) rfl ?_
  refine g_bipush (v := 33) ok d_Mo_readTest_196 (by decide) ?_
  exact gc_Mo_256 (As := [.int 33]) (rest := [.ref x0]) ok d_Mo_readTest_198 hm rfl rfl (Nat.le_of_ble_eq_true rfl) hR h1 hlen kk
theorem k_Mo_readTest_201 {X : gC} {M : List mC} {k n : Nat} {x0 : Nat} {x1 : Int32} {s1 : Int32} (ok : gO X c_Mo_readTest "TripleStoreModel" w_Mo_readTest)  (kt : s1 = 0 → gg X M k n 208 [(0, .ref x0), (1, .int x1)] [.ref x0]) (kf : ¬ s1 = 0 → gg X M k n 204 [(0, .ref x0), (1, .int x1)] [.ref x0]) : gg X M k n 201 [(0, .ref x0), (1, .int x1)] [.int s1, .ref x0] := by
  exact g_if_eq (tgt := 208) ok d_Mo_readTest_201 (by decide) (fun z => (kt z)) (fun z => (kf z))
theorem k_Mo_readTest_204 {X : gC} {M : List mC} {k n : Nat} {x0 : Nat} {x1 : Int32} (ok : gO X c_Mo_readTest "TripleStoreModel" w_Mo_readTest)  (kk : gg X M k n 209 [(0, .ref x0), (1, .int x1)] [.int 1, .ref x0]) : gg X M k n 204 [(0, .ref x0), (1, .int x1)] [.ref x0] := by
  refine g_iconst (v := 1) ok d_Mo_readTest_204 (by decide) ?_
  exact g_goto (tgt := 209) ok d_Mo_readTest_205 (by decide) kk
theorem k_Mo_readTest_208 {X : gC} {M : List mC} {k n : Nat} {x0 : Nat} {x1 : Int32} (ok : gO X c_Mo_readTest "TripleStoreModel" w_Mo_readTest)  (kk : gg X M k n 209 [(0, .ref x0), (1, .int x1)] [.int 0, .ref x0]) : gg X M k n 208 [(0, .ref x0), (1, .int x1)] [.ref x0] := by
  refine g_iconst (v := 0) ok d_Mo_readTest_208 (by decide) ?_
  exact kk
theorem k_Mo_readTest_209 {X : gC} {M : List mC} {k n : Nat} {x0 : Nat} {x1 : Int32} {s1 : Int32} {fs2 : List Value} (ok : gO X c_Mo_readTest "TripleStoreModel" w_Mo_readTest) (h1 : M[x0]? = some (.inr (10, fs2))) {rm : Room} {post : Option Value → List mC → Prop} (hm : mm_ (gLa X) y_Mo_goOn w_Mo_goOn rm [.ref x0, .int s1] M post) (hR : gF X rm 2 k n) (hlen : ∀ r M', post r M' → M'.length = M.length) (kk : ∀ r M', post r M' → gg X M' (k + rm.cells) (n + rm.slots) 212 [(0, .ref x0), (1, .int x1)] (r.toList ++ [])) : gg X M k n 209 [(0, .ref x0), (1, .int x1)] [.int s1, .ref x0] := by
  exact gc_Mo_232 (As := [.int s1]) (rest := []) ok d_Mo_readTest_209 hm rfl rfl (Nat.le_of_ble_eq_true rfl) hR h1 hlen kk
theorem k_Mo_readTest_212 {X : gC} {M : List mC} {k n : Nat} {x0 : Nat} {x1 : Int32} {s0 : Int32} (ok : gO X c_Mo_readTest "TripleStoreModel" w_Mo_readTest)  (kt : ¬ s0 = 0 → gg X M k n 216 [(0, .ref x0), (1, .int x1)] []) (kf : s0 = 0 → gg X M k n 215 [] []) : gg X M k n 212 [(0, .ref x0), (1, .int x1)] [.int s0] := by
  exact g_if_ne (tgt := 216) ok d_Mo_readTest_212 (by decide) (fun z => (kt z)) (fun z => (gg_keep [] (kf z)))
theorem k_Mo_readTest_215 {X : gC} {M : List mC} {k n : Nat}  (ok : gO X c_Mo_readTest "TripleStoreModel" w_Mo_readTest)  {l9 : Launch} {rm : Room} {M0 : List mC} {post : Option Value → List mC → Prop} (E : gE X l9 y_Mo_readTest rm 3 none M0 post) (hp : post (none) M) (hk : k ≤ rm.cells) (hn : n ≤ rm.slots) : gg X M k n 215 [] [] := by
  exact g_vret ok E d_Mo_readTest_215 hp hk hn
theorem k_Mo_readTest_216 {X : gC} {M : List mC} {k n : Nat} {x0 : Nat} {x1 : Int32} {fs2 : List Value} (ok : gO X c_Mo_readTest "TripleStoreModel" w_Mo_readTest) (h1 : M[x0]? = some (.inr (10, fs2))) {rm : Room} {post : Option Value → List mC → Prop} (hm : mm_ (gLa X) y_Mo_readSide w_Mo_readSide rm [.ref x0, .int ((60 + (2 * x1)) + 1)] M post) (hR : gF X rm 3 k n) (hlen : ∀ r M', post r M' → M'.length = M.length) (kk : ∀ r M', post r M' → gg X M' (k + rm.cells) (n + rm.slots) 228 [] (r.toList ++ [])) : gg X M k n 216 [(0, .ref x0), (1, .int x1)] [] := by
  refine g_aload_n ok d_Mo_readTest_216 rfl (j := 0) rfl ?_
  refine g_bipush (v := 60) ok d_Mo_readTest_217 (by decide) ?_
  refine g_iconst (v := 2) ok d_Mo_readTest_219 (by decide) ?_
  refine g_iload_n ok d_Mo_readTest_220 rfl (j := 1) rfl ?_
  refine g_imul ok d_Mo_readTest_221 ?_
  refine g_iadd ok d_Mo_readTest_222 ?_
  refine g_iconst (v := 1) ok d_Mo_readTest_223 (by decide) ?_
  refine g_iadd ok d_Mo_readTest_224 ?_
  exact gc_Mo_253 (As := [.int ((60 + (2 * x1)) + 1)]) (rest := []) ok d_Mo_readTest_225 hm rfl rfl (Nat.le_of_ble_eq_true rfl) hR h1 hlen (fun r M' q => (gg_keep [] (kk r M' q)))
theorem k_Mo_readTest_228 {X : gC} {M : List mC} {k n : Nat}  (ok : gO X c_Mo_readTest "TripleStoreModel" w_Mo_readTest)  {l9 : Launch} {rm : Room} {M0 : List mC} {post : Option Value → List mC → Prop} (E : gE X l9 y_Mo_readTest rm 3 none M0 post) (hp : post (none) M) (hk : k ≤ rm.cells) (hn : n ≤ rm.slots) : gg X M k n 228 [] [] := by
  exact g_vret ok E d_Mo_readTest_228 hp hk hn
theorem k_Mo_readElement_0 {X : gC} {M : List mC} {k n : Nat} {x0 : Nat} {fs2 : List Value} (ok : gO X c_Mo_readElement "TripleStoreModel" w_Mo_readElement) (h1 : M[x0]? = some (.inr (10, fs2))) {rm : Room} {post : Option Value → List mC → Prop} (hm : mm_ (gLa X) y_Mo_isKey w_Mo_isKey rm [.ref x0, .int 5] M post) (hR : gF X rm 4 k n) (hlen : ∀ r M', post r M' → M'.length = M.length) (kk : ∀ r M', post r M' → gg X M' (k + rm.cells) (n + rm.slots) 5 [(0, .ref x0)] (r.toList ++ [])) : gg X M k n 0 [(0, .ref x0)] [] := by
  refine g_aload_n ok d_Mo_readElement_0 rfl (j := 0) rfl ?_
  refine g_iconst (v := 5) ok d_Mo_readElement_1 (by decide) ?_
  exact gc_Mo_217 (As := [.int 5]) (rest := []) ok d_Mo_readElement_2 hm rfl rfl (Nat.le_of_ble_eq_true rfl) hR h1 hlen kk
theorem k_Mo_readElement_5 {X : gC} {M : List mC} {k n : Nat} {x0 : Nat} {s0 : Int32} (ok : gO X c_Mo_readElement "TripleStoreModel" w_Mo_readElement)  (kt : ¬ s0 = 0 → gg X M k n 50 [(0, .ref x0)] []) (kf : s0 = 0 → gg X M k n 8 [(0, .ref x0)] []) : gg X M k n 5 [(0, .ref x0)] [.int s0] := by
  exact g_if_ne (tgt := 50) ok d_Mo_readElement_5 (by decide) (fun z => (kt z)) (fun z => (kf z))
theorem k_Mo_readElement_8 {X : gC} {M : List mC} {k n : Nat} {x0 : Nat} {fs2 : List Value} (ok : gO X c_Mo_readElement "TripleStoreModel" w_Mo_readElement) (h1 : M[x0]? = some (.inr (10, fs2))) {rm : Room} {post : Option Value → List mC → Prop} (hm : mm_ (gLa X) y_Mo_isKey w_Mo_isKey rm [.ref x0, .int 6] M post) (hR : gF X rm 4 k n) (hlen : ∀ r M', post r M' → M'.length = M.length) (kk : ∀ r M', post r M' → gg X M' (k + rm.cells) (n + rm.slots) 14 [(0, .ref x0)] (r.toList ++ [])) : gg X M k n 8 [(0, .ref x0)] [] := by
  refine g_aload_n ok d_Mo_readElement_8 rfl (j := 0) rfl ?_
  refine g_bipush (v := 6) ok d_Mo_readElement_9 (by decide) ?_
  exact gc_Mo_217 (As := [.int 6]) (rest := []) ok d_Mo_readElement_11 hm rfl rfl (Nat.le_of_ble_eq_true rfl) hR h1 hlen kk
theorem k_Mo_readElement_14 {X : gC} {M : List mC} {k n : Nat} {x0 : Nat} {s0 : Int32} (ok : gO X c_Mo_readElement "TripleStoreModel" w_Mo_readElement)  (kt : ¬ s0 = 0 → gg X M k n 50 [(0, .ref x0)] []) (kf : s0 = 0 → gg X M k n 17 [(0, .ref x0)] []) : gg X M k n 14 [(0, .ref x0)] [.int s0] := by
  exact g_if_ne (tgt := 50) ok d_Mo_readElement_14 (by decide) (fun z => (kt z)) (fun z => (kf z))
theorem k_Mo_readElement_17 {X : gC} {M : List mC} {k n : Nat} {x0 : Nat} {fs2 : List Value} (ok : gO X c_Mo_readElement "TripleStoreModel" w_Mo_readElement) (h1 : M[x0]? = some (.inr (10, fs2))) {rm : Room} {post : Option Value → List mC → Prop} (hm : mm_ (gLa X) y_Mo_isKey w_Mo_isKey rm [.ref x0, .int 7] M post) (hR : gF X rm 4 k n) (hlen : ∀ r M', post r M' → M'.length = M.length) (kk : ∀ r M', post r M' → gg X M' (k + rm.cells) (n + rm.slots) 23 [(0, .ref x0)] (r.toList ++ [])) : gg X M k n 17 [(0, .ref x0)] [] := by
  refine g_aload_n ok d_Mo_readElement_17 rfl (j := 0) rfl ?_
  refine g_bipush (v := 7) ok d_Mo_readElement_18 (by decide) ?_
  exact gc_Mo_217 (As := [.int 7]) (rest := []) ok d_Mo_readElement_20 hm rfl rfl (Nat.le_of_ble_eq_true rfl) hR h1 hlen kk
theorem k_Mo_readElement_23 {X : gC} {M : List mC} {k n : Nat} {x0 : Nat} {s0 : Int32} (ok : gO X c_Mo_readElement "TripleStoreModel" w_Mo_readElement)  (kt : ¬ s0 = 0 → gg X M k n 50 [(0, .ref x0)] []) (kf : s0 = 0 → gg X M k n 26 [(0, .ref x0)] []) : gg X M k n 23 [(0, .ref x0)] [.int s0] := by
  exact g_if_ne (tgt := 50) ok d_Mo_readElement_23 (by decide) (fun z => (kt z)) (fun z => (kf z))
theorem k_Mo_readElement_26 {X : gC} {M : List mC} {k n : Nat} {x0 : Nat} {fs2 : List Value} (ok : gO X c_Mo_readElement "TripleStoreModel" w_Mo_readElement) (h1 : M[x0]? = some (.inr (10, fs2))) {rm : Room} {post : Option Value → List mC → Prop} (hm : mm_ (gLa X) y_Mo_isSign w_Mo_isSign rm [.ref x0, .int 123] M post) (hR : gF X rm 2 k n) (hlen : ∀ r M', post r M' → M'.length = M.length) (kk : ∀ r M', post r M' → gg X M' (k + rm.cells) (n + rm.slots) 32 [(0, .ref x0)] (r.toList ++ [])) : gg X M k n 26 [(0, .ref x0)] [] := by
  refine g_aload_n ok d_Mo_readElement_26 rfl (j := 0) rfl ?_
  refine g_bipush (v := 123) ok d_Mo_readElement_27 (by decide) ?_
  exact gc_Mo_256 (As := [.int 123]) (rest := []) ok d_Mo_readElement_29 hm rfl rfl (Nat.le_of_ble_eq_true rfl) hR h1 hlen kk
theorem k_Mo_readElement_32 {X : gC} {M : List mC} {k n : Nat} {x0 : Nat} {s0 : Int32} (ok : gO X c_Mo_readElement "TripleStoreModel" w_Mo_readElement)  (kt : ¬ s0 = 0 → gg X M k n 50 [(0, .ref x0)] []) (kf : s0 = 0 → gg X M k n 35 [(0, .ref x0)] []) : gg X M k n 32 [(0, .ref x0)] [.int s0] := by
  exact g_if_ne (tgt := 50) ok d_Mo_readElement_32 (by decide) (fun z => (kt z)) (fun z => (kf z))
theorem k_Mo_readElement_35 {X : gC} {M : List mC} {k n : Nat} {x0 : Nat} {fs2 : List Value} {f3 : Int32} (ok : gO X c_Mo_readElement "TripleStoreModel" w_Mo_readElement) (h1 : M[x0]? = some (.inr (10, fs2))) (h4 : fs2[15]? = some (.int f3)) (kt : f3 = 3 → gg X M k n 50 [(0, .ref x0)] []) (kf : ¬ f3 = 3 → gg X M k n 43 [(0, .ref x0)] []) : gg X M k n 35 [(0, .ref x0)] [] := by
  refine g_aload_n ok d_Mo_readElement_35 rfl (j := 0) rfl ?_
  refine gf_Mo_181 ok d_Mo_readElement_36 h1 h4 ?_
  refine g_iconst (v := 3) ok d_Mo_readElement_39 (by decide) ?_
  exact g_icmp_eq (tgt := 50) ok d_Mo_readElement_40 (by decide) (fun z => (kt z)) (fun z => (kf z))
theorem k_Mo_readElement_43 {X : gC} {M : List mC} {k n : Nat} {x0 : Nat} {fs2 : List Value} (ok : gO X c_Mo_readElement "TripleStoreModel" w_Mo_readElement) (h1 : M[x0]? = some (.inr (10, fs2))) {rm : Room} {post : Option Value → List mC → Prop} (hm : mm_ (gLa X) y_Mo_isTerm w_Mo_isTerm rm [.ref x0] M post) (hR : gF X rm 3 k n) (hlen : ∀ r M', post r M' → M'.length = M.length) (kk : ∀ r M', post r M' → gg X M' (k + rm.cells) (n + rm.slots) 47 [(0, .ref x0)] (r.toList ++ [])) : gg X M k n 43 [(0, .ref x0)] [] := by
  refine g_aload_n ok d_Mo_readElement_43 rfl (j := 0) rfl ?_
  exact gc_Mo_240 (As := []) (rest := []) ok d_Mo_readElement_44 hm rfl rfl (Nat.le_of_ble_eq_true rfl) hR h1 hlen kk
theorem k_Mo_readElement_47 {X : gC} {M : List mC} {k n : Nat} {x0 : Nat} {s0 : Int32} (ok : gO X c_Mo_readElement "TripleStoreModel" w_Mo_readElement)  (kt : s0 = 0 → gg X M k n 54 [(0, .ref x0)] []) (kf : ¬ s0 = 0 → gg X M k n 50 [(0, .ref x0)] []) : gg X M k n 47 [(0, .ref x0)] [.int s0] := by
  exact g_if_eq (tgt := 54) ok d_Mo_readElement_47 (by decide) (fun z => (kt z)) (fun z => (kf z))
theorem k_Mo_readElement_50 {X : gC} {M : List mC} {k n : Nat} {x0 : Nat} (ok : gO X c_Mo_readElement "TripleStoreModel" w_Mo_readElement)  (kk : gg X M k n 55 [(0, .ref x0)] [.int 1]) : gg X M k n 50 [(0, .ref x0)] [] := by
  refine g_iconst (v := 1) ok d_Mo_readElement_50 (by decide) ?_
  exact g_goto (tgt := 55) ok d_Mo_readElement_51 (by decide) kk
theorem k_Mo_readElement_54 {X : gC} {M : List mC} {k n : Nat} {x0 : Nat} (ok : gO X c_Mo_readElement "TripleStoreModel" w_Mo_readElement)  (kk : gg X M k n 55 [(0, .ref x0)] [.int 0]) : gg X M k n 54 [(0, .ref x0)] [] := by
  refine g_iconst (v := 0) ok d_Mo_readElement_54 (by decide) ?_
  exact kk
theorem k_Mo_readElement_55 {X : gC} {M : List mC} {k n : Nat} {x0 : Nat} {s0 : Int32} (ok : gO X c_Mo_readElement "TripleStoreModel" w_Mo_readElement) (hl : gL X = 4)  (kt : s0 = 0 → gg X M k n 69 [(0, .ref x0)] []) (kf : ¬ s0 = 0 → gg X M k n 60 [(0, .ref x0)] []) : gg X M k n 55 [(0, .ref x0)] [.int s0] := by
  refine g_istore_n (L' := [(0, .ref x0), (1, .int s0)]) ok d_Mo_readElement_55 rfl (by rw [hl]; decide) rfl ?_
  refine g_iload_n ok d_Mo_readElement_56 rfl (j := 1) rfl ?_
  exact g_if_eq (tgt := 69) ok d_Mo_readElement_57 (by decide) (fun z => (gg_keep [0] (kt z))) (fun z => (gg_keep [0] (kf z)))
theorem k_Mo_readElement_60 {X : gC} {M : List mC} {k n : Nat} {x0 : Nat} {fs2 : List Value} {f3 : Int32} (ok : gO X c_Mo_readElement "TripleStoreModel" w_Mo_readElement) (h1 : M[x0]? = some (.inr (10, fs2))) (h4 : fs2[25]? = some (.int f3)) (kt : ¬ f3 = 12 → gg X M k n 74 [(0, .ref x0)] []) (kf : f3 = 12 → gg X M k n 69 [(0, .ref x0)] []) : gg X M k n 60 [(0, .ref x0)] [] := by
  refine g_aload_n ok d_Mo_readElement_60 rfl (j := 0) rfl ?_
  refine gf_Mo_259 ok d_Mo_readElement_61 h1 h4 ?_
  refine g_bipush (v := 12) ok d_Mo_readElement_64 (by decide) ?_
  exact g_icmp_ne (tgt := 74) ok d_Mo_readElement_66 (by decide) (fun z => (kt z)) (fun z => (kf z))
theorem k_Mo_readElement_69 {X : gC} {M : List mC} {k n : Nat} {x0 : Nat} {fs2 : List Value} (ok : gO X c_Mo_readElement "TripleStoreModel" w_Mo_readElement) (h1 : M[x0]? = some (.inr (10, fs2))) {rm : Room} {post : Option Value → List mC → Prop} (hm : mm_ (gLa X) y_Mo_stop w_Mo_stop rm [.ref x0] M post) (hR : gF X rm 1 k n) (hlen : ∀ r M', post r M' → M'.length = M.length) (kk : ∀ r M', post r M' → gg X M' (k + rm.cells) (n + rm.slots) 73 [] (r.toList ++ [])) : gg X M k n 69 [(0, .ref x0)] [] := by
  refine g_aload_n ok d_Mo_readElement_69 rfl (j := 0) rfl ?_
  exact gc_Mo_223 (As := []) (rest := []) ok d_Mo_readElement_70 hm rfl rfl (Nat.le_of_ble_eq_true rfl) hR h1 hlen (fun r M' q => (gg_keep [] (kk r M' q)))
theorem k_Mo_readElement_73 {X : gC} {M : List mC} {k n : Nat}  (ok : gO X c_Mo_readElement "TripleStoreModel" w_Mo_readElement)  {l9 : Launch} {rm : Room} {M0 : List mC} {post : Option Value → List mC → Prop} (E : gE X l9 y_Mo_readElement rm 4 none M0 post) (hp : post (none) M) (hk : k ≤ rm.cells) (hn : n ≤ rm.slots) : gg X M k n 73 [] [] := by
  exact g_vret ok E d_Mo_readElement_73 hp hk hn
theorem k_Mo_readElement_74 {X : gC} {M : List mC} {k n : Nat} {x0 : Nat} {fs2 : List Value} {f3 : Int32} {M7 : List mC} (ok : gO X c_Mo_readElement "TripleStoreModel" w_Mo_readElement) (h1 : M[x0]? = some (.inr (10, fs2))) (h4 : fs2[25]? = some (.int f3)) (h6 : 59 ≤ fs2.length) (h8 : M.set x0 (.inr (10, (fs2.set 25 (.int (f3 + 1))))) = M7) {rm : Room} {post : Option Value → List mC → Prop} (hm : mm_ (gLa X) y_Mo_isKey w_Mo_isKey rm [.ref x0, .int 6] M7 post) (hR : gF X rm 4 k n) (hlen : ∀ r M', post r M' → M'.length = M7.length) (kk : ∀ r M', post r M' → gg X M' (k + rm.cells) (n + rm.slots) 91 [(0, .ref x0)] (r.toList ++ [.ref x0])) : gg X M k n 74 [(0, .ref x0)] [] := by
  refine g_aload_n ok d_Mo_readElement_74 rfl (j := 0) rfl ?_
  refine g_dup ok d_Mo_readElement_75 rfl ?_
  refine gf_Mo_259 ok d_Mo_readElement_76 h1 h4 ?_
  refine g_iconst (v := 1) ok d_Mo_readElement_79 (by decide) ?_
  refine g_iadd ok d_Mo_readElement_80 ?_
  have h5 : 25 < (fs2).length := by first | omega | (simp only [List.length_set]; omega)
  refine pf_Mo_259 ok d_Mo_readElement_81 h1 h5 (fun _ => ⟨rfl, rfl⟩) ?_
  rw [h8]
  have h9 : M7[x0]? = some (.inr (10, (fs2.set 25 (.int (f3 + 1))))) := by rw [← h8]; exact gs_eq h1
  have h10 : (fs2.set 25 (.int (f3 + 1)))[25]? = some (.int (f3 + 1)) := List.getElem?_set_self h5
  refine g_aload_n ok d_Mo_readElement_84 rfl (j := 0) rfl ?_
  refine g_aload_n ok d_Mo_readElement_85 rfl (j := 0) rfl ?_
  refine g_bipush (v := 6) ok d_Mo_readElement_86 (by decide) ?_
  exact gc_Mo_217 (As := [.int 6]) (rest := [.ref x0]) ok d_Mo_readElement_88 hm rfl rfl (Nat.le_of_ble_eq_true rfl) hR h9 hlen kk
theorem k_Mo_readElement_91 {X : gC} {M : List mC} {k n : Nat} {x0 : Nat} {s1 : Int32} (ok : gO X c_Mo_readElement "TripleStoreModel" w_Mo_readElement)  (kt : ¬ s1 = 0 → gg X M k n 112 [(0, .ref x0)] [.ref x0]) (kf : s1 = 0 → gg X M k n 94 [(0, .ref x0)] [.ref x0]) : gg X M k n 91 [(0, .ref x0)] [.int s1, .ref x0] := by
  exact g_if_ne (tgt := 112) ok d_Mo_readElement_91 (by decide) (fun z => (kt z)) (fun z => (kf z))
theorem k_Mo_readElement_94 {X : gC} {M : List mC} {k n : Nat} {x0 : Nat} {fs2 : List Value} (ok : gO X c_Mo_readElement "TripleStoreModel" w_Mo_readElement) (h1 : M[x0]? = some (.inr (10, fs2))) {rm : Room} {post : Option Value → List mC → Prop} (hm : mm_ (gLa X) y_Mo_isKey w_Mo_isKey rm [.ref x0, .int 7] M post) (hR : gF X rm 4 k n) (hlen : ∀ r M', post r M' → M'.length = M.length) (kk : ∀ r M', post r M' → gg X M' (k + rm.cells) (n + rm.slots) 100 [(0, .ref x0)] (r.toList ++ [.ref x0])) : gg X M k n 94 [(0, .ref x0)] [.ref x0] := by
  refine g_aload_n ok d_Mo_readElement_94 rfl (j := 0) rfl ?_
  refine g_bipush (v := 7) ok d_Mo_readElement_95 (by decide) ?_
  exact gc_Mo_217 (As := [.int 7]) (rest := [.ref x0]) ok d_Mo_readElement_97 hm rfl rfl (Nat.le_of_ble_eq_true rfl) hR h1 hlen kk
theorem k_Mo_readElement_100 {X : gC} {M : List mC} {k n : Nat} {x0 : Nat} {s1 : Int32} (ok : gO X c_Mo_readElement "TripleStoreModel" w_Mo_readElement)  (kt : ¬ s1 = 0 → gg X M k n 112 [(0, .ref x0)] [.ref x0]) (kf : s1 = 0 → gg X M k n 103 [(0, .ref x0)] [.ref x0]) : gg X M k n 100 [(0, .ref x0)] [.int s1, .ref x0] := by
  exact g_if_ne (tgt := 112) ok d_Mo_readElement_100 (by decide) (fun z => (kt z)) (fun z => (kf z))
theorem k_Mo_readElement_103 {X : gC} {M : List mC} {k n : Nat} {x0 : Nat} {fs2 : List Value} (ok : gO X c_Mo_readElement "TripleStoreModel" w_Mo_readElement) (h1 : M[x0]? = some (.inr (10, fs2))) {rm : Room} {post : Option Value → List mC → Prop} (hm : mm_ (gLa X) y_Mo_isSign w_Mo_isSign rm [.ref x0, .int 123] M post) (hR : gF X rm 2 k n) (hlen : ∀ r M', post r M' → M'.length = M.length) (kk : ∀ r M', post r M' → gg X M' (k + rm.cells) (n + rm.slots) 109 [(0, .ref x0)] (r.toList ++ [.ref x0])) : gg X M k n 103 [(0, .ref x0)] [.ref x0] := by
  refine g_aload_n ok d_Mo_readElement_103 rfl (j := 0) rfl ?_
  refine g_bipush (v := 123) ok d_Mo_readElement_104 (by decide) ?_
  exact gc_Mo_256 (As := [.int 123]) (rest := [.ref x0]) ok d_Mo_readElement_106 hm rfl rfl (Nat.le_of_ble_eq_true rfl) hR h1 hlen kk
theorem k_Mo_readElement_109 {X : gC} {M : List mC} {k n : Nat} {x0 : Nat} {s1 : Int32} (ok : gO X c_Mo_readElement "TripleStoreModel" w_Mo_readElement)  (kt : s1 = 0 → gg X M k n 116 [(0, .ref x0)] [.ref x0]) (kf : ¬ s1 = 0 → gg X M k n 112 [(0, .ref x0)] [.ref x0]) : gg X M k n 109 [(0, .ref x0)] [.int s1, .ref x0] := by
  exact g_if_eq (tgt := 116) ok d_Mo_readElement_109 (by decide) (fun z => (kt z)) (fun z => (kf z))
theorem k_Mo_readElement_112 {X : gC} {M : List mC} {k n : Nat} {x0 : Nat} (ok : gO X c_Mo_readElement "TripleStoreModel" w_Mo_readElement)  (kk : gg X M k n 117 [(0, .ref x0)] [.int 1, .ref x0]) : gg X M k n 112 [(0, .ref x0)] [.ref x0] := by
  refine g_iconst (v := 1) ok d_Mo_readElement_112 (by decide) ?_
  exact g_goto (tgt := 117) ok d_Mo_readElement_113 (by decide) kk
theorem k_Mo_readElement_116 {X : gC} {M : List mC} {k n : Nat} {x0 : Nat} (ok : gO X c_Mo_readElement "TripleStoreModel" w_Mo_readElement)  (kk : gg X M k n 117 [(0, .ref x0)] [.int 0, .ref x0]) : gg X M k n 116 [(0, .ref x0)] [.ref x0] := by
  refine g_iconst (v := 0) ok d_Mo_readElement_116 (by decide) ?_
  exact kk
theorem k_Mo_readElement_117 {X : gC} {M : List mC} {k n : Nat} {x0 : Nat} {s1 : Int32} {fs2 : List Value} {M6 : List mC} (ok : gO X c_Mo_readElement "TripleStoreModel" w_Mo_readElement) (h1 : M[x0]? = some (.inr (10, fs2))) (h4 : 59 ≤ fs2.length) (h5 : narrow .boolean (.int s1) = .int s1 ∧ fits .boolean (.int s1) = true) (h7 : M.set x0 (.inr (10, (fs2.set 22 (.int s1)))) = M6) {rm : Room} {post : Option Value → List mC → Prop} (hm : mm_ (gLa X) y_Mo_isKey w_Mo_isKey rm [.ref x0, .int 5] M6 post) (hR : gF X rm 4 k n) (hlen : ∀ r M', post r M' → M'.length = M6.length) (kk : ∀ r M', post r M' → gg X M' (k + rm.cells) (n + rm.slots) 125 [(0, .ref x0)] (r.toList ++ [])) : gg X M k n 117 [(0, .ref x0)] [.int s1, .ref x0] := by
  have h3 : 22 < (fs2).length := by first | omega | (simp only [List.length_set]; omega)
  refine pf_Mo_262 ok d_Mo_readElement_117 h1 h3 (fun _ => h5) ?_
  rw [h7]
  have h8 : M6[x0]? = some (.inr (10, (fs2.set 22 (.int s1)))) := by rw [← h7]; exact gs_eq h1
  have h9 : (fs2.set 22 (.int s1))[22]? = some (.int s1) := List.getElem?_set_self h3
  refine g_aload_n ok d_Mo_readElement_120 rfl (j := 0) rfl ?_
  refine g_iconst (v := 5) ok d_Mo_readElement_121 (by decide) ?_
  exact gc_Mo_217 (As := [.int 5]) (rest := []) ok d_Mo_readElement_122 hm rfl rfl (Nat.le_of_ble_eq_true rfl) hR h8 hlen kk
theorem k_Mo_readElement_125 {X : gC} {M : List mC} {k n : Nat} {x0 : Nat} {s0 : Int32} (ok : gO X c_Mo_readElement "TripleStoreModel" w_Mo_readElement)  (kt : s0 = 0 → gg X M k n 139 [(0, .ref x0)] []) (kf : ¬ s0 = 0 → gg X M k n 128 [(0, .ref x0)] []) : gg X M k n 125 [(0, .ref x0)] [.int s0] := by
  exact g_if_eq (tgt := 139) ok d_Mo_readElement_125 (by decide) (fun z => (kt z)) (fun z => (kf z))
theorem k_Mo_readElement_128 {X : gC} {M : List mC} {k n : Nat} {x0 : Nat} {fs2 : List Value} (ok : gO X c_Mo_readElement "TripleStoreModel" w_Mo_readElement) (h1 : M[x0]? = some (.inr (10, fs2))) {rm : Room} {post : Option Value → List mC → Prop} (hm : mm_ (gLa X) y_Mo_next w_Mo_next rm [.ref x0] M post) (hR : gF X rm 3 k n) (hlen : ∀ r M', post r M' → M'.length = M.length) (kk : ∀ r M', post r M' → gg X M' (k + rm.cells) (n + rm.slots) 132 [(0, .ref x0)] (r.toList ++ [])) : gg X M k n 128 [(0, .ref x0)] [] := by
  refine g_aload_n ok d_Mo_readElement_128 rfl (j := 0) rfl ?_
  exact gc_Mo_226 (As := []) (rest := []) ok d_Mo_readElement_129 hm rfl rfl (Nat.le_of_ble_eq_true rfl) hR h1 hlen kk
theorem k_Mo_readElement_132 {X : gC} {M : List mC} {k n : Nat} {x0 : Nat} {fs2 : List Value} (ok : gO X c_Mo_readElement "TripleStoreModel" w_Mo_readElement) (h1 : M[x0]? = some (.inr (10, fs2))) {rm : Room} {post : Option Value → List mC → Prop} (hm : mm_ (gLa X) y_Mo_readTest w_Mo_readTest rm [.ref x0] M post) (hR : gF X rm 3 k n) (hlen : ∀ r M', post r M' → M'.length = M.length) (kk : ∀ r M', post r M' → gg X M' (k + rm.cells) (n + rm.slots) 136 [] (r.toList ++ [])) : gg X M k n 132 [(0, .ref x0)] [] := by
  refine g_aload_n ok d_Mo_readElement_132 rfl (j := 0) rfl ?_
  exact gc_Mo_265 (As := []) (rest := []) ok d_Mo_readElement_133 hm rfl rfl (Nat.le_of_ble_eq_true rfl) hR h1 hlen (fun r M' q => (gg_keep [] (kk r M' q)))
theorem k_Mo_readElement_136 {X : gC} {M : List mC} {k n : Nat}  (ok : gO X c_Mo_readElement "TripleStoreModel" w_Mo_readElement)  (kk : gg X M k n 204 [] []) : gg X M k n 136 [] [] := by
  exact g_goto (tgt := 204) ok d_Mo_readElement_136 (by decide) kk
theorem k_Mo_readElement_139 {X : gC} {M : List mC} {k n : Nat} {x0 : Nat} {fs2 : List Value} {f3 : Int32} (ok : gO X c_Mo_readElement "TripleStoreModel" w_Mo_readElement) (h1 : M[x0]? = some (.inr (10, fs2))) (h4 : fs2[15]? = some (.int f3)) (kt : f3 = 3 → gg X M k n 154 [(0, .ref x0)] []) (kf : ¬ f3 = 3 → gg X M k n 147 [(0, .ref x0)] []) : gg X M k n 139 [(0, .ref x0)] [] := by
  refine g_aload_n ok d_Mo_readElement_139 rfl (j := 0) rfl ?_
  refine gf_Mo_181 ok d_Mo_readElement_140 h1 h4 ?_
  refine g_iconst (v := 3) ok d_Mo_readElement_143 (by decide) ?_
  exact g_icmp_eq (tgt := 154) ok d_Mo_readElement_144 (by decide) (fun z => (kt z)) (fun z => (kf z))
theorem k_Mo_readElement_147 {X : gC} {M : List mC} {k n : Nat} {x0 : Nat} {fs2 : List Value} (ok : gO X c_Mo_readElement "TripleStoreModel" w_Mo_readElement) (h1 : M[x0]? = some (.inr (10, fs2))) {rm : Room} {post : Option Value → List mC → Prop} (hm : mm_ (gLa X) y_Mo_isTerm w_Mo_isTerm rm [.ref x0] M post) (hR : gF X rm 3 k n) (hlen : ∀ r M', post r M' → M'.length = M.length) (kk : ∀ r M', post r M' → gg X M' (k + rm.cells) (n + rm.slots) 151 [(0, .ref x0)] (r.toList ++ [])) : gg X M k n 147 [(0, .ref x0)] [] := by
  refine g_aload_n ok d_Mo_readElement_147 rfl (j := 0) rfl ?_
  exact gc_Mo_240 (As := []) (rest := []) ok d_Mo_readElement_148 hm rfl rfl (Nat.le_of_ble_eq_true rfl) hR h1 hlen kk
theorem k_Mo_readElement_151 {X : gC} {M : List mC} {k n : Nat} {x0 : Nat} {s0 : Int32} (ok : gO X c_Mo_readElement "TripleStoreModel" w_Mo_readElement)  (kt : s0 = 0 → gg X M k n 204 [] []) (kf : ¬ s0 = 0 → gg X M k n 154 [(0, .ref x0)] []) : gg X M k n 151 [(0, .ref x0)] [.int s0] := by
  exact g_if_eq (tgt := 204) ok d_Mo_readElement_151 (by decide) (fun z => (gg_keep [] (kt z))) (fun z => (kf z))
theorem k_Mo_readElement_154 {X : gC} {M : List mC} {k n : Nat} {x0 : Nat} {fs2 : List Value} {f3 : Int32} {M7 : List mC} (ok : gO X c_Mo_readElement "TripleStoreModel" w_Mo_readElement) (hl : gL X = 4) (h1 : M[x0]? = some (.inr (10, fs2))) (h4 : fs2[35]? = some (.int f3)) (h6 : 59 ≤ fs2.length) (h8 : M.set x0 (.inr (10, (fs2.set 35 (.int (f3 + 1))))) = M7) (kk : gg X M7 k n 173 [(0, .ref x0), (2, .int (3 * f3)), (3, .int 0)] []) : gg X M k n 154 [(0, .ref x0)] [] := by
  refine g_iconst (v := 3) ok d_Mo_readElement_154 (by decide) ?_
  refine g_aload_n ok d_Mo_readElement_155 rfl (j := 0) rfl ?_
  refine gf_Mo_268 ok d_Mo_readElement_156 h1 h4 ?_
  refine g_imul ok d_Mo_readElement_159 ?_
  refine g_istore_n (L' := [(0, .ref x0), (2, .int (3 * f3))]) ok d_Mo_readElement_160 rfl (by rw [hl]; decide) rfl ?_
  refine g_aload_n ok d_Mo_readElement_161 rfl (j := 0) rfl ?_
  refine g_dup ok d_Mo_readElement_162 rfl ?_
  refine gf_Mo_268 ok d_Mo_readElement_163 h1 h4 ?_
  refine g_iconst (v := 1) ok d_Mo_readElement_166 (by decide) ?_
  refine g_iadd ok d_Mo_readElement_167 ?_
  have h5 : 35 < (fs2).length := by first | omega | (simp only [List.length_set]; omega)
  refine pf_Mo_268 ok d_Mo_readElement_168 h1 h5 (fun _ => ⟨rfl, rfl⟩) ?_
  rw [h8]
  have h9 : M7[x0]? = some (.inr (10, (fs2.set 35 (.int (f3 + 1))))) := by rw [← h8]; exact gs_eq h1
  have h10 : (fs2.set 35 (.int (f3 + 1)))[35]? = some (.int (f3 + 1)) := List.getElem?_set_self h5
  refine g_iconst (v := 0) ok d_Mo_readElement_171 (by decide) ?_
  refine g_istore_n (L' := [(0, .ref x0), (2, .int (3 * f3)), (3, .int 0)]) ok d_Mo_readElement_172 rfl (by rw [hl]; decide) rfl ?_
  exact kk
theorem k_Mo_readElement_173 {X : gC} {M : List mC} {k n : Nat} {x0 : Nat} {x2 : Int32} {x3 : Int32} (ok : gO X c_Mo_readElement "TripleStoreModel" w_Mo_readElement)  (kt : 3 ≤ x3 → gg X M k n 198 [(0, .ref x0), (2, .int x2)] []) (kf : ¬ 3 ≤ x3 → gg X M k n 178 [(0, .ref x0), (2, .int x2), (3, .int x3)] []) : gg X M k n 173 [(0, .ref x0), (2, .int x2), (3, .int x3)] [] := by
  refine g_iload_n ok d_Mo_readElement_173 rfl (j := 2) rfl ?_
  refine g_iconst (v := 3) ok d_Mo_readElement_174 (by decide) ?_
  exact g_icmp_ge (tgt := 198) ok d_Mo_readElement_175 (by decide) (fun z => (gg_keep [0, 2] (kt z))) (fun z => (kf z))
theorem k_Mo_readElement_178 {X : gC} {M : List mC} {k n : Nat} {x0 : Nat} {x2 : Int32} {x3 : Int32} {fs2 : List Value} {f3 : Int32} (ok : gO X c_Mo_readElement "TripleStoreModel" w_Mo_readElement) (h1 : M[x0]? = some (.inr (10, fs2))) (h4 : fs2[20]? = some (.int f3)) (kt : 0 ≤ f3 → gg X M k n 198 [(0, .ref x0), (2, .int x2)] []) (kf : ¬ 0 ≤ f3 → gg X M k n 185 [(0, .ref x0), (2, .int x2), (3, .int x3)] []) : gg X M k n 178 [(0, .ref x0), (2, .int x2), (3, .int x3)] [] := by
  refine g_aload_n ok d_Mo_readElement_178 rfl (j := 0) rfl ?_
  refine gf_Mo_220 ok d_Mo_readElement_179 h1 h4 ?_
  exact g_if_ge (tgt := 198) ok d_Mo_readElement_182 (by decide) (fun z => (gg_keep [0, 2] (kt z))) (fun z => (kf z))
theorem k_Mo_readElement_185 {X : gC} {M : List mC} {k n : Nat} {x0 : Nat} {x2 : Int32} {x3 : Int32} {fs2 : List Value} (ok : gO X c_Mo_readElement "TripleStoreModel" w_Mo_readElement) (h1 : M[x0]? = some (.inr (10, fs2))) {rm : Room} {post : Option Value → List mC → Prop} (hm : mm_ (gLa X) y_Mo_readSide w_Mo_readSide rm [.ref x0, .int (x2 + x3)] M post) (hR : gF X rm 3 k n) (hlen : ∀ r M', post r M' → M'.length = M.length) (kk : ∀ r M', post r M' → gg X M' (k + rm.cells) (n + rm.slots) 192 [(0, .ref x0), (2, .int x2), (3, .int x3)] (r.toList ++ [])) : gg X M k n 185 [(0, .ref x0), (2, .int x2), (3, .int x3)] [] := by
  refine g_aload_n ok d_Mo_readElement_185 rfl (j := 0) rfl ?_
  refine g_iload_n ok d_Mo_readElement_186 rfl (j := 1) rfl ?_
  refine g_iload_n ok d_Mo_readElement_187 rfl (j := 2) rfl ?_
  refine g_iadd ok d_Mo_readElement_188 ?_
  exact gc_Mo_253 (As := [.int (x2 + x3)]) (rest := []) ok d_Mo_readElement_189 hm rfl rfl (Nat.le_of_ble_eq_true rfl) hR h1 hlen kk
theorem k_Mo_readElement_192 {X : gC} {M : List mC} {k n : Nat} {x0 : Nat} {x2 : Int32} {x3 : Int32} (ok : gO X c_Mo_readElement "TripleStoreModel" w_Mo_readElement) (hl : gL X = 4)  (kk : gg X M k n 173 [(0, .ref x0), (2, .int x2), (3, .int (x3 + 1))] []) : gg X M k n 192 [(0, .ref x0), (2, .int x2), (3, .int x3)] [] := by
  refine g_iinc (L' := [(0, .ref x0), (2, .int x2), (3, .int (x3 + 1))]) (v := (x3 + 1)) ok d_Mo_readElement_192 (j := 2) rfl rfl (by rw [hl]; decide) rfl ?_
  exact g_goto (tgt := 173) ok d_Mo_readElement_195 (by decide) kk
theorem k_Mo_readElement_198 {X : gC} {M : List mC} {k n : Nat} {x0 : Nat} {x2 : Int32} {fs2 : List Value} (ok : gO X c_Mo_readElement "TripleStoreModel" w_Mo_readElement) (h1 : M[x0]? = some (.inr (10, fs2))) {rm : Room} {post : Option Value → List mC → Prop} (hm : mm_ (gLa X) y_Mo_emit w_Mo_emit rm [.ref x0, .int 2, .int x2] M post) (hR : gF X rm 3 k n) (hlen : ∀ r M', post r M' → M'.length = M.length) (kk : ∀ r M', post r M' → gg X M' (k + rm.cells) (n + rm.slots) 204 [] (r.toList ++ [])) : gg X M k n 198 [(0, .ref x0), (2, .int x2)] [] := by
  refine g_aload_n ok d_Mo_readElement_198 rfl (j := 0) rfl ?_
  refine g_iconst (v := 2) ok d_Mo_readElement_199 (by decide) ?_
  refine g_iload_n ok d_Mo_readElement_200 rfl (j := 1) rfl ?_
  exact gc_Mo_271 (As := [.int 2, .int x2]) (rest := []) ok d_Mo_readElement_201 hm rfl rfl (Nat.le_of_ble_eq_true rfl) hR h1 hlen (fun r M' q => (gg_keep [] (kk r M' q)))
theorem k_Mo_readElement_204 {X : gC} {M : List mC} {k n : Nat}  (ok : gO X c_Mo_readElement "TripleStoreModel" w_Mo_readElement)  {l9 : Launch} {rm : Room} {M0 : List mC} {post : Option Value → List mC → Prop} (E : gE X l9 y_Mo_readElement rm 4 none M0 post) (hp : post (none) M) (hk : k ≤ rm.cells) (hn : n ≤ rm.slots) : gg X M k n 204 [] [] := by
  exact g_vret ok E d_Mo_readElement_204 hp hk hn
theorem k_Mo_readOn_0 {X : gC} {M : List mC} {k n : Nat} {x0 : Nat} {fs2 : List Value} (ok : gO X c_Mo_readOn "TripleStoreModel" w_Mo_readOn) (h1 : M[x0]? = some (.inr (10, fs2))) {rm : Room} {post : Option Value → List mC → Prop} (hm : mm_ (gLa X) y_Mo_isKey w_Mo_isKey rm [.ref x0, .int 6] M post) (hR : gF X rm 4 k n) (hlen : ∀ r M', post r M' → M'.length = M.length) (kk : ∀ r M', post r M' → gg X M' (k + rm.cells) (n + rm.slots) 6 [(0, .ref x0)] (r.toList ++ [])) : gg X M k n 0 [(0, .ref x0)] [] := by
  refine g_aload_n ok d_Mo_readOn_0 rfl (j := 0) rfl ?_
  refine g_bipush (v := 6) ok d_Mo_readOn_1 (by decide) ?_
  exact gc_Mo_217 (As := [.int 6]) (rest := []) ok d_Mo_readOn_3 hm rfl rfl (Nat.le_of_ble_eq_true rfl) hR h1 hlen kk
theorem k_Mo_readOn_6 {X : gC} {M : List mC} {k n : Nat} {x0 : Nat} {s0 : Int32} (ok : gO X c_Mo_readOn "TripleStoreModel" w_Mo_readOn)  (kt : ¬ s0 = 0 → gg X M k n 18 [(0, .ref x0)] []) (kf : s0 = 0 → gg X M k n 9 [(0, .ref x0)] []) : gg X M k n 6 [(0, .ref x0)] [.int s0] := by
  exact g_if_ne (tgt := 18) ok d_Mo_readOn_6 (by decide) (fun z => (kt z)) (fun z => (kf z))
theorem k_Mo_readOn_9 {X : gC} {M : List mC} {k n : Nat} {x0 : Nat} {fs2 : List Value} (ok : gO X c_Mo_readOn "TripleStoreModel" w_Mo_readOn) (h1 : M[x0]? = some (.inr (10, fs2))) {rm : Room} {post : Option Value → List mC → Prop} (hm : mm_ (gLa X) y_Mo_isKey w_Mo_isKey rm [.ref x0, .int 7] M post) (hR : gF X rm 4 k n) (hlen : ∀ r M', post r M' → M'.length = M.length) (kk : ∀ r M', post r M' → gg X M' (k + rm.cells) (n + rm.slots) 15 [(0, .ref x0)] (r.toList ++ [])) : gg X M k n 9 [(0, .ref x0)] [] := by
  refine g_aload_n ok d_Mo_readOn_9 rfl (j := 0) rfl ?_
  refine g_bipush (v := 7) ok d_Mo_readOn_10 (by decide) ?_
  exact gc_Mo_217 (As := [.int 7]) (rest := []) ok d_Mo_readOn_12 hm rfl rfl (Nat.le_of_ble_eq_true rfl) hR h1 hlen kk
theorem k_Mo_readOn_15 {X : gC} {M : List mC} {k n : Nat} {x0 : Nat} {s0 : Int32} (ok : gO X c_Mo_readOn "TripleStoreModel" w_Mo_readOn)  (kt : s0 = 0 → gg X M k n 45 [(0, .ref x0)] []) (kf : ¬ s0 = 0 → gg X M k n 18 [(0, .ref x0)] []) : gg X M k n 15 [(0, .ref x0)] [.int s0] := by
  exact g_if_eq (tgt := 45) ok d_Mo_readOn_15 (by decide) (fun z => (kt z)) (fun z => (kf z))
theorem k_Mo_readOn_18 {X : gC} {M : List mC} {k n : Nat} {x0 : Nat} {fs2 : List Value} (ok : gO X c_Mo_readOn "TripleStoreModel" w_Mo_readOn) (h1 : M[x0]? = some (.inr (10, fs2))) {rm : Room} {post : Option Value → List mC → Prop} (hm : mm_ (gLa X) y_Mo_isKey w_Mo_isKey rm [.ref x0, .int 6] M post) (hR : gF X rm 4 k n) (hlen : ∀ r M', post r M' → M'.length = M.length) (kk : ∀ r M', post r M' → gg X M' (k + rm.cells) (n + rm.slots) 24 [(0, .ref x0)] (r.toList ++ [])) : gg X M k n 18 [(0, .ref x0)] [] := by
  refine g_aload_n ok d_Mo_readOn_18 rfl (j := 0) rfl ?_
  refine g_bipush (v := 6) ok d_Mo_readOn_19 (by decide) ?_
  exact gc_Mo_217 (As := [.int 6]) (rest := []) ok d_Mo_readOn_21 hm rfl rfl (Nat.le_of_ble_eq_true rfl) hR h1 hlen kk
theorem k_Mo_readOn_24 {X : gC} {M : List mC} {k n : Nat} {x0 : Nat} {s0 : Int32} (ok : gO X c_Mo_readOn "TripleStoreModel" w_Mo_readOn)  (kt : s0 = 0 → gg X M k n 31 [(0, .ref x0)] []) (kf : ¬ s0 = 0 → gg X M k n 27 [(0, .ref x0)] []) : gg X M k n 24 [(0, .ref x0)] [.int s0] := by
  exact g_if_eq (tgt := 31) ok d_Mo_readOn_24 (by decide) (fun z => (kt z)) (fun z => (kf z))
theorem k_Mo_readOn_27 {X : gC} {M : List mC} {k n : Nat} {x0 : Nat} (ok : gO X c_Mo_readOn "TripleStoreModel" w_Mo_readOn)  (kk : gg X M k n 32 [(0, .ref x0)] [.int 1]) : gg X M k n 27 [(0, .ref x0)] [] := by
  refine g_iconst (v := 1) ok d_Mo_readOn_27 (by decide) ?_
  exact g_goto (tgt := 32) ok d_Mo_readOn_28 (by decide) kk
theorem k_Mo_readOn_31 {X : gC} {M : List mC} {k n : Nat} {x0 : Nat} (ok : gO X c_Mo_readOn "TripleStoreModel" w_Mo_readOn)  (kk : gg X M k n 32 [(0, .ref x0)] [.int 2]) : gg X M k n 31 [(0, .ref x0)] [] := by
  refine g_iconst (v := 2) ok d_Mo_readOn_31 (by decide) ?_
  exact kk
theorem k_Mo_readOn_32 {X : gC} {M : List mC} {k n : Nat} {x0 : Nat} {s0 : Int32} {fs2 : List Value} (ok : gO X c_Mo_readOn "TripleStoreModel" w_Mo_readOn) (hl : gL X = 2) (h1 : M[x0]? = some (.inr (10, fs2))) {rm : Room} {post : Option Value → List mC → Prop} (hm : mm_ (gLa X) y_Mo_next w_Mo_next rm [.ref x0] M post) (hR : gF X rm 3 k n) (hlen : ∀ r M', post r M' → M'.length = M.length) (kk : ∀ r M', post r M' → gg X M' (k + rm.cells) (n + rm.slots) 37 [(0, .ref x0), (1, .int s0)] (r.toList ++ [])) : gg X M k n 32 [(0, .ref x0)] [.int s0] := by
  refine g_istore_n (L' := [(0, .ref x0), (1, .int s0)]) ok d_Mo_readOn_32 rfl (by rw [hl]; decide) rfl ?_
  refine g_aload_n ok d_Mo_readOn_33 rfl (j := 0) rfl ?_
  exact gc_Mo_226 (As := []) (rest := []) ok d_Mo_readOn_34 hm rfl rfl (Nat.le_of_ble_eq_true rfl) hR h1 hlen kk
theorem k_Mo_readOn_37 {X : gC} {M : List mC} {k n : Nat} {x0 : Nat} {x1 : Int32} {fs2 : List Value} (ok : gO X c_Mo_readOn "TripleStoreModel" w_Mo_readOn) (h1 : M[x0]? = some (.inr (10, fs2))) {rm : Room} {post : Option Value → List mC → Prop} (hm : mm_ (gLa X) y_Mo_readStart w_Mo_readStart rm [.ref x0, .int x1] M post) (hR : gF X rm 3 k n) (hlen : ∀ r M', post r M' → M'.length = M.length) (kk : ∀ r M', post r M' → gg X M' (k + rm.cells) (n + rm.slots) 42 [] (r.toList ++ [])) : gg X M k n 37 [(0, .ref x0), (1, .int x1)] [] := by
  refine g_aload_n ok d_Mo_readOn_37 rfl (j := 0) rfl ?_
  refine g_iload_n ok d_Mo_readOn_38 rfl (j := 1) rfl ?_
  exact gc_Mo_275 (As := [.int x1]) (rest := []) ok d_Mo_readOn_39 hm rfl rfl (Nat.le_of_ble_eq_true rfl) hR h1 hlen (fun r M' q => (gg_keep [] (kk r M' q)))
theorem k_Mo_readOn_42 {X : gC} {M : List mC} {k n : Nat}  (ok : gO X c_Mo_readOn "TripleStoreModel" w_Mo_readOn)  (kk : gg X M k n 76 [] []) : gg X M k n 42 [] [] := by
  exact g_goto (tgt := 76) ok d_Mo_readOn_42 (by decide) kk
theorem k_Mo_readOn_45 {X : gC} {M : List mC} {k n : Nat} {x0 : Nat} {fs2 : List Value} (ok : gO X c_Mo_readOn "TripleStoreModel" w_Mo_readOn) (h1 : M[x0]? = some (.inr (10, fs2))) {rm : Room} {post : Option Value → List mC → Prop} (hm : mm_ (gLa X) y_Mo_isSign w_Mo_isSign rm [.ref x0, .int 123] M post) (hR : gF X rm 2 k n) (hlen : ∀ r M', post r M' → M'.length = M.length) (kk : ∀ r M', post r M' → gg X M' (k + rm.cells) (n + rm.slots) 51 [(0, .ref x0)] (r.toList ++ [])) : gg X M k n 45 [(0, .ref x0)] [] := by
  refine g_aload_n ok d_Mo_readOn_45 rfl (j := 0) rfl ?_
  refine g_bipush (v := 123) ok d_Mo_readOn_46 (by decide) ?_
  exact gc_Mo_256 (As := [.int 123]) (rest := []) ok d_Mo_readOn_48 hm rfl rfl (Nat.le_of_ble_eq_true rfl) hR h1 hlen kk
theorem k_Mo_readOn_51 {X : gC} {M : List mC} {k n : Nat} {x0 : Nat} {s0 : Int32} (ok : gO X c_Mo_readOn "TripleStoreModel" w_Mo_readOn)  (kt : s0 = 0 → gg X M k n 76 [] []) (kf : ¬ s0 = 0 → gg X M k n 54 [(0, .ref x0)] []) : gg X M k n 51 [(0, .ref x0)] [.int s0] := by
  exact g_if_eq (tgt := 76) ok d_Mo_readOn_51 (by decide) (fun z => (gg_keep [] (kt z))) (fun z => (kf z))
theorem k_Mo_readOn_54 {X : gC} {M : List mC} {k n : Nat} {x0 : Nat} {fs2 : List Value} (ok : gO X c_Mo_readOn "TripleStoreModel" w_Mo_readOn) (h1 : M[x0]? = some (.inr (10, fs2))) {rm : Room} {post : Option Value → List mC → Prop} (hm : mm_ (gLa X) y_Mo_emit w_Mo_emit rm [.ref x0, .int 6, .int 0] M post) (hR : gF X rm 3 k n) (hlen : ∀ r M', post r M' → M'.length = M.length) (kk : ∀ r M', post r M' → gg X M' (k + rm.cells) (n + rm.slots) 61 [(0, .ref x0)] (r.toList ++ [])) : gg X M k n 54 [(0, .ref x0)] [] := by
  refine g_aload_n ok d_Mo_readOn_54 rfl (j := 0) rfl ?_
  refine g_bipush (v := 6) ok d_Mo_readOn_55 (by decide) ?_
  refine g_iconst (v := 0) ok d_Mo_readOn_57 (by decide) ?_
  exact gc_Mo_271 (As := [.int 6, .int 0]) (rest := []) ok d_Mo_readOn_58 hm rfl rfl (Nat.le_of_ble_eq_true rfl) hR h1 hlen kk
theorem k_Mo_readOn_61 {X : gC} {M : List mC} {k n : Nat} {x0 : Nat} {fs2 : List Value} {f3 : Nat} {f5 : Int32} {g8 : Nat → Int32} {N9 : Nat} {M11 : List mC} (ok : gO X c_Mo_readOn "TripleStoreModel" w_Mo_readOn) (h1 : M[x0]? = some (.inr (10, fs2))) (h4 : fs2[42]? = some (.ref f3)) (h6 : fs2[27]? = some (.int f5)) (h7 : M[f3]? = some (.inl (0, N9, .inl g8))) (h10 : vp_in f5 N9) (h12 : M.set f3 (.inl (0, N9, .inl (upd g8 f5.toNatClampNeg 0))) = M11) {rm : Room} {post : Option Value → List mC → Prop} (hm : mm_ (gLa X) y_Mo_readStart w_Mo_readStart rm [.ref x0, .int 3] M11 post) (hR : gF X rm 3 k n) (hlen : ∀ r M', post r M' → M'.length = M11.length) (kk : ∀ r M', post r M' → gg X M' (k + rm.cells) (n + rm.slots) 76 [] (r.toList ++ [])) : gg X M k n 61 [(0, .ref x0)] [] := by
  refine g_aload_n ok d_Mo_readOn_61 rfl (j := 0) rfl ?_
  refine gf_Mo_67 ok d_Mo_readOn_62 h1 h4 ?_
  refine g_aload_n ok d_Mo_readOn_65 rfl (j := 0) rfl ?_
  refine gf_Mo_250 ok d_Mo_readOn_66 h1 h6 ?_
  refine g_iconst (v := 0) ok d_Mo_readOn_69 (by decide) ?_
  refine g_iast (t := 0) ok rfl d_Mo_readOn_70 h7 h10 ?_
  rw [h12]
  have h13 : M11[f3]? = some (.inl (0, N9, .inl (upd g8 f5.toNatClampNeg 0))) := by rw [← h12]; exact gs_eq h7
  refine g_aload_n ok d_Mo_readOn_71 rfl (j := 0) rfl ?_
  refine g_iconst (v := 3) ok d_Mo_readOn_72 (by decide) ?_
  have h14 : M11[x0]? = some (.inr (10, fs2)) := by rw [← h12]; exact (gs_ne (ne_ao h7 h1)).trans h1
  exact gc_Mo_275 (As := [.int 3]) (rest := []) ok d_Mo_readOn_73 hm rfl rfl (Nat.le_of_ble_eq_true rfl) hR h14 hlen (fun r M' q => (gg_keep [] (kk r M' q)))
theorem k_Mo_readOn_76 {X : gC} {M : List mC} {k n : Nat}  (ok : gO X c_Mo_readOn "TripleStoreModel" w_Mo_readOn)  {l9 : Launch} {rm : Room} {M0 : List mC} {post : Option Value → List mC → Prop} (E : gE X l9 y_Mo_readOn rm 2 none M0 post) (hp : post (none) M) (hk : k ≤ rm.cells) (hn : n ≤ rm.slots) : gg X M k n 76 [] [] := by
  exact g_vret ok E d_Mo_readOn_76 hp hk hn
theorem k_Mo_readStart_0 {X : gC} {M : List mC} {k n : Nat} {x0 : Nat} {x1 : Int32} (ok : gO X c_Mo_readStart "TripleStoreModel" w_Mo_readStart)  (kt : ¬ x1 = 3 → gg X M k n 23 [(0, .ref x0), (1, .int x1)] []) (kf : x1 = 3 → gg X M k n 5 [(0, .ref x0), (1, .int x1)] []) : gg X M k n 0 [(0, .ref x0), (1, .int x1)] [] := by
  refine g_iload_n ok d_Mo_readStart_0 rfl (j := 1) rfl ?_
  refine g_iconst (v := 3) ok d_Mo_readStart_1 (by decide) ?_
  exact g_icmp_ne (tgt := 23) ok d_Mo_readStart_2 (by decide) (fun z => (kt z)) (fun z => (kf z))
theorem k_Mo_readStart_5 {X : gC} {M : List mC} {k n : Nat} {x0 : Nat} {x1 : Int32} {fs2 : List Value} {f3 : Nat} {f5 : Int32} {g8 : Nat → Int32} {N9 : Nat} (ok : gO X c_Mo_readStart "TripleStoreModel" w_Mo_readStart) (h1 : M[x0]? = some (.inr (10, fs2))) (h4 : fs2[42]? = some (.ref f3)) (h6 : fs2[27]? = some (.int f5)) (h7 : M[f3]? = some (.inl (0, N9, .inl g8))) (h10 : vp_in f5 N9) (kt : ¬ (g8 f5.toNatClampNeg) = 12 → gg X M k n 23 [(0, .ref x0), (1, .int x1)] []) (kf : (g8 f5.toNatClampNeg) = 12 → gg X M k n 19 [(0, .ref x0), (1, .int x1)] []) : gg X M k n 5 [(0, .ref x0), (1, .int x1)] [] := by
  refine g_aload_n ok d_Mo_readStart_5 rfl (j := 0) rfl ?_
  refine gf_Mo_67 ok d_Mo_readStart_6 h1 h4 ?_
  refine g_aload_n ok d_Mo_readStart_9 rfl (j := 0) rfl ?_
  refine gf_Mo_250 ok d_Mo_readStart_10 h1 h6 ?_
  refine g_iald (t := 0) ok rfl d_Mo_readStart_13 h7 h10 ?_
  refine g_bipush (v := 12) ok d_Mo_readStart_14 (by decide) ?_
  exact g_icmp_ne (tgt := 23) ok d_Mo_readStart_16 (by decide) (fun z => (kt z)) (fun z => (kf z))
theorem k_Mo_readStart_19 {X : gC} {M : List mC} {k n : Nat} {x0 : Nat} {x1 : Int32} (ok : gO X c_Mo_readStart "TripleStoreModel" w_Mo_readStart)  (kk : gg X M k n 24 [(0, .ref x0), (1, .int x1)] [.int 1]) : gg X M k n 19 [(0, .ref x0), (1, .int x1)] [] := by
  refine g_iconst (v := 1) ok d_Mo_readStart_19 (by decide) ?_
  exact g_goto (tgt := 24) ok d_Mo_readStart_20 (by decide) kk
theorem k_Mo_readStart_23 {X : gC} {M : List mC} {k n : Nat} {x0 : Nat} {x1 : Int32} (ok : gO X c_Mo_readStart "TripleStoreModel" w_Mo_readStart)  (kk : gg X M k n 24 [(0, .ref x0), (1, .int x1)] [.int 0]) : gg X M k n 23 [(0, .ref x0), (1, .int x1)] [] := by
  refine g_iconst (v := 0) ok d_Mo_readStart_23 (by decide) ?_
  exact kk
theorem k_Mo_readStart_24 {X : gC} {M : List mC} {k n : Nat} {x0 : Nat} {x1 : Int32} {s0 : Int32} {fs2 : List Value} (ok : gO X c_Mo_readStart "TripleStoreModel" w_Mo_readStart) (hl : gL X = 3) (h1 : M[x0]? = some (.inr (10, fs2))) {rm : Room} {post : Option Value → List mC → Prop} (hm : mm_ (gLa X) y_Mo_isSign w_Mo_isSign rm [.ref x0, .int 123] M post) (hR : gF X rm 2 k n) (hlen : ∀ r M', post r M' → M'.length = M.length) (kk : ∀ r M', post r M' → gg X M' (k + rm.cells) (n + rm.slots) 32 [(0, .ref x0), (1, .int x1), (2, .int s0)] (r.toList ++ [.ref x0])) : gg X M k n 24 [(0, .ref x0), (1, .int x1)] [.int s0] := by
  refine g_istore_n (L' := [(0, .ref x0), (1, .int x1), (2, .int s0)]) ok d_Mo_readStart_24 rfl (by rw [hl]; decide) rfl ?_
  refine g_aload_n ok d_Mo_readStart_25 rfl (j := 0) rfl ?_
  refine g_aload_n ok d_Mo_readStart_26 rfl (j := 0) rfl ?_
  refine g_bipush (v := 123) ok d_Mo_readStart_27 (by decide) ?_
  exact gc_Mo_256 (As := [.int 123]) (rest := [.ref x0]) ok d_Mo_readStart_29 hm rfl rfl (Nat.le_of_ble_eq_true rfl) hR h1 hlen kk
theorem k_Mo_readStart_32 {X : gC} {M : List mC} {k n : Nat} {x0 : Nat} {x1 : Int32} {x2 : Int32} {s1 : Int32} (ok : gO X c_Mo_readStart "TripleStoreModel" w_Mo_readStart)  (kt : s1 = 0 → gg X M k n 51 [(0, .ref x0), (1, .int x1)] [.ref x0]) (kf : ¬ s1 = 0 → gg X M k n 35 [(0, .ref x0), (1, .int x1), (2, .int x2)] [.ref x0]) : gg X M k n 32 [(0, .ref x0), (1, .int x1), (2, .int x2)] [.int s1, .ref x0] := by
  exact g_if_eq (tgt := 51) ok d_Mo_readStart_32 (by decide) (fun z => (gg_keep [0, 1] (kt z))) (fun z => (kf z))
theorem k_Mo_readStart_35 {X : gC} {M : List mC} {k n : Nat} {x0 : Nat} {x1 : Int32} {x2 : Int32} {fs2 : List Value} {f3 : Int32} (ok : gO X c_Mo_readStart "TripleStoreModel" w_Mo_readStart) (h1 : M[x0]? = some (.inr (10, fs2))) (h4 : fs2[27]? = some (.int f3)) (kt : 4 ≤ f3 → gg X M k n 51 [(0, .ref x0), (1, .int x1)] [.ref x0]) (kf : ¬ 4 ≤ f3 → gg X M k n 43 [(0, .ref x0), (1, .int x1), (2, .int x2)] [.ref x0]) : gg X M k n 35 [(0, .ref x0), (1, .int x1), (2, .int x2)] [.ref x0] := by
  refine g_aload_n ok d_Mo_readStart_35 rfl (j := 0) rfl ?_
  refine gf_Mo_250 ok d_Mo_readStart_36 h1 h4 ?_
  refine g_iconst (v := 4) ok d_Mo_readStart_39 (by decide) ?_
  exact g_icmp_ge (tgt := 51) ok d_Mo_readStart_40 (by decide) (fun z => (gg_keep [0, 1] (kt z))) (fun z => (kf z))
theorem k_Mo_readStart_43 {X : gC} {M : List mC} {k n : Nat} {x0 : Nat} {x1 : Int32} {x2 : Int32} (ok : gO X c_Mo_readStart "TripleStoreModel" w_Mo_readStart)  (kt : ¬ x2 = 0 → gg X M k n 51 [(0, .ref x0), (1, .int x1)] [.ref x0]) (kf : x2 = 0 → gg X M k n 47 [(0, .ref x0), (1, .int x1)] [.ref x0]) : gg X M k n 43 [(0, .ref x0), (1, .int x1), (2, .int x2)] [.ref x0] := by
  refine g_iload_n ok d_Mo_readStart_43 rfl (j := 2) rfl ?_
  exact g_if_ne (tgt := 51) ok d_Mo_readStart_44 (by decide) (fun z => (gg_keep [0, 1] (kt z))) (fun z => (gg_keep [0, 1] (kf z)))
theorem k_Mo_readStart_47 {X : gC} {M : List mC} {k n : Nat} {x0 : Nat} {x1 : Int32} (ok : gO X c_Mo_readStart "TripleStoreModel" w_Mo_readStart)  (kk : gg X M k n 52 [(0, .ref x0), (1, .int x1)] [.int 1, .ref x0]) : gg X M k n 47 [(0, .ref x0), (1, .int x1)] [.ref x0] := by
  refine g_iconst (v := 1) ok d_Mo_readStart_47 (by decide) ?_
  exact g_goto (tgt := 52) ok d_Mo_readStart_48 (by decide) kk
theorem k_Mo_readStart_51 {X : gC} {M : List mC} {k n : Nat} {x0 : Nat} {x1 : Int32} (ok : gO X c_Mo_readStart "TripleStoreModel" w_Mo_readStart)  (kk : gg X M k n 52 [(0, .ref x0), (1, .int x1)] [.int 0, .ref x0]) : gg X M k n 51 [(0, .ref x0), (1, .int x1)] [.ref x0] := by
  refine g_iconst (v := 0) ok d_Mo_readStart_51 (by decide) ?_
  exact kk
theorem k_Mo_readStart_52 {X : gC} {M : List mC} {k n : Nat} {x0 : Nat} {x1 : Int32} {s1 : Int32} {fs2 : List Value} (ok : gO X c_Mo_readStart "TripleStoreModel" w_Mo_readStart) (h1 : M[x0]? = some (.inr (10, fs2))) {rm : Room} {post : Option Value → List mC → Prop} (hm : mm_ (gLa X) y_Mo_goOn w_Mo_goOn rm [.ref x0, .int s1] M post) (hR : gF X rm 2 k n) (hlen : ∀ r M', post r M' → M'.length = M.length) (kk : ∀ r M', post r M' → gg X M' (k + rm.cells) (n + rm.slots) 55 [(0, .ref x0), (1, .int x1)] (r.toList ++ [])) : gg X M k n 52 [(0, .ref x0), (1, .int x1)] [.int s1, .ref x0] := by
  exact gc_Mo_232 (As := [.int s1]) (rest := []) ok d_Mo_readStart_52 hm rfl rfl (Nat.le_of_ble_eq_true rfl) hR h1 hlen kk
theorem k_Mo_readStart_55 {X : gC} {M : List mC} {k n : Nat} {x0 : Nat} {x1 : Int32} {s0 : Int32} (ok : gO X c_Mo_readStart "TripleStoreModel" w_Mo_readStart)  (kt : ¬ s0 = 0 → gg X M k n 59 [(0, .ref x0), (1, .int x1)] []) (kf : s0 = 0 → gg X M k n 58 [] []) : gg X M k n 55 [(0, .ref x0), (1, .int x1)] [.int s0] := by
  exact g_if_ne (tgt := 59) ok d_Mo_readStart_55 (by decide) (fun z => (kt z)) (fun z => (gg_keep [] (kf z)))
theorem k_Mo_readStart_58 {X : gC} {M : List mC} {k n : Nat}  (ok : gO X c_Mo_readStart "TripleStoreModel" w_Mo_readStart)  {l9 : Launch} {rm : Room} {M0 : List mC} {post : Option Value → List mC → Prop} (E : gE X l9 y_Mo_readStart rm 3 none M0 post) (hp : post (none) M) (hk : k ≤ rm.cells) (hn : n ≤ rm.slots) : gg X M k n 58 [] [] := by
  exact g_vret ok E d_Mo_readStart_58 hp hk hn
theorem k_Mo_readStart_59 {X : gC} {M : List mC} {k n : Nat} {x0 : Nat} {x1 : Int32} {fs2 : List Value} {f3 : Nat} {f5 : Int32} {g8 : Nat → Int32} {N9 : Nat} {M12 : List mC} {f16 : Nat} {g19 : Nat → Int32} {N20 : Nat} {M24 : List mC} {f28 : Nat} {f30 : Int32} {g33 : Nat → Int32} {N34 : Nat} {M40 : List mC} {M46 : List mC} {M55 : List mC} (ok : gO X c_Mo_readStart "TripleStoreModel" w_Mo_readStart) (h1 : M[x0]? = some (.inr (10, fs2))) (h4 : fs2[42]? = some (.ref f3)) (h6 : fs2[27]? = some (.int f5)) (h7 : M[f3]? = some (.inl (0, N9, .inl g8))) (h10 : vp_in f5 N9) (h11 : vp_in f5 N9) (h13 : M.set f3 (.inl (0, N9, .inl (upd g8 f5.toNatClampNeg ((g8 f5.toNatClampNeg) + 1)))) = M12) (h17 : fs2[28]? = some (.ref f16)) (h18 : M[f16]? = some (.inl (0, N20, .inl g19))) (h22 : f16 ≠ f3) (h23 : vp_in f5 N20) (h25 : M12.set f16 (.inl (0, N20, .inl (upd g19 f5.toNatClampNeg x1))) = M24) (h29 : fs2[29]? = some (.ref f28)) (h31 : fs2[26]? = some (.int f30)) (h32 : M[f28]? = some (.inl (0, N34, .inl g33))) (h36 : f28 ≠ f3) (h38 : f16 ≠ f28) (h39 : vp_in f5 N34) (h41 : M24.set f28 (.inl (0, N34, .inl (upd g33 f5.toNatClampNeg f30))) = M40) (h45 : 59 ≤ fs2.length) (h47 : M40.set x0 (.inr (10, (fs2.set 26 (.int (f30 + 1))))) = M46) (h56 : M46.set x0 (.inr (10, ((fs2.set 26 (.int (f30 + 1))).set 27 (.int (f5 + 1))))) = M55) {rm : Room} {post : Option Value → List mC → Prop} (hm : mm_ (gLa X) y_Mo_emit w_Mo_emit rm [.ref x0, .int 1, .int 0] M55 post) (hR : gF X rm 3 k n) (hlen : ∀ r M', post r M' → M'.length = M55.length) (kk : ∀ r M', post r M' → gg X M' (k + rm.cells) (n + rm.slots) 121 [(0, .ref x0)] (r.toList ++ [])) : gg X M k n 59 [(0, .ref x0), (1, .int x1)] [] := by
  refine g_aload_n ok d_Mo_readStart_59 rfl (j := 0) rfl ?_
  refine gf_Mo_67 ok d_Mo_readStart_60 h1 h4 ?_
  refine g_aload_n ok d_Mo_readStart_63 rfl (j := 0) rfl ?_
  refine gf_Mo_250 ok d_Mo_readStart_64 h1 h6 ?_
  refine g_dup2_11 ok d_Mo_readStart_67 rfl rfl ?_
  refine g_iald (t := 0) ok rfl d_Mo_readStart_68 h7 h10 ?_
  refine g_iconst (v := 1) ok d_Mo_readStart_69 (by decide) ?_
  refine g_iadd ok d_Mo_readStart_70 ?_
  refine g_iast (t := 0) ok rfl d_Mo_readStart_71 h7 h11 ?_
  rw [h13]
  have h14 : M12[f3]? = some (.inl (0, N9, .inl (upd g8 f5.toNatClampNeg ((g8 f5.toNatClampNeg) + 1)))) := by rw [← h13]; exact gs_eq h7
  refine g_aload_n ok d_Mo_readStart_72 rfl (j := 0) rfl ?_
  have h15 : M12[x0]? = some (.inr (10, fs2)) := by rw [← h13]; exact (gs_ne (ne_ao h7 h1)).trans h1
  refine gf_Mo_37 ok d_Mo_readStart_73 h15 h17 ?_
  refine g_aload_n ok d_Mo_readStart_76 rfl (j := 0) rfl ?_
  refine gf_Mo_250 ok d_Mo_readStart_77 h15 h6 ?_
  refine g_iload_n ok d_Mo_readStart_80 rfl (j := 1) rfl ?_
  have h21 : M12[f16]? = some (.inl (0, N20, .inl g19)) := by rw [← h13]; exact (gs_ne (Ne.symm h22)).trans h18
  refine g_iast (t := 0) ok rfl d_Mo_readStart_81 h21 h23 ?_
  rw [h25]
  have h26 : M24[f16]? = some (.inl (0, N20, .inl (upd g19 f5.toNatClampNeg x1))) := by rw [← h25]; exact gs_eq h21
  refine g_aload_n ok d_Mo_readStart_82 rfl (j := 0) rfl ?_
  have h27 : M24[x0]? = some (.inr (10, fs2)) := by rw [← h25]; exact (gs_ne (ne_ao h21 h15)).trans h15
  refine gf_Mo_40 ok d_Mo_readStart_83 h27 h29 ?_
  refine g_aload_n ok d_Mo_readStart_86 rfl (j := 0) rfl ?_
  refine gf_Mo_250 ok d_Mo_readStart_87 h27 h6 ?_
  refine g_aload_n ok d_Mo_readStart_90 rfl (j := 0) rfl ?_
  refine gf_Mo_278 ok d_Mo_readStart_91 h27 h31 ?_
  have h35 : M12[f28]? = some (.inl (0, N34, .inl g33)) := by rw [← h13]; exact (gs_ne (Ne.symm h36)).trans h32
  have h37 : M24[f28]? = some (.inl (0, N34, .inl g33)) := by rw [← h25]; exact (gs_ne h38).trans h35
  refine g_iast (t := 0) ok rfl d_Mo_readStart_94 h37 h39 ?_
  rw [h41]
  have h42 : M40[f28]? = some (.inl (0, N34, .inl (upd g33 f5.toNatClampNeg f30))) := by rw [← h41]; exact gs_eq h37
  refine g_aload_n ok d_Mo_readStart_95 rfl (j := 0) rfl ?_
  refine g_dup ok d_Mo_readStart_96 rfl ?_
  have h43 : M40[x0]? = some (.inr (10, fs2)) := by rw [← h41]; exact (gs_ne (ne_ao h37 h27)).trans h27
  refine gf_Mo_278 ok d_Mo_readStart_97 h43 h31 ?_
  refine g_iconst (v := 1) ok d_Mo_readStart_100 (by decide) ?_
  refine g_iadd ok d_Mo_readStart_101 ?_
  have h44 : 26 < (fs2).length := by first | omega | (simp only [List.length_set]; omega)
  refine pf_Mo_278 ok d_Mo_readStart_102 h43 h44 (fun _ => ⟨rfl, rfl⟩) ?_
  rw [h47]
  have h48 : M46[x0]? = some (.inr (10, (fs2.set 26 (.int (f30 + 1))))) := by rw [← h47]; exact gs_eq h43
  have h49 := (List.getElem?_set_ne (a := .int (f30 + 1)) (by decide : 26 ≠ 42)).trans h4
  have h50 := (List.getElem?_set_ne (a := .int (f30 + 1)) (by decide : 26 ≠ 27)).trans h6
  have h51 := (List.getElem?_set_ne (a := .int (f30 + 1)) (by decide : 26 ≠ 28)).trans h17
  have h52 := (List.getElem?_set_ne (a := .int (f30 + 1)) (by decide : 26 ≠ 29)).trans h29
  have h53 : (fs2.set 26 (.int (f30 + 1)))[26]? = some (.int (f30 + 1)) := List.getElem?_set_self h44
  refine g_aload_n ok d_Mo_readStart_105 rfl (j := 0) rfl ?_
  refine g_dup ok d_Mo_readStart_106 rfl ?_
  refine gf_Mo_250 ok d_Mo_readStart_107 h48 h50 ?_
  refine g_iconst (v := 1) ok d_Mo_readStart_110 (by decide) ?_
  refine g_iadd ok d_Mo_readStart_111 ?_
  have h54 : 27 < ((fs2.set 26 (.int (f30 + 1)))).length := by first | omega | (simp only [List.length_set]; omega)
  refine pf_Mo_250 ok d_Mo_readStart_112 h48 h54 (fun _ => ⟨rfl, rfl⟩) ?_
  rw [h56]
  have h57 : M55[x0]? = some (.inr (10, ((fs2.set 26 (.int (f30 + 1))).set 27 (.int (f5 + 1))))) := by rw [← h56]; exact gs_eq h48
  have h58 := (List.getElem?_set_ne (a := .int (f5 + 1)) (by decide : 27 ≠ 42)).trans h49
  have h59 := (List.getElem?_set_ne (a := .int (f5 + 1)) (by decide : 27 ≠ 28)).trans h51
  have h60 := (List.getElem?_set_ne (a := .int (f5 + 1)) (by decide : 27 ≠ 29)).trans h52
  have h61 := (List.getElem?_set_ne (a := .int (f5 + 1)) (by decide : 27 ≠ 26)).trans h53
  have h62 : ((fs2.set 26 (.int (f30 + 1))).set 27 (.int (f5 + 1)))[27]? = some (.int (f5 + 1)) := List.getElem?_set_self h54
  refine g_aload_n ok d_Mo_readStart_115 rfl (j := 0) rfl ?_
  refine g_iconst (v := 1) ok d_Mo_readStart_116 (by decide) ?_
  refine g_iconst (v := 0) ok d_Mo_readStart_117 (by decide) ?_
  exact gc_Mo_271 (As := [.int 1, .int 0]) (rest := []) ok d_Mo_readStart_118 hm rfl rfl (Nat.le_of_ble_eq_true rfl) hR h57 hlen (fun r M' q => (gg_keep [0] (kk r M' q)))
theorem k_Mo_readStart_121 {X : gC} {M : List mC} {k n : Nat} {x0 : Nat} {fs2 : List Value} {M5 : List mC} (ok : gO X c_Mo_readStart "TripleStoreModel" w_Mo_readStart) (h1 : M[x0]? = some (.inr (10, fs2))) (h4 : 59 ≤ fs2.length) (h6 : M.set x0 (.inr (10, (fs2.set 21 (.int 1)))) = M5) {l9 : Launch} {rm : Room} {M0 : List mC} {post : Option Value → List mC → Prop} (E : gE X l9 y_Mo_readStart rm 3 none M0 post) (hp : post (none) M5) (hk : k ≤ rm.cells) (hn : n ≤ rm.slots) : gg X M k n 121 [(0, .ref x0)] [] := by
  refine g_aload_n ok d_Mo_readStart_121 rfl (j := 0) rfl ?_
  refine g_iconst (v := 1) ok d_Mo_readStart_122 (by decide) ?_
  have h3 : 21 < (fs2).length := by first | omega | (simp only [List.length_set]; omega)
  refine pf_Mo_281 ok d_Mo_readStart_123 h1 h3 (fun _ => ⟨rfl, rfl⟩) ?_
  rw [h6]
  have h7 : M5[x0]? = some (.inr (10, (fs2.set 21 (.int 1)))) := by rw [← h6]; exact gs_eq h1
  have h8 : (fs2.set 21 (.int 1))[21]? = some (.int 1) := List.getElem?_set_self h3
  exact g_vret ok E d_Mo_readStart_126 hp hk hn
theorem k_Mo_readClose_0 {X : gC} {M : List mC} {k n : Nat} {x0 : Nat} {fs2 : List Value} (ok : gO X c_Mo_readClose "TripleStoreModel" w_Mo_readClose) (h1 : M[x0]? = some (.inr (10, fs2))) {rm : Room} {post : Option Value → List mC → Prop} (hm : mm_ (gLa X) y_Mo_next w_Mo_next rm [.ref x0] M post) (hR : gF X rm 3 k n) (hlen : ∀ r M', post r M' → M'.length = M.length) (kk : ∀ r M', post r M' → gg X M' (k + rm.cells) (n + rm.slots) 4 [(0, .ref x0)] (r.toList ++ [])) : gg X M k n 0 [(0, .ref x0)] [] := by
  refine g_aload_n ok d_Mo_readClose_0 rfl (j := 0) rfl ?_
  exact gc_Mo_226 (As := []) (rest := []) ok d_Mo_readClose_1 hm rfl rfl (Nat.le_of_ble_eq_true rfl) hR h1 hlen kk
theorem k_Mo_readClose_4 {X : gC} {M : List mC} {k n : Nat} {x0 : Nat} {fs2 : List Value} {f3 : Int32} {M7 : List mC} {f11 : Nat} {g15 : Nat → Int32} {N16 : Nat} (ok : gO X c_Mo_readClose "TripleStoreModel" w_Mo_readClose) (h1 : M[x0]? = some (.inr (10, fs2))) (h4 : fs2[27]? = some (.int f3)) (h6 : 59 ≤ fs2.length) (h8 : M.set x0 (.inr (10, (fs2.set 27 (.int (f3 - 1))))) = M7) (h12 : fs2[29]? = some (.ref f11)) (h14 : M[f11]? = some (.inl (0, N16, .inl g15))) (h18 : vp_in (f3 - 1) N16) {rm : Room} {post : Option Value → List mC → Prop} (hm : mm_ (gLa X) y_Mo_emit w_Mo_emit rm [.ref x0, .int 3, .int (g15 (f3 - 1).toNatClampNeg)] M7 post) (hR : gF X rm 3 k n) (hlen : ∀ r M', post r M' → M'.length = M7.length) (kk : ∀ r M', post r M' → gg X M' (k + rm.cells) (n + rm.slots) 28 [(0, .ref x0)] (r.toList ++ [])) : gg X M k n 4 [(0, .ref x0)] [] := by
  refine g_aload_n ok d_Mo_readClose_4 rfl (j := 0) rfl ?_
  refine g_dup ok d_Mo_readClose_5 rfl ?_
  refine gf_Mo_250 ok d_Mo_readClose_6 h1 h4 ?_
  refine g_iconst (v := 1) ok d_Mo_readClose_9 (by decide) ?_
  refine g_isub ok d_Mo_readClose_10 ?_
  have h5 : 27 < (fs2).length := by first | omega | (simp only [List.length_set]; omega)
  refine pf_Mo_250 ok d_Mo_readClose_11 h1 h5 (fun _ => ⟨rfl, rfl⟩) ?_
  rw [h8]
  have h9 : M7[x0]? = some (.inr (10, (fs2.set 27 (.int (f3 - 1))))) := by rw [← h8]; exact gs_eq h1
  have h10 : (fs2.set 27 (.int (f3 - 1)))[27]? = some (.int (f3 - 1)) := List.getElem?_set_self h5
  refine g_aload_n ok d_Mo_readClose_14 rfl (j := 0) rfl ?_
  refine g_iconst (v := 3) ok d_Mo_readClose_15 (by decide) ?_
  refine g_aload_n ok d_Mo_readClose_16 rfl (j := 0) rfl ?_
  have h13 := (List.getElem?_set_ne (a := .int (f3 - 1)) (by decide : 27 ≠ 29)).trans h12
  refine gf_Mo_40 ok d_Mo_readClose_17 h9 h13 ?_
  refine g_aload_n ok d_Mo_readClose_20 rfl (j := 0) rfl ?_
  refine gf_Mo_250 ok d_Mo_readClose_21 h9 h10 ?_
  have h17 : M7[f11]? = some (.inl (0, N16, .inl g15)) := by rw [← h8]; exact (gs_ne (Ne.symm (ne_ao h14 h1))).trans h14
  refine g_iald (t := 0) ok rfl d_Mo_readClose_24 h17 h18 ?_
  exact gc_Mo_271 (As := [.int 3, .int (g15 (f3 - 1).toNatClampNeg)]) (rest := []) ok d_Mo_readClose_25 hm rfl rfl (Nat.le_of_ble_eq_true rfl) hR h9 hlen kk
theorem k_Mo_readClose_28 {X : gC} {M : List mC} {k n : Nat} {x0 : Nat} {fs2 : List Value} {f3 : Nat} {f5 : Int32} {g8 : Nat → Int32} {N9 : Nat} (ok : gO X c_Mo_readClose "TripleStoreModel" w_Mo_readClose) (hl : gL X = 2) (h1 : M[x0]? = some (.inr (10, fs2))) (h4 : fs2[28]? = some (.ref f3)) (h6 : fs2[27]? = some (.int f5)) (h7 : M[f3]? = some (.inl (0, N9, .inl g8))) (h10 : vp_in f5 N9) (kt : ¬ (g8 f5.toNatClampNeg) = 1 → gg X M k n 52 [(0, .ref x0), (1, .int (g8 f5.toNatClampNeg))] []) (kf : (g8 f5.toNatClampNeg) = 1 → gg X M k n 43 [(0, .ref x0)] []) : gg X M k n 28 [(0, .ref x0)] [] := by
  refine g_aload_n ok d_Mo_readClose_28 rfl (j := 0) rfl ?_
  refine gf_Mo_37 ok d_Mo_readClose_29 h1 h4 ?_
  refine g_aload_n ok d_Mo_readClose_32 rfl (j := 0) rfl ?_
  refine gf_Mo_250 ok d_Mo_readClose_33 h1 h6 ?_
  refine g_iald (t := 0) ok rfl d_Mo_readClose_36 h7 h10 ?_
  refine g_istore_n (L' := [(0, .ref x0), (1, .int (g8 f5.toNatClampNeg))]) ok d_Mo_readClose_37 rfl (by rw [hl]; decide) rfl ?_
  refine g_iload_n ok d_Mo_readClose_38 rfl (j := 1) rfl ?_
  refine g_iconst (v := 1) ok d_Mo_readClose_39 (by decide) ?_
  exact g_icmp_ne (tgt := 52) ok d_Mo_readClose_40 (by decide) (fun z => (kt z)) (fun z => (gg_keep [0] (kf z)))
theorem k_Mo_readClose_43 {X : gC} {M : List mC} {k n : Nat} {x0 : Nat} {fs2 : List Value} (ok : gO X c_Mo_readClose "TripleStoreModel" w_Mo_readClose) (h1 : M[x0]? = some (.inr (10, fs2))) {rm : Room} {post : Option Value → List mC → Prop} (hm : mm_ (gLa X) y_Mo_emit w_Mo_emit rm [.ref x0, .int 4, .int 0] M post) (hR : gF X rm 3 k n) (hlen : ∀ r M', post r M' → M'.length = M.length) (kk : ∀ r M', post r M' → gg X M' (k + rm.cells) (n + rm.slots) 49 [] (r.toList ++ [])) : gg X M k n 43 [(0, .ref x0)] [] := by
  refine g_aload_n ok d_Mo_readClose_43 rfl (j := 0) rfl ?_
  refine g_iconst (v := 4) ok d_Mo_readClose_44 (by decide) ?_
  refine g_iconst (v := 0) ok d_Mo_readClose_45 (by decide) ?_
  exact gc_Mo_271 (As := [.int 4, .int 0]) (rest := []) ok d_Mo_readClose_46 hm rfl rfl (Nat.le_of_ble_eq_true rfl) hR h1 hlen (fun r M' q => (gg_keep [] (kk r M' q)))
theorem k_Mo_readClose_49 {X : gC} {M : List mC} {k n : Nat}  (ok : gO X c_Mo_readClose "TripleStoreModel" w_Mo_readClose)  (kk : gg X M k n 106 [] []) : gg X M k n 49 [] [] := by
  exact g_goto (tgt := 106) ok d_Mo_readClose_49 (by decide) kk
theorem k_Mo_readClose_52 {X : gC} {M : List mC} {k n : Nat} {x0 : Nat} {x1 : Int32} (ok : gO X c_Mo_readClose "TripleStoreModel" w_Mo_readClose)  (kt : ¬ x1 = 2 → gg X M k n 66 [(0, .ref x0), (1, .int x1)] []) (kf : x1 = 2 → gg X M k n 57 [(0, .ref x0)] []) : gg X M k n 52 [(0, .ref x0), (1, .int x1)] [] := by
  refine g_iload_n ok d_Mo_readClose_52 rfl (j := 1) rfl ?_
  refine g_iconst (v := 2) ok d_Mo_readClose_53 (by decide) ?_
  exact g_icmp_ne (tgt := 66) ok d_Mo_readClose_54 (by decide) (fun z => (kt z)) (fun z => (gg_keep [0] (kf z)))
theorem k_Mo_readClose_57 {X : gC} {M : List mC} {k n : Nat} {x0 : Nat} {fs2 : List Value} (ok : gO X c_Mo_readClose "TripleStoreModel" w_Mo_readClose) (h1 : M[x0]? = some (.inr (10, fs2))) {rm : Room} {post : Option Value → List mC → Prop} (hm : mm_ (gLa X) y_Mo_emit w_Mo_emit rm [.ref x0, .int 5, .int 0] M post) (hR : gF X rm 3 k n) (hlen : ∀ r M', post r M' → M'.length = M.length) (kk : ∀ r M', post r M' → gg X M' (k + rm.cells) (n + rm.slots) 63 [] (r.toList ++ [])) : gg X M k n 57 [(0, .ref x0)] [] := by
  refine g_aload_n ok d_Mo_readClose_57 rfl (j := 0) rfl ?_
  refine g_iconst (v := 5) ok d_Mo_readClose_58 (by decide) ?_
  refine g_iconst (v := 0) ok d_Mo_readClose_59 (by decide) ?_
  exact gc_Mo_271 (As := [.int 5, .int 0]) (rest := []) ok d_Mo_readClose_60 hm rfl rfl (Nat.le_of_ble_eq_true rfl) hR h1 hlen (fun r M' q => (gg_keep [] (kk r M' q)))
theorem k_Mo_readClose_63 {X : gC} {M : List mC} {k n : Nat}  (ok : gO X c_Mo_readClose "TripleStoreModel" w_Mo_readClose)  (kk : gg X M k n 106 [] []) : gg X M k n 63 [] [] := by
  exact g_goto (tgt := 106) ok d_Mo_readClose_63 (by decide) kk
theorem k_Mo_readClose_66 {X : gC} {M : List mC} {k n : Nat} {x0 : Nat} {x1 : Int32} (ok : gO X c_Mo_readClose "TripleStoreModel" w_Mo_readClose)  (kt : ¬ x1 = 3 → gg X M k n 106 [] []) (kf : x1 = 3 → gg X M k n 71 [(0, .ref x0)] []) : gg X M k n 66 [(0, .ref x0), (1, .int x1)] [] := by
  refine g_iload_n ok d_Mo_readClose_66 rfl (j := 1) rfl ?_
  refine g_iconst (v := 3) ok d_Mo_readClose_67 (by decide) ?_
  exact g_icmp_ne (tgt := 106) ok d_Mo_readClose_68 (by decide) (fun z => (gg_keep [] (kt z))) (fun z => (gg_keep [0] (kf z)))
theorem k_Mo_readClose_71 {X : gC} {M : List mC} {k n : Nat} {x0 : Nat} {fs2 : List Value} (ok : gO X c_Mo_readClose "TripleStoreModel" w_Mo_readClose) (h1 : M[x0]? = some (.inr (10, fs2))) {rm : Room} {post : Option Value → List mC → Prop} (hm : mm_ (gLa X) y_Mo_emit w_Mo_emit rm [.ref x0, .int 7, .int 0] M post) (hR : gF X rm 3 k n) (hlen : ∀ r M', post r M' → M'.length = M.length) (kk : ∀ r M', post r M' → gg X M' (k + rm.cells) (n + rm.slots) 78 [(0, .ref x0)] (r.toList ++ [])) : gg X M k n 71 [(0, .ref x0)] [] := by
  refine g_aload_n ok d_Mo_readClose_71 rfl (j := 0) rfl ?_
  refine g_bipush (v := 7) ok d_Mo_readClose_72 (by decide) ?_
  refine g_iconst (v := 0) ok d_Mo_readClose_74 (by decide) ?_
  exact gc_Mo_271 (As := [.int 7, .int 0]) (rest := []) ok d_Mo_readClose_75 hm rfl rfl (Nat.le_of_ble_eq_true rfl) hR h1 hlen kk
theorem k_Mo_readClose_78 {X : gC} {M : List mC} {k n : Nat} {x0 : Nat} {fs2 : List Value} (ok : gO X c_Mo_readClose "TripleStoreModel" w_Mo_readClose) (h1 : M[x0]? = some (.inr (10, fs2))) {rm : Room} {post : Option Value → List mC → Prop} (hm : mm_ (gLa X) y_Mo_isKey w_Mo_isKey rm [.ref x0, .int 8] M post) (hR : gF X rm 4 k n) (hlen : ∀ r M', post r M' → M'.length = M.length) (kk : ∀ r M', post r M' → gg X M' (k + rm.cells) (n + rm.slots) 84 [(0, .ref x0)] (r.toList ++ [])) : gg X M k n 78 [(0, .ref x0)] [] := by
  refine g_aload_n ok d_Mo_readClose_78 rfl (j := 0) rfl ?_
  refine g_bipush (v := 8) ok d_Mo_readClose_79 (by decide) ?_
  exact gc_Mo_217 (As := [.int 8]) (rest := []) ok d_Mo_readClose_81 hm rfl rfl (Nat.le_of_ble_eq_true rfl) hR h1 hlen kk
theorem k_Mo_readClose_84 {X : gC} {M : List mC} {k n : Nat} {x0 : Nat} {s0 : Int32} (ok : gO X c_Mo_readClose "TripleStoreModel" w_Mo_readClose)  (kt : s0 = 0 → gg X M k n 99 [(0, .ref x0)] []) (kf : ¬ s0 = 0 → gg X M k n 87 [(0, .ref x0)] []) : gg X M k n 84 [(0, .ref x0)] [.int s0] := by
  exact g_if_eq (tgt := 99) ok d_Mo_readClose_84 (by decide) (fun z => (kt z)) (fun z => (kf z))
theorem k_Mo_readClose_87 {X : gC} {M : List mC} {k n : Nat} {x0 : Nat} {fs2 : List Value} (ok : gO X c_Mo_readClose "TripleStoreModel" w_Mo_readClose) (h1 : M[x0]? = some (.inr (10, fs2))) {rm : Room} {post : Option Value → List mC → Prop} (hm : mm_ (gLa X) y_Mo_next w_Mo_next rm [.ref x0] M post) (hR : gF X rm 3 k n) (hlen : ∀ r M', post r M' → M'.length = M.length) (kk : ∀ r M', post r M' → gg X M' (k + rm.cells) (n + rm.slots) 91 [(0, .ref x0)] (r.toList ++ [])) : gg X M k n 87 [(0, .ref x0)] [] := by
  refine g_aload_n ok d_Mo_readClose_87 rfl (j := 0) rfl ?_
  exact gc_Mo_226 (As := []) (rest := []) ok d_Mo_readClose_88 hm rfl rfl (Nat.le_of_ble_eq_true rfl) hR h1 hlen kk
theorem k_Mo_readClose_91 {X : gC} {M : List mC} {k n : Nat} {x0 : Nat} {fs2 : List Value} (ok : gO X c_Mo_readClose "TripleStoreModel" w_Mo_readClose) (h1 : M[x0]? = some (.inr (10, fs2))) {rm : Room} {post : Option Value → List mC → Prop} (hm : mm_ (gLa X) y_Mo_readStart w_Mo_readStart rm [.ref x0, .int 3] M post) (hR : gF X rm 3 k n) (hlen : ∀ r M', post r M' → M'.length = M.length) (kk : ∀ r M', post r M' → gg X M' (k + rm.cells) (n + rm.slots) 96 [] (r.toList ++ [])) : gg X M k n 91 [(0, .ref x0)] [] := by
  refine g_aload_n ok d_Mo_readClose_91 rfl (j := 0) rfl ?_
  refine g_iconst (v := 3) ok d_Mo_readClose_92 (by decide) ?_
  exact gc_Mo_275 (As := [.int 3]) (rest := []) ok d_Mo_readClose_93 hm rfl rfl (Nat.le_of_ble_eq_true rfl) hR h1 hlen (fun r M' q => (gg_keep [] (kk r M' q)))
theorem k_Mo_readClose_96 {X : gC} {M : List mC} {k n : Nat}  (ok : gO X c_Mo_readClose "TripleStoreModel" w_Mo_readClose)  (kk : gg X M k n 106 [] []) : gg X M k n 96 [] [] := by
  exact g_goto (tgt := 106) ok d_Mo_readClose_96 (by decide) kk
theorem k_Mo_readClose_99 {X : gC} {M : List mC} {k n : Nat} {x0 : Nat} {fs2 : List Value} (ok : gO X c_Mo_readClose "TripleStoreModel" w_Mo_readClose) (h1 : M[x0]? = some (.inr (10, fs2))) {rm : Room} {post : Option Value → List mC → Prop} (hm : mm_ (gLa X) y_Mo_emit w_Mo_emit rm [.ref x0, .int 8, .int 0] M post) (hR : gF X rm 3 k n) (hlen : ∀ r M', post r M' → M'.length = M.length) (kk : ∀ r M', post r M' → gg X M' (k + rm.cells) (n + rm.slots) 106 [] (r.toList ++ [])) : gg X M k n 99 [(0, .ref x0)] [] := by
  refine g_aload_n ok d_Mo_readClose_99 rfl (j := 0) rfl ?_
  refine g_bipush (v := 8) ok d_Mo_readClose_100 (by decide) ?_
  refine g_iconst (v := 0) ok d_Mo_readClose_102 (by decide) ?_
  exact gc_Mo_271 (As := [.int 8, .int 0]) (rest := []) ok d_Mo_readClose_103 hm rfl rfl (Nat.le_of_ble_eq_true rfl) hR h1 hlen (fun r M' q => (gg_keep [] (kk r M' q)))
theorem k_Mo_readClose_106 {X : gC} {M : List mC} {k n : Nat}  (ok : gO X c_Mo_readClose "TripleStoreModel" w_Mo_readClose)  {l9 : Launch} {rm : Room} {M0 : List mC} {post : Option Value → List mC → Prop} (E : gE X l9 y_Mo_readClose rm 2 none M0 post) (hp : post (none) M) (hk : k ≤ rm.cells) (hn : n ≤ rm.slots) : gg X M k n 106 [] [] := by
  exact g_vret ok E d_Mo_readClose_106 hp hk hn
theorem k_Mo_readGroups_0 {X : gC} {M : List mC} {k n : Nat} {x0 : Nat} {fs2 : List Value} (ok : gO X c_Mo_readGroups "TripleStoreModel" w_Mo_readGroups) (h1 : M[x0]? = some (.inr (10, fs2))) {rm : Room} {post : Option Value → List mC → Prop} (hm : mm_ (gLa X) y_Mo_readStart w_Mo_readStart rm [.ref x0, .int 0] M post) (hR : gF X rm 3 k n) (hlen : ∀ r M', post r M' → M'.length = M.length) (kk : ∀ r M', post r M' → gg X M' (k + rm.cells) (n + rm.slots) 5 [(0, .ref x0)] (r.toList ++ [])) : gg X M k n 0 [(0, .ref x0)] [] := by
  refine g_aload_n ok d_Mo_readGroups_0 rfl (j := 0) rfl ?_
  refine g_iconst (v := 0) ok d_Mo_readGroups_1 (by decide) ?_
  exact gc_Mo_275 (As := [.int 0]) (rest := []) ok d_Mo_readGroups_2 hm rfl rfl (Nat.le_of_ble_eq_true rfl) hR h1 hlen kk
theorem k_Mo_readGroups_5 {X : gC} {M : List mC} {k n : Nat} {x0 : Nat} {fs2 : List Value} {f3 : Int32} (ok : gO X c_Mo_readGroups "TripleStoreModel" w_Mo_readGroups) (h1 : M[x0]? = some (.inr (10, fs2))) (h4 : fs2[20]? = some (.int f3)) (kt : 0 ≤ f3 → gg X M k n 125 [] []) (kf : ¬ 0 ≤ f3 → gg X M k n 12 [(0, .ref x0)] []) : gg X M k n 5 [(0, .ref x0)] [] := by
  refine g_aload_n ok d_Mo_readGroups_5 rfl (j := 0) rfl ?_
  refine gf_Mo_220 ok d_Mo_readGroups_6 h1 h4 ?_
  exact g_if_ge (tgt := 125) ok d_Mo_readGroups_9 (by decide) (fun z => (gg_keep [] (kt z))) (fun z => (kf z))
theorem k_Mo_readGroups_12 {X : gC} {M : List mC} {k n : Nat} {x0 : Nat} {fs2 : List Value} {f3 : Int32} (ok : gO X c_Mo_readGroups "TripleStoreModel" w_Mo_readGroups) (h1 : M[x0]? = some (.inr (10, fs2))) (h4 : fs2[27]? = some (.int f3)) (kt : f3 ≤ 0 → gg X M k n 125 [] []) (kf : ¬ f3 ≤ 0 → gg X M k n 19 [(0, .ref x0)] []) : gg X M k n 12 [(0, .ref x0)] [] := by
  refine g_aload_n ok d_Mo_readGroups_12 rfl (j := 0) rfl ?_
  refine gf_Mo_250 ok d_Mo_readGroups_13 h1 h4 ?_
  exact g_if_le (tgt := 125) ok d_Mo_readGroups_16 (by decide) (fun z => (gg_keep [] (kt z))) (fun z => (kf z))
theorem k_Mo_readGroups_19 {X : gC} {M : List mC} {k n : Nat} {x0 : Nat} {fs2 : List Value} {f3 : Int32} (ok : gO X c_Mo_readGroups "TripleStoreModel" w_Mo_readGroups) (h1 : M[x0]? = some (.inr (10, fs2))) (h4 : fs2[21]? = some (.int f3)) (kt : f3 = 0 → gg X M k n 65 [(0, .ref x0)] []) (kf : ¬ f3 = 0 → gg X M k n 26 [(0, .ref x0)] []) : gg X M k n 19 [(0, .ref x0)] [] := by
  refine g_aload_n ok d_Mo_readGroups_19 rfl (j := 0) rfl ?_
  refine gf_Mo_281 ok d_Mo_readGroups_20 h1 h4 ?_
  exact g_if_eq (tgt := 65) ok d_Mo_readGroups_23 (by decide) (fun z => (kt z)) (fun z => (kf z))
theorem k_Mo_readGroups_26 {X : gC} {M : List mC} {k n : Nat} {x0 : Nat} {fs2 : List Value} (ok : gO X c_Mo_readGroups "TripleStoreModel" w_Mo_readGroups) (h1 : M[x0]? = some (.inr (10, fs2))) {rm : Room} {post : Option Value → List mC → Prop} (hm : mm_ (gLa X) y_Mo_isSign w_Mo_isSign rm [.ref x0, .int 125] M post) (hR : gF X rm 2 k n) (hlen : ∀ r M', post r M' → M'.length = M.length) (kk : ∀ r M', post r M' → gg X M' (k + rm.cells) (n + rm.slots) 32 [(0, .ref x0)] (r.toList ++ [])) : gg X M k n 26 [(0, .ref x0)] [] := by
  refine g_aload_n ok d_Mo_readGroups_26 rfl (j := 0) rfl ?_
  refine g_bipush (v := 125) ok d_Mo_readGroups_27 (by decide) ?_
  exact gc_Mo_256 (As := [.int 125]) (rest := []) ok d_Mo_readGroups_29 hm rfl rfl (Nat.le_of_ble_eq_true rfl) hR h1 hlen kk
theorem k_Mo_readGroups_32 {X : gC} {M : List mC} {k n : Nat} {x0 : Nat} {s0 : Int32} (ok : gO X c_Mo_readGroups "TripleStoreModel" w_Mo_readGroups)  (kt : ¬ s0 = 0 → gg X M k n 65 [(0, .ref x0)] []) (kf : s0 = 0 → gg X M k n 35 [(0, .ref x0)] []) : gg X M k n 32 [(0, .ref x0)] [.int s0] := by
  exact g_if_ne (tgt := 65) ok d_Mo_readGroups_32 (by decide) (fun z => (kt z)) (fun z => (kf z))
theorem k_Mo_readGroups_35 {X : gC} {M : List mC} {k n : Nat} {x0 : Nat} {fs2 : List Value} {M5 : List mC} (ok : gO X c_Mo_readGroups "TripleStoreModel" w_Mo_readGroups) (h1 : M[x0]? = some (.inr (10, fs2))) (h4 : 59 ≤ fs2.length) (h6 : M.set x0 (.inr (10, (fs2.set 21 (.int 0)))) = M5) {rm : Room} {post : Option Value → List mC → Prop} (hm : mm_ (gLa X) y_Mo_readElement w_Mo_readElement rm [.ref x0] M5 post) (hR : gF X rm 4 k n) (hlen : ∀ r M', post r M' → M'.length = M5.length) (kk : ∀ r M', post r M' → gg X M' (k + rm.cells) (n + rm.slots) 44 [(0, .ref x0)] (r.toList ++ [])) : gg X M k n 35 [(0, .ref x0)] [] := by
  refine g_aload_n ok d_Mo_readGroups_35 rfl (j := 0) rfl ?_
  refine g_iconst (v := 0) ok d_Mo_readGroups_36 (by decide) ?_
  have h3 : 21 < (fs2).length := by first | omega | (simp only [List.length_set]; omega)
  refine pf_Mo_281 ok d_Mo_readGroups_37 h1 h3 (fun _ => ⟨rfl, rfl⟩) ?_
  rw [h6]
  have h7 : M5[x0]? = some (.inr (10, (fs2.set 21 (.int 0)))) := by rw [← h6]; exact gs_eq h1
  have h8 : (fs2.set 21 (.int 0))[21]? = some (.int 0) := List.getElem?_set_self h3
  refine g_aload_n ok d_Mo_readGroups_40 rfl (j := 0) rfl ?_
  exact gc_Mo_284 (As := []) (rest := []) ok d_Mo_readGroups_41 hm rfl rfl (Nat.le_of_ble_eq_true rfl) hR h7 hlen kk
theorem k_Mo_readGroups_44 {X : gC} {M : List mC} {k n : Nat} {x0 : Nat} {fs2 : List Value} {f3 : Int32} (ok : gO X c_Mo_readGroups "TripleStoreModel" w_Mo_readGroups) (h1 : M[x0]? = some (.inr (10, fs2))) (h4 : fs2[20]? = some (.int f3)) (kt : 0 ≤ f3 → gg X M k n 5 [(0, .ref x0)] []) (kf : ¬ 0 ≤ f3 → gg X M k n 51 [(0, .ref x0)] []) : gg X M k n 44 [(0, .ref x0)] [] := by
  refine g_aload_n ok d_Mo_readGroups_44 rfl (j := 0) rfl ?_
  refine gf_Mo_220 ok d_Mo_readGroups_45 h1 h4 ?_
  exact g_if_ge (tgt := 5) ok d_Mo_readGroups_48 (by decide) (fun z => (kt z)) (fun z => (kf z))
theorem k_Mo_readGroups_51 {X : gC} {M : List mC} {k n : Nat} {x0 : Nat} {fs2 : List Value} {f3 : Int32} (ok : gO X c_Mo_readGroups "TripleStoreModel" w_Mo_readGroups) (h1 : M[x0]? = some (.inr (10, fs2))) (h4 : fs2[22]? = some (.int f3)) (kt : f3 = 0 → gg X M k n 5 [(0, .ref x0)] []) (kf : ¬ f3 = 0 → gg X M k n 58 [(0, .ref x0)] []) : gg X M k n 51 [(0, .ref x0)] [] := by
  refine g_aload_n ok d_Mo_readGroups_51 rfl (j := 0) rfl ?_
  refine gf_Mo_262 ok d_Mo_readGroups_52 h1 h4 ?_
  exact g_if_eq (tgt := 5) ok d_Mo_readGroups_55 (by decide) (fun z => (kt z)) (fun z => (kf z))
theorem k_Mo_readGroups_58 {X : gC} {M : List mC} {k n : Nat} {x0 : Nat} {fs2 : List Value} (ok : gO X c_Mo_readGroups "TripleStoreModel" w_Mo_readGroups) (h1 : M[x0]? = some (.inr (10, fs2))) {rm : Room} {post : Option Value → List mC → Prop} (hm : mm_ (gLa X) y_Mo_readOn w_Mo_readOn rm [.ref x0] M post) (hR : gF X rm 2 k n) (hlen : ∀ r M', post r M' → M'.length = M.length) (kk : ∀ r M', post r M' → gg X M' (k + rm.cells) (n + rm.slots) 62 [(0, .ref x0)] (r.toList ++ [])) : gg X M k n 58 [(0, .ref x0)] [] := by
  refine g_aload_n ok d_Mo_readGroups_58 rfl (j := 0) rfl ?_
  exact gc_Mo_287 (As := []) (rest := []) ok d_Mo_readGroups_59 hm rfl rfl (Nat.le_of_ble_eq_true rfl) hR h1 hlen kk
theorem k_Mo_readGroups_62 {X : gC} {M : List mC} {k n : Nat} {x0 : Nat} (ok : gO X c_Mo_readGroups "TripleStoreModel" w_Mo_readGroups)  (kk : gg X M k n 5 [(0, .ref x0)] []) : gg X M k n 62 [(0, .ref x0)] [] := by
  exact g_goto (tgt := 5) ok d_Mo_readGroups_62 (by decide) kk
theorem k_Mo_readGroups_65 {X : gC} {M : List mC} {k n : Nat} {x0 : Nat} {fs2 : List Value} (ok : gO X c_Mo_readGroups "TripleStoreModel" w_Mo_readGroups) (h1 : M[x0]? = some (.inr (10, fs2))) {rm : Room} {post : Option Value → List mC → Prop} (hm : mm_ (gLa X) y_Mo_isSign w_Mo_isSign rm [.ref x0, .int 125] M post) (hR : gF X rm 2 k n) (hlen : ∀ r M', post r M' → M'.length = M.length) (kk : ∀ r M', post r M' → gg X M' (k + rm.cells) (n + rm.slots) 71 [(0, .ref x0)] (r.toList ++ [])) : gg X M k n 65 [(0, .ref x0)] [] := by
  refine g_aload_n ok d_Mo_readGroups_65 rfl (j := 0) rfl ?_
  refine g_bipush (v := 125) ok d_Mo_readGroups_66 (by decide) ?_
  exact gc_Mo_256 (As := [.int 125]) (rest := []) ok d_Mo_readGroups_68 hm rfl rfl (Nat.le_of_ble_eq_true rfl) hR h1 hlen kk
theorem k_Mo_readGroups_71 {X : gC} {M : List mC} {k n : Nat} {x0 : Nat} {s0 : Int32} (ok : gO X c_Mo_readGroups "TripleStoreModel" w_Mo_readGroups)  (kt : s0 = 0 → gg X M k n 86 [(0, .ref x0)] []) (kf : ¬ s0 = 0 → gg X M k n 74 [(0, .ref x0)] []) : gg X M k n 71 [(0, .ref x0)] [.int s0] := by
  exact g_if_eq (tgt := 86) ok d_Mo_readGroups_71 (by decide) (fun z => (kt z)) (fun z => (kf z))
theorem k_Mo_readGroups_74 {X : gC} {M : List mC} {k n : Nat} {x0 : Nat} {fs2 : List Value} {M5 : List mC} (ok : gO X c_Mo_readGroups "TripleStoreModel" w_Mo_readGroups) (h1 : M[x0]? = some (.inr (10, fs2))) (h4 : 59 ≤ fs2.length) (h6 : M.set x0 (.inr (10, (fs2.set 21 (.int 0)))) = M5) {rm : Room} {post : Option Value → List mC → Prop} (hm : mm_ (gLa X) y_Mo_readClose w_Mo_readClose rm [.ref x0] M5 post) (hR : gF X rm 2 k n) (hlen : ∀ r M', post r M' → M'.length = M5.length) (kk : ∀ r M', post r M' → gg X M' (k + rm.cells) (n + rm.slots) 83 [(0, .ref x0)] (r.toList ++ [])) : gg X M k n 74 [(0, .ref x0)] [] := by
  refine g_aload_n ok d_Mo_readGroups_74 rfl (j := 0) rfl ?_
  refine g_iconst (v := 0) ok d_Mo_readGroups_75 (by decide) ?_
  have h3 : 21 < (fs2).length := by first | omega | (simp only [List.length_set]; omega)
  refine pf_Mo_281 ok d_Mo_readGroups_76 h1 h3 (fun _ => ⟨rfl, rfl⟩) ?_
  rw [h6]
  have h7 : M5[x0]? = some (.inr (10, (fs2.set 21 (.int 0)))) := by rw [← h6]; exact gs_eq h1
  have h8 : (fs2.set 21 (.int 0))[21]? = some (.int 0) := List.getElem?_set_self h3
  refine g_aload_n ok d_Mo_readGroups_79 rfl (j := 0) rfl ?_
  exact gc_Mo_290 (As := []) (rest := []) ok d_Mo_readGroups_80 hm rfl rfl (Nat.le_of_ble_eq_true rfl) hR h7 hlen kk
theorem k_Mo_readGroups_83 {X : gC} {M : List mC} {k n : Nat} {x0 : Nat} (ok : gO X c_Mo_readGroups "TripleStoreModel" w_Mo_readGroups)  (kk : gg X M k n 5 [(0, .ref x0)] []) : gg X M k n 83 [(0, .ref x0)] [] := by
  exact g_goto (tgt := 5) ok d_Mo_readGroups_83 (by decide) kk
theorem k_Mo_readGroups_86 {X : gC} {M : List mC} {k n : Nat} {x0 : Nat} {fs2 : List Value} (ok : gO X c_Mo_readGroups "TripleStoreModel" w_Mo_readGroups) (h1 : M[x0]? = some (.inr (10, fs2))) {rm : Room} {post : Option Value → List mC → Prop} (hm : mm_ (gLa X) y_Mo_isSign w_Mo_isSign rm [.ref x0, .int 46] M post) (hR : gF X rm 2 k n) (hlen : ∀ r M', post r M' → M'.length = M.length) (kk : ∀ r M', post r M' → gg X M' (k + rm.cells) (n + rm.slots) 93 [(0, .ref x0)] (r.toList ++ [.ref x0])) : gg X M k n 86 [(0, .ref x0)] [] := by
  refine g_aload_n ok d_Mo_readGroups_86 rfl (j := 0) rfl ?_
  refine g_aload_n ok d_Mo_readGroups_87 rfl (j := 0) rfl ?_
  refine g_bipush (v := 46) ok d_Mo_readGroups_88 (by decide) ?_
  exact gc_Mo_256 (As := [.int 46]) (rest := [.ref x0]) ok d_Mo_readGroups_90 hm rfl rfl (Nat.le_of_ble_eq_true rfl) hR h1 hlen kk
theorem k_Mo_readGroups_93 {X : gC} {M : List mC} {k n : Nat} {x0 : Nat} {s1 : Int32} {fs2 : List Value} (ok : gO X c_Mo_readGroups "TripleStoreModel" w_Mo_readGroups) (h1 : M[x0]? = some (.inr (10, fs2))) {rm : Room} {post : Option Value → List mC → Prop} (hm : mm_ (gLa X) y_Mo_goOn w_Mo_goOn rm [.ref x0, .int s1] M post) (hR : gF X rm 2 k n) (hlen : ∀ r M', post r M' → M'.length = M.length) (kk : ∀ r M', post r M' → gg X M' (k + rm.cells) (n + rm.slots) 96 [(0, .ref x0)] (r.toList ++ [])) : gg X M k n 93 [(0, .ref x0)] [.int s1, .ref x0] := by
  exact gc_Mo_232 (As := [.int s1]) (rest := []) ok d_Mo_readGroups_93 hm rfl rfl (Nat.le_of_ble_eq_true rfl) hR h1 hlen kk
theorem k_Mo_readGroups_96 {X : gC} {M : List mC} {k n : Nat} {x0 : Nat} {s0 : Int32} (ok : gO X c_Mo_readGroups "TripleStoreModel" w_Mo_readGroups)  (kt : ¬ s0 = 0 → gg X M k n 100 [(0, .ref x0)] []) (kf : s0 = 0 → gg X M k n 99 [] []) : gg X M k n 96 [(0, .ref x0)] [.int s0] := by
  exact g_if_ne (tgt := 100) ok d_Mo_readGroups_96 (by decide) (fun z => (kt z)) (fun z => (gg_keep [] (kf z)))
theorem k_Mo_readGroups_99 {X : gC} {M : List mC} {k n : Nat}  (ok : gO X c_Mo_readGroups "TripleStoreModel" w_Mo_readGroups)  {l9 : Launch} {rm : Room} {M0 : List mC} {post : Option Value → List mC → Prop} (E : gE X l9 y_Mo_readGroups rm 1 none M0 post) (hp : post (none) M) (hk : k ≤ rm.cells) (hn : n ≤ rm.slots) : gg X M k n 99 [] [] := by
  exact g_vret ok E d_Mo_readGroups_99 hp hk hn
theorem k_Mo_readGroups_100 {X : gC} {M : List mC} {k n : Nat} {x0 : Nat} {fs2 : List Value} (ok : gO X c_Mo_readGroups "TripleStoreModel" w_Mo_readGroups) (h1 : M[x0]? = some (.inr (10, fs2))) {rm : Room} {post : Option Value → List mC → Prop} (hm : mm_ (gLa X) y_Mo_readElement w_Mo_readElement rm [.ref x0] M post) (hR : gF X rm 4 k n) (hlen : ∀ r M', post r M' → M'.length = M.length) (kk : ∀ r M', post r M' → gg X M' (k + rm.cells) (n + rm.slots) 104 [(0, .ref x0)] (r.toList ++ [])) : gg X M k n 100 [(0, .ref x0)] [] := by
  refine g_aload_n ok d_Mo_readGroups_100 rfl (j := 0) rfl ?_
  exact gc_Mo_284 (As := []) (rest := []) ok d_Mo_readGroups_101 hm rfl rfl (Nat.le_of_ble_eq_true rfl) hR h1 hlen kk
theorem k_Mo_readGroups_104 {X : gC} {M : List mC} {k n : Nat} {x0 : Nat} {fs2 : List Value} {f3 : Int32} (ok : gO X c_Mo_readGroups "TripleStoreModel" w_Mo_readGroups) (h1 : M[x0]? = some (.inr (10, fs2))) (h4 : fs2[20]? = some (.int f3)) (kt : 0 ≤ f3 → gg X M k n 5 [(0, .ref x0)] []) (kf : ¬ 0 ≤ f3 → gg X M k n 111 [(0, .ref x0)] []) : gg X M k n 104 [(0, .ref x0)] [] := by
  refine g_aload_n ok d_Mo_readGroups_104 rfl (j := 0) rfl ?_
  refine gf_Mo_220 ok d_Mo_readGroups_105 h1 h4 ?_
  exact g_if_ge (tgt := 5) ok d_Mo_readGroups_108 (by decide) (fun z => (kt z)) (fun z => (kf z))
theorem k_Mo_readGroups_111 {X : gC} {M : List mC} {k n : Nat} {x0 : Nat} {fs2 : List Value} {f3 : Int32} (ok : gO X c_Mo_readGroups "TripleStoreModel" w_Mo_readGroups) (h1 : M[x0]? = some (.inr (10, fs2))) (h4 : fs2[22]? = some (.int f3)) (kt : f3 = 0 → gg X M k n 5 [(0, .ref x0)] []) (kf : ¬ f3 = 0 → gg X M k n 118 [(0, .ref x0)] []) : gg X M k n 111 [(0, .ref x0)] [] := by
  refine g_aload_n ok d_Mo_readGroups_111 rfl (j := 0) rfl ?_
  refine gf_Mo_262 ok d_Mo_readGroups_112 h1 h4 ?_
  exact g_if_eq (tgt := 5) ok d_Mo_readGroups_115 (by decide) (fun z => (kt z)) (fun z => (kf z))
theorem k_Mo_readGroups_118 {X : gC} {M : List mC} {k n : Nat} {x0 : Nat} {fs2 : List Value} (ok : gO X c_Mo_readGroups "TripleStoreModel" w_Mo_readGroups) (h1 : M[x0]? = some (.inr (10, fs2))) {rm : Room} {post : Option Value → List mC → Prop} (hm : mm_ (gLa X) y_Mo_readOn w_Mo_readOn rm [.ref x0] M post) (hR : gF X rm 2 k n) (hlen : ∀ r M', post r M' → M'.length = M.length) (kk : ∀ r M', post r M' → gg X M' (k + rm.cells) (n + rm.slots) 122 [(0, .ref x0)] (r.toList ++ [])) : gg X M k n 118 [(0, .ref x0)] [] := by
  refine g_aload_n ok d_Mo_readGroups_118 rfl (j := 0) rfl ?_
  exact gc_Mo_287 (As := []) (rest := []) ok d_Mo_readGroups_119 hm rfl rfl (Nat.le_of_ble_eq_true rfl) hR h1 hlen kk
theorem k_Mo_readGroups_122 {X : gC} {M : List mC} {k n : Nat} {x0 : Nat} (ok : gO X c_Mo_readGroups "TripleStoreModel" w_Mo_readGroups)  (kk : gg X M k n 5 [(0, .ref x0)] []) : gg X M k n 122 [(0, .ref x0)] [] := by
  exact g_goto (tgt := 5) ok d_Mo_readGroups_122 (by decide) kk
theorem k_Mo_readGroups_125 {X : gC} {M : List mC} {k n : Nat}  (ok : gO X c_Mo_readGroups "TripleStoreModel" w_Mo_readGroups)  {l9 : Launch} {rm : Room} {M0 : List mC} {post : Option Value → List mC → Prop} (E : gE X l9 y_Mo_readGroups rm 1 none M0 post) (hp : post (none) M) (hk : k ≤ rm.cells) (hn : n ≤ rm.slots) : gg X M k n 125 [] [] := by
  exact g_vret ok E d_Mo_readGroups_125 hp hk hn
theorem k_Mo_readQuery_0 {X : gC} {M : List mC} {k n : Nat} {x0 : Nat} {fs2 : List Value} (ok : gO X c_Mo_readQuery "TripleStoreModel" w_Mo_readQuery) (h1 : M[x0]? = some (.inr (10, fs2))) {rm : Room} {post : Option Value → List mC → Prop} (hm : mm_ (gLa X) y_Mo_isKey w_Mo_isKey rm [.ref x0, .int 0] M post) (hR : gF X rm 4 k n) (hlen : ∀ r M', post r M' → M'.length = M.length) (kk : ∀ r M', post r M' → gg X M' (k + rm.cells) (n + rm.slots) 6 [(0, .ref x0)] (r.toList ++ [.ref x0])) : gg X M k n 0 [(0, .ref x0)] [] := by
  refine g_aload_n ok d_Mo_readQuery_0 rfl (j := 0) rfl ?_
  refine g_aload_n ok d_Mo_readQuery_1 rfl (j := 0) rfl ?_
  refine g_iconst (v := 0) ok d_Mo_readQuery_2 (by decide) ?_
  exact gc_Mo_217 (As := [.int 0]) (rest := [.ref x0]) ok d_Mo_readQuery_3 hm rfl rfl (Nat.le_of_ble_eq_true rfl) hR h1 hlen kk
theorem k_Mo_readQuery_6 {X : gC} {M : List mC} {k n : Nat} {x0 : Nat} {s1 : Int32} {fs2 : List Value} (ok : gO X c_Mo_readQuery "TripleStoreModel" w_Mo_readQuery) (h1 : M[x0]? = some (.inr (10, fs2))) {rm : Room} {post : Option Value → List mC → Prop} (hm : mm_ (gLa X) y_Mo_goOn w_Mo_goOn rm [.ref x0, .int s1] M post) (hR : gF X rm 2 k n) (hlen : ∀ r M', post r M' → M'.length = M.length) (kk : ∀ r M', post r M' → gg X M' (k + rm.cells) (n + rm.slots) 9 [(0, .ref x0)] (r.toList ++ [])) : gg X M k n 6 [(0, .ref x0)] [.int s1, .ref x0] := by
  exact gc_Mo_232 (As := [.int s1]) (rest := []) ok d_Mo_readQuery_6 hm rfl rfl (Nat.le_of_ble_eq_true rfl) hR h1 hlen kk
theorem k_Mo_readQuery_9 {X : gC} {M : List mC} {k n : Nat} {x0 : Nat} {s0 : Int32} (ok : gO X c_Mo_readQuery "TripleStoreModel" w_Mo_readQuery)  (kt : ¬ s0 = 0 → gg X M k n 13 [(0, .ref x0)] []) (kf : s0 = 0 → gg X M k n 12 [] []) : gg X M k n 9 [(0, .ref x0)] [.int s0] := by
  exact g_if_ne (tgt := 13) ok d_Mo_readQuery_9 (by decide) (fun z => (kt z)) (fun z => (gg_keep [] (kf z)))
theorem k_Mo_readQuery_12 {X : gC} {M : List mC} {k n : Nat}  (ok : gO X c_Mo_readQuery "TripleStoreModel" w_Mo_readQuery)  {l9 : Launch} {rm : Room} {M0 : List mC} {post : Option Value → List mC → Prop} (E : gE X l9 y_Mo_readQuery rm 2 none M0 post) (hp : post (none) M) (hk : k ≤ rm.cells) (hn : n ≤ rm.slots) : gg X M k n 12 [] [] := by
  exact g_vret ok E d_Mo_readQuery_12 hp hk hn
theorem k_Mo_readQuery_13 {X : gC} {M : List mC} {k n : Nat} {x0 : Nat} {fs2 : List Value} (ok : gO X c_Mo_readQuery "TripleStoreModel" w_Mo_readQuery) (h1 : M[x0]? = some (.inr (10, fs2))) {rm : Room} {post : Option Value → List mC → Prop} (hm : mm_ (gLa X) y_Mo_isKey w_Mo_isKey rm [.ref x0, .int 1] M post) (hR : gF X rm 4 k n) (hlen : ∀ r M', post r M' → M'.length = M.length) (kk : ∀ r M', post r M' → gg X M' (k + rm.cells) (n + rm.slots) 19 [(0, .ref x0)] (r.toList ++ [.ref x0])) : gg X M k n 13 [(0, .ref x0)] [] := by
  refine g_aload_n ok d_Mo_readQuery_13 rfl (j := 0) rfl ?_
  refine g_aload_n ok d_Mo_readQuery_14 rfl (j := 0) rfl ?_
  refine g_iconst (v := 1) ok d_Mo_readQuery_15 (by decide) ?_
  exact gc_Mo_217 (As := [.int 1]) (rest := [.ref x0]) ok d_Mo_readQuery_16 hm rfl rfl (Nat.le_of_ble_eq_true rfl) hR h1 hlen kk
theorem k_Mo_readQuery_19 {X : gC} {M : List mC} {k n : Nat} {x0 : Nat} {s1 : Int32} {fs2 : List Value} {M6 : List mC} (ok : gO X c_Mo_readQuery "TripleStoreModel" w_Mo_readQuery) (h1 : M[x0]? = some (.inr (10, fs2))) (h4 : 59 ≤ fs2.length) (h5 : narrow .boolean (.int s1) = .int s1 ∧ fits .boolean (.int s1) = true) (h7 : M.set x0 (.inr (10, (fs2.set 43 (.int s1)))) = M6) (kt : s1 = 0 → gg X M6 k n 33 [(0, .ref x0)] []) (kf : ¬ s1 = 0 → gg X M6 k n 29 [(0, .ref x0)] []) : gg X M k n 19 [(0, .ref x0)] [.int s1, .ref x0] := by
  have h3 : 43 < (fs2).length := by first | omega | (simp only [List.length_set]; omega)
  refine pf_Mo_293 ok d_Mo_readQuery_19 h1 h3 (fun _ => h5) ?_
  rw [h7]
  have h8 : M6[x0]? = some (.inr (10, (fs2.set 43 (.int s1)))) := by rw [← h7]; exact gs_eq h1
  have h9 : (fs2.set 43 (.int s1))[43]? = some (.int s1) := List.getElem?_set_self h3
  refine g_aload_n ok d_Mo_readQuery_22 rfl (j := 0) rfl ?_
  refine gf_Mo_293 ok d_Mo_readQuery_23 h8 h9 ?_
  exact g_if_eq (tgt := 33) ok d_Mo_readQuery_26 (by decide) (fun z => (kt z)) (fun z => (kf z))
theorem k_Mo_readQuery_29 {X : gC} {M : List mC} {k n : Nat} {x0 : Nat} {fs2 : List Value} (ok : gO X c_Mo_readQuery "TripleStoreModel" w_Mo_readQuery) (h1 : M[x0]? = some (.inr (10, fs2))) {rm : Room} {post : Option Value → List mC → Prop} (hm : mm_ (gLa X) y_Mo_next w_Mo_next rm [.ref x0] M post) (hR : gF X rm 3 k n) (hlen : ∀ r M', post r M' → M'.length = M.length) (kk : ∀ r M', post r M' → gg X M' (k + rm.cells) (n + rm.slots) 33 [(0, .ref x0)] (r.toList ++ [])) : gg X M k n 29 [(0, .ref x0)] [] := by
  refine g_aload_n ok d_Mo_readQuery_29 rfl (j := 0) rfl ?_
  exact gc_Mo_226 (As := []) (rest := []) ok d_Mo_readQuery_30 hm rfl rfl (Nat.le_of_ble_eq_true rfl) hR h1 hlen kk
theorem k_Mo_readQuery_33 {X : gC} {M : List mC} {k n : Nat} {x0 : Nat} (ok : gO X c_Mo_readQuery "TripleStoreModel" w_Mo_readQuery) (hl : gL X = 2)  (kk : gg X M k n 35 [(0, .ref x0), (1, .int 1)] []) : gg X M k n 33 [(0, .ref x0)] [] := by
  refine g_iconst (v := 1) ok d_Mo_readQuery_33 (by decide) ?_
  refine g_istore_n (L' := [(0, .ref x0), (1, .int 1)]) ok d_Mo_readQuery_34 rfl (by rw [hl]; decide) rfl ?_
  exact kk
theorem k_Mo_readQuery_35 {X : gC} {M : List mC} {k n : Nat} {x0 : Nat} {x1 : Int32} (ok : gO X c_Mo_readQuery "TripleStoreModel" w_Mo_readQuery)  (kt : x1 = 0 → gg X M k n 108 [(0, .ref x0)] []) (kf : ¬ x1 = 0 → gg X M k n 39 [(0, .ref x0)] []) : gg X M k n 35 [(0, .ref x0), (1, .int x1)] [] := by
  refine g_iload_n ok d_Mo_readQuery_35 rfl (j := 1) rfl ?_
  exact g_if_eq (tgt := 108) ok d_Mo_readQuery_36 (by decide) (fun z => (gg_keep [0] (kt z))) (fun z => (gg_keep [0] (kf z)))
theorem k_Mo_readQuery_39 {X : gC} {M : List mC} {k n : Nat} {x0 : Nat} {fs2 : List Value} {f3 : Int32} (ok : gO X c_Mo_readQuery "TripleStoreModel" w_Mo_readQuery) (h1 : M[x0]? = some (.inr (10, fs2))) (h4 : fs2[41]? = some (.int f3)) (kt : ¬ f3 = 6 → gg X M k n 52 [(0, .ref x0)] []) (kf : f3 = 6 → gg X M k n 48 [(0, .ref x0)] []) : gg X M k n 39 [(0, .ref x0)] [] := by
  refine g_aload_n ok d_Mo_readQuery_39 rfl (j := 0) rfl ?_
  refine gf_Mo_296 ok d_Mo_readQuery_40 h1 h4 ?_
  refine g_bipush (v := 6) ok d_Mo_readQuery_43 (by decide) ?_
  exact g_icmp_ne (tgt := 52) ok d_Mo_readQuery_45 (by decide) (fun z => (kt z)) (fun z => (kf z))
theorem k_Mo_readQuery_48 {X : gC} {M : List mC} {k n : Nat} {x0 : Nat} {fs2 : List Value} (ok : gO X c_Mo_readQuery "TripleStoreModel" w_Mo_readQuery) (h1 : M[x0]? = some (.inr (10, fs2))) {rm : Room} {post : Option Value → List mC → Prop} (hm : mm_ (gLa X) y_Mo_stop w_Mo_stop rm [.ref x0] M post) (hR : gF X rm 1 k n) (hlen : ∀ r M', post r M' → M'.length = M.length) (kk : ∀ r M', post r M' → gg X M' (k + rm.cells) (n + rm.slots) 52 [(0, .ref x0)] (r.toList ++ [])) : gg X M k n 48 [(0, .ref x0)] [] := by
  refine g_aload_n ok d_Mo_readQuery_48 rfl (j := 0) rfl ?_
  exact gc_Mo_223 (As := []) (rest := []) ok d_Mo_readQuery_49 hm rfl rfl (Nat.le_of_ble_eq_true rfl) hR h1 hlen kk
theorem k_Mo_readQuery_52 {X : gC} {M : List mC} {k n : Nat} {x0 : Nat} {fs2 : List Value} {f3 : Int32} (ok : gO X c_Mo_readQuery "TripleStoreModel" w_Mo_readQuery) (h1 : M[x0]? = some (.inr (10, fs2))) (h4 : fs2[20]? = some (.int f3)) (kt : f3 < 0 → gg X M k n 60 [(0, .ref x0)] []) (kf : ¬ f3 < 0 → gg X M k n 59 [] []) : gg X M k n 52 [(0, .ref x0)] [] := by
  refine g_aload_n ok d_Mo_readQuery_52 rfl (j := 0) rfl ?_
  refine gf_Mo_220 ok d_Mo_readQuery_53 h1 h4 ?_
  exact g_if_lt (tgt := 60) ok d_Mo_readQuery_56 (by decide) (fun z => (kt z)) (fun z => (gg_keep [] (kf z)))
theorem k_Mo_readQuery_59 {X : gC} {M : List mC} {k n : Nat}  (ok : gO X c_Mo_readQuery "TripleStoreModel" w_Mo_readQuery)  {l9 : Launch} {rm : Room} {M0 : List mC} {post : Option Value → List mC → Prop} (E : gE X l9 y_Mo_readQuery rm 2 none M0 post) (hp : post (none) M) (hk : k ≤ rm.cells) (hn : n ≤ rm.slots) : gg X M k n 59 [] [] := by
  exact g_vret ok E d_Mo_readQuery_59 hp hk hn
theorem k_Mo_readQuery_60 {X : gC} {M : List mC} {k n : Nat} {x0 : Nat} {fs2 : List Value} {f3 : Nat} {f5 : Int32} (ok : gO X c_Mo_readQuery "TripleStoreModel" w_Mo_readQuery) (h1 : M[x0]? = some (.inr (10, fs2))) (h4 : fs2[40]? = some (.ref f3)) (h6 : fs2[41]? = some (.int f5)) {rm : Room} {post : Option Value → List mC → Prop} (hm : mm_ (gLa X) y_Mo_readVariable w_Mo_readVariable rm [.ref x0] M post) (hR : gF X rm 3 k n) (hlen : ∀ r M', post r M' → M'.length = M.length) (kk : ∀ r M', post r M' → gg X M' (k + rm.cells) (n + rm.slots) 72 [(0, .ref x0)] (r.toList ++ [.int f5, .ref f3])) : gg X M k n 60 [(0, .ref x0)] [] := by
  refine g_aload_n ok d_Mo_readQuery_60 rfl (j := 0) rfl ?_
  refine gf_Mo_64 ok d_Mo_readQuery_61 h1 h4 ?_
  refine g_aload_n ok d_Mo_readQuery_64 rfl (j := 0) rfl ?_
  refine gf_Mo_296 ok d_Mo_readQuery_65 h1 h6 ?_
  refine g_aload_n ok d_Mo_readQuery_68 rfl (j := 0) rfl ?_
  exact gc_Mo_236 (As := []) (rest := [.int f5, .ref f3]) ok d_Mo_readQuery_69 hm rfl rfl (Nat.le_of_ble_eq_true rfl) hR h1 hlen kk
theorem k_Mo_readQuery_72 {X : gC} {M : List mC} {k n : Nat} {x0 : Nat} {s0 : Nat} {s1 : Int32} {s2 : Int32} {g2 : Nat → Int32} {N3 : Nat} {M5 : List mC} {fs9 : List Value} {f11 : Int32} {M15 : List mC} {f19 : Int32} (ok : gO X c_Mo_readQuery "TripleStoreModel" w_Mo_readQuery) (h1 : M[s0]? = some (.inl (0, N3, .inl g2))) (h4 : vp_in s1 N3) (h6 : M.set s0 (.inl (0, N3, .inl (upd g2 s1.toNatClampNeg s2))) = M5) (h8 : M[x0]? = some (.inr (10, fs9))) (h12 : fs9[41]? = some (.int f11)) (h14 : 59 ≤ fs9.length) (h16 : M5.set x0 (.inr (10, (fs9.set 41 (.int (f11 + 1))))) = M15) (h20 : fs9[20]? = some (.int f19)) (kt : f19 < 0 → gg X M15 k n 91 [(0, .ref x0)] []) (kf : ¬ f19 < 0 → gg X M15 k n 90 [] []) : gg X M k n 72 [(0, .ref x0)] [.int s2, .int s1, .ref s0] := by
  refine g_iast (t := 0) ok rfl d_Mo_readQuery_72 h1 h4 ?_
  rw [h6]
  have h7 : M5[s0]? = some (.inl (0, N3, .inl (upd g2 s1.toNatClampNeg s2))) := by rw [← h6]; exact gs_eq h1
  refine g_aload_n ok d_Mo_readQuery_73 rfl (j := 0) rfl ?_
  refine g_dup ok d_Mo_readQuery_74 rfl ?_
  have h10 : M5[x0]? = some (.inr (10, fs9)) := by rw [← h6]; exact (gs_ne (ne_ao h1 h8)).trans h8
  refine gf_Mo_296 ok d_Mo_readQuery_75 h10 h12 ?_
  refine g_iconst (v := 1) ok d_Mo_readQuery_78 (by decide) ?_
  refine g_iadd ok d_Mo_readQuery_79 ?_
  have h13 : 41 < (fs9).length := by first | omega | (simp only [List.length_set]; omega)
  refine pf_Mo_296 ok d_Mo_readQuery_80 h10 h13 (fun _ => ⟨rfl, rfl⟩) ?_
  rw [h16]
  have h17 : M15[x0]? = some (.inr (10, (fs9.set 41 (.int (f11 + 1))))) := by rw [← h16]; exact gs_eq h10
  have h18 : (fs9.set 41 (.int (f11 + 1)))[41]? = some (.int (f11 + 1)) := List.getElem?_set_self h13
  refine g_aload_n ok d_Mo_readQuery_83 rfl (j := 0) rfl ?_
  have h21 := (List.getElem?_set_ne (a := .int (f11 + 1)) (by decide : 41 ≠ 20)).trans h20
  refine gf_Mo_220 ok d_Mo_readQuery_84 h17 h21 ?_
  exact g_if_lt (tgt := 91) ok d_Mo_readQuery_87 (by decide) (fun z => (kt z)) (fun z => (gg_keep [] (kf z)))
theorem k_Mo_readQuery_90 {X : gC} {M : List mC} {k n : Nat}  (ok : gO X c_Mo_readQuery "TripleStoreModel" w_Mo_readQuery)  {l9 : Launch} {rm : Room} {M0 : List mC} {post : Option Value → List mC → Prop} (E : gE X l9 y_Mo_readQuery rm 2 none M0 post) (hp : post (none) M) (hk : k ≤ rm.cells) (hn : n ≤ rm.slots) : gg X M k n 90 [] [] := by
  exact g_vret ok E d_Mo_readQuery_90 hp hk hn
theorem k_Mo_readQuery_91 {X : gC} {M : List mC} {k n : Nat} {x0 : Nat} {fs2 : List Value} {f3 : Int32} (ok : gO X c_Mo_readQuery "TripleStoreModel" w_Mo_readQuery) (h1 : M[x0]? = some (.inr (10, fs2))) (h4 : fs2[15]? = some (.int f3)) (kt : ¬ f3 = 3 → gg X M k n 103 [(0, .ref x0)] []) (kf : f3 = 3 → gg X M k n 99 [(0, .ref x0)] []) : gg X M k n 91 [(0, .ref x0)] [] := by
  refine g_aload_n ok d_Mo_readQuery_91 rfl (j := 0) rfl ?_
  refine gf_Mo_181 ok d_Mo_readQuery_92 h1 h4 ?_
  refine g_iconst (v := 3) ok d_Mo_readQuery_95 (by decide) ?_
  exact g_icmp_ne (tgt := 103) ok d_Mo_readQuery_96 (by decide) (fun z => (kt z)) (fun z => (kf z))
theorem k_Mo_readQuery_99 {X : gC} {M : List mC} {k n : Nat} {x0 : Nat} (ok : gO X c_Mo_readQuery "TripleStoreModel" w_Mo_readQuery)  (kk : gg X M k n 104 [(0, .ref x0)] [.int 1]) : gg X M k n 99 [(0, .ref x0)] [] := by
  refine g_iconst (v := 1) ok d_Mo_readQuery_99 (by decide) ?_
  exact g_goto (tgt := 104) ok d_Mo_readQuery_100 (by decide) kk
theorem k_Mo_readQuery_103 {X : gC} {M : List mC} {k n : Nat} {x0 : Nat} (ok : gO X c_Mo_readQuery "TripleStoreModel" w_Mo_readQuery)  (kk : gg X M k n 104 [(0, .ref x0)] [.int 0]) : gg X M k n 103 [(0, .ref x0)] [] := by
  refine g_iconst (v := 0) ok d_Mo_readQuery_103 (by decide) ?_
  exact kk
theorem k_Mo_readQuery_104 {X : gC} {M : List mC} {k n : Nat} {x0 : Nat} {s0 : Int32} (ok : gO X c_Mo_readQuery "TripleStoreModel" w_Mo_readQuery) (hl : gL X = 2)  (kk : gg X M k n 35 [(0, .ref x0), (1, .int s0)] []) : gg X M k n 104 [(0, .ref x0)] [.int s0] := by
  refine g_istore_n (L' := [(0, .ref x0), (1, .int s0)]) ok d_Mo_readQuery_104 rfl (by rw [hl]; decide) rfl ?_
  exact g_goto (tgt := 35) ok d_Mo_readQuery_105 (by decide) kk
theorem k_Mo_readQuery_108 {X : gC} {M : List mC} {k n : Nat} {x0 : Nat} {fs2 : List Value} (ok : gO X c_Mo_readQuery "TripleStoreModel" w_Mo_readQuery) (h1 : M[x0]? = some (.inr (10, fs2))) {rm : Room} {post : Option Value → List mC → Prop} (hm : mm_ (gLa X) y_Mo_readGroups w_Mo_readGroups rm [.ref x0] M post) (hR : gF X rm 1 k n) (hlen : ∀ r M', post r M' → M'.length = M.length) (kk : ∀ r M', post r M' → gg X M' (k + rm.cells) (n + rm.slots) 112 [(0, .ref x0)] (r.toList ++ [])) : gg X M k n 108 [(0, .ref x0)] [] := by
  refine g_aload_n ok d_Mo_readQuery_108 rfl (j := 0) rfl ?_
  exact gc_Mo_299 (As := []) (rest := []) ok d_Mo_readQuery_109 hm rfl rfl (Nat.le_of_ble_eq_true rfl) hR h1 hlen kk
theorem k_Mo_readQuery_112 {X : gC} {M : List mC} {k n : Nat} {x0 : Nat} {fs2 : List Value} {f3 : Int32} (ok : gO X c_Mo_readQuery "TripleStoreModel" w_Mo_readQuery) (h1 : M[x0]? = some (.inr (10, fs2))) (h4 : fs2[20]? = some (.int f3)) (kt : f3 < 0 → gg X M k n 120 [(0, .ref x0)] []) (kf : ¬ f3 < 0 → gg X M k n 119 [] []) : gg X M k n 112 [(0, .ref x0)] [] := by
  refine g_aload_n ok d_Mo_readQuery_112 rfl (j := 0) rfl ?_
  refine gf_Mo_220 ok d_Mo_readQuery_113 h1 h4 ?_
  exact g_if_lt (tgt := 120) ok d_Mo_readQuery_116 (by decide) (fun z => (kt z)) (fun z => (gg_keep [] (kf z)))
theorem k_Mo_readQuery_119 {X : gC} {M : List mC} {k n : Nat}  (ok : gO X c_Mo_readQuery "TripleStoreModel" w_Mo_readQuery)  {l9 : Launch} {rm : Room} {M0 : List mC} {post : Option Value → List mC → Prop} (E : gE X l9 y_Mo_readQuery rm 2 none M0 post) (hp : post (none) M) (hk : k ≤ rm.cells) (hn : n ≤ rm.slots) : gg X M k n 119 [] [] := by
  exact g_vret ok E d_Mo_readQuery_119 hp hk hn
theorem k_Mo_readQuery_120 {X : gC} {M : List mC} {k n : Nat} {x0 : Nat} {fs2 : List Value} (ok : gO X c_Mo_readQuery "TripleStoreModel" w_Mo_readQuery) (h1 : M[x0]? = some (.inr (10, fs2))) {rm : Room} {post : Option Value → List mC → Prop} (hm : mm_ (gLa X) y_Mo_isKey w_Mo_isKey rm [.ref x0, .int 2] M post) (hR : gF X rm 4 k n) (hlen : ∀ r M', post r M' → M'.length = M.length) (kk : ∀ r M', post r M' → gg X M' (k + rm.cells) (n + rm.slots) 125 [(0, .ref x0)] (r.toList ++ [])) : gg X M k n 120 [(0, .ref x0)] [] := by
  refine g_aload_n ok d_Mo_readQuery_120 rfl (j := 0) rfl ?_
  refine g_iconst (v := 2) ok d_Mo_readQuery_121 (by decide) ?_
  exact gc_Mo_217 (As := [.int 2]) (rest := []) ok d_Mo_readQuery_122 hm rfl rfl (Nat.le_of_ble_eq_true rfl) hR h1 hlen kk
theorem k_Mo_readQuery_125 {X : gC} {M : List mC} {k n : Nat} {x0 : Nat} {s0 : Int32} (ok : gO X c_Mo_readQuery "TripleStoreModel" w_Mo_readQuery)  (kt : s0 = 0 → gg X M k n 168 [(0, .ref x0)] []) (kf : ¬ s0 = 0 → gg X M k n 128 [(0, .ref x0)] []) : gg X M k n 125 [(0, .ref x0)] [.int s0] := by
  exact g_if_eq (tgt := 168) ok d_Mo_readQuery_125 (by decide) (fun z => (kt z)) (fun z => (kf z))
theorem k_Mo_readQuery_128 {X : gC} {M : List mC} {k n : Nat} {x0 : Nat} {fs2 : List Value} (ok : gO X c_Mo_readQuery "TripleStoreModel" w_Mo_readQuery) (h1 : M[x0]? = some (.inr (10, fs2))) {rm : Room} {post : Option Value → List mC → Prop} (hm : mm_ (gLa X) y_Mo_next w_Mo_next rm [.ref x0] M post) (hR : gF X rm 3 k n) (hlen : ∀ r M', post r M' → M'.length = M.length) (kk : ∀ r M', post r M' → gg X M' (k + rm.cells) (n + rm.slots) 132 [(0, .ref x0)] (r.toList ++ [])) : gg X M k n 128 [(0, .ref x0)] [] := by
  refine g_aload_n ok d_Mo_readQuery_128 rfl (j := 0) rfl ?_
  exact gc_Mo_226 (As := []) (rest := []) ok d_Mo_readQuery_129 hm rfl rfl (Nat.le_of_ble_eq_true rfl) hR h1 hlen kk
theorem k_Mo_readQuery_132 {X : gC} {M : List mC} {k n : Nat} {x0 : Nat} {fs2 : List Value} (ok : gO X c_Mo_readQuery "TripleStoreModel" w_Mo_readQuery) (h1 : M[x0]? = some (.inr (10, fs2))) {rm : Room} {post : Option Value → List mC → Prop} (hm : mm_ (gLa X) y_Mo_readVariable w_Mo_readVariable rm [.ref x0] M post) (hR : gF X rm 3 k n) (hlen : ∀ r M', post r M' → M'.length = M.length) (kk : ∀ r M', post r M' → gg X M' (k + rm.cells) (n + rm.slots) 137 [(0, .ref x0)] (r.toList ++ [.ref x0])) : gg X M k n 132 [(0, .ref x0)] [] := by
  refine g_aload_n ok d_Mo_readQuery_132 rfl (j := 0) rfl ?_
  refine g_aload_n ok d_Mo_readQuery_133 rfl (j := 0) rfl ?_
  exact gc_Mo_236 (As := []) (rest := [.ref x0]) ok d_Mo_readQuery_134 hm rfl rfl (Nat.le_of_ble_eq_true rfl) hR h1 hlen kk
theorem k_Mo_readQuery_137 {X : gC} {M : List mC} {k n : Nat} {x0 : Nat} {s1 : Int32} {fs2 : List Value} {M5 : List mC} {f9 : Int32} (ok : gO X c_Mo_readQuery "TripleStoreModel" w_Mo_readQuery) (h1 : M[x0]? = some (.inr (10, fs2))) (h4 : 59 ≤ fs2.length) (h6 : M.set x0 (.inr (10, (fs2.set 44 (.int s1)))) = M5) (h10 : fs2[20]? = some (.int f9)) (kt : f9 < 0 → gg X M5 k n 148 [(0, .ref x0)] []) (kf : ¬ f9 < 0 → gg X M5 k n 147 [] []) : gg X M k n 137 [(0, .ref x0)] [.int s1, .ref x0] := by
  have h3 : 44 < (fs2).length := by first | omega | (simp only [List.length_set]; omega)
  refine pf_Mo_302 ok d_Mo_readQuery_137 h1 h3 (fun _ => ⟨rfl, rfl⟩) ?_
  rw [h6]
  have h7 : M5[x0]? = some (.inr (10, (fs2.set 44 (.int s1)))) := by rw [← h6]; exact gs_eq h1
  have h8 : (fs2.set 44 (.int s1))[44]? = some (.int s1) := List.getElem?_set_self h3
  refine g_aload_n ok d_Mo_readQuery_140 rfl (j := 0) rfl ?_
  have h11 := (List.getElem?_set_ne (a := .int s1) (by decide : 44 ≠ 20)).trans h10
  refine gf_Mo_220 ok d_Mo_readQuery_141 h7 h11 ?_
  exact g_if_lt (tgt := 148) ok d_Mo_readQuery_144 (by decide) (fun z => (kt z)) (fun z => (gg_keep [] (kf z)))
theorem k_Mo_readQuery_147 {X : gC} {M : List mC} {k n : Nat}  (ok : gO X c_Mo_readQuery "TripleStoreModel" w_Mo_readQuery)  {l9 : Launch} {rm : Room} {M0 : List mC} {post : Option Value → List mC → Prop} (E : gE X l9 y_Mo_readQuery rm 2 none M0 post) (hp : post (none) M) (hk : k ≤ rm.cells) (hn : n ≤ rm.slots) : gg X M k n 147 [] [] := by
  exact g_vret ok E d_Mo_readQuery_147 hp hk hn
theorem k_Mo_readQuery_148 {X : gC} {M : List mC} {k n : Nat} {x0 : Nat} {fs2 : List Value} (ok : gO X c_Mo_readQuery "TripleStoreModel" w_Mo_readQuery) (h1 : M[x0]? = some (.inr (10, fs2))) {rm : Room} {post : Option Value → List mC → Prop} (hm : mm_ (gLa X) y_Mo_isKey w_Mo_isKey rm [.ref x0, .int 3] M post) (hR : gF X rm 4 k n) (hlen : ∀ r M', post r M' → M'.length = M.length) (kk : ∀ r M', post r M' → gg X M' (k + rm.cells) (n + rm.slots) 154 [(0, .ref x0)] (r.toList ++ [.ref x0])) : gg X M k n 148 [(0, .ref x0)] [] := by
  refine g_aload_n ok d_Mo_readQuery_148 rfl (j := 0) rfl ?_
  refine g_aload_n ok d_Mo_readQuery_149 rfl (j := 0) rfl ?_
  refine g_iconst (v := 3) ok d_Mo_readQuery_150 (by decide) ?_
  exact gc_Mo_217 (As := [.int 3]) (rest := [.ref x0]) ok d_Mo_readQuery_151 hm rfl rfl (Nat.le_of_ble_eq_true rfl) hR h1 hlen kk
theorem k_Mo_readQuery_154 {X : gC} {M : List mC} {k n : Nat} {x0 : Nat} {s1 : Int32} {fs2 : List Value} {M6 : List mC} (ok : gO X c_Mo_readQuery "TripleStoreModel" w_Mo_readQuery) (h1 : M[x0]? = some (.inr (10, fs2))) (h4 : 59 ≤ fs2.length) (h5 : narrow .boolean (.int s1) = .int s1 ∧ fits .boolean (.int s1) = true) (h7 : M.set x0 (.inr (10, (fs2.set 45 (.int s1)))) = M6) (kt : s1 = 0 → gg X M6 k n 168 [(0, .ref x0)] []) (kf : ¬ s1 = 0 → gg X M6 k n 164 [(0, .ref x0)] []) : gg X M k n 154 [(0, .ref x0)] [.int s1, .ref x0] := by
  have h3 : 45 < (fs2).length := by first | omega | (simp only [List.length_set]; omega)
  refine pf_Mo_305 ok d_Mo_readQuery_154 h1 h3 (fun _ => h5) ?_
  rw [h7]
  have h8 : M6[x0]? = some (.inr (10, (fs2.set 45 (.int s1)))) := by rw [← h7]; exact gs_eq h1
  have h9 : (fs2.set 45 (.int s1))[45]? = some (.int s1) := List.getElem?_set_self h3
  refine g_aload_n ok d_Mo_readQuery_157 rfl (j := 0) rfl ?_
  refine gf_Mo_305 ok d_Mo_readQuery_158 h8 h9 ?_
  exact g_if_eq (tgt := 168) ok d_Mo_readQuery_161 (by decide) (fun z => (kt z)) (fun z => (kf z))
theorem k_Mo_readQuery_164 {X : gC} {M : List mC} {k n : Nat} {x0 : Nat} {fs2 : List Value} (ok : gO X c_Mo_readQuery "TripleStoreModel" w_Mo_readQuery) (h1 : M[x0]? = some (.inr (10, fs2))) {rm : Room} {post : Option Value → List mC → Prop} (hm : mm_ (gLa X) y_Mo_next w_Mo_next rm [.ref x0] M post) (hR : gF X rm 3 k n) (hlen : ∀ r M', post r M' → M'.length = M.length) (kk : ∀ r M', post r M' → gg X M' (k + rm.cells) (n + rm.slots) 168 [(0, .ref x0)] (r.toList ++ [])) : gg X M k n 164 [(0, .ref x0)] [] := by
  refine g_aload_n ok d_Mo_readQuery_164 rfl (j := 0) rfl ?_
  exact gc_Mo_226 (As := []) (rest := []) ok d_Mo_readQuery_165 hm rfl rfl (Nat.le_of_ble_eq_true rfl) hR h1 hlen kk
theorem k_Mo_readQuery_168 {X : gC} {M : List mC} {k n : Nat} {x0 : Nat} {fs2 : List Value} (ok : gO X c_Mo_readQuery "TripleStoreModel" w_Mo_readQuery) (h1 : M[x0]? = some (.inr (10, fs2))) {rm : Room} {post : Option Value → List mC → Prop} (hm : mm_ (gLa X) y_Mo_isKey w_Mo_isKey rm [.ref x0, .int 4] M post) (hR : gF X rm 4 k n) (hlen : ∀ r M', post r M' → M'.length = M.length) (kk : ∀ r M', post r M' → gg X M' (k + rm.cells) (n + rm.slots) 173 [(0, .ref x0)] (r.toList ++ [])) : gg X M k n 168 [(0, .ref x0)] [] := by
  refine g_aload_n ok d_Mo_readQuery_168 rfl (j := 0) rfl ?_
  refine g_iconst (v := 4) ok d_Mo_readQuery_169 (by decide) ?_
  exact gc_Mo_217 (As := [.int 4]) (rest := []) ok d_Mo_readQuery_170 hm rfl rfl (Nat.le_of_ble_eq_true rfl) hR h1 hlen kk
theorem k_Mo_readQuery_173 {X : gC} {M : List mC} {k n : Nat} {x0 : Nat} {s0 : Int32} (ok : gO X c_Mo_readQuery "TripleStoreModel" w_Mo_readQuery)  (kt : s0 = 0 → gg X M k n 210 [(0, .ref x0)] []) (kf : ¬ s0 = 0 → gg X M k n 176 [(0, .ref x0)] []) : gg X M k n 173 [(0, .ref x0)] [.int s0] := by
  exact g_if_eq (tgt := 210) ok d_Mo_readQuery_173 (by decide) (fun z => (kt z)) (fun z => (kf z))
theorem k_Mo_readQuery_176 {X : gC} {M : List mC} {k n : Nat} {x0 : Nat} {fs2 : List Value} (ok : gO X c_Mo_readQuery "TripleStoreModel" w_Mo_readQuery) (h1 : M[x0]? = some (.inr (10, fs2))) {rm : Room} {post : Option Value → List mC → Prop} (hm : mm_ (gLa X) y_Mo_next w_Mo_next rm [.ref x0] M post) (hR : gF X rm 3 k n) (hlen : ∀ r M', post r M' → M'.length = M.length) (kk : ∀ r M', post r M' → gg X M' (k + rm.cells) (n + rm.slots) 180 [(0, .ref x0)] (r.toList ++ [])) : gg X M k n 176 [(0, .ref x0)] [] := by
  refine g_aload_n ok d_Mo_readQuery_176 rfl (j := 0) rfl ?_
  exact gc_Mo_226 (As := []) (rest := []) ok d_Mo_readQuery_177 hm rfl rfl (Nat.le_of_ble_eq_true rfl) hR h1 hlen kk
theorem k_Mo_readQuery_180 {X : gC} {M : List mC} {k n : Nat} {x0 : Nat} {fs2 : List Value} {f3 : Int64} {M7 : List mC} {f12 : Int32} (ok : gO X c_Mo_readQuery "TripleStoreModel" w_Mo_readQuery) (h1 : M[x0]? = some (.inr (10, fs2))) (h4 : fs2[16]? = some (.long f3)) (h6 : 59 ≤ fs2.length) (h8 : M.set x0 (.inr (10, (fs2.set 46 (.int ((f3 : Int64).toInt32))))) = M7) (h13 : fs2[15]? = some (.int f12)) (kt : ¬ f12 = 2 → gg X M7 k n 202 [(0, .ref x0)] [.ref x0]) (kf : f12 = 2 → gg X M7 k n 198 [(0, .ref x0)] [.ref x0]) : gg X M k n 180 [(0, .ref x0)] [] := by
  refine g_aload_n ok d_Mo_readQuery_180 rfl (j := 0) rfl ?_
  refine g_aload_n ok d_Mo_readQuery_181 rfl (j := 0) rfl ?_
  refine gf_Mo_164 ok d_Mo_readQuery_182 h1 h4 ?_
  refine g_l2i ok d_Mo_readQuery_185 ?_
  have h5 : 46 < (fs2).length := by first | omega | (simp only [List.length_set]; omega)
  refine pf_Mo_308 ok d_Mo_readQuery_186 h1 h5 (fun _ => ⟨rfl, rfl⟩) ?_
  rw [h8]
  have h9 : M7[x0]? = some (.inr (10, (fs2.set 46 (.int ((f3 : Int64).toInt32))))) := by rw [← h8]; exact gs_eq h1
  have h10 := (List.getElem?_set_ne (a := .int ((f3 : Int64).toInt32)) (by decide : 46 ≠ 16)).trans h4
  have h11 : (fs2.set 46 (.int ((f3 : Int64).toInt32)))[46]? = some (.int ((f3 : Int64).toInt32)) := List.getElem?_set_self h5
  refine g_aload_n ok d_Mo_readQuery_189 rfl (j := 0) rfl ?_
  refine g_aload_n ok d_Mo_readQuery_190 rfl (j := 0) rfl ?_
  have h14 := (List.getElem?_set_ne (a := .int ((f3 : Int64).toInt32)) (by decide : 46 ≠ 15)).trans h13
  refine gf_Mo_181 ok d_Mo_readQuery_191 h9 h14 ?_
  refine g_iconst (v := 2) ok d_Mo_readQuery_194 (by decide) ?_
  exact g_icmp_ne (tgt := 202) ok d_Mo_readQuery_195 (by decide) (fun z => (kt z)) (fun z => (kf z))
theorem k_Mo_readQuery_198 {X : gC} {M : List mC} {k n : Nat} {x0 : Nat} (ok : gO X c_Mo_readQuery "TripleStoreModel" w_Mo_readQuery)  (kk : gg X M k n 203 [(0, .ref x0)] [.int 1, .ref x0]) : gg X M k n 198 [(0, .ref x0)] [.ref x0] := by
  refine g_iconst (v := 1) ok d_Mo_readQuery_198 (by decide) ?_
  exact g_goto (tgt := 203) ok d_Mo_readQuery_199 (by decide) kk
theorem k_Mo_readQuery_202 {X : gC} {M : List mC} {k n : Nat} {x0 : Nat} (ok : gO X c_Mo_readQuery "TripleStoreModel" w_Mo_readQuery)  (kk : gg X M k n 203 [(0, .ref x0)] [.int 0, .ref x0]) : gg X M k n 202 [(0, .ref x0)] [.ref x0] := by
  refine g_iconst (v := 0) ok d_Mo_readQuery_202 (by decide) ?_
  exact kk
theorem k_Mo_readQuery_203 {X : gC} {M : List mC} {k n : Nat} {x0 : Nat} {s1 : Int32} {fs2 : List Value} (ok : gO X c_Mo_readQuery "TripleStoreModel" w_Mo_readQuery) (h1 : M[x0]? = some (.inr (10, fs2))) {rm : Room} {post : Option Value → List mC → Prop} (hm : mm_ (gLa X) y_Mo_goOn w_Mo_goOn rm [.ref x0, .int s1] M post) (hR : gF X rm 2 k n) (hlen : ∀ r M', post r M' → M'.length = M.length) (kk : ∀ r M', post r M' → gg X M' (k + rm.cells) (n + rm.slots) 206 [(0, .ref x0)] (r.toList ++ [])) : gg X M k n 203 [(0, .ref x0)] [.int s1, .ref x0] := by
  exact gc_Mo_232 (As := [.int s1]) (rest := []) ok d_Mo_readQuery_203 hm rfl rfl (Nat.le_of_ble_eq_true rfl) hR h1 hlen kk
theorem k_Mo_readQuery_206 {X : gC} {M : List mC} {k n : Nat} {x0 : Nat} {s0 : Int32} (ok : gO X c_Mo_readQuery "TripleStoreModel" w_Mo_readQuery)  (kt : ¬ s0 = 0 → gg X M k n 210 [(0, .ref x0)] []) (kf : s0 = 0 → gg X M k n 209 [] []) : gg X M k n 206 [(0, .ref x0)] [.int s0] := by
  exact g_if_ne (tgt := 210) ok d_Mo_readQuery_206 (by decide) (fun z => (kt z)) (fun z => (gg_keep [] (kf z)))
theorem k_Mo_readQuery_209 {X : gC} {M : List mC} {k n : Nat}  (ok : gO X c_Mo_readQuery "TripleStoreModel" w_Mo_readQuery)  {l9 : Launch} {rm : Room} {M0 : List mC} {post : Option Value → List mC → Prop} (E : gE X l9 y_Mo_readQuery rm 2 none M0 post) (hp : post (none) M) (hk : k ≤ rm.cells) (hn : n ≤ rm.slots) : gg X M k n 209 [] [] := by
  exact g_vret ok E d_Mo_readQuery_209 hp hk hn
theorem k_Mo_readQuery_210 {X : gC} {M : List mC} {k n : Nat} {x0 : Nat} {fs2 : List Value} {f3 : Int32} (ok : gO X c_Mo_readQuery "TripleStoreModel" w_Mo_readQuery) (h1 : M[x0]? = some (.inr (10, fs2))) (h4 : fs2[15]? = some (.int f3)) (kt : f3 = 0 → gg X M k n 221 [] []) (kf : ¬ f3 = 0 → gg X M k n 217 [(0, .ref x0)] []) : gg X M k n 210 [(0, .ref x0)] [] := by
  refine g_aload_n ok d_Mo_readQuery_210 rfl (j := 0) rfl ?_
  refine gf_Mo_181 ok d_Mo_readQuery_211 h1 h4 ?_
  exact g_if_eq (tgt := 221) ok d_Mo_readQuery_214 (by decide) (fun z => (gg_keep [] (kt z))) (fun z => (kf z))
theorem k_Mo_readQuery_217 {X : gC} {M : List mC} {k n : Nat} {x0 : Nat} {fs2 : List Value} (ok : gO X c_Mo_readQuery "TripleStoreModel" w_Mo_readQuery) (h1 : M[x0]? = some (.inr (10, fs2))) {rm : Room} {post : Option Value → List mC → Prop} (hm : mm_ (gLa X) y_Mo_stop w_Mo_stop rm [.ref x0] M post) (hR : gF X rm 1 k n) (hlen : ∀ r M', post r M' → M'.length = M.length) (kk : ∀ r M', post r M' → gg X M' (k + rm.cells) (n + rm.slots) 221 [] (r.toList ++ [])) : gg X M k n 217 [(0, .ref x0)] [] := by
  refine g_aload_n ok d_Mo_readQuery_217 rfl (j := 0) rfl ?_
  exact gc_Mo_223 (As := []) (rest := []) ok d_Mo_readQuery_218 hm rfl rfl (Nat.le_of_ble_eq_true rfl) hR h1 hlen (fun r M' q => (gg_keep [] (kk r M' q)))
theorem k_Mo_readQuery_221 {X : gC} {M : List mC} {k n : Nat}  (ok : gO X c_Mo_readQuery "TripleStoreModel" w_Mo_readQuery)  {l9 : Launch} {rm : Room} {M0 : List mC} {post : Option Value → List mC → Prop} (E : gE X l9 y_Mo_readQuery rm 2 none M0 post) (hp : post (none) M) (hk : k ≤ rm.cells) (hn : n ≤ rm.slots) : gg X M k n 221 [] [] := by
  exact g_vret ok E d_Mo_readQuery_221 hp hk hn
theorem k_Mo_addTo_0 {X : gC} {M : List mC} {k n : Nat} {x0 : Nat} {x1 : Int32} {x2 : Int32} {x3 : Int32} {fs2 : List Value} {f3 : Nat} {g6 : Nat → Int32} {N7 : Nat} (ok : gO X c_Mo_addTo "TripleStoreModel" w_Mo_addTo) (h1 : M[x0]? = some (.inr (10, fs2))) (h4 : fs2[49]? = some (.ref f3)) (h5 : M[f3]? = some (.inl (0, N7, .inl g6))) (h8 : vp_in x1 N7) (kt : ¬ (g6 x1.toNatClampNeg) = 150 → gg X M k n 18 [(0, .ref x0), (1, .int x1), (2, .int x2), (3, .int x3)] []) (kf : (g6 x1.toNatClampNeg) = 150 → gg X M k n 12 [(0, .ref x0)] []) : gg X M k n 0 [(0, .ref x0), (1, .int x1), (2, .int x2), (3, .int x3)] [] := by
  refine g_aload_n ok d_Mo_addTo_0 rfl (j := 0) rfl ?_
  refine gf_Mo_76 ok d_Mo_addTo_1 h1 h4 ?_
  refine g_iload_n ok d_Mo_addTo_4 rfl (j := 1) rfl ?_
  refine g_iald (t := 0) ok rfl d_Mo_addTo_5 h5 h8 ?_
  refine g_sipush (v := 150) ok d_Mo_addTo_6 (by decide) ?_
  exact g_icmp_ne (tgt := 18) ok d_Mo_addTo_9 (by decide) (fun z => (kt z)) (fun z => (gg_keep [0] (kf z)))
theorem k_Mo_addTo_12 {X : gC} {M : List mC} {k n : Nat} {x0 : Nat} {fs2 : List Value} {M5 : List mC} (ok : gO X c_Mo_addTo "TripleStoreModel" w_Mo_addTo) (h1 : M[x0]? = some (.inr (10, fs2))) (h4 : 59 ≤ fs2.length) (h6 : M.set x0 (.inr (10, (fs2.set 51 (.int 1)))) = M5) {l9 : Launch} {rm : Room} {M0 : List mC} {post : Option Value → List mC → Prop} (E : gE X l9 y_Mo_addTo rm 6 none M0 post) (hp : post (none) M5) (hk : k ≤ rm.cells) (hn : n ≤ rm.slots) : gg X M k n 12 [(0, .ref x0)] [] := by
  refine g_aload_n ok d_Mo_addTo_12 rfl (j := 0) rfl ?_
  refine g_iconst (v := 1) ok d_Mo_addTo_13 (by decide) ?_
  have h3 : 51 < (fs2).length := by first | omega | (simp only [List.length_set]; omega)
  refine pf_Mo_311 ok d_Mo_addTo_14 h1 h3 (fun _ => ⟨rfl, rfl⟩) ?_
  rw [h6]
  have h7 : M5[x0]? = some (.inr (10, (fs2.set 51 (.int 1)))) := by rw [← h6]; exact gs_eq h1
  have h8 : (fs2.set 51 (.int 1))[51]? = some (.int 1) := List.getElem?_set_self h3
  exact g_vret ok E d_Mo_addTo_17 hp hk hn
theorem k_Mo_addTo_18 {X : gC} {M : List mC} {k n : Nat} {x0 : Nat} {x1 : Int32} {x2 : Int32} {x3 : Int32} {fs2 : List Value} {f3 : Nat} {g6 : Nat → Int32} {N7 : Nat} {f9 : Nat} {g12 : Nat → Int32} {N13 : Nat} {M16 : List mC} (ok : gO X c_Mo_addTo "TripleStoreModel" w_Mo_addTo) (hl : gL X = 6) (h1 : M[x0]? = some (.inr (10, fs2))) (h4 : fs2[49]? = some (.ref f3)) (h5 : M[f3]? = some (.inl (0, N7, .inl g6))) (h8 : vp_in x1 N7) (h10 : fs2[48]? = some (.ref f9)) (h11 : M[f9]? = some (.inl (0, N13, .inl g12))) (h14 : vp_in ((150 * x2) + x3) N13) (h15 : vp_in ((150 * x1) + (g6 x1.toNatClampNeg)) N13) (h17 : M.set f9 (.inl (0, N13, .inl (upd g12 ((150 * x1) + (g6 x1.toNatClampNeg)).toNatClampNeg (g12 ((150 * x2) + x3).toNatClampNeg)))) = M16) (kk : gg X M16 k n 54 [(0, .ref x0), (1, .int x1), (2, .int x2), (3, .int x3), (4, .int ((150 * x1) + (g6 x1.toNatClampNeg))), (5, .int 0)] []) : gg X M k n 18 [(0, .ref x0), (1, .int x1), (2, .int x2), (3, .int x3)] [] := by
  refine g_sipush (v := 150) ok d_Mo_addTo_18 (by decide) ?_
  refine g_iload_n ok d_Mo_addTo_21 rfl (j := 1) rfl ?_
  refine g_imul ok d_Mo_addTo_22 ?_
  refine g_aload_n ok d_Mo_addTo_23 rfl (j := 0) rfl ?_
  refine gf_Mo_76 ok d_Mo_addTo_24 h1 h4 ?_
  refine g_iload_n ok d_Mo_addTo_27 rfl (j := 1) rfl ?_
  refine g_iald (t := 0) ok rfl d_Mo_addTo_28 h5 h8 ?_
  refine g_iadd ok d_Mo_addTo_29 ?_
  refine g_istore (L' := [(0, .ref x0), (1, .int x1), (2, .int x2), (3, .int x3), (4, .int ((150 * x1) + (g6 x1.toNatClampNeg)))]) ok d_Mo_addTo_30 (by rw [hl]; decide) rfl ?_
  refine g_aload_n ok d_Mo_addTo_32 rfl (j := 0) rfl ?_
  refine gf_Mo_73 ok d_Mo_addTo_33 h1 h10 ?_
  refine g_iload ok d_Mo_addTo_36 (j := 4) rfl ?_
  refine g_aload_n ok d_Mo_addTo_38 rfl (j := 0) rfl ?_
  refine gf_Mo_73 ok d_Mo_addTo_39 h1 h10 ?_
  refine g_sipush (v := 150) ok d_Mo_addTo_42 (by decide) ?_
  refine g_iload_n ok d_Mo_addTo_45 rfl (j := 2) rfl ?_
  refine g_imul ok d_Mo_addTo_46 ?_
  refine g_iload_n ok d_Mo_addTo_47 rfl (j := 3) rfl ?_
  refine g_iadd ok d_Mo_addTo_48 ?_
  refine g_iald (t := 0) ok rfl d_Mo_addTo_49 h11 h14 ?_
  refine g_iast (t := 0) ok rfl d_Mo_addTo_50 h11 h15 ?_
  rw [h17]
  have h18 : M16[f9]? = some (.inl (0, N13, .inl (upd g12 ((150 * x1) + (g6 x1.toNatClampNeg)).toNatClampNeg (g12 ((150 * x2) + x3).toNatClampNeg)))) := by rw [← h17]; exact gs_eq h11
  refine g_iconst (v := 0) ok d_Mo_addTo_51 (by decide) ?_
  refine g_istore (L' := [(0, .ref x0), (1, .int x1), (2, .int x2), (3, .int x3), (4, .int ((150 * x1) + (g6 x1.toNatClampNeg))), (5, .int 0)]) ok d_Mo_addTo_52 (by rw [hl]; decide) rfl ?_
  exact kk
theorem k_Mo_addTo_54 {X : gC} {M : List mC} {k n : Nat} {x0 : Nat} {x1 : Int32} {x2 : Int32} {x3 : Int32} {x4 : Int32} {x5 : Int32} (ok : gO X c_Mo_addTo "TripleStoreModel" w_Mo_addTo)  (kt : 6 ≤ x5 → gg X M k n 98 [(0, .ref x0), (1, .int x1)] []) (kf : ¬ 6 ≤ x5 → gg X M k n 61 [(0, .ref x0), (1, .int x1), (2, .int x2), (3, .int x3), (4, .int x4), (5, .int x5)] []) : gg X M k n 54 [(0, .ref x0), (1, .int x1), (2, .int x2), (3, .int x3), (4, .int x4), (5, .int x5)] [] := by
  refine g_iload ok d_Mo_addTo_54 (j := 5) rfl ?_
  refine g_bipush (v := 6) ok d_Mo_addTo_56 (by decide) ?_
  exact g_icmp_ge (tgt := 98) ok d_Mo_addTo_58 (by decide) (fun z => (gg_keep [0, 1] (kt z))) (fun z => (kf z))
theorem k_Mo_addTo_61 {X : gC} {M : List mC} {k n : Nat} {x0 : Nat} {x1 : Int32} {x2 : Int32} {x3 : Int32} {x4 : Int32} {x5 : Int32} {fs2 : List Value} {f3 : Nat} {g6 : Nat → Int64} {N7 : Nat} {M10 : List mC} (ok : gO X c_Mo_addTo "TripleStoreModel" w_Mo_addTo) (hl : gL X = 6) (h1 : M[x0]? = some (.inr (10, fs2))) (h4 : fs2[47]? = some (.ref f3)) (h5 : M[f3]? = some (.inl (1, N7, .inr (.inl g6)))) (h8 : vp_in ((6 * ((150 * x2) + x3)) + x5) N7) (h9 : vp_in ((6 * x4) + x5) N7) (h11 : M.set f3 (.inl (1, N7, .inr (.inl (vp_updL g6 ((6 * x4) + x5).toNatClampNeg (g6 ((6 * ((150 * x2) + x3)) + x5).toNatClampNeg))))) = M10) (kk : gg X M10 k n 54 [(0, .ref x0), (1, .int x1), (2, .int x2), (3, .int x3), (4, .int x4), (5, .int (x5 + 1))] []) : gg X M k n 61 [(0, .ref x0), (1, .int x1), (2, .int x2), (3, .int x3), (4, .int x4), (5, .int x5)] [] := by
  refine g_aload_n ok d_Mo_addTo_61 rfl (j := 0) rfl ?_
  refine gf_Mo_70 ok d_Mo_addTo_62 h1 h4 ?_
  refine g_bipush (v := 6) ok d_Mo_addTo_65 (by decide) ?_
  refine g_iload ok d_Mo_addTo_67 (j := 4) rfl ?_
  refine g_imul ok d_Mo_addTo_69 ?_
  refine g_iload ok d_Mo_addTo_70 (j := 5) rfl ?_
  refine g_iadd ok d_Mo_addTo_72 ?_
  refine g_aload_n ok d_Mo_addTo_73 rfl (j := 0) rfl ?_
  refine gf_Mo_70 ok d_Mo_addTo_74 h1 h4 ?_
  refine g_bipush (v := 6) ok d_Mo_addTo_77 (by decide) ?_
  refine g_sipush (v := 150) ok d_Mo_addTo_79 (by decide) ?_
  refine g_iload_n ok d_Mo_addTo_82 rfl (j := 2) rfl ?_
  refine g_imul ok d_Mo_addTo_83 ?_
  refine g_iload_n ok d_Mo_addTo_84 rfl (j := 3) rfl ?_
  refine g_iadd ok d_Mo_addTo_85 ?_
  refine g_imul ok d_Mo_addTo_86 ?_
  refine g_iload ok d_Mo_addTo_87 (j := 5) rfl ?_
  refine g_iadd ok d_Mo_addTo_89 ?_
  refine g_lald (t := 1) ok rfl d_Mo_addTo_90 h5 h8 ?_
  refine g_last (t := 1) ok rfl d_Mo_addTo_91 h5 h9 ?_
  rw [h11]
  have h12 : M10[f3]? = some (.inl (1, N7, .inr (.inl (vp_updL g6 ((6 * x4) + x5).toNatClampNeg (g6 ((6 * ((150 * x2) + x3)) + x5).toNatClampNeg))))) := by rw [← h11]; exact gs_eq h5
  refine g_iinc (L' := [(0, .ref x0), (1, .int x1), (2, .int x2), (3, .int x3), (4, .int x4), (5, .int (x5 + 1))]) (v := (x5 + 1)) ok d_Mo_addTo_92 (j := 5) rfl rfl (by rw [hl]; decide) rfl ?_
  exact g_goto (tgt := 54) ok d_Mo_addTo_95 (by decide) kk
theorem k_Mo_addTo_98 {X : gC} {M : List mC} {k n : Nat} {x0 : Nat} {x1 : Int32} {fs2 : List Value} {f3 : Nat} {g6 : Nat → Int32} {N7 : Nat} {M10 : List mC} (ok : gO X c_Mo_addTo "TripleStoreModel" w_Mo_addTo) (h1 : M[x0]? = some (.inr (10, fs2))) (h4 : fs2[49]? = some (.ref f3)) (h5 : M[f3]? = some (.inl (0, N7, .inl g6))) (h8 : vp_in x1 N7) (h9 : vp_in x1 N7) (h11 : M.set f3 (.inl (0, N7, .inl (upd g6 x1.toNatClampNeg ((g6 x1.toNatClampNeg) + 1)))) = M10) {l9 : Launch} {rm : Room} {M0 : List mC} {post : Option Value → List mC → Prop} (E : gE X l9 y_Mo_addTo rm 6 none M0 post) (hp : post (none) M10) (hk : k ≤ rm.cells) (hn : n ≤ rm.slots) : gg X M k n 98 [(0, .ref x0), (1, .int x1)] [] := by
  refine g_aload_n ok d_Mo_addTo_98 rfl (j := 0) rfl ?_
  refine gf_Mo_76 ok d_Mo_addTo_99 h1 h4 ?_
  refine g_iload_n ok d_Mo_addTo_102 rfl (j := 1) rfl ?_
  refine g_dup2_11 ok d_Mo_addTo_103 rfl rfl ?_
  refine g_iald (t := 0) ok rfl d_Mo_addTo_104 h5 h8 ?_
  refine g_iconst (v := 1) ok d_Mo_addTo_105 (by decide) ?_
  refine g_iadd ok d_Mo_addTo_106 ?_
  refine g_iast (t := 0) ok rfl d_Mo_addTo_107 h5 h9 ?_
  rw [h11]
  have h12 : M10[f3]? = some (.inl (0, N7, .inl (upd g6 x1.toNatClampNeg ((g6 x1.toNatClampNeg) + 1)))) := by rw [← h11]; exact gs_eq h5
  exact g_vret ok E d_Mo_addTo_108 hp hk hn
theorem k_Mo_copy_0 {X : gC} {M : List mC} {k n : Nat} {x0 : Nat} {x1 : Int32} {x2 : Int32} {fs2 : List Value} {f3 : Nat} {g6 : Nat → Int32} {N7 : Nat} {M9 : List mC} (ok : gO X c_Mo_copy "TripleStoreModel" w_Mo_copy) (hl : gL X = 4) (h1 : M[x0]? = some (.inr (10, fs2))) (h4 : fs2[49]? = some (.ref f3)) (h5 : M[f3]? = some (.inl (0, N7, .inl g6))) (h8 : vp_in x2 N7) (h10 : M.set f3 (.inl (0, N7, .inl (upd g6 x2.toNatClampNeg 0))) = M9) (kk : gg X M9 k n 9 [(0, .ref x0), (1, .int x1), (2, .int x2), (3, .int 0)] []) : gg X M k n 0 [(0, .ref x0), (1, .int x1), (2, .int x2)] [] := by
  refine g_aload_n ok d_Mo_copy_0 rfl (j := 0) rfl ?_
  refine gf_Mo_76 ok d_Mo_copy_1 h1 h4 ?_
  refine g_iload_n ok d_Mo_copy_4 rfl (j := 2) rfl ?_
  refine g_iconst (v := 0) ok d_Mo_copy_5 (by decide) ?_
  refine g_iast (t := 0) ok rfl d_Mo_copy_6 h5 h8 ?_
  rw [h10]
  have h11 : M9[f3]? = some (.inl (0, N7, .inl (upd g6 x2.toNatClampNeg 0))) := by rw [← h10]; exact gs_eq h5
  refine g_iconst (v := 0) ok d_Mo_copy_7 (by decide) ?_
  refine g_istore_n (L' := [(0, .ref x0), (1, .int x1), (2, .int x2), (3, .int 0)]) ok d_Mo_copy_8 rfl (by rw [hl]; decide) rfl ?_
  exact kk
theorem k_Mo_copy_9 {X : gC} {M : List mC} {k n : Nat} {x0 : Nat} {x1 : Int32} {x2 : Int32} {x3 : Int32} {fs2 : List Value} {f3 : Nat} {g6 : Nat → Int32} {N7 : Nat} (ok : gO X c_Mo_copy "TripleStoreModel" w_Mo_copy) (h1 : M[x0]? = some (.inr (10, fs2))) (h4 : fs2[49]? = some (.ref f3)) (h5 : M[f3]? = some (.inl (0, N7, .inl g6))) (h8 : vp_in x1 N7) (kt : (g6 x1.toNatClampNeg) ≤ x3 → gg X M k n 32 [] []) (kf : ¬ (g6 x1.toNatClampNeg) ≤ x3 → gg X M k n 19 [(0, .ref x0), (1, .int x1), (2, .int x2), (3, .int x3)] []) : gg X M k n 9 [(0, .ref x0), (1, .int x1), (2, .int x2), (3, .int x3)] [] := by
  refine g_iload_n ok d_Mo_copy_9 rfl (j := 3) rfl ?_
  refine g_aload_n ok d_Mo_copy_10 rfl (j := 0) rfl ?_
  refine gf_Mo_76 ok d_Mo_copy_11 h1 h4 ?_
  refine g_iload_n ok d_Mo_copy_14 rfl (j := 1) rfl ?_
  refine g_iald (t := 0) ok rfl d_Mo_copy_15 h5 h8 ?_
  exact g_icmp_ge (tgt := 32) ok d_Mo_copy_16 (by decide) (fun z => (gg_keep [] (kt z))) (fun z => (kf z))
theorem k_Mo_copy_19 {X : gC} {M : List mC} {k n : Nat} {x0 : Nat} {x1 : Int32} {x2 : Int32} {x3 : Int32} {fs2 : List Value} (ok : gO X c_Mo_copy "TripleStoreModel" w_Mo_copy) (h1 : M[x0]? = some (.inr (10, fs2))) {rm : Room} {post : Option Value → List mC → Prop} (hm : mm_ (gLa X) y_Mo_addTo w_Mo_addTo rm [.ref x0, .int x2, .int x1, .int x3] M post) (hR : gF X rm 6 k n) (hlen : ∀ r M', post r M' → M'.length = M.length) (kk : ∀ r M', post r M' → gg X M' (k + rm.cells) (n + rm.slots) 26 [(0, .ref x0), (1, .int x1), (2, .int x2), (3, .int x3)] (r.toList ++ [])) : gg X M k n 19 [(0, .ref x0), (1, .int x1), (2, .int x2), (3, .int x3)] [] := by
  refine g_aload_n ok d_Mo_copy_19 rfl (j := 0) rfl ?_
  refine g_iload_n ok d_Mo_copy_20 rfl (j := 2) rfl ?_
  refine g_iload_n ok d_Mo_copy_21 rfl (j := 1) rfl ?_
  refine g_iload_n ok d_Mo_copy_22 rfl (j := 3) rfl ?_
  exact gc_Mo_314 (As := [.int x2, .int x1, .int x3]) (rest := []) ok d_Mo_copy_23 hm rfl rfl (Nat.le_of_ble_eq_true rfl) hR h1 hlen kk
theorem k_Mo_copy_26 {X : gC} {M : List mC} {k n : Nat} {x0 : Nat} {x1 : Int32} {x2 : Int32} {x3 : Int32} (ok : gO X c_Mo_copy "TripleStoreModel" w_Mo_copy) (hl : gL X = 4)  (kk : gg X M k n 9 [(0, .ref x0), (1, .int x1), (2, .int x2), (3, .int (x3 + 1))] []) : gg X M k n 26 [(0, .ref x0), (1, .int x1), (2, .int x2), (3, .int x3)] [] := by
  refine g_iinc (L' := [(0, .ref x0), (1, .int x1), (2, .int x2), (3, .int (x3 + 1))]) (v := (x3 + 1)) ok d_Mo_copy_26 (j := 3) rfl rfl (by rw [hl]; decide) rfl ?_
  exact g_goto (tgt := 9) ok d_Mo_copy_29 (by decide) kk
theorem k_Mo_copy_32 {X : gC} {M : List mC} {k n : Nat}  (ok : gO X c_Mo_copy "TripleStoreModel" w_Mo_copy)  {l9 : Launch} {rm : Room} {M0 : List mC} {post : Option Value → List mC → Prop} (E : gE X l9 y_Mo_copy rm 4 none M0 post) (hp : post (none) M) (hk : k ≤ rm.cells) (hn : n ≤ rm.slots) : gg X M k n 32 [] [] := by
  exact g_vret ok E d_Mo_copy_32 hp hk hn
theorem k_Mo_compatible_0 {X : gC} {M : List mC} {k n : Nat} {x0 : Nat} {x1 : Int32} {x2 : Int32} (ok : gO X c_Mo_compatible "TripleStoreModel" w_Mo_compatible) (hl : gL X = 4)  (kk : gg X M k n 2 [(0, .ref x0), (1, .int x1), (2, .int x2), (3, .int 0)] []) : gg X M k n 0 [(0, .ref x0), (1, .int x1), (2, .int x2)] [] := by
  refine g_iconst (v := 0) ok d_Mo_compatible_0 (by decide) ?_
  refine g_istore_n (L' := [(0, .ref x0), (1, .int x1), (2, .int x2), (3, .int 0)]) ok d_Mo_compatible_1 rfl (by rw [hl]; decide) rfl ?_
  exact kk
theorem k_Mo_compatible_2 {X : gC} {M : List mC} {k n : Nat} {x0 : Nat} {x1 : Int32} {x2 : Int32} {x3 : Int32} (ok : gO X c_Mo_compatible "TripleStoreModel" w_Mo_compatible)  (kt : 6 ≤ x3 → gg X M k n 63 [] []) (kf : ¬ 6 ≤ x3 → gg X M k n 8 [(0, .ref x0), (1, .int x1), (2, .int x2), (3, .int x3)] []) : gg X M k n 2 [(0, .ref x0), (1, .int x1), (2, .int x2), (3, .int x3)] [] := by
  refine g_iload_n ok d_Mo_compatible_2 rfl (j := 3) rfl ?_
  refine g_bipush (v := 6) ok d_Mo_compatible_3 (by decide) ?_
  exact g_icmp_ge (tgt := 63) ok d_Mo_compatible_5 (by decide) (fun z => (gg_keep [] (kt z))) (fun z => (kf z))
theorem k_Mo_compatible_8 {X : gC} {M : List mC} {k n : Nat} {x0 : Nat} {x1 : Int32} {x2 : Int32} {x3 : Int32} {fs2 : List Value} {f3 : Nat} {g6 : Nat → Int32} {N7 : Nat} (ok : gO X c_Mo_compatible "TripleStoreModel" w_Mo_compatible) (h1 : M[x0]? = some (.inr (10, fs2))) (h4 : fs2[48]? = some (.ref f3)) (h5 : M[f3]? = some (.inl (0, N7, .inl g6))) (h8 : vp_in x1 N7) (h9 : vp_in x2 N7) (kt : ¬ ((((g6 x1.toNatClampNeg) &&& (g6 x2.toNatClampNeg)) >>> (x3 &&& 31)) &&& 1) = 1 → gg X M k n 57 [(0, .ref x0), (1, .int x1), (2, .int x2), (3, .int x3)] []) (kf : ((((g6 x1.toNatClampNeg) &&& (g6 x2.toNatClampNeg)) >>> (x3 &&& 31)) &&& 1) = 1 → gg X M k n 29 [(0, .ref x0), (1, .int x1), (2, .int x2), (3, .int x3)] []) : gg X M k n 8 [(0, .ref x0), (1, .int x1), (2, .int x2), (3, .int x3)] [] := by
  refine g_aload_n ok d_Mo_compatible_8 rfl (j := 0) rfl ?_
  refine gf_Mo_73 ok d_Mo_compatible_9 h1 h4 ?_
  refine g_iload_n ok d_Mo_compatible_12 rfl (j := 1) rfl ?_
  refine g_iald (t := 0) ok rfl d_Mo_compatible_13 h5 h8 ?_
  refine g_aload_n ok d_Mo_compatible_14 rfl (j := 0) rfl ?_
  refine gf_Mo_73 ok d_Mo_compatible_15 h1 h4 ?_
  refine g_iload_n ok d_Mo_compatible_18 rfl (j := 2) rfl ?_
  refine g_iald (t := 0) ok rfl d_Mo_compatible_19 h5 h9 ?_
  refine g_iand ok d_Mo_compatible_20 ?_
  refine g_iload_n ok d_Mo_compatible_21 rfl (j := 3) rfl ?_
  refine g_ishr ok d_Mo_compatible_22 ?_
  refine g_iconst (v := 1) ok d_Mo_compatible_23 (by decide) ?_
  refine g_iand ok d_Mo_compatible_24 ?_
  refine g_iconst (v := 1) ok d_Mo_compatible_25 (by decide) ?_
  exact g_icmp_ne (tgt := 57) ok d_Mo_compatible_26 (by decide) (fun z => (kt z)) (fun z => (kf z))
theorem k_Mo_compatible_29 {X : gC} {M : List mC} {k n : Nat} {x0 : Nat} {x1 : Int32} {x2 : Int32} {x3 : Int32} {fs2 : List Value} {f3 : Nat} {g6 : Nat → Int64} {N7 : Nat} (ok : gO X c_Mo_compatible "TripleStoreModel" w_Mo_compatible) (h1 : M[x0]? = some (.inr (10, fs2))) (h4 : fs2[47]? = some (.ref f3)) (h5 : M[f3]? = some (.inl (1, N7, .inr (.inl g6)))) (h8 : vp_in ((6 * x1) + x3) N7) (h9 : vp_in ((6 * x2) + x3) N7) (kt : (g6 ((6 * x1) + x3).toNatClampNeg) = (g6 ((6 * x2) + x3).toNatClampNeg) → gg X M k n 57 [(0, .ref x0), (1, .int x1), (2, .int x2), (3, .int x3)] []) (kf : ¬ (g6 ((6 * x1) + x3).toNatClampNeg) = (g6 ((6 * x2) + x3).toNatClampNeg) → gg X M k n 55 [] []) : gg X M k n 29 [(0, .ref x0), (1, .int x1), (2, .int x2), (3, .int x3)] [] := by
  refine g_aload_n ok d_Mo_compatible_29 rfl (j := 0) rfl ?_
  refine gf_Mo_70 ok d_Mo_compatible_30 h1 h4 ?_
  refine g_bipush (v := 6) ok d_Mo_compatible_33 (by decide) ?_
  refine g_iload_n ok d_Mo_compatible_35 rfl (j := 1) rfl ?_
  refine g_imul ok d_Mo_compatible_36 ?_
  refine g_iload_n ok d_Mo_compatible_37 rfl (j := 3) rfl ?_
  refine g_iadd ok d_Mo_compatible_38 ?_
  refine g_lald (t := 1) ok rfl d_Mo_compatible_39 h5 h8 ?_
  refine g_aload_n ok d_Mo_compatible_40 rfl (j := 0) rfl ?_
  refine gf_Mo_70 ok d_Mo_compatible_41 h1 h4 ?_
  refine g_bipush (v := 6) ok d_Mo_compatible_44 (by decide) ?_
  refine g_iload_n ok d_Mo_compatible_46 rfl (j := 2) rfl ?_
  refine g_imul ok d_Mo_compatible_47 ?_
  refine g_iload_n ok d_Mo_compatible_48 rfl (j := 3) rfl ?_
  refine g_iadd ok d_Mo_compatible_49 ?_
  refine g_lald (t := 1) ok rfl d_Mo_compatible_50 h5 h9 ?_
  exact g_lc_eq (tgt := 57) ok d_Mo_compatible_51 d_Mo_compatible_52 (by decide) (fun z => (kt z)) (fun z => (gg_keep [] (kf z)))
theorem k_Mo_compatible_55 {X : gC} {M : List mC} {k n : Nat}  (ok : gO X c_Mo_compatible "TripleStoreModel" w_Mo_compatible)  {l9 : Launch} {rm : Room} {M0 : List mC} {post : Option Value → List mC → Prop} (E : gE X l9 y_Mo_compatible rm 4 (some .boolean) M0 post) (hp : post (some (.int 0)) M) (hk : k ≤ rm.cells) (hn : n ≤ rm.slots) : gg X M k n 55 [] [] := by
  refine g_iconst (v := 0) ok d_Mo_compatible_55 (by decide) ?_
  exact g_zret ok E d_Mo_compatible_56 rfl hp hk hn
theorem k_Mo_compatible_57 {X : gC} {M : List mC} {k n : Nat} {x0 : Nat} {x1 : Int32} {x2 : Int32} {x3 : Int32} (ok : gO X c_Mo_compatible "TripleStoreModel" w_Mo_compatible) (hl : gL X = 4)  (kk : gg X M k n 2 [(0, .ref x0), (1, .int x1), (2, .int x2), (3, .int (x3 + 1))] []) : gg X M k n 57 [(0, .ref x0), (1, .int x1), (2, .int x2), (3, .int x3)] [] := by
  refine g_iinc (L' := [(0, .ref x0), (1, .int x1), (2, .int x2), (3, .int (x3 + 1))]) (v := (x3 + 1)) ok d_Mo_compatible_57 (j := 3) rfl rfl (by rw [hl]; decide) rfl ?_
  exact g_goto (tgt := 2) ok d_Mo_compatible_60 (by decide) kk
theorem k_Mo_compatible_63 {X : gC} {M : List mC} {k n : Nat}  (ok : gO X c_Mo_compatible "TripleStoreModel" w_Mo_compatible)  {l9 : Launch} {rm : Room} {M0 : List mC} {post : Option Value → List mC → Prop} (E : gE X l9 y_Mo_compatible rm 4 (some .boolean) M0 post) (hp : post (some (.int 1)) M) (hk : k ≤ rm.cells) (hn : n ≤ rm.slots) : gg X M k n 63 [] [] := by
  refine g_iconst (v := 1) ok d_Mo_compatible_63 (by decide) ?_
  exact g_zret ok E d_Mo_compatible_64 rfl hp hk hn
theorem k_Mo_join_0 {X : gC} {M : List mC} {k n : Nat} {x0 : Nat} {x1 : Int32} {x2 : Int32} {x3 : Int32} {x4 : Int32} {fs2 : List Value} (ok : gO X c_Mo_join "TripleStoreModel" w_Mo_join) (h1 : M[x0]? = some (.inr (10, fs2))) {rm : Room} {post : Option Value → List mC → Prop} (hm : mm_ (gLa X) y_Mo_addTo w_Mo_addTo rm [.ref x0, .int 10, .int x1, .int x2] M post) (hR : gF X rm 6 k n) (hlen : ∀ r M', post r M' → M'.length = M.length) (kk : ∀ r M', post r M' → gg X M' (k + rm.cells) (n + rm.slots) 8 [(0, .ref x0), (3, .int x3), (4, .int x4)] (r.toList ++ [])) : gg X M k n 0 [(0, .ref x0), (1, .int x1), (2, .int x2), (3, .int x3), (4, .int x4)] [] := by
  refine g_aload_n ok d_Mo_join_0 rfl (j := 0) rfl ?_
  refine g_bipush (v := 10) ok d_Mo_join_1 (by decide) ?_
  refine g_iload_n ok d_Mo_join_3 rfl (j := 1) rfl ?_
  refine g_iload_n ok d_Mo_join_4 rfl (j := 2) rfl ?_
  exact gc_Mo_314 (As := [.int 10, .int x1, .int x2]) (rest := []) ok d_Mo_join_5 hm rfl rfl (Nat.le_of_ble_eq_true rfl) hR h1 hlen (fun r M' q => (gg_keep [0, 3, 4] (kk r M' q)))
theorem k_Mo_join_8 {X : gC} {M : List mC} {k n : Nat} {x0 : Nat} {x3 : Int32} {x4 : Int32} {fs2 : List Value} {f3 : Int32} (ok : gO X c_Mo_join "TripleStoreModel" w_Mo_join) (h1 : M[x0]? = some (.inr (10, fs2))) (h4 : fs2[51]? = some (.int f3)) (kt : f3 = 0 → gg X M k n 16 [(0, .ref x0), (3, .int x3), (4, .int x4)] []) (kf : ¬ f3 = 0 → gg X M k n 15 [] []) : gg X M k n 8 [(0, .ref x0), (3, .int x3), (4, .int x4)] [] := by
  refine g_aload_n ok d_Mo_join_8 rfl (j := 0) rfl ?_
  refine gf_Mo_311 ok d_Mo_join_9 h1 h4 ?_
  exact g_if_eq (tgt := 16) ok d_Mo_join_12 (by decide) (fun z => (kt z)) (fun z => (gg_keep [] (kf z)))
theorem k_Mo_join_15 {X : gC} {M : List mC} {k n : Nat}  (ok : gO X c_Mo_join "TripleStoreModel" w_Mo_join)  {l9 : Launch} {rm : Room} {M0 : List mC} {post : Option Value → List mC → Prop} (E : gE X l9 y_Mo_join rm 8 none M0 post) (hp : post (none) M) (hk : k ≤ rm.cells) (hn : n ≤ rm.slots) : gg X M k n 15 [] [] := by
  exact g_vret ok E d_Mo_join_15 hp hk hn
theorem k_Mo_join_16 {X : gC} {M : List mC} {k n : Nat} {x0 : Nat} {x3 : Int32} {x4 : Int32} {fs2 : List Value} {f3 : Nat} {g6 : Nat → Int32} {N7 : Nat} (ok : gO X c_Mo_join "TripleStoreModel" w_Mo_join) (hl : gL X = 8) (h1 : M[x0]? = some (.inr (10, fs2))) (h4 : fs2[49]? = some (.ref f3)) (h5 : M[f3]? = some (.inl (0, N7, .inl g6))) (h8 : vp_in 10 N7) (kk : gg X M k n 44 [(0, .ref x0), (5, .int ((1500 + (g6 (10 : Int32).toNatClampNeg)) - 1)), (6, .int ((150 * x3) + x4)), (7, .int 0)] []) : gg X M k n 16 [(0, .ref x0), (3, .int x3), (4, .int x4)] [] := by
  refine g_sipush (v := 1500) ok d_Mo_join_16 (by decide) ?_
  refine g_aload_n ok d_Mo_join_19 rfl (j := 0) rfl ?_
  refine gf_Mo_76 ok d_Mo_join_20 h1 h4 ?_
  refine g_bipush (v := 10) ok d_Mo_join_23 (by decide) ?_
  refine g_iald (t := 0) ok rfl d_Mo_join_25 h5 h8 ?_
  refine g_iadd ok d_Mo_join_26 ?_
  refine g_iconst (v := 1) ok d_Mo_join_27 (by decide) ?_
  refine g_isub ok d_Mo_join_28 ?_
  refine g_istore (L' := [(0, .ref x0), (3, .int x3), (4, .int x4), (5, .int ((1500 + (g6 (10 : Int32).toNatClampNeg)) - 1))]) ok d_Mo_join_29 (by rw [hl]; decide) rfl ?_
  refine g_sipush (v := 150) ok d_Mo_join_31 (by decide) ?_
  refine g_iload_n ok d_Mo_join_34 rfl (j := 1) rfl ?_
  refine g_imul ok d_Mo_join_35 ?_
  refine g_iload ok d_Mo_join_36 (j := 2) rfl ?_
  refine g_iadd ok d_Mo_join_38 ?_
  refine g_istore (L' := [(0, .ref x0), (3, .int x3), (4, .int x4), (5, .int ((1500 + (g6 (10 : Int32).toNatClampNeg)) - 1)), (6, .int ((150 * x3) + x4))]) ok d_Mo_join_39 (by rw [hl]; decide) rfl ?_
  refine g_iconst (v := 0) ok d_Mo_join_41 (by decide) ?_
  refine g_istore (L' := [(0, .ref x0), (3, .int x3), (4, .int x4), (5, .int ((1500 + (g6 (10 : Int32).toNatClampNeg)) - 1)), (6, .int ((150 * x3) + x4)), (7, .int 0)]) ok d_Mo_join_42 (by rw [hl]; decide) rfl ?_
  exact (gg_keep [0, 5, 6, 7] kk)
theorem k_Mo_join_44 {X : gC} {M : List mC} {k n : Nat} {x0 : Nat} {x5 : Int32} {x6 : Int32} {x7 : Int32} (ok : gO X c_Mo_join "TripleStoreModel" w_Mo_join)  (kt : 6 ≤ x7 → gg X M k n 99 [(0, .ref x0), (5, .int x5), (6, .int x6)] []) (kf : ¬ 6 ≤ x7 → gg X M k n 51 [(0, .ref x0), (5, .int x5), (6, .int x6), (7, .int x7)] []) : gg X M k n 44 [(0, .ref x0), (5, .int x5), (6, .int x6), (7, .int x7)] [] := by
  refine g_iload ok d_Mo_join_44 (j := 3) rfl ?_
  refine g_bipush (v := 6) ok d_Mo_join_46 (by decide) ?_
  exact g_icmp_ge (tgt := 99) ok d_Mo_join_48 (by decide) (fun z => (gg_keep [0, 5, 6] (kt z))) (fun z => (kf z))
theorem k_Mo_join_51 {X : gC} {M : List mC} {k n : Nat} {x0 : Nat} {x5 : Int32} {x6 : Int32} {x7 : Int32} {fs2 : List Value} {f3 : Nat} {g6 : Nat → Int32} {N7 : Nat} (ok : gO X c_Mo_join "TripleStoreModel" w_Mo_join) (h1 : M[x0]? = some (.inr (10, fs2))) (h4 : fs2[48]? = some (.ref f3)) (h5 : M[f3]? = some (.inl (0, N7, .inl g6))) (h8 : vp_in x6 N7) (kt : ¬ (((g6 x6.toNatClampNeg) >>> (x7 &&& 31)) &&& 1) = 1 → gg X M k n 93 [(0, .ref x0), (5, .int x5), (6, .int x6), (7, .int x7)] []) (kf : (((g6 x6.toNatClampNeg) >>> (x7 &&& 31)) &&& 1) = 1 → gg X M k n 67 [(0, .ref x0), (5, .int x5), (6, .int x6), (7, .int x7)] []) : gg X M k n 51 [(0, .ref x0), (5, .int x5), (6, .int x6), (7, .int x7)] [] := by
  refine g_aload_n ok d_Mo_join_51 rfl (j := 0) rfl ?_
  refine gf_Mo_73 ok d_Mo_join_52 h1 h4 ?_
  refine g_iload ok d_Mo_join_55 (j := 2) rfl ?_
  refine g_iald (t := 0) ok rfl d_Mo_join_57 h5 h8 ?_
  refine g_iload ok d_Mo_join_58 (j := 3) rfl ?_
  refine g_ishr ok d_Mo_join_60 ?_
  refine g_iconst (v := 1) ok d_Mo_join_61 (by decide) ?_
  refine g_iand ok d_Mo_join_62 ?_
  refine g_iconst (v := 1) ok d_Mo_join_63 (by decide) ?_
  exact g_icmp_ne (tgt := 93) ok d_Mo_join_64 (by decide) (fun z => (kt z)) (fun z => (kf z))
theorem k_Mo_join_67 {X : gC} {M : List mC} {k n : Nat} {x0 : Nat} {x5 : Int32} {x6 : Int32} {x7 : Int32} {fs2 : List Value} {f3 : Nat} {g6 : Nat → Int64} {N7 : Nat} {M10 : List mC} (ok : gO X c_Mo_join "TripleStoreModel" w_Mo_join) (h1 : M[x0]? = some (.inr (10, fs2))) (h4 : fs2[47]? = some (.ref f3)) (h5 : M[f3]? = some (.inl (1, N7, .inr (.inl g6)))) (h8 : vp_in ((6 * x6) + x7) N7) (h9 : vp_in ((6 * x5) + x7) N7) (h11 : M.set f3 (.inl (1, N7, .inr (.inl (vp_updL g6 ((6 * x5) + x7).toNatClampNeg (g6 ((6 * x6) + x7).toNatClampNeg))))) = M10) (kk : gg X M10 k n 93 [(0, .ref x0), (5, .int x5), (6, .int x6), (7, .int x7)] []) : gg X M k n 67 [(0, .ref x0), (5, .int x5), (6, .int x6), (7, .int x7)] [] := by
  refine g_aload_n ok d_Mo_join_67 rfl (j := 0) rfl ?_
  refine gf_Mo_70 ok d_Mo_join_68 h1 h4 ?_
  refine g_bipush (v := 6) ok d_Mo_join_71 (by decide) ?_
  refine g_iload ok d_Mo_join_73 (j := 1) rfl ?_
  refine g_imul ok d_Mo_join_75 ?_
  refine g_iload ok d_Mo_join_76 (j := 3) rfl ?_
  refine g_iadd ok d_Mo_join_78 ?_
  refine g_aload_n ok d_Mo_join_79 rfl (j := 0) rfl ?_
  refine gf_Mo_70 ok d_Mo_join_80 h1 h4 ?_
  refine g_bipush (v := 6) ok d_Mo_join_83 (by decide) ?_
  refine g_iload ok d_Mo_join_85 (j := 2) rfl ?_
  refine g_imul ok d_Mo_join_87 ?_
  refine g_iload ok d_Mo_join_88 (j := 3) rfl ?_
  refine g_iadd ok d_Mo_join_90 ?_
  refine g_lald (t := 1) ok rfl d_Mo_join_91 h5 h8 ?_
  refine g_last (t := 1) ok rfl d_Mo_join_92 h5 h9 ?_
  rw [h11]
  have h12 : M10[f3]? = some (.inl (1, N7, .inr (.inl (vp_updL g6 ((6 * x5) + x7).toNatClampNeg (g6 ((6 * x6) + x7).toNatClampNeg))))) := by rw [← h11]; exact gs_eq h5
  exact kk
theorem k_Mo_join_93 {X : gC} {M : List mC} {k n : Nat} {x0 : Nat} {x5 : Int32} {x6 : Int32} {x7 : Int32} (ok : gO X c_Mo_join "TripleStoreModel" w_Mo_join) (hl : gL X = 8)  (kk : gg X M k n 44 [(0, .ref x0), (5, .int x5), (6, .int x6), (7, .int (x7 + 1))] []) : gg X M k n 93 [(0, .ref x0), (5, .int x5), (6, .int x6), (7, .int x7)] [] := by
  refine g_iinc (L' := [(0, .ref x0), (5, .int x5), (6, .int x6), (7, .int (x7 + 1))]) (v := (x7 + 1)) ok d_Mo_join_93 (j := 3) rfl rfl (by rw [hl]; decide) rfl ?_
  exact g_goto (tgt := 44) ok d_Mo_join_96 (by decide) kk
theorem k_Mo_join_99 {X : gC} {M : List mC} {k n : Nat} {x0 : Nat} {x5 : Int32} {x6 : Int32} {fs2 : List Value} {f3 : Nat} {g6 : Nat → Int32} {N7 : Nat} {M11 : List mC} (ok : gO X c_Mo_join "TripleStoreModel" w_Mo_join) (h1 : M[x0]? = some (.inr (10, fs2))) (h4 : fs2[48]? = some (.ref f3)) (h5 : M[f3]? = some (.inl (0, N7, .inl g6))) (h8 : vp_in x5 N7) (h9 : vp_in x6 N7) (h10 : vp_in x5 N7) (h12 : M.set f3 (.inl (0, N7, .inl (upd g6 x5.toNatClampNeg ((g6 x5.toNatClampNeg) ||| (g6 x6.toNatClampNeg))))) = M11) {l9 : Launch} {rm : Room} {M0 : List mC} {post : Option Value → List mC → Prop} (E : gE X l9 y_Mo_join rm 8 none M0 post) (hp : post (none) M11) (hk : k ≤ rm.cells) (hn : n ≤ rm.slots) : gg X M k n 99 [(0, .ref x0), (5, .int x5), (6, .int x6)] [] := by
  refine g_aload_n ok d_Mo_join_99 rfl (j := 0) rfl ?_
  refine gf_Mo_73 ok d_Mo_join_100 h1 h4 ?_
  refine g_iload ok d_Mo_join_103 (j := 1) rfl ?_
  refine g_dup2_11 ok d_Mo_join_105 rfl rfl ?_
  refine g_iald (t := 0) ok rfl d_Mo_join_106 h5 h8 ?_
  refine g_aload_n ok d_Mo_join_107 rfl (j := 0) rfl ?_
  refine gf_Mo_73 ok d_Mo_join_108 h1 h4 ?_
  refine g_iload ok d_Mo_join_111 (j := 2) rfl ?_
  refine g_iald (t := 0) ok rfl d_Mo_join_113 h5 h9 ?_
  refine g_ior ok d_Mo_join_114 ?_
  refine g_iast (t := 0) ok rfl d_Mo_join_115 h5 h10 ?_
  rw [h12]
  have h13 : M11[f3]? = some (.inl (0, N7, .inl (upd g6 x5.toNatClampNeg ((g6 x5.toNatClampNeg) ||| (g6 x6.toNatClampNeg))))) := by rw [← h12]; exact gs_eq h5
  exact g_vret ok E d_Mo_join_116 hp hk hn
theorem k_Mo_combine_0 {X : gC} {M : List mC} {k n : Nat} {x0 : Nat} {x1 : Int32} {fs2 : List Value} {f3 : Int32} {f5 : Nat} {g8 : Nat → Int32} {N9 : Nat} {M11 : List mC} (ok : gO X c_Mo_combine "TripleStoreModel" w_Mo_combine) (hl : gL X = 8) (h1 : M[x0]? = some (.inr (10, fs2))) (h4 : fs2[50]? = some (.int f3)) (h6 : fs2[49]? = some (.ref f5)) (h7 : M[f5]? = some (.inl (0, N9, .inl g8))) (h10 : vp_in 10 N9) (h12 : M.set f5 (.inl (0, N9, .inl (upd g8 (10 : Int32).toNatClampNeg 0))) = M11) (kk : gg X M11 k n 25 [(0, .ref x0), (1, .int x1), (2, .int (f3 - 2)), (3, .int (f3 - 1)), (4, .int 0)] []) : gg X M k n 0 [(0, .ref x0), (1, .int x1)] [] := by
  refine g_aload_n ok d_Mo_combine_0 rfl (j := 0) rfl ?_
  refine gf_Mo_318 ok d_Mo_combine_1 h1 h4 ?_
  refine g_iconst (v := 2) ok d_Mo_combine_4 (by decide) ?_
  refine g_isub ok d_Mo_combine_5 ?_
  refine g_istore_n (L' := [(0, .ref x0), (1, .int x1), (2, .int (f3 - 2))]) ok d_Mo_combine_6 rfl (by rw [hl]; decide) rfl ?_
  refine g_aload_n ok d_Mo_combine_7 rfl (j := 0) rfl ?_
  refine gf_Mo_318 ok d_Mo_combine_8 h1 h4 ?_
  refine g_iconst (v := 1) ok d_Mo_combine_11 (by decide) ?_
  refine g_isub ok d_Mo_combine_12 ?_
  refine g_istore_n (L' := [(0, .ref x0), (1, .int x1), (2, .int (f3 - 2)), (3, .int (f3 - 1))]) ok d_Mo_combine_13 rfl (by rw [hl]; decide) rfl ?_
  refine g_aload_n ok d_Mo_combine_14 rfl (j := 0) rfl ?_
  refine gf_Mo_76 ok d_Mo_combine_15 h1 h6 ?_
  refine g_bipush (v := 10) ok d_Mo_combine_18 (by decide) ?_
  refine g_iconst (v := 0) ok d_Mo_combine_20 (by decide) ?_
  refine g_iast (t := 0) ok rfl d_Mo_combine_21 h7 h10 ?_
  rw [h12]
  have h13 : M11[f5]? = some (.inl (0, N9, .inl (upd g8 (10 : Int32).toNatClampNeg 0))) := by rw [← h12]; exact gs_eq h7
  refine g_iconst (v := 0) ok d_Mo_combine_22 (by decide) ?_
  refine g_istore (L' := [(0, .ref x0), (1, .int x1), (2, .int (f3 - 2)), (3, .int (f3 - 1)), (4, .int 0)]) ok d_Mo_combine_23 (by rw [hl]; decide) rfl ?_
  exact kk
theorem k_Mo_combine_25 {X : gC} {M : List mC} {k n : Nat} {x0 : Nat} {x1 : Int32} {x2 : Int32} {x3 : Int32} {x4 : Int32} {fs2 : List Value} {f3 : Nat} {g6 : Nat → Int32} {N7 : Nat} (ok : gO X c_Mo_combine "TripleStoreModel" w_Mo_combine) (h1 : M[x0]? = some (.inr (10, fs2))) (h4 : fs2[49]? = some (.ref f3)) (h5 : M[f3]? = some (.inl (0, N7, .inl g6))) (h8 : vp_in x2 N7) (kt : (g6 x2.toNatClampNeg) ≤ x4 → gg X M k n 185 [(0, .ref x0), (2, .int x2)] []) (kf : ¬ (g6 x2.toNatClampNeg) ≤ x4 → gg X M k n 36 [(0, .ref x0), (1, .int x1), (2, .int x2), (3, .int x3), (4, .int x4)] []) : gg X M k n 25 [(0, .ref x0), (1, .int x1), (2, .int x2), (3, .int x3), (4, .int x4)] [] := by
  refine g_iload ok d_Mo_combine_25 (j := 4) rfl ?_
  refine g_aload_n ok d_Mo_combine_27 rfl (j := 0) rfl ?_
  refine gf_Mo_76 ok d_Mo_combine_28 h1 h4 ?_
  refine g_iload_n ok d_Mo_combine_31 rfl (j := 2) rfl ?_
  refine g_iald (t := 0) ok rfl d_Mo_combine_32 h5 h8 ?_
  exact g_icmp_ge (tgt := 185) ok d_Mo_combine_33 (by decide) (fun z => (gg_keep [0, 2] (kt z))) (fun z => (kf z))
theorem k_Mo_combine_36 {X : gC} {M : List mC} {k n : Nat} {x0 : Nat} {x1 : Int32} {x2 : Int32} {x3 : Int32} {x4 : Int32} {fs2 : List Value} {f3 : Int32} (ok : gO X c_Mo_combine "TripleStoreModel" w_Mo_combine) (h1 : M[x0]? = some (.inr (10, fs2))) (h4 : fs2[51]? = some (.int f3)) (kt : ¬ f3 = 0 → gg X M k n 185 [(0, .ref x0), (2, .int x2)] []) (kf : f3 = 0 → gg X M k n 43 [(0, .ref x0), (1, .int x1), (2, .int x2), (3, .int x3), (4, .int x4)] []) : gg X M k n 36 [(0, .ref x0), (1, .int x1), (2, .int x2), (3, .int x3), (4, .int x4)] [] := by
  refine g_aload_n ok d_Mo_combine_36 rfl (j := 0) rfl ?_
  refine gf_Mo_311 ok d_Mo_combine_37 h1 h4 ?_
  exact g_if_ne (tgt := 185) ok d_Mo_combine_40 (by decide) (fun z => (gg_keep [0, 2] (kt z))) (fun z => (kf z))
theorem k_Mo_combine_43 {X : gC} {M : List mC} {k n : Nat} {x0 : Nat} {x1 : Int32} {x2 : Int32} {x3 : Int32} {x4 : Int32} (ok : gO X c_Mo_combine "TripleStoreModel" w_Mo_combine) (hl : gL X = 8)  (kk : gg X M k n 52 [(0, .ref x0), (1, .int x1), (2, .int x2), (3, .int x3), (4, .int x4), (5, .int 0), (6, .int 0), (7, .int 0)] []) : gg X M k n 43 [(0, .ref x0), (1, .int x1), (2, .int x2), (3, .int x3), (4, .int x4)] [] := by
  refine g_iconst (v := 0) ok d_Mo_combine_43 (by decide) ?_
  refine g_istore (L' := [(0, .ref x0), (1, .int x1), (2, .int x2), (3, .int x3), (4, .int x4), (5, .int 0)]) ok d_Mo_combine_44 (by rw [hl]; decide) rfl ?_
  refine g_iconst (v := 0) ok d_Mo_combine_46 (by decide) ?_
  refine g_istore (L' := [(0, .ref x0), (1, .int x1), (2, .int x2), (3, .int x3), (4, .int x4), (5, .int 0), (6, .int 0)]) ok d_Mo_combine_47 (by rw [hl]; decide) rfl ?_
  refine g_iconst (v := 0) ok d_Mo_combine_49 (by decide) ?_
  refine g_istore (L' := [(0, .ref x0), (1, .int x1), (2, .int x2), (3, .int x3), (4, .int x4), (5, .int 0), (6, .int 0), (7, .int 0)]) ok d_Mo_combine_50 (by rw [hl]; decide) rfl ?_
  exact kk
theorem k_Mo_combine_52 {X : gC} {M : List mC} {k n : Nat} {x0 : Nat} {x1 : Int32} {x2 : Int32} {x3 : Int32} {x4 : Int32} {x5 : Int32} {x6 : Int32} {x7 : Int32} {fs2 : List Value} {f3 : Nat} {g6 : Nat → Int32} {N7 : Nat} (ok : gO X c_Mo_combine "TripleStoreModel" w_Mo_combine) (h1 : M[x0]? = some (.inr (10, fs2))) (h4 : fs2[49]? = some (.ref f3)) (h5 : M[f3]? = some (.inl (0, N7, .inl g6))) (h8 : vp_in x3 N7) (kt : (g6 x3.toNatClampNeg) ≤ x7 → gg X M k n 150 [(0, .ref x0), (1, .int x1), (2, .int x2), (3, .int x3), (4, .int x4), (5, .int x5), (6, .int x6)] []) (kf : ¬ (g6 x3.toNatClampNeg) ≤ x7 → gg X M k n 63 [(0, .ref x0), (1, .int x1), (2, .int x2), (3, .int x3), (4, .int x4), (5, .int x5), (6, .int x6), (7, .int x7)] []) : gg X M k n 52 [(0, .ref x0), (1, .int x1), (2, .int x2), (3, .int x3), (4, .int x4), (5, .int x5), (6, .int x6), (7, .int x7)] [] := by
  refine g_iload ok d_Mo_combine_52 (j := 7) rfl ?_
  refine g_aload_n ok d_Mo_combine_54 rfl (j := 0) rfl ?_
  refine gf_Mo_76 ok d_Mo_combine_55 h1 h4 ?_
  refine g_iload_n ok d_Mo_combine_58 rfl (j := 3) rfl ?_
  refine g_iald (t := 0) ok rfl d_Mo_combine_59 h5 h8 ?_
  exact g_icmp_ge (tgt := 150) ok d_Mo_combine_60 (by decide) (fun z => (gg_keep [0, 1, 2, 3, 4, 5, 6] (kt z))) (fun z => (kf z))
theorem k_Mo_combine_63 {X : gC} {M : List mC} {k n : Nat} {x0 : Nat} {x1 : Int32} {x2 : Int32} {x3 : Int32} {x4 : Int32} {x5 : Int32} {x6 : Int32} {x7 : Int32} {fs2 : List Value} {f3 : Int32} (ok : gO X c_Mo_combine "TripleStoreModel" w_Mo_combine) (h1 : M[x0]? = some (.inr (10, fs2))) (h4 : fs2[51]? = some (.int f3)) (kt : ¬ f3 = 0 → gg X M k n 150 [(0, .ref x0), (1, .int x1), (2, .int x2), (3, .int x3), (4, .int x4), (5, .int x5), (6, .int x6)] []) (kf : f3 = 0 → gg X M k n 70 [(0, .ref x0), (1, .int x1), (2, .int x2), (3, .int x3), (4, .int x4), (5, .int x5), (6, .int x6), (7, .int x7)] []) : gg X M k n 63 [(0, .ref x0), (1, .int x1), (2, .int x2), (3, .int x3), (4, .int x4), (5, .int x5), (6, .int x6), (7, .int x7)] [] := by
  refine g_aload_n ok d_Mo_combine_63 rfl (j := 0) rfl ?_
  refine gf_Mo_311 ok d_Mo_combine_64 h1 h4 ?_
  exact g_if_ne (tgt := 150) ok d_Mo_combine_67 (by decide) (fun z => (gg_keep [0, 1, 2, 3, 4, 5, 6] (kt z))) (fun z => (kf z))
theorem k_Mo_combine_70 {X : gC} {M : List mC} {k n : Nat} {x0 : Nat} {x1 : Int32} {x2 : Int32} {x3 : Int32} {x4 : Int32} {x5 : Int32} {x6 : Int32} {x7 : Int32} {fs2 : List Value} (ok : gO X c_Mo_combine "TripleStoreModel" w_Mo_combine) (h1 : M[x0]? = some (.inr (10, fs2))) {rm : Room} {post : Option Value → List mC → Prop} (hm : mm_ (gLa X) y_Mo_compatible w_Mo_compatible rm [.ref x0, .int ((150 * x2) + x4), .int ((150 * x3) + x7)] M post) (hR : gF X rm 4 k n) (hlen : ∀ r M', post r M' → M'.length = M.length) (kk : ∀ r M', post r M' → gg X M' (k + rm.cells) (n + rm.slots) 90 [(0, .ref x0), (1, .int x1), (2, .int x2), (3, .int x3), (4, .int x4), (5, .int x5), (6, .int x6), (7, .int x7)] (r.toList ++ [])) : gg X M k n 70 [(0, .ref x0), (1, .int x1), (2, .int x2), (3, .int x3), (4, .int x4), (5, .int x5), (6, .int x6), (7, .int x7)] [] := by
  refine g_aload_n ok d_Mo_combine_70 rfl (j := 0) rfl ?_
  refine g_sipush (v := 150) ok d_Mo_combine_71 (by decide) ?_
  refine g_iload_n ok d_Mo_combine_74 rfl (j := 2) rfl ?_
  refine g_imul ok d_Mo_combine_75 ?_
  refine g_iload ok d_Mo_combine_76 (j := 4) rfl ?_
  refine g_iadd ok d_Mo_combine_78 ?_
  refine g_sipush (v := 150) ok d_Mo_combine_79 (by decide) ?_
  refine g_iload_n ok d_Mo_combine_82 rfl (j := 3) rfl ?_
  refine g_imul ok d_Mo_combine_83 ?_
  refine g_iload ok d_Mo_combine_84 (j := 7) rfl ?_
  refine g_iadd ok d_Mo_combine_86 ?_
  exact gc_Mo_321 (As := [.int ((150 * x2) + x4), .int ((150 * x3) + x7)]) (rest := []) ok d_Mo_combine_87 hm rfl rfl (Nat.le_of_ble_eq_true rfl) hR h1 hlen kk
theorem k_Mo_combine_90 {X : gC} {M : List mC} {k n : Nat} {x0 : Nat} {x1 : Int32} {x2 : Int32} {x3 : Int32} {x4 : Int32} {x5 : Int32} {x6 : Int32} {x7 : Int32} {s0 : Int32} (ok : gO X c_Mo_combine "TripleStoreModel" w_Mo_combine)  (kt : s0 = 0 → gg X M k n 144 [(0, .ref x0), (1, .int x1), (2, .int x2), (3, .int x3), (4, .int x4), (5, .int x5), (6, .int x6), (7, .int x7)] []) (kf : ¬ s0 = 0 → gg X M k n 93 [(0, .ref x0), (1, .int x1), (2, .int x2), (3, .int x3), (4, .int x4), (6, .int x6), (7, .int x7)] []) : gg X M k n 90 [(0, .ref x0), (1, .int x1), (2, .int x2), (3, .int x3), (4, .int x4), (5, .int x5), (6, .int x6), (7, .int x7)] [.int s0] := by
  exact g_if_eq (tgt := 144) ok d_Mo_combine_90 (by decide) (fun z => (kt z)) (fun z => (gg_keep [0, 1, 2, 3, 4, 6, 7] (kf z)))
theorem k_Mo_combine_93 {X : gC} {M : List mC} {k n : Nat} {x0 : Nat} {x1 : Int32} {x2 : Int32} {x3 : Int32} {x4 : Int32} {x6 : Int32} {x7 : Int32} {fs2 : List Value} {f3 : Nat} {g6 : Nat → Int32} {N7 : Nat} (ok : gO X c_Mo_combine "TripleStoreModel" w_Mo_combine) (hl : gL X = 8) (h1 : M[x0]? = some (.inr (10, fs2))) (h4 : fs2[48]? = some (.ref f3)) (h5 : M[f3]? = some (.inl (0, N7, .inl g6))) (h8 : vp_in ((150 * x2) + x4) N7) (h9 : vp_in ((150 * x3) + x7) N7) (kt : ((g6 ((150 * x2) + x4).toNatClampNeg) &&& (g6 ((150 * x3) + x7).toNatClampNeg)) = 0 → gg X M k n 129 [(0, .ref x0), (1, .int x1), (2, .int x2), (3, .int x3), (4, .int x4), (5, .int 1), (6, .int x6), (7, .int x7)] []) (kf : ¬ ((g6 ((150 * x2) + x4).toNatClampNeg) &&& (g6 ((150 * x3) + x7).toNatClampNeg)) = 0 → gg X M k n 126 [(0, .ref x0), (1, .int x1), (2, .int x2), (3, .int x3), (4, .int x4), (5, .int 1), (7, .int x7)] []) : gg X M k n 93 [(0, .ref x0), (1, .int x1), (2, .int x2), (3, .int x3), (4, .int x4), (6, .int x6), (7, .int x7)] [] := by
  refine g_iconst (v := 1) ok d_Mo_combine_93 (by decide) ?_
  refine g_istore (L' := [(0, .ref x0), (1, .int x1), (2, .int x2), (3, .int x3), (4, .int x4), (5, .int 1), (6, .int x6), (7, .int x7)]) ok d_Mo_combine_94 (by rw [hl]; decide) rfl ?_
  refine g_aload_n ok d_Mo_combine_96 rfl (j := 0) rfl ?_
  refine gf_Mo_73 ok d_Mo_combine_97 h1 h4 ?_
  refine g_sipush (v := 150) ok d_Mo_combine_100 (by decide) ?_
  refine g_iload_n ok d_Mo_combine_103 rfl (j := 2) rfl ?_
  refine g_imul ok d_Mo_combine_104 ?_
  refine g_iload ok d_Mo_combine_105 (j := 4) rfl ?_
  refine g_iadd ok d_Mo_combine_107 ?_
  refine g_iald (t := 0) ok rfl d_Mo_combine_108 h5 h8 ?_
  refine g_aload_n ok d_Mo_combine_109 rfl (j := 0) rfl ?_
  refine gf_Mo_73 ok d_Mo_combine_110 h1 h4 ?_
  refine g_sipush (v := 150) ok d_Mo_combine_113 (by decide) ?_
  refine g_iload_n ok d_Mo_combine_116 rfl (j := 3) rfl ?_
  refine g_imul ok d_Mo_combine_117 ?_
  refine g_iload ok d_Mo_combine_118 (j := 7) rfl ?_
  refine g_iadd ok d_Mo_combine_120 ?_
  refine g_iald (t := 0) ok rfl d_Mo_combine_121 h5 h9 ?_
  refine g_iand ok d_Mo_combine_122 ?_
  exact g_if_eq (tgt := 129) ok d_Mo_combine_123 (by decide) (fun z => (kt z)) (fun z => (gg_keep [0, 1, 2, 3, 4, 5, 7] (kf z)))
theorem k_Mo_combine_126 {X : gC} {M : List mC} {k n : Nat} {x0 : Nat} {x1 : Int32} {x2 : Int32} {x3 : Int32} {x4 : Int32} {x5 : Int32} {x7 : Int32} (ok : gO X c_Mo_combine "TripleStoreModel" w_Mo_combine) (hl : gL X = 8)  (kk : gg X M k n 129 [(0, .ref x0), (1, .int x1), (2, .int x2), (3, .int x3), (4, .int x4), (5, .int x5), (6, .int 1), (7, .int x7)] []) : gg X M k n 126 [(0, .ref x0), (1, .int x1), (2, .int x2), (3, .int x3), (4, .int x4), (5, .int x5), (7, .int x7)] [] := by
  refine g_iconst (v := 1) ok d_Mo_combine_126 (by decide) ?_
  refine g_istore (L' := [(0, .ref x0), (1, .int x1), (2, .int x2), (3, .int x3), (4, .int x4), (5, .int x5), (6, .int 1), (7, .int x7)]) ok d_Mo_combine_127 (by rw [hl]; decide) rfl ?_
  exact kk
theorem k_Mo_combine_129 {X : gC} {M : List mC} {k n : Nat} {x0 : Nat} {x1 : Int32} {x2 : Int32} {x3 : Int32} {x4 : Int32} {x5 : Int32} {x6 : Int32} {x7 : Int32} (ok : gO X c_Mo_combine "TripleStoreModel" w_Mo_combine)  (kt : 2 ≤ x1 → gg X M k n 144 [(0, .ref x0), (1, .int x1), (2, .int x2), (3, .int x3), (4, .int x4), (5, .int x5), (6, .int x6), (7, .int x7)] []) (kf : ¬ 2 ≤ x1 → gg X M k n 134 [(0, .ref x0), (1, .int x1), (2, .int x2), (3, .int x3), (4, .int x4), (5, .int x5), (6, .int x6), (7, .int x7)] []) : gg X M k n 129 [(0, .ref x0), (1, .int x1), (2, .int x2), (3, .int x3), (4, .int x4), (5, .int x5), (6, .int x6), (7, .int x7)] [] := by
  refine g_iload_n ok d_Mo_combine_129 rfl (j := 1) rfl ?_
  refine g_iconst (v := 2) ok d_Mo_combine_130 (by decide) ?_
  exact g_icmp_ge (tgt := 144) ok d_Mo_combine_131 (by decide) (fun z => (kt z)) (fun z => (kf z))
theorem k_Mo_combine_134 {X : gC} {M : List mC} {k n : Nat} {x0 : Nat} {x1 : Int32} {x2 : Int32} {x3 : Int32} {x4 : Int32} {x5 : Int32} {x6 : Int32} {x7 : Int32} {fs2 : List Value} (ok : gO X c_Mo_combine "TripleStoreModel" w_Mo_combine) (h1 : M[x0]? = some (.inr (10, fs2))) {rm : Room} {post : Option Value → List mC → Prop} (hm : mm_ (gLa X) y_Mo_join w_Mo_join rm [.ref x0, .int x2, .int x4, .int x3, .int x7] M post) (hR : gF X rm 8 k n) (hlen : ∀ r M', post r M' → M'.length = M.length) (kk : ∀ r M', post r M' → gg X M' (k + rm.cells) (n + rm.slots) 144 [(0, .ref x0), (1, .int x1), (2, .int x2), (3, .int x3), (4, .int x4), (5, .int x5), (6, .int x6), (7, .int x7)] (r.toList ++ [])) : gg X M k n 134 [(0, .ref x0), (1, .int x1), (2, .int x2), (3, .int x3), (4, .int x4), (5, .int x5), (6, .int x6), (7, .int x7)] [] := by
  refine g_aload_n ok d_Mo_combine_134 rfl (j := 0) rfl ?_
  refine g_iload_n ok d_Mo_combine_135 rfl (j := 2) rfl ?_
  refine g_iload ok d_Mo_combine_136 (j := 4) rfl ?_
  refine g_iload_n ok d_Mo_combine_138 rfl (j := 3) rfl ?_
  refine g_iload ok d_Mo_combine_139 (j := 7) rfl ?_
  exact gc_Mo_325 (As := [.int x2, .int x4, .int x3, .int x7]) (rest := []) ok d_Mo_combine_141 hm rfl rfl (Nat.le_of_ble_eq_true rfl) hR h1 hlen kk
theorem k_Mo_combine_144 {X : gC} {M : List mC} {k n : Nat} {x0 : Nat} {x1 : Int32} {x2 : Int32} {x3 : Int32} {x4 : Int32} {x5 : Int32} {x6 : Int32} {x7 : Int32} (ok : gO X c_Mo_combine "TripleStoreModel" w_Mo_combine) (hl : gL X = 8)  (kk : gg X M k n 52 [(0, .ref x0), (1, .int x1), (2, .int x2), (3, .int x3), (4, .int x4), (5, .int x5), (6, .int x6), (7, .int (x7 + 1))] []) : gg X M k n 144 [(0, .ref x0), (1, .int x1), (2, .int x2), (3, .int x3), (4, .int x4), (5, .int x5), (6, .int x6), (7, .int x7)] [] := by
  refine g_iinc (L' := [(0, .ref x0), (1, .int x1), (2, .int x2), (3, .int x3), (4, .int x4), (5, .int x5), (6, .int x6), (7, .int (x7 + 1))]) (v := (x7 + 1)) ok d_Mo_combine_144 (j := 7) rfl rfl (by rw [hl]; decide) rfl ?_
  exact g_goto (tgt := 52) ok d_Mo_combine_147 (by decide) kk
theorem k_Mo_combine_150 {X : gC} {M : List mC} {k n : Nat} {x0 : Nat} {x1 : Int32} {x2 : Int32} {x3 : Int32} {x4 : Int32} {x5 : Int32} {x6 : Int32} (ok : gO X c_Mo_combine "TripleStoreModel" w_Mo_combine)  (kt : ¬ x1 = 1 → gg X M k n 160 [(0, .ref x0), (1, .int x1), (2, .int x2), (3, .int x3), (4, .int x4), (6, .int x6)] []) (kf : x1 = 1 → gg X M k n 155 [(0, .ref x0), (1, .int x1), (2, .int x2), (3, .int x3), (4, .int x4), (5, .int x5), (6, .int x6)] []) : gg X M k n 150 [(0, .ref x0), (1, .int x1), (2, .int x2), (3, .int x3), (4, .int x4), (5, .int x5), (6, .int x6)] [] := by
  refine g_iload_n ok d_Mo_combine_150 rfl (j := 1) rfl ?_
  refine g_iconst (v := 1) ok d_Mo_combine_151 (by decide) ?_
  exact g_icmp_ne (tgt := 160) ok d_Mo_combine_152 (by decide) (fun z => (gg_keep [0, 1, 2, 3, 4, 6] (kt z))) (fun z => (kf z))
theorem k_Mo_combine_155 {X : gC} {M : List mC} {k n : Nat} {x0 : Nat} {x1 : Int32} {x2 : Int32} {x3 : Int32} {x4 : Int32} {x5 : Int32} {x6 : Int32} (ok : gO X c_Mo_combine "TripleStoreModel" w_Mo_combine)  (kt : x5 = 0 → gg X M k n 170 [(0, .ref x0), (1, .int x1), (2, .int x2), (3, .int x3), (4, .int x4)] []) (kf : ¬ x5 = 0 → gg X M k n 160 [(0, .ref x0), (1, .int x1), (2, .int x2), (3, .int x3), (4, .int x4), (6, .int x6)] []) : gg X M k n 155 [(0, .ref x0), (1, .int x1), (2, .int x2), (3, .int x3), (4, .int x4), (5, .int x5), (6, .int x6)] [] := by
  refine g_iload ok d_Mo_combine_155 (j := 5) rfl ?_
  exact g_if_eq (tgt := 170) ok d_Mo_combine_157 (by decide) (fun z => (gg_keep [0, 1, 2, 3, 4] (kt z))) (fun z => (gg_keep [0, 1, 2, 3, 4, 6] (kf z)))
theorem k_Mo_combine_160 {X : gC} {M : List mC} {k n : Nat} {x0 : Nat} {x1 : Int32} {x2 : Int32} {x3 : Int32} {x4 : Int32} {x6 : Int32} (ok : gO X c_Mo_combine "TripleStoreModel" w_Mo_combine)  (kt : ¬ x1 = 2 → gg X M k n 179 [(0, .ref x0), (1, .int x1), (2, .int x2), (3, .int x3), (4, .int x4)] []) (kf : x1 = 2 → gg X M k n 165 [(0, .ref x0), (1, .int x1), (2, .int x2), (3, .int x3), (4, .int x4), (6, .int x6)] []) : gg X M k n 160 [(0, .ref x0), (1, .int x1), (2, .int x2), (3, .int x3), (4, .int x4), (6, .int x6)] [] := by
  refine g_iload_n ok d_Mo_combine_160 rfl (j := 1) rfl ?_
  refine g_iconst (v := 2) ok d_Mo_combine_161 (by decide) ?_
  exact g_icmp_ne (tgt := 179) ok d_Mo_combine_162 (by decide) (fun z => (gg_keep [0, 1, 2, 3, 4] (kt z))) (fun z => (kf z))
theorem k_Mo_combine_165 {X : gC} {M : List mC} {k n : Nat} {x0 : Nat} {x1 : Int32} {x2 : Int32} {x3 : Int32} {x4 : Int32} {x6 : Int32} (ok : gO X c_Mo_combine "TripleStoreModel" w_Mo_combine)  (kt : ¬ x6 = 0 → gg X M k n 179 [(0, .ref x0), (1, .int x1), (2, .int x2), (3, .int x3), (4, .int x4)] []) (kf : x6 = 0 → gg X M k n 170 [(0, .ref x0), (1, .int x1), (2, .int x2), (3, .int x3), (4, .int x4)] []) : gg X M k n 165 [(0, .ref x0), (1, .int x1), (2, .int x2), (3, .int x3), (4, .int x4), (6, .int x6)] [] := by
  refine g_iload ok d_Mo_combine_165 (j := 5) rfl ?_
  exact g_if_ne (tgt := 179) ok d_Mo_combine_167 (by decide) (fun z => (gg_keep [0, 1, 2, 3, 4] (kt z))) (fun z => (gg_keep [0, 1, 2, 3, 4] (kf z)))
theorem k_Mo_combine_170 {X : gC} {M : List mC} {k n : Nat} {x0 : Nat} {x1 : Int32} {x2 : Int32} {x3 : Int32} {x4 : Int32} {fs2 : List Value} (ok : gO X c_Mo_combine "TripleStoreModel" w_Mo_combine) (h1 : M[x0]? = some (.inr (10, fs2))) {rm : Room} {post : Option Value → List mC → Prop} (hm : mm_ (gLa X) y_Mo_addTo w_Mo_addTo rm [.ref x0, .int 10, .int x2, .int x4] M post) (hR : gF X rm 6 k n) (hlen : ∀ r M', post r M' → M'.length = M.length) (kk : ∀ r M', post r M' → gg X M' (k + rm.cells) (n + rm.slots) 179 [(0, .ref x0), (1, .int x1), (2, .int x2), (3, .int x3), (4, .int x4)] (r.toList ++ [])) : gg X M k n 170 [(0, .ref x0), (1, .int x1), (2, .int x2), (3, .int x3), (4, .int x4)] [] := by
  refine g_aload_n ok d_Mo_combine_170 rfl (j := 0) rfl ?_
  refine g_bipush (v := 10) ok d_Mo_combine_171 (by decide) ?_
  refine g_iload_n ok d_Mo_combine_173 rfl (j := 2) rfl ?_
  refine g_iload ok d_Mo_combine_174 (j := 4) rfl ?_
  exact gc_Mo_314 (As := [.int 10, .int x2, .int x4]) (rest := []) ok d_Mo_combine_176 hm rfl rfl (Nat.le_of_ble_eq_true rfl) hR h1 hlen kk
theorem k_Mo_combine_179 {X : gC} {M : List mC} {k n : Nat} {x0 : Nat} {x1 : Int32} {x2 : Int32} {x3 : Int32} {x4 : Int32} (ok : gO X c_Mo_combine "TripleStoreModel" w_Mo_combine) (hl : gL X = 8)  (kk : gg X M k n 25 [(0, .ref x0), (1, .int x1), (2, .int x2), (3, .int x3), (4, .int (x4 + 1))] []) : gg X M k n 179 [(0, .ref x0), (1, .int x1), (2, .int x2), (3, .int x3), (4, .int x4)] [] := by
  refine g_iinc (L' := [(0, .ref x0), (1, .int x1), (2, .int x2), (3, .int x3), (4, .int (x4 + 1))]) (v := (x4 + 1)) ok d_Mo_combine_179 (j := 4) rfl rfl (by rw [hl]; decide) rfl ?_
  exact g_goto (tgt := 25) ok d_Mo_combine_182 (by decide) kk
theorem k_Mo_combine_185 {X : gC} {M : List mC} {k n : Nat} {x0 : Nat} {x2 : Int32} {fs2 : List Value} {f3 : Int32} {M7 : List mC} {f11 : Int32} (ok : gO X c_Mo_combine "TripleStoreModel" w_Mo_combine) (h1 : M[x0]? = some (.inr (10, fs2))) (h4 : fs2[50]? = some (.int f3)) (h6 : 59 ≤ fs2.length) (h8 : M.set x0 (.inr (10, (fs2.set 50 (.int (f3 - 1))))) = M7) (h12 : fs2[51]? = some (.int f11)) (kt : ¬ f11 = 0 → gg X M7 k n 209 [] []) (kf : f11 = 0 → gg X M7 k n 202 [(0, .ref x0), (2, .int x2)] []) : gg X M k n 185 [(0, .ref x0), (2, .int x2)] [] := by
  refine g_aload_n ok d_Mo_combine_185 rfl (j := 0) rfl ?_
  refine g_dup ok d_Mo_combine_186 rfl ?_
  refine gf_Mo_318 ok d_Mo_combine_187 h1 h4 ?_
  refine g_iconst (v := 1) ok d_Mo_combine_190 (by decide) ?_
  refine g_isub ok d_Mo_combine_191 ?_
  have h5 : 50 < (fs2).length := by first | omega | (simp only [List.length_set]; omega)
  refine pf_Mo_318 ok d_Mo_combine_192 h1 h5 (fun _ => ⟨rfl, rfl⟩) ?_
  rw [h8]
  have h9 : M7[x0]? = some (.inr (10, (fs2.set 50 (.int (f3 - 1))))) := by rw [← h8]; exact gs_eq h1
  have h10 : (fs2.set 50 (.int (f3 - 1)))[50]? = some (.int (f3 - 1)) := List.getElem?_set_self h5
  refine g_aload_n ok d_Mo_combine_195 rfl (j := 0) rfl ?_
  have h13 := (List.getElem?_set_ne (a := .int (f3 - 1)) (by decide : 50 ≠ 51)).trans h12
  refine gf_Mo_311 ok d_Mo_combine_196 h9 h13 ?_
  exact g_if_ne (tgt := 209) ok d_Mo_combine_199 (by decide) (fun z => (gg_keep [] (kt z))) (fun z => (kf z))
theorem k_Mo_combine_202 {X : gC} {M : List mC} {k n : Nat} {x0 : Nat} {x2 : Int32} {fs2 : List Value} (ok : gO X c_Mo_combine "TripleStoreModel" w_Mo_combine) (h1 : M[x0]? = some (.inr (10, fs2))) {rm : Room} {post : Option Value → List mC → Prop} (hm : mm_ (gLa X) y_Mo_copy w_Mo_copy rm [.ref x0, .int 10, .int x2] M post) (hR : gF X rm 4 k n) (hlen : ∀ r M', post r M' → M'.length = M.length) (kk : ∀ r M', post r M' → gg X M' (k + rm.cells) (n + rm.slots) 209 [] (r.toList ++ [])) : gg X M k n 202 [(0, .ref x0), (2, .int x2)] [] := by
  refine g_aload_n ok d_Mo_combine_202 rfl (j := 0) rfl ?_
  refine g_bipush (v := 10) ok d_Mo_combine_203 (by decide) ?_
  refine g_iload_n ok d_Mo_combine_205 rfl (j := 1) rfl ?_
  exact gc_Mo_329 (As := [.int 10, .int x2]) (rest := []) ok d_Mo_combine_206 hm rfl rfl (Nat.le_of_ble_eq_true rfl) hR h1 hlen (fun r M' q => (gg_keep [] (kk r M' q)))
theorem k_Mo_combine_209 {X : gC} {M : List mC} {k n : Nat}  (ok : gO X c_Mo_combine "TripleStoreModel" w_Mo_combine)  {l9 : Launch} {rm : Room} {M0 : List mC} {post : Option Value → List mC → Prop} (E : gE X l9 y_Mo_combine rm 8 none M0 post) (hp : post (none) M) (hk : k ≤ rm.cells) (hn : n ≤ rm.slots) : gg X M k n 209 [] [] := by
  exact g_vret ok E d_Mo_combine_209 hp hk hn
theorem k_Mo_match_0 {X : gC} {M : List mC} {k n : Nat} {x0 : Nat} {x1 : Int32} {fs2 : List Value} {f3 : Int32} {f5 : Nat} {g8 : Nat → Int32} {N9 : Nat} {M11 : List mC} {M17 : List mC} (ok : gO X c_Mo_match "TripleStoreModel" w_Mo_match) (hl : gL X = 10) (h1 : M[x0]? = some (.inr (10, fs2))) (h4 : fs2[50]? = some (.int f3)) (h6 : fs2[49]? = some (.ref f5)) (h7 : M[f5]? = some (.inl (0, N9, .inl g8))) (h10 : vp_in f3 N9) (h12 : M.set f5 (.inl (0, N9, .inl (upd g8 f3.toNatClampNeg 0))) = M11) (h16 : 59 ≤ fs2.length) (h18 : M11.set x0 (.inr (10, (fs2.set 50 (.int (f3 + 1))))) = M17) (kk : gg X M17 k n 24 [(0, .ref x0), (1, .int x1), (2, .int f3), (3, .int 0)] []) : gg X M k n 0 [(0, .ref x0), (1, .int x1)] [] := by
  refine g_aload_n ok d_Mo_match_0 rfl (j := 0) rfl ?_
  refine gf_Mo_318 ok d_Mo_match_1 h1 h4 ?_
  refine g_istore_n (L' := [(0, .ref x0), (1, .int x1), (2, .int f3)]) ok d_Mo_match_4 rfl (by rw [hl]; decide) rfl ?_
  refine g_aload_n ok d_Mo_match_5 rfl (j := 0) rfl ?_
  refine gf_Mo_76 ok d_Mo_match_6 h1 h6 ?_
  refine g_iload_n ok d_Mo_match_9 rfl (j := 2) rfl ?_
  refine g_iconst (v := 0) ok d_Mo_match_10 (by decide) ?_
  refine g_iast (t := 0) ok rfl d_Mo_match_11 h7 h10 ?_
  rw [h12]
  have h13 : M11[f5]? = some (.inl (0, N9, .inl (upd g8 f3.toNatClampNeg 0))) := by rw [← h12]; exact gs_eq h7
  refine g_aload_n ok d_Mo_match_12 rfl (j := 0) rfl ?_
  refine g_dup ok d_Mo_match_13 rfl ?_
  have h14 : M11[x0]? = some (.inr (10, fs2)) := by rw [← h12]; exact (gs_ne (ne_ao h7 h1)).trans h1
  refine gf_Mo_318 ok d_Mo_match_14 h14 h4 ?_
  refine g_iconst (v := 1) ok d_Mo_match_17 (by decide) ?_
  refine g_iadd ok d_Mo_match_18 ?_
  have h15 : 50 < (fs2).length := by first | omega | (simp only [List.length_set]; omega)
  refine pf_Mo_318 ok d_Mo_match_19 h14 h15 (fun _ => ⟨rfl, rfl⟩) ?_
  rw [h18]
  have h19 : M17[x0]? = some (.inr (10, (fs2.set 50 (.int (f3 + 1))))) := by rw [← h18]; exact gs_eq h14
  have h20 := (List.getElem?_set_ne (a := .int (f3 + 1)) (by decide : 50 ≠ 49)).trans h6
  have h21 : (fs2.set 50 (.int (f3 + 1)))[50]? = some (.int (f3 + 1)) := List.getElem?_set_self h15
  refine g_iconst (v := 0) ok d_Mo_match_22 (by decide) ?_
  refine g_istore_n (L' := [(0, .ref x0), (1, .int x1), (2, .int f3), (3, .int 0)]) ok d_Mo_match_23 rfl (by rw [hl]; decide) rfl ?_
  exact kk
theorem k_Mo_match_24 {X : gC} {M : List mC} {k n : Nat} {x0 : Nat} {x1 : Int32} {x2 : Int32} {x3 : Int32} {fs2 : List Value} {f3 : Int32} (ok : gO X c_Mo_match "TripleStoreModel" w_Mo_match) (h1 : M[x0]? = some (.inr (10, fs2))) (h4 : fs2[1]? = some (.int f3)) (kt : f3 ≤ x3 → gg X M k n 227 [] []) (kf : ¬ f3 ≤ x3 → gg X M k n 32 [(0, .ref x0), (1, .int x1), (2, .int x2), (3, .int x3)] []) : gg X M k n 24 [(0, .ref x0), (1, .int x1), (2, .int x2), (3, .int x3)] [] := by
  refine g_iload_n ok d_Mo_match_24 rfl (j := 3) rfl ?_
  refine g_aload_n ok d_Mo_match_25 rfl (j := 0) rfl ?_
  refine gf_Mo_102 ok d_Mo_match_26 h1 h4 ?_
  exact g_icmp_ge (tgt := 227) ok d_Mo_match_29 (by decide) (fun z => (gg_keep [] (kt z))) (fun z => (kf z))
theorem k_Mo_match_32 {X : gC} {M : List mC} {k n : Nat} {x0 : Nat} {x1 : Int32} {x2 : Int32} {x3 : Int32} {fs2 : List Value} {f3 : Nat} {g6 : Nat → Int32} {N7 : Nat} {f9 : Nat} {g12 : Nat → Int32} {N13 : Nat} {M15 : List mC} (ok : gO X c_Mo_match "TripleStoreModel" w_Mo_match) (hl : gL X = 10) (h1 : M[x0]? = some (.inr (10, fs2))) (h4 : fs2[49]? = some (.ref f3)) (h5 : M[f3]? = some (.inl (0, N7, .inl g6))) (h8 : vp_in x2 N7) (h10 : fs2[48]? = some (.ref f9)) (h11 : M[f9]? = some (.inl (0, N13, .inl g12))) (h14 : vp_in ((150 * x2) + (g6 x2.toNatClampNeg)) N13) (h16 : M.set f9 (.inl (0, N13, .inl (upd g12 ((150 * x2) + (g6 x2.toNatClampNeg)).toNatClampNeg 0))) = M15) (kk : gg X M15 k n 60 [(0, .ref x0), (1, .int x1), (2, .int x2), (3, .int x3), (4, .int ((150 * x2) + (g6 x2.toNatClampNeg))), (5, .int 1), (6, .int 0)] []) : gg X M k n 32 [(0, .ref x0), (1, .int x1), (2, .int x2), (3, .int x3)] [] := by
  refine g_sipush (v := 150) ok d_Mo_match_32 (by decide) ?_
  refine g_iload_n ok d_Mo_match_35 rfl (j := 2) rfl ?_
  refine g_imul ok d_Mo_match_36 ?_
  refine g_aload_n ok d_Mo_match_37 rfl (j := 0) rfl ?_
  refine gf_Mo_76 ok d_Mo_match_38 h1 h4 ?_
  refine g_iload_n ok d_Mo_match_41 rfl (j := 2) rfl ?_
  refine g_iald (t := 0) ok rfl d_Mo_match_42 h5 h8 ?_
  refine g_iadd ok d_Mo_match_43 ?_
  refine g_istore (L' := [(0, .ref x0), (1, .int x1), (2, .int x2), (3, .int x3), (4, .int ((150 * x2) + (g6 x2.toNatClampNeg)))]) ok d_Mo_match_44 (by rw [hl]; decide) rfl ?_
  refine g_aload_n ok d_Mo_match_46 rfl (j := 0) rfl ?_
  refine gf_Mo_73 ok d_Mo_match_47 h1 h10 ?_
  refine g_iload ok d_Mo_match_50 (j := 4) rfl ?_
  refine g_iconst (v := 0) ok d_Mo_match_52 (by decide) ?_
  refine g_iast (t := 0) ok rfl d_Mo_match_53 h11 h14 ?_
  rw [h16]
  have h17 : M15[f9]? = some (.inl (0, N13, .inl (upd g12 ((150 * x2) + (g6 x2.toNatClampNeg)).toNatClampNeg 0))) := by rw [← h16]; exact gs_eq h11
  refine g_iconst (v := 1) ok d_Mo_match_54 (by decide) ?_
  refine g_istore (L' := [(0, .ref x0), (1, .int x1), (2, .int x2), (3, .int x3), (4, .int ((150 * x2) + (g6 x2.toNatClampNeg))), (5, .int 1)]) ok d_Mo_match_55 (by rw [hl]; decide) rfl ?_
  refine g_iconst (v := 0) ok d_Mo_match_57 (by decide) ?_
  refine g_istore (L' := [(0, .ref x0), (1, .int x1), (2, .int x2), (3, .int x3), (4, .int ((150 * x2) + (g6 x2.toNatClampNeg))), (5, .int 1), (6, .int 0)]) ok d_Mo_match_58 (by rw [hl]; decide) rfl ?_
  exact kk
theorem k_Mo_match_60 {X : gC} {M : List mC} {k n : Nat} {x0 : Nat} {x1 : Int32} {x2 : Int32} {x3 : Int32} {x4 : Int32} {x5 : Int32} {x6 : Int32} (ok : gO X c_Mo_match "TripleStoreModel" w_Mo_match)  (kt : 3 ≤ x6 → gg X M k n 206 [(0, .ref x0), (1, .int x1), (2, .int x2), (3, .int x3), (5, .int x5)] []) (kf : ¬ 3 ≤ x6 → gg X M k n 66 [(0, .ref x0), (1, .int x1), (2, .int x2), (3, .int x3), (4, .int x4), (5, .int x5), (6, .int x6)] []) : gg X M k n 60 [(0, .ref x0), (1, .int x1), (2, .int x2), (3, .int x3), (4, .int x4), (5, .int x5), (6, .int x6)] [] := by
  refine g_iload ok d_Mo_match_60 (j := 6) rfl ?_
  refine g_iconst (v := 3) ok d_Mo_match_62 (by decide) ?_
  exact g_icmp_ge (tgt := 206) ok d_Mo_match_63 (by decide) (fun z => (gg_keep [0, 1, 2, 3, 5] (kt z))) (fun z => (kf z))
theorem k_Mo_match_66 {X : gC} {M : List mC} {k n : Nat} {x0 : Nat} {x1 : Int32} {x2 : Int32} {x3 : Int32} {x4 : Int32} {x5 : Int32} {x6 : Int32} {fs2 : List Value} {f3 : Nat} {g6 : Nat → Int64} {N7 : Nat} {f9 : Nat} {g12 : Nat → Int32} {N13 : Nat} (ok : gO X c_Mo_match "TripleStoreModel" w_Mo_match) (hl : gL X = 10) (h1 : M[x0]? = some (.inr (10, fs2))) (h4 : fs2[0]? = some (.ref f3)) (h5 : M[f3]? = some (.inl (1, N7, .inr (.inl g6)))) (h8 : vp_in ((3 * x3) + x6) N7) (h10 : fs2[33]? = some (.ref f9)) (h11 : M[f9]? = some (.inl (0, N13, .inl g12))) (h14 : vp_in (x1 + x6) N13) (kt : 0 ≤ (g12 (x1 + x6).toNatClampNeg) → gg X M k n 123 [(0, .ref x0), (1, .int x1), (2, .int x2), (3, .int x3), (4, .int x4), (5, .int x5), (6, .int x6), (7, .long (g6 ((3 * x3) + x6).toNatClampNeg)), (9, .int (g12 (x1 + x6).toNatClampNeg))] []) (kf : ¬ 0 ≤ (g12 (x1 + x6).toNatClampNeg) → gg X M k n 95 [(0, .ref x0), (1, .int x1), (2, .int x2), (3, .int x3), (4, .int x4), (5, .int x5), (6, .int x6), (7, .long (g6 ((3 * x3) + x6).toNatClampNeg))] []) : gg X M k n 66 [(0, .ref x0), (1, .int x1), (2, .int x2), (3, .int x3), (4, .int x4), (5, .int x5), (6, .int x6)] [] := by
  refine g_aload_n ok d_Mo_match_66 rfl (j := 0) rfl ?_
  refine gf_Mo_7 ok d_Mo_match_67 h1 h4 ?_
  refine g_iconst (v := 3) ok d_Mo_match_70 (by decide) ?_
  refine g_iload_n ok d_Mo_match_71 rfl (j := 3) rfl ?_
  refine g_imul ok d_Mo_match_72 ?_
  refine g_iload ok d_Mo_match_73 (j := 6) rfl ?_
  refine g_iadd ok d_Mo_match_75 ?_
  refine g_lald (t := 1) ok rfl d_Mo_match_76 h5 h8 ?_
  refine g_lstore (L' := [(0, .ref x0), (1, .int x1), (2, .int x2), (3, .int x3), (4, .int x4), (5, .int x5), (6, .int x6), (7, .long (g6 ((3 * x3) + x6).toNatClampNeg))]) ok d_Mo_match_77 (by rw [hl]; decide) rfl ?_
  refine g_aload_n ok d_Mo_match_79 rfl (j := 0) rfl ?_
  refine gf_Mo_49 ok d_Mo_match_80 h1 h10 ?_
  refine g_iload_n ok d_Mo_match_83 rfl (j := 1) rfl ?_
  refine g_iload ok d_Mo_match_84 (j := 6) rfl ?_
  refine g_iadd ok d_Mo_match_86 ?_
  refine g_iald (t := 0) ok rfl d_Mo_match_87 h11 h14 ?_
  refine g_istore (L' := [(0, .ref x0), (1, .int x1), (2, .int x2), (3, .int x3), (4, .int x4), (5, .int x5), (6, .int x6), (7, .long (g6 ((3 * x3) + x6).toNatClampNeg)), (9, .int (g12 (x1 + x6).toNatClampNeg))]) ok d_Mo_match_88 (by rw [hl]; decide) rfl ?_
  refine g_iload ok d_Mo_match_90 (j := 8) rfl ?_
  exact g_if_ge (tgt := 123) ok d_Mo_match_92 (by decide) (fun z => (kt z)) (fun z => (gg_keep [0, 1, 2, 3, 4, 5, 6, 7] (kf z)))
theorem k_Mo_match_95 {X : gC} {M : List mC} {k n : Nat} {x0 : Nat} {x1 : Int32} {x2 : Int32} {x3 : Int32} {x4 : Int32} {x5 : Int32} {x6 : Int32} {x7 : Int64} {fs2 : List Value} {f3 : Nat} {g6 : Nat → Int64} {N7 : Nat} (ok : gO X c_Mo_match "TripleStoreModel" w_Mo_match) (h1 : M[x0]? = some (.inr (10, fs2))) (h4 : fs2[34]? = some (.ref f3)) (h5 : M[f3]? = some (.inl (1, N7, .inr (.inl g6)))) (h8 : vp_in (x1 + x6) N7) (kt : ¬ (g6 (x1 + x6).toNatClampNeg) = x7 → gg X M k n 116 [(0, .ref x0), (1, .int x1), (2, .int x2), (3, .int x3), (4, .int x4), (6, .int x6)] [.int x5]) (kf : (g6 (x1 + x6).toNatClampNeg) = x7 → gg X M k n 112 [(0, .ref x0), (1, .int x1), (2, .int x2), (3, .int x3), (4, .int x4), (6, .int x6)] [.int x5]) : gg X M k n 95 [(0, .ref x0), (1, .int x1), (2, .int x2), (3, .int x3), (4, .int x4), (5, .int x5), (6, .int x6), (7, .long x7)] [] := by
  refine g_iload ok d_Mo_match_95 (j := 5) rfl ?_
  refine g_aload_n ok d_Mo_match_97 rfl (j := 0) rfl ?_
  refine gf_Mo_52 ok d_Mo_match_98 h1 h4 ?_
  refine g_iload_n ok d_Mo_match_101 rfl (j := 1) rfl ?_
  refine g_iload ok d_Mo_match_102 (j := 6) rfl ?_
  refine g_iadd ok d_Mo_match_104 ?_
  refine g_lald (t := 1) ok rfl d_Mo_match_105 h5 h8 ?_
  refine g_lload ok d_Mo_match_106 (j := 7) rfl ?_
  exact g_lc_ne (tgt := 116) ok d_Mo_match_108 d_Mo_match_109 (by decide) (fun z => (gg_keep [0, 1, 2, 3, 4, 6] (kt z))) (fun z => (gg_keep [0, 1, 2, 3, 4, 6] (kf z)))
theorem k_Mo_match_112 {X : gC} {M : List mC} {k n : Nat} {x0 : Nat} {x1 : Int32} {x2 : Int32} {x3 : Int32} {x4 : Int32} {x6 : Int32} {s0 : Int32} (ok : gO X c_Mo_match "TripleStoreModel" w_Mo_match)  (kk : gg X M k n 117 [(0, .ref x0), (1, .int x1), (2, .int x2), (3, .int x3), (4, .int x4), (6, .int x6)] [.int 1, .int s0]) : gg X M k n 112 [(0, .ref x0), (1, .int x1), (2, .int x2), (3, .int x3), (4, .int x4), (6, .int x6)] [.int s0] := by
  refine g_iconst (v := 1) ok d_Mo_match_112 (by decide) ?_
  exact g_goto (tgt := 117) ok d_Mo_match_113 (by decide) kk
theorem k_Mo_match_116 {X : gC} {M : List mC} {k n : Nat} {x0 : Nat} {x1 : Int32} {x2 : Int32} {x3 : Int32} {x4 : Int32} {x6 : Int32} {s0 : Int32} (ok : gO X c_Mo_match "TripleStoreModel" w_Mo_match)  (kk : gg X M k n 117 [(0, .ref x0), (1, .int x1), (2, .int x2), (3, .int x3), (4, .int x4), (6, .int x6)] [.int 0, .int s0]) : gg X M k n 116 [(0, .ref x0), (1, .int x1), (2, .int x2), (3, .int x3), (4, .int x4), (6, .int x6)] [.int s0] := by
  refine g_iconst (v := 0) ok d_Mo_match_116 (by decide) ?_
  exact kk
theorem k_Mo_match_117 {X : gC} {M : List mC} {k n : Nat} {x0 : Nat} {x1 : Int32} {x2 : Int32} {x3 : Int32} {x4 : Int32} {x6 : Int32} {s0 : Int32} {s1 : Int32} (ok : gO X c_Mo_match "TripleStoreModel" w_Mo_match) (hl : gL X = 10)  (kk : gg X M k n 200 [(0, .ref x0), (1, .int x1), (2, .int x2), (3, .int x3), (4, .int x4), (5, .int (s0 &&& s1)), (6, .int x6)] []) : gg X M k n 117 [(0, .ref x0), (1, .int x1), (2, .int x2), (3, .int x3), (4, .int x4), (6, .int x6)] [.int s1, .int s0] := by
  refine g_iand ok d_Mo_match_117 ?_
  refine g_istore (L' := [(0, .ref x0), (1, .int x1), (2, .int x2), (3, .int x3), (4, .int x4), (5, .int (s0 &&& s1)), (6, .int x6)]) ok d_Mo_match_118 (by rw [hl]; decide) rfl ?_
  exact g_goto (tgt := 200) ok d_Mo_match_120 (by decide) kk
theorem k_Mo_match_123 {X : gC} {M : List mC} {k n : Nat} {x0 : Nat} {x1 : Int32} {x2 : Int32} {x3 : Int32} {x4 : Int32} {x5 : Int32} {x6 : Int32} {x7 : Int64} {x9 : Int32} {fs2 : List Value} {f3 : Nat} {g6 : Nat → Int32} {N7 : Nat} (ok : gO X c_Mo_match "TripleStoreModel" w_Mo_match) (h1 : M[x0]? = some (.inr (10, fs2))) (h4 : fs2[48]? = some (.ref f3)) (h5 : M[f3]? = some (.inl (0, N7, .inl g6))) (h8 : vp_in x4 N7) (kt : ¬ (((g6 x4.toNatClampNeg) >>> (x9 &&& 31)) &&& 1) = 1 → gg X M k n 171 [(0, .ref x0), (1, .int x1), (2, .int x2), (3, .int x3), (4, .int x4), (5, .int x5), (6, .int x6), (7, .long x7), (9, .int x9)] []) (kf : (((g6 x4.toNatClampNeg) >>> (x9 &&& 31)) &&& 1) = 1 → gg X M k n 139 [(0, .ref x0), (1, .int x1), (2, .int x2), (3, .int x3), (4, .int x4), (5, .int x5), (6, .int x6), (7, .long x7), (9, .int x9)] []) : gg X M k n 123 [(0, .ref x0), (1, .int x1), (2, .int x2), (3, .int x3), (4, .int x4), (5, .int x5), (6, .int x6), (7, .long x7), (9, .int x9)] [] := by
  refine g_aload_n ok d_Mo_match_123 rfl (j := 0) rfl ?_
  refine gf_Mo_73 ok d_Mo_match_124 h1 h4 ?_
  refine g_iload ok d_Mo_match_127 (j := 4) rfl ?_
  refine g_iald (t := 0) ok rfl d_Mo_match_129 h5 h8 ?_
  refine g_iload ok d_Mo_match_130 (j := 8) rfl ?_
  refine g_ishr ok d_Mo_match_132 ?_
  refine g_iconst (v := 1) ok d_Mo_match_133 (by decide) ?_
  refine g_iand ok d_Mo_match_134 ?_
  refine g_iconst (v := 1) ok d_Mo_match_135 (by decide) ?_
  exact g_icmp_ne (tgt := 171) ok d_Mo_match_136 (by decide) (fun z => (kt z)) (fun z => (kf z))
theorem k_Mo_match_139 {X : gC} {M : List mC} {k n : Nat} {x0 : Nat} {x1 : Int32} {x2 : Int32} {x3 : Int32} {x4 : Int32} {x5 : Int32} {x6 : Int32} {x7 : Int64} {x9 : Int32} {fs2 : List Value} {f3 : Nat} {g6 : Nat → Int64} {N7 : Nat} (ok : gO X c_Mo_match "TripleStoreModel" w_Mo_match) (h1 : M[x0]? = some (.inr (10, fs2))) (h4 : fs2[47]? = some (.ref f3)) (h5 : M[f3]? = some (.inl (1, N7, .inr (.inl g6)))) (h8 : vp_in ((6 * x4) + x9) N7) (kt : ¬ (g6 ((6 * x4) + x9).toNatClampNeg) = x7 → gg X M k n 164 [(0, .ref x0), (1, .int x1), (2, .int x2), (3, .int x3), (4, .int x4), (6, .int x6)] [.int x5]) (kf : (g6 ((6 * x4) + x9).toNatClampNeg) = x7 → gg X M k n 160 [(0, .ref x0), (1, .int x1), (2, .int x2), (3, .int x3), (4, .int x4), (6, .int x6)] [.int x5]) : gg X M k n 139 [(0, .ref x0), (1, .int x1), (2, .int x2), (3, .int x3), (4, .int x4), (5, .int x5), (6, .int x6), (7, .long x7), (9, .int x9)] [] := by
  refine g_iload ok d_Mo_match_139 (j := 5) rfl ?_
  refine g_aload_n ok d_Mo_match_141 rfl (j := 0) rfl ?_
  refine gf_Mo_70 ok d_Mo_match_142 h1 h4 ?_
  refine g_bipush (v := 6) ok d_Mo_match_145 (by decide) ?_
  refine g_iload ok d_Mo_match_147 (j := 4) rfl ?_
  refine g_imul ok d_Mo_match_149 ?_
  refine g_iload ok d_Mo_match_150 (j := 8) rfl ?_
  refine g_iadd ok d_Mo_match_152 ?_
  refine g_lald (t := 1) ok rfl d_Mo_match_153 h5 h8 ?_
  refine g_lload ok d_Mo_match_154 (j := 7) rfl ?_
  exact g_lc_ne (tgt := 164) ok d_Mo_match_156 d_Mo_match_157 (by decide) (fun z => (gg_keep [0, 1, 2, 3, 4, 6] (kt z))) (fun z => (gg_keep [0, 1, 2, 3, 4, 6] (kf z)))
theorem k_Mo_match_160 {X : gC} {M : List mC} {k n : Nat} {x0 : Nat} {x1 : Int32} {x2 : Int32} {x3 : Int32} {x4 : Int32} {x6 : Int32} {s0 : Int32} (ok : gO X c_Mo_match "TripleStoreModel" w_Mo_match)  (kk : gg X M k n 165 [(0, .ref x0), (1, .int x1), (2, .int x2), (3, .int x3), (4, .int x4), (6, .int x6)] [.int 1, .int s0]) : gg X M k n 160 [(0, .ref x0), (1, .int x1), (2, .int x2), (3, .int x3), (4, .int x4), (6, .int x6)] [.int s0] := by
  refine g_iconst (v := 1) ok d_Mo_match_160 (by decide) ?_
  exact g_goto (tgt := 165) ok d_Mo_match_161 (by decide) kk
theorem k_Mo_match_164 {X : gC} {M : List mC} {k n : Nat} {x0 : Nat} {x1 : Int32} {x2 : Int32} {x3 : Int32} {x4 : Int32} {x6 : Int32} {s0 : Int32} (ok : gO X c_Mo_match "TripleStoreModel" w_Mo_match)  (kk : gg X M k n 165 [(0, .ref x0), (1, .int x1), (2, .int x2), (3, .int x3), (4, .int x4), (6, .int x6)] [.int 0, .int s0]) : gg X M k n 164 [(0, .ref x0), (1, .int x1), (2, .int x2), (3, .int x3), (4, .int x4), (6, .int x6)] [.int s0] := by
  refine g_iconst (v := 0) ok d_Mo_match_164 (by decide) ?_
  exact kk
theorem k_Mo_match_165 {X : gC} {M : List mC} {k n : Nat} {x0 : Nat} {x1 : Int32} {x2 : Int32} {x3 : Int32} {x4 : Int32} {x6 : Int32} {s0 : Int32} {s1 : Int32} (ok : gO X c_Mo_match "TripleStoreModel" w_Mo_match) (hl : gL X = 10)  (kk : gg X M k n 200 [(0, .ref x0), (1, .int x1), (2, .int x2), (3, .int x3), (4, .int x4), (5, .int (s0 &&& s1)), (6, .int x6)] []) : gg X M k n 165 [(0, .ref x0), (1, .int x1), (2, .int x2), (3, .int x3), (4, .int x4), (6, .int x6)] [.int s1, .int s0] := by
  refine g_iand ok d_Mo_match_165 ?_
  refine g_istore (L' := [(0, .ref x0), (1, .int x1), (2, .int x2), (3, .int x3), (4, .int x4), (5, .int (s0 &&& s1)), (6, .int x6)]) ok d_Mo_match_166 (by rw [hl]; decide) rfl ?_
  exact g_goto (tgt := 200) ok d_Mo_match_168 (by decide) kk
theorem k_Mo_match_171 {X : gC} {M : List mC} {k n : Nat} {x0 : Nat} {x1 : Int32} {x2 : Int32} {x3 : Int32} {x4 : Int32} {x5 : Int32} {x6 : Int32} {x7 : Int64} {x9 : Int32} {fs2 : List Value} {f3 : Nat} {g6 : Nat → Int32} {N7 : Nat} {M10 : List mC} {f14 : Nat} {g17 : Nat → Int64} {N18 : Nat} {M22 : List mC} (ok : gO X c_Mo_match "TripleStoreModel" w_Mo_match) (h1 : M[x0]? = some (.inr (10, fs2))) (h4 : fs2[48]? = some (.ref f3)) (h5 : M[f3]? = some (.inl (0, N7, .inl g6))) (h8 : vp_in x4 N7) (h9 : vp_in x4 N7) (h11 : M.set f3 (.inl (0, N7, .inl (upd g6 x4.toNatClampNeg ((g6 x4.toNatClampNeg) ||| (1 <<< (x9 &&& 31)))))) = M10) (h15 : fs2[47]? = some (.ref f14)) (h16 : M[f14]? = some (.inl (1, N18, .inr (.inl g17)))) (h20 : f14 ≠ f3) (h21 : vp_in ((6 * x4) + x9) N18) (h23 : M10.set f14 (.inl (1, N18, .inr (.inl (vp_updL g17 ((6 * x4) + x9).toNatClampNeg x7)))) = M22) (kk : gg X M22 k n 200 [(0, .ref x0), (1, .int x1), (2, .int x2), (3, .int x3), (4, .int x4), (5, .int x5), (6, .int x6)] []) : gg X M k n 171 [(0, .ref x0), (1, .int x1), (2, .int x2), (3, .int x3), (4, .int x4), (5, .int x5), (6, .int x6), (7, .long x7), (9, .int x9)] [] := by
  refine g_aload_n ok d_Mo_match_171 rfl (j := 0) rfl ?_
  refine gf_Mo_73 ok d_Mo_match_172 h1 h4 ?_
  refine g_iload ok d_Mo_match_175 (j := 4) rfl ?_
  refine g_dup2_11 ok d_Mo_match_177 rfl rfl ?_
  refine g_iald (t := 0) ok rfl d_Mo_match_178 h5 h8 ?_
  refine g_iconst (v := 1) ok d_Mo_match_179 (by decide) ?_
  refine g_iload ok d_Mo_match_180 (j := 8) rfl ?_
  refine g_ishl ok d_Mo_match_182 ?_
  refine g_ior ok d_Mo_match_183 ?_
  refine g_iast (t := 0) ok rfl d_Mo_match_184 h5 h9 ?_
  rw [h11]
  have h12 : M10[f3]? = some (.inl (0, N7, .inl (upd g6 x4.toNatClampNeg ((g6 x4.toNatClampNeg) ||| (1 <<< (x9 &&& 31)))))) := by rw [← h11]; exact gs_eq h5
  refine g_aload_n ok d_Mo_match_185 rfl (j := 0) rfl ?_
  have h13 : M10[x0]? = some (.inr (10, fs2)) := by rw [← h11]; exact (gs_ne (ne_ao h5 h1)).trans h1
  refine gf_Mo_70 ok d_Mo_match_186 h13 h15 ?_
  refine g_bipush (v := 6) ok d_Mo_match_189 (by decide) ?_
  refine g_iload ok d_Mo_match_191 (j := 4) rfl ?_
  refine g_imul ok d_Mo_match_193 ?_
  refine g_iload ok d_Mo_match_194 (j := 8) rfl ?_
  refine g_iadd ok d_Mo_match_196 ?_
  refine g_lload ok d_Mo_match_197 (j := 7) rfl ?_
  have h19 : M10[f14]? = some (.inl (1, N18, .inr (.inl g17))) := by rw [← h11]; exact (gs_ne (Ne.symm h20)).trans h16
  refine g_last (t := 1) ok rfl d_Mo_match_199 h19 h21 ?_
  rw [h23]
  have h24 : M22[f14]? = some (.inl (1, N18, .inr (.inl (vp_updL g17 ((6 * x4) + x9).toNatClampNeg x7)))) := by rw [← h23]; exact gs_eq h19
  exact (gg_keep [0, 1, 2, 3, 4, 5, 6] kk)
theorem k_Mo_match_200 {X : gC} {M : List mC} {k n : Nat} {x0 : Nat} {x1 : Int32} {x2 : Int32} {x3 : Int32} {x4 : Int32} {x5 : Int32} {x6 : Int32} (ok : gO X c_Mo_match "TripleStoreModel" w_Mo_match) (hl : gL X = 10)  (kk : gg X M k n 60 [(0, .ref x0), (1, .int x1), (2, .int x2), (3, .int x3), (4, .int x4), (5, .int x5), (6, .int (x6 + 1))] []) : gg X M k n 200 [(0, .ref x0), (1, .int x1), (2, .int x2), (3, .int x3), (4, .int x4), (5, .int x5), (6, .int x6)] [] := by
  refine g_iinc (L' := [(0, .ref x0), (1, .int x1), (2, .int x2), (3, .int x3), (4, .int x4), (5, .int x5), (6, .int (x6 + 1))]) (v := (x6 + 1)) ok d_Mo_match_200 (j := 6) rfl rfl (by rw [hl]; decide) rfl ?_
  exact g_goto (tgt := 60) ok d_Mo_match_203 (by decide) kk
theorem k_Mo_match_206 {X : gC} {M : List mC} {k n : Nat} {x0 : Nat} {x1 : Int32} {x2 : Int32} {x3 : Int32} {x5 : Int32} (ok : gO X c_Mo_match "TripleStoreModel" w_Mo_match)  (kt : x5 = 0 → gg X M k n 221 [(0, .ref x0), (1, .int x1), (2, .int x2), (3, .int x3)] []) (kf : ¬ x5 = 0 → gg X M k n 211 [(0, .ref x0), (1, .int x1), (2, .int x2), (3, .int x3)] []) : gg X M k n 206 [(0, .ref x0), (1, .int x1), (2, .int x2), (3, .int x3), (5, .int x5)] [] := by
  refine g_iload ok d_Mo_match_206 (j := 4) rfl ?_
  exact g_if_eq (tgt := 221) ok d_Mo_match_208 (by decide) (fun z => (gg_keep [0, 1, 2, 3] (kt z))) (fun z => (gg_keep [0, 1, 2, 3] (kf z)))
theorem k_Mo_match_211 {X : gC} {M : List mC} {k n : Nat} {x0 : Nat} {x1 : Int32} {x2 : Int32} {x3 : Int32} {fs2 : List Value} {f3 : Nat} {g6 : Nat → Int32} {N7 : Nat} {M10 : List mC} (ok : gO X c_Mo_match "TripleStoreModel" w_Mo_match) (h1 : M[x0]? = some (.inr (10, fs2))) (h4 : fs2[49]? = some (.ref f3)) (h5 : M[f3]? = some (.inl (0, N7, .inl g6))) (h8 : vp_in x2 N7) (h9 : vp_in x2 N7) (h11 : M.set f3 (.inl (0, N7, .inl (upd g6 x2.toNatClampNeg ((g6 x2.toNatClampNeg) + 1)))) = M10) (kk : gg X M10 k n 221 [(0, .ref x0), (1, .int x1), (2, .int x2), (3, .int x3)] []) : gg X M k n 211 [(0, .ref x0), (1, .int x1), (2, .int x2), (3, .int x3)] [] := by
  refine g_aload_n ok d_Mo_match_211 rfl (j := 0) rfl ?_
  refine gf_Mo_76 ok d_Mo_match_212 h1 h4 ?_
  refine g_iload_n ok d_Mo_match_215 rfl (j := 2) rfl ?_
  refine g_dup2_11 ok d_Mo_match_216 rfl rfl ?_
  refine g_iald (t := 0) ok rfl d_Mo_match_217 h5 h8 ?_
  refine g_iconst (v := 1) ok d_Mo_match_218 (by decide) ?_
  refine g_iadd ok d_Mo_match_219 ?_
  refine g_iast (t := 0) ok rfl d_Mo_match_220 h5 h9 ?_
  rw [h11]
  have h12 : M10[f3]? = some (.inl (0, N7, .inl (upd g6 x2.toNatClampNeg ((g6 x2.toNatClampNeg) + 1)))) := by rw [← h11]; exact gs_eq h5
  exact kk
theorem k_Mo_match_221 {X : gC} {M : List mC} {k n : Nat} {x0 : Nat} {x1 : Int32} {x2 : Int32} {x3 : Int32} (ok : gO X c_Mo_match "TripleStoreModel" w_Mo_match) (hl : gL X = 10)  (kk : gg X M k n 24 [(0, .ref x0), (1, .int x1), (2, .int x2), (3, .int (x3 + 1))] []) : gg X M k n 221 [(0, .ref x0), (1, .int x1), (2, .int x2), (3, .int x3)] [] := by
  refine g_iinc (L' := [(0, .ref x0), (1, .int x1), (2, .int x2), (3, .int (x3 + 1))]) (v := (x3 + 1)) ok d_Mo_match_221 (j := 3) rfl rfl (by rw [hl]; decide) rfl ?_
  exact g_goto (tgt := 24) ok d_Mo_match_224 (by decide) kk
theorem k_Mo_match_227 {X : gC} {M : List mC} {k n : Nat}  (ok : gO X c_Mo_match "TripleStoreModel" w_Mo_match)  {l9 : Launch} {rm : Room} {M0 : List mC} {post : Option Value → List mC → Prop} (E : gE X l9 y_Mo_match rm 10 none M0 post) (hp : post (none) M) (hk : k ≤ rm.cells) (hn : n ≤ rm.slots) : gg X M k n 227 [] [] := by
  exact g_vret ok E d_Mo_match_227 hp hk hn
theorem k_Mo_holds_0 {X : gC} {M : List mC} {k n : Nat} {x0 : Nat} {x1 : Int32} {x2 : Int32} {fs2 : List Value} {f3 : Nat} {g6 : Nat → Int32} {N7 : Nat} (ok : gO X c_Mo_holds "TripleStoreModel" w_Mo_holds) (hl : gL X = 7) (h1 : M[x0]? = some (.inr (10, fs2))) (h4 : fs2[33]? = some (.ref f3)) (h5 : M[f3]? = some (.inl (0, N7, .inl g6))) (h8 : vp_in (60 + (2 * x1)) N7) (kt : (g6 (60 + (2 * x1)).toNatClampNeg) < 0 → gg X M k n 35 [(0, .ref x0), (1, .int x1), (2, .int x2), (3, .int (60 + (2 * x1)))] []) (kf : ¬ (g6 (60 + (2 * x1)).toNatClampNeg) < 0 → gg X M k n 16 [(0, .ref x0), (1, .int x1), (2, .int x2), (3, .int (60 + (2 * x1)))] []) : gg X M k n 0 [(0, .ref x0), (1, .int x1), (2, .int x2)] [] := by
  refine g_bipush (v := 60) ok d_Mo_holds_0 (by decide) ?_
  refine g_iconst (v := 2) ok d_Mo_holds_2 (by decide) ?_
  refine g_iload_n ok d_Mo_holds_3 rfl (j := 1) rfl ?_
  refine g_imul ok d_Mo_holds_4 ?_
  refine g_iadd ok d_Mo_holds_5 ?_
  refine g_istore_n (L' := [(0, .ref x0), (1, .int x1), (2, .int x2), (3, .int (60 + (2 * x1)))]) ok d_Mo_holds_6 rfl (by rw [hl]; decide) rfl ?_
  refine g_aload_n ok d_Mo_holds_7 rfl (j := 0) rfl ?_
  refine gf_Mo_49 ok d_Mo_holds_8 h1 h4 ?_
  refine g_iload_n ok d_Mo_holds_11 rfl (j := 3) rfl ?_
  refine g_iald (t := 0) ok rfl d_Mo_holds_12 h5 h8 ?_
  exact g_if_lt (tgt := 35) ok d_Mo_holds_13 (by decide) (fun z => (kt z)) (fun z => (kf z))
theorem k_Mo_holds_16 {X : gC} {M : List mC} {k n : Nat} {x0 : Nat} {x1 : Int32} {x2 : Int32} {x3 : Int32} {fs2 : List Value} {f3 : Nat} {g6 : Nat → Int32} {N7 : Nat} {f9 : Nat} {g12 : Nat → Int32} {N13 : Nat} (ok : gO X c_Mo_holds "TripleStoreModel" w_Mo_holds) (h1 : M[x0]? = some (.inr (10, fs2))) (h4 : fs2[48]? = some (.ref f3)) (h5 : M[f3]? = some (.inl (0, N7, .inl g6))) (h8 : vp_in x2 N7) (h10 : fs2[33]? = some (.ref f9)) (h11 : M[f9]? = some (.inl (0, N13, .inl g12))) (h14 : vp_in x3 N13) (kt : ¬ (((g6 x2.toNatClampNeg) >>> ((g12 x3.toNatClampNeg) &&& 31)) &&& 1) = 1 → gg X M k n 39 [(0, .ref x0), (1, .int x1), (2, .int x2), (3, .int x3)] []) (kf : (((g6 x2.toNatClampNeg) >>> ((g12 x3.toNatClampNeg) &&& 31)) &&& 1) = 1 → gg X M k n 35 [(0, .ref x0), (1, .int x1), (2, .int x2), (3, .int x3)] []) : gg X M k n 16 [(0, .ref x0), (1, .int x1), (2, .int x2), (3, .int x3)] [] := by
  refine g_aload_n ok d_Mo_holds_16 rfl (j := 0) rfl ?_
  refine gf_Mo_73 ok d_Mo_holds_17 h1 h4 ?_
  refine g_iload_n ok d_Mo_holds_20 rfl (j := 2) rfl ?_
  refine g_iald (t := 0) ok rfl d_Mo_holds_21 h5 h8 ?_
  refine g_aload_n ok d_Mo_holds_22 rfl (j := 0) rfl ?_
  refine gf_Mo_49 ok d_Mo_holds_23 h1 h10 ?_
  refine g_iload_n ok d_Mo_holds_26 rfl (j := 3) rfl ?_
  refine g_iald (t := 0) ok rfl d_Mo_holds_27 h11 h14 ?_
  refine g_ishr ok d_Mo_holds_28 ?_
  refine g_iconst (v := 1) ok d_Mo_holds_29 (by decide) ?_
  refine g_iand ok d_Mo_holds_30 ?_
  refine g_iconst (v := 1) ok d_Mo_holds_31 (by decide) ?_
  exact g_icmp_ne (tgt := 39) ok d_Mo_holds_32 (by decide) (fun z => (kt z)) (fun z => (kf z))
theorem k_Mo_holds_35 {X : gC} {M : List mC} {k n : Nat} {x0 : Nat} {x1 : Int32} {x2 : Int32} {x3 : Int32} (ok : gO X c_Mo_holds "TripleStoreModel" w_Mo_holds)  (kk : gg X M k n 40 [(0, .ref x0), (1, .int x1), (2, .int x2), (3, .int x3)] [.int 1]) : gg X M k n 35 [(0, .ref x0), (1, .int x1), (2, .int x2), (3, .int x3)] [] := by
  refine g_iconst (v := 1) ok d_Mo_holds_35 (by decide) ?_
  exact g_goto (tgt := 40) ok d_Mo_holds_36 (by decide) kk
theorem k_Mo_holds_39 {X : gC} {M : List mC} {k n : Nat} {x0 : Nat} {x1 : Int32} {x2 : Int32} {x3 : Int32} (ok : gO X c_Mo_holds "TripleStoreModel" w_Mo_holds)  (kk : gg X M k n 40 [(0, .ref x0), (1, .int x1), (2, .int x2), (3, .int x3)] [.int 0]) : gg X M k n 39 [(0, .ref x0), (1, .int x1), (2, .int x2), (3, .int x3)] [] := by
  refine g_iconst (v := 0) ok d_Mo_holds_39 (by decide) ?_
  exact kk
theorem k_Mo_holds_40 {X : gC} {M : List mC} {k n : Nat} {x0 : Nat} {x1 : Int32} {x2 : Int32} {x3 : Int32} {s0 : Int32} {fs2 : List Value} {f3 : Nat} {g6 : Nat → Int32} {N7 : Nat} (ok : gO X c_Mo_holds "TripleStoreModel" w_Mo_holds) (hl : gL X = 7) (h1 : M[x0]? = some (.inr (10, fs2))) (h4 : fs2[37]? = some (.ref f3)) (h5 : M[f3]? = some (.inl (0, N7, .inl g6))) (h8 : vp_in x1 N7) (kt : ¬ (g6 x1.toNatClampNeg) = 98 → gg X M k n 56 [(0, .ref x0), (1, .int x1), (2, .int x2), (3, .int x3), (4, .int s0)] []) (kf : (g6 x1.toNatClampNeg) = 98 → gg X M k n 53 [(4, .int s0)] []) : gg X M k n 40 [(0, .ref x0), (1, .int x1), (2, .int x2), (3, .int x3)] [.int s0] := by
  refine g_istore (L' := [(0, .ref x0), (1, .int x1), (2, .int x2), (3, .int x3), (4, .int s0)]) ok d_Mo_holds_40 (by rw [hl]; decide) rfl ?_
  refine g_aload_n ok d_Mo_holds_42 rfl (j := 0) rfl ?_
  refine gf_Mo_58 ok d_Mo_holds_43 h1 h4 ?_
  refine g_iload_n ok d_Mo_holds_46 rfl (j := 1) rfl ?_
  refine g_iald (t := 0) ok rfl d_Mo_holds_47 h5 h8 ?_
  refine g_bipush (v := 98) ok d_Mo_holds_48 (by decide) ?_
  exact g_icmp_ne (tgt := 56) ok d_Mo_holds_50 (by decide) (fun z => (kt z)) (fun z => (gg_keep [4] (kf z)))
theorem k_Mo_holds_53 {X : gC} {M : List mC} {k n : Nat} {x4 : Int32} (ok : gO X c_Mo_holds "TripleStoreModel" w_Mo_holds)  {l9 : Launch} {rm : Room} {M0 : List mC} {post : Option Value → List mC → Prop} (E : gE X l9 y_Mo_holds rm 7 (some .boolean) M0 post) (hz : narrow .boolean (.int x4) = .int x4) (hp : post (some (.int x4)) M) (hk : k ≤ rm.cells) (hn : n ≤ rm.slots) : gg X M k n 53 [(4, .int x4)] [] := by
  refine g_iload ok d_Mo_holds_53 (j := 0) rfl ?_
  exact g_zret ok E d_Mo_holds_55 hz hp hk hn
theorem k_Mo_holds_56 {X : gC} {M : List mC} {k n : Nat} {x0 : Nat} {x1 : Int32} {x2 : Int32} {x3 : Int32} {x4 : Int32} {fs2 : List Value} {f3 : Nat} {g6 : Nat → Int32} {N7 : Nat} (ok : gO X c_Mo_holds "TripleStoreModel" w_Mo_holds) (h1 : M[x0]? = some (.inr (10, fs2))) (h4 : fs2[33]? = some (.ref f3)) (h5 : M[f3]? = some (.inl (0, N7, .inl g6))) (h8 : vp_in (x3 + 1) N7) (kt : (g6 (x3 + 1).toNatClampNeg) < 0 → gg X M k n 88 [(0, .ref x0), (1, .int x1), (2, .int x2), (3, .int x3), (4, .int x4)] []) (kf : ¬ (g6 (x3 + 1).toNatClampNeg) < 0 → gg X M k n 67 [(0, .ref x0), (1, .int x1), (2, .int x2), (3, .int x3), (4, .int x4)] []) : gg X M k n 56 [(0, .ref x0), (1, .int x1), (2, .int x2), (3, .int x3), (4, .int x4)] [] := by
  refine g_aload_n ok d_Mo_holds_56 rfl (j := 0) rfl ?_
  refine gf_Mo_49 ok d_Mo_holds_57 h1 h4 ?_
  refine g_iload_n ok d_Mo_holds_60 rfl (j := 3) rfl ?_
  refine g_iconst (v := 1) ok d_Mo_holds_61 (by decide) ?_
  refine g_iadd ok d_Mo_holds_62 ?_
  refine g_iald (t := 0) ok rfl d_Mo_holds_63 h5 h8 ?_
  exact g_if_lt (tgt := 88) ok d_Mo_holds_64 (by decide) (fun z => (kt z)) (fun z => (kf z))
theorem k_Mo_holds_67 {X : gC} {M : List mC} {k n : Nat} {x0 : Nat} {x1 : Int32} {x2 : Int32} {x3 : Int32} {x4 : Int32} {fs2 : List Value} {f3 : Nat} {g6 : Nat → Int32} {N7 : Nat} {f9 : Nat} {g12 : Nat → Int32} {N13 : Nat} (ok : gO X c_Mo_holds "TripleStoreModel" w_Mo_holds) (h1 : M[x0]? = some (.inr (10, fs2))) (h4 : fs2[48]? = some (.ref f3)) (h5 : M[f3]? = some (.inl (0, N7, .inl g6))) (h8 : vp_in x2 N7) (h10 : fs2[33]? = some (.ref f9)) (h11 : M[f9]? = some (.inl (0, N13, .inl g12))) (h14 : vp_in (x3 + 1) N13) (kt : ¬ (((g6 x2.toNatClampNeg) >>> ((g12 (x3 + 1).toNatClampNeg) &&& 31)) &&& 1) = 1 → gg X M k n 92 [(0, .ref x0), (1, .int x1), (2, .int x2), (3, .int x3), (4, .int x4)] []) (kf : (((g6 x2.toNatClampNeg) >>> ((g12 (x3 + 1).toNatClampNeg) &&& 31)) &&& 1) = 1 → gg X M k n 88 [(0, .ref x0), (1, .int x1), (2, .int x2), (3, .int x3), (4, .int x4)] []) : gg X M k n 67 [(0, .ref x0), (1, .int x1), (2, .int x2), (3, .int x3), (4, .int x4)] [] := by
  refine g_aload_n ok d_Mo_holds_67 rfl (j := 0) rfl ?_
  refine gf_Mo_73 ok d_Mo_holds_68 h1 h4 ?_
  refine g_iload_n ok d_Mo_holds_71 rfl (j := 2) rfl ?_
  refine g_iald (t := 0) ok rfl d_Mo_holds_72 h5 h8 ?_
  refine g_aload_n ok d_Mo_holds_73 rfl (j := 0) rfl ?_
  refine gf_Mo_49 ok d_Mo_holds_74 h1 h10 ?_
  refine g_iload_n ok d_Mo_holds_77 rfl (j := 3) rfl ?_
  refine g_iconst (v := 1) ok d_Mo_holds_78 (by decide) ?_
  refine g_iadd ok d_Mo_holds_79 ?_
  refine g_iald (t := 0) ok rfl d_Mo_holds_80 h11 h14 ?_
  refine g_ishr ok d_Mo_holds_81 ?_
  refine g_iconst (v := 1) ok d_Mo_holds_82 (by decide) ?_
  refine g_iand ok d_Mo_holds_83 ?_
  refine g_iconst (v := 1) ok d_Mo_holds_84 (by decide) ?_
  exact g_icmp_ne (tgt := 92) ok d_Mo_holds_85 (by decide) (fun z => (kt z)) (fun z => (kf z))
theorem k_Mo_holds_88 {X : gC} {M : List mC} {k n : Nat} {x0 : Nat} {x1 : Int32} {x2 : Int32} {x3 : Int32} {x4 : Int32} (ok : gO X c_Mo_holds "TripleStoreModel" w_Mo_holds)  (kk : gg X M k n 93 [(0, .ref x0), (1, .int x1), (2, .int x2), (3, .int x3), (4, .int x4)] [.int 1]) : gg X M k n 88 [(0, .ref x0), (1, .int x1), (2, .int x2), (3, .int x3), (4, .int x4)] [] := by
  refine g_iconst (v := 1) ok d_Mo_holds_88 (by decide) ?_
  exact g_goto (tgt := 93) ok d_Mo_holds_89 (by decide) kk
theorem k_Mo_holds_92 {X : gC} {M : List mC} {k n : Nat} {x0 : Nat} {x1 : Int32} {x2 : Int32} {x3 : Int32} {x4 : Int32} (ok : gO X c_Mo_holds "TripleStoreModel" w_Mo_holds)  (kk : gg X M k n 93 [(0, .ref x0), (1, .int x1), (2, .int x2), (3, .int x3), (4, .int x4)] [.int 0]) : gg X M k n 92 [(0, .ref x0), (1, .int x1), (2, .int x2), (3, .int x3), (4, .int x4)] [] := by
  refine g_iconst (v := 0) ok d_Mo_holds_92 (by decide) ?_
  exact kk
theorem k_Mo_holds_93 {X : gC} {M : List mC} {k n : Nat} {x0 : Nat} {x1 : Int32} {x2 : Int32} {x3 : Int32} {x4 : Int32} {s0 : Int32} (ok : gO X c_Mo_holds "TripleStoreModel" w_Mo_holds) (hl : gL X = 7)  (kt : x4 = 0 → gg X M k n 105 [] []) (kf : ¬ x4 = 0 → gg X M k n 100 [(0, .ref x0), (1, .int x1), (2, .int x2), (3, .int x3), (5, .int s0)] []) : gg X M k n 93 [(0, .ref x0), (1, .int x1), (2, .int x2), (3, .int x3), (4, .int x4)] [.int s0] := by
  refine g_istore (L' := [(0, .ref x0), (1, .int x1), (2, .int x2), (3, .int x3), (4, .int x4), (5, .int s0)]) ok d_Mo_holds_93 (by rw [hl]; decide) rfl ?_
  refine g_iload ok d_Mo_holds_95 (j := 4) rfl ?_
  exact g_if_eq (tgt := 105) ok d_Mo_holds_97 (by decide) (fun z => (gg_keep [] (kt z))) (fun z => (gg_keep [0, 1, 2, 3, 5] (kf z)))
theorem k_Mo_holds_100 {X : gC} {M : List mC} {k n : Nat} {x0 : Nat} {x1 : Int32} {x2 : Int32} {x3 : Int32} {x5 : Int32} (ok : gO X c_Mo_holds "TripleStoreModel" w_Mo_holds)  (kt : ¬ x5 = 0 → gg X M k n 107 [(0, .ref x0), (1, .int x1), (2, .int x2), (3, .int x3)] []) (kf : x5 = 0 → gg X M k n 105 [] []) : gg X M k n 100 [(0, .ref x0), (1, .int x1), (2, .int x2), (3, .int x3), (5, .int x5)] [] := by
  refine g_iload ok d_Mo_holds_100 (j := 4) rfl ?_
  exact g_if_ne (tgt := 107) ok d_Mo_holds_102 (by decide) (fun z => (gg_keep [0, 1, 2, 3] (kt z))) (fun z => (gg_keep [] (kf z)))
theorem k_Mo_holds_105 {X : gC} {M : List mC} {k n : Nat}  (ok : gO X c_Mo_holds "TripleStoreModel" w_Mo_holds)  {l9 : Launch} {rm : Room} {M0 : List mC} {post : Option Value → List mC → Prop} (E : gE X l9 y_Mo_holds rm 7 (some .boolean) M0 post) (hp : post (some (.int 0)) M) (hk : k ≤ rm.cells) (hn : n ≤ rm.slots) : gg X M k n 105 [] [] := by
  refine g_iconst (v := 0) ok d_Mo_holds_105 (by decide) ?_
  exact g_zret ok E d_Mo_holds_106 rfl hp hk hn
theorem k_Mo_holds_107 {X : gC} {M : List mC} {k n : Nat} {x0 : Nat} {x1 : Int32} {x2 : Int32} {x3 : Int32} {fs2 : List Value} {f3 : Nat} {g6 : Nat → Int32} {N7 : Nat} (ok : gO X c_Mo_holds "TripleStoreModel" w_Mo_holds) (h1 : M[x0]? = some (.inr (10, fs2))) (h4 : fs2[33]? = some (.ref f3)) (h5 : M[f3]? = some (.inl (0, N7, .inl g6))) (h8 : vp_in x3 N7) (kt : 0 ≤ (g6 x3.toNatClampNeg) → gg X M k n 125 [(0, .ref x0), (1, .int x1), (2, .int x2), (3, .int x3)] []) (kf : ¬ 0 ≤ (g6 x3.toNatClampNeg) → gg X M k n 116 [(0, .ref x0), (1, .int x1), (2, .int x2), (3, .int x3)] []) : gg X M k n 107 [(0, .ref x0), (1, .int x1), (2, .int x2), (3, .int x3)] [] := by
  refine g_aload_n ok d_Mo_holds_107 rfl (j := 0) rfl ?_
  refine gf_Mo_49 ok d_Mo_holds_108 h1 h4 ?_
  refine g_iload_n ok d_Mo_holds_111 rfl (j := 3) rfl ?_
  refine g_iald (t := 0) ok rfl d_Mo_holds_112 h5 h8 ?_
  exact g_if_ge (tgt := 125) ok d_Mo_holds_113 (by decide) (fun z => (kt z)) (fun z => (kf z))
theorem k_Mo_holds_116 {X : gC} {M : List mC} {k n : Nat} {x0 : Nat} {x1 : Int32} {x2 : Int32} {x3 : Int32} {fs2 : List Value} {f3 : Nat} {g6 : Nat → Int64} {N7 : Nat} (ok : gO X c_Mo_holds "TripleStoreModel" w_Mo_holds) (h1 : M[x0]? = some (.inr (10, fs2))) (h4 : fs2[34]? = some (.ref f3)) (h5 : M[f3]? = some (.inl (1, N7, .inr (.inl g6)))) (h8 : vp_in x3 N7) (kk : gg X M k n 141 [(0, .ref x0), (1, .int x1), (2, .int x2), (3, .int x3)] [.long (g6 x3.toNatClampNeg)]) : gg X M k n 116 [(0, .ref x0), (1, .int x1), (2, .int x2), (3, .int x3)] [] := by
  refine g_aload_n ok d_Mo_holds_116 rfl (j := 0) rfl ?_
  refine gf_Mo_52 ok d_Mo_holds_117 h1 h4 ?_
  refine g_iload_n ok d_Mo_holds_120 rfl (j := 3) rfl ?_
  refine g_lald (t := 1) ok rfl d_Mo_holds_121 h5 h8 ?_
  exact g_goto (tgt := 141) ok d_Mo_holds_122 (by decide) kk
theorem k_Mo_holds_125 {X : gC} {M : List mC} {k n : Nat} {x0 : Nat} {x1 : Int32} {x2 : Int32} {x3 : Int32} {fs2 : List Value} {f3 : Nat} {f5 : Nat} {g8 : Nat → Int32} {N9 : Nat} {g12 : Nat → Int64} {N13 : Nat} (ok : gO X c_Mo_holds "TripleStoreModel" w_Mo_holds) (h1 : M[x0]? = some (.inr (10, fs2))) (h4 : fs2[47]? = some (.ref f3)) (h6 : fs2[33]? = some (.ref f5)) (h7 : M[f5]? = some (.inl (0, N9, .inl g8))) (h10 : vp_in x3 N9) (h11 : M[f3]? = some (.inl (1, N13, .inr (.inl g12)))) (h14 : vp_in ((6 * x2) + (g8 x3.toNatClampNeg)) N13) (kk : gg X M k n 141 [(0, .ref x0), (1, .int x1), (2, .int x2), (3, .int x3)] [.long (g12 ((6 * x2) + (g8 x3.toNatClampNeg)).toNatClampNeg)]) : gg X M k n 125 [(0, .ref x0), (1, .int x1), (2, .int x2), (3, .int x3)] [] := by
  refine g_aload_n ok d_Mo_holds_125 rfl (j := 0) rfl ?_
  refine gf_Mo_70 ok d_Mo_holds_126 h1 h4 ?_
  refine g_bipush (v := 6) ok d_Mo_holds_129 (by decide) ?_
  refine g_iload_n ok d_Mo_holds_131 rfl (j := 2) rfl ?_
  refine g_imul ok d_Mo_holds_132 ?_
  refine g_aload_n ok d_Mo_holds_133 rfl (j := 0) rfl ?_
  refine gf_Mo_49 ok d_Mo_holds_134 h1 h6 ?_
  refine g_iload_n ok d_Mo_holds_137 rfl (j := 3) rfl ?_
  refine g_iald (t := 0) ok rfl d_Mo_holds_138 h7 h10 ?_
  refine g_iadd ok d_Mo_holds_139 ?_
  refine g_lald (t := 1) ok rfl d_Mo_holds_140 h11 h14 ?_
  exact kk
theorem k_Mo_holds_141 {X : gC} {M : List mC} {k n : Nat} {x0 : Nat} {x1 : Int32} {x2 : Int32} {x3 : Int32} {s0 : Int64} {fs2 : List Value} {f3 : Nat} {g6 : Nat → Int32} {N7 : Nat} (ok : gO X c_Mo_holds "TripleStoreModel" w_Mo_holds) (h1 : M[x0]? = some (.inr (10, fs2))) (h4 : fs2[33]? = some (.ref f3)) (h5 : M[f3]? = some (.inl (0, N7, .inl g6))) (h8 : vp_in (x3 + 1) N7) (kt : 0 ≤ (g6 (x3 + 1).toNatClampNeg) → gg X M k n 163 [(0, .ref x0), (1, .int x1), (2, .int x2), (3, .int x3)] [.long s0]) (kf : ¬ 0 ≤ (g6 (x3 + 1).toNatClampNeg) → gg X M k n 152 [(0, .ref x0), (1, .int x1), (3, .int x3)] [.long s0]) : gg X M k n 141 [(0, .ref x0), (1, .int x1), (2, .int x2), (3, .int x3)] [.long s0] := by
  refine g_aload_n ok d_Mo_holds_141 rfl (j := 0) rfl ?_
  refine gf_Mo_49 ok d_Mo_holds_142 h1 h4 ?_
  refine g_iload_n ok d_Mo_holds_145 rfl (j := 3) rfl ?_
  refine g_iconst (v := 1) ok d_Mo_holds_146 (by decide) ?_
  refine g_iadd ok d_Mo_holds_147 ?_
  refine g_iald (t := 0) ok rfl d_Mo_holds_148 h5 h8 ?_
  exact g_if_ge (tgt := 163) ok d_Mo_holds_149 (by decide) (fun z => (kt z)) (fun z => (gg_keep [0, 1, 3] (kf z)))
theorem k_Mo_holds_152 {X : gC} {M : List mC} {k n : Nat} {x0 : Nat} {x1 : Int32} {x3 : Int32} {s0 : Int64} {fs2 : List Value} {f3 : Nat} {g6 : Nat → Int64} {N7 : Nat} (ok : gO X c_Mo_holds "TripleStoreModel" w_Mo_holds) (h1 : M[x0]? = some (.inr (10, fs2))) (h4 : fs2[34]? = some (.ref f3)) (h5 : M[f3]? = some (.inl (1, N7, .inr (.inl g6)))) (h8 : vp_in (x3 + 1) N7) (kk : gg X M k n 181 [(0, .ref x0), (1, .int x1)] [.long (g6 (x3 + 1).toNatClampNeg), .long s0]) : gg X M k n 152 [(0, .ref x0), (1, .int x1), (3, .int x3)] [.long s0] := by
  refine g_aload_n ok d_Mo_holds_152 rfl (j := 0) rfl ?_
  refine gf_Mo_52 ok d_Mo_holds_153 h1 h4 ?_
  refine g_iload_n ok d_Mo_holds_156 rfl (j := 2) rfl ?_
  refine g_iconst (v := 1) ok d_Mo_holds_157 (by decide) ?_
  refine g_iadd ok d_Mo_holds_158 ?_
  refine g_lald (t := 1) ok rfl d_Mo_holds_159 h5 h8 ?_
  exact g_goto (tgt := 181) ok d_Mo_holds_160 (by decide) (gg_keep [0, 1] kk)
theorem k_Mo_holds_163 {X : gC} {M : List mC} {k n : Nat} {x0 : Nat} {x1 : Int32} {x2 : Int32} {x3 : Int32} {s0 : Int64} {fs2 : List Value} {f3 : Nat} {f5 : Nat} {g8 : Nat → Int32} {N9 : Nat} {g12 : Nat → Int64} {N13 : Nat} (ok : gO X c_Mo_holds "TripleStoreModel" w_Mo_holds) (h1 : M[x0]? = some (.inr (10, fs2))) (h4 : fs2[47]? = some (.ref f3)) (h6 : fs2[33]? = some (.ref f5)) (h7 : M[f5]? = some (.inl (0, N9, .inl g8))) (h10 : vp_in (x3 + 1) N9) (h11 : M[f3]? = some (.inl (1, N13, .inr (.inl g12)))) (h14 : vp_in ((6 * x2) + (g8 (x3 + 1).toNatClampNeg)) N13) (kk : gg X M k n 181 [(0, .ref x0), (1, .int x1)] [.long (g12 ((6 * x2) + (g8 (x3 + 1).toNatClampNeg)).toNatClampNeg), .long s0]) : gg X M k n 163 [(0, .ref x0), (1, .int x1), (2, .int x2), (3, .int x3)] [.long s0] := by
  refine g_aload_n ok d_Mo_holds_163 rfl (j := 0) rfl ?_
  refine gf_Mo_70 ok d_Mo_holds_164 h1 h4 ?_
  refine g_bipush (v := 6) ok d_Mo_holds_167 (by decide) ?_
  refine g_iload_n ok d_Mo_holds_169 rfl (j := 2) rfl ?_
  refine g_imul ok d_Mo_holds_170 ?_
  refine g_aload_n ok d_Mo_holds_171 rfl (j := 0) rfl ?_
  refine gf_Mo_49 ok d_Mo_holds_172 h1 h6 ?_
  refine g_iload_n ok d_Mo_holds_175 rfl (j := 3) rfl ?_
  refine g_iconst (v := 1) ok d_Mo_holds_176 (by decide) ?_
  refine g_iadd ok d_Mo_holds_177 ?_
  refine g_iald (t := 0) ok rfl d_Mo_holds_178 h7 h10 ?_
  refine g_iadd ok d_Mo_holds_179 ?_
  refine g_lald (t := 1) ok rfl d_Mo_holds_180 h11 h14 ?_
  exact (gg_keep [0, 1] kk)
theorem k_Mo_holds_181 {X : gC} {M : List mC} {k n : Nat} {x0 : Nat} {x1 : Int32} {s0 : Int64} {s1 : Int64} (ok : gO X c_Mo_holds "TripleStoreModel" w_Mo_holds)  {rm : Room} {post : Option Value → List mC → Prop} (hm : mm_ (gLa X) y_Mo_compare w_Mo_compare rm [.long s0, .long s1] M post) (hR : gF X rm 8 k n) (hlen : ∀ r M', post r M' → M'.length = M.length) (kk : ∀ r M', post r M' → gg X M' (k + rm.cells) (n + rm.slots) 184 [(0, .ref x0), (1, .int x1)] (r.toList ++ [])) : gg X M k n 181 [(0, .ref x0), (1, .int x1)] [.long s1, .long s0] := by
  exact gc_Mo_332 (As := [.long s0, .long s1]) (rest := []) ok d_Mo_holds_181 hm rfl rfl (Nat.le_of_ble_eq_true rfl) hR hlen kk
theorem k_Mo_holds_184 {X : gC} {M : List mC} {k n : Nat} {x0 : Nat} {x1 : Int32} {s0 : Int32} {fs2 : List Value} {f3 : Nat} {g6 : Nat → Int32} {N7 : Nat} (ok : gO X c_Mo_holds "TripleStoreModel" w_Mo_holds) (hl : gL X = 7) (h1 : M[x0]? = some (.inr (10, fs2))) (h4 : fs2[37]? = some (.ref f3)) (h5 : M[f3]? = some (.inl (0, N7, .inl g6))) (h8 : vp_in x1 N7) (kt : ¬ (g6 x1.toNatClampNeg) = 61 → gg X M k n 210 [(0, .ref x0), (1, .int x1), (6, .int s0)] []) (kf : (g6 x1.toNatClampNeg) = 61 → gg X M k n 197 [(6, .int s0)] []) : gg X M k n 184 [(0, .ref x0), (1, .int x1)] [.int s0] := by
  refine g_istore (L' := [(0, .ref x0), (1, .int x1), (6, .int s0)]) ok d_Mo_holds_184 (by rw [hl]; decide) rfl ?_
  refine g_aload_n ok d_Mo_holds_186 rfl (j := 0) rfl ?_
  refine gf_Mo_58 ok d_Mo_holds_187 h1 h4 ?_
  refine g_iload_n ok d_Mo_holds_190 rfl (j := 1) rfl ?_
  refine g_iald (t := 0) ok rfl d_Mo_holds_191 h5 h8 ?_
  refine g_bipush (v := 61) ok d_Mo_holds_192 (by decide) ?_
  exact g_icmp_ne (tgt := 210) ok d_Mo_holds_194 (by decide) (fun z => (kt z)) (fun z => (gg_keep [6] (kf z)))
theorem k_Mo_holds_197 {X : gC} {M : List mC} {k n : Nat} {x6 : Int32} (ok : gO X c_Mo_holds "TripleStoreModel" w_Mo_holds)  (kt : ¬ x6 = 0 → gg X M k n 206 [] []) (kf : x6 = 0 → gg X M k n 202 [] []) : gg X M k n 197 [(6, .int x6)] [] := by
  refine g_iload ok d_Mo_holds_197 (j := 0) rfl ?_
  exact g_if_ne (tgt := 206) ok d_Mo_holds_199 (by decide) (fun z => (gg_keep [] (kt z))) (fun z => (gg_keep [] (kf z)))
theorem k_Mo_holds_202 {X : gC} {M : List mC} {k n : Nat}  (ok : gO X c_Mo_holds "TripleStoreModel" w_Mo_holds)  (kk : gg X M k n 268 [] [.int 1]) : gg X M k n 202 [] [] := by
  refine g_iconst (v := 1) ok d_Mo_holds_202 (by decide) ?_
  exact g_goto (tgt := 268) ok d_Mo_holds_203 (by decide) kk
theorem k_Mo_holds_206 {X : gC} {M : List mC} {k n : Nat}  (ok : gO X c_Mo_holds "TripleStoreModel" w_Mo_holds)  (kk : gg X M k n 268 [] [.int 0]) : gg X M k n 206 [] [] := by
  refine g_iconst (v := 0) ok d_Mo_holds_206 (by decide) ?_
  exact g_goto (tgt := 268) ok d_Mo_holds_207 (by decide) kk
theorem k_Mo_holds_210 {X : gC} {M : List mC} {k n : Nat} {x0 : Nat} {x1 : Int32} {x6 : Int32} {fs2 : List Value} {f3 : Nat} {g6 : Nat → Int32} {N7 : Nat} (ok : gO X c_Mo_holds "TripleStoreModel" w_Mo_holds) (h1 : M[x0]? = some (.inr (10, fs2))) (h4 : fs2[37]? = some (.ref f3)) (h5 : M[f3]? = some (.inl (0, N7, .inl g6))) (h8 : vp_in x1 N7) (kt : ¬ (g6 x1.toNatClampNeg) = 33 → gg X M k n 234 [(0, .ref x0), (1, .int x1), (6, .int x6)] []) (kf : (g6 x1.toNatClampNeg) = 33 → gg X M k n 221 [(6, .int x6)] []) : gg X M k n 210 [(0, .ref x0), (1, .int x1), (6, .int x6)] [] := by
  refine g_aload_n ok d_Mo_holds_210 rfl (j := 0) rfl ?_
  refine gf_Mo_58 ok d_Mo_holds_211 h1 h4 ?_
  refine g_iload_n ok d_Mo_holds_214 rfl (j := 1) rfl ?_
  refine g_iald (t := 0) ok rfl d_Mo_holds_215 h5 h8 ?_
  refine g_bipush (v := 33) ok d_Mo_holds_216 (by decide) ?_
  exact g_icmp_ne (tgt := 234) ok d_Mo_holds_218 (by decide) (fun z => (kt z)) (fun z => (gg_keep [6] (kf z)))
theorem k_Mo_holds_221 {X : gC} {M : List mC} {k n : Nat} {x6 : Int32} (ok : gO X c_Mo_holds "TripleStoreModel" w_Mo_holds)  (kt : x6 = 0 → gg X M k n 230 [] []) (kf : ¬ x6 = 0 → gg X M k n 226 [] []) : gg X M k n 221 [(6, .int x6)] [] := by
  refine g_iload ok d_Mo_holds_221 (j := 0) rfl ?_
  exact g_if_eq (tgt := 230) ok d_Mo_holds_223 (by decide) (fun z => (gg_keep [] (kt z))) (fun z => (gg_keep [] (kf z)))
theorem k_Mo_holds_226 {X : gC} {M : List mC} {k n : Nat}  (ok : gO X c_Mo_holds "TripleStoreModel" w_Mo_holds)  (kk : gg X M k n 268 [] [.int 1]) : gg X M k n 226 [] [] := by
  refine g_iconst (v := 1) ok d_Mo_holds_226 (by decide) ?_
  exact g_goto (tgt := 268) ok d_Mo_holds_227 (by decide) kk
theorem k_Mo_holds_230 {X : gC} {M : List mC} {k n : Nat}  (ok : gO X c_Mo_holds "TripleStoreModel" w_Mo_holds)  (kk : gg X M k n 268 [] [.int 0]) : gg X M k n 230 [] [] := by
  refine g_iconst (v := 0) ok d_Mo_holds_230 (by decide) ?_
  exact g_goto (tgt := 268) ok d_Mo_holds_231 (by decide) kk
theorem k_Mo_holds_234 {X : gC} {M : List mC} {k n : Nat} {x0 : Nat} {x1 : Int32} {x6 : Int32} {fs2 : List Value} {f3 : Nat} {g6 : Nat → Int32} {N7 : Nat} (ok : gO X c_Mo_holds "TripleStoreModel" w_Mo_holds) (h1 : M[x0]? = some (.inr (10, fs2))) (h4 : fs2[37]? = some (.ref f3)) (h5 : M[f3]? = some (.inl (0, N7, .inl g6))) (h8 : vp_in x1 N7) (kt : ¬ (g6 x1.toNatClampNeg) = 60 → gg X M k n 258 [(6, .int x6)] []) (kf : (g6 x1.toNatClampNeg) = 60 → gg X M k n 245 [(6, .int x6)] []) : gg X M k n 234 [(0, .ref x0), (1, .int x1), (6, .int x6)] [] := by
  refine g_aload_n ok d_Mo_holds_234 rfl (j := 0) rfl ?_
  refine gf_Mo_58 ok d_Mo_holds_235 h1 h4 ?_
  refine g_iload_n ok d_Mo_holds_238 rfl (j := 1) rfl ?_
  refine g_iald (t := 0) ok rfl d_Mo_holds_239 h5 h8 ?_
  refine g_bipush (v := 60) ok d_Mo_holds_240 (by decide) ?_
  exact g_icmp_ne (tgt := 258) ok d_Mo_holds_242 (by decide) (fun z => (gg_keep [6] (kt z))) (fun z => (gg_keep [6] (kf z)))
theorem k_Mo_holds_245 {X : gC} {M : List mC} {k n : Nat} {x6 : Int32} (ok : gO X c_Mo_holds "TripleStoreModel" w_Mo_holds)  (kt : 0 ≤ x6 → gg X M k n 254 [] []) (kf : ¬ 0 ≤ x6 → gg X M k n 250 [] []) : gg X M k n 245 [(6, .int x6)] [] := by
  refine g_iload ok d_Mo_holds_245 (j := 0) rfl ?_
  exact g_if_ge (tgt := 254) ok d_Mo_holds_247 (by decide) (fun z => (gg_keep [] (kt z))) (fun z => (gg_keep [] (kf z)))
theorem k_Mo_holds_250 {X : gC} {M : List mC} {k n : Nat}  (ok : gO X c_Mo_holds "TripleStoreModel" w_Mo_holds)  (kk : gg X M k n 268 [] [.int 1]) : gg X M k n 250 [] [] := by
  refine g_iconst (v := 1) ok d_Mo_holds_250 (by decide) ?_
  exact g_goto (tgt := 268) ok d_Mo_holds_251 (by decide) kk
theorem k_Mo_holds_254 {X : gC} {M : List mC} {k n : Nat}  (ok : gO X c_Mo_holds "TripleStoreModel" w_Mo_holds)  (kk : gg X M k n 268 [] [.int 0]) : gg X M k n 254 [] [] := by
  refine g_iconst (v := 0) ok d_Mo_holds_254 (by decide) ?_
  exact g_goto (tgt := 268) ok d_Mo_holds_255 (by decide) kk
theorem k_Mo_holds_258 {X : gC} {M : List mC} {k n : Nat} {x6 : Int32} (ok : gO X c_Mo_holds "TripleStoreModel" w_Mo_holds)  (kt : x6 ≤ 0 → gg X M k n 267 [] []) (kf : ¬ x6 ≤ 0 → gg X M k n 263 [] []) : gg X M k n 258 [(6, .int x6)] [] := by
  refine g_iload ok d_Mo_holds_258 (j := 0) rfl ?_
  exact g_if_le (tgt := 267) ok d_Mo_holds_260 (by decide) (fun z => (gg_keep [] (kt z))) (fun z => (gg_keep [] (kf z)))
theorem k_Mo_holds_263 {X : gC} {M : List mC} {k n : Nat}  (ok : gO X c_Mo_holds "TripleStoreModel" w_Mo_holds)  (kk : gg X M k n 268 [] [.int 1]) : gg X M k n 263 [] [] := by
  refine g_iconst (v := 1) ok d_Mo_holds_263 (by decide) ?_
  exact g_goto (tgt := 268) ok d_Mo_holds_264 (by decide) kk
theorem k_Mo_holds_267 {X : gC} {M : List mC} {k n : Nat}  (ok : gO X c_Mo_holds "TripleStoreModel" w_Mo_holds)  (kk : gg X M k n 268 [] [.int 0]) : gg X M k n 267 [] [] := by
  refine g_iconst (v := 0) ok d_Mo_holds_267 (by decide) ?_
  exact kk
theorem k_Mo_holds_268 {X : gC} {M : List mC} {k n : Nat} {s0 : Int32} (ok : gO X c_Mo_holds "TripleStoreModel" w_Mo_holds)  {l9 : Launch} {rm : Room} {M0 : List mC} {post : Option Value → List mC → Prop} (E : gE X l9 y_Mo_holds rm 7 (some .boolean) M0 post) (hz : narrow .boolean (.int s0) = .int s0) (hp : post (some (.int s0)) M) (hk : k ≤ rm.cells) (hn : n ≤ rm.slots) : gg X M k n 268 [] [.int s0] := by
  exact g_zret ok E d_Mo_holds_268 hz hp hk hn
theorem k_Mo_filter_0 {X : gC} {M : List mC} {k n : Nat} {x0 : Nat} {x1 : Int32} {fs2 : List Value} {f3 : Int32} {f5 : Nat} {g8 : Nat → Int32} {N9 : Nat} {M11 : List mC} (ok : gO X c_Mo_filter "TripleStoreModel" w_Mo_filter) (hl : gL X = 6) (h1 : M[x0]? = some (.inr (10, fs2))) (h4 : fs2[50]? = some (.int f3)) (h6 : fs2[49]? = some (.ref f5)) (h7 : M[f5]? = some (.inl (0, N9, .inl g8))) (h10 : vp_in 10 N9) (h12 : M.set f5 (.inl (0, N9, .inl (upd g8 (10 : Int32).toNatClampNeg 0))) = M11) (kk : gg X M11 k n 17 [(0, .ref x0), (1, .int x1), (2, .int (f3 - 1)), (3, .int 0)] []) : gg X M k n 0 [(0, .ref x0), (1, .int x1)] [] := by
  refine g_aload_n ok d_Mo_filter_0 rfl (j := 0) rfl ?_
  refine gf_Mo_318 ok d_Mo_filter_1 h1 h4 ?_
  refine g_iconst (v := 1) ok d_Mo_filter_4 (by decide) ?_
  refine g_isub ok d_Mo_filter_5 ?_
  refine g_istore_n (L' := [(0, .ref x0), (1, .int x1), (2, .int (f3 - 1))]) ok d_Mo_filter_6 rfl (by rw [hl]; decide) rfl ?_
  refine g_aload_n ok d_Mo_filter_7 rfl (j := 0) rfl ?_
  refine gf_Mo_76 ok d_Mo_filter_8 h1 h6 ?_
  refine g_bipush (v := 10) ok d_Mo_filter_11 (by decide) ?_
  refine g_iconst (v := 0) ok d_Mo_filter_13 (by decide) ?_
  refine g_iast (t := 0) ok rfl d_Mo_filter_14 h7 h10 ?_
  rw [h12]
  have h13 : M11[f5]? = some (.inl (0, N9, .inl (upd g8 (10 : Int32).toNatClampNeg 0))) := by rw [← h12]; exact gs_eq h7
  refine g_iconst (v := 0) ok d_Mo_filter_15 (by decide) ?_
  refine g_istore_n (L' := [(0, .ref x0), (1, .int x1), (2, .int (f3 - 1)), (3, .int 0)]) ok d_Mo_filter_16 rfl (by rw [hl]; decide) rfl ?_
  exact kk
theorem k_Mo_filter_17 {X : gC} {M : List mC} {k n : Nat} {x0 : Nat} {x1 : Int32} {x2 : Int32} {x3 : Int32} {fs2 : List Value} {f3 : Nat} {g6 : Nat → Int32} {N7 : Nat} (ok : gO X c_Mo_filter "TripleStoreModel" w_Mo_filter) (h1 : M[x0]? = some (.inr (10, fs2))) (h4 : fs2[49]? = some (.ref f3)) (h5 : M[f3]? = some (.inl (0, N7, .inl g6))) (h8 : vp_in x2 N7) (kt : (g6 x2.toNatClampNeg) ≤ x3 → gg X M k n 104 [(0, .ref x0), (2, .int x2)] []) (kf : ¬ (g6 x2.toNatClampNeg) ≤ x3 → gg X M k n 27 [(0, .ref x0), (1, .int x1), (2, .int x2), (3, .int x3)] []) : gg X M k n 17 [(0, .ref x0), (1, .int x1), (2, .int x2), (3, .int x3)] [] := by
  refine g_iload_n ok d_Mo_filter_17 rfl (j := 3) rfl ?_
  refine g_aload_n ok d_Mo_filter_18 rfl (j := 0) rfl ?_
  refine gf_Mo_76 ok d_Mo_filter_19 h1 h4 ?_
  refine g_iload_n ok d_Mo_filter_22 rfl (j := 2) rfl ?_
  refine g_iald (t := 0) ok rfl d_Mo_filter_23 h5 h8 ?_
  exact g_icmp_ge (tgt := 104) ok d_Mo_filter_24 (by decide) (fun z => (gg_keep [0, 2] (kt z))) (fun z => (kf z))
theorem k_Mo_filter_27 {X : gC} {M : List mC} {k n : Nat} {x0 : Nat} {x1 : Int32} {x2 : Int32} {x3 : Int32} (ok : gO X c_Mo_filter "TripleStoreModel" w_Mo_filter) (hl : gL X = 6)  (kk : gg X M k n 33 [(0, .ref x0), (1, .int x1), (2, .int x2), (3, .int x3), (4, .int 1), (5, .int 0)] []) : gg X M k n 27 [(0, .ref x0), (1, .int x1), (2, .int x2), (3, .int x3)] [] := by
  refine g_iconst (v := 1) ok d_Mo_filter_27 (by decide) ?_
  refine g_istore (L' := [(0, .ref x0), (1, .int x1), (2, .int x2), (3, .int x3), (4, .int 1)]) ok d_Mo_filter_28 (by rw [hl]; decide) rfl ?_
  refine g_iconst (v := 0) ok d_Mo_filter_30 (by decide) ?_
  refine g_istore (L' := [(0, .ref x0), (1, .int x1), (2, .int x2), (3, .int x3), (4, .int 1), (5, .int 0)]) ok d_Mo_filter_31 (by rw [hl]; decide) rfl ?_
  exact kk
theorem k_Mo_filter_33 {X : gC} {M : List mC} {k n : Nat} {x0 : Nat} {x1 : Int32} {x2 : Int32} {x3 : Int32} {x4 : Int32} {x5 : Int32} {fs2 : List Value} {f3 : Int32} (ok : gO X c_Mo_filter "TripleStoreModel" w_Mo_filter) (h1 : M[x0]? = some (.inr (10, fs2))) (h4 : fs2[39]? = some (.int f3)) (kt : f3 ≤ x5 → gg X M k n 85 [(0, .ref x0), (1, .int x1), (2, .int x2), (3, .int x3), (4, .int x4)] []) (kf : ¬ f3 ≤ x5 → gg X M k n 42 [(0, .ref x0), (1, .int x1), (2, .int x2), (3, .int x3), (4, .int x4), (5, .int x5)] []) : gg X M k n 33 [(0, .ref x0), (1, .int x1), (2, .int x2), (3, .int x3), (4, .int x4), (5, .int x5)] [] := by
  refine g_iload ok d_Mo_filter_33 (j := 5) rfl ?_
  refine g_aload_n ok d_Mo_filter_35 rfl (j := 0) rfl ?_
  refine gf_Mo_247 ok d_Mo_filter_36 h1 h4 ?_
  exact g_icmp_ge (tgt := 85) ok d_Mo_filter_39 (by decide) (fun z => (gg_keep [0, 1, 2, 3, 4] (kt z))) (fun z => (kf z))
theorem k_Mo_filter_42 {X : gC} {M : List mC} {k n : Nat} {x0 : Nat} {x1 : Int32} {x2 : Int32} {x3 : Int32} {x4 : Int32} {x5 : Int32} {fs2 : List Value} {f3 : Nat} {g6 : Nat → Int32} {N7 : Nat} (ok : gO X c_Mo_filter "TripleStoreModel" w_Mo_filter) (h1 : M[x0]? = some (.inr (10, fs2))) (h4 : fs2[36]? = some (.ref f3)) (h5 : M[f3]? = some (.inl (0, N7, .inl g6))) (h8 : vp_in x5 N7) (kt : ¬ (g6 x5.toNatClampNeg) = x1 → gg X M k n 79 [(0, .ref x0), (1, .int x1), (2, .int x2), (3, .int x3), (4, .int x4), (5, .int x5)] []) (kf : (g6 x5.toNatClampNeg) = x1 → gg X M k n 53 [(0, .ref x0), (1, .int x1), (2, .int x2), (3, .int x3), (4, .int x4), (5, .int x5)] []) : gg X M k n 42 [(0, .ref x0), (1, .int x1), (2, .int x2), (3, .int x3), (4, .int x4), (5, .int x5)] [] := by
  refine g_aload_n ok d_Mo_filter_42 rfl (j := 0) rfl ?_
  refine gf_Mo_55 ok d_Mo_filter_43 h1 h4 ?_
  refine g_iload ok d_Mo_filter_46 (j := 5) rfl ?_
  refine g_iald (t := 0) ok rfl d_Mo_filter_48 h5 h8 ?_
  refine g_iload_n ok d_Mo_filter_49 rfl (j := 1) rfl ?_
  exact g_icmp_ne (tgt := 79) ok d_Mo_filter_50 (by decide) (fun z => (kt z)) (fun z => (kf z))
theorem k_Mo_filter_53 {X : gC} {M : List mC} {k n : Nat} {x0 : Nat} {x1 : Int32} {x2 : Int32} {x3 : Int32} {x4 : Int32} {x5 : Int32} {fs2 : List Value} (ok : gO X c_Mo_filter "TripleStoreModel" w_Mo_filter) (h1 : M[x0]? = some (.inr (10, fs2))) {rm : Room} {post : Option Value → List mC → Prop} (hm : mm_ (gLa X) y_Mo_holds w_Mo_holds rm [.ref x0, .int x5, .int ((150 * x2) + x3)] M post) (hR : gF X rm 7 k n) (hlen : ∀ r M', post r M' → M'.length = M.length) (kk : ∀ r M', post r M' → gg X M' (k + rm.cells) (n + rm.slots) 66 [(0, .ref x0), (1, .int x1), (2, .int x2), (3, .int x3), (4, .int x4), (5, .int x5)] (r.toList ++ [])) : gg X M k n 53 [(0, .ref x0), (1, .int x1), (2, .int x2), (3, .int x3), (4, .int x4), (5, .int x5)] [] := by
  refine g_aload_n ok d_Mo_filter_53 rfl (j := 0) rfl ?_
  refine g_iload ok d_Mo_filter_54 (j := 5) rfl ?_
  refine g_sipush (v := 150) ok d_Mo_filter_56 (by decide) ?_
  refine g_iload_n ok d_Mo_filter_59 rfl (j := 2) rfl ?_
  refine g_imul ok d_Mo_filter_60 ?_
  refine g_iload_n ok d_Mo_filter_61 rfl (j := 3) rfl ?_
  refine g_iadd ok d_Mo_filter_62 ?_
  exact gc_Mo_336 (As := [.int x5, .int ((150 * x2) + x3)]) (rest := []) ok d_Mo_filter_63 hm rfl rfl (Nat.le_of_ble_eq_true rfl) hR h1 hlen kk
theorem k_Mo_filter_66 {X : gC} {M : List mC} {k n : Nat} {x0 : Nat} {x1 : Int32} {x2 : Int32} {x3 : Int32} {x4 : Int32} {x5 : Int32} {s0 : Int32} {fs2 : List Value} {f3 : Nat} {g6 : Nat → Int32} {N7 : Nat} (ok : gO X c_Mo_filter "TripleStoreModel" w_Mo_filter) (h1 : M[x0]? = some (.inr (10, fs2))) (h4 : fs2[38]? = some (.ref f3)) (h5 : M[f3]? = some (.inl (3, N7, .inl g6))) (h8 : vp_in x5 N7) (kt : ¬ s0 = (g6 x5.toNatClampNeg) → gg X M k n 79 [(0, .ref x0), (1, .int x1), (2, .int x2), (3, .int x3), (4, .int x4), (5, .int x5)] []) (kf : s0 = (g6 x5.toNatClampNeg) → gg X M k n 76 [(0, .ref x0), (1, .int x1), (2, .int x2), (3, .int x3), (5, .int x5)] []) : gg X M k n 66 [(0, .ref x0), (1, .int x1), (2, .int x2), (3, .int x3), (4, .int x4), (5, .int x5)] [.int s0] := by
  refine g_aload_n ok d_Mo_filter_66 rfl (j := 0) rfl ?_
  refine gf_Mo_61 ok d_Mo_filter_67 h1 h4 ?_
  refine g_iload ok d_Mo_filter_70 (j := 5) rfl ?_
  refine g_zald (t := 3) ok rfl d_Mo_filter_72 h5 h8 ?_
  exact g_icmp_ne (tgt := 79) ok d_Mo_filter_73 (by decide) (fun z => (kt z)) (fun z => (gg_keep [0, 1, 2, 3, 5] (kf z)))
theorem k_Mo_filter_76 {X : gC} {M : List mC} {k n : Nat} {x0 : Nat} {x1 : Int32} {x2 : Int32} {x3 : Int32} {x5 : Int32} (ok : gO X c_Mo_filter "TripleStoreModel" w_Mo_filter) (hl : gL X = 6)  (kk : gg X M k n 79 [(0, .ref x0), (1, .int x1), (2, .int x2), (3, .int x3), (4, .int 0), (5, .int x5)] []) : gg X M k n 76 [(0, .ref x0), (1, .int x1), (2, .int x2), (3, .int x3), (5, .int x5)] [] := by
  refine g_iconst (v := 0) ok d_Mo_filter_76 (by decide) ?_
  refine g_istore (L' := [(0, .ref x0), (1, .int x1), (2, .int x2), (3, .int x3), (4, .int 0), (5, .int x5)]) ok d_Mo_filter_77 (by rw [hl]; decide) rfl ?_
  exact kk
theorem k_Mo_filter_79 {X : gC} {M : List mC} {k n : Nat} {x0 : Nat} {x1 : Int32} {x2 : Int32} {x3 : Int32} {x4 : Int32} {x5 : Int32} (ok : gO X c_Mo_filter "TripleStoreModel" w_Mo_filter) (hl : gL X = 6)  (kk : gg X M k n 33 [(0, .ref x0), (1, .int x1), (2, .int x2), (3, .int x3), (4, .int x4), (5, .int (x5 + 1))] []) : gg X M k n 79 [(0, .ref x0), (1, .int x1), (2, .int x2), (3, .int x3), (4, .int x4), (5, .int x5)] [] := by
  refine g_iinc (L' := [(0, .ref x0), (1, .int x1), (2, .int x2), (3, .int x3), (4, .int x4), (5, .int (x5 + 1))]) (v := (x5 + 1)) ok d_Mo_filter_79 (j := 5) rfl rfl (by rw [hl]; decide) rfl ?_
  exact g_goto (tgt := 33) ok d_Mo_filter_82 (by decide) kk
theorem k_Mo_filter_85 {X : gC} {M : List mC} {k n : Nat} {x0 : Nat} {x1 : Int32} {x2 : Int32} {x3 : Int32} {x4 : Int32} (ok : gO X c_Mo_filter "TripleStoreModel" w_Mo_filter)  (kt : x4 = 0 → gg X M k n 98 [(0, .ref x0), (1, .int x1), (2, .int x2), (3, .int x3)] []) (kf : ¬ x4 = 0 → gg X M k n 90 [(0, .ref x0), (1, .int x1), (2, .int x2), (3, .int x3)] []) : gg X M k n 85 [(0, .ref x0), (1, .int x1), (2, .int x2), (3, .int x3), (4, .int x4)] [] := by
  refine g_iload ok d_Mo_filter_85 (j := 4) rfl ?_
  exact g_if_eq (tgt := 98) ok d_Mo_filter_87 (by decide) (fun z => (gg_keep [0, 1, 2, 3] (kt z))) (fun z => (gg_keep [0, 1, 2, 3] (kf z)))
theorem k_Mo_filter_90 {X : gC} {M : List mC} {k n : Nat} {x0 : Nat} {x1 : Int32} {x2 : Int32} {x3 : Int32} {fs2 : List Value} (ok : gO X c_Mo_filter "TripleStoreModel" w_Mo_filter) (h1 : M[x0]? = some (.inr (10, fs2))) {rm : Room} {post : Option Value → List mC → Prop} (hm : mm_ (gLa X) y_Mo_addTo w_Mo_addTo rm [.ref x0, .int 10, .int x2, .int x3] M post) (hR : gF X rm 6 k n) (hlen : ∀ r M', post r M' → M'.length = M.length) (kk : ∀ r M', post r M' → gg X M' (k + rm.cells) (n + rm.slots) 98 [(0, .ref x0), (1, .int x1), (2, .int x2), (3, .int x3)] (r.toList ++ [])) : gg X M k n 90 [(0, .ref x0), (1, .int x1), (2, .int x2), (3, .int x3)] [] := by
  refine g_aload_n ok d_Mo_filter_90 rfl (j := 0) rfl ?_
  refine g_bipush (v := 10) ok d_Mo_filter_91 (by decide) ?_
  refine g_iload_n ok d_Mo_filter_93 rfl (j := 2) rfl ?_
  refine g_iload_n ok d_Mo_filter_94 rfl (j := 3) rfl ?_
  exact gc_Mo_314 (As := [.int 10, .int x2, .int x3]) (rest := []) ok d_Mo_filter_95 hm rfl rfl (Nat.le_of_ble_eq_true rfl) hR h1 hlen kk
theorem k_Mo_filter_98 {X : gC} {M : List mC} {k n : Nat} {x0 : Nat} {x1 : Int32} {x2 : Int32} {x3 : Int32} (ok : gO X c_Mo_filter "TripleStoreModel" w_Mo_filter) (hl : gL X = 6)  (kk : gg X M k n 17 [(0, .ref x0), (1, .int x1), (2, .int x2), (3, .int (x3 + 1))] []) : gg X M k n 98 [(0, .ref x0), (1, .int x1), (2, .int x2), (3, .int x3)] [] := by
  refine g_iinc (L' := [(0, .ref x0), (1, .int x1), (2, .int x2), (3, .int (x3 + 1))]) (v := (x3 + 1)) ok d_Mo_filter_98 (j := 3) rfl rfl (by rw [hl]; decide) rfl ?_
  exact g_goto (tgt := 17) ok d_Mo_filter_101 (by decide) kk
theorem k_Mo_filter_104 {X : gC} {M : List mC} {k n : Nat} {x0 : Nat} {x2 : Int32} {fs2 : List Value} (ok : gO X c_Mo_filter "TripleStoreModel" w_Mo_filter) (h1 : M[x0]? = some (.inr (10, fs2))) {rm : Room} {post : Option Value → List mC → Prop} (hm : mm_ (gLa X) y_Mo_copy w_Mo_copy rm [.ref x0, .int 10, .int x2] M post) (hR : gF X rm 4 k n) (hlen : ∀ r M', post r M' → M'.length = M.length) (kk : ∀ r M', post r M' → gg X M' (k + rm.cells) (n + rm.slots) 111 [] (r.toList ++ [])) : gg X M k n 104 [(0, .ref x0), (2, .int x2)] [] := by
  refine g_aload_n ok d_Mo_filter_104 rfl (j := 0) rfl ?_
  refine g_bipush (v := 10) ok d_Mo_filter_105 (by decide) ?_
  refine g_iload_n ok d_Mo_filter_107 rfl (j := 1) rfl ?_
  exact gc_Mo_329 (As := [.int 10, .int x2]) (rest := []) ok d_Mo_filter_108 hm rfl rfl (Nat.le_of_ble_eq_true rfl) hR h1 hlen (fun r M' q => (gg_keep [] (kk r M' q)))
theorem k_Mo_filter_111 {X : gC} {M : List mC} {k n : Nat}  (ok : gO X c_Mo_filter "TripleStoreModel" w_Mo_filter)  {l9 : Launch} {rm : Room} {M0 : List mC} {post : Option Value → List mC → Prop} (E : gE X l9 y_Mo_filter rm 6 none M0 post) (hp : post (none) M) (hk : k ≤ rm.cells) (hn : n ≤ rm.slots) : gg X M k n 111 [] [] := by
  exact g_vret ok E d_Mo_filter_111 hp hk hn
theorem k_Mo_work_0 {X : gC} {M : List mC} {k n : Nat} {x0 : Nat} {x1 : Int32} {x2 : Int32} (ok : gO X c_Mo_work "TripleStoreModel" w_Mo_work)  (kt : x1 = 1 → gg X M k n 11 [(0, .ref x0), (1, .int x1)] []) (kf : ¬ x1 = 1 → gg X M k n 5 [(0, .ref x0), (1, .int x1), (2, .int x2)] []) : gg X M k n 0 [(0, .ref x0), (1, .int x1), (2, .int x2)] [] := by
  refine g_iload_n ok d_Mo_work_0 rfl (j := 1) rfl ?_
  refine g_iconst (v := 1) ok d_Mo_work_1 (by decide) ?_
  exact g_icmp_eq (tgt := 11) ok d_Mo_work_2 (by decide) (fun z => (gg_keep [0, 1] (kt z))) (fun z => (kf z))
theorem k_Mo_work_5 {X : gC} {M : List mC} {k n : Nat} {x0 : Nat} {x1 : Int32} {x2 : Int32} (ok : gO X c_Mo_work "TripleStoreModel" w_Mo_work)  (kt : ¬ x1 = 6 → gg X M k n 57 [(0, .ref x0), (1, .int x1), (2, .int x2)] []) (kf : x1 = 6 → gg X M k n 11 [(0, .ref x0), (1, .int x1)] []) : gg X M k n 5 [(0, .ref x0), (1, .int x1), (2, .int x2)] [] := by
  refine g_iload_n ok d_Mo_work_5 rfl (j := 1) rfl ?_
  refine g_bipush (v := 6) ok d_Mo_work_6 (by decide) ?_
  exact g_icmp_ne (tgt := 57) ok d_Mo_work_8 (by decide) (fun z => (kt z)) (fun z => (gg_keep [0, 1] (kf z)))
theorem k_Mo_work_11 {X : gC} {M : List mC} {k n : Nat} {x0 : Nat} {x1 : Int32} {fs2 : List Value} {f3 : Nat} {f5 : Int32} (ok : gO X c_Mo_work "TripleStoreModel" w_Mo_work) (h1 : M[x0]? = some (.inr (10, fs2))) (h4 : fs2[49]? = some (.ref f3)) (h6 : fs2[50]? = some (.int f5)) (kt : ¬ x1 = 1 → gg X M k n 28 [(0, .ref x0)] [.int f5, .ref f3]) (kf : x1 = 1 → gg X M k n 24 [(0, .ref x0)] [.int f5, .ref f3]) : gg X M k n 11 [(0, .ref x0), (1, .int x1)] [] := by
  refine g_aload_n ok d_Mo_work_11 rfl (j := 0) rfl ?_
  refine gf_Mo_76 ok d_Mo_work_12 h1 h4 ?_
  refine g_aload_n ok d_Mo_work_15 rfl (j := 0) rfl ?_
  refine gf_Mo_318 ok d_Mo_work_16 h1 h6 ?_
  refine g_iload_n ok d_Mo_work_19 rfl (j := 1) rfl ?_
  refine g_iconst (v := 1) ok d_Mo_work_20 (by decide) ?_
  exact g_icmp_ne (tgt := 28) ok d_Mo_work_21 (by decide) (fun z => (gg_keep [0] (kt z))) (fun z => (gg_keep [0] (kf z)))
theorem k_Mo_work_24 {X : gC} {M : List mC} {k n : Nat} {x0 : Nat} {s0 : Nat} {s1 : Int32} (ok : gO X c_Mo_work "TripleStoreModel" w_Mo_work)  (kk : gg X M k n 29 [(0, .ref x0)] [.int 1, .int s1, .ref s0]) : gg X M k n 24 [(0, .ref x0)] [.int s1, .ref s0] := by
  refine g_iconst (v := 1) ok d_Mo_work_24 (by decide) ?_
  exact g_goto (tgt := 29) ok d_Mo_work_25 (by decide) kk
theorem k_Mo_work_28 {X : gC} {M : List mC} {k n : Nat} {x0 : Nat} {s0 : Nat} {s1 : Int32} (ok : gO X c_Mo_work "TripleStoreModel" w_Mo_work)  (kk : gg X M k n 29 [(0, .ref x0)] [.int 0, .int s1, .ref s0]) : gg X M k n 28 [(0, .ref x0)] [.int s1, .ref s0] := by
  refine g_iconst (v := 0) ok d_Mo_work_28 (by decide) ?_
  exact kk
theorem k_Mo_work_29 {X : gC} {M : List mC} {k n : Nat} {x0 : Nat} {s0 : Nat} {s1 : Int32} {s2 : Int32} {g2 : Nat → Int32} {N3 : Nat} {M5 : List mC} {fs9 : List Value} {f11 : Nat} {f13 : Int32} {g16 : Nat → Int32} {N17 : Nat} {M21 : List mC} {M27 : List mC} (ok : gO X c_Mo_work "TripleStoreModel" w_Mo_work) (h1 : M[s0]? = some (.inl (0, N3, .inl g2))) (h4 : vp_in s1 N3) (h6 : M.set s0 (.inl (0, N3, .inl (upd g2 s1.toNatClampNeg s2))) = M5) (h8 : M[x0]? = some (.inr (10, fs9))) (h12 : fs9[48]? = some (.ref f11)) (h14 : fs9[50]? = some (.int f13)) (h15 : M[f11]? = some (.inl (0, N17, .inl g16))) (h19 : f11 ≠ s0) (h20 : vp_in (150 * f13) N17) (h22 : M5.set f11 (.inl (0, N17, .inl (upd g16 (150 * f13).toNatClampNeg 0))) = M21) (h26 : 59 ≤ fs9.length) (h28 : M21.set x0 (.inr (10, (fs9.set 50 (.int (f13 + 1))))) = M27) (kk : gg X M27 k n 174 [] []) : gg X M k n 29 [(0, .ref x0)] [.int s2, .int s1, .ref s0] := by
  refine g_iast (t := 0) ok rfl d_Mo_work_29 h1 h4 ?_
  rw [h6]
  have h7 : M5[s0]? = some (.inl (0, N3, .inl (upd g2 s1.toNatClampNeg s2))) := by rw [← h6]; exact gs_eq h1
  refine g_aload_n ok d_Mo_work_30 rfl (j := 0) rfl ?_
  have h10 : M5[x0]? = some (.inr (10, fs9)) := by rw [← h6]; exact (gs_ne (ne_ao h1 h8)).trans h8
  refine gf_Mo_73 ok d_Mo_work_31 h10 h12 ?_
  refine g_sipush (v := 150) ok d_Mo_work_34 (by decide) ?_
  refine g_aload_n ok d_Mo_work_37 rfl (j := 0) rfl ?_
  refine gf_Mo_318 ok d_Mo_work_38 h10 h14 ?_
  refine g_imul ok d_Mo_work_41 ?_
  refine g_iconst (v := 0) ok d_Mo_work_42 (by decide) ?_
  have h18 : M5[f11]? = some (.inl (0, N17, .inl g16)) := by rw [← h6]; exact (gs_ne (Ne.symm h19)).trans h15
  refine g_iast (t := 0) ok rfl d_Mo_work_43 h18 h20 ?_
  rw [h22]
  have h23 : M21[f11]? = some (.inl (0, N17, .inl (upd g16 (150 * f13).toNatClampNeg 0))) := by rw [← h22]; exact gs_eq h18
  refine g_aload_n ok d_Mo_work_44 rfl (j := 0) rfl ?_
  refine g_dup ok d_Mo_work_45 rfl ?_
  have h24 : M21[x0]? = some (.inr (10, fs9)) := by rw [← h22]; exact (gs_ne (ne_ao h18 h10)).trans h10
  refine gf_Mo_318 ok d_Mo_work_46 h24 h14 ?_
  refine g_iconst (v := 1) ok d_Mo_work_49 (by decide) ?_
  refine g_iadd ok d_Mo_work_50 ?_
  have h25 : 50 < (fs9).length := by first | omega | (simp only [List.length_set]; omega)
  refine pf_Mo_318 ok d_Mo_work_51 h24 h25 (fun _ => ⟨rfl, rfl⟩) ?_
  rw [h28]
  have h29 : M27[x0]? = some (.inr (10, (fs9.set 50 (.int (f13 + 1))))) := by rw [← h28]; exact gs_eq h24
  have h30 := (List.getElem?_set_ne (a := .int (f13 + 1)) (by decide : 50 ≠ 48)).trans h12
  have h31 : (fs9.set 50 (.int (f13 + 1)))[50]? = some (.int (f13 + 1)) := List.getElem?_set_self h25
  exact g_goto (tgt := 174) ok d_Mo_work_54 (by decide) (gg_keep [] kk)
theorem k_Mo_work_57 {X : gC} {M : List mC} {k n : Nat} {x0 : Nat} {x1 : Int32} {x2 : Int32} (ok : gO X c_Mo_work "TripleStoreModel" w_Mo_work)  (kt : ¬ x1 = 2 → gg X M k n 75 [(0, .ref x0), (1, .int x1), (2, .int x2)] []) (kf : x1 = 2 → gg X M k n 62 [(0, .ref x0), (2, .int x2)] []) : gg X M k n 57 [(0, .ref x0), (1, .int x1), (2, .int x2)] [] := by
  refine g_iload_n ok d_Mo_work_57 rfl (j := 1) rfl ?_
  refine g_iconst (v := 2) ok d_Mo_work_58 (by decide) ?_
  exact g_icmp_ne (tgt := 75) ok d_Mo_work_59 (by decide) (fun z => (kt z)) (fun z => (gg_keep [0, 2] (kf z)))
theorem k_Mo_work_62 {X : gC} {M : List mC} {k n : Nat} {x0 : Nat} {x2 : Int32} {fs2 : List Value} (ok : gO X c_Mo_work "TripleStoreModel" w_Mo_work) (h1 : M[x0]? = some (.inr (10, fs2))) {rm : Room} {post : Option Value → List mC → Prop} (hm : mm_ (gLa X) y_Mo_match w_Mo_match rm [.ref x0, .int x2] M post) (hR : gF X rm 10 k n) (hlen : ∀ r M', post r M' → M'.length = M.length) (kk : ∀ r M', post r M' → gg X M' (k + rm.cells) (n + rm.slots) 67 [(0, .ref x0)] (r.toList ++ [])) : gg X M k n 62 [(0, .ref x0), (2, .int x2)] [] := by
  refine g_aload_n ok d_Mo_work_62 rfl (j := 0) rfl ?_
  refine g_iload_n ok d_Mo_work_63 rfl (j := 1) rfl ?_
  exact gc_Mo_338 (As := [.int x2]) (rest := []) ok d_Mo_work_64 hm rfl rfl (Nat.le_of_ble_eq_true rfl) hR h1 hlen (fun r M' q => (gg_keep [0] (kk r M' q)))
theorem k_Mo_work_67 {X : gC} {M : List mC} {k n : Nat} {x0 : Nat} {fs2 : List Value} (ok : gO X c_Mo_work "TripleStoreModel" w_Mo_work) (h1 : M[x0]? = some (.inr (10, fs2))) {rm : Room} {post : Option Value → List mC → Prop} (hm : mm_ (gLa X) y_Mo_combine w_Mo_combine rm [.ref x0, .int 0] M post) (hR : gF X rm 8 k n) (hlen : ∀ r M', post r M' → M'.length = M.length) (kk : ∀ r M', post r M' → gg X M' (k + rm.cells) (n + rm.slots) 72 [] (r.toList ++ [])) : gg X M k n 67 [(0, .ref x0)] [] := by
  refine g_aload_n ok d_Mo_work_67 rfl (j := 0) rfl ?_
  refine g_iconst (v := 0) ok d_Mo_work_68 (by decide) ?_
  exact gc_Mo_341 (As := [.int 0]) (rest := []) ok d_Mo_work_69 hm rfl rfl (Nat.le_of_ble_eq_true rfl) hR h1 hlen (fun r M' q => (gg_keep [] (kk r M' q)))
theorem k_Mo_work_72 {X : gC} {M : List mC} {k n : Nat}  (ok : gO X c_Mo_work "TripleStoreModel" w_Mo_work)  (kk : gg X M k n 174 [] []) : gg X M k n 72 [] [] := by
  exact g_goto (tgt := 174) ok d_Mo_work_72 (by decide) kk
theorem k_Mo_work_75 {X : gC} {M : List mC} {k n : Nat} {x0 : Nat} {x1 : Int32} {x2 : Int32} (ok : gO X c_Mo_work "TripleStoreModel" w_Mo_work)  (kt : ¬ x1 = 3 → gg X M k n 88 [(0, .ref x0), (1, .int x1)] []) (kf : x1 = 3 → gg X M k n 80 [(0, .ref x0), (2, .int x2)] []) : gg X M k n 75 [(0, .ref x0), (1, .int x1), (2, .int x2)] [] := by
  refine g_iload_n ok d_Mo_work_75 rfl (j := 1) rfl ?_
  refine g_iconst (v := 3) ok d_Mo_work_76 (by decide) ?_
  exact g_icmp_ne (tgt := 88) ok d_Mo_work_77 (by decide) (fun z => (gg_keep [0, 1] (kt z))) (fun z => (gg_keep [0, 2] (kf z)))
theorem k_Mo_work_80 {X : gC} {M : List mC} {k n : Nat} {x0 : Nat} {x2 : Int32} {fs2 : List Value} (ok : gO X c_Mo_work "TripleStoreModel" w_Mo_work) (h1 : M[x0]? = some (.inr (10, fs2))) {rm : Room} {post : Option Value → List mC → Prop} (hm : mm_ (gLa X) y_Mo_filter w_Mo_filter rm [.ref x0, .int x2] M post) (hR : gF X rm 6 k n) (hlen : ∀ r M', post r M' → M'.length = M.length) (kk : ∀ r M', post r M' → gg X M' (k + rm.cells) (n + rm.slots) 85 [] (r.toList ++ [])) : gg X M k n 80 [(0, .ref x0), (2, .int x2)] [] := by
  refine g_aload_n ok d_Mo_work_80 rfl (j := 0) rfl ?_
  refine g_iload_n ok d_Mo_work_81 rfl (j := 1) rfl ?_
  exact gc_Mo_344 (As := [.int x2]) (rest := []) ok d_Mo_work_82 hm rfl rfl (Nat.le_of_ble_eq_true rfl) hR h1 hlen (fun r M' q => (gg_keep [] (kk r M' q)))
theorem k_Mo_work_85 {X : gC} {M : List mC} {k n : Nat}  (ok : gO X c_Mo_work "TripleStoreModel" w_Mo_work)  (kk : gg X M k n 174 [] []) : gg X M k n 85 [] [] := by
  exact g_goto (tgt := 174) ok d_Mo_work_85 (by decide) kk
theorem k_Mo_work_88 {X : gC} {M : List mC} {k n : Nat} {x0 : Nat} {x1 : Int32} (ok : gO X c_Mo_work "TripleStoreModel" w_Mo_work)  (kt : ¬ x1 = 4 → gg X M k n 101 [(0, .ref x0), (1, .int x1)] []) (kf : x1 = 4 → gg X M k n 93 [(0, .ref x0)] []) : gg X M k n 88 [(0, .ref x0), (1, .int x1)] [] := by
  refine g_iload_n ok d_Mo_work_88 rfl (j := 1) rfl ?_
  refine g_iconst (v := 4) ok d_Mo_work_89 (by decide) ?_
  exact g_icmp_ne (tgt := 101) ok d_Mo_work_90 (by decide) (fun z => (kt z)) (fun z => (gg_keep [0] (kf z)))
theorem k_Mo_work_93 {X : gC} {M : List mC} {k n : Nat} {x0 : Nat} {fs2 : List Value} (ok : gO X c_Mo_work "TripleStoreModel" w_Mo_work) (h1 : M[x0]? = some (.inr (10, fs2))) {rm : Room} {post : Option Value → List mC → Prop} (hm : mm_ (gLa X) y_Mo_combine w_Mo_combine rm [.ref x0, .int 1] M post) (hR : gF X rm 8 k n) (hlen : ∀ r M', post r M' → M'.length = M.length) (kk : ∀ r M', post r M' → gg X M' (k + rm.cells) (n + rm.slots) 98 [] (r.toList ++ [])) : gg X M k n 93 [(0, .ref x0)] [] := by
  refine g_aload_n ok d_Mo_work_93 rfl (j := 0) rfl ?_
  refine g_iconst (v := 1) ok d_Mo_work_94 (by decide) ?_
  exact gc_Mo_341 (As := [.int 1]) (rest := []) ok d_Mo_work_95 hm rfl rfl (Nat.le_of_ble_eq_true rfl) hR h1 hlen (fun r M' q => (gg_keep [] (kk r M' q)))
theorem k_Mo_work_98 {X : gC} {M : List mC} {k n : Nat}  (ok : gO X c_Mo_work "TripleStoreModel" w_Mo_work)  (kk : gg X M k n 174 [] []) : gg X M k n 98 [] [] := by
  exact g_goto (tgt := 174) ok d_Mo_work_98 (by decide) kk
theorem k_Mo_work_101 {X : gC} {M : List mC} {k n : Nat} {x0 : Nat} {x1 : Int32} (ok : gO X c_Mo_work "TripleStoreModel" w_Mo_work)  (kt : ¬ x1 = 5 → gg X M k n 114 [(0, .ref x0), (1, .int x1)] []) (kf : x1 = 5 → gg X M k n 106 [(0, .ref x0)] []) : gg X M k n 101 [(0, .ref x0), (1, .int x1)] [] := by
  refine g_iload_n ok d_Mo_work_101 rfl (j := 1) rfl ?_
  refine g_iconst (v := 5) ok d_Mo_work_102 (by decide) ?_
  exact g_icmp_ne (tgt := 114) ok d_Mo_work_103 (by decide) (fun z => (kt z)) (fun z => (gg_keep [0] (kf z)))
theorem k_Mo_work_106 {X : gC} {M : List mC} {k n : Nat} {x0 : Nat} {fs2 : List Value} (ok : gO X c_Mo_work "TripleStoreModel" w_Mo_work) (h1 : M[x0]? = some (.inr (10, fs2))) {rm : Room} {post : Option Value → List mC → Prop} (hm : mm_ (gLa X) y_Mo_combine w_Mo_combine rm [.ref x0, .int 2] M post) (hR : gF X rm 8 k n) (hlen : ∀ r M', post r M' → M'.length = M.length) (kk : ∀ r M', post r M' → gg X M' (k + rm.cells) (n + rm.slots) 111 [] (r.toList ++ [])) : gg X M k n 106 [(0, .ref x0)] [] := by
  refine g_aload_n ok d_Mo_work_106 rfl (j := 0) rfl ?_
  refine g_iconst (v := 2) ok d_Mo_work_107 (by decide) ?_
  exact gc_Mo_341 (As := [.int 2]) (rest := []) ok d_Mo_work_108 hm rfl rfl (Nat.le_of_ble_eq_true rfl) hR h1 hlen (fun r M' q => (gg_keep [] (kk r M' q)))
theorem k_Mo_work_111 {X : gC} {M : List mC} {k n : Nat}  (ok : gO X c_Mo_work "TripleStoreModel" w_Mo_work)  (kk : gg X M k n 174 [] []) : gg X M k n 111 [] [] := by
  exact g_goto (tgt := 174) ok d_Mo_work_111 (by decide) kk
theorem k_Mo_work_114 {X : gC} {M : List mC} {k n : Nat} {x0 : Nat} {x1 : Int32} (ok : gO X c_Mo_work "TripleStoreModel" w_Mo_work)  (kt : ¬ x1 = 8 → gg X M k n 128 [(0, .ref x0)] []) (kf : x1 = 8 → gg X M k n 120 [(0, .ref x0)] []) : gg X M k n 114 [(0, .ref x0), (1, .int x1)] [] := by
  refine g_iload_n ok d_Mo_work_114 rfl (j := 1) rfl ?_
  refine g_bipush (v := 8) ok d_Mo_work_115 (by decide) ?_
  exact g_icmp_ne (tgt := 128) ok d_Mo_work_117 (by decide) (fun z => (gg_keep [0] (kt z))) (fun z => (gg_keep [0] (kf z)))
theorem k_Mo_work_120 {X : gC} {M : List mC} {k n : Nat} {x0 : Nat} {fs2 : List Value} (ok : gO X c_Mo_work "TripleStoreModel" w_Mo_work) (h1 : M[x0]? = some (.inr (10, fs2))) {rm : Room} {post : Option Value → List mC → Prop} (hm : mm_ (gLa X) y_Mo_combine w_Mo_combine rm [.ref x0, .int 0] M post) (hR : gF X rm 8 k n) (hlen : ∀ r M', post r M' → M'.length = M.length) (kk : ∀ r M', post r M' → gg X M' (k + rm.cells) (n + rm.slots) 125 [] (r.toList ++ [])) : gg X M k n 120 [(0, .ref x0)] [] := by
  refine g_aload_n ok d_Mo_work_120 rfl (j := 0) rfl ?_
  refine g_iconst (v := 0) ok d_Mo_work_121 (by decide) ?_
  exact gc_Mo_341 (As := [.int 0]) (rest := []) ok d_Mo_work_122 hm rfl rfl (Nat.le_of_ble_eq_true rfl) hR h1 hlen (fun r M' q => (gg_keep [] (kk r M' q)))
theorem k_Mo_work_125 {X : gC} {M : List mC} {k n : Nat}  (ok : gO X c_Mo_work "TripleStoreModel" w_Mo_work)  (kk : gg X M k n 174 [] []) : gg X M k n 125 [] [] := by
  exact g_goto (tgt := 174) ok d_Mo_work_125 (by decide) kk
theorem k_Mo_work_128 {X : gC} {M : List mC} {k n : Nat} {x0 : Nat} {fs2 : List Value} {f3 : Int32} {M7 : List mC} (ok : gO X c_Mo_work "TripleStoreModel" w_Mo_work) (hl : gL X = 4) (h1 : M[x0]? = some (.inr (10, fs2))) (h4 : fs2[50]? = some (.int f3)) (h6 : 59 ≤ fs2.length) (h8 : M.set x0 (.inr (10, (fs2.set 50 (.int (f3 - 1))))) = M7) (kk : gg X M7 k n 140 [(0, .ref x0), (3, .int 0)] []) : gg X M k n 128 [(0, .ref x0)] [] := by
  refine g_aload_n ok d_Mo_work_128 rfl (j := 0) rfl ?_
  refine g_dup ok d_Mo_work_129 rfl ?_
  refine gf_Mo_318 ok d_Mo_work_130 h1 h4 ?_
  refine g_iconst (v := 1) ok d_Mo_work_133 (by decide) ?_
  refine g_isub ok d_Mo_work_134 ?_
  have h5 : 50 < (fs2).length := by first | omega | (simp only [List.length_set]; omega)
  refine pf_Mo_318 ok d_Mo_work_135 h1 h5 (fun _ => ⟨rfl, rfl⟩) ?_
  rw [h8]
  have h9 : M7[x0]? = some (.inr (10, (fs2.set 50 (.int (f3 - 1))))) := by rw [← h8]; exact gs_eq h1
  have h10 : (fs2.set 50 (.int (f3 - 1)))[50]? = some (.int (f3 - 1)) := List.getElem?_set_self h5
  refine g_iconst (v := 0) ok d_Mo_work_138 (by decide) ?_
  refine g_istore_n (L' := [(0, .ref x0), (3, .int 0)]) ok d_Mo_work_139 rfl (by rw [hl]; decide) rfl ?_
  exact kk
theorem k_Mo_work_140 {X : gC} {M : List mC} {k n : Nat} {x0 : Nat} {x3 : Int32} {fs2 : List Value} {f3 : Nat} {f5 : Int32} {g8 : Nat → Int32} {N9 : Nat} (ok : gO X c_Mo_work "TripleStoreModel" w_Mo_work) (h1 : M[x0]? = some (.inr (10, fs2))) (h4 : fs2[49]? = some (.ref f3)) (h6 : fs2[50]? = some (.int f5)) (h7 : M[f3]? = some (.inl (0, N9, .inl g8))) (h10 : vp_in f5 N9) (kt : (g8 f5.toNatClampNeg) ≤ x3 → gg X M k n 174 [] []) (kf : ¬ (g8 f5.toNatClampNeg) ≤ x3 → gg X M k n 153 [(0, .ref x0), (3, .int x3)] []) : gg X M k n 140 [(0, .ref x0), (3, .int x3)] [] := by
  refine g_iload_n ok d_Mo_work_140 rfl (j := 1) rfl ?_
  refine g_aload_n ok d_Mo_work_141 rfl (j := 0) rfl ?_
  refine gf_Mo_76 ok d_Mo_work_142 h1 h4 ?_
  refine g_aload_n ok d_Mo_work_145 rfl (j := 0) rfl ?_
  refine gf_Mo_318 ok d_Mo_work_146 h1 h6 ?_
  refine g_iald (t := 0) ok rfl d_Mo_work_149 h7 h10 ?_
  exact g_icmp_ge (tgt := 174) ok d_Mo_work_150 (by decide) (fun z => (gg_keep [] (kt z))) (fun z => (kf z))
theorem k_Mo_work_153 {X : gC} {M : List mC} {k n : Nat} {x0 : Nat} {x3 : Int32} {fs2 : List Value} {f3 : Int32} (ok : gO X c_Mo_work "TripleStoreModel" w_Mo_work) (h1 : M[x0]? = some (.inr (10, fs2))) (h4 : fs2[50]? = some (.int f3)) {rm : Room} {post : Option Value → List mC → Prop} (hm : mm_ (gLa X) y_Mo_addTo w_Mo_addTo rm [.ref x0, .int (f3 - 1), .int f3, .int x3] M post) (hR : gF X rm 6 k n) (hlen : ∀ r M', post r M' → M'.length = M.length) (kk : ∀ r M', post r M' → gg X M' (k + rm.cells) (n + rm.slots) 168 [(0, .ref x0), (3, .int x3)] (r.toList ++ [])) : gg X M k n 153 [(0, .ref x0), (3, .int x3)] [] := by
  refine g_aload_n ok d_Mo_work_153 rfl (j := 0) rfl ?_
  refine g_aload_n ok d_Mo_work_154 rfl (j := 0) rfl ?_
  refine gf_Mo_318 ok d_Mo_work_155 h1 h4 ?_
  refine g_iconst (v := 1) ok d_Mo_work_158 (by decide) ?_
  refine g_isub ok d_Mo_work_159 ?_
  refine g_aload_n ok d_Mo_work_160 rfl (j := 0) rfl ?_
  refine gf_Mo_318 ok d_Mo_work_161 h1 h4 ?_
  refine g_iload_n ok d_Mo_work_164 rfl (j := 1) rfl ?_
  exact gc_Mo_314 (As := [.int (f3 - 1), .int f3, .int x3]) (rest := []) ok d_Mo_work_165 hm rfl rfl (Nat.le_of_ble_eq_true rfl) hR h1 hlen kk
theorem k_Mo_work_168 {X : gC} {M : List mC} {k n : Nat} {x0 : Nat} {x3 : Int32} (ok : gO X c_Mo_work "TripleStoreModel" w_Mo_work) (hl : gL X = 4)  (kk : gg X M k n 140 [(0, .ref x0), (3, .int (x3 + 1))] []) : gg X M k n 168 [(0, .ref x0), (3, .int x3)] [] := by
  refine g_iinc (L' := [(0, .ref x0), (3, .int (x3 + 1))]) (v := (x3 + 1)) ok d_Mo_work_168 (j := 1) rfl rfl (by rw [hl]; decide) rfl ?_
  exact g_goto (tgt := 140) ok d_Mo_work_171 (by decide) kk
theorem k_Mo_work_174 {X : gC} {M : List mC} {k n : Nat}  (ok : gO X c_Mo_work "TripleStoreModel" w_Mo_work)  {l9 : Launch} {rm : Room} {M0 : List mC} {post : Option Value → List mC → Prop} (E : gE X l9 y_Mo_work rm 4 none M0 post) (hp : post (none) M) (hk : k ≤ rm.cells) (hn : n ≤ rm.slots) : gg X M k n 174 [] [] := by
  exact g_vret ok E d_Mo_work_174 hp hk hn
theorem k_Mo_by_0 {X : gC} {M : List mC} {k n : Nat} {x0 : Nat} {x1 : Int32} {x2 : Int32} {x3 : Int32} {fs2 : List Value} {f3 : Nat} {g6 : Nat → Int32} {N7 : Nat} (ok : gO X c_Mo_by "TripleStoreModel" w_Mo_by) (h1 : M[x0]? = some (.inr (10, fs2))) (h4 : fs2[48]? = some (.ref f3)) (h5 : M[f3]? = some (.inl (0, N7, .inl g6))) (h8 : vp_in x2 N7) (kt : ¬ (((g6 x2.toNatClampNeg) >>> (x1 &&& 31)) &&& 1) = 1 → gg X M k n 18 [(0, .ref x0), (1, .int x1), (2, .int x2), (3, .int x3)] []) (kf : (((g6 x2.toNatClampNeg) >>> (x1 &&& 31)) &&& 1) = 1 → gg X M k n 14 [(0, .ref x0), (1, .int x1), (2, .int x2), (3, .int x3)] []) : gg X M k n 0 [(0, .ref x0), (1, .int x1), (2, .int x2), (3, .int x3)] [] := by
  refine g_aload_n ok d_Mo_by_0 rfl (j := 0) rfl ?_
  refine gf_Mo_73 ok d_Mo_by_1 h1 h4 ?_
  refine g_iload_n ok d_Mo_by_4 rfl (j := 2) rfl ?_
  refine g_iald (t := 0) ok rfl d_Mo_by_5 h5 h8 ?_
  refine g_iload_n ok d_Mo_by_6 rfl (j := 1) rfl ?_
  refine g_ishr ok d_Mo_by_7 ?_
  refine g_iconst (v := 1) ok d_Mo_by_8 (by decide) ?_
  refine g_iand ok d_Mo_by_9 ?_
  refine g_iconst (v := 1) ok d_Mo_by_10 (by decide) ?_
  exact g_icmp_ne (tgt := 18) ok d_Mo_by_11 (by decide) (fun z => (kt z)) (fun z => (kf z))
theorem k_Mo_by_14 {X : gC} {M : List mC} {k n : Nat} {x0 : Nat} {x1 : Int32} {x2 : Int32} {x3 : Int32} (ok : gO X c_Mo_by "TripleStoreModel" w_Mo_by)  (kk : gg X M k n 19 [(0, .ref x0), (1, .int x1), (2, .int x2), (3, .int x3)] [.int 1]) : gg X M k n 14 [(0, .ref x0), (1, .int x1), (2, .int x2), (3, .int x3)] [] := by
  refine g_iconst (v := 1) ok d_Mo_by_14 (by decide) ?_
  exact g_goto (tgt := 19) ok d_Mo_by_15 (by decide) kk
theorem k_Mo_by_18 {X : gC} {M : List mC} {k n : Nat} {x0 : Nat} {x1 : Int32} {x2 : Int32} {x3 : Int32} (ok : gO X c_Mo_by "TripleStoreModel" w_Mo_by)  (kk : gg X M k n 19 [(0, .ref x0), (1, .int x1), (2, .int x2), (3, .int x3)] [.int 0]) : gg X M k n 18 [(0, .ref x0), (1, .int x1), (2, .int x2), (3, .int x3)] [] := by
  refine g_iconst (v := 0) ok d_Mo_by_18 (by decide) ?_
  exact kk
theorem k_Mo_by_19 {X : gC} {M : List mC} {k n : Nat} {x0 : Nat} {x1 : Int32} {x2 : Int32} {x3 : Int32} {s0 : Int32} {fs2 : List Value} {f3 : Nat} {g6 : Nat → Int32} {N7 : Nat} (ok : gO X c_Mo_by "TripleStoreModel" w_Mo_by) (hl : gL X = 6) (h1 : M[x0]? = some (.inr (10, fs2))) (h4 : fs2[48]? = some (.ref f3)) (h5 : M[f3]? = some (.inl (0, N7, .inl g6))) (h8 : vp_in x3 N7) (kt : ¬ (((g6 x3.toNatClampNeg) >>> (x1 &&& 31)) &&& 1) = 1 → gg X M k n 39 [(0, .ref x0), (1, .int x1), (2, .int x2), (3, .int x3), (4, .int s0)] []) (kf : (((g6 x3.toNatClampNeg) >>> (x1 &&& 31)) &&& 1) = 1 → gg X M k n 35 [(0, .ref x0), (1, .int x1), (2, .int x2), (3, .int x3), (4, .int s0)] []) : gg X M k n 19 [(0, .ref x0), (1, .int x1), (2, .int x2), (3, .int x3)] [.int s0] := by
  refine g_istore (L' := [(0, .ref x0), (1, .int x1), (2, .int x2), (3, .int x3), (4, .int s0)]) ok d_Mo_by_19 (by rw [hl]; decide) rfl ?_
  refine g_aload_n ok d_Mo_by_21 rfl (j := 0) rfl ?_
  refine gf_Mo_73 ok d_Mo_by_22 h1 h4 ?_
  refine g_iload_n ok d_Mo_by_25 rfl (j := 3) rfl ?_
  refine g_iald (t := 0) ok rfl d_Mo_by_26 h5 h8 ?_
  refine g_iload_n ok d_Mo_by_27 rfl (j := 1) rfl ?_
  refine g_ishr ok d_Mo_by_28 ?_
  refine g_iconst (v := 1) ok d_Mo_by_29 (by decide) ?_
  refine g_iand ok d_Mo_by_30 ?_
  refine g_iconst (v := 1) ok d_Mo_by_31 (by decide) ?_
  exact g_icmp_ne (tgt := 39) ok d_Mo_by_32 (by decide) (fun z => (kt z)) (fun z => (kf z))
theorem k_Mo_by_35 {X : gC} {M : List mC} {k n : Nat} {x0 : Nat} {x1 : Int32} {x2 : Int32} {x3 : Int32} {x4 : Int32} (ok : gO X c_Mo_by "TripleStoreModel" w_Mo_by)  (kk : gg X M k n 40 [(0, .ref x0), (1, .int x1), (2, .int x2), (3, .int x3), (4, .int x4)] [.int 1]) : gg X M k n 35 [(0, .ref x0), (1, .int x1), (2, .int x2), (3, .int x3), (4, .int x4)] [] := by
  refine g_iconst (v := 1) ok d_Mo_by_35 (by decide) ?_
  exact g_goto (tgt := 40) ok d_Mo_by_36 (by decide) kk
theorem k_Mo_by_39 {X : gC} {M : List mC} {k n : Nat} {x0 : Nat} {x1 : Int32} {x2 : Int32} {x3 : Int32} {x4 : Int32} (ok : gO X c_Mo_by "TripleStoreModel" w_Mo_by)  (kk : gg X M k n 40 [(0, .ref x0), (1, .int x1), (2, .int x2), (3, .int x3), (4, .int x4)] [.int 0]) : gg X M k n 39 [(0, .ref x0), (1, .int x1), (2, .int x2), (3, .int x3), (4, .int x4)] [] := by
  refine g_iconst (v := 0) ok d_Mo_by_39 (by decide) ?_
  exact kk
theorem k_Mo_by_40 {X : gC} {M : List mC} {k n : Nat} {x0 : Nat} {x1 : Int32} {x2 : Int32} {x3 : Int32} {x4 : Int32} {s0 : Int32} (ok : gO X c_Mo_by "TripleStoreModel" w_Mo_by) (hl : gL X = 6)  (kt : x4 = 0 → gg X M k n 52 [(4, .int x4), (5, .int s0)] []) (kf : ¬ x4 = 0 → gg X M k n 47 [(0, .ref x0), (1, .int x1), (2, .int x2), (3, .int x3), (4, .int x4), (5, .int s0)] []) : gg X M k n 40 [(0, .ref x0), (1, .int x1), (2, .int x2), (3, .int x3), (4, .int x4)] [.int s0] := by
  refine g_istore (L' := [(0, .ref x0), (1, .int x1), (2, .int x2), (3, .int x3), (4, .int x4), (5, .int s0)]) ok d_Mo_by_40 (by rw [hl]; decide) rfl ?_
  refine g_iload ok d_Mo_by_42 (j := 4) rfl ?_
  exact g_if_eq (tgt := 52) ok d_Mo_by_44 (by decide) (fun z => (gg_keep [4, 5] (kt z))) (fun z => (kf z))
theorem k_Mo_by_47 {X : gC} {M : List mC} {k n : Nat} {x0 : Nat} {x1 : Int32} {x2 : Int32} {x3 : Int32} {x4 : Int32} {x5 : Int32} (ok : gO X c_Mo_by "TripleStoreModel" w_Mo_by)  (kt : ¬ x5 = 0 → gg X M k n 76 [(0, .ref x0), (1, .int x1), (2, .int x2), (3, .int x3)] []) (kf : x5 = 0 → gg X M k n 52 [(4, .int x4), (5, .int x5)] []) : gg X M k n 47 [(0, .ref x0), (1, .int x1), (2, .int x2), (3, .int x3), (4, .int x4), (5, .int x5)] [] := by
  refine g_iload ok d_Mo_by_47 (j := 5) rfl ?_
  exact g_if_ne (tgt := 76) ok d_Mo_by_49 (by decide) (fun z => (gg_keep [0, 1, 2, 3] (kt z))) (fun z => (gg_keep [4, 5] (kf z)))
theorem k_Mo_by_52 {X : gC} {M : List mC} {k n : Nat} {x4 : Int32} {x5 : Int32} (ok : gO X c_Mo_by "TripleStoreModel" w_Mo_by)  (kt : x4 = 0 → gg X M k n 61 [(5, .int x5)] []) (kf : ¬ x4 = 0 → gg X M k n 57 [(5, .int x5)] []) : gg X M k n 52 [(4, .int x4), (5, .int x5)] [] := by
  refine g_iload ok d_Mo_by_52 (j := 0) rfl ?_
  exact g_if_eq (tgt := 61) ok d_Mo_by_54 (by decide) (fun z => (gg_keep [5] (kt z))) (fun z => (gg_keep [5] (kf z)))
theorem k_Mo_by_57 {X : gC} {M : List mC} {k n : Nat} {x5 : Int32} (ok : gO X c_Mo_by "TripleStoreModel" w_Mo_by)  (kk : gg X M k n 62 [(5, .int x5)] [.int 1]) : gg X M k n 57 [(5, .int x5)] [] := by
  refine g_iconst (v := 1) ok d_Mo_by_57 (by decide) ?_
  exact g_goto (tgt := 62) ok d_Mo_by_58 (by decide) kk
theorem k_Mo_by_61 {X : gC} {M : List mC} {k n : Nat} {x5 : Int32} (ok : gO X c_Mo_by "TripleStoreModel" w_Mo_by)  (kk : gg X M k n 62 [(5, .int x5)] [.int 0]) : gg X M k n 61 [(5, .int x5)] [] := by
  refine g_iconst (v := 0) ok d_Mo_by_61 (by decide) ?_
  exact kk
theorem k_Mo_by_62 {X : gC} {M : List mC} {k n : Nat} {x5 : Int32} {s0 : Int32} (ok : gO X c_Mo_by "TripleStoreModel" w_Mo_by)  (kt : x5 = 0 → gg X M k n 71 [] [.int s0]) (kf : ¬ x5 = 0 → gg X M k n 67 [] [.int s0]) : gg X M k n 62 [(5, .int x5)] [.int s0] := by
  refine g_iload ok d_Mo_by_62 (j := 0) rfl ?_
  exact g_if_eq (tgt := 71) ok d_Mo_by_64 (by decide) (fun z => (gg_keep [] (kt z))) (fun z => (gg_keep [] (kf z)))
theorem k_Mo_by_67 {X : gC} {M : List mC} {k n : Nat} {s0 : Int32} (ok : gO X c_Mo_by "TripleStoreModel" w_Mo_by)  (kk : gg X M k n 72 [] [.int 1, .int s0]) : gg X M k n 67 [] [.int s0] := by
  refine g_iconst (v := 1) ok d_Mo_by_67 (by decide) ?_
  exact g_goto (tgt := 72) ok d_Mo_by_68 (by decide) kk
theorem k_Mo_by_71 {X : gC} {M : List mC} {k n : Nat} {s0 : Int32} (ok : gO X c_Mo_by "TripleStoreModel" w_Mo_by)  (kk : gg X M k n 72 [] [.int 0, .int s0]) : gg X M k n 71 [] [.int s0] := by
  refine g_iconst (v := 0) ok d_Mo_by_71 (by decide) ?_
  exact kk
theorem k_Mo_by_72 {X : gC} {M : List mC} {k n : Nat} {s0 : Int32} {s1 : Int32} (ok : gO X c_Mo_by "TripleStoreModel" w_Mo_by)  (kk : gg X M k n 101 [] [.int (s0 - s1)]) : gg X M k n 72 [] [.int s1, .int s0] := by
  refine g_isub ok d_Mo_by_72 ?_
  exact g_goto (tgt := 101) ok d_Mo_by_73 (by decide) kk
theorem k_Mo_by_76 {X : gC} {M : List mC} {k n : Nat} {x0 : Nat} {x1 : Int32} {x2 : Int32} {x3 : Int32} {fs2 : List Value} {f3 : Nat} {g6 : Nat → Int64} {N7 : Nat} (ok : gO X c_Mo_by "TripleStoreModel" w_Mo_by) (h1 : M[x0]? = some (.inr (10, fs2))) (h4 : fs2[47]? = some (.ref f3)) (h5 : M[f3]? = some (.inl (1, N7, .inr (.inl g6)))) (h8 : vp_in ((6 * x2) + x1) N7) (h9 : vp_in ((6 * x3) + x1) N7) {rm : Room} {post : Option Value → List mC → Prop} (hm : mm_ (gLa X) y_Mo_compare w_Mo_compare rm [.long (g6 ((6 * x2) + x1).toNatClampNeg), .long (g6 ((6 * x3) + x1).toNatClampNeg)] M post) (hR : gF X rm 8 k n) (hlen : ∀ r M', post r M' → M'.length = M.length) (kk : ∀ r M', post r M' → gg X M' (k + rm.cells) (n + rm.slots) 101 [] (r.toList ++ [])) : gg X M k n 76 [(0, .ref x0), (1, .int x1), (2, .int x2), (3, .int x3)] [] := by
  refine g_aload_n ok d_Mo_by_76 rfl (j := 0) rfl ?_
  refine gf_Mo_70 ok d_Mo_by_77 h1 h4 ?_
  refine g_bipush (v := 6) ok d_Mo_by_80 (by decide) ?_
  refine g_iload_n ok d_Mo_by_82 rfl (j := 2) rfl ?_
  refine g_imul ok d_Mo_by_83 ?_
  refine g_iload_n ok d_Mo_by_84 rfl (j := 1) rfl ?_
  refine g_iadd ok d_Mo_by_85 ?_
  refine g_lald (t := 1) ok rfl d_Mo_by_86 h5 h8 ?_
  refine g_aload_n ok d_Mo_by_87 rfl (j := 0) rfl ?_
  refine gf_Mo_70 ok d_Mo_by_88 h1 h4 ?_
  refine g_bipush (v := 6) ok d_Mo_by_91 (by decide) ?_
  refine g_iload_n ok d_Mo_by_93 rfl (j := 3) rfl ?_
  refine g_imul ok d_Mo_by_94 ?_
  refine g_iload_n ok d_Mo_by_95 rfl (j := 1) rfl ?_
  refine g_iadd ok d_Mo_by_96 ?_
  refine g_lald (t := 1) ok rfl d_Mo_by_97 h5 h9 ?_
  exact gc_Mo_332 (As := [.long (g6 ((6 * x2) + x1).toNatClampNeg), .long (g6 ((6 * x3) + x1).toNatClampNeg)]) (rest := []) ok d_Mo_by_98 hm rfl rfl (Nat.le_of_ble_eq_true rfl) hR hlen (fun r M' q => (gg_keep [] (kk r M' q)))
theorem k_Mo_by_101 {X : gC} {M : List mC} {k n : Nat} {s0 : Int32} (ok : gO X c_Mo_by "TripleStoreModel" w_Mo_by)  {l9 : Launch} {rm : Room} {M0 : List mC} {post : Option Value → List mC → Prop} (E : gE X l9 y_Mo_by rm 6 (some .int) M0 post) (hp : post (some (.int s0)) M) (hk : k ≤ rm.cells) (hn : n ≤ rm.slots) : gg X M k n 101 [] [.int s0] := by
  exact g_iret ok E d_Mo_by_101 hp hk hn
theorem k_Mo_byTerms_0 {X : gC} {M : List mC} {k n : Nat} {x0 : Nat} {x1 : Int32} {x2 : Int32} (ok : gO X c_Mo_byTerms "TripleStoreModel" w_Mo_byTerms) (hl : gL X = 5)  (kk : gg X M k n 5 [(0, .ref x0), (1, .int x1), (2, .int x2), (3, .int 0), (4, .int 0)] []) : gg X M k n 0 [(0, .ref x0), (1, .int x1), (2, .int x2)] [] := by
  refine g_iconst (v := 0) ok d_Mo_byTerms_0 (by decide) ?_
  refine g_istore_n (L' := [(0, .ref x0), (1, .int x1), (2, .int x2), (3, .int 0)]) ok d_Mo_byTerms_1 rfl (by rw [hl]; decide) rfl ?_
  refine g_iconst (v := 0) ok d_Mo_byTerms_2 (by decide) ?_
  refine g_istore (L' := [(0, .ref x0), (1, .int x1), (2, .int x2), (3, .int 0), (4, .int 0)]) ok d_Mo_byTerms_3 (by rw [hl]; decide) rfl ?_
  exact kk
theorem k_Mo_byTerms_5 {X : gC} {M : List mC} {k n : Nat} {x0 : Nat} {x1 : Int32} {x2 : Int32} {x3 : Int32} {x4 : Int32} {fs2 : List Value} {f3 : Int32} (ok : gO X c_Mo_byTerms "TripleStoreModel" w_Mo_byTerms) (h1 : M[x0]? = some (.inr (10, fs2))) (h4 : fs2[41]? = some (.int f3)) (kt : f3 ≤ x4 → gg X M k n 38 [(3, .int x3)] []) (kf : ¬ f3 ≤ x4 → gg X M k n 14 [(0, .ref x0), (1, .int x1), (2, .int x2), (3, .int x3), (4, .int x4)] []) : gg X M k n 5 [(0, .ref x0), (1, .int x1), (2, .int x2), (3, .int x3), (4, .int x4)] [] := by
  refine g_iload ok d_Mo_byTerms_5 (j := 4) rfl ?_
  refine g_aload_n ok d_Mo_byTerms_7 rfl (j := 0) rfl ?_
  refine gf_Mo_296 ok d_Mo_byTerms_8 h1 h4 ?_
  exact g_icmp_ge (tgt := 38) ok d_Mo_byTerms_11 (by decide) (fun z => (gg_keep [3] (kt z))) (fun z => (kf z))
theorem k_Mo_byTerms_14 {X : gC} {M : List mC} {k n : Nat} {x0 : Nat} {x1 : Int32} {x2 : Int32} {x3 : Int32} {x4 : Int32} (ok : gO X c_Mo_byTerms "TripleStoreModel" w_Mo_byTerms)  (kt : ¬ x3 = 0 → gg X M k n 38 [(3, .int x3)] []) (kf : x3 = 0 → gg X M k n 18 [(0, .ref x0), (1, .int x1), (2, .int x2), (4, .int x4)] []) : gg X M k n 14 [(0, .ref x0), (1, .int x1), (2, .int x2), (3, .int x3), (4, .int x4)] [] := by
  refine g_iload_n ok d_Mo_byTerms_14 rfl (j := 3) rfl ?_
  exact g_if_ne (tgt := 38) ok d_Mo_byTerms_15 (by decide) (fun z => (gg_keep [3] (kt z))) (fun z => (gg_keep [0, 1, 2, 4] (kf z)))
theorem k_Mo_byTerms_18 {X : gC} {M : List mC} {k n : Nat} {x0 : Nat} {x1 : Int32} {x2 : Int32} {x4 : Int32} {fs2 : List Value} {f3 : Nat} {g6 : Nat → Int32} {N7 : Nat} (ok : gO X c_Mo_byTerms "TripleStoreModel" w_Mo_byTerms) (h1 : M[x0]? = some (.inr (10, fs2))) (h4 : fs2[40]? = some (.ref f3)) (h5 : M[f3]? = some (.inl (0, N7, .inl g6))) (h8 : vp_in x4 N7) {rm : Room} {post : Option Value → List mC → Prop} (hm : mm_ (gLa X) y_Mo_by w_Mo_by rm [.ref x0, .int (g6 x4.toNatClampNeg), .int x1, .int x2] M post) (hR : gF X rm 6 k n) (hlen : ∀ r M', post r M' → M'.length = M.length) (kk : ∀ r M', post r M' → gg X M' (k + rm.cells) (n + rm.slots) 31 [(0, .ref x0), (1, .int x1), (2, .int x2), (4, .int x4)] (r.toList ++ [])) : gg X M k n 18 [(0, .ref x0), (1, .int x1), (2, .int x2), (4, .int x4)] [] := by
  refine g_aload_n ok d_Mo_byTerms_18 rfl (j := 0) rfl ?_
  refine g_aload_n ok d_Mo_byTerms_19 rfl (j := 0) rfl ?_
  refine gf_Mo_64 ok d_Mo_byTerms_20 h1 h4 ?_
  refine g_iload ok d_Mo_byTerms_23 (j := 3) rfl ?_
  refine g_iald (t := 0) ok rfl d_Mo_byTerms_25 h5 h8 ?_
  refine g_iload_n ok d_Mo_byTerms_26 rfl (j := 1) rfl ?_
  refine g_iload_n ok d_Mo_byTerms_27 rfl (j := 2) rfl ?_
  exact gc_Mo_347 (As := [.int (g6 x4.toNatClampNeg), .int x1, .int x2]) (rest := []) ok d_Mo_byTerms_28 hm rfl rfl (Nat.le_of_ble_eq_true rfl) hR h1 hlen kk
theorem k_Mo_byTerms_31 {X : gC} {M : List mC} {k n : Nat} {x0 : Nat} {x1 : Int32} {x2 : Int32} {x4 : Int32} {s0 : Int32} (ok : gO X c_Mo_byTerms "TripleStoreModel" w_Mo_byTerms) (hl : gL X = 5)  (kk : gg X M k n 5 [(0, .ref x0), (1, .int x1), (2, .int x2), (3, .int s0), (4, .int (x4 + 1))] []) : gg X M k n 31 [(0, .ref x0), (1, .int x1), (2, .int x2), (4, .int x4)] [.int s0] := by
  refine g_istore_n (L' := [(0, .ref x0), (1, .int x1), (2, .int x2), (3, .int s0), (4, .int x4)]) ok d_Mo_byTerms_31 rfl (by rw [hl]; decide) rfl ?_
  refine g_iinc (L' := [(0, .ref x0), (1, .int x1), (2, .int x2), (3, .int s0), (4, .int (x4 + 1))]) (v := (x4 + 1)) ok d_Mo_byTerms_32 (j := 4) rfl rfl (by rw [hl]; decide) rfl ?_
  exact g_goto (tgt := 5) ok d_Mo_byTerms_35 (by decide) kk
theorem k_Mo_byTerms_38 {X : gC} {M : List mC} {k n : Nat} {x3 : Int32} (ok : gO X c_Mo_byTerms "TripleStoreModel" w_Mo_byTerms)  {l9 : Launch} {rm : Room} {M0 : List mC} {post : Option Value → List mC → Prop} (E : gE X l9 y_Mo_byTerms rm 5 (some .int) M0 post) (hp : post (some (.int x3)) M) (hk : k ≤ rm.cells) (hn : n ≤ rm.slots) : gg X M k n 38 [(3, .int x3)] [] := by
  refine g_iload_n ok d_Mo_byTerms_38 rfl (j := 0) rfl ?_
  exact g_iret ok E d_Mo_byTerms_39 hp hk hn
theorem k_Mo_before_0 {X : gC} {M : List mC} {k n : Nat} {x0 : Nat} {x1 : Int32} {x2 : Int32} {fs2 : List Value} {f3 : Int32} (ok : gO X c_Mo_before "TripleStoreModel" w_Mo_before) (h1 : M[x0]? = some (.inr (10, fs2))) (h4 : fs2[44]? = some (.int f3)) (kt : 0 ≤ f3 → gg X M k n 11 [(0, .ref x0), (1, .int x1), (2, .int x2)] []) (kf : ¬ 0 ≤ f3 → gg X M k n 7 [(0, .ref x0), (1, .int x1), (2, .int x2)] []) : gg X M k n 0 [(0, .ref x0), (1, .int x1), (2, .int x2)] [] := by
  refine g_aload_n ok d_Mo_before_0 rfl (j := 0) rfl ?_
  refine gf_Mo_302 ok d_Mo_before_1 h1 h4 ?_
  exact g_if_ge (tgt := 11) ok d_Mo_before_4 (by decide) (fun z => (kt z)) (fun z => (kf z))
theorem k_Mo_before_7 {X : gC} {M : List mC} {k n : Nat} {x0 : Nat} {x1 : Int32} {x2 : Int32} (ok : gO X c_Mo_before "TripleStoreModel" w_Mo_before)  (kk : gg X M k n 21 [(0, .ref x0), (1, .int x1), (2, .int x2)] [.int 0]) : gg X M k n 7 [(0, .ref x0), (1, .int x1), (2, .int x2)] [] := by
  refine g_iconst (v := 0) ok d_Mo_before_7 (by decide) ?_
  exact g_goto (tgt := 21) ok d_Mo_before_8 (by decide) kk
theorem k_Mo_before_11 {X : gC} {M : List mC} {k n : Nat} {x0 : Nat} {x1 : Int32} {x2 : Int32} {fs2 : List Value} {f3 : Int32} (ok : gO X c_Mo_before "TripleStoreModel" w_Mo_before) (h1 : M[x0]? = some (.inr (10, fs2))) (h4 : fs2[44]? = some (.int f3)) {rm : Room} {post : Option Value → List mC → Prop} (hm : mm_ (gLa X) y_Mo_by w_Mo_by rm [.ref x0, .int f3, .int x1, .int x2] M post) (hR : gF X rm 6 k n) (hlen : ∀ r M', post r M' → M'.length = M.length) (kk : ∀ r M', post r M' → gg X M' (k + rm.cells) (n + rm.slots) 21 [(0, .ref x0), (1, .int x1), (2, .int x2)] (r.toList ++ [])) : gg X M k n 11 [(0, .ref x0), (1, .int x1), (2, .int x2)] [] := by
  refine g_aload_n ok d_Mo_before_11 rfl (j := 0) rfl ?_
  refine g_aload_n ok d_Mo_before_12 rfl (j := 0) rfl ?_
  refine gf_Mo_302 ok d_Mo_before_13 h1 h4 ?_
  refine g_iload_n ok d_Mo_before_16 rfl (j := 1) rfl ?_
  refine g_iload_n ok d_Mo_before_17 rfl (j := 2) rfl ?_
  exact gc_Mo_347 (As := [.int f3, .int x1, .int x2]) (rest := []) ok d_Mo_before_18 hm rfl rfl (Nat.le_of_ble_eq_true rfl) hR h1 hlen kk
theorem k_Mo_before_21 {X : gC} {M : List mC} {k n : Nat} {x0 : Nat} {x1 : Int32} {x2 : Int32} {s0 : Int32} {fs2 : List Value} {f3 : Int32} (ok : gO X c_Mo_before "TripleStoreModel" w_Mo_before) (hl : gL X = 4) (h1 : M[x0]? = some (.inr (10, fs2))) (h4 : fs2[45]? = some (.int f3)) (kt : f3 = 0 → gg X M k n 32 [(0, .ref x0), (1, .int x1), (2, .int x2), (3, .int s0)] []) (kf : ¬ f3 = 0 → gg X M k n 29 [(0, .ref x0), (1, .int x1), (2, .int x2), (3, .int s0)] []) : gg X M k n 21 [(0, .ref x0), (1, .int x1), (2, .int x2)] [.int s0] := by
  refine g_istore_n (L' := [(0, .ref x0), (1, .int x1), (2, .int x2), (3, .int s0)]) ok d_Mo_before_21 rfl (by rw [hl]; decide) rfl ?_
  refine g_aload_n ok d_Mo_before_22 rfl (j := 0) rfl ?_
  refine gf_Mo_305 ok d_Mo_before_23 h1 h4 ?_
  exact g_if_eq (tgt := 32) ok d_Mo_before_26 (by decide) (fun z => (kt z)) (fun z => (kf z))
theorem k_Mo_before_29 {X : gC} {M : List mC} {k n : Nat} {x0 : Nat} {x1 : Int32} {x2 : Int32} {x3 : Int32} (ok : gO X c_Mo_before "TripleStoreModel" w_Mo_before) (hl : gL X = 4)  (kk : gg X M k n 32 [(0, .ref x0), (1, .int x1), (2, .int x2), (3, .int (-x3))] []) : gg X M k n 29 [(0, .ref x0), (1, .int x1), (2, .int x2), (3, .int x3)] [] := by
  refine g_iload_n ok d_Mo_before_29 rfl (j := 3) rfl ?_
  refine g_ineg ok d_Mo_before_30 ?_
  refine g_istore_n (L' := [(0, .ref x0), (1, .int x1), (2, .int x2), (3, .int (-x3))]) ok d_Mo_before_31 rfl (by rw [hl]; decide) rfl ?_
  exact kk
theorem k_Mo_before_32 {X : gC} {M : List mC} {k n : Nat} {x0 : Nat} {x1 : Int32} {x2 : Int32} {x3 : Int32} (ok : gO X c_Mo_before "TripleStoreModel" w_Mo_before)  (kt : ¬ x3 = 0 → gg X M k n 43 [(3, .int x3)] []) (kf : x3 = 0 → gg X M k n 36 [(0, .ref x0), (1, .int x1), (2, .int x2)] []) : gg X M k n 32 [(0, .ref x0), (1, .int x1), (2, .int x2), (3, .int x3)] [] := by
  refine g_iload_n ok d_Mo_before_32 rfl (j := 3) rfl ?_
  exact g_if_ne (tgt := 43) ok d_Mo_before_33 (by decide) (fun z => (gg_keep [3] (kt z))) (fun z => (gg_keep [0, 1, 2] (kf z)))
theorem k_Mo_before_36 {X : gC} {M : List mC} {k n : Nat} {x0 : Nat} {x1 : Int32} {x2 : Int32} {fs2 : List Value} (ok : gO X c_Mo_before "TripleStoreModel" w_Mo_before) (h1 : M[x0]? = some (.inr (10, fs2))) {rm : Room} {post : Option Value → List mC → Prop} (hm : mm_ (gLa X) y_Mo_byTerms w_Mo_byTerms rm [.ref x0, .int x1, .int x2] M post) (hR : gF X rm 5 k n) (hlen : ∀ r M', post r M' → M'.length = M.length) (kk : ∀ r M', post r M' → gg X M' (k + rm.cells) (n + rm.slots) 42 [] (r.toList ++ [])) : gg X M k n 36 [(0, .ref x0), (1, .int x1), (2, .int x2)] [] := by
  refine g_aload_n ok d_Mo_before_36 rfl (j := 0) rfl ?_
  refine g_iload_n ok d_Mo_before_37 rfl (j := 1) rfl ?_
  refine g_iload_n ok d_Mo_before_38 rfl (j := 2) rfl ?_
  exact gc_Mo_351 (As := [.int x1, .int x2]) (rest := []) ok d_Mo_before_39 hm rfl rfl (Nat.le_of_ble_eq_true rfl) hR h1 hlen (fun r M' q => (gg_keep [] (kk r M' q)))
theorem k_Mo_before_42 {X : gC} {M : List mC} {k n : Nat} {s0 : Int32} (ok : gO X c_Mo_before "TripleStoreModel" w_Mo_before) (hl : gL X = 4)  (kk : gg X M k n 43 [(3, .int s0)] []) : gg X M k n 42 [] [.int s0] := by
  refine g_istore_n (L' := [(3, .int s0)]) ok d_Mo_before_42 rfl (by rw [hl]; decide) rfl ?_
  exact kk
theorem k_Mo_before_43 {X : gC} {M : List mC} {k n : Nat} {x3 : Int32} (ok : gO X c_Mo_before "TripleStoreModel" w_Mo_before)  (kt : 0 ≤ x3 → gg X M k n 51 [] []) (kf : ¬ 0 ≤ x3 → gg X M k n 47 [] []) : gg X M k n 43 [(3, .int x3)] [] := by
  refine g_iload_n ok d_Mo_before_43 rfl (j := 0) rfl ?_
  exact g_if_ge (tgt := 51) ok d_Mo_before_44 (by decide) (fun z => (gg_keep [] (kt z))) (fun z => (gg_keep [] (kf z)))
theorem k_Mo_before_47 {X : gC} {M : List mC} {k n : Nat}  (ok : gO X c_Mo_before "TripleStoreModel" w_Mo_before)  (kk : gg X M k n 52 [] [.int 1]) : gg X M k n 47 [] [] := by
  refine g_iconst (v := 1) ok d_Mo_before_47 (by decide) ?_
  exact g_goto (tgt := 52) ok d_Mo_before_48 (by decide) kk
theorem k_Mo_before_51 {X : gC} {M : List mC} {k n : Nat}  (ok : gO X c_Mo_before "TripleStoreModel" w_Mo_before)  (kk : gg X M k n 52 [] [.int 0]) : gg X M k n 51 [] [] := by
  refine g_iconst (v := 0) ok d_Mo_before_51 (by decide) ?_
  exact kk
theorem k_Mo_before_52 {X : gC} {M : List mC} {k n : Nat} {s0 : Int32} (ok : gO X c_Mo_before "TripleStoreModel" w_Mo_before)  {l9 : Launch} {rm : Room} {M0 : List mC} {post : Option Value → List mC → Prop} (E : gE X l9 y_Mo_before rm 4 (some .boolean) M0 post) (hz : narrow .boolean (.int s0) = .int s0) (hp : post (some (.int s0)) M) (hk : k ≤ rm.cells) (hn : n ≤ rm.slots) : gg X M k n 52 [] [.int s0] := by
  exact g_zret ok E d_Mo_before_52 hz hp hk hn
theorem k_Mo_makeRows_0 {X : gC} {M : List mC} {k n : Nat} {x0 : Nat} {fs2 : List Value} {f3 : Nat} {g6 : Nat → Int32} {N7 : Nat} (ok : gO X c_Mo_makeRows "TripleStoreModel" w_Mo_makeRows) (hl : gL X = 5) (h1 : M[x0]? = some (.inr (10, fs2))) (h4 : fs2[49]? = some (.ref f3)) (h5 : M[f3]? = some (.inl (0, N7, .inl g6))) (h8 : vp_in 0 N7) (kk : gg X M k n 9 [(0, .ref x0), (1, .int (g6 (0 : Int32).toNatClampNeg)), (2, .int 0)] []) : gg X M k n 0 [(0, .ref x0)] [] := by
  refine g_aload_n ok d_Mo_makeRows_0 rfl (j := 0) rfl ?_
  refine gf_Mo_76 ok d_Mo_makeRows_1 h1 h4 ?_
  refine g_iconst (v := 0) ok d_Mo_makeRows_4 (by decide) ?_
  refine g_iald (t := 0) ok rfl d_Mo_makeRows_5 h5 h8 ?_
  refine g_istore_n (L' := [(0, .ref x0), (1, .int (g6 (0 : Int32).toNatClampNeg))]) ok d_Mo_makeRows_6 rfl (by rw [hl]; decide) rfl ?_
  refine g_iconst (v := 0) ok d_Mo_makeRows_7 (by decide) ?_
  refine g_istore_n (L' := [(0, .ref x0), (1, .int (g6 (0 : Int32).toNatClampNeg)), (2, .int 0)]) ok d_Mo_makeRows_8 rfl (by rw [hl]; decide) rfl ?_
  exact kk
theorem k_Mo_makeRows_9 {X : gC} {M : List mC} {k n : Nat} {x0 : Nat} {x1 : Int32} {x2 : Int32} (ok : gO X c_Mo_makeRows "TripleStoreModel" w_Mo_makeRows)  (kt : x1 ≤ x2 → gg X M k n 69 [(0, .ref x0), (1, .int x1)] []) (kf : ¬ x1 ≤ x2 → gg X M k n 14 [(0, .ref x0), (1, .int x1), (2, .int x2)] []) : gg X M k n 9 [(0, .ref x0), (1, .int x1), (2, .int x2)] [] := by
  refine g_iload_n ok d_Mo_makeRows_9 rfl (j := 2) rfl ?_
  refine g_iload_n ok d_Mo_makeRows_10 rfl (j := 1) rfl ?_
  exact g_icmp_ge (tgt := 69) ok d_Mo_makeRows_11 (by decide) (fun z => (gg_keep [0, 1] (kt z))) (fun z => (kf z))
theorem k_Mo_makeRows_14 {X : gC} {M : List mC} {k n : Nat} {x0 : Nat} {x1 : Int32} {x2 : Int32} (ok : gO X c_Mo_makeRows "TripleStoreModel" w_Mo_makeRows) (hl : gL X = 5)  (kk : gg X M k n 16 [(0, .ref x0), (1, .int x1), (2, .int x2), (3, .int x2)] []) : gg X M k n 14 [(0, .ref x0), (1, .int x1), (2, .int x2)] [] := by
  refine g_iload_n ok d_Mo_makeRows_14 rfl (j := 2) rfl ?_
  refine g_istore_n (L' := [(0, .ref x0), (1, .int x1), (2, .int x2), (3, .int x2)]) ok d_Mo_makeRows_15 rfl (by rw [hl]; decide) rfl ?_
  exact kk
theorem k_Mo_makeRows_16 {X : gC} {M : List mC} {k n : Nat} {x0 : Nat} {x1 : Int32} {x2 : Int32} {x3 : Int32} (ok : gO X c_Mo_makeRows "TripleStoreModel" w_Mo_makeRows)  (kt : x3 ≤ 0 → gg X M k n 56 [(0, .ref x0), (1, .int x1), (2, .int x2), (3, .int x3)] []) (kf : ¬ x3 ≤ 0 → gg X M k n 20 [(0, .ref x0), (1, .int x1), (2, .int x2), (3, .int x3)] []) : gg X M k n 16 [(0, .ref x0), (1, .int x1), (2, .int x2), (3, .int x3)] [] := by
  refine g_iload_n ok d_Mo_makeRows_16 rfl (j := 3) rfl ?_
  exact g_if_le (tgt := 56) ok d_Mo_makeRows_17 (by decide) (fun z => (kt z)) (fun z => (kf z))
theorem k_Mo_makeRows_20 {X : gC} {M : List mC} {k n : Nat} {x0 : Nat} {x1 : Int32} {x2 : Int32} {x3 : Int32} {fs2 : List Value} {f3 : Nat} {g6 : Nat → Int32} {N7 : Nat} (ok : gO X c_Mo_makeRows "TripleStoreModel" w_Mo_makeRows) (h1 : M[x0]? = some (.inr (10, fs2))) (h4 : fs2[54]? = some (.ref f3)) (h5 : M[f3]? = some (.inl (0, N7, .inl g6))) (h8 : vp_in (x3 - 1) N7) {rm : Room} {post : Option Value → List mC → Prop} (hm : mm_ (gLa X) y_Mo_before w_Mo_before rm [.ref x0, .int x2, .int (g6 (x3 - 1).toNatClampNeg)] M post) (hR : gF X rm 4 k n) (hlen : ∀ r M', post r M' → M'.length = M.length) (kk : ∀ r M', post r M' → gg X M' (k + rm.cells) (n + rm.slots) 33 [(0, .ref x0), (1, .int x1), (2, .int x2), (3, .int x3)] (r.toList ++ [])) : gg X M k n 20 [(0, .ref x0), (1, .int x1), (2, .int x2), (3, .int x3)] [] := by
  refine g_aload_n ok d_Mo_makeRows_20 rfl (j := 0) rfl ?_
  refine g_iload_n ok d_Mo_makeRows_21 rfl (j := 2) rfl ?_
  refine g_aload_n ok d_Mo_makeRows_22 rfl (j := 0) rfl ?_
  refine gf_Mo_85 ok d_Mo_makeRows_23 h1 h4 ?_
  refine g_iload_n ok d_Mo_makeRows_26 rfl (j := 3) rfl ?_
  refine g_iconst (v := 1) ok d_Mo_makeRows_27 (by decide) ?_
  refine g_isub ok d_Mo_makeRows_28 ?_
  refine g_iald (t := 0) ok rfl d_Mo_makeRows_29 h5 h8 ?_
  exact gc_Mo_355 (As := [.int x2, .int (g6 (x3 - 1).toNatClampNeg)]) (rest := []) ok d_Mo_makeRows_30 hm rfl rfl (Nat.le_of_ble_eq_true rfl) hR h1 hlen kk
theorem k_Mo_makeRows_33 {X : gC} {M : List mC} {k n : Nat} {x0 : Nat} {x1 : Int32} {x2 : Int32} {x3 : Int32} {s0 : Int32} (ok : gO X c_Mo_makeRows "TripleStoreModel" w_Mo_makeRows)  (kt : s0 = 0 → gg X M k n 56 [(0, .ref x0), (1, .int x1), (2, .int x2), (3, .int x3)] []) (kf : ¬ s0 = 0 → gg X M k n 36 [(0, .ref x0), (1, .int x1), (2, .int x2), (3, .int x3)] []) : gg X M k n 33 [(0, .ref x0), (1, .int x1), (2, .int x2), (3, .int x3)] [.int s0] := by
  exact g_if_eq (tgt := 56) ok d_Mo_makeRows_33 (by decide) (fun z => (kt z)) (fun z => (kf z))
theorem k_Mo_makeRows_36 {X : gC} {M : List mC} {k n : Nat} {x0 : Nat} {x1 : Int32} {x2 : Int32} {x3 : Int32} {fs2 : List Value} {f3 : Nat} {g6 : Nat → Int32} {N7 : Nat} {M10 : List mC} (ok : gO X c_Mo_makeRows "TripleStoreModel" w_Mo_makeRows) (hl : gL X = 5) (h1 : M[x0]? = some (.inr (10, fs2))) (h4 : fs2[54]? = some (.ref f3)) (h5 : M[f3]? = some (.inl (0, N7, .inl g6))) (h8 : vp_in (x3 - 1) N7) (h9 : vp_in x3 N7) (h11 : M.set f3 (.inl (0, N7, .inl (upd g6 x3.toNatClampNeg (g6 (x3 - 1).toNatClampNeg)))) = M10) (kk : gg X M10 k n 16 [(0, .ref x0), (1, .int x1), (2, .int x2), (3, .int (x3 + (-1)))] []) : gg X M k n 36 [(0, .ref x0), (1, .int x1), (2, .int x2), (3, .int x3)] [] := by
  refine g_aload_n ok d_Mo_makeRows_36 rfl (j := 0) rfl ?_
  refine gf_Mo_85 ok d_Mo_makeRows_37 h1 h4 ?_
  refine g_iload_n ok d_Mo_makeRows_40 rfl (j := 3) rfl ?_
  refine g_aload_n ok d_Mo_makeRows_41 rfl (j := 0) rfl ?_
  refine gf_Mo_85 ok d_Mo_makeRows_42 h1 h4 ?_
  refine g_iload_n ok d_Mo_makeRows_45 rfl (j := 3) rfl ?_
  refine g_iconst (v := 1) ok d_Mo_makeRows_46 (by decide) ?_
  refine g_isub ok d_Mo_makeRows_47 ?_
  refine g_iald (t := 0) ok rfl d_Mo_makeRows_48 h5 h8 ?_
  refine g_iast (t := 0) ok rfl d_Mo_makeRows_49 h5 h9 ?_
  rw [h11]
  have h12 : M10[f3]? = some (.inl (0, N7, .inl (upd g6 x3.toNatClampNeg (g6 (x3 - 1).toNatClampNeg)))) := by rw [← h11]; exact gs_eq h5
  refine g_iinc (L' := [(0, .ref x0), (1, .int x1), (2, .int x2), (3, .int (x3 + (-1)))]) (v := (x3 + (-1))) ok d_Mo_makeRows_50 (j := 3) rfl rfl (by rw [hl]; decide) rfl ?_
  exact g_goto (tgt := 16) ok d_Mo_makeRows_53 (by decide) kk
theorem k_Mo_makeRows_56 {X : gC} {M : List mC} {k n : Nat} {x0 : Nat} {x1 : Int32} {x2 : Int32} {x3 : Int32} {fs2 : List Value} {f3 : Nat} {g6 : Nat → Int32} {N7 : Nat} {M9 : List mC} (ok : gO X c_Mo_makeRows "TripleStoreModel" w_Mo_makeRows) (hl : gL X = 5) (h1 : M[x0]? = some (.inr (10, fs2))) (h4 : fs2[54]? = some (.ref f3)) (h5 : M[f3]? = some (.inl (0, N7, .inl g6))) (h8 : vp_in x3 N7) (h10 : M.set f3 (.inl (0, N7, .inl (upd g6 x3.toNatClampNeg x2))) = M9) (kk : gg X M9 k n 9 [(0, .ref x0), (1, .int x1), (2, .int (x2 + 1))] []) : gg X M k n 56 [(0, .ref x0), (1, .int x1), (2, .int x2), (3, .int x3)] [] := by
  refine g_aload_n ok d_Mo_makeRows_56 rfl (j := 0) rfl ?_
  refine gf_Mo_85 ok d_Mo_makeRows_57 h1 h4 ?_
  refine g_iload_n ok d_Mo_makeRows_60 rfl (j := 3) rfl ?_
  refine g_iload_n ok d_Mo_makeRows_61 rfl (j := 2) rfl ?_
  refine g_iast (t := 0) ok rfl d_Mo_makeRows_62 h5 h8 ?_
  rw [h10]
  have h11 : M9[f3]? = some (.inl (0, N7, .inl (upd g6 x3.toNatClampNeg x2))) := by rw [← h10]; exact gs_eq h5
  refine g_iinc (L' := [(0, .ref x0), (1, .int x1), (2, .int (x2 + 1)), (3, .int x3)]) (v := (x2 + 1)) ok d_Mo_makeRows_63 (j := 2) rfl rfl (by rw [hl]; decide) rfl ?_
  exact g_goto (tgt := 9) ok d_Mo_makeRows_66 (by decide) (gg_keep [0, 1, 2] kk)
theorem k_Mo_makeRows_69 {X : gC} {M : List mC} {k n : Nat} {x0 : Nat} {x1 : Int32} (ok : gO X c_Mo_makeRows "TripleStoreModel" w_Mo_makeRows) (hl : gL X = 5)  (kk : gg X M k n 71 [(0, .ref x0), (1, .int x1), (2, .int 0)] []) : gg X M k n 69 [(0, .ref x0), (1, .int x1)] [] := by
  refine g_iconst (v := 0) ok d_Mo_makeRows_69 (by decide) ?_
  refine g_istore_n (L' := [(0, .ref x0), (1, .int x1), (2, .int 0)]) ok d_Mo_makeRows_70 rfl (by rw [hl]; decide) rfl ?_
  exact kk
theorem k_Mo_makeRows_71 {X : gC} {M : List mC} {k n : Nat} {x0 : Nat} {x1 : Int32} {x2 : Int32} (ok : gO X c_Mo_makeRows "TripleStoreModel" w_Mo_makeRows)  (kt : x1 ≤ x2 → gg X M k n 221 [] []) (kf : ¬ x1 ≤ x2 → gg X M k n 76 [(0, .ref x0), (1, .int x1), (2, .int x2)] []) : gg X M k n 71 [(0, .ref x0), (1, .int x1), (2, .int x2)] [] := by
  refine g_iload_n ok d_Mo_makeRows_71 rfl (j := 2) rfl ?_
  refine g_iload_n ok d_Mo_makeRows_72 rfl (j := 1) rfl ?_
  exact g_icmp_ge (tgt := 221) ok d_Mo_makeRows_73 (by decide) (fun z => (gg_keep [] (kt z))) (fun z => (kf z))
theorem k_Mo_makeRows_76 {X : gC} {M : List mC} {k n : Nat} {x0 : Nat} {x1 : Int32} {x2 : Int32} {fs2 : List Value} {f3 : Int32} {f5 : Int32} (ok : gO X c_Mo_makeRows "TripleStoreModel" w_Mo_makeRows) (h1 : M[x0]? = some (.inr (10, fs2))) (h4 : fs2[55]? = some (.int f3)) (h6 : fs2[46]? = some (.int f5)) (kt : f5 ≤ f3 → gg X M k n 221 [] []) (kf : ¬ f5 ≤ f3 → gg X M k n 87 [(0, .ref x0), (1, .int x1), (2, .int x2)] []) : gg X M k n 76 [(0, .ref x0), (1, .int x1), (2, .int x2)] [] := by
  refine g_aload_n ok d_Mo_makeRows_76 rfl (j := 0) rfl ?_
  refine gf_Mo_358 ok d_Mo_makeRows_77 h1 h4 ?_
  refine g_aload_n ok d_Mo_makeRows_80 rfl (j := 0) rfl ?_
  refine gf_Mo_308 ok d_Mo_makeRows_81 h1 h6 ?_
  exact g_icmp_ge (tgt := 221) ok d_Mo_makeRows_84 (by decide) (fun z => (gg_keep [] (kt z))) (fun z => (kf z))
theorem k_Mo_makeRows_87 {X : gC} {M : List mC} {k n : Nat} {x0 : Nat} {x1 : Int32} {x2 : Int32} (ok : gO X c_Mo_makeRows "TripleStoreModel" w_Mo_makeRows) (hl : gL X = 5)  (kk : gg X M k n 92 [(0, .ref x0), (1, .int x1), (2, .int x2), (3, .int 0), (4, .int 0)] []) : gg X M k n 87 [(0, .ref x0), (1, .int x1), (2, .int x2)] [] := by
  refine g_iconst (v := 0) ok d_Mo_makeRows_87 (by decide) ?_
  refine g_istore_n (L' := [(0, .ref x0), (1, .int x1), (2, .int x2), (3, .int 0)]) ok d_Mo_makeRows_88 rfl (by rw [hl]; decide) rfl ?_
  refine g_iconst (v := 0) ok d_Mo_makeRows_89 (by decide) ?_
  refine g_istore (L' := [(0, .ref x0), (1, .int x1), (2, .int x2), (3, .int 0), (4, .int 0)]) ok d_Mo_makeRows_90 (by rw [hl]; decide) rfl ?_
  exact kk
theorem k_Mo_makeRows_92 {X : gC} {M : List mC} {k n : Nat} {x0 : Nat} {x1 : Int32} {x2 : Int32} {x3 : Int32} {x4 : Int32} (ok : gO X c_Mo_makeRows "TripleStoreModel" w_Mo_makeRows)  (kt : x2 ≤ x4 → gg X M k n 126 [(0, .ref x0), (1, .int x1), (2, .int x2), (3, .int x3)] []) (kf : ¬ x2 ≤ x4 → gg X M k n 98 [(0, .ref x0), (1, .int x1), (2, .int x2), (3, .int x3), (4, .int x4)] []) : gg X M k n 92 [(0, .ref x0), (1, .int x1), (2, .int x2), (3, .int x3), (4, .int x4)] [] := by
  refine g_iload ok d_Mo_makeRows_92 (j := 4) rfl ?_
  refine g_iload_n ok d_Mo_makeRows_94 rfl (j := 2) rfl ?_
  exact g_icmp_ge (tgt := 126) ok d_Mo_makeRows_95 (by decide) (fun z => (gg_keep [0, 1, 2, 3] (kt z))) (fun z => (kf z))
theorem k_Mo_makeRows_98 {X : gC} {M : List mC} {k n : Nat} {x0 : Nat} {x1 : Int32} {x2 : Int32} {x3 : Int32} {x4 : Int32} {fs2 : List Value} {f3 : Nat} {g6 : Nat → Int32} {N7 : Nat} (ok : gO X c_Mo_makeRows "TripleStoreModel" w_Mo_makeRows) (h1 : M[x0]? = some (.inr (10, fs2))) (h4 : fs2[54]? = some (.ref f3)) (h5 : M[f3]? = some (.inl (0, N7, .inl g6))) (h8 : vp_in x4 N7) (h9 : vp_in x2 N7) {rm : Room} {post : Option Value → List mC → Prop} (hm : mm_ (gLa X) y_Mo_byTerms w_Mo_byTerms rm [.ref x0, .int (g6 x4.toNatClampNeg), .int (g6 x2.toNatClampNeg)] M post) (hR : gF X rm 5 k n) (hlen : ∀ r M', post r M' → M'.length = M.length) (kk : ∀ r M', post r M' → gg X M' (k + rm.cells) (n + rm.slots) 115 [(0, .ref x0), (1, .int x1), (2, .int x2), (3, .int x3), (4, .int x4)] (r.toList ++ [])) : gg X M k n 98 [(0, .ref x0), (1, .int x1), (2, .int x2), (3, .int x3), (4, .int x4)] [] := by
  refine g_aload_n ok d_Mo_makeRows_98 rfl (j := 0) rfl ?_
  refine g_aload_n ok d_Mo_makeRows_99 rfl (j := 0) rfl ?_
  refine gf_Mo_85 ok d_Mo_makeRows_100 h1 h4 ?_
  refine g_iload ok d_Mo_makeRows_103 (j := 4) rfl ?_
  refine g_iald (t := 0) ok rfl d_Mo_makeRows_105 h5 h8 ?_
  refine g_aload_n ok d_Mo_makeRows_106 rfl (j := 0) rfl ?_
  refine gf_Mo_85 ok d_Mo_makeRows_107 h1 h4 ?_
  refine g_iload_n ok d_Mo_makeRows_110 rfl (j := 2) rfl ?_
  refine g_iald (t := 0) ok rfl d_Mo_makeRows_111 h5 h9 ?_
  exact gc_Mo_351 (As := [.int (g6 x4.toNatClampNeg), .int (g6 x2.toNatClampNeg)]) (rest := []) ok d_Mo_makeRows_112 hm rfl rfl (Nat.le_of_ble_eq_true rfl) hR h1 hlen kk
theorem k_Mo_makeRows_115 {X : gC} {M : List mC} {k n : Nat} {x0 : Nat} {x1 : Int32} {x2 : Int32} {x3 : Int32} {x4 : Int32} {s0 : Int32} (ok : gO X c_Mo_makeRows "TripleStoreModel" w_Mo_makeRows)  (kt : ¬ s0 = 0 → gg X M k n 120 [(0, .ref x0), (1, .int x1), (2, .int x2), (3, .int x3), (4, .int x4)] []) (kf : s0 = 0 → gg X M k n 118 [(0, .ref x0), (1, .int x1), (2, .int x2), (4, .int x4)] []) : gg X M k n 115 [(0, .ref x0), (1, .int x1), (2, .int x2), (3, .int x3), (4, .int x4)] [.int s0] := by
  exact g_if_ne (tgt := 120) ok d_Mo_makeRows_115 (by decide) (fun z => (kt z)) (fun z => (gg_keep [0, 1, 2, 4] (kf z)))
theorem k_Mo_makeRows_118 {X : gC} {M : List mC} {k n : Nat} {x0 : Nat} {x1 : Int32} {x2 : Int32} {x4 : Int32} (ok : gO X c_Mo_makeRows "TripleStoreModel" w_Mo_makeRows) (hl : gL X = 5)  (kk : gg X M k n 120 [(0, .ref x0), (1, .int x1), (2, .int x2), (3, .int 1), (4, .int x4)] []) : gg X M k n 118 [(0, .ref x0), (1, .int x1), (2, .int x2), (4, .int x4)] [] := by
  refine g_iconst (v := 1) ok d_Mo_makeRows_118 (by decide) ?_
  refine g_istore_n (L' := [(0, .ref x0), (1, .int x1), (2, .int x2), (3, .int 1), (4, .int x4)]) ok d_Mo_makeRows_119 rfl (by rw [hl]; decide) rfl ?_
  exact kk
theorem k_Mo_makeRows_120 {X : gC} {M : List mC} {k n : Nat} {x0 : Nat} {x1 : Int32} {x2 : Int32} {x3 : Int32} {x4 : Int32} (ok : gO X c_Mo_makeRows "TripleStoreModel" w_Mo_makeRows) (hl : gL X = 5)  (kk : gg X M k n 92 [(0, .ref x0), (1, .int x1), (2, .int x2), (3, .int x3), (4, .int (x4 + 1))] []) : gg X M k n 120 [(0, .ref x0), (1, .int x1), (2, .int x2), (3, .int x3), (4, .int x4)] [] := by
  refine g_iinc (L' := [(0, .ref x0), (1, .int x1), (2, .int x2), (3, .int x3), (4, .int (x4 + 1))]) (v := (x4 + 1)) ok d_Mo_makeRows_120 (j := 4) rfl rfl (by rw [hl]; decide) rfl ?_
  exact g_goto (tgt := 92) ok d_Mo_makeRows_123 (by decide) kk
theorem k_Mo_makeRows_126 {X : gC} {M : List mC} {k n : Nat} {x0 : Nat} {x1 : Int32} {x2 : Int32} {x3 : Int32} {fs2 : List Value} {f3 : Int32} (ok : gO X c_Mo_makeRows "TripleStoreModel" w_Mo_makeRows) (h1 : M[x0]? = some (.inr (10, fs2))) (h4 : fs2[43]? = some (.int f3)) (kt : f3 = 0 → gg X M k n 137 [(0, .ref x0), (1, .int x1), (2, .int x2)] []) (kf : ¬ f3 = 0 → gg X M k n 133 [(0, .ref x0), (1, .int x1), (2, .int x2), (3, .int x3)] []) : gg X M k n 126 [(0, .ref x0), (1, .int x1), (2, .int x2), (3, .int x3)] [] := by
  refine g_aload_n ok d_Mo_makeRows_126 rfl (j := 0) rfl ?_
  refine gf_Mo_293 ok d_Mo_makeRows_127 h1 h4 ?_
  exact g_if_eq (tgt := 137) ok d_Mo_makeRows_130 (by decide) (fun z => (gg_keep [0, 1, 2] (kt z))) (fun z => (kf z))
theorem k_Mo_makeRows_133 {X : gC} {M : List mC} {k n : Nat} {x0 : Nat} {x1 : Int32} {x2 : Int32} {x3 : Int32} (ok : gO X c_Mo_makeRows "TripleStoreModel" w_Mo_makeRows)  (kt : ¬ x3 = 0 → gg X M k n 215 [(0, .ref x0), (1, .int x1), (2, .int x2)] []) (kf : x3 = 0 → gg X M k n 137 [(0, .ref x0), (1, .int x1), (2, .int x2)] []) : gg X M k n 133 [(0, .ref x0), (1, .int x1), (2, .int x2), (3, .int x3)] [] := by
  refine g_iload_n ok d_Mo_makeRows_133 rfl (j := 3) rfl ?_
  exact g_if_ne (tgt := 215) ok d_Mo_makeRows_134 (by decide) (fun z => (gg_keep [0, 1, 2] (kt z))) (fun z => (gg_keep [0, 1, 2] (kf z)))
theorem k_Mo_makeRows_137 {X : gC} {M : List mC} {k n : Nat} {x0 : Nat} {x1 : Int32} {x2 : Int32} (ok : gO X c_Mo_makeRows "TripleStoreModel" w_Mo_makeRows) (hl : gL X = 5)  (kk : gg X M k n 140 [(0, .ref x0), (1, .int x1), (2, .int x2), (4, .int 0)] []) : gg X M k n 137 [(0, .ref x0), (1, .int x1), (2, .int x2)] [] := by
  refine g_iconst (v := 0) ok d_Mo_makeRows_137 (by decide) ?_
  refine g_istore (L' := [(0, .ref x0), (1, .int x1), (2, .int x2), (4, .int 0)]) ok d_Mo_makeRows_138 (by rw [hl]; decide) rfl ?_
  exact kk
theorem k_Mo_makeRows_140 {X : gC} {M : List mC} {k n : Nat} {x0 : Nat} {x1 : Int32} {x2 : Int32} {x4 : Int32} (ok : gO X c_Mo_makeRows "TripleStoreModel" w_Mo_makeRows)  (kt : 6 ≤ x4 → gg X M k n 185 [(0, .ref x0), (1, .int x1), (2, .int x2)] []) (kf : ¬ 6 ≤ x4 → gg X M k n 147 [(0, .ref x0), (1, .int x1), (2, .int x2), (4, .int x4)] []) : gg X M k n 140 [(0, .ref x0), (1, .int x1), (2, .int x2), (4, .int x4)] [] := by
  refine g_iload ok d_Mo_makeRows_140 (j := 3) rfl ?_
  refine g_bipush (v := 6) ok d_Mo_makeRows_142 (by decide) ?_
  exact g_icmp_ge (tgt := 185) ok d_Mo_makeRows_144 (by decide) (fun z => (gg_keep [0, 1, 2] (kt z))) (fun z => (kf z))
theorem k_Mo_makeRows_147 {X : gC} {M : List mC} {k n : Nat} {x0 : Nat} {x1 : Int32} {x2 : Int32} {x4 : Int32} {fs2 : List Value} {f3 : Nat} {f5 : Int32} {f7 : Nat} {f9 : Nat} {g12 : Nat → Int32} {N13 : Nat} {g16 : Nat → Int64} {N17 : Nat} {g20 : Nat → Int64} {N21 : Nat} {M23 : List mC} (ok : gO X c_Mo_makeRows "TripleStoreModel" w_Mo_makeRows) (hl : gL X = 5) (h1 : M[x0]? = some (.inr (10, fs2))) (h4 : fs2[52]? = some (.ref f3)) (h6 : fs2[55]? = some (.int f5)) (h8 : fs2[47]? = some (.ref f7)) (h10 : fs2[54]? = some (.ref f9)) (h11 : M[f9]? = some (.inl (0, N13, .inl g12))) (h14 : vp_in x2 N13) (h15 : M[f7]? = some (.inl (1, N17, .inr (.inl g16)))) (h18 : vp_in ((6 * (g12 x2.toNatClampNeg)) + x4) N17) (h19 : M[f3]? = some (.inl (1, N21, .inr (.inl g20)))) (h22 : vp_in ((6 * f5) + x4) N21) (h24 : M.set f3 (.inl (1, N21, .inr (.inl (vp_updL g20 ((6 * f5) + x4).toNatClampNeg (g16 ((6 * (g12 x2.toNatClampNeg)) + x4).toNatClampNeg))))) = M23) (kk : gg X M23 k n 140 [(0, .ref x0), (1, .int x1), (2, .int x2), (4, .int (x4 + 1))] []) : gg X M k n 147 [(0, .ref x0), (1, .int x1), (2, .int x2), (4, .int x4)] [] := by
  refine g_aload_n ok d_Mo_makeRows_147 rfl (j := 0) rfl ?_
  refine gf_Mo_79 ok d_Mo_makeRows_148 h1 h4 ?_
  refine g_bipush (v := 6) ok d_Mo_makeRows_151 (by decide) ?_
  refine g_aload_n ok d_Mo_makeRows_153 rfl (j := 0) rfl ?_
  refine gf_Mo_358 ok d_Mo_makeRows_154 h1 h6 ?_
  refine g_imul ok d_Mo_makeRows_157 ?_
  refine g_iload ok d_Mo_makeRows_158 (j := 3) rfl ?_
  refine g_iadd ok d_Mo_makeRows_160 ?_
  refine g_aload_n ok d_Mo_makeRows_161 rfl (j := 0) rfl ?_
  refine gf_Mo_70 ok d_Mo_makeRows_162 h1 h8 ?_
  refine g_bipush (v := 6) ok d_Mo_makeRows_165 (by decide) ?_
  refine g_aload_n ok d_Mo_makeRows_167 rfl (j := 0) rfl ?_
  refine gf_Mo_85 ok d_Mo_makeRows_168 h1 h10 ?_
  refine g_iload_n ok d_Mo_makeRows_171 rfl (j := 2) rfl ?_
  refine g_iald (t := 0) ok rfl d_Mo_makeRows_172 h11 h14 ?_
  refine g_imul ok d_Mo_makeRows_173 ?_
  refine g_iload ok d_Mo_makeRows_174 (j := 3) rfl ?_
  refine g_iadd ok d_Mo_makeRows_176 ?_
  refine g_lald (t := 1) ok rfl d_Mo_makeRows_177 h15 h18 ?_
  refine g_last (t := 1) ok rfl d_Mo_makeRows_178 h19 h22 ?_
  rw [h24]
  have h25 : M23[f3]? = some (.inl (1, N21, .inr (.inl (vp_updL g20 ((6 * f5) + x4).toNatClampNeg (g16 ((6 * (g12 x2.toNatClampNeg)) + x4).toNatClampNeg))))) := by rw [← h24]; exact gs_eq h19
  refine g_iinc (L' := [(0, .ref x0), (1, .int x1), (2, .int x2), (4, .int (x4 + 1))]) (v := (x4 + 1)) ok d_Mo_makeRows_179 (j := 3) rfl rfl (by rw [hl]; decide) rfl ?_
  exact g_goto (tgt := 140) ok d_Mo_makeRows_182 (by decide) kk
theorem k_Mo_makeRows_185 {X : gC} {M : List mC} {k n : Nat} {x0 : Nat} {x1 : Int32} {x2 : Int32} {fs2 : List Value} {f3 : Nat} {f5 : Int32} {f7 : Nat} {f9 : Nat} {g12 : Nat → Int32} {N13 : Nat} {g16 : Nat → Int32} {N17 : Nat} {g20 : Nat → Int32} {N21 : Nat} {M23 : List mC} {M29 : List mC} (ok : gO X c_Mo_makeRows "TripleStoreModel" w_Mo_makeRows) (h1 : M[x0]? = some (.inr (10, fs2))) (h4 : fs2[53]? = some (.ref f3)) (h6 : fs2[55]? = some (.int f5)) (h8 : fs2[48]? = some (.ref f7)) (h10 : fs2[54]? = some (.ref f9)) (h11 : M[f9]? = some (.inl (0, N13, .inl g12))) (h14 : vp_in x2 N13) (h15 : M[f7]? = some (.inl (0, N17, .inl g16))) (h18 : vp_in (g12 x2.toNatClampNeg) N17) (h19 : M[f3]? = some (.inl (0, N21, .inl g20))) (h22 : vp_in f5 N21) (h24 : M.set f3 (.inl (0, N21, .inl (upd g20 f5.toNatClampNeg (g16 (g12 x2.toNatClampNeg).toNatClampNeg)))) = M23) (h28 : 59 ≤ fs2.length) (h30 : M23.set x0 (.inr (10, (fs2.set 55 (.int (f5 + 1))))) = M29) (kk : gg X M29 k n 215 [(0, .ref x0), (1, .int x1), (2, .int x2)] []) : gg X M k n 185 [(0, .ref x0), (1, .int x1), (2, .int x2)] [] := by
  refine g_aload_n ok d_Mo_makeRows_185 rfl (j := 0) rfl ?_
  refine gf_Mo_82 ok d_Mo_makeRows_186 h1 h4 ?_
  refine g_aload_n ok d_Mo_makeRows_189 rfl (j := 0) rfl ?_
  refine gf_Mo_358 ok d_Mo_makeRows_190 h1 h6 ?_
  refine g_aload_n ok d_Mo_makeRows_193 rfl (j := 0) rfl ?_
  refine gf_Mo_73 ok d_Mo_makeRows_194 h1 h8 ?_
  refine g_aload_n ok d_Mo_makeRows_197 rfl (j := 0) rfl ?_
  refine gf_Mo_85 ok d_Mo_makeRows_198 h1 h10 ?_
  refine g_iload_n ok d_Mo_makeRows_201 rfl (j := 2) rfl ?_
  refine g_iald (t := 0) ok rfl d_Mo_makeRows_202 h11 h14 ?_
  refine g_iald (t := 0) ok rfl d_Mo_makeRows_203 h15 h18 ?_
  refine g_iast (t := 0) ok rfl d_Mo_makeRows_204 h19 h22 ?_
  rw [h24]
  have h25 : M23[f3]? = some (.inl (0, N21, .inl (upd g20 f5.toNatClampNeg (g16 (g12 x2.toNatClampNeg).toNatClampNeg)))) := by rw [← h24]; exact gs_eq h19
  refine g_aload_n ok d_Mo_makeRows_205 rfl (j := 0) rfl ?_
  refine g_dup ok d_Mo_makeRows_206 rfl ?_
  have h26 : M23[x0]? = some (.inr (10, fs2)) := by rw [← h24]; exact (gs_ne (ne_ao h19 h1)).trans h1
  refine gf_Mo_358 ok d_Mo_makeRows_207 h26 h6 ?_
  refine g_iconst (v := 1) ok d_Mo_makeRows_210 (by decide) ?_
  refine g_iadd ok d_Mo_makeRows_211 ?_
  have h27 : 55 < (fs2).length := by first | omega | (simp only [List.length_set]; omega)
  refine pf_Mo_358 ok d_Mo_makeRows_212 h26 h27 (fun _ => ⟨rfl, rfl⟩) ?_
  rw [h30]
  have h31 : M29[x0]? = some (.inr (10, (fs2.set 55 (.int (f5 + 1))))) := by rw [← h30]; exact gs_eq h26
  have h32 := (List.getElem?_set_ne (a := .int (f5 + 1)) (by decide : 55 ≠ 53)).trans h4
  have h33 := (List.getElem?_set_ne (a := .int (f5 + 1)) (by decide : 55 ≠ 48)).trans h8
  have h34 := (List.getElem?_set_ne (a := .int (f5 + 1)) (by decide : 55 ≠ 54)).trans h10
  have h35 : (fs2.set 55 (.int (f5 + 1)))[55]? = some (.int (f5 + 1)) := List.getElem?_set_self h27
  exact kk
theorem k_Mo_makeRows_215 {X : gC} {M : List mC} {k n : Nat} {x0 : Nat} {x1 : Int32} {x2 : Int32} (ok : gO X c_Mo_makeRows "TripleStoreModel" w_Mo_makeRows) (hl : gL X = 5)  (kk : gg X M k n 71 [(0, .ref x0), (1, .int x1), (2, .int (x2 + 1))] []) : gg X M k n 215 [(0, .ref x0), (1, .int x1), (2, .int x2)] [] := by
  refine g_iinc (L' := [(0, .ref x0), (1, .int x1), (2, .int (x2 + 1))]) (v := (x2 + 1)) ok d_Mo_makeRows_215 (j := 2) rfl rfl (by rw [hl]; decide) rfl ?_
  exact g_goto (tgt := 71) ok d_Mo_makeRows_218 (by decide) kk
theorem k_Mo_makeRows_221 {X : gC} {M : List mC} {k n : Nat}  (ok : gO X c_Mo_makeRows "TripleStoreModel" w_Mo_makeRows)  {l9 : Launch} {rm : Room} {M0 : List mC} {post : Option Value → List mC → Prop} (E : gE X l9 y_Mo_makeRows rm 5 none M0 post) (hp : post (none) M) (hk : k ≤ rm.cells) (hn : n ≤ rm.slots) : gg X M k n 221 [] [] := by
  exact g_vret ok E d_Mo_makeRows_221 hp hk hn
theorem k_Mo_ask_0 {X : gC} {M : List mC} {k n : Nat} {x0 : Nat} {fs2 : List Value} {M5 : List mC} {M10 : List mC} {M16 : List mC} {M23 : List mC} {M31 : List mC} {M40 : List mC} {M50 : List mC} {M61 : List mC} {M73 : List mC} {M86 : List mC} {M100 : List mC} {M115 : List mC} {M131 : List mC} {M148 : List mC} {M166 : List mC} (ok : gO X c_Mo_ask "TripleStoreModel" w_Mo_ask) (h1 : M[x0]? = some (.inr (10, fs2))) (h4 : 59 ≤ fs2.length) (h6 : M.set x0 (.inr (10, (fs2.set 24 (.int 0)))) = M5) (h11 : M5.set x0 (.inr (10, ((fs2.set 24 (.int 0)).set 25 (.int 0)))) = M10) (h17 : M10.set x0 (.inr (10, (((fs2.set 24 (.int 0)).set 25 (.int 0)).set 26 (.int 0)))) = M16) (h24 : M16.set x0 (.inr (10, ((((fs2.set 24 (.int 0)).set 25 (.int 0)).set 26 (.int 0)).set 27 (.int 0)))) = M23) (h32 : M23.set x0 (.inr (10, (((((fs2.set 24 (.int 0)).set 25 (.int 0)).set 26 (.int 0)).set 27 (.int 0)).set 32 (.int 0)))) = M31) (h41 : M31.set x0 (.inr (10, ((((((fs2.set 24 (.int 0)).set 25 (.int 0)).set 26 (.int 0)).set 27 (.int 0)).set 32 (.int 0)).set 35 (.int 0)))) = M40) (h51 : M40.set x0 (.inr (10, (((((((fs2.set 24 (.int 0)).set 25 (.int 0)).set 26 (.int 0)).set 27 (.int 0)).set 32 (.int 0)).set 35 (.int 0)).set 39 (.int 0)))) = M50) (h62 : M50.set x0 (.inr (10, ((((((((fs2.set 24 (.int 0)).set 25 (.int 0)).set 26 (.int 0)).set 27 (.int 0)).set 32 (.int 0)).set 35 (.int 0)).set 39 (.int 0)).set 41 (.int 0)))) = M61) (h74 : M61.set x0 (.inr (10, (((((((((fs2.set 24 (.int 0)).set 25 (.int 0)).set 26 (.int 0)).set 27 (.int 0)).set 32 (.int 0)).set 35 (.int 0)).set 39 (.int 0)).set 41 (.int 0)).set 43 (.int 0)))) = M73) (h87 : M73.set x0 (.inr (10, ((((((((((fs2.set 24 (.int 0)).set 25 (.int 0)).set 26 (.int 0)).set 27 (.int 0)).set 32 (.int 0)).set 35 (.int 0)).set 39 (.int 0)).set 41 (.int 0)).set 43 (.int 0)).set 44 (.int (-1))))) = M86) (h101 : M86.set x0 (.inr (10, (((((((((((fs2.set 24 (.int 0)).set 25 (.int 0)).set 26 (.int 0)).set 27 (.int 0)).set 32 (.int 0)).set 35 (.int 0)).set 39 (.int 0)).set 41 (.int 0)).set 43 (.int 0)).set 44 (.int (-1))).set 45 (.int 0)))) = M100) (h116 : M100.set x0 (.inr (10, ((((((((((((fs2.set 24 (.int 0)).set 25 (.int 0)).set 26 (.int 0)).set 27 (.int 0)).set 32 (.int 0)).set 35 (.int 0)).set 39 (.int 0)).set 41 (.int 0)).set 43 (.int 0)).set 44 (.int (-1))).set 45 (.int 0)).set 46 (.int 10000)))) = M115) (h132 : M115.set x0 (.inr (10, (((((((((((((fs2.set 24 (.int 0)).set 25 (.int 0)).set 26 (.int 0)).set 27 (.int 0)).set 32 (.int 0)).set 35 (.int 0)).set 39 (.int 0)).set 41 (.int 0)).set 43 (.int 0)).set 44 (.int (-1))).set 45 (.int 0)).set 46 (.int 10000)).set 18 (.int 0)))) = M131) (h149 : M131.set x0 (.inr (10, ((((((((((((((fs2.set 24 (.int 0)).set 25 (.int 0)).set 26 (.int 0)).set 27 (.int 0)).set 32 (.int 0)).set 35 (.int 0)).set 39 (.int 0)).set 41 (.int 0)).set 43 (.int 0)).set 44 (.int (-1))).set 45 (.int 0)).set 46 (.int 10000)).set 18 (.int 0)).set 20 (.int (-1))))) = M148) (h167 : M148.set x0 (.inr (10, (((((((((((((((fs2.set 24 (.int 0)).set 25 (.int 0)).set 26 (.int 0)).set 27 (.int 0)).set 32 (.int 0)).set 35 (.int 0)).set 39 (.int 0)).set 41 (.int 0)).set 43 (.int 0)).set 44 (.int (-1))).set 45 (.int 0)).set 46 (.int 10000)).set 18 (.int 0)).set 20 (.int (-1))).set 21 (.int 0)))) = M166) {rm : Room} {post : Option Value → List mC → Prop} (hm : mm_ (gLa X) y_Mo_next w_Mo_next rm [.ref x0] M166 post) (hR : gF X rm 3 k n) (hlen : ∀ r M', post r M' → M'.length = M166.length) (kk : ∀ r M', post r M' → gg X M' (k + rm.cells) (n + rm.slots) 81 [(0, .ref x0)] (r.toList ++ [])) : gg X M k n 0 [(0, .ref x0)] [] := by
  refine g_aload_n ok d_Mo_ask_0 rfl (j := 0) rfl ?_
  refine g_iconst (v := 0) ok d_Mo_ask_1 (by decide) ?_
  have h3 : 24 < (fs2).length := by first | omega | (simp only [List.length_set]; omega)
  refine pf_Mo_229 ok d_Mo_ask_2 h1 h3 (fun _ => ⟨rfl, rfl⟩) ?_
  rw [h6]
  have h7 : M5[x0]? = some (.inr (10, (fs2.set 24 (.int 0)))) := by rw [← h6]; exact gs_eq h1
  have h8 : (fs2.set 24 (.int 0))[24]? = some (.int 0) := List.getElem?_set_self h3
  refine g_aload_n ok d_Mo_ask_5 rfl (j := 0) rfl ?_
  refine g_iconst (v := 0) ok d_Mo_ask_6 (by decide) ?_
  have h9 : 25 < ((fs2.set 24 (.int 0))).length := by first | omega | (simp only [List.length_set]; omega)
  refine pf_Mo_259 ok d_Mo_ask_7 h7 h9 (fun _ => ⟨rfl, rfl⟩) ?_
  rw [h11]
  have h12 : M10[x0]? = some (.inr (10, ((fs2.set 24 (.int 0)).set 25 (.int 0)))) := by rw [← h11]; exact gs_eq h7
  have h13 := (List.getElem?_set_ne (a := .int 0) (by decide : 25 ≠ 24)).trans h8
  have h14 : ((fs2.set 24 (.int 0)).set 25 (.int 0))[25]? = some (.int 0) := List.getElem?_set_self h9
  refine g_aload_n ok d_Mo_ask_10 rfl (j := 0) rfl ?_
  refine g_iconst (v := 0) ok d_Mo_ask_11 (by decide) ?_
  have h15 : 26 < (((fs2.set 24 (.int 0)).set 25 (.int 0))).length := by first | omega | (simp only [List.length_set]; omega)
  refine pf_Mo_278 ok d_Mo_ask_12 h12 h15 (fun _ => ⟨rfl, rfl⟩) ?_
  rw [h17]
  have h18 : M16[x0]? = some (.inr (10, (((fs2.set 24 (.int 0)).set 25 (.int 0)).set 26 (.int 0)))) := by rw [← h17]; exact gs_eq h12
  have h19 := (List.getElem?_set_ne (a := .int 0) (by decide : 26 ≠ 24)).trans h13
  have h20 := (List.getElem?_set_ne (a := .int 0) (by decide : 26 ≠ 25)).trans h14
  have h21 : (((fs2.set 24 (.int 0)).set 25 (.int 0)).set 26 (.int 0))[26]? = some (.int 0) := List.getElem?_set_self h15
  refine g_aload_n ok d_Mo_ask_15 rfl (j := 0) rfl ?_
  refine g_iconst (v := 0) ok d_Mo_ask_16 (by decide) ?_
  have h22 : 27 < ((((fs2.set 24 (.int 0)).set 25 (.int 0)).set 26 (.int 0))).length := by first | omega | (simp only [List.length_set]; omega)
  refine pf_Mo_250 ok d_Mo_ask_17 h18 h22 (fun _ => ⟨rfl, rfl⟩) ?_
  rw [h24]
  have h25 : M23[x0]? = some (.inr (10, ((((fs2.set 24 (.int 0)).set 25 (.int 0)).set 26 (.int 0)).set 27 (.int 0)))) := by rw [← h24]; exact gs_eq h18
  have h26 := (List.getElem?_set_ne (a := .int 0) (by decide : 27 ≠ 24)).trans h19
  have h27 := (List.getElem?_set_ne (a := .int 0) (by decide : 27 ≠ 25)).trans h20
  have h28 := (List.getElem?_set_ne (a := .int 0) (by decide : 27 ≠ 26)).trans h21
  have h29 : ((((fs2.set 24 (.int 0)).set 25 (.int 0)).set 26 (.int 0)).set 27 (.int 0))[27]? = some (.int 0) := List.getElem?_set_self h22
  refine g_aload_n ok d_Mo_ask_20 rfl (j := 0) rfl ?_
  refine g_iconst (v := 0) ok d_Mo_ask_21 (by decide) ?_
  have h30 : 32 < (((((fs2.set 24 (.int 0)).set 25 (.int 0)).set 26 (.int 0)).set 27 (.int 0))).length := by first | omega | (simp only [List.length_set]; omega)
  refine pf_Mo_244 ok d_Mo_ask_22 h25 h30 (fun _ => ⟨rfl, rfl⟩) ?_
  rw [h32]
  have h33 : M31[x0]? = some (.inr (10, (((((fs2.set 24 (.int 0)).set 25 (.int 0)).set 26 (.int 0)).set 27 (.int 0)).set 32 (.int 0)))) := by rw [← h32]; exact gs_eq h25
  have h34 := (List.getElem?_set_ne (a := .int 0) (by decide : 32 ≠ 24)).trans h26
  have h35 := (List.getElem?_set_ne (a := .int 0) (by decide : 32 ≠ 25)).trans h27
  have h36 := (List.getElem?_set_ne (a := .int 0) (by decide : 32 ≠ 26)).trans h28
  have h37 := (List.getElem?_set_ne (a := .int 0) (by decide : 32 ≠ 27)).trans h29
  have h38 : (((((fs2.set 24 (.int 0)).set 25 (.int 0)).set 26 (.int 0)).set 27 (.int 0)).set 32 (.int 0))[32]? = some (.int 0) := List.getElem?_set_self h30
  refine g_aload_n ok d_Mo_ask_25 rfl (j := 0) rfl ?_
  refine g_iconst (v := 0) ok d_Mo_ask_26 (by decide) ?_
  have h39 : 35 < ((((((fs2.set 24 (.int 0)).set 25 (.int 0)).set 26 (.int 0)).set 27 (.int 0)).set 32 (.int 0))).length := by first | omega | (simp only [List.length_set]; omega)
  refine pf_Mo_268 ok d_Mo_ask_27 h33 h39 (fun _ => ⟨rfl, rfl⟩) ?_
  rw [h41]
  have h42 : M40[x0]? = some (.inr (10, ((((((fs2.set 24 (.int 0)).set 25 (.int 0)).set 26 (.int 0)).set 27 (.int 0)).set 32 (.int 0)).set 35 (.int 0)))) := by rw [← h41]; exact gs_eq h33
  have h43 := (List.getElem?_set_ne (a := .int 0) (by decide : 35 ≠ 24)).trans h34
  have h44 := (List.getElem?_set_ne (a := .int 0) (by decide : 35 ≠ 25)).trans h35
  have h45 := (List.getElem?_set_ne (a := .int 0) (by decide : 35 ≠ 26)).trans h36
  have h46 := (List.getElem?_set_ne (a := .int 0) (by decide : 35 ≠ 27)).trans h37
  have h47 := (List.getElem?_set_ne (a := .int 0) (by decide : 35 ≠ 32)).trans h38
  have h48 : ((((((fs2.set 24 (.int 0)).set 25 (.int 0)).set 26 (.int 0)).set 27 (.int 0)).set 32 (.int 0)).set 35 (.int 0))[35]? = some (.int 0) := List.getElem?_set_self h39
  refine g_aload_n ok d_Mo_ask_30 rfl (j := 0) rfl ?_
  refine g_iconst (v := 0) ok d_Mo_ask_31 (by decide) ?_
  have h49 : 39 < (((((((fs2.set 24 (.int 0)).set 25 (.int 0)).set 26 (.int 0)).set 27 (.int 0)).set 32 (.int 0)).set 35 (.int 0))).length := by first | omega | (simp only [List.length_set]; omega)
  refine pf_Mo_247 ok d_Mo_ask_32 h42 h49 (fun _ => ⟨rfl, rfl⟩) ?_
  rw [h51]
  have h52 : M50[x0]? = some (.inr (10, (((((((fs2.set 24 (.int 0)).set 25 (.int 0)).set 26 (.int 0)).set 27 (.int 0)).set 32 (.int 0)).set 35 (.int 0)).set 39 (.int 0)))) := by rw [← h51]; exact gs_eq h42
  have h53 := (List.getElem?_set_ne (a := .int 0) (by decide : 39 ≠ 24)).trans h43
  have h54 := (List.getElem?_set_ne (a := .int 0) (by decide : 39 ≠ 25)).trans h44
  have h55 := (List.getElem?_set_ne (a := .int 0) (by decide : 39 ≠ 26)).trans h45
  have h56 := (List.getElem?_set_ne (a := .int 0) (by decide : 39 ≠ 27)).trans h46
  have h57 := (List.getElem?_set_ne (a := .int 0) (by decide : 39 ≠ 32)).trans h47
  have h58 := (List.getElem?_set_ne (a := .int 0) (by decide : 39 ≠ 35)).trans h48
  have h59 : (((((((fs2.set 24 (.int 0)).set 25 (.int 0)).set 26 (.int 0)).set 27 (.int 0)).set 32 (.int 0)).set 35 (.int 0)).set 39 (.int 0))[39]? = some (.int 0) := List.getElem?_set_self h49
  refine g_aload_n ok d_Mo_ask_35 rfl (j := 0) rfl ?_
  refine g_iconst (v := 0) ok d_Mo_ask_36 (by decide) ?_
  have h60 : 41 < ((((((((fs2.set 24 (.int 0)).set 25 (.int 0)).set 26 (.int 0)).set 27 (.int 0)).set 32 (.int 0)).set 35 (.int 0)).set 39 (.int 0))).length := by first | omega | (simp only [List.length_set]; omega)
  refine pf_Mo_296 ok d_Mo_ask_37 h52 h60 (fun _ => ⟨rfl, rfl⟩) ?_
  rw [h62]
  have h63 : M61[x0]? = some (.inr (10, ((((((((fs2.set 24 (.int 0)).set 25 (.int 0)).set 26 (.int 0)).set 27 (.int 0)).set 32 (.int 0)).set 35 (.int 0)).set 39 (.int 0)).set 41 (.int 0)))) := by rw [← h62]; exact gs_eq h52
  have h64 := (List.getElem?_set_ne (a := .int 0) (by decide : 41 ≠ 24)).trans h53
  have h65 := (List.getElem?_set_ne (a := .int 0) (by decide : 41 ≠ 25)).trans h54
  have h66 := (List.getElem?_set_ne (a := .int 0) (by decide : 41 ≠ 26)).trans h55
  have h67 := (List.getElem?_set_ne (a := .int 0) (by decide : 41 ≠ 27)).trans h56
  have h68 := (List.getElem?_set_ne (a := .int 0) (by decide : 41 ≠ 32)).trans h57
  have h69 := (List.getElem?_set_ne (a := .int 0) (by decide : 41 ≠ 35)).trans h58
  have h70 := (List.getElem?_set_ne (a := .int 0) (by decide : 41 ≠ 39)).trans h59
  have h71 : ((((((((fs2.set 24 (.int 0)).set 25 (.int 0)).set 26 (.int 0)).set 27 (.int 0)).set 32 (.int 0)).set 35 (.int 0)).set 39 (.int 0)).set 41 (.int 0))[41]? = some (.int 0) := List.getElem?_set_self h60
  refine g_aload_n ok d_Mo_ask_40 rfl (j := 0) rfl ?_
  refine g_iconst (v := 0) ok d_Mo_ask_41 (by decide) ?_
  have h72 : 43 < (((((((((fs2.set 24 (.int 0)).set 25 (.int 0)).set 26 (.int 0)).set 27 (.int 0)).set 32 (.int 0)).set 35 (.int 0)).set 39 (.int 0)).set 41 (.int 0))).length := by first | omega | (simp only [List.length_set]; omega)
  refine pf_Mo_293 ok d_Mo_ask_42 h63 h72 (fun _ => ⟨rfl, rfl⟩) ?_
  rw [h74]
  have h75 : M73[x0]? = some (.inr (10, (((((((((fs2.set 24 (.int 0)).set 25 (.int 0)).set 26 (.int 0)).set 27 (.int 0)).set 32 (.int 0)).set 35 (.int 0)).set 39 (.int 0)).set 41 (.int 0)).set 43 (.int 0)))) := by rw [← h74]; exact gs_eq h63
  have h76 := (List.getElem?_set_ne (a := .int 0) (by decide : 43 ≠ 24)).trans h64
  have h77 := (List.getElem?_set_ne (a := .int 0) (by decide : 43 ≠ 25)).trans h65
  have h78 := (List.getElem?_set_ne (a := .int 0) (by decide : 43 ≠ 26)).trans h66
  have h79 := (List.getElem?_set_ne (a := .int 0) (by decide : 43 ≠ 27)).trans h67
  have h80 := (List.getElem?_set_ne (a := .int 0) (by decide : 43 ≠ 32)).trans h68
  have h81 := (List.getElem?_set_ne (a := .int 0) (by decide : 43 ≠ 35)).trans h69
  have h82 := (List.getElem?_set_ne (a := .int 0) (by decide : 43 ≠ 39)).trans h70
  have h83 := (List.getElem?_set_ne (a := .int 0) (by decide : 43 ≠ 41)).trans h71
  have h84 : (((((((((fs2.set 24 (.int 0)).set 25 (.int 0)).set 26 (.int 0)).set 27 (.int 0)).set 32 (.int 0)).set 35 (.int 0)).set 39 (.int 0)).set 41 (.int 0)).set 43 (.int 0))[43]? = some (.int 0) := List.getElem?_set_self h72
  refine g_aload_n ok d_Mo_ask_45 rfl (j := 0) rfl ?_
  refine g_iconst (v := (-1)) ok d_Mo_ask_46 (by decide) ?_
  have h85 : 44 < ((((((((((fs2.set 24 (.int 0)).set 25 (.int 0)).set 26 (.int 0)).set 27 (.int 0)).set 32 (.int 0)).set 35 (.int 0)).set 39 (.int 0)).set 41 (.int 0)).set 43 (.int 0))).length := by first | omega | (simp only [List.length_set]; omega)
  refine pf_Mo_302 ok d_Mo_ask_47 h75 h85 (fun _ => ⟨rfl, rfl⟩) ?_
  rw [h87]
  have h88 : M86[x0]? = some (.inr (10, ((((((((((fs2.set 24 (.int 0)).set 25 (.int 0)).set 26 (.int 0)).set 27 (.int 0)).set 32 (.int 0)).set 35 (.int 0)).set 39 (.int 0)).set 41 (.int 0)).set 43 (.int 0)).set 44 (.int (-1))))) := by rw [← h87]; exact gs_eq h75
  have h89 := (List.getElem?_set_ne (a := .int (-1)) (by decide : 44 ≠ 24)).trans h76
  have h90 := (List.getElem?_set_ne (a := .int (-1)) (by decide : 44 ≠ 25)).trans h77
  have h91 := (List.getElem?_set_ne (a := .int (-1)) (by decide : 44 ≠ 26)).trans h78
  have h92 := (List.getElem?_set_ne (a := .int (-1)) (by decide : 44 ≠ 27)).trans h79
  have h93 := (List.getElem?_set_ne (a := .int (-1)) (by decide : 44 ≠ 32)).trans h80
  have h94 := (List.getElem?_set_ne (a := .int (-1)) (by decide : 44 ≠ 35)).trans h81
  have h95 := (List.getElem?_set_ne (a := .int (-1)) (by decide : 44 ≠ 39)).trans h82
  have h96 := (List.getElem?_set_ne (a := .int (-1)) (by decide : 44 ≠ 41)).trans h83
  have h97 := (List.getElem?_set_ne (a := .int (-1)) (by decide : 44 ≠ 43)).trans h84
  have h98 : ((((((((((fs2.set 24 (.int 0)).set 25 (.int 0)).set 26 (.int 0)).set 27 (.int 0)).set 32 (.int 0)).set 35 (.int 0)).set 39 (.int 0)).set 41 (.int 0)).set 43 (.int 0)).set 44 (.int (-1)))[44]? = some (.int (-1)) := List.getElem?_set_self h85
  refine g_aload_n ok d_Mo_ask_50 rfl (j := 0) rfl ?_
  refine g_iconst (v := 0) ok d_Mo_ask_51 (by decide) ?_
  have h99 : 45 < (((((((((((fs2.set 24 (.int 0)).set 25 (.int 0)).set 26 (.int 0)).set 27 (.int 0)).set 32 (.int 0)).set 35 (.int 0)).set 39 (.int 0)).set 41 (.int 0)).set 43 (.int 0)).set 44 (.int (-1)))).length := by first | omega | (simp only [List.length_set]; omega)
  refine pf_Mo_305 ok d_Mo_ask_52 h88 h99 (fun _ => ⟨rfl, rfl⟩) ?_
  rw [h101]
  have h102 : M100[x0]? = some (.inr (10, (((((((((((fs2.set 24 (.int 0)).set 25 (.int 0)).set 26 (.int 0)).set 27 (.int 0)).set 32 (.int 0)).set 35 (.int 0)).set 39 (.int 0)).set 41 (.int 0)).set 43 (.int 0)).set 44 (.int (-1))).set 45 (.int 0)))) := by rw [← h101]; exact gs_eq h88
  have h103 := (List.getElem?_set_ne (a := .int 0) (by decide : 45 ≠ 24)).trans h89
  have h104 := (List.getElem?_set_ne (a := .int 0) (by decide : 45 ≠ 25)).trans h90
  have h105 := (List.getElem?_set_ne (a := .int 0) (by decide : 45 ≠ 26)).trans h91
  have h106 := (List.getElem?_set_ne (a := .int 0) (by decide : 45 ≠ 27)).trans h92
  have h107 := (List.getElem?_set_ne (a := .int 0) (by decide : 45 ≠ 32)).trans h93
  have h108 := (List.getElem?_set_ne (a := .int 0) (by decide : 45 ≠ 35)).trans h94
  have h109 := (List.getElem?_set_ne (a := .int 0) (by decide : 45 ≠ 39)).trans h95
  have h110 := (List.getElem?_set_ne (a := .int 0) (by decide : 45 ≠ 41)).trans h96
  have h111 := (List.getElem?_set_ne (a := .int 0) (by decide : 45 ≠ 43)).trans h97
  have h112 := (List.getElem?_set_ne (a := .int 0) (by decide : 45 ≠ 44)).trans h98
  have h113 : (((((((((((fs2.set 24 (.int 0)).set 25 (.int 0)).set 26 (.int 0)).set 27 (.int 0)).set 32 (.int 0)).set 35 (.int 0)).set 39 (.int 0)).set 41 (.int 0)).set 43 (.int 0)).set 44 (.int (-1))).set 45 (.int 0))[45]? = some (.int 0) := List.getElem?_set_self h99
  refine g_aload_n ok d_Mo_ask_55 rfl (j := 0) rfl ?_
  refine g_sipush (v := 10000) ok d_Mo_ask_56 (by decide) ?_
  have h114 : 46 < ((((((((((((fs2.set 24 (.int 0)).set 25 (.int 0)).set 26 (.int 0)).set 27 (.int 0)).set 32 (.int 0)).set 35 (.int 0)).set 39 (.int 0)).set 41 (.int 0)).set 43 (.int 0)).set 44 (.int (-1))).set 45 (.int 0))).length := by first | omega | (simp only [List.length_set]; omega)
  refine pf_Mo_308 ok d_Mo_ask_59 h102 h114 (fun _ => ⟨rfl, rfl⟩) ?_
  rw [h116]
  have h117 : M115[x0]? = some (.inr (10, ((((((((((((fs2.set 24 (.int 0)).set 25 (.int 0)).set 26 (.int 0)).set 27 (.int 0)).set 32 (.int 0)).set 35 (.int 0)).set 39 (.int 0)).set 41 (.int 0)).set 43 (.int 0)).set 44 (.int (-1))).set 45 (.int 0)).set 46 (.int 10000)))) := by rw [← h116]; exact gs_eq h102
  have h118 := (List.getElem?_set_ne (a := .int 10000) (by decide : 46 ≠ 24)).trans h103
  have h119 := (List.getElem?_set_ne (a := .int 10000) (by decide : 46 ≠ 25)).trans h104
  have h120 := (List.getElem?_set_ne (a := .int 10000) (by decide : 46 ≠ 26)).trans h105
  have h121 := (List.getElem?_set_ne (a := .int 10000) (by decide : 46 ≠ 27)).trans h106
  have h122 := (List.getElem?_set_ne (a := .int 10000) (by decide : 46 ≠ 32)).trans h107
  have h123 := (List.getElem?_set_ne (a := .int 10000) (by decide : 46 ≠ 35)).trans h108
  have h124 := (List.getElem?_set_ne (a := .int 10000) (by decide : 46 ≠ 39)).trans h109
  have h125 := (List.getElem?_set_ne (a := .int 10000) (by decide : 46 ≠ 41)).trans h110
  have h126 := (List.getElem?_set_ne (a := .int 10000) (by decide : 46 ≠ 43)).trans h111
  have h127 := (List.getElem?_set_ne (a := .int 10000) (by decide : 46 ≠ 44)).trans h112
  have h128 := (List.getElem?_set_ne (a := .int 10000) (by decide : 46 ≠ 45)).trans h113
  have h129 : ((((((((((((fs2.set 24 (.int 0)).set 25 (.int 0)).set 26 (.int 0)).set 27 (.int 0)).set 32 (.int 0)).set 35 (.int 0)).set 39 (.int 0)).set 41 (.int 0)).set 43 (.int 0)).set 44 (.int (-1))).set 45 (.int 0)).set 46 (.int 10000))[46]? = some (.int 10000) := List.getElem?_set_self h114
  refine g_aload_n ok d_Mo_ask_62 rfl (j := 0) rfl ?_
  refine g_iconst (v := 0) ok d_Mo_ask_63 (by decide) ?_
  have h130 : 18 < (((((((((((((fs2.set 24 (.int 0)).set 25 (.int 0)).set 26 (.int 0)).set 27 (.int 0)).set 32 (.int 0)).set 35 (.int 0)).set 39 (.int 0)).set 41 (.int 0)).set 43 (.int 0)).set 44 (.int (-1))).set 45 (.int 0)).set 46 (.int 10000))).length := by first | omega | (simp only [List.length_set]; omega)
  refine pf_Mo_172 ok d_Mo_ask_64 h117 h130 (fun _ => ⟨rfl, rfl⟩) ?_
  rw [h132]
  have h133 : M131[x0]? = some (.inr (10, (((((((((((((fs2.set 24 (.int 0)).set 25 (.int 0)).set 26 (.int 0)).set 27 (.int 0)).set 32 (.int 0)).set 35 (.int 0)).set 39 (.int 0)).set 41 (.int 0)).set 43 (.int 0)).set 44 (.int (-1))).set 45 (.int 0)).set 46 (.int 10000)).set 18 (.int 0)))) := by rw [← h132]; exact gs_eq h117
  have h134 := (List.getElem?_set_ne (a := .int 0) (by decide : 18 ≠ 24)).trans h118
  have h135 := (List.getElem?_set_ne (a := .int 0) (by decide : 18 ≠ 25)).trans h119
  have h136 := (List.getElem?_set_ne (a := .int 0) (by decide : 18 ≠ 26)).trans h120
  have h137 := (List.getElem?_set_ne (a := .int 0) (by decide : 18 ≠ 27)).trans h121
  have h138 := (List.getElem?_set_ne (a := .int 0) (by decide : 18 ≠ 32)).trans h122
  have h139 := (List.getElem?_set_ne (a := .int 0) (by decide : 18 ≠ 35)).trans h123
  have h140 := (List.getElem?_set_ne (a := .int 0) (by decide : 18 ≠ 39)).trans h124
  have h141 := (List.getElem?_set_ne (a := .int 0) (by decide : 18 ≠ 41)).trans h125
  have h142 := (List.getElem?_set_ne (a := .int 0) (by decide : 18 ≠ 43)).trans h126
  have h143 := (List.getElem?_set_ne (a := .int 0) (by decide : 18 ≠ 44)).trans h127
  have h144 := (List.getElem?_set_ne (a := .int 0) (by decide : 18 ≠ 45)).trans h128
  have h145 := (List.getElem?_set_ne (a := .int 0) (by decide : 18 ≠ 46)).trans h129
  have h146 : (((((((((((((fs2.set 24 (.int 0)).set 25 (.int 0)).set 26 (.int 0)).set 27 (.int 0)).set 32 (.int 0)).set 35 (.int 0)).set 39 (.int 0)).set 41 (.int 0)).set 43 (.int 0)).set 44 (.int (-1))).set 45 (.int 0)).set 46 (.int 10000)).set 18 (.int 0))[18]? = some (.int 0) := List.getElem?_set_self h130
  refine g_aload_n ok d_Mo_ask_67 rfl (j := 0) rfl ?_
  refine g_iconst (v := (-1)) ok d_Mo_ask_68 (by decide) ?_
  have h147 : 20 < ((((((((((((((fs2.set 24 (.int 0)).set 25 (.int 0)).set 26 (.int 0)).set 27 (.int 0)).set 32 (.int 0)).set 35 (.int 0)).set 39 (.int 0)).set 41 (.int 0)).set 43 (.int 0)).set 44 (.int (-1))).set 45 (.int 0)).set 46 (.int 10000)).set 18 (.int 0))).length := by first | omega | (simp only [List.length_set]; omega)
  refine pf_Mo_220 ok d_Mo_ask_69 h133 h147 (fun _ => ⟨rfl, rfl⟩) ?_
  rw [h149]
  have h150 : M148[x0]? = some (.inr (10, ((((((((((((((fs2.set 24 (.int 0)).set 25 (.int 0)).set 26 (.int 0)).set 27 (.int 0)).set 32 (.int 0)).set 35 (.int 0)).set 39 (.int 0)).set 41 (.int 0)).set 43 (.int 0)).set 44 (.int (-1))).set 45 (.int 0)).set 46 (.int 10000)).set 18 (.int 0)).set 20 (.int (-1))))) := by rw [← h149]; exact gs_eq h133
  have h151 := (List.getElem?_set_ne (a := .int (-1)) (by decide : 20 ≠ 24)).trans h134
  have h152 := (List.getElem?_set_ne (a := .int (-1)) (by decide : 20 ≠ 25)).trans h135
  have h153 := (List.getElem?_set_ne (a := .int (-1)) (by decide : 20 ≠ 26)).trans h136
  have h154 := (List.getElem?_set_ne (a := .int (-1)) (by decide : 20 ≠ 27)).trans h137
  have h155 := (List.getElem?_set_ne (a := .int (-1)) (by decide : 20 ≠ 32)).trans h138
  have h156 := (List.getElem?_set_ne (a := .int (-1)) (by decide : 20 ≠ 35)).trans h139
  have h157 := (List.getElem?_set_ne (a := .int (-1)) (by decide : 20 ≠ 39)).trans h140
  have h158 := (List.getElem?_set_ne (a := .int (-1)) (by decide : 20 ≠ 41)).trans h141
  have h159 := (List.getElem?_set_ne (a := .int (-1)) (by decide : 20 ≠ 43)).trans h142
  have h160 := (List.getElem?_set_ne (a := .int (-1)) (by decide : 20 ≠ 44)).trans h143
  have h161 := (List.getElem?_set_ne (a := .int (-1)) (by decide : 20 ≠ 45)).trans h144
  have h162 := (List.getElem?_set_ne (a := .int (-1)) (by decide : 20 ≠ 46)).trans h145
  have h163 := (List.getElem?_set_ne (a := .int (-1)) (by decide : 20 ≠ 18)).trans h146
  have h164 : ((((((((((((((fs2.set 24 (.int 0)).set 25 (.int 0)).set 26 (.int 0)).set 27 (.int 0)).set 32 (.int 0)).set 35 (.int 0)).set 39 (.int 0)).set 41 (.int 0)).set 43 (.int 0)).set 44 (.int (-1))).set 45 (.int 0)).set 46 (.int 10000)).set 18 (.int 0)).set 20 (.int (-1)))[20]? = some (.int (-1)) := List.getElem?_set_self h147
  refine g_aload_n ok d_Mo_ask_72 rfl (j := 0) rfl ?_
  refine g_iconst (v := 0) ok d_Mo_ask_73 (by decide) ?_
  have h165 : 21 < (((((((((((((((fs2.set 24 (.int 0)).set 25 (.int 0)).set 26 (.int 0)).set 27 (.int 0)).set 32 (.int 0)).set 35 (.int 0)).set 39 (.int 0)).set 41 (.int 0)).set 43 (.int 0)).set 44 (.int (-1))).set 45 (.int 0)).set 46 (.int 10000)).set 18 (.int 0)).set 20 (.int (-1)))).length := by first | omega | (simp only [List.length_set]; omega)
  refine pf_Mo_281 ok d_Mo_ask_74 h150 h165 (fun _ => ⟨rfl, rfl⟩) ?_
  rw [h167]
  have h168 : M166[x0]? = some (.inr (10, (((((((((((((((fs2.set 24 (.int 0)).set 25 (.int 0)).set 26 (.int 0)).set 27 (.int 0)).set 32 (.int 0)).set 35 (.int 0)).set 39 (.int 0)).set 41 (.int 0)).set 43 (.int 0)).set 44 (.int (-1))).set 45 (.int 0)).set 46 (.int 10000)).set 18 (.int 0)).set 20 (.int (-1))).set 21 (.int 0)))) := by rw [← h167]; exact gs_eq h150
  have h169 := (List.getElem?_set_ne (a := .int 0) (by decide : 21 ≠ 24)).trans h151
  have h170 := (List.getElem?_set_ne (a := .int 0) (by decide : 21 ≠ 25)).trans h152
  have h171 := (List.getElem?_set_ne (a := .int 0) (by decide : 21 ≠ 26)).trans h153
  have h172 := (List.getElem?_set_ne (a := .int 0) (by decide : 21 ≠ 27)).trans h154
  have h173 := (List.getElem?_set_ne (a := .int 0) (by decide : 21 ≠ 32)).trans h155
  have h174 := (List.getElem?_set_ne (a := .int 0) (by decide : 21 ≠ 35)).trans h156
  have h175 := (List.getElem?_set_ne (a := .int 0) (by decide : 21 ≠ 39)).trans h157
  have h176 := (List.getElem?_set_ne (a := .int 0) (by decide : 21 ≠ 41)).trans h158
  have h177 := (List.getElem?_set_ne (a := .int 0) (by decide : 21 ≠ 43)).trans h159
  have h178 := (List.getElem?_set_ne (a := .int 0) (by decide : 21 ≠ 44)).trans h160
  have h179 := (List.getElem?_set_ne (a := .int 0) (by decide : 21 ≠ 45)).trans h161
  have h180 := (List.getElem?_set_ne (a := .int 0) (by decide : 21 ≠ 46)).trans h162
  have h181 := (List.getElem?_set_ne (a := .int 0) (by decide : 21 ≠ 18)).trans h163
  have h182 := (List.getElem?_set_ne (a := .int 0) (by decide : 21 ≠ 20)).trans h164
  have h183 : (((((((((((((((fs2.set 24 (.int 0)).set 25 (.int 0)).set 26 (.int 0)).set 27 (.int 0)).set 32 (.int 0)).set 35 (.int 0)).set 39 (.int 0)).set 41 (.int 0)).set 43 (.int 0)).set 44 (.int (-1))).set 45 (.int 0)).set 46 (.int 10000)).set 18 (.int 0)).set 20 (.int (-1))).set 21 (.int 0))[21]? = some (.int 0) := List.getElem?_set_self h165
  refine g_aload_n ok d_Mo_ask_77 rfl (j := 0) rfl ?_
  exact gc_Mo_226 (As := []) (rest := []) ok d_Mo_ask_78 hm rfl rfl (Nat.le_of_ble_eq_true rfl) hR h168 hlen kk
theorem k_Mo_ask_81 {X : gC} {M : List mC} {k n : Nat} {x0 : Nat} {fs2 : List Value} (ok : gO X c_Mo_ask "TripleStoreModel" w_Mo_ask) (h1 : M[x0]? = some (.inr (10, fs2))) {rm : Room} {post : Option Value → List mC → Prop} (hm : mm_ (gLa X) y_Mo_readQuery w_Mo_readQuery rm [.ref x0] M post) (hR : gF X rm 2 k n) (hlen : ∀ r M', post r M' → M'.length = M.length) (kk : ∀ r M', post r M' → gg X M' (k + rm.cells) (n + rm.slots) 85 [(0, .ref x0)] (r.toList ++ [])) : gg X M k n 81 [(0, .ref x0)] [] := by
  refine g_aload_n ok d_Mo_ask_81 rfl (j := 0) rfl ?_
  exact gc_Mo_361 (As := []) (rest := []) ok d_Mo_ask_82 hm rfl rfl (Nat.le_of_ble_eq_true rfl) hR h1 hlen kk
theorem k_Mo_ask_85 {X : gC} {M : List mC} {k n : Nat} {x0 : Nat} {fs2 : List Value} {M5 : List mC} {f9 : Int32} {M13 : List mC} (ok : gO X c_Mo_ask "TripleStoreModel" w_Mo_ask) (h1 : M[x0]? = some (.inr (10, fs2))) (h4 : 59 ≤ fs2.length) (h6 : M.set x0 (.inr (10, (fs2.set 13 (.int 0)))) = M5) (h10 : fs2[20]? = some (.int f9)) (h14 : M5.set x0 (.inr (10, ((fs2.set 13 (.int 0)).set 14 (.int f9)))) = M13) (kt : 0 ≤ f9 → gg X M13 k n 110 [(0, .ref x0)] [.ref x0]) (kf : ¬ 0 ≤ f9 → gg X M13 k n 106 [(0, .ref x0)] [.ref x0]) : gg X M k n 85 [(0, .ref x0)] [] := by
  refine g_aload_n ok d_Mo_ask_85 rfl (j := 0) rfl ?_
  refine g_iconst (v := 0) ok d_Mo_ask_86 (by decide) ?_
  have h3 : 13 < (fs2).length := by first | omega | (simp only [List.length_set]; omega)
  refine pf_Mo_161 ok d_Mo_ask_87 h1 h3 (fun _ => ⟨rfl, rfl⟩) ?_
  rw [h6]
  have h7 : M5[x0]? = some (.inr (10, (fs2.set 13 (.int 0)))) := by rw [← h6]; exact gs_eq h1
  have h8 : (fs2.set 13 (.int 0))[13]? = some (.int 0) := List.getElem?_set_self h3
  refine g_aload_n ok d_Mo_ask_90 rfl (j := 0) rfl ?_
  refine g_aload_n ok d_Mo_ask_91 rfl (j := 0) rfl ?_
  have h11 := (List.getElem?_set_ne (a := .int 0) (by decide : 13 ≠ 20)).trans h10
  refine gf_Mo_220 ok d_Mo_ask_92 h7 h11 ?_
  have h12 : 14 < ((fs2.set 13 (.int 0))).length := by first | omega | (simp only [List.length_set]; omega)
  refine pf_Mo_30 ok d_Mo_ask_95 h7 h12 (fun _ => ⟨rfl, rfl⟩) ?_
  rw [h14]
  have h15 : M13[x0]? = some (.inr (10, ((fs2.set 13 (.int 0)).set 14 (.int f9)))) := by rw [← h14]; exact gs_eq h7
  have h16 := (List.getElem?_set_ne (a := .int f9) (by decide : 14 ≠ 13)).trans h8
  have h17 := (List.getElem?_set_ne (a := .int f9) (by decide : 14 ≠ 20)).trans h11
  have h18 : ((fs2.set 13 (.int 0)).set 14 (.int f9))[14]? = some (.int f9) := List.getElem?_set_self h12
  refine g_aload_n ok d_Mo_ask_98 rfl (j := 0) rfl ?_
  refine g_aload_n ok d_Mo_ask_99 rfl (j := 0) rfl ?_
  refine gf_Mo_220 ok d_Mo_ask_100 h15 h17 ?_
  exact g_if_ge (tgt := 110) ok d_Mo_ask_103 (by decide) (fun z => (kt z)) (fun z => (kf z))
theorem k_Mo_ask_106 {X : gC} {M : List mC} {k n : Nat} {x0 : Nat} (ok : gO X c_Mo_ask "TripleStoreModel" w_Mo_ask)  (kk : gg X M k n 111 [(0, .ref x0)] [.int 1, .ref x0]) : gg X M k n 106 [(0, .ref x0)] [.ref x0] := by
  refine g_iconst (v := 1) ok d_Mo_ask_106 (by decide) ?_
  exact g_goto (tgt := 111) ok d_Mo_ask_107 (by decide) kk
theorem k_Mo_ask_110 {X : gC} {M : List mC} {k n : Nat} {x0 : Nat} (ok : gO X c_Mo_ask "TripleStoreModel" w_Mo_ask)  (kk : gg X M k n 111 [(0, .ref x0)] [.int 0, .ref x0]) : gg X M k n 110 [(0, .ref x0)] [.ref x0] := by
  refine g_iconst (v := 0) ok d_Mo_ask_110 (by decide) ?_
  exact kk
theorem k_Mo_ask_111 {X : gC} {M : List mC} {k n : Nat} {x0 : Nat} {s1 : Int32} {fs2 : List Value} (ok : gO X c_Mo_ask "TripleStoreModel" w_Mo_ask) (h1 : M[x0]? = some (.inr (10, fs2))) {rm : Room} {post : Option Value → List mC → Prop} (hm : mm_ (gLa X) y_Mo_good w_Mo_good rm [.ref x0, .int s1, .int 1] M post) (hR : gF X rm 3 k n) (hlen : ∀ r M', post r M' → M'.length = M.length) (kk : ∀ r M', post r M' → gg X M' (k + rm.cells) (n + rm.slots) 115 [(0, .ref x0)] (r.toList ++ [])) : gg X M k n 111 [(0, .ref x0)] [.int s1, .ref x0] := by
  refine g_iconst (v := 1) ok d_Mo_ask_111 (by decide) ?_
  exact gc_Mo_109 (As := [.int s1, .int 1]) (rest := []) ok d_Mo_ask_112 hm rfl rfl (Nat.le_of_ble_eq_true rfl) hR h1 hlen kk
theorem k_Mo_ask_115 {X : gC} {M : List mC} {k n : Nat} {x0 : Nat} {s0 : Int32} (ok : gO X c_Mo_ask "TripleStoreModel" w_Mo_ask)  (kt : ¬ s0 = 0 → gg X M k n 120 [(0, .ref x0)] []) (kf : s0 = 0 → gg X M k n 118 [] []) : gg X M k n 115 [(0, .ref x0)] [.int s0] := by
  exact g_if_ne (tgt := 120) ok d_Mo_ask_115 (by decide) (fun z => (kt z)) (fun z => (gg_keep [] (kf z)))
theorem k_Mo_ask_118 {X : gC} {M : List mC} {k n : Nat}  (ok : gO X c_Mo_ask "TripleStoreModel" w_Mo_ask)  {l9 : Launch} {rm : Room} {M0 : List mC} {post : Option Value → List mC → Prop} (E : gE X l9 y_Mo_ask rm 2 (some .int) M0 post) (hp : post (some (.int 0)) M) (hk : k ≤ rm.cells) (hn : n ≤ rm.slots) : gg X M k n 118 [] [] := by
  refine g_iconst (v := 0) ok d_Mo_ask_118 (by decide) ?_
  exact g_iret ok E d_Mo_ask_119 hp hk hn
theorem k_Mo_ask_120 {X : gC} {M : List mC} {k n : Nat} {x0 : Nat} (ok : gO X c_Mo_ask "TripleStoreModel" w_Mo_ask) (hl : gL X = 2)  (kk : gg X M k n 122 [(0, .ref x0), (1, .int 0)] []) : gg X M k n 120 [(0, .ref x0)] [] := by
  refine g_iconst (v := 0) ok d_Mo_ask_120 (by decide) ?_
  refine g_istore_n (L' := [(0, .ref x0), (1, .int 0)]) ok d_Mo_ask_121 rfl (by rw [hl]; decide) rfl ?_
  exact kk
theorem k_Mo_ask_122 {X : gC} {M : List mC} {k n : Nat} {x0 : Nat} {x1 : Int32} {fs2 : List Value} {f3 : Int32} (ok : gO X c_Mo_ask "TripleStoreModel" w_Mo_ask) (h1 : M[x0]? = some (.inr (10, fs2))) (h4 : fs2[41]? = some (.int f3)) (kt : f3 ≤ x1 → gg X M k n 148 [(0, .ref x0)] []) (kf : ¬ f3 ≤ x1 → gg X M k n 130 [(0, .ref x0), (1, .int x1)] []) : gg X M k n 122 [(0, .ref x0), (1, .int x1)] [] := by
  refine g_iload_n ok d_Mo_ask_122 rfl (j := 1) rfl ?_
  refine g_aload_n ok d_Mo_ask_123 rfl (j := 0) rfl ?_
  refine gf_Mo_296 ok d_Mo_ask_124 h1 h4 ?_
  exact g_icmp_ge (tgt := 148) ok d_Mo_ask_127 (by decide) (fun z => (gg_keep [0] (kt z))) (fun z => (kf z))
theorem k_Mo_ask_130 {X : gC} {M : List mC} {k n : Nat} {x0 : Nat} {x1 : Int32} {fs2 : List Value} {f3 : Nat} {f5 : Nat} {g8 : Nat → Int32} {N9 : Nat} {g12 : Nat → Int32} {N13 : Nat} {M15 : List mC} (ok : gO X c_Mo_ask "TripleStoreModel" w_Mo_ask) (hl : gL X = 2) (h1 : M[x0]? = some (.inr (10, fs2))) (h4 : fs2[56]? = some (.ref f3)) (h6 : fs2[40]? = some (.ref f5)) (h7 : M[f5]? = some (.inl (0, N9, .inl g8))) (h10 : vp_in x1 N9) (h11 : M[f3]? = some (.inl (0, N13, .inl g12))) (h14 : vp_in x1 N13) (h16 : M.set f3 (.inl (0, N13, .inl (upd g12 x1.toNatClampNeg (g8 x1.toNatClampNeg)))) = M15) (kk : gg X M15 k n 122 [(0, .ref x0), (1, .int (x1 + 1))] []) : gg X M k n 130 [(0, .ref x0), (1, .int x1)] [] := by
  refine g_aload_n ok d_Mo_ask_130 rfl (j := 0) rfl ?_
  refine gf_Mo_88 ok d_Mo_ask_131 h1 h4 ?_
  refine g_iload_n ok d_Mo_ask_134 rfl (j := 1) rfl ?_
  refine g_aload_n ok d_Mo_ask_135 rfl (j := 0) rfl ?_
  refine gf_Mo_64 ok d_Mo_ask_136 h1 h6 ?_
  refine g_iload_n ok d_Mo_ask_139 rfl (j := 1) rfl ?_
  refine g_iald (t := 0) ok rfl d_Mo_ask_140 h7 h10 ?_
  refine g_iast (t := 0) ok rfl d_Mo_ask_141 h11 h14 ?_
  rw [h16]
  have h17 : M15[f3]? = some (.inl (0, N13, .inl (upd g12 x1.toNatClampNeg (g8 x1.toNatClampNeg)))) := by rw [← h16]; exact gs_eq h11
  refine g_iinc (L' := [(0, .ref x0), (1, .int (x1 + 1))]) (v := (x1 + 1)) ok d_Mo_ask_142 (j := 1) rfl rfl (by rw [hl]; decide) rfl ?_
  exact g_goto (tgt := 122) ok d_Mo_ask_145 (by decide) kk
theorem k_Mo_ask_148 {X : gC} {M : List mC} {k n : Nat} {x0 : Nat} {fs2 : List Value} {f3 : Int32} {M7 : List mC} {M13 : List mC} {M20 : List mC} {M28 : List mC} (ok : gO X c_Mo_ask "TripleStoreModel" w_Mo_ask) (hl : gL X = 2) (h1 : M[x0]? = some (.inr (10, fs2))) (h4 : fs2[41]? = some (.int f3)) (h6 : 59 ≤ fs2.length) (h8 : M.set x0 (.inr (10, (fs2.set 57 (.int f3)))) = M7) (h14 : M7.set x0 (.inr (10, ((fs2.set 57 (.int f3)).set 55 (.int 0)))) = M13) (h21 : M13.set x0 (.inr (10, (((fs2.set 57 (.int f3)).set 55 (.int 0)).set 50 (.int 0)))) = M20) (h29 : M20.set x0 (.inr (10, ((((fs2.set 57 (.int f3)).set 55 (.int 0)).set 50 (.int 0)).set 51 (.int 0)))) = M28) (kk : gg X M28 k n 173 [(0, .ref x0), (1, .int 0)] []) : gg X M k n 148 [(0, .ref x0)] [] := by
  refine g_aload_n ok d_Mo_ask_148 rfl (j := 0) rfl ?_
  refine g_aload_n ok d_Mo_ask_149 rfl (j := 0) rfl ?_
  refine gf_Mo_296 ok d_Mo_ask_150 h1 h4 ?_
  have h5 : 57 < (fs2).length := by first | omega | (simp only [List.length_set]; omega)
  refine pf_Mo_364 ok d_Mo_ask_153 h1 h5 (fun _ => ⟨rfl, rfl⟩) ?_
  rw [h8]
  have h9 : M7[x0]? = some (.inr (10, (fs2.set 57 (.int f3)))) := by rw [← h8]; exact gs_eq h1
  have h10 := (List.getElem?_set_ne (a := .int f3) (by decide : 57 ≠ 41)).trans h4
  have h11 : (fs2.set 57 (.int f3))[57]? = some (.int f3) := List.getElem?_set_self h5
  refine g_aload_n ok d_Mo_ask_156 rfl (j := 0) rfl ?_
  refine g_iconst (v := 0) ok d_Mo_ask_157 (by decide) ?_
  have h12 : 55 < ((fs2.set 57 (.int f3))).length := by first | omega | (simp only [List.length_set]; omega)
  refine pf_Mo_358 ok d_Mo_ask_158 h9 h12 (fun _ => ⟨rfl, rfl⟩) ?_
  rw [h14]
  have h15 : M13[x0]? = some (.inr (10, ((fs2.set 57 (.int f3)).set 55 (.int 0)))) := by rw [← h14]; exact gs_eq h9
  have h16 := (List.getElem?_set_ne (a := .int 0) (by decide : 55 ≠ 41)).trans h10
  have h17 := (List.getElem?_set_ne (a := .int 0) (by decide : 55 ≠ 57)).trans h11
  have h18 : ((fs2.set 57 (.int f3)).set 55 (.int 0))[55]? = some (.int 0) := List.getElem?_set_self h12
  refine g_aload_n ok d_Mo_ask_161 rfl (j := 0) rfl ?_
  refine g_iconst (v := 0) ok d_Mo_ask_162 (by decide) ?_
  have h19 : 50 < (((fs2.set 57 (.int f3)).set 55 (.int 0))).length := by first | omega | (simp only [List.length_set]; omega)
  refine pf_Mo_318 ok d_Mo_ask_163 h15 h19 (fun _ => ⟨rfl, rfl⟩) ?_
  rw [h21]
  have h22 : M20[x0]? = some (.inr (10, (((fs2.set 57 (.int f3)).set 55 (.int 0)).set 50 (.int 0)))) := by rw [← h21]; exact gs_eq h15
  have h23 := (List.getElem?_set_ne (a := .int 0) (by decide : 50 ≠ 41)).trans h16
  have h24 := (List.getElem?_set_ne (a := .int 0) (by decide : 50 ≠ 57)).trans h17
  have h25 := (List.getElem?_set_ne (a := .int 0) (by decide : 50 ≠ 55)).trans h18
  have h26 : (((fs2.set 57 (.int f3)).set 55 (.int 0)).set 50 (.int 0))[50]? = some (.int 0) := List.getElem?_set_self h19
  refine g_aload_n ok d_Mo_ask_166 rfl (j := 0) rfl ?_
  refine g_iconst (v := 0) ok d_Mo_ask_167 (by decide) ?_
  have h27 : 51 < ((((fs2.set 57 (.int f3)).set 55 (.int 0)).set 50 (.int 0))).length := by first | omega | (simp only [List.length_set]; omega)
  refine pf_Mo_311 ok d_Mo_ask_168 h22 h27 (fun _ => ⟨rfl, rfl⟩) ?_
  rw [h29]
  have h30 : M28[x0]? = some (.inr (10, ((((fs2.set 57 (.int f3)).set 55 (.int 0)).set 50 (.int 0)).set 51 (.int 0)))) := by rw [← h29]; exact gs_eq h22
  have h31 := (List.getElem?_set_ne (a := .int 0) (by decide : 51 ≠ 41)).trans h23
  have h32 := (List.getElem?_set_ne (a := .int 0) (by decide : 51 ≠ 57)).trans h24
  have h33 := (List.getElem?_set_ne (a := .int 0) (by decide : 51 ≠ 55)).trans h25
  have h34 := (List.getElem?_set_ne (a := .int 0) (by decide : 51 ≠ 50)).trans h26
  have h35 : ((((fs2.set 57 (.int f3)).set 55 (.int 0)).set 50 (.int 0)).set 51 (.int 0))[51]? = some (.int 0) := List.getElem?_set_self h27
  refine g_iconst (v := 0) ok d_Mo_ask_171 (by decide) ?_
  refine g_istore_n (L' := [(0, .ref x0), (1, .int 0)]) ok d_Mo_ask_172 rfl (by rw [hl]; decide) rfl ?_
  exact kk
theorem k_Mo_ask_173 {X : gC} {M : List mC} {k n : Nat} {x0 : Nat} {x1 : Int32} {fs2 : List Value} {f3 : Int32} (ok : gO X c_Mo_ask "TripleStoreModel" w_Mo_ask) (h1 : M[x0]? = some (.inr (10, fs2))) (h4 : fs2[32]? = some (.int f3)) (kt : f3 ≤ x1 → gg X M k n 210 [(0, .ref x0)] []) (kf : ¬ f3 ≤ x1 → gg X M k n 181 [(0, .ref x0), (1, .int x1)] []) : gg X M k n 173 [(0, .ref x0), (1, .int x1)] [] := by
  refine g_iload_n ok d_Mo_ask_173 rfl (j := 1) rfl ?_
  refine g_aload_n ok d_Mo_ask_174 rfl (j := 0) rfl ?_
  refine gf_Mo_244 ok d_Mo_ask_175 h1 h4 ?_
  exact g_icmp_ge (tgt := 210) ok d_Mo_ask_178 (by decide) (fun z => (gg_keep [0] (kt z))) (fun z => (kf z))
theorem k_Mo_ask_181 {X : gC} {M : List mC} {k n : Nat} {x0 : Nat} {x1 : Int32} {fs2 : List Value} {f3 : Int32} (ok : gO X c_Mo_ask "TripleStoreModel" w_Mo_ask) (h1 : M[x0]? = some (.inr (10, fs2))) (h4 : fs2[51]? = some (.int f3)) (kt : ¬ f3 = 0 → gg X M k n 210 [(0, .ref x0)] []) (kf : f3 = 0 → gg X M k n 188 [(0, .ref x0), (1, .int x1)] []) : gg X M k n 181 [(0, .ref x0), (1, .int x1)] [] := by
  refine g_aload_n ok d_Mo_ask_181 rfl (j := 0) rfl ?_
  refine gf_Mo_311 ok d_Mo_ask_182 h1 h4 ?_
  exact g_if_ne (tgt := 210) ok d_Mo_ask_185 (by decide) (fun z => (gg_keep [0] (kt z))) (fun z => (kf z))
theorem k_Mo_ask_188 {X : gC} {M : List mC} {k n : Nat} {x0 : Nat} {x1 : Int32} {fs2 : List Value} {f3 : Nat} {g6 : Nat → Int32} {N7 : Nat} {f9 : Nat} {g12 : Nat → Int32} {N13 : Nat} (ok : gO X c_Mo_ask "TripleStoreModel" w_Mo_ask) (h1 : M[x0]? = some (.inr (10, fs2))) (h4 : fs2[30]? = some (.ref f3)) (h5 : M[f3]? = some (.inl (0, N7, .inl g6))) (h8 : vp_in x1 N7) (h10 : fs2[31]? = some (.ref f9)) (h11 : M[f9]? = some (.inl (0, N13, .inl g12))) (h14 : vp_in x1 N13) {rm : Room} {post : Option Value → List mC → Prop} (hm : mm_ (gLa X) y_Mo_work w_Mo_work rm [.ref x0, .int (g6 x1.toNatClampNeg), .int (g12 x1.toNatClampNeg)] M post) (hR : gF X rm 4 k n) (hlen : ∀ r M', post r M' → M'.length = M.length) (kk : ∀ r M', post r M' → gg X M' (k + rm.cells) (n + rm.slots) 204 [(0, .ref x0), (1, .int x1)] (r.toList ++ [])) : gg X M k n 188 [(0, .ref x0), (1, .int x1)] [] := by
  refine g_aload_n ok d_Mo_ask_188 rfl (j := 0) rfl ?_
  refine g_aload_n ok d_Mo_ask_189 rfl (j := 0) rfl ?_
  refine gf_Mo_43 ok d_Mo_ask_190 h1 h4 ?_
  refine g_iload_n ok d_Mo_ask_193 rfl (j := 1) rfl ?_
  refine g_iald (t := 0) ok rfl d_Mo_ask_194 h5 h8 ?_
  refine g_aload_n ok d_Mo_ask_195 rfl (j := 0) rfl ?_
  refine gf_Mo_46 ok d_Mo_ask_196 h1 h10 ?_
  refine g_iload_n ok d_Mo_ask_199 rfl (j := 1) rfl ?_
  refine g_iald (t := 0) ok rfl d_Mo_ask_200 h11 h14 ?_
  exact gc_Mo_367 (As := [.int (g6 x1.toNatClampNeg), .int (g12 x1.toNatClampNeg)]) (rest := []) ok d_Mo_ask_201 hm rfl rfl (Nat.le_of_ble_eq_true rfl) hR h1 hlen kk
theorem k_Mo_ask_204 {X : gC} {M : List mC} {k n : Nat} {x0 : Nat} {x1 : Int32} (ok : gO X c_Mo_ask "TripleStoreModel" w_Mo_ask) (hl : gL X = 2)  (kk : gg X M k n 173 [(0, .ref x0), (1, .int (x1 + 1))] []) : gg X M k n 204 [(0, .ref x0), (1, .int x1)] [] := by
  refine g_iinc (L' := [(0, .ref x0), (1, .int (x1 + 1))]) (v := (x1 + 1)) ok d_Mo_ask_204 (j := 1) rfl rfl (by rw [hl]; decide) rfl ?_
  exact g_goto (tgt := 173) ok d_Mo_ask_207 (by decide) kk
theorem k_Mo_ask_210 {X : gC} {M : List mC} {k n : Nat} {x0 : Nat} {fs2 : List Value} {f3 : Int32} (ok : gO X c_Mo_ask "TripleStoreModel" w_Mo_ask) (h1 : M[x0]? = some (.inr (10, fs2))) (h4 : fs2[51]? = some (.int f3)) (kt : ¬ f3 = 0 → gg X M k n 222 [(0, .ref x0)] [.ref x0]) (kf : f3 = 0 → gg X M k n 218 [(0, .ref x0)] [.ref x0]) : gg X M k n 210 [(0, .ref x0)] [] := by
  refine g_aload_n ok d_Mo_ask_210 rfl (j := 0) rfl ?_
  refine g_aload_n ok d_Mo_ask_211 rfl (j := 0) rfl ?_
  refine gf_Mo_311 ok d_Mo_ask_212 h1 h4 ?_
  exact g_if_ne (tgt := 222) ok d_Mo_ask_215 (by decide) (fun z => (kt z)) (fun z => (kf z))
theorem k_Mo_ask_218 {X : gC} {M : List mC} {k n : Nat} {x0 : Nat} (ok : gO X c_Mo_ask "TripleStoreModel" w_Mo_ask)  (kk : gg X M k n 223 [(0, .ref x0)] [.int 1, .ref x0]) : gg X M k n 218 [(0, .ref x0)] [.ref x0] := by
  refine g_iconst (v := 1) ok d_Mo_ask_218 (by decide) ?_
  exact g_goto (tgt := 223) ok d_Mo_ask_219 (by decide) kk
theorem k_Mo_ask_222 {X : gC} {M : List mC} {k n : Nat} {x0 : Nat} (ok : gO X c_Mo_ask "TripleStoreModel" w_Mo_ask)  (kk : gg X M k n 223 [(0, .ref x0)] [.int 0, .ref x0]) : gg X M k n 222 [(0, .ref x0)] [.ref x0] := by
  refine g_iconst (v := 0) ok d_Mo_ask_222 (by decide) ?_
  exact kk
theorem k_Mo_ask_223 {X : gC} {M : List mC} {k n : Nat} {x0 : Nat} {s1 : Int32} {fs2 : List Value} (ok : gO X c_Mo_ask "TripleStoreModel" w_Mo_ask) (h1 : M[x0]? = some (.inr (10, fs2))) {rm : Room} {post : Option Value → List mC → Prop} (hm : mm_ (gLa X) y_Mo_good w_Mo_good rm [.ref x0, .int s1, .int 2] M post) (hR : gF X rm 3 k n) (hlen : ∀ r M', post r M' → M'.length = M.length) (kk : ∀ r M', post r M' → gg X M' (k + rm.cells) (n + rm.slots) 227 [(0, .ref x0)] (r.toList ++ [])) : gg X M k n 223 [(0, .ref x0)] [.int s1, .ref x0] := by
  refine g_iconst (v := 2) ok d_Mo_ask_223 (by decide) ?_
  exact gc_Mo_109 (As := [.int s1, .int 2]) (rest := []) ok d_Mo_ask_224 hm rfl rfl (Nat.le_of_ble_eq_true rfl) hR h1 hlen kk
theorem k_Mo_ask_227 {X : gC} {M : List mC} {k n : Nat} {x0 : Nat} {s0 : Int32} (ok : gO X c_Mo_ask "TripleStoreModel" w_Mo_ask)  (kt : ¬ s0 = 0 → gg X M k n 232 [(0, .ref x0)] []) (kf : s0 = 0 → gg X M k n 230 [] []) : gg X M k n 227 [(0, .ref x0)] [.int s0] := by
  exact g_if_ne (tgt := 232) ok d_Mo_ask_227 (by decide) (fun z => (kt z)) (fun z => (gg_keep [] (kf z)))
theorem k_Mo_ask_230 {X : gC} {M : List mC} {k n : Nat}  (ok : gO X c_Mo_ask "TripleStoreModel" w_Mo_ask)  {l9 : Launch} {rm : Room} {M0 : List mC} {post : Option Value → List mC → Prop} (E : gE X l9 y_Mo_ask rm 2 (some .int) M0 post) (hp : post (some (.int 0)) M) (hk : k ≤ rm.cells) (hn : n ≤ rm.slots) : gg X M k n 230 [] [] := by
  refine g_iconst (v := 0) ok d_Mo_ask_230 (by decide) ?_
  exact g_iret ok E d_Mo_ask_231 hp hk hn
theorem k_Mo_ask_232 {X : gC} {M : List mC} {k n : Nat} {x0 : Nat} {fs2 : List Value} (ok : gO X c_Mo_ask "TripleStoreModel" w_Mo_ask) (h1 : M[x0]? = some (.inr (10, fs2))) {rm : Room} {post : Option Value → List mC → Prop} (hm : mm_ (gLa X) y_Mo_makeRows w_Mo_makeRows rm [.ref x0] M post) (hR : gF X rm 5 k n) (hlen : ∀ r M', post r M' → M'.length = M.length) (kk : ∀ r M', post r M' → gg X M' (k + rm.cells) (n + rm.slots) 236 [(0, .ref x0)] (r.toList ++ [])) : gg X M k n 232 [(0, .ref x0)] [] := by
  refine g_aload_n ok d_Mo_ask_232 rfl (j := 0) rfl ?_
  exact gc_Mo_370 (As := []) (rest := []) ok d_Mo_ask_233 hm rfl rfl (Nat.le_of_ble_eq_true rfl) hR h1 hlen kk
theorem k_Mo_ask_236 {X : gC} {M : List mC} {k n : Nat} {x0 : Nat} {fs2 : List Value} {f3 : Int32} (ok : gO X c_Mo_ask "TripleStoreModel" w_Mo_ask) (h1 : M[x0]? = some (.inr (10, fs2))) (h4 : fs2[55]? = some (.int f3)) {l9 : Launch} {rm : Room} {M0 : List mC} {post : Option Value → List mC → Prop} (E : gE X l9 y_Mo_ask rm 2 (some .int) M0 post) (hp : post (some (.int f3)) M) (hk : k ≤ rm.cells) (hn : n ≤ rm.slots) : gg X M k n 236 [(0, .ref x0)] [] := by
  refine g_aload_n ok d_Mo_ask_236 rfl (j := 0) rfl ?_
  refine gf_Mo_358 ok d_Mo_ask_237 h1 h4 ?_
  exact g_iret ok E d_Mo_ask_240 hp hk hn
theorem k_Mo_fault_0 {X : gC} {M : List mC} {k n : Nat} {x0 : Nat} {fs2 : List Value} {M5 : List mC} {f9 : Int32} (ok : gO X c_Mo_fault "TripleStoreModel" w_Mo_fault) (h1 : M[x0]? = some (.inr (10, fs2))) (h4 : 59 ≤ fs2.length) (h6 : M.set x0 (.inr (10, (fs2.set 58 (.int 0)))) = M5) (h10 : fs2[14]? = some (.int f9)) {l9 : Launch} {rm : Room} {M0 : List mC} {post : Option Value → List mC → Prop} (E : gE X l9 y_Mo_fault rm 1 (some .int) M0 post) (hp : post (some (.int f9)) M5) (hk : k ≤ rm.cells) (hn : n ≤ rm.slots) : gg X M k n 0 [(0, .ref x0)] [] := by
  refine g_aload_n ok d_Mo_fault_0 rfl (j := 0) rfl ?_
  refine g_iconst (v := 0) ok d_Mo_fault_1 (by decide) ?_
  have h3 : 58 < (fs2).length := by first | omega | (simp only [List.length_set]; omega)
  refine pf_Mo_91 ok d_Mo_fault_2 h1 h3 (fun _ => ⟨rfl, rfl⟩) ?_
  rw [h6]
  have h7 : M5[x0]? = some (.inr (10, (fs2.set 58 (.int 0)))) := by rw [← h6]; exact gs_eq h1
  have h8 : (fs2.set 58 (.int 0))[58]? = some (.int 0) := List.getElem?_set_self h3
  refine g_aload_n ok d_Mo_fault_5 rfl (j := 0) rfl ?_
  have h11 := (List.getElem?_set_ne (a := .int 0) (by decide : 58 ≠ 14)).trans h10
  refine gf_Mo_30 ok d_Mo_fault_6 h7 h11 ?_
  exact g_iret ok E d_Mo_fault_9 hp hk hn
theorem k_Mo_cell_0 {X : gC} {M : List mC} {k n : Nat} {x0 : Nat} {x1 : Int32} {x2 : Int32} {fs2 : List Value} {f3 : Int32} (ok : gO X c_Mo_cell "TripleStoreModel" w_Mo_cell) (h1 : M[x0]? = some (.inr (10, fs2))) (h4 : fs2[55]? = some (.int f3)) {rm : Room} {post : Option Value → List mC → Prop} (hm : mm_ (gLa X) y_Mo_in w_Mo_in rm [.int x1, .int 0, .int (f3 - 1)] M post) (hR : gF X rm 3 k n) (hlen : ∀ r M', post r M' → M'.length = M.length) (kk : ∀ r M', post r M' → gg X M' (k + rm.cells) (n + rm.slots) 12 [(0, .ref x0), (1, .int x1), (2, .int x2)] (r.toList ++ [.ref x0])) : gg X M k n 0 [(0, .ref x0), (1, .int x1), (2, .int x2)] [] := by
  refine g_aload_n ok d_Mo_cell_0 rfl (j := 0) rfl ?_
  refine g_iload_n ok d_Mo_cell_1 rfl (j := 1) rfl ?_
  refine g_iconst (v := 0) ok d_Mo_cell_2 (by decide) ?_
  refine g_aload_n ok d_Mo_cell_3 rfl (j := 0) rfl ?_
  refine gf_Mo_358 ok d_Mo_cell_4 h1 h4 ?_
  refine g_iconst (v := 1) ok d_Mo_cell_7 (by decide) ?_
  refine g_isub ok d_Mo_cell_8 ?_
  exact gc_Mo_94 (As := [.int x1, .int 0, .int (f3 - 1)]) (rest := [.ref x0]) ok d_Mo_cell_9 hm rfl rfl (Nat.le_of_ble_eq_true rfl) hR hlen kk
theorem k_Mo_cell_12 {X : gC} {M : List mC} {k n : Nat} {x0 : Nat} {x1 : Int32} {x2 : Int32} {s1 : Int32} (ok : gO X c_Mo_cell "TripleStoreModel" w_Mo_cell)  (kt : s1 = 0 → gg X M k n 33 [(0, .ref x0), (1, .int x1), (2, .int x2)] [.ref x0]) (kf : ¬ s1 = 0 → gg X M k n 15 [(0, .ref x0), (1, .int x1), (2, .int x2)] [.ref x0]) : gg X M k n 12 [(0, .ref x0), (1, .int x1), (2, .int x2)] [.int s1, .ref x0] := by
  exact g_if_eq (tgt := 33) ok d_Mo_cell_12 (by decide) (fun z => (kt z)) (fun z => (kf z))
theorem k_Mo_cell_15 {X : gC} {M : List mC} {k n : Nat} {x0 : Nat} {x1 : Int32} {x2 : Int32} {fs2 : List Value} {f3 : Int32} (ok : gO X c_Mo_cell "TripleStoreModel" w_Mo_cell) (h1 : M[x0]? = some (.inr (10, fs2))) (h4 : fs2[57]? = some (.int f3)) {rm : Room} {post : Option Value → List mC → Prop} (hm : mm_ (gLa X) y_Mo_in w_Mo_in rm [.int x2, .int 0, .int (f3 - 1)] M post) (hR : gF X rm 3 k n) (hlen : ∀ r M', post r M' → M'.length = M.length) (kk : ∀ r M', post r M' → gg X M' (k + rm.cells) (n + rm.slots) 26 [(0, .ref x0), (1, .int x1), (2, .int x2)] (r.toList ++ [.ref x0])) : gg X M k n 15 [(0, .ref x0), (1, .int x1), (2, .int x2)] [.ref x0] := by
  refine g_iload_n ok d_Mo_cell_15 rfl (j := 2) rfl ?_
  refine g_iconst (v := 0) ok d_Mo_cell_16 (by decide) ?_
  refine g_aload_n ok d_Mo_cell_17 rfl (j := 0) rfl ?_
  refine gf_Mo_364 ok d_Mo_cell_18 h1 h4 ?_
  refine g_iconst (v := 1) ok d_Mo_cell_21 (by decide) ?_
  refine g_isub ok d_Mo_cell_22 ?_
  exact gc_Mo_94 (As := [.int x2, .int 0, .int (f3 - 1)]) (rest := [.ref x0]) ok d_Mo_cell_23 hm rfl rfl (Nat.le_of_ble_eq_true rfl) hR hlen kk
theorem k_Mo_cell_26 {X : gC} {M : List mC} {k n : Nat} {x0 : Nat} {x1 : Int32} {x2 : Int32} {s1 : Int32} (ok : gO X c_Mo_cell "TripleStoreModel" w_Mo_cell)  (kt : s1 = 0 → gg X M k n 33 [(0, .ref x0), (1, .int x1), (2, .int x2)] [.ref x0]) (kf : ¬ s1 = 0 → gg X M k n 29 [(0, .ref x0), (1, .int x1), (2, .int x2)] [.ref x0]) : gg X M k n 26 [(0, .ref x0), (1, .int x1), (2, .int x2)] [.int s1, .ref x0] := by
  exact g_if_eq (tgt := 33) ok d_Mo_cell_26 (by decide) (fun z => (kt z)) (fun z => (kf z))
theorem k_Mo_cell_29 {X : gC} {M : List mC} {k n : Nat} {x0 : Nat} {x1 : Int32} {x2 : Int32} (ok : gO X c_Mo_cell "TripleStoreModel" w_Mo_cell)  (kk : gg X M k n 34 [(0, .ref x0), (1, .int x1), (2, .int x2)] [.int 1, .ref x0]) : gg X M k n 29 [(0, .ref x0), (1, .int x1), (2, .int x2)] [.ref x0] := by
  refine g_iconst (v := 1) ok d_Mo_cell_29 (by decide) ?_
  exact g_goto (tgt := 34) ok d_Mo_cell_30 (by decide) kk
theorem k_Mo_cell_33 {X : gC} {M : List mC} {k n : Nat} {x0 : Nat} {x1 : Int32} {x2 : Int32} (ok : gO X c_Mo_cell "TripleStoreModel" w_Mo_cell)  (kk : gg X M k n 34 [(0, .ref x0), (1, .int x1), (2, .int x2)] [.int 0, .ref x0]) : gg X M k n 33 [(0, .ref x0), (1, .int x1), (2, .int x2)] [.ref x0] := by
  refine g_iconst (v := 0) ok d_Mo_cell_33 (by decide) ?_
  exact kk
theorem k_Mo_cell_34 {X : gC} {M : List mC} {k n : Nat} {x0 : Nat} {x1 : Int32} {x2 : Int32} {s1 : Int32} {fs2 : List Value} (ok : gO X c_Mo_cell "TripleStoreModel" w_Mo_cell) (h1 : M[x0]? = some (.inr (10, fs2))) {rm : Room} {post : Option Value → List mC → Prop} (hm : mm_ (gLa X) y_Mo_good w_Mo_good rm [.ref x0, .int s1, .int 1] M post) (hR : gF X rm 3 k n) (hlen : ∀ r M', post r M' → M'.length = M.length) (kk : ∀ r M', post r M' → gg X M' (k + rm.cells) (n + rm.slots) 38 [(0, .ref x0), (1, .int x1), (2, .int x2)] (r.toList ++ [])) : gg X M k n 34 [(0, .ref x0), (1, .int x1), (2, .int x2)] [.int s1, .ref x0] := by
  refine g_iconst (v := 1) ok d_Mo_cell_34 (by decide) ?_
  exact gc_Mo_109 (As := [.int s1, .int 1]) (rest := []) ok d_Mo_cell_35 hm rfl rfl (Nat.le_of_ble_eq_true rfl) hR h1 hlen kk
theorem k_Mo_cell_38 {X : gC} {M : List mC} {k n : Nat} {x0 : Nat} {x1 : Int32} {x2 : Int32} {s0 : Int32} (ok : gO X c_Mo_cell "TripleStoreModel" w_Mo_cell)  (kt : ¬ s0 = 0 → gg X M k n 43 [(0, .ref x0), (1, .int x1), (2, .int x2)] []) (kf : s0 = 0 → gg X M k n 41 [] []) : gg X M k n 38 [(0, .ref x0), (1, .int x1), (2, .int x2)] [.int s0] := by
  exact g_if_ne (tgt := 43) ok d_Mo_cell_38 (by decide) (fun z => (kt z)) (fun z => (gg_keep [] (kf z)))
theorem k_Mo_cell_41 {X : gC} {M : List mC} {k n : Nat}  (ok : gO X c_Mo_cell "TripleStoreModel" w_Mo_cell)  {l9 : Launch} {rm : Room} {M0 : List mC} {post : Option Value → List mC → Prop} (E : gE X l9 y_Mo_cell rm 4 (some .long) M0 post) (hp : post (some (.long 0)) M) (hk : k ≤ rm.cells) (hn : n ≤ rm.slots) : gg X M k n 41 [] [] := by
  refine g_lconst (v := 0) ok d_Mo_cell_41 (by decide) ?_
  exact g_lret ok E d_Mo_cell_42 hp hk hn
theorem k_Mo_cell_43 {X : gC} {M : List mC} {k n : Nat} {x0 : Nat} {x1 : Int32} {x2 : Int32} {fs2 : List Value} {f3 : Nat} {g6 : Nat → Int32} {N7 : Nat} {f9 : Nat} {g12 : Nat → Int32} {N13 : Nat} (ok : gO X c_Mo_cell "TripleStoreModel" w_Mo_cell) (hl : gL X = 4) (h1 : M[x0]? = some (.inr (10, fs2))) (h4 : fs2[56]? = some (.ref f3)) (h5 : M[f3]? = some (.inl (0, N7, .inl g6))) (h8 : vp_in x2 N7) (h10 : fs2[53]? = some (.ref f9)) (h11 : M[f9]? = some (.inl (0, N13, .inl g12))) (h14 : vp_in x1 N13) (kt : ¬ (((g12 x1.toNatClampNeg) >>> ((g6 x2.toNatClampNeg) &&& 31)) &&& 1) = 1 → gg X M k n 69 [(0, .ref x0), (1, .int x1), (3, .int (g6 x2.toNatClampNeg))] [.ref x0]) (kf : (((g12 x1.toNatClampNeg) >>> ((g6 x2.toNatClampNeg) &&& 31)) &&& 1) = 1 → gg X M k n 65 [(0, .ref x0), (1, .int x1), (3, .int (g6 x2.toNatClampNeg))] [.ref x0]) : gg X M k n 43 [(0, .ref x0), (1, .int x1), (2, .int x2)] [] := by
  refine g_aload_n ok d_Mo_cell_43 rfl (j := 0) rfl ?_
  refine gf_Mo_88 ok d_Mo_cell_44 h1 h4 ?_
  refine g_iload_n ok d_Mo_cell_47 rfl (j := 2) rfl ?_
  refine g_iald (t := 0) ok rfl d_Mo_cell_48 h5 h8 ?_
  refine g_istore_n (L' := [(0, .ref x0), (1, .int x1), (2, .int x2), (3, .int (g6 x2.toNatClampNeg))]) ok d_Mo_cell_49 rfl (by rw [hl]; decide) rfl ?_
  refine g_aload_n ok d_Mo_cell_50 rfl (j := 0) rfl ?_
  refine g_aload_n ok d_Mo_cell_51 rfl (j := 0) rfl ?_
  refine gf_Mo_82 ok d_Mo_cell_52 h1 h10 ?_
  refine g_iload_n ok d_Mo_cell_55 rfl (j := 1) rfl ?_
  refine g_iald (t := 0) ok rfl d_Mo_cell_56 h11 h14 ?_
  refine g_iload_n ok d_Mo_cell_57 rfl (j := 3) rfl ?_
  refine g_ishr ok d_Mo_cell_58 ?_
  refine g_iconst (v := 1) ok d_Mo_cell_59 (by decide) ?_
  refine g_iand ok d_Mo_cell_60 ?_
  refine g_iconst (v := 1) ok d_Mo_cell_61 (by decide) ?_
  exact g_icmp_ne (tgt := 69) ok d_Mo_cell_62 (by decide) (fun z => (gg_keep [0, 1, 3] (kt z))) (fun z => (gg_keep [0, 1, 3] (kf z)))
theorem k_Mo_cell_65 {X : gC} {M : List mC} {k n : Nat} {x0 : Nat} {x1 : Int32} {x3 : Int32} (ok : gO X c_Mo_cell "TripleStoreModel" w_Mo_cell)  (kk : gg X M k n 70 [(0, .ref x0), (1, .int x1), (3, .int x3)] [.int 1, .ref x0]) : gg X M k n 65 [(0, .ref x0), (1, .int x1), (3, .int x3)] [.ref x0] := by
  refine g_iconst (v := 1) ok d_Mo_cell_65 (by decide) ?_
  exact g_goto (tgt := 70) ok d_Mo_cell_66 (by decide) kk
theorem k_Mo_cell_69 {X : gC} {M : List mC} {k n : Nat} {x0 : Nat} {x1 : Int32} {x3 : Int32} (ok : gO X c_Mo_cell "TripleStoreModel" w_Mo_cell)  (kk : gg X M k n 70 [(0, .ref x0), (1, .int x1), (3, .int x3)] [.int 0, .ref x0]) : gg X M k n 69 [(0, .ref x0), (1, .int x1), (3, .int x3)] [.ref x0] := by
  refine g_iconst (v := 0) ok d_Mo_cell_69 (by decide) ?_
  exact kk
theorem k_Mo_cell_70 {X : gC} {M : List mC} {k n : Nat} {x0 : Nat} {x1 : Int32} {x3 : Int32} {s1 : Int32} {fs2 : List Value} (ok : gO X c_Mo_cell "TripleStoreModel" w_Mo_cell) (h1 : M[x0]? = some (.inr (10, fs2))) {rm : Room} {post : Option Value → List mC → Prop} (hm : mm_ (gLa X) y_Mo_good w_Mo_good rm [.ref x0, .int s1, .int 2] M post) (hR : gF X rm 3 k n) (hlen : ∀ r M', post r M' → M'.length = M.length) (kk : ∀ r M', post r M' → gg X M' (k + rm.cells) (n + rm.slots) 74 [(0, .ref x0), (1, .int x1), (3, .int x3)] (r.toList ++ [])) : gg X M k n 70 [(0, .ref x0), (1, .int x1), (3, .int x3)] [.int s1, .ref x0] := by
  refine g_iconst (v := 2) ok d_Mo_cell_70 (by decide) ?_
  exact gc_Mo_109 (As := [.int s1, .int 2]) (rest := []) ok d_Mo_cell_71 hm rfl rfl (Nat.le_of_ble_eq_true rfl) hR h1 hlen kk
theorem k_Mo_cell_74 {X : gC} {M : List mC} {k n : Nat} {x0 : Nat} {x1 : Int32} {x3 : Int32} {s0 : Int32} (ok : gO X c_Mo_cell "TripleStoreModel" w_Mo_cell)  (kt : s0 = 0 → gg X M k n 91 [] []) (kf : ¬ s0 = 0 → gg X M k n 77 [(0, .ref x0), (1, .int x1), (3, .int x3)] []) : gg X M k n 74 [(0, .ref x0), (1, .int x1), (3, .int x3)] [.int s0] := by
  exact g_if_eq (tgt := 91) ok d_Mo_cell_74 (by decide) (fun z => (gg_keep [] (kt z))) (fun z => (kf z))
theorem k_Mo_cell_77 {X : gC} {M : List mC} {k n : Nat} {x0 : Nat} {x1 : Int32} {x3 : Int32} {fs2 : List Value} {f3 : Nat} {g6 : Nat → Int64} {N7 : Nat} (ok : gO X c_Mo_cell "TripleStoreModel" w_Mo_cell) (h1 : M[x0]? = some (.inr (10, fs2))) (h4 : fs2[52]? = some (.ref f3)) (h5 : M[f3]? = some (.inl (1, N7, .inr (.inl g6)))) (h8 : vp_in ((6 * x1) + x3) N7) (kk : gg X M k n 92 [] [.long (g6 ((6 * x1) + x3).toNatClampNeg)]) : gg X M k n 77 [(0, .ref x0), (1, .int x1), (3, .int x3)] [] := by
  refine g_aload_n ok d_Mo_cell_77 rfl (j := 0) rfl ?_
  refine gf_Mo_79 ok d_Mo_cell_78 h1 h4 ?_
  refine g_bipush (v := 6) ok d_Mo_cell_81 (by decide) ?_
  refine g_iload_n ok d_Mo_cell_83 rfl (j := 1) rfl ?_
  refine g_imul ok d_Mo_cell_84 ?_
  refine g_iload_n ok d_Mo_cell_85 rfl (j := 2) rfl ?_
  refine g_iadd ok d_Mo_cell_86 ?_
  refine g_lald (t := 1) ok rfl d_Mo_cell_87 h5 h8 ?_
  exact g_goto (tgt := 92) ok d_Mo_cell_88 (by decide) (gg_keep [] kk)
theorem k_Mo_cell_91 {X : gC} {M : List mC} {k n : Nat}  (ok : gO X c_Mo_cell "TripleStoreModel" w_Mo_cell)  (kk : gg X M k n 92 [] [.long 0]) : gg X M k n 91 [] [] := by
  refine g_lconst (v := 0) ok d_Mo_cell_91 (by decide) ?_
  exact kk
theorem k_Mo_cell_92 {X : gC} {M : List mC} {k n : Nat} {s0 : Int64} (ok : gO X c_Mo_cell "TripleStoreModel" w_Mo_cell)  {l9 : Launch} {rm : Room} {M0 : List mC} {post : Option Value → List mC → Prop} (E : gE X l9 y_Mo_cell rm 4 (some .long) M0 post) (hp : post (some (.long s0)) M) (hk : k ≤ rm.cells) (hn : n ≤ rm.slots) : gg X M k n 92 [] [.long s0] := by
  exact g_lret ok E d_Mo_cell_92 hp hk hn
theorem k_Mo_count_0 {X : gC} {M : List mC} {k n : Nat} {x0 : Nat} {x1 : Int32} (ok : gO X c_Mo_count "TripleStoreModel" w_Mo_count)  {rm : Room} {post : Option Value → List mC → Prop} (hm : mm_ (gLa X) y_Mo_in w_Mo_in rm [.int x1, .int 0, .int 6] M post) (hR : gF X rm 3 k n) (hlen : ∀ r M', post r M' → M'.length = M.length) (kk : ∀ r M', post r M' → gg X M' (k + rm.cells) (n + rm.slots) 8 [(0, .ref x0), (1, .int x1)] (r.toList ++ [.ref x0])) : gg X M k n 0 [(0, .ref x0), (1, .int x1)] [] := by
  refine g_aload_n ok d_Mo_count_0 rfl (j := 0) rfl ?_
  refine g_iload_n ok d_Mo_count_1 rfl (j := 1) rfl ?_
  refine g_iconst (v := 0) ok d_Mo_count_2 (by decide) ?_
  refine g_bipush (v := 6) ok d_Mo_count_3 (by decide) ?_
  exact gc_Mo_94 (As := [.int x1, .int 0, .int 6]) (rest := [.ref x0]) ok d_Mo_count_5 hm rfl rfl (Nat.le_of_ble_eq_true rfl) hR hlen kk
theorem k_Mo_count_8 {X : gC} {M : List mC} {k n : Nat} {x0 : Nat} {x1 : Int32} {s1 : Int32} {fs2 : List Value} (ok : gO X c_Mo_count "TripleStoreModel" w_Mo_count) (h1 : M[x0]? = some (.inr (10, fs2))) {rm : Room} {post : Option Value → List mC → Prop} (hm : mm_ (gLa X) y_Mo_good w_Mo_good rm [.ref x0, .int s1, .int 1] M post) (hR : gF X rm 3 k n) (hlen : ∀ r M', post r M' → M'.length = M.length) (kk : ∀ r M', post r M' → gg X M' (k + rm.cells) (n + rm.slots) 12 [(0, .ref x0), (1, .int x1)] (r.toList ++ [])) : gg X M k n 8 [(0, .ref x0), (1, .int x1)] [.int s1, .ref x0] := by
  refine g_iconst (v := 1) ok d_Mo_count_8 (by decide) ?_
  exact gc_Mo_109 (As := [.int s1, .int 1]) (rest := []) ok d_Mo_count_9 hm rfl rfl (Nat.le_of_ble_eq_true rfl) hR h1 hlen kk
theorem k_Mo_count_12 {X : gC} {M : List mC} {k n : Nat} {x0 : Nat} {x1 : Int32} {s0 : Int32} (ok : gO X c_Mo_count "TripleStoreModel" w_Mo_count)  (kt : ¬ s0 = 0 → gg X M k n 17 [(0, .ref x0), (1, .int x1)] []) (kf : s0 = 0 → gg X M k n 15 [] []) : gg X M k n 12 [(0, .ref x0), (1, .int x1)] [.int s0] := by
  exact g_if_ne (tgt := 17) ok d_Mo_count_12 (by decide) (fun z => (kt z)) (fun z => (gg_keep [] (kf z)))
theorem k_Mo_count_15 {X : gC} {M : List mC} {k n : Nat}  (ok : gO X c_Mo_count "TripleStoreModel" w_Mo_count)  {l9 : Launch} {rm : Room} {M0 : List mC} {post : Option Value → List mC → Prop} (E : gE X l9 y_Mo_count rm 2 (some .int) M0 post) (hp : post (some (.int 0)) M) (hk : k ≤ rm.cells) (hn : n ≤ rm.slots) : gg X M k n 15 [] [] := by
  refine g_iconst (v := 0) ok d_Mo_count_15 (by decide) ?_
  exact g_iret ok E d_Mo_count_16 hp hk hn
theorem k_Mo_count_17 {X : gC} {M : List mC} {k n : Nat} {x0 : Nat} {x1 : Int32} (ok : gO X c_Mo_count "TripleStoreModel" w_Mo_count)  (kt : 3 ≤ x1 → gg X M k n 50 [(0, .ref x0), (1, .int x1)] []) (kf : ¬ 3 ≤ x1 → gg X M k n 22 [(0, .ref x0), (1, .int x1)] []) : gg X M k n 17 [(0, .ref x0), (1, .int x1)] [] := by
  refine g_iload_n ok d_Mo_count_17 rfl (j := 1) rfl ?_
  refine g_iconst (v := 3) ok d_Mo_count_18 (by decide) ?_
  exact g_icmp_ge (tgt := 50) ok d_Mo_count_19 (by decide) (fun z => (kt z)) (fun z => (kf z))
theorem k_Mo_count_22 {X : gC} {M : List mC} {k n : Nat} {x0 : Nat} {x1 : Int32} (ok : gO X c_Mo_count "TripleStoreModel" w_Mo_count)  (kt : ¬ x1 = 0 → gg X M k n 33 [(0, .ref x0), (1, .int x1)] []) (kf : x1 = 0 → gg X M k n 26 [(0, .ref x0)] []) : gg X M k n 22 [(0, .ref x0), (1, .int x1)] [] := by
  refine g_iload_n ok d_Mo_count_22 rfl (j := 1) rfl ?_
  exact g_if_ne (tgt := 33) ok d_Mo_count_23 (by decide) (fun z => (kt z)) (fun z => (gg_keep [0] (kf z)))
theorem k_Mo_count_26 {X : gC} {M : List mC} {k n : Nat} {x0 : Nat} {fs2 : List Value} {f3 : Int32} (ok : gO X c_Mo_count "TripleStoreModel" w_Mo_count) (h1 : M[x0]? = some (.inr (10, fs2))) (h4 : fs2[1]? = some (.int f3)) (kk : gg X M k n 49 [] [.int f3]) : gg X M k n 26 [(0, .ref x0)] [] := by
  refine g_aload_n ok d_Mo_count_26 rfl (j := 0) rfl ?_
  refine gf_Mo_102 ok d_Mo_count_27 h1 h4 ?_
  exact g_goto (tgt := 49) ok d_Mo_count_30 (by decide) (gg_keep [] kk)
theorem k_Mo_count_33 {X : gC} {M : List mC} {k n : Nat} {x0 : Nat} {x1 : Int32} (ok : gO X c_Mo_count "TripleStoreModel" w_Mo_count)  (kt : ¬ x1 = 1 → gg X M k n 45 [(0, .ref x0)] []) (kf : x1 = 1 → gg X M k n 38 [(0, .ref x0)] []) : gg X M k n 33 [(0, .ref x0), (1, .int x1)] [] := by
  refine g_iload_n ok d_Mo_count_33 rfl (j := 1) rfl ?_
  refine g_iconst (v := 1) ok d_Mo_count_34 (by decide) ?_
  exact g_icmp_ne (tgt := 45) ok d_Mo_count_35 (by decide) (fun z => (gg_keep [0] (kt z))) (fun z => (gg_keep [0] (kf z)))
theorem k_Mo_count_38 {X : gC} {M : List mC} {k n : Nat} {x0 : Nat} {fs2 : List Value} {f3 : Int32} (ok : gO X c_Mo_count "TripleStoreModel" w_Mo_count) (h1 : M[x0]? = some (.inr (10, fs2))) (h4 : fs2[57]? = some (.int f3)) (kk : gg X M k n 49 [] [.int f3]) : gg X M k n 38 [(0, .ref x0)] [] := by
  refine g_aload_n ok d_Mo_count_38 rfl (j := 0) rfl ?_
  refine gf_Mo_364 ok d_Mo_count_39 h1 h4 ?_
  exact g_goto (tgt := 49) ok d_Mo_count_42 (by decide) (gg_keep [] kk)
theorem k_Mo_count_45 {X : gC} {M : List mC} {k n : Nat} {x0 : Nat} {fs2 : List Value} {f3 : Int32} (ok : gO X c_Mo_count "TripleStoreModel" w_Mo_count) (h1 : M[x0]? = some (.inr (10, fs2))) (h4 : fs2[55]? = some (.int f3)) (kk : gg X M k n 49 [] [.int f3]) : gg X M k n 45 [(0, .ref x0)] [] := by
  refine g_aload_n ok d_Mo_count_45 rfl (j := 0) rfl ?_
  refine gf_Mo_358 ok d_Mo_count_46 h1 h4 ?_
  exact (gg_keep [] kk)
theorem k_Mo_count_49 {X : gC} {M : List mC} {k n : Nat} {s0 : Int32} (ok : gO X c_Mo_count "TripleStoreModel" w_Mo_count)  {l9 : Launch} {rm : Room} {M0 : List mC} {post : Option Value → List mC → Prop} (E : gE X l9 y_Mo_count rm 2 (some .int) M0 post) (hp : post (some (.int s0)) M) (hk : k ≤ rm.cells) (hn : n ≤ rm.slots) : gg X M k n 49 [] [.int s0] := by
  exact g_iret ok E d_Mo_count_49 hp hk hn
theorem k_Mo_count_50 {X : gC} {M : List mC} {k n : Nat} {x0 : Nat} {x1 : Int32} (ok : gO X c_Mo_count "TripleStoreModel" w_Mo_count)  (kt : ¬ x1 = 3 → gg X M k n 62 [(0, .ref x0), (1, .int x1)] []) (kf : x1 = 3 → gg X M k n 55 [(0, .ref x0)] []) : gg X M k n 50 [(0, .ref x0), (1, .int x1)] [] := by
  refine g_iload_n ok d_Mo_count_50 rfl (j := 1) rfl ?_
  refine g_iconst (v := 3) ok d_Mo_count_51 (by decide) ?_
  exact g_icmp_ne (tgt := 62) ok d_Mo_count_52 (by decide) (fun z => (kt z)) (fun z => (gg_keep [0] (kf z)))
theorem k_Mo_count_55 {X : gC} {M : List mC} {k n : Nat} {x0 : Nat} {fs2 : List Value} {f3 : Int32} (ok : gO X c_Mo_count "TripleStoreModel" w_Mo_count) (h1 : M[x0]? = some (.inr (10, fs2))) (h4 : fs2[8]? = some (.int f3)) (kk : gg X M k n 106 [] [.int f3]) : gg X M k n 55 [(0, .ref x0)] [] := by
  refine g_aload_n ok d_Mo_count_55 rfl (j := 0) rfl ?_
  refine gf_Mo_130 ok d_Mo_count_56 h1 h4 ?_
  exact g_goto (tgt := 106) ok d_Mo_count_59 (by decide) (gg_keep [] kk)
theorem k_Mo_count_62 {X : gC} {M : List mC} {k n : Nat} {x0 : Nat} {x1 : Int32} (ok : gO X c_Mo_count "TripleStoreModel" w_Mo_count)  (kt : ¬ x1 = 4 → gg X M k n 74 [(0, .ref x0), (1, .int x1)] []) (kf : x1 = 4 → gg X M k n 67 [(0, .ref x0)] []) : gg X M k n 62 [(0, .ref x0), (1, .int x1)] [] := by
  refine g_iload_n ok d_Mo_count_62 rfl (j := 1) rfl ?_
  refine g_iconst (v := 4) ok d_Mo_count_63 (by decide) ?_
  exact g_icmp_ne (tgt := 74) ok d_Mo_count_64 (by decide) (fun z => (kt z)) (fun z => (gg_keep [0] (kf z)))
theorem k_Mo_count_67 {X : gC} {M : List mC} {k n : Nat} {x0 : Nat} {fs2 : List Value} {f3 : Int32} (ok : gO X c_Mo_count "TripleStoreModel" w_Mo_count) (h1 : M[x0]? = some (.inr (10, fs2))) (h4 : fs2[9]? = some (.int f3)) (kk : gg X M k n 106 [] [.int f3]) : gg X M k n 67 [(0, .ref x0)] [] := by
  refine g_aload_n ok d_Mo_count_67 rfl (j := 0) rfl ?_
  refine gf_Mo_120 ok d_Mo_count_68 h1 h4 ?_
  exact g_goto (tgt := 106) ok d_Mo_count_71 (by decide) (gg_keep [] kk)
theorem k_Mo_count_74 {X : gC} {M : List mC} {k n : Nat} {x0 : Nat} {x1 : Int32} (ok : gO X c_Mo_count "TripleStoreModel" w_Mo_count)  (kt : ¬ x1 = 5 → gg X M k n 102 [(0, .ref x0)] []) (kf : x1 = 5 → gg X M k n 79 [(0, .ref x0)] []) : gg X M k n 74 [(0, .ref x0), (1, .int x1)] [] := by
  refine g_iload_n ok d_Mo_count_74 rfl (j := 1) rfl ?_
  refine g_iconst (v := 5) ok d_Mo_count_75 (by decide) ?_
  exact g_icmp_ne (tgt := 102) ok d_Mo_count_76 (by decide) (fun z => (gg_keep [0] (kt z))) (fun z => (gg_keep [0] (kf z)))
theorem k_Mo_count_79 {X : gC} {M : List mC} {k n : Nat} {x0 : Nat} {fs2 : List Value} {f3 : Int32} (ok : gO X c_Mo_count "TripleStoreModel" w_Mo_count) (h1 : M[x0]? = some (.inr (10, fs2))) (h4 : fs2[10]? = some (.int f3)) (kt : f3 = 0 → gg X M k n 98 [] []) (kf : ¬ f3 = 0 → gg X M k n 86 [(0, .ref x0)] []) : gg X M k n 79 [(0, .ref x0)] [] := by
  refine g_aload_n ok d_Mo_count_79 rfl (j := 0) rfl ?_
  refine gf_Mo_123 ok d_Mo_count_80 h1 h4 ?_
  exact g_if_eq (tgt := 98) ok d_Mo_count_83 (by decide) (fun z => (gg_keep [] (kt z))) (fun z => (kf z))
theorem k_Mo_count_86 {X : gC} {M : List mC} {k n : Nat} {x0 : Nat} {fs2 : List Value} {f3 : Int32} {f5 : Int32} (ok : gO X c_Mo_count "TripleStoreModel" w_Mo_count) (h1 : M[x0]? = some (.inr (10, fs2))) (h4 : fs2[7]? = some (.int f3)) (h6 : fs2[11]? = some (.int f5)) (kk : gg X M k n 106 [] [.int (f3 - f5)]) : gg X M k n 86 [(0, .ref x0)] [] := by
  refine g_aload_n ok d_Mo_count_86 rfl (j := 0) rfl ?_
  refine gf_Mo_117 ok d_Mo_count_87 h1 h4 ?_
  refine g_aload_n ok d_Mo_count_90 rfl (j := 0) rfl ?_
  refine gf_Mo_148 ok d_Mo_count_91 h1 h6 ?_
  refine g_isub ok d_Mo_count_94 ?_
  exact g_goto (tgt := 106) ok d_Mo_count_95 (by decide) (gg_keep [] kk)
theorem k_Mo_count_98 {X : gC} {M : List mC} {k n : Nat}  (ok : gO X c_Mo_count "TripleStoreModel" w_Mo_count)  (kk : gg X M k n 106 [] [.int 0]) : gg X M k n 98 [] [] := by
  refine g_iconst (v := 0) ok d_Mo_count_98 (by decide) ?_
  exact g_goto (tgt := 106) ok d_Mo_count_99 (by decide) kk
theorem k_Mo_count_102 {X : gC} {M : List mC} {k n : Nat} {x0 : Nat} {fs2 : List Value} {f3 : Int32} (ok : gO X c_Mo_count "TripleStoreModel" w_Mo_count) (h1 : M[x0]? = some (.inr (10, fs2))) (h4 : fs2[13]? = some (.int f3)) (kk : gg X M k n 106 [] [.int f3]) : gg X M k n 102 [(0, .ref x0)] [] := by
  refine g_aload_n ok d_Mo_count_102 rfl (j := 0) rfl ?_
  refine gf_Mo_161 ok d_Mo_count_103 h1 h4 ?_
  exact (gg_keep [] kk)
theorem k_Mo_count_106 {X : gC} {M : List mC} {k n : Nat} {s0 : Int32} (ok : gO X c_Mo_count "TripleStoreModel" w_Mo_count)  {l9 : Launch} {rm : Room} {M0 : List mC} {post : Option Value → List mC → Prop} (E : gE X l9 y_Mo_count rm 2 (some .int) M0 post) (hp : post (some (.int s0)) M) (hk : k ≤ rm.cells) (hn : n ≤ rm.slots) : gg X M k n 106 [] [.int s0] := by
  exact g_iret ok E d_Mo_count_106 hp hk hn

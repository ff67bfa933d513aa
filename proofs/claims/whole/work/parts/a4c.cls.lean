/-! THE CONSTRUCTOR of the class: its walk (tools/gen11.py) -/
theorem ciX11 (aw : Nat → Nat) (l : Launch) (D : va_G) (c : Nat → ClassId) : Ci l D c yX11_init (WS yX11_init cX11_init 2 none) rmX11_init [] 10 [.null, .null, .null, .null, .null, .null, .null, .int 0, .int 0, .null, .null, .null, .null, .int 0, .int 0, .long 0] (fun q => wld (YI c D aw q) 474 C0m) := by
  refine ci_of (own := RX11) (by decide) rfl rfl (fun _ => Nat.le_of_ble_eq_true rfl) (fun E h0 hE hD hc hl hQ hA => ?_)
  subst hD; subst hc; subst hl
  refine wv_aload_n hE 0 rfl dX11_init_0 ?_
  refine wv_obj hE (lw_TG 29 (by decide +kernel) (by decide +kernel)) ⟨rfl, rfl⟩ dX11_init_1 ?_
  refine wv_aload_n hE 0 rfl dX11_init_4 ?_
  refine wv_new hE nk_X11_7 rfl rfl dX11_init_5 (fun q1 => ?_)
  show Wv E 8 [(0, .ref h0)] [.ref q1, .ref h0] 1 20 ([(h0, .inr (10, [.null, .null, .null, .null, .null, .null, .null, .int 0, .int 0, .null, .null, .null, .null, .int 0, .int 0, .long 0]))] ++ [(q1, .inr (2, [.int 0, .int 0, .int 0, .int 0, .int 0, .int 0, .int 0, .int 0, .int 0, .int 0, .int 0, .int 0, .null, .null, .null, .null, .null, .null, .null, .null]))])
  refine wv_dup hE rfl dX11_init_8 ?_
  refine wv_init (cs := 1) (sl := 20) hE ([(h0, .inr (10, [.null, .null, .null, .null, .null, .null, .null, .int 0, .int 0, .null, .null, .null, .null, .int 0, .int 0, .long 0]))]) (ciX2 E.l E.Y.D E.Y.c) ik_X11_9 (rest := [.ref q1, .ref h0]) rfl rfl ⟨rfl, rfl⟩ rfl rfl rfl dX11_init_9 (fun r1 hr1 => ?_)
  subst hr1
  show Wv E 12 [(0, .ref h0)] [.ref (r1 0), .ref h0] 9 188 ([(h0, .inr (10, [.null, .null, .null, .null, .null, .null, .null, .int 0, .int 0, .null, .null, .null, .null, .int 0, .int 0, .long 0]))] ++ blkX2 E.Y.c r1)
  refine wv_put hE 0 fg_X11_10 rfl rfl rfl rfl dX11_init_12 fk_X11_10 ?_
  show Wv E 15 [(0, .ref h0)] [] 9 188 ([(h0, .inr (10, [.ref (r1 0), .null, .null, .null, .null, .null, .null, .int 0, .int 0, .null, .null, .null, .null, .int 0, .int 0, .long 0]))] ++ blkX2 E.Y.c r1)
  refine wv_aload_n hE 0 rfl dX11_init_15 ?_
  refine wv_new hE nk_X11_7 rfl rfl dX11_init_16 (fun q2 => ?_)
  show Wv E 19 [(0, .ref h0)] [.ref q2, .ref h0] 10 208 ([(h0, .inr (10, [.ref (r1 0), .null, .null, .null, .null, .null, .null, .int 0, .int 0, .null, .null, .null, .null, .int 0, .int 0, .long 0]))] ++ blkX2 E.Y.c r1 ++ [(q2, .inr (2, [.int 0, .int 0, .int 0, .int 0, .int 0, .int 0, .int 0, .int 0, .int 0, .int 0, .int 0, .int 0, .null, .null, .null, .null, .null, .null, .null, .null]))])
  refine wv_dup hE rfl dX11_init_19 ?_
  refine wv_init (cs := 10) (sl := 208) hE ([(h0, .inr (10, [.ref (r1 0), .null, .null, .null, .null, .null, .null, .int 0, .int 0, .null, .null, .null, .null, .int 0, .int 0, .long 0]))] ++ blkX2 E.Y.c r1) (ciX2 E.l E.Y.D E.Y.c) ik_X11_9 (rest := [.ref q2, .ref h0]) rfl rfl ⟨rfl, rfl⟩ rfl rfl rfl dX11_init_20 (fun r2 hr2 => ?_)
  subst hr2
  show Wv E 23 [(0, .ref h0)] [.ref (r2 0), .ref h0] 18 376 ([(h0, .inr (10, [.ref (r1 0), .null, .null, .null, .null, .null, .null, .int 0, .int 0, .null, .null, .null, .null, .int 0, .int 0, .long 0]))] ++ blkX2 E.Y.c r1 ++ blkX2 E.Y.c r2)
  refine wv_put hE 0 fg_X11_16 rfl rfl rfl rfl dX11_init_23 fk_X11_16 ?_
  show Wv E 26 [(0, .ref h0)] [] 18 376 ([(h0, .inr (10, [.ref (r1 0), .ref (r2 0), .null, .null, .null, .null, .null, .int 0, .int 0, .null, .null, .null, .null, .int 0, .int 0, .long 0]))] ++ blkX2 E.Y.c r1 ++ blkX2 E.Y.c r2)
  refine wv_aload_n hE 0 rfl dX11_init_26 ?_
  refine wv_new hE nk_X11_19 rfl rfl dX11_init_27 (fun q3 => ?_)
  show Wv E 30 [(0, .ref h0)] [.ref q3, .ref h0] 19 378 ([(h0, .inr (10, [.ref (r1 0), .ref (r2 0), .null, .null, .null, .null, .null, .int 0, .int 0, .null, .null, .null, .null, .int 0, .int 0, .long 0]))] ++ blkX2 E.Y.c r1 ++ blkX2 E.Y.c r2 ++ [(q3, .inr (9, [.null, .int 0]))])
  refine wv_dup hE rfl dX11_init_30 ?_
  refine wv_init (cs := 19) (sl := 378) hE ([(h0, .inr (10, [.ref (r1 0), .ref (r2 0), .null, .null, .null, .null, .null, .int 0, .int 0, .null, .null, .null, .null, .int 0, .int 0, .long 0]))] ++ blkX2 E.Y.c r1 ++ blkX2 E.Y.c r2) (ciX9 E.l E.Y.D E.Y.c) ik_X11_21 (rest := [.ref q3, .ref h0]) rfl rfl ⟨rfl, rfl⟩ rfl rfl rfl dX11_init_31 (fun r3 hr3 => ?_)
  subst hr3
  show Wv E 34 [(0, .ref h0)] [.ref (r3 0), .ref h0] 20 1978 ([(h0, .inr (10, [.ref (r1 0), .ref (r2 0), .null, .null, .null, .null, .null, .int 0, .int 0, .null, .null, .null, .null, .int 0, .int 0, .long 0]))] ++ blkX2 E.Y.c r1 ++ blkX2 E.Y.c r2 ++ blkX9 E.Y.c r3)
  refine wv_putF hE 0 ff_X11_22 rfl rfl rfl rfl dX11_init_34 ?_
  show Wv E 37 [(0, .ref h0)] [] 20 1978 ([(h0, .inr (10, [.ref (r1 0), .ref (r2 0), .ref (r3 0), .null, .null, .null, .null, .int 0, .int 0, .null, .null, .null, .null, .int 0, .int 0, .long 0]))] ++ blkX2 E.Y.c r1 ++ blkX2 E.Y.c r2 ++ blkX9 E.Y.c r3)
  refine wv_aload_n hE 0 rfl dX11_init_37 ?_
  refine wv_new hE nk_X11_26 rfl rfl dX11_init_38 (fun q4 => ?_)
  show Wv E 41 [(0, .ref h0)] [.ref q4, .ref h0] 21 1988 ([(h0, .inr (10, [.ref (r1 0), .ref (r2 0), .ref (r3 0), .null, .null, .null, .null, .int 0, .int 0, .null, .null, .null, .null, .int 0, .int 0, .long 0]))] ++ blkX2 E.Y.c r1 ++ blkX2 E.Y.c r2 ++ blkX9 E.Y.c r3 ++ [(q4, .inr (5, [.null, .null, .null, .null, .null, .null, .int 0, .int 0, .int 0, .int 0]))])
  refine wv_dup hE rfl dX11_init_41 ?_
  refine wv_aload_n hE 0 rfl dX11_init_42 ?_
  refine wv_get hE 0 fg_X11_22 fk_X11_22 rfl rfl dX11_init_43 ?_
  refine wv_aload_n hE 0 rfl dX11_init_46 ?_
  refine wv_get hE 0 fg_X11_16 fk_X11_16 rfl rfl dX11_init_47 ?_
  refine wv_init (cs := 21) (sl := 1988) hE ([(h0, .inr (10, [.ref (r1 0), .ref (r2 0), .ref (r3 0), .null, .null, .null, .null, .int 0, .int 0, .null, .null, .null, .null, .int 0, .int 0, .long 0]))] ++ blkX2 E.Y.c r1 ++ blkX2 E.Y.c r2 ++ blkX9 E.Y.c r3) (ciX5 E.l E.Y.D E.Y.c ((r3 0)) ((r2 0))) ik_X11_28 (rest := [.ref q4, .ref h0]) rfl rfl ⟨rfl, rfl⟩ rfl rfl rfl dX11_init_50 (fun r4 hr4 => ?_)
  subst hr4
  show Wv E 53 [(0, .ref h0)] [.ref (r4 0), .ref h0] 25 8392 ([(h0, .inr (10, [.ref (r1 0), .ref (r2 0), .ref (r3 0), .null, .null, .null, .null, .int 0, .int 0, .null, .null, .null, .null, .int 0, .int 0, .long 0]))] ++ blkX2 E.Y.c r1 ++ blkX2 E.Y.c r2 ++ blkX9 E.Y.c r3 ++ blkX5 E.Y.c ((r3 0)) ((r2 0)) r4)
  refine wv_putF hE 0 ff_X11_31 rfl rfl rfl rfl dX11_init_53 ?_
  show Wv E 56 [(0, .ref h0)] [] 25 8392 ([(h0, .inr (10, [.ref (r1 0), .ref (r2 0), .ref (r3 0), .ref (r4 0), .null, .null, .null, .int 0, .int 0, .null, .null, .null, .null, .int 0, .int 0, .long 0]))] ++ blkX2 E.Y.c r1 ++ blkX2 E.Y.c r2 ++ blkX9 E.Y.c r3 ++ blkX5 E.Y.c ((r3 0)) ((r2 0)) r4)
  refine wv_aload_n hE 0 rfl dX11_init_56 ?_
  refine wv_new hE nk_X11_35 rfl rfl dX11_init_57 (fun q5 => ?_)
  show Wv E 60 [(0, .ref h0)] [.ref q5, .ref h0] 26 8412 ([(h0, .inr (10, [.ref (r1 0), .ref (r2 0), .ref (r3 0), .ref (r4 0), .null, .null, .null, .int 0, .int 0, .null, .null, .null, .null, .int 0, .int 0, .long 0]))] ++ blkX2 E.Y.c r1 ++ blkX2 E.Y.c r2 ++ blkX9 E.Y.c r3 ++ blkX5 E.Y.c ((r3 0)) ((r2 0)) r4 ++ [(q5, .inr (8, [.null, .null, .null, .null, .null, .null, .int 0, .int 0, .float FP.fconst0, .float FP.fconst0, .int 0, .int 0, .int 0, .int 0, .int 0, .int 0, .int 0, .int 0, .int 0, .int 0]))])
  refine wv_dup hE rfl dX11_init_60 ?_
  refine wv_aload_n hE 0 rfl dX11_init_61 ?_
  refine wv_get hE 0 fg_X11_10 fk_X11_10 rfl rfl dX11_init_62 ?_
  refine wv_init (cs := 26) (sl := 8412) hE ([(h0, .inr (10, [.ref (r1 0), .ref (r2 0), .ref (r3 0), .ref (r4 0), .null, .null, .null, .int 0, .int 0, .null, .null, .null, .null, .int 0, .int 0, .long 0]))] ++ blkX2 E.Y.c r1 ++ blkX2 E.Y.c r2 ++ blkX9 E.Y.c r3 ++ blkX5 E.Y.c ((r3 0)) ((r2 0)) r4) (ciX8 E.l E.Y.D E.Y.c ((r1 0))) ik_X11_37 (rest := [.ref q5, .ref h0]) rfl rfl ⟨rfl, rfl⟩ rfl rfl rfl dX11_init_65 (fun r5 hr5 => ?_)
  subst hr5
  show Wv E 68 [(0, .ref h0)] [.ref (r5 0), .ref h0] 45 9056 ([(h0, .inr (10, [.ref (r1 0), .ref (r2 0), .ref (r3 0), .ref (r4 0), .null, .null, .null, .int 0, .int 0, .null, .null, .null, .null, .int 0, .int 0, .long 0]))] ++ blkX2 E.Y.c r1 ++ blkX2 E.Y.c r2 ++ blkX9 E.Y.c r3 ++ blkX5 E.Y.c ((r3 0)) ((r2 0)) r4 ++ blkX8 E.Y.c ((r1 0)) r5)
  refine wv_putF hE 0 ff_X11_40 rfl rfl rfl rfl dX11_init_68 ?_
  show Wv E 71 [(0, .ref h0)] [] 45 9056 ([(h0, .inr (10, [.ref (r1 0), .ref (r2 0), .ref (r3 0), .ref (r4 0), .ref (r5 0), .null, .null, .int 0, .int 0, .null, .null, .null, .null, .int 0, .int 0, .long 0]))] ++ blkX2 E.Y.c r1 ++ blkX2 E.Y.c r2 ++ blkX9 E.Y.c r3 ++ blkX5 E.Y.c ((r3 0)) ((r2 0)) r4 ++ blkX8 E.Y.c ((r1 0)) r5)
  refine wv_aload_n hE 0 rfl dX11_init_71 ?_
  refine wv_new hE nk_X11_35 rfl rfl dX11_init_72 (fun q6 => ?_)
  show Wv E 75 [(0, .ref h0)] [.ref q6, .ref h0] 46 9076 ([(h0, .inr (10, [.ref (r1 0), .ref (r2 0), .ref (r3 0), .ref (r4 0), .ref (r5 0), .null, .null, .int 0, .int 0, .null, .null, .null, .null, .int 0, .int 0, .long 0]))] ++ blkX2 E.Y.c r1 ++ blkX2 E.Y.c r2 ++ blkX9 E.Y.c r3 ++ blkX5 E.Y.c ((r3 0)) ((r2 0)) r4 ++ blkX8 E.Y.c ((r1 0)) r5 ++ [(q6, .inr (8, [.null, .null, .null, .null, .null, .null, .int 0, .int 0, .float FP.fconst0, .float FP.fconst0, .int 0, .int 0, .int 0, .int 0, .int 0, .int 0, .int 0, .int 0, .int 0, .int 0]))])
  refine wv_dup hE rfl dX11_init_75 ?_
  refine wv_aload_n hE 0 rfl dX11_init_76 ?_
  refine wv_get hE 0 fg_X11_10 fk_X11_10 rfl rfl dX11_init_77 ?_
  refine wv_init (cs := 46) (sl := 9076) hE ([(h0, .inr (10, [.ref (r1 0), .ref (r2 0), .ref (r3 0), .ref (r4 0), .ref (r5 0), .null, .null, .int 0, .int 0, .null, .null, .null, .null, .int 0, .int 0, .long 0]))] ++ blkX2 E.Y.c r1 ++ blkX2 E.Y.c r2 ++ blkX9 E.Y.c r3 ++ blkX5 E.Y.c ((r3 0)) ((r2 0)) r4 ++ blkX8 E.Y.c ((r1 0)) r5) (ciX8 E.l E.Y.D E.Y.c ((r1 0))) ik_X11_37 (rest := [.ref q6, .ref h0]) rfl rfl ⟨rfl, rfl⟩ rfl rfl rfl dX11_init_80 (fun r6 hr6 => ?_)
  subst hr6
  show Wv E 83 [(0, .ref h0)] [.ref (r6 0), .ref h0] 65 9720 ([(h0, .inr (10, [.ref (r1 0), .ref (r2 0), .ref (r3 0), .ref (r4 0), .ref (r5 0), .null, .null, .int 0, .int 0, .null, .null, .null, .null, .int 0, .int 0, .long 0]))] ++ blkX2 E.Y.c r1 ++ blkX2 E.Y.c r2 ++ blkX9 E.Y.c r3 ++ blkX5 E.Y.c ((r3 0)) ((r2 0)) r4 ++ blkX8 E.Y.c ((r1 0)) r5 ++ blkX8 E.Y.c ((r1 0)) r6)
  refine wv_putF hE 0 ff_X11_44 rfl rfl rfl rfl dX11_init_83 ?_
  show Wv E 86 [(0, .ref h0)] [] 65 9720 ([(h0, .inr (10, [.ref (r1 0), .ref (r2 0), .ref (r3 0), .ref (r4 0), .ref (r5 0), .ref (r6 0), .null, .int 0, .int 0, .null, .null, .null, .null, .int 0, .int 0, .long 0]))] ++ blkX2 E.Y.c r1 ++ blkX2 E.Y.c r2 ++ blkX9 E.Y.c r3 ++ blkX5 E.Y.c ((r3 0)) ((r2 0)) r4 ++ blkX8 E.Y.c ((r1 0)) r5 ++ blkX8 E.Y.c ((r1 0)) r6)
  refine wv_aload_n hE 0 rfl dX11_init_86 ?_
  refine wv_bipush hE 20 rfl dX11_init_87 ?_
  refine wv_newr hE 20 5 rfl (lw_TG 199 (by decide +kernel) (by decide +kernel)) (lw_T 447 (by decide +kernel)) (by decide) (by decide) rfl rfl rfl dX11_init_89 (fun q7 => ?_)
  show Wv E 92 [(0, .ref h0)] [.ref q7, .ref h0] 66 9740 ([(h0, .inr (10, [.ref (r1 0), .ref (r2 0), .ref (r3 0), .ref (r4 0), .ref (r5 0), .ref (r6 0), .null, .int 0, .int 0, .null, .null, .null, .null, .int 0, .int 0, .long 0]))] ++ blkX2 E.Y.c r1 ++ blkX2 E.Y.c r2 ++ blkX9 E.Y.c r3 ++ blkX5 E.Y.c ((r3 0)) ((r2 0)) r4 ++ blkX8 E.Y.c ((r1 0)) r5 ++ blkX8 E.Y.c ((r1 0)) r6 ++ [(q7, .inl (E.Y.c 5, 20, .inr (.inr (.inr (.inr (fun _ => none))))))])
  refine wv_putF hE 0 ff_X11_47 rfl rfl rfl rfl dX11_init_92 ?_
  show Wv E 95 [(0, .ref h0)] [] 66 9740 ([(h0, .inr (10, [.ref (r1 0), .ref (r2 0), .ref (r3 0), .ref (r4 0), .ref (r5 0), .ref (r6 0), .ref q7, .int 0, .int 0, .null, .null, .null, .null, .int 0, .int 0, .long 0]))] ++ blkX2 E.Y.c r1 ++ blkX2 E.Y.c r2 ++ blkX9 E.Y.c r3 ++ blkX5 E.Y.c ((r3 0)) ((r2 0)) r4 ++ blkX8 E.Y.c ((r1 0)) r5 ++ blkX8 E.Y.c ((r1 0)) r6 ++ [(q7, .inl (E.Y.c 5, 20, .inr (.inr (.inr (.inr (fun _ => none))))))])
  refine wv_aload_n hE 0 rfl dX11_init_95 ?_
  refine wv_iconst hE 0 rfl dX11_init_96 ?_
  refine wv_put hE 0 fg_X11_51 rfl rfl rfl rfl dX11_init_97 fk_X11_51 ?_
  show Wv E 100 [(0, .ref h0)] [] 66 9740 ([(h0, .inr (10, [.ref (r1 0), .ref (r2 0), .ref (r3 0), .ref (r4 0), .ref (r5 0), .ref (r6 0), .ref q7, .int 0, .int 0, .null, .null, .null, .null, .int 0, .int 0, .long 0]))] ++ blkX2 E.Y.c r1 ++ blkX2 E.Y.c r2 ++ blkX9 E.Y.c r3 ++ blkX5 E.Y.c ((r3 0)) ((r2 0)) r4 ++ blkX8 E.Y.c ((r1 0)) r5 ++ blkX8 E.Y.c ((r1 0)) r6 ++ [(q7, .inl (E.Y.c 5, 20, .inr (.inr (.inr (.inr (fun _ => none))))))])
  refine wv_aload_n hE 0 rfl dX11_init_100 ?_
  refine wv_iconst hE 0 rfl dX11_init_101 ?_
  refine wv_put hE 0 fg_X11_55 rfl rfl rfl rfl dX11_init_102 fk_X11_55 ?_
  show Wv E 105 [(0, .ref h0)] [] 66 9740 ([(h0, .inr (10, [.ref (r1 0), .ref (r2 0), .ref (r3 0), .ref (r4 0), .ref (r5 0), .ref (r6 0), .ref q7, .int 0, .int 0, .null, .null, .null, .null, .int 0, .int 0, .long 0]))] ++ blkX2 E.Y.c r1 ++ blkX2 E.Y.c r2 ++ blkX9 E.Y.c r3 ++ blkX5 E.Y.c ((r3 0)) ((r2 0)) r4 ++ blkX8 E.Y.c ((r1 0)) r5 ++ blkX8 E.Y.c ((r1 0)) r6 ++ [(q7, .inl (E.Y.c 5, 20, .inr (.inr (.inr (.inr (fun _ => none))))))])
  refine wv_aload_n hE 0 rfl dX11_init_105 ?_
  refine wv_new hE nk_X11_58 rfl rfl dX11_init_106 (fun q8 => ?_)
  show Wv E 109 [(0, .ref h0)] [.ref q8, .ref h0] 67 9743 ([(h0, .inr (10, [.ref (r1 0), .ref (r2 0), .ref (r3 0), .ref (r4 0), .ref (r5 0), .ref (r6 0), .ref q7, .int 0, .int 0, .null, .null, .null, .null, .int 0, .int 0, .long 0]))] ++ blkX2 E.Y.c r1 ++ blkX2 E.Y.c r2 ++ blkX9 E.Y.c r3 ++ blkX5 E.Y.c ((r3 0)) ((r2 0)) r4 ++ blkX8 E.Y.c ((r1 0)) r5 ++ blkX8 E.Y.c ((r1 0)) r6 ++ [(q7, .inl (E.Y.c 5, 20, .inr (.inr (.inr (.inr (fun _ => none))))))] ++ [(q8, .inr (7, [.null, .null, .int 0]))])
  refine wv_dup hE rfl dX11_init_109 ?_
  refine wv_init (cs := 67) (sl := 9743) hE ([(h0, .inr (10, [.ref (r1 0), .ref (r2 0), .ref (r3 0), .ref (r4 0), .ref (r5 0), .ref (r6 0), .ref q7, .int 0, .int 0, .null, .null, .null, .null, .int 0, .int 0, .long 0]))] ++ blkX2 E.Y.c r1 ++ blkX2 E.Y.c r2 ++ blkX9 E.Y.c r3 ++ blkX5 E.Y.c ((r3 0)) ((r2 0)) r4 ++ blkX8 E.Y.c ((r1 0)) r5 ++ blkX8 E.Y.c ((r1 0)) r6 ++ [(q7, .inl (E.Y.c 5, 20, .inr (.inr (.inr (.inr (fun _ => none))))))]) (ciX7 E.l E.Y.D E.Y.c) ik_X11_60 (rest := [.ref q8, .ref h0]) rfl rfl ⟨rfl, rfl⟩ rfl rfl rfl dX11_init_110 (fun r7 hr7 => ?_)
  subst hr7
  show Wv E 113 [(0, .ref h0)] [.ref (r7 0), .ref h0] 69 9775 ([(h0, .inr (10, [.ref (r1 0), .ref (r2 0), .ref (r3 0), .ref (r4 0), .ref (r5 0), .ref (r6 0), .ref q7, .int 0, .int 0, .null, .null, .null, .null, .int 0, .int 0, .long 0]))] ++ blkX2 E.Y.c r1 ++ blkX2 E.Y.c r2 ++ blkX9 E.Y.c r3 ++ blkX5 E.Y.c ((r3 0)) ((r2 0)) r4 ++ blkX8 E.Y.c ((r1 0)) r5 ++ blkX8 E.Y.c ((r1 0)) r6 ++ [(q7, .inl (E.Y.c 5, 20, .inr (.inr (.inr (.inr (fun _ => none))))))] ++ blkX7 E.Y.c r7)
  refine wv_putF hE 0 ff_X11_61 rfl rfl rfl rfl dX11_init_113 ?_
  show Wv E 116 [(0, .ref h0)] [] 69 9775 ([(h0, .inr (10, [.ref (r1 0), .ref (r2 0), .ref (r3 0), .ref (r4 0), .ref (r5 0), .ref (r6 0), .ref q7, .int 0, .int 0, .ref (r7 0), .null, .null, .null, .int 0, .int 0, .long 0]))] ++ blkX2 E.Y.c r1 ++ blkX2 E.Y.c r2 ++ blkX9 E.Y.c r3 ++ blkX5 E.Y.c ((r3 0)) ((r2 0)) r4 ++ blkX8 E.Y.c ((r1 0)) r5 ++ blkX8 E.Y.c ((r1 0)) r6 ++ [(q7, .inl (E.Y.c 5, 20, .inr (.inr (.inr (.inr (fun _ => none))))))] ++ blkX7 E.Y.c r7)
  refine wv_aload_n hE 0 rfl dX11_init_116 ?_
  refine wv_new hE nk_X11_65 rfl rfl dX11_init_117 (fun q9 => ?_)
  show Wv E 120 [(0, .ref h0)] [.ref q9, .ref h0] 70 9777 ([(h0, .inr (10, [.ref (r1 0), .ref (r2 0), .ref (r3 0), .ref (r4 0), .ref (r5 0), .ref (r6 0), .ref q7, .int 0, .int 0, .ref (r7 0), .null, .null, .null, .int 0, .int 0, .long 0]))] ++ blkX2 E.Y.c r1 ++ blkX2 E.Y.c r2 ++ blkX9 E.Y.c r3 ++ blkX5 E.Y.c ((r3 0)) ((r2 0)) r4 ++ blkX8 E.Y.c ((r1 0)) r5 ++ blkX8 E.Y.c ((r1 0)) r6 ++ [(q7, .inl (E.Y.c 5, 20, .inr (.inr (.inr (.inr (fun _ => none))))))] ++ blkX7 E.Y.c r7 ++ [(q9, .inr (0, [.null, .int 0]))])
  refine wv_dup hE rfl dX11_init_120 ?_
  refine wv_init (cs := 70) (sl := 9777) hE ([(h0, .inr (10, [.ref (r1 0), .ref (r2 0), .ref (r3 0), .ref (r4 0), .ref (r5 0), .ref (r6 0), .ref q7, .int 0, .int 0, .ref (r7 0), .null, .null, .null, .int 0, .int 0, .long 0]))] ++ blkX2 E.Y.c r1 ++ blkX2 E.Y.c r2 ++ blkX9 E.Y.c r3 ++ blkX5 E.Y.c ((r3 0)) ((r2 0)) r4 ++ blkX8 E.Y.c ((r1 0)) r5 ++ blkX8 E.Y.c ((r1 0)) r6 ++ [(q7, .inl (E.Y.c 5, 20, .inr (.inr (.inr (.inr (fun _ => none))))))] ++ blkX7 E.Y.c r7) (ciX0 E.l E.Y.D E.Y.c) ik_X11_67 (rest := [.ref q9, .ref h0]) rfl rfl ⟨rfl, rfl⟩ rfl rfl rfl dX11_init_121 (fun r8 hr8 => ?_)
  subst hr8
  show Wv E 124 [(0, .ref h0)] [.ref (r8 0), .ref h0] 71 9792 ([(h0, .inr (10, [.ref (r1 0), .ref (r2 0), .ref (r3 0), .ref (r4 0), .ref (r5 0), .ref (r6 0), .ref q7, .int 0, .int 0, .ref (r7 0), .null, .null, .null, .int 0, .int 0, .long 0]))] ++ blkX2 E.Y.c r1 ++ blkX2 E.Y.c r2 ++ blkX9 E.Y.c r3 ++ blkX5 E.Y.c ((r3 0)) ((r2 0)) r4 ++ blkX8 E.Y.c ((r1 0)) r5 ++ blkX8 E.Y.c ((r1 0)) r6 ++ [(q7, .inl (E.Y.c 5, 20, .inr (.inr (.inr (.inr (fun _ => none))))))] ++ blkX7 E.Y.c r7 ++ blkX0 E.Y.c r8)
  refine wv_putF hE 0 ff_X11_68 rfl rfl rfl rfl dX11_init_124 ?_
  show Wv E 127 [(0, .ref h0)] [] 71 9792 ([(h0, .inr (10, [.ref (r1 0), .ref (r2 0), .ref (r3 0), .ref (r4 0), .ref (r5 0), .ref (r6 0), .ref q7, .int 0, .int 0, .ref (r7 0), .ref (r8 0), .null, .null, .int 0, .int 0, .long 0]))] ++ blkX2 E.Y.c r1 ++ blkX2 E.Y.c r2 ++ blkX9 E.Y.c r3 ++ blkX5 E.Y.c ((r3 0)) ((r2 0)) r4 ++ blkX8 E.Y.c ((r1 0)) r5 ++ blkX8 E.Y.c ((r1 0)) r6 ++ [(q7, .inl (E.Y.c 5, 20, .inr (.inr (.inr (.inr (fun _ => none))))))] ++ blkX7 E.Y.c r7 ++ blkX0 E.Y.c r8)
  refine wv_aload_n hE 0 rfl dX11_init_127 ?_
  refine wv_bipush hE 6 rfl dX11_init_128 ?_
  refine wv_newi hE 6 (lw_TG 139 (by decide +kernel) (by decide +kernel)) (by decide) (by decide) rfl rfl rfl dX11_init_130 (fun q10 => ?_)
  show Wv E 132 [(0, .ref h0)] [.ref q10, .ref h0] 72 9798 ([(h0, .inr (10, [.ref (r1 0), .ref (r2 0), .ref (r3 0), .ref (r4 0), .ref (r5 0), .ref (r6 0), .ref q7, .int 0, .int 0, .ref (r7 0), .ref (r8 0), .null, .null, .int 0, .int 0, .long 0]))] ++ blkX2 E.Y.c r1 ++ blkX2 E.Y.c r2 ++ blkX9 E.Y.c r3 ++ blkX5 E.Y.c ((r3 0)) ((r2 0)) r4 ++ blkX8 E.Y.c ((r1 0)) r5 ++ blkX8 E.Y.c ((r1 0)) r6 ++ [(q7, .inl (E.Y.c 5, 20, .inr (.inr (.inr (.inr (fun _ => none))))))] ++ blkX7 E.Y.c r7 ++ blkX0 E.Y.c r8 ++ [(q10, .inl (E.Y.c 0, 6, .inl (fun _ => 0)))])
  refine wv_putF hE 0 ff_X11_72 rfl rfl rfl rfl dX11_init_132 ?_
  show Wv E 135 [(0, .ref h0)] [] 72 9798 ([(h0, .inr (10, [.ref (r1 0), .ref (r2 0), .ref (r3 0), .ref (r4 0), .ref (r5 0), .ref (r6 0), .ref q7, .int 0, .int 0, .ref (r7 0), .ref (r8 0), .ref q10, .null, .int 0, .int 0, .long 0]))] ++ blkX2 E.Y.c r1 ++ blkX2 E.Y.c r2 ++ blkX9 E.Y.c r3 ++ blkX5 E.Y.c ((r3 0)) ((r2 0)) r4 ++ blkX8 E.Y.c ((r1 0)) r5 ++ blkX8 E.Y.c ((r1 0)) r6 ++ [(q7, .inl (E.Y.c 5, 20, .inr (.inr (.inr (.inr (fun _ => none))))))] ++ blkX7 E.Y.c r7 ++ blkX0 E.Y.c r8 ++ [(q10, .inl (E.Y.c 0, 6, .inl (fun _ => 0)))])
  refine wv_aload_n hE 0 rfl dX11_init_135 ?_
  refine wv_sipush hE 427 rfl dX11_init_136 ?_
  refine wv_newi hE 427 (lw_TG 139 (by decide +kernel) (by decide +kernel)) (by decide) (by decide) rfl rfl rfl dX11_init_139 (fun q11 => ?_)
  show Wv E 141 [(0, .ref h0)] [.ref q11, .ref h0] 73 10225 ([(h0, .inr (10, [.ref (r1 0), .ref (r2 0), .ref (r3 0), .ref (r4 0), .ref (r5 0), .ref (r6 0), .ref q7, .int 0, .int 0, .ref (r7 0), .ref (r8 0), .ref q10, .null, .int 0, .int 0, .long 0]))] ++ blkX2 E.Y.c r1 ++ blkX2 E.Y.c r2 ++ blkX9 E.Y.c r3 ++ blkX5 E.Y.c ((r3 0)) ((r2 0)) r4 ++ blkX8 E.Y.c ((r1 0)) r5 ++ blkX8 E.Y.c ((r1 0)) r6 ++ [(q7, .inl (E.Y.c 5, 20, .inr (.inr (.inr (.inr (fun _ => none))))))] ++ blkX7 E.Y.c r7 ++ blkX0 E.Y.c r8 ++ [(q10, .inl (E.Y.c 0, 6, .inl (fun _ => 0)))] ++ [(q11, .inl (E.Y.c 0, 427, .inl (fun _ => 0)))])
  refine wv_putF hE 0 ff_X11_76 rfl rfl rfl rfl dX11_init_141 ?_
  show Wv E 144 [(0, .ref h0)] [] 73 10225 ([(h0, .inr (10, [.ref (r1 0), .ref (r2 0), .ref (r3 0), .ref (r4 0), .ref (r5 0), .ref (r6 0), .ref q7, .int 0, .int 0, .ref (r7 0), .ref (r8 0), .ref q10, .ref q11, .int 0, .int 0, .long 0]))] ++ blkX2 E.Y.c r1 ++ blkX2 E.Y.c r2 ++ blkX9 E.Y.c r3 ++ blkX5 E.Y.c ((r3 0)) ((r2 0)) r4 ++ blkX8 E.Y.c ((r1 0)) r5 ++ blkX8 E.Y.c ((r1 0)) r6 ++ [(q7, .inl (E.Y.c 5, 20, .inr (.inr (.inr (.inr (fun _ => none))))))] ++ blkX7 E.Y.c r7 ++ blkX0 E.Y.c r8 ++ [(q10, .inl (E.Y.c 0, 6, .inl (fun _ => 0)))] ++ [(q11, .inl (E.Y.c 0, 427, .inl (fun _ => 0)))])
  refine wv_aload_n hE 0 rfl dX11_init_144 ?_
  refine wv_iconst hE 0 rfl dX11_init_145 ?_
  refine wv_put hE 0 fg_X11_79 rfl rfl rfl rfl dX11_init_146 fk_X11_79 ?_
  show Wv E 149 [(0, .ref h0)] [] 73 10225 ([(h0, .inr (10, [.ref (r1 0), .ref (r2 0), .ref (r3 0), .ref (r4 0), .ref (r5 0), .ref (r6 0), .ref q7, .int 0, .int 0, .ref (r7 0), .ref (r8 0), .ref q10, .ref q11, .int 0, .int 0, .long 0]))] ++ blkX2 E.Y.c r1 ++ blkX2 E.Y.c r2 ++ blkX9 E.Y.c r3 ++ blkX5 E.Y.c ((r3 0)) ((r2 0)) r4 ++ blkX8 E.Y.c ((r1 0)) r5 ++ blkX8 E.Y.c ((r1 0)) r6 ++ [(q7, .inl (E.Y.c 5, 20, .inr (.inr (.inr (.inr (fun _ => none))))))] ++ blkX7 E.Y.c r7 ++ blkX0 E.Y.c r8 ++ [(q10, .inl (E.Y.c 0, 6, .inl (fun _ => 0)))] ++ [(q11, .inl (E.Y.c 0, 427, .inl (fun _ => 0)))])
  refine wv_aload_n hE 0 rfl dX11_init_149 ?_
  refine wv_iconst hE (-1) rfl dX11_init_150 ?_
  refine wv_put hE 0 fg_X11_82 rfl rfl rfl rfl dX11_init_151 fk_X11_82 ?_
  show Wv E 154 [(0, .ref h0)] [] 73 10225 ([(h0, .inr (10, [.ref (r1 0), .ref (r2 0), .ref (r3 0), .ref (r4 0), .ref (r5 0), .ref (r6 0), .ref q7, .int 0, .int 0, .ref (r7 0), .ref (r8 0), .ref q10, .ref q11, .int 0, .int (-1), .long 0]))] ++ blkX2 E.Y.c r1 ++ blkX2 E.Y.c r2 ++ blkX9 E.Y.c r3 ++ blkX5 E.Y.c ((r3 0)) ((r2 0)) r4 ++ blkX8 E.Y.c ((r1 0)) r5 ++ blkX8 E.Y.c ((r1 0)) r6 ++ [(q7, .inl (E.Y.c 5, 20, .inr (.inr (.inr (.inr (fun _ => none))))))] ++ blkX7 E.Y.c r7 ++ blkX0 E.Y.c r8 ++ [(q10, .inl (E.Y.c 0, 6, .inl (fun _ => 0)))] ++ [(q11, .inl (E.Y.c 0, 427, .inl (fun _ => 0)))])
  refine wv_aload_n hE 0 rfl dX11_init_154 ?_
  refine wv_lconst hE 1 rfl dX11_init_155 ?_
  refine wv_put hE 0 fg_X11_85 rfl rfl rfl rfl dX11_init_156 fk_X11_85 ?_
  show Wv E 159 [(0, .ref h0)] [] 73 10225 ([(h0, .inr (10, [.ref (r1 0), .ref (r2 0), .ref (r3 0), .ref (r4 0), .ref (r5 0), .ref (r6 0), .ref q7, .int 0, .int 0, .ref (r7 0), .ref (r8 0), .ref q10, .ref q11, .int 0, .int (-1), .long 1]))] ++ blkX2 E.Y.c r1 ++ blkX2 E.Y.c r2 ++ blkX9 E.Y.c r3 ++ blkX5 E.Y.c ((r3 0)) ((r2 0)) r4 ++ blkX8 E.Y.c ((r1 0)) r5 ++ blkX8 E.Y.c ((r1 0)) r6 ++ [(q7, .inl (E.Y.c 5, 20, .inr (.inr (.inr (.inr (fun _ => none))))))] ++ blkX7 E.Y.c r7 ++ blkX0 E.Y.c r8 ++ [(q10, .inl (E.Y.c 0, 6, .inl (fun _ => 0)))] ++ [(q11, .inl (E.Y.c 0, 427, .inl (fun _ => 0)))])
  refine wv_iconst hE 0 rfl dX11_init_159 ?_
  refine wv_istore_n hE [(1, .int 0), (0, .ref h0)] rfl rfl dX11_init_160 ?_
  have K := past_loop (a := r1 0) (q7 := q7) (fs := [.ref (r1 0), .ref (r2 0), .ref (r3 0), .ref (r4 0), .ref (r5 0), .ref (r6 0), .ref q7, .int 0, .int 0, .ref (r7 0), .ref (r8 0), .ref q10, .ref q11, .int 0, .int (-1), .long 1]) (W1 := [(h0, .inr (10, [.ref (r1 0), .ref (r2 0), .ref (r3 0), .ref (r4 0), .ref (r5 0), .ref (r6 0), .ref q7, .int 0, .int 0, .ref (r7 0), .ref (r8 0), .ref q10, .ref q11, .int 0, .int (-1), .long 1]))] ++ blkX2 E.Y.c r1 ++ blkX2 E.Y.c r2 ++ blkX9 E.Y.c r3 ++ blkX5 E.Y.c ((r3 0)) ((r2 0)) r4 ++ blkX8 E.Y.c ((r1 0)) r5 ++ blkX8 E.Y.c ((r1 0)) r6) (W2 := blkX7 E.Y.c r7 ++ blkX0 E.Y.c r8 ++ [(q10, .inl (E.Y.c 0, 6, .inl (fun _ => 0)))] ++ [(q11, .inl (E.Y.c 0, 427, .inl (fun _ => 0)))]) hE rfl rfl rfl rfl (fun r => ?_) 20 0 (fun _ _ => 0) rfl
  · rw [nI_0, pf_0] at K
    rw [app_mid]
    exact K
  · have hh := cls_wld E.Y.c E.Y.D aw h0 q7 q10 q11 r1 r2 r3 r4 r5 r6 r7 r8 r
    exact wv_ret hE hQ (fun t hP hD hF => ⟨rfl, ⟨qC h0 q7 q10 q11 r1 r2 r3 r4 r5 r6 r7 r8 r, rfl, hh.P hP, hh.D (hA ▸ hD)⟩, hA ▸ hF⟩) dX11_init_190

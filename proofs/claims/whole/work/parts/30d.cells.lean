/-! THE LAW: the cells at its start -/
def mu0 : Mem := (fun a k => if a = 123 then (if k = 3 then nI 1 else nI 0) else nI 0, fun _ => 0, fun j => 63 + 4 * j)
theorem lw_m0 (G : qG) : mc G mu0 0 = .inr (10, [rV G 1, .int 0, rV G 2, rV G 18, rV G 19, rV G 35, rV G 37, rV G 49, rV G 61, rV G 119, rV G 123, rV G 125, rV G 130, rV G 131, .long 0]) := (mc_obj (show lay 0 = some (.inl (10, [some (some 1), none, some (some 2), some (some 18), some (some 19), some (some 35), some (some 37), some (some 49), some (some 61), some (some 119), some (some 123), some (some 125), some (some 130), some (some 131), some none])) by decide +kernel)).trans rfl
theorem lw_m1 (G : qG) : mc G mu0 1 = cI G 52 := (mc_int (show lay 1 = some (.inr (0, 52, 0, 0)) by decide +kernel)).trans rfl
theorem lw_m2 (G : qG) : mc G mu0 2 = .inr (7, [rV G 3, rV G 4, rV G 5, .int 0, .int 0]) := (mc_obj (show lay 2 = some (.inl (7, [some (some 3), some (some 4), some (some 5), none, none])) by decide +kernel)).trans rfl
theorem lw_m3 (G : qG) : mc G mu0 3 = rfE G 2 6 6 2 := (mc_ref (show lay 3 = some (.inr (2, 6, 6, 2)) by decide +kernel) (by decide) (by decide) (by decide)).trans rfl
theorem lw_m4 (G : qG) : mc G mu0 4 = cI G 5 := (mc_int (show lay 4 = some (.inr (0, 5, 0, 0)) by decide +kernel)).trans rfl
theorem lw_m5 (G : qG) : mc G mu0 5 = cI G 5 := (mc_int (show lay 5 = some (.inr (0, 5, 0, 0)) by decide +kernel)).trans rfl
theorem lw_m6 (G : qG) : mc G mu0 6 = .inr (4, [.int 0, rV G 7]) := (mc_obj (show lay 6 = some (.inl (4, [none, some (some 7)])) by decide +kernel)).trans rfl
theorem lw_m7 (G : qG) : mc G mu0 7 = cI G 3 := (mc_int (show lay 7 = some (.inr (0, 3, 0, 0)) by decide +kernel)).trans rfl
theorem lw_m8 (G : qG) : mc G mu0 8 = .inr (4, [.int 0, rV G 9]) := (mc_obj (show lay 8 = some (.inl (4, [none, some (some 9)])) by decide +kernel)).trans rfl
theorem lw_m9 (G : qG) : mc G mu0 9 = cI G 3 := (mc_int (show lay 9 = some (.inr (0, 3, 0, 0)) by decide +kernel)).trans rfl
theorem lw_m10 (G : qG) : mc G mu0 10 = .inr (4, [.int 0, rV G 11]) := (mc_obj (show lay 10 = some (.inl (4, [none, some (some 11)])) by decide +kernel)).trans rfl
theorem lw_m11 (G : qG) : mc G mu0 11 = cI G 3 := (mc_int (show lay 11 = some (.inr (0, 3, 0, 0)) by decide +kernel)).trans rfl
theorem lw_m12 (G : qG) : mc G mu0 12 = .inr (4, [.int 0, rV G 13]) := (mc_obj (show lay 12 = some (.inl (4, [none, some (some 13)])) by decide +kernel)).trans rfl
theorem lw_m13 (G : qG) : mc G mu0 13 = cI G 3 := (mc_int (show lay 13 = some (.inr (0, 3, 0, 0)) by decide +kernel)).trans rfl
theorem lw_m14 (G : qG) : mc G mu0 14 = .inr (4, [.int 0, rV G 15]) := (mc_obj (show lay 14 = some (.inl (4, [none, some (some 15)])) by decide +kernel)).trans rfl
theorem lw_m15 (G : qG) : mc G mu0 15 = cI G 3 := (mc_int (show lay 15 = some (.inr (0, 3, 0, 0)) by decide +kernel)).trans rfl
theorem lw_m16 (G : qG) : mc G mu0 16 = .inr (4, [.int 0, rV G 17]) := (mc_obj (show lay 16 = some (.inl (4, [none, some (some 17)])) by decide +kernel)).trans rfl
theorem lw_m17 (G : qG) : mc G mu0 17 = cI G 3 := (mc_int (show lay 17 = some (.inr (0, 3, 0, 0)) by decide +kernel)).trans rfl
theorem lw_m18 (G : qG) : mc G mu0 18 = .inr (6, [rV G 2, .int 0, .int 0]) := (mc_obj (show lay 18 = some (.inl (6, [some (some 2), none, none])) by decide +kernel)).trans rfl
theorem lw_m19 (G : qG) : mc G mu0 19 = .inr (7, [rV G 20, rV G 21, rV G 22, .int 0, .int 0]) := (mc_obj (show lay 19 = some (.inl (7, [some (some 20), some (some 21), some (some 22), none, none])) by decide +kernel)).trans rfl
theorem lw_m20 (G : qG) : mc G mu0 20 = rfE G 2 6 23 2 := (mc_ref (show lay 20 = some (.inr (2, 6, 23, 2)) by decide +kernel) (by decide) (by decide) (by decide)).trans rfl
theorem lw_m21 (G : qG) : mc G mu0 21 = cI G 5 := (mc_int (show lay 21 = some (.inr (0, 5, 0, 0)) by decide +kernel)).trans rfl
theorem lw_m22 (G : qG) : mc G mu0 22 = cI G 5 := (mc_int (show lay 22 = some (.inr (0, 5, 0, 0)) by decide +kernel)).trans rfl
theorem lw_m23 (G : qG) : mc G mu0 23 = .inr (4, [.int 0, rV G 24]) := (mc_obj (show lay 23 = some (.inl (4, [none, some (some 24)])) by decide +kernel)).trans rfl
theorem lw_m24 (G : qG) : mc G mu0 24 = cI G 3 := (mc_int (show lay 24 = some (.inr (0, 3, 0, 0)) by decide +kernel)).trans rfl
theorem lw_m25 (G : qG) : mc G mu0 25 = .inr (4, [.int 0, rV G 26]) := (mc_obj (show lay 25 = some (.inl (4, [none, some (some 26)])) by decide +kernel)).trans rfl
theorem lw_m26 (G : qG) : mc G mu0 26 = cI G 3 := (mc_int (show lay 26 = some (.inr (0, 3, 0, 0)) by decide +kernel)).trans rfl
theorem lw_m27 (G : qG) : mc G mu0 27 = .inr (4, [.int 0, rV G 28]) := (mc_obj (show lay 27 = some (.inl (4, [none, some (some 28)])) by decide +kernel)).trans rfl
theorem lw_m28 (G : qG) : mc G mu0 28 = cI G 3 := (mc_int (show lay 28 = some (.inr (0, 3, 0, 0)) by decide +kernel)).trans rfl
theorem lw_m29 (G : qG) : mc G mu0 29 = .inr (4, [.int 0, rV G 30]) := (mc_obj (show lay 29 = some (.inl (4, [none, some (some 30)])) by decide +kernel)).trans rfl
theorem lw_m30 (G : qG) : mc G mu0 30 = cI G 3 := (mc_int (show lay 30 = some (.inr (0, 3, 0, 0)) by decide +kernel)).trans rfl
theorem lw_m31 (G : qG) : mc G mu0 31 = .inr (4, [.int 0, rV G 32]) := (mc_obj (show lay 31 = some (.inl (4, [none, some (some 32)])) by decide +kernel)).trans rfl
theorem lw_m32 (G : qG) : mc G mu0 32 = cI G 3 := (mc_int (show lay 32 = some (.inr (0, 3, 0, 0)) by decide +kernel)).trans rfl
theorem lw_m33 (G : qG) : mc G mu0 33 = .inr (4, [.int 0, rV G 34]) := (mc_obj (show lay 33 = some (.inl (4, [none, some (some 34)])) by decide +kernel)).trans rfl
theorem lw_m34 (G : qG) : mc G mu0 34 = cI G 3 := (mc_int (show lay 34 = some (.inr (0, 3, 0, 0)) by decide +kernel)).trans rfl
theorem lw_m35 (G : qG) : mc G mu0 35 = .inr (1, [.int 0, .int 0, .int 0, rV G 36]) := (mc_obj (show lay 35 = some (.inl (1, [none, none, none, some (some 36)])) by decide +kernel)).trans rfl
theorem lw_m36 (G : qG) : mc G mu0 36 = cI G 9 := (mc_int (show lay 36 = some (.inr (0, 9, 0, 0)) by decide +kernel)).trans rfl
theorem lw_m37 (G : qG) : mc G mu0 37 = .inr (8, [rV G 19, rV G 35, rV G 38, rV G 42]) := (mc_obj (show lay 37 = some (.inl (8, [some (some 19), some (some 35), some (some 38), some (some 42)])) by decide +kernel)).trans rfl
theorem lw_m38 (G : qG) : mc G mu0 38 = .inr (5, [rV G 39, rV G 40, rV G 41, .int 0]) := (mc_obj (show lay 38 = some (.inl (5, [some (some 39), some (some 40), some (some 41), none])) by decide +kernel)).trans rfl
theorem lw_m39 (G : qG) : mc G mu0 39 = cI G 5 := (mc_int (show lay 39 = some (.inr (0, 5, 0, 0)) by decide +kernel)).trans rfl
theorem lw_m40 (G : qG) : mc G mu0 40 = cI G 6 := (mc_int (show lay 40 = some (.inr (0, 6, 0, 0)) by decide +kernel)).trans rfl
theorem lw_m41 (G : qG) : mc G mu0 41 = cI G 6 := (mc_int (show lay 41 = some (.inr (0, 6, 0, 0)) by decide +kernel)).trans rfl
theorem lw_m42 (G : qG) : mc G mu0 42 = rfE G 4 6 43 1 := (mc_ref (show lay 42 = some (.inr (4, 6, 43, 1)) by decide +kernel) (by decide) (by decide) (by decide)).trans rfl
theorem lw_m43 (G : qG) : mc G mu0 43 = cI G 6 := (mc_int (show lay 43 = some (.inr (0, 6, 0, 0)) by decide +kernel)).trans rfl
theorem lw_m44 (G : qG) : mc G mu0 44 = cI G 6 := (mc_int (show lay 44 = some (.inr (0, 6, 0, 0)) by decide +kernel)).trans rfl
theorem lw_m45 (G : qG) : mc G mu0 45 = cI G 6 := (mc_int (show lay 45 = some (.inr (0, 6, 0, 0)) by decide +kernel)).trans rfl
theorem lw_m46 (G : qG) : mc G mu0 46 = cI G 6 := (mc_int (show lay 46 = some (.inr (0, 6, 0, 0)) by decide +kernel)).trans rfl
theorem lw_m47 (G : qG) : mc G mu0 47 = cI G 6 := (mc_int (show lay 47 = some (.inr (0, 6, 0, 0)) by decide +kernel)).trans rfl
theorem lw_m48 (G : qG) : mc G mu0 48 = cI G 6 := (mc_int (show lay 48 = some (.inr (0, 6, 0, 0)) by decide +kernel)).trans rfl
theorem lw_m49 (G : qG) : mc G mu0 49 = .inr (8, [rV G 19, rV G 35, rV G 50, rV G 54]) := (mc_obj (show lay 49 = some (.inl (8, [some (some 19), some (some 35), some (some 50), some (some 54)])) by decide +kernel)).trans rfl
theorem lw_m50 (G : qG) : mc G mu0 50 = .inr (5, [rV G 51, rV G 52, rV G 53, .int 0]) := (mc_obj (show lay 50 = some (.inl (5, [some (some 51), some (some 52), some (some 53), none])) by decide +kernel)).trans rfl
theorem lw_m51 (G : qG) : mc G mu0 51 = cI G 5 := (mc_int (show lay 51 = some (.inr (0, 5, 0, 0)) by decide +kernel)).trans rfl
theorem lw_m52 (G : qG) : mc G mu0 52 = cI G 6 := (mc_int (show lay 52 = some (.inr (0, 6, 0, 0)) by decide +kernel)).trans rfl
theorem lw_m53 (G : qG) : mc G mu0 53 = cI G 6 := (mc_int (show lay 53 = some (.inr (0, 6, 0, 0)) by decide +kernel)).trans rfl
theorem lw_m54 (G : qG) : mc G mu0 54 = rfE G 4 6 55 1 := (mc_ref (show lay 54 = some (.inr (4, 6, 55, 1)) by decide +kernel) (by decide) (by decide) (by decide)).trans rfl
theorem lw_m55 (G : qG) : mc G mu0 55 = cI G 6 := (mc_int (show lay 55 = some (.inr (0, 6, 0, 0)) by decide +kernel)).trans rfl
theorem lw_m56 (G : qG) : mc G mu0 56 = cI G 6 := (mc_int (show lay 56 = some (.inr (0, 6, 0, 0)) by decide +kernel)).trans rfl
theorem lw_m57 (G : qG) : mc G mu0 57 = cI G 6 := (mc_int (show lay 57 = some (.inr (0, 6, 0, 0)) by decide +kernel)).trans rfl
theorem lw_m58 (G : qG) : mc G mu0 58 = cI G 6 := (mc_int (show lay 58 = some (.inr (0, 6, 0, 0)) by decide +kernel)).trans rfl
theorem lw_m59 (G : qG) : mc G mu0 59 = cI G 6 := (mc_int (show lay 59 = some (.inr (0, 6, 0, 0)) by decide +kernel)).trans rfl
theorem lw_m60 (G : qG) : mc G mu0 60 = cI G 6 := (mc_int (show lay 60 = some (.inr (0, 6, 0, 0)) by decide +kernel)).trans rfl
theorem lw_m61 (G : qG) : mc G mu0 61 = .inr (0, [rV G 62, .int 0]) := (mc_obj (show lay 61 = some (.inl (0, [some (some 62), none])) by decide +kernel)).trans rfl
theorem lw_m62 (G : qG) : mc G mu0 62 = rfE G 3 14 63 4 := (mc_dyn (show lay 62 = some (.inr (5, 14, 0, 0)) by decide +kernel)).trans rfl
theorem lw_m63 (G : qG) : mc G mu0 63 = .inr (5, [rV G 64, rV G 65, rV G 66, .int 0]) := (mc_obj (show lay 63 = some (.inl (5, [some (some 64), some (some 65), some (some 66), none])) by decide +kernel)).trans rfl
theorem lw_m64 (G : qG) : mc G mu0 64 = cI G 5 := (mc_int (show lay 64 = some (.inr (0, 5, 0, 0)) by decide +kernel)).trans rfl
theorem lw_m65 (G : qG) : mc G mu0 65 = cI G 6 := (mc_int (show lay 65 = some (.inr (0, 6, 0, 0)) by decide +kernel)).trans rfl
theorem lw_m66 (G : qG) : mc G mu0 66 = cI G 6 := (mc_int (show lay 66 = some (.inr (0, 6, 0, 0)) by decide +kernel)).trans rfl
theorem lw_m67 (G : qG) : mc G mu0 67 = .inr (5, [rV G 68, rV G 69, rV G 70, .int 0]) := (mc_obj (show lay 67 = some (.inl (5, [some (some 68), some (some 69), some (some 70), none])) by decide +kernel)).trans rfl
theorem lw_m68 (G : qG) : mc G mu0 68 = cI G 5 := (mc_int (show lay 68 = some (.inr (0, 5, 0, 0)) by decide +kernel)).trans rfl
theorem lw_m69 (G : qG) : mc G mu0 69 = cI G 6 := (mc_int (show lay 69 = some (.inr (0, 6, 0, 0)) by decide +kernel)).trans rfl
theorem lw_m70 (G : qG) : mc G mu0 70 = cI G 6 := (mc_int (show lay 70 = some (.inr (0, 6, 0, 0)) by decide +kernel)).trans rfl
theorem lw_m71 (G : qG) : mc G mu0 71 = .inr (5, [rV G 72, rV G 73, rV G 74, .int 0]) := (mc_obj (show lay 71 = some (.inl (5, [some (some 72), some (some 73), some (some 74), none])) by decide +kernel)).trans rfl
theorem lw_m72 (G : qG) : mc G mu0 72 = cI G 5 := (mc_int (show lay 72 = some (.inr (0, 5, 0, 0)) by decide +kernel)).trans rfl
theorem lw_m73 (G : qG) : mc G mu0 73 = cI G 6 := (mc_int (show lay 73 = some (.inr (0, 6, 0, 0)) by decide +kernel)).trans rfl
theorem lw_m74 (G : qG) : mc G mu0 74 = cI G 6 := (mc_int (show lay 74 = some (.inr (0, 6, 0, 0)) by decide +kernel)).trans rfl
theorem lw_m75 (G : qG) : mc G mu0 75 = .inr (5, [rV G 76, rV G 77, rV G 78, .int 0]) := (mc_obj (show lay 75 = some (.inl (5, [some (some 76), some (some 77), some (some 78), none])) by decide +kernel)).trans rfl
theorem lw_m76 (G : qG) : mc G mu0 76 = cI G 5 := (mc_int (show lay 76 = some (.inr (0, 5, 0, 0)) by decide +kernel)).trans rfl
theorem lw_m77 (G : qG) : mc G mu0 77 = cI G 6 := (mc_int (show lay 77 = some (.inr (0, 6, 0, 0)) by decide +kernel)).trans rfl
theorem lw_m78 (G : qG) : mc G mu0 78 = cI G 6 := (mc_int (show lay 78 = some (.inr (0, 6, 0, 0)) by decide +kernel)).trans rfl
theorem lw_m79 (G : qG) : mc G mu0 79 = .inr (5, [rV G 80, rV G 81, rV G 82, .int 0]) := (mc_obj (show lay 79 = some (.inl (5, [some (some 80), some (some 81), some (some 82), none])) by decide +kernel)).trans rfl
theorem lw_m80 (G : qG) : mc G mu0 80 = cI G 5 := (mc_int (show lay 80 = some (.inr (0, 5, 0, 0)) by decide +kernel)).trans rfl
theorem lw_m81 (G : qG) : mc G mu0 81 = cI G 6 := (mc_int (show lay 81 = some (.inr (0, 6, 0, 0)) by decide +kernel)).trans rfl
theorem lw_m82 (G : qG) : mc G mu0 82 = cI G 6 := (mc_int (show lay 82 = some (.inr (0, 6, 0, 0)) by decide +kernel)).trans rfl
theorem lw_m83 (G : qG) : mc G mu0 83 = .inr (5, [rV G 84, rV G 85, rV G 86, .int 0]) := (mc_obj (show lay 83 = some (.inl (5, [some (some 84), some (some 85), some (some 86), none])) by decide +kernel)).trans rfl
theorem lw_m84 (G : qG) : mc G mu0 84 = cI G 5 := (mc_int (show lay 84 = some (.inr (0, 5, 0, 0)) by decide +kernel)).trans rfl
theorem lw_m85 (G : qG) : mc G mu0 85 = cI G 6 := (mc_int (show lay 85 = some (.inr (0, 6, 0, 0)) by decide +kernel)).trans rfl
theorem lw_m86 (G : qG) : mc G mu0 86 = cI G 6 := (mc_int (show lay 86 = some (.inr (0, 6, 0, 0)) by decide +kernel)).trans rfl
theorem lw_m87 (G : qG) : mc G mu0 87 = .inr (5, [rV G 88, rV G 89, rV G 90, .int 0]) := (mc_obj (show lay 87 = some (.inl (5, [some (some 88), some (some 89), some (some 90), none])) by decide +kernel)).trans rfl
theorem lw_m88 (G : qG) : mc G mu0 88 = cI G 5 := (mc_int (show lay 88 = some (.inr (0, 5, 0, 0)) by decide +kernel)).trans rfl
theorem lw_m89 (G : qG) : mc G mu0 89 = cI G 6 := (mc_int (show lay 89 = some (.inr (0, 6, 0, 0)) by decide +kernel)).trans rfl
theorem lw_m90 (G : qG) : mc G mu0 90 = cI G 6 := (mc_int (show lay 90 = some (.inr (0, 6, 0, 0)) by decide +kernel)).trans rfl
theorem lw_m91 (G : qG) : mc G mu0 91 = .inr (5, [rV G 92, rV G 93, rV G 94, .int 0]) := (mc_obj (show lay 91 = some (.inl (5, [some (some 92), some (some 93), some (some 94), none])) by decide +kernel)).trans rfl
theorem lw_m92 (G : qG) : mc G mu0 92 = cI G 5 := (mc_int (show lay 92 = some (.inr (0, 5, 0, 0)) by decide +kernel)).trans rfl
theorem lw_m93 (G : qG) : mc G mu0 93 = cI G 6 := (mc_int (show lay 93 = some (.inr (0, 6, 0, 0)) by decide +kernel)).trans rfl
theorem lw_m94 (G : qG) : mc G mu0 94 = cI G 6 := (mc_int (show lay 94 = some (.inr (0, 6, 0, 0)) by decide +kernel)).trans rfl
theorem lw_m95 (G : qG) : mc G mu0 95 = .inr (5, [rV G 96, rV G 97, rV G 98, .int 0]) := (mc_obj (show lay 95 = some (.inl (5, [some (some 96), some (some 97), some (some 98), none])) by decide +kernel)).trans rfl
theorem lw_m96 (G : qG) : mc G mu0 96 = cI G 5 := (mc_int (show lay 96 = some (.inr (0, 5, 0, 0)) by decide +kernel)).trans rfl
theorem lw_m97 (G : qG) : mc G mu0 97 = cI G 6 := (mc_int (show lay 97 = some (.inr (0, 6, 0, 0)) by decide +kernel)).trans rfl
theorem lw_m98 (G : qG) : mc G mu0 98 = cI G 6 := (mc_int (show lay 98 = some (.inr (0, 6, 0, 0)) by decide +kernel)).trans rfl
theorem lw_m99 (G : qG) : mc G mu0 99 = .inr (5, [rV G 100, rV G 101, rV G 102, .int 0]) := (mc_obj (show lay 99 = some (.inl (5, [some (some 100), some (some 101), some (some 102), none])) by decide +kernel)).trans rfl
theorem lw_m100 (G : qG) : mc G mu0 100 = cI G 5 := (mc_int (show lay 100 = some (.inr (0, 5, 0, 0)) by decide +kernel)).trans rfl
theorem lw_m101 (G : qG) : mc G mu0 101 = cI G 6 := (mc_int (show lay 101 = some (.inr (0, 6, 0, 0)) by decide +kernel)).trans rfl
theorem lw_m102 (G : qG) : mc G mu0 102 = cI G 6 := (mc_int (show lay 102 = some (.inr (0, 6, 0, 0)) by decide +kernel)).trans rfl
theorem lw_m103 (G : qG) : mc G mu0 103 = .inr (5, [rV G 104, rV G 105, rV G 106, .int 0]) := (mc_obj (show lay 103 = some (.inl (5, [some (some 104), some (some 105), some (some 106), none])) by decide +kernel)).trans rfl
theorem lw_m104 (G : qG) : mc G mu0 104 = cI G 5 := (mc_int (show lay 104 = some (.inr (0, 5, 0, 0)) by decide +kernel)).trans rfl
theorem lw_m105 (G : qG) : mc G mu0 105 = cI G 6 := (mc_int (show lay 105 = some (.inr (0, 6, 0, 0)) by decide +kernel)).trans rfl
theorem lw_m106 (G : qG) : mc G mu0 106 = cI G 6 := (mc_int (show lay 106 = some (.inr (0, 6, 0, 0)) by decide +kernel)).trans rfl
theorem lw_m107 (G : qG) : mc G mu0 107 = .inr (5, [rV G 108, rV G 109, rV G 110, .int 0]) := (mc_obj (show lay 107 = some (.inl (5, [some (some 108), some (some 109), some (some 110), none])) by decide +kernel)).trans rfl
theorem lw_m108 (G : qG) : mc G mu0 108 = cI G 5 := (mc_int (show lay 108 = some (.inr (0, 5, 0, 0)) by decide +kernel)).trans rfl
theorem lw_m109 (G : qG) : mc G mu0 109 = cI G 6 := (mc_int (show lay 109 = some (.inr (0, 6, 0, 0)) by decide +kernel)).trans rfl
theorem lw_m110 (G : qG) : mc G mu0 110 = cI G 6 := (mc_int (show lay 110 = some (.inr (0, 6, 0, 0)) by decide +kernel)).trans rfl
theorem lw_m111 (G : qG) : mc G mu0 111 = .inr (5, [rV G 112, rV G 113, rV G 114, .int 0]) := (mc_obj (show lay 111 = some (.inl (5, [some (some 112), some (some 113), some (some 114), none])) by decide +kernel)).trans rfl
theorem lw_m112 (G : qG) : mc G mu0 112 = cI G 5 := (mc_int (show lay 112 = some (.inr (0, 5, 0, 0)) by decide +kernel)).trans rfl
theorem lw_m113 (G : qG) : mc G mu0 113 = cI G 6 := (mc_int (show lay 113 = some (.inr (0, 6, 0, 0)) by decide +kernel)).trans rfl
theorem lw_m114 (G : qG) : mc G mu0 114 = cI G 6 := (mc_int (show lay 114 = some (.inr (0, 6, 0, 0)) by decide +kernel)).trans rfl
theorem lw_m115 (G : qG) : mc G mu0 115 = .inr (5, [rV G 116, rV G 117, rV G 118, .int 0]) := (mc_obj (show lay 115 = some (.inl (5, [some (some 116), some (some 117), some (some 118), none])) by decide +kernel)).trans rfl
theorem lw_m116 (G : qG) : mc G mu0 116 = cI G 5 := (mc_int (show lay 116 = some (.inr (0, 5, 0, 0)) by decide +kernel)).trans rfl
theorem lw_m117 (G : qG) : mc G mu0 117 = cI G 6 := (mc_int (show lay 117 = some (.inr (0, 6, 0, 0)) by decide +kernel)).trans rfl
theorem lw_m118 (G : qG) : mc G mu0 118 = cI G 6 := (mc_int (show lay 118 = some (.inr (0, 6, 0, 0)) by decide +kernel)).trans rfl
theorem lw_m119 (G : qG) : mc G mu0 119 = .inr (3, [rV G 37, rV G 120, rV G 121, rV G 122, .int 0, .int 0]) := (mc_obj (show lay 119 = some (.inl (3, [some (some 37), some (some 120), some (some 121), some (some 122), none, none])) by decide +kernel)).trans rfl
theorem lw_m120 (G : qG) : mc G mu0 120 = cI G 6 := (mc_int (show lay 120 = some (.inr (0, 6, 0, 0)) by decide +kernel)).trans rfl
theorem lw_m121 (G : qG) : mc G mu0 121 = cI G 6 := (mc_int (show lay 121 = some (.inr (0, 6, 0, 0)) by decide +kernel)).trans rfl
theorem lw_m122 (G : qG) : mc G mu0 122 = cI G 64 := (mc_int (show lay 122 = some (.inr (0, 64, 0, 0)) by decide +kernel)).trans rfl
theorem lw_m123 (G : qG) : mc G mu0 123 = .inr (2, [rV G 37, rV G 124, .int 0, .int (nI 1), .int 0, .int 0]) := (mc_obj (show lay 123 = some (.inl (2, [some (some 37), some (some 124), none, none, none, none])) by decide +kernel)).trans rfl
theorem lw_m124 (G : qG) : mc G mu0 124 = cI G 9 := (mc_int (show lay 124 = some (.inr (0, 9, 0, 0)) by decide +kernel)).trans rfl
theorem lw_m125 (G : qG) : mc G mu0 125 = .inr (9, [rV G 37, rV G 126, rV G 128, rV G 129, .int 0, .int 0, .int 0]) := (mc_obj (show lay 125 = some (.inl (9, [some (some 37), some (some 126), some (some 128), some (some 129), none, none, none])) by decide +kernel)).trans rfl
theorem lw_m126 (G : qG) : mc G mu0 126 = .inr (4, [.int (nI 0), rV G 127]) := (mc_obj (show lay 126 = some (.inl (4, [none, some (some 127)])) by decide +kernel)).trans rfl
theorem lw_m127 (G : qG) : mc G mu0 127 = cI G 3 := (mc_int (show lay 127 = some (.inr (0, 3, 0, 0)) by decide +kernel)).trans rfl
theorem lw_m128 (G : qG) : mc G mu0 128 = cI G 6 := (mc_int (show lay 128 = some (.inr (0, 6, 0, 0)) by decide +kernel)).trans rfl
theorem lw_m129 (G : qG) : mc G mu0 129 = cI G 6 := (mc_int (show lay 129 = some (.inr (0, 6, 0, 0)) by decide +kernel)).trans rfl
theorem lw_m130 (G : qG) : mc G mu0 130 = rfE G 3 2 132 4 := (mc_ref (show lay 130 = some (.inr (3, 2, 132, 4)) by decide +kernel) (by decide) (by decide) (by decide)).trans rfl
theorem lw_m131 (G : qG) : mc G mu0 131 = .inl (qc G 1, 2, .inl (fun _ => 0)) := (mc_boo (show lay 131 = some (.inr (1, 2, 0, 0)) by decide +kernel)).trans rfl
theorem lw_m132 (G : qG) : mc G mu0 132 = .inr (5, [rV G 133, rV G 134, rV G 135, .int 0]) := (mc_obj (show lay 132 = some (.inl (5, [some (some 133), some (some 134), some (some 135), none])) by decide +kernel)).trans rfl
theorem lw_m133 (G : qG) : mc G mu0 133 = cI G 5 := (mc_int (show lay 133 = some (.inr (0, 5, 0, 0)) by decide +kernel)).trans rfl
theorem lw_m134 (G : qG) : mc G mu0 134 = cI G 6 := (mc_int (show lay 134 = some (.inr (0, 6, 0, 0)) by decide +kernel)).trans rfl
theorem lw_m135 (G : qG) : mc G mu0 135 = cI G 6 := (mc_int (show lay 135 = some (.inr (0, 6, 0, 0)) by decide +kernel)).trans rfl
theorem lw_m136 (G : qG) : mc G mu0 136 = .inr (5, [rV G 137, rV G 138, rV G 139, .int 0]) := (mc_obj (show lay 136 = some (.inl (5, [some (some 137), some (some 138), some (some 139), none])) by decide +kernel)).trans rfl
theorem lw_m137 (G : qG) : mc G mu0 137 = cI G 5 := (mc_int (show lay 137 = some (.inr (0, 5, 0, 0)) by decide +kernel)).trans rfl
theorem lw_m138 (G : qG) : mc G mu0 138 = cI G 6 := (mc_int (show lay 138 = some (.inr (0, 6, 0, 0)) by decide +kernel)).trans rfl
theorem lw_m139 (G : qG) : mc G mu0 139 = cI G 6 := (mc_int (show lay 139 = some (.inr (0, 6, 0, 0)) by decide +kernel)).trans rfl
theorem lw_m140 (G : qG) : mc G mu0 140 = .inr (11, [.int 0, .int 0, rV G 141, rV G 142, rV G 143, rV G 144, rV G 145, rV G 146, rV G 147, .int 0, .int 0, rV G 148, .int 0, .int 0, .int 0, .int 0, .int 0, .int 0, .int 0, .int 0, .int 0, .int 0, rV G 149, rV G 150, rV G 151, rV G 152, .int 0, rV G 153, rV G 154, .long 0, rV G 155, rV G 156]) := (mc_obj (show lay 140 = some (.inl (11, [none, none, some (some 141), some (some 142), some (some 143), some (some 144), some (some 145), some (some 146), some (some 147), none, none, some (some 148), none, none, none, none, none, none, none, none, none, none, some (some 149), some (some 150), some (some 151), some (some 152), none, some (some 153), some (some 154), some none, some (some 155), some (some 156)])) by decide +kernel)).trans rfl
theorem lw_m141 (G : qG) : mc G mu0 141 = cI G 7 := (mc_int (show lay 141 = some (.inr (0, 7, 0, 0)) by decide +kernel)).trans rfl
theorem lw_m142 (G : qG) : mc G mu0 142 = cI G 21 := (mc_int (show lay 142 = some (.inr (0, 21, 0, 0)) by decide +kernel)).trans rfl
theorem lw_m143 (G : qG) : mc G mu0 143 = cI G 5 := (mc_int (show lay 143 = some (.inr (0, 5, 0, 0)) by decide +kernel)).trans rfl
theorem lw_m144 (G : qG) : mc G mu0 144 = cI G 5 := (mc_int (show lay 144 = some (.inr (0, 5, 0, 0)) by decide +kernel)).trans rfl
theorem lw_m145 (G : qG) : mc G mu0 145 = cI G 36 := (mc_int (show lay 145 = some (.inr (0, 36, 0, 0)) by decide +kernel)).trans rfl
theorem lw_m146 (G : qG) : mc G mu0 146 = cI G 24 := (mc_int (show lay 146 = some (.inr (0, 24, 0, 0)) by decide +kernel)).trans rfl
theorem lw_m147 (G : qG) : mc G mu0 147 = cI G 10 := (mc_int (show lay 147 = some (.inr (0, 10, 0, 0)) by decide +kernel)).trans rfl
theorem lw_m148 (G : qG) : mc G mu0 148 = cI G 52 := (mc_int (show lay 148 = some (.inr (0, 52, 0, 0)) by decide +kernel)).trans rfl
theorem lw_m149 (G : qG) : mc G mu0 149 = cI G 252 := (mc_int (show lay 149 = some (.inr (0, 252, 0, 0)) by decide +kernel)).trans rfl
theorem lw_m150 (G : qG) : mc G mu0 150 = cI G 6 := (mc_int (show lay 150 = some (.inr (0, 6, 0, 0)) by decide +kernel)).trans rfl
theorem lw_m151 (G : qG) : mc G mu0 151 = cI G 6 := (mc_int (show lay 151 = some (.inr (0, 6, 0, 0)) by decide +kernel)).trans rfl
theorem lw_m152 (G : qG) : mc G mu0 152 = cI G 6 := (mc_int (show lay 152 = some (.inr (0, 6, 0, 0)) by decide +kernel)).trans rfl
theorem lw_m153 (G : qG) : mc G mu0 153 = cI G 6 := (mc_int (show lay 153 = some (.inr (0, 6, 0, 0)) by decide +kernel)).trans rfl
theorem lw_m154 (G : qG) : mc G mu0 154 = cI G 6 := (mc_int (show lay 154 = some (.inr (0, 6, 0, 0)) by decide +kernel)).trans rfl
theorem lw_m155 (G : qG) : mc G mu0 155 = .inl (qc G 1, 2, .inl (fun _ => 0)) := (mc_boo (show lay 155 = some (.inr (1, 2, 0, 0)) by decide +kernel)).trans rfl
theorem lw_m156 (G : qG) : mc G mu0 156 = cI G 36 := (mc_int (show lay 156 = some (.inr (0, 36, 0, 0)) by decide +kernel)).trans rfl
theorem lw_l_bF (G : qG) (b : Nat) : (bF G b).length = 2 := rfl
theorem lw_l_bH (G : qG) (b : Nat) : (bH G b).length = 4 := rfl
theorem lw_l_bR (G : qG) (b : Nat) : (bR G b).length = 16 := by simp only [bR, bF, bH, List.length_append, List.length_cons, List.length_nil, List.length_replicate]
theorem lw_l_bB (G : qG) (b : Nat) : (bB G b).length = 2 := rfl
theorem lw_l_bD (G : qG) (r : Nat) (b : Nat) : (bD G r b).length = 1 := rfl
theorem lw_l_bS (G : qG) (r o : Nat) (b : Nat) : (bS G r o b).length = 12 := by simp only [bS, bF, bH, List.length_append, List.length_cons, List.length_nil, List.length_replicate]
theorem lw_l_bA (G : qG) (b : Nat) : (bA G b).length = 58 := by simp only [bA, bF, bH, List.length_append, List.length_cons, List.length_nil, List.length_replicate]
theorem lw_l_bC (G : qG) (r : Nat) (b : Nat) : (bC G r b).length = 4 := rfl
theorem lw_l_bN (G : qG) (r : Nat) (b : Nat) : (bN G r b).length = 2 := rfl
theorem lw_l_bM (G : qG) (r : Nat) (b : Nat) : (bM G r b).length = 5 := rfl
theorem lw_l_bY (G : qG) (b : Nat) : (bY G b).length = 17 := by simp only [bY, bF, bH, List.length_append, List.length_cons, List.length_nil, List.length_replicate]
theorem lw_lenX (G : qG) : (bX G 0).length = 140 := by simp only [bX, lw_l_bH, lw_l_bR, lw_l_bB, lw_l_bD, lw_l_bS, lw_l_bA, lw_l_bC, lw_l_bN, lw_l_bM, List.length_append, List.length_cons, List.length_nil]
theorem lw_rep (e : va_E) : List.replicate 6 e = [e, e, e, e, e, e] := rfl
theorem lw_rng : ([0, 1, 2, 3, 4, 5, 6, 7, 8, 9, 10, 11, 12, 13, 14, 15, 16, 17, 18, 19, 20, 21, 22, 23, 24, 25, 26, 27, 28, 29, 30, 31, 32, 33, 34, 35, 36, 37, 38, 39, 40, 41, 42, 43, 44, 45, 46, 47, 48, 49, 50, 51, 52, 53, 54, 55, 56, 57, 58, 59, 60, 61, 62, 63, 64, 65, 66, 67, 68, 69, 70, 71, 72, 73, 74, 75, 76, 77, 78, 79, 80, 81, 82, 83, 84, 85, 86, 87, 88, 89, 90, 91, 92, 93, 94, 95, 96, 97, 98, 99, 100, 101, 102, 103, 104, 105, 106, 107, 108, 109, 110, 111, 112, 113, 114, 115, 116, 117, 118, 119, 120, 121, 122, 123, 124, 125, 126, 127, 128, 129, 130, 131, 132, 133, 134, 135, 136, 137, 138, 139, 140, 141, 142, 143, 144, 145, 146, 147, 148, 149, 150, 151, 152, 153, 154, 155, 156] : List Nat) = List.range 157 := by decide +kernel
set_option maxHeartbeats 20000000 in
theorem lw_cells (G : qG) : bX G 0 ++ bY G 140 = List.map (mc G mu0) [0, 1, 2, 3, 4, 5, 6, 7, 8, 9, 10, 11, 12, 13, 14, 15, 16, 17, 18, 19, 20, 21, 22, 23, 24, 25, 26, 27, 28, 29, 30, 31, 32, 33, 34, 35, 36, 37, 38, 39, 40, 41, 42, 43, 44, 45, 46, 47, 48, 49, 50, 51, 52, 53, 54, 55, 56, 57, 58, 59, 60, 61, 62, 63, 64, 65, 66, 67, 68, 69, 70, 71, 72, 73, 74, 75, 76, 77, 78, 79, 80, 81, 82, 83, 84, 85, 86, 87, 88, 89, 90, 91, 92, 93, 94, 95, 96, 97, 98, 99, 100, 101, 102, 103, 104, 105, 106, 107, 108, 109, 110, 111, 112, 113, 114, 115, 116, 117, 118, 119, 120, 121, 122, 123, 124, 125, 126, 127, 128, 129, 130, 131, 132, 133, 134, 135, 136, 137, 138, 139, 140, 141, 142, 143, 144, 145, 146, 147, 148, 149, 150, 151, 152, 153, 154, 155, 156] := by
  simp only [List.map_cons, List.map_nil, lw_m0, lw_m1, lw_m2, lw_m3, lw_m4, lw_m5, lw_m6, lw_m7, lw_m8, lw_m9, lw_m10, lw_m11, lw_m12, lw_m13, lw_m14, lw_m15, lw_m16, lw_m17, lw_m18, lw_m19, lw_m20, lw_m21, lw_m22, lw_m23, lw_m24, lw_m25, lw_m26, lw_m27, lw_m28, lw_m29, lw_m30, lw_m31, lw_m32, lw_m33, lw_m34, lw_m35, lw_m36, lw_m37, lw_m38, lw_m39, lw_m40, lw_m41, lw_m42, lw_m43, lw_m44, lw_m45, lw_m46, lw_m47, lw_m48, lw_m49, lw_m50, lw_m51, lw_m52, lw_m53, lw_m54, lw_m55, lw_m56, lw_m57, lw_m58, lw_m59, lw_m60, lw_m61, lw_m62, lw_m63, lw_m64, lw_m65, lw_m66, lw_m67, lw_m68, lw_m69, lw_m70, lw_m71, lw_m72, lw_m73, lw_m74, lw_m75, lw_m76, lw_m77, lw_m78, lw_m79, lw_m80, lw_m81, lw_m82, lw_m83, lw_m84, lw_m85, lw_m86, lw_m87, lw_m88, lw_m89, lw_m90, lw_m91, lw_m92, lw_m93, lw_m94, lw_m95, lw_m96, lw_m97, lw_m98, lw_m99, lw_m100, lw_m101, lw_m102, lw_m103, lw_m104, lw_m105, lw_m106, lw_m107, lw_m108, lw_m109, lw_m110, lw_m111, lw_m112, lw_m113, lw_m114, lw_m115, lw_m116, lw_m117, lw_m118, lw_m119, lw_m120, lw_m121, lw_m122, lw_m123, lw_m124, lw_m125, lw_m126, lw_m127, lw_m128, lw_m129, lw_m130, lw_m131, lw_m132, lw_m133, lw_m134, lw_m135, lw_m136, lw_m137, lw_m138, lw_m139, lw_m140, lw_m141, lw_m142, lw_m143, lw_m144, lw_m145, lw_m146, lw_m147, lw_m148, lw_m149, lw_m150, lw_m151, lw_m152, lw_m153, lw_m154, lw_m155, lw_m156]
  simp only [bX, bY, bR, bF, bD, bB, bS, bH, bA, bC, bN, bM, lw_rep, List.cons_append, List.nil_append, List.append_assoc, Nat.zero_add, Nat.reduceAdd]
theorem lw_h0 (G : qG) : ∀ i, i < 157 → hL (bX G 0 ++ bY G 140) i = mc G mu0 i := by
  intro i hi
  rw [lw_cells, lw_rng]
  unfold hL
  rw [List.getD_eq_getElem?_getD, List.getElem?_map, List.getElem?_range hi]
  rfl

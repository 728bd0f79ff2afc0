/-! methods: name, bytes, locals, type, room; what a call needs of the tables -/
theorem mg {w : Cond} (i : Nat) (h : tables_1[i]? = some w) (hg : goodWord w = true) : w ∈ lw_gd := List.mem_filter.mpr ⟨List.mem_append_right _ (List.mem_of_getElem? h), hg⟩
theorem mgp {w : Cond} (i : Nat) (h : (k2_sels lw_privs)[i]? = some w) (hg : goodWord w = true) : w ∈ lw_gd := List.mem_filter.mpr ⟨List.mem_append_left _ (List.mem_of_getElem? h), hg⟩
theorem mt {w : Cond} (i : Nat) (h : tables_1[i]? = some w) : w ∈ lw_tbl := List.mem_append_right _ (List.mem_of_getElem? h)
theorem w_ini_0 : Cond.initialized RX0 ∈ lw_gd := mg 8 (by decide +kernel) (by decide +kernel)
theorem w_ini_1 : Cond.initialized RX1 ∈ lw_gd := mg 5 (by decide +kernel) (by decide +kernel)
theorem w_ini_2 : Cond.initialized RX2 ∈ lw_gd := mg 10 (by decide +kernel) (by decide +kernel)
theorem w_ini_3 : Cond.initialized RX3 ∈ lw_gd := mg 9 (by decide +kernel) (by decide +kernel)
theorem w_ini_4 : Cond.initialized RX4 ∈ lw_gd := mg 3 (by decide +kernel) (by decide +kernel)
theorem w_ini_5 : Cond.initialized RX5 ∈ lw_gd := mg 7 (by decide +kernel) (by decide +kernel)
theorem w_ini_6 : Cond.initialized RX6 ∈ lw_gd := mg 4 (by decide +kernel) (by decide +kernel)
theorem w_ini_7 : Cond.initialized RX7 ∈ lw_gd := mg 2 (by decide +kernel) (by decide +kernel)
theorem w_ini_8 : Cond.initialized RX8 ∈ lw_gd := mg 6 (by decide +kernel) (by decide +kernel)
theorem w_ini_9 : Cond.initialized RX9 ∈ lw_gd := mg 11 (by decide +kernel) (by decide +kernel)
theorem w_ini_10 : Cond.initialized RX10 ∈ lw_gd := mg 1 (by decide +kernel) (by decide +kernel)
theorem w_ini_11 : Cond.initialized RX11 ∈ lw_gd := mg 12 (by decide +kernel) (by decide +kernel)
theorem w_ini_J6 : Cond.initialized RJ6 ∈ lw_gd := mg 16 (by decide +kernel) (by decide +kernel)
theorem w_ini_J7 : Cond.initialized RJ7 ∈ lw_gd := mg 15 (by decide +kernel) (by decide +kernel)
def rm_X10_init : Room := { frames := 3, cells := 139, slots := 781, locals := 62 }
def M_X10_init : qMI := (yX10_init, cX10_init, 2, none, rm_X10_init)
theorem f_X10_init : qMc M_X10_init 0 := ⟨mg 21 (by decide +kernel) (by decide +kernel), mg 20 (by decide +kernel) (by decide +kernel), w_ini_10, rfl, rfl, ⟨by decide +kernel, by decide +kernel, by decide +kernel⟩⟩
def rm_X10_write : Room := { frames := 0, cells := 0, slots := 0, locals := 0 }
def M_X10_write : qMI := (yX10_write, cX10_write, 2, (some .int), rm_X10_write)
theorem f_X10_write : qMV M_X10_write 10 1 := ⟨mg 348 (by decide +kernel) (by decide +kernel), mg 346 (by decide +kernel) (by decide +kernel), mg 347 (by decide +kernel) (by decide +kernel), w_ini_10, by decide, rfl, ⟨by decide +kernel, by decide +kernel, by decide +kernel⟩⟩
def rm_X10_wipe : Room := { frames := 0, cells := 0, slots := 0, locals := 0 }
def M_X10_wipe : qMI := (yX10_wipe, cX10_wipe, 2, (some .int), rm_X10_wipe)
theorem f_X10_wipe : qMV M_X10_wipe 10 0 := ⟨mg 352 (by decide +kernel) (by decide +kernel), mg 350 (by decide +kernel) (by decide +kernel), mg 351 (by decide +kernel) (by decide +kernel), w_ini_10, by decide, rfl, ⟨by decide +kernel, by decide +kernel, by decide +kernel⟩⟩
def rm_X10_fault : Room := { frames := 4, cells := 0, slots := 0, locals := 86 }
def M_X10_fault : qMI := (yX10_fault, cX10_fault, 1, (some .int), rm_X10_fault)
theorem f_X10_fault : qMV M_X10_fault 10 0 := ⟨mg 356 (by decide +kernel) (by decide +kernel), mg 354 (by decide +kernel) (by decide +kernel), mg 355 (by decide +kernel) (by decide +kernel), w_ini_10, by decide, rfl, ⟨by decide +kernel, by decide +kernel, by decide +kernel⟩⟩
def rm_X10_bazaar : Room := { frames := 4, cells := 0, slots := 0, locals := 86 }
def M_X10_bazaar : qMI := (yX10_bazaar, cX10_bazaar, 2, (some .int), rm_X10_bazaar)
theorem f_X10_bazaar : qMV M_X10_bazaar 10 0 := ⟨mg 395 (by decide +kernel) (by decide +kernel), mg 393 (by decide +kernel) (by decide +kernel), mg 394 (by decide +kernel) (by decide +kernel), w_ini_10, by decide, rfl, ⟨by decide +kernel, by decide +kernel, by decide +kernel⟩⟩
def rm_X10_fencer : Room := { frames := 4, cells := 0, slots := 0, locals := 100 }
def M_X10_fencer : qMI := (yX10_fencer, cX10_fencer, 3, (some .int), rm_X10_fencer)
theorem f_X10_fencer : qMV M_X10_fencer 10 2 := ⟨mg 420 (by decide +kernel) (by decide +kernel), mg 418 (by decide +kernel) (by decide +kernel), mg 419 (by decide +kernel) (by decide +kernel), w_ini_10, by decide, rfl, ⟨by decide +kernel, by decide +kernel, by decide +kernel⟩⟩
def rm_X10_good : Room := { frames := 1, cells := 0, slots := 0, locals := 21 }
def M_X10_good : qMI := (yX10_good, cX10_good, 3, (some .int), rm_X10_good)
theorem f_X10_good : qMV M_X10_good 10 2 := ⟨mg 460 (by decide +kernel) (by decide +kernel), mg 458 (by decide +kernel) (by decide +kernel), mg 459 (by decide +kernel) (by decide +kernel), w_ini_10, by decide, rfl, ⟨by decide +kernel, by decide +kernel, by decide +kernel⟩⟩
def rm_X10_bout : Room := { frames := 3, cells := 0, slots := 0, locals := 78 }
def M_X10_bout : qMI := (yX10_bout, cX10_bout, 5, (some .int), rm_X10_bout)
theorem f_X10_bout : qMV M_X10_bout 10 3 := ⟨mg 468 (by decide +kernel) (by decide +kernel), mg 466 (by decide +kernel) (by decide +kernel), mg 467 (by decide +kernel) (by decide +kernel), w_ini_10, by decide, rfl, ⟨by decide +kernel, by decide +kernel, by decide +kernel⟩⟩
def rm_X10_cost : Room := { frames := 4, cells := 0, slots := 0, locals := 100 }
def M_X10_cost : qMI := (yX10_cost, cX10_cost, 4, (some .int), rm_X10_cost)
theorem f_X10_cost : qMV M_X10_cost 10 2 := ⟨mg 477 (by decide +kernel) (by decide +kernel), mg 475 (by decide +kernel) (by decide +kernel), mg 476 (by decide +kernel) (by decide +kernel), w_ini_10, by decide, rfl, ⟨by decide +kernel, by decide +kernel, by decide +kernel⟩⟩
def rm_X10_meet : Room := { frames := 5, cells := 0, slots := 0, locals := 124 }
def M_X10_meet : qMI := (yX10_meet, cX10_meet, 4, (some .int), rm_X10_meet)
theorem f_X10_meet : qMV M_X10_meet 10 2 := ⟨mg 492 (by decide +kernel) (by decide +kernel), mg 490 (by decide +kernel) (by decide +kernel), mg 491 (by decide +kernel) (by decide +kernel), w_ini_10, by decide, rfl, ⟨by decide +kernel, by decide +kernel, by decide +kernel⟩⟩
def rm_X10_step : Room := { frames := 3, cells := 0, slots := 0, locals := 82 }
def M_X10_step : qMI := (yX10_step, cX10_step, 2, (some .int), rm_X10_step)
theorem f_X10_step : qMV M_X10_step 10 1 := ⟨mg 524 (by decide +kernel) (by decide +kernel), mg 522 (by decide +kernel) (by decide +kernel), mg 523 (by decide +kernel) (by decide +kernel), w_ini_10, by decide, rfl, ⟨by decide +kernel, by decide +kernel, by decide +kernel⟩⟩
def rm_X10_salute : Room := { frames := 3, cells := 0, slots := 0, locals := 82 }
def M_X10_salute : qMI := (yX10_salute, cX10_salute, 3, (some .int), rm_X10_salute)
theorem f_X10_salute : qMV M_X10_salute 10 2 := ⟨mg 529 (by decide +kernel) (by decide +kernel), mg 527 (by decide +kernel) (by decide +kernel), mg 528 (by decide +kernel) (by decide +kernel), w_ini_10, by decide, rfl, ⟨by decide +kernel, by decide +kernel, by decide +kernel⟩⟩
def rm_X10_undo : Room := { frames := 3, cells := 0, slots := 0, locals := 82 }
def M_X10_undo : qMI := (yX10_undo, cX10_undo, 1, (some .int), rm_X10_undo)
theorem f_X10_undo : qMV M_X10_undo 10 0 := ⟨mg 534 (by decide +kernel) (by decide +kernel), mg 532 (by decide +kernel) (by decide +kernel), mg 533 (by decide +kernel) (by decide +kernel), w_ini_10, by decide, rfl, ⟨by decide +kernel, by decide +kernel, by decide +kernel⟩⟩
def rm_X10_chain : Room := { frames := 5, cells := 0, slots := 0, locals := 126 }
def M_X10_chain : qMI := (yX10_chain, cX10_chain, 4, (some .int), rm_X10_chain)
theorem f_X10_chain : qMV M_X10_chain 10 3 := ⟨mg 542 (by decide +kernel) (by decide +kernel), mg 540 (by decide +kernel) (by decide +kernel), mg 541 (by decide +kernel) (by decide +kernel), w_ini_10, by decide, rfl, ⟨by decide +kernel, by decide +kernel, by decide +kernel⟩⟩
def rm_X10_order : Room := { frames := 5, cells := 0, slots := 0, locals := 123 }
def M_X10_order : qMI := (yX10_order, cX10_order, 2, (some .int), rm_X10_order)
theorem f_X10_order : qMV M_X10_order 10 1 := ⟨mg 565 (by decide +kernel) (by decide +kernel), mg 563 (by decide +kernel) (by decide +kernel), mg 564 (by decide +kernel) (by decide +kernel), w_ini_10, by decide, rfl, ⟨by decide +kernel, by decide +kernel, by decide +kernel⟩⟩
def rm_X10_judge : Room := { frames := 6, cells := 0, slots := 0, locals := 147 }
def M_X10_judge : qMI := (yX10_judge, cX10_judge, 6, (some .int), rm_X10_judge)
theorem f_X10_judge : qMV M_X10_judge 10 2 := ⟨mg 599 (by decide +kernel) (by decide +kernel), mg 597 (by decide +kernel) (by decide +kernel), mg 598 (by decide +kernel) (by decide +kernel), w_ini_10, by decide, rfl, ⟨by decide +kernel, by decide +kernel, by decide +kernel⟩⟩
def rm_X10_see : Room := { frames := 1, cells := 0, slots := 0, locals := 22 }
def M_X10_see : qMI := (yX10_see, cX10_see, 3, (some .int), rm_X10_see)
theorem f_X10_see : qMV M_X10_see 10 2 := ⟨mg 618 (by decide +kernel) (by decide +kernel), mg 616 (by decide +kernel) (by decide +kernel), mg 617 (by decide +kernel) (by decide +kernel), w_ini_10, by decide, rfl, ⟨by decide +kernel, by decide +kernel, by decide +kernel⟩⟩
def rm_X10_unsee : Room := { frames := 0, cells := 0, slots := 0, locals := 0 }
def M_X10_unsee : qMI := (yX10_unsee, cX10_unsee, 2, (some .int), rm_X10_unsee)
theorem f_X10_unsee : qMV M_X10_unsee 10 0 := ⟨mg 626 (by decide +kernel) (by decide +kernel), mg 624 (by decide +kernel) (by decide +kernel), mg 625 (by decide +kernel) (by decide +kernel), w_ini_10, by decide, rfl, ⟨by decide +kernel, by decide +kernel, by decide +kernel⟩⟩
def rm_X10_masks : Room := { frames := 4, cells := 0, slots := 0, locals := 99 }
def M_X10_masks : qMI := (yX10_masks, cX10_masks, 2, (some .int), rm_X10_masks)
theorem f_X10_masks : qMV M_X10_masks 10 1 := ⟨mg 630 (by decide +kernel) (by decide +kernel), mg 628 (by decide +kernel) (by decide +kernel), mg 629 (by decide +kernel) (by decide +kernel), w_ini_10, by decide, rfl, ⟨by decide +kernel, by decide +kernel, by decide +kernel⟩⟩
def rm_X10_share : Room := { frames := 5, cells := 0, slots := 0, locals := 124 }
def M_X10_share : qMI := (yX10_share, cX10_share, 3, (some .int), rm_X10_share)
theorem f_X10_share : qMV M_X10_share 10 2 := ⟨mg 645 (by decide +kernel) (by decide +kernel), mg 643 (by decide +kernel) (by decide +kernel), mg 644 (by decide +kernel) (by decide +kernel), w_ini_10, by decide, rfl, ⟨by decide +kernel, by decide +kernel, by decide +kernel⟩⟩
def rm_X10_rests : Room := { frames := 4, cells := 0, slots := 0, locals := 104 }
def M_X10_rests : qMI := (yX10_rests, cX10_rests, 5, (some .int), rm_X10_rests)
theorem f_X10_rests : qMV M_X10_rests 10 3 := ⟨mg 666 (by decide +kernel) (by decide +kernel), mg 664 (by decide +kernel) (by decide +kernel), mg 665 (by decide +kernel) (by decide +kernel), w_ini_10, by decide, rfl, ⟨by decide +kernel, by decide +kernel, by decide +kernel⟩⟩
def rm_X10_clouded : Room := { frames := 3, cells := 0, slots := 0, locals := 80 }
def M_X10_clouded : qMI := (yX10_clouded, cX10_clouded, 6, (some .int), rm_X10_clouded)
theorem f_X10_clouded : qMV M_X10_clouded 10 4 := ⟨mg 684 (by decide +kernel) (by decide +kernel), mg 682 (by decide +kernel) (by decide +kernel), mg 683 (by decide +kernel) (by decide +kernel), w_ini_10, by decide, rfl, ⟨by decide +kernel, by decide +kernel, by decide +kernel⟩⟩
def rm_X10_seed : Room := { frames := 0, cells := 0, slots := 0, locals := 0 }
def M_X10_seed : qMI := (yX10_seed, cX10_seed, 5, (some .long), rm_X10_seed)
theorem f_X10_seed : qMV M_X10_seed 10 1 := ⟨mg 699 (by decide +kernel) (by decide +kernel), mg 697 (by decide +kernel) (by decide +kernel), mg 698 (by decide +kernel) (by decide +kernel), w_ini_10, by decide, rfl, ⟨by decide +kernel, by decide +kernel, by decide +kernel⟩⟩
def rm_X10_feasts : Room := { frames := 6, cells := 0, slots := 0, locals := 145 }
def M_X10_feasts : qMI := (yX10_feasts, cX10_feasts, 4, (some .int), rm_X10_feasts)
theorem f_X10_feasts : qMV M_X10_feasts 10 1 := ⟨mg 703 (by decide +kernel) (by decide +kernel), mg 701 (by decide +kernel) (by decide +kernel), mg 702 (by decide +kernel) (by decide +kernel), w_ini_10, by decide, rfl, ⟨by decide +kernel, by decide +kernel, by decide +kernel⟩⟩
def rm_X10_keep : Room := { frames := 2, cells := 0, slots := 0, locals := 61 }
def M_X10_keep : qMI := (yX10_keep, cX10_keep, 2, (some .int), rm_X10_keep)
theorem f_X10_keep : qMV M_X10_keep 10 1 := ⟨mg 719 (by decide +kernel) (by decide +kernel), mg 717 (by decide +kernel) (by decide +kernel), mg 718 (by decide +kernel) (by decide +kernel), w_ini_10, by decide, rfl, ⟨by decide +kernel, by decide +kernel, by decide +kernel⟩⟩
def rm_X10_again : Room := { frames := 2, cells := 0, slots := 0, locals := 61 }
def M_X10_again : qMI := (yX10_again, cX10_again, 2, (some .int), rm_X10_again)
theorem f_X10_again : qMV M_X10_again 10 1 := ⟨mg 723 (by decide +kernel) (by decide +kernel), mg 721 (by decide +kernel) (by decide +kernel), mg 722 (by decide +kernel) (by decide +kernel), w_ini_10, by decide, rfl, ⟨by decide +kernel, by decide +kernel, by decide +kernel⟩⟩
def rm_X10_count : Room := { frames := 4, cells := 0, slots := 0, locals := 100 }
def M_X10_count : qMI := (yX10_count, cX10_count, 2, (some .int), rm_X10_count)
theorem f_X10_count : qMV M_X10_count 10 1 := ⟨mg 727 (by decide +kernel) (by decide +kernel), mg 725 (by decide +kernel) (by decide +kernel), mg 726 (by decide +kernel) (by decide +kernel), w_ini_10, by decide, rfl, ⟨by decide +kernel, by decide +kernel, by decide +kernel⟩⟩
def rm_X10_refusalOfPair : Room := { frames := 1, cells := 0, slots := 0, locals := 21 }
def M_X10_refusalOfPair : qMI := (yX10_refusalOfPair, cX10_refusalOfPair, 5, (some .int), rm_X10_refusalOfPair)
theorem f_X10_refusalOfPair : qMV M_X10_refusalOfPair 10 4 := ⟨mg 472 (by decide +kernel) (by decide +kernel), mg 471 (by decide +kernel) (by decide +kernel), mgp 6 (by decide +kernel) (by decide +kernel), w_ini_10, by decide, rfl, ⟨by decide +kernel, by decide +kernel, by decide +kernel⟩⟩
def rm_X10_refusalOfTrade : Room := { frames := 1, cells := 0, slots := 0, locals := 21 }
def M_X10_refusalOfTrade : qMI := (yX10_refusalOfTrade, cX10_refusalOfTrade, 3, (some .int), rm_X10_refusalOfTrade)
theorem f_X10_refusalOfTrade : qMV M_X10_refusalOfTrade 10 2 := ⟨mg 481 (by decide +kernel) (by decide +kernel), mg 480 (by decide +kernel) (by decide +kernel), mgp 7 (by decide +kernel) (by decide +kernel), w_ini_10, by decide, rfl, ⟨by decide +kernel, by decide +kernel, by decide +kernel⟩⟩
def rm_X10_sumOf : Room := { frames := 0, cells := 0, slots := 0, locals := 0 }
def M_X10_sumOf : qMI := (yX10_sumOf, cX10_sumOf, 3, (some .int), rm_X10_sumOf)
theorem f_X10_sumOf : qMS M_X10_sumOf 1 := ⟨mg 730 (by decide +kernel) (by decide +kernel), mg 729 (by decide +kernel) (by decide +kernel), w_ini_10, ⟨by decide +kernel, by decide +kernel, by decide +kernel⟩⟩
def rm_X11_init : Room := { frames := 1, cells := 16, slots := 480, locals := 20 }
def M_X11_init : qMI := (yX11_init, cX11_init, 1, none, rm_X11_init)
theorem f_X11_init : qMc M_X11_init 0 := ⟨mg 740 (by decide +kernel) (by decide +kernel), mg 739 (by decide +kernel) (by decide +kernel), w_ini_11, rfl, rfl, ⟨by decide +kernel, by decide +kernel, by decide +kernel⟩⟩
def rm_X11_in : Room := { frames := 0, cells := 0, slots := 0, locals := 0 }
def M_X11_in : qMI := (yX11_in, cX11_in, 6, (some .boolean), rm_X11_in)
theorem f_X11_in : qMS M_X11_in 3 := ⟨mg 846 (by decide +kernel) (by decide +kernel), mg 845 (by decide +kernel) (by decide +kernel), w_ini_11, ⟨by decide +kernel, by decide +kernel, by decide +kernel⟩⟩
def rm_X11_has : Room := { frames := 0, cells := 0, slots := 0, locals := 0 }
def M_X11_has : qMI := (yX11_has, cX11_has, 2, (some .boolean), rm_X11_has)
theorem f_X11_has : qMS M_X11_has 2 := ⟨mg 996 (by decide +kernel) (by decide +kernel), mg 995 (by decide +kernel) (by decide +kernel), w_ini_11, ⟨by decide +kernel, by decide +kernel, by decide +kernel⟩⟩
def rm_X11_ones : Room := { frames := 0, cells := 0, slots := 0, locals := 0 }
def M_X11_ones : qMI := (yX11_ones, cX11_ones, 3, (some .int), rm_X11_ones)
theorem f_X11_ones : qMS M_X11_ones 1 := ⟨mg 1048 (by decide +kernel) (by decide +kernel), mg 1047 (by decide +kernel) (by decide +kernel), w_ini_11, ⟨by decide +kernel, by decide +kernel, by decide +kernel⟩⟩
def rm_X11_write : Room := { frames := 1, cells := 0, slots := 0, locals := 25 }
def M_X11_write : qMI := (yX11_write, cX11_write, 2, (some .int), rm_X11_write)
theorem f_X11_write : qMV M_X11_write 11 1 := ⟨mg 842 (by decide +kernel) (by decide +kernel), mg 840 (by decide +kernel) (by decide +kernel), mg 841 (by decide +kernel) (by decide +kernel), w_ini_11, by decide, rfl, ⟨by decide +kernel, by decide +kernel, by decide +kernel⟩⟩
def rm_X11_wipe : Room := { frames := 0, cells := 0, slots := 0, locals := 0 }
def M_X11_wipe : qMI := (yX11_wipe, cX11_wipe, 2, (some .int), rm_X11_wipe)
theorem f_X11_wipe : qMV M_X11_wipe 11 0 := ⟨mg 850 (by decide +kernel) (by decide +kernel), mg 848 (by decide +kernel) (by decide +kernel), mg 849 (by decide +kernel) (by decide +kernel), w_ini_11, by decide, rfl, ⟨by decide +kernel, by decide +kernel, by decide +kernel⟩⟩
def rm_X11_figureOf : Room := { frames := 1, cells := 0, slots := 0, locals := 25 }
def M_X11_figureOf : qMI := (yX11_figureOf, cX11_figureOf, 4, (some .int), rm_X11_figureOf)
theorem f_X11_figureOf : qMV M_X11_figureOf 11 1 := ⟨mg 866 (by decide +kernel) (by decide +kernel), mg 865 (by decide +kernel) (by decide +kernel), mgp 21 (by decide +kernel) (by decide +kernel), w_ini_11, by decide, rfl, ⟨by decide +kernel, by decide +kernel, by decide +kernel⟩⟩
def rm_X11_moveBy : Room := { frames := 0, cells := 0, slots := 0, locals := 0 }
def M_X11_moveBy : qMI := (yX11_moveBy, cX11_moveBy, 1, (some .int), rm_X11_moveBy)
theorem f_X11_moveBy : qMS M_X11_moveBy 1 := ⟨mg 873 (by decide +kernel) (by decide +kernel), mg 872 (by decide +kernel) (by decide +kernel), w_ini_11, ⟨by decide +kernel, by decide +kernel, by decide +kernel⟩⟩
def rm_X11_moveOf : Room := { frames := 1, cells := 0, slots := 0, locals := 20 }
def M_X11_moveOf : qMI := (yX11_moveOf, cX11_moveOf, 3, (some .int), rm_X11_moveOf)
theorem f_X11_moveOf : qMV M_X11_moveOf 11 0 := ⟨mg 870 (by decide +kernel) (by decide +kernel), mg 869 (by decide +kernel) (by decide +kernel), mgp 22 (by decide +kernel) (by decide +kernel), w_ini_11, by decide, rfl, ⟨by decide +kernel, by decide +kernel, by decide +kernel⟩⟩
def rm_X11_readText : Room := { frames := 3, cells := 0, slots := 0, locals := 70 }
def M_X11_readText : qMI := (yX11_readText, cX11_readText, 1, (some .int), rm_X11_readText)
theorem f_X11_readText : qMV M_X11_readText 11 0 := ⟨mg 858 (by decide +kernel) (by decide +kernel), mg 857 (by decide +kernel) (by decide +kernel), mgp 19 (by decide +kernel) (by decide +kernel), w_ini_11, by decide, rfl, ⟨by decide +kernel, by decide +kernel, by decide +kernel⟩⟩
def rm_X11_readPart : Room := { frames := 2, cells := 0, slots := 0, locals := 48 }
def M_X11_readPart : qMI := (yX11_readPart, cX11_readPart, 3, none, rm_X11_readPart)
theorem f_X11_readPart : qMV M_X11_readPart 11 1 := ⟨mg 862 (by decide +kernel) (by decide +kernel), mg 861 (by decide +kernel) (by decide +kernel), mgp 20 (by decide +kernel) (by decide +kernel), w_ini_11, by decide, rfl, ⟨by decide +kernel, by decide +kernel, by decide +kernel⟩⟩
def rm_X11_fault : Room := { frames := 4, cells := 0, slots := 0, locals := 90 }
def M_X11_fault : qMI := (yX11_fault, cX11_fault, 1, (some .int), rm_X11_fault)
theorem f_X11_fault : qMV M_X11_fault 11 0 := ⟨mg 854 (by decide +kernel) (by decide +kernel), mg 852 (by decide +kernel) (by decide +kernel), mg 853 (by decide +kernel) (by decide +kernel), w_ini_11, by decide, rfl, ⟨by decide +kernel, by decide +kernel, by decide +kernel⟩⟩
def rm_X11_bazaar : Room := { frames := 4, cells := 0, slots := 0, locals := 90 }
def M_X11_bazaar : qMI := (yX11_bazaar, cX11_bazaar, 3, (some .int), rm_X11_bazaar)
theorem f_X11_bazaar : qMV M_X11_bazaar 11 0 := ⟨mg 877 (by decide +kernel) (by decide +kernel), mg 875 (by decide +kernel) (by decide +kernel), mg 876 (by decide +kernel) (by decide +kernel), w_ini_11, by decide, rfl, ⟨by decide +kernel, by decide +kernel, by decide +kernel⟩⟩
def rm_X11_isFencer : Room := { frames := 1, cells := 0, slots := 0, locals := 25 }
def M_X11_isFencer : qMI := (yX11_isFencer, cX11_isFencer, 2, (some .boolean), rm_X11_isFencer)
theorem f_X11_isFencer : qMV M_X11_isFencer 11 1 := ⟨mg 885 (by decide +kernel) (by decide +kernel), mg 884 (by decide +kernel) (by decide +kernel), mgp 23 (by decide +kernel) (by decide +kernel), w_ini_11, by decide, rfl, ⟨by decide +kernel, by decide +kernel, by decide +kernel⟩⟩
def rm_X11_isGood : Room := { frames := 1, cells := 0, slots := 0, locals := 25 }
def M_X11_isGood : qMI := (yX11_isGood, cX11_isGood, 2, (some .boolean), rm_X11_isGood)
theorem f_X11_isGood : qMV M_X11_isGood 11 1 := ⟨mg 931 (by decide +kernel) (by decide +kernel), mg 930 (by decide +kernel) (by decide +kernel), mgp 32 (by decide +kernel) (by decide +kernel), w_ini_11, by decide, rfl, ⟨by decide +kernel, by decide +kernel, by decide +kernel⟩⟩
def rm_X11_answer : Room := { frames := 0, cells := 0, slots := 0, locals := 0 }
def M_X11_answer : qMI := (yX11_answer, cX11_answer, 1, (some .int), rm_X11_answer)
theorem f_X11_answer : qMS M_X11_answer 1 := ⟨mg 920 (by decide +kernel) (by decide +kernel), mg 919 (by decide +kernel) (by decide +kernel), w_ini_11, ⟨by decide +kernel, by decide +kernel, by decide +kernel⟩⟩
def rm_X11_moveIn : Room := { frames := 1, cells := 0, slots := 0, locals := 20 }
def M_X11_moveIn : qMI := (yX11_moveIn, cX11_moveIn, 6, (some .int), rm_X11_moveIn)
theorem f_X11_moveIn : qMV M_X11_moveIn 11 4 := ⟨mg 917 (by decide +kernel) (by decide +kernel), mg 916 (by decide +kernel) (by decide +kernel), mgp 31 (by decide +kernel) (by decide +kernel), w_ini_11, by decide, rfl, ⟨by decide +kernel, by decide +kernel, by decide +kernel⟩⟩
def rm_X11_hits : Room := { frames := 0, cells := 0, slots := 0, locals := 0 }
def M_X11_hits : qMI := (yX11_hits, cX11_hits, 2, (some .boolean), rm_X11_hits)
theorem f_X11_hits : qMS M_X11_hits 2 := ⟨mg 923 (by decide +kernel) (by decide +kernel), mg 922 (by decide +kernel) (by decide +kernel), w_ini_11, ⟨by decide +kernel, by decide +kernel, by decide +kernel⟩⟩
def rm_X11_pass : Room := { frames := 2, cells := 0, slots := 0, locals := 45 }
def M_X11_pass : qMI := (yX11_pass, cX11_pass, 11, none, rm_X11_pass)
theorem f_X11_pass : qMV M_X11_pass 11 5 := ⟨mg 913 (by decide +kernel) (by decide +kernel), mg 912 (by decide +kernel) (by decide +kernel), mgp 30 (by decide +kernel) (by decide +kernel), w_ini_11, by decide, rfl, ⟨by decide +kernel, by decide +kernel, by decide +kernel⟩⟩
def rm_X11_begin : Room := { frames := 0, cells := 0, slots := 0, locals := 0 }
def M_X11_begin : qMI := (yX11_begin, cX11_begin, 1, none, rm_X11_begin)
theorem f_X11_begin : qMV M_X11_begin 11 0 := ⟨mg 909 (by decide +kernel) (by decide +kernel), mg 908 (by decide +kernel) (by decide +kernel), mgp 29 (by decide +kernel) (by decide +kernel), w_ini_11, by decide, rfl, ⟨by decide +kernel, by decide +kernel, by decide +kernel⟩⟩
def rm_X11_fight : Room := { frames := 3, cells := 0, slots := 0, locals := 75 }
def M_X11_fight : qMI := (yX11_fight, cX11_fight, 5, none, rm_X11_fight)
theorem f_X11_fight : qMV M_X11_fight 11 4 := ⟨mg 905 (by decide +kernel) (by decide +kernel), mg 904 (by decide +kernel) (by decide +kernel), mgp 28 (by decide +kernel) (by decide +kernel), w_ini_11, by decide, rfl, ⟨by decide +kernel, by decide +kernel, by decide +kernel⟩⟩
def rm_X11_fightOn : Room := { frames := 4, cells := 0, slots := 0, locals := 99 }
def M_X11_fightOn : qMI := (yX11_fightOn, cX11_fightOn, 4, none, rm_X11_fightOn)
theorem f_X11_fightOn : qMV M_X11_fightOn 11 3 := ⟨mg 901 (by decide +kernel) (by decide +kernel), mg 900 (by decide +kernel) (by decide +kernel), mgp 27 (by decide +kernel) (by decide +kernel), w_ini_11, by decide, rfl, ⟨by decide +kernel, by decide +kernel, by decide +kernel⟩⟩
def rm_X11_beats : Room := { frames := 5, cells := 0, slots := 0, locals := 122 }
def M_X11_beats : qMI := (yX11_beats, cX11_beats, 4, (some .boolean), rm_X11_beats)
theorem f_X11_beats : qMV M_X11_beats 11 3 := ⟨mg 897 (by decide +kernel) (by decide +kernel), mg 896 (by decide +kernel) (by decide +kernel), mgp 26 (by decide +kernel) (by decide +kernel), w_ini_11, by decide, rfl, ⟨by decide +kernel, by decide +kernel, by decide +kernel⟩⟩
def rm_X11_beatenBy : Room := { frames := 6, cells := 0, slots := 0, locals := 145 }
def M_X11_beatenBy : qMI := (yX11_beatenBy, cX11_beatenBy, 4, (some .int), rm_X11_beatenBy)
theorem f_X11_beatenBy : qMV M_X11_beatenBy 11 1 := ⟨mg 893 (by decide +kernel) (by decide +kernel), mg 892 (by decide +kernel) (by decide +kernel), mgp 25 (by decide +kernel) (by decide +kernel), w_ini_11, by decide, rfl, ⟨by decide +kernel, by decide +kernel, by decide +kernel⟩⟩
def rm_X11_ownedBy : Room := { frames := 0, cells := 0, slots := 0, locals := 0 }
def M_X11_ownedBy : qMI := (yX11_ownedBy, cX11_ownedBy, 4, (some .int), rm_X11_ownedBy)
theorem f_X11_ownedBy : qMV M_X11_ownedBy 11 1 := ⟨mg 889 (by decide +kernel) (by decide +kernel), mg 888 (by decide +kernel) (by decide +kernel), mgp 24 (by decide +kernel) (by decide +kernel), w_ini_11, by decide, rfl, ⟨by decide +kernel, by decide +kernel, by decide +kernel⟩⟩
def rm_X11_fencer : Room := { frames := 7, cells := 0, slots := 0, locals := 168 }
def M_X11_fencer : qMI := (yX11_fencer, cX11_fencer, 3, (some .int), rm_X11_fencer)
theorem f_X11_fencer : qMV M_X11_fencer 11 2 := ⟨mg 881 (by decide +kernel) (by decide +kernel), mg 879 (by decide +kernel) (by decide +kernel), mg 880 (by decide +kernel) (by decide +kernel), w_ini_11, by decide, rfl, ⟨by decide +kernel, by decide +kernel, by decide +kernel⟩⟩
def rm_X11_good : Room := { frames := 2, cells := 0, slots := 0, locals := 46 }
def M_X11_good : qMI := (yX11_good, cX11_good, 3, (some .int), rm_X11_good)
theorem f_X11_good : qMV M_X11_good 11 2 := ⟨mg 927 (by decide +kernel) (by decide +kernel), mg 925 (by decide +kernel) (by decide +kernel), mg 926 (by decide +kernel) (by decide +kernel), w_ini_11, by decide, rfl, ⟨by decide +kernel, by decide +kernel, by decide +kernel⟩⟩
def rm_X11_bout : Room := { frames := 5, cells := 0, slots := 0, locals := 122 }
def M_X11_bout : qMI := (yX11_bout, cX11_bout, 4, (some .int), rm_X11_bout)
theorem f_X11_bout : qMV M_X11_bout 11 3 := ⟨mg 935 (by decide +kernel) (by decide +kernel), mg 933 (by decide +kernel) (by decide +kernel), mg 934 (by decide +kernel) (by decide +kernel), w_ini_11, by decide, rfl, ⟨by decide +kernel, by decide +kernel, by decide +kernel⟩⟩
def rm_X11_costFrom : Room := { frames := 5, cells := 0, slots := 0, locals := 122 }
def M_X11_costFrom : qMI := (yX11_costFrom, cX11_costFrom, 6, (some .int), rm_X11_costFrom)
theorem f_X11_costFrom : qMV M_X11_costFrom 11 4 := ⟨mg 944 (by decide +kernel) (by decide +kernel), mg 943 (by decide +kernel) (by decide +kernel), mgp 33 (by decide +kernel) (by decide +kernel), w_ini_11, by decide, rfl, ⟨by decide +kernel, by decide +kernel, by decide +kernel⟩⟩
def rm_X11_cost : Room := { frames := 6, cells := 0, slots := 0, locals := 147 }
def M_X11_cost : qMI := (yX11_cost, cX11_cost, 3, (some .int), rm_X11_cost)
theorem f_X11_cost : qMV M_X11_cost 11 2 := ⟨mg 940 (by decide +kernel) (by decide +kernel), mg 938 (by decide +kernel) (by decide +kernel), mg 939 (by decide +kernel) (by decide +kernel), w_ini_11, by decide, rfl, ⟨by decide +kernel, by decide +kernel, by decide +kernel⟩⟩
def rm_X11_keepAct : Room := { frames := 0, cells := 0, slots := 0, locals := 0 }
def M_X11_keepAct : qMI := (yX11_keepAct, cX11_keepAct, 2, none, rm_X11_keepAct)
theorem f_X11_keepAct : qMV M_X11_keepAct 11 0 := ⟨mg 952 (by decide +kernel) (by decide +kernel), mg 951 (by decide +kernel) (by decide +kernel), mgp 34 (by decide +kernel) (by decide +kernel), w_ini_11, by decide, rfl, ⟨by decide +kernel, by decide +kernel, by decide +kernel⟩⟩
def rm_X11_stepOn : Room := { frames := 0, cells := 0, slots := 0, locals := 0 }
def M_X11_stepOn : qMI := (yX11_stepOn, cX11_stepOn, 4, none, rm_X11_stepOn)
theorem f_X11_stepOn : qMV M_X11_stepOn 11 2 := ⟨mg 964 (by decide +kernel) (by decide +kernel), mg 963 (by decide +kernel) (by decide +kernel), mgp 37 (by decide +kernel) (by decide +kernel), w_ini_11, by decide, rfl, ⟨by decide +kernel, by decide +kernel, by decide +kernel⟩⟩
def rm_X11_giveOn : Room := { frames := 0, cells := 0, slots := 0, locals := 0 }
def M_X11_giveOn : qMI := (yX11_giveOn, cX11_giveOn, 5, none, rm_X11_giveOn)
theorem f_X11_giveOn : qMV M_X11_giveOn 11 3 := ⟨mg 960 (by decide +kernel) (by decide +kernel), mg 959 (by decide +kernel) (by decide +kernel), mgp 36 (by decide +kernel) (by decide +kernel), w_ini_11, by decide, rfl, ⟨by decide +kernel, by decide +kernel, by decide +kernel⟩⟩
def rm_X11_meetOn : Room := { frames := 6, cells := 0, slots := 0, locals := 147 }
def M_X11_meetOn : qMI := (yX11_meetOn, cX11_meetOn, 8, (some .boolean), rm_X11_meetOn)
theorem f_X11_meetOn : qMV M_X11_meetOn 11 3 := ⟨mg 956 (by decide +kernel) (by decide +kernel), mg 955 (by decide +kernel) (by decide +kernel), mgp 35 (by decide +kernel) (by decide +kernel), w_ini_11, by decide, rfl, ⟨by decide +kernel, by decide +kernel, by decide +kernel⟩⟩
def rm_X11_meet : Room := { frames := 7, cells := 0, slots := 0, locals := 174 }
def M_X11_meet : qMI := (yX11_meet, cX11_meet, 3, (some .int), rm_X11_meet)
theorem f_X11_meet : qMV M_X11_meet 11 2 := ⟨mg 948 (by decide +kernel) (by decide +kernel), mg 946 (by decide +kernel) (by decide +kernel), mg 947 (by decide +kernel) (by decide +kernel), w_ini_11, by decide, rfl, ⟨by decide +kernel, by decide +kernel, by decide +kernel⟩⟩
def rm_X11_step : Room := { frames := 2, cells := 0, slots := 0, locals := 46 }
def M_X11_step : qMI := (yX11_step, cX11_step, 2, (some .int), rm_X11_step)
theorem f_X11_step : qMV M_X11_step 11 1 := ⟨mg 968 (by decide +kernel) (by decide +kernel), mg 966 (by decide +kernel) (by decide +kernel), mg 967 (by decide +kernel) (by decide +kernel), w_ini_11, by decide, rfl, ⟨by decide +kernel, by decide +kernel, by decide +kernel⟩⟩
def rm_X11_salute : Room := { frames := 2, cells := 0, slots := 0, locals := 46 }
def M_X11_salute : qMI := (yX11_salute, cX11_salute, 3, (some .int), rm_X11_salute)
theorem f_X11_salute : qMV M_X11_salute 11 2 := ⟨mg 972 (by decide +kernel) (by decide +kernel), mg 970 (by decide +kernel) (by decide +kernel), mg 971 (by decide +kernel) (by decide +kernel), w_ini_11, by decide, rfl, ⟨by decide +kernel, by decide +kernel, by decide +kernel⟩⟩
def rm_X11_undo : Room := { frames := 0, cells := 0, slots := 0, locals := 0 }
def M_X11_undo : qMI := (yX11_undo, cX11_undo, 2, (some .int), rm_X11_undo)
theorem f_X11_undo : qMV M_X11_undo 11 0 := ⟨mg 977 (by decide +kernel) (by decide +kernel), mg 975 (by decide +kernel) (by decide +kernel), mg 976 (by decide +kernel) (by decide +kernel), w_ini_11, by decide, rfl, ⟨by decide +kernel, by decide +kernel, by decide +kernel⟩⟩
def rm_X11_sumsTo : Room := { frames := 6, cells := 0, slots := 0, locals := 147 }
def M_X11_sumsTo : qMI := (yX11_sumsTo, cX11_sumsTo, 7, none, rm_X11_sumsTo)
theorem f_X11_sumsTo : qMV M_X11_sumsTo 11 2 := ⟨mg 985 (by decide +kernel) (by decide +kernel), mg 984 (by decide +kernel) (by decide +kernel), mgp 38 (by decide +kernel) (by decide +kernel), w_ini_11, by decide, rfl, ⟨by decide +kernel, by decide +kernel, by decide +kernel⟩⟩
def rm_X11_chain : Room := { frames := 7, cells := 0, slots := 0, locals := 173 }
def M_X11_chain : qMI := (yX11_chain, cX11_chain, 8, (some .int), rm_X11_chain)
theorem f_X11_chain : qMV M_X11_chain 11 3 := ⟨mg 981 (by decide +kernel) (by decide +kernel), mg 979 (by decide +kernel) (by decide +kernel), mg 980 (by decide +kernel) (by decide +kernel), w_ini_11, by decide, rfl, ⟨by decide +kernel, by decide +kernel, by decide +kernel⟩⟩
def rm_X11_nextOrder : Room := { frames := 1, cells := 0, slots := 0, locals := 23 }
def M_X11_nextOrder : qMI := (yX11_nextOrder, cX11_nextOrder, 5, (some .boolean), rm_X11_nextOrder)
theorem f_X11_nextOrder : qMV M_X11_nextOrder 11 0 := ⟨mg 1004 (by decide +kernel) (by decide +kernel), mg 1003 (by decide +kernel) (by decide +kernel), mgp 41 (by decide +kernel) (by decide +kernel), w_ini_11, by decide, rfl, ⟨by decide +kernel, by decide +kernel, by decide +kernel⟩⟩
def rm_X11_swap : Room := { frames := 0, cells := 0, slots := 0, locals := 0 }
def M_X11_swap : qMI := (yX11_swap, cX11_swap, 4, none, rm_X11_swap)
theorem f_X11_swap : qMV M_X11_swap 11 2 := ⟨mg 1008 (by decide +kernel) (by decide +kernel), mg 1007 (by decide +kernel) (by decide +kernel), mgp 42 (by decide +kernel) (by decide +kernel), w_ini_11, by decide, rfl, ⟨by decide +kernel, by decide +kernel, by decide +kernel⟩⟩
def rm_X11_against : Room := { frames := 1, cells := 0, slots := 0, locals := 21 }
def M_X11_against : qMI := (yX11_against, cX11_against, 4, (some .int), rm_X11_against)
theorem f_X11_against : qMV M_X11_against 11 0 := ⟨mg 993 (by decide +kernel) (by decide +kernel), mg 992 (by decide +kernel) (by decide +kernel), mgp 39 (by decide +kernel) (by decide +kernel), w_ini_11, by decide, rfl, ⟨by decide +kernel, by decide +kernel, by decide +kernel⟩⟩
def rm_X11_figures : Room := { frames := 0, cells := 0, slots := 0, locals := 0 }
def M_X11_figures : qMI := (yX11_figures, cX11_figures, 3, (some .int), rm_X11_figures)
theorem f_X11_figures : qMV M_X11_figures 11 0 := ⟨mg 1000 (by decide +kernel) (by decide +kernel), mg 999 (by decide +kernel) (by decide +kernel), mgp 40 (by decide +kernel) (by decide +kernel), w_ini_11, by decide, rfl, ⟨by decide +kernel, by decide +kernel, by decide +kernel⟩⟩
def rm_X11_order : Room := { frames := 7, cells := 0, slots := 0, locals := 168 }
def M_X11_order : qMI := (yX11_order, cX11_order, 5, (some .int), rm_X11_order)
theorem f_X11_order : qMV M_X11_order 11 1 := ⟨mg 989 (by decide +kernel) (by decide +kernel), mg 987 (by decide +kernel) (by decide +kernel), mg 988 (by decide +kernel) (by decide +kernel), w_ini_11, by decide, rfl, ⟨by decide +kernel, by decide +kernel, by decide +kernel⟩⟩
def rm_X11_layTrial : Room := { frames := 0, cells := 0, slots := 0, locals := 0 }
def M_X11_layTrial : qMI := (yX11_layTrial, cX11_layTrial, 2, none, rm_X11_layTrial)
theorem f_X11_layTrial : qMV M_X11_layTrial 11 0 := ⟨mg 1021 (by decide +kernel) (by decide +kernel), mg 1020 (by decide +kernel) (by decide +kernel), mgp 43 (by decide +kernel) (by decide +kernel), w_ini_11, by decide, rfl, ⟨by decide +kernel, by decide +kernel, by decide +kernel⟩⟩
def rm_X11_tryThing : Room := { frames := 7, cells := 0, slots := 0, locals := 174 }
def M_X11_tryThing : qMI := (yX11_tryThing, cX11_tryThing, 6, (some .boolean), rm_X11_tryThing)
theorem f_X11_tryThing : qMV M_X11_tryThing 11 3 := ⟨mg 1025 (by decide +kernel) (by decide +kernel), mg 1024 (by decide +kernel) (by decide +kernel), mgp 44 (by decide +kernel) (by decide +kernel), w_ini_11, by decide, rfl, ⟨by decide +kernel, by decide +kernel, by decide +kernel⟩⟩
def rm_X11_thousandTo : Room := { frames := 0, cells := 0, slots := 0, locals := 0 }
def M_X11_thousandTo : qMI := (yX11_thousandTo, cX11_thousandTo, 4, (some .long), rm_X11_thousandTo)
theorem f_X11_thousandTo : qMS M_X11_thousandTo 1 := ⟨mg 1016 (by decide +kernel) (by decide +kernel), mg 1015 (by decide +kernel) (by decide +kernel), w_ini_11, ⟨by decide +kernel, by decide +kernel, by decide +kernel⟩⟩
def rm_X11_judge : Room := { frames := 8, cells := 0, slots := 0, locals := 199 }
def M_X11_judge : qMI := (yX11_judge, cX11_judge, 6, (some .int), rm_X11_judge)
theorem f_X11_judge : qMV M_X11_judge 11 2 := ⟨mg 1012 (by decide +kernel) (by decide +kernel), mg 1010 (by decide +kernel) (by decide +kernel), mg 1011 (by decide +kernel) (by decide +kernel), w_ini_11, by decide, rfl, ⟨by decide +kernel, by decide +kernel, by decide +kernel⟩⟩
def rm_X11_see : Room := { frames := 2, cells := 0, slots := 0, locals := 46 }
def M_X11_see : qMI := (yX11_see, cX11_see, 3, (some .int), rm_X11_see)
theorem f_X11_see : qMV M_X11_see 11 2 := ⟨mg 1029 (by decide +kernel) (by decide +kernel), mg 1027 (by decide +kernel) (by decide +kernel), mg 1028 (by decide +kernel) (by decide +kernel), w_ini_11, by decide, rfl, ⟨by decide +kernel, by decide +kernel, by decide +kernel⟩⟩
def rm_X11_unsee : Room := { frames := 0, cells := 0, slots := 0, locals := 0 }
def M_X11_unsee : qMI := (yX11_unsee, cX11_unsee, 2, (some .int), rm_X11_unsee)
theorem f_X11_unsee : qMV M_X11_unsee 11 0 := ⟨mg 1033 (by decide +kernel) (by decide +kernel), mg 1031 (by decide +kernel) (by decide +kernel), mg 1032 (by decide +kernel) (by decide +kernel), w_ini_11, by decide, rfl, ⟨by decide +kernel, by decide +kernel, by decide +kernel⟩⟩
def rm_X11_mayBeMask : Room := { frames := 4, cells := 0, slots := 0, locals := 99 }
def M_X11_mayBeMask : qMI := (yX11_mayBeMask, cX11_mayBeMask, 6, (some .boolean), rm_X11_mayBeMask)
theorem f_X11_mayBeMask : qMV M_X11_mayBeMask 11 3 := ⟨mg 1041 (by decide +kernel) (by decide +kernel), mg 1040 (by decide +kernel) (by decide +kernel), mgp 45 (by decide +kernel) (by decide +kernel), w_ini_11, by decide, rfl, ⟨by decide +kernel, by decide +kernel, by decide +kernel⟩⟩
def rm_X11_masks : Room := { frames := 5, cells := 0, slots := 0, locals := 124 }
def M_X11_masks : qMI := (yX11_masks, cX11_masks, 8, (some .int), rm_X11_masks)
theorem f_X11_masks : qMV M_X11_masks 11 1 := ⟨mg 1037 (by decide +kernel) (by decide +kernel), mg 1035 (by decide +kernel) (by decide +kernel), mg 1036 (by decide +kernel) (by decide +kernel), w_ini_11, by decide, rfl, ⟨by decide +kernel, by decide +kernel, by decide +kernel⟩⟩
def rm_X11_factorial : Room := { frames := 0, cells := 0, slots := 0, locals := 0 }
def M_X11_factorial : qMI := (yX11_factorial, cX11_factorial, 3, (some .int), rm_X11_factorial)
theorem f_X11_factorial : qMS M_X11_factorial 1 := ⟨mg 1051 (by decide +kernel) (by decide +kernel), mg 1050 (by decide +kernel) (by decide +kernel), w_ini_11, ⟨by decide +kernel, by decide +kernel, by decide +kernel⟩⟩
def rm_X11_common : Room := { frames := 0, cells := 0, slots := 0, locals := 0 }
def M_X11_common : qMI := (yX11_common, cX11_common, 5, (some .int), rm_X11_common)
theorem f_X11_common : qMS M_X11_common 2 := ⟨mg 1058 (by decide +kernel) (by decide +kernel), mg 1057 (by decide +kernel) (by decide +kernel), w_ini_11, ⟨by decide +kernel, by decide +kernel, by decide +kernel⟩⟩
def rm_X11_beatenBySome : Room := { frames := 1, cells := 0, slots := 0, locals := 22 }
def M_X11_beatenBySome : qMI := (yX11_beatenBySome, cX11_beatenBySome, 4, (some .int), rm_X11_beatenBySome)
theorem f_X11_beatenBySome : qMV M_X11_beatenBySome 11 1 := ⟨mg 1055 (by decide +kernel) (by decide +kernel), mg 1054 (by decide +kernel) (by decide +kernel), mgp 46 (by decide +kernel) (by decide +kernel), w_ini_11, by decide, rfl, ⟨by decide +kernel, by decide +kernel, by decide +kernel⟩⟩
def rm_X11_share : Room := { frames := 7, cells := 0, slots := 0, locals := 168 }
def M_X11_share : qMI := (yX11_share, cX11_share, 6, (some .int), rm_X11_share)
theorem f_X11_share : qMV M_X11_share 11 2 := ⟨mg 1045 (by decide +kernel) (by decide +kernel), mg 1043 (by decide +kernel) (by decide +kernel), mg 1044 (by decide +kernel) (by decide +kernel), w_ini_11, by decide, rfl, ⟨by decide +kernel, by decide +kernel, by decide +kernel⟩⟩
def rm_X11_more : Room := { frames := 4, cells := 0, slots := 0, locals := 99 }
def M_X11_more : qMI := (yX11_more, cX11_more, 5, (some .int), rm_X11_more)
theorem f_X11_more : qMV M_X11_more 11 4 := ⟨mg 1070 (by decide +kernel) (by decide +kernel), mg 1069 (by decide +kernel) (by decide +kernel), mgp 48 (by decide +kernel) (by decide +kernel), w_ini_11, by decide, rfl, ⟨by decide +kernel, by decide +kernel, by decide +kernel⟩⟩
def rm_X11_isRest : Room := { frames := 5, cells := 0, slots := 0, locals := 123 }
def M_X11_isRest : qMI := (yX11_isRest, cX11_isRest, 7, (some .boolean), rm_X11_isRest)
theorem f_X11_isRest : qMV M_X11_isRest 11 4 := ⟨mg 1066 (by decide +kernel) (by decide +kernel), mg 1065 (by decide +kernel) (by decide +kernel), mgp 47 (by decide +kernel) (by decide +kernel), w_ini_11, by decide, rfl, ⟨by decide +kernel, by decide +kernel, by decide +kernel⟩⟩
def rm_X11_rests : Room := { frames := 6, cells := 0, slots := 0, locals := 149 }
def M_X11_rests : qMI := (yX11_rests, cX11_rests, 7, (some .int), rm_X11_rests)
theorem f_X11_rests : qMV M_X11_rests 11 3 := ⟨mg 1062 (by decide +kernel) (by decide +kernel), mg 1060 (by decide +kernel) (by decide +kernel), mg 1061 (by decide +kernel) (by decide +kernel), w_ini_11, by decide, rfl, ⟨by decide +kernel, by decide +kernel, by decide +kernel⟩⟩
def rm_X11_power : Room := { frames := 0, cells := 0, slots := 0, locals := 0 }
def M_X11_power : qMI := (yX11_power, cX11_power, 4, (some .int), rm_X11_power)
theorem f_X11_power : qMS M_X11_power 2 := ⟨mg 1078 (by decide +kernel) (by decide +kernel), mg 1077 (by decide +kernel) (by decide +kernel), w_ini_11, ⟨by decide +kernel, by decide +kernel, by decide +kernel⟩⟩
def rm_X11_clouded : Room := { frames := 3, cells := 0, slots := 0, locals := 75 }
def M_X11_clouded : qMI := (yX11_clouded, cX11_clouded, 10, (some .int), rm_X11_clouded)
theorem f_X11_clouded : qMV M_X11_clouded 11 4 := ⟨mg 1074 (by decide +kernel) (by decide +kernel), mg 1072 (by decide +kernel) (by decide +kernel), mg 1073 (by decide +kernel) (by decide +kernel), w_ini_11, by decide, rfl, ⟨by decide +kernel, by decide +kernel, by decide +kernel⟩⟩
def rm_X11_seed : Room := { frames := 0, cells := 0, slots := 0, locals := 0 }
def M_X11_seed : qMI := (yX11_seed, cX11_seed, 5, (some .long), rm_X11_seed)
theorem f_X11_seed : qMV M_X11_seed 11 1 := ⟨mg 1082 (by decide +kernel) (by decide +kernel), mg 1080 (by decide +kernel) (by decide +kernel), mg 1081 (by decide +kernel) (by decide +kernel), w_ini_11, by decide, rfl, ⟨by decide +kernel, by decide +kernel, by decide +kernel⟩⟩
def rm_X11_strayed : Room := { frames := 0, cells := 0, slots := 0, locals := 0 }
def M_X11_strayed : qMI := (yX11_strayed, cX11_strayed, 4, (some .int), rm_X11_strayed)
theorem f_X11_strayed : qMV M_X11_strayed 11 1 := ⟨mg 1094 (by decide +kernel) (by decide +kernel), mg 1093 (by decide +kernel) (by decide +kernel), mgp 49 (by decide +kernel) (by decide +kernel), w_ini_11, by decide, rfl, ⟨by decide +kernel, by decide +kernel, by decide +kernel⟩⟩
def rm_X11_feasts : Room := { frames := 8, cells := 0, slots := 0, locals := 199 }
def M_X11_feasts : qMI := (yX11_feasts, cX11_feasts, 5, (some .int), rm_X11_feasts)
theorem f_X11_feasts : qMV M_X11_feasts 11 1 := ⟨mg 1086 (by decide +kernel) (by decide +kernel), mg 1084 (by decide +kernel) (by decide +kernel), mg 1085 (by decide +kernel) (by decide +kernel), w_ini_11, by decide, rfl, ⟨by decide +kernel, by decide +kernel, by decide +kernel⟩⟩
def rm_X11_keep : Room := { frames := 1, cells := 0, slots := 0, locals := 25 }
def M_X11_keep : qMI := (yX11_keep, cX11_keep, 3, (some .int), rm_X11_keep)
theorem f_X11_keep : qMV M_X11_keep 11 1 := ⟨mg 1098 (by decide +kernel) (by decide +kernel), mg 1096 (by decide +kernel) (by decide +kernel), mg 1097 (by decide +kernel) (by decide +kernel), w_ini_11, by decide, rfl, ⟨by decide +kernel, by decide +kernel, by decide +kernel⟩⟩
def rm_X11_again : Room := { frames := 1, cells := 0, slots := 0, locals := 25 }
def M_X11_again : qMI := (yX11_again, cX11_again, 3, (some .int), rm_X11_again)
theorem f_X11_again : qMV M_X11_again 11 1 := ⟨mg 1102 (by decide +kernel) (by decide +kernel), mg 1100 (by decide +kernel) (by decide +kernel), mg 1101 (by decide +kernel) (by decide +kernel), w_ini_11, by decide, rfl, ⟨by decide +kernel, by decide +kernel, by decide +kernel⟩⟩
def rm_X11_together : Room := { frames := 0, cells := 0, slots := 0, locals := 0 }
def M_X11_together : qMI := (yX11_together, cX11_together, 4, (some .int), rm_X11_together)
theorem f_X11_together : qMV M_X11_together 11 1 := ⟨mg 1110 (by decide +kernel) (by decide +kernel), mg 1109 (by decide +kernel) (by decide +kernel), mgp 50 (by decide +kernel) (by decide +kernel), w_ini_11, by decide, rfl, ⟨by decide +kernel, by decide +kernel, by decide +kernel⟩⟩
def rm_X11_beaten : Room := { frames := 7, cells := 0, slots := 0, locals := 168 }
def M_X11_beaten : qMI := (yX11_beaten, cX11_beaten, 3, (some .int), rm_X11_beaten)
theorem f_X11_beaten : qMV M_X11_beaten 11 0 := ⟨mg 1114 (by decide +kernel) (by decide +kernel), mg 1113 (by decide +kernel) (by decide +kernel), mgp 51 (by decide +kernel) (by decide +kernel), w_ini_11, by decide, rfl, ⟨by decide +kernel, by decide +kernel, by decide +kernel⟩⟩
def rm_X11_count : Room := { frames := 8, cells := 0, slots := 0, locals := 190 }
def M_X11_count : qMI := (yX11_count, cX11_count, 2, (some .int), rm_X11_count)
theorem f_X11_count : qMV M_X11_count 11 1 := ⟨mg 1106 (by decide +kernel) (by decide +kernel), mg 1104 (by decide +kernel) (by decide +kernel), mg 1105 (by decide +kernel) (by decide +kernel), w_ini_11, by decide, rfl, ⟨by decide +kernel, by decide +kernel, by decide +kernel⟩⟩
def rm_X0_init : Room := { frames := 2, cells := 57, slots := 308, locals := 40 }
def M_X0_init : qMI := (yX0_init, cX0_init, 2, none, rm_X0_init)
theorem f_X0_init : qMc M_X0_init 0 := ⟨mg 196 (by decide +kernel) (by decide +kernel), mg 195 (by decide +kernel) (by decide +kernel), w_ini_0, rfl, rfl, ⟨by decide +kernel, by decide +kernel, by decide +kernel⟩⟩
def rm_X0_remember : Room := { frames := 2, cells := 0, slots := 0, locals := 61 }
def M_X0_remember : qMI := (yX0_remember, cX0_remember, 2, none, rm_X0_remember)
theorem f_X0_remember : qMV M_X0_remember 0 1 := ⟨mg 496 (by decide +kernel) (by decide +kernel), mg 494 (by decide +kernel) (by decide +kernel), mg 495 (by decide +kernel) (by decide +kernel), w_ini_0, by decide, rfl, ⟨by decide +kernel, by decide +kernel, by decide +kernel⟩⟩
def rm_X0_forgetFirst : Room := { frames := 0, cells := 0, slots := 0, locals := 0 }
def M_X0_forgetFirst : qMI := (yX0_forgetFirst, cX0_forgetFirst, 3, none, rm_X0_forgetFirst)
theorem f_X0_forgetFirst : qMV M_X0_forgetFirst 0 0 := ⟨mg 500 (by decide +kernel) (by decide +kernel), mg 499 (by decide +kernel) (by decide +kernel), mgp 8 (by decide +kernel) (by decide +kernel), w_ini_0, by decide, rfl, ⟨by decide +kernel, by decide +kernel, by decide +kernel⟩⟩
def rm_X0_takeBack : Room := { frames := 2, cells := 0, slots := 0, locals := 61 }
def M_X0_takeBack : qMI := (yX0_takeBack, cX0_takeBack, 2, none, rm_X0_takeBack)
theorem f_X0_takeBack : qMV M_X0_takeBack 0 1 := ⟨mg 538 (by decide +kernel) (by decide +kernel), mg 536 (by decide +kernel) (by decide +kernel), mg 537 (by decide +kernel) (by decide +kernel), w_ini_0, by decide, rfl, ⟨by decide +kernel, by decide +kernel, by decide +kernel⟩⟩
def rm_X0_forget : Room := { frames := 0, cells := 0, slots := 0, locals := 0 }
def M_X0_forget : qMI := (yX0_forget, cX0_forget, 1, none, rm_X0_forget)
theorem f_X0_forget : qMV M_X0_forget 0 0 := ⟨mg 416 (by decide +kernel) (by decide +kernel), mg 414 (by decide +kernel) (by decide +kernel), mg 415 (by decide +kernel) (by decide +kernel), w_ini_0, by decide, rfl, ⟨by decide +kernel, by decide +kernel, by decide +kernel⟩⟩
def rm_X1_init : Room := { frames := 1, cells := 1, slots := 9, locals := 20 }
def M_X1_init : qMI := (yX1_init, cX1_init, 1, none, rm_X1_init)
theorem f_X1_init : qMc M_X1_init 0 := ⟨mg 111 (by decide +kernel) (by decide +kernel), mg 110 (by decide +kernel) (by decide +kernel), w_ini_1, rfl, rfl, ⟨by decide +kernel, by decide +kernel, by decide +kernel⟩⟩
def rm_X1_fight : Room := { frames := 1, cells := 0, slots := 0, locals := 24 }
def M_X1_fight : qMI := (yX1_fight, cX1_fight, 13, none, rm_X1_fight)
theorem f_X1_fight : qMV M_X1_fight 1 6 := ⟨mg 441 (by decide +kernel) (by decide +kernel), mg 439 (by decide +kernel) (by decide +kernel), mg 440 (by decide +kernel) (by decide +kernel), w_ini_1, by decide, rfl, ⟨by decide +kernel, by decide +kernel, by decide +kernel⟩⟩
def rm_X1_hits : Room := { frames := 0, cells := 0, slots := 0, locals := 0 }
def M_X1_hits : qMI := (yX1_hits, cX1_hits, 3, (some .int), rm_X1_hits)
theorem f_X1_hits : qMS M_X1_hits 3 := ⟨mg 448 (by decide +kernel) (by decide +kernel), mg 447 (by decide +kernel) (by decide +kernel), w_ini_1, ⟨by decide +kernel, by decide +kernel, by decide +kernel⟩⟩
def rm_X1_lead : Room := { frames := 0, cells := 0, slots := 0, locals := 0 }
def M_X1_lead : qMI := (yX1_lead, cX1_lead, 1, (some .int), rm_X1_lead)
theorem f_X1_lead : qMV M_X1_lead 1 0 := ⟨mg 452 (by decide +kernel) (by decide +kernel), mg 450 (by decide +kernel) (by decide +kernel), mg 451 (by decide +kernel) (by decide +kernel), w_ini_1, by decide, rfl, ⟨by decide +kernel, by decide +kernel, by decide +kernel⟩⟩
def rm_X2_init : Room := { frames := 1, cells := 1, slots := 9, locals := 20 }
def M_X2_init : qMI := (yX2_init, cX2_init, 2, none, rm_X2_init)
theorem f_X2_init : qMc M_X2_init 1 := ⟨mg 240 (by decide +kernel) (by decide +kernel), mg 239 (by decide +kernel) (by decide +kernel), w_ini_2, rfl, rfl, ⟨by decide +kernel, by decide +kernel, by decide +kernel⟩⟩
def rm_X2_findShare : Room := { frames := 4, cells := 0, slots := 0, locals := 100 }
def M_X2_findShare : qMI := (yX2_findShare, cX2_findShare, 5, none, rm_X2_findShare)
theorem f_X2_findShare : qMV M_X2_findShare 2 1 := ⟨mg 649 (by decide +kernel) (by decide +kernel), mg 647 (by decide +kernel) (by decide +kernel), mg 648 (by decide +kernel) (by decide +kernel), w_ini_2, by decide, rfl, ⟨by decide +kernel, by decide +kernel, by decide +kernel⟩⟩
def rm_X2_findRests : Room := { frames := 3, cells := 0, slots := 0, locals := 80 }
def M_X2_findRests : qMI := (yX2_findRests, cX2_findRests, 5, none, rm_X2_findRests)
theorem f_X2_findRests : qMV M_X2_findRests 2 2 := ⟨mg 670 (by decide +kernel) (by decide +kernel), mg 668 (by decide +kernel) (by decide +kernel), mg 669 (by decide +kernel) (by decide +kernel), w_ini_2, by decide, rfl, ⟨by decide +kernel, by decide +kernel, by decide +kernel⟩⟩
def rm_X2_fillStanceLeads : Room := { frames := 2, cells := 0, slots := 0, locals := 56 }
def M_X2_fillStanceLeads : qMI := (yX2_fillStanceLeads, cX2_fillStanceLeads, 5, none, rm_X2_fillStanceLeads)
theorem f_X2_fillStanceLeads : qMV M_X2_fillStanceLeads 2 2 := ⟨mg 674 (by decide +kernel) (by decide +kernel), mg 673 (by decide +kernel) (by decide +kernel), mgp 16 (by decide +kernel) (by decide +kernel), w_ini_2, by decide, rfl, ⟨by decide +kernel, by decide +kernel, by decide +kernel⟩⟩
def rm_X2_isRest : Room := { frames := 0, cells := 0, slots := 0, locals := 0 }
def M_X2_isRest : qMI := (yX2_isRest, cX2_isRest, 5, (some .boolean), rm_X2_isRest)
theorem f_X2_isRest : qMV M_X2_isRest 2 2 := ⟨mg 680 (by decide +kernel) (by decide +kernel), mg 679 (by decide +kernel) (by decide +kernel), mgp 17 (by decide +kernel) (by decide +kernel), w_ini_2, by decide, rfl, ⟨by decide +kernel, by decide +kernel, by decide +kernel⟩⟩
def rm_X2_findClouded : Room := { frames := 2, cells := 0, slots := 0, locals := 56 }
def M_X2_findClouded : qMI := (yX2_findClouded, cX2_findClouded, 5, none, rm_X2_findClouded)
theorem f_X2_findClouded : qMV M_X2_findClouded 2 3 := ⟨mg 688 (by decide +kernel) (by decide +kernel), mg 686 (by decide +kernel) (by decide +kernel), mg 687 (by decide +kernel) (by decide +kernel), w_ini_2, by decide, rfl, ⟨by decide +kernel, by decide +kernel, by decide +kernel⟩⟩
def rm_X2_leadIn : Room := { frames := 0, cells := 0, slots := 0, locals := 0 }
def M_X2_leadIn : qMI := (yX2_leadIn, cX2_leadIn, 4, (some .int), rm_X2_leadIn)
theorem f_X2_leadIn : qMV M_X2_leadIn 2 1 := ⟨mg 692 (by decide +kernel) (by decide +kernel), mg 691 (by decide +kernel) (by decide +kernel), mgp 18 (by decide +kernel) (by decide +kernel), w_ini_2, by decide, rfl, ⟨by decide +kernel, by decide +kernel, by decide +kernel⟩⟩
def rm_X2_weightOf : Room := { frames := 0, cells := 0, slots := 0, locals := 0 }
def M_X2_weightOf : qMI := (yX2_weightOf, cX2_weightOf, 4, (some .int), rm_X2_weightOf)
theorem f_X2_weightOf : qMS M_X2_weightOf 2 := ⟨mg 695 (by decide +kernel) (by decide +kernel), mg 694 (by decide +kernel) (by decide +kernel), w_ini_2, ⟨by decide +kernel, by decide +kernel, by decide +kernel⟩⟩
def rm_X2_told : Room := { frames := 1, cells := 0, slots := 0, locals := 24 }
def M_X2_told : qMI := (yX2_told, cX2_told, 4, (some .int), rm_X2_told)
theorem f_X2_told : qMV M_X2_told 2 1 := ⟨mg 657 (by decide +kernel) (by decide +kernel), mg 655 (by decide +kernel) (by decide +kernel), mg 656 (by decide +kernel) (by decide +kernel), w_ini_2, by decide, rfl, ⟨by decide +kernel, by decide +kernel, by decide +kernel⟩⟩
def rm_X2_greatestDivisor : Room := { frames := 0, cells := 0, slots := 0, locals := 0 }
def M_X2_greatestDivisor : qMI := (yX2_greatestDivisor, cX2_greatestDivisor, 5, (some .int), rm_X2_greatestDivisor)
theorem f_X2_greatestDivisor : qMV M_X2_greatestDivisor 2 0 := ⟨mg 661 (by decide +kernel) (by decide +kernel), mg 660 (by decide +kernel) (by decide +kernel), mgp 15 (by decide +kernel) (by decide +kernel), w_ini_2, by decide, rfl, ⟨by decide +kernel, by decide +kernel, by decide +kernel⟩⟩
def rm_X3_init : Room := { frames := 1, cells := 3, slots := 76, locals := 20 }
def M_X3_init : qMI := (yX3_init, cX3_init, 2, none, rm_X3_init)
theorem f_X3_init : qMc M_X3_init 1 := ⟨mg 213 (by decide +kernel) (by decide +kernel), mg 212 (by decide +kernel) (by decide +kernel), w_ini_3, rfl, rfl, ⟨by decide +kernel, by decide +kernel, by decide +kernel⟩⟩
def rm_X3_findChain : Room := { frames := 4, cells := 0, slots := 0, locals := 100 }
def M_X3_findChain : qMI := (yX3_findChain, cX3_findChain, 7, none, rm_X3_findChain)
theorem f_X3_findChain : qMV M_X3_findChain 3 2 := ⟨mg 546 (by decide +kernel) (by decide +kernel), mg 544 (by decide +kernel) (by decide +kernel), mg 545 (by decide +kernel) (by decide +kernel), w_ini_3, by decide, rfl, ⟨by decide +kernel, by decide +kernel, by decide +kernel⟩⟩
def rm_X3_findWays : Room := { frames := 2, cells := 0, slots := 0, locals := 44 }
def M_X3_findWays : qMI := (yX3_findWays, cX3_findWays, 7, none, rm_X3_findWays)
theorem f_X3_findWays : qMV M_X3_findWays 3 3 := ⟨mg 551 (by decide +kernel) (by decide +kernel), mg 550 (by decide +kernel) (by decide +kernel), mgp 9 (by decide +kernel) (by decide +kernel), w_ini_3, by decide, rfl, ⟨by decide +kernel, by decide +kernel, by decide +kernel⟩⟩
def rm_X3_costOfHand : Room := { frames := 1, cells := 0, slots := 0, locals := 21 }
def M_X3_costOfHand : qMI := (yX3_costOfHand, cX3_costOfHand, 4, (some .int), rm_X3_costOfHand)
theorem f_X3_costOfHand : qMV M_X3_costOfHand 3 3 := ⟨mg 559 (by decide +kernel) (by decide +kernel), mg 558 (by decide +kernel) (by decide +kernel), mgp 10 (by decide +kernel) (by decide +kernel), w_ini_3, by decide, rfl, ⟨by decide +kernel, by decide +kernel, by decide +kernel⟩⟩
def rm_X3_weighOrders : Room := { frames := 4, cells := 0, slots := 0, locals := 100 }
def M_X3_weighOrders : qMI := (yX3_weighOrders, cX3_weighOrders, 4, none, rm_X3_weighOrders)
theorem f_X3_weighOrders : qMV M_X3_weighOrders 3 0 := ⟨mg 569 (by decide +kernel) (by decide +kernel), mg 567 (by decide +kernel) (by decide +kernel), mg 568 (by decide +kernel) (by decide +kernel), w_ini_3, by decide, rfl, ⟨by decide +kernel, by decide +kernel, by decide +kernel⟩⟩
def rm_X3_againstWithAhead : Room := { frames := 1, cells := 0, slots := 0, locals := 20 }
def M_X3_againstWithAhead : qMI := (yX3_againstWithAhead, cX3_againstWithAhead, 4, (some .int), rm_X3_againstWithAhead)
theorem f_X3_againstWithAhead : qMV M_X3_againstWithAhead 3 2 := ⟨mg 577 (by decide +kernel) (by decide +kernel), mg 576 (by decide +kernel) (by decide +kernel), mgp 11 (by decide +kernel) (by decide +kernel), w_ini_3, by decide, rfl, ⟨by decide +kernel, by decide +kernel, by decide +kernel⟩⟩
def rm_X3_fewestAgainst : Room := { frames := 0, cells := 0, slots := 0, locals := 0 }
def M_X3_fewestAgainst : qMI := (yX3_fewestAgainst, cX3_fewestAgainst, 1, (some .int), rm_X3_fewestAgainst)
theorem f_X3_fewestAgainst : qMV M_X3_fewestAgainst 3 0 := ⟨mg 587 (by decide +kernel) (by decide +kernel), mg 585 (by decide +kernel) (by decide +kernel), mg 586 (by decide +kernel) (by decide +kernel), w_ini_3, by decide, rfl, ⟨by decide +kernel, by decide +kernel, by decide +kernel⟩⟩
def rm_X3_bestOrder : Room := { frames := 3, cells := 0, slots := 0, locals := 65 }
def M_X3_bestOrder : qMI := (yX3_bestOrder, cX3_bestOrder, 5, (some .int), rm_X3_bestOrder)
theorem f_X3_bestOrder : qMV M_X3_bestOrder 3 0 := ⟨mg 591 (by decide +kernel) (by decide +kernel), mg 589 (by decide +kernel) (by decide +kernel), mg 590 (by decide +kernel) (by decide +kernel), w_ini_3, by decide, rfl, ⟨by decide +kernel, by decide +kernel, by decide +kernel⟩⟩
def rm_X3_leastAhead : Room := { frames := 2, cells := 0, slots := 0, locals := 43 }
def M_X3_leastAhead : qMI := (yX3_leastAhead, cX3_leastAhead, 3, (some .int), rm_X3_leastAhead)
theorem f_X3_leastAhead : qMV M_X3_leastAhead 3 1 := ⟨mg 595 (by decide +kernel) (by decide +kernel), mg 594 (by decide +kernel) (by decide +kernel), mgp 12 (by decide +kernel) (by decide +kernel), w_ini_3, by decide, rfl, ⟨by decide +kernel, by decide +kernel, by decide +kernel⟩⟩
def rm_X4_init : Room := { frames := 1, cells := 1, slots := 3, locals := 20 }
def M_X4_init : qMI := (yX4_init, cX4_init, 1, none, rm_X4_init)
theorem f_X4_init : qMc M_X4_init 0 := ⟨mg 36 (by decide +kernel) (by decide +kernel), mg 35 (by decide +kernel) (by decide +kernel), w_ini_4, rfl, rfl, ⟨by decide +kernel, by decide +kernel, by decide +kernel⟩⟩
def rm_X4_moveIn : Room := { frames := 0, cells := 0, slots := 0, locals := 0 }
def M_X4_moveIn : qMI := (yX4_moveIn, cX4_moveIn, 5, (some .int), rm_X4_moveIn)
theorem f_X4_moveIn : qMV M_X4_moveIn 4 3 := ⟨mg 445 (by decide +kernel) (by decide +kernel), mg 443 (by decide +kernel) (by decide +kernel), mg 444 (by decide +kernel) (by decide +kernel), w_ini_4, by decide, rfl, ⟨by decide +kernel, by decide +kernel, by decide +kernel⟩⟩
def rm_X4_movesAsFigures : Room := { frames := 0, cells := 0, slots := 0, locals := 0 }
def M_X4_movesAsFigures : qMI := (yX4_movesAsFigures, cX4_movesAsFigures, 1, (some .int), rm_X4_movesAsFigures)
theorem f_X4_movesAsFigures : qMV M_X4_movesAsFigures 4 0 := ⟨mg 425 (by decide +kernel) (by decide +kernel), mg 423 (by decide +kernel) (by decide +kernel), mg 424 (by decide +kernel) (by decide +kernel), w_ini_4, by decide, rfl, ⟨by decide +kernel, by decide +kernel, by decide +kernel⟩⟩
def rm_X4_copyFrom : Room := { frames := 1, cells := 0, slots := 0, locals := 40 }
def M_X4_copyFrom : qMI := (yX4_copyFrom, cX4_copyFrom, 2, none, rm_X4_copyFrom)
theorem f_X4_copyFrom : qMV M_X4_copyFrom 4 1 := ⟨mg 403 (by decide +kernel) (by decide +kernel), mg 401 (by decide +kernel) (by decide +kernel), mg 402 (by decide +kernel) (by decide +kernel), w_ini_4, by decide, rfl, ⟨by decide +kernel, by decide +kernel, by decide +kernel⟩⟩
def rm_X5_init : Room := { frames := 1, cells := 3, slots := 17, locals := 20 }
def M_X5_init : qMI := (yX5_init, cX5_init, 1, none, rm_X5_init)
theorem f_X5_init : qMc M_X5_init 0 := ⟨mg 141 (by decide +kernel) (by decide +kernel), mg 140 (by decide +kernel) (by decide +kernel), w_ini_5, rfl, rfl, ⟨by decide +kernel, by decide +kernel, by decide +kernel⟩⟩
def rm_X5_openFor : Room := { frames := 1, cells := 0, slots := 0, locals := 40 }
def M_X5_openFor : qMI := (yX5_openFor, cX5_openFor, 3, none, rm_X5_openFor)
theorem f_X5_openFor : qMV M_X5_openFor 5 1 := ⟨mg 411 (by decide +kernel) (by decide +kernel), mg 409 (by decide +kernel) (by decide +kernel), mg 410 (by decide +kernel) (by decide +kernel), w_ini_5, by decide, rfl, ⟨by decide +kernel, by decide +kernel, by decide +kernel⟩⟩
def rm_X5_copyFrom : Room := { frames := 1, cells := 0, slots := 0, locals := 40 }
def M_X5_copyFrom : qMI := (yX5_copyFrom, cX5_copyFrom, 2, none, rm_X5_copyFrom)
theorem f_X5_copyFrom : qMV M_X5_copyFrom 5 1 := ⟨mg 504 (by decide +kernel) (by decide +kernel), mg 502 (by decide +kernel) (by decide +kernel), mg 503 (by decide +kernel) (by decide +kernel), w_ini_5, by decide, rfl, ⟨by decide +kernel, by decide +kernel, by decide +kernel⟩⟩
def rm_X5_fill : Room := { frames := 1, cells := 0, slots := 0, locals := 21 }
def M_X5_fill : qMI := (yX5_fill, cX5_fill, 3, none, rm_X5_fill)
theorem f_X5_fill : qMV M_X5_fill 5 2 := ⟨mg 513 (by decide +kernel) (by decide +kernel), mg 511 (by decide +kernel) (by decide +kernel), mg 512 (by decide +kernel) (by decide +kernel), w_ini_5, by decide, rfl, ⟨by decide +kernel, by decide +kernel, by decide +kernel⟩⟩
def rm_X6_init : Room := { frames := 1, cells := 0, slots := 0, locals := 20 }
def M_X6_init : qMI := (yX6_init, cX6_init, 2, none, rm_X6_init)
theorem f_X6_init : qMc M_X6_init 1 := ⟨mg 95 (by decide +kernel) (by decide +kernel), mg 94 (by decide +kernel) (by decide +kernel), w_ini_6, rfl, rfl, ⟨by decide +kernel, by decide +kernel, by decide +kernel⟩⟩
def rm_X6_faultOf : Room := { frames := 3, cells := 0, slots := 0, locals := 63 }
def M_X6_faultOf : qMI := (yX6_faultOf, cX6_faultOf, 4, (some .int), rm_X6_faultOf)
theorem f_X6_faultOf : qMV M_X6_faultOf 6 2 := ⟨mg 360 (by decide +kernel) (by decide +kernel), mg 358 (by decide +kernel) (by decide +kernel), mg 359 (by decide +kernel) (by decide +kernel), w_ini_6, by decide, rfl, ⟨by decide +kernel, by decide +kernel, by decide +kernel⟩⟩
def rm_X6_takes : Room := { frames := 2, cells := 0, slots := 0, locals := 42 }
def M_X6_takes : qMI := (yX6_takes, cX6_takes, 2, (some .boolean), rm_X6_takes)
theorem f_X6_takes : qMV M_X6_takes 6 1 := ⟨mg 364 (by decide +kernel) (by decide +kernel), mg 363 (by decide +kernel) (by decide +kernel), mgp 0 (by decide +kernel) (by decide +kernel), w_ini_6, by decide, rfl, ⟨by decide +kernel, by decide +kernel, by decide +kernel⟩⟩
def rm_X6_takesPart : Room := { frames := 0, cells := 0, slots := 0, locals := 0 }
def M_X6_takesPart : qMI := (yX6_takesPart, cX6_takesPart, 2, (some .boolean), rm_X6_takesPart)
theorem f_X6_takesPart : qMV M_X6_takesPart 6 1 := ⟨mg 368 (by decide +kernel) (by decide +kernel), mg 367 (by decide +kernel) (by decide +kernel), mgp 1 (by decide +kernel) (by decide +kernel), w_ini_6, by decide, rfl, ⟨by decide +kernel, by decide +kernel, by decide +kernel⟩⟩
def rm_X6_takesKind : Room := { frames := 0, cells := 0, slots := 0, locals := 0 }
def M_X6_takesKind : qMI := (yX6_takesKind, cX6_takesKind, 2, (some .boolean), rm_X6_takesKind)
theorem f_X6_takesKind : qMV M_X6_takesKind 6 1 := ⟨mg 372 (by decide +kernel) (by decide +kernel), mg 371 (by decide +kernel) (by decide +kernel), mgp 2 (by decide +kernel) (by decide +kernel), w_ini_6, by decide, rfl, ⟨by decide +kernel, by decide +kernel, by decide +kernel⟩⟩
def rm_X6_takesMove : Room := { frames := 0, cells := 0, slots := 0, locals := 0 }
def M_X6_takesMove : qMI := (yX6_takesMove, cX6_takesMove, 2, (some .boolean), rm_X6_takesMove)
theorem f_X6_takesMove : qMV M_X6_takesMove 6 1 := ⟨mg 379 (by decide +kernel) (by decide +kernel), mg 378 (by decide +kernel) (by decide +kernel), mgp 3 (by decide +kernel) (by decide +kernel), w_ini_6, by decide, rfl, ⟨by decide +kernel, by decide +kernel, by decide +kernel⟩⟩
def rm_X6_takesOwner : Room := { frames := 1, cells := 0, slots := 0, locals := 21 }
def M_X6_takesOwner : qMI := (yX6_takesOwner, cX6_takesOwner, 2, (some .boolean), rm_X6_takesOwner)
theorem f_X6_takesOwner : qMV M_X6_takesOwner 6 1 := ⟨mg 383 (by decide +kernel) (by decide +kernel), mg 382 (by decide +kernel) (by decide +kernel), mgp 4 (by decide +kernel) (by decide +kernel), w_ini_6, by decide, rfl, ⟨by decide +kernel, by decide +kernel, by decide +kernel⟩⟩
def rm_X6_takesPrice : Room := { frames := 0, cells := 0, slots := 0, locals := 0 }
def M_X6_takesPrice : qMI := (yX6_takesPrice, cX6_takesPrice, 2, (some .boolean), rm_X6_takesPrice)
theorem f_X6_takesPrice : qMV M_X6_takesPrice 6 1 := ⟨mg 391 (by decide +kernel) (by decide +kernel), mg 390 (by decide +kernel) (by decide +kernel), mgp 5 (by decide +kernel) (by decide +kernel), w_ini_6, by decide, rfl, ⟨by decide +kernel, by decide +kernel, by decide +kernel⟩⟩
def rm_X6_moveOf : Room := { frames := 0, cells := 0, slots := 0, locals := 0 }
def M_X6_moveOf : qMI := (yX6_moveOf, cX6_moveOf, 1, (some .int), rm_X6_moveOf)
theorem f_X6_moveOf : qMS M_X6_moveOf 1 := ⟨mg 375 (by decide +kernel) (by decide +kernel), mg 374 (by decide +kernel) (by decide +kernel), w_ini_6, ⟨by decide +kernel, by decide +kernel, by decide +kernel⟩⟩
def rm_X7_init : Room := { frames := 2, cells := 15, slots := 46, locals := 40 }
def M_X7_init : qMI := (yX7_init, cX7_init, 2, none, rm_X7_init)
theorem f_X7_init : qMc M_X7_init 0 := ⟨mg 29 (by decide +kernel) (by decide +kernel), mg 28 (by decide +kernel) (by decide +kernel), w_ini_7, rfl, rfl, ⟨by decide +kernel, by decide +kernel, by decide +kernel⟩⟩
def rm_X7_hasFencer : Room := { frames := 0, cells := 0, slots := 0, locals := 0 }
def M_X7_hasFencer : qMI := (yX7_hasFencer, cX7_hasFencer, 2, (some .boolean), rm_X7_hasFencer)
theorem f_X7_hasFencer : qMV M_X7_hasFencer 7 1 := ⟨mg 387 (by decide +kernel) (by decide +kernel), mg 385 (by decide +kernel) (by decide +kernel), mg 386 (by decide +kernel) (by decide +kernel), w_ini_7, by decide, rfl, ⟨by decide +kernel, by decide +kernel, by decide +kernel⟩⟩
def rm_X7_hasGood : Room := { frames := 0, cells := 0, slots := 0, locals := 0 }
def M_X7_hasGood : qMI := (yX7_hasGood, cX7_hasGood, 2, (some .boolean), rm_X7_hasGood)
theorem f_X7_hasGood : qMV M_X7_hasGood 7 1 := ⟨mg 464 (by decide +kernel) (by decide +kernel), mg 462 (by decide +kernel) (by decide +kernel), mg 463 (by decide +kernel) (by decide +kernel), w_ini_7, by decide, rfl, ⟨by decide +kernel, by decide +kernel, by decide +kernel⟩⟩
def rm_X7_copyFrom : Room := { frames := 2, cells := 0, slots := 0, locals := 61 }
def M_X7_copyFrom : qMI := (yX7_copyFrom, cX7_copyFrom, 3, none, rm_X7_copyFrom)
theorem f_X7_copyFrom : qMV M_X7_copyFrom 7 1 := ⟨mg 399 (by decide +kernel) (by decide +kernel), mg 397 (by decide +kernel) (by decide +kernel), mg 398 (by decide +kernel) (by decide +kernel), w_ini_7, by decide, rfl, ⟨by decide +kernel, by decide +kernel, by decide +kernel⟩⟩
def rm_X8_init : Room := { frames := 2, cells := 11, slots := 63, locals := 40 }
def M_X8_init : qMI := (yX8_init, cX8_init, 3, none, rm_X8_init)
theorem f_X8_init : qMc M_X8_init 2 := ⟨mg 135 (by decide +kernel) (by decide +kernel), mg 134 (by decide +kernel) (by decide +kernel), w_ini_8, rfl, rfl, ⟨by decide +kernel, by decide +kernel, by decide +kernel⟩⟩
def rm_X8_fightNow : Room := { frames := 2, cells := 0, slots := 0, locals := 56 }
def M_X8_fightNow : qMI := (yX8_fightNow, cX8_fightNow, 3, none, rm_X8_fightNow)
theorem f_X8_fightNow : qMV M_X8_fightNow 8 2 := ⟨mg 437 (by decide +kernel) (by decide +kernel), mg 435 (by decide +kernel) (by decide +kernel), mg 436 (by decide +kernel) (by decide +kernel), w_ini_8, by decide, rfl, ⟨by decide +kernel, by decide +kernel, by decide +kernel⟩⟩
def rm_X8_costFor : Room := { frames := 3, cells := 0, slots := 0, locals := 78 }
def M_X8_costFor : qMI := (yX8_costFor, cX8_costFor, 3, (some .int), rm_X8_costFor)
theorem f_X8_costFor : qMV M_X8_costFor 8 2 := ⟨mg 485 (by decide +kernel) (by decide +kernel), mg 483 (by decide +kernel) (by decide +kernel), mg 484 (by decide +kernel) (by decide +kernel), w_ini_8, by decide, rfl, ⟨by decide +kernel, by decide +kernel, by decide +kernel⟩⟩
def rm_X8_letMeet : Room := { frames := 4, cells := 0, slots := 0, locals := 100 }
def M_X8_letMeet : qMI := (yX8_letMeet, cX8_letMeet, 5, none, rm_X8_letMeet)
theorem f_X8_letMeet : qMV M_X8_letMeet 8 2 := ⟨mg 508 (by decide +kernel) (by decide +kernel), mg 506 (by decide +kernel) (by decide +kernel), mg 507 (by decide +kernel) (by decide +kernel), w_ini_8, by decide, rfl, ⟨by decide +kernel, by decide +kernel, by decide +kernel⟩⟩
def rm_X8_letStep : Room := { frames := 0, cells := 0, slots := 0, locals := 0 }
def M_X8_letStep : qMI := (yX8_letStep, cX8_letStep, 2, none, rm_X8_letStep)
theorem f_X8_letStep : qMV M_X8_letStep 8 1 := ⟨mg 520 (by decide +kernel) (by decide +kernel), mg 518 (by decide +kernel) (by decide +kernel), mg 519 (by decide +kernel) (by decide +kernel), w_ini_8, by decide, rfl, ⟨by decide +kernel, by decide +kernel, by decide +kernel⟩⟩
def rm_X8_canTrade : Room := { frames := 1, cells := 0, slots := 0, locals := 21 }
def M_X8_canTrade : qMI := (yX8_canTrade, cX8_canTrade, 3, (some .boolean), rm_X8_canTrade)
theorem f_X8_canTrade : qMV M_X8_canTrade 8 2 := ⟨mg 611 (by decide +kernel) (by decide +kernel), mg 610 (by decide +kernel) (by decide +kernel), mgp 13 (by decide +kernel) (by decide +kernel), w_ini_8, by decide, rfl, ⟨by decide +kernel, by decide +kernel, by decide +kernel⟩⟩
def rm_X8_holdsTrue : Room := { frames := 5, cells := 0, slots := 0, locals := 124 }
def M_X8_holdsTrue : qMI := (yX8_holdsTrue, cX8_holdsTrue, 4, (some .boolean), rm_X8_holdsTrue)
theorem f_X8_holdsTrue : qMV M_X8_holdsTrue 8 3 := ⟨mg 607 (by decide +kernel) (by decide +kernel), mg 605 (by decide +kernel) (by decide +kernel), mg 606 (by decide +kernel) (by decide +kernel), w_ini_8, by decide, rfl, ⟨by decide +kernel, by decide +kernel, by decide +kernel⟩⟩
def rm_X8_feast : Room := { frames := 5, cells := 0, slots := 0, locals := 124 }
def M_X8_feast : qMI := (yX8_feast, cX8_feast, 2, none, rm_X8_feast)
theorem f_X8_feast : qMV M_X8_feast 8 1 := ⟨mg 710 (by decide +kernel) (by decide +kernel), mg 708 (by decide +kernel) (by decide +kernel), mg 709 (by decide +kernel) (by decide +kernel), w_ini_8, by decide, rfl, ⟨by decide +kernel, by decide +kernel, by decide +kernel⟩⟩
def rm_X8_goodsOf : Room := { frames := 0, cells := 0, slots := 0, locals := 0 }
def M_X8_goodsOf : qMI := (yX8_goodsOf, cX8_goodsOf, 4, (some .int), rm_X8_goodsOf)
theorem f_X8_goodsOf : qMV M_X8_goodsOf 8 1 := ⟨mg 429 (by decide +kernel) (by decide +kernel), mg 427 (by decide +kernel) (by decide +kernel), mg 428 (by decide +kernel) (by decide +kernel), w_ini_8, by decide, rfl, ⟨by decide +kernel, by decide +kernel, by decide +kernel⟩⟩
def rm_X8_goodsAbroad : Room := { frames := 0, cells := 0, slots := 0, locals := 0 }
def M_X8_goodsAbroad : qMI := (yX8_goodsAbroad, cX8_goodsAbroad, 3, (some .int), rm_X8_goodsAbroad)
theorem f_X8_goodsAbroad : qMV M_X8_goodsAbroad 8 0 := ⟨mg 714 (by decide +kernel) (by decide +kernel), mg 712 (by decide +kernel) (by decide +kernel), mg 713 (by decide +kernel) (by decide +kernel), w_ini_8, by decide, rfl, ⟨by decide +kernel, by decide +kernel, by decide +kernel⟩⟩
def rm_X8_compareAll : Room := { frames := 3, cells := 0, slots := 0, locals := 78 }
def M_X8_compareAll : qMI := (yX8_compareAll, cX8_compareAll, 3, none, rm_X8_compareAll)
theorem f_X8_compareAll : qMV M_X8_compareAll 8 0 := ⟨mg 433 (by decide +kernel) (by decide +kernel), mg 431 (by decide +kernel) (by decide +kernel), mg 432 (by decide +kernel) (by decide +kernel), w_ini_8, by decide, rfl, ⟨by decide +kernel, by decide +kernel, by decide +kernel⟩⟩
def rm_X8_beatenBy : Room := { frames := 0, cells := 0, slots := 0, locals := 0 }
def M_X8_beatenBy : qMI := (yX8_beatenBy, cX8_beatenBy, 4, (some .int), rm_X8_beatenBy)
theorem f_X8_beatenBy : qMV M_X8_beatenBy 8 1 := ⟨mg 456 (by decide +kernel) (by decide +kernel), mg 454 (by decide +kernel) (by decide +kernel), mg 455 (by decide +kernel) (by decide +kernel), w_ini_8, by decide, rfl, ⟨by decide +kernel, by decide +kernel, by decide +kernel⟩⟩
def rm_X8_thoseWhoBeat : Room := { frames := 0, cells := 0, slots := 0, locals := 0 }
def M_X8_thoseWhoBeat : qMI := (yX8_thoseWhoBeat, cX8_thoseWhoBeat, 4, (some .int), rm_X8_thoseWhoBeat)
theorem f_X8_thoseWhoBeat : qMV M_X8_thoseWhoBeat 8 1 := ⟨mg 573 (by decide +kernel) (by decide +kernel), mg 571 (by decide +kernel) (by decide +kernel), mg 572 (by decide +kernel) (by decide +kernel), w_ini_8, by decide, rfl, ⟨by decide +kernel, by decide +kernel, by decide +kernel⟩⟩
def rm_X8_beatenByAnybody : Room := { frames := 1, cells := 0, slots := 0, locals := 23 }
def M_X8_beatenByAnybody : qMI := (yX8_beatenByAnybody, cX8_beatenByAnybody, 3, (some .int), rm_X8_beatenByAnybody)
theorem f_X8_beatenByAnybody : qMV M_X8_beatenByAnybody 8 0 := ⟨mg 734 (by decide +kernel) (by decide +kernel), mg 732 (by decide +kernel) (by decide +kernel), mg 733 (by decide +kernel) (by decide +kernel), w_ini_8, by decide, rfl, ⟨by decide +kernel, by decide +kernel, by decide +kernel⟩⟩
def rm_X9_init : Room := { frames := 2, cells := 4, slots := 17, locals := 40 }
def M_X9_init : qMI := (yX9_init, cX9_init, 2, none, rm_X9_init)
theorem f_X9_init : qMc M_X9_init 1 := ⟨mg 267 (by decide +kernel) (by decide +kernel), mg 266 (by decide +kernel) (by decide +kernel), w_ini_9, rfl, rfl, ⟨by decide +kernel, by decide +kernel, by decide +kernel⟩⟩
def rm_X9_add : Room := { frames := 0, cells := 0, slots := 0, locals := 0 }
def M_X9_add : qMI := (yX9_add, cX9_add, 3, none, rm_X9_add)
theorem f_X9_add : qMV M_X9_add 9 2 := ⟨mg 622 (by decide +kernel) (by decide +kernel), mg 620 (by decide +kernel) (by decide +kernel), mg 621 (by decide +kernel) (by decide +kernel), w_ini_9, by decide, rfl, ⟨by decide +kernel, by decide +kernel, by decide +kernel⟩⟩
def rm_X9_findMasks : Room := { frames := 3, cells := 0, slots := 0, locals := 78 }
def M_X9_findMasks : qMI := (yX9_findMasks, cX9_findMasks, 2, none, rm_X9_findMasks)
theorem f_X9_findMasks : qMV M_X9_findMasks 9 0 := ⟨mg 634 (by decide +kernel) (by decide +kernel), mg 632 (by decide +kernel) (by decide +kernel), mg 633 (by decide +kernel) (by decide +kernel), w_ini_9, by decide, rfl, ⟨by decide +kernel, by decide +kernel, by decide +kernel⟩⟩
def rm_X9_fitsAll : Room := { frames := 2, cells := 0, slots := 0, locals := 56 }
def M_X9_fitsAll : qMI := (yX9_fitsAll, cX9_fitsAll, 3, (some .boolean), rm_X9_fitsAll)
theorem f_X9_fitsAll : qMV M_X9_fitsAll 9 0 := ⟨mg 638 (by decide +kernel) (by decide +kernel), mg 637 (by decide +kernel) (by decide +kernel), mgp 14 (by decide +kernel) (by decide +kernel), w_ini_9, by decide, rfl, ⟨by decide +kernel, by decide +kernel, by decide +kernel⟩⟩
def rm_J6_bitCount_0f7a4 : Room := { frames := 0, cells := 0, slots := 0, locals := 0 }
def M_J6_bitCount_0f7a4 : qMI := (yJ6_bitCount_0f7a4, cJ6_bitCount_0f7a4, 1, (some .int), rm_J6_bitCount_0f7a4)
theorem f_J6_bitCount_0f7a4 : qMS M_J6_bitCount_0f7a4 1 := ⟨mg 580 (by decide +kernel) (by decide +kernel), mg 579 (by decide +kernel) (by decide +kernel), w_ini_J6, ⟨by decide +kernel, by decide +kernel, by decide +kernel⟩⟩
def rm_J7_fill_53178 : Room := { frames := 0, cells := 0, slots := 0, locals := 0 }
def M_J7_fill_53178 : qMI := (yJ7_fill_53178, cJ7_fill_53178, 4, none, rm_J7_fill_53178)
theorem f_J7_fill_53178 : qMS M_J7_fill_53178 2 := ⟨mg 555 (by decide +kernel) (by decide +kernel), mg 554 (by decide +kernel) (by decide +kernel), w_ini_J7, ⟨by decide +kernel, by decide +kernel, by decide +kernel⟩⟩

def gcn0 (tg : Nat) : String := (gC.getD tg ("", gT0, 0)).1
def gCds : List (MethodName × ByteArray × Nat × Option FieldType × Nat) := [(⟨"GlkPanes$Pane", "cellAt", "(II)I"⟩, prog_6_method_6_code, 3, (some .int), 724), (⟨"GlkPanes$Pane", "has", "(II)Z"⟩, prog_6_method_2_code, 3, (some .boolean), 626), (⟨"GlkPanes$Pane", "loseOutside", "(II)V"⟩, prog_6_method_4_code, 3, none, 422), (⟨"GlkPanes$Pane", "moveTo", "(IIII)Z"⟩, prog_6_method_3_code, 8, (some .boolean), 405), (⟨"GlkPanes$Pane", "wanted", "(IZ)I"⟩, prog_6_method_5_code, 3, (some .int), 454), (⟨"GlkPanes$Writing", "canBeAsked", "(I)Z"⟩, prog_11_method_5_code, 3, (some .boolean), 778), (⟨"GlkPanes$Writing", "finishLine", "()V"⟩, prog_11_method_6_code, 1, none, 792)]
theorem gCds_k : gCds.all (fun q => gH q.2.2.2.2 (.code q.1 q.2.1 q.2.2.1 q.2.2.2.1)) = true := by decide +kernel
def gHc (x : MethodName) : Bool := gCds.any (fun q => decide (q.1 = x))
/-- static calls: the callee, how many arguments, the places of the words (link, static); nest: 1 for a nest mate's -/
def gSt0 : List (Nat × gMeth × Nat × Nat × Nat × Nat) := [(24, m_Events_fillFacts, 5, 0, 585, 586), (38, m_G_signOf, 1, 1, 822, 607), (47, m_Arrays_fill_2, 2, 0, 588, 323)]
def gSt1 : List (Nat × gMeth × Nat × Nat × Nat × Nat) := [(15, m_Arrays_fill_2, 2, 0, 322, 323), (21, m_G_signOf, 1, 1, 606, 607), (66, m_Arrays_fill_4, 4, 0, 413, 414)]
def gSt2 : List (Nat × gMeth × Nat × Nat × Nat × Nat) := [(22, m_G_cell, 3, 1, 831, 598)]
def gSt3 : List (Nat × gMeth × Nat × Nat × Nat × Nat) := [(32, m_G_isFixed, 1, 1, 438, 439), (36, m_G_isAlongRows, 1, 1, 441, 428)]
def gSt4 : List (Nat × gMeth × Nat × Nat × Nat × Nat) := []
def gSt5 : List (Nat × gMeth × Nat × Nat × Nat × Nat) := []
def gSt6 : List (Nat × gMeth × Nat × Nat × Nat × Nat) := [(31, m_G_signOf, 1, 1, 634, 607), (57, m_G_cell, 3, 1, 803, 598)]
def gSt7 : List (Nat × gMeth × Nat × Nat × Nat × Nat) := [(47, m_Tree_newLeaf, 2, 0, 159, 160), (110, m_G_isBelow, 2, 1, 537, 538), (121, m_Tree_layOutFrom, 6, 0, 394, 395), (129, m_Tree_layOutSides, 2, 0, 424, 425), (136, m_G_isAlongRows, 1, 1, 427, 428), (163, m_Tree_isIn, 3, 0, 753, 754)]
def gSt8 : List (Nat × gMeth × Nat × Nat × Nat × Nat) := [(32, m_G_signOf, 1, 1, 703, 607), (43, m_Wrap_lastSpace, 3, 0, 712, 713), (47, m_Wrap_afterSpaces, 3, 0, 715, 716)]
def gSt9 : List (Nat × gMeth × Nat × Nat × Nat × Nat) := [(33, m_G_isMeasure, 2, 0, 463, 464), (37, m_G_isFixed, 1, 0, 466, 439), (73, m_G_isBelow, 2, 0, 550, 538), (77, m_G_isAlongRows, 1, 0, 551, 428), (107, m_G_numberOf, 2, 0, 561, 562), (143, m_G_isPlainSign, 1, 0, 593, 594), (154, m_G_cell, 3, 0, 597, 598), (188, m_G_signOf, 1, 0, 725, 607), (191, m_G_styleOf, 1, 0, 726, 727), (194, m_G_linkOf, 1, 0, 729, 730), (213, m_G_isAsk, 1, 0, 770, 771)]
def gSt10 : List (Nat × gMeth × Nat × Nat × Nat × Nat) := [(123, m_M_nearest, 3, 0, 870, 871), (134, m_M_in, 3, 0, 1014, 1015)]
def gSt11 : List (Nat × gMeth × Nat × Nat × Nat × Nat) := []
def gSt12 : List (Nat × gMeth × Nat × Nat × Nat × Nat) := []
def gSt13 : List (Nat × gMeth × Nat × Nat × Nat × Nat) := [(13, m_Arrays_rangeCheck, 3, 0, 416, 417)]
def gSt14 : List (Nat × gMeth × Nat × Nat × Nat × Nat) := [(9, m_Law_cell, 2, 0, 860, 861)]
def gSts (o : Nat) : List (Nat × gMeth × Nat × Nat × Nat × Nat) := match o with
  | 0 => gSt0
  | 1 => gSt1
  | 2 => gSt2
  | 3 => gSt3
  | 4 => gSt4
  | 5 => gSt5
  | 6 => gSt6
  | 7 => gSt7
  | 8 => gSt8
  | 9 => gSt9
  | 10 => gSt10
  | 11 => gSt11
  | 12 => gSt12
  | 13 => gSt13
  | _ => gSt14
def gSp0 : List (Nat × gMeth × Nat × Nat × Nat × Nat) := []
def gSp1 : List (Nat × gMeth × Nat × Nat × Nat × Nat) := [(3, m_Writing_new, 2, 0, 321, 168)]
def gSp2 : List (Nat × gMeth × Nat × Nat × Nat × Nat) := []
def gSp3 : List (Nat × gMeth × Nat × Nat × Nat × Nat) := [(3, m_Pane_new, 2, 0, 475, 171)]
def gSp4 : List (Nat × gMeth × Nat × Nat × Nat × Nat) := []
def gSp5 : List (Nat × gMeth × Nat × Nat × Nat × Nat) := [(3, m_Pane_new, 2, 0, 355, 171)]
def gSp6 : List (Nat × gMeth × Nat × Nat × Nat × Nat) := [(3, m_Writing_new, 2, 0, 167, 168), (17, m_Wrap_new, 0, 1, 198, 199)]
def gSp7 : List (Nat × gMeth × Nat × Nat × Nat × Nat) := [(68, m_Pair_new, 4, 0, 472, 473), (84, m_Text_new, 1, 0, 164, 165), (89, m_Grid_new, 1, 0, 318, 319), (92, m_Picture_new, 1, 0, 352, 353), (93, m_Pane_new, 2, 0, 373, 171)]
def gSp8 : List (Nat × gMeth × Nat × Nat × Nat × Nat) := []
def gSp9 : List (Nat × gMeth × Nat × Nat × Nat × Nat) := [(11, m_Events_new, 0, 1, 70, 71), (18, m_Tree_new, 2, 0, 96, 97)]
def gSp10 : List (Nat × gMeth × Nat × Nat × Nat × Nat) := []
def gSp11 : List (Nat × gMeth × Nat × Nat × Nat × Nat) := [(3, m_Pane_new, 2, 0, 170, 171), (17, m_Line_new, 0, 1, 176, 177)]
def gSp12 : List (Nat × gMeth × Nat × Nat × Nat × Nat) := []
def gSp13 : List (Nat × gMeth × Nat × Nat × Nat × Nat) := []
def gSp14 : List (Nat × gMeth × Nat × Nat × Nat × Nat) := [(15, m_G_new, 2, 0, 62, 63), (20, m_M_new, 2, 0, 865, 866)]
def gSps (o : Nat) : List (Nat × gMeth × Nat × Nat × Nat × Nat) := match o with
  | 0 => gSp0
  | 1 => gSp1
  | 2 => gSp2
  | 3 => gSp3
  | 4 => gSp4
  | 5 => gSp5
  | 6 => gSp6
  | 7 => gSp7
  | 8 => gSp8
  | 9 => gSp9
  | 10 => gSp10
  | 11 => gSp11
  | 12 => gSp12
  | 13 => gSp13
  | _ => gSp14
/-- virtual calls: how many arguments, the named method, its link's place, and for each kind of receiver the callee, the sort of the call (0 its own, 1 inherited or overridden, 2 abstract), the declarer, the places of the words (selects, instance, same, the declarer's) -/
def gVt0 : List (Nat × Nat × MethodName × Nat × List (Nat × gMeth × Nat × String × Nat × Nat × Nat × Nat)) := [(20, 0, ⟨"GlkPanes$Events", "nextRow", "()[I"⟩, 581, [(0, m_Events_nextRow, 0, "", 6, 583, 0, 0)]), (34, 1, ⟨"GlkPanes$Line", "cellOf", "(I)I"⟩, 821, [(2, m_Line_cellOf, 0, "", 685, 684, 0, 0)])]
def gVt1 : List (Nat × Nat × MethodName × Nat × List (Nat × gMeth × Nat × String × Nat × Nat × Nat × Nat)) := [(25, 0, ⟨"GlkPanes$Grid", "goToNextRow", "()V"⟩, 609, [(1, m_Grid_goToNextRow, 0, "", 7, 611, 0, 0)]), (39, 3, ⟨"GlkPanes$Grid", "write", "(III)V"⟩, 613, [(1, m_Grid_write, 0, "", 8, 615, 0, 0)]), (43, 2, ⟨"GlkPanes$Grid", "indexOf", "(II)I"⟩, 617, [(1, m_Grid_indexOf, 0, "", 9, 619, 0, 0)]), (47, 2, ⟨"GlkPanes$Grid", "has", "(II)Z"⟩, 621, [(1, m_Pane_has, 1, "GlkPanes$Pane", 624, 625, 622, 625)]), (60, 1, ⟨"GlkPanes$Line", "cellOf", "(I)I"⟩, 683, [(2, m_Line_cellOf, 0, "", 685, 684, 0, 0)])]
def gVt2 : List (Nat × Nat × MethodName × Nat × List (Nat × gMeth × Nat × String × Nat × Nat × Nat × Nat)) := []
def gVt3 : List (Nat × Nat × MethodName × Nat × List (Nat × gMeth × Nat × String × Nat × Nat × Nat × Nat)) := [(22, 0, ⟨"GlkPanes$Pair", "measuresFirst", "()Z"⟩, 520, [(3, m_Pair_measuresFirst, 0, "", 457, 456, 0, 0)]), (39, 2, ⟨"GlkPanes$Pane", "wanted", "(IZ)I"⟩, 442, [(1, m_Writing_wanted, 1, "GlkPanes$Pane", 446, 447, 445, 443), (3, m_Pane_wanted, 1, "GlkPanes$Pane", 449, 443, 445, 443), (4, m_Pane_wanted, 0, "", 444, 443, 0, 0), (5, m_Picture_wanted, 1, "GlkPanes$Pane", 450, 451, 445, 443), (6, m_Writing_wanted, 1, "GlkPanes$Pane", 453, 447, 445, 443)])]
def gVt4 : List (Nat × Nat × MethodName × Nat × List (Nat × gMeth × Nat × String × Nat × Nat × Nat × Nat)) := [(34, 2, ⟨"GlkPanes$Pane", "loseOutside", "(II)V"⟩, 406, [(1, m_Grid_loseOutside, 1, "GlkPanes$Pane", 410, 411, 409, 407), (3, m_Pane_loseOutside, 1, "GlkPanes$Pane", 419, 407, 409, 407), (4, m_Pane_loseOutside, 0, "", 408, 407, 0, 0), (5, m_Pane_loseOutside, 1, "GlkPanes$Pane", 420, 407, 409, 407), (6, m_Pane_loseOutside, 1, "GlkPanes$Pane", 421, 407, 409, 407)])]
def gVt5 : List (Nat × Nat × MethodName × Nat × List (Nat × gMeth × Nat × String × Nat × Nat × Nat × Nat)) := []
def gVt6 : List (Nat × Nat × MethodName × Nat × List (Nat × gMeth × Nat × String × Nat × Nat × Nat × Nat)) := [(28, 0, ⟨"GlkPanes$Text", "dropOldest", "()V"⟩, 630, [(6, m_Text_dropOldest, 0, "", 10, 632, 0, 0)]), (50, 1, ⟨"GlkPanes$Line", "cellOf", "(I)I"⟩, 702, [(2, m_Line_cellOf, 0, "", 685, 684, 0, 0)]), (53, 1, ⟨"GlkPanes$Text", "put", "(I)V"⟩, 802, [(6, m_Text_put, 0, "", 1245, 628, 0, 0)]), (64, 2, ⟨"GlkPanes$Wrap", "fold", "(LGlkPanes$Text;I)V"⟩, 690, [(8, m_Wrap_fold, 0, "", 692, 691, 0, 0)]), (74, 2, ⟨"GlkPanes$Wrap", "signIndex", "(II)I"⟩, 718, [(8, m_Wrap_signIndex, 0, "", 720, 719, 0, 0)]), (77, 1, ⟨"GlkPanes$Text", "cellOf", "(I)I"⟩, 722, [(6, m_Text_cellOf, 0, "", 700, 699, 0, 0)])]
def gVt7 : List (Nat × Nat × MethodName × Nat × List (Nat × gMeth × Nat × String × Nat × Nat × Nat × Nat)) := [(17, 2, ⟨"GlkPanes$Tree", "setScreen", "(II)V"⟩, 102, [(7, m_Tree_setScreen, 0, "", 104, 103, 0, 0)]), (43, 1, ⟨"GlkPanes$Tree", "countOpen", "(Z)I"⟩, 151, [(7, m_Tree_countOpen, 0, "", 153, 152, 0, 0)]), (51, 1, ⟨"GlkPanes$Tree", "enter", "(LGlkPanes$Pane;)V"⟩, 386, [(7, m_Tree_enter, 0, "", 1, 388, 0, 0)]), (59, 0, ⟨"GlkPanes$Tree", "layOut", "()I"⟩, 390, [(7, m_Tree_layOut, 0, "", 392, 391, 0, 0)]), (71, 2, ⟨"GlkPanes$Tree", "replace", "(LGlkPanes$Pane;LGlkPanes$Pane;)V"⟩, 512, [(7, m_Tree_replace, 0, "", 2, 514, 0, 0)]), (75, 2, ⟨"GlkPanes$Pair", "join", "(LGlkPanes$Pane;LGlkPanes$Pane;)V"⟩, 516, [(3, m_Pair_join, 0, "", 518, 517, 0, 0)]), (101, 1, ⟨"GlkPanes$Tree", "forget", "(LGlkPanes$Pane;)V"⟩, 529, [(7, m_Tree_forget, 0, "", 3, 531, 0, 0)]), (104, 1, ⟨"GlkPanes$Tree", "forgetWithAllBelow", "(LGlkPanes$Pane;)V"⟩, 533, [(7, m_Tree_forgetWithAllBelow, 0, "", 4, 535, 0, 0)]), (107, 0, ⟨"GlkPanes$Tree", "forgetClosedKeys", "()V"⟩, 540, [(7, m_Tree_forgetClosedKeys, 0, "", 5, 542, 0, 0)]), (117, 1, ⟨"GlkPanes$Tree", "find", "(I)LGlkPanes$Pane;"⟩, 544, [(7, m_Tree_find, 0, "", 461, 460, 0, 0)]), (125, 4, ⟨"GlkPanes$Pane", "moveTo", "(IIII)Z"⟩, 397, [(1, m_Pane_moveTo, 1, "GlkPanes$Pane", 401, 398, 400, 398), (3, m_Pane_moveTo, 1, "GlkPanes$Pane", 402, 398, 400, 398), (4, m_Pane_moveTo, 0, "", 399, 398, 0, 0), (5, m_Pane_moveTo, 1, "GlkPanes$Pane", 403, 398, 400, 398), (6, m_Pane_moveTo, 1, "GlkPanes$Pane", 404, 398, 400, 398)]), (146, 1, ⟨"GlkPanes$Pair", "borderIn", "(I)I"⟩, 430, [(3, m_Pair_borderIn, 0, "", 432, 431, 0, 0)]), (150, 1, ⟨"GlkPanes$Pair", "measureIn", "(I)I"⟩, 434, [(3, m_Pair_measureIn, 0, "", 436, 435, 0, 0)]), (153, 0, ⟨"GlkPanes$Pair", "measuresFirst", "()Z"⟩, 455, [(3, m_Pair_measuresFirst, 0, "", 457, 456, 0, 0)]), (169, 2, ⟨"GlkPanes$Pane", "has", "(II)Z"⟩, 756, [(1, m_Pane_has, 1, "GlkPanes$Pane", 1234, 625, 1233, 625), (3, m_Pane_has, 1, "GlkPanes$Pane", 1235, 625, 1233, 625), (4, m_Pane_has, 0, "", 1236, 625, 0, 0), (5, m_Pane_has, 1, "GlkPanes$Pane", 1237, 625, 1233, 625), (6, m_Pane_has, 1, "GlkPanes$Pane", 1238, 625, 1233, 625)])]
def gVt8 : List (Nat × Nat × MethodName × Nat × List (Nat × gMeth × Nat × String × Nat × Nat × Nat × Nat)) := [(22, 0, ⟨"GlkPanes$Text", "length", "()I"⟩, 694, [(6, m_Text_length, 0, "", 696, 695, 0, 0)]), (28, 1, ⟨"GlkPanes$Text", "cellOf", "(I)I"⟩, 698, [(6, m_Text_cellOf, 0, "", 700, 699, 0, 0)]), (35, 4, ⟨"GlkPanes$Wrap", "foldParagraph", "(LGlkPanes$Text;III)V"⟩, 704, [(8, m_Wrap_foldParagraph, 0, "", 11, 706, 0, 0)]), (39, 2, ⟨"GlkPanes$Wrap", "addLine", "(II)V"⟩, 708, [(8, m_Wrap_addLine, 0, "", 12, 710, 0, 0)])]
def gVt9 : List (Nat × Nat × MethodName × Nat × List (Nat × gMeth × Nat × String × Nat × Nat × Nat × Nat)) := [(25, 1, ⟨"GlkPanes", "openTop", "(I)I"⟩, 143, [(9, m_G_openTop, 0, "", 0, 145, 0, 0)]), (29, 1, ⟨"GlkPanes$Tree", "find", "(I)LGlkPanes$Pane;"⟩, 459, [(7, m_Tree_find, 0, "", 461, 460, 0, 0)]), (41, 1, ⟨"GlkPanes$Tree", "hasRoomFor", "(I)Z"⟩, 147, [(7, m_Tree_hasRoomFor, 0, "", 149, 148, 0, 0)]), (44, 4, ⟨"GlkPanes$Tree", "split", "(LGlkPanes$Pane;III)I"⟩, 467, [(7, m_Tree_split, 0, "", 469, 468, 0, 0)]), (52, 1, ⟨"GlkPanes$Tree", "addTop", "(I)I"⟩, 155, [(7, m_Tree_addTop, 0, "", 157, 156, 0, 0)]), (55, 1, ⟨"GlkPanes$Tree", "remove", "(LGlkPanes$Pane;)V"⟩, 525, [(7, m_Tree_remove, 0, "", 527, 526, 0, 0)]), (83, 3, ⟨"GlkPanes$Pair", "rearrange", "(IILGlkPanes$Pane;)V"⟩, 552, [(3, m_Pair_rearrange, 0, "", 554, 553, 0, 0)]), (87, 0, ⟨"GlkPanes$Tree", "layOut", "()I"⟩, 556, [(7, m_Tree_layOut, 0, "", 392, 391, 0, 0)]), (130, 2, ⟨"GlkPanes$Tree", "setScreen", "(II)V"⟩, 576, [(7, m_Tree_setScreen, 0, "", 104, 103, 0, 0)]), (139, 4, ⟨"GlkPanes$Events", "add", "(IIII)V"⟩, 577, [(0, m_Events_add, 0, "", 579, 578, 0, 0)]), (158, 1, ⟨"GlkPanes$Writing", "put", "(I)V"⟩, 600, [(1, m_Grid_put, 2, "GlkPanes$Writing", 603, 604, 602, 0), (6, m_Text_put, 2, "GlkPanes$Writing", 627, 628, 602, 0)]), (172, 2, ⟨"GlkPanes$Grid", "has", "(II)Z"⟩, 649, [(1, m_Pane_has, 1, "GlkPanes$Pane", 624, 625, 622, 625)]), (175, 0, ⟨"GlkPanes$Writing", "clear", "()V"⟩, 658, [(1, m_Grid_clear, 2, "GlkPanes$Writing", 661, 662, 660, 0), (6, m_Text_clear, 2, "GlkPanes$Writing", 664, 665, 660, 0)]), (183, 2, ⟨"GlkPanes$Pane", "has", "(II)Z"⟩, 676, [(1, m_Pane_has, 1, "GlkPanes$Pane", 1234, 625, 1233, 625), (3, m_Pane_has, 1, "GlkPanes$Pane", 1235, 625, 1233, 625), (4, m_Pane_has, 0, "", 1236, 625, 0, 0), (5, m_Pane_has, 1, "GlkPanes$Pane", 1237, 625, 1233, 625), (6, m_Pane_has, 1, "GlkPanes$Pane", 1238, 625, 1233, 625)]), (184, 2, ⟨"GlkPanes$Writing", "cellAt", "(II)I"⟩, 677, [(1, m_Grid_cellAt, 1, "GlkPanes$Pane", 680, 681, 678, 723), (6, m_Text_cellAt, 1, "GlkPanes$Pane", 687, 688, 678, 723)]), (199, 0, ⟨"GlkPanes$Text", "countLines", "()I"⟩, 737, [(6, m_Text_countLines, 0, "", 739, 738, 0, 0)]), (202, 2, ⟨"GlkPanes$Tree", "hasPlace", "(II)Z"⟩, 745, [(7, m_Tree_hasPlace, 0, "", 747, 746, 0, 0)]), (205, 2, ⟨"GlkPanes$Tree", "paneAt", "(II)LGlkPanes$Pane;"⟩, 749, [(7, m_Tree_paneAt, 0, "", 751, 750, 0, 0)]), (209, 2, ⟨"GlkPanes$Pane", "cellAt", "(II)I"⟩, 757, [(1, m_Grid_cellAt, 1, "GlkPanes$Pane", 1240, 681, 1239, 723), (3, m_Pair_cellAt, 1, "GlkPanes$Pane", 1241, 758, 1239, 723), (4, m_Pane_cellAt, 0, "", 1242, 723, 0, 0), (5, m_Picture_cellAt, 1, "GlkPanes$Pane", 1243, 760, 1239, 723), (6, m_Text_cellAt, 1, "GlkPanes$Pane", 1244, 688, 1239, 723)]), (216, 1, ⟨"GlkPanes$Writing", "canBeAsked", "(I)Z"⟩, 773, [(1, m_Writing_canBeAsked, 1, "GlkPanes$Writing", 776, 774, 775, 774), (6, m_Writing_canBeAsked, 1, "GlkPanes$Writing", 777, 774, 775, 774)]), (223, 1, ⟨"GlkPanes$Line", "begin", "(I)V"⟩, 779, [(2, m_Line_begin, 0, "", 781, 780, 0, 0)]), (231, 0, ⟨"GlkPanes$Writing", "finishLine", "()V"⟩, 787, [(1, m_Writing_finishLine, 1, "GlkPanes$Writing", 790, 788, 789, 788), (6, m_Writing_finishLine, 1, "GlkPanes$Writing", 791, 788, 789, 788)]), (236, 2, ⟨"GlkPanes", "typeInLine", "(LGlkPanes$Writing;I)I"⟩, 813, [(9, m_G_typeInLine, 0, "", 13, 815, 0, 0)]), (240, 2, ⟨"GlkPanes$Events", "addLine", "(ILGlkPanes$Line;)V"⟩, 817, [(0, m_Events_addLine, 0, "", 819, 818, 0, 0)]), (244, 0, ⟨"GlkPanes$Line", "removeLast", "()V"⟩, 823, [(2, m_Line_removeLast, 0, "", 825, 824, 0, 0)]), (247, 1, ⟨"GlkPanes$Line", "append", "(I)V"⟩, 827, [(2, m_Line_append, 0, "", 829, 828, 0, 0)]), (252, 0, ⟨"GlkPanes$Events", "tellOldest", "()I"⟩, 840, [(0, m_Events_tellOldest, 0, "", 842, 841, 0, 0)]), (255, 1, ⟨"GlkPanes$Events", "told", "(I)I"⟩, 851, [(0, m_Events_told, 0, "", 853, 852, 0, 0)]), (258, 1, ⟨"GlkPanes$Tree", "countOpen", "(Z)I"⟩, 859, [(7, m_Tree_countOpen, 0, "", 153, 152, 0, 0)])]
def gVt10 : List (Nat × Nat × MethodName × Nat × List (Nat × gMeth × Nat × String × Nat × Nat × Nat × Nat)) := [(141, 5, ⟨"GlkPanesModel", "room", "(IIIII)V"⟩, 1037, [(10, m_M_room, 0, "", 20, 1039, 0, 0)]), (145, 1, ⟨"GlkPanesModel", "split", "(I)V"⟩, 1041, [(10, m_M_split, 0, "", 21, 1043, 0, 0)]), (149, 1, ⟨"GlkPanesModel", "fit", "(I)V"⟩, 1049, [(10, m_M_fit, 0, "", 23, 1051, 0, 0)]), (152, 3, ⟨"GlkPanesModel", "wanted", "(IIZ)I"⟩, 1045, [(10, m_M_wanted, 0, "", 22, 1047, 0, 0)]), (156, 1, ⟨"GlkPanesModel", "blank", "(I)V"⟩, 1053, [(10, m_M_blank, 0, "", 24, 1055, 0, 0)]), (162, 1, ⟨"GlkPanesModel", "isPane", "(I)Z"⟩, 1010, [(10, m_M_isPane, 0, "", 14, 1012, 0, 0)]), (166, 2, ⟨"GlkPanesModel", "isMethod", "(II)Z"⟩, 1017, [(10, m_M_isMethod, 0, "", 15, 1019, 0, 0)]), (170, 0, ⟨"GlkPanesModel", "leaves", "()I"⟩, 1021, [(10, m_M_leaves, 0, "", 16, 1023, 0, 0)]), (174, 1, ⟨"GlkPanesModel", "make", "(I)I"⟩, 1025, [(10, m_M_make, 0, "", 17, 1027, 0, 0)]), (178, 2, ⟨"GlkPanesModel", "put", "(II)V"⟩, 1029, [(10, m_M_put, 0, "", 18, 1031, 0, 0)]), (182, 0, ⟨"GlkPanesModel", "arrangeAll", "()V"⟩, 1033, [(10, m_M_arrangeAll, 0, "", 19, 1035, 0, 0)]), (185, 2, ⟨"GlkPanesModel", "isWithin", "(II)Z"⟩, 1061, [(10, m_M_isWithin, 0, "", 25, 1063, 0, 0)]), (188, 4, ⟨"GlkPanesModel", "event", "(IIII)V"⟩, 1085, [(10, m_M_event_4, 0, "", 26, 1087, 0, 0)]), (192, 3, ⟨"GlkPanesModel", "isCell", "(III)Z"⟩, 1117, [(10, m_M_isCell, 0, "", 33, 1119, 0, 0)]), (195, 1, ⟨"GlkPanesModel", "isWritable", "(I)Z"⟩, 1101, [(10, m_M_isWritable, 0, "", 29, 1103, 0, 0)]), (198, 4, ⟨"GlkPanesModel", "add", "(IIII)V"⟩, 1105, [(10, m_M_add, 0, "", 30, 1107, 0, 0)]), (201, 1, ⟨"GlkPanesModel", "nextRow", "(I)V"⟩, 1109, [(10, m_M_nextRow, 0, "", 31, 1111, 0, 0)]), (204, 6, ⟨"GlkPanesModel", "lay", "(IIIIII)V"⟩, 1113, [(10, m_M_lay, 0, "", 32, 1115, 0, 0)]), (211, 2, ⟨"GlkPanesModel", "signAt", "(II)I"⟩, 1161, [(10, m_M_signAt, 0, "", 37, 1163, 0, 0)]), (215, 2, ⟨"GlkPanesModel", "line", "(II)V"⟩, 1165, [(10, m_M_line, 0, "", 38, 1167, 0, 0)]), (218, 3, ⟨"GlkPanesModel", "findParts", "(III)V"⟩, 1169, [(10, m_M_findParts, 0, "", 39, 1171, 0, 0)]), (222, 1, ⟨"GlkPanesModel", "findLines", "(I)V"⟩, 1157, [(10, m_M_findLines, 0, "", 36, 1159, 0, 0)]), (225, 3, ⟨"GlkPanesModel", "standing", "(III)I"⟩, 1153, [(10, m_M_standing, 0, "", 35, 1155, 0, 0)]), (228, 4, ⟨"GlkPanesModel", "shownAt", "(IIII)I"⟩, 1149, [(10, m_M_shownAt, 0, "", 34, 1151, 0, 0)]), (232, 3, ⟨"GlkPanesModel", "has", "(III)Z"⟩, 1189, [(10, m_M_has, 0, "", 42, 1191, 0, 0)]), (235, 2, ⟨"GlkPanesModel", "isScreen", "(II)Z"⟩, 1181, [(10, m_M_isScreen, 0, "", 40, 1183, 0, 0)]), (238, 2, ⟨"GlkPanesModel", "paneAt", "(II)I"⟩, 1185, [(10, m_M_paneAt, 0, "", 41, 1187, 0, 0)]), (241, 1, ⟨"GlkPanesModel", "echoLine", "(I)V"⟩, 1205, [(10, m_M_echoLine, 0, "", 43, 1207, 0, 0)]), (247, 0, ⟨"GlkPanesModel", "drop", "()V"⟩, 1089, [(10, m_M_drop, 0, "", 27, 1091, 0, 0)]), (250, 2, ⟨"GlkPanesModel", "move", "(II)V"⟩, 1093, [(10, m_M_move, 0, "", 28, 1095, 0, 0)])]
def gVt11 : List (Nat × Nat × MethodName × Nat × List (Nat × gMeth × Nat × String × Nat × Nat × Nat × Nat)) := [(32, 0, ⟨"GlkPanes$Writing", "putLine", "()V"⟩, 793, [(1, m_Grid_putLine, 2, "GlkPanes$Writing", 796, 797, 795, 0), (6, m_Text_putLine, 2, "GlkPanes$Writing", 799, 800, 795, 0)]), (41, 1, ⟨"GlkPanes$Line", "begin", "(I)V"⟩, 804, [(2, m_Line_begin, 0, "", 781, 780, 0, 0)])]
def gVt12 : List (Nat × Nat × MethodName × Nat × List (Nat × gMeth × Nat × String × Nat × Nat × Nat × Nat)) := []
def gVt13 : List (Nat × Nat × MethodName × Nat × List (Nat × gMeth × Nat × String × Nat × Nat × Nat × Nat)) := []
def gVt14 : List (Nat × Nat × MethodName × Nat × List (Nat × gMeth × Nat × String × Nat × Nat × Nat × Nat)) := [(21, 4, ⟨"GlkPanes", "open", "(IIII)I"⟩, 139, [(9, m_G_open, 0, "", 141, 140, 0, 0)]), (25, 4, ⟨"GlkPanesModel", "open", "(IIII)I"⟩, 1006, [(10, m_M_open, 0, "", 1008, 1007, 0, 0)]), (26, 1, ⟨"GlkPanes", "close", "(I)I"⟩, 521, [(9, m_G_close, 0, "", 523, 522, 0, 0)]), (30, 1, ⟨"GlkPanesModel", "close", "(I)I"⟩, 1057, [(10, m_M_close, 0, "", 1059, 1058, 0, 0)]), (31, 4, ⟨"GlkPanes", "arrange", "(IIII)I"⟩, 545, [(9, m_G_arrange, 0, "", 547, 546, 0, 0)]), (34, 4, ⟨"GlkPanesModel", "arrange", "(IIII)I"⟩, 1065, [(10, m_M_arrange, 0, "", 1067, 1066, 0, 0)]), (35, 2, ⟨"GlkPanes", "pane", "(II)I"⟩, 557, [(9, m_G_pane, 0, "", 559, 558, 0, 0)]), (39, 2, ⟨"GlkPanesModel", "pane", "(II)I"⟩, 1069, [(10, m_M_pane, 0, "", 1071, 1070, 0, 0)]), (40, 2, ⟨"GlkPanes", "pair", "(II)I"⟩, 564, [(9, m_G_pair, 0, "", 566, 565, 0, 0)]), (43, 2, ⟨"GlkPanesModel", "pair", "(II)I"⟩, 1073, [(10, m_M_pair, 0, "", 1075, 1074, 0, 0)]), (44, 0, ⟨"GlkPanes", "root", "()I"⟩, 568, [(9, m_G_root, 0, "", 570, 569, 0, 0)]), (48, 0, ⟨"GlkPanesModel", "root", "()I"⟩, 1077, [(10, m_M_root, 0, "", 1079, 1078, 0, 0)]), (49, 2, ⟨"GlkPanes", "resize", "(II)I"⟩, 572, [(9, m_G_resize, 0, "", 574, 573, 0, 0)]), (52, 2, ⟨"GlkPanesModel", "resize", "(II)I"⟩, 1081, [(10, m_M_resize, 0, "", 1083, 1082, 0, 0)]), (53, 2, ⟨"GlkPanes", "sign", "(II)I"⟩, 589, [(9, m_G_sign, 0, "", 591, 590, 0, 0)]), (56, 2, ⟨"GlkPanesModel", "sign", "(II)I"⟩, 1097, [(10, m_M_sign, 0, "", 1099, 1098, 0, 0)]), (57, 2, ⟨"GlkPanes", "style", "(II)I"⟩, 636, [(9, m_G_style, 0, "", 638, 637, 0, 0)]), (60, 2, ⟨"GlkPanesModel", "style", "(II)I"⟩, 1121, [(10, m_M_style, 0, "", 1123, 1122, 0, 0)]), (61, 2, ⟨"GlkPanes", "link", "(II)I"⟩, 640, [(9, m_G_link, 0, "", 642, 641, 0, 0)]), (64, 2, ⟨"GlkPanesModel", "link", "(II)I"⟩, 1125, [(10, m_M_link, 0, "", 1127, 1126, 0, 0)]), (65, 3, ⟨"GlkPanes", "cursor", "(III)I"⟩, 644, [(9, m_G_cursor, 0, "", 646, 645, 0, 0)]), (69, 3, ⟨"GlkPanesModel", "cursor", "(III)I"⟩, 1129, [(10, m_M_cursor, 0, "", 1131, 1130, 0, 0)]), (70, 2, ⟨"GlkPanes", "at", "(II)I"⟩, 650, [(9, m_G_at, 0, "", 652, 651, 0, 0)]), (73, 2, ⟨"GlkPanesModel", "at", "(II)I"⟩, 1133, [(10, m_M_at, 0, "", 1135, 1134, 0, 0)]), (74, 1, ⟨"GlkPanes", "wipe", "(I)I"⟩, 654, [(9, m_G_wipe, 0, "", 656, 655, 0, 0)]), (77, 1, ⟨"GlkPanesModel", "wipe", "(I)I"⟩, 1137, [(10, m_M_wipe, 0, "", 1139, 1138, 0, 0)]), (78, 2, ⟨"GlkPanes", "picture", "(II)I"⟩, 667, [(9, m_G_picture, 0, "", 669, 668, 0, 0)]), (81, 2, ⟨"GlkPanesModel", "picture", "(II)I"⟩, 1141, [(10, m_M_picture, 0, "", 1143, 1142, 0, 0)]), (82, 4, ⟨"GlkPanes", "shown", "(IIII)I"⟩, 672, [(9, m_G_shown, 0, "", 674, 673, 0, 0)]), (85, 4, ⟨"GlkPanesModel", "shown", "(IIII)I"⟩, 1145, [(10, m_M_shown, 0, "", 1147, 1146, 0, 0)]), (86, 1, ⟨"GlkPanes", "lines", "(I)I"⟩, 732, [(9, m_G_lines, 0, "", 734, 733, 0, 0)]), (89, 1, ⟨"GlkPanesModel", "lines", "(I)I"⟩, 1173, [(10, m_M_lines, 0, "", 1175, 1174, 0, 0)]), (90, 2, ⟨"GlkPanes", "drawn", "(II)I"⟩, 741, [(9, m_G_drawn, 0, "", 743, 742, 0, 0)]), (93, 2, ⟨"GlkPanesModel", "drawn", "(II)I"⟩, 1177, [(10, m_M_drawn, 0, "", 1179, 1178, 0, 0)]), (94, 2, ⟨"GlkPanes", "under", "(II)I"⟩, 762, [(9, m_G_under, 0, "", 764, 763, 0, 0)]), (97, 2, ⟨"GlkPanesModel", "under", "(II)I"⟩, 1193, [(10, m_M_under, 0, "", 1195, 1194, 0, 0)]), (98, 3, ⟨"GlkPanes", "ask", "(III)I"⟩, 766, [(9, m_G_ask, 0, "", 768, 767, 0, 0)]), (101, 3, ⟨"GlkPanesModel", "ask", "(III)I"⟩, 1197, [(10, m_M_ask, 0, "", 1199, 1198, 0, 0)]), (102, 2, ⟨"GlkPanes", "cancel", "(II)I"⟩, 783, [(9, m_G_cancel, 0, "", 785, 784, 0, 0)]), (105, 2, ⟨"GlkPanesModel", "cancel", "(II)I"⟩, 1201, [(10, m_M_cancel, 0, "", 1203, 1202, 0, 0)]), (106, 2, ⟨"GlkPanes", "echo", "(IZ)I"⟩, 805, [(9, m_G_echo, 0, "", 807, 806, 0, 0)]), (110, 2, ⟨"GlkPanesModel", "echo", "(IZ)I"⟩, 1209, [(10, m_M_echo, 0, "", 1211, 1210, 0, 0)]), (111, 2, ⟨"GlkPanes", "type", "(II)I"⟩, 809, [(9, m_G_type, 0, "", 811, 810, 0, 0)]), (114, 2, ⟨"GlkPanesModel", "type", "(II)I"⟩, 1213, [(10, m_M_type, 0, "", 1215, 1214, 0, 0)]), (115, 2, ⟨"GlkPanes", "click", "(II)I"⟩, 832, [(9, m_G_click, 0, "", 834, 833, 0, 0)]), (118, 2, ⟨"GlkPanesModel", "click", "(II)I"⟩, 1217, [(10, m_M_click, 0, "", 1219, 1218, 0, 0)]), (119, 0, ⟨"GlkPanes", "take", "()I"⟩, 836, [(9, m_G_take, 0, "", 838, 837, 0, 0)]), (122, 0, ⟨"GlkPanesModel", "take", "()I"⟩, 1221, [(10, m_M_take, 0, "", 1223, 1222, 0, 0)]), (123, 1, ⟨"GlkPanes", "event", "(I)I"⟩, 847, [(9, m_G_event, 0, "", 849, 848, 0, 0)]), (126, 1, ⟨"GlkPanesModel", "event", "(I)I"⟩, 1225, [(10, m_M_event_1, 0, "", 1227, 1226, 0, 0)]), (127, 1, ⟨"GlkPanes", "count", "(I)I"⟩, 855, [(9, m_G_count, 0, "", 857, 856, 0, 0)]), (130, 1, ⟨"GlkPanesModel", "count", "(I)I"⟩, 1229, [(10, m_M_count, 0, "", 1231, 1230, 0, 0)])]
def gVts (o : Nat) : List (Nat × Nat × MethodName × Nat × List (Nat × gMeth × Nat × String × Nat × Nat × Nat × Nat)) := match o with
  | 0 => gVt0
  | 1 => gVt1
  | 2 => gVt2
  | 3 => gVt3
  | 4 => gVt4
  | 5 => gVt5
  | 6 => gVt6
  | 7 => gVt7
  | 8 => gVt8
  | 9 => gVt9
  | 10 => gVt10
  | 11 => gVt11
  | 12 => gVt12
  | 13 => gVt13
  | _ => gVt14
def gNest : List (String × Nat × MethodName) := [("GlkPanes", 11, ⟨"GlkPanes$Events", "<init>", "()V"⟩), ("GlkPanes$Writing", 17, ⟨"GlkPanes$Line", "<init>", "()V"⟩), ("GlkPanes$Text", 17, ⟨"GlkPanes$Wrap", "<init>", "()V"⟩), ("GlkPanes$Tree", 136, ⟨"GlkPanes", "isAlongRows", "(I)Z"⟩), ("GlkPanes$Pair", 32, ⟨"GlkPanes", "isFixed", "(I)Z"⟩), ("GlkPanes$Pair", 36, ⟨"GlkPanes", "isAlongRows", "(I)Z"⟩), ("GlkPanes$Tree", 110, ⟨"GlkPanes", "isBelow", "(LGlkPanes$Pane;LGlkPanes$Pane;)Z"⟩), ("GlkPanes$Grid", 21, ⟨"GlkPanes", "signOf", "(I)I"⟩), ("GlkPanes$Text", 31, ⟨"GlkPanes", "signOf", "(I)I"⟩), ("GlkPanes$Wrap", 32, ⟨"GlkPanes", "signOf", "(I)I"⟩), ("GlkPanes$Text", 57, ⟨"GlkPanes", "cell", "(III)I"⟩), ("GlkPanes$Events", 38, ⟨"GlkPanes", "signOf", "(I)I"⟩), ("GlkPanes$Line", 22, ⟨"GlkPanes", "cell", "(III)I"⟩)]
def gDcl : List MethodName := [⟨"GlkPanes$Writing", "put", "(I)V"⟩, ⟨"GlkPanes$Pane", "has", "(II)Z"⟩, ⟨"GlkPanes$Writing", "clear", "()V"⟩, ⟨"GlkPanes$Pane", "cellAt", "(II)I"⟩, ⟨"GlkPanes$Writing", "putLine", "()V"⟩]
def gCast : List (String × String) := [("GlkPanes$Pair", "GlkPanes$Pair"), ("GlkPanes$Grid", "GlkPanes$Writing"), ("GlkPanes$Text", "GlkPanes$Writing"), ("GlkPanes$Grid", "GlkPanes$Grid"), ("GlkPanes$Picture", "GlkPanes$Picture"), ("GlkPanes$Text", "GlkPanes$Text"), ("GlkPanes$Grid", "GlkPanes$Pane"), ("GlkPanes$Pair", "GlkPanes$Pane"), ("GlkPanes$Picture", "GlkPanes$Pane"), ("GlkPanes$Text", "GlkPanes$Pane")]
def gNot : List (String × String) := [("GlkPanes", "GlkPanes$Pair"), ("GlkPanes$Events", "GlkPanes$Pair"), ("GlkPanes$Tree", "GlkPanes$Pair"), ("GlkPanesModel", "GlkPanes$Pair"), ("GlkPanes$Text", "GlkPanes$Pair"), ("GlkPanes$Line", "GlkPanes$Pair"), ("GlkPanes$Wrap", "GlkPanes$Pair"), ("GlkPanes$Grid", "GlkPanes$Pair"), ("GlkPanes$Picture", "GlkPanes$Pair"), ("GlkPanes$Pane", "GlkPanes$Pair"), ("GlkPanes", "GlkPanes$Writing"), ("GlkPanes$Events", "GlkPanes$Writing"), ("GlkPanes$Tree", "GlkPanes$Writing"), ("GlkPanesModel", "GlkPanes$Writing"), ("GlkPanes$Line", "GlkPanes$Writing"), ("GlkPanes$Wrap", "GlkPanes$Writing"), ("GlkPanes$Picture", "GlkPanes$Writing"), ("GlkPanes$Pane", "GlkPanes$Writing"), ("GlkPanes$Pair", "GlkPanes$Writing"), ("GlkPanes", "GlkPanes$Grid"), ("GlkPanes$Events", "GlkPanes$Grid"), ("GlkPanes$Tree", "GlkPanes$Grid"), ("GlkPanesModel", "GlkPanes$Grid"), ("GlkPanes$Text", "GlkPanes$Grid"), ("GlkPanes$Line", "GlkPanes$Grid"), ("GlkPanes$Wrap", "GlkPanes$Grid"), ("GlkPanes$Picture", "GlkPanes$Grid"), ("GlkPanes$Pane", "GlkPanes$Grid"), ("GlkPanes$Pair", "GlkPanes$Grid"), ("GlkPanes", "GlkPanes$Picture"), ("GlkPanes$Events", "GlkPanes$Picture"), ("GlkPanes$Tree", "GlkPanes$Picture"), ("GlkPanesModel", "GlkPanes$Picture"), ("GlkPanes$Text", "GlkPanes$Picture"), ("GlkPanes$Line", "GlkPanes$Picture"), ("GlkPanes$Wrap", "GlkPanes$Picture"), ("GlkPanes$Grid", "GlkPanes$Picture"), ("GlkPanes$Pane", "GlkPanes$Picture"), ("GlkPanes$Pair", "GlkPanes$Picture"), ("GlkPanes", "GlkPanes$Text"), ("GlkPanes$Events", "GlkPanes$Text"), ("GlkPanes$Tree", "GlkPanes$Text"), ("GlkPanesModel", "GlkPanes$Text"), ("GlkPanes$Line", "GlkPanes$Text"), ("GlkPanes$Wrap", "GlkPanes$Text"), ("GlkPanes$Grid", "GlkPanes$Text"), ("GlkPanes$Picture", "GlkPanes$Text"), ("GlkPanes$Pane", "GlkPanes$Text"), ("GlkPanes$Pair", "GlkPanes$Text")]
def gCst (o idx : Nat) : Option Int32 := bif Nat.beq o 10 && Nat.beq idx 86 then some 87840 else none
def gObjs : List (Nat × Nat × Nat) := [(9, 3, 65), (0, 3, 73), (7, 3, 99), (4, 3, 173), (2, 3, 179), (8, 3, 201), (10, 1, 868)]
def gCpys : List (Nat × Nat × Nat) := [(0, 53, 844)]
def gMths : List (Nat × Nat × Bool × Nat) := [(7, 21, false, 106), (7, 27, true, 109), (6, 35, true, 635)]
theorem gMths_k : gMths.all (fun q => gH q.2.2.2 (.methodLink (gCn q.1) q.2.1 (bif q.2.2.1 then Lib.Math.max.name else Lib.Math.min.name))) = true := by decide +kernel
theorem gMth_w : Cond.static Lib.Math.max.name ∈ gTs ∧ Cond.static Lib.Math.min.name ∈ gTs ∧ Cond.initialized "java/lang/Math" ∈ gTs ∧ Cond.code Lib.Math.max.name Lib.Math.max.code 2 (some .int) ∈ gTs ∧ Cond.code Lib.Math.min.name Lib.Math.min.code 2 (some .int) ∈ gTs := ⟨gH_in (i := 110) (by decide +kernel), gH_in (i := 107) (by decide +kernel), gH_in (i := 48) (by decide +kernel), gH_in (i := 111) (by decide +kernel), gH_in (i := 108) (by decide +kernel)⟩
theorem gAc : Cond.arrayClass .int ∈ gTs ∧ Cond.arrayClass .boolean ∈ gTs := ⟨gH_in (i := 93) (by decide +kernel), gH_in (i := 195) (by decide +kernel)⟩
theorem gCst_w : Cond.constant "GlkPanesModel" 86 87840 ∈ gTs := gH_in (i := 869) (by decide +kernel)
theorem gAO_w : Cond.arrayOver (.object "GlkPanes$Pane") ∈ lw_tbl := List.mem_of_getElem? (i := 101) (by decide +kernel)
theorem gAA_w : Cond.arrayOver (.array .int) ∈ lw_tbl := List.mem_of_getElem? (i := 75) (by decide +kernel)
theorem gHt (l : List Cond) (is : List Nat) (h : (l.zip is).all (fun q => decide (lw_tbl[q.2]? = some q.1)) && decide (l.length = is.length) = true) : ∀ w ∈ l, w ∈ lw_tbl := by
  simp only [Bool.and_eq_true, decide_eq_true_eq] at h
  intro w hw
  obtain ⟨k, hk⟩ := List.getElem?_of_mem hw
  have hl : k < l.length := (List.getElem?_eq_some_iff.mp hk).1
  have hi : is[k]? = some is[k] := List.getElem?_eq_getElem (by omega)
  have hz : (l.zip is)[k]? = some (w, is[k]) := by rw [List.getElem?_zip_eq_some]; exact ⟨hk, hi⟩
  have h9 := List.all_eq_true.mp h.1 _ (List.mem_of_getElem? hz)
  exact List.mem_of_getElem? (i := is[k]) (by simpa using h9)
theorem gNest_w : ∀ q ∈ gNest, Cond.methodLinkNest q.1 q.2.1 q.2.2 "GlkPanes" ∈ lw_tbl := fun q hq => gHt (gNest.map (fun q => Cond.methodLinkNest q.1 q.2.1 q.2.2 "GlkPanes")) [70, 176, 198, 427, 438, 441, 537, 606, 634, 703, 803, 822, 831] (by decide +kernel) _ (List.mem_map.mpr ⟨q, hq, rfl⟩)
theorem gDcl_w : ∀ q ∈ gDcl, Cond.declares q ∈ lw_tbl := fun q hq => gHt (gDcl.map (fun q => Cond.declares q)) [601, 623, 659, 679, 794] (by decide +kernel) _ (List.mem_map.mpr ⟨q, hq, rfl⟩)
theorem gCast_w : ∀ q ∈ gCast, Cond.castable q.1 q.2 ∈ lw_tbl := fun q hq => gHt (gCast.map (fun q => Cond.castable q.1 q.2)) [1246, 1247, 1248, 1249, 1250, 1251, 1252, 1253, 1254, 1255] (by decide +kernel) _ (List.mem_map.mpr ⟨q, hq, rfl⟩)
theorem gObjs_k : gObjs.all (fun q => gH q.2.2 (.methodLink (gCn q.1) q.2.1 objectInit)) = true := by decide +kernel
theorem gObj_w : Cond.instanceMethod objectInit ∈ gTs ∧ Cond.code objectInit ⟨#[0xb1]⟩ 1 none ∈ gTs := ⟨gH_in (i := 66) (by decide +kernel), gH_in (i := 67) (by decide +kernel)⟩
theorem gCpys_k : gCpys.all (fun q => gH q.2.2 (.methodLink (gCn q.1) q.2.1 arraycopyName)) = true := by decide +kernel
theorem gCpy_w : Cond.native arraycopyName ∈ gTs ∧ Cond.static arraycopyName ∈ gTs ∧ Cond.initialized "java/lang/System" ∈ gTs := ⟨gH_in (i := 846) (by decide +kernel), gH_in (i := 845) (by decide +kernel), gH_in (i := 59) (by decide +kernel)⟩
def gPn (d : String) : Option Nat := (parseMethodDescriptor d).map (fun z => z.parameters.length)
def gStchk (o : Nat) (q : Nat × gMeth × Nat × Nat × Nat × Nat) : Bool := decide (gPn q.2.1.N.desc = some q.2.2.1) && (bif Nat.beq q.2.2.2.1 0 then gH q.2.2.2.2.1 (.methodLink (gCn o) q.1 q.2.1.N) else gNest.any (fun z => decide (z = (gCn o, q.1, q.2.1.N)))) && gH q.2.2.2.2.2 (.static q.2.1.N)
def gSpchk (o : Nat) (q : Nat × gMeth × Nat × Nat × Nat × Nat) : Bool := decide (gPn q.2.1.N.desc = some q.2.2.1) && (bif Nat.beq q.2.2.2.1 0 then gH q.2.2.2.2.1 (.methodLink (gCn o) q.1 q.2.1.N) else gNest.any (fun z => decide (z = (gCn o, q.1, q.2.1.N)))) && gH q.2.2.2.2.2 (.instanceMethod q.2.1.N) && decide (q.2.1.N.name = "<init>") && decide (q.2.1.R = none)
def gVtchk (o : Nat) (q : Nat × Nat × MethodName × Nat × List (Nat × gMeth × Nat × String × Nat × Nat × Nat × Nat)) : Bool := decide (gPn q.2.2.1.desc = some q.2.1) && gH q.2.2.2.1 (.methodLink (gCn o) q.1 q.2.2.1) && q.2.2.2.2.all (fun z => decide (z.1 < 11) && gH z.2.2.2.2.1 (.selects (gcn0 z.1) q.2.2.1 z.2.1.N) && gH z.2.2.2.2.2.1 (.instanceMethod z.2.1.N) && (bif Nat.beq z.2.2.1 0 then decide (q.2.2.1 = z.2.1.N) && decide (z.2.1.N.cls = gcn0 z.1) else gH z.2.2.2.2.2.2.1 (.sameMethod q.2.2.1.cls z.2.2.2.1 q.2.2.1.name q.2.2.1.desc) && decide (z.2.2.2.1 ≠ "java/lang/invoke/MethodHandle") && decide (z.2.2.2.1 ≠ "java/lang/invoke/VarHandle") && (bif Nat.beq z.2.2.1 1 then gH z.2.2.2.2.2.2.2 (.instanceMethod ⟨z.2.2.2.1, q.2.2.1.name, q.2.2.1.desc⟩) && gHc ⟨z.2.2.2.1, q.2.2.1.name, q.2.2.1.desc⟩ else gDcl.any (fun d => decide (d = ⟨z.2.2.2.1, q.2.2.1.name, q.2.2.1.desc⟩)))))
theorem gSt0_g : ∀ q ∈ gSt0, gGood q.2.1 := List.forall_mem_cons.mpr ⟨m_Events_fillFacts_g, List.forall_mem_cons.mpr ⟨m_G_signOf_g, List.forall_mem_cons.mpr ⟨m_Arrays_fill_2_g, fun _ h => absurd h List.not_mem_nil⟩⟩⟩
theorem gSp0_g : ∀ q ∈ gSp0, gGood q.2.1 := fun _ h => absurd h List.not_mem_nil
theorem gVt0_g : ∀ q ∈ gVt0, ∀ z ∈ q.2.2.2.2, gGood z.2.1 := List.forall_mem_cons.mpr ⟨(List.forall_mem_cons.mpr ⟨m_Events_nextRow_g, fun _ h => absurd h List.not_mem_nil⟩), List.forall_mem_cons.mpr ⟨(List.forall_mem_cons.mpr ⟨m_Line_cellOf_g, fun _ h => absurd h List.not_mem_nil⟩), fun _ h => absurd h List.not_mem_nil⟩⟩
theorem gSt0_k : (gSt0).all (gStchk 0) = true := by decide +kernel
theorem gSp0_k : (gSp0).all (gSpchk 0) = true := by decide +kernel
theorem gVt0_k : (gVt0).all (gVtchk 0) = true := by decide +kernel
theorem gSt1_g : ∀ q ∈ gSt1, gGood q.2.1 := List.forall_mem_cons.mpr ⟨m_Arrays_fill_2_g, List.forall_mem_cons.mpr ⟨m_G_signOf_g, List.forall_mem_cons.mpr ⟨m_Arrays_fill_4_g, fun _ h => absurd h List.not_mem_nil⟩⟩⟩
theorem gSp1_g : ∀ q ∈ gSp1, gGood q.2.1 := List.forall_mem_cons.mpr ⟨m_Writing_new_g, fun _ h => absurd h List.not_mem_nil⟩
theorem gVt1_g : ∀ q ∈ gVt1, ∀ z ∈ q.2.2.2.2, gGood z.2.1 := List.forall_mem_cons.mpr ⟨(List.forall_mem_cons.mpr ⟨m_Grid_goToNextRow_g, fun _ h => absurd h List.not_mem_nil⟩), List.forall_mem_cons.mpr ⟨(List.forall_mem_cons.mpr ⟨m_Grid_write_g, fun _ h => absurd h List.not_mem_nil⟩), List.forall_mem_cons.mpr ⟨(List.forall_mem_cons.mpr ⟨m_Grid_indexOf_g, fun _ h => absurd h List.not_mem_nil⟩), List.forall_mem_cons.mpr ⟨(List.forall_mem_cons.mpr ⟨m_Pane_has_g, fun _ h => absurd h List.not_mem_nil⟩), List.forall_mem_cons.mpr ⟨(List.forall_mem_cons.mpr ⟨m_Line_cellOf_g, fun _ h => absurd h List.not_mem_nil⟩), fun _ h => absurd h List.not_mem_nil⟩⟩⟩⟩⟩
theorem gSt1_k : (gSt1).all (gStchk 1) = true := by decide +kernel
theorem gSp1_k : (gSp1).all (gSpchk 1) = true := by decide +kernel
theorem gVt1_k : (gVt1).all (gVtchk 1) = true := by decide +kernel
theorem gSt2_g : ∀ q ∈ gSt2, gGood q.2.1 := List.forall_mem_cons.mpr ⟨m_G_cell_g, fun _ h => absurd h List.not_mem_nil⟩
theorem gSp2_g : ∀ q ∈ gSp2, gGood q.2.1 := fun _ h => absurd h List.not_mem_nil
theorem gVt2_g : ∀ q ∈ gVt2, ∀ z ∈ q.2.2.2.2, gGood z.2.1 := fun _ h => absurd h List.not_mem_nil
theorem gSt2_k : (gSt2).all (gStchk 2) = true := by decide +kernel
theorem gSp2_k : (gSp2).all (gSpchk 2) = true := by decide +kernel
theorem gVt2_k : (gVt2).all (gVtchk 2) = true := by decide +kernel
theorem gSt3_g : ∀ q ∈ gSt3, gGood q.2.1 := List.forall_mem_cons.mpr ⟨m_G_isFixed_g, List.forall_mem_cons.mpr ⟨m_G_isAlongRows_g, fun _ h => absurd h List.not_mem_nil⟩⟩
theorem gSp3_g : ∀ q ∈ gSp3, gGood q.2.1 := List.forall_mem_cons.mpr ⟨m_Pane_new_g, fun _ h => absurd h List.not_mem_nil⟩
theorem gVt3_g : ∀ q ∈ gVt3, ∀ z ∈ q.2.2.2.2, gGood z.2.1 := List.forall_mem_cons.mpr ⟨(List.forall_mem_cons.mpr ⟨m_Pair_measuresFirst_g, fun _ h => absurd h List.not_mem_nil⟩), List.forall_mem_cons.mpr ⟨(List.forall_mem_cons.mpr ⟨m_Writing_wanted_g, List.forall_mem_cons.mpr ⟨m_Pane_wanted_g, List.forall_mem_cons.mpr ⟨m_Pane_wanted_g, List.forall_mem_cons.mpr ⟨m_Picture_wanted_g, List.forall_mem_cons.mpr ⟨m_Writing_wanted_g, fun _ h => absurd h List.not_mem_nil⟩⟩⟩⟩⟩), fun _ h => absurd h List.not_mem_nil⟩⟩
theorem gSt3_k : (gSt3).all (gStchk 3) = true := by decide +kernel
theorem gSp3_k : (gSp3).all (gSpchk 3) = true := by decide +kernel
theorem gVt3_k : (gVt3).all (gVtchk 3) = true := by decide +kernel
theorem gSt4_g : ∀ q ∈ gSt4, gGood q.2.1 := fun _ h => absurd h List.not_mem_nil
theorem gSp4_g : ∀ q ∈ gSp4, gGood q.2.1 := fun _ h => absurd h List.not_mem_nil
theorem gVt4_g : ∀ q ∈ gVt4, ∀ z ∈ q.2.2.2.2, gGood z.2.1 := List.forall_mem_cons.mpr ⟨(List.forall_mem_cons.mpr ⟨m_Grid_loseOutside_g, List.forall_mem_cons.mpr ⟨m_Pane_loseOutside_g, List.forall_mem_cons.mpr ⟨m_Pane_loseOutside_g, List.forall_mem_cons.mpr ⟨m_Pane_loseOutside_g, List.forall_mem_cons.mpr ⟨m_Pane_loseOutside_g, fun _ h => absurd h List.not_mem_nil⟩⟩⟩⟩⟩), fun _ h => absurd h List.not_mem_nil⟩
theorem gSt4_k : (gSt4).all (gStchk 4) = true := by decide +kernel
theorem gSp4_k : (gSp4).all (gSpchk 4) = true := by decide +kernel
theorem gVt4_k : (gVt4).all (gVtchk 4) = true := by decide +kernel
theorem gSt5_g : ∀ q ∈ gSt5, gGood q.2.1 := fun _ h => absurd h List.not_mem_nil
theorem gSp5_g : ∀ q ∈ gSp5, gGood q.2.1 := List.forall_mem_cons.mpr ⟨m_Pane_new_g, fun _ h => absurd h List.not_mem_nil⟩
theorem gVt5_g : ∀ q ∈ gVt5, ∀ z ∈ q.2.2.2.2, gGood z.2.1 := fun _ h => absurd h List.not_mem_nil
theorem gSt5_k : (gSt5).all (gStchk 5) = true := by decide +kernel
theorem gSp5_k : (gSp5).all (gSpchk 5) = true := by decide +kernel
theorem gVt5_k : (gVt5).all (gVtchk 5) = true := by decide +kernel
theorem gSt6_g : ∀ q ∈ gSt6, gGood q.2.1 := List.forall_mem_cons.mpr ⟨m_G_signOf_g, List.forall_mem_cons.mpr ⟨m_G_cell_g, fun _ h => absurd h List.not_mem_nil⟩⟩
theorem gSp6_g : ∀ q ∈ gSp6, gGood q.2.1 := List.forall_mem_cons.mpr ⟨m_Writing_new_g, List.forall_mem_cons.mpr ⟨m_Wrap_new_g, fun _ h => absurd h List.not_mem_nil⟩⟩
theorem gVt6_g : ∀ q ∈ gVt6, ∀ z ∈ q.2.2.2.2, gGood z.2.1 := List.forall_mem_cons.mpr ⟨(List.forall_mem_cons.mpr ⟨m_Text_dropOldest_g, fun _ h => absurd h List.not_mem_nil⟩), List.forall_mem_cons.mpr ⟨(List.forall_mem_cons.mpr ⟨m_Line_cellOf_g, fun _ h => absurd h List.not_mem_nil⟩), List.forall_mem_cons.mpr ⟨(List.forall_mem_cons.mpr ⟨m_Text_put_g, fun _ h => absurd h List.not_mem_nil⟩), List.forall_mem_cons.mpr ⟨(List.forall_mem_cons.mpr ⟨m_Wrap_fold_g, fun _ h => absurd h List.not_mem_nil⟩), List.forall_mem_cons.mpr ⟨(List.forall_mem_cons.mpr ⟨m_Wrap_signIndex_g, fun _ h => absurd h List.not_mem_nil⟩), List.forall_mem_cons.mpr ⟨(List.forall_mem_cons.mpr ⟨m_Text_cellOf_g, fun _ h => absurd h List.not_mem_nil⟩), fun _ h => absurd h List.not_mem_nil⟩⟩⟩⟩⟩⟩
theorem gSt6_k : (gSt6).all (gStchk 6) = true := by decide +kernel
theorem gSp6_k : (gSp6).all (gSpchk 6) = true := by decide +kernel
theorem gVt6_k : (gVt6).all (gVtchk 6) = true := by decide +kernel
theorem gSt7_g : ∀ q ∈ gSt7, gGood q.2.1 := List.forall_mem_cons.mpr ⟨m_Tree_newLeaf_g, List.forall_mem_cons.mpr ⟨m_G_isBelow_g, List.forall_mem_cons.mpr ⟨m_Tree_layOutFrom_g, List.forall_mem_cons.mpr ⟨m_Tree_layOutSides_g, List.forall_mem_cons.mpr ⟨m_G_isAlongRows_g, List.forall_mem_cons.mpr ⟨m_Tree_isIn_g, fun _ h => absurd h List.not_mem_nil⟩⟩⟩⟩⟩⟩
theorem gSp7_g : ∀ q ∈ gSp7, gGood q.2.1 := List.forall_mem_cons.mpr ⟨m_Pair_new_g, List.forall_mem_cons.mpr ⟨m_Text_new_g, List.forall_mem_cons.mpr ⟨m_Grid_new_g, List.forall_mem_cons.mpr ⟨m_Picture_new_g, List.forall_mem_cons.mpr ⟨m_Pane_new_g, fun _ h => absurd h List.not_mem_nil⟩⟩⟩⟩⟩
theorem gVt7_g : ∀ q ∈ gVt7, ∀ z ∈ q.2.2.2.2, gGood z.2.1 := List.forall_mem_cons.mpr ⟨(List.forall_mem_cons.mpr ⟨m_Tree_setScreen_g, fun _ h => absurd h List.not_mem_nil⟩), List.forall_mem_cons.mpr ⟨(List.forall_mem_cons.mpr ⟨m_Tree_countOpen_g, fun _ h => absurd h List.not_mem_nil⟩), List.forall_mem_cons.mpr ⟨(List.forall_mem_cons.mpr ⟨m_Tree_enter_g, fun _ h => absurd h List.not_mem_nil⟩), List.forall_mem_cons.mpr ⟨(List.forall_mem_cons.mpr ⟨m_Tree_layOut_g, fun _ h => absurd h List.not_mem_nil⟩), List.forall_mem_cons.mpr ⟨(List.forall_mem_cons.mpr ⟨m_Tree_replace_g, fun _ h => absurd h List.not_mem_nil⟩), List.forall_mem_cons.mpr ⟨(List.forall_mem_cons.mpr ⟨m_Pair_join_g, fun _ h => absurd h List.not_mem_nil⟩), List.forall_mem_cons.mpr ⟨(List.forall_mem_cons.mpr ⟨m_Tree_forget_g, fun _ h => absurd h List.not_mem_nil⟩), List.forall_mem_cons.mpr ⟨(List.forall_mem_cons.mpr ⟨m_Tree_forgetWithAllBelow_g, fun _ h => absurd h List.not_mem_nil⟩), List.forall_mem_cons.mpr ⟨(List.forall_mem_cons.mpr ⟨m_Tree_forgetClosedKeys_g, fun _ h => absurd h List.not_mem_nil⟩), List.forall_mem_cons.mpr ⟨(List.forall_mem_cons.mpr ⟨m_Tree_find_g, fun _ h => absurd h List.not_mem_nil⟩), List.forall_mem_cons.mpr ⟨(List.forall_mem_cons.mpr ⟨m_Pane_moveTo_g, List.forall_mem_cons.mpr ⟨m_Pane_moveTo_g, List.forall_mem_cons.mpr ⟨m_Pane_moveTo_g, List.forall_mem_cons.mpr ⟨m_Pane_moveTo_g, List.forall_mem_cons.mpr ⟨m_Pane_moveTo_g, fun _ h => absurd h List.not_mem_nil⟩⟩⟩⟩⟩), List.forall_mem_cons.mpr ⟨(List.forall_mem_cons.mpr ⟨m_Pair_borderIn_g, fun _ h => absurd h List.not_mem_nil⟩), List.forall_mem_cons.mpr ⟨(List.forall_mem_cons.mpr ⟨m_Pair_measureIn_g, fun _ h => absurd h List.not_mem_nil⟩), List.forall_mem_cons.mpr ⟨(List.forall_mem_cons.mpr ⟨m_Pair_measuresFirst_g, fun _ h => absurd h List.not_mem_nil⟩), List.forall_mem_cons.mpr ⟨(List.forall_mem_cons.mpr ⟨m_Pane_has_g, List.forall_mem_cons.mpr ⟨m_Pane_has_g, List.forall_mem_cons.mpr ⟨m_Pane_has_g, List.forall_mem_cons.mpr ⟨m_Pane_has_g, List.forall_mem_cons.mpr ⟨m_Pane_has_g, fun _ h => absurd h List.not_mem_nil⟩⟩⟩⟩⟩), fun _ h => absurd h List.not_mem_nil⟩⟩⟩⟩⟩⟩⟩⟩⟩⟩⟩⟩⟩⟩⟩
theorem gSt7_k : (gSt7).all (gStchk 7) = true := by decide +kernel
theorem gSp7_k : (gSp7).all (gSpchk 7) = true := by decide +kernel
theorem gVt7_k : (gVt7).all (gVtchk 7) = true := by decide +kernel
theorem gSt8_g : ∀ q ∈ gSt8, gGood q.2.1 := List.forall_mem_cons.mpr ⟨m_G_signOf_g, List.forall_mem_cons.mpr ⟨m_Wrap_lastSpace_g, List.forall_mem_cons.mpr ⟨m_Wrap_afterSpaces_g, fun _ h => absurd h List.not_mem_nil⟩⟩⟩
theorem gSp8_g : ∀ q ∈ gSp8, gGood q.2.1 := fun _ h => absurd h List.not_mem_nil
theorem gVt8_g : ∀ q ∈ gVt8, ∀ z ∈ q.2.2.2.2, gGood z.2.1 := List.forall_mem_cons.mpr ⟨(List.forall_mem_cons.mpr ⟨m_Text_length_g, fun _ h => absurd h List.not_mem_nil⟩), List.forall_mem_cons.mpr ⟨(List.forall_mem_cons.mpr ⟨m_Text_cellOf_g, fun _ h => absurd h List.not_mem_nil⟩), List.forall_mem_cons.mpr ⟨(List.forall_mem_cons.mpr ⟨m_Wrap_foldParagraph_g, fun _ h => absurd h List.not_mem_nil⟩), List.forall_mem_cons.mpr ⟨(List.forall_mem_cons.mpr ⟨m_Wrap_addLine_g, fun _ h => absurd h List.not_mem_nil⟩), fun _ h => absurd h List.not_mem_nil⟩⟩⟩⟩
theorem gSt8_k : (gSt8).all (gStchk 8) = true := by decide +kernel
theorem gSp8_k : (gSp8).all (gSpchk 8) = true := by decide +kernel
theorem gVt8_k : (gVt8).all (gVtchk 8) = true := by decide +kernel
theorem gSt9_g : ∀ q ∈ gSt9, gGood q.2.1 := List.forall_mem_cons.mpr ⟨m_G_isMeasure_g, List.forall_mem_cons.mpr ⟨m_G_isFixed_g, List.forall_mem_cons.mpr ⟨m_G_isBelow_g, List.forall_mem_cons.mpr ⟨m_G_isAlongRows_g, List.forall_mem_cons.mpr ⟨m_G_numberOf_g, List.forall_mem_cons.mpr ⟨m_G_isPlainSign_g, List.forall_mem_cons.mpr ⟨m_G_cell_g, List.forall_mem_cons.mpr ⟨m_G_signOf_g, List.forall_mem_cons.mpr ⟨m_G_styleOf_g, List.forall_mem_cons.mpr ⟨m_G_linkOf_g, List.forall_mem_cons.mpr ⟨m_G_isAsk_g, fun _ h => absurd h List.not_mem_nil⟩⟩⟩⟩⟩⟩⟩⟩⟩⟩⟩
theorem gSp9_g : ∀ q ∈ gSp9, gGood q.2.1 := List.forall_mem_cons.mpr ⟨m_Events_new_g, List.forall_mem_cons.mpr ⟨m_Tree_new_g, fun _ h => absurd h List.not_mem_nil⟩⟩
theorem gVt9_g : ∀ q ∈ gVt9, ∀ z ∈ q.2.2.2.2, gGood z.2.1 := List.forall_mem_cons.mpr ⟨(List.forall_mem_cons.mpr ⟨m_G_openTop_g, fun _ h => absurd h List.not_mem_nil⟩), List.forall_mem_cons.mpr ⟨(List.forall_mem_cons.mpr ⟨m_Tree_find_g, fun _ h => absurd h List.not_mem_nil⟩), List.forall_mem_cons.mpr ⟨(List.forall_mem_cons.mpr ⟨m_Tree_hasRoomFor_g, fun _ h => absurd h List.not_mem_nil⟩), List.forall_mem_cons.mpr ⟨(List.forall_mem_cons.mpr ⟨m_Tree_split_g, fun _ h => absurd h List.not_mem_nil⟩), List.forall_mem_cons.mpr ⟨(List.forall_mem_cons.mpr ⟨m_Tree_addTop_g, fun _ h => absurd h List.not_mem_nil⟩), List.forall_mem_cons.mpr ⟨(List.forall_mem_cons.mpr ⟨m_Tree_remove_g, fun _ h => absurd h List.not_mem_nil⟩), List.forall_mem_cons.mpr ⟨(List.forall_mem_cons.mpr ⟨m_Pair_rearrange_g, fun _ h => absurd h List.not_mem_nil⟩), List.forall_mem_cons.mpr ⟨(List.forall_mem_cons.mpr ⟨m_Tree_layOut_g, fun _ h => absurd h List.not_mem_nil⟩), List.forall_mem_cons.mpr ⟨(List.forall_mem_cons.mpr ⟨m_Tree_setScreen_g, fun _ h => absurd h List.not_mem_nil⟩), List.forall_mem_cons.mpr ⟨(List.forall_mem_cons.mpr ⟨m_Events_add_g, fun _ h => absurd h List.not_mem_nil⟩), List.forall_mem_cons.mpr ⟨(List.forall_mem_cons.mpr ⟨m_Grid_put_g, List.forall_mem_cons.mpr ⟨m_Text_put_g, fun _ h => absurd h List.not_mem_nil⟩⟩), List.forall_mem_cons.mpr ⟨(List.forall_mem_cons.mpr ⟨m_Pane_has_g, fun _ h => absurd h List.not_mem_nil⟩), List.forall_mem_cons.mpr ⟨(List.forall_mem_cons.mpr ⟨m_Grid_clear_g, List.forall_mem_cons.mpr ⟨m_Text_clear_g, fun _ h => absurd h List.not_mem_nil⟩⟩), List.forall_mem_cons.mpr ⟨(List.forall_mem_cons.mpr ⟨m_Pane_has_g, List.forall_mem_cons.mpr ⟨m_Pane_has_g, List.forall_mem_cons.mpr ⟨m_Pane_has_g, List.forall_mem_cons.mpr ⟨m_Pane_has_g, List.forall_mem_cons.mpr ⟨m_Pane_has_g, fun _ h => absurd h List.not_mem_nil⟩⟩⟩⟩⟩), List.forall_mem_cons.mpr ⟨(List.forall_mem_cons.mpr ⟨m_Grid_cellAt_g, List.forall_mem_cons.mpr ⟨m_Text_cellAt_g, fun _ h => absurd h List.not_mem_nil⟩⟩), List.forall_mem_cons.mpr ⟨(List.forall_mem_cons.mpr ⟨m_Text_countLines_g, fun _ h => absurd h List.not_mem_nil⟩), List.forall_mem_cons.mpr ⟨(List.forall_mem_cons.mpr ⟨m_Tree_hasPlace_g, fun _ h => absurd h List.not_mem_nil⟩), List.forall_mem_cons.mpr ⟨(List.forall_mem_cons.mpr ⟨m_Tree_paneAt_g, fun _ h => absurd h List.not_mem_nil⟩), List.forall_mem_cons.mpr ⟨(List.forall_mem_cons.mpr ⟨m_Grid_cellAt_g, List.forall_mem_cons.mpr ⟨m_Pair_cellAt_g, List.forall_mem_cons.mpr ⟨m_Pane_cellAt_g, List.forall_mem_cons.mpr ⟨m_Picture_cellAt_g, List.forall_mem_cons.mpr ⟨m_Text_cellAt_g, fun _ h => absurd h List.not_mem_nil⟩⟩⟩⟩⟩), List.forall_mem_cons.mpr ⟨(List.forall_mem_cons.mpr ⟨m_Writing_canBeAsked_g, List.forall_mem_cons.mpr ⟨m_Writing_canBeAsked_g, fun _ h => absurd h List.not_mem_nil⟩⟩), List.forall_mem_cons.mpr ⟨(List.forall_mem_cons.mpr ⟨m_Line_begin_g, fun _ h => absurd h List.not_mem_nil⟩), List.forall_mem_cons.mpr ⟨(List.forall_mem_cons.mpr ⟨m_Writing_finishLine_g, List.forall_mem_cons.mpr ⟨m_Writing_finishLine_g, fun _ h => absurd h List.not_mem_nil⟩⟩), List.forall_mem_cons.mpr ⟨(List.forall_mem_cons.mpr ⟨m_G_typeInLine_g, fun _ h => absurd h List.not_mem_nil⟩), List.forall_mem_cons.mpr ⟨(List.forall_mem_cons.mpr ⟨m_Events_addLine_g, fun _ h => absurd h List.not_mem_nil⟩), List.forall_mem_cons.mpr ⟨(List.forall_mem_cons.mpr ⟨m_Line_removeLast_g, fun _ h => absurd h List.not_mem_nil⟩), List.forall_mem_cons.mpr ⟨(List.forall_mem_cons.mpr ⟨m_Line_append_g, fun _ h => absurd h List.not_mem_nil⟩), List.forall_mem_cons.mpr ⟨(List.forall_mem_cons.mpr ⟨m_Events_tellOldest_g, fun _ h => absurd h List.not_mem_nil⟩), List.forall_mem_cons.mpr ⟨(List.forall_mem_cons.mpr ⟨m_Events_told_g, fun _ h => absurd h List.not_mem_nil⟩), List.forall_mem_cons.mpr ⟨(List.forall_mem_cons.mpr ⟨m_Tree_countOpen_g, fun _ h => absurd h List.not_mem_nil⟩), fun _ h => absurd h List.not_mem_nil⟩⟩⟩⟩⟩⟩⟩⟩⟩⟩⟩⟩⟩⟩⟩⟩⟩⟩⟩⟩⟩⟩⟩⟩⟩⟩⟩⟩⟩
theorem gSt9_k : (gSt9).all (gStchk 9) = true := by decide +kernel
theorem gSp9_k : (gSp9).all (gSpchk 9) = true := by decide +kernel
theorem gVt9_k : (gVt9).all (gVtchk 9) = true := by decide +kernel
theorem gSt10_g : ∀ q ∈ gSt10, gGood q.2.1 := List.forall_mem_cons.mpr ⟨m_M_nearest_g, List.forall_mem_cons.mpr ⟨m_M_in_g, fun _ h => absurd h List.not_mem_nil⟩⟩
theorem gSp10_g : ∀ q ∈ gSp10, gGood q.2.1 := fun _ h => absurd h List.not_mem_nil
theorem gVt10_g : ∀ q ∈ gVt10, ∀ z ∈ q.2.2.2.2, gGood z.2.1 := List.forall_mem_cons.mpr ⟨(List.forall_mem_cons.mpr ⟨m_M_room_g, fun _ h => absurd h List.not_mem_nil⟩), List.forall_mem_cons.mpr ⟨(List.forall_mem_cons.mpr ⟨m_M_split_g, fun _ h => absurd h List.not_mem_nil⟩), List.forall_mem_cons.mpr ⟨(List.forall_mem_cons.mpr ⟨m_M_fit_g, fun _ h => absurd h List.not_mem_nil⟩), List.forall_mem_cons.mpr ⟨(List.forall_mem_cons.mpr ⟨m_M_wanted_g, fun _ h => absurd h List.not_mem_nil⟩), List.forall_mem_cons.mpr ⟨(List.forall_mem_cons.mpr ⟨m_M_blank_g, fun _ h => absurd h List.not_mem_nil⟩), List.forall_mem_cons.mpr ⟨(List.forall_mem_cons.mpr ⟨m_M_isPane_g, fun _ h => absurd h List.not_mem_nil⟩), List.forall_mem_cons.mpr ⟨(List.forall_mem_cons.mpr ⟨m_M_isMethod_g, fun _ h => absurd h List.not_mem_nil⟩), List.forall_mem_cons.mpr ⟨(List.forall_mem_cons.mpr ⟨m_M_leaves_g, fun _ h => absurd h List.not_mem_nil⟩), List.forall_mem_cons.mpr ⟨(List.forall_mem_cons.mpr ⟨m_M_make_g, fun _ h => absurd h List.not_mem_nil⟩), List.forall_mem_cons.mpr ⟨(List.forall_mem_cons.mpr ⟨m_M_put_g, fun _ h => absurd h List.not_mem_nil⟩), List.forall_mem_cons.mpr ⟨(List.forall_mem_cons.mpr ⟨m_M_arrangeAll_g, fun _ h => absurd h List.not_mem_nil⟩), List.forall_mem_cons.mpr ⟨(List.forall_mem_cons.mpr ⟨m_M_isWithin_g, fun _ h => absurd h List.not_mem_nil⟩), List.forall_mem_cons.mpr ⟨(List.forall_mem_cons.mpr ⟨m_M_event_4_g, fun _ h => absurd h List.not_mem_nil⟩), List.forall_mem_cons.mpr ⟨(List.forall_mem_cons.mpr ⟨m_M_isCell_g, fun _ h => absurd h List.not_mem_nil⟩), List.forall_mem_cons.mpr ⟨(List.forall_mem_cons.mpr ⟨m_M_isWritable_g, fun _ h => absurd h List.not_mem_nil⟩), List.forall_mem_cons.mpr ⟨(List.forall_mem_cons.mpr ⟨m_M_add_g, fun _ h => absurd h List.not_mem_nil⟩), List.forall_mem_cons.mpr ⟨(List.forall_mem_cons.mpr ⟨m_M_nextRow_g, fun _ h => absurd h List.not_mem_nil⟩), List.forall_mem_cons.mpr ⟨(List.forall_mem_cons.mpr ⟨m_M_lay_g, fun _ h => absurd h List.not_mem_nil⟩), List.forall_mem_cons.mpr ⟨(List.forall_mem_cons.mpr ⟨m_M_signAt_g, fun _ h => absurd h List.not_mem_nil⟩), List.forall_mem_cons.mpr ⟨(List.forall_mem_cons.mpr ⟨m_M_line_g, fun _ h => absurd h List.not_mem_nil⟩), List.forall_mem_cons.mpr ⟨(List.forall_mem_cons.mpr ⟨m_M_findParts_g, fun _ h => absurd h List.not_mem_nil⟩), List.forall_mem_cons.mpr ⟨(List.forall_mem_cons.mpr ⟨m_M_findLines_g, fun _ h => absurd h List.not_mem_nil⟩), List.forall_mem_cons.mpr ⟨(List.forall_mem_cons.mpr ⟨m_M_standing_g, fun _ h => absurd h List.not_mem_nil⟩), List.forall_mem_cons.mpr ⟨(List.forall_mem_cons.mpr ⟨m_M_shownAt_g, fun _ h => absurd h List.not_mem_nil⟩), List.forall_mem_cons.mpr ⟨(List.forall_mem_cons.mpr ⟨m_M_has_g, fun _ h => absurd h List.not_mem_nil⟩), List.forall_mem_cons.mpr ⟨(List.forall_mem_cons.mpr ⟨m_M_isScreen_g, fun _ h => absurd h List.not_mem_nil⟩), List.forall_mem_cons.mpr ⟨(List.forall_mem_cons.mpr ⟨m_M_paneAt_g, fun _ h => absurd h List.not_mem_nil⟩), List.forall_mem_cons.mpr ⟨(List.forall_mem_cons.mpr ⟨m_M_echoLine_g, fun _ h => absurd h List.not_mem_nil⟩), List.forall_mem_cons.mpr ⟨(List.forall_mem_cons.mpr ⟨m_M_drop_g, fun _ h => absurd h List.not_mem_nil⟩), List.forall_mem_cons.mpr ⟨(List.forall_mem_cons.mpr ⟨m_M_move_g, fun _ h => absurd h List.not_mem_nil⟩), fun _ h => absurd h List.not_mem_nil⟩⟩⟩⟩⟩⟩⟩⟩⟩⟩⟩⟩⟩⟩⟩⟩⟩⟩⟩⟩⟩⟩⟩⟩⟩⟩⟩⟩⟩⟩
theorem gSt10_k : (gSt10).all (gStchk 10) = true := by decide +kernel
theorem gSp10_k : (gSp10).all (gSpchk 10) = true := by decide +kernel
theorem gVt10_k : (gVt10).all (gVtchk 10) = true := by decide +kernel
theorem gSt11_g : ∀ q ∈ gSt11, gGood q.2.1 := fun _ h => absurd h List.not_mem_nil
theorem gSp11_g : ∀ q ∈ gSp11, gGood q.2.1 := List.forall_mem_cons.mpr ⟨m_Pane_new_g, List.forall_mem_cons.mpr ⟨m_Line_new_g, fun _ h => absurd h List.not_mem_nil⟩⟩
theorem gVt11_g : ∀ q ∈ gVt11, ∀ z ∈ q.2.2.2.2, gGood z.2.1 := List.forall_mem_cons.mpr ⟨(List.forall_mem_cons.mpr ⟨m_Grid_putLine_g, List.forall_mem_cons.mpr ⟨m_Text_putLine_g, fun _ h => absurd h List.not_mem_nil⟩⟩), List.forall_mem_cons.mpr ⟨(List.forall_mem_cons.mpr ⟨m_Line_begin_g, fun _ h => absurd h List.not_mem_nil⟩), fun _ h => absurd h List.not_mem_nil⟩⟩
theorem gSt11_k : (gSt11).all (gStchk 11) = true := by decide +kernel
theorem gSp11_k : (gSp11).all (gSpchk 11) = true := by decide +kernel
theorem gVt11_k : (gVt11).all (gVtchk 11) = true := by decide +kernel
theorem gSt12_g : ∀ q ∈ gSt12, gGood q.2.1 := fun _ h => absurd h List.not_mem_nil
theorem gSp12_g : ∀ q ∈ gSp12, gGood q.2.1 := fun _ h => absurd h List.not_mem_nil
theorem gVt12_g : ∀ q ∈ gVt12, ∀ z ∈ q.2.2.2.2, gGood z.2.1 := fun _ h => absurd h List.not_mem_nil
theorem gSt12_k : (gSt12).all (gStchk 12) = true := by decide +kernel
theorem gSp12_k : (gSp12).all (gSpchk 12) = true := by decide +kernel
theorem gVt12_k : (gVt12).all (gVtchk 12) = true := by decide +kernel
theorem gSt13_g : ∀ q ∈ gSt13, gGood q.2.1 := List.forall_mem_cons.mpr ⟨m_Arrays_rangeCheck_g, fun _ h => absurd h List.not_mem_nil⟩
theorem gSp13_g : ∀ q ∈ gSp13, gGood q.2.1 := fun _ h => absurd h List.not_mem_nil
theorem gVt13_g : ∀ q ∈ gVt13, ∀ z ∈ q.2.2.2.2, gGood z.2.1 := fun _ h => absurd h List.not_mem_nil
theorem gSt13_k : (gSt13).all (gStchk 13) = true := by decide +kernel
theorem gSp13_k : (gSp13).all (gSpchk 13) = true := by decide +kernel
theorem gVt13_k : (gVt13).all (gVtchk 13) = true := by decide +kernel
theorem gSt14_g : ∀ q ∈ gSt14, gGood q.2.1 := List.forall_mem_cons.mpr ⟨m_Law_cell_g, fun _ h => absurd h List.not_mem_nil⟩
theorem gSp14_g : ∀ q ∈ gSp14, gGood q.2.1 := List.forall_mem_cons.mpr ⟨m_G_new_g, List.forall_mem_cons.mpr ⟨m_M_new_g, fun _ h => absurd h List.not_mem_nil⟩⟩
theorem gVt14_g : ∀ q ∈ gVt14, ∀ z ∈ q.2.2.2.2, gGood z.2.1 := List.forall_mem_cons.mpr ⟨(List.forall_mem_cons.mpr ⟨m_G_open_g, fun _ h => absurd h List.not_mem_nil⟩), List.forall_mem_cons.mpr ⟨(List.forall_mem_cons.mpr ⟨m_M_open_g, fun _ h => absurd h List.not_mem_nil⟩), List.forall_mem_cons.mpr ⟨(List.forall_mem_cons.mpr ⟨m_G_close_g, fun _ h => absurd h List.not_mem_nil⟩), List.forall_mem_cons.mpr ⟨(List.forall_mem_cons.mpr ⟨m_M_close_g, fun _ h => absurd h List.not_mem_nil⟩), List.forall_mem_cons.mpr ⟨(List.forall_mem_cons.mpr ⟨m_G_arrange_g, fun _ h => absurd h List.not_mem_nil⟩), List.forall_mem_cons.mpr ⟨(List.forall_mem_cons.mpr ⟨m_M_arrange_g, fun _ h => absurd h List.not_mem_nil⟩), List.forall_mem_cons.mpr ⟨(List.forall_mem_cons.mpr ⟨m_G_pane_g, fun _ h => absurd h List.not_mem_nil⟩), List.forall_mem_cons.mpr ⟨(List.forall_mem_cons.mpr ⟨m_M_pane_g, fun _ h => absurd h List.not_mem_nil⟩), List.forall_mem_cons.mpr ⟨(List.forall_mem_cons.mpr ⟨m_G_pair_g, fun _ h => absurd h List.not_mem_nil⟩), List.forall_mem_cons.mpr ⟨(List.forall_mem_cons.mpr ⟨m_M_pair_g, fun _ h => absurd h List.not_mem_nil⟩), List.forall_mem_cons.mpr ⟨(List.forall_mem_cons.mpr ⟨m_G_root_g, fun _ h => absurd h List.not_mem_nil⟩), List.forall_mem_cons.mpr ⟨(List.forall_mem_cons.mpr ⟨m_M_root_g, fun _ h => absurd h List.not_mem_nil⟩), List.forall_mem_cons.mpr ⟨(List.forall_mem_cons.mpr ⟨m_G_resize_g, fun _ h => absurd h List.not_mem_nil⟩), List.forall_mem_cons.mpr ⟨(List.forall_mem_cons.mpr ⟨m_M_resize_g, fun _ h => absurd h List.not_mem_nil⟩), List.forall_mem_cons.mpr ⟨(List.forall_mem_cons.mpr ⟨m_G_sign_g, fun _ h => absurd h List.not_mem_nil⟩), List.forall_mem_cons.mpr ⟨(List.forall_mem_cons.mpr ⟨m_M_sign_g, fun _ h => absurd h List.not_mem_nil⟩), List.forall_mem_cons.mpr ⟨(List.forall_mem_cons.mpr ⟨m_G_style_g, fun _ h => absurd h List.not_mem_nil⟩), List.forall_mem_cons.mpr ⟨(List.forall_mem_cons.mpr ⟨m_M_style_g, fun _ h => absurd h List.not_mem_nil⟩), List.forall_mem_cons.mpr ⟨(List.forall_mem_cons.mpr ⟨m_G_link_g, fun _ h => absurd h List.not_mem_nil⟩), List.forall_mem_cons.mpr ⟨(List.forall_mem_cons.mpr ⟨m_M_link_g, fun _ h => absurd h List.not_mem_nil⟩), List.forall_mem_cons.mpr ⟨(List.forall_mem_cons.mpr ⟨m_G_cursor_g, fun _ h => absurd h List.not_mem_nil⟩), List.forall_mem_cons.mpr ⟨(List.forall_mem_cons.mpr ⟨m_M_cursor_g, fun _ h => absurd h List.not_mem_nil⟩), List.forall_mem_cons.mpr ⟨(List.forall_mem_cons.mpr ⟨m_G_at_g, fun _ h => absurd h List.not_mem_nil⟩), List.forall_mem_cons.mpr ⟨(List.forall_mem_cons.mpr ⟨m_M_at_g, fun _ h => absurd h List.not_mem_nil⟩), List.forall_mem_cons.mpr ⟨(List.forall_mem_cons.mpr ⟨m_G_wipe_g, fun _ h => absurd h List.not_mem_nil⟩), List.forall_mem_cons.mpr ⟨(List.forall_mem_cons.mpr ⟨m_M_wipe_g, fun _ h => absurd h List.not_mem_nil⟩), List.forall_mem_cons.mpr ⟨(List.forall_mem_cons.mpr ⟨m_G_picture_g, fun _ h => absurd h List.not_mem_nil⟩), List.forall_mem_cons.mpr ⟨(List.forall_mem_cons.mpr ⟨m_M_picture_g, fun _ h => absurd h List.not_mem_nil⟩), List.forall_mem_cons.mpr ⟨(List.forall_mem_cons.mpr ⟨m_G_shown_g, fun _ h => absurd h List.not_mem_nil⟩), List.forall_mem_cons.mpr ⟨(List.forall_mem_cons.mpr ⟨m_M_shown_g, fun _ h => absurd h List.not_mem_nil⟩), List.forall_mem_cons.mpr ⟨(List.forall_mem_cons.mpr ⟨m_G_lines_g, fun _ h => absurd h List.not_mem_nil⟩), List.forall_mem_cons.mpr ⟨(List.forall_mem_cons.mpr ⟨m_M_lines_g, fun _ h => absurd h List.not_mem_nil⟩), List.forall_mem_cons.mpr ⟨(List.forall_mem_cons.mpr ⟨m_G_drawn_g, fun _ h => absurd h List.not_mem_nil⟩), List.forall_mem_cons.mpr ⟨(List.forall_mem_cons.mpr ⟨m_M_drawn_g, fun _ h => absurd h List.not_mem_nil⟩), List.forall_mem_cons.mpr ⟨(List.forall_mem_cons.mpr ⟨m_G_under_g, fun _ h => absurd h List.not_mem_nil⟩), List.forall_mem_cons.mpr ⟨(List.forall_mem_cons.mpr ⟨m_M_under_g, fun _ h => absurd h List.not_mem_nil⟩), List.forall_mem_cons.mpr ⟨(List.forall_mem_cons.mpr ⟨m_G_ask_g, fun _ h => absurd h List.not_mem_nil⟩), List.forall_mem_cons.mpr ⟨(List.forall_mem_cons.mpr ⟨m_M_ask_g, fun _ h => absurd h List.not_mem_nil⟩), List.forall_mem_cons.mpr ⟨(List.forall_mem_cons.mpr ⟨m_G_cancel_g, fun _ h => absurd h List.not_mem_nil⟩), List.forall_mem_cons.mpr ⟨(List.forall_mem_cons.mpr ⟨m_M_cancel_g, fun _ h => absurd h List.not_mem_nil⟩), List.forall_mem_cons.mpr ⟨(List.forall_mem_cons.mpr ⟨m_G_echo_g, fun _ h => absurd h List.not_mem_nil⟩), List.forall_mem_cons.mpr ⟨(List.forall_mem_cons.mpr ⟨m_M_echo_g, fun _ h => absurd h List.not_mem_nil⟩), List.forall_mem_cons.mpr ⟨(List.forall_mem_cons.mpr ⟨m_G_type_g, fun _ h => absurd h List.not_mem_nil⟩), List.forall_mem_cons.mpr ⟨(List.forall_mem_cons.mpr ⟨m_M_type_g, fun _ h => absurd h List.not_mem_nil⟩), List.forall_mem_cons.mpr ⟨(List.forall_mem_cons.mpr ⟨m_G_click_g, fun _ h => absurd h List.not_mem_nil⟩), List.forall_mem_cons.mpr ⟨(List.forall_mem_cons.mpr ⟨m_M_click_g, fun _ h => absurd h List.not_mem_nil⟩), List.forall_mem_cons.mpr ⟨(List.forall_mem_cons.mpr ⟨m_G_take_g, fun _ h => absurd h List.not_mem_nil⟩), List.forall_mem_cons.mpr ⟨(List.forall_mem_cons.mpr ⟨m_M_take_g, fun _ h => absurd h List.not_mem_nil⟩), List.forall_mem_cons.mpr ⟨(List.forall_mem_cons.mpr ⟨m_G_event_g, fun _ h => absurd h List.not_mem_nil⟩), List.forall_mem_cons.mpr ⟨(List.forall_mem_cons.mpr ⟨m_M_event_1_g, fun _ h => absurd h List.not_mem_nil⟩), List.forall_mem_cons.mpr ⟨(List.forall_mem_cons.mpr ⟨m_G_count_g, fun _ h => absurd h List.not_mem_nil⟩), List.forall_mem_cons.mpr ⟨(List.forall_mem_cons.mpr ⟨m_M_count_g, fun _ h => absurd h List.not_mem_nil⟩), fun _ h => absurd h List.not_mem_nil⟩⟩⟩⟩⟩⟩⟩⟩⟩⟩⟩⟩⟩⟩⟩⟩⟩⟩⟩⟩⟩⟩⟩⟩⟩⟩⟩⟩⟩⟩⟩⟩⟩⟩⟩⟩⟩⟩⟩⟩⟩⟩⟩⟩⟩⟩⟩⟩⟩⟩⟩⟩
theorem gSt14_k : (gSt14).all (gStchk 14) = true := by decide +kernel
theorem gSp14_k : (gSp14).all (gSpchk 14) = true := by decide +kernel
theorem gVt14_k : (gVt14).all (gVtchk 14) = true := by decide +kernel
theorem gSt_g (o : Nat) : ∀ q ∈ gSts o, gGood q.2.1 := by
  match o with
  | 0 => exact gSt0_g
  | 1 => exact gSt1_g
  | 2 => exact gSt2_g
  | 3 => exact gSt3_g
  | 4 => exact gSt4_g
  | 5 => exact gSt5_g
  | 6 => exact gSt6_g
  | 7 => exact gSt7_g
  | 8 => exact gSt8_g
  | 9 => exact gSt9_g
  | 10 => exact gSt10_g
  | 11 => exact gSt11_g
  | 12 => exact gSt12_g
  | 13 => exact gSt13_g
  | o + 14 => exact gSt14_g
theorem gSp_g (o : Nat) : ∀ q ∈ gSps o, gGood q.2.1 := by
  match o with
  | 0 => exact gSp0_g
  | 1 => exact gSp1_g
  | 2 => exact gSp2_g
  | 3 => exact gSp3_g
  | 4 => exact gSp4_g
  | 5 => exact gSp5_g
  | 6 => exact gSp6_g
  | 7 => exact gSp7_g
  | 8 => exact gSp8_g
  | 9 => exact gSp9_g
  | 10 => exact gSp10_g
  | 11 => exact gSp11_g
  | 12 => exact gSp12_g
  | 13 => exact gSp13_g
  | o + 14 => exact gSp14_g
theorem gVt_g (o : Nat) : ∀ q ∈ gVts o, ∀ z ∈ q.2.2.2.2, gGood z.2.1 := by
  match o with
  | 0 => exact gVt0_g
  | 1 => exact gVt1_g
  | 2 => exact gVt2_g
  | 3 => exact gVt3_g
  | 4 => exact gVt4_g
  | 5 => exact gVt5_g
  | 6 => exact gVt6_g
  | 7 => exact gVt7_g
  | 8 => exact gVt8_g
  | 9 => exact gVt9_g
  | 10 => exact gVt10_g
  | 11 => exact gVt11_g
  | 12 => exact gVt12_g
  | 13 => exact gVt13_g
  | o + 14 => exact gVt14_g
theorem gSt_k {o : Nat} (ho : o < 15) : (gSts o).all (gStchk o) = true := by
  match o, ho with
  | 0, _ => exact gSt0_k
  | 1, _ => exact gSt1_k
  | 2, _ => exact gSt2_k
  | 3, _ => exact gSt3_k
  | 4, _ => exact gSt4_k
  | 5, _ => exact gSt5_k
  | 6, _ => exact gSt6_k
  | 7, _ => exact gSt7_k
  | 8, _ => exact gSt8_k
  | 9, _ => exact gSt9_k
  | 10, _ => exact gSt10_k
  | 11, _ => exact gSt11_k
  | 12, _ => exact gSt12_k
  | 13, _ => exact gSt13_k
  | 14, _ => exact gSt14_k
  | o + 15, h => exact absurd h (by omega)
theorem gSp_k {o : Nat} (ho : o < 15) : (gSps o).all (gSpchk o) = true := by
  match o, ho with
  | 0, _ => exact gSp0_k
  | 1, _ => exact gSp1_k
  | 2, _ => exact gSp2_k
  | 3, _ => exact gSp3_k
  | 4, _ => exact gSp4_k
  | 5, _ => exact gSp5_k
  | 6, _ => exact gSp6_k
  | 7, _ => exact gSp7_k
  | 8, _ => exact gSp8_k
  | 9, _ => exact gSp9_k
  | 10, _ => exact gSp10_k
  | 11, _ => exact gSp11_k
  | 12, _ => exact gSp12_k
  | 13, _ => exact gSp13_k
  | 14, _ => exact gSp14_k
  | o + 15, h => exact absurd h (by omega)
theorem gVt_k {o : Nat} (ho : o < 15) : (gVts o).all (gVtchk o) = true := by
  match o, ho with
  | 0, _ => exact gVt0_k
  | 1, _ => exact gVt1_k
  | 2, _ => exact gVt2_k
  | 3, _ => exact gVt3_k
  | 4, _ => exact gVt4_k
  | 5, _ => exact gVt5_k
  | 6, _ => exact gVt6_k
  | 7, _ => exact gVt7_k
  | 8, _ => exact gVt8_k
  | 9, _ => exact gVt9_k
  | 10, _ => exact gVt10_k
  | 11, _ => exact gVt11_k
  | 12, _ => exact gVt12_k
  | 13, _ => exact gVt13_k
  | 14, _ => exact gVt14_k
  | o + 15, h => exact absurd h (by omega)
theorem gF_k {o : Nat} (ho : o < 15) : (gFs o).all (fun q => q.2.2.1.all (fun tg => gFchk o q tg)) = true := by
  match o, ho with
  | 0, _ => exact gF0_k
  | 1, _ => exact gF1_k
  | 2, _ => exact gF2_k
  | 3, _ => exact gF3_k
  | 4, _ => exact gF4_k
  | 5, _ => exact gF5_k
  | 6, _ => exact gF6_k
  | 7, _ => exact gF7_k
  | 8, _ => exact gF8_k
  | 9, _ => exact gF9_k
  | 10, _ => exact gF10_k
  | 11, _ => exact gF11_k
  | 12, _ => exact gF12_k
  | 13, _ => exact gF13_k
  | 14, _ => exact gF14_k
  | o + 15, h => exact absurd h (by omega)

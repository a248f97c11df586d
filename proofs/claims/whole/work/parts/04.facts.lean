/-- what the tables say of a method: its code's word, its rows, its class -/
def gGood (y : gMeth) : Prop := Cond.code y.N y.C y.L y.R ∈ gTs ∧ plainName y.N.cls = true ∧ (y.T.all (fun q => decide (decode y.C q.1 = .ok q.2)) = true) ∧ y.N.cls = gCn y.O ∧ Cond.initialized y.N.cls ∈ gTs ∧ y.N.cls ≠ "java/lang/invoke/MethodHandle" ∧ y.N.cls ≠ "java/lang/invoke/VarHandle" ∧ (y.L ≤ 30) ∧ y.O < 15
theorem m_G_new_g : gGood m_G_new := ⟨gH_in (i := 64) (by decide +kernel), by decide +kernel, m_G_new_d, rfl, gH_in (i := 45) (by decide +kernel), by decide +kernel, by decide +kernel, by decide, by decide⟩
theorem m_Events_new_g : gGood m_Events_new := ⟨gH_in (i := 72) (by decide +kernel), by decide +kernel, m_Events_new_d, rfl, gH_in (i := 46) (by decide +kernel), by decide +kernel, by decide +kernel, by decide, by decide⟩
theorem m_Tree_new_g : gGood m_Tree_new := ⟨gH_in (i := 98) (by decide +kernel), by decide +kernel, m_Tree_new_d, rfl, gH_in (i := 47) (by decide +kernel), by decide +kernel, by decide +kernel, by decide, by decide⟩
theorem m_Tree_setScreen_g : gGood m_Tree_setScreen := ⟨gH_in (i := 105) (by decide +kernel), by decide +kernel, m_Tree_setScreen_d, rfl, gH_in (i := 47) (by decide +kernel), by decide +kernel, by decide +kernel, by decide, by decide⟩
theorem m_G_open_g : gGood m_G_open := ⟨gH_in (i := 142) (by decide +kernel), by decide +kernel, m_G_open_d, rfl, gH_in (i := 45) (by decide +kernel), by decide +kernel, by decide +kernel, by decide, by decide⟩
theorem m_G_openTop_g : gGood m_G_openTop := ⟨gH_in (i := 146) (by decide +kernel), by decide +kernel, m_G_openTop_d, rfl, gH_in (i := 45) (by decide +kernel), by decide +kernel, by decide +kernel, by decide, by decide⟩
theorem m_Tree_hasRoomFor_g : gGood m_Tree_hasRoomFor := ⟨gH_in (i := 150) (by decide +kernel), by decide +kernel, m_Tree_hasRoomFor_d, rfl, gH_in (i := 47) (by decide +kernel), by decide +kernel, by decide +kernel, by decide, by decide⟩
theorem m_Tree_countOpen_g : gGood m_Tree_countOpen := ⟨gH_in (i := 154) (by decide +kernel), by decide +kernel, m_Tree_countOpen_d, rfl, gH_in (i := 47) (by decide +kernel), by decide +kernel, by decide +kernel, by decide, by decide⟩
theorem m_Tree_addTop_g : gGood m_Tree_addTop := ⟨gH_in (i := 158) (by decide +kernel), by decide +kernel, m_Tree_addTop_d, rfl, gH_in (i := 47) (by decide +kernel), by decide +kernel, by decide +kernel, by decide, by decide⟩
theorem m_Tree_newLeaf_g : gGood m_Tree_newLeaf := ⟨gH_in (i := 161) (by decide +kernel), by decide +kernel, m_Tree_newLeaf_d, rfl, gH_in (i := 47) (by decide +kernel), by decide +kernel, by decide +kernel, by decide, by decide⟩
theorem m_Text_new_g : gGood m_Text_new := ⟨gH_in (i := 166) (by decide +kernel), by decide +kernel, m_Text_new_d, rfl, gH_in (i := 52) (by decide +kernel), by decide +kernel, by decide +kernel, by decide, by decide⟩
theorem m_Writing_new_g : gGood m_Writing_new := ⟨gH_in (i := 169) (by decide +kernel), by decide +kernel, m_Writing_new_d, rfl, gH_in (i := 51) (by decide +kernel), by decide +kernel, by decide +kernel, by decide, by decide⟩
theorem m_Pane_new_g : gGood m_Pane_new := ⟨gH_in (i := 172) (by decide +kernel), by decide +kernel, m_Pane_new_d, rfl, gH_in (i := 50) (by decide +kernel), by decide +kernel, by decide +kernel, by decide, by decide⟩
theorem m_Line_new_g : gGood m_Line_new := ⟨gH_in (i := 178) (by decide +kernel), by decide +kernel, m_Line_new_d, rfl, gH_in (i := 53) (by decide +kernel), by decide +kernel, by decide +kernel, by decide, by decide⟩
theorem m_Wrap_new_g : gGood m_Wrap_new := ⟨gH_in (i := 200) (by decide +kernel), by decide +kernel, m_Wrap_new_d, rfl, gH_in (i := 54) (by decide +kernel), by decide +kernel, by decide +kernel, by decide, by decide⟩
theorem m_Grid_new_g : gGood m_Grid_new := ⟨gH_in (i := 320) (by decide +kernel), by decide +kernel, m_Grid_new_d, rfl, gH_in (i := 55) (by decide +kernel), by decide +kernel, by decide +kernel, by decide, by decide⟩
theorem m_Arrays_fill_2_g : gGood m_Arrays_fill_2 := ⟨gH_in (i := 324) (by decide +kernel), by decide +kernel, m_Arrays_fill_2_d, rfl, gH_in (i := 56) (by decide +kernel), by decide +kernel, by decide +kernel, by decide, by decide⟩
theorem m_Picture_new_g : gGood m_Picture_new := ⟨gH_in (i := 354) (by decide +kernel), by decide +kernel, m_Picture_new_d, rfl, gH_in (i := 57) (by decide +kernel), by decide +kernel, by decide +kernel, by decide, by decide⟩
theorem m_Tree_enter_g : gGood m_Tree_enter := ⟨gH_in (i := 389) (by decide +kernel), by decide +kernel, m_Tree_enter_d, rfl, gH_in (i := 47) (by decide +kernel), by decide +kernel, by decide +kernel, by decide, by decide⟩
theorem m_Tree_layOut_g : gGood m_Tree_layOut := ⟨gH_in (i := 393) (by decide +kernel), by decide +kernel, m_Tree_layOut_d, rfl, gH_in (i := 47) (by decide +kernel), by decide +kernel, by decide +kernel, by decide, by decide⟩
theorem m_Tree_layOutFrom_g : gGood m_Tree_layOutFrom := ⟨gH_in (i := 396) (by decide +kernel), by decide +kernel, m_Tree_layOutFrom_d, rfl, gH_in (i := 47) (by decide +kernel), by decide +kernel, by decide +kernel, by decide, by decide⟩
theorem m_Pane_moveTo_g : gGood m_Pane_moveTo := ⟨gH_in (i := 405) (by decide +kernel), by decide +kernel, m_Pane_moveTo_d, rfl, gH_in (i := 50) (by decide +kernel), by decide +kernel, by decide +kernel, by decide, by decide⟩
theorem m_Grid_loseOutside_g : gGood m_Grid_loseOutside := ⟨gH_in (i := 412) (by decide +kernel), by decide +kernel, m_Grid_loseOutside_d, rfl, gH_in (i := 55) (by decide +kernel), by decide +kernel, by decide +kernel, by decide, by decide⟩
theorem m_Arrays_fill_4_g : gGood m_Arrays_fill_4 := ⟨gH_in (i := 415) (by decide +kernel), by decide +kernel, m_Arrays_fill_4_d, rfl, gH_in (i := 56) (by decide +kernel), by decide +kernel, by decide +kernel, by decide, by decide⟩
theorem m_Arrays_rangeCheck_g : gGood m_Arrays_rangeCheck := ⟨gH_in (i := 418) (by decide +kernel), by decide +kernel, m_Arrays_rangeCheck_d, rfl, gH_in (i := 56) (by decide +kernel), by decide +kernel, by decide +kernel, by decide, by decide⟩
theorem m_Pane_loseOutside_g : gGood m_Pane_loseOutside := ⟨gH_in (i := 422) (by decide +kernel), by decide +kernel, m_Pane_loseOutside_d, rfl, gH_in (i := 50) (by decide +kernel), by decide +kernel, by decide +kernel, by decide, by decide⟩
theorem m_Tree_layOutSides_g : gGood m_Tree_layOutSides := ⟨gH_in (i := 426) (by decide +kernel), by decide +kernel, m_Tree_layOutSides_d, rfl, gH_in (i := 47) (by decide +kernel), by decide +kernel, by decide +kernel, by decide, by decide⟩
theorem m_G_isAlongRows_g : gGood m_G_isAlongRows := ⟨gH_in (i := 429) (by decide +kernel), by decide +kernel, m_G_isAlongRows_d, rfl, gH_in (i := 45) (by decide +kernel), by decide +kernel, by decide +kernel, by decide, by decide⟩
theorem m_Pair_borderIn_g : gGood m_Pair_borderIn := ⟨gH_in (i := 433) (by decide +kernel), by decide +kernel, m_Pair_borderIn_d, rfl, gH_in (i := 58) (by decide +kernel), by decide +kernel, by decide +kernel, by decide, by decide⟩
theorem m_Pair_measureIn_g : gGood m_Pair_measureIn := ⟨gH_in (i := 437) (by decide +kernel), by decide +kernel, m_Pair_measureIn_d, rfl, gH_in (i := 58) (by decide +kernel), by decide +kernel, by decide +kernel, by decide, by decide⟩
theorem m_G_isFixed_g : gGood m_G_isFixed := ⟨gH_in (i := 440) (by decide +kernel), by decide +kernel, m_G_isFixed_d, rfl, gH_in (i := 45) (by decide +kernel), by decide +kernel, by decide +kernel, by decide, by decide⟩
theorem m_Writing_wanted_g : gGood m_Writing_wanted := ⟨gH_in (i := 448) (by decide +kernel), by decide +kernel, m_Writing_wanted_d, rfl, gH_in (i := 51) (by decide +kernel), by decide +kernel, by decide +kernel, by decide, by decide⟩
theorem m_Picture_wanted_g : gGood m_Picture_wanted := ⟨gH_in (i := 452) (by decide +kernel), by decide +kernel, m_Picture_wanted_d, rfl, gH_in (i := 57) (by decide +kernel), by decide +kernel, by decide +kernel, by decide, by decide⟩
theorem m_Pane_wanted_g : gGood m_Pane_wanted := ⟨gH_in (i := 454) (by decide +kernel), by decide +kernel, m_Pane_wanted_d, rfl, gH_in (i := 50) (by decide +kernel), by decide +kernel, by decide +kernel, by decide, by decide⟩
theorem m_Pair_measuresFirst_g : gGood m_Pair_measuresFirst := ⟨gH_in (i := 458) (by decide +kernel), by decide +kernel, m_Pair_measuresFirst_d, rfl, gH_in (i := 58) (by decide +kernel), by decide +kernel, by decide +kernel, by decide, by decide⟩
theorem m_Tree_find_g : gGood m_Tree_find := ⟨gH_in (i := 462) (by decide +kernel), by decide +kernel, m_Tree_find_d, rfl, gH_in (i := 47) (by decide +kernel), by decide +kernel, by decide +kernel, by decide, by decide⟩
theorem m_G_isMeasure_g : gGood m_G_isMeasure := ⟨gH_in (i := 465) (by decide +kernel), by decide +kernel, m_G_isMeasure_d, rfl, gH_in (i := 45) (by decide +kernel), by decide +kernel, by decide +kernel, by decide, by decide⟩
theorem m_Tree_split_g : gGood m_Tree_split := ⟨gH_in (i := 470) (by decide +kernel), by decide +kernel, m_Tree_split_d, rfl, gH_in (i := 47) (by decide +kernel), by decide +kernel, by decide +kernel, by decide, by decide⟩
theorem m_Pair_new_g : gGood m_Pair_new := ⟨gH_in (i := 474) (by decide +kernel), by decide +kernel, m_Pair_new_d, rfl, gH_in (i := 58) (by decide +kernel), by decide +kernel, by decide +kernel, by decide, by decide⟩
theorem m_Tree_replace_g : gGood m_Tree_replace := ⟨gH_in (i := 515) (by decide +kernel), by decide +kernel, m_Tree_replace_d, rfl, gH_in (i := 47) (by decide +kernel), by decide +kernel, by decide +kernel, by decide, by decide⟩
theorem m_Pair_join_g : gGood m_Pair_join := ⟨gH_in (i := 519) (by decide +kernel), by decide +kernel, m_Pair_join_d, rfl, gH_in (i := 58) (by decide +kernel), by decide +kernel, by decide +kernel, by decide, by decide⟩
theorem m_G_close_g : gGood m_G_close := ⟨gH_in (i := 524) (by decide +kernel), by decide +kernel, m_G_close_d, rfl, gH_in (i := 45) (by decide +kernel), by decide +kernel, by decide +kernel, by decide, by decide⟩
theorem m_Tree_remove_g : gGood m_Tree_remove := ⟨gH_in (i := 528) (by decide +kernel), by decide +kernel, m_Tree_remove_d, rfl, gH_in (i := 47) (by decide +kernel), by decide +kernel, by decide +kernel, by decide, by decide⟩
theorem m_Tree_forget_g : gGood m_Tree_forget := ⟨gH_in (i := 532) (by decide +kernel), by decide +kernel, m_Tree_forget_d, rfl, gH_in (i := 47) (by decide +kernel), by decide +kernel, by decide +kernel, by decide, by decide⟩
theorem m_Tree_forgetWithAllBelow_g : gGood m_Tree_forgetWithAllBelow := ⟨gH_in (i := 536) (by decide +kernel), by decide +kernel, m_Tree_forgetWithAllBelow_d, rfl, gH_in (i := 47) (by decide +kernel), by decide +kernel, by decide +kernel, by decide, by decide⟩
theorem m_G_isBelow_g : gGood m_G_isBelow := ⟨gH_in (i := 539) (by decide +kernel), by decide +kernel, m_G_isBelow_d, rfl, gH_in (i := 45) (by decide +kernel), by decide +kernel, by decide +kernel, by decide, by decide⟩
theorem m_Tree_forgetClosedKeys_g : gGood m_Tree_forgetClosedKeys := ⟨gH_in (i := 543) (by decide +kernel), by decide +kernel, m_Tree_forgetClosedKeys_d, rfl, gH_in (i := 47) (by decide +kernel), by decide +kernel, by decide +kernel, by decide, by decide⟩
theorem m_G_arrange_g : gGood m_G_arrange := ⟨gH_in (i := 548) (by decide +kernel), by decide +kernel, m_G_arrange_d, rfl, gH_in (i := 45) (by decide +kernel), by decide +kernel, by decide +kernel, by decide, by decide⟩
theorem m_Pair_rearrange_g : gGood m_Pair_rearrange := ⟨gH_in (i := 555) (by decide +kernel), by decide +kernel, m_Pair_rearrange_d, rfl, gH_in (i := 58) (by decide +kernel), by decide +kernel, by decide +kernel, by decide, by decide⟩
theorem m_G_pane_g : gGood m_G_pane := ⟨gH_in (i := 560) (by decide +kernel), by decide +kernel, m_G_pane_d, rfl, gH_in (i := 45) (by decide +kernel), by decide +kernel, by decide +kernel, by decide, by decide⟩
theorem m_G_numberOf_g : gGood m_G_numberOf := ⟨gH_in (i := 563) (by decide +kernel), by decide +kernel, m_G_numberOf_d, rfl, gH_in (i := 45) (by decide +kernel), by decide +kernel, by decide +kernel, by decide, by decide⟩
theorem m_G_pair_g : gGood m_G_pair := ⟨gH_in (i := 567) (by decide +kernel), by decide +kernel, m_G_pair_d, rfl, gH_in (i := 45) (by decide +kernel), by decide +kernel, by decide +kernel, by decide, by decide⟩
theorem m_G_root_g : gGood m_G_root := ⟨gH_in (i := 571) (by decide +kernel), by decide +kernel, m_G_root_d, rfl, gH_in (i := 45) (by decide +kernel), by decide +kernel, by decide +kernel, by decide, by decide⟩
theorem m_G_resize_g : gGood m_G_resize := ⟨gH_in (i := 575) (by decide +kernel), by decide +kernel, m_G_resize_d, rfl, gH_in (i := 45) (by decide +kernel), by decide +kernel, by decide +kernel, by decide, by decide⟩
theorem m_Events_add_g : gGood m_Events_add := ⟨gH_in (i := 580) (by decide +kernel), by decide +kernel, m_Events_add_d, rfl, gH_in (i := 46) (by decide +kernel), by decide +kernel, by decide +kernel, by decide, by decide⟩
theorem m_Events_nextRow_g : gGood m_Events_nextRow := ⟨gH_in (i := 584) (by decide +kernel), by decide +kernel, m_Events_nextRow_d, rfl, gH_in (i := 46) (by decide +kernel), by decide +kernel, by decide +kernel, by decide, by decide⟩
theorem m_Events_fillFacts_g : gGood m_Events_fillFacts := ⟨gH_in (i := 587) (by decide +kernel), by decide +kernel, m_Events_fillFacts_d, rfl, gH_in (i := 46) (by decide +kernel), by decide +kernel, by decide +kernel, by decide, by decide⟩
theorem m_G_sign_g : gGood m_G_sign := ⟨gH_in (i := 592) (by decide +kernel), by decide +kernel, m_G_sign_d, rfl, gH_in (i := 45) (by decide +kernel), by decide +kernel, by decide +kernel, by decide, by decide⟩
theorem m_G_isPlainSign_g : gGood m_G_isPlainSign := ⟨gH_in (i := 595) (by decide +kernel), by decide +kernel, m_G_isPlainSign_d, rfl, gH_in (i := 45) (by decide +kernel), by decide +kernel, by decide +kernel, by decide, by decide⟩
theorem m_G_cell_g : gGood m_G_cell := ⟨gH_in (i := 599) (by decide +kernel), by decide +kernel, m_G_cell_d, rfl, gH_in (i := 45) (by decide +kernel), by decide +kernel, by decide +kernel, by decide, by decide⟩
theorem m_Grid_put_g : gGood m_Grid_put := ⟨gH_in (i := 605) (by decide +kernel), by decide +kernel, m_Grid_put_d, rfl, gH_in (i := 55) (by decide +kernel), by decide +kernel, by decide +kernel, by decide, by decide⟩
theorem m_G_signOf_g : gGood m_G_signOf := ⟨gH_in (i := 608) (by decide +kernel), by decide +kernel, m_G_signOf_d, rfl, gH_in (i := 45) (by decide +kernel), by decide +kernel, by decide +kernel, by decide, by decide⟩
theorem m_Grid_goToNextRow_g : gGood m_Grid_goToNextRow := ⟨gH_in (i := 612) (by decide +kernel), by decide +kernel, m_Grid_goToNextRow_d, rfl, gH_in (i := 55) (by decide +kernel), by decide +kernel, by decide +kernel, by decide, by decide⟩
theorem m_Grid_write_g : gGood m_Grid_write := ⟨gH_in (i := 616) (by decide +kernel), by decide +kernel, m_Grid_write_d, rfl, gH_in (i := 55) (by decide +kernel), by decide +kernel, by decide +kernel, by decide, by decide⟩
theorem m_Grid_indexOf_g : gGood m_Grid_indexOf := ⟨gH_in (i := 620) (by decide +kernel), by decide +kernel, m_Grid_indexOf_d, rfl, gH_in (i := 55) (by decide +kernel), by decide +kernel, by decide +kernel, by decide, by decide⟩
theorem m_Pane_has_g : gGood m_Pane_has := ⟨gH_in (i := 626) (by decide +kernel), by decide +kernel, m_Pane_has_d, rfl, gH_in (i := 50) (by decide +kernel), by decide +kernel, by decide +kernel, by decide, by decide⟩
theorem m_Text_put_g : gGood m_Text_put := ⟨gH_in (i := 629) (by decide +kernel), by decide +kernel, m_Text_put_d, rfl, gH_in (i := 52) (by decide +kernel), by decide +kernel, by decide +kernel, by decide, by decide⟩
theorem m_Text_dropOldest_g : gGood m_Text_dropOldest := ⟨gH_in (i := 633) (by decide +kernel), by decide +kernel, m_Text_dropOldest_d, rfl, gH_in (i := 52) (by decide +kernel), by decide +kernel, by decide +kernel, by decide, by decide⟩
theorem m_G_style_g : gGood m_G_style := ⟨gH_in (i := 639) (by decide +kernel), by decide +kernel, m_G_style_d, rfl, gH_in (i := 45) (by decide +kernel), by decide +kernel, by decide +kernel, by decide, by decide⟩
theorem m_G_link_g : gGood m_G_link := ⟨gH_in (i := 643) (by decide +kernel), by decide +kernel, m_G_link_d, rfl, gH_in (i := 45) (by decide +kernel), by decide +kernel, by decide +kernel, by decide, by decide⟩
theorem m_G_cursor_g : gGood m_G_cursor := ⟨gH_in (i := 647) (by decide +kernel), by decide +kernel, m_G_cursor_d, rfl, gH_in (i := 45) (by decide +kernel), by decide +kernel, by decide +kernel, by decide, by decide⟩
theorem m_G_at_g : gGood m_G_at := ⟨gH_in (i := 653) (by decide +kernel), by decide +kernel, m_G_at_d, rfl, gH_in (i := 45) (by decide +kernel), by decide +kernel, by decide +kernel, by decide, by decide⟩
theorem m_G_wipe_g : gGood m_G_wipe := ⟨gH_in (i := 657) (by decide +kernel), by decide +kernel, m_G_wipe_d, rfl, gH_in (i := 45) (by decide +kernel), by decide +kernel, by decide +kernel, by decide, by decide⟩
theorem m_Grid_clear_g : gGood m_Grid_clear := ⟨gH_in (i := 663) (by decide +kernel), by decide +kernel, m_Grid_clear_d, rfl, gH_in (i := 55) (by decide +kernel), by decide +kernel, by decide +kernel, by decide, by decide⟩
theorem m_Text_clear_g : gGood m_Text_clear := ⟨gH_in (i := 666) (by decide +kernel), by decide +kernel, m_Text_clear_d, rfl, gH_in (i := 52) (by decide +kernel), by decide +kernel, by decide +kernel, by decide, by decide⟩
theorem m_G_picture_g : gGood m_G_picture := ⟨gH_in (i := 670) (by decide +kernel), by decide +kernel, m_G_picture_d, rfl, gH_in (i := 45) (by decide +kernel), by decide +kernel, by decide +kernel, by decide, by decide⟩
theorem m_G_shown_g : gGood m_G_shown := ⟨gH_in (i := 675) (by decide +kernel), by decide +kernel, m_G_shown_d, rfl, gH_in (i := 45) (by decide +kernel), by decide +kernel, by decide +kernel, by decide, by decide⟩
theorem m_Grid_cellAt_g : gGood m_Grid_cellAt := ⟨gH_in (i := 682) (by decide +kernel), by decide +kernel, m_Grid_cellAt_d, rfl, gH_in (i := 55) (by decide +kernel), by decide +kernel, by decide +kernel, by decide, by decide⟩
theorem m_Line_cellOf_g : gGood m_Line_cellOf := ⟨gH_in (i := 686) (by decide +kernel), by decide +kernel, m_Line_cellOf_d, rfl, gH_in (i := 53) (by decide +kernel), by decide +kernel, by decide +kernel, by decide, by decide⟩
theorem m_Text_cellAt_g : gGood m_Text_cellAt := ⟨gH_in (i := 689) (by decide +kernel), by decide +kernel, m_Text_cellAt_d, rfl, gH_in (i := 52) (by decide +kernel), by decide +kernel, by decide +kernel, by decide, by decide⟩
theorem m_Wrap_fold_g : gGood m_Wrap_fold := ⟨gH_in (i := 693) (by decide +kernel), by decide +kernel, m_Wrap_fold_d, rfl, gH_in (i := 54) (by decide +kernel), by decide +kernel, by decide +kernel, by decide, by decide⟩
theorem m_Text_length_g : gGood m_Text_length := ⟨gH_in (i := 697) (by decide +kernel), by decide +kernel, m_Text_length_d, rfl, gH_in (i := 52) (by decide +kernel), by decide +kernel, by decide +kernel, by decide, by decide⟩
theorem m_Text_cellOf_g : gGood m_Text_cellOf := ⟨gH_in (i := 701) (by decide +kernel), by decide +kernel, m_Text_cellOf_d, rfl, gH_in (i := 52) (by decide +kernel), by decide +kernel, by decide +kernel, by decide, by decide⟩
theorem m_Wrap_foldParagraph_g : gGood m_Wrap_foldParagraph := ⟨gH_in (i := 707) (by decide +kernel), by decide +kernel, m_Wrap_foldParagraph_d, rfl, gH_in (i := 54) (by decide +kernel), by decide +kernel, by decide +kernel, by decide, by decide⟩
theorem m_Wrap_addLine_g : gGood m_Wrap_addLine := ⟨gH_in (i := 711) (by decide +kernel), by decide +kernel, m_Wrap_addLine_d, rfl, gH_in (i := 54) (by decide +kernel), by decide +kernel, by decide +kernel, by decide, by decide⟩
theorem m_Wrap_lastSpace_g : gGood m_Wrap_lastSpace := ⟨gH_in (i := 714) (by decide +kernel), by decide +kernel, m_Wrap_lastSpace_d, rfl, gH_in (i := 54) (by decide +kernel), by decide +kernel, by decide +kernel, by decide, by decide⟩
theorem m_Wrap_afterSpaces_g : gGood m_Wrap_afterSpaces := ⟨gH_in (i := 717) (by decide +kernel), by decide +kernel, m_Wrap_afterSpaces_d, rfl, gH_in (i := 54) (by decide +kernel), by decide +kernel, by decide +kernel, by decide, by decide⟩
theorem m_Wrap_signIndex_g : gGood m_Wrap_signIndex := ⟨gH_in (i := 721) (by decide +kernel), by decide +kernel, m_Wrap_signIndex_d, rfl, gH_in (i := 54) (by decide +kernel), by decide +kernel, by decide +kernel, by decide, by decide⟩
theorem m_Pane_cellAt_g : gGood m_Pane_cellAt := ⟨gH_in (i := 724) (by decide +kernel), by decide +kernel, m_Pane_cellAt_d, rfl, gH_in (i := 50) (by decide +kernel), by decide +kernel, by decide +kernel, by decide, by decide⟩
theorem m_G_styleOf_g : gGood m_G_styleOf := ⟨gH_in (i := 728) (by decide +kernel), by decide +kernel, m_G_styleOf_d, rfl, gH_in (i := 45) (by decide +kernel), by decide +kernel, by decide +kernel, by decide, by decide⟩
theorem m_G_linkOf_g : gGood m_G_linkOf := ⟨gH_in (i := 731) (by decide +kernel), by decide +kernel, m_G_linkOf_d, rfl, gH_in (i := 45) (by decide +kernel), by decide +kernel, by decide +kernel, by decide, by decide⟩
theorem m_G_lines_g : gGood m_G_lines := ⟨gH_in (i := 735) (by decide +kernel), by decide +kernel, m_G_lines_d, rfl, gH_in (i := 45) (by decide +kernel), by decide +kernel, by decide +kernel, by decide, by decide⟩
theorem m_Text_countLines_g : gGood m_Text_countLines := ⟨gH_in (i := 740) (by decide +kernel), by decide +kernel, m_Text_countLines_d, rfl, gH_in (i := 52) (by decide +kernel), by decide +kernel, by decide +kernel, by decide, by decide⟩
theorem m_G_drawn_g : gGood m_G_drawn := ⟨gH_in (i := 744) (by decide +kernel), by decide +kernel, m_G_drawn_d, rfl, gH_in (i := 45) (by decide +kernel), by decide +kernel, by decide +kernel, by decide, by decide⟩
theorem m_Tree_hasPlace_g : gGood m_Tree_hasPlace := ⟨gH_in (i := 748) (by decide +kernel), by decide +kernel, m_Tree_hasPlace_d, rfl, gH_in (i := 47) (by decide +kernel), by decide +kernel, by decide +kernel, by decide, by decide⟩
theorem m_Tree_paneAt_g : gGood m_Tree_paneAt := ⟨gH_in (i := 752) (by decide +kernel), by decide +kernel, m_Tree_paneAt_d, rfl, gH_in (i := 47) (by decide +kernel), by decide +kernel, by decide +kernel, by decide, by decide⟩
theorem m_Tree_isIn_g : gGood m_Tree_isIn := ⟨gH_in (i := 755) (by decide +kernel), by decide +kernel, m_Tree_isIn_d, rfl, gH_in (i := 47) (by decide +kernel), by decide +kernel, by decide +kernel, by decide, by decide⟩
theorem m_Pair_cellAt_g : gGood m_Pair_cellAt := ⟨gH_in (i := 759) (by decide +kernel), by decide +kernel, m_Pair_cellAt_d, rfl, gH_in (i := 58) (by decide +kernel), by decide +kernel, by decide +kernel, by decide, by decide⟩
theorem m_Picture_cellAt_g : gGood m_Picture_cellAt := ⟨gH_in (i := 761) (by decide +kernel), by decide +kernel, m_Picture_cellAt_d, rfl, gH_in (i := 57) (by decide +kernel), by decide +kernel, by decide +kernel, by decide, by decide⟩
theorem m_G_under_g : gGood m_G_under := ⟨gH_in (i := 765) (by decide +kernel), by decide +kernel, m_G_under_d, rfl, gH_in (i := 45) (by decide +kernel), by decide +kernel, by decide +kernel, by decide, by decide⟩
theorem m_G_ask_g : gGood m_G_ask := ⟨gH_in (i := 769) (by decide +kernel), by decide +kernel, m_G_ask_d, rfl, gH_in (i := 45) (by decide +kernel), by decide +kernel, by decide +kernel, by decide, by decide⟩
theorem m_G_isAsk_g : gGood m_G_isAsk := ⟨gH_in (i := 772) (by decide +kernel), by decide +kernel, m_G_isAsk_d, rfl, gH_in (i := 45) (by decide +kernel), by decide +kernel, by decide +kernel, by decide, by decide⟩
theorem m_Writing_canBeAsked_g : gGood m_Writing_canBeAsked := ⟨gH_in (i := 778) (by decide +kernel), by decide +kernel, m_Writing_canBeAsked_d, rfl, gH_in (i := 51) (by decide +kernel), by decide +kernel, by decide +kernel, by decide, by decide⟩
theorem m_Line_begin_g : gGood m_Line_begin := ⟨gH_in (i := 782) (by decide +kernel), by decide +kernel, m_Line_begin_d, rfl, gH_in (i := 53) (by decide +kernel), by decide +kernel, by decide +kernel, by decide, by decide⟩
theorem m_G_cancel_g : gGood m_G_cancel := ⟨gH_in (i := 786) (by decide +kernel), by decide +kernel, m_G_cancel_d, rfl, gH_in (i := 45) (by decide +kernel), by decide +kernel, by decide +kernel, by decide, by decide⟩
theorem m_Writing_finishLine_g : gGood m_Writing_finishLine := ⟨gH_in (i := 792) (by decide +kernel), by decide +kernel, m_Writing_finishLine_d, rfl, gH_in (i := 51) (by decide +kernel), by decide +kernel, by decide +kernel, by decide, by decide⟩
theorem m_Grid_putLine_g : gGood m_Grid_putLine := ⟨gH_in (i := 798) (by decide +kernel), by decide +kernel, m_Grid_putLine_d, rfl, gH_in (i := 55) (by decide +kernel), by decide +kernel, by decide +kernel, by decide, by decide⟩
theorem m_Text_putLine_g : gGood m_Text_putLine := ⟨gH_in (i := 801) (by decide +kernel), by decide +kernel, m_Text_putLine_d, rfl, gH_in (i := 52) (by decide +kernel), by decide +kernel, by decide +kernel, by decide, by decide⟩
theorem m_G_echo_g : gGood m_G_echo := ⟨gH_in (i := 808) (by decide +kernel), by decide +kernel, m_G_echo_d, rfl, gH_in (i := 45) (by decide +kernel), by decide +kernel, by decide +kernel, by decide, by decide⟩
theorem m_G_type_g : gGood m_G_type := ⟨gH_in (i := 812) (by decide +kernel), by decide +kernel, m_G_type_d, rfl, gH_in (i := 45) (by decide +kernel), by decide +kernel, by decide +kernel, by decide, by decide⟩
theorem m_G_typeInLine_g : gGood m_G_typeInLine := ⟨gH_in (i := 816) (by decide +kernel), by decide +kernel, m_G_typeInLine_d, rfl, gH_in (i := 45) (by decide +kernel), by decide +kernel, by decide +kernel, by decide, by decide⟩
theorem m_Events_addLine_g : gGood m_Events_addLine := ⟨gH_in (i := 820) (by decide +kernel), by decide +kernel, m_Events_addLine_d, rfl, gH_in (i := 46) (by decide +kernel), by decide +kernel, by decide +kernel, by decide, by decide⟩
theorem m_Line_removeLast_g : gGood m_Line_removeLast := ⟨gH_in (i := 826) (by decide +kernel), by decide +kernel, m_Line_removeLast_d, rfl, gH_in (i := 53) (by decide +kernel), by decide +kernel, by decide +kernel, by decide, by decide⟩
theorem m_Line_append_g : gGood m_Line_append := ⟨gH_in (i := 830) (by decide +kernel), by decide +kernel, m_Line_append_d, rfl, gH_in (i := 53) (by decide +kernel), by decide +kernel, by decide +kernel, by decide, by decide⟩
theorem m_G_click_g : gGood m_G_click := ⟨gH_in (i := 835) (by decide +kernel), by decide +kernel, m_G_click_d, rfl, gH_in (i := 45) (by decide +kernel), by decide +kernel, by decide +kernel, by decide, by decide⟩
theorem m_G_take_g : gGood m_G_take := ⟨gH_in (i := 839) (by decide +kernel), by decide +kernel, m_G_take_d, rfl, gH_in (i := 45) (by decide +kernel), by decide +kernel, by decide +kernel, by decide, by decide⟩
theorem m_Events_tellOldest_g : gGood m_Events_tellOldest := ⟨gH_in (i := 843) (by decide +kernel), by decide +kernel, m_Events_tellOldest_d, rfl, gH_in (i := 46) (by decide +kernel), by decide +kernel, by decide +kernel, by decide, by decide⟩
theorem m_G_event_g : gGood m_G_event := ⟨gH_in (i := 850) (by decide +kernel), by decide +kernel, m_G_event_d, rfl, gH_in (i := 45) (by decide +kernel), by decide +kernel, by decide +kernel, by decide, by decide⟩
theorem m_Events_told_g : gGood m_Events_told := ⟨gH_in (i := 854) (by decide +kernel), by decide +kernel, m_Events_told_d, rfl, gH_in (i := 46) (by decide +kernel), by decide +kernel, by decide +kernel, by decide, by decide⟩
theorem m_G_count_g : gGood m_G_count := ⟨gH_in (i := 858) (by decide +kernel), by decide +kernel, m_G_count_d, rfl, gH_in (i := 45) (by decide +kernel), by decide +kernel, by decide +kernel, by decide, by decide⟩
theorem m_Law_cell_g : gGood m_Law_cell := ⟨gH_in (i := 862) (by decide +kernel), by decide +kernel, m_Law_cell_d, rfl, gH_in (i := 44) (by decide +kernel), by decide +kernel, by decide +kernel, by decide, by decide⟩
theorem m_M_new_g : gGood m_M_new := ⟨gH_in (i := 867) (by decide +kernel), by decide +kernel, m_M_new_d, rfl, gH_in (i := 49) (by decide +kernel), by decide +kernel, by decide +kernel, by decide, by decide⟩
theorem m_M_nearest_g : gGood m_M_nearest := ⟨gH_in (i := 872) (by decide +kernel), by decide +kernel, m_M_nearest_d, rfl, gH_in (i := 49) (by decide +kernel), by decide +kernel, by decide +kernel, by decide, by decide⟩
theorem m_M_open_g : gGood m_M_open := ⟨gH_in (i := 1009) (by decide +kernel), by decide +kernel, m_M_open_d, rfl, gH_in (i := 49) (by decide +kernel), by decide +kernel, by decide +kernel, by decide, by decide⟩
theorem m_M_isPane_g : gGood m_M_isPane := ⟨gH_in (i := 1013) (by decide +kernel), by decide +kernel, m_M_isPane_d, rfl, gH_in (i := 49) (by decide +kernel), by decide +kernel, by decide +kernel, by decide, by decide⟩
theorem m_M_in_g : gGood m_M_in := ⟨gH_in (i := 1016) (by decide +kernel), by decide +kernel, m_M_in_d, rfl, gH_in (i := 49) (by decide +kernel), by decide +kernel, by decide +kernel, by decide, by decide⟩
theorem m_M_isMethod_g : gGood m_M_isMethod := ⟨gH_in (i := 1020) (by decide +kernel), by decide +kernel, m_M_isMethod_d, rfl, gH_in (i := 49) (by decide +kernel), by decide +kernel, by decide +kernel, by decide, by decide⟩
theorem m_M_leaves_g : gGood m_M_leaves := ⟨gH_in (i := 1024) (by decide +kernel), by decide +kernel, m_M_leaves_d, rfl, gH_in (i := 49) (by decide +kernel), by decide +kernel, by decide +kernel, by decide, by decide⟩
theorem m_M_make_g : gGood m_M_make := ⟨gH_in (i := 1028) (by decide +kernel), by decide +kernel, m_M_make_d, rfl, gH_in (i := 49) (by decide +kernel), by decide +kernel, by decide +kernel, by decide, by decide⟩
theorem m_M_put_g : gGood m_M_put := ⟨gH_in (i := 1032) (by decide +kernel), by decide +kernel, m_M_put_d, rfl, gH_in (i := 49) (by decide +kernel), by decide +kernel, by decide +kernel, by decide, by decide⟩
theorem m_M_arrangeAll_g : gGood m_M_arrangeAll := ⟨gH_in (i := 1036) (by decide +kernel), by decide +kernel, m_M_arrangeAll_d, rfl, gH_in (i := 49) (by decide +kernel), by decide +kernel, by decide +kernel, by decide, by decide⟩
theorem m_M_room_g : gGood m_M_room := ⟨gH_in (i := 1040) (by decide +kernel), by decide +kernel, m_M_room_d, rfl, gH_in (i := 49) (by decide +kernel), by decide +kernel, by decide +kernel, by decide, by decide⟩
theorem m_M_split_g : gGood m_M_split := ⟨gH_in (i := 1044) (by decide +kernel), by decide +kernel, m_M_split_d, rfl, gH_in (i := 49) (by decide +kernel), by decide +kernel, by decide +kernel, by decide, by decide⟩
theorem m_M_wanted_g : gGood m_M_wanted := ⟨gH_in (i := 1048) (by decide +kernel), by decide +kernel, m_M_wanted_d, rfl, gH_in (i := 49) (by decide +kernel), by decide +kernel, by decide +kernel, by decide, by decide⟩
theorem m_M_fit_g : gGood m_M_fit := ⟨gH_in (i := 1052) (by decide +kernel), by decide +kernel, m_M_fit_d, rfl, gH_in (i := 49) (by decide +kernel), by decide +kernel, by decide +kernel, by decide, by decide⟩
theorem m_M_blank_g : gGood m_M_blank := ⟨gH_in (i := 1056) (by decide +kernel), by decide +kernel, m_M_blank_d, rfl, gH_in (i := 49) (by decide +kernel), by decide +kernel, by decide +kernel, by decide, by decide⟩
theorem m_M_close_g : gGood m_M_close := ⟨gH_in (i := 1060) (by decide +kernel), by decide +kernel, m_M_close_d, rfl, gH_in (i := 49) (by decide +kernel), by decide +kernel, by decide +kernel, by decide, by decide⟩
theorem m_M_isWithin_g : gGood m_M_isWithin := ⟨gH_in (i := 1064) (by decide +kernel), by decide +kernel, m_M_isWithin_d, rfl, gH_in (i := 49) (by decide +kernel), by decide +kernel, by decide +kernel, by decide, by decide⟩
theorem m_M_arrange_g : gGood m_M_arrange := ⟨gH_in (i := 1068) (by decide +kernel), by decide +kernel, m_M_arrange_d, rfl, gH_in (i := 49) (by decide +kernel), by decide +kernel, by decide +kernel, by decide, by decide⟩
theorem m_M_pane_g : gGood m_M_pane := ⟨gH_in (i := 1072) (by decide +kernel), by decide +kernel, m_M_pane_d, rfl, gH_in (i := 49) (by decide +kernel), by decide +kernel, by decide +kernel, by decide, by decide⟩
theorem m_M_pair_g : gGood m_M_pair := ⟨gH_in (i := 1076) (by decide +kernel), by decide +kernel, m_M_pair_d, rfl, gH_in (i := 49) (by decide +kernel), by decide +kernel, by decide +kernel, by decide, by decide⟩
theorem m_M_root_g : gGood m_M_root := ⟨gH_in (i := 1080) (by decide +kernel), by decide +kernel, m_M_root_d, rfl, gH_in (i := 49) (by decide +kernel), by decide +kernel, by decide +kernel, by decide, by decide⟩
theorem m_M_resize_g : gGood m_M_resize := ⟨gH_in (i := 1084) (by decide +kernel), by decide +kernel, m_M_resize_d, rfl, gH_in (i := 49) (by decide +kernel), by decide +kernel, by decide +kernel, by decide, by decide⟩
theorem m_M_event_4_g : gGood m_M_event_4 := ⟨gH_in (i := 1088) (by decide +kernel), by decide +kernel, m_M_event_4_d, rfl, gH_in (i := 49) (by decide +kernel), by decide +kernel, by decide +kernel, by decide, by decide⟩
theorem m_M_drop_g : gGood m_M_drop := ⟨gH_in (i := 1092) (by decide +kernel), by decide +kernel, m_M_drop_d, rfl, gH_in (i := 49) (by decide +kernel), by decide +kernel, by decide +kernel, by decide, by decide⟩
theorem m_M_move_g : gGood m_M_move := ⟨gH_in (i := 1096) (by decide +kernel), by decide +kernel, m_M_move_d, rfl, gH_in (i := 49) (by decide +kernel), by decide +kernel, by decide +kernel, by decide, by decide⟩
theorem m_M_sign_g : gGood m_M_sign := ⟨gH_in (i := 1100) (by decide +kernel), by decide +kernel, m_M_sign_d, rfl, gH_in (i := 49) (by decide +kernel), by decide +kernel, by decide +kernel, by decide, by decide⟩
theorem m_M_isWritable_g : gGood m_M_isWritable := ⟨gH_in (i := 1104) (by decide +kernel), by decide +kernel, m_M_isWritable_d, rfl, gH_in (i := 49) (by decide +kernel), by decide +kernel, by decide +kernel, by decide, by decide⟩
theorem m_M_add_g : gGood m_M_add := ⟨gH_in (i := 1108) (by decide +kernel), by decide +kernel, m_M_add_d, rfl, gH_in (i := 49) (by decide +kernel), by decide +kernel, by decide +kernel, by decide, by decide⟩
theorem m_M_nextRow_g : gGood m_M_nextRow := ⟨gH_in (i := 1112) (by decide +kernel), by decide +kernel, m_M_nextRow_d, rfl, gH_in (i := 49) (by decide +kernel), by decide +kernel, by decide +kernel, by decide, by decide⟩
theorem m_M_lay_g : gGood m_M_lay := ⟨gH_in (i := 1116) (by decide +kernel), by decide +kernel, m_M_lay_d, rfl, gH_in (i := 49) (by decide +kernel), by decide +kernel, by decide +kernel, by decide, by decide⟩
theorem m_M_isCell_g : gGood m_M_isCell := ⟨gH_in (i := 1120) (by decide +kernel), by decide +kernel, m_M_isCell_d, rfl, gH_in (i := 49) (by decide +kernel), by decide +kernel, by decide +kernel, by decide, by decide⟩
theorem m_M_style_g : gGood m_M_style := ⟨gH_in (i := 1124) (by decide +kernel), by decide +kernel, m_M_style_d, rfl, gH_in (i := 49) (by decide +kernel), by decide +kernel, by decide +kernel, by decide, by decide⟩
theorem m_M_link_g : gGood m_M_link := ⟨gH_in (i := 1128) (by decide +kernel), by decide +kernel, m_M_link_d, rfl, gH_in (i := 49) (by decide +kernel), by decide +kernel, by decide +kernel, by decide, by decide⟩
theorem m_M_cursor_g : gGood m_M_cursor := ⟨gH_in (i := 1132) (by decide +kernel), by decide +kernel, m_M_cursor_d, rfl, gH_in (i := 49) (by decide +kernel), by decide +kernel, by decide +kernel, by decide, by decide⟩
theorem m_M_at_g : gGood m_M_at := ⟨gH_in (i := 1136) (by decide +kernel), by decide +kernel, m_M_at_d, rfl, gH_in (i := 49) (by decide +kernel), by decide +kernel, by decide +kernel, by decide, by decide⟩
theorem m_M_wipe_g : gGood m_M_wipe := ⟨gH_in (i := 1140) (by decide +kernel), by decide +kernel, m_M_wipe_d, rfl, gH_in (i := 49) (by decide +kernel), by decide +kernel, by decide +kernel, by decide, by decide⟩
theorem m_M_picture_g : gGood m_M_picture := ⟨gH_in (i := 1144) (by decide +kernel), by decide +kernel, m_M_picture_d, rfl, gH_in (i := 49) (by decide +kernel), by decide +kernel, by decide +kernel, by decide, by decide⟩
theorem m_M_shown_g : gGood m_M_shown := ⟨gH_in (i := 1148) (by decide +kernel), by decide +kernel, m_M_shown_d, rfl, gH_in (i := 49) (by decide +kernel), by decide +kernel, by decide +kernel, by decide, by decide⟩
theorem m_M_shownAt_g : gGood m_M_shownAt := ⟨gH_in (i := 1152) (by decide +kernel), by decide +kernel, m_M_shownAt_d, rfl, gH_in (i := 49) (by decide +kernel), by decide +kernel, by decide +kernel, by decide, by decide⟩
theorem m_M_standing_g : gGood m_M_standing := ⟨gH_in (i := 1156) (by decide +kernel), by decide +kernel, m_M_standing_d, rfl, gH_in (i := 49) (by decide +kernel), by decide +kernel, by decide +kernel, by decide, by decide⟩
theorem m_M_findLines_g : gGood m_M_findLines := ⟨gH_in (i := 1160) (by decide +kernel), by decide +kernel, m_M_findLines_d, rfl, gH_in (i := 49) (by decide +kernel), by decide +kernel, by decide +kernel, by decide, by decide⟩
theorem m_M_signAt_g : gGood m_M_signAt := ⟨gH_in (i := 1164) (by decide +kernel), by decide +kernel, m_M_signAt_d, rfl, gH_in (i := 49) (by decide +kernel), by decide +kernel, by decide +kernel, by decide, by decide⟩
theorem m_M_line_g : gGood m_M_line := ⟨gH_in (i := 1168) (by decide +kernel), by decide +kernel, m_M_line_d, rfl, gH_in (i := 49) (by decide +kernel), by decide +kernel, by decide +kernel, by decide, by decide⟩
theorem m_M_findParts_g : gGood m_M_findParts := ⟨gH_in (i := 1172) (by decide +kernel), by decide +kernel, m_M_findParts_d, rfl, gH_in (i := 49) (by decide +kernel), by decide +kernel, by decide +kernel, by decide, by decide⟩
theorem m_M_lines_g : gGood m_M_lines := ⟨gH_in (i := 1176) (by decide +kernel), by decide +kernel, m_M_lines_d, rfl, gH_in (i := 49) (by decide +kernel), by decide +kernel, by decide +kernel, by decide, by decide⟩
theorem m_M_drawn_g : gGood m_M_drawn := ⟨gH_in (i := 1180) (by decide +kernel), by decide +kernel, m_M_drawn_d, rfl, gH_in (i := 49) (by decide +kernel), by decide +kernel, by decide +kernel, by decide, by decide⟩
theorem m_M_isScreen_g : gGood m_M_isScreen := ⟨gH_in (i := 1184) (by decide +kernel), by decide +kernel, m_M_isScreen_d, rfl, gH_in (i := 49) (by decide +kernel), by decide +kernel, by decide +kernel, by decide, by decide⟩
theorem m_M_paneAt_g : gGood m_M_paneAt := ⟨gH_in (i := 1188) (by decide +kernel), by decide +kernel, m_M_paneAt_d, rfl, gH_in (i := 49) (by decide +kernel), by decide +kernel, by decide +kernel, by decide, by decide⟩
theorem m_M_has_g : gGood m_M_has := ⟨gH_in (i := 1192) (by decide +kernel), by decide +kernel, m_M_has_d, rfl, gH_in (i := 49) (by decide +kernel), by decide +kernel, by decide +kernel, by decide, by decide⟩
theorem m_M_under_g : gGood m_M_under := ⟨gH_in (i := 1196) (by decide +kernel), by decide +kernel, m_M_under_d, rfl, gH_in (i := 49) (by decide +kernel), by decide +kernel, by decide +kernel, by decide, by decide⟩
theorem m_M_ask_g : gGood m_M_ask := ⟨gH_in (i := 1200) (by decide +kernel), by decide +kernel, m_M_ask_d, rfl, gH_in (i := 49) (by decide +kernel), by decide +kernel, by decide +kernel, by decide, by decide⟩
theorem m_M_cancel_g : gGood m_M_cancel := ⟨gH_in (i := 1204) (by decide +kernel), by decide +kernel, m_M_cancel_d, rfl, gH_in (i := 49) (by decide +kernel), by decide +kernel, by decide +kernel, by decide, by decide⟩
theorem m_M_echoLine_g : gGood m_M_echoLine := ⟨gH_in (i := 1208) (by decide +kernel), by decide +kernel, m_M_echoLine_d, rfl, gH_in (i := 49) (by decide +kernel), by decide +kernel, by decide +kernel, by decide, by decide⟩
theorem m_M_echo_g : gGood m_M_echo := ⟨gH_in (i := 1212) (by decide +kernel), by decide +kernel, m_M_echo_d, rfl, gH_in (i := 49) (by decide +kernel), by decide +kernel, by decide +kernel, by decide, by decide⟩
theorem m_M_type_g : gGood m_M_type := ⟨gH_in (i := 1216) (by decide +kernel), by decide +kernel, m_M_type_d, rfl, gH_in (i := 49) (by decide +kernel), by decide +kernel, by decide +kernel, by decide, by decide⟩
theorem m_M_click_g : gGood m_M_click := ⟨gH_in (i := 1220) (by decide +kernel), by decide +kernel, m_M_click_d, rfl, gH_in (i := 49) (by decide +kernel), by decide +kernel, by decide +kernel, by decide, by decide⟩
theorem m_M_take_g : gGood m_M_take := ⟨gH_in (i := 1224) (by decide +kernel), by decide +kernel, m_M_take_d, rfl, gH_in (i := 49) (by decide +kernel), by decide +kernel, by decide +kernel, by decide, by decide⟩
theorem m_M_event_1_g : gGood m_M_event_1 := ⟨gH_in (i := 1228) (by decide +kernel), by decide +kernel, m_M_event_1_d, rfl, gH_in (i := 49) (by decide +kernel), by decide +kernel, by decide +kernel, by decide, by decide⟩
theorem m_M_count_g : gGood m_M_count := ⟨gH_in (i := 1232) (by decide +kernel), by decide +kernel, m_M_count_d, rfl, gH_in (i := 49) (by decide +kernel), by decide +kernel, by decide +kernel, by decide, by decide⟩
theorem gH_ws {ws : List Cond} (is : List Nat) (h : (ws.zip is).all (fun q => gH q.2 q.1) && decide (ws.length = is.length) = true) : ∀ w ∈ ws, w ∈ gTs := by
  simp only [Bool.and_eq_true, decide_eq_true_eq] at h
  intro w hw
  obtain ⟨k, hk⟩ := List.getElem?_of_mem hw
  have hl : k < ws.length := (List.getElem?_eq_some_iff.mp hk).1
  have hi : is[k]? = some is[k] := List.getElem?_eq_getElem (by omega)
  have hz : (ws.zip is)[k]? = some (w, is[k]) := by rw [List.getElem?_zip_eq_some]; exact ⟨hk, hi⟩
  exact gH_in (List.all_eq_true.mp h.1 _ (List.mem_of_getElem? hz))
/-- a field's row: its number, the kinds of objects that have it, the name it is spelt by, the places of its words -/
def gF0 : List (Nat × Nat × List Nat × String × Nat × Nat) := [(11, 0, [0], "GlkPanes$Events", 76, 0), (16, 1, [0], "GlkPanes$Events", 77, 0), (28, 2, [2], "GlkPanes$Line", 183, 0), (41, 4, [0], "GlkPanes$Events", 80, 0), (44, 3, [0], "GlkPanes$Events", 79, 0), (59, 2, [0], "GlkPanes$Events", 78, 0)]
def gF1 : List (Nat × Nat × List Nat × String × Nat × Nat) := [(9, 13, [1], "GlkPanes$Grid", 325, 0), (29, 14, [1], "GlkPanes$Grid", 326, 0), (33, 5, [1], "GlkPanes$Grid", 253, 254), (36, 15, [1], "GlkPanes$Grid", 328, 0), (51, 12, [1], "GlkPanes$Grid", 223, 224), (55, 2, [2], "GlkPanes$Line", 185, 0), (63, 6, [1], "GlkPanes$Grid", 262, 263)]
def gF2 : List (Nat × Nat × List Nat × String × Nat × Nat) := [(9, 0, [2], "GlkPanes$Line", 180, 0), (15, 1, [2], "GlkPanes$Line", 181, 0), (19, 2, [2], "GlkPanes$Line", 182, 0)]
def gF3 : List (Nat × Nat × List Nat × String × Nat × Nat) := [(9, 11, [3], "GlkPanes$Pair", 476, 0), (15, 12, [3], "GlkPanes$Pair", 479, 0), (18, 13, [3], "GlkPanes$Pair", 481, 0), (26, 14, [3], "GlkPanes$Pair", 484, 0), (29, 15, [3], "GlkPanes$Pair", 487, 0)]
def gF4 : List (Nat × Nat × List Nat × String × Nat × Nat) := [(9, 10, [1, 3, 4, 5, 6], "GlkPanes$Pane", 278, 0), (15, 0, [1, 3, 4, 5, 6], "GlkPanes$Pane", 226, 0), (19, 1, [1, 3, 4, 5, 6], "GlkPanes$Pane", 231, 0), (22, 5, [1, 3, 4, 5, 6], "GlkPanes$Pane", 252, 0), (25, 6, [1, 3, 4, 5, 6], "GlkPanes$Pane", 260, 0), (28, 3, [1, 3, 4, 5, 6], "GlkPanes$Pane", 238, 0), (31, 4, [1, 3, 4, 5, 6], "GlkPanes$Pane", 245, 0)]
def gF5 : List (Nat × Nat × List Nat × String × Nat × Nat) := [(9, 11, [5], "GlkPanes$Picture", 356, 0)]
def gF6 : List (Nat × Nat × List Nat × String × Nat × Nat) := [(9, 13, [6], "GlkPanes$Text", 213, 0), (20, 15, [6], "GlkPanes$Text", 215, 0), (24, 14, [6], "GlkPanes$Text", 214, 0), (41, 12, [6], "GlkPanes$Text", 221, 222), (45, 2, [2], "GlkPanes$Line", 184, 0), (61, 5, [6], "GlkPanes$Text", 256, 257), (68, 2, [8], "GlkPanes$Wrap", 205, 0), (71, 6, [6], "GlkPanes$Text", 264, 265)]
def gF7 : List (Nat × Nat × List Nat × String × Nat × Nat) := [(11, 0, [7], "GlkPanes$Tree", 112, 0), (30, 3, [7], "GlkPanes$Tree", 117, 0), (34, 4, [7], "GlkPanes$Tree", 119, 0), (37, 1, [1, 3, 4, 5, 6], "GlkPanes$Pane", 234, 0), (40, 1, [7], "GlkPanes$Tree", 113, 0), (55, 2, [7], "GlkPanes$Tree", 116, 0), (63, 0, [1, 3, 4, 5, 6], "GlkPanes$Pane", 227, 0), (78, 2, [1, 3, 4, 5, 6], "GlkPanes$Pane", 237, 0), (95, 14, [3], "GlkPanes$Pair", 486, 0), (98, 15, [3], "GlkPanes$Pair", 489, 0), (114, 13, [3], "GlkPanes$Pair", 483, 0), (133, 11, [3], "GlkPanes$Pair", 478, 0), (140, 6, [3], "GlkPanes$Pair", 266, 267), (143, 5, [3], "GlkPanes$Pair", 258, 259), (157, 3, [3], "GlkPanes$Pair", 240, 241), (160, 4, [3], "GlkPanes$Pair", 247, 248), (167, 3, [1, 3, 4, 5, 6], "GlkPanes$Pane", 242, 0), (168, 4, [1, 3, 4, 5, 6], "GlkPanes$Pane", 249, 0)]
def gF8 : List (Nat × Nat × List Nat × String × Nat × Nat) := [(9, 0, [8], "GlkPanes$Wrap", 202, 0), (15, 1, [8], "GlkPanes$Wrap", 203, 0), (18, 2, [8], "GlkPanes$Wrap", 204, 0)]
def gF9 : List (Nat × Nat × List Nat × String × Nat × Nat) := [(12, 1, [9], "GlkPanes", 133, 0), (21, 0, [9], "GlkPanes", 132, 0), (48, 2, [7], "GlkPanes$Tree", 115, 0), (59, 9, [1, 3, 4, 5, 6], "GlkPanes$Pane", 274, 0), (67, 13, [3], "GlkPanes$Pair", 482, 0), (70, 1, [1, 3, 4, 5, 6], "GlkPanes$Pane", 235, 0), (80, 11, [3], "GlkPanes$Pair", 477, 0), (91, 5, [1, 3, 4, 5, 6], "GlkPanes$Pane", 255, 0), (94, 6, [1, 3, 4, 5, 6], "GlkPanes$Pane", 261, 0), (97, 3, [1, 3, 4, 5, 6], "GlkPanes$Pane", 239, 0), (100, 4, [1, 3, 4, 5, 6], "GlkPanes$Pane", 246, 0), (103, 2, [1, 3, 4, 5, 6], "GlkPanes$Pane", 236, 0), (111, 7, [1, 3, 4, 5, 6], "GlkPanes$Pane", 268, 0), (114, 8, [1, 3, 4, 5, 6], "GlkPanes$Pane", 271, 0), (117, 10, [1, 3, 4, 5, 6], "GlkPanes$Pane", 281, 0), (121, 12, [3], "GlkPanes$Pair", 480, 0), (124, 14, [3], "GlkPanes$Pair", 485, 0), (127, 15, [3], "GlkPanes$Pair", 488, 0), (133, 3, [7], "GlkPanes$Tree", 118, 0), (136, 4, [7], "GlkPanes$Tree", 120, 0), (148, 11, [1, 6], "GlkPanes$Writing", 217, 0), (152, 7, [1, 6], "GlkPanes$Writing", 269, 270), (153, 8, [1, 6], "GlkPanes$Writing", 272, 273), (162, 9, [1, 6], "GlkPanes$Writing", 277, 276), (165, 11, [1], "GlkPanes$Grid", 218, 219), (166, 14, [1], "GlkPanes$Grid", 327, 0), (169, 15, [1], "GlkPanes$Grid", 329, 0), (180, 11, [5], "GlkPanes$Picture", 357, 0), (210, 0, [1, 3, 4, 5, 6], "GlkPanes$Pane", 228, 0), (219, 12, [1, 6], "GlkPanes$Writing", 225, 0), (228, 2, [2], "GlkPanes$Line", 187, 0), (234, 10, [1, 6], "GlkPanes$Writing", 282, 280), (235, 0, [1, 6], "GlkPanes$Writing", 229, 230), (250, 3, [1, 6], "GlkPanes$Writing", 243, 244), (251, 4, [1, 6], "GlkPanes$Writing", 250, 251), (262, 1, [7], "GlkPanes$Tree", 114, 0), (265, 4, [0], "GlkPanes$Events", 81, 0)]
def gF10 : List (Nat × Nat × List Nat × String × Nat × Nat) := [(7, 4, [10], "GlkPanesModel", 877, 0), (13, 5, [10], "GlkPanesModel", 878, 0), (17, 6, [10], "GlkPanesModel", 879, 0), (20, 7, [10], "GlkPanesModel", 880, 0), (23, 8, [10], "GlkPanesModel", 881, 0), (26, 9, [10], "GlkPanesModel", 882, 0), (29, 10, [10], "GlkPanesModel", 883, 0), (32, 11, [10], "GlkPanesModel", 884, 0), (35, 12, [10], "GlkPanesModel", 885, 0), (38, 13, [10], "GlkPanesModel", 886, 0), (41, 14, [10], "GlkPanesModel", 887, 0), (44, 15, [10], "GlkPanesModel", 888, 0), (47, 16, [10], "GlkPanesModel", 889, 0), (50, 17, [10], "GlkPanesModel", 890, 0), (53, 18, [10], "GlkPanesModel", 891, 0), (56, 19, [10], "GlkPanesModel", 892, 0), (59, 20, [10], "GlkPanesModel", 893, 0), (62, 21, [10], "GlkPanesModel", 894, 0), (65, 22, [10], "GlkPanesModel", 895, 0), (68, 23, [10], "GlkPanesModel", 896, 0), (71, 24, [10], "GlkPanesModel", 897, 0), (74, 25, [10], "GlkPanesModel", 898, 0), (77, 26, [10], "GlkPanesModel", 899, 0), (80, 27, [10], "GlkPanesModel", 900, 0), (83, 28, [10], "GlkPanesModel", 901, 0), (87, 29, [10], "GlkPanesModel", 902, 0), (90, 30, [10], "GlkPanesModel", 903, 0), (93, 31, [10], "GlkPanesModel", 904, 0), (96, 32, [10], "GlkPanesModel", 905, 0), (99, 33, [10], "GlkPanesModel", 906, 0), (102, 34, [10], "GlkPanesModel", 907, 0), (105, 35, [10], "GlkPanesModel", 908, 0), (108, 36, [10], "GlkPanesModel", 909, 0), (111, 37, [10], "GlkPanesModel", 910, 0), (114, 39, [10], "GlkPanesModel", 912, 0), (117, 40, [10], "GlkPanesModel", 913, 0), (120, 43, [10], "GlkPanesModel", 916, 0), (127, 0, [10], "GlkPanesModel", 873, 0), (131, 1, [10], "GlkPanesModel", 874, 0), (138, 3, [10], "GlkPanesModel", 876, 0), (159, 2, [10], "GlkPanesModel", 875, 0), (208, 38, [10], "GlkPanesModel", 911, 0), (244, 41, [10], "GlkPanesModel", 914, 0), (253, 42, [10], "GlkPanesModel", 915, 0)]
def gF11 : List (Nat × Nat × List Nat × String × Nat × Nat) := [(9, 11, [1, 6], "GlkPanes$Writing", 216, 0), (20, 12, [1, 6], "GlkPanes$Writing", 220, 0), (24, 1, [1, 6], "GlkPanes$Writing", 232, 233), (28, 10, [1, 6], "GlkPanes$Writing", 279, 280), (35, 9, [1, 6], "GlkPanes$Writing", 275, 276), (38, 2, [2], "GlkPanes$Line", 186, 0)]
def gF12 : List (Nat × Nat × List Nat × String × Nat × Nat) := []
def gF13 : List (Nat × Nat × List Nat × String × Nat × Nat) := []
def gF14 : List (Nat × Nat × List Nat × String × Nat × Nat) := []
def gFs (o : Nat) : List (Nat × Nat × List Nat × String × Nat × Nat) := match o with
  | 0 => gF0
  | 1 => gF1
  | 2 => gF2
  | 3 => gF3
  | 4 => gF4
  | 5 => gF5
  | 6 => gF6
  | 7 => gF7
  | 8 => gF8
  | 9 => gF9
  | 10 => gF10
  | 11 => gF11
  | 12 => gF12
  | 13 => gF13
  | _ => gF14
def gFl (o idx tg : Nat) : Option Nat := match gLk idx (gFs o) with
  | none => none
  | some q => bif q.2.1.any (fun t => Nat.beq tg t) then some q.1 else none
def gFchk (o : Nat) (q : Nat × Nat × List Nat × String × Nat × Nat) (tg : Nat) : Bool := match gC[tg]? with
  | none => false
  | some r => decide (q.2.1 < r.2.2) && gH q.2.2.2.2.1 (.fieldLink (gCn o) q.1 q.2.2.2.1 (r.2.1 q.2.1).2.1 (r.2.1 q.2.1).2.2.1) && (decide ((r.2.1 q.2.1).1 = q.2.2.2.1) || gH q.2.2.2.2.2 (.sameField q.2.2.2.1 (r.2.1 q.2.1).1 (r.2.1 q.2.1).2.1 (r.2.1 q.2.1).2.2.1))
theorem gF0_k : (gF0).all (fun q => q.2.2.1.all (fun tg => gFchk 0 q tg)) = true := by decide +kernel
theorem gF1_k : (gF1).all (fun q => q.2.2.1.all (fun tg => gFchk 1 q tg)) = true := by decide +kernel
theorem gF2_k : (gF2).all (fun q => q.2.2.1.all (fun tg => gFchk 2 q tg)) = true := by decide +kernel
theorem gF3_k : (gF3).all (fun q => q.2.2.1.all (fun tg => gFchk 3 q tg)) = true := by decide +kernel
theorem gF4_k : (gF4).all (fun q => q.2.2.1.all (fun tg => gFchk 4 q tg)) = true := by decide +kernel
theorem gF5_k : (gF5).all (fun q => q.2.2.1.all (fun tg => gFchk 5 q tg)) = true := by decide +kernel
theorem gF6_k : (gF6).all (fun q => q.2.2.1.all (fun tg => gFchk 6 q tg)) = true := by decide +kernel
theorem gF7_k : (gF7).all (fun q => q.2.2.1.all (fun tg => gFchk 7 q tg)) = true := by decide +kernel
theorem gF8_k : (gF8).all (fun q => q.2.2.1.all (fun tg => gFchk 8 q tg)) = true := by decide +kernel
theorem gF9_k : (gF9).all (fun q => q.2.2.1.all (fun tg => gFchk 9 q tg)) = true := by decide +kernel
theorem gF10_k : (gF10).all (fun q => q.2.2.1.all (fun tg => gFchk 10 q tg)) = true := by decide +kernel
theorem gF11_k : (gF11).all (fun q => q.2.2.1.all (fun tg => gFchk 11 q tg)) = true := by decide +kernel
theorem gF12_k : (gF12).all (fun q => q.2.2.1.all (fun tg => gFchk 12 q tg)) = true := by decide +kernel
theorem gF13_k : (gF13).all (fun q => q.2.2.1.all (fun tg => gFchk 13 q tg)) = true := by decide +kernel
theorem gF14_k : (gF14).all (fun q => q.2.2.1.all (fun tg => gFchk 14 q tg)) = true := by decide +kernel
/-- a class's row: its name, the place of its word -/
def gK0 : List (Nat × String × Nat) := [(9, "[[I", 74)]
def gK1 : List (Nat × String × Nat) := []
def gK2 : List (Nat × String × Nat) := []
def gK3 : List (Nat × String × Nat) := []
def gK4 : List (Nat × String × Nat) := []
def gK5 : List (Nat × String × Nat) := []
def gK6 : List (Nat × String × Nat) := [(15, "GlkPanes$Wrap", 196)]
def gK7 : List (Nat × String × Nat) := [(9, "GlkPanes$Pane", 100), (66, "GlkPanes$Pair", 423), (82, "GlkPanes$Text", 162), (87, "GlkPanes$Grid", 316), (90, "GlkPanes$Picture", 350)]
def gK8 : List (Nat × String × Nat) := []
def gK9 : List (Nat × String × Nat) := [(9, "GlkPanes$Events", 68), (16, "GlkPanes$Tree", 94), (65, "GlkPanes$Pair", 549), (146, "GlkPanes$Writing", 596), (163, "GlkPanes$Grid", 648), (178, "GlkPanes$Picture", 671), (197, "GlkPanes$Text", 736)]
def gK10 : List (Nat × String × Nat) := []
def gK11 : List (Nat × String × Nat) := [(15, "GlkPanes$Line", 174)]
def gK12 : List (Nat × String × Nat) := []
def gK13 : List (Nat × String × Nat) := []
def gK14 : List (Nat × String × Nat) := [(7, "GlkPanes", 60), (18, "GlkPanesModel", 863)]
def gKs (o : Nat) : List (Nat × String × Nat) := match o with
  | 0 => gK0
  | 1 => gK1
  | 2 => gK2
  | 3 => gK3
  | 4 => gK4
  | 5 => gK5
  | 6 => gK6
  | 7 => gK7
  | 8 => gK8
  | 9 => gK9
  | 10 => gK10
  | 11 => gK11
  | 12 => gK12
  | 13 => gK13
  | _ => gK14
theorem gK_k : (List.range 15).all (fun o => (gKs o).all (fun q => gH q.2.2 (.classLink (gCn o) q.1 q.2.1))) = true := by decide +kernel
def gTag (C : String) : Option Nat := gC.findIdx? (fun r => decide (r.1 = C))
/-- what the tables say of the classes: fields, that they can be made, that they are ready -/
theorem gW0 : ∀ w ∈ u_ws "GlkPanes$Events" gT0 5, w ∈ gTs := fun w h => gH_ws [82, 84, 86, 88, 90] (by decide +kernel) w h
theorem gN0 : ∀ a, a < 5 → ∀ b, b < 5 → a ≠ b → (gT0 a).2.1 ≠ (gT0 b).2.1 := by decide +kernel
theorem gP0 : ∀ k, k < 5 → parseFieldDescriptor (gT0 k).2.2.1 = some (gY0 k) := by decide +kernel
theorem gI0 : Cond.instantiable "GlkPanes$Events" 5 ∈ gTs ∧ Cond.initialized "GlkPanes$Events" ∈ gTs := ⟨gH_in (i := 69) (by decide +kernel), gH_in (i := 46) (by decide +kernel)⟩
theorem gW1 : ∀ w ∈ u_ws "GlkPanes$Grid" gT1 16, w ∈ gTs := fun w h => gH_ws [338, 339, 340, 341, 342, 343, 344, 345, 346, 347, 348, 336, 337, 330, 332, 334] (by decide +kernel) w h
theorem gN1 : ∀ a, a < 16 → ∀ b, b < 16 → a ≠ b → (gT1 a).2.1 ≠ (gT1 b).2.1 := by decide +kernel
theorem gP1 : ∀ k, k < 16 → parseFieldDescriptor (gT1 k).2.2.1 = some (gY1 k) := by decide +kernel
theorem gI1 : Cond.instantiable "GlkPanes$Grid" 16 ∈ gTs ∧ Cond.initialized "GlkPanes$Grid" ∈ gTs := ⟨gH_in (i := 317) (by decide +kernel), gH_in (i := 55) (by decide +kernel)⟩
theorem gW2 : ∀ w ∈ u_ws "GlkPanes$Line" gT2 3, w ∈ gTs := fun w h => gH_ws [188, 190, 192] (by decide +kernel) w h
theorem gN2 : ∀ a, a < 3 → ∀ b, b < 3 → a ≠ b → (gT2 a).2.1 ≠ (gT2 b).2.1 := by decide +kernel
theorem gP2 : ∀ k, k < 3 → parseFieldDescriptor (gT2 k).2.2.1 = some (gY2 k) := by decide +kernel
theorem gI2 : Cond.instantiable "GlkPanes$Line" 3 ∈ gTs ∧ Cond.initialized "GlkPanes$Line" ∈ gTs := ⟨gH_in (i := 175) (by decide +kernel), gH_in (i := 53) (by decide +kernel)⟩
theorem gW3 : ∀ w ∈ u_ws "GlkPanes$Pair" gT3 16, w ∈ gTs := fun w h => gH_ws [500, 501, 502, 503, 504, 505, 506, 507, 508, 509, 510, 490, 492, 494, 496, 498] (by decide +kernel) w h
theorem gN3 : ∀ a, a < 16 → ∀ b, b < 16 → a ≠ b → (gT3 a).2.1 ≠ (gT3 b).2.1 := by decide +kernel
theorem gP3 : ∀ k, k < 16 → parseFieldDescriptor (gT3 k).2.2.1 = some (gY3 k) := by decide +kernel
theorem gI3 : Cond.instantiable "GlkPanes$Pair" 16 ∈ gTs ∧ Cond.initialized "GlkPanes$Pair" ∈ gTs := ⟨gH_in (i := 471) (by decide +kernel), gH_in (i := 58) (by decide +kernel)⟩
theorem gW4 : ∀ w ∈ u_ws "GlkPanes$Pane" gT4 11, w ∈ gTs := fun w h => gH_ws [374, 375, 376, 377, 378, 379, 380, 381, 382, 383, 384] (by decide +kernel) w h
theorem gN4 : ∀ a, a < 11 → ∀ b, b < 11 → a ≠ b → (gT4 a).2.1 ≠ (gT4 b).2.1 := by decide +kernel
theorem gP4 : ∀ k, k < 11 → parseFieldDescriptor (gT4 k).2.2.1 = some (gY4 k) := by decide +kernel
theorem gI4 : Cond.instantiable "GlkPanes$Pane" 11 ∈ gTs ∧ Cond.initialized "GlkPanes$Pane" ∈ gTs := ⟨gH_in (i := 372) (by decide +kernel), gH_in (i := 50) (by decide +kernel)⟩
theorem gW5 : ∀ w ∈ u_ws "GlkPanes$Picture" gT5 12, w ∈ gTs := fun w h => gH_ws [360, 361, 362, 363, 364, 365, 366, 367, 368, 369, 370, 358] (by decide +kernel) w h
theorem gN5 : ∀ a, a < 12 → ∀ b, b < 12 → a ≠ b → (gT5 a).2.1 ≠ (gT5 b).2.1 := by decide +kernel
theorem gP5 : ∀ k, k < 12 → parseFieldDescriptor (gT5 k).2.2.1 = some (gY5 k) := by decide +kernel
theorem gI5 : Cond.instantiable "GlkPanes$Picture" 12 ∈ gTs ∧ Cond.initialized "GlkPanes$Picture" ∈ gTs := ⟨gH_in (i := 351) (by decide +kernel), gH_in (i := 57) (by decide +kernel)⟩
theorem gW6 : ∀ w ∈ u_ws "GlkPanes$Text" gT6 16, w ∈ gTs := fun w h => gH_ws [293, 295, 297, 299, 301, 303, 305, 307, 309, 311, 313, 289, 291, 283, 285, 287] (by decide +kernel) w h
theorem gN6 : ∀ a, a < 16 → ∀ b, b < 16 → a ≠ b → (gT6 a).2.1 ≠ (gT6 b).2.1 := by decide +kernel
theorem gP6 : ∀ k, k < 16 → parseFieldDescriptor (gT6 k).2.2.1 = some (gY6 k) := by decide +kernel
theorem gI6 : Cond.instantiable "GlkPanes$Text" 16 ∈ gTs ∧ Cond.initialized "GlkPanes$Text" ∈ gTs := ⟨gH_in (i := 163) (by decide +kernel), gH_in (i := 52) (by decide +kernel)⟩
theorem gW7 : ∀ w ∈ u_ws "GlkPanes$Tree" gT7 5, w ∈ gTs := fun w h => gH_ws [121, 123, 125, 127, 129] (by decide +kernel) w h
theorem gN7 : ∀ a, a < 5 → ∀ b, b < 5 → a ≠ b → (gT7 a).2.1 ≠ (gT7 b).2.1 := by decide +kernel
theorem gP7 : ∀ k, k < 5 → parseFieldDescriptor (gT7 k).2.2.1 = some (gY7 k) := by decide +kernel
theorem gI7 : Cond.instantiable "GlkPanes$Tree" 5 ∈ gTs ∧ Cond.initialized "GlkPanes$Tree" ∈ gTs := ⟨gH_in (i := 95) (by decide +kernel), gH_in (i := 47) (by decide +kernel)⟩
theorem gW8 : ∀ w ∈ u_ws "GlkPanes$Wrap" gT8 3, w ∈ gTs := fun w h => gH_ws [206, 208, 210] (by decide +kernel) w h
theorem gN8 : ∀ a, a < 3 → ∀ b, b < 3 → a ≠ b → (gT8 a).2.1 ≠ (gT8 b).2.1 := by decide +kernel
theorem gP8 : ∀ k, k < 3 → parseFieldDescriptor (gT8 k).2.2.1 = some (gY8 k) := by decide +kernel
theorem gI8 : Cond.instantiable "GlkPanes$Wrap" 3 ∈ gTs ∧ Cond.initialized "GlkPanes$Wrap" ∈ gTs := ⟨gH_in (i := 197) (by decide +kernel), gH_in (i := 54) (by decide +kernel)⟩
theorem gW9 : ∀ w ∈ u_ws "GlkPanes" gT9 2, w ∈ gTs := fun w h => gH_ws [134, 136] (by decide +kernel) w h
theorem gN9 : ∀ a, a < 2 → ∀ b, b < 2 → a ≠ b → (gT9 a).2.1 ≠ (gT9 b).2.1 := by decide +kernel
theorem gP9 : ∀ k, k < 2 → parseFieldDescriptor (gT9 k).2.2.1 = some (gY9 k) := by decide +kernel
theorem gI9 : Cond.instantiable "GlkPanes" 2 ∈ gTs ∧ Cond.initialized "GlkPanes" ∈ gTs := ⟨gH_in (i := 61) (by decide +kernel), gH_in (i := 45) (by decide +kernel)⟩
theorem gW10 : ∀ w ∈ u_ws "GlkPanesModel" gT10 44, w ∈ gTs := fun w h => gH_ws [917, 919, 921, 923, 925, 927, 929, 931, 933, 935, 937, 939, 941, 943, 945, 947, 949, 951, 953, 955, 957, 959, 961, 963, 965, 967, 969, 971, 973, 975, 977, 979, 981, 983, 985, 987, 989, 991, 993, 995, 997, 999, 1001, 1003] (by decide +kernel) w h
theorem gN10 : ∀ a, a < 44 → ∀ b, b < 44 → a ≠ b → (gT10 a).2.1 ≠ (gT10 b).2.1 := by decide +kernel
theorem gP10 : ∀ k, k < 44 → parseFieldDescriptor (gT10 k).2.2.1 = some (gY10 k) := by decide +kernel
theorem gI10 : Cond.instantiable "GlkPanesModel" 44 ∈ gTs ∧ Cond.initialized "GlkPanesModel" ∈ gTs := ⟨gH_in (i := 864) (by decide +kernel), gH_in (i := 49) (by decide +kernel)⟩
/-- all that the tables say of the kind tg -/
def gKind (tg : Nat) (r : vw_C) : Prop := gC[tg]? = some r ∧ (∀ w ∈ u_ws r.1 r.2.1 r.2.2, w ∈ gTs) ∧ (∀ a, a < r.2.2 → ∀ b, b < r.2.2 → a ≠ b → (r.2.1 a).2.1 ≠ (r.2.1 b).2.1) ∧ (∀ k, k < r.2.2 → parseFieldDescriptor (r.2.1 k).2.2.1 = some (gTy tg k)) ∧ Cond.instantiable r.1 r.2.2 ∈ gTs ∧ Cond.initialized r.1 ∈ gTs
theorem gKind_of {tg : Nat} {r : vw_C} (h : gC[tg]? = some r) : gKind tg r := by
  match tg, h with
  | 0, h => cases h; exact ⟨rfl, gW0, gN0, gP0, gI0.1, gI0.2⟩
  | 1, h => cases h; exact ⟨rfl, gW1, gN1, gP1, gI1.1, gI1.2⟩
  | 2, h => cases h; exact ⟨rfl, gW2, gN2, gP2, gI2.1, gI2.2⟩
  | 3, h => cases h; exact ⟨rfl, gW3, gN3, gP3, gI3.1, gI3.2⟩
  | 4, h => cases h; exact ⟨rfl, gW4, gN4, gP4, gI4.1, gI4.2⟩
  | 5, h => cases h; exact ⟨rfl, gW5, gN5, gP5, gI5.1, gI5.2⟩
  | 6, h => cases h; exact ⟨rfl, gW6, gN6, gP6, gI6.1, gI6.2⟩
  | 7, h => cases h; exact ⟨rfl, gW7, gN7, gP7, gI7.1, gI7.2⟩
  | 8, h => cases h; exact ⟨rfl, gW8, gN8, gP8, gI8.1, gI8.2⟩
  | 9, h => cases h; exact ⟨rfl, gW9, gN9, gP9, gI9.1, gI9.2⟩
  | 10, h => cases h; exact ⟨rfl, gW10, gN10, gP10, gI10.1, gI10.2⟩
  | tg + 11, h => simp [gC] at h

section
/-! places of short lists in long ones -/
theorem ft_me {big : List Cond} {w x : Cond} (e : w = x) (h : x ∈ big) : w ∈ big := by rw [e]; exact h
theorem gw_wsX3_sizeOf : wsX3_sizeOf.all goodWord = true := by decide +kernel
theorem gw_wsX10_at : wsX10_at.all goodWord = true := by decide +kernel
theorem gw_wsX3_valueAt : wsX3_valueAt.all goodWord = true := by decide +kernel
theorem gw_wsX0_note : wsX0_note.all goodWord = true := by decide +kernel
theorem gw_wsX1_findReflections : wsX1_findReflections.all goodWord = true := by decide +kernel
theorem gw_wsX1_addGhost : wsX1_addGhost.all goodWord = true := by decide +kernel
theorem gw_wsX1_addReflection : wsX1_addReflection.all goodWord = true := by decide +kernel
theorem gw_wsX10_put : wsX10_put.all goodWord = true := by decide +kernel
theorem gw_wsX1_ghostPlace : wsX1_ghostPlace.all goodWord = true := by decide +kernel
theorem gw_wsX10_insertInto : wsX10_insertInto.all goodWord = true := by decide +kernel
theorem gw_wsX8_init : wsX8_init.all goodWord = true := by decide +kernel
theorem gw_wsX2_slotAt : wsX2_slotAt.all goodWord = true := by decide +kernel
theorem gw_wsX8_copyFrom : wsX8_copyFrom.all goodWord = true := by decide +kernel
theorem gw_wsJ9_floorMod_7cf53 : wsJ9_floorMod_7cf53.all goodWord = true := by decide +kernel
theorem gw_wsX4_reset : wsX4_reset.all goodWord = true := by decide +kernel
theorem gw_wsX10_isWithin : wsX10_isWithin.all goodWord = true := by decide +kernel
theorem gw_wsX10_removeFrom : wsX10_removeFrom.all goodWord = true := by decide +kernel
theorem gw_wsX4_attenuationUpTo : wsX4_attenuationUpTo.all goodWord = true := by decide +kernel
theorem gw_wsX4_isJoint : wsX4_isJoint.all goodWord = true := by decide +kernel
theorem gw_wsX10_quotient : wsX10_quotient.all goodWord = true := by decide +kernel
theorem gw_wsX4_init : wsX4_init.all goodWord = true := by decide +kernel
theorem gw_wsX5_readItem : wsX5_readItem.all goodWord = true := by decide +kernel
theorem gw_wsX5_wordAt : wsX5_wordAt.all goodWord = true := by decide +kernel
theorem gw_wsX5_numbersOf : wsX5_numbersOf.all goodWord = true := by decide +kernel
theorem gw_wsX5_blame : wsX5_blame.all goodWord = true := by decide +kernel
theorem gw_wsX5_nameOf : wsX5_nameOf.all goodWord = true := by decide +kernel
theorem gw_wsJ0_length_8abf5 : wsJ0_length_8abf5.all goodWord = true := by decide +kernel
theorem gw_wsX5_readNumbers : wsX5_readNumbers.all goodWord = true := by decide +kernel
theorem gw_wsX5_firstOutside : wsX5_firstOutside.all goodWord = true := by decide +kernel
theorem gw_wsX5_isAllowed : wsX5_isAllowed.all goodWord = true := by decide +kernel
theorem gw_wsX5_signAt : wsX5_signAt.all goodWord = true := by decide +kernel
theorem gw_wsX5_build : wsX5_build.all goodWord = true := by decide +kernel
theorem gw_wsX5_standsAt : wsX5_standsAt.all goodWord = true := by decide +kernel
theorem gw_wsX5_isLetter : wsX5_isLetter.all goodWord = true := by decide +kernel
theorem gw_wsJ0_charAt_5068e : wsJ0_charAt_5068e.all goodWord = true := by decide +kernel
theorem gw_wsX5_readNumber : wsX5_readNumber.all goodWord = true := by decide +kernel
theorem gw_wsX5_isInRange : wsX5_isInRange.all goodWord = true := by decide +kernel
theorem gw_wsX4_placeFits : wsX4_placeFits.all goodWord = true := by decide +kernel
theorem gw_wsX4_lossFits : wsX4_lossFits.all goodWord = true := by decide +kernel
theorem gw_wsX4_reflectionFits : wsX4_reflectionFits.all goodWord = true := by decide +kernel
theorem gw_wsX4_hasPartAt : wsX4_hasPartAt.all goodWord = true := by decide +kernel
theorem gw_wsX4_insert : wsX4_insert.all goodWord = true := by decide +kernel
theorem gw_wsX4_copyFrom : wsX4_copyFrom.all goodWord = true := by decide +kernel
theorem gw_wsX9_makeBase : wsX9_makeBase.all goodWord = true := by decide +kernel
theorem gw_wsX9_makePeaks : wsX9_makePeaks.all goodWord = true := by decide +kernel
theorem gw_wsX9_isDrawnFor : wsX9_isDrawnFor.all goodWord = true := by decide +kernel
theorem gw_wsX9_draw : wsX9_draw.all goodWord = true := by decide +kernel
theorem gw_wsX4_spreadLossAt : wsX4_spreadLossAt.all goodWord = true := by decide +kernel
theorem gw_wsX9_raise : wsX9_raise.all goodWord = true := by decide +kernel
theorem gw_wsX6_begin : wsX6_begin.all goodWord = true := by decide +kernel
theorem gw_wsX6_next : wsX6_next.all goodWord = true := by decide +kernel
theorem gw_wsX7_endFrom : wsX7_endFrom.all goodWord = true := by decide +kernel
theorem gw_wsX7_addEvent : wsX7_addEvent.all goodWord = true := by decide +kernel
theorem gw_wsX7_greatestOf : wsX7_greatestOf.all goodWord = true := by decide +kernel
theorem gw_wsX7_findMakers : wsX7_findMakers.all goodWord = true := by decide +kernel
theorem gw_wsX7_makeGhost : wsX7_makeGhost.all goodWord = true := by decide +kernel
theorem gw_wsX7_isNear : wsX7_isNear.all goodWord = true := by decide +kernel
theorem gw_wsX7_finderOf : wsX7_finderOf.all goodWord = true := by decide +kernel
theorem gw_wsX7_covering : wsX7_covering.all goodWord = true := by decide +kernel
theorem gw_wsX7_findingOf : wsX7_findingOf.all goodWord = true := by decide +kernel
theorem gw_wsX7_countFindings : wsX7_countFindings.all goodWord = true := by decide +kernel
theorem gw_wsX7_isNearJoint : wsX7_isNearJoint.all goodWord = true := by decide +kernel
theorem gw_wsX2_init : wsX2_init.all goodWord = true := by decide +kernel
theorem gw_wsX5_init : wsX5_init.all goodWord = true := by decide +kernel
theorem gw_wsX3_init : wsX3_init.all goodWord = true := by decide +kernel
theorem gw_wsX0_init : wsX0_init.all goodWord = true := by decide +kernel
theorem gw_wsX6_init : wsX6_init.all goodWord = true := by decide +kernel
theorem gw_wsX1_init : wsX1_init.all goodWord = true := by decide +kernel
theorem gw_wsX9_init : wsX9_init.all goodWord = true := by decide +kernel
theorem gw_wsX7_init : wsX7_init.all goodWord = true := by decide +kernel
theorem gw_wsX5_append : wsX5_append.all goodWord = true := by decide +kernel
theorem gw_wsX5_empty : wsX5_empty.all goodWord = true := by decide +kernel
theorem gw_wsX5_read : wsX5_read.all goodWord = true := by decide +kernel
theorem gw_wsX10_beginChange : wsX10_beginChange.all goodWord = true := by decide +kernel
theorem gw_wsX4_drop : wsX4_drop.all goodWord = true := by decide +kernel
theorem gw_wsX2_restore : wsX2_restore.all goodWord = true := by decide +kernel
theorem gw_wsX8_keptCount : wsX8_keptCount.all goodWord = true := by decide +kernel
theorem gw_wsX10_measure : wsX10_measure.all goodWord = true := by decide +kernel
theorem gw_wsX7_witnessOf : wsX7_witnessOf.all goodWord = true := by decide +kernel
theorem gw_wsX10_orNotFound : wsX10_orNotFound.all goodWord = true := by decide +kernel
theorem gw_wsX4_lossUpTo : wsX4_lossUpTo.all goodWord = true := by decide +kernel
theorem gw_wsX10_isTracePlace : wsX10_isTracePlace.all goodWord = true := by decide +kernel
theorem gw_wsX10_isQuiet : wsX10_isQuiet.all goodWord = true := by decide +kernel
theorem gw_wsX10_sum : wsX10_sum.all goodWord = true := by decide +kernel
theorem gw_wsX7_lossOfGhosts : wsX7_lossOfGhosts.all goodWord = true := by decide +kernel
theorem gw_wsX7_countOf : wsX7_countOf.all goodWord = true := by decide +kernel
theorem gw_wsX10_readLoss : wsX10_readLoss.all goodWord = true := by decide +kernel
theorem gw_wsX7_greatestLoss : wsX7_greatestLoss.all goodWord = true := by decide +kernel
theorem gw_wsX7_countUnexplained : wsX7_countUnexplained.all goodWord = true := by decide +kernel
theorem gw_wsX10_measureWith : wsX10_measureWith.all goodWord = true := by decide +kernel
theorem gw_wsX7_findsAll : wsX7_findsAll.all goodWord = true := by decide +kernel
theorem gw_wsX3_store : wsX3_store.all goodWord = true := by decide +kernel
theorem gw_wsX0_make : wsX0_make.all goodWord = true := by decide +kernel
theorem gw_wsX2_record : wsX2_record.all goodWord = true := by decide +kernel
theorem gw_wsX1_find : wsX1_find.all goodWord = true := by decide +kernel
theorem gw_wsX9_make : wsX9_make.all goodWord = true := by decide +kernel
theorem gw_wsX7_read : wsX7_read.all goodWord = true := by decide +kernel
theorem gw_wsX7_findGhosts : wsX7_findGhosts.all goodWord = true := by decide +kernel
theorem gw_wsX11_firstOf : wsX11_firstOf.all goodWord = true := by decide +kernel
theorem gw_wsX11_in : wsX11_in.all goodWord = true := by decide +kernel
theorem gw_wsX11_wordSize : wsX11_wordSize.all goodWord = true := by decide +kernel
theorem gw_wsX11_letterOf : wsX11_letterOf.all goodWord = true := by decide +kernel
theorem gw_wsX11_readsWord : wsX11_readsWord.all goodWord = true := by decide +kernel
theorem gw_wsX11_numbersOf : wsX11_numbersOf.all goodWord = true := by decide +kernel
theorem gw_wsX11_readsNumber : wsX11_readsNumber.all goodWord = true := by decide +kernel
theorem gw_wsX11_isRight : wsX11_isRight.all goodWord = true := by decide +kernel
theorem gw_wsX11_hasMadePlace : wsX11_hasMadePlace.all goodWord = true := by decide +kernel
theorem gw_wsX11_comes : wsX11_comes.all goodWord = true := by decide +kernel
theorem gw_wsX11_readsItem : wsX11_readsItem.all goodWord = true := by decide +kernel
theorem gw_wsX11_hasFault : wsX11_hasFault.all goodWord = true := by decide +kernel
theorem gw_wsX11_change : wsX11_change.all goodWord = true := by decide +kernel
theorem gw_wsX11_at : wsX11_at.all goodWord = true := by decide +kernel
theorem gw_wsX11_partAt : wsX11_partAt.all goodWord = true := by decide +kernel
theorem gw_wsX11_isPart : wsX11_isPart.all goodWord = true := by decide +kernel
theorem gw_wsX11_leastOf : wsX11_leastOf.all goodWord = true := by decide +kernel
theorem gw_wsX11_mostOf : wsX11_mostOf.all goodWord = true := by decide +kernel
theorem gw_wsX11_setting : wsX11_setting.all goodWord = true := by decide +kernel
theorem gw_wsX11_samples : wsX11_samples.all goodWord = true := by decide +kernel
theorem gw_wsX11_fadeAt : wsX11_fadeAt.all goodWord = true := by decide +kernel
theorem gw_wsX11_ghostComes : wsX11_ghostComes.all goodWord = true := by decide +kernel
theorem gw_wsJ0_coder_7d493 : wsJ0_coder_7d493.all goodWord = true := by decide +kernel
theorem gw_wsJ0_isLatin1_aae02 : wsJ0_isLatin1_aae02.all goodWord = true := by decide +kernel
theorem gw_wsJ1_charAt_3b067 : wsJ1_charAt_3b067.all goodWord = true := by decide +kernel
theorem gw_wsJ2_charAt_3b067 : wsJ2_charAt_3b067.all goodWord = true := by decide +kernel
theorem gw_wsJ3_checkIndex_8e157 : wsJ3_checkIndex_8e157.all goodWord = true := by decide +kernel
theorem gw_wsJ0_checkIndex_df160 : wsJ0_checkIndex_df160.all goodWord = true := by decide +kernel
theorem gw_wsJ2_length_9d52b : wsJ2_length_9d52b.all goodWord = true := by decide +kernel
theorem gw_wsJ2_checkIndex_2214a : wsJ2_checkIndex_2214a.all goodWord = true := by decide +kernel
theorem gw_wsJ2_getChar_3b067 : wsJ2_getChar_3b067.all goodWord = true := by decide +kernel
theorem gw_wsX11_layFlashes : wsX11_layFlashes.all goodWord = true := by decide +kernel
theorem gw_wsX11_layNoise : wsX11_layNoise.all goodWord = true := by decide +kernel
theorem gw_wsX11_peakOf : wsX11_peakOf.all goodWord = true := by decide +kernel
theorem gw_wsX11_layTrace : wsX11_layTrace.all goodWord = true := by decide +kernel
theorem gw_wsX11_v : wsX11_v.all goodWord = true := by decide +kernel
theorem gw_wsX11_sizeOf : wsX11_sizeOf.all goodWord = true := by decide +kernel
theorem gw_wsX11_endOf : wsX11_endOf.all goodWord = true := by decide +kernel
theorem gw_wsX11_hasMakers : wsX11_hasMakers.all goodWord = true := by decide +kernel
theorem gw_wsX11_eventComes : wsX11_eventComes.all goodWord = true := by decide +kernel
theorem gw_wsX11_layEvents : wsX11_layEvents.all goodWord = true := by decide +kernel
theorem gw_wsX11_eventOn : wsX11_eventOn.all goodWord = true := by decide +kernel
theorem gw_wsX11_eventNear : wsX11_eventNear.all goodWord = true := by decide +kernel
theorem gw_wsX11_stands : wsX11_stands.all goodWord = true := by decide +kernel
theorem gw_wsX11_isStrange : wsX11_isStrange.all goodWord = true := by decide +kernel
theorem gw_wsX11_standing : wsX11_standing.all goodWord = true := by decide +kernel
theorem gw_wsX10_init : wsX10_init.all goodWord = true := by decide +kernel
theorem gw_wsX11_init : wsX11_init.all goodWord = true := by decide +kernel
theorem gw_wsX10_type : wsX10_type.all goodWord = true := by decide +kernel
theorem gw_wsX11_type : wsX11_type.all goodWord = true := by decide +kernel
theorem gw_wsX10_clearText : wsX10_clearText.all goodWord = true := by decide +kernel
theorem gw_wsX11_clearText : wsX11_clearText.all goodWord = true := by decide +kernel
theorem gw_wsX10_fault : wsX10_fault.all goodWord = true := by decide +kernel
theorem gw_wsX11_fault : wsX11_fault.all goodWord = true := by decide +kernel
theorem gw_wsX10_lay : wsX10_lay.all goodWord = true := by decide +kernel
theorem gw_wsX11_lay : wsX11_lay.all goodWord = true := by decide +kernel
theorem gw_wsX10_addPart : wsX10_addPart.all goodWord = true := by decide +kernel
theorem gw_wsX11_addPart : wsX11_addPart.all goodWord = true := by decide +kernel
theorem gw_wsX10_removePart : wsX10_removePart.all goodWord = true := by decide +kernel
theorem gw_wsX11_removePart : wsX11_removePart.all goodWord = true := by decide +kernel
theorem gw_wsX10_set : wsX10_set.all goodWord = true := by decide +kernel
theorem gw_wsX11_set : wsX11_set.all goodWord = true := by decide +kernel
theorem gw_wsX10_undo : wsX10_undo.all goodWord = true := by decide +kernel
theorem gw_wsX11_undo : wsX11_undo.all goodWord = true := by decide +kernel
theorem gw_wsX10_count : wsX10_count.all goodWord = true := by decide +kernel
theorem gw_wsX11_count : wsX11_count.all goodWord = true := by decide +kernel
theorem gw_wsX10_part : wsX10_part.all goodWord = true := by decide +kernel
theorem gw_wsX11_part : wsX11_part.all goodWord = true := by decide +kernel
theorem gw_wsX10_lineLoss : wsX10_lineLoss.all goodWord = true := by decide +kernel
theorem gw_wsX11_lineLoss : wsX11_lineLoss.all goodWord = true := by decide +kernel
theorem gw_wsX10_sample : wsX10_sample.all goodWord = true := by decide +kernel
theorem gw_wsX11_sample : wsX11_sample.all goodWord = true := by decide +kernel
theorem gw_wsX10_echo : wsX10_echo.all goodWord = true := by decide +kernel
theorem gw_wsX11_echo : wsX11_echo.all goodWord = true := by decide +kernel
theorem gw_wsX10_pulsesFor : wsX10_pulsesFor.all goodWord = true := by decide +kernel
theorem gw_wsX11_pulsesFor : wsX11_pulsesFor.all goodWord = true := by decide +kernel
theorem gw_wsX10_events : wsX10_events.all goodWord = true := by decide +kernel
theorem gw_wsX11_events : wsX11_events.all goodWord = true := by decide +kernel
theorem gw_wsX10_event : wsX10_event.all goodWord = true := by decide +kernel
theorem gw_wsX11_event : wsX11_event.all goodWord = true := by decide +kernel
theorem gw_wsX10_total : wsX10_total.all goodWord = true := by decide +kernel
theorem gw_wsX11_total : wsX11_total.all goodWord = true := by decide +kernel
theorem gw_wsX10_eventAt : wsX10_eventAt.all goodWord = true := by decide +kernel
theorem gw_wsX11_eventAt : wsX11_eventAt.all goodWord = true := by decide +kernel
theorem gw_wsX10_worst : wsX10_worst.all goodWord = true := by decide +kernel
theorem gw_wsX11_worst : wsX11_worst.all goodWord = true := by decide +kernel
theorem gw_wsX10_findings : wsX10_findings.all goodWord = true := by decide +kernel
theorem gw_wsX11_findings : wsX11_findings.all goodWord = true := by decide +kernel
theorem gw_wsX10_widthFor : wsX10_widthFor.all goodWord = true := by decide +kernel
theorem gw_wsX11_widthFor : wsX11_widthFor.all goodWord = true := by decide +kernel
theorem gw_wsX10_keep : wsX10_keep.all goodWord = true := by decide +kernel
theorem gw_wsX11_keep : wsX11_keep.all goodWord = true := by decide +kernel
theorem gw_wsX10_compare : wsX10_compare.all goodWord = true := by decide +kernel
theorem gw_wsX11_compare : wsX11_compare.all goodWord = true := by decide +kernel
theorem k_wsX0_make_wsX0_make_r1 : ∀ w ∈ wsX0_make_r1, w ∈ wsX0_make := fun w h => (List.mem_cons_of_mem _ (List.mem_append_left _ (List.mem_append_left _ (List.mem_append_left _ (List.mem_append_left _ h)))))
theorem k_wsX0_make_wsX0_make_r2 : ∀ w ∈ wsX0_make_r2, w ∈ wsX0_make := fun w h => (List.mem_cons_of_mem _ (List.mem_append_left _ (List.mem_append_left _ (List.mem_append_left _ (List.mem_append_right _ h)))))
theorem k_wsX0_make_wsX30 : ∀ w ∈ wsX30, w ∈ wsX0_make := fun w h => (List.mem_cons_of_mem _ (List.mem_append_right _ h))
theorem k_wsX0_make_wsX00 : ∀ w ∈ wsX00, w ∈ wsX0_make := fun w h => (List.mem_cons_of_mem _ (List.mem_append_left _ (List.mem_append_left _ (List.mem_append_right _ h))))
theorem k_wsX1_find_wsX1_find_r1 : ∀ w ∈ wsX1_find_r1, w ∈ wsX1_find := fun w h => (List.mem_cons_of_mem _ (List.mem_append_left _ (List.mem_append_left _ (List.mem_append_left _ h))))
theorem k_wsX1_find_wsX10 : ∀ w ∈ wsX10, w ∈ wsX1_find := fun w h => (List.mem_cons_of_mem _ (List.mem_append_left _ (List.mem_append_right _ h)))
theorem k_wsX1_find_wsX40 : ∀ w ∈ wsX40, w ∈ wsX1_find := fun w h => (List.mem_cons_of_mem _ (List.mem_append_right _ h))
theorem k_wsX1_find_wsX1_find_r2 : ∀ w ∈ wsX1_find_r2, w ∈ wsX1_find := fun w h => (List.mem_cons_of_mem _ (List.mem_append_left _ (List.mem_append_left _ (List.mem_append_right _ h))))
theorem k_wsX1_findReflections_wsX10 : ∀ w ∈ wsX10, w ∈ wsX1_findReflections := fun w h => (List.mem_cons_of_mem _ (List.mem_append_left _ (List.mem_append_right _ h)))
theorem k_wsX1_addGhost_wsX10 : ∀ w ∈ wsX10, w ∈ wsX1_addGhost := fun w h => (List.mem_cons_of_mem _ (List.mem_append_right _ h))
theorem k_wsX2_init_wsX2_init_r1 : ∀ w ∈ wsX2_init_r1, w ∈ wsX2_init := fun w h => (List.mem_cons_of_mem _ (List.mem_append_left _ (List.mem_append_left _ (List.mem_append_left _ (List.mem_append_left _ h)))))
theorem k_wsX2_init_wsX2_init_r2 : ∀ w ∈ wsX2_init_r2, w ∈ wsX2_init := fun w h => (List.mem_cons_of_mem _ (List.mem_append_left _ (List.mem_append_left _ (List.mem_append_left _ (List.mem_append_right _ h)))))
theorem k_wsX2_init_wsX40 : ∀ w ∈ wsX40, w ∈ wsX2_init := fun w h => (List.mem_cons_of_mem _ (List.mem_append_right _ h))
theorem k_wsX2_init_wsX80 : ∀ w ∈ wsX80, w ∈ wsX2_init := fun w h => (List.mem_cons_of_mem _ (List.mem_append_left _ (List.mem_append_right _ h)))
theorem k_wsX2_record_wsX2_record_r1 : ∀ w ∈ wsX2_record_r1, w ∈ wsX2_record := fun w h => (List.mem_cons_of_mem _ (List.mem_append_left _ (List.mem_append_left _ (List.mem_append_left _ (List.mem_append_left _ h)))))
theorem k_wsX2_record_wsX20 : ∀ w ∈ wsX20, w ∈ wsX2_record := fun w h => (List.mem_cons_of_mem _ (List.mem_append_left _ (List.mem_append_left _ (List.mem_append_right _ h))))
theorem k_wsX2_record_wsX2_record_r2 : ∀ w ∈ wsX2_record_r2, w ∈ wsX2_record := fun w h => (List.mem_cons_of_mem _ (List.mem_append_left _ (List.mem_append_left _ (List.mem_append_left _ (List.mem_append_right _ h)))))
theorem k_wsX2_record_wsX80 : ∀ w ∈ wsX80, w ∈ wsX2_record := fun w h => (List.mem_cons_of_mem _ (List.mem_append_left _ (List.mem_append_right _ h)))
theorem k_wsX2_record_wsX40 : ∀ w ∈ wsX40, w ∈ wsX2_record := fun w h => (List.mem_cons_of_mem _ (List.mem_append_right _ h))
theorem k_wsX2_restore_wsX2_restore_r1 : ∀ w ∈ wsX2_restore_r1, w ∈ wsX2_restore := fun w h => (List.mem_cons_of_mem _ (List.mem_append_left _ (List.mem_append_left _ (List.mem_append_left _ (List.mem_append_left _ h)))))
theorem k_wsX2_restore_wsX20 : ∀ w ∈ wsX20, w ∈ wsX2_restore := fun w h => (List.mem_cons_of_mem _ (List.mem_append_left _ (List.mem_append_left _ (List.mem_append_right _ h))))
theorem k_wsX2_restore_wsX2_restore_r2 : ∀ w ∈ wsX2_restore_r2, w ∈ wsX2_restore := fun w h => (List.mem_cons_of_mem _ (List.mem_append_left _ (List.mem_append_left _ (List.mem_append_left _ (List.mem_append_right _ h)))))
theorem k_wsX2_restore_wsX80 : ∀ w ∈ wsX80, w ∈ wsX2_restore := fun w h => (List.mem_cons_of_mem _ (List.mem_append_left _ (List.mem_append_right _ h)))
theorem k_wsX2_restore_wsX40 : ∀ w ∈ wsX40, w ∈ wsX2_restore := fun w h => (List.mem_cons_of_mem _ (List.mem_append_right _ h))
theorem k_wsX4_init_wsX40 : ∀ w ∈ wsX40, w ∈ wsX4_init := fun w h => (List.mem_cons_of_mem _ (List.mem_append_right _ h))
theorem k_wsX4_lossUpTo_wsX40 : ∀ w ∈ wsX40, w ∈ wsX4_lossUpTo := fun w h => (List.mem_cons_of_mem _ (List.mem_append_right _ h))
theorem k_wsX5_init_wsX5_init_r1 : ∀ w ∈ wsX5_init_r1, w ∈ wsX5_init := fun w h => (List.mem_cons_of_mem _ (List.mem_append_left _ (List.mem_append_left _ (List.mem_append_left _ h))))
theorem k_wsX5_init_wsX5_init_r2 : ∀ w ∈ wsX5_init_r2, w ∈ wsX5_init := fun w h => (List.mem_cons_of_mem _ (List.mem_append_left _ (List.mem_append_left _ (List.mem_append_right _ h))))
theorem k_wsX5_init_wsX40 : ∀ w ∈ wsX40, w ∈ wsX5_init := fun w h => (List.mem_cons_of_mem _ (List.mem_append_right _ h))
theorem k_wsX5_read_wsX5_read_r1 : ∀ w ∈ wsX5_read_r1, w ∈ wsX5_read := fun w h => (List.mem_cons_of_mem _ (List.mem_append_left _ (List.mem_append_left _ (List.mem_append_left _ h))))
theorem k_wsX5_read_wsX40 : ∀ w ∈ wsX40, w ∈ wsX5_read := fun w h => (List.mem_cons_of_mem _ (List.mem_append_right _ h))
theorem k_wsX5_read_wsX5_read_r2 : ∀ w ∈ wsX5_read_r2, w ∈ wsX5_read := fun w h => (List.mem_cons_of_mem _ (List.mem_append_left _ (List.mem_append_left _ (List.mem_append_right _ (List.mem_append_left _ h)))))
theorem k_wsX5_read_wsX5_read_r3 : ∀ w ∈ wsX5_read_r3, w ∈ wsX5_read := fun w h => (List.mem_cons_of_mem _ (List.mem_append_left _ (List.mem_append_left _ (List.mem_append_right _ (List.mem_append_right _ (List.mem_append_left _ h))))))
theorem k_wsX5_read_wsX5_read_r4 : ∀ w ∈ wsX5_read_r4, w ∈ wsX5_read := fun w h => (List.mem_cons_of_mem _ (List.mem_append_left _ (List.mem_append_left _ (List.mem_append_right _ (List.mem_append_right _ (List.mem_append_right _ (List.mem_append_left _ h)))))))
theorem k_wsX5_read_wsX5_read_r5 : ∀ w ∈ wsX5_read_r5, w ∈ wsX5_read := fun w h => (List.mem_cons_of_mem _ (List.mem_append_left _ (List.mem_append_left _ (List.mem_append_right _ (List.mem_append_right _ (List.mem_append_right _ (List.mem_append_right _ (List.mem_append_left _ h))))))))
theorem k_wsX5_read_wsX5_read_r6 : ∀ w ∈ wsX5_read_r6, w ∈ wsX5_read := fun w h => (List.mem_cons_of_mem _ (List.mem_append_left _ (List.mem_append_left _ (List.mem_append_right _ (List.mem_append_right _ (List.mem_append_right _ (List.mem_append_right _ (List.mem_append_right _ (List.mem_append_left _ h)))))))))
theorem k_wsX5_read_wsX5_read_r7 : ∀ w ∈ wsX5_read_r7, w ∈ wsX5_read := fun w h => (List.mem_cons_of_mem _ (List.mem_append_left _ (List.mem_append_left _ (List.mem_append_right _ (List.mem_append_right _ (List.mem_append_right _ (List.mem_append_right _ (List.mem_append_right _ (List.mem_append_right _ h)))))))))
theorem k_wsX5_read_wsX50 : ∀ w ∈ wsX50, w ∈ wsX5_read := fun w h => (List.mem_cons_of_mem _ (List.mem_append_left _ (List.mem_append_right _ h)))
theorem k_wsX5_readItem_wsX5_readItem_r1 : ∀ w ∈ wsX5_readItem_r1, w ∈ wsX5_readItem := fun w h => (List.mem_cons_of_mem _ (List.mem_append_left _ (List.mem_append_left _ (List.mem_append_left _ h))))
theorem k_wsX5_readItem_wsX5_readItem_r2 : ∀ w ∈ wsX5_readItem_r2, w ∈ wsX5_readItem := fun w h => (List.mem_cons_of_mem _ (List.mem_append_left _ (List.mem_append_left _ (List.mem_append_right _ (List.mem_append_left _ h)))))
theorem k_wsX5_readItem_wsX5_readItem_r3 : ∀ w ∈ wsX5_readItem_r3, w ∈ wsX5_readItem := fun w h => (List.mem_cons_of_mem _ (List.mem_append_left _ (List.mem_append_left _ (List.mem_append_right _ (List.mem_append_right _ (List.mem_append_left _ h))))))
theorem k_wsX5_readItem_wsX5_readItem_r4 : ∀ w ∈ wsX5_readItem_r4, w ∈ wsX5_readItem := fun w h => (List.mem_cons_of_mem _ (List.mem_append_left _ (List.mem_append_left _ (List.mem_append_right _ (List.mem_append_right _ (List.mem_append_right _ (List.mem_append_left _ h)))))))
theorem k_wsX5_readItem_wsX50 : ∀ w ∈ wsX50, w ∈ wsX5_readItem := fun w h => (List.mem_cons_of_mem _ (List.mem_append_left _ (List.mem_append_right _ h)))
theorem k_wsX5_readItem_wsX5_readItem_r5 : ∀ w ∈ wsX5_readItem_r5, w ∈ wsX5_readItem := fun w h => (List.mem_cons_of_mem _ (List.mem_append_left _ (List.mem_append_left _ (List.mem_append_right _ (List.mem_append_right _ (List.mem_append_right _ (List.mem_append_right _ (List.mem_append_left _ h))))))))
theorem k_wsX5_readItem_wsX40 : ∀ w ∈ wsX40, w ∈ wsX5_readItem := fun w h => (List.mem_cons_of_mem _ (List.mem_append_right _ h))
theorem k_wsX5_readItem_wsX5_readItem_r6 : ∀ w ∈ wsX5_readItem_r6, w ∈ wsX5_readItem := fun w h => (List.mem_cons_of_mem _ (List.mem_append_left _ (List.mem_append_left _ (List.mem_append_right _ (List.mem_append_right _ (List.mem_append_right _ (List.mem_append_right _ (List.mem_append_right _ (List.mem_append_left _ h)))))))))
theorem k_wsX5_readItem_wsX5_readItem_r7 : ∀ w ∈ wsX5_readItem_r7, w ∈ wsX5_readItem := fun w h => (List.mem_cons_of_mem _ (List.mem_append_left _ (List.mem_append_left _ (List.mem_append_right _ (List.mem_append_right _ (List.mem_append_right _ (List.mem_append_right _ (List.mem_append_right _ (List.mem_append_right _ h)))))))))
theorem k_wsX5_wordAt_wsX5_wordAt_r1 : ∀ w ∈ wsX5_wordAt_r1, w ∈ wsX5_wordAt := fun w h => (List.mem_cons_of_mem _ (List.mem_append_left _ (List.mem_append_left _ h)))
theorem k_wsX5_wordAt_wsX5_wordAt_r2 : ∀ w ∈ wsX5_wordAt_r2, w ∈ wsX5_wordAt := fun w h => (List.mem_cons_of_mem _ (List.mem_append_left _ (List.mem_append_right _ (List.mem_append_left _ h))))
theorem k_wsX5_wordAt_wsX5_wordAt_r3 : ∀ w ∈ wsX5_wordAt_r3, w ∈ wsX5_wordAt := fun w h => (List.mem_cons_of_mem _ (List.mem_append_left _ (List.mem_append_right _ (List.mem_append_right _ h))))
theorem k_wsX5_wordAt_wsX50 : ∀ w ∈ wsX50, w ∈ wsX5_wordAt := fun w h => (List.mem_cons_of_mem _ (List.mem_append_right _ h))
theorem k_wsX5_standsAt_wsX5_standsAt_r1 : ∀ w ∈ wsX5_standsAt_r1, w ∈ wsX5_standsAt := fun w h => (List.mem_cons_of_mem _ (List.mem_append_left _ (List.mem_append_left _ h)))
theorem k_wsX5_standsAt_wsX50 : ∀ w ∈ wsX50, w ∈ wsX5_standsAt := fun w h => (List.mem_cons_of_mem _ (List.mem_append_right _ h))
theorem k_wsX5_standsAt_wsX5_standsAt_r2 : ∀ w ∈ wsX5_standsAt_r2, w ∈ wsX5_standsAt := fun w h => (List.mem_cons_of_mem _ (List.mem_append_left _ (List.mem_append_right _ (List.mem_append_left _ h))))
theorem k_wsX5_standsAt_wsX5_standsAt_r3 : ∀ w ∈ wsX5_standsAt_r3, w ∈ wsX5_standsAt := fun w h => (List.mem_cons_of_mem _ (List.mem_append_left _ (List.mem_append_right _ (List.mem_append_right _ h))))
theorem k_wsX5_readNumbers_wsX50 : ∀ w ∈ wsX50, w ∈ wsX5_readNumbers := fun w h => (List.mem_cons_of_mem _ (List.mem_append_right _ h))
theorem k_wsX5_readNumber_wsX50 : ∀ w ∈ wsX50, w ∈ wsX5_readNumber := fun w h => (List.mem_cons_of_mem _ (List.mem_append_right _ h))
theorem k_wsX5_firstOutside_wsX50 : ∀ w ∈ wsX50, w ∈ wsX5_firstOutside := fun w h => (List.mem_cons_of_mem _ (List.mem_append_left _ (List.mem_append_right _ h)))
theorem k_wsX5_firstOutside_wsX40 : ∀ w ∈ wsX40, w ∈ wsX5_firstOutside := fun w h => (List.mem_cons_of_mem _ (List.mem_append_right _ h))
theorem k_wsX5_isInRange_wsX40 : ∀ w ∈ wsX40, w ∈ wsX5_isInRange := fun w h => (List.mem_cons_of_mem _ (List.mem_append_right _ h))
theorem k_wsX5_isAllowed_wsX40 : ∀ w ∈ wsX40, w ∈ wsX5_isAllowed := fun w h => (List.mem_cons_of_mem _ (List.mem_append_right _ h))
theorem k_wsX5_build_wsX5_build_r1 : ∀ w ∈ wsX5_build_r1, w ∈ wsX5_build := fun w h => (List.mem_cons_of_mem _ (List.mem_append_left _ (List.mem_append_left _ (List.mem_append_left _ h))))
theorem k_wsX5_build_wsX5_build_r2 : ∀ w ∈ wsX5_build_r2, w ∈ wsX5_build := fun w h => (List.mem_cons_of_mem _ (List.mem_append_left _ (List.mem_append_left _ (List.mem_append_right _ h))))
theorem k_wsX5_build_wsX40 : ∀ w ∈ wsX40, w ∈ wsX5_build := fun w h => (List.mem_cons_of_mem _ (List.mem_append_right _ h))
theorem k_wsX8_init_wsX8_init_r1 : ∀ w ∈ wsX8_init_r1, w ∈ wsX8_init := fun w h => (List.mem_cons_of_mem _ (List.mem_append_left _ (List.mem_append_left _ (List.mem_append_left _ h))))
theorem k_wsX8_init_wsX8_init_r2 : ∀ w ∈ wsX8_init_r2, w ∈ wsX8_init := fun w h => (List.mem_cons_of_mem _ (List.mem_append_left _ (List.mem_append_left _ (List.mem_append_right _ h))))
theorem k_wsX8_init_wsX40 : ∀ w ∈ wsX40, w ∈ wsX8_init := fun w h => (List.mem_cons_of_mem _ (List.mem_append_left _ (List.mem_append_right _ h)))
theorem k_wsX8_copyFrom_wsX40 : ∀ w ∈ wsX40, w ∈ wsX8_copyFrom := fun w h => (List.mem_cons_of_mem _ (List.mem_append_right _ h))
theorem k_wsX9_make_wsX9_make_r1 : ∀ w ∈ wsX9_make_r1, w ∈ wsX9_make := fun w h => (List.mem_cons_of_mem _ (List.mem_append_left _ (List.mem_append_left _ (List.mem_append_left _ (List.mem_append_left _ (List.mem_append_left _ h))))))
theorem k_wsX9_make_wsX9_make_r2 : ∀ w ∈ wsX9_make_r2, w ∈ wsX9_make := fun w h => (List.mem_cons_of_mem _ (List.mem_append_left _ (List.mem_append_left _ (List.mem_append_left _ (List.mem_append_left _ (List.mem_append_right _ (List.mem_append_left _ h)))))))
theorem k_wsX9_make_wsX90 : ∀ w ∈ wsX90, w ∈ wsX9_make := fun w h => (List.mem_cons_of_mem _ (List.mem_append_left _ (List.mem_append_left _ (List.mem_append_right _ h))))
theorem k_wsX9_make_wsX40 : ∀ w ∈ wsX40, w ∈ wsX9_make := fun w h => (List.mem_cons_of_mem _ (List.mem_append_left _ (List.mem_append_left _ (List.mem_append_left _ (List.mem_append_right _ h)))))
theorem k_wsX9_make_wsX9_make_r3 : ∀ w ∈ wsX9_make_r3, w ∈ wsX9_make := fun w h => (List.mem_cons_of_mem _ (List.mem_append_left _ (List.mem_append_left _ (List.mem_append_left _ (List.mem_append_left _ (List.mem_append_right _ (List.mem_append_right _ (List.mem_append_left _ h))))))))
theorem k_wsX9_make_wsX10 : ∀ w ∈ wsX10, w ∈ wsX9_make := fun w h => (List.mem_cons_of_mem _ (List.mem_append_left _ (List.mem_append_right _ h)))
theorem k_wsX9_make_wsX9_make_r4 : ∀ w ∈ wsX9_make_r4, w ∈ wsX9_make := fun w h => (List.mem_cons_of_mem _ (List.mem_append_left _ (List.mem_append_left _ (List.mem_append_left _ (List.mem_append_left _ (List.mem_append_right _ (List.mem_append_right _ (List.mem_append_right _ h))))))))
theorem k_wsX9_make_wsX60 : ∀ w ∈ wsX60, w ∈ wsX9_make := fun w h => (List.mem_cons_of_mem _ (List.mem_append_right _ h))
theorem k_wsX9_makeBase_wsX9_makeBase_r1 : ∀ w ∈ wsX9_makeBase_r1, w ∈ wsX9_makeBase := fun w h => (List.mem_cons_of_mem _ (List.mem_append_left _ (List.mem_append_left _ (List.mem_append_left _ h))))
theorem k_wsX9_makeBase_wsX40 : ∀ w ∈ wsX40, w ∈ wsX9_makeBase := fun w h => (List.mem_cons_of_mem _ (List.mem_append_right _ h))
theorem k_wsX9_makeBase_wsX9_makeBase_r2 : ∀ w ∈ wsX9_makeBase_r2, w ∈ wsX9_makeBase := fun w h => (List.mem_cons_of_mem _ (List.mem_append_left _ (List.mem_append_left _ (List.mem_append_right _ h))))
theorem k_wsX9_makePeaks_wsX9_makePeaks_r1 : ∀ w ∈ wsX9_makePeaks_r1, w ∈ wsX9_makePeaks := fun w h => (List.mem_cons_of_mem _ (List.mem_append_left _ (List.mem_append_left _ (List.mem_append_left _ h))))
theorem k_wsX9_makePeaks_wsX90 : ∀ w ∈ wsX90, w ∈ wsX9_makePeaks := fun w h => (List.mem_cons_of_mem _ (List.mem_append_left _ (List.mem_append_right _ h)))
theorem k_wsX9_makePeaks_wsX9_makePeaks_r2 : ∀ w ∈ wsX9_makePeaks_r2, w ∈ wsX9_makePeaks := fun w h => (List.mem_cons_of_mem _ (List.mem_append_left _ (List.mem_append_left _ (List.mem_append_right _ h))))
theorem k_wsX9_makePeaks_wsX10 : ∀ w ∈ wsX10, w ∈ wsX9_makePeaks := fun w h => (List.mem_cons_of_mem _ (List.mem_append_right _ h))
theorem k_wsX9_draw_wsX9_draw_r1 : ∀ w ∈ wsX9_draw_r1, w ∈ wsX9_draw := fun w h => (List.mem_cons_of_mem _ (List.mem_append_left _ (List.mem_append_left _ (List.mem_append_left _ h))))
theorem k_wsX9_draw_wsX60 : ∀ w ∈ wsX60, w ∈ wsX9_draw := fun w h => (List.mem_cons_of_mem _ (List.mem_append_right _ h))
theorem k_wsX9_draw_wsX9_draw_r2 : ∀ w ∈ wsX9_draw_r2, w ∈ wsX9_draw := fun w h => (List.mem_cons_of_mem _ (List.mem_append_left _ (List.mem_append_left _ (List.mem_append_right _ h))))
theorem k_wsX7_read_wsX7_read_r1 : ∀ w ∈ wsX7_read_r1, w ∈ wsX7_read := fun w h => (List.mem_cons_of_mem _ (List.mem_append_left _ (List.mem_append_left _ h)))
theorem k_wsX7_read_wsX7_read_r2 : ∀ w ∈ wsX7_read_r2, w ∈ wsX7_read := fun w h => (List.mem_cons_of_mem _ (List.mem_append_left _ (List.mem_append_right _ h)))
theorem k_wsX7_read_wsX70 : ∀ w ∈ wsX70, w ∈ wsX7_read := fun w h => (List.mem_cons_of_mem _ (List.mem_append_right _ h))
theorem k_wsX7_findGhosts_wsX7_findGhosts_r1 : ∀ w ∈ wsX7_findGhosts_r1, w ∈ wsX7_findGhosts := fun w h => (List.mem_cons_of_mem _ (List.mem_append_left _ (List.mem_append_left _ h)))
theorem k_wsX7_findGhosts_wsX7_findGhosts_r2 : ∀ w ∈ wsX7_findGhosts_r2, w ∈ wsX7_findGhosts := fun w h => (List.mem_cons_of_mem _ (List.mem_append_left _ (List.mem_append_right _ h)))
theorem k_wsX7_findGhosts_wsX70 : ∀ w ∈ wsX70, w ∈ wsX7_findGhosts := fun w h => (List.mem_cons_of_mem _ (List.mem_append_right _ h))
theorem k_wsX7_findMakers_wsX70 : ∀ w ∈ wsX70, w ∈ wsX7_findMakers := fun w h => (List.mem_cons_of_mem _ (List.mem_append_right _ h))
theorem k_wsX7_finderOf_wsX70 : ∀ w ∈ wsX70, w ∈ wsX7_finderOf := fun w h => (List.mem_cons_of_mem _ (List.mem_append_right _ h))
theorem k_wsX7_findingOf_wsX7_findingOf_r1 : ∀ w ∈ wsX7_findingOf_r1, w ∈ wsX7_findingOf := fun w h => (List.mem_cons_of_mem _ (List.mem_append_left _ (List.mem_append_left _ (List.mem_append_left _ h))))
theorem k_wsX7_findingOf_wsX40 : ∀ w ∈ wsX40, w ∈ wsX7_findingOf := fun w h => (List.mem_cons_of_mem _ (List.mem_append_left _ (List.mem_append_right _ h)))
theorem k_wsX7_findingOf_wsX7_findingOf_r2 : ∀ w ∈ wsX7_findingOf_r2, w ∈ wsX7_findingOf := fun w h => (List.mem_cons_of_mem _ (List.mem_append_left _ (List.mem_append_left _ (List.mem_append_right _ h))))
theorem k_wsX7_findingOf_wsX70 : ∀ w ∈ wsX70, w ∈ wsX7_findingOf := fun w h => (List.mem_cons_of_mem _ (List.mem_append_right _ h))
theorem k_wsX7_witnessOf_wsX7_witnessOf_r1 : ∀ w ∈ wsX7_witnessOf_r1, w ∈ wsX7_witnessOf := fun w h => (List.mem_cons_of_mem _ (List.mem_append_left _ (List.mem_append_left _ (List.mem_append_left _ h))))
theorem k_wsX7_witnessOf_wsX7_witnessOf_r2 : ∀ w ∈ wsX7_witnessOf_r2, w ∈ wsX7_witnessOf := fun w h => (List.mem_cons_of_mem _ (List.mem_append_left _ (List.mem_append_left _ (List.mem_append_right _ h))))
theorem k_wsX7_witnessOf_wsX40 : ∀ w ∈ wsX40, w ∈ wsX7_witnessOf := fun w h => (List.mem_cons_of_mem _ (List.mem_append_left _ (List.mem_append_right _ h)))
theorem k_wsX7_witnessOf_wsX70 : ∀ w ∈ wsX70, w ∈ wsX7_witnessOf := fun w h => (List.mem_cons_of_mem _ (List.mem_append_right _ h))
theorem k_wsX7_countFindings_wsX7_countFindings_r1 : ∀ w ∈ wsX7_countFindings_r1, w ∈ wsX7_countFindings := fun w h => (List.mem_cons_of_mem _ (List.mem_append_left _ (List.mem_append_left _ (List.mem_append_left _ h))))
theorem k_wsX7_countFindings_wsX40 : ∀ w ∈ wsX40, w ∈ wsX7_countFindings := fun w h => (List.mem_cons_of_mem _ (List.mem_append_left _ (List.mem_append_right _ h)))
theorem k_wsX7_countFindings_wsX7_countFindings_r2 : ∀ w ∈ wsX7_countFindings_r2, w ∈ wsX7_countFindings := fun w h => (List.mem_cons_of_mem _ (List.mem_append_left _ (List.mem_append_left _ (List.mem_append_right _ h))))
theorem k_wsX7_countFindings_wsX70 : ∀ w ∈ wsX70, w ∈ wsX7_countFindings := fun w h => (List.mem_cons_of_mem _ (List.mem_append_right _ h))
theorem k_wsX7_findsAll_wsX7_findsAll_r1 : ∀ w ∈ wsX7_findsAll_r1, w ∈ wsX7_findsAll := fun w h => (List.mem_cons_of_mem _ (List.mem_append_left _ (List.mem_append_left _ (List.mem_append_left _ h))))
theorem k_wsX7_findsAll_wsX7_findsAll_r2 : ∀ w ∈ wsX7_findsAll_r2, w ∈ wsX7_findsAll := fun w h => (List.mem_cons_of_mem _ (List.mem_append_left _ (List.mem_append_left _ (List.mem_append_right _ h))))
theorem k_wsX7_findsAll_wsX40 : ∀ w ∈ wsX40, w ∈ wsX7_findsAll := fun w h => (List.mem_cons_of_mem _ (List.mem_append_left _ (List.mem_append_right _ h)))
theorem k_wsX7_findsAll_wsX70 : ∀ w ∈ wsX70, w ∈ wsX7_findsAll := fun w h => (List.mem_cons_of_mem _ (List.mem_append_right _ h))
theorem k_wsX7_countUnexplained_wsX7_countUnexplained_r1 : ∀ w ∈ wsX7_countUnexplained_r1, w ∈ wsX7_countUnexplained := fun w h => (List.mem_cons_of_mem _ (List.mem_append_left _ (List.mem_append_left _ (List.mem_append_left _ h))))
theorem k_wsX7_countUnexplained_wsX7_countUnexplained_r2 : ∀ w ∈ wsX7_countUnexplained_r2, w ∈ wsX7_countUnexplained := fun w h => (List.mem_cons_of_mem _ (List.mem_append_left _ (List.mem_append_left _ (List.mem_append_right _ h))))
theorem k_wsX7_countUnexplained_wsX40 : ∀ w ∈ wsX40, w ∈ wsX7_countUnexplained := fun w h => (List.mem_cons_of_mem _ (List.mem_append_right _ h))
theorem k_wsX7_countUnexplained_wsX70 : ∀ w ∈ wsX70, w ∈ wsX7_countUnexplained := fun w h => (List.mem_cons_of_mem _ (List.mem_append_left _ (List.mem_append_right _ h)))
theorem k_wsX7_isNearJoint_wsX40 : ∀ w ∈ wsX40, w ∈ wsX7_isNearJoint := fun w h => (List.mem_cons_of_mem _ (List.mem_append_left _ (List.mem_append_right _ h)))
theorem k_wsX7_isNearJoint_wsX70 : ∀ w ∈ wsX70, w ∈ wsX7_isNearJoint := fun w h => (List.mem_cons_of_mem _ (List.mem_append_right _ h))
theorem k_wsX10_init_wsX10_init_r2 : ∀ w ∈ wsX10_init_r2, w ∈ wsX10_init := fun w h => (List.mem_cons_of_mem _ (List.mem_append_left _ (List.mem_append_left _ (List.mem_append_left _ (List.mem_append_left _ (List.mem_append_left _ (List.mem_append_left _ (List.mem_append_left _ (List.mem_append_left _ (List.mem_append_left _ (List.mem_append_left _ (List.mem_append_left _ (List.mem_append_right _ (List.mem_append_left _ h))))))))))))))
theorem k_wsX10_init_wsX10_init_r1 : ∀ w ∈ wsX10_init_r1, w ∈ wsX10_init := fun w h => (List.mem_cons_of_mem _ (List.mem_append_left _ (List.mem_append_left _ (List.mem_append_left _ (List.mem_append_left _ (List.mem_append_left _ (List.mem_append_left _ (List.mem_append_left _ (List.mem_append_left _ (List.mem_append_left _ (List.mem_append_left _ (List.mem_append_left _ (List.mem_append_left _ h)))))))))))))
theorem k_wsX10_init_wsX10_init_r3 : ∀ w ∈ wsX10_init_r3, w ∈ wsX10_init := fun w h => (List.mem_cons_of_mem _ (List.mem_append_left _ (List.mem_append_left _ (List.mem_append_left _ (List.mem_append_left _ (List.mem_append_left _ (List.mem_append_left _ (List.mem_append_left _ (List.mem_append_left _ (List.mem_append_left _ (List.mem_append_left _ (List.mem_append_left _ (List.mem_append_right _ (List.mem_append_right _ (List.mem_append_left _ h)))))))))))))))
theorem k_wsX10_init_wsX40 : ∀ w ∈ wsX40, w ∈ wsX10_init := fun w h => (List.mem_cons_of_mem _ (List.mem_append_right _ h))
theorem k_wsX10_init_wsX80 : ∀ w ∈ wsX80, w ∈ wsX10_init := fun w h => (List.mem_cons_of_mem _ (List.mem_append_left _ (List.mem_append_left _ (List.mem_append_left _ (List.mem_append_left _ (List.mem_append_left _ (List.mem_append_left _ (List.mem_append_left _ (List.mem_append_left _ (List.mem_append_left _ (List.mem_append_left _ (List.mem_append_right _ h))))))))))))
theorem k_wsX10_init_wsX10_init_r4 : ∀ w ∈ wsX10_init_r4, w ∈ wsX10_init := fun w h => (List.mem_cons_of_mem _ (List.mem_append_left _ (List.mem_append_left _ (List.mem_append_left _ (List.mem_append_left _ (List.mem_append_left _ (List.mem_append_left _ (List.mem_append_left _ (List.mem_append_left _ (List.mem_append_left _ (List.mem_append_left _ (List.mem_append_left _ (List.mem_append_right _ (List.mem_append_right _ (List.mem_append_right _ (List.mem_append_left _ h))))))))))))))))
theorem k_wsX10_init_wsX20 : ∀ w ∈ wsX20, w ∈ wsX10_init := fun w h => (List.mem_cons_of_mem _ (List.mem_append_left _ (List.mem_append_left _ (List.mem_append_left _ (List.mem_append_left _ (List.mem_append_left _ (List.mem_append_left _ (List.mem_append_left _ (List.mem_append_left _ (List.mem_append_right _ h))))))))))
theorem k_wsX10_init_wsX50 : ∀ w ∈ wsX50, w ∈ wsX10_init := fun w h => (List.mem_cons_of_mem _ (List.mem_append_left _ (List.mem_append_left _ (List.mem_append_left _ (List.mem_append_left _ (List.mem_append_left _ (List.mem_append_left _ (List.mem_append_left _ (List.mem_append_right _ h)))))))))
theorem k_wsX10_init_wsX30 : ∀ w ∈ wsX30, w ∈ wsX10_init := fun w h => (List.mem_cons_of_mem _ (List.mem_append_left _ (List.mem_append_left _ (List.mem_append_left _ (List.mem_append_left _ (List.mem_append_left _ (List.mem_append_left _ (List.mem_append_right _ h))))))))
theorem k_wsX10_init_wsX10_init_r5 : ∀ w ∈ wsX10_init_r5, w ∈ wsX10_init := fun w h => (List.mem_cons_of_mem _ (List.mem_append_left _ (List.mem_append_left _ (List.mem_append_left _ (List.mem_append_left _ (List.mem_append_left _ (List.mem_append_left _ (List.mem_append_left _ (List.mem_append_left _ (List.mem_append_left _ (List.mem_append_left _ (List.mem_append_left _ (List.mem_append_right _ (List.mem_append_right _ (List.mem_append_right _ (List.mem_append_right _ (List.mem_append_left _ h)))))))))))))))))
theorem k_wsX10_init_wsX10 : ∀ w ∈ wsX10, w ∈ wsX10_init := fun w h => (List.mem_cons_of_mem _ (List.mem_append_left _ (List.mem_append_left _ (List.mem_append_left _ (List.mem_append_right _ h)))))
theorem k_wsX10_init_wsX90 : ∀ w ∈ wsX90, w ∈ wsX10_init := fun w h => (List.mem_cons_of_mem _ (List.mem_append_left _ (List.mem_append_left _ (List.mem_append_right _ h))))
theorem k_wsX10_init_wsX10_init_r6 : ∀ w ∈ wsX10_init_r6, w ∈ wsX10_init := fun w h => (List.mem_cons_of_mem _ (List.mem_append_left _ (List.mem_append_left _ (List.mem_append_left _ (List.mem_append_left _ (List.mem_append_left _ (List.mem_append_left _ (List.mem_append_left _ (List.mem_append_left _ (List.mem_append_left _ (List.mem_append_left _ (List.mem_append_left _ (List.mem_append_right _ (List.mem_append_right _ (List.mem_append_right _ (List.mem_append_right _ (List.mem_append_right _ h)))))))))))))))))
theorem k_wsX10_init_wsX70 : ∀ w ∈ wsX70, w ∈ wsX10_init := fun w h => (List.mem_cons_of_mem _ (List.mem_append_left _ (List.mem_append_right _ h)))
theorem k_wsX10_type_wsX50 : ∀ w ∈ wsX50, w ∈ wsX10_type := fun w h => (List.mem_cons_of_mem _ (List.mem_append_right _ h))
theorem k_wsX10_clearText_wsX50 : ∀ w ∈ wsX50, w ∈ wsX10_clearText := fun w h => (List.mem_cons_of_mem _ (List.mem_append_right _ h))
theorem k_wsX10_fault_wsX10_fault_r1 : ∀ w ∈ wsX10_fault_r1, w ∈ wsX10_fault := fun w h => (List.mem_cons_of_mem _ (List.mem_append_left _ (List.mem_append_left _ (List.mem_append_left _ (List.mem_append_left _ h)))))
theorem k_wsX10_fault_wsX10_fault_r2 : ∀ w ∈ wsX10_fault_r2, w ∈ wsX10_fault := fun w h => (List.mem_cons_of_mem _ (List.mem_append_left _ (List.mem_append_left _ (List.mem_append_left _ (List.mem_append_right _ (List.mem_append_left _ h))))))
theorem k_wsX10_fault_wsX10_fault_r3 : ∀ w ∈ wsX10_fault_r3, w ∈ wsX10_fault := fun w h => (List.mem_cons_of_mem _ (List.mem_append_left _ (List.mem_append_left _ (List.mem_append_left _ (List.mem_append_right _ (List.mem_append_right _ (List.mem_append_left _ h)))))))
theorem k_wsX10_fault_wsX10_fault_r4 : ∀ w ∈ wsX10_fault_r4, w ∈ wsX10_fault := fun w h => (List.mem_cons_of_mem _ (List.mem_append_left _ (List.mem_append_left _ (List.mem_append_left _ (List.mem_append_right _ (List.mem_append_right _ (List.mem_append_right _ (List.mem_append_left _ h))))))))
theorem k_wsX10_fault_wsX10_fault_r5 : ∀ w ∈ wsX10_fault_r5, w ∈ wsX10_fault := fun w h => (List.mem_cons_of_mem _ (List.mem_append_left _ (List.mem_append_left _ (List.mem_append_left _ (List.mem_append_right _ (List.mem_append_right _ (List.mem_append_right _ (List.mem_append_right _ (List.mem_append_left _ h)))))))))
theorem k_wsX10_fault_wsX10_fault_r6 : ∀ w ∈ wsX10_fault_r6, w ∈ wsX10_fault := fun w h => (List.mem_cons_of_mem _ (List.mem_append_left _ (List.mem_append_left _ (List.mem_append_left _ (List.mem_append_right _ (List.mem_append_right _ (List.mem_append_right _ (List.mem_append_right _ (List.mem_append_right _ (List.mem_append_left _ h))))))))))
theorem k_wsX10_fault_wsX10_fault_r7 : ∀ w ∈ wsX10_fault_r7, w ∈ wsX10_fault := fun w h => (List.mem_cons_of_mem _ (List.mem_append_left _ (List.mem_append_left _ (List.mem_append_left _ (List.mem_append_right _ (List.mem_append_right _ (List.mem_append_right _ (List.mem_append_right _ (List.mem_append_right _ (List.mem_append_right _ (List.mem_append_left _ h)))))))))))
theorem k_wsX10_fault_wsX10_fault_r8 : ∀ w ∈ wsX10_fault_r8, w ∈ wsX10_fault := fun w h => (List.mem_cons_of_mem _ (List.mem_append_left _ (List.mem_append_left _ (List.mem_append_left _ (List.mem_append_right _ (List.mem_append_right _ (List.mem_append_right _ (List.mem_append_right _ (List.mem_append_right _ (List.mem_append_right _ (List.mem_append_right _ h)))))))))))
theorem k_wsX10_fault_wsX50 : ∀ w ∈ wsX50, w ∈ wsX10_fault := fun w h => (List.mem_cons_of_mem _ (List.mem_append_left _ (List.mem_append_right _ h)))
theorem k_wsX10_fault_wsX40 : ∀ w ∈ wsX40, w ∈ wsX10_fault := fun w h => (List.mem_cons_of_mem _ (List.mem_append_right _ h))
theorem k_wsX10_lay_wsX10_lay_r1 : ∀ w ∈ wsX10_lay_r1, w ∈ wsX10_lay := fun w h => (List.mem_cons_of_mem _ (List.mem_append_left _ (List.mem_append_left _ (List.mem_append_left _ (List.mem_append_left _ (List.mem_append_left _ (List.mem_append_left _ h)))))))
theorem k_wsX10_lay_wsX10_lay_r2 : ∀ w ∈ wsX10_lay_r2, w ∈ wsX10_lay := fun w h => (List.mem_cons_of_mem _ (List.mem_append_left _ (List.mem_append_left _ (List.mem_append_left _ (List.mem_append_left _ (List.mem_append_left _ (List.mem_append_right _ (List.mem_append_left _ h))))))))
theorem k_wsX10_lay_wsX10_lay_r3 : ∀ w ∈ wsX10_lay_r3, w ∈ wsX10_lay := fun w h => (List.mem_cons_of_mem _ (List.mem_append_left _ (List.mem_append_left _ (List.mem_append_left _ (List.mem_append_left _ (List.mem_append_left _ (List.mem_append_right _ (List.mem_append_right _ (List.mem_append_left _ h)))))))))
theorem k_wsX10_lay_wsX10_lay_r4 : ∀ w ∈ wsX10_lay_r4, w ∈ wsX10_lay := fun w h => (List.mem_cons_of_mem _ (List.mem_append_left _ (List.mem_append_left _ (List.mem_append_left _ (List.mem_append_left _ (List.mem_append_left _ (List.mem_append_right _ (List.mem_append_right _ (List.mem_append_right _ (List.mem_append_left _ h))))))))))
theorem k_wsX10_lay_wsX10_lay_r5 : ∀ w ∈ wsX10_lay_r5, w ∈ wsX10_lay := fun w h => (List.mem_cons_of_mem _ (List.mem_append_left _ (List.mem_append_left _ (List.mem_append_left _ (List.mem_append_left _ (List.mem_append_left _ (List.mem_append_right _ (List.mem_append_right _ (List.mem_append_right _ (List.mem_append_right _ (List.mem_append_left _ h)))))))))))
theorem k_wsX10_lay_wsX10_lay_r6 : ∀ w ∈ wsX10_lay_r6, w ∈ wsX10_lay := fun w h => (List.mem_cons_of_mem _ (List.mem_append_left _ (List.mem_append_left _ (List.mem_append_left _ (List.mem_append_left _ (List.mem_append_left _ (List.mem_append_right _ (List.mem_append_right _ (List.mem_append_right _ (List.mem_append_right _ (List.mem_append_right _ (List.mem_append_left _ h))))))))))))
theorem k_wsX10_lay_wsX10_lay_r7 : ∀ w ∈ wsX10_lay_r7, w ∈ wsX10_lay := fun w h => (List.mem_cons_of_mem _ (List.mem_append_left _ (List.mem_append_left _ (List.mem_append_left _ (List.mem_append_left _ (List.mem_append_left _ (List.mem_append_right _ (List.mem_append_right _ (List.mem_append_right _ (List.mem_append_right _ (List.mem_append_right _ (List.mem_append_right _ (List.mem_append_left _ h)))))))))))))
theorem k_wsX10_lay_wsX10_lay_r8 : ∀ w ∈ wsX10_lay_r8, w ∈ wsX10_lay := fun w h => (List.mem_cons_of_mem _ (List.mem_append_left _ (List.mem_append_left _ (List.mem_append_left _ (List.mem_append_left _ (List.mem_append_left _ (List.mem_append_right _ (List.mem_append_right _ (List.mem_append_right _ (List.mem_append_right _ (List.mem_append_right _ (List.mem_append_right _ (List.mem_append_right _ (List.mem_append_left _ h))))))))))))))
theorem k_wsX10_lay_wsX50 : ∀ w ∈ wsX50, w ∈ wsX10_lay := fun w h => (List.mem_cons_of_mem _ (List.mem_append_left _ (List.mem_append_left _ (List.mem_append_left _ (List.mem_append_right _ h)))))
theorem k_wsX10_lay_wsX40 : ∀ w ∈ wsX40, w ∈ wsX10_lay := fun w h => (List.mem_cons_of_mem _ (List.mem_append_left _ (List.mem_append_right _ h)))
theorem k_wsX10_lay_wsX10_lay_r9 : ∀ w ∈ wsX10_lay_r9, w ∈ wsX10_lay := fun w h => (List.mem_cons_of_mem _ (List.mem_append_left _ (List.mem_append_left _ (List.mem_append_left _ (List.mem_append_left _ (List.mem_append_left _ (List.mem_append_right _ (List.mem_append_right _ (List.mem_append_right _ (List.mem_append_right _ (List.mem_append_right _ (List.mem_append_right _ (List.mem_append_right _ (List.mem_append_right _ h))))))))))))))
theorem k_wsX10_lay_wsX100 : ∀ w ∈ wsX100, w ∈ wsX10_lay := fun w h => (List.mem_cons_of_mem _ (List.mem_append_left _ (List.mem_append_left _ (List.mem_append_left _ (List.mem_append_left _ (List.mem_append_right _ h))))))
theorem k_wsX10_lay_wsX20 : ∀ w ∈ wsX20, w ∈ wsX10_lay := fun w h => (List.mem_cons_of_mem _ (List.mem_append_right _ h))
theorem k_wsX10_lay_wsX80 : ∀ w ∈ wsX80, w ∈ wsX10_lay := fun w h => (List.mem_cons_of_mem _ (List.mem_append_left _ (List.mem_append_left _ (List.mem_append_right _ h))))
theorem k_wsX10_addPart_wsX10_addPart_r1 : ∀ w ∈ wsX10_addPart_r1, w ∈ wsX10_addPart := fun w h => (List.mem_cons_of_mem _ (List.mem_append_left _ (List.mem_append_left _ (List.mem_append_left _ (List.mem_append_left _ (List.mem_append_left _ h))))))
theorem k_wsX10_addPart_wsX40 : ∀ w ∈ wsX40, w ∈ wsX10_addPart := fun w h => (List.mem_cons_of_mem _ (List.mem_append_left _ (List.mem_append_right _ h)))
theorem k_wsX10_addPart_wsX10_addPart_r2 : ∀ w ∈ wsX10_addPart_r2, w ∈ wsX10_addPart := fun w h => (List.mem_cons_of_mem _ (List.mem_append_left _ (List.mem_append_left _ (List.mem_append_left _ (List.mem_append_left _ (List.mem_append_right _ (List.mem_append_left _ h)))))))
theorem k_wsX10_addPart_wsX10_addPart_r3 : ∀ w ∈ wsX10_addPart_r3, w ∈ wsX10_addPart := fun w h => (List.mem_cons_of_mem _ (List.mem_append_left _ (List.mem_append_left _ (List.mem_append_left _ (List.mem_append_left _ (List.mem_append_right _ (List.mem_append_right _ (List.mem_append_left _ h))))))))
theorem k_wsX10_addPart_wsX10_addPart_r4 : ∀ w ∈ wsX10_addPart_r4, w ∈ wsX10_addPart := fun w h => (List.mem_cons_of_mem _ (List.mem_append_left _ (List.mem_append_left _ (List.mem_append_left _ (List.mem_append_left _ (List.mem_append_right _ (List.mem_append_right _ (List.mem_append_right _ h))))))))
theorem k_wsX10_addPart_wsX100 : ∀ w ∈ wsX100, w ∈ wsX10_addPart := fun w h => (List.mem_cons_of_mem _ (List.mem_append_left _ (List.mem_append_left _ (List.mem_append_left _ (List.mem_append_right _ h)))))
theorem k_wsX10_addPart_wsX20 : ∀ w ∈ wsX20, w ∈ wsX10_addPart := fun w h => (List.mem_cons_of_mem _ (List.mem_append_right _ h))
theorem k_wsX10_addPart_wsX80 : ∀ w ∈ wsX80, w ∈ wsX10_addPart := fun w h => (List.mem_cons_of_mem _ (List.mem_append_left _ (List.mem_append_left _ (List.mem_append_right _ h))))
theorem k_wsX10_removePart_wsX10_removePart_r1 : ∀ w ∈ wsX10_removePart_r1, w ∈ wsX10_removePart := fun w h => (List.mem_cons_of_mem _ (List.mem_append_left _ (List.mem_append_left _ (List.mem_append_left _ (List.mem_append_left _ (List.mem_append_left _ h))))))
theorem k_wsX10_removePart_wsX10_removePart_r2 : ∀ w ∈ wsX10_removePart_r2, w ∈ wsX10_removePart := fun w h => (List.mem_cons_of_mem _ (List.mem_append_left _ (List.mem_append_left _ (List.mem_append_left _ (List.mem_append_left _ (List.mem_append_right _ (List.mem_append_left _ h)))))))
theorem k_wsX10_removePart_wsX10_removePart_r3 : ∀ w ∈ wsX10_removePart_r3, w ∈ wsX10_removePart := fun w h => (List.mem_cons_of_mem _ (List.mem_append_left _ (List.mem_append_left _ (List.mem_append_left _ (List.mem_append_left _ (List.mem_append_right _ (List.mem_append_right _ h)))))))
theorem k_wsX10_removePart_wsX100 : ∀ w ∈ wsX100, w ∈ wsX10_removePart := fun w h => (List.mem_cons_of_mem _ (List.mem_append_left _ (List.mem_append_left _ (List.mem_append_left _ (List.mem_append_right _ h)))))
theorem k_wsX10_removePart_wsX20 : ∀ w ∈ wsX20, w ∈ wsX10_removePart := fun w h => (List.mem_cons_of_mem _ (List.mem_append_right _ h))
theorem k_wsX10_removePart_wsX80 : ∀ w ∈ wsX80, w ∈ wsX10_removePart := fun w h => (List.mem_cons_of_mem _ (List.mem_append_left _ (List.mem_append_left _ (List.mem_append_right _ h))))
theorem k_wsX10_removePart_wsX40 : ∀ w ∈ wsX40, w ∈ wsX10_removePart := fun w h => (List.mem_cons_of_mem _ (List.mem_append_left _ (List.mem_append_right _ h)))
theorem k_wsX10_set_wsX10_set_r1 : ∀ w ∈ wsX10_set_r1, w ∈ wsX10_set := fun w h => (List.mem_cons_of_mem _ (List.mem_append_left _ (List.mem_append_left _ (List.mem_append_left _ (List.mem_append_left _ (List.mem_append_left _ h))))))
theorem k_wsX10_set_wsX10_set_r2 : ∀ w ∈ wsX10_set_r2, w ∈ wsX10_set := fun w h => (List.mem_cons_of_mem _ (List.mem_append_left _ (List.mem_append_left _ (List.mem_append_left _ (List.mem_append_left _ (List.mem_append_right _ (List.mem_append_left _ h)))))))
theorem k_wsX10_set_wsX10_set_r3 : ∀ w ∈ wsX10_set_r3, w ∈ wsX10_set := fun w h => (List.mem_cons_of_mem _ (List.mem_append_left _ (List.mem_append_left _ (List.mem_append_left _ (List.mem_append_left _ (List.mem_append_right _ (List.mem_append_right _ h)))))))
theorem k_wsX10_set_wsX100 : ∀ w ∈ wsX100, w ∈ wsX10_set := fun w h => (List.mem_cons_of_mem _ (List.mem_append_left _ (List.mem_append_left _ (List.mem_append_left _ (List.mem_append_right _ h)))))
theorem k_wsX10_set_wsX20 : ∀ w ∈ wsX20, w ∈ wsX10_set := fun w h => (List.mem_cons_of_mem _ (List.mem_append_left _ (List.mem_append_right _ h)))
theorem k_wsX10_set_wsX80 : ∀ w ∈ wsX80, w ∈ wsX10_set := fun w h => (List.mem_cons_of_mem _ (List.mem_append_left _ (List.mem_append_left _ (List.mem_append_right _ h))))
theorem k_wsX10_set_wsX40 : ∀ w ∈ wsX40, w ∈ wsX10_set := fun w h => (List.mem_cons_of_mem _ (List.mem_append_right _ h))
theorem k_wsX10_undo_wsX10_undo_r1 : ∀ w ∈ wsX10_undo_r1, w ∈ wsX10_undo := fun w h => (List.mem_cons_of_mem _ (List.mem_append_left _ (List.mem_append_left _ (List.mem_append_left _ (List.mem_append_left _ (List.mem_append_left _ h))))))
theorem k_wsX10_undo_wsX10_undo_r2 : ∀ w ∈ wsX10_undo_r2, w ∈ wsX10_undo := fun w h => (List.mem_cons_of_mem _ (List.mem_append_left _ (List.mem_append_left _ (List.mem_append_left _ (List.mem_append_left _ (List.mem_append_right _ h))))))
theorem k_wsX10_undo_wsX20 : ∀ w ∈ wsX20, w ∈ wsX10_undo := fun w h => (List.mem_cons_of_mem _ (List.mem_append_left _ (List.mem_append_left _ (List.mem_append_right _ h))))
theorem k_wsX10_undo_wsX80 : ∀ w ∈ wsX80, w ∈ wsX10_undo := fun w h => (List.mem_cons_of_mem _ (List.mem_append_left _ (List.mem_append_right _ h)))
theorem k_wsX10_undo_wsX40 : ∀ w ∈ wsX40, w ∈ wsX10_undo := fun w h => (List.mem_cons_of_mem _ (List.mem_append_right _ h))
theorem k_wsX10_count_wsX10_count_r1 : ∀ w ∈ wsX10_count_r1, w ∈ wsX10_count := fun w h => (List.mem_cons_of_mem _ (List.mem_append_left _ (List.mem_append_left _ (List.mem_append_left _ (List.mem_append_left _ (List.mem_append_left _ (List.mem_append_left _ h)))))))
theorem k_wsX10_count_wsX10_count_r2 : ∀ w ∈ wsX10_count_r2, w ∈ wsX10_count := fun w h => (List.mem_cons_of_mem _ (List.mem_append_left _ (List.mem_append_left _ (List.mem_append_left _ (List.mem_append_left _ (List.mem_append_left _ (List.mem_append_right _ h)))))))
theorem k_wsX10_count_wsX80 : ∀ w ∈ wsX80, w ∈ wsX10_count := fun w h => (List.mem_cons_of_mem _ (List.mem_append_left _ (List.mem_append_left _ (List.mem_append_left _ (List.mem_append_right _ h)))))
theorem k_wsX10_part_wsX10_part_r1 : ∀ w ∈ wsX10_part_r1, w ∈ wsX10_part := fun w h => (List.mem_cons_of_mem _ (List.mem_append_left _ (List.mem_append_left _ (List.mem_append_left _ (List.mem_append_left _ (List.mem_append_left _ (List.mem_append_left _ (List.mem_append_left _ (List.mem_append_left _ h)))))))))
theorem k_wsX10_part_wsX10_part_r2 : ∀ w ∈ wsX10_part_r2, w ∈ wsX10_part := fun w h => (List.mem_cons_of_mem _ (List.mem_append_left _ (List.mem_append_left _ (List.mem_append_left _ (List.mem_append_left _ (List.mem_append_left _ (List.mem_append_left _ (List.mem_append_left _ (List.mem_append_right _ (List.mem_append_left _ h))))))))))
theorem k_wsX10_part_wsX10_part_r3 : ∀ w ∈ wsX10_part_r3, w ∈ wsX10_part := fun w h => (List.mem_cons_of_mem _ (List.mem_append_left _ (List.mem_append_left _ (List.mem_append_left _ (List.mem_append_left _ (List.mem_append_left _ (List.mem_append_left _ (List.mem_append_left _ (List.mem_append_right _ (List.mem_append_right _ (List.mem_append_left _ h)))))))))))
theorem k_wsX10_part_wsX10_part_r4 : ∀ w ∈ wsX10_part_r4, w ∈ wsX10_part := fun w h => (List.mem_cons_of_mem _ (List.mem_append_left _ (List.mem_append_left _ (List.mem_append_left _ (List.mem_append_left _ (List.mem_append_left _ (List.mem_append_left _ (List.mem_append_left _ (List.mem_append_right _ (List.mem_append_right _ (List.mem_append_right _ (List.mem_append_left _ h))))))))))))
theorem k_wsX10_part_wsX10_part_r5 : ∀ w ∈ wsX10_part_r5, w ∈ wsX10_part := fun w h => (List.mem_cons_of_mem _ (List.mem_append_left _ (List.mem_append_left _ (List.mem_append_left _ (List.mem_append_left _ (List.mem_append_left _ (List.mem_append_left _ (List.mem_append_left _ (List.mem_append_right _ (List.mem_append_right _ (List.mem_append_right _ (List.mem_append_right _ (List.mem_append_left _ h)))))))))))))
theorem k_wsX10_part_wsX10_part_r6 : ∀ w ∈ wsX10_part_r6, w ∈ wsX10_part := fun w h => (List.mem_cons_of_mem _ (List.mem_append_left _ (List.mem_append_left _ (List.mem_append_left _ (List.mem_append_left _ (List.mem_append_left _ (List.mem_append_left _ (List.mem_append_left _ (List.mem_append_right _ (List.mem_append_right _ (List.mem_append_right _ (List.mem_append_right _ (List.mem_append_right _ (List.mem_append_left _ h))))))))))))))
theorem k_wsX10_part_wsX10_part_r7 : ∀ w ∈ wsX10_part_r7, w ∈ wsX10_part := fun w h => (List.mem_cons_of_mem _ (List.mem_append_left _ (List.mem_append_left _ (List.mem_append_left _ (List.mem_append_left _ (List.mem_append_left _ (List.mem_append_left _ (List.mem_append_left _ (List.mem_append_right _ (List.mem_append_right _ (List.mem_append_right _ (List.mem_append_right _ (List.mem_append_right _ (List.mem_append_right _ (List.mem_append_left _ h)))))))))))))))
theorem k_wsX10_part_wsX10_part_r8 : ∀ w ∈ wsX10_part_r8, w ∈ wsX10_part := fun w h => (List.mem_cons_of_mem _ (List.mem_append_left _ (List.mem_append_left _ (List.mem_append_left _ (List.mem_append_left _ (List.mem_append_left _ (List.mem_append_left _ (List.mem_append_left _ (List.mem_append_right _ (List.mem_append_right _ (List.mem_append_right _ (List.mem_append_right _ (List.mem_append_right _ (List.mem_append_right _ (List.mem_append_right _ (List.mem_append_left _ h))))))))))))))))
theorem k_wsX10_part_wsX100 : ∀ w ∈ wsX100, w ∈ wsX10_part := fun w h => (List.mem_cons_of_mem _ (List.mem_append_left _ (List.mem_append_left _ (List.mem_append_left _ (List.mem_append_left _ (List.mem_append_left _ (List.mem_append_left _ (List.mem_append_right _ h))))))))
theorem k_wsX10_part_wsX80 : ∀ w ∈ wsX80, w ∈ wsX10_part := fun w h => (List.mem_cons_of_mem _ (List.mem_append_left _ (List.mem_append_left _ (List.mem_append_left _ (List.mem_append_left _ (List.mem_append_left _ (List.mem_append_right _ h)))))))
theorem k_wsX10_part_wsX90 : ∀ w ∈ wsX90, w ∈ wsX10_part := fun w h => (List.mem_cons_of_mem _ (List.mem_append_left _ (List.mem_append_left _ (List.mem_append_left _ (List.mem_append_right _ h)))))
theorem k_wsX10_part_wsX10 : ∀ w ∈ wsX10, w ∈ wsX10_part := fun w h => (List.mem_cons_of_mem _ (List.mem_append_left _ (List.mem_append_left _ (List.mem_append_right _ h))))
theorem k_wsX10_part_wsX40 : ∀ w ∈ wsX40, w ∈ wsX10_part := fun w h => (List.mem_cons_of_mem _ (List.mem_append_left _ (List.mem_append_left _ (List.mem_append_left _ (List.mem_append_left _ (List.mem_append_right _ h))))))
theorem k_wsX10_part_wsX60 : ∀ w ∈ wsX60, w ∈ wsX10_part := fun w h => (List.mem_cons_of_mem _ (List.mem_append_left _ (List.mem_append_right _ h)))
theorem k_wsX10_part_wsX70 : ∀ w ∈ wsX70, w ∈ wsX10_part := fun w h => (List.mem_cons_of_mem _ (List.mem_append_right _ h))
theorem k_wsX10_part_wsX10_part_r9 : ∀ w ∈ wsX10_part_r9, w ∈ wsX10_part := fun w h => (List.mem_cons_of_mem _ (List.mem_append_left _ (List.mem_append_left _ (List.mem_append_left _ (List.mem_append_left _ (List.mem_append_left _ (List.mem_append_left _ (List.mem_append_left _ (List.mem_append_right _ (List.mem_append_right _ (List.mem_append_right _ (List.mem_append_right _ (List.mem_append_right _ (List.mem_append_right _ (List.mem_append_right _ (List.mem_append_right _ h))))))))))))))))
theorem k_wsX10_lineLoss_wsX10_lineLoss_r1 : ∀ w ∈ wsX10_lineLoss_r1, w ∈ wsX10_lineLoss := fun w h => (List.mem_cons_of_mem _ (List.mem_append_left _ (List.mem_append_left _ (List.mem_append_left _ (List.mem_append_left _ h)))))
theorem k_wsX10_lineLoss_wsX10_lineLoss_r2 : ∀ w ∈ wsX10_lineLoss_r2, w ∈ wsX10_lineLoss := fun w h => (List.mem_cons_of_mem _ (List.mem_append_left _ (List.mem_append_left _ (List.mem_append_left _ (List.mem_append_right _ h)))))
theorem k_wsX10_lineLoss_wsX40 : ∀ w ∈ wsX40, w ∈ wsX10_lineLoss := fun w h => (List.mem_cons_of_mem _ (List.mem_append_right _ h))
theorem k_wsX10_sample_wsX10_sample_r1 : ∀ w ∈ wsX10_sample_r1, w ∈ wsX10_sample := fun w h => (List.mem_cons_of_mem _ (List.mem_append_left _ (List.mem_append_left _ (List.mem_append_left _ (List.mem_append_left _ (List.mem_append_left _ (List.mem_append_left _ (List.mem_append_left _ (List.mem_append_left _ h)))))))))
theorem k_wsX10_sample_wsX100 : ∀ w ∈ wsX100, w ∈ wsX10_sample := fun w h => (List.mem_cons_of_mem _ (List.mem_append_left _ (List.mem_append_left _ (List.mem_append_left _ (List.mem_append_left _ (List.mem_append_left _ (List.mem_append_left _ (List.mem_append_right _ h))))))))
theorem k_wsX10_sample_wsX80 : ∀ w ∈ wsX80, w ∈ wsX10_sample := fun w h => (List.mem_cons_of_mem _ (List.mem_append_left _ (List.mem_append_left _ (List.mem_append_left _ (List.mem_append_left _ (List.mem_append_right _ h))))))
theorem k_wsX10_sample_wsX40 : ∀ w ∈ wsX40, w ∈ wsX10_sample := fun w h => (List.mem_cons_of_mem _ (List.mem_append_left _ (List.mem_append_left _ (List.mem_append_left _ (List.mem_append_right _ h)))))
theorem k_wsX10_sample_wsX10_sample_r2 : ∀ w ∈ wsX10_sample_r2, w ∈ wsX10_sample := fun w h => (List.mem_cons_of_mem _ (List.mem_append_left _ (List.mem_append_left _ (List.mem_append_left _ (List.mem_append_left _ (List.mem_append_left _ (List.mem_append_left _ (List.mem_append_left _ (List.mem_append_right _ (List.mem_append_left _ h))))))))))
theorem k_wsX10_sample_wsX10_sample_r3 : ∀ w ∈ wsX10_sample_r3, w ∈ wsX10_sample := fun w h => (List.mem_cons_of_mem _ (List.mem_append_left _ (List.mem_append_left _ (List.mem_append_left _ (List.mem_append_left _ (List.mem_append_left _ (List.mem_append_left _ (List.mem_append_left _ (List.mem_append_right _ (List.mem_append_right _ (List.mem_append_left _ h)))))))))))
theorem k_wsX10_sample_wsX10_sample_r4 : ∀ w ∈ wsX10_sample_r4, w ∈ wsX10_sample := fun w h => (List.mem_cons_of_mem _ (List.mem_append_left _ (List.mem_append_left _ (List.mem_append_left _ (List.mem_append_left _ (List.mem_append_left _ (List.mem_append_left _ (List.mem_append_left _ (List.mem_append_right _ (List.mem_append_right _ (List.mem_append_right _ (List.mem_append_left _ h))))))))))))
theorem k_wsX10_sample_wsX10_sample_r5 : ∀ w ∈ wsX10_sample_r5, w ∈ wsX10_sample := fun w h => (List.mem_cons_of_mem _ (List.mem_append_left _ (List.mem_append_left _ (List.mem_append_left _ (List.mem_append_left _ (List.mem_append_left _ (List.mem_append_left _ (List.mem_append_left _ (List.mem_append_right _ (List.mem_append_right _ (List.mem_append_right _ (List.mem_append_right _ (List.mem_append_left _ h)))))))))))))
theorem k_wsX10_sample_wsX10_sample_r6 : ∀ w ∈ wsX10_sample_r6, w ∈ wsX10_sample := fun w h => (List.mem_cons_of_mem _ (List.mem_append_left _ (List.mem_append_left _ (List.mem_append_left _ (List.mem_append_left _ (List.mem_append_left _ (List.mem_append_left _ (List.mem_append_left _ (List.mem_append_right _ (List.mem_append_right _ (List.mem_append_right _ (List.mem_append_right _ (List.mem_append_right _ (List.mem_append_left _ h))))))))))))))
theorem k_wsX10_sample_wsX10_sample_r7 : ∀ w ∈ wsX10_sample_r7, w ∈ wsX10_sample := fun w h => (List.mem_cons_of_mem _ (List.mem_append_left _ (List.mem_append_left _ (List.mem_append_left _ (List.mem_append_left _ (List.mem_append_left _ (List.mem_append_left _ (List.mem_append_left _ (List.mem_append_right _ (List.mem_append_right _ (List.mem_append_right _ (List.mem_append_right _ (List.mem_append_right _ (List.mem_append_right _ (List.mem_append_left _ h)))))))))))))))
theorem k_wsX10_sample_wsX10_sample_r8 : ∀ w ∈ wsX10_sample_r8, w ∈ wsX10_sample := fun w h => (List.mem_cons_of_mem _ (List.mem_append_left _ (List.mem_append_left _ (List.mem_append_left _ (List.mem_append_left _ (List.mem_append_left _ (List.mem_append_left _ (List.mem_append_left _ (List.mem_append_right _ (List.mem_append_right _ (List.mem_append_right _ (List.mem_append_right _ (List.mem_append_right _ (List.mem_append_right _ (List.mem_append_right _ h)))))))))))))))
theorem k_wsX10_sample_wsX90 : ∀ w ∈ wsX90, w ∈ wsX10_sample := fun w h => (List.mem_cons_of_mem _ (List.mem_append_left _ (List.mem_append_left _ (List.mem_append_left _ (List.mem_append_left _ (List.mem_append_left _ (List.mem_append_right _ h)))))))
theorem k_wsX10_sample_wsX10 : ∀ w ∈ wsX10, w ∈ wsX10_sample := fun w h => (List.mem_cons_of_mem _ (List.mem_append_left _ (List.mem_append_left _ (List.mem_append_right _ h))))
theorem k_wsX10_sample_wsX60 : ∀ w ∈ wsX60, w ∈ wsX10_sample := fun w h => (List.mem_cons_of_mem _ (List.mem_append_left _ (List.mem_append_right _ h)))
theorem k_wsX10_sample_wsX70 : ∀ w ∈ wsX70, w ∈ wsX10_sample := fun w h => (List.mem_cons_of_mem _ (List.mem_append_right _ h))
theorem k_wsX10_echo_wsX10_echo_r1 : ∀ w ∈ wsX10_echo_r1, w ∈ wsX10_echo := fun w h => (List.mem_cons_of_mem _ (List.mem_append_left _ (List.mem_append_left _ (List.mem_append_left _ (List.mem_append_left _ (List.mem_append_left _ (List.mem_append_left _ (List.mem_append_left _ (List.mem_append_left _ h)))))))))
theorem k_wsX10_echo_wsX10_echo_r2 : ∀ w ∈ wsX10_echo_r2, w ∈ wsX10_echo := fun w h => (List.mem_cons_of_mem _ (List.mem_append_left _ (List.mem_append_left _ (List.mem_append_left _ (List.mem_append_left _ (List.mem_append_left _ (List.mem_append_left _ (List.mem_append_left _ (List.mem_append_right _ (List.mem_append_left _ h))))))))))
theorem k_wsX10_echo_wsX10_echo_r3 : ∀ w ∈ wsX10_echo_r3, w ∈ wsX10_echo := fun w h => (List.mem_cons_of_mem _ (List.mem_append_left _ (List.mem_append_left _ (List.mem_append_left _ (List.mem_append_left _ (List.mem_append_left _ (List.mem_append_left _ (List.mem_append_left _ (List.mem_append_right _ (List.mem_append_right _ (List.mem_append_left _ h)))))))))))
theorem k_wsX10_echo_wsX10_echo_r4 : ∀ w ∈ wsX10_echo_r4, w ∈ wsX10_echo := fun w h => (List.mem_cons_of_mem _ (List.mem_append_left _ (List.mem_append_left _ (List.mem_append_left _ (List.mem_append_left _ (List.mem_append_left _ (List.mem_append_left _ (List.mem_append_left _ (List.mem_append_right _ (List.mem_append_right _ (List.mem_append_right _ (List.mem_append_left _ h))))))))))))
theorem k_wsX10_echo_wsX10_echo_r5 : ∀ w ∈ wsX10_echo_r5, w ∈ wsX10_echo := fun w h => (List.mem_cons_of_mem _ (List.mem_append_left _ (List.mem_append_left _ (List.mem_append_left _ (List.mem_append_left _ (List.mem_append_left _ (List.mem_append_left _ (List.mem_append_left _ (List.mem_append_right _ (List.mem_append_right _ (List.mem_append_right _ (List.mem_append_right _ (List.mem_append_left _ h)))))))))))))
theorem k_wsX10_echo_wsX10_echo_r6 : ∀ w ∈ wsX10_echo_r6, w ∈ wsX10_echo := fun w h => (List.mem_cons_of_mem _ (List.mem_append_left _ (List.mem_append_left _ (List.mem_append_left _ (List.mem_append_left _ (List.mem_append_left _ (List.mem_append_left _ (List.mem_append_left _ (List.mem_append_right _ (List.mem_append_right _ (List.mem_append_right _ (List.mem_append_right _ (List.mem_append_right _ (List.mem_append_left _ h))))))))))))))
theorem k_wsX10_echo_wsX10_echo_r7 : ∀ w ∈ wsX10_echo_r7, w ∈ wsX10_echo := fun w h => (List.mem_cons_of_mem _ (List.mem_append_left _ (List.mem_append_left _ (List.mem_append_left _ (List.mem_append_left _ (List.mem_append_left _ (List.mem_append_left _ (List.mem_append_left _ (List.mem_append_right _ (List.mem_append_right _ (List.mem_append_right _ (List.mem_append_right _ (List.mem_append_right _ (List.mem_append_right _ (List.mem_append_left _ h)))))))))))))))
theorem k_wsX10_echo_wsX10_echo_r8 : ∀ w ∈ wsX10_echo_r8, w ∈ wsX10_echo := fun w h => (List.mem_cons_of_mem _ (List.mem_append_left _ (List.mem_append_left _ (List.mem_append_left _ (List.mem_append_left _ (List.mem_append_left _ (List.mem_append_left _ (List.mem_append_left _ (List.mem_append_right _ (List.mem_append_right _ (List.mem_append_right _ (List.mem_append_right _ (List.mem_append_right _ (List.mem_append_right _ (List.mem_append_right _ h)))))))))))))))
theorem k_wsX10_echo_wsX100 : ∀ w ∈ wsX100, w ∈ wsX10_echo := fun w h => (List.mem_cons_of_mem _ (List.mem_append_left _ (List.mem_append_left _ (List.mem_append_left _ (List.mem_append_left _ (List.mem_append_left _ (List.mem_append_left _ (List.mem_append_right _ h))))))))
theorem k_wsX10_echo_wsX80 : ∀ w ∈ wsX80, w ∈ wsX10_echo := fun w h => (List.mem_cons_of_mem _ (List.mem_append_left _ (List.mem_append_left _ (List.mem_append_left _ (List.mem_append_left _ (List.mem_append_right _ h))))))
theorem k_wsX10_echo_wsX90 : ∀ w ∈ wsX90, w ∈ wsX10_echo := fun w h => (List.mem_cons_of_mem _ (List.mem_append_left _ (List.mem_append_left _ (List.mem_append_left _ (List.mem_append_right _ h)))))
theorem k_wsX10_echo_wsX10 : ∀ w ∈ wsX10, w ∈ wsX10_echo := fun w h => (List.mem_cons_of_mem _ (List.mem_append_left _ (List.mem_append_left _ (List.mem_append_left _ (List.mem_append_left _ (List.mem_append_left _ (List.mem_append_right _ h)))))))
theorem k_wsX10_echo_wsX40 : ∀ w ∈ wsX40, w ∈ wsX10_echo := fun w h => (List.mem_cons_of_mem _ (List.mem_append_left _ (List.mem_append_left _ (List.mem_append_right _ h))))
theorem k_wsX10_echo_wsX60 : ∀ w ∈ wsX60, w ∈ wsX10_echo := fun w h => (List.mem_cons_of_mem _ (List.mem_append_left _ (List.mem_append_right _ h)))
theorem k_wsX10_echo_wsX70 : ∀ w ∈ wsX70, w ∈ wsX10_echo := fun w h => (List.mem_cons_of_mem _ (List.mem_append_right _ h))
theorem k_wsX10_pulsesFor_wsX10_pulsesFor_r1 : ∀ w ∈ wsX10_pulsesFor_r1, w ∈ wsX10_pulsesFor := fun w h => (List.mem_cons_of_mem _ (List.mem_append_left _ (List.mem_append_left _ (List.mem_append_left _ (List.mem_append_left _ (List.mem_append_left _ h))))))
theorem k_wsX10_pulsesFor_wsX10_pulsesFor_r2 : ∀ w ∈ wsX10_pulsesFor_r2, w ∈ wsX10_pulsesFor := fun w h => (List.mem_cons_of_mem _ (List.mem_append_left _ (List.mem_append_left _ (List.mem_append_left _ (List.mem_append_left _ (List.mem_append_right _ h))))))
theorem k_wsX10_pulsesFor_wsX100 : ∀ w ∈ wsX100, w ∈ wsX10_pulsesFor := fun w h => (List.mem_cons_of_mem _ (List.mem_append_left _ (List.mem_append_left _ (List.mem_append_left _ (List.mem_append_right _ h)))))
theorem k_wsX10_pulsesFor_wsX80 : ∀ w ∈ wsX80, w ∈ wsX10_pulsesFor := fun w h => (List.mem_cons_of_mem _ (List.mem_append_left _ (List.mem_append_left _ (List.mem_append_right _ h))))
theorem k_wsX10_pulsesFor_wsX40 : ∀ w ∈ wsX40, w ∈ wsX10_pulsesFor := fun w h => (List.mem_cons_of_mem _ (List.mem_append_left _ (List.mem_append_right _ h)))
theorem k_wsX10_pulsesFor_wsX60 : ∀ w ∈ wsX60, w ∈ wsX10_pulsesFor := fun w h => (List.mem_cons_of_mem _ (List.mem_append_right _ h))
theorem k_wsX10_events_wsX10_events_r1 : ∀ w ∈ wsX10_events_r1, w ∈ wsX10_events := fun w h => (List.mem_cons_of_mem _ (List.mem_append_left _ (List.mem_append_left _ (List.mem_append_left _ (List.mem_append_left _ (List.mem_append_left _ (List.mem_append_left _ (List.mem_append_left _ (List.mem_append_left _ h)))))))))
theorem k_wsX10_events_wsX10_events_r2 : ∀ w ∈ wsX10_events_r2, w ∈ wsX10_events := fun w h => (List.mem_cons_of_mem _ (List.mem_append_left _ (List.mem_append_left _ (List.mem_append_left _ (List.mem_append_left _ (List.mem_append_left _ (List.mem_append_left _ (List.mem_append_left _ (List.mem_append_right _ (List.mem_append_left _ h))))))))))
theorem k_wsX10_events_wsX10_events_r3 : ∀ w ∈ wsX10_events_r3, w ∈ wsX10_events := fun w h => (List.mem_cons_of_mem _ (List.mem_append_left _ (List.mem_append_left _ (List.mem_append_left _ (List.mem_append_left _ (List.mem_append_left _ (List.mem_append_left _ (List.mem_append_left _ (List.mem_append_right _ (List.mem_append_right _ (List.mem_append_left _ h)))))))))))
theorem k_wsX10_events_wsX10_events_r4 : ∀ w ∈ wsX10_events_r4, w ∈ wsX10_events := fun w h => (List.mem_cons_of_mem _ (List.mem_append_left _ (List.mem_append_left _ (List.mem_append_left _ (List.mem_append_left _ (List.mem_append_left _ (List.mem_append_left _ (List.mem_append_left _ (List.mem_append_right _ (List.mem_append_right _ (List.mem_append_right _ (List.mem_append_left _ h))))))))))))
theorem k_wsX10_events_wsX10_events_r5 : ∀ w ∈ wsX10_events_r5, w ∈ wsX10_events := fun w h => (List.mem_cons_of_mem _ (List.mem_append_left _ (List.mem_append_left _ (List.mem_append_left _ (List.mem_append_left _ (List.mem_append_left _ (List.mem_append_left _ (List.mem_append_left _ (List.mem_append_right _ (List.mem_append_right _ (List.mem_append_right _ (List.mem_append_right _ (List.mem_append_left _ h)))))))))))))
theorem k_wsX10_events_wsX10_events_r6 : ∀ w ∈ wsX10_events_r6, w ∈ wsX10_events := fun w h => (List.mem_cons_of_mem _ (List.mem_append_left _ (List.mem_append_left _ (List.mem_append_left _ (List.mem_append_left _ (List.mem_append_left _ (List.mem_append_left _ (List.mem_append_left _ (List.mem_append_right _ (List.mem_append_right _ (List.mem_append_right _ (List.mem_append_right _ (List.mem_append_right _ (List.mem_append_left _ h))))))))))))))
theorem k_wsX10_events_wsX10_events_r7 : ∀ w ∈ wsX10_events_r7, w ∈ wsX10_events := fun w h => (List.mem_cons_of_mem _ (List.mem_append_left _ (List.mem_append_left _ (List.mem_append_left _ (List.mem_append_left _ (List.mem_append_left _ (List.mem_append_left _ (List.mem_append_left _ (List.mem_append_right _ (List.mem_append_right _ (List.mem_append_right _ (List.mem_append_right _ (List.mem_append_right _ (List.mem_append_right _ (List.mem_append_left _ h)))))))))))))))
theorem k_wsX10_events_wsX10_events_r8 : ∀ w ∈ wsX10_events_r8, w ∈ wsX10_events := fun w h => (List.mem_cons_of_mem _ (List.mem_append_left _ (List.mem_append_left _ (List.mem_append_left _ (List.mem_append_left _ (List.mem_append_left _ (List.mem_append_left _ (List.mem_append_left _ (List.mem_append_right _ (List.mem_append_right _ (List.mem_append_right _ (List.mem_append_right _ (List.mem_append_right _ (List.mem_append_right _ (List.mem_append_right _ h)))))))))))))))
theorem k_wsX10_events_wsX100 : ∀ w ∈ wsX100, w ∈ wsX10_events := fun w h => (List.mem_cons_of_mem _ (List.mem_append_left _ (List.mem_append_left _ (List.mem_append_left _ (List.mem_append_left _ (List.mem_append_left _ (List.mem_append_left _ (List.mem_append_right _ h))))))))
theorem k_wsX10_events_wsX80 : ∀ w ∈ wsX80, w ∈ wsX10_events := fun w h => (List.mem_cons_of_mem _ (List.mem_append_left _ (List.mem_append_left _ (List.mem_append_left _ (List.mem_append_left _ (List.mem_append_right _ h))))))
theorem k_wsX10_events_wsX90 : ∀ w ∈ wsX90, w ∈ wsX10_events := fun w h => (List.mem_cons_of_mem _ (List.mem_append_left _ (List.mem_append_left _ (List.mem_append_left _ (List.mem_append_right _ h)))))
theorem k_wsX10_events_wsX10 : ∀ w ∈ wsX10, w ∈ wsX10_events := fun w h => (List.mem_cons_of_mem _ (List.mem_append_left _ (List.mem_append_left _ (List.mem_append_right _ h))))
theorem k_wsX10_events_wsX40 : ∀ w ∈ wsX40, w ∈ wsX10_events := fun w h => (List.mem_cons_of_mem _ (List.mem_append_left _ (List.mem_append_right _ h)))
theorem k_wsX10_events_wsX60 : ∀ w ∈ wsX60, w ∈ wsX10_events := fun w h => (List.mem_cons_of_mem _ (List.mem_append_right _ h))
theorem k_wsX10_events_wsX70 : ∀ w ∈ wsX70, w ∈ wsX10_events := fun w h => (List.mem_cons_of_mem _ (List.mem_append_left _ (List.mem_append_left _ (List.mem_append_left _ (List.mem_append_left _ (List.mem_append_left _ (List.mem_append_right _ h)))))))
theorem k_wsX10_event_wsX10_event_r1 : ∀ w ∈ wsX10_event_r1, w ∈ wsX10_event := fun w h => (List.mem_cons_of_mem _ (List.mem_append_left _ (List.mem_append_left _ (List.mem_append_left _ (List.mem_append_left _ (List.mem_append_left _ (List.mem_append_left _ (List.mem_append_left _ (List.mem_append_left _ h)))))))))
theorem k_wsX10_event_wsX10_event_r2 : ∀ w ∈ wsX10_event_r2, w ∈ wsX10_event := fun w h => (List.mem_cons_of_mem _ (List.mem_append_left _ (List.mem_append_left _ (List.mem_append_left _ (List.mem_append_left _ (List.mem_append_left _ (List.mem_append_left _ (List.mem_append_left _ (List.mem_append_right _ (List.mem_append_left _ h))))))))))
theorem k_wsX10_event_wsX10_event_r3 : ∀ w ∈ wsX10_event_r3, w ∈ wsX10_event := fun w h => (List.mem_cons_of_mem _ (List.mem_append_left _ (List.mem_append_left _ (List.mem_append_left _ (List.mem_append_left _ (List.mem_append_left _ (List.mem_append_left _ (List.mem_append_left _ (List.mem_append_right _ (List.mem_append_right _ (List.mem_append_left _ h)))))))))))
theorem k_wsX10_event_wsX10_event_r4 : ∀ w ∈ wsX10_event_r4, w ∈ wsX10_event := fun w h => (List.mem_cons_of_mem _ (List.mem_append_left _ (List.mem_append_left _ (List.mem_append_left _ (List.mem_append_left _ (List.mem_append_left _ (List.mem_append_left _ (List.mem_append_left _ (List.mem_append_right _ (List.mem_append_right _ (List.mem_append_right _ (List.mem_append_left _ h))))))))))))
theorem k_wsX10_event_wsX10_event_r5 : ∀ w ∈ wsX10_event_r5, w ∈ wsX10_event := fun w h => (List.mem_cons_of_mem _ (List.mem_append_left _ (List.mem_append_left _ (List.mem_append_left _ (List.mem_append_left _ (List.mem_append_left _ (List.mem_append_left _ (List.mem_append_left _ (List.mem_append_right _ (List.mem_append_right _ (List.mem_append_right _ (List.mem_append_right _ (List.mem_append_left _ h)))))))))))))
theorem k_wsX10_event_wsX10_event_r6 : ∀ w ∈ wsX10_event_r6, w ∈ wsX10_event := fun w h => (List.mem_cons_of_mem _ (List.mem_append_left _ (List.mem_append_left _ (List.mem_append_left _ (List.mem_append_left _ (List.mem_append_left _ (List.mem_append_left _ (List.mem_append_left _ (List.mem_append_right _ (List.mem_append_right _ (List.mem_append_right _ (List.mem_append_right _ (List.mem_append_right _ (List.mem_append_left _ h))))))))))))))
theorem k_wsX10_event_wsX10_event_r7 : ∀ w ∈ wsX10_event_r7, w ∈ wsX10_event := fun w h => (List.mem_cons_of_mem _ (List.mem_append_left _ (List.mem_append_left _ (List.mem_append_left _ (List.mem_append_left _ (List.mem_append_left _ (List.mem_append_left _ (List.mem_append_left _ (List.mem_append_right _ (List.mem_append_right _ (List.mem_append_right _ (List.mem_append_right _ (List.mem_append_right _ (List.mem_append_right _ (List.mem_append_left _ h)))))))))))))))
theorem k_wsX10_event_wsX10_event_r8 : ∀ w ∈ wsX10_event_r8, w ∈ wsX10_event := fun w h => (List.mem_cons_of_mem _ (List.mem_append_left _ (List.mem_append_left _ (List.mem_append_left _ (List.mem_append_left _ (List.mem_append_left _ (List.mem_append_left _ (List.mem_append_left _ (List.mem_append_right _ (List.mem_append_right _ (List.mem_append_right _ (List.mem_append_right _ (List.mem_append_right _ (List.mem_append_right _ (List.mem_append_right _ (List.mem_append_left _ h))))))))))))))))
theorem k_wsX10_event_wsX100 : ∀ w ∈ wsX100, w ∈ wsX10_event := fun w h => (List.mem_cons_of_mem _ (List.mem_append_left _ (List.mem_append_left _ (List.mem_append_left _ (List.mem_append_left _ (List.mem_append_left _ (List.mem_append_left _ (List.mem_append_right _ h))))))))
theorem k_wsX10_event_wsX80 : ∀ w ∈ wsX80, w ∈ wsX10_event := fun w h => (List.mem_cons_of_mem _ (List.mem_append_left _ (List.mem_append_left _ (List.mem_append_left _ (List.mem_append_left _ (List.mem_append_right _ h))))))
theorem k_wsX10_event_wsX90 : ∀ w ∈ wsX90, w ∈ wsX10_event := fun w h => (List.mem_cons_of_mem _ (List.mem_append_left _ (List.mem_append_left _ (List.mem_append_left _ (List.mem_append_right _ h)))))
theorem k_wsX10_event_wsX10 : ∀ w ∈ wsX10, w ∈ wsX10_event := fun w h => (List.mem_cons_of_mem _ (List.mem_append_left _ (List.mem_append_left _ (List.mem_append_right _ h))))
theorem k_wsX10_event_wsX40 : ∀ w ∈ wsX40, w ∈ wsX10_event := fun w h => (List.mem_cons_of_mem _ (List.mem_append_left _ (List.mem_append_right _ h)))
theorem k_wsX10_event_wsX60 : ∀ w ∈ wsX60, w ∈ wsX10_event := fun w h => (List.mem_cons_of_mem _ (List.mem_append_right _ h))
theorem k_wsX10_event_wsX70 : ∀ w ∈ wsX70, w ∈ wsX10_event := fun w h => (List.mem_cons_of_mem _ (List.mem_append_left _ (List.mem_append_left _ (List.mem_append_left _ (List.mem_append_left _ (List.mem_append_left _ (List.mem_append_right _ h)))))))
theorem k_wsX10_event_wsX10_event_r9 : ∀ w ∈ wsX10_event_r9, w ∈ wsX10_event := fun w h => (List.mem_cons_of_mem _ (List.mem_append_left _ (List.mem_append_left _ (List.mem_append_left _ (List.mem_append_left _ (List.mem_append_left _ (List.mem_append_left _ (List.mem_append_left _ (List.mem_append_right _ (List.mem_append_right _ (List.mem_append_right _ (List.mem_append_right _ (List.mem_append_right _ (List.mem_append_right _ (List.mem_append_right _ (List.mem_append_right _ h))))))))))))))))
theorem k_wsX10_total_wsX10_total_r1 : ∀ w ∈ wsX10_total_r1, w ∈ wsX10_total := fun w h => (List.mem_cons_of_mem _ (List.mem_append_left _ (List.mem_append_left _ (List.mem_append_left _ (List.mem_append_left _ (List.mem_append_left _ (List.mem_append_left _ (List.mem_append_left _ (List.mem_append_left _ h)))))))))
theorem k_wsX10_total_wsX10_total_r2 : ∀ w ∈ wsX10_total_r2, w ∈ wsX10_total := fun w h => (List.mem_cons_of_mem _ (List.mem_append_left _ (List.mem_append_left _ (List.mem_append_left _ (List.mem_append_left _ (List.mem_append_left _ (List.mem_append_left _ (List.mem_append_left _ (List.mem_append_right _ (List.mem_append_left _ h))))))))))
theorem k_wsX10_total_wsX10_total_r3 : ∀ w ∈ wsX10_total_r3, w ∈ wsX10_total := fun w h => (List.mem_cons_of_mem _ (List.mem_append_left _ (List.mem_append_left _ (List.mem_append_left _ (List.mem_append_left _ (List.mem_append_left _ (List.mem_append_left _ (List.mem_append_left _ (List.mem_append_right _ (List.mem_append_right _ (List.mem_append_left _ h)))))))))))
theorem k_wsX10_total_wsX10_total_r4 : ∀ w ∈ wsX10_total_r4, w ∈ wsX10_total := fun w h => (List.mem_cons_of_mem _ (List.mem_append_left _ (List.mem_append_left _ (List.mem_append_left _ (List.mem_append_left _ (List.mem_append_left _ (List.mem_append_left _ (List.mem_append_left _ (List.mem_append_right _ (List.mem_append_right _ (List.mem_append_right _ (List.mem_append_left _ h))))))))))))
theorem k_wsX10_total_wsX10_total_r5 : ∀ w ∈ wsX10_total_r5, w ∈ wsX10_total := fun w h => (List.mem_cons_of_mem _ (List.mem_append_left _ (List.mem_append_left _ (List.mem_append_left _ (List.mem_append_left _ (List.mem_append_left _ (List.mem_append_left _ (List.mem_append_left _ (List.mem_append_right _ (List.mem_append_right _ (List.mem_append_right _ (List.mem_append_right _ (List.mem_append_left _ h)))))))))))))
theorem k_wsX10_total_wsX10_total_r6 : ∀ w ∈ wsX10_total_r6, w ∈ wsX10_total := fun w h => (List.mem_cons_of_mem _ (List.mem_append_left _ (List.mem_append_left _ (List.mem_append_left _ (List.mem_append_left _ (List.mem_append_left _ (List.mem_append_left _ (List.mem_append_left _ (List.mem_append_right _ (List.mem_append_right _ (List.mem_append_right _ (List.mem_append_right _ (List.mem_append_right _ (List.mem_append_left _ h))))))))))))))
theorem k_wsX10_total_wsX10_total_r7 : ∀ w ∈ wsX10_total_r7, w ∈ wsX10_total := fun w h => (List.mem_cons_of_mem _ (List.mem_append_left _ (List.mem_append_left _ (List.mem_append_left _ (List.mem_append_left _ (List.mem_append_left _ (List.mem_append_left _ (List.mem_append_left _ (List.mem_append_right _ (List.mem_append_right _ (List.mem_append_right _ (List.mem_append_right _ (List.mem_append_right _ (List.mem_append_right _ (List.mem_append_left _ h)))))))))))))))
theorem k_wsX10_total_wsX10_total_r8 : ∀ w ∈ wsX10_total_r8, w ∈ wsX10_total := fun w h => (List.mem_cons_of_mem _ (List.mem_append_left _ (List.mem_append_left _ (List.mem_append_left _ (List.mem_append_left _ (List.mem_append_left _ (List.mem_append_left _ (List.mem_append_left _ (List.mem_append_right _ (List.mem_append_right _ (List.mem_append_right _ (List.mem_append_right _ (List.mem_append_right _ (List.mem_append_right _ (List.mem_append_right _ (List.mem_append_left _ h))))))))))))))))
theorem k_wsX10_total_wsX100 : ∀ w ∈ wsX100, w ∈ wsX10_total := fun w h => (List.mem_cons_of_mem _ (List.mem_append_left _ (List.mem_append_left _ (List.mem_append_left _ (List.mem_append_left _ (List.mem_append_left _ (List.mem_append_left _ (List.mem_append_right _ h))))))))
theorem k_wsX10_total_wsX80 : ∀ w ∈ wsX80, w ∈ wsX10_total := fun w h => (List.mem_cons_of_mem _ (List.mem_append_left _ (List.mem_append_left _ (List.mem_append_left _ (List.mem_append_left _ (List.mem_append_right _ h))))))
theorem k_wsX10_total_wsX90 : ∀ w ∈ wsX90, w ∈ wsX10_total := fun w h => (List.mem_cons_of_mem _ (List.mem_append_left _ (List.mem_append_left _ (List.mem_append_left _ (List.mem_append_right _ h)))))
theorem k_wsX10_total_wsX10 : ∀ w ∈ wsX10, w ∈ wsX10_total := fun w h => (List.mem_cons_of_mem _ (List.mem_append_left _ (List.mem_append_left _ (List.mem_append_right _ h))))
theorem k_wsX10_total_wsX40 : ∀ w ∈ wsX40, w ∈ wsX10_total := fun w h => (List.mem_cons_of_mem _ (List.mem_append_left _ (List.mem_append_right _ h)))
theorem k_wsX10_total_wsX60 : ∀ w ∈ wsX60, w ∈ wsX10_total := fun w h => (List.mem_cons_of_mem _ (List.mem_append_right _ h))
theorem k_wsX10_total_wsX70 : ∀ w ∈ wsX70, w ∈ wsX10_total := fun w h => (List.mem_cons_of_mem _ (List.mem_append_left _ (List.mem_append_left _ (List.mem_append_left _ (List.mem_append_left _ (List.mem_append_left _ (List.mem_append_right _ h)))))))
theorem k_wsX10_total_wsX10_total_r9 : ∀ w ∈ wsX10_total_r9, w ∈ wsX10_total := fun w h => (List.mem_cons_of_mem _ (List.mem_append_left _ (List.mem_append_left _ (List.mem_append_left _ (List.mem_append_left _ (List.mem_append_left _ (List.mem_append_left _ (List.mem_append_left _ (List.mem_append_right _ (List.mem_append_right _ (List.mem_append_right _ (List.mem_append_right _ (List.mem_append_right _ (List.mem_append_right _ (List.mem_append_right _ (List.mem_append_right _ h))))))))))))))))
theorem k_wsX10_eventAt_wsX10_eventAt_r1 : ∀ w ∈ wsX10_eventAt_r1, w ∈ wsX10_eventAt := fun w h => (List.mem_cons_of_mem _ (List.mem_append_left _ (List.mem_append_left _ (List.mem_append_left _ (List.mem_append_left _ (List.mem_append_left _ (List.mem_append_left _ (List.mem_append_left _ (List.mem_append_left _ h)))))))))
theorem k_wsX10_eventAt_wsX100 : ∀ w ∈ wsX100, w ∈ wsX10_eventAt := fun w h => (List.mem_cons_of_mem _ (List.mem_append_left _ (List.mem_append_left _ (List.mem_append_left _ (List.mem_append_left _ (List.mem_append_left _ (List.mem_append_left _ (List.mem_append_right _ h))))))))
theorem k_wsX10_eventAt_wsX80 : ∀ w ∈ wsX80, w ∈ wsX10_eventAt := fun w h => (List.mem_cons_of_mem _ (List.mem_append_left _ (List.mem_append_left _ (List.mem_append_left _ (List.mem_append_left _ (List.mem_append_left _ (List.mem_append_right _ h)))))))
theorem k_wsX10_eventAt_wsX40 : ∀ w ∈ wsX40, w ∈ wsX10_eventAt := fun w h => (List.mem_cons_of_mem _ (List.mem_append_left _ (List.mem_append_left _ (List.mem_append_left _ (List.mem_append_left _ (List.mem_append_right _ h))))))
theorem k_wsX10_eventAt_wsX10_eventAt_r2 : ∀ w ∈ wsX10_eventAt_r2, w ∈ wsX10_eventAt := fun w h => (List.mem_cons_of_mem _ (List.mem_append_left _ (List.mem_append_left _ (List.mem_append_left _ (List.mem_append_left _ (List.mem_append_left _ (List.mem_append_left _ (List.mem_append_left _ (List.mem_append_right _ (List.mem_append_left _ h))))))))))
theorem k_wsX10_eventAt_wsX10_eventAt_r3 : ∀ w ∈ wsX10_eventAt_r3, w ∈ wsX10_eventAt := fun w h => (List.mem_cons_of_mem _ (List.mem_append_left _ (List.mem_append_left _ (List.mem_append_left _ (List.mem_append_left _ (List.mem_append_left _ (List.mem_append_left _ (List.mem_append_left _ (List.mem_append_right _ (List.mem_append_right _ (List.mem_append_left _ h)))))))))))
theorem k_wsX10_eventAt_wsX10_eventAt_r4 : ∀ w ∈ wsX10_eventAt_r4, w ∈ wsX10_eventAt := fun w h => (List.mem_cons_of_mem _ (List.mem_append_left _ (List.mem_append_left _ (List.mem_append_left _ (List.mem_append_left _ (List.mem_append_left _ (List.mem_append_left _ (List.mem_append_left _ (List.mem_append_right _ (List.mem_append_right _ (List.mem_append_right _ (List.mem_append_left _ h))))))))))))
theorem k_wsX10_eventAt_wsX10_eventAt_r5 : ∀ w ∈ wsX10_eventAt_r5, w ∈ wsX10_eventAt := fun w h => (List.mem_cons_of_mem _ (List.mem_append_left _ (List.mem_append_left _ (List.mem_append_left _ (List.mem_append_left _ (List.mem_append_left _ (List.mem_append_left _ (List.mem_append_left _ (List.mem_append_right _ (List.mem_append_right _ (List.mem_append_right _ (List.mem_append_right _ (List.mem_append_left _ h)))))))))))))
theorem k_wsX10_eventAt_wsX10_eventAt_r6 : ∀ w ∈ wsX10_eventAt_r6, w ∈ wsX10_eventAt := fun w h => (List.mem_cons_of_mem _ (List.mem_append_left _ (List.mem_append_left _ (List.mem_append_left _ (List.mem_append_left _ (List.mem_append_left _ (List.mem_append_left _ (List.mem_append_left _ (List.mem_append_right _ (List.mem_append_right _ (List.mem_append_right _ (List.mem_append_right _ (List.mem_append_right _ (List.mem_append_left _ h))))))))))))))
theorem k_wsX10_eventAt_wsX10_eventAt_r7 : ∀ w ∈ wsX10_eventAt_r7, w ∈ wsX10_eventAt := fun w h => (List.mem_cons_of_mem _ (List.mem_append_left _ (List.mem_append_left _ (List.mem_append_left _ (List.mem_append_left _ (List.mem_append_left _ (List.mem_append_left _ (List.mem_append_left _ (List.mem_append_right _ (List.mem_append_right _ (List.mem_append_right _ (List.mem_append_right _ (List.mem_append_right _ (List.mem_append_right _ (List.mem_append_left _ h)))))))))))))))
theorem k_wsX10_eventAt_wsX10_eventAt_r8 : ∀ w ∈ wsX10_eventAt_r8, w ∈ wsX10_eventAt := fun w h => (List.mem_cons_of_mem _ (List.mem_append_left _ (List.mem_append_left _ (List.mem_append_left _ (List.mem_append_left _ (List.mem_append_left _ (List.mem_append_left _ (List.mem_append_left _ (List.mem_append_right _ (List.mem_append_right _ (List.mem_append_right _ (List.mem_append_right _ (List.mem_append_right _ (List.mem_append_right _ (List.mem_append_right _ (List.mem_append_left _ h))))))))))))))))
theorem k_wsX10_eventAt_wsX90 : ∀ w ∈ wsX90, w ∈ wsX10_eventAt := fun w h => (List.mem_cons_of_mem _ (List.mem_append_left _ (List.mem_append_left _ (List.mem_append_left _ (List.mem_append_right _ h)))))
theorem k_wsX10_eventAt_wsX10 : ∀ w ∈ wsX10, w ∈ wsX10_eventAt := fun w h => (List.mem_cons_of_mem _ (List.mem_append_left _ (List.mem_append_left _ (List.mem_append_right _ h))))
theorem k_wsX10_eventAt_wsX60 : ∀ w ∈ wsX60, w ∈ wsX10_eventAt := fun w h => (List.mem_cons_of_mem _ (List.mem_append_left _ (List.mem_append_right _ h)))
theorem k_wsX10_eventAt_wsX70 : ∀ w ∈ wsX70, w ∈ wsX10_eventAt := fun w h => (List.mem_cons_of_mem _ (List.mem_append_right _ h))
theorem k_wsX10_eventAt_wsX10_eventAt_r9 : ∀ w ∈ wsX10_eventAt_r9, w ∈ wsX10_eventAt := fun w h => (List.mem_cons_of_mem _ (List.mem_append_left _ (List.mem_append_left _ (List.mem_append_left _ (List.mem_append_left _ (List.mem_append_left _ (List.mem_append_left _ (List.mem_append_left _ (List.mem_append_right _ (List.mem_append_right _ (List.mem_append_right _ (List.mem_append_right _ (List.mem_append_right _ (List.mem_append_right _ (List.mem_append_right _ (List.mem_append_right _ h))))))))))))))))
theorem k_wsX10_worst_wsX10_worst_r1 : ∀ w ∈ wsX10_worst_r1, w ∈ wsX10_worst := fun w h => (List.mem_cons_of_mem _ (List.mem_append_left _ (List.mem_append_left _ (List.mem_append_left _ (List.mem_append_left _ (List.mem_append_left _ (List.mem_append_left _ (List.mem_append_left _ (List.mem_append_left _ h)))))))))
theorem k_wsX10_worst_wsX10_worst_r2 : ∀ w ∈ wsX10_worst_r2, w ∈ wsX10_worst := fun w h => (List.mem_cons_of_mem _ (List.mem_append_left _ (List.mem_append_left _ (List.mem_append_left _ (List.mem_append_left _ (List.mem_append_left _ (List.mem_append_left _ (List.mem_append_left _ (List.mem_append_right _ (List.mem_append_left _ h))))))))))
theorem k_wsX10_worst_wsX10_worst_r3 : ∀ w ∈ wsX10_worst_r3, w ∈ wsX10_worst := fun w h => (List.mem_cons_of_mem _ (List.mem_append_left _ (List.mem_append_left _ (List.mem_append_left _ (List.mem_append_left _ (List.mem_append_left _ (List.mem_append_left _ (List.mem_append_left _ (List.mem_append_right _ (List.mem_append_right _ (List.mem_append_left _ h)))))))))))
theorem k_wsX10_worst_wsX10_worst_r4 : ∀ w ∈ wsX10_worst_r4, w ∈ wsX10_worst := fun w h => (List.mem_cons_of_mem _ (List.mem_append_left _ (List.mem_append_left _ (List.mem_append_left _ (List.mem_append_left _ (List.mem_append_left _ (List.mem_append_left _ (List.mem_append_left _ (List.mem_append_right _ (List.mem_append_right _ (List.mem_append_right _ (List.mem_append_left _ h))))))))))))
theorem k_wsX10_worst_wsX10_worst_r5 : ∀ w ∈ wsX10_worst_r5, w ∈ wsX10_worst := fun w h => (List.mem_cons_of_mem _ (List.mem_append_left _ (List.mem_append_left _ (List.mem_append_left _ (List.mem_append_left _ (List.mem_append_left _ (List.mem_append_left _ (List.mem_append_left _ (List.mem_append_right _ (List.mem_append_right _ (List.mem_append_right _ (List.mem_append_right _ (List.mem_append_left _ h)))))))))))))
theorem k_wsX10_worst_wsX10_worst_r6 : ∀ w ∈ wsX10_worst_r6, w ∈ wsX10_worst := fun w h => (List.mem_cons_of_mem _ (List.mem_append_left _ (List.mem_append_left _ (List.mem_append_left _ (List.mem_append_left _ (List.mem_append_left _ (List.mem_append_left _ (List.mem_append_left _ (List.mem_append_right _ (List.mem_append_right _ (List.mem_append_right _ (List.mem_append_right _ (List.mem_append_right _ (List.mem_append_left _ h))))))))))))))
theorem k_wsX10_worst_wsX10_worst_r7 : ∀ w ∈ wsX10_worst_r7, w ∈ wsX10_worst := fun w h => (List.mem_cons_of_mem _ (List.mem_append_left _ (List.mem_append_left _ (List.mem_append_left _ (List.mem_append_left _ (List.mem_append_left _ (List.mem_append_left _ (List.mem_append_left _ (List.mem_append_right _ (List.mem_append_right _ (List.mem_append_right _ (List.mem_append_right _ (List.mem_append_right _ (List.mem_append_right _ (List.mem_append_left _ h)))))))))))))))
theorem k_wsX10_worst_wsX10_worst_r8 : ∀ w ∈ wsX10_worst_r8, w ∈ wsX10_worst := fun w h => (List.mem_cons_of_mem _ (List.mem_append_left _ (List.mem_append_left _ (List.mem_append_left _ (List.mem_append_left _ (List.mem_append_left _ (List.mem_append_left _ (List.mem_append_left _ (List.mem_append_right _ (List.mem_append_right _ (List.mem_append_right _ (List.mem_append_right _ (List.mem_append_right _ (List.mem_append_right _ (List.mem_append_right _ h)))))))))))))))
theorem k_wsX10_worst_wsX100 : ∀ w ∈ wsX100, w ∈ wsX10_worst := fun w h => (List.mem_cons_of_mem _ (List.mem_append_left _ (List.mem_append_left _ (List.mem_append_left _ (List.mem_append_left _ (List.mem_append_left _ (List.mem_append_left _ (List.mem_append_right _ h))))))))
theorem k_wsX10_worst_wsX80 : ∀ w ∈ wsX80, w ∈ wsX10_worst := fun w h => (List.mem_cons_of_mem _ (List.mem_append_left _ (List.mem_append_left _ (List.mem_append_left _ (List.mem_append_left _ (List.mem_append_left _ (List.mem_append_right _ h)))))))
theorem k_wsX10_worst_wsX90 : ∀ w ∈ wsX90, w ∈ wsX10_worst := fun w h => (List.mem_cons_of_mem _ (List.mem_append_left _ (List.mem_append_left _ (List.mem_append_left _ (List.mem_append_left _ (List.mem_append_right _ h))))))
theorem k_wsX10_worst_wsX10 : ∀ w ∈ wsX10, w ∈ wsX10_worst := fun w h => (List.mem_cons_of_mem _ (List.mem_append_left _ (List.mem_append_left _ (List.mem_append_left _ (List.mem_append_right _ h)))))
theorem k_wsX10_worst_wsX40 : ∀ w ∈ wsX40, w ∈ wsX10_worst := fun w h => (List.mem_cons_of_mem _ (List.mem_append_left _ (List.mem_append_left _ (List.mem_append_right _ h))))
theorem k_wsX10_worst_wsX60 : ∀ w ∈ wsX60, w ∈ wsX10_worst := fun w h => (List.mem_cons_of_mem _ (List.mem_append_left _ (List.mem_append_right _ h)))
theorem k_wsX10_worst_wsX70 : ∀ w ∈ wsX70, w ∈ wsX10_worst := fun w h => (List.mem_cons_of_mem _ (List.mem_append_right _ h))
theorem k_wsX10_findings_wsX10_findings_r1 : ∀ w ∈ wsX10_findings_r1, w ∈ wsX10_findings := fun w h => (List.mem_cons_of_mem _ (List.mem_append_left _ (List.mem_append_left _ (List.mem_append_left _ (List.mem_append_left _ (List.mem_append_left _ (List.mem_append_left _ (List.mem_append_left _ (List.mem_append_left _ h)))))))))
theorem k_wsX10_findings_wsX10_findings_r2 : ∀ w ∈ wsX10_findings_r2, w ∈ wsX10_findings := fun w h => (List.mem_cons_of_mem _ (List.mem_append_left _ (List.mem_append_left _ (List.mem_append_left _ (List.mem_append_left _ (List.mem_append_left _ (List.mem_append_left _ (List.mem_append_left _ (List.mem_append_right _ (List.mem_append_left _ h))))))))))
theorem k_wsX10_findings_wsX10_findings_r3 : ∀ w ∈ wsX10_findings_r3, w ∈ wsX10_findings := fun w h => (List.mem_cons_of_mem _ (List.mem_append_left _ (List.mem_append_left _ (List.mem_append_left _ (List.mem_append_left _ (List.mem_append_left _ (List.mem_append_left _ (List.mem_append_left _ (List.mem_append_right _ (List.mem_append_right _ (List.mem_append_left _ h)))))))))))
theorem k_wsX10_findings_wsX10_findings_r4 : ∀ w ∈ wsX10_findings_r4, w ∈ wsX10_findings := fun w h => (List.mem_cons_of_mem _ (List.mem_append_left _ (List.mem_append_left _ (List.mem_append_left _ (List.mem_append_left _ (List.mem_append_left _ (List.mem_append_left _ (List.mem_append_left _ (List.mem_append_right _ (List.mem_append_right _ (List.mem_append_right _ (List.mem_append_left _ h))))))))))))
theorem k_wsX10_findings_wsX10_findings_r5 : ∀ w ∈ wsX10_findings_r5, w ∈ wsX10_findings := fun w h => (List.mem_cons_of_mem _ (List.mem_append_left _ (List.mem_append_left _ (List.mem_append_left _ (List.mem_append_left _ (List.mem_append_left _ (List.mem_append_left _ (List.mem_append_left _ (List.mem_append_right _ (List.mem_append_right _ (List.mem_append_right _ (List.mem_append_right _ (List.mem_append_left _ h)))))))))))))
theorem k_wsX10_findings_wsX10_findings_r6 : ∀ w ∈ wsX10_findings_r6, w ∈ wsX10_findings := fun w h => (List.mem_cons_of_mem _ (List.mem_append_left _ (List.mem_append_left _ (List.mem_append_left _ (List.mem_append_left _ (List.mem_append_left _ (List.mem_append_left _ (List.mem_append_left _ (List.mem_append_right _ (List.mem_append_right _ (List.mem_append_right _ (List.mem_append_right _ (List.mem_append_right _ (List.mem_append_left _ h))))))))))))))
theorem k_wsX10_findings_wsX10_findings_r7 : ∀ w ∈ wsX10_findings_r7, w ∈ wsX10_findings := fun w h => (List.mem_cons_of_mem _ (List.mem_append_left _ (List.mem_append_left _ (List.mem_append_left _ (List.mem_append_left _ (List.mem_append_left _ (List.mem_append_left _ (List.mem_append_left _ (List.mem_append_right _ (List.mem_append_right _ (List.mem_append_right _ (List.mem_append_right _ (List.mem_append_right _ (List.mem_append_right _ (List.mem_append_left _ h)))))))))))))))
theorem k_wsX10_findings_wsX10_findings_r8 : ∀ w ∈ wsX10_findings_r8, w ∈ wsX10_findings := fun w h => (List.mem_cons_of_mem _ (List.mem_append_left _ (List.mem_append_left _ (List.mem_append_left _ (List.mem_append_left _ (List.mem_append_left _ (List.mem_append_left _ (List.mem_append_left _ (List.mem_append_right _ (List.mem_append_right _ (List.mem_append_right _ (List.mem_append_right _ (List.mem_append_right _ (List.mem_append_right _ (List.mem_append_right _ (List.mem_append_left _ h))))))))))))))))
theorem k_wsX10_findings_wsX100 : ∀ w ∈ wsX100, w ∈ wsX10_findings := fun w h => (List.mem_cons_of_mem _ (List.mem_append_left _ (List.mem_append_left _ (List.mem_append_left _ (List.mem_append_left _ (List.mem_append_left _ (List.mem_append_left _ (List.mem_append_right _ h))))))))
theorem k_wsX10_findings_wsX80 : ∀ w ∈ wsX80, w ∈ wsX10_findings := fun w h => (List.mem_cons_of_mem _ (List.mem_append_left _ (List.mem_append_left _ (List.mem_append_left _ (List.mem_append_left _ (List.mem_append_left _ (List.mem_append_right _ h)))))))
theorem k_wsX10_findings_wsX90 : ∀ w ∈ wsX90, w ∈ wsX10_findings := fun w h => (List.mem_cons_of_mem _ (List.mem_append_left _ (List.mem_append_left _ (List.mem_append_left _ (List.mem_append_left _ (List.mem_append_right _ h))))))
theorem k_wsX10_findings_wsX10 : ∀ w ∈ wsX10, w ∈ wsX10_findings := fun w h => (List.mem_cons_of_mem _ (List.mem_append_left _ (List.mem_append_left _ (List.mem_append_left _ (List.mem_append_right _ h)))))
theorem k_wsX10_findings_wsX40 : ∀ w ∈ wsX40, w ∈ wsX10_findings := fun w h => (List.mem_cons_of_mem _ (List.mem_append_left _ (List.mem_append_left _ (List.mem_append_right _ h))))
theorem k_wsX10_findings_wsX60 : ∀ w ∈ wsX60, w ∈ wsX10_findings := fun w h => (List.mem_cons_of_mem _ (List.mem_append_left _ (List.mem_append_right _ h)))
theorem k_wsX10_findings_wsX70 : ∀ w ∈ wsX70, w ∈ wsX10_findings := fun w h => (List.mem_cons_of_mem _ (List.mem_append_right _ h))
theorem k_wsX10_findings_wsX10_findings_r9 : ∀ w ∈ wsX10_findings_r9, w ∈ wsX10_findings := fun w h => (List.mem_cons_of_mem _ (List.mem_append_left _ (List.mem_append_left _ (List.mem_append_left _ (List.mem_append_left _ (List.mem_append_left _ (List.mem_append_left _ (List.mem_append_left _ (List.mem_append_right _ (List.mem_append_right _ (List.mem_append_right _ (List.mem_append_right _ (List.mem_append_right _ (List.mem_append_right _ (List.mem_append_right _ (List.mem_append_right _ h))))))))))))))))
theorem k_wsX10_widthFor_wsX10_widthFor_r1 : ∀ w ∈ wsX10_widthFor_r1, w ∈ wsX10_widthFor := fun w h => (List.mem_cons_of_mem _ (List.mem_append_left _ (List.mem_append_left _ (List.mem_append_left _ (List.mem_append_left _ (List.mem_append_left _ (List.mem_append_left _ (List.mem_append_left _ (List.mem_append_left _ h)))))))))
theorem k_wsX10_widthFor_wsX10_widthFor_r2 : ∀ w ∈ wsX10_widthFor_r2, w ∈ wsX10_widthFor := fun w h => (List.mem_cons_of_mem _ (List.mem_append_left _ (List.mem_append_left _ (List.mem_append_left _ (List.mem_append_left _ (List.mem_append_left _ (List.mem_append_left _ (List.mem_append_left _ (List.mem_append_right _ (List.mem_append_left _ h))))))))))
theorem k_wsX10_widthFor_wsX10_widthFor_r3 : ∀ w ∈ wsX10_widthFor_r3, w ∈ wsX10_widthFor := fun w h => (List.mem_cons_of_mem _ (List.mem_append_left _ (List.mem_append_left _ (List.mem_append_left _ (List.mem_append_left _ (List.mem_append_left _ (List.mem_append_left _ (List.mem_append_left _ (List.mem_append_right _ (List.mem_append_right _ (List.mem_append_left _ h)))))))))))
theorem k_wsX10_widthFor_wsX10_widthFor_r4 : ∀ w ∈ wsX10_widthFor_r4, w ∈ wsX10_widthFor := fun w h => (List.mem_cons_of_mem _ (List.mem_append_left _ (List.mem_append_left _ (List.mem_append_left _ (List.mem_append_left _ (List.mem_append_left _ (List.mem_append_left _ (List.mem_append_left _ (List.mem_append_right _ (List.mem_append_right _ (List.mem_append_right _ (List.mem_append_left _ h))))))))))))
theorem k_wsX10_widthFor_wsX10_widthFor_r5 : ∀ w ∈ wsX10_widthFor_r5, w ∈ wsX10_widthFor := fun w h => (List.mem_cons_of_mem _ (List.mem_append_left _ (List.mem_append_left _ (List.mem_append_left _ (List.mem_append_left _ (List.mem_append_left _ (List.mem_append_left _ (List.mem_append_left _ (List.mem_append_right _ (List.mem_append_right _ (List.mem_append_right _ (List.mem_append_right _ (List.mem_append_left _ h)))))))))))))
theorem k_wsX10_widthFor_wsX10_widthFor_r6 : ∀ w ∈ wsX10_widthFor_r6, w ∈ wsX10_widthFor := fun w h => (List.mem_cons_of_mem _ (List.mem_append_left _ (List.mem_append_left _ (List.mem_append_left _ (List.mem_append_left _ (List.mem_append_left _ (List.mem_append_left _ (List.mem_append_left _ (List.mem_append_right _ (List.mem_append_right _ (List.mem_append_right _ (List.mem_append_right _ (List.mem_append_right _ (List.mem_append_left _ h))))))))))))))
theorem k_wsX10_widthFor_wsX10_widthFor_r7 : ∀ w ∈ wsX10_widthFor_r7, w ∈ wsX10_widthFor := fun w h => (List.mem_cons_of_mem _ (List.mem_append_left _ (List.mem_append_left _ (List.mem_append_left _ (List.mem_append_left _ (List.mem_append_left _ (List.mem_append_left _ (List.mem_append_left _ (List.mem_append_right _ (List.mem_append_right _ (List.mem_append_right _ (List.mem_append_right _ (List.mem_append_right _ (List.mem_append_right _ (List.mem_append_left _ h)))))))))))))))
theorem k_wsX10_widthFor_wsX10_widthFor_r8 : ∀ w ∈ wsX10_widthFor_r8, w ∈ wsX10_widthFor := fun w h => (List.mem_cons_of_mem _ (List.mem_append_left _ (List.mem_append_left _ (List.mem_append_left _ (List.mem_append_left _ (List.mem_append_left _ (List.mem_append_left _ (List.mem_append_left _ (List.mem_append_right _ (List.mem_append_right _ (List.mem_append_right _ (List.mem_append_right _ (List.mem_append_right _ (List.mem_append_right _ (List.mem_append_right _ (List.mem_append_left _ h))))))))))))))))
theorem k_wsX10_widthFor_wsX100 : ∀ w ∈ wsX100, w ∈ wsX10_widthFor := fun w h => (List.mem_cons_of_mem _ (List.mem_append_left _ (List.mem_append_left _ (List.mem_append_left _ (List.mem_append_left _ (List.mem_append_left _ (List.mem_append_left _ (List.mem_append_right _ h))))))))
theorem k_wsX10_widthFor_wsX80 : ∀ w ∈ wsX80, w ∈ wsX10_widthFor := fun w h => (List.mem_cons_of_mem _ (List.mem_append_left _ (List.mem_append_left _ (List.mem_append_left _ (List.mem_append_left _ (List.mem_append_left _ (List.mem_append_right _ h)))))))
theorem k_wsX10_widthFor_wsX90 : ∀ w ∈ wsX90, w ∈ wsX10_widthFor := fun w h => (List.mem_cons_of_mem _ (List.mem_append_left _ (List.mem_append_left _ (List.mem_append_left _ (List.mem_append_left _ (List.mem_append_right _ h))))))
theorem k_wsX10_widthFor_wsX10 : ∀ w ∈ wsX10, w ∈ wsX10_widthFor := fun w h => (List.mem_cons_of_mem _ (List.mem_append_left _ (List.mem_append_left _ (List.mem_append_left _ (List.mem_append_right _ h)))))
theorem k_wsX10_widthFor_wsX40 : ∀ w ∈ wsX40, w ∈ wsX10_widthFor := fun w h => (List.mem_cons_of_mem _ (List.mem_append_left _ (List.mem_append_left _ (List.mem_append_right _ h))))
theorem k_wsX10_widthFor_wsX60 : ∀ w ∈ wsX60, w ∈ wsX10_widthFor := fun w h => (List.mem_cons_of_mem _ (List.mem_append_left _ (List.mem_append_right _ h)))
theorem k_wsX10_widthFor_wsX70 : ∀ w ∈ wsX70, w ∈ wsX10_widthFor := fun w h => (List.mem_cons_of_mem _ (List.mem_append_right _ h))
theorem k_wsX10_widthFor_wsX10_widthFor_r9 : ∀ w ∈ wsX10_widthFor_r9, w ∈ wsX10_widthFor := fun w h => (List.mem_cons_of_mem _ (List.mem_append_left _ (List.mem_append_left _ (List.mem_append_left _ (List.mem_append_left _ (List.mem_append_left _ (List.mem_append_left _ (List.mem_append_left _ (List.mem_append_right _ (List.mem_append_right _ (List.mem_append_right _ (List.mem_append_right _ (List.mem_append_right _ (List.mem_append_right _ (List.mem_append_right _ (List.mem_append_right _ h))))))))))))))))
theorem k_wsX10_keep_wsX10_keep_r1 : ∀ w ∈ wsX10_keep_r1, w ∈ wsX10_keep := fun w h => (List.mem_cons_of_mem _ (List.mem_append_left _ (List.mem_append_left _ (List.mem_append_left _ (List.mem_append_left _ (List.mem_append_left _ (List.mem_append_left _ (List.mem_append_left _ (List.mem_append_left _ (List.mem_append_left _ (List.mem_append_left _ h)))))))))))
theorem k_wsX10_keep_wsX10_keep_r2 : ∀ w ∈ wsX10_keep_r2, w ∈ wsX10_keep := fun w h => (List.mem_cons_of_mem _ (List.mem_append_left _ (List.mem_append_left _ (List.mem_append_left _ (List.mem_append_left _ (List.mem_append_left _ (List.mem_append_left _ (List.mem_append_left _ (List.mem_append_left _ (List.mem_append_left _ (List.mem_append_right _ (List.mem_append_left _ h))))))))))))
theorem k_wsX10_keep_wsX10_keep_r3 : ∀ w ∈ wsX10_keep_r3, w ∈ wsX10_keep := fun w h => (List.mem_cons_of_mem _ (List.mem_append_left _ (List.mem_append_left _ (List.mem_append_left _ (List.mem_append_left _ (List.mem_append_left _ (List.mem_append_left _ (List.mem_append_left _ (List.mem_append_left _ (List.mem_append_left _ (List.mem_append_right _ (List.mem_append_right _ (List.mem_append_left _ h)))))))))))))
theorem k_wsX10_keep_wsX10_keep_r4 : ∀ w ∈ wsX10_keep_r4, w ∈ wsX10_keep := fun w h => (List.mem_cons_of_mem _ (List.mem_append_left _ (List.mem_append_left _ (List.mem_append_left _ (List.mem_append_left _ (List.mem_append_left _ (List.mem_append_left _ (List.mem_append_left _ (List.mem_append_left _ (List.mem_append_left _ (List.mem_append_right _ (List.mem_append_right _ (List.mem_append_right _ (List.mem_append_left _ h))))))))))))))
theorem k_wsX10_keep_wsX10_keep_r5 : ∀ w ∈ wsX10_keep_r5, w ∈ wsX10_keep := fun w h => (List.mem_cons_of_mem _ (List.mem_append_left _ (List.mem_append_left _ (List.mem_append_left _ (List.mem_append_left _ (List.mem_append_left _ (List.mem_append_left _ (List.mem_append_left _ (List.mem_append_left _ (List.mem_append_left _ (List.mem_append_right _ (List.mem_append_right _ (List.mem_append_right _ (List.mem_append_right _ (List.mem_append_left _ h)))))))))))))))
theorem k_wsX10_keep_wsX10_keep_r6 : ∀ w ∈ wsX10_keep_r6, w ∈ wsX10_keep := fun w h => (List.mem_cons_of_mem _ (List.mem_append_left _ (List.mem_append_left _ (List.mem_append_left _ (List.mem_append_left _ (List.mem_append_left _ (List.mem_append_left _ (List.mem_append_left _ (List.mem_append_left _ (List.mem_append_left _ (List.mem_append_right _ (List.mem_append_right _ (List.mem_append_right _ (List.mem_append_right _ (List.mem_append_right _ (List.mem_append_left _ h))))))))))))))))
theorem k_wsX10_keep_wsX10_keep_r7 : ∀ w ∈ wsX10_keep_r7, w ∈ wsX10_keep := fun w h => (List.mem_cons_of_mem _ (List.mem_append_left _ (List.mem_append_left _ (List.mem_append_left _ (List.mem_append_left _ (List.mem_append_left _ (List.mem_append_left _ (List.mem_append_left _ (List.mem_append_left _ (List.mem_append_left _ (List.mem_append_right _ (List.mem_append_right _ (List.mem_append_right _ (List.mem_append_right _ (List.mem_append_right _ (List.mem_append_right _ (List.mem_append_left _ h)))))))))))))))))
theorem k_wsX10_keep_wsX10_keep_r8 : ∀ w ∈ wsX10_keep_r8, w ∈ wsX10_keep := fun w h => (List.mem_cons_of_mem _ (List.mem_append_left _ (List.mem_append_left _ (List.mem_append_left _ (List.mem_append_left _ (List.mem_append_left _ (List.mem_append_left _ (List.mem_append_left _ (List.mem_append_left _ (List.mem_append_left _ (List.mem_append_right _ (List.mem_append_right _ (List.mem_append_right _ (List.mem_append_right _ (List.mem_append_right _ (List.mem_append_right _ (List.mem_append_right _ (List.mem_append_left _ h))))))))))))))))))
theorem k_wsX10_keep_wsX100 : ∀ w ∈ wsX100, w ∈ wsX10_keep := fun w h => (List.mem_cons_of_mem _ (List.mem_append_left _ (List.mem_append_left _ (List.mem_append_left _ (List.mem_append_left _ (List.mem_append_left _ (List.mem_append_left _ (List.mem_append_left _ (List.mem_append_left _ (List.mem_append_right _ h))))))))))
theorem k_wsX10_keep_wsX80 : ∀ w ∈ wsX80, w ∈ wsX10_keep := fun w h => (List.mem_cons_of_mem _ (List.mem_append_left _ (List.mem_append_left _ (List.mem_append_left _ (List.mem_append_left _ (List.mem_append_left _ (List.mem_append_left _ (List.mem_append_left _ (List.mem_append_right _ h)))))))))
theorem k_wsX10_keep_wsX90 : ∀ w ∈ wsX90, w ∈ wsX10_keep := fun w h => (List.mem_cons_of_mem _ (List.mem_append_left _ (List.mem_append_left _ (List.mem_append_left _ (List.mem_append_left _ (List.mem_append_left _ (List.mem_append_left _ (List.mem_append_right _ h))))))))
theorem k_wsX10_keep_wsX10 : ∀ w ∈ wsX10, w ∈ wsX10_keep := fun w h => (List.mem_cons_of_mem _ (List.mem_append_left _ (List.mem_append_left _ (List.mem_append_left _ (List.mem_append_left _ (List.mem_append_left _ (List.mem_append_right _ h)))))))
theorem k_wsX10_keep_wsX40 : ∀ w ∈ wsX40, w ∈ wsX10_keep := fun w h => (List.mem_cons_of_mem _ (List.mem_append_left _ (List.mem_append_left _ (List.mem_append_left _ (List.mem_append_left _ (List.mem_append_right _ h))))))
theorem k_wsX10_keep_wsX60 : ∀ w ∈ wsX60, w ∈ wsX10_keep := fun w h => (List.mem_cons_of_mem _ (List.mem_append_left _ (List.mem_append_left _ (List.mem_append_left _ (List.mem_append_right _ h)))))
theorem k_wsX10_keep_wsX70 : ∀ w ∈ wsX70, w ∈ wsX10_keep := fun w h => (List.mem_cons_of_mem _ (List.mem_append_left _ (List.mem_append_left _ (List.mem_append_right _ h))))
theorem k_wsX10_keep_wsX10_keep_r9 : ∀ w ∈ wsX10_keep_r9, w ∈ wsX10_keep := fun w h => (List.mem_cons_of_mem _ (List.mem_append_left _ (List.mem_append_left _ (List.mem_append_left _ (List.mem_append_left _ (List.mem_append_left _ (List.mem_append_left _ (List.mem_append_left _ (List.mem_append_left _ (List.mem_append_left _ (List.mem_append_right _ (List.mem_append_right _ (List.mem_append_right _ (List.mem_append_right _ (List.mem_append_right _ (List.mem_append_right _ (List.mem_append_right _ (List.mem_append_right _ (List.mem_append_left _ h)))))))))))))))))))
theorem k_wsX10_keep_wsX10_keep_r10 : ∀ w ∈ wsX10_keep_r10, w ∈ wsX10_keep := fun w h => (List.mem_cons_of_mem _ (List.mem_append_left _ (List.mem_append_left _ (List.mem_append_left _ (List.mem_append_left _ (List.mem_append_left _ (List.mem_append_left _ (List.mem_append_left _ (List.mem_append_left _ (List.mem_append_left _ (List.mem_append_right _ (List.mem_append_right _ (List.mem_append_right _ (List.mem_append_right _ (List.mem_append_right _ (List.mem_append_right _ (List.mem_append_right _ (List.mem_append_right _ (List.mem_append_right _ h)))))))))))))))))))
theorem k_wsX10_keep_wsX20 : ∀ w ∈ wsX20, w ∈ wsX10_keep := fun w h => (List.mem_cons_of_mem _ (List.mem_append_left _ (List.mem_append_right _ h)))
theorem k_wsX10_keep_wsX30 : ∀ w ∈ wsX30, w ∈ wsX10_keep := fun w h => (List.mem_cons_of_mem _ (List.mem_append_right _ h))
theorem k_wsX10_compare_wsX10_compare_r1 : ∀ w ∈ wsX10_compare_r1, w ∈ wsX10_compare := fun w h => (List.mem_cons_of_mem _ (List.mem_append_left _ (List.mem_append_left _ (List.mem_append_left _ (List.mem_append_left _ (List.mem_append_left _ (List.mem_append_left _ (List.mem_append_left _ (List.mem_append_left _ (List.mem_append_left _ (List.mem_append_left _ h)))))))))))
theorem k_wsX10_compare_wsX80 : ∀ w ∈ wsX80, w ∈ wsX10_compare := fun w h => (List.mem_cons_of_mem _ (List.mem_append_left _ (List.mem_append_left _ (List.mem_append_left _ (List.mem_append_left _ (List.mem_append_left _ (List.mem_append_left _ (List.mem_append_left _ (List.mem_append_right _ h)))))))))
theorem k_wsX10_compare_wsX10_compare_r2 : ∀ w ∈ wsX10_compare_r2, w ∈ wsX10_compare := fun w h => (List.mem_cons_of_mem _ (List.mem_append_left _ (List.mem_append_left _ (List.mem_append_left _ (List.mem_append_left _ (List.mem_append_left _ (List.mem_append_left _ (List.mem_append_left _ (List.mem_append_left _ (List.mem_append_left _ (List.mem_append_right _ (List.mem_append_left _ h))))))))))))
theorem k_wsX10_compare_wsX10_compare_r3 : ∀ w ∈ wsX10_compare_r3, w ∈ wsX10_compare := fun w h => (List.mem_cons_of_mem _ (List.mem_append_left _ (List.mem_append_left _ (List.mem_append_left _ (List.mem_append_left _ (List.mem_append_left _ (List.mem_append_left _ (List.mem_append_left _ (List.mem_append_left _ (List.mem_append_left _ (List.mem_append_right _ (List.mem_append_right _ (List.mem_append_left _ h)))))))))))))
theorem k_wsX10_compare_wsX10_compare_r4 : ∀ w ∈ wsX10_compare_r4, w ∈ wsX10_compare := fun w h => (List.mem_cons_of_mem _ (List.mem_append_left _ (List.mem_append_left _ (List.mem_append_left _ (List.mem_append_left _ (List.mem_append_left _ (List.mem_append_left _ (List.mem_append_left _ (List.mem_append_left _ (List.mem_append_left _ (List.mem_append_right _ (List.mem_append_right _ (List.mem_append_right _ (List.mem_append_left _ h))))))))))))))
theorem k_wsX10_compare_wsX10_compare_r5 : ∀ w ∈ wsX10_compare_r5, w ∈ wsX10_compare := fun w h => (List.mem_cons_of_mem _ (List.mem_append_left _ (List.mem_append_left _ (List.mem_append_left _ (List.mem_append_left _ (List.mem_append_left _ (List.mem_append_left _ (List.mem_append_left _ (List.mem_append_left _ (List.mem_append_left _ (List.mem_append_right _ (List.mem_append_right _ (List.mem_append_right _ (List.mem_append_right _ (List.mem_append_left _ h)))))))))))))))
theorem k_wsX10_compare_wsX10_compare_r6 : ∀ w ∈ wsX10_compare_r6, w ∈ wsX10_compare := fun w h => (List.mem_cons_of_mem _ (List.mem_append_left _ (List.mem_append_left _ (List.mem_append_left _ (List.mem_append_left _ (List.mem_append_left _ (List.mem_append_left _ (List.mem_append_left _ (List.mem_append_left _ (List.mem_append_left _ (List.mem_append_right _ (List.mem_append_right _ (List.mem_append_right _ (List.mem_append_right _ (List.mem_append_right _ (List.mem_append_left _ h))))))))))))))))
theorem k_wsX10_compare_wsX10_compare_r7 : ∀ w ∈ wsX10_compare_r7, w ∈ wsX10_compare := fun w h => (List.mem_cons_of_mem _ (List.mem_append_left _ (List.mem_append_left _ (List.mem_append_left _ (List.mem_append_left _ (List.mem_append_left _ (List.mem_append_left _ (List.mem_append_left _ (List.mem_append_left _ (List.mem_append_left _ (List.mem_append_right _ (List.mem_append_right _ (List.mem_append_right _ (List.mem_append_right _ (List.mem_append_right _ (List.mem_append_right _ (List.mem_append_left _ h)))))))))))))))))
theorem k_wsX10_compare_wsX10_compare_r8 : ∀ w ∈ wsX10_compare_r8, w ∈ wsX10_compare := fun w h => (List.mem_cons_of_mem _ (List.mem_append_left _ (List.mem_append_left _ (List.mem_append_left _ (List.mem_append_left _ (List.mem_append_left _ (List.mem_append_left _ (List.mem_append_left _ (List.mem_append_left _ (List.mem_append_left _ (List.mem_append_right _ (List.mem_append_right _ (List.mem_append_right _ (List.mem_append_right _ (List.mem_append_right _ (List.mem_append_right _ (List.mem_append_right _ (List.mem_append_left _ h))))))))))))))))))
theorem k_wsX10_compare_wsX10_compare_r9 : ∀ w ∈ wsX10_compare_r9, w ∈ wsX10_compare := fun w h => (List.mem_cons_of_mem _ (List.mem_append_left _ (List.mem_append_left _ (List.mem_append_left _ (List.mem_append_left _ (List.mem_append_left _ (List.mem_append_left _ (List.mem_append_left _ (List.mem_append_left _ (List.mem_append_left _ (List.mem_append_right _ (List.mem_append_right _ (List.mem_append_right _ (List.mem_append_right _ (List.mem_append_right _ (List.mem_append_right _ (List.mem_append_right _ (List.mem_append_right _ (List.mem_append_left _ h)))))))))))))))))))
theorem k_wsX10_compare_wsX100 : ∀ w ∈ wsX100, w ∈ wsX10_compare := fun w h => (List.mem_cons_of_mem _ (List.mem_append_left _ (List.mem_append_left _ (List.mem_append_left _ (List.mem_append_left _ (List.mem_append_left _ (List.mem_append_left _ (List.mem_append_left _ (List.mem_append_left _ (List.mem_append_right _ h))))))))))
theorem k_wsX10_compare_wsX90 : ∀ w ∈ wsX90, w ∈ wsX10_compare := fun w h => (List.mem_cons_of_mem _ (List.mem_append_left _ (List.mem_append_left _ (List.mem_append_left _ (List.mem_append_left _ (List.mem_append_left _ (List.mem_append_right _ h)))))))
theorem k_wsX10_compare_wsX10 : ∀ w ∈ wsX10, w ∈ wsX10_compare := fun w h => (List.mem_cons_of_mem _ (List.mem_append_left _ (List.mem_append_left _ (List.mem_append_left _ (List.mem_append_left _ (List.mem_append_right _ h))))))
theorem k_wsX10_compare_wsX40 : ∀ w ∈ wsX40, w ∈ wsX10_compare := fun w h => (List.mem_cons_of_mem _ (List.mem_append_left _ (List.mem_append_left _ (List.mem_append_left _ (List.mem_append_right _ h)))))
theorem k_wsX10_compare_wsX60 : ∀ w ∈ wsX60, w ∈ wsX10_compare := fun w h => (List.mem_cons_of_mem _ (List.mem_append_left _ (List.mem_append_left _ (List.mem_append_right _ h))))
theorem k_wsX10_compare_wsX70 : ∀ w ∈ wsX70, w ∈ wsX10_compare := fun w h => (List.mem_cons_of_mem _ (List.mem_append_left _ (List.mem_append_right _ h)))
theorem k_wsX10_compare_wsX10_compare_r10 : ∀ w ∈ wsX10_compare_r10, w ∈ wsX10_compare := fun w h => (List.mem_cons_of_mem _ (List.mem_append_left _ (List.mem_append_left _ (List.mem_append_left _ (List.mem_append_left _ (List.mem_append_left _ (List.mem_append_left _ (List.mem_append_left _ (List.mem_append_left _ (List.mem_append_left _ (List.mem_append_right _ (List.mem_append_right _ (List.mem_append_right _ (List.mem_append_right _ (List.mem_append_right _ (List.mem_append_right _ (List.mem_append_right _ (List.mem_append_right _ (List.mem_append_right _ h)))))))))))))))))))
theorem k_wsX10_compare_wsX00 : ∀ w ∈ wsX00, w ∈ wsX10_compare := fun w h => (List.mem_cons_of_mem _ (List.mem_append_left _ (List.mem_append_left _ (List.mem_append_left _ (List.mem_append_left _ (List.mem_append_left _ (List.mem_append_left _ (List.mem_append_right _ h))))))))
theorem k_wsX10_compare_wsX30 : ∀ w ∈ wsX30, w ∈ wsX10_compare := fun w h => (List.mem_cons_of_mem _ (List.mem_append_right _ h))
theorem k_wsX10_beginChange_wsX10_beginChange_r1 : ∀ w ∈ wsX10_beginChange_r1, w ∈ wsX10_beginChange := fun w h => (List.mem_cons_of_mem _ (List.mem_append_left _ (List.mem_append_left _ (List.mem_append_left _ (List.mem_append_left _ (List.mem_append_left _ h))))))
theorem k_wsX10_beginChange_wsX10_beginChange_r2 : ∀ w ∈ wsX10_beginChange_r2, w ∈ wsX10_beginChange := fun w h => (List.mem_cons_of_mem _ (List.mem_append_left _ (List.mem_append_left _ (List.mem_append_left _ (List.mem_append_left _ (List.mem_append_right _ h))))))
theorem k_wsX10_beginChange_wsX20 : ∀ w ∈ wsX20, w ∈ wsX10_beginChange := fun w h => (List.mem_cons_of_mem _ (List.mem_append_left _ (List.mem_append_left _ (List.mem_append_right _ h))))
theorem k_wsX10_beginChange_wsX80 : ∀ w ∈ wsX80, w ∈ wsX10_beginChange := fun w h => (List.mem_cons_of_mem _ (List.mem_append_left _ (List.mem_append_right _ h)))
theorem k_wsX10_beginChange_wsX40 : ∀ w ∈ wsX40, w ∈ wsX10_beginChange := fun w h => (List.mem_cons_of_mem _ (List.mem_append_right _ h))
theorem k_wsX10_measure_wsX10_measure_r1 : ∀ w ∈ wsX10_measure_r1, w ∈ wsX10_measure := fun w h => (List.mem_cons_of_mem _ (List.mem_append_left _ (List.mem_append_left _ (List.mem_append_left _ (List.mem_append_left _ (List.mem_append_left _ (List.mem_append_left _ (List.mem_append_left _ (List.mem_append_left _ h)))))))))
theorem k_wsX10_measure_wsX10_measure_r2 : ∀ w ∈ wsX10_measure_r2, w ∈ wsX10_measure := fun w h => (List.mem_cons_of_mem _ (List.mem_append_left _ (List.mem_append_left _ (List.mem_append_left _ (List.mem_append_left _ (List.mem_append_left _ (List.mem_append_left _ (List.mem_append_left _ (List.mem_append_right _ (List.mem_append_left _ h))))))))))
theorem k_wsX10_measure_wsX10_measure_r3 : ∀ w ∈ wsX10_measure_r3, w ∈ wsX10_measure := fun w h => (List.mem_cons_of_mem _ (List.mem_append_left _ (List.mem_append_left _ (List.mem_append_left _ (List.mem_append_left _ (List.mem_append_left _ (List.mem_append_left _ (List.mem_append_left _ (List.mem_append_right _ (List.mem_append_right _ (List.mem_append_left _ h)))))))))))
theorem k_wsX10_measure_wsX10_measure_r4 : ∀ w ∈ wsX10_measure_r4, w ∈ wsX10_measure := fun w h => (List.mem_cons_of_mem _ (List.mem_append_left _ (List.mem_append_left _ (List.mem_append_left _ (List.mem_append_left _ (List.mem_append_left _ (List.mem_append_left _ (List.mem_append_left _ (List.mem_append_right _ (List.mem_append_right _ (List.mem_append_right _ (List.mem_append_left _ h))))))))))))
theorem k_wsX10_measure_wsX10_measure_r5 : ∀ w ∈ wsX10_measure_r5, w ∈ wsX10_measure := fun w h => (List.mem_cons_of_mem _ (List.mem_append_left _ (List.mem_append_left _ (List.mem_append_left _ (List.mem_append_left _ (List.mem_append_left _ (List.mem_append_left _ (List.mem_append_left _ (List.mem_append_right _ (List.mem_append_right _ (List.mem_append_right _ (List.mem_append_right _ (List.mem_append_left _ h)))))))))))))
theorem k_wsX10_measure_wsX10_measure_r6 : ∀ w ∈ wsX10_measure_r6, w ∈ wsX10_measure := fun w h => (List.mem_cons_of_mem _ (List.mem_append_left _ (List.mem_append_left _ (List.mem_append_left _ (List.mem_append_left _ (List.mem_append_left _ (List.mem_append_left _ (List.mem_append_left _ (List.mem_append_right _ (List.mem_append_right _ (List.mem_append_right _ (List.mem_append_right _ (List.mem_append_right _ (List.mem_append_left _ h))))))))))))))
theorem k_wsX10_measure_wsX10_measure_r7 : ∀ w ∈ wsX10_measure_r7, w ∈ wsX10_measure := fun w h => (List.mem_cons_of_mem _ (List.mem_append_left _ (List.mem_append_left _ (List.mem_append_left _ (List.mem_append_left _ (List.mem_append_left _ (List.mem_append_left _ (List.mem_append_left _ (List.mem_append_right _ (List.mem_append_right _ (List.mem_append_right _ (List.mem_append_right _ (List.mem_append_right _ (List.mem_append_right _ (List.mem_append_left _ h)))))))))))))))
theorem k_wsX10_measure_wsX10_measure_r8 : ∀ w ∈ wsX10_measure_r8, w ∈ wsX10_measure := fun w h => (List.mem_cons_of_mem _ (List.mem_append_left _ (List.mem_append_left _ (List.mem_append_left _ (List.mem_append_left _ (List.mem_append_left _ (List.mem_append_left _ (List.mem_append_left _ (List.mem_append_right _ (List.mem_append_right _ (List.mem_append_right _ (List.mem_append_right _ (List.mem_append_right _ (List.mem_append_right _ (List.mem_append_right _ h)))))))))))))))
theorem k_wsX10_measure_wsX100 : ∀ w ∈ wsX100, w ∈ wsX10_measure := fun w h => (List.mem_cons_of_mem _ (List.mem_append_left _ (List.mem_append_left _ (List.mem_append_left _ (List.mem_append_left _ (List.mem_append_left _ (List.mem_append_left _ (List.mem_append_right _ h))))))))
theorem k_wsX10_measure_wsX80 : ∀ w ∈ wsX80, w ∈ wsX10_measure := fun w h => (List.mem_cons_of_mem _ (List.mem_append_left _ (List.mem_append_left _ (List.mem_append_left _ (List.mem_append_left _ (List.mem_append_left _ (List.mem_append_right _ h)))))))
theorem k_wsX10_measure_wsX90 : ∀ w ∈ wsX90, w ∈ wsX10_measure := fun w h => (List.mem_cons_of_mem _ (List.mem_append_left _ (List.mem_append_left _ (List.mem_append_left _ (List.mem_append_left _ (List.mem_append_right _ h))))))
theorem k_wsX10_measure_wsX10 : ∀ w ∈ wsX10, w ∈ wsX10_measure := fun w h => (List.mem_cons_of_mem _ (List.mem_append_left _ (List.mem_append_left _ (List.mem_append_left _ (List.mem_append_right _ h)))))
theorem k_wsX10_measure_wsX40 : ∀ w ∈ wsX40, w ∈ wsX10_measure := fun w h => (List.mem_cons_of_mem _ (List.mem_append_left _ (List.mem_append_left _ (List.mem_append_right _ h))))
theorem k_wsX10_measure_wsX60 : ∀ w ∈ wsX60, w ∈ wsX10_measure := fun w h => (List.mem_cons_of_mem _ (List.mem_append_left _ (List.mem_append_right _ h)))
theorem k_wsX10_measure_wsX70 : ∀ w ∈ wsX70, w ∈ wsX10_measure := fun w h => (List.mem_cons_of_mem _ (List.mem_append_right _ h))
theorem k_wsX10_measureWith_wsX10_measureWith_r1 : ∀ w ∈ wsX10_measureWith_r1, w ∈ wsX10_measureWith := fun w h => (List.mem_cons_of_mem _ (List.mem_append_left _ (List.mem_append_left _ (List.mem_append_left _ (List.mem_append_left _ (List.mem_append_left _ (List.mem_append_left _ (List.mem_append_left _ (List.mem_append_left _ h)))))))))
theorem k_wsX10_measureWith_wsX10_measureWith_r2 : ∀ w ∈ wsX10_measureWith_r2, w ∈ wsX10_measureWith := fun w h => (List.mem_cons_of_mem _ (List.mem_append_left _ (List.mem_append_left _ (List.mem_append_left _ (List.mem_append_left _ (List.mem_append_left _ (List.mem_append_left _ (List.mem_append_left _ (List.mem_append_right _ (List.mem_append_left _ h))))))))))
theorem k_wsX10_measureWith_wsX10_measureWith_r3 : ∀ w ∈ wsX10_measureWith_r3, w ∈ wsX10_measureWith := fun w h => (List.mem_cons_of_mem _ (List.mem_append_left _ (List.mem_append_left _ (List.mem_append_left _ (List.mem_append_left _ (List.mem_append_left _ (List.mem_append_left _ (List.mem_append_left _ (List.mem_append_right _ (List.mem_append_right _ (List.mem_append_left _ h)))))))))))
theorem k_wsX10_measureWith_wsX10 : ∀ w ∈ wsX10, w ∈ wsX10_measureWith := fun w h => (List.mem_cons_of_mem _ (List.mem_append_left _ (List.mem_append_left _ (List.mem_append_left _ (List.mem_append_right _ h)))))
theorem k_wsX10_measureWith_wsX40 : ∀ w ∈ wsX40, w ∈ wsX10_measureWith := fun w h => (List.mem_cons_of_mem _ (List.mem_append_left _ (List.mem_append_left _ (List.mem_append_right _ h))))
theorem k_wsX10_measureWith_wsX10_measureWith_r4 : ∀ w ∈ wsX10_measureWith_r4, w ∈ wsX10_measureWith := fun w h => (List.mem_cons_of_mem _ (List.mem_append_left _ (List.mem_append_left _ (List.mem_append_left _ (List.mem_append_left _ (List.mem_append_left _ (List.mem_append_left _ (List.mem_append_left _ (List.mem_append_right _ (List.mem_append_right _ (List.mem_append_right _ (List.mem_append_left _ h))))))))))))
theorem k_wsX10_measureWith_wsX10_measureWith_r5 : ∀ w ∈ wsX10_measureWith_r5, w ∈ wsX10_measureWith := fun w h => (List.mem_cons_of_mem _ (List.mem_append_left _ (List.mem_append_left _ (List.mem_append_left _ (List.mem_append_left _ (List.mem_append_left _ (List.mem_append_left _ (List.mem_append_left _ (List.mem_append_right _ (List.mem_append_right _ (List.mem_append_right _ (List.mem_append_right _ (List.mem_append_left _ h)))))))))))))
theorem k_wsX10_measureWith_wsX10_measureWith_r6 : ∀ w ∈ wsX10_measureWith_r6, w ∈ wsX10_measureWith := fun w h => (List.mem_cons_of_mem _ (List.mem_append_left _ (List.mem_append_left _ (List.mem_append_left _ (List.mem_append_left _ (List.mem_append_left _ (List.mem_append_left _ (List.mem_append_left _ (List.mem_append_right _ (List.mem_append_right _ (List.mem_append_right _ (List.mem_append_right _ (List.mem_append_right _ (List.mem_append_left _ h))))))))))))))
theorem k_wsX10_measureWith_wsX90 : ∀ w ∈ wsX90, w ∈ wsX10_measureWith := fun w h => (List.mem_cons_of_mem _ (List.mem_append_left _ (List.mem_append_left _ (List.mem_append_left _ (List.mem_append_left _ (List.mem_append_right _ h))))))
theorem k_wsX10_measureWith_wsX60 : ∀ w ∈ wsX60, w ∈ wsX10_measureWith := fun w h => (List.mem_cons_of_mem _ (List.mem_append_left _ (List.mem_append_right _ h)))
theorem k_wsX10_measureWith_wsX10_measureWith_r7 : ∀ w ∈ wsX10_measureWith_r7, w ∈ wsX10_measureWith := fun w h => (List.mem_cons_of_mem _ (List.mem_append_left _ (List.mem_append_left _ (List.mem_append_left _ (List.mem_append_left _ (List.mem_append_left _ (List.mem_append_left _ (List.mem_append_left _ (List.mem_append_right _ (List.mem_append_right _ (List.mem_append_right _ (List.mem_append_right _ (List.mem_append_right _ (List.mem_append_right _ h))))))))))))))
theorem k_wsX10_measureWith_wsX70 : ∀ w ∈ wsX70, w ∈ wsX10_measureWith := fun w h => (List.mem_cons_of_mem _ (List.mem_append_right _ h))
theorem k_wsX10_isQuiet_wsX10_isQuiet_r1 : ∀ w ∈ wsX10_isQuiet_r1, w ∈ wsX10_isQuiet := fun w h => (List.mem_cons_of_mem _ (List.mem_append_left _ (List.mem_append_left _ (List.mem_append_left _ (List.mem_append_left _ (List.mem_append_left _ h))))))
theorem k_wsX10_isQuiet_wsX60 : ∀ w ∈ wsX60, w ∈ wsX10_isQuiet := fun w h => (List.mem_cons_of_mem _ (List.mem_append_right _ h))
theorem k_wsX10_isQuiet_wsX10_isQuiet_r2 : ∀ w ∈ wsX10_isQuiet_r2, w ∈ wsX10_isQuiet := fun w h => (List.mem_cons_of_mem _ (List.mem_append_left _ (List.mem_append_left _ (List.mem_append_left _ (List.mem_append_left _ (List.mem_append_right _ h))))))
theorem k_wsX11_init_wsX11_init_r2 : ∀ w ∈ wsX11_init_r2, w ∈ wsX11_init := fun w h => (List.mem_cons_of_mem _ (List.mem_append_left _ (List.mem_append_right _ h)))
theorem k_wsX11_readsItem_wsX11_readsItem_r1 : ∀ w ∈ wsX11_readsItem_r1, w ∈ wsX11_readsItem := fun w h => (List.mem_cons_of_mem _ (List.mem_append_left _ (List.mem_append_left _ h)))
theorem k_wsX11_readsItem_wsX110 : ∀ w ∈ wsX110, w ∈ wsX11_readsItem := fun w h => (List.mem_cons_of_mem _ (List.mem_append_right _ h))
theorem k_wsX11_readsItem_wsX11_readsItem_r2 : ∀ w ∈ wsX11_readsItem_r2, w ∈ wsX11_readsItem := fun w h => (List.mem_cons_of_mem _ (List.mem_append_left _ (List.mem_append_right _ (List.mem_append_left _ h))))
theorem k_wsX11_readsItem_wsX11_readsItem_r3 : ∀ w ∈ wsX11_readsItem_r3, w ∈ wsX11_readsItem := fun w h => (List.mem_cons_of_mem _ (List.mem_append_left _ (List.mem_append_right _ (List.mem_append_right _ h))))
theorem k_wsX11_hasFault_wsX11_hasFault_r1 : ∀ w ∈ wsX11_hasFault_r1, w ∈ wsX11_hasFault := fun w h => (List.mem_cons_of_mem _ (List.mem_append_left _ (List.mem_append_left _ h)))
theorem k_wsX11_hasFault_wsX11_hasFault_r2 : ∀ w ∈ wsX11_hasFault_r2, w ∈ wsX11_hasFault := fun w h => (List.mem_cons_of_mem _ (List.mem_append_left _ (List.mem_append_right _ (List.mem_append_left _ h))))
theorem k_wsX11_hasFault_wsX11_hasFault_r3 : ∀ w ∈ wsX11_hasFault_r3, w ∈ wsX11_hasFault := fun w h => (List.mem_cons_of_mem _ (List.mem_append_left _ (List.mem_append_right _ (List.mem_append_right _ h))))
theorem k_wsX11_hasFault_wsX110 : ∀ w ∈ wsX110, w ∈ wsX11_hasFault := fun w h => (List.mem_cons_of_mem _ (List.mem_append_right _ h))
theorem k_wsX11_fault_wsX11_fault_r1 : ∀ w ∈ wsX11_fault_r1, w ∈ wsX11_fault := fun w h => (List.mem_cons_of_mem _ (List.mem_append_left _ (List.mem_append_left _ h)))
theorem k_wsX11_fault_wsX11_fault_r2 : ∀ w ∈ wsX11_fault_r2, w ∈ wsX11_fault := fun w h => (List.mem_cons_of_mem _ (List.mem_append_left _ (List.mem_append_right _ (List.mem_append_left _ h))))
theorem k_wsX11_fault_wsX11_fault_r3 : ∀ w ∈ wsX11_fault_r3, w ∈ wsX11_fault := fun w h => (List.mem_cons_of_mem _ (List.mem_append_left _ (List.mem_append_right _ (List.mem_append_right _ h))))
theorem k_wsX11_fault_wsX110 : ∀ w ∈ wsX110, w ∈ wsX11_fault := fun w h => (List.mem_cons_of_mem _ (List.mem_append_right _ h))
theorem k_wsX11_lay_wsX11_lay_r1 : ∀ w ∈ wsX11_lay_r1, w ∈ wsX11_lay := fun w h => (List.mem_cons_of_mem _ (List.mem_append_left _ (List.mem_append_left _ h)))
theorem k_wsX11_lay_wsX11_lay_r2 : ∀ w ∈ wsX11_lay_r2, w ∈ wsX11_lay := fun w h => (List.mem_cons_of_mem _ (List.mem_append_left _ (List.mem_append_right _ (List.mem_append_left _ h))))
theorem k_wsX11_lay_wsX11_lay_r3 : ∀ w ∈ wsX11_lay_r3, w ∈ wsX11_lay := fun w h => (List.mem_cons_of_mem _ (List.mem_append_left _ (List.mem_append_right _ (List.mem_append_right _ h))))
theorem k_wsX11_lay_wsX110 : ∀ w ∈ wsX110, w ∈ wsX11_lay := fun w h => (List.mem_cons_of_mem _ (List.mem_append_right _ h))
theorem k_wsX11_partAt_wsX110 : ∀ w ∈ wsX110, w ∈ wsX11_partAt := fun w h => (List.mem_cons_of_mem _ (List.mem_append_right _ h))
theorem k_wsX11_addPart_wsX11_addPart_r1 : ∀ w ∈ wsX11_addPart_r1, w ∈ wsX11_addPart := fun w h => (List.mem_cons_of_mem _ (List.mem_append_left _ (List.mem_append_left _ h)))
theorem k_wsX11_addPart_wsX110 : ∀ w ∈ wsX110, w ∈ wsX11_addPart := fun w h => (List.mem_cons_of_mem _ (List.mem_append_right _ h))
theorem k_wsX11_addPart_wsX11_addPart_r2 : ∀ w ∈ wsX11_addPart_r2, w ∈ wsX11_addPart := fun w h => (List.mem_cons_of_mem _ (List.mem_append_left _ (List.mem_append_right _ h)))
theorem k_wsX11_removePart_wsX110 : ∀ w ∈ wsX110, w ∈ wsX11_removePart := fun w h => (List.mem_cons_of_mem _ (List.mem_append_right _ h))
theorem k_wsX11_set_wsX11_set_r1 : ∀ w ∈ wsX11_set_r1, w ∈ wsX11_set := fun w h => (List.mem_cons_of_mem _ (List.mem_append_left _ (List.mem_append_left _ h)))
theorem k_wsX11_set_wsX110 : ∀ w ∈ wsX110, w ∈ wsX11_set := fun w h => (List.mem_cons_of_mem _ (List.mem_append_right _ h))
theorem k_wsX11_set_wsX11_set_r2 : ∀ w ∈ wsX11_set_r2, w ∈ wsX11_set := fun w h => (List.mem_cons_of_mem _ (List.mem_append_left _ (List.mem_append_right _ h)))
theorem k_wsX11_count_wsX110 : ∀ w ∈ wsX110, w ∈ wsX11_count := fun w h => (List.mem_cons_of_mem _ (List.mem_append_right _ h))
theorem k_wsX11_fadeAt_wsX110 : ∀ w ∈ wsX110, w ∈ wsX11_fadeAt := fun w h => (List.mem_cons_of_mem _ (List.mem_append_right _ h))
theorem k_wsX11_lineLoss_wsX110 : ∀ w ∈ wsX110, w ∈ wsX11_lineLoss := fun w h => (List.mem_cons_of_mem _ (List.mem_append_right _ h))
theorem k_wsX11_layFlashes_wsX110 : ∀ w ∈ wsX110, w ∈ wsX11_layFlashes := fun w h => (List.mem_cons_of_mem _ (List.mem_append_right _ h))
theorem k_wsX11_peakOf_wsX110 : ∀ w ∈ wsX110, w ∈ wsX11_peakOf := fun w h => (List.mem_cons_of_mem _ (List.mem_append_right _ h))
theorem k_wsJ0_charAt_5068e_wsJ0_charAt_5068e_r1 : ∀ w ∈ wsJ0_charAt_5068e_r1, w ∈ wsJ0_charAt_5068e := fun w h => (List.mem_cons_of_mem _ (List.mem_append_left _ h))
theorem k_wsJ0_charAt_5068e_wsJ0_charAt_5068e_r2 : ∀ w ∈ wsJ0_charAt_5068e_r2, w ∈ wsJ0_charAt_5068e := fun w h => (List.mem_cons_of_mem _ (List.mem_append_right _ h))
theorem k_wsX11_layNoise_wsX110 : ∀ w ∈ wsX110, w ∈ wsX11_layNoise := fun w h => (List.mem_cons_of_mem _ (List.mem_append_right _ h))
theorem k_wsX11_layTrace_wsX11_layTrace_r1 : ∀ w ∈ wsX11_layTrace_r1, w ∈ wsX11_layTrace := fun w h => (List.mem_cons_of_mem _ (List.mem_append_left _ (List.mem_append_left _ h)))
theorem k_wsX11_layTrace_wsX11_layTrace_r2 : ∀ w ∈ wsX11_layTrace_r2, w ∈ wsX11_layTrace := fun w h => (List.mem_cons_of_mem _ (List.mem_append_left _ (List.mem_append_right _ h)))
theorem k_wsX11_layTrace_wsX110 : ∀ w ∈ wsX110, w ∈ wsX11_layTrace := fun w h => (List.mem_cons_of_mem _ (List.mem_append_right _ h))
theorem k_wsX11_sample_wsX11_sample_r1 : ∀ w ∈ wsX11_sample_r1, w ∈ wsX11_sample := fun w h => (List.mem_cons_of_mem _ (List.mem_append_left _ (List.mem_append_left _ h)))
theorem k_wsX11_sample_wsX110 : ∀ w ∈ wsX110, w ∈ wsX11_sample := fun w h => (List.mem_cons_of_mem _ (List.mem_append_right _ h))
theorem k_wsX11_sample_wsX11_sample_r2 : ∀ w ∈ wsX11_sample_r2, w ∈ wsX11_sample := fun w h => (List.mem_cons_of_mem _ (List.mem_append_left _ (List.mem_append_right _ (List.mem_append_left _ h))))
theorem k_wsX11_sample_wsX11_sample_r3 : ∀ w ∈ wsX11_sample_r3, w ∈ wsX11_sample := fun w h => (List.mem_cons_of_mem _ (List.mem_append_left _ (List.mem_append_right _ (List.mem_append_right _ h))))
theorem k_wsX11_echo_wsX11_echo_r1 : ∀ w ∈ wsX11_echo_r1, w ∈ wsX11_echo := fun w h => (List.mem_cons_of_mem _ (List.mem_append_left _ (List.mem_append_left _ h)))
theorem k_wsX11_echo_wsX11_echo_r2 : ∀ w ∈ wsX11_echo_r2, w ∈ wsX11_echo := fun w h => (List.mem_cons_of_mem _ (List.mem_append_left _ (List.mem_append_right _ h)))
theorem k_wsX11_echo_wsX110 : ∀ w ∈ wsX110, w ∈ wsX11_echo := fun w h => (List.mem_cons_of_mem _ (List.mem_append_right _ h))
theorem k_wsX11_pulsesFor_wsX11_pulsesFor_r1 : ∀ w ∈ wsX11_pulsesFor_r1, w ∈ wsX11_pulsesFor := fun w h => (List.mem_cons_of_mem _ (List.mem_append_left _ (List.mem_append_left _ h)))
theorem k_wsX11_pulsesFor_wsX110 : ∀ w ∈ wsX110, w ∈ wsX11_pulsesFor := fun w h => (List.mem_cons_of_mem _ (List.mem_append_right _ h))
theorem k_wsX11_pulsesFor_wsX11_pulsesFor_r2 : ∀ w ∈ wsX11_pulsesFor_r2, w ∈ wsX11_pulsesFor := fun w h => (List.mem_cons_of_mem _ (List.mem_append_left _ (List.mem_append_right _ h)))
theorem k_wsX11_endOf_wsX110 : ∀ w ∈ wsX110, w ∈ wsX11_endOf := fun w h => (List.mem_cons_of_mem _ (List.mem_append_right _ h))
theorem k_wsX11_hasMakers_wsX110 : ∀ w ∈ wsX110, w ∈ wsX11_hasMakers := fun w h => (List.mem_cons_of_mem _ (List.mem_append_right _ h))
theorem k_wsX11_eventComes_wsX11_eventComes_r1 : ∀ w ∈ wsX11_eventComes_r1, w ∈ wsX11_eventComes := fun w h => (List.mem_cons_of_mem _ (List.mem_append_left _ (List.mem_append_left _ h)))
theorem k_wsX11_eventComes_wsX11_eventComes_r2 : ∀ w ∈ wsX11_eventComes_r2, w ∈ wsX11_eventComes := fun w h => (List.mem_cons_of_mem _ (List.mem_append_left _ (List.mem_append_right _ h)))
theorem k_wsX11_eventComes_wsX110 : ∀ w ∈ wsX110, w ∈ wsX11_eventComes := fun w h => (List.mem_cons_of_mem _ (List.mem_append_right _ h))
theorem k_wsX11_layEvents_wsX11_layEvents_r1 : ∀ w ∈ wsX11_layEvents_r1, w ∈ wsX11_layEvents := fun w h => (List.mem_cons_of_mem _ (List.mem_append_left _ (List.mem_append_left _ h)))
theorem k_wsX11_layEvents_wsX11_layEvents_r2 : ∀ w ∈ wsX11_layEvents_r2, w ∈ wsX11_layEvents := fun w h => (List.mem_cons_of_mem _ (List.mem_append_left _ (List.mem_append_right _ (List.mem_append_left _ h))))
theorem k_wsX11_layEvents_wsX11_layEvents_r3 : ∀ w ∈ wsX11_layEvents_r3, w ∈ wsX11_layEvents := fun w h => (List.mem_cons_of_mem _ (List.mem_append_left _ (List.mem_append_right _ (List.mem_append_right _ (List.mem_append_left _ h)))))
theorem k_wsX11_layEvents_wsX110 : ∀ w ∈ wsX110, w ∈ wsX11_layEvents := fun w h => (List.mem_cons_of_mem _ (List.mem_append_right _ h))
theorem k_wsX11_layEvents_wsX11_layEvents_r4 : ∀ w ∈ wsX11_layEvents_r4, w ∈ wsX11_layEvents := fun w h => (List.mem_cons_of_mem _ (List.mem_append_left _ (List.mem_append_right _ (List.mem_append_right _ (List.mem_append_right _ h)))))
theorem k_wsX11_events_wsX11_events_r1 : ∀ w ∈ wsX11_events_r1, w ∈ wsX11_events := fun w h => (List.mem_cons_of_mem _ (List.mem_append_left _ (List.mem_append_left _ h)))
theorem k_wsX11_events_wsX11_events_r2 : ∀ w ∈ wsX11_events_r2, w ∈ wsX11_events := fun w h => (List.mem_cons_of_mem _ (List.mem_append_left _ (List.mem_append_right _ (List.mem_append_left _ h))))
theorem k_wsX11_events_wsX11_events_r3 : ∀ w ∈ wsX11_events_r3, w ∈ wsX11_events := fun w h => (List.mem_cons_of_mem _ (List.mem_append_left _ (List.mem_append_right _ (List.mem_append_right _ (List.mem_append_left _ h)))))
theorem k_wsX11_events_wsX11_events_r4 : ∀ w ∈ wsX11_events_r4, w ∈ wsX11_events := fun w h => (List.mem_cons_of_mem _ (List.mem_append_left _ (List.mem_append_right _ (List.mem_append_right _ (List.mem_append_right _ h)))))
theorem k_wsX11_events_wsX110 : ∀ w ∈ wsX110, w ∈ wsX11_events := fun w h => (List.mem_cons_of_mem _ (List.mem_append_right _ h))
theorem k_wsX11_event_wsX11_event_r1 : ∀ w ∈ wsX11_event_r1, w ∈ wsX11_event := fun w h => (List.mem_cons_of_mem _ (List.mem_append_left _ (List.mem_append_left _ h)))
theorem k_wsX11_event_wsX11_event_r2 : ∀ w ∈ wsX11_event_r2, w ∈ wsX11_event := fun w h => (List.mem_cons_of_mem _ (List.mem_append_left _ (List.mem_append_right _ (List.mem_append_left _ h))))
theorem k_wsX11_event_wsX11_event_r3 : ∀ w ∈ wsX11_event_r3, w ∈ wsX11_event := fun w h => (List.mem_cons_of_mem _ (List.mem_append_left _ (List.mem_append_right _ (List.mem_append_right _ (List.mem_append_left _ h)))))
theorem k_wsX11_event_wsX11_event_r4 : ∀ w ∈ wsX11_event_r4, w ∈ wsX11_event := fun w h => (List.mem_cons_of_mem _ (List.mem_append_left _ (List.mem_append_right _ (List.mem_append_right _ (List.mem_append_right _ h)))))
theorem k_wsX11_event_wsX110 : ∀ w ∈ wsX110, w ∈ wsX11_event := fun w h => (List.mem_cons_of_mem _ (List.mem_append_right _ h))
theorem k_wsX11_total_wsX11_total_r1 : ∀ w ∈ wsX11_total_r1, w ∈ wsX11_total := fun w h => (List.mem_cons_of_mem _ (List.mem_append_left _ (List.mem_append_left _ h)))
theorem k_wsX11_total_wsX11_total_r2 : ∀ w ∈ wsX11_total_r2, w ∈ wsX11_total := fun w h => (List.mem_cons_of_mem _ (List.mem_append_left _ (List.mem_append_right _ (List.mem_append_left _ h))))
theorem k_wsX11_total_wsX11_total_r3 : ∀ w ∈ wsX11_total_r3, w ∈ wsX11_total := fun w h => (List.mem_cons_of_mem _ (List.mem_append_left _ (List.mem_append_right _ (List.mem_append_right _ (List.mem_append_left _ h)))))
theorem k_wsX11_total_wsX11_total_r4 : ∀ w ∈ wsX11_total_r4, w ∈ wsX11_total := fun w h => (List.mem_cons_of_mem _ (List.mem_append_left _ (List.mem_append_right _ (List.mem_append_right _ (List.mem_append_right _ h)))))
theorem k_wsX11_total_wsX110 : ∀ w ∈ wsX110, w ∈ wsX11_total := fun w h => (List.mem_cons_of_mem _ (List.mem_append_right _ h))
theorem k_wsX11_eventAt_wsX11_eventAt_r1 : ∀ w ∈ wsX11_eventAt_r1, w ∈ wsX11_eventAt := fun w h => (List.mem_cons_of_mem _ (List.mem_append_left _ (List.mem_append_left _ h)))
theorem k_wsX11_eventAt_wsX110 : ∀ w ∈ wsX110, w ∈ wsX11_eventAt := fun w h => (List.mem_cons_of_mem _ (List.mem_append_right _ h))
theorem k_wsX11_eventAt_wsX11_eventAt_r2 : ∀ w ∈ wsX11_eventAt_r2, w ∈ wsX11_eventAt := fun w h => (List.mem_cons_of_mem _ (List.mem_append_left _ (List.mem_append_right _ (List.mem_append_left _ h))))
theorem k_wsX11_eventAt_wsX11_eventAt_r3 : ∀ w ∈ wsX11_eventAt_r3, w ∈ wsX11_eventAt := fun w h => (List.mem_cons_of_mem _ (List.mem_append_left _ (List.mem_append_right _ (List.mem_append_right _ (List.mem_append_left _ h)))))
theorem k_wsX11_eventAt_wsX11_eventAt_r4 : ∀ w ∈ wsX11_eventAt_r4, w ∈ wsX11_eventAt := fun w h => (List.mem_cons_of_mem _ (List.mem_append_left _ (List.mem_append_right _ (List.mem_append_right _ (List.mem_append_right _ h)))))
theorem k_wsX11_worst_wsX11_worst_r1 : ∀ w ∈ wsX11_worst_r1, w ∈ wsX11_worst := fun w h => (List.mem_cons_of_mem _ (List.mem_append_left _ (List.mem_append_left _ h)))
theorem k_wsX11_worst_wsX11_worst_r2 : ∀ w ∈ wsX11_worst_r2, w ∈ wsX11_worst := fun w h => (List.mem_cons_of_mem _ (List.mem_append_left _ (List.mem_append_right _ (List.mem_append_left _ h))))
theorem k_wsX11_worst_wsX11_worst_r3 : ∀ w ∈ wsX11_worst_r3, w ∈ wsX11_worst := fun w h => (List.mem_cons_of_mem _ (List.mem_append_left _ (List.mem_append_right _ (List.mem_append_right _ (List.mem_append_left _ h)))))
theorem k_wsX11_worst_wsX11_worst_r4 : ∀ w ∈ wsX11_worst_r4, w ∈ wsX11_worst := fun w h => (List.mem_cons_of_mem _ (List.mem_append_left _ (List.mem_append_right _ (List.mem_append_right _ (List.mem_append_right _ h)))))
theorem k_wsX11_worst_wsX110 : ∀ w ∈ wsX110, w ∈ wsX11_worst := fun w h => (List.mem_cons_of_mem _ (List.mem_append_right _ h))
theorem k_wsX11_eventNear_wsX110 : ∀ w ∈ wsX110, w ∈ wsX11_eventNear := fun w h => (List.mem_cons_of_mem _ (List.mem_append_right _ h))
theorem k_wsX11_stands_wsX11_stands_r1 : ∀ w ∈ wsX11_stands_r1, w ∈ wsX11_stands := fun w h => (List.mem_cons_of_mem _ (List.mem_append_left _ (List.mem_append_left _ h)))
theorem k_wsX11_stands_wsX110 : ∀ w ∈ wsX110, w ∈ wsX11_stands := fun w h => (List.mem_cons_of_mem _ (List.mem_append_right _ h))
theorem k_wsX11_stands_wsX11_stands_r2 : ∀ w ∈ wsX11_stands_r2, w ∈ wsX11_stands := fun w h => (List.mem_cons_of_mem _ (List.mem_append_left _ (List.mem_append_right _ h)))
theorem k_wsX11_part_wsX11_part_r1 : ∀ w ∈ wsX11_part_r1, w ∈ wsX11_part := fun w h => (List.mem_cons_of_mem _ (List.mem_append_left _ (List.mem_append_left _ h)))
theorem k_wsX11_part_wsX110 : ∀ w ∈ wsX110, w ∈ wsX11_part := fun w h => (List.mem_cons_of_mem _ (List.mem_append_right _ h))
theorem k_wsX11_part_wsX11_part_r2 : ∀ w ∈ wsX11_part_r2, w ∈ wsX11_part := fun w h => (List.mem_cons_of_mem _ (List.mem_append_left _ (List.mem_append_right _ (List.mem_append_left _ h))))
theorem k_wsX11_part_wsX11_part_r3 : ∀ w ∈ wsX11_part_r3, w ∈ wsX11_part := fun w h => (List.mem_cons_of_mem _ (List.mem_append_left _ (List.mem_append_right _ (List.mem_append_right _ (List.mem_append_left _ h)))))
theorem k_wsX11_part_wsX11_part_r4 : ∀ w ∈ wsX11_part_r4, w ∈ wsX11_part := fun w h => (List.mem_cons_of_mem _ (List.mem_append_left _ (List.mem_append_right _ (List.mem_append_right _ (List.mem_append_right _ (List.mem_append_left _ h))))))
theorem k_wsX11_part_wsX11_part_r5 : ∀ w ∈ wsX11_part_r5, w ∈ wsX11_part := fun w h => (List.mem_cons_of_mem _ (List.mem_append_left _ (List.mem_append_right _ (List.mem_append_right _ (List.mem_append_right _ (List.mem_append_right _ h))))))
theorem k_wsX11_isStrange_wsX110 : ∀ w ∈ wsX110, w ∈ wsX11_isStrange := fun w h => (List.mem_cons_of_mem _ (List.mem_append_right _ h))
theorem k_wsX11_standing_wsX11_standing_r1 : ∀ w ∈ wsX11_standing_r1, w ∈ wsX11_standing := fun w h => (List.mem_cons_of_mem _ (List.mem_append_left _ (List.mem_append_left _ h)))
theorem k_wsX11_standing_wsX110 : ∀ w ∈ wsX110, w ∈ wsX11_standing := fun w h => (List.mem_cons_of_mem _ (List.mem_append_right _ h))
theorem k_wsX11_standing_wsX11_standing_r2 : ∀ w ∈ wsX11_standing_r2, w ∈ wsX11_standing := fun w h => (List.mem_cons_of_mem _ (List.mem_append_left _ (List.mem_append_right _ h)))
theorem k_wsX11_findings_wsX11_findings_r1 : ∀ w ∈ wsX11_findings_r1, w ∈ wsX11_findings := fun w h => (List.mem_cons_of_mem _ (List.mem_append_left _ (List.mem_append_left _ h)))
theorem k_wsX11_findings_wsX11_findings_r2 : ∀ w ∈ wsX11_findings_r2, w ∈ wsX11_findings := fun w h => (List.mem_cons_of_mem _ (List.mem_append_left _ (List.mem_append_right _ (List.mem_append_left _ h))))
theorem k_wsX11_findings_wsX11_findings_r3 : ∀ w ∈ wsX11_findings_r3, w ∈ wsX11_findings := fun w h => (List.mem_cons_of_mem _ (List.mem_append_left _ (List.mem_append_right _ (List.mem_append_right _ (List.mem_append_left _ h)))))
theorem k_wsX11_findings_wsX11_findings_r4 : ∀ w ∈ wsX11_findings_r4, w ∈ wsX11_findings := fun w h => (List.mem_cons_of_mem _ (List.mem_append_left _ (List.mem_append_right _ (List.mem_append_right _ (List.mem_append_right _ (List.mem_append_left _ h))))))
theorem k_wsX11_findings_wsX110 : ∀ w ∈ wsX110, w ∈ wsX11_findings := fun w h => (List.mem_cons_of_mem _ (List.mem_append_right _ h))
theorem k_wsX11_findings_wsX11_findings_r5 : ∀ w ∈ wsX11_findings_r5, w ∈ wsX11_findings := fun w h => (List.mem_cons_of_mem _ (List.mem_append_left _ (List.mem_append_right _ (List.mem_append_right _ (List.mem_append_right _ (List.mem_append_right _ h))))))
theorem k_wsX11_widthFor_wsX11_widthFor_r1 : ∀ w ∈ wsX11_widthFor_r1, w ∈ wsX11_widthFor := fun w h => (List.mem_cons_of_mem _ (List.mem_append_left _ (List.mem_append_left _ h)))
theorem k_wsX11_widthFor_wsX110 : ∀ w ∈ wsX110, w ∈ wsX11_widthFor := fun w h => (List.mem_cons_of_mem _ (List.mem_append_right _ h))
theorem k_wsX11_widthFor_wsX11_widthFor_r2 : ∀ w ∈ wsX11_widthFor_r2, w ∈ wsX11_widthFor := fun w h => (List.mem_cons_of_mem _ (List.mem_append_left _ (List.mem_append_right _ (List.mem_append_left _ h))))
theorem k_wsX11_widthFor_wsX11_widthFor_r3 : ∀ w ∈ wsX11_widthFor_r3, w ∈ wsX11_widthFor := fun w h => (List.mem_cons_of_mem _ (List.mem_append_left _ (List.mem_append_right _ (List.mem_append_right _ (List.mem_append_left _ h)))))
theorem k_wsX11_widthFor_wsX11_widthFor_r4 : ∀ w ∈ wsX11_widthFor_r4, w ∈ wsX11_widthFor := fun w h => (List.mem_cons_of_mem _ (List.mem_append_left _ (List.mem_append_right _ (List.mem_append_right _ (List.mem_append_right _ (List.mem_append_left _ h))))))
theorem k_wsX11_widthFor_wsX11_widthFor_r5 : ∀ w ∈ wsX11_widthFor_r5, w ∈ wsX11_widthFor := fun w h => (List.mem_cons_of_mem _ (List.mem_append_left _ (List.mem_append_right _ (List.mem_append_right _ (List.mem_append_right _ (List.mem_append_right _ h))))))
theorem k_wsX11_keep_wsX11_keep_r1 : ∀ w ∈ wsX11_keep_r1, w ∈ wsX11_keep := fun w h => (List.mem_cons_of_mem _ (List.mem_append_left _ (List.mem_append_left _ h)))
theorem k_wsX11_keep_wsX110 : ∀ w ∈ wsX110, w ∈ wsX11_keep := fun w h => (List.mem_cons_of_mem _ (List.mem_append_right _ h))
theorem k_wsX11_keep_wsX11_keep_r2 : ∀ w ∈ wsX11_keep_r2, w ∈ wsX11_keep := fun w h => (List.mem_cons_of_mem _ (List.mem_append_left _ (List.mem_append_right _ (List.mem_append_left _ h))))
theorem k_wsX11_keep_wsX11_keep_r3 : ∀ w ∈ wsX11_keep_r3, w ∈ wsX11_keep := fun w h => (List.mem_cons_of_mem _ (List.mem_append_left _ (List.mem_append_right _ (List.mem_append_right _ h))))
theorem k_wsX11_compare_wsX11_compare_r1 : ∀ w ∈ wsX11_compare_r1, w ∈ wsX11_compare := fun w h => (List.mem_cons_of_mem _ (List.mem_append_left _ (List.mem_append_left _ h)))
theorem k_wsX11_compare_wsX11_compare_r2 : ∀ w ∈ wsX11_compare_r2, w ∈ wsX11_compare := fun w h => (List.mem_cons_of_mem _ (List.mem_append_left _ (List.mem_append_right _ (List.mem_append_left _ h))))
theorem k_wsX11_compare_wsX11_compare_r3 : ∀ w ∈ wsX11_compare_r3, w ∈ wsX11_compare := fun w h => (List.mem_cons_of_mem _ (List.mem_append_left _ (List.mem_append_right _ (List.mem_append_right _ h))))
theorem k_wsX11_compare_wsX110 : ∀ w ∈ wsX110, w ∈ wsX11_compare := fun w h => (List.mem_cons_of_mem _ (List.mem_append_right _ h))
theorem k_wsL_law_wsL_law_r1 : ∀ w ∈ wsL_law_r1, w ∈ wsL_law := fun w h => (List.mem_append_left _ (List.mem_append_left _ (List.mem_append_left _ (List.mem_append_left _ (List.mem_append_left _ (List.mem_append_left _ (List.mem_append_left _ (List.mem_append_left _ (List.mem_append_left _ (List.mem_append_left _ (List.mem_append_left _ (List.mem_append_left _ (List.mem_append_left _ (List.mem_append_left _ h))))))))))))))
theorem k_wsL_law_wsL_law_r2 : ∀ w ∈ wsL_law_r2, w ∈ wsL_law := fun w h => (List.mem_append_left _ (List.mem_append_left _ (List.mem_append_left _ (List.mem_append_left _ (List.mem_append_left _ (List.mem_append_left _ (List.mem_append_left _ (List.mem_append_left _ (List.mem_append_left _ (List.mem_append_left _ (List.mem_append_left _ (List.mem_append_left _ (List.mem_append_left _ (List.mem_append_right _ (List.mem_append_left _ h)))))))))))))))
theorem k_wsL_law_wsL_law_r3 : ∀ w ∈ wsL_law_r3, w ∈ wsL_law := fun w h => (List.mem_append_left _ (List.mem_append_left _ (List.mem_append_left _ (List.mem_append_left _ (List.mem_append_left _ (List.mem_append_left _ (List.mem_append_left _ (List.mem_append_left _ (List.mem_append_left _ (List.mem_append_left _ (List.mem_append_left _ (List.mem_append_left _ (List.mem_append_left _ (List.mem_append_right _ (List.mem_append_right _ (List.mem_append_left _ h))))))))))))))))
theorem k_wsL_law_wsL_law_r4 : ∀ w ∈ wsL_law_r4, w ∈ wsL_law := fun w h => (List.mem_append_left _ (List.mem_append_left _ (List.mem_append_left _ (List.mem_append_left _ (List.mem_append_left _ (List.mem_append_left _ (List.mem_append_left _ (List.mem_append_left _ (List.mem_append_left _ (List.mem_append_left _ (List.mem_append_left _ (List.mem_append_left _ (List.mem_append_left _ (List.mem_append_right _ (List.mem_append_right _ (List.mem_append_right _ (List.mem_append_left _ h)))))))))))))))))
theorem k_wsL_law_wsL_law_r5 : ∀ w ∈ wsL_law_r5, w ∈ wsL_law := fun w h => (List.mem_append_left _ (List.mem_append_left _ (List.mem_append_left _ (List.mem_append_left _ (List.mem_append_left _ (List.mem_append_left _ (List.mem_append_left _ (List.mem_append_left _ (List.mem_append_left _ (List.mem_append_left _ (List.mem_append_left _ (List.mem_append_left _ (List.mem_append_left _ (List.mem_append_right _ (List.mem_append_right _ (List.mem_append_right _ (List.mem_append_right _ (List.mem_append_left _ h))))))))))))))))))
theorem k_wsL_law_wsL_law_r6 : ∀ w ∈ wsL_law_r6, w ∈ wsL_law := fun w h => (List.mem_append_left _ (List.mem_append_left _ (List.mem_append_left _ (List.mem_append_left _ (List.mem_append_left _ (List.mem_append_left _ (List.mem_append_left _ (List.mem_append_left _ (List.mem_append_left _ (List.mem_append_left _ (List.mem_append_left _ (List.mem_append_left _ (List.mem_append_left _ (List.mem_append_right _ (List.mem_append_right _ (List.mem_append_right _ (List.mem_append_right _ (List.mem_append_right _ (List.mem_append_left _ h)))))))))))))))))))
theorem k_wsL_law_wsX80 : ∀ w ∈ wsX80, w ∈ wsL_law := fun w h => (List.mem_append_left _ (List.mem_append_left _ (List.mem_append_left _ (List.mem_append_left _ (List.mem_append_left _ (List.mem_append_left _ (List.mem_append_left _ (List.mem_append_left _ (List.mem_append_left _ (List.mem_append_left _ (List.mem_append_right _ h)))))))))))
theorem k_wsL_law_wsX100 : ∀ w ∈ wsX100, w ∈ wsL_law := fun w h => (List.mem_append_left _ (List.mem_append_left _ (List.mem_append_left _ (List.mem_append_left _ (List.mem_append_left _ (List.mem_append_left _ (List.mem_append_left _ (List.mem_append_left _ (List.mem_append_left _ (List.mem_append_left _ (List.mem_append_left _ (List.mem_append_left _ (List.mem_append_right _ h)))))))))))))
theorem k_wsL_law_wsX20 : ∀ w ∈ wsX20, w ∈ wsL_law := fun w h => (List.mem_append_left _ (List.mem_append_left _ (List.mem_append_left _ (List.mem_append_left _ (List.mem_append_left _ (List.mem_append_left _ (List.mem_append_left _ (List.mem_append_left _ (List.mem_append_left _ (List.mem_append_right _ h))))))))))
theorem k_wsL_law_wsX50 : ∀ w ∈ wsX50, w ∈ wsL_law := fun w h => (List.mem_append_left _ (List.mem_append_left _ (List.mem_append_left _ (List.mem_append_left _ (List.mem_append_left _ (List.mem_append_left _ (List.mem_append_left _ (List.mem_append_left _ (List.mem_append_right _ h)))))))))
theorem k_wsL_law_wsX30 : ∀ w ∈ wsX30, w ∈ wsL_law := fun w h => (List.mem_append_left _ (List.mem_append_left _ (List.mem_append_left _ (List.mem_append_left _ (List.mem_append_left _ (List.mem_append_left _ (List.mem_append_left _ (List.mem_append_right _ h))))))))
theorem k_wsL_law_wsX00 : ∀ w ∈ wsX00, w ∈ wsL_law := fun w h => (List.mem_append_left _ (List.mem_append_left _ (List.mem_append_left _ (List.mem_append_left _ (List.mem_append_left _ (List.mem_append_left _ (List.mem_append_right _ h)))))))
theorem k_wsL_law_wsX60 : ∀ w ∈ wsX60, w ∈ wsL_law := fun w h => (List.mem_append_left _ (List.mem_append_left _ (List.mem_append_left _ (List.mem_append_left _ (List.mem_append_left _ (List.mem_append_right _ h))))))
theorem k_wsL_law_wsX10 : ∀ w ∈ wsX10, w ∈ wsL_law := fun w h => (List.mem_append_left _ (List.mem_append_left _ (List.mem_append_left _ (List.mem_append_left _ (List.mem_append_right _ h)))))
theorem k_wsL_law_wsX90 : ∀ w ∈ wsX90, w ∈ wsL_law := fun w h => (List.mem_append_left _ (List.mem_append_left _ (List.mem_append_left _ (List.mem_append_right _ h))))
theorem k_wsL_law_wsX70 : ∀ w ∈ wsX70, w ∈ wsL_law := fun w h => (List.mem_append_left _ (List.mem_append_left _ (List.mem_append_right _ h)))
theorem k_wsL_law_wsX40 : ∀ w ∈ wsX40, w ∈ wsL_law := fun w h => (List.mem_append_left _ (List.mem_append_right _ h))
theorem k_wsL_law_wsL_law_r7 : ∀ w ∈ wsL_law_r7, w ∈ wsL_law := fun w h => (List.mem_append_left _ (List.mem_append_left _ (List.mem_append_left _ (List.mem_append_left _ (List.mem_append_left _ (List.mem_append_left _ (List.mem_append_left _ (List.mem_append_left _ (List.mem_append_left _ (List.mem_append_left _ (List.mem_append_left _ (List.mem_append_left _ (List.mem_append_left _ (List.mem_append_right _ (List.mem_append_right _ (List.mem_append_right _ (List.mem_append_right _ (List.mem_append_right _ (List.mem_append_right _ (List.mem_append_left _ h))))))))))))))))))))
theorem k_wsL_law_wsX110 : ∀ w ∈ wsX110, w ∈ wsL_law := fun w h => (List.mem_append_left _ (List.mem_append_left _ (List.mem_append_left _ (List.mem_append_left _ (List.mem_append_left _ (List.mem_append_left _ (List.mem_append_left _ (List.mem_append_left _ (List.mem_append_left _ (List.mem_append_left _ (List.mem_append_left _ (List.mem_append_right _ h))))))))))))
theorem k_wsL_law_wsL_law_r8 : ∀ w ∈ wsL_law_r8, w ∈ wsL_law := fun w h => (List.mem_append_left _ (List.mem_append_left _ (List.mem_append_left _ (List.mem_append_left _ (List.mem_append_left _ (List.mem_append_left _ (List.mem_append_left _ (List.mem_append_left _ (List.mem_append_left _ (List.mem_append_left _ (List.mem_append_left _ (List.mem_append_left _ (List.mem_append_left _ (List.mem_append_right _ (List.mem_append_right _ (List.mem_append_right _ (List.mem_append_right _ (List.mem_append_right _ (List.mem_append_right _ (List.mem_append_right _ (List.mem_append_left _ h)))))))))))))))))))))
theorem k_wsL_law_wsL_law_r9 : ∀ w ∈ wsL_law_r9, w ∈ wsL_law := fun w h => (List.mem_append_left _ (List.mem_append_left _ (List.mem_append_left _ (List.mem_append_left _ (List.mem_append_left _ (List.mem_append_left _ (List.mem_append_left _ (List.mem_append_left _ (List.mem_append_left _ (List.mem_append_left _ (List.mem_append_left _ (List.mem_append_left _ (List.mem_append_left _ (List.mem_append_right _ (List.mem_append_right _ (List.mem_append_right _ (List.mem_append_right _ (List.mem_append_right _ (List.mem_append_right _ (List.mem_append_right _ (List.mem_append_right _ (List.mem_append_left _ h))))))))))))))))))))))
theorem k_wsL_law_wsL_law_r10 : ∀ w ∈ wsL_law_r10, w ∈ wsL_law := fun w h => (List.mem_append_left _ (List.mem_append_left _ (List.mem_append_left _ (List.mem_append_left _ (List.mem_append_left _ (List.mem_append_left _ (List.mem_append_left _ (List.mem_append_left _ (List.mem_append_left _ (List.mem_append_left _ (List.mem_append_left _ (List.mem_append_left _ (List.mem_append_left _ (List.mem_append_right _ (List.mem_append_right _ (List.mem_append_right _ (List.mem_append_right _ (List.mem_append_right _ (List.mem_append_right _ (List.mem_append_right _ (List.mem_append_right _ (List.mem_append_right _ (List.mem_append_left _ h)))))))))))))))))))))))
theorem k_wsL_law_wsL_law_r11 : ∀ w ∈ wsL_law_r11, w ∈ wsL_law := fun w h => (List.mem_append_left _ (List.mem_append_left _ (List.mem_append_left _ (List.mem_append_left _ (List.mem_append_left _ (List.mem_append_left _ (List.mem_append_left _ (List.mem_append_left _ (List.mem_append_left _ (List.mem_append_left _ (List.mem_append_left _ (List.mem_append_left _ (List.mem_append_left _ (List.mem_append_right _ (List.mem_append_right _ (List.mem_append_right _ (List.mem_append_right _ (List.mem_append_right _ (List.mem_append_right _ (List.mem_append_right _ (List.mem_append_right _ (List.mem_append_right _ (List.mem_append_right _ (List.mem_append_left _ h))))))))))))))))))))))))
theorem k_wsL_law_wsL_law_r12 : ∀ w ∈ wsL_law_r12, w ∈ wsL_law := fun w h => (List.mem_append_left _ (List.mem_append_left _ (List.mem_append_left _ (List.mem_append_left _ (List.mem_append_left _ (List.mem_append_left _ (List.mem_append_left _ (List.mem_append_left _ (List.mem_append_left _ (List.mem_append_left _ (List.mem_append_left _ (List.mem_append_left _ (List.mem_append_left _ (List.mem_append_right _ (List.mem_append_right _ (List.mem_append_right _ (List.mem_append_right _ (List.mem_append_right _ (List.mem_append_right _ (List.mem_append_right _ (List.mem_append_right _ (List.mem_append_right _ (List.mem_append_right _ (List.mem_append_right _ (List.mem_append_left _ h)))))))))))))))))))))))))
theorem k_wsL_law_wsL_law_r13 : ∀ w ∈ wsL_law_r13, w ∈ wsL_law := fun w h => (List.mem_append_left _ (List.mem_append_left _ (List.mem_append_left _ (List.mem_append_left _ (List.mem_append_left _ (List.mem_append_left _ (List.mem_append_left _ (List.mem_append_left _ (List.mem_append_left _ (List.mem_append_left _ (List.mem_append_left _ (List.mem_append_left _ (List.mem_append_left _ (List.mem_append_right _ (List.mem_append_right _ (List.mem_append_right _ (List.mem_append_right _ (List.mem_append_right _ (List.mem_append_right _ (List.mem_append_right _ (List.mem_append_right _ (List.mem_append_right _ (List.mem_append_right _ (List.mem_append_right _ (List.mem_append_right _ (List.mem_append_left _ h))))))))))))))))))))))))))
theorem k_wsL_law_wsL_law_r14 : ∀ w ∈ wsL_law_r14, w ∈ wsL_law := fun w h => (List.mem_append_left _ (List.mem_append_left _ (List.mem_append_left _ (List.mem_append_left _ (List.mem_append_left _ (List.mem_append_left _ (List.mem_append_left _ (List.mem_append_left _ (List.mem_append_left _ (List.mem_append_left _ (List.mem_append_left _ (List.mem_append_left _ (List.mem_append_left _ (List.mem_append_right _ (List.mem_append_right _ (List.mem_append_right _ (List.mem_append_right _ (List.mem_append_right _ (List.mem_append_right _ (List.mem_append_right _ (List.mem_append_right _ (List.mem_append_right _ (List.mem_append_right _ (List.mem_append_right _ (List.mem_append_right _ (List.mem_append_right _ (List.mem_append_left _ h)))))))))))))))))))))))))))
theorem k_wsL_law_wsL_law_r15 : ∀ w ∈ wsL_law_r15, w ∈ wsL_law := fun w h => (List.mem_append_left _ (List.mem_append_left _ (List.mem_append_left _ (List.mem_append_left _ (List.mem_append_left _ (List.mem_append_left _ (List.mem_append_left _ (List.mem_append_left _ (List.mem_append_left _ (List.mem_append_left _ (List.mem_append_left _ (List.mem_append_left _ (List.mem_append_left _ (List.mem_append_right _ (List.mem_append_right _ (List.mem_append_right _ (List.mem_append_right _ (List.mem_append_right _ (List.mem_append_right _ (List.mem_append_right _ (List.mem_append_right _ (List.mem_append_right _ (List.mem_append_right _ (List.mem_append_right _ (List.mem_append_right _ (List.mem_append_right _ (List.mem_append_right _ (List.mem_append_left _ h))))))))))))))))))))))))))))
theorem k_wsL_law_wsL_law_r16 : ∀ w ∈ wsL_law_r16, w ∈ wsL_law := fun w h => (List.mem_append_left _ (List.mem_append_left _ (List.mem_append_left _ (List.mem_append_left _ (List.mem_append_left _ (List.mem_append_left _ (List.mem_append_left _ (List.mem_append_left _ (List.mem_append_left _ (List.mem_append_left _ (List.mem_append_left _ (List.mem_append_left _ (List.mem_append_left _ (List.mem_append_right _ (List.mem_append_right _ (List.mem_append_right _ (List.mem_append_right _ (List.mem_append_right _ (List.mem_append_right _ (List.mem_append_right _ (List.mem_append_right _ (List.mem_append_right _ (List.mem_append_right _ (List.mem_append_right _ (List.mem_append_right _ (List.mem_append_right _ (List.mem_append_right _ (List.mem_append_right _ (List.mem_append_left _ h)))))))))))))))))))))))))))))
theorem k_wsL_law_wsL_law_r17 : ∀ w ∈ wsL_law_r17, w ∈ wsL_law := fun w h => (List.mem_append_left _ (List.mem_append_left _ (List.mem_append_left _ (List.mem_append_left _ (List.mem_append_left _ (List.mem_append_left _ (List.mem_append_left _ (List.mem_append_left _ (List.mem_append_left _ (List.mem_append_left _ (List.mem_append_left _ (List.mem_append_left _ (List.mem_append_left _ (List.mem_append_right _ (List.mem_append_right _ (List.mem_append_right _ (List.mem_append_right _ (List.mem_append_right _ (List.mem_append_right _ (List.mem_append_right _ (List.mem_append_right _ (List.mem_append_right _ (List.mem_append_right _ (List.mem_append_right _ (List.mem_append_right _ (List.mem_append_right _ (List.mem_append_right _ (List.mem_append_right _ (List.mem_append_right _ (List.mem_append_left _ h))))))))))))))))))))))))))))))
theorem k_wsL_law_wsL_law_r18 : ∀ w ∈ wsL_law_r18, w ∈ wsL_law := fun w h => (List.mem_append_left _ (List.mem_append_left _ (List.mem_append_left _ (List.mem_append_left _ (List.mem_append_left _ (List.mem_append_left _ (List.mem_append_left _ (List.mem_append_left _ (List.mem_append_left _ (List.mem_append_left _ (List.mem_append_left _ (List.mem_append_left _ (List.mem_append_left _ (List.mem_append_right _ (List.mem_append_right _ (List.mem_append_right _ (List.mem_append_right _ (List.mem_append_right _ (List.mem_append_right _ (List.mem_append_right _ (List.mem_append_right _ (List.mem_append_right _ (List.mem_append_right _ (List.mem_append_right _ (List.mem_append_right _ (List.mem_append_right _ (List.mem_append_right _ (List.mem_append_right _ (List.mem_append_right _ (List.mem_append_right _ (List.mem_append_left _ h)))))))))))))))))))))))))))))))
theorem k_wsL_law_wsL_law_r19 : ∀ w ∈ wsL_law_r19, w ∈ wsL_law := fun w h => (List.mem_append_left _ (List.mem_append_left _ (List.mem_append_left _ (List.mem_append_left _ (List.mem_append_left _ (List.mem_append_left _ (List.mem_append_left _ (List.mem_append_left _ (List.mem_append_left _ (List.mem_append_left _ (List.mem_append_left _ (List.mem_append_left _ (List.mem_append_left _ (List.mem_append_right _ (List.mem_append_right _ (List.mem_append_right _ (List.mem_append_right _ (List.mem_append_right _ (List.mem_append_right _ (List.mem_append_right _ (List.mem_append_right _ (List.mem_append_right _ (List.mem_append_right _ (List.mem_append_right _ (List.mem_append_right _ (List.mem_append_right _ (List.mem_append_right _ (List.mem_append_right _ (List.mem_append_right _ (List.mem_append_right _ (List.mem_append_right _ (List.mem_append_left _ h))))))))))))))))))))))))))))))))
theorem k_wsL_law_wsL_law_r20 : ∀ w ∈ wsL_law_r20, w ∈ wsL_law := fun w h => (List.mem_append_left _ (List.mem_append_left _ (List.mem_append_left _ (List.mem_append_left _ (List.mem_append_left _ (List.mem_append_left _ (List.mem_append_left _ (List.mem_append_left _ (List.mem_append_left _ (List.mem_append_left _ (List.mem_append_left _ (List.mem_append_left _ (List.mem_append_left _ (List.mem_append_right _ (List.mem_append_right _ (List.mem_append_right _ (List.mem_append_right _ (List.mem_append_right _ (List.mem_append_right _ (List.mem_append_right _ (List.mem_append_right _ (List.mem_append_right _ (List.mem_append_right _ (List.mem_append_right _ (List.mem_append_right _ (List.mem_append_right _ (List.mem_append_right _ (List.mem_append_right _ (List.mem_append_right _ (List.mem_append_right _ (List.mem_append_right _ (List.mem_append_right _ (List.mem_append_left _ h)))))))))))))))))))))))))))))))))
theorem k_wsL_law_wsL_law_r21 : ∀ w ∈ wsL_law_r21, w ∈ wsL_law := fun w h => (List.mem_append_left _ (List.mem_append_left _ (List.mem_append_left _ (List.mem_append_left _ (List.mem_append_left _ (List.mem_append_left _ (List.mem_append_left _ (List.mem_append_left _ (List.mem_append_left _ (List.mem_append_left _ (List.mem_append_left _ (List.mem_append_left _ (List.mem_append_left _ (List.mem_append_right _ (List.mem_append_right _ (List.mem_append_right _ (List.mem_append_right _ (List.mem_append_right _ (List.mem_append_right _ (List.mem_append_right _ (List.mem_append_right _ (List.mem_append_right _ (List.mem_append_right _ (List.mem_append_right _ (List.mem_append_right _ (List.mem_append_right _ (List.mem_append_right _ (List.mem_append_right _ (List.mem_append_right _ (List.mem_append_right _ (List.mem_append_right _ (List.mem_append_right _ (List.mem_append_right _ (List.mem_append_left _ h))))))))))))))))))))))))))))))))))
theorem k_wsL_law_wsL_law_r22 : ∀ w ∈ wsL_law_r22, w ∈ wsL_law := fun w h => (List.mem_append_left _ (List.mem_append_left _ (List.mem_append_left _ (List.mem_append_left _ (List.mem_append_left _ (List.mem_append_left _ (List.mem_append_left _ (List.mem_append_left _ (List.mem_append_left _ (List.mem_append_left _ (List.mem_append_left _ (List.mem_append_left _ (List.mem_append_left _ (List.mem_append_right _ (List.mem_append_right _ (List.mem_append_right _ (List.mem_append_right _ (List.mem_append_right _ (List.mem_append_right _ (List.mem_append_right _ (List.mem_append_right _ (List.mem_append_right _ (List.mem_append_right _ (List.mem_append_right _ (List.mem_append_right _ (List.mem_append_right _ (List.mem_append_right _ (List.mem_append_right _ (List.mem_append_right _ (List.mem_append_right _ (List.mem_append_right _ (List.mem_append_right _ (List.mem_append_right _ (List.mem_append_right _ (List.mem_append_left _ h)))))))))))))))))))))))))))))))))))
theorem k_wsL_law_wsL_law_r23 : ∀ w ∈ wsL_law_r23, w ∈ wsL_law := fun w h => (List.mem_append_left _ (List.mem_append_left _ (List.mem_append_left _ (List.mem_append_left _ (List.mem_append_left _ (List.mem_append_left _ (List.mem_append_left _ (List.mem_append_left _ (List.mem_append_left _ (List.mem_append_left _ (List.mem_append_left _ (List.mem_append_left _ (List.mem_append_left _ (List.mem_append_right _ (List.mem_append_right _ (List.mem_append_right _ (List.mem_append_right _ (List.mem_append_right _ (List.mem_append_right _ (List.mem_append_right _ (List.mem_append_right _ (List.mem_append_right _ (List.mem_append_right _ (List.mem_append_right _ (List.mem_append_right _ (List.mem_append_right _ (List.mem_append_right _ (List.mem_append_right _ (List.mem_append_right _ (List.mem_append_right _ (List.mem_append_right _ (List.mem_append_right _ (List.mem_append_right _ (List.mem_append_right _ (List.mem_append_right _ (List.mem_append_left _ h))))))))))))))))))))))))))))))))))))
theorem k_wsL_law_wsL_law_r24 : ∀ w ∈ wsL_law_r24, w ∈ wsL_law := fun w h => (List.mem_append_left _ (List.mem_append_left _ (List.mem_append_left _ (List.mem_append_left _ (List.mem_append_left _ (List.mem_append_left _ (List.mem_append_left _ (List.mem_append_left _ (List.mem_append_left _ (List.mem_append_left _ (List.mem_append_left _ (List.mem_append_left _ (List.mem_append_left _ (List.mem_append_right _ (List.mem_append_right _ (List.mem_append_right _ (List.mem_append_right _ (List.mem_append_right _ (List.mem_append_right _ (List.mem_append_right _ (List.mem_append_right _ (List.mem_append_right _ (List.mem_append_right _ (List.mem_append_right _ (List.mem_append_right _ (List.mem_append_right _ (List.mem_append_right _ (List.mem_append_right _ (List.mem_append_right _ (List.mem_append_right _ (List.mem_append_right _ (List.mem_append_right _ (List.mem_append_right _ (List.mem_append_right _ (List.mem_append_right _ (List.mem_append_right _ (List.mem_append_left _ h)))))))))))))))))))))))))))))))))))))
theorem k_wsL_law_wsL_law_r25 : ∀ w ∈ wsL_law_r25, w ∈ wsL_law := fun w h => (List.mem_append_left _ (List.mem_append_left _ (List.mem_append_left _ (List.mem_append_left _ (List.mem_append_left _ (List.mem_append_left _ (List.mem_append_left _ (List.mem_append_left _ (List.mem_append_left _ (List.mem_append_left _ (List.mem_append_left _ (List.mem_append_left _ (List.mem_append_left _ (List.mem_append_right _ (List.mem_append_right _ (List.mem_append_right _ (List.mem_append_right _ (List.mem_append_right _ (List.mem_append_right _ (List.mem_append_right _ (List.mem_append_right _ (List.mem_append_right _ (List.mem_append_right _ (List.mem_append_right _ (List.mem_append_right _ (List.mem_append_right _ (List.mem_append_right _ (List.mem_append_right _ (List.mem_append_right _ (List.mem_append_right _ (List.mem_append_right _ (List.mem_append_right _ (List.mem_append_right _ (List.mem_append_right _ (List.mem_append_right _ (List.mem_append_right _ (List.mem_append_right _ (List.mem_append_left _ h))))))))))))))))))))))))))))))))))))))
theorem k_wsL_law_wsL_law_r26 : ∀ w ∈ wsL_law_r26, w ∈ wsL_law := fun w h => (List.mem_append_left _ (List.mem_append_left _ (List.mem_append_left _ (List.mem_append_left _ (List.mem_append_left _ (List.mem_append_left _ (List.mem_append_left _ (List.mem_append_left _ (List.mem_append_left _ (List.mem_append_left _ (List.mem_append_left _ (List.mem_append_left _ (List.mem_append_left _ (List.mem_append_right _ (List.mem_append_right _ (List.mem_append_right _ (List.mem_append_right _ (List.mem_append_right _ (List.mem_append_right _ (List.mem_append_right _ (List.mem_append_right _ (List.mem_append_right _ (List.mem_append_right _ (List.mem_append_right _ (List.mem_append_right _ (List.mem_append_right _ (List.mem_append_right _ (List.mem_append_right _ (List.mem_append_right _ (List.mem_append_right _ (List.mem_append_right _ (List.mem_append_right _ (List.mem_append_right _ (List.mem_append_right _ (List.mem_append_right _ (List.mem_append_right _ (List.mem_append_right _ (List.mem_append_right _ (List.mem_append_left _ h)))))))))))))))))))))))))))))))))))))))
theorem k_wsL_law_wsL_law_r27 : ∀ w ∈ wsL_law_r27, w ∈ wsL_law := fun w h => (List.mem_append_left _ (List.mem_append_left _ (List.mem_append_left _ (List.mem_append_left _ (List.mem_append_left _ (List.mem_append_left _ (List.mem_append_left _ (List.mem_append_left _ (List.mem_append_left _ (List.mem_append_left _ (List.mem_append_left _ (List.mem_append_left _ (List.mem_append_left _ (List.mem_append_right _ (List.mem_append_right _ (List.mem_append_right _ (List.mem_append_right _ (List.mem_append_right _ (List.mem_append_right _ (List.mem_append_right _ (List.mem_append_right _ (List.mem_append_right _ (List.mem_append_right _ (List.mem_append_right _ (List.mem_append_right _ (List.mem_append_right _ (List.mem_append_right _ (List.mem_append_right _ (List.mem_append_right _ (List.mem_append_right _ (List.mem_append_right _ (List.mem_append_right _ (List.mem_append_right _ (List.mem_append_right _ (List.mem_append_right _ (List.mem_append_right _ (List.mem_append_right _ (List.mem_append_right _ (List.mem_append_right _ (List.mem_append_left _ h))))))))))))))))))))))))))))))))))))))))
theorem k_wsL_law_wsL_law_r28 : ∀ w ∈ wsL_law_r28, w ∈ wsL_law := fun w h => (List.mem_append_left _ (List.mem_append_left _ (List.mem_append_left _ (List.mem_append_left _ (List.mem_append_left _ (List.mem_append_left _ (List.mem_append_left _ (List.mem_append_left _ (List.mem_append_left _ (List.mem_append_left _ (List.mem_append_left _ (List.mem_append_left _ (List.mem_append_left _ (List.mem_append_right _ (List.mem_append_right _ (List.mem_append_right _ (List.mem_append_right _ (List.mem_append_right _ (List.mem_append_right _ (List.mem_append_right _ (List.mem_append_right _ (List.mem_append_right _ (List.mem_append_right _ (List.mem_append_right _ (List.mem_append_right _ (List.mem_append_right _ (List.mem_append_right _ (List.mem_append_right _ (List.mem_append_right _ (List.mem_append_right _ (List.mem_append_right _ (List.mem_append_right _ (List.mem_append_right _ (List.mem_append_right _ (List.mem_append_right _ (List.mem_append_right _ (List.mem_append_right _ (List.mem_append_right _ (List.mem_append_right _ (List.mem_append_right _ (List.mem_append_left _ h)))))))))))))))))))))))))))))))))))))))))
theorem k_wsL_law_wsL_law_r29 : ∀ w ∈ wsL_law_r29, w ∈ wsL_law := fun w h => (List.mem_append_left _ (List.mem_append_left _ (List.mem_append_left _ (List.mem_append_left _ (List.mem_append_left _ (List.mem_append_left _ (List.mem_append_left _ (List.mem_append_left _ (List.mem_append_left _ (List.mem_append_left _ (List.mem_append_left _ (List.mem_append_left _ (List.mem_append_left _ (List.mem_append_right _ (List.mem_append_right _ (List.mem_append_right _ (List.mem_append_right _ (List.mem_append_right _ (List.mem_append_right _ (List.mem_append_right _ (List.mem_append_right _ (List.mem_append_right _ (List.mem_append_right _ (List.mem_append_right _ (List.mem_append_right _ (List.mem_append_right _ (List.mem_append_right _ (List.mem_append_right _ (List.mem_append_right _ (List.mem_append_right _ (List.mem_append_right _ (List.mem_append_right _ (List.mem_append_right _ (List.mem_append_right _ (List.mem_append_right _ (List.mem_append_right _ (List.mem_append_right _ (List.mem_append_right _ (List.mem_append_right _ (List.mem_append_right _ (List.mem_append_right _ (List.mem_append_left _ h))))))))))))))))))))))))))))))))))))))))))
theorem k_wsL_law_wsL_law_r30 : ∀ w ∈ wsL_law_r30, w ∈ wsL_law := fun w h => (List.mem_append_left _ (List.mem_append_left _ (List.mem_append_left _ (List.mem_append_left _ (List.mem_append_left _ (List.mem_append_left _ (List.mem_append_left _ (List.mem_append_left _ (List.mem_append_left _ (List.mem_append_left _ (List.mem_append_left _ (List.mem_append_left _ (List.mem_append_left _ (List.mem_append_right _ (List.mem_append_right _ (List.mem_append_right _ (List.mem_append_right _ (List.mem_append_right _ (List.mem_append_right _ (List.mem_append_right _ (List.mem_append_right _ (List.mem_append_right _ (List.mem_append_right _ (List.mem_append_right _ (List.mem_append_right _ (List.mem_append_right _ (List.mem_append_right _ (List.mem_append_right _ (List.mem_append_right _ (List.mem_append_right _ (List.mem_append_right _ (List.mem_append_right _ (List.mem_append_right _ (List.mem_append_right _ (List.mem_append_right _ (List.mem_append_right _ (List.mem_append_right _ (List.mem_append_right _ (List.mem_append_right _ (List.mem_append_right _ (List.mem_append_right _ (List.mem_append_right _ (List.mem_append_left _ h)))))))))))))))))))))))))))))))))))))))))))
theorem k_wsL_law_wsL_law_r31 : ∀ w ∈ wsL_law_r31, w ∈ wsL_law := fun w h => (List.mem_append_left _ (List.mem_append_left _ (List.mem_append_left _ (List.mem_append_left _ (List.mem_append_left _ (List.mem_append_left _ (List.mem_append_left _ (List.mem_append_left _ (List.mem_append_left _ (List.mem_append_left _ (List.mem_append_left _ (List.mem_append_left _ (List.mem_append_left _ (List.mem_append_right _ (List.mem_append_right _ (List.mem_append_right _ (List.mem_append_right _ (List.mem_append_right _ (List.mem_append_right _ (List.mem_append_right _ (List.mem_append_right _ (List.mem_append_right _ (List.mem_append_right _ (List.mem_append_right _ (List.mem_append_right _ (List.mem_append_right _ (List.mem_append_right _ (List.mem_append_right _ (List.mem_append_right _ (List.mem_append_right _ (List.mem_append_right _ (List.mem_append_right _ (List.mem_append_right _ (List.mem_append_right _ (List.mem_append_right _ (List.mem_append_right _ (List.mem_append_right _ (List.mem_append_right _ (List.mem_append_right _ (List.mem_append_right _ (List.mem_append_right _ (List.mem_append_right _ (List.mem_append_right _ (List.mem_append_left _ h))))))))))))))))))))))))))))))))))))))))))))
theorem k_wsL_law_wsL_law_r32 : ∀ w ∈ wsL_law_r32, w ∈ wsL_law := fun w h => (List.mem_append_left _ (List.mem_append_left _ (List.mem_append_left _ (List.mem_append_left _ (List.mem_append_left _ (List.mem_append_left _ (List.mem_append_left _ (List.mem_append_left _ (List.mem_append_left _ (List.mem_append_left _ (List.mem_append_left _ (List.mem_append_left _ (List.mem_append_left _ (List.mem_append_right _ (List.mem_append_right _ (List.mem_append_right _ (List.mem_append_right _ (List.mem_append_right _ (List.mem_append_right _ (List.mem_append_right _ (List.mem_append_right _ (List.mem_append_right _ (List.mem_append_right _ (List.mem_append_right _ (List.mem_append_right _ (List.mem_append_right _ (List.mem_append_right _ (List.mem_append_right _ (List.mem_append_right _ (List.mem_append_right _ (List.mem_append_right _ (List.mem_append_right _ (List.mem_append_right _ (List.mem_append_right _ (List.mem_append_right _ (List.mem_append_right _ (List.mem_append_right _ (List.mem_append_right _ (List.mem_append_right _ (List.mem_append_right _ (List.mem_append_right _ (List.mem_append_right _ (List.mem_append_right _ (List.mem_append_right _ (List.mem_append_left _ h)))))))))))))))))))))))))))))))))))))))))))))
theorem k_wsL_law_wsL_law_r33 : ∀ w ∈ wsL_law_r33, w ∈ wsL_law := fun w h => (List.mem_append_left _ (List.mem_append_left _ (List.mem_append_left _ (List.mem_append_left _ (List.mem_append_left _ (List.mem_append_left _ (List.mem_append_left _ (List.mem_append_left _ (List.mem_append_left _ (List.mem_append_left _ (List.mem_append_left _ (List.mem_append_left _ (List.mem_append_left _ (List.mem_append_right _ (List.mem_append_right _ (List.mem_append_right _ (List.mem_append_right _ (List.mem_append_right _ (List.mem_append_right _ (List.mem_append_right _ (List.mem_append_right _ (List.mem_append_right _ (List.mem_append_right _ (List.mem_append_right _ (List.mem_append_right _ (List.mem_append_right _ (List.mem_append_right _ (List.mem_append_right _ (List.mem_append_right _ (List.mem_append_right _ (List.mem_append_right _ (List.mem_append_right _ (List.mem_append_right _ (List.mem_append_right _ (List.mem_append_right _ (List.mem_append_right _ (List.mem_append_right _ (List.mem_append_right _ (List.mem_append_right _ (List.mem_append_right _ (List.mem_append_right _ (List.mem_append_right _ (List.mem_append_right _ (List.mem_append_right _ (List.mem_append_right _ (List.mem_append_left _ h))))))))))))))))))))))))))))))))))))))))))))))
theorem k_wsL_law_wsL_law_r34 : ∀ w ∈ wsL_law_r34, w ∈ wsL_law := fun w h => (List.mem_append_left _ (List.mem_append_left _ (List.mem_append_left _ (List.mem_append_left _ (List.mem_append_left _ (List.mem_append_left _ (List.mem_append_left _ (List.mem_append_left _ (List.mem_append_left _ (List.mem_append_left _ (List.mem_append_left _ (List.mem_append_left _ (List.mem_append_left _ (List.mem_append_right _ (List.mem_append_right _ (List.mem_append_right _ (List.mem_append_right _ (List.mem_append_right _ (List.mem_append_right _ (List.mem_append_right _ (List.mem_append_right _ (List.mem_append_right _ (List.mem_append_right _ (List.mem_append_right _ (List.mem_append_right _ (List.mem_append_right _ (List.mem_append_right _ (List.mem_append_right _ (List.mem_append_right _ (List.mem_append_right _ (List.mem_append_right _ (List.mem_append_right _ (List.mem_append_right _ (List.mem_append_right _ (List.mem_append_right _ (List.mem_append_right _ (List.mem_append_right _ (List.mem_append_right _ (List.mem_append_right _ (List.mem_append_right _ (List.mem_append_right _ (List.mem_append_right _ (List.mem_append_right _ (List.mem_append_right _ (List.mem_append_right _ (List.mem_append_right _ (List.mem_append_left _ h)))))))))))))))))))))))))))))))))))))))))))))))
theorem k_wsL_law_wsL_law_r35 : ∀ w ∈ wsL_law_r35, w ∈ wsL_law := fun w h => (List.mem_append_left _ (List.mem_append_left _ (List.mem_append_left _ (List.mem_append_left _ (List.mem_append_left _ (List.mem_append_left _ (List.mem_append_left _ (List.mem_append_left _ (List.mem_append_left _ (List.mem_append_left _ (List.mem_append_left _ (List.mem_append_left _ (List.mem_append_left _ (List.mem_append_right _ (List.mem_append_right _ (List.mem_append_right _ (List.mem_append_right _ (List.mem_append_right _ (List.mem_append_right _ (List.mem_append_right _ (List.mem_append_right _ (List.mem_append_right _ (List.mem_append_right _ (List.mem_append_right _ (List.mem_append_right _ (List.mem_append_right _ (List.mem_append_right _ (List.mem_append_right _ (List.mem_append_right _ (List.mem_append_right _ (List.mem_append_right _ (List.mem_append_right _ (List.mem_append_right _ (List.mem_append_right _ (List.mem_append_right _ (List.mem_append_right _ (List.mem_append_right _ (List.mem_append_right _ (List.mem_append_right _ (List.mem_append_right _ (List.mem_append_right _ (List.mem_append_right _ (List.mem_append_right _ (List.mem_append_right _ (List.mem_append_right _ (List.mem_append_right _ (List.mem_append_right _ (List.mem_append_left _ h))))))))))))))))))))))))))))))))))))))))))))))))
theorem k_wsL_law_wsL_law_r36 : ∀ w ∈ wsL_law_r36, w ∈ wsL_law := fun w h => (List.mem_append_left _ (List.mem_append_left _ (List.mem_append_left _ (List.mem_append_left _ (List.mem_append_left _ (List.mem_append_left _ (List.mem_append_left _ (List.mem_append_left _ (List.mem_append_left _ (List.mem_append_left _ (List.mem_append_left _ (List.mem_append_left _ (List.mem_append_left _ (List.mem_append_right _ (List.mem_append_right _ (List.mem_append_right _ (List.mem_append_right _ (List.mem_append_right _ (List.mem_append_right _ (List.mem_append_right _ (List.mem_append_right _ (List.mem_append_right _ (List.mem_append_right _ (List.mem_append_right _ (List.mem_append_right _ (List.mem_append_right _ (List.mem_append_right _ (List.mem_append_right _ (List.mem_append_right _ (List.mem_append_right _ (List.mem_append_right _ (List.mem_append_right _ (List.mem_append_right _ (List.mem_append_right _ (List.mem_append_right _ (List.mem_append_right _ (List.mem_append_right _ (List.mem_append_right _ (List.mem_append_right _ (List.mem_append_right _ (List.mem_append_right _ (List.mem_append_right _ (List.mem_append_right _ (List.mem_append_right _ (List.mem_append_right _ (List.mem_append_right _ (List.mem_append_right _ (List.mem_append_right _ (List.mem_append_left _ h)))))))))))))))))))))))))))))))))))))))))))))))))
theorem k_wsL_law_wsL_law_r37 : ∀ w ∈ wsL_law_r37, w ∈ wsL_law := fun w h => (List.mem_append_left _ (List.mem_append_left _ (List.mem_append_left _ (List.mem_append_left _ (List.mem_append_left _ (List.mem_append_left _ (List.mem_append_left _ (List.mem_append_left _ (List.mem_append_left _ (List.mem_append_left _ (List.mem_append_left _ (List.mem_append_left _ (List.mem_append_left _ (List.mem_append_right _ (List.mem_append_right _ (List.mem_append_right _ (List.mem_append_right _ (List.mem_append_right _ (List.mem_append_right _ (List.mem_append_right _ (List.mem_append_right _ (List.mem_append_right _ (List.mem_append_right _ (List.mem_append_right _ (List.mem_append_right _ (List.mem_append_right _ (List.mem_append_right _ (List.mem_append_right _ (List.mem_append_right _ (List.mem_append_right _ (List.mem_append_right _ (List.mem_append_right _ (List.mem_append_right _ (List.mem_append_right _ (List.mem_append_right _ (List.mem_append_right _ (List.mem_append_right _ (List.mem_append_right _ (List.mem_append_right _ (List.mem_append_right _ (List.mem_append_right _ (List.mem_append_right _ (List.mem_append_right _ (List.mem_append_right _ (List.mem_append_right _ (List.mem_append_right _ (List.mem_append_right _ (List.mem_append_right _ (List.mem_append_right _ (List.mem_append_left _ h))))))))))))))))))))))))))))))))))))))))))))))))))
theorem k_wsL_law_wsL_law_r38 : ∀ w ∈ wsL_law_r38, w ∈ wsL_law := fun w h => (List.mem_append_left _ (List.mem_append_left _ (List.mem_append_left _ (List.mem_append_left _ (List.mem_append_left _ (List.mem_append_left _ (List.mem_append_left _ (List.mem_append_left _ (List.mem_append_left _ (List.mem_append_left _ (List.mem_append_left _ (List.mem_append_left _ (List.mem_append_left _ (List.mem_append_right _ (List.mem_append_right _ (List.mem_append_right _ (List.mem_append_right _ (List.mem_append_right _ (List.mem_append_right _ (List.mem_append_right _ (List.mem_append_right _ (List.mem_append_right _ (List.mem_append_right _ (List.mem_append_right _ (List.mem_append_right _ (List.mem_append_right _ (List.mem_append_right _ (List.mem_append_right _ (List.mem_append_right _ (List.mem_append_right _ (List.mem_append_right _ (List.mem_append_right _ (List.mem_append_right _ (List.mem_append_right _ (List.mem_append_right _ (List.mem_append_right _ (List.mem_append_right _ (List.mem_append_right _ (List.mem_append_right _ (List.mem_append_right _ (List.mem_append_right _ (List.mem_append_right _ (List.mem_append_right _ (List.mem_append_right _ (List.mem_append_right _ (List.mem_append_right _ (List.mem_append_right _ (List.mem_append_right _ (List.mem_append_right _ (List.mem_append_right _ (List.mem_append_left _ h)))))))))))))))))))))))))))))))))))))))))))))))))))
theorem k_wsL_law_wsL_law_r39 : ∀ w ∈ wsL_law_r39, w ∈ wsL_law := fun w h => (List.mem_append_left _ (List.mem_append_left _ (List.mem_append_left _ (List.mem_append_left _ (List.mem_append_left _ (List.mem_append_left _ (List.mem_append_left _ (List.mem_append_left _ (List.mem_append_left _ (List.mem_append_left _ (List.mem_append_left _ (List.mem_append_left _ (List.mem_append_left _ (List.mem_append_right _ (List.mem_append_right _ (List.mem_append_right _ (List.mem_append_right _ (List.mem_append_right _ (List.mem_append_right _ (List.mem_append_right _ (List.mem_append_right _ (List.mem_append_right _ (List.mem_append_right _ (List.mem_append_right _ (List.mem_append_right _ (List.mem_append_right _ (List.mem_append_right _ (List.mem_append_right _ (List.mem_append_right _ (List.mem_append_right _ (List.mem_append_right _ (List.mem_append_right _ (List.mem_append_right _ (List.mem_append_right _ (List.mem_append_right _ (List.mem_append_right _ (List.mem_append_right _ (List.mem_append_right _ (List.mem_append_right _ (List.mem_append_right _ (List.mem_append_right _ (List.mem_append_right _ (List.mem_append_right _ (List.mem_append_right _ (List.mem_append_right _ (List.mem_append_right _ (List.mem_append_right _ (List.mem_append_right _ (List.mem_append_right _ (List.mem_append_right _ (List.mem_append_right _ (List.mem_append_left _ h))))))))))))))))))))))))))))))))))))))))))))))))))))
theorem k_wsL_law_wsL_law_r40 : ∀ w ∈ wsL_law_r40, w ∈ wsL_law := fun w h => (List.mem_append_left _ (List.mem_append_left _ (List.mem_append_left _ (List.mem_append_left _ (List.mem_append_left _ (List.mem_append_left _ (List.mem_append_left _ (List.mem_append_left _ (List.mem_append_left _ (List.mem_append_left _ (List.mem_append_left _ (List.mem_append_left _ (List.mem_append_left _ (List.mem_append_right _ (List.mem_append_right _ (List.mem_append_right _ (List.mem_append_right _ (List.mem_append_right _ (List.mem_append_right _ (List.mem_append_right _ (List.mem_append_right _ (List.mem_append_right _ (List.mem_append_right _ (List.mem_append_right _ (List.mem_append_right _ (List.mem_append_right _ (List.mem_append_right _ (List.mem_append_right _ (List.mem_append_right _ (List.mem_append_right _ (List.mem_append_right _ (List.mem_append_right _ (List.mem_append_right _ (List.mem_append_right _ (List.mem_append_right _ (List.mem_append_right _ (List.mem_append_right _ (List.mem_append_right _ (List.mem_append_right _ (List.mem_append_right _ (List.mem_append_right _ (List.mem_append_right _ (List.mem_append_right _ (List.mem_append_right _ (List.mem_append_right _ (List.mem_append_right _ (List.mem_append_right _ (List.mem_append_right _ (List.mem_append_right _ (List.mem_append_right _ (List.mem_append_right _ (List.mem_append_right _ (List.mem_append_left _ h)))))))))))))))))))))))))))))))))))))))))))))))))))))
theorem k_wsL_law_wsL_law_r41 : ∀ w ∈ wsL_law_r41, w ∈ wsL_law := fun w h => (List.mem_append_left _ (List.mem_append_left _ (List.mem_append_left _ (List.mem_append_left _ (List.mem_append_left _ (List.mem_append_left _ (List.mem_append_left _ (List.mem_append_left _ (List.mem_append_left _ (List.mem_append_left _ (List.mem_append_left _ (List.mem_append_left _ (List.mem_append_left _ (List.mem_append_right _ (List.mem_append_right _ (List.mem_append_right _ (List.mem_append_right _ (List.mem_append_right _ (List.mem_append_right _ (List.mem_append_right _ (List.mem_append_right _ (List.mem_append_right _ (List.mem_append_right _ (List.mem_append_right _ (List.mem_append_right _ (List.mem_append_right _ (List.mem_append_right _ (List.mem_append_right _ (List.mem_append_right _ (List.mem_append_right _ (List.mem_append_right _ (List.mem_append_right _ (List.mem_append_right _ (List.mem_append_right _ (List.mem_append_right _ (List.mem_append_right _ (List.mem_append_right _ (List.mem_append_right _ (List.mem_append_right _ (List.mem_append_right _ (List.mem_append_right _ (List.mem_append_right _ (List.mem_append_right _ (List.mem_append_right _ (List.mem_append_right _ (List.mem_append_right _ (List.mem_append_right _ (List.mem_append_right _ (List.mem_append_right _ (List.mem_append_right _ (List.mem_append_right _ (List.mem_append_right _ (List.mem_append_right _ (List.mem_append_left _ h))))))))))))))))))))))))))))))))))))))))))))))))))))))
theorem k_wsL_law_wsL_law_r42 : ∀ w ∈ wsL_law_r42, w ∈ wsL_law := fun w h => (List.mem_append_left _ (List.mem_append_left _ (List.mem_append_left _ (List.mem_append_left _ (List.mem_append_left _ (List.mem_append_left _ (List.mem_append_left _ (List.mem_append_left _ (List.mem_append_left _ (List.mem_append_left _ (List.mem_append_left _ (List.mem_append_left _ (List.mem_append_left _ (List.mem_append_right _ (List.mem_append_right _ (List.mem_append_right _ (List.mem_append_right _ (List.mem_append_right _ (List.mem_append_right _ (List.mem_append_right _ (List.mem_append_right _ (List.mem_append_right _ (List.mem_append_right _ (List.mem_append_right _ (List.mem_append_right _ (List.mem_append_right _ (List.mem_append_right _ (List.mem_append_right _ (List.mem_append_right _ (List.mem_append_right _ (List.mem_append_right _ (List.mem_append_right _ (List.mem_append_right _ (List.mem_append_right _ (List.mem_append_right _ (List.mem_append_right _ (List.mem_append_right _ (List.mem_append_right _ (List.mem_append_right _ (List.mem_append_right _ (List.mem_append_right _ (List.mem_append_right _ (List.mem_append_right _ (List.mem_append_right _ (List.mem_append_right _ (List.mem_append_right _ (List.mem_append_right _ (List.mem_append_right _ (List.mem_append_right _ (List.mem_append_right _ (List.mem_append_right _ (List.mem_append_right _ (List.mem_append_right _ (List.mem_append_right _ (List.mem_append_left _ h)))))))))))))))))))))))))))))))))))))))))))))))))))))))
theorem k_wsL_law_wsL_law_r43 : ∀ w ∈ wsL_law_r43, w ∈ wsL_law := fun w h => (List.mem_append_left _ (List.mem_append_left _ (List.mem_append_left _ (List.mem_append_left _ (List.mem_append_left _ (List.mem_append_left _ (List.mem_append_left _ (List.mem_append_left _ (List.mem_append_left _ (List.mem_append_left _ (List.mem_append_left _ (List.mem_append_left _ (List.mem_append_left _ (List.mem_append_right _ (List.mem_append_right _ (List.mem_append_right _ (List.mem_append_right _ (List.mem_append_right _ (List.mem_append_right _ (List.mem_append_right _ (List.mem_append_right _ (List.mem_append_right _ (List.mem_append_right _ (List.mem_append_right _ (List.mem_append_right _ (List.mem_append_right _ (List.mem_append_right _ (List.mem_append_right _ (List.mem_append_right _ (List.mem_append_right _ (List.mem_append_right _ (List.mem_append_right _ (List.mem_append_right _ (List.mem_append_right _ (List.mem_append_right _ (List.mem_append_right _ (List.mem_append_right _ (List.mem_append_right _ (List.mem_append_right _ (List.mem_append_right _ (List.mem_append_right _ (List.mem_append_right _ (List.mem_append_right _ (List.mem_append_right _ (List.mem_append_right _ (List.mem_append_right _ (List.mem_append_right _ (List.mem_append_right _ (List.mem_append_right _ (List.mem_append_right _ (List.mem_append_right _ (List.mem_append_right _ (List.mem_append_right _ (List.mem_append_right _ (List.mem_append_right _ h)))))))))))))))))))))))))))))))))))))))))))))))))))))))
end
section
theorem dX0_init_0 : decode cX0_init 0 = .ok (.aload_n 0, 1) := by decide +kernel
theorem dX0_init_1 : decode cX0_init 1 = .ok (.invokespecial 3, 3) := by decide +kernel
theorem dX0_init_4 : decode cX0_init 4 = .ok (.return_, 1) := by decide +kernel
theorem ggX0_make_X3_sizeOf : GoodIn wsX0_make wsX3_sizeOf := goodIn_sub (fun w h => (List.mem_cons.mp h).elim (fun e => ft_me e (k_wsX0_make_wsX0_make_r1 _ (List.mem_of_getElem? (i := 17) rfl))) (fun h => (List.mem_append.mp h).elim (fun h => (List.forall_mem_cons.mpr ⟨(k_wsX0_make_wsX0_make_r1 _ (List.mem_of_getElem? (i := 18) rfl)), List.forall_mem_cons.mpr ⟨(k_wsX0_make_wsX0_make_r1 _ (List.mem_of_getElem? (i := 19) rfl)), List.forall_mem_cons.mpr ⟨(k_wsX0_make_wsX0_make_r1 _ (List.mem_of_getElem? (i := 20) rfl)), List.forall_mem_cons.mpr ⟨(k_wsX0_make_wsX0_make_r1 _ (List.mem_of_getElem? (i := 21) rfl)), List.forall_mem_cons.mpr ⟨(k_wsX0_make_wsX0_make_r1 _ (List.mem_of_getElem? (i := 22) rfl)), List.forall_mem_cons.mpr ⟨(k_wsX0_make_wsX0_make_r1 _ (List.mem_of_getElem? (i := 23) rfl)), List.forall_mem_cons.mpr ⟨(k_wsX0_make_wsX0_make_r2 _ (List.mem_of_getElem? (i := 0) rfl)), List.forall_mem_cons.mpr ⟨(k_wsX0_make_wsX0_make_r2 _ (List.mem_of_getElem? (i := 1) rfl)), fun _ h => absurd h List.not_mem_nil⟩⟩⟩⟩⟩⟩⟩⟩) w h) (fun h => k_wsX0_make_wsX30 w h))) gw_wsX3_sizeOf
theorem gX0_make_X3_sizeOf : GoodIn wsX0_make (wsV RX0 29 RX3 yX3_sizeOf wsX3_sizeOf) := goodIn_app (goodIn_sub (List.forall_mem_cons.mpr ⟨(k_wsX0_make_wsX0_make_r1 _ (List.mem_of_getElem? (i := 13) rfl)), List.forall_mem_cons.mpr ⟨(k_wsX0_make_wsX0_make_r1 _ (List.mem_of_getElem? (i := 14) rfl)), List.forall_mem_cons.mpr ⟨(k_wsX0_make_wsX0_make_r1 _ (List.mem_of_getElem? (i := 15) rfl)), List.forall_mem_cons.mpr ⟨(k_wsX0_make_wsX0_make_r1 _ (List.mem_of_getElem? (i := 16) rfl)), fun _ h => absurd h List.not_mem_nil⟩⟩⟩⟩) (by decide +kernel)) ggX0_make_X3_sizeOf
theorem ggX0_make_X10_at : GoodIn wsX0_make wsX10_at := goodIn_sub (fun w h => (List.mem_cons.mp h).elim (fun e => ft_me e (k_wsX0_make_wsX0_make_r2 _ (List.mem_of_getElem? (i := 1) rfl))) (fun h => absurd h List.not_mem_nil)) gw_wsX10_at
theorem gX0_make_X10_at_n45 : GoodIn wsX0_make (wsX10_at) := ggX0_make_X10_at
theorem ggX0_make_X3_valueAt : GoodIn wsX0_make wsX3_valueAt := goodIn_sub (fun w h => (List.mem_cons.mp h).elim (fun e => ft_me e (k_wsX0_make_wsX0_make_r2 _ (List.mem_of_getElem? (i := 5) rfl))) (fun h => (List.mem_append.mp h).elim (fun h => (List.forall_mem_cons.mpr ⟨(k_wsX0_make_wsX0_make_r2 _ (List.mem_of_getElem? (i := 6) rfl)), List.forall_mem_cons.mpr ⟨(k_wsX0_make_wsX0_make_r1 _ (List.mem_of_getElem? (i := 19) rfl)), List.forall_mem_cons.mpr ⟨(k_wsX0_make_wsX0_make_r1 _ (List.mem_of_getElem? (i := 20) rfl)), List.forall_mem_cons.mpr ⟨(k_wsX0_make_wsX0_make_r1 _ (List.mem_of_getElem? (i := 21) rfl)), List.forall_mem_cons.mpr ⟨(k_wsX0_make_wsX0_make_r1 _ (List.mem_of_getElem? (i := 22) rfl)), List.forall_mem_cons.mpr ⟨(k_wsX0_make_wsX0_make_r1 _ (List.mem_of_getElem? (i := 23) rfl)), List.forall_mem_cons.mpr ⟨(k_wsX0_make_wsX0_make_r2 _ (List.mem_of_getElem? (i := 0) rfl)), List.forall_mem_cons.mpr ⟨(k_wsX0_make_wsX0_make_r2 _ (List.mem_of_getElem? (i := 1) rfl)), fun _ h => absurd h List.not_mem_nil⟩⟩⟩⟩⟩⟩⟩⟩) w h) (fun h => k_wsX0_make_wsX30 w h))) gw_wsX3_valueAt
theorem gX0_make_X3_valueAt : GoodIn wsX0_make (wsV RX0 49 RX3 yX3_valueAt wsX3_valueAt) := goodIn_app (goodIn_sub (List.forall_mem_cons.mpr ⟨(k_wsX0_make_wsX0_make_r2 _ (List.mem_of_getElem? (i := 2) rfl)), List.forall_mem_cons.mpr ⟨(k_wsX0_make_wsX0_make_r2 _ (List.mem_of_getElem? (i := 3) rfl)), List.forall_mem_cons.mpr ⟨(k_wsX0_make_wsX0_make_r2 _ (List.mem_of_getElem? (i := 4) rfl)), List.forall_mem_cons.mpr ⟨(k_wsX0_make_wsX0_make_r1 _ (List.mem_of_getElem? (i := 16) rfl)), fun _ h => absurd h List.not_mem_nil⟩⟩⟩⟩) (by decide +kernel)) ggX0_make_X3_valueAt
theorem ggX0_make_X0_note : GoodIn wsX0_make wsX0_note := goodIn_sub (fun w h => (List.mem_cons.mp h).elim (fun e => ft_me e (k_wsX0_make_wsX0_make_r2 _ (List.mem_of_getElem? (i := 11) rfl))) (fun h => (List.mem_append.mp h).elim (fun h => (List.forall_mem_cons.mpr ⟨(k_wsX0_make_wsX0_make_r1 _ (List.mem_of_getElem? (i := 0) rfl)), List.forall_mem_cons.mpr ⟨(k_wsX0_make_wsX0_make_r1 _ (List.mem_of_getElem? (i := 1) rfl)), List.forall_mem_cons.mpr ⟨(k_wsX0_make_wsX0_make_r1 _ (List.mem_of_getElem? (i := 2) rfl)), List.forall_mem_cons.mpr ⟨(k_wsX0_make_wsX0_make_r1 _ (List.mem_of_getElem? (i := 3) rfl)), fun _ h => absurd h List.not_mem_nil⟩⟩⟩⟩) w h) (fun h => k_wsX0_make_wsX00 w h))) gw_wsX0_note
theorem gX0_make_X0_note : GoodIn wsX0_make (wsV RX0 55 RX0 yX0_note wsX0_note) := goodIn_app (goodIn_sub (List.forall_mem_cons.mpr ⟨(k_wsX0_make_wsX0_make_r2 _ (List.mem_of_getElem? (i := 7) rfl)), List.forall_mem_cons.mpr ⟨(k_wsX0_make_wsX0_make_r2 _ (List.mem_of_getElem? (i := 8) rfl)), List.forall_mem_cons.mpr ⟨(k_wsX0_make_wsX0_make_r2 _ (List.mem_of_getElem? (i := 9) rfl)), List.forall_mem_cons.mpr ⟨(k_wsX0_make_wsX0_make_r2 _ (List.mem_of_getElem? (i := 10) rfl)), fun _ h => absurd h List.not_mem_nil⟩⟩⟩⟩) (by decide +kernel)) ggX0_make_X0_note
theorem dX0_make_0 : decode cX0_make 0 = .ok (.aload_n 0, 1) := by decide +kernel
theorem dX0_make_1 : decode cX0_make 1 = .ok (.iconst (-1), 1) := by decide +kernel
theorem dX0_make_2 : decode cX0_make 2 = .ok (.putfield 9, 3) := by decide +kernel
theorem dX0_make_5 : decode cX0_make 5 = .ok (.aload_n 0, 1) := by decide +kernel
theorem dX0_make_6 : decode cX0_make 6 = .ok (.iconst 0, 1) := by decide +kernel
theorem dX0_make_7 : decode cX0_make 7 = .ok (.putfield 15, 3) := by decide +kernel
theorem dX0_make_10 : decode cX0_make 10 = .ok (.aload_n 0, 1) := by decide +kernel
theorem dX0_make_11 : decode cX0_make 11 = .ok (.iconst 0, 1) := by decide +kernel
theorem dX0_make_12 : decode cX0_make 12 = .ok (.putfield 18, 3) := by decide +kernel
theorem dX0_make_15 : decode cX0_make 15 = .ok (.aload_n 0, 1) := by decide +kernel
theorem dX0_make_16 : decode cX0_make 16 = .ok (.iconst 0, 1) := by decide +kernel
theorem dX0_make_17 : decode cX0_make 17 = .ok (.putfield 21, 3) := by decide +kernel
theorem dX0_make_20 : decode cX0_make 20 = .ok (.aload_n 1, 1) := by decide +kernel
theorem dX0_make_21 : decode cX0_make 21 = .ok (.getfield 24, 3) := by decide +kernel
theorem dX0_make_24 : decode cX0_make 24 = .ok (.aload_n 2, 1) := by decide +kernel
theorem dX0_make_25 : decode cX0_make 25 = .ok (.iload_n 3, 1) := by decide +kernel
theorem dX0_make_26 : decode cX0_make 26 = .ok (.invokevirtual 29, 3) := by decide +kernel
theorem dX0_make_29 : decode cX0_make 29 = .ok (.invokestatic 35, 3) := by decide +kernel
theorem dX0_make_32 : decode cX0_make 32 = .ok (.istore 5, 2) := by decide +kernel
theorem dX0_make_34 : decode cX0_make 34 = .ok (.iconst 0, 1) := by decide +kernel
theorem dX0_make_35 : decode cX0_make 35 = .ok (.istore 6, 2) := by decide +kernel
theorem dX0_make_37 : decode cX0_make 37 = .ok (.iload 6, 2) := by decide +kernel
theorem dX0_make_39 : decode cX0_make 39 = .ok (.iload 5, 2) := by decide +kernel
theorem dX0_make_41 : decode cX0_make 41 = .ok (.if_icmp .ge 37, 3) := by decide +kernel
theorem dX0_make_44 : decode cX0_make 44 = .ok (.aload_n 0, 1) := by decide +kernel
theorem dX0_make_45 : decode cX0_make 45 = .ok (.iload 6, 2) := by decide +kernel
theorem dX0_make_47 : decode cX0_make 47 = .ok (.aload_n 1, 1) := by decide +kernel
theorem dX0_make_48 : decode cX0_make 48 = .ok (.getfield 41, 3) := by decide +kernel
theorem dX0_make_51 : decode cX0_make 51 = .ok (.iload 6, 2) := by decide +kernel
theorem dX0_make_53 : decode cX0_make 53 = .ok (.invokestatic 45, 3) := by decide +kernel
theorem dX0_make_56 : decode cX0_make 56 = .ok (.aload_n 2, 1) := by decide +kernel
theorem dX0_make_57 : decode cX0_make 57 = .ok (.iload_n 3, 1) := by decide +kernel
theorem dX0_make_58 : decode cX0_make 58 = .ok (.iload 6, 2) := by decide +kernel
theorem dX0_make_60 : decode cX0_make 60 = .ok (.invokevirtual 49, 3) := by decide +kernel
theorem dX0_make_63 : decode cX0_make 63 = .ok (.isub, 1) := by decide +kernel
theorem dX0_make_64 : decode cX0_make 64 = .ok (.invokestatic 52, 3) := by decide +kernel
theorem dX0_make_67 : decode cX0_make 67 = .ok (.iload 4, 2) := by decide +kernel
theorem dX0_make_69 : decode cX0_make 69 = .ok (.invokevirtual 55, 3) := by decide +kernel
theorem dX0_make_72 : decode cX0_make 72 = .ok (.iinc 6 1, 3) := by decide +kernel
theorem dX0_make_75 : decode cX0_make 75 = .ok (.goto (-38), 3) := by decide +kernel
theorem dX0_make_78 : decode cX0_make 78 = .ok (.return_, 1) := by decide +kernel
theorem dX0_note_0 : decode cX0_note 0 = .ok (.iload_n 2, 1) := by decide +kernel
theorem dX0_note_1 : decode cX0_note 1 = .ok (.iload_n 3, 1) := by decide +kernel
theorem dX0_note_2 : decode cX0_note 2 = .ok (.if_icmp .le 33, 3) := by decide +kernel
theorem dX0_note_5 : decode cX0_note 5 = .ok (.aload_n 0, 1) := by decide +kernel
theorem dX0_note_6 : decode cX0_note 6 = .ok (.aload_n 0, 1) := by decide +kernel
theorem dX0_note_7 : decode cX0_note 7 = .ok (.getfield 9, 3) := by decide +kernel
theorem dX0_note_10 : decode cX0_note 10 = .ok (.iconst (-1), 1) := by decide +kernel
theorem dX0_note_11 : decode cX0_note 11 = .ok (.if_icmp .ne 7, 3) := by decide +kernel
theorem dX0_note_14 : decode cX0_note 14 = .ok (.iload_n 1, 1) := by decide +kernel
theorem dX0_note_15 : decode cX0_note 15 = .ok (.goto 7, 3) := by decide +kernel
theorem dX0_note_18 : decode cX0_note 18 = .ok (.aload_n 0, 1) := by decide +kernel
theorem dX0_note_19 : decode cX0_note 19 = .ok (.getfield 9, 3) := by decide +kernel
theorem dX0_note_22 : decode cX0_note 22 = .ok (.putfield 9, 3) := by decide +kernel
theorem dX0_note_25 : decode cX0_note 25 = .ok (.aload_n 0, 1) := by decide +kernel
theorem dX0_note_26 : decode cX0_note 26 = .ok (.dup, 1) := by decide +kernel
theorem dX0_note_27 : decode cX0_note 27 = .ok (.getfield 15, 3) := by decide +kernel
theorem dX0_note_30 : decode cX0_note 30 = .ok (.iconst 1, 1) := by decide +kernel
theorem dX0_note_31 : decode cX0_note 31 = .ok (.iadd, 1) := by decide +kernel
theorem dX0_note_32 : decode cX0_note 32 = .ok (.putfield 15, 3) := by decide +kernel
theorem dX0_note_35 : decode cX0_note 35 = .ok (.iload_n 2, 1) := by decide +kernel
theorem dX0_note_36 : decode cX0_note 36 = .ok (.aload_n 0, 1) := by decide +kernel
theorem dX0_note_37 : decode cX0_note 37 = .ok (.getfield 18, 3) := by decide +kernel
theorem dX0_note_40 : decode cX0_note 40 = .ok (.if_icmp .le 13, 3) := by decide +kernel
theorem dX0_note_43 : decode cX0_note 43 = .ok (.aload_n 0, 1) := by decide +kernel
theorem dX0_note_44 : decode cX0_note 44 = .ok (.iload_n 2, 1) := by decide +kernel
theorem dX0_note_45 : decode cX0_note 45 = .ok (.putfield 18, 3) := by decide +kernel
theorem dX0_note_48 : decode cX0_note 48 = .ok (.aload_n 0, 1) := by decide +kernel
theorem dX0_note_49 : decode cX0_note 49 = .ok (.iload_n 1, 1) := by decide +kernel
theorem dX0_note_50 : decode cX0_note 50 = .ok (.putfield 21, 3) := by decide +kernel
theorem dX0_note_53 : decode cX0_note 53 = .ok (.return_, 1) := by decide +kernel
theorem dX1_init_0 : decode cX1_init 0 = .ok (.aload_n 0, 1) := by decide +kernel
theorem dX1_init_1 : decode cX1_init 1 = .ok (.invokespecial 3, 3) := by decide +kernel
theorem dX1_init_4 : decode cX1_init 4 = .ok (.aload_n 0, 1) := by decide +kernel
theorem dX1_init_5 : decode cX1_init 5 = .ok (.bipush 11, 2) := by decide +kernel
theorem dX1_init_7 : decode cX1_init 7 = .ok (.newarray .int, 2) := by decide +kernel
theorem dX1_init_9 : decode cX1_init 9 = .ok (.putfield 9, 3) := by decide +kernel
theorem dX1_init_12 : decode cX1_init 12 = .ok (.aload_n 0, 1) := by decide +kernel
theorem dX1_init_13 : decode cX1_init 13 = .ok (.bipush 11, 2) := by decide +kernel
theorem dX1_init_15 : decode cX1_init 15 = .ok (.newarray .int, 2) := by decide +kernel
theorem dX1_init_17 : decode cX1_init 17 = .ok (.putfield 15, 3) := by decide +kernel
theorem dX1_init_20 : decode cX1_init 20 = .ok (.aload_n 0, 1) := by decide +kernel
theorem dX1_init_21 : decode cX1_init 21 = .ok (.bipush 55, 2) := by decide +kernel
theorem dX1_init_23 : decode cX1_init 23 = .ok (.newarray .int, 2) := by decide +kernel
theorem dX1_init_25 : decode cX1_init 25 = .ok (.putfield 18, 3) := by decide +kernel
theorem dX1_init_28 : decode cX1_init 28 = .ok (.aload_n 0, 1) := by decide +kernel
theorem dX1_init_29 : decode cX1_init 29 = .ok (.bipush 55, 2) := by decide +kernel
theorem dX1_init_31 : decode cX1_init 31 = .ok (.newarray .int, 2) := by decide +kernel
theorem dX1_init_33 : decode cX1_init 33 = .ok (.putfield 21, 3) := by decide +kernel
theorem dX1_init_36 : decode cX1_init 36 = .ok (.aload_n 0, 1) := by decide +kernel
theorem dX1_init_37 : decode cX1_init 37 = .ok (.bipush 55, 2) := by decide +kernel
theorem dX1_init_39 : decode cX1_init 39 = .ok (.newarray .int, 2) := by decide +kernel
theorem dX1_init_41 : decode cX1_init 41 = .ok (.putfield 24, 3) := by decide +kernel
theorem dX1_init_44 : decode cX1_init 44 = .ok (.return_, 1) := by decide +kernel
theorem ggX1_find_X1_findReflections : GoodIn wsX1_find wsX1_findReflections := goodIn_sub (fun w h => (List.mem_cons.mp h).elim (fun e => ft_me e (k_wsX1_find_wsX1_find_r1 _ (List.mem_of_getElem? (i := 8) rfl))) (fun h => (List.mem_append.mp h).elim (fun h => (List.mem_append.mp h).elim (fun h => (List.forall_mem_cons.mpr ⟨(k_wsX1_find_wsX1_find_r1 _ (List.mem_of_getElem? (i := 1) rfl)), List.forall_mem_cons.mpr ⟨(k_wsX1_find_wsX1_find_r1 _ (List.mem_of_getElem? (i := 9) rfl)), List.forall_mem_cons.mpr ⟨(k_wsX1_find_wsX1_find_r1 _ (List.mem_of_getElem? (i := 10) rfl)), List.forall_mem_cons.mpr ⟨(k_wsX1_find_wsX1_find_r1 _ (List.mem_of_getElem? (i := 11) rfl)), List.forall_mem_cons.mpr ⟨(k_wsX1_find_wsX1_find_r1 _ (List.mem_of_getElem? (i := 12) rfl)), List.forall_mem_cons.mpr ⟨(k_wsX1_find_wsX1_find_r1 _ (List.mem_of_getElem? (i := 13) rfl)), List.forall_mem_cons.mpr ⟨(k_wsX1_find_wsX1_find_r1 _ (List.mem_of_getElem? (i := 14) rfl)), List.forall_mem_cons.mpr ⟨(k_wsX1_find_wsX1_find_r1 _ (List.mem_of_getElem? (i := 15) rfl)), List.forall_mem_cons.mpr ⟨(k_wsX1_find_wsX1_find_r1 _ (List.mem_of_getElem? (i := 16) rfl)), List.forall_mem_cons.mpr ⟨(k_wsX1_find_wsX1_find_r1 _ (List.mem_of_getElem? (i := 17) rfl)), List.forall_mem_cons.mpr ⟨(k_wsX1_find_wsX1_find_r1 _ (List.mem_of_getElem? (i := 18) rfl)), List.forall_mem_cons.mpr ⟨(k_wsX1_find_wsX1_find_r1 _ (List.mem_of_getElem? (i := 19) rfl)), List.forall_mem_cons.mpr ⟨(k_wsX1_find_wsX1_find_r1 _ (List.mem_of_getElem? (i := 20) rfl)), List.forall_mem_cons.mpr ⟨(k_wsX1_find_wsX1_find_r1 _ (List.mem_of_getElem? (i := 7) rfl)), List.forall_mem_cons.mpr ⟨(k_wsX1_find_wsX1_find_r1 _ (List.mem_of_getElem? (i := 21) rfl)), List.forall_mem_cons.mpr ⟨(k_wsX1_find_wsX1_find_r1 _ (List.mem_of_getElem? (i := 3) rfl)), List.forall_mem_cons.mpr ⟨(k_wsX1_find_wsX1_find_r1 _ (List.mem_of_getElem? (i := 2) rfl)), List.forall_mem_cons.mpr ⟨(k_wsX1_find_wsX1_find_r1 _ (List.mem_of_getElem? (i := 22) rfl)), List.forall_mem_cons.mpr ⟨(k_wsX1_find_wsX1_find_r1 _ (List.mem_of_getElem? (i := 23) rfl)), fun _ h => absurd h List.not_mem_nil⟩⟩⟩⟩⟩⟩⟩⟩⟩⟩⟩⟩⟩⟩⟩⟩⟩⟩⟩) w h) (fun h => k_wsX1_find_wsX10 w h)) (fun h => k_wsX1_find_wsX40 w h))) gw_wsX1_findReflections
theorem gX1_find_X1_findReflections : GoodIn wsX1_find (wsV RX1 27 RX1 yX1_findReflections wsX1_findReflections) := goodIn_app (goodIn_sub (List.forall_mem_cons.mpr ⟨(k_wsX1_find_wsX1_find_r1 _ (List.mem_of_getElem? (i := 4) rfl)), List.forall_mem_cons.mpr ⟨(k_wsX1_find_wsX1_find_r1 _ (List.mem_of_getElem? (i := 5) rfl)), List.forall_mem_cons.mpr ⟨(k_wsX1_find_wsX1_find_r1 _ (List.mem_of_getElem? (i := 6) rfl)), List.forall_mem_cons.mpr ⟨(k_wsX1_find_wsX1_find_r1 _ (List.mem_of_getElem? (i := 7) rfl)), fun _ h => absurd h List.not_mem_nil⟩⟩⟩⟩) (by decide +kernel)) ggX1_find_X1_findReflections
theorem ggX1_find_X10_at : GoodIn wsX1_find wsX10_at := goodIn_sub (fun w h => (List.mem_cons.mp h).elim (fun e => ft_me e (k_wsX1_find_wsX1_find_r1 _ (List.mem_of_getElem? (i := 17) rfl))) (fun h => absurd h List.not_mem_nil)) gw_wsX10_at
theorem gX1_find_X10_at_n38 : GoodIn wsX1_find (wsX10_at) := ggX1_find_X10_at
theorem ggX1_find_X1_addGhost : GoodIn wsX1_find wsX1_addGhost := goodIn_sub (fun w h => (List.mem_cons.mp h).elim (fun e => ft_me e (k_wsX1_find_wsX1_find_r2 _ (List.mem_of_getElem? (i := 3) rfl))) (fun h => (List.mem_append.mp h).elim (fun h => (List.forall_mem_cons.mpr ⟨(k_wsX1_find_wsX1_find_r1 _ (List.mem_of_getElem? (i := 0) rfl)), List.forall_mem_cons.mpr ⟨(k_wsX1_find_wsX1_find_r2 _ (List.mem_of_getElem? (i := 4) rfl)), List.forall_mem_cons.mpr ⟨(k_wsX1_find_wsX1_find_r2 _ (List.mem_of_getElem? (i := 5) rfl)), List.forall_mem_cons.mpr ⟨(k_wsX1_find_wsX1_find_r2 _ (List.mem_of_getElem? (i := 6) rfl)), List.forall_mem_cons.mpr ⟨(k_wsX1_find_wsX1_find_r2 _ (List.mem_of_getElem? (i := 7) rfl)), List.forall_mem_cons.mpr ⟨(k_wsX1_find_wsX1_find_r2 _ (List.mem_of_getElem? (i := 8) rfl)), List.forall_mem_cons.mpr ⟨(k_wsX1_find_wsX1_find_r2 _ (List.mem_of_getElem? (i := 9) rfl)), List.forall_mem_cons.mpr ⟨(k_wsX1_find_wsX1_find_r1 _ (List.mem_of_getElem? (i := 7) rfl)), List.forall_mem_cons.mpr ⟨(k_wsX1_find_wsX1_find_r2 _ (List.mem_of_getElem? (i := 10) rfl)), List.forall_mem_cons.mpr ⟨(k_wsX1_find_wsX1_find_r1 _ (List.mem_of_getElem? (i := 15) rfl)), List.forall_mem_cons.mpr ⟨(k_wsX1_find_wsX1_find_r1 _ (List.mem_of_getElem? (i := 16) rfl)), List.forall_mem_cons.mpr ⟨(k_wsX1_find_wsX1_find_r1 _ (List.mem_of_getElem? (i := 17) rfl)), List.forall_mem_cons.mpr ⟨(k_wsX1_find_wsX1_find_r2 _ (List.mem_of_getElem? (i := 11) rfl)), List.forall_mem_cons.mpr ⟨(k_wsX1_find_wsX1_find_r2 _ (List.mem_of_getElem? (i := 12) rfl)), List.forall_mem_cons.mpr ⟨(k_wsX1_find_wsX1_find_r2 _ (List.mem_of_getElem? (i := 13) rfl)), List.forall_mem_cons.mpr ⟨(k_wsX1_find_wsX1_find_r2 _ (List.mem_of_getElem? (i := 14) rfl)), List.forall_mem_cons.mpr ⟨(k_wsX1_find_wsX1_find_r1 _ (List.mem_of_getElem? (i := 22) rfl)), List.forall_mem_cons.mpr ⟨(k_wsX1_find_wsX1_find_r1 _ (List.mem_of_getElem? (i := 23) rfl)), fun _ h => absurd h List.not_mem_nil⟩⟩⟩⟩⟩⟩⟩⟩⟩⟩⟩⟩⟩⟩⟩⟩⟩⟩) w h) (fun h => k_wsX1_find_wsX10 w h))) gw_wsX1_addGhost
theorem gX1_find_X1_addGhost : GoodIn wsX1_find (wsV RX1 42 RX1 yX1_addGhost wsX1_addGhost) := goodIn_app (goodIn_sub (List.forall_mem_cons.mpr ⟨(k_wsX1_find_wsX1_find_r2 _ (List.mem_of_getElem? (i := 0) rfl)), List.forall_mem_cons.mpr ⟨(k_wsX1_find_wsX1_find_r2 _ (List.mem_of_getElem? (i := 1) rfl)), List.forall_mem_cons.mpr ⟨(k_wsX1_find_wsX1_find_r2 _ (List.mem_of_getElem? (i := 2) rfl)), List.forall_mem_cons.mpr ⟨(k_wsX1_find_wsX1_find_r1 _ (List.mem_of_getElem? (i := 7) rfl)), fun _ h => absurd h List.not_mem_nil⟩⟩⟩⟩) (by decide +kernel)) ggX1_find_X1_addGhost
theorem dX1_find_0 : decode cX1_find 0 = .ok (.aload_n 0, 1) := by decide +kernel
theorem dX1_find_1 : decode cX1_find 1 = .ok (.aload_n 1, 1) := by decide +kernel
theorem dX1_find_2 : decode cX1_find 2 = .ok (.invokevirtual 27, 3) := by decide +kernel
theorem dX1_find_5 : decode cX1_find 5 = .ok (.aload_n 0, 1) := by decide +kernel
theorem dX1_find_6 : decode cX1_find 6 = .ok (.iconst 0, 1) := by decide +kernel
theorem dX1_find_7 : decode cX1_find 7 = .ok (.putfield 31, 3) := by decide +kernel
theorem dX1_find_10 : decode cX1_find 10 = .ok (.iconst 0, 1) := by decide +kernel
theorem dX1_find_11 : decode cX1_find 11 = .ok (.istore_n 3, 1) := by decide +kernel
theorem dX1_find_12 : decode cX1_find 12 = .ok (.iload_n 3, 1) := by decide +kernel
theorem dX1_find_13 : decode cX1_find 13 = .ok (.aload_n 0, 1) := by decide +kernel
theorem dX1_find_14 : decode cX1_find 14 = .ok (.getfield 35, 3) := by decide +kernel
theorem dX1_find_17 : decode cX1_find 17 = .ok (.if_icmp .ge 81, 3) := by decide +kernel
theorem dX1_find_20 : decode cX1_find 20 = .ok (.iload_n 3, 1) := by decide +kernel
theorem dX1_find_21 : decode cX1_find 21 = .ok (.iconst 1, 1) := by decide +kernel
theorem dX1_find_22 : decode cX1_find 22 = .ok (.iadd, 1) := by decide +kernel
theorem dX1_find_23 : decode cX1_find 23 = .ok (.istore 4, 2) := by decide +kernel
theorem dX1_find_25 : decode cX1_find 25 = .ok (.iload 4, 2) := by decide +kernel
theorem dX1_find_27 : decode cX1_find 27 = .ok (.aload_n 0, 1) := by decide +kernel
theorem dX1_find_28 : decode cX1_find 28 = .ok (.getfield 35, 3) := by decide +kernel
theorem dX1_find_31 : decode cX1_find 31 = .ok (.if_icmp .ge 61, 3) := by decide +kernel
theorem dX1_find_34 : decode cX1_find 34 = .ok (.aload_n 0, 1) := by decide +kernel
theorem dX1_find_35 : decode cX1_find 35 = .ok (.getfield 15, 3) := by decide +kernel
theorem dX1_find_38 : decode cX1_find 38 = .ok (.iload_n 3, 1) := by decide +kernel
theorem dX1_find_39 : decode cX1_find 39 = .ok (.invokestatic 38, 3) := by decide +kernel
theorem dX1_find_42 : decode cX1_find 42 = .ok (.aload_n 0, 1) := by decide +kernel
theorem dX1_find_43 : decode cX1_find 43 = .ok (.getfield 15, 3) := by decide +kernel
theorem dX1_find_46 : decode cX1_find 46 = .ok (.iload 4, 2) := by decide +kernel
theorem dX1_find_48 : decode cX1_find 48 = .ok (.invokestatic 38, 3) := by decide +kernel
theorem dX1_find_51 : decode cX1_find 51 = .ok (.iadd, 1) := by decide +kernel
theorem dX1_find_52 : decode cX1_find 52 = .ok (.iconst 2, 1) := by decide +kernel
theorem dX1_find_53 : decode cX1_find 53 = .ok (.idiv, 1) := by decide +kernel
theorem dX1_find_54 : decode cX1_find 54 = .ok (.iload_n 2, 1) := by decide +kernel
theorem dX1_find_55 : decode cX1_find 55 = .ok (.isub, 1) := by decide +kernel
theorem dX1_find_56 : decode cX1_find 56 = .ok (.istore 5, 2) := by decide +kernel
theorem dX1_find_58 : decode cX1_find 58 = .ok (.iload 5, 2) := by decide +kernel
theorem dX1_find_60 : decode cX1_find 60 = .ok (.ifCond .le 26, 3) := by decide +kernel
theorem dX1_find_63 : decode cX1_find 63 = .ok (.aload_n 0, 1) := by decide +kernel
theorem dX1_find_64 : decode cX1_find 64 = .ok (.aload_n 0, 1) := by decide +kernel
theorem dX1_find_65 : decode cX1_find 65 = .ok (.getfield 9, 3) := by decide +kernel
theorem dX1_find_68 : decode cX1_find 68 = .ok (.iload_n 3, 1) := by decide +kernel
theorem dX1_find_69 : decode cX1_find 69 = .ok (.invokestatic 38, 3) := by decide +kernel
theorem dX1_find_72 : decode cX1_find 72 = .ok (.aload_n 0, 1) := by decide +kernel
theorem dX1_find_73 : decode cX1_find 73 = .ok (.getfield 9, 3) := by decide +kernel
theorem dX1_find_76 : decode cX1_find 76 = .ok (.iload 4, 2) := by decide +kernel
theorem dX1_find_78 : decode cX1_find 78 = .ok (.invokestatic 38, 3) := by decide +kernel
theorem dX1_find_81 : decode cX1_find 81 = .ok (.iload 5, 2) := by decide +kernel
theorem dX1_find_83 : decode cX1_find 83 = .ok (.invokevirtual 42, 3) := by decide +kernel
theorem dX1_find_86 : decode cX1_find 86 = .ok (.iinc 4 1, 3) := by decide +kernel
theorem dX1_find_89 : decode cX1_find 89 = .ok (.goto (-64), 3) := by decide +kernel
theorem dX1_find_92 : decode cX1_find 92 = .ok (.iinc 3 1, 3) := by decide +kernel
theorem dX1_find_95 : decode cX1_find 95 = .ok (.goto (-83), 3) := by decide +kernel
theorem dX1_find_98 : decode cX1_find 98 = .ok (.return_, 1) := by decide +kernel
theorem ggX1_findReflections_X10_at : GoodIn wsX1_findReflections wsX10_at := goodIn_sub (fun w h => (List.mem_cons.mp h).elim (fun e => ft_me e (List.mem_cons_of_mem _ (List.mem_append_left _ (List.mem_append_left _ (List.mem_of_getElem? (i := 9) rfl))))) (fun h => absurd h List.not_mem_nil)) gw_wsX10_at
theorem gX1_findReflections_X10_at_n38 : GoodIn wsX1_findReflections (wsX10_at) := ggX1_findReflections_X10_at
theorem ggX1_findReflections_X1_addReflection : GoodIn wsX1_findReflections wsX1_addReflection := goodIn_sub (fun w h => (List.mem_cons.mp h).elim (fun e => ft_me e (List.mem_cons_of_mem _ (List.mem_append_left _ (List.mem_append_left _ (List.mem_of_getElem? (i := 14) rfl))))) (fun h => (List.mem_append.mp h).elim (fun h => (List.forall_mem_cons.mpr ⟨(List.mem_cons_of_mem _ (List.mem_append_left _ (List.mem_append_left _ (List.mem_of_getElem? (i := 15) rfl)))), List.forall_mem_cons.mpr ⟨(List.mem_cons_of_mem _ (List.mem_append_left _ (List.mem_append_left _ (List.mem_of_getElem? (i := 0) rfl)))), List.forall_mem_cons.mpr ⟨(List.mem_cons_of_mem _ (List.mem_append_left _ (List.mem_append_left _ (List.mem_of_getElem? (i := 16) rfl)))), List.forall_mem_cons.mpr ⟨(List.mem_cons_of_mem _ (List.mem_append_left _ (List.mem_append_left _ (List.mem_of_getElem? (i := 17) rfl)))), List.forall_mem_cons.mpr ⟨(List.mem_cons_of_mem _ (List.mem_append_left _ (List.mem_append_left _ (List.mem_of_getElem? (i := 8) rfl)))), List.forall_mem_cons.mpr ⟨(List.mem_cons_of_mem _ (List.mem_append_left _ (List.mem_append_left _ (List.mem_of_getElem? (i := 18) rfl)))), fun _ h => absurd h List.not_mem_nil⟩⟩⟩⟩⟩⟩) w h) (fun h => k_wsX1_findReflections_wsX10 w h))) gw_wsX1_addReflection
theorem gX1_findReflections_X1_addReflection : GoodIn wsX1_findReflections (wsV RX1 57 RX1 yX1_addReflection wsX1_addReflection) := goodIn_app (goodIn_sub (List.forall_mem_cons.mpr ⟨(List.mem_cons_of_mem _ (List.mem_append_left _ (List.mem_append_left _ (List.mem_of_getElem? (i := 10) rfl)))), List.forall_mem_cons.mpr ⟨(List.mem_cons_of_mem _ (List.mem_append_left _ (List.mem_append_left _ (List.mem_of_getElem? (i := 11) rfl)))), List.forall_mem_cons.mpr ⟨(List.mem_cons_of_mem _ (List.mem_append_left _ (List.mem_append_left _ (List.mem_of_getElem? (i := 12) rfl)))), List.forall_mem_cons.mpr ⟨(List.mem_cons_of_mem _ (List.mem_append_left _ (List.mem_append_left _ (List.mem_of_getElem? (i := 13) rfl)))), fun _ h => absurd h List.not_mem_nil⟩⟩⟩⟩) (by decide +kernel)) ggX1_findReflections_X1_addReflection
theorem dX1_findReflections_0 : decode cX1_findReflections 0 = .ok (.aload_n 0, 1) := by decide +kernel
theorem dX1_findReflections_1 : decode cX1_findReflections 1 = .ok (.iconst 0, 1) := by decide +kernel
theorem dX1_findReflections_2 : decode cX1_findReflections 2 = .ok (.putfield 35, 3) := by decide +kernel
theorem dX1_findReflections_5 : decode cX1_findReflections 5 = .ok (.iconst 0, 1) := by decide +kernel
theorem dX1_findReflections_6 : decode cX1_findReflections 6 = .ok (.istore_n 2, 1) := by decide +kernel
theorem dX1_findReflections_7 : decode cX1_findReflections 7 = .ok (.iload_n 2, 1) := by decide +kernel
theorem dX1_findReflections_8 : decode cX1_findReflections 8 = .ok (.aload_n 1, 1) := by decide +kernel
theorem dX1_findReflections_9 : decode cX1_findReflections 9 = .ok (.getfield 46, 3) := by decide +kernel
theorem dX1_findReflections_12 : decode cX1_findReflections 12 = .ok (.if_icmp .ge 41, 3) := by decide +kernel
theorem dX1_findReflections_15 : decode cX1_findReflections 15 = .ok (.aload_n 1, 1) := by decide +kernel
theorem dX1_findReflections_16 : decode cX1_findReflections 16 = .ok (.getfield 51, 3) := by decide +kernel
theorem dX1_findReflections_19 : decode cX1_findReflections 19 = .ok (.iload_n 2, 1) := by decide +kernel
theorem dX1_findReflections_20 : decode cX1_findReflections 20 = .ok (.invokestatic 38, 3) := by decide +kernel
theorem dX1_findReflections_23 : decode cX1_findReflections 23 = .ok (.iconst 1, 1) := by decide +kernel
theorem dX1_findReflections_24 : decode cX1_findReflections 24 = .ok (.if_icmp .ne 23, 3) := by decide +kernel
theorem dX1_findReflections_27 : decode cX1_findReflections 27 = .ok (.aload_n 0, 1) := by decide +kernel
theorem dX1_findReflections_28 : decode cX1_findReflections 28 = .ok (.aload_n 1, 1) := by decide +kernel
theorem dX1_findReflections_29 : decode cX1_findReflections 29 = .ok (.getfield 54, 3) := by decide +kernel
theorem dX1_findReflections_32 : decode cX1_findReflections 32 = .ok (.iload_n 2, 1) := by decide +kernel
theorem dX1_findReflections_33 : decode cX1_findReflections 33 = .ok (.invokestatic 38, 3) := by decide +kernel
theorem dX1_findReflections_36 : decode cX1_findReflections 36 = .ok (.aload_n 1, 1) := by decide +kernel
theorem dX1_findReflections_37 : decode cX1_findReflections 37 = .ok (.getfield 55, 3) := by decide +kernel
theorem dX1_findReflections_40 : decode cX1_findReflections 40 = .ok (.iload_n 2, 1) := by decide +kernel
theorem dX1_findReflections_41 : decode cX1_findReflections 41 = .ok (.invokestatic 38, 3) := by decide +kernel
theorem dX1_findReflections_44 : decode cX1_findReflections 44 = .ok (.invokevirtual 57, 3) := by decide +kernel
theorem dX1_findReflections_47 : decode cX1_findReflections 47 = .ok (.iinc 2 1, 3) := by decide +kernel
theorem dX1_findReflections_50 : decode cX1_findReflections 50 = .ok (.goto (-43), 3) := by decide +kernel
theorem dX1_findReflections_53 : decode cX1_findReflections 53 = .ok (.aload_n 1, 1) := by decide +kernel
theorem dX1_findReflections_54 : decode cX1_findReflections 54 = .ok (.getfield 61, 3) := by decide +kernel
theorem dX1_findReflections_57 : decode cX1_findReflections 57 = .ok (.ifCond .le 15, 3) := by decide +kernel
theorem dX1_findReflections_60 : decode cX1_findReflections 60 = .ok (.aload_n 0, 1) := by decide +kernel
theorem dX1_findReflections_61 : decode cX1_findReflections 61 = .ok (.aload_n 1, 1) := by decide +kernel
theorem dX1_findReflections_62 : decode cX1_findReflections 62 = .ok (.getfield 64, 3) := by decide +kernel
theorem dX1_findReflections_65 : decode cX1_findReflections 65 = .ok (.aload_n 1, 1) := by decide +kernel
theorem dX1_findReflections_66 : decode cX1_findReflections 66 = .ok (.getfield 61, 3) := by decide +kernel
theorem dX1_findReflections_69 : decode cX1_findReflections 69 = .ok (.invokevirtual 57, 3) := by decide +kernel
theorem dX1_findReflections_72 : decode cX1_findReflections 72 = .ok (.return_, 1) := by decide +kernel
theorem ggX1_addReflection_X10_put : GoodIn wsX1_addReflection wsX10_put := goodIn_sub (fun w h => (List.mem_cons.mp h).elim (fun e => ft_me e (List.mem_cons_of_mem _ (List.mem_append_left _ (List.mem_of_getElem? (i := 5) rfl)))) (fun h => absurd h List.not_mem_nil)) gw_wsX10_put
theorem gX1_addReflection_X10_put_n67 : GoodIn wsX1_addReflection (wsX10_put) := ggX1_addReflection_X10_put
theorem dX1_addReflection_0 : decode cX1_addReflection 0 = .ok (.aload_n 0, 1) := by decide +kernel
theorem dX1_addReflection_1 : decode cX1_addReflection 1 = .ok (.getfield 9, 3) := by decide +kernel
theorem dX1_addReflection_4 : decode cX1_addReflection 4 = .ok (.aload_n 0, 1) := by decide +kernel
theorem dX1_addReflection_5 : decode cX1_addReflection 5 = .ok (.getfield 35, 3) := by decide +kernel
theorem dX1_addReflection_8 : decode cX1_addReflection 8 = .ok (.iload_n 1, 1) := by decide +kernel
theorem dX1_addReflection_9 : decode cX1_addReflection 9 = .ok (.invokestatic 67, 3) := by decide +kernel
theorem dX1_addReflection_12 : decode cX1_addReflection 12 = .ok (.aload_n 0, 1) := by decide +kernel
theorem dX1_addReflection_13 : decode cX1_addReflection 13 = .ok (.getfield 15, 3) := by decide +kernel
theorem dX1_addReflection_16 : decode cX1_addReflection 16 = .ok (.aload_n 0, 1) := by decide +kernel
theorem dX1_addReflection_17 : decode cX1_addReflection 17 = .ok (.getfield 35, 3) := by decide +kernel
theorem dX1_addReflection_20 : decode cX1_addReflection 20 = .ok (.iload_n 2, 1) := by decide +kernel
theorem dX1_addReflection_21 : decode cX1_addReflection 21 = .ok (.invokestatic 67, 3) := by decide +kernel
theorem dX1_addReflection_24 : decode cX1_addReflection 24 = .ok (.aload_n 0, 1) := by decide +kernel
theorem dX1_addReflection_25 : decode cX1_addReflection 25 = .ok (.dup, 1) := by decide +kernel
theorem dX1_addReflection_26 : decode cX1_addReflection 26 = .ok (.getfield 35, 3) := by decide +kernel
theorem dX1_addReflection_29 : decode cX1_addReflection 29 = .ok (.iconst 1, 1) := by decide +kernel
theorem dX1_addReflection_30 : decode cX1_addReflection 30 = .ok (.iadd, 1) := by decide +kernel
theorem dX1_addReflection_31 : decode cX1_addReflection 31 = .ok (.putfield 35, 3) := by decide +kernel
theorem dX1_addReflection_34 : decode cX1_addReflection 34 = .ok (.return_, 1) := by decide +kernel
theorem ggX1_addGhost_X1_ghostPlace : GoodIn wsX1_addGhost wsX1_ghostPlace := goodIn_sub (fun w h => (List.mem_cons.mp h).elim (fun e => ft_me e (List.mem_cons_of_mem _ (List.mem_append_left _ (List.mem_of_getElem? (i := 8) rfl)))) (fun h => (List.mem_append.mp h).elim (fun h => (List.forall_mem_cons.mpr ⟨(List.mem_cons_of_mem _ (List.mem_append_left _ (List.mem_of_getElem? (i := 2) rfl))), List.forall_mem_cons.mpr ⟨(List.mem_cons_of_mem _ (List.mem_append_left _ (List.mem_of_getElem? (i := 1) rfl))), List.forall_mem_cons.mpr ⟨(List.mem_cons_of_mem _ (List.mem_append_left _ (List.mem_of_getElem? (i := 9) rfl))), List.forall_mem_cons.mpr ⟨(List.mem_cons_of_mem _ (List.mem_append_left _ (List.mem_of_getElem? (i := 10) rfl))), List.forall_mem_cons.mpr ⟨(List.mem_cons_of_mem _ (List.mem_append_left _ (List.mem_of_getElem? (i := 11) rfl))), fun _ h => absurd h List.not_mem_nil⟩⟩⟩⟩⟩) w h) (fun h => k_wsX1_addGhost_wsX10 w h))) gw_wsX1_ghostPlace
theorem gX1_addGhost_X1_ghostPlace : GoodIn wsX1_addGhost (wsV RX1 71 RX1 yX1_ghostPlace wsX1_ghostPlace) := goodIn_app (goodIn_sub (List.forall_mem_cons.mpr ⟨(List.mem_cons_of_mem _ (List.mem_append_left _ (List.mem_of_getElem? (i := 4) rfl))), List.forall_mem_cons.mpr ⟨(List.mem_cons_of_mem _ (List.mem_append_left _ (List.mem_of_getElem? (i := 5) rfl))), List.forall_mem_cons.mpr ⟨(List.mem_cons_of_mem _ (List.mem_append_left _ (List.mem_of_getElem? (i := 6) rfl))), List.forall_mem_cons.mpr ⟨(List.mem_cons_of_mem _ (List.mem_append_left _ (List.mem_of_getElem? (i := 7) rfl))), fun _ h => absurd h List.not_mem_nil⟩⟩⟩⟩) (by decide +kernel)) ggX1_addGhost_X1_ghostPlace
theorem ggX1_addGhost_X10_insertInto : GoodIn wsX1_addGhost wsX10_insertInto := goodIn_sub (fun w h => (List.mem_cons.mp h).elim (fun e => ft_me e (List.mem_cons_of_mem _ (List.mem_append_left _ (List.mem_of_getElem? (i := 13) rfl)))) (fun h => (List.forall_mem_cons.mpr ⟨(List.mem_cons_of_mem _ (List.mem_append_left _ (List.mem_of_getElem? (i := 14) rfl))), List.forall_mem_cons.mpr ⟨(List.mem_cons_of_mem _ (List.mem_append_left _ (List.mem_of_getElem? (i := 9) rfl))), List.forall_mem_cons.mpr ⟨(List.mem_cons_of_mem _ (List.mem_append_left _ (List.mem_of_getElem? (i := 10) rfl))), List.forall_mem_cons.mpr ⟨(List.mem_cons_of_mem _ (List.mem_append_left _ (List.mem_of_getElem? (i := 11) rfl))), List.forall_mem_cons.mpr ⟨(List.mem_cons_of_mem _ (List.mem_append_left _ (List.mem_of_getElem? (i := 15) rfl))), List.forall_mem_cons.mpr ⟨(List.mem_cons_of_mem _ (List.mem_append_left _ (List.mem_of_getElem? (i := 16) rfl))), List.forall_mem_cons.mpr ⟨(List.mem_cons_of_mem _ (List.mem_append_left _ (List.mem_of_getElem? (i := 17) rfl))), fun _ h => absurd h List.not_mem_nil⟩⟩⟩⟩⟩⟩⟩) w h)) gw_wsX10_insertInto
theorem gX1_addGhost_X10_insertInto_n75 : GoodIn wsX1_addGhost (wsX10_insertInto) := ggX1_addGhost_X10_insertInto
theorem dX1_addGhost_0 : decode cX1_addGhost 0 = .ok (.aload_n 0, 1) := by decide +kernel
theorem dX1_addGhost_1 : decode cX1_addGhost 1 = .ok (.getfield 31, 3) := by decide +kernel
theorem dX1_addGhost_4 : decode cX1_addGhost 4 = .ok (.istore 4, 2) := by decide +kernel
theorem dX1_addGhost_6 : decode cX1_addGhost 6 = .ok (.iload 4, 2) := by decide +kernel
theorem dX1_addGhost_8 : decode cX1_addGhost 8 = .ok (.ifCond .le 25, 3) := by decide +kernel
theorem dX1_addGhost_11 : decode cX1_addGhost 11 = .ok (.aload_n 0, 1) := by decide +kernel
theorem dX1_addGhost_12 : decode cX1_addGhost 12 = .ok (.iload 4, 2) := by decide +kernel
theorem dX1_addGhost_14 : decode cX1_addGhost 14 = .ok (.iconst 1, 1) := by decide +kernel
theorem dX1_addGhost_15 : decode cX1_addGhost 15 = .ok (.isub, 1) := by decide +kernel
theorem dX1_addGhost_16 : decode cX1_addGhost 16 = .ok (.invokevirtual 71, 3) := by decide +kernel
theorem dX1_addGhost_19 : decode cX1_addGhost 19 = .ok (.iconst 2, 1) := by decide +kernel
theorem dX1_addGhost_20 : decode cX1_addGhost 20 = .ok (.iload_n 2, 1) := by decide +kernel
theorem dX1_addGhost_21 : decode cX1_addGhost 21 = .ok (.imul, 1) := by decide +kernel
theorem dX1_addGhost_22 : decode cX1_addGhost 22 = .ok (.iload_n 1, 1) := by decide +kernel
theorem dX1_addGhost_23 : decode cX1_addGhost 23 = .ok (.isub, 1) := by decide +kernel
theorem dX1_addGhost_24 : decode cX1_addGhost 24 = .ok (.if_icmp .le 9, 3) := by decide +kernel
theorem dX1_addGhost_27 : decode cX1_addGhost 27 = .ok (.iinc 4 (-1), 3) := by decide +kernel
theorem dX1_addGhost_30 : decode cX1_addGhost 30 = .ok (.goto (-24), 3) := by decide +kernel
theorem dX1_addGhost_33 : decode cX1_addGhost 33 = .ok (.aload_n 0, 1) := by decide +kernel
theorem dX1_addGhost_34 : decode cX1_addGhost 34 = .ok (.getfield 18, 3) := by decide +kernel
theorem dX1_addGhost_37 : decode cX1_addGhost 37 = .ok (.aload_n 0, 1) := by decide +kernel
theorem dX1_addGhost_38 : decode cX1_addGhost 38 = .ok (.getfield 31, 3) := by decide +kernel
theorem dX1_addGhost_41 : decode cX1_addGhost 41 = .ok (.iload 4, 2) := by decide +kernel
theorem dX1_addGhost_43 : decode cX1_addGhost 43 = .ok (.iload_n 1, 1) := by decide +kernel
theorem dX1_addGhost_44 : decode cX1_addGhost 44 = .ok (.invokestatic 75, 3) := by decide +kernel
theorem dX1_addGhost_47 : decode cX1_addGhost 47 = .ok (.aload_n 0, 1) := by decide +kernel
theorem dX1_addGhost_48 : decode cX1_addGhost 48 = .ok (.getfield 21, 3) := by decide +kernel
theorem dX1_addGhost_51 : decode cX1_addGhost 51 = .ok (.aload_n 0, 1) := by decide +kernel
theorem dX1_addGhost_52 : decode cX1_addGhost 52 = .ok (.getfield 31, 3) := by decide +kernel
theorem dX1_addGhost_55 : decode cX1_addGhost 55 = .ok (.iload 4, 2) := by decide +kernel
theorem dX1_addGhost_57 : decode cX1_addGhost 57 = .ok (.iload_n 2, 1) := by decide +kernel
theorem dX1_addGhost_58 : decode cX1_addGhost 58 = .ok (.invokestatic 75, 3) := by decide +kernel
theorem dX1_addGhost_61 : decode cX1_addGhost 61 = .ok (.aload_n 0, 1) := by decide +kernel
theorem dX1_addGhost_62 : decode cX1_addGhost 62 = .ok (.getfield 24, 3) := by decide +kernel
theorem dX1_addGhost_65 : decode cX1_addGhost 65 = .ok (.aload_n 0, 1) := by decide +kernel
theorem dX1_addGhost_66 : decode cX1_addGhost 66 = .ok (.getfield 31, 3) := by decide +kernel
theorem dX1_addGhost_69 : decode cX1_addGhost 69 = .ok (.iload 4, 2) := by decide +kernel
theorem dX1_addGhost_71 : decode cX1_addGhost 71 = .ok (.iload_n 3, 1) := by decide +kernel
theorem dX1_addGhost_72 : decode cX1_addGhost 72 = .ok (.invokestatic 75, 3) := by decide +kernel
theorem dX1_addGhost_75 : decode cX1_addGhost 75 = .ok (.aload_n 0, 1) := by decide +kernel
theorem dX1_addGhost_76 : decode cX1_addGhost 76 = .ok (.dup, 1) := by decide +kernel
theorem dX1_addGhost_77 : decode cX1_addGhost 77 = .ok (.getfield 31, 3) := by decide +kernel
theorem dX1_addGhost_80 : decode cX1_addGhost 80 = .ok (.iconst 1, 1) := by decide +kernel
theorem dX1_addGhost_81 : decode cX1_addGhost 81 = .ok (.iadd, 1) := by decide +kernel
theorem dX1_addGhost_82 : decode cX1_addGhost 82 = .ok (.putfield 31, 3) := by decide +kernel
theorem dX1_addGhost_85 : decode cX1_addGhost 85 = .ok (.return_, 1) := by decide +kernel
theorem ggX1_ghostPlace_X10_at : GoodIn wsX1_ghostPlace wsX10_at := goodIn_sub (fun w h => (List.mem_cons.mp h).elim (fun e => ft_me e (List.mem_cons_of_mem _ (List.mem_append_left _ (List.mem_of_getElem? (i := 4) rfl)))) (fun h => absurd h List.not_mem_nil)) gw_wsX10_at
theorem gX1_ghostPlace_X10_at_n38 : GoodIn wsX1_ghostPlace (wsX10_at) := ggX1_ghostPlace_X10_at
theorem dX1_ghostPlace_0 : decode cX1_ghostPlace 0 = .ok (.iconst 2, 1) := by decide +kernel
theorem dX1_ghostPlace_1 : decode cX1_ghostPlace 1 = .ok (.aload_n 0, 1) := by decide +kernel
theorem dX1_ghostPlace_2 : decode cX1_ghostPlace 2 = .ok (.getfield 21, 3) := by decide +kernel
theorem dX1_ghostPlace_5 : decode cX1_ghostPlace 5 = .ok (.iload_n 1, 1) := by decide +kernel
theorem dX1_ghostPlace_6 : decode cX1_ghostPlace 6 = .ok (.invokestatic 38, 3) := by decide +kernel
theorem dX1_ghostPlace_9 : decode cX1_ghostPlace 9 = .ok (.imul, 1) := by decide +kernel
theorem dX1_ghostPlace_10 : decode cX1_ghostPlace 10 = .ok (.aload_n 0, 1) := by decide +kernel
theorem dX1_ghostPlace_11 : decode cX1_ghostPlace 11 = .ok (.getfield 18, 3) := by decide +kernel
theorem dX1_ghostPlace_14 : decode cX1_ghostPlace 14 = .ok (.iload_n 1, 1) := by decide +kernel
theorem dX1_ghostPlace_15 : decode cX1_ghostPlace 15 = .ok (.invokestatic 38, 3) := by decide +kernel
theorem dX1_ghostPlace_18 : decode cX1_ghostPlace 18 = .ok (.isub, 1) := by decide +kernel
theorem dX1_ghostPlace_19 : decode cX1_ghostPlace 19 = .ok (.ireturn, 1) := by decide +kernel
set_option maxRecDepth 20000 in
theorem s_X2_init_X8_init_wsX8_init_r1 : ∀ w ∈ wsX8_init_r1, w ∈ wsX2_init := List.forall_mem_cons.mpr ⟨(k_wsX2_init_wsX2_init_r1 _ (List.mem_of_getElem? (i := 12) rfl)), List.forall_mem_cons.mpr ⟨(k_wsX2_init_wsX2_init_r1 _ (List.mem_of_getElem? (i := 1) rfl)), List.forall_mem_cons.mpr ⟨(k_wsX2_init_wsX2_init_r1 _ (List.mem_of_getElem? (i := 2) rfl)), List.forall_mem_cons.mpr ⟨(k_wsX2_init_wsX2_init_r1 _ (List.mem_of_getElem? (i := 13) rfl)), List.forall_mem_cons.mpr ⟨(k_wsX2_init_wsX2_init_r1 _ (List.mem_of_getElem? (i := 14) rfl)), List.forall_mem_cons.mpr ⟨(k_wsX2_init_wsX2_init_r1 _ (List.mem_of_getElem? (i := 15) rfl)), List.forall_mem_cons.mpr ⟨(k_wsX2_init_wsX2_init_r1 _ (List.mem_of_getElem? (i := 16) rfl)), List.forall_mem_cons.mpr ⟨(k_wsX2_init_wsX2_init_r1 _ (List.mem_of_getElem? (i := 17) rfl)), List.forall_mem_cons.mpr ⟨(k_wsX2_init_wsX2_init_r1 _ (List.mem_of_getElem? (i := 18) rfl)), List.forall_mem_cons.mpr ⟨(k_wsX2_init_wsX2_init_r1 _ (List.mem_of_getElem? (i := 19) rfl)), List.forall_mem_cons.mpr ⟨(k_wsX2_init_wsX2_init_r1 _ (List.mem_of_getElem? (i := 20) rfl)), List.forall_mem_cons.mpr ⟨(k_wsX2_init_wsX2_init_r1 _ (List.mem_of_getElem? (i := 21) rfl)), List.forall_mem_cons.mpr ⟨(k_wsX2_init_wsX2_init_r1 _ (List.mem_of_getElem? (i := 22) rfl)), List.forall_mem_cons.mpr ⟨(k_wsX2_init_wsX2_init_r1 _ (List.mem_of_getElem? (i := 23) rfl)), List.forall_mem_cons.mpr ⟨(k_wsX2_init_wsX2_init_r2 _ (List.mem_of_getElem? (i := 0) rfl)), List.forall_mem_cons.mpr ⟨(k_wsX2_init_wsX2_init_r2 _ (List.mem_of_getElem? (i := 1) rfl)), List.forall_mem_cons.mpr ⟨(k_wsX2_init_wsX2_init_r2 _ (List.mem_of_getElem? (i := 2) rfl)), List.forall_mem_cons.mpr ⟨(k_wsX2_init_wsX2_init_r2 _ (List.mem_of_getElem? (i := 3) rfl)), List.forall_mem_cons.mpr ⟨(k_wsX2_init_wsX2_init_r2 _ (List.mem_of_getElem? (i := 4) rfl)), List.forall_mem_cons.mpr ⟨(k_wsX2_init_wsX2_init_r2 _ (List.mem_of_getElem? (i := 5) rfl)), List.forall_mem_cons.mpr ⟨(k_wsX2_init_wsX2_init_r2 _ (List.mem_of_getElem? (i := 6) rfl)), List.forall_mem_cons.mpr ⟨(k_wsX2_init_wsX2_init_r2 _ (List.mem_of_getElem? (i := 7) rfl)), List.forall_mem_cons.mpr ⟨(k_wsX2_init_wsX2_init_r2 _ (List.mem_of_getElem? (i := 8) rfl)), List.forall_mem_cons.mpr ⟨(k_wsX2_init_wsX2_init_r2 _ (List.mem_of_getElem? (i := 9) rfl)), fun _ h => absurd h List.not_mem_nil⟩⟩⟩⟩⟩⟩⟩⟩⟩⟩⟩⟩⟩⟩⟩⟩⟩⟩⟩⟩⟩⟩⟩⟩
set_option maxRecDepth 20000 in
theorem s_X2_init_X8_init_wsX8_init_r2 : ∀ w ∈ wsX8_init_r2, w ∈ wsX2_init := List.forall_mem_cons.mpr ⟨(k_wsX2_init_wsX2_init_r2 _ (List.mem_of_getElem? (i := 10) rfl)), List.forall_mem_cons.mpr ⟨(k_wsX2_init_wsX2_init_r2 _ (List.mem_of_getElem? (i := 11) rfl)), List.forall_mem_cons.mpr ⟨(k_wsX2_init_wsX2_init_r2 _ (List.mem_of_getElem? (i := 12) rfl)), List.forall_mem_cons.mpr ⟨(k_wsX2_init_wsX2_init_r2 _ (List.mem_of_getElem? (i := 13) rfl)), List.forall_mem_cons.mpr ⟨(k_wsX2_init_wsX2_init_r2 _ (List.mem_of_getElem? (i := 14) rfl)), List.forall_mem_cons.mpr ⟨(k_wsX2_init_wsX2_init_r2 _ (List.mem_of_getElem? (i := 15) rfl)), fun _ h => absurd h List.not_mem_nil⟩⟩⟩⟩⟩⟩
theorem ggX2_init_X8_init : GoodIn wsX2_init wsX8_init := goodIn_sub (fun w h => (List.mem_cons.mp h).elim (fun e => ft_me e (k_wsX2_init_wsX2_init_r1 _ (List.mem_of_getElem? (i := 11) rfl))) (fun h => (List.mem_append.mp h).elim (fun h => (List.mem_append.mp h).elim (fun h => (List.mem_append.mp h).elim (fun h => s_X2_init_X8_init_wsX8_init_r1 w h) (fun h => s_X2_init_X8_init_wsX8_init_r2 w h)) (fun h => k_wsX2_init_wsX40 w h)) (fun h => k_wsX2_init_wsX80 w h))) gw_wsX8_init
theorem gX2_init_X8_init : GoodIn wsX2_init (wsX8_init) := ggX2_init_X8_init
theorem dX2_init_0 : decode cX2_init 0 = .ok (.aload_n 0, 1) := by decide +kernel
theorem dX2_init_1 : decode cX2_init 1 = .ok (.invokespecial 3, 3) := by decide +kernel
theorem dX2_init_4 : decode cX2_init 4 = .ok (.aload_n 0, 1) := by decide +kernel
theorem dX2_init_5 : decode cX2_init 5 = .ok (.iconst 5, 1) := by decide +kernel
theorem dX2_init_6 : decode cX2_init 6 = .ok (.anewarray 9, 3) := by decide +kernel
theorem dX2_init_9 : decode cX2_init 9 = .ok (.putfield 11, 3) := by decide +kernel
theorem dX2_init_12 : decode cX2_init 12 = .ok (.iconst 0, 1) := by decide +kernel
theorem dX2_init_13 : decode cX2_init 13 = .ok (.istore_n 1, 1) := by decide +kernel
theorem dX2_init_14 : decode cX2_init 14 = .ok (.iload_n 1, 1) := by decide +kernel
theorem dX2_init_15 : decode cX2_init 15 = .ok (.iconst 5, 1) := by decide +kernel
theorem dX2_init_16 : decode cX2_init 16 = .ok (.if_icmp .ge 31, 3) := by decide +kernel
theorem dX2_init_19 : decode cX2_init 19 = .ok (.iload_n 1, 1) := by decide +kernel
theorem dX2_init_20 : decode cX2_init 20 = .ok (.aload_n 0, 1) := by decide +kernel
theorem dX2_init_21 : decode cX2_init 21 = .ok (.getfield 11, 3) := by decide +kernel
theorem dX2_init_24 : decode cX2_init 24 = .ok (.arraylength, 1) := by decide +kernel
theorem dX2_init_25 : decode cX2_init 25 = .ok (.if_icmp .ge 22, 3) := by decide +kernel
theorem dX2_init_28 : decode cX2_init 28 = .ok (.aload_n 0, 1) := by decide +kernel
theorem dX2_init_29 : decode cX2_init 29 = .ok (.getfield 11, 3) := by decide +kernel
theorem dX2_init_32 : decode cX2_init 32 = .ok (.iload_n 1, 1) := by decide +kernel
theorem dX2_init_33 : decode cX2_init 33 = .ok (.new 9, 3) := by decide +kernel
theorem dX2_init_36 : decode cX2_init 36 = .ok (.dup, 1) := by decide +kernel
theorem dX2_init_37 : decode cX2_init 37 = .ok (.invokespecial 17, 3) := by decide +kernel
theorem dX2_init_40 : decode cX2_init 40 = .ok (.aastore, 1) := by decide +kernel
theorem dX2_init_41 : decode cX2_init 41 = .ok (.iinc 1 1, 3) := by decide +kernel
theorem dX2_init_44 : decode cX2_init 44 = .ok (.goto (-30), 3) := by decide +kernel
theorem dX2_init_47 : decode cX2_init 47 = .ok (.aload_n 0, 1) := by decide +kernel
theorem dX2_init_48 : decode cX2_init 48 = .ok (.iconst 0, 1) := by decide +kernel
theorem dX2_init_49 : decode cX2_init 49 = .ok (.putfield 18, 3) := by decide +kernel
theorem dX2_init_52 : decode cX2_init 52 = .ok (.aload_n 0, 1) := by decide +kernel
theorem dX2_init_53 : decode cX2_init 53 = .ok (.iconst 0, 1) := by decide +kernel
theorem dX2_init_54 : decode cX2_init 54 = .ok (.putfield 22, 3) := by decide +kernel
theorem dX2_init_57 : decode cX2_init 57 = .ok (.return_, 1) := by decide +kernel
theorem ggX2_record_X2_slotAt : GoodIn wsX2_record wsX2_slotAt := goodIn_sub (fun w h => (List.mem_cons.mp h).elim (fun e => ft_me e (k_wsX2_record_wsX2_record_r1 _ (List.mem_of_getElem? (i := 10) rfl))) (fun h => (List.mem_append.mp h).elim (fun h => (List.forall_mem_cons.mpr ⟨(k_wsX2_record_wsX2_record_r1 _ (List.mem_of_getElem? (i := 11) rfl)), fun _ h => absurd h List.not_mem_nil⟩) w h) (fun h => k_wsX2_record_wsX20 w h))) gw_wsX2_slotAt
theorem gX2_record_X2_slotAt : GoodIn wsX2_record (wsV RX2 25 RX2 yX2_slotAt wsX2_slotAt) := goodIn_app (goodIn_sub (List.forall_mem_cons.mpr ⟨(k_wsX2_record_wsX2_record_r1 _ (List.mem_of_getElem? (i := 6) rfl)), List.forall_mem_cons.mpr ⟨(k_wsX2_record_wsX2_record_r1 _ (List.mem_of_getElem? (i := 7) rfl)), List.forall_mem_cons.mpr ⟨(k_wsX2_record_wsX2_record_r1 _ (List.mem_of_getElem? (i := 8) rfl)), List.forall_mem_cons.mpr ⟨(k_wsX2_record_wsX2_record_r1 _ (List.mem_of_getElem? (i := 9) rfl)), fun _ h => absurd h List.not_mem_nil⟩⟩⟩⟩) (by decide +kernel)) ggX2_record_X2_slotAt
theorem ggX2_record_X8_copyFrom : GoodIn wsX2_record wsX8_copyFrom := goodIn_sub (fun w h => (List.mem_cons.mp h).elim (fun e => ft_me e (k_wsX2_record_wsX2_record_r1 _ (List.mem_of_getElem? (i := 16) rfl))) (fun h => (List.mem_append.mp h).elim (fun h => (List.mem_append.mp h).elim (fun h => (List.forall_mem_cons.mpr ⟨(k_wsX2_record_wsX2_record_r1 _ (List.mem_of_getElem? (i := 17) rfl)), List.forall_mem_cons.mpr ⟨(k_wsX2_record_wsX2_record_r1 _ (List.mem_of_getElem? (i := 18) rfl)), List.forall_mem_cons.mpr ⟨(k_wsX2_record_wsX2_record_r1 _ (List.mem_of_getElem? (i := 19) rfl)), List.forall_mem_cons.mpr ⟨(k_wsX2_record_wsX2_record_r1 _ (List.mem_of_getElem? (i := 20) rfl)), List.forall_mem_cons.mpr ⟨(k_wsX2_record_wsX2_record_r1 _ (List.mem_of_getElem? (i := 21) rfl)), List.forall_mem_cons.mpr ⟨(k_wsX2_record_wsX2_record_r1 _ (List.mem_of_getElem? (i := 22) rfl)), List.forall_mem_cons.mpr ⟨(k_wsX2_record_wsX2_record_r1 _ (List.mem_of_getElem? (i := 23) rfl)), List.forall_mem_cons.mpr ⟨(k_wsX2_record_wsX2_record_r2 _ (List.mem_of_getElem? (i := 0) rfl)), List.forall_mem_cons.mpr ⟨(k_wsX2_record_wsX2_record_r2 _ (List.mem_of_getElem? (i := 1) rfl)), List.forall_mem_cons.mpr ⟨(k_wsX2_record_wsX2_record_r2 _ (List.mem_of_getElem? (i := 2) rfl)), List.forall_mem_cons.mpr ⟨(k_wsX2_record_wsX2_record_r2 _ (List.mem_of_getElem? (i := 3) rfl)), List.forall_mem_cons.mpr ⟨(k_wsX2_record_wsX2_record_r2 _ (List.mem_of_getElem? (i := 4) rfl)), List.forall_mem_cons.mpr ⟨(k_wsX2_record_wsX2_record_r2 _ (List.mem_of_getElem? (i := 5) rfl)), List.forall_mem_cons.mpr ⟨(k_wsX2_record_wsX2_record_r2 _ (List.mem_of_getElem? (i := 6) rfl)), List.forall_mem_cons.mpr ⟨(k_wsX2_record_wsX2_record_r2 _ (List.mem_of_getElem? (i := 7) rfl)), List.forall_mem_cons.mpr ⟨(k_wsX2_record_wsX2_record_r2 _ (List.mem_of_getElem? (i := 8) rfl)), List.forall_mem_cons.mpr ⟨(k_wsX2_record_wsX2_record_r2 _ (List.mem_of_getElem? (i := 9) rfl)), List.forall_mem_cons.mpr ⟨(k_wsX2_record_wsX2_record_r2 _ (List.mem_of_getElem? (i := 10) rfl)), List.forall_mem_cons.mpr ⟨(k_wsX2_record_wsX2_record_r2 _ (List.mem_of_getElem? (i := 11) rfl)), List.forall_mem_cons.mpr ⟨(k_wsX2_record_wsX2_record_r2 _ (List.mem_of_getElem? (i := 12) rfl)), List.forall_mem_cons.mpr ⟨(k_wsX2_record_wsX2_record_r2 _ (List.mem_of_getElem? (i := 13) rfl)), fun _ h => absurd h List.not_mem_nil⟩⟩⟩⟩⟩⟩⟩⟩⟩⟩⟩⟩⟩⟩⟩⟩⟩⟩⟩⟩⟩) w h) (fun h => k_wsX2_record_wsX80 w h)) (fun h => k_wsX2_record_wsX40 w h))) gw_wsX8_copyFrom
theorem gX2_record_X8_copyFrom : GoodIn wsX2_record (wsV RX2 29 RX8 yX8_copyFrom wsX8_copyFrom) := goodIn_app (goodIn_sub (List.forall_mem_cons.mpr ⟨(k_wsX2_record_wsX2_record_r1 _ (List.mem_of_getElem? (i := 12) rfl)), List.forall_mem_cons.mpr ⟨(k_wsX2_record_wsX2_record_r1 _ (List.mem_of_getElem? (i := 13) rfl)), List.forall_mem_cons.mpr ⟨(k_wsX2_record_wsX2_record_r1 _ (List.mem_of_getElem? (i := 14) rfl)), List.forall_mem_cons.mpr ⟨(k_wsX2_record_wsX2_record_r1 _ (List.mem_of_getElem? (i := 15) rfl)), fun _ h => absurd h List.not_mem_nil⟩⟩⟩⟩) (by decide +kernel)) ggX2_record_X8_copyFrom
theorem dX2_record_0 : decode cX2_record 0 = .ok (.aload_n 0, 1) := by decide +kernel
theorem dX2_record_1 : decode cX2_record 1 = .ok (.aload_n 0, 1) := by decide +kernel
theorem dX2_record_2 : decode cX2_record 2 = .ok (.getfield 18, 3) := by decide +kernel
theorem dX2_record_5 : decode cX2_record 5 = .ok (.invokevirtual 25, 3) := by decide +kernel
theorem dX2_record_8 : decode cX2_record 8 = .ok (.astore_n 2, 1) := by decide +kernel
theorem dX2_record_9 : decode cX2_record 9 = .ok (.aload_n 2, 1) := by decide +kernel
theorem dX2_record_10 : decode cX2_record 10 = .ok (.ifnull 8, 3) := by decide +kernel
theorem dX2_record_13 : decode cX2_record 13 = .ok (.aload_n 2, 1) := by decide +kernel
theorem dX2_record_14 : decode cX2_record 14 = .ok (.aload_n 1, 1) := by decide +kernel
theorem dX2_record_15 : decode cX2_record 15 = .ok (.invokevirtual 29, 3) := by decide +kernel
theorem dX2_record_18 : decode cX2_record 18 = .ok (.aload_n 0, 1) := by decide +kernel
theorem dX2_record_19 : decode cX2_record 19 = .ok (.aload_n 0, 1) := by decide +kernel
theorem dX2_record_20 : decode cX2_record 20 = .ok (.getfield 18, 3) := by decide +kernel
theorem dX2_record_23 : decode cX2_record 23 = .ok (.iconst 1, 1) := by decide +kernel
theorem dX2_record_24 : decode cX2_record 24 = .ok (.iadd, 1) := by decide +kernel
theorem dX2_record_25 : decode cX2_record 25 = .ok (.iconst 5, 1) := by decide +kernel
theorem dX2_record_26 : decode cX2_record 26 = .ok (.irem, 1) := by decide +kernel
theorem dX2_record_27 : decode cX2_record 27 = .ok (.putfield 18, 3) := by decide +kernel
theorem dX2_record_30 : decode cX2_record 30 = .ok (.aload_n 0, 1) := by decide +kernel
theorem dX2_record_31 : decode cX2_record 31 = .ok (.aload_n 0, 1) := by decide +kernel
theorem dX2_record_32 : decode cX2_record 32 = .ok (.getfield 22, 3) := by decide +kernel
theorem dX2_record_35 : decode cX2_record 35 = .ok (.iconst 1, 1) := by decide +kernel
theorem dX2_record_36 : decode cX2_record 36 = .ok (.iadd, 1) := by decide +kernel
theorem dX2_record_37 : decode cX2_record 37 = .ok (.iconst 5, 1) := by decide +kernel
theorem dX2_record_38 : decode cX2_record 38 = .ok (.invokestatic 33, 3) := by decide +kernel
theorem dX2_record_41 : decode cX2_record 41 = .ok (.putfield 22, 3) := by decide +kernel
theorem dX2_record_44 : decode cX2_record 44 = .ok (.return_, 1) := by decide +kernel
theorem ggX2_restore_X2_slotAt : GoodIn wsX2_restore wsX2_slotAt := goodIn_sub (fun w h => (List.mem_cons.mp h).elim (fun e => ft_me e (k_wsX2_restore_wsX2_restore_r1 _ (List.mem_of_getElem? (i := 6) rfl))) (fun h => (List.mem_append.mp h).elim (fun h => (List.forall_mem_cons.mpr ⟨(k_wsX2_restore_wsX2_restore_r1 _ (List.mem_of_getElem? (i := 7) rfl)), fun _ h => absurd h List.not_mem_nil⟩) w h) (fun h => k_wsX2_restore_wsX20 w h))) gw_wsX2_slotAt
theorem gX2_restore_X2_slotAt : GoodIn wsX2_restore (wsV RX2 25 RX2 yX2_slotAt wsX2_slotAt) := goodIn_app (goodIn_sub (List.forall_mem_cons.mpr ⟨(k_wsX2_restore_wsX2_restore_r1 _ (List.mem_of_getElem? (i := 2) rfl)), List.forall_mem_cons.mpr ⟨(k_wsX2_restore_wsX2_restore_r1 _ (List.mem_of_getElem? (i := 3) rfl)), List.forall_mem_cons.mpr ⟨(k_wsX2_restore_wsX2_restore_r1 _ (List.mem_of_getElem? (i := 4) rfl)), List.forall_mem_cons.mpr ⟨(k_wsX2_restore_wsX2_restore_r1 _ (List.mem_of_getElem? (i := 5) rfl)), fun _ h => absurd h List.not_mem_nil⟩⟩⟩⟩) (by decide +kernel)) ggX2_restore_X2_slotAt
theorem ggX2_restore_X8_copyFrom : GoodIn wsX2_restore wsX8_copyFrom := goodIn_sub (fun w h => (List.mem_cons.mp h).elim (fun e => ft_me e (k_wsX2_restore_wsX2_restore_r1 _ (List.mem_of_getElem? (i := 12) rfl))) (fun h => (List.mem_append.mp h).elim (fun h => (List.mem_append.mp h).elim (fun h => (List.forall_mem_cons.mpr ⟨(k_wsX2_restore_wsX2_restore_r1 _ (List.mem_of_getElem? (i := 13) rfl)), List.forall_mem_cons.mpr ⟨(k_wsX2_restore_wsX2_restore_r1 _ (List.mem_of_getElem? (i := 14) rfl)), List.forall_mem_cons.mpr ⟨(k_wsX2_restore_wsX2_restore_r1 _ (List.mem_of_getElem? (i := 15) rfl)), List.forall_mem_cons.mpr ⟨(k_wsX2_restore_wsX2_restore_r1 _ (List.mem_of_getElem? (i := 16) rfl)), List.forall_mem_cons.mpr ⟨(k_wsX2_restore_wsX2_restore_r1 _ (List.mem_of_getElem? (i := 17) rfl)), List.forall_mem_cons.mpr ⟨(k_wsX2_restore_wsX2_restore_r1 _ (List.mem_of_getElem? (i := 18) rfl)), List.forall_mem_cons.mpr ⟨(k_wsX2_restore_wsX2_restore_r1 _ (List.mem_of_getElem? (i := 19) rfl)), List.forall_mem_cons.mpr ⟨(k_wsX2_restore_wsX2_restore_r1 _ (List.mem_of_getElem? (i := 20) rfl)), List.forall_mem_cons.mpr ⟨(k_wsX2_restore_wsX2_restore_r1 _ (List.mem_of_getElem? (i := 21) rfl)), List.forall_mem_cons.mpr ⟨(k_wsX2_restore_wsX2_restore_r1 _ (List.mem_of_getElem? (i := 22) rfl)), List.forall_mem_cons.mpr ⟨(k_wsX2_restore_wsX2_restore_r1 _ (List.mem_of_getElem? (i := 23) rfl)), List.forall_mem_cons.mpr ⟨(k_wsX2_restore_wsX2_restore_r2 _ (List.mem_of_getElem? (i := 0) rfl)), List.forall_mem_cons.mpr ⟨(k_wsX2_restore_wsX2_restore_r2 _ (List.mem_of_getElem? (i := 1) rfl)), List.forall_mem_cons.mpr ⟨(k_wsX2_restore_wsX2_restore_r2 _ (List.mem_of_getElem? (i := 2) rfl)), List.forall_mem_cons.mpr ⟨(k_wsX2_restore_wsX2_restore_r2 _ (List.mem_of_getElem? (i := 3) rfl)), List.forall_mem_cons.mpr ⟨(k_wsX2_restore_wsX2_restore_r2 _ (List.mem_of_getElem? (i := 4) rfl)), List.forall_mem_cons.mpr ⟨(k_wsX2_restore_wsX2_restore_r2 _ (List.mem_of_getElem? (i := 5) rfl)), List.forall_mem_cons.mpr ⟨(k_wsX2_restore_wsX2_restore_r2 _ (List.mem_of_getElem? (i := 6) rfl)), List.forall_mem_cons.mpr ⟨(k_wsX2_restore_wsX2_restore_r2 _ (List.mem_of_getElem? (i := 7) rfl)), List.forall_mem_cons.mpr ⟨(k_wsX2_restore_wsX2_restore_r2 _ (List.mem_of_getElem? (i := 8) rfl)), List.forall_mem_cons.mpr ⟨(k_wsX2_restore_wsX2_restore_r2 _ (List.mem_of_getElem? (i := 9) rfl)), fun _ h => absurd h List.not_mem_nil⟩⟩⟩⟩⟩⟩⟩⟩⟩⟩⟩⟩⟩⟩⟩⟩⟩⟩⟩⟩⟩) w h) (fun h => k_wsX2_restore_wsX80 w h)) (fun h => k_wsX2_restore_wsX40 w h))) gw_wsX8_copyFrom
theorem gX2_restore_X8_copyFrom : GoodIn wsX2_restore (wsV RX2 29 RX8 yX8_copyFrom wsX8_copyFrom) := goodIn_app (goodIn_sub (List.forall_mem_cons.mpr ⟨(k_wsX2_restore_wsX2_restore_r1 _ (List.mem_of_getElem? (i := 8) rfl)), List.forall_mem_cons.mpr ⟨(k_wsX2_restore_wsX2_restore_r1 _ (List.mem_of_getElem? (i := 9) rfl)), List.forall_mem_cons.mpr ⟨(k_wsX2_restore_wsX2_restore_r1 _ (List.mem_of_getElem? (i := 10) rfl)), List.forall_mem_cons.mpr ⟨(k_wsX2_restore_wsX2_restore_r1 _ (List.mem_of_getElem? (i := 11) rfl)), fun _ h => absurd h List.not_mem_nil⟩⟩⟩⟩) (by decide +kernel)) ggX2_restore_X8_copyFrom
theorem dX2_restore_0 : decode cX2_restore 0 = .ok (.aload_n 0, 1) := by decide +kernel
theorem dX2_restore_1 : decode cX2_restore 1 = .ok (.aload_n 0, 1) := by decide +kernel
theorem dX2_restore_2 : decode cX2_restore 2 = .ok (.getfield 18, 3) := by decide +kernel
theorem dX2_restore_5 : decode cX2_restore 5 = .ok (.iconst 5, 1) := by decide +kernel
theorem dX2_restore_6 : decode cX2_restore 6 = .ok (.iadd, 1) := by decide +kernel
theorem dX2_restore_7 : decode cX2_restore 7 = .ok (.iconst 1, 1) := by decide +kernel
theorem dX2_restore_8 : decode cX2_restore 8 = .ok (.isub, 1) := by decide +kernel
theorem dX2_restore_9 : decode cX2_restore 9 = .ok (.iconst 5, 1) := by decide +kernel
theorem dX2_restore_10 : decode cX2_restore 10 = .ok (.irem, 1) := by decide +kernel
theorem dX2_restore_11 : decode cX2_restore 11 = .ok (.putfield 18, 3) := by decide +kernel
theorem dX2_restore_14 : decode cX2_restore 14 = .ok (.aload_n 0, 1) := by decide +kernel
theorem dX2_restore_15 : decode cX2_restore 15 = .ok (.dup, 1) := by decide +kernel
theorem dX2_restore_16 : decode cX2_restore 16 = .ok (.getfield 22, 3) := by decide +kernel
theorem dX2_restore_19 : decode cX2_restore 19 = .ok (.iconst 1, 1) := by decide +kernel
theorem dX2_restore_20 : decode cX2_restore 20 = .ok (.isub, 1) := by decide +kernel
theorem dX2_restore_21 : decode cX2_restore 21 = .ok (.putfield 22, 3) := by decide +kernel
theorem dX2_restore_24 : decode cX2_restore 24 = .ok (.aload_n 0, 1) := by decide +kernel
theorem dX2_restore_25 : decode cX2_restore 25 = .ok (.aload_n 0, 1) := by decide +kernel
theorem dX2_restore_26 : decode cX2_restore 26 = .ok (.getfield 18, 3) := by decide +kernel
theorem dX2_restore_29 : decode cX2_restore 29 = .ok (.invokevirtual 25, 3) := by decide +kernel
theorem dX2_restore_32 : decode cX2_restore 32 = .ok (.astore_n 2, 1) := by decide +kernel
theorem dX2_restore_33 : decode cX2_restore 33 = .ok (.aload_n 2, 1) := by decide +kernel
theorem dX2_restore_34 : decode cX2_restore 34 = .ok (.ifnull 8, 3) := by decide +kernel
theorem dX2_restore_37 : decode cX2_restore 37 = .ok (.aload_n 1, 1) := by decide +kernel
theorem dX2_restore_38 : decode cX2_restore 38 = .ok (.aload_n 2, 1) := by decide +kernel
theorem dX2_restore_39 : decode cX2_restore 39 = .ok (.invokevirtual 29, 3) := by decide +kernel
theorem dX2_restore_42 : decode cX2_restore 42 = .ok (.aload_n 0, 1) := by decide +kernel
theorem dX2_restore_43 : decode cX2_restore 43 = .ok (.getfield 22, 3) := by decide +kernel
theorem dX2_restore_46 : decode cX2_restore 46 = .ok (.ireturn, 1) := by decide +kernel
theorem dX2_slotAt_0 : decode cX2_slotAt 0 = .ok (.iload_n 1, 1) := by decide +kernel
theorem dX2_slotAt_1 : decode cX2_slotAt 1 = .ok (.ifCond .lt 21, 3) := by decide +kernel
theorem dX2_slotAt_4 : decode cX2_slotAt 4 = .ok (.iload_n 1, 1) := by decide +kernel
theorem dX2_slotAt_5 : decode cX2_slotAt 5 = .ok (.aload_n 0, 1) := by decide +kernel
theorem dX2_slotAt_6 : decode cX2_slotAt 6 = .ok (.getfield 11, 3) := by decide +kernel
theorem dX2_slotAt_9 : decode cX2_slotAt 9 = .ok (.arraylength, 1) := by decide +kernel
theorem dX2_slotAt_10 : decode cX2_slotAt 10 = .ok (.if_icmp .ge 12, 3) := by decide +kernel
theorem dX2_slotAt_13 : decode cX2_slotAt 13 = .ok (.aload_n 0, 1) := by decide +kernel
theorem dX2_slotAt_14 : decode cX2_slotAt 14 = .ok (.getfield 11, 3) := by decide +kernel
theorem dX2_slotAt_17 : decode cX2_slotAt 17 = .ok (.iload_n 1, 1) := by decide +kernel
theorem dX2_slotAt_18 : decode cX2_slotAt 18 = .ok (.aaload, 1) := by decide +kernel
theorem dX2_slotAt_19 : decode cX2_slotAt 19 = .ok (.goto 4, 3) := by decide +kernel
theorem dX2_slotAt_22 : decode cX2_slotAt 22 = .ok (.aconst_null, 1) := by decide +kernel
theorem dX2_slotAt_23 : decode cX2_slotAt 23 = .ok (.areturn, 1) := by decide +kernel
theorem dX3_init_0 : decode cX3_init 0 = .ok (.aload_n 0, 1) := by decide +kernel
theorem dX3_init_1 : decode cX3_init 1 = .ok (.invokespecial 3, 3) := by decide +kernel
theorem dX3_init_4 : decode cX3_init 4 = .ok (.aload_n 0, 1) := by decide +kernel
theorem dX3_init_5 : decode cX3_init 5 = .ok (.sipush 3680, 3) := by decide +kernel
theorem dX3_init_8 : decode cX3_init 8 = .ok (.newarray .int, 2) := by decide +kernel
theorem dX3_init_10 : decode cX3_init 10 = .ok (.putfield 11, 3) := by decide +kernel
theorem dX3_init_13 : decode cX3_init 13 = .ok (.aload_n 0, 1) := by decide +kernel
theorem dX3_init_14 : decode cX3_init 14 = .ok (.bipush 8, 2) := by decide +kernel
theorem dX3_init_16 : decode cX3_init 16 = .ok (.newarray .int, 2) := by decide +kernel
theorem dX3_init_18 : decode cX3_init 18 = .ok (.putfield 15, 3) := by decide +kernel
theorem dX3_init_21 : decode cX3_init 21 = .ok (.return_, 1) := by decide +kernel
theorem ggX3_store_J9_floorMod_7cf53 : GoodIn wsX3_store wsJ9_floorMod_7cf53 := goodIn_sub (fun w h => (List.mem_cons.mp h).elim (fun e => ft_me e (List.mem_cons_of_mem _ (List.mem_append_left _ (List.mem_append_left _ (List.mem_of_getElem? (i := 7) rfl))))) (fun h => absurd h List.not_mem_nil)) gw_wsJ9_floorMod_7cf53
theorem gX3_store_J9_floorMod_7cf53 : GoodIn wsX3_store (va_wsS RX3 18 yJ9_floorMod_7cf53 wsJ9_floorMod_7cf53) := goodIn_app (goodIn_sub (List.forall_mem_cons.mpr ⟨(List.mem_cons_of_mem _ (List.mem_append_left _ (List.mem_append_left _ (List.mem_of_getElem? (i := 4) rfl)))), List.forall_mem_cons.mpr ⟨(List.mem_cons_of_mem _ (List.mem_append_left _ (List.mem_append_left _ (List.mem_of_getElem? (i := 5) rfl)))), List.forall_mem_cons.mpr ⟨(List.mem_cons_of_mem _ (List.mem_append_left _ (List.mem_append_left _ (List.mem_of_getElem? (i := 6) rfl)))), fun _ h => absurd h List.not_mem_nil⟩⟩⟩) (by decide +kernel)) ggX3_store_J9_floorMod_7cf53
theorem ggX3_store_X10_put : GoodIn wsX3_store wsX10_put := goodIn_sub (fun w h => (List.mem_cons.mp h).elim (fun e => ft_me e (List.mem_cons_of_mem _ (List.mem_append_left _ (List.mem_append_left _ (List.mem_of_getElem? (i := 10) rfl))))) (fun h => absurd h List.not_mem_nil)) gw_wsX10_put
theorem gX3_store_X10_put_n30 : GoodIn wsX3_store (wsX10_put) := ggX3_store_X10_put
theorem ggX3_store_X10_at : GoodIn wsX3_store wsX10_at := goodIn_sub (fun w h => (List.mem_cons.mp h).elim (fun e => ft_me e (List.mem_cons_of_mem _ (List.mem_append_left _ (List.mem_append_left _ (List.mem_of_getElem? (i := 12) rfl))))) (fun h => absurd h List.not_mem_nil)) gw_wsX10_at
theorem gX3_store_X10_at_n35 : GoodIn wsX3_store (wsX10_at) := ggX3_store_X10_at
theorem dX3_store_0 : decode cX3_store 0 = .ok (.iload_n 1, 1) := by decide +kernel
theorem dX3_store_1 : decode cX3_store 1 = .ok (.bipush 8, 2) := by decide +kernel
theorem dX3_store_3 : decode cX3_store 3 = .ok (.invokestatic 18, 3) := by decide +kernel
theorem dX3_store_6 : decode cX3_store 6 = .ok (.istore_n 3, 1) := by decide +kernel
theorem dX3_store_7 : decode cX3_store 7 = .ok (.aload_n 0, 1) := by decide +kernel
theorem dX3_store_8 : decode cX3_store 8 = .ok (.getfield 15, 3) := by decide +kernel
theorem dX3_store_11 : decode cX3_store 11 = .ok (.iload_n 3, 1) := by decide +kernel
theorem dX3_store_12 : decode cX3_store 12 = .ok (.aload_n 2, 1) := by decide +kernel
theorem dX3_store_13 : decode cX3_store 13 = .ok (.getfield 24, 3) := by decide +kernel
theorem dX3_store_16 : decode cX3_store 16 = .ok (.invokestatic 30, 3) := by decide +kernel
theorem dX3_store_19 : decode cX3_store 19 = .ok (.iconst 0, 1) := by decide +kernel
theorem dX3_store_20 : decode cX3_store 20 = .ok (.istore 4, 2) := by decide +kernel
theorem dX3_store_22 : decode cX3_store 22 = .ok (.iload 4, 2) := by decide +kernel
theorem dX3_store_24 : decode cX3_store 24 = .ok (.aload_n 2, 1) := by decide +kernel
theorem dX3_store_25 : decode cX3_store 25 = .ok (.getfield 24, 3) := by decide +kernel
theorem dX3_store_28 : decode cX3_store 28 = .ok (.if_icmp .ge 33, 3) := by decide +kernel
theorem dX3_store_31 : decode cX3_store 31 = .ok (.aload_n 0, 1) := by decide +kernel
theorem dX3_store_32 : decode cX3_store 32 = .ok (.getfield 11, 3) := by decide +kernel
theorem dX3_store_35 : decode cX3_store 35 = .ok (.iload_n 3, 1) := by decide +kernel
theorem dX3_store_36 : decode cX3_store 36 = .ok (.sipush 460, 3) := by decide +kernel
theorem dX3_store_39 : decode cX3_store 39 = .ok (.imul, 1) := by decide +kernel
theorem dX3_store_40 : decode cX3_store 40 = .ok (.iload 4, 2) := by decide +kernel
theorem dX3_store_42 : decode cX3_store 42 = .ok (.iadd, 1) := by decide +kernel
theorem dX3_store_43 : decode cX3_store 43 = .ok (.aload_n 2, 1) := by decide +kernel
theorem dX3_store_44 : decode cX3_store 44 = .ok (.getfield 34, 3) := by decide +kernel
theorem dX3_store_47 : decode cX3_store 47 = .ok (.iload 4, 2) := by decide +kernel
theorem dX3_store_49 : decode cX3_store 49 = .ok (.invokestatic 35, 3) := by decide +kernel
theorem dX3_store_52 : decode cX3_store 52 = .ok (.invokestatic 30, 3) := by decide +kernel
theorem dX3_store_55 : decode cX3_store 55 = .ok (.iinc 4 1, 3) := by decide +kernel
theorem dX3_store_58 : decode cX3_store 58 = .ok (.goto (-36), 3) := by decide +kernel
theorem dX3_store_61 : decode cX3_store 61 = .ok (.return_, 1) := by decide +kernel
theorem ggX3_sizeOf_J9_floorMod_7cf53 : GoodIn wsX3_sizeOf wsJ9_floorMod_7cf53 := goodIn_sub (fun w h => (List.mem_cons.mp h).elim (fun e => ft_me e (List.mem_cons_of_mem _ (List.mem_append_left _ (List.mem_of_getElem? (i := 4) rfl)))) (fun h => absurd h List.not_mem_nil)) gw_wsJ9_floorMod_7cf53
theorem gX3_sizeOf_J9_floorMod_7cf53 : GoodIn wsX3_sizeOf (va_wsS RX3 18 yJ9_floorMod_7cf53 wsJ9_floorMod_7cf53) := goodIn_app (goodIn_sub (List.forall_mem_cons.mpr ⟨(List.mem_cons_of_mem _ (List.mem_append_left _ (List.mem_of_getElem? (i := 1) rfl))), List.forall_mem_cons.mpr ⟨(List.mem_cons_of_mem _ (List.mem_append_left _ (List.mem_of_getElem? (i := 2) rfl))), List.forall_mem_cons.mpr ⟨(List.mem_cons_of_mem _ (List.mem_append_left _ (List.mem_of_getElem? (i := 3) rfl))), fun _ h => absurd h List.not_mem_nil⟩⟩⟩) (by decide +kernel)) ggX3_sizeOf_J9_floorMod_7cf53
theorem ggX3_sizeOf_X10_at : GoodIn wsX3_sizeOf wsX10_at := goodIn_sub (fun w h => (List.mem_cons.mp h).elim (fun e => ft_me e (List.mem_cons_of_mem _ (List.mem_append_left _ (List.mem_of_getElem? (i := 7) rfl)))) (fun h => absurd h List.not_mem_nil)) gw_wsX10_at
theorem gX3_sizeOf_X10_at_n35 : GoodIn wsX3_sizeOf (wsX10_at) := ggX3_sizeOf_X10_at
theorem dX3_sizeOf_0 : decode cX3_sizeOf 0 = .ok (.aload_n 0, 1) := by decide +kernel
theorem dX3_sizeOf_1 : decode cX3_sizeOf 1 = .ok (.getfield 15, 3) := by decide +kernel
theorem dX3_sizeOf_4 : decode cX3_sizeOf 4 = .ok (.iload_n 1, 1) := by decide +kernel
theorem dX3_sizeOf_5 : decode cX3_sizeOf 5 = .ok (.bipush 8, 2) := by decide +kernel
theorem dX3_sizeOf_7 : decode cX3_sizeOf 7 = .ok (.invokestatic 18, 3) := by decide +kernel
theorem dX3_sizeOf_10 : decode cX3_sizeOf 10 = .ok (.invokestatic 35, 3) := by decide +kernel
theorem dX3_sizeOf_13 : decode cX3_sizeOf 13 = .ok (.ireturn, 1) := by decide +kernel
theorem ggX3_valueAt_J9_floorMod_7cf53 : GoodIn wsX3_valueAt wsJ9_floorMod_7cf53 := goodIn_sub (fun w h => (List.mem_cons.mp h).elim (fun e => ft_me e (List.mem_cons_of_mem _ (List.mem_append_left _ (List.mem_of_getElem? (i := 4) rfl)))) (fun h => absurd h List.not_mem_nil)) gw_wsJ9_floorMod_7cf53
theorem gX3_valueAt_J9_floorMod_7cf53 : GoodIn wsX3_valueAt (va_wsS RX3 18 yJ9_floorMod_7cf53 wsJ9_floorMod_7cf53) := goodIn_app (goodIn_sub (List.forall_mem_cons.mpr ⟨(List.mem_cons_of_mem _ (List.mem_append_left _ (List.mem_of_getElem? (i := 1) rfl))), List.forall_mem_cons.mpr ⟨(List.mem_cons_of_mem _ (List.mem_append_left _ (List.mem_of_getElem? (i := 2) rfl))), List.forall_mem_cons.mpr ⟨(List.mem_cons_of_mem _ (List.mem_append_left _ (List.mem_of_getElem? (i := 3) rfl))), fun _ h => absurd h List.not_mem_nil⟩⟩⟩) (by decide +kernel)) ggX3_valueAt_J9_floorMod_7cf53
theorem ggX3_valueAt_X10_at : GoodIn wsX3_valueAt wsX10_at := goodIn_sub (fun w h => (List.mem_cons.mp h).elim (fun e => ft_me e (List.mem_cons_of_mem _ (List.mem_append_left _ (List.mem_of_getElem? (i := 7) rfl)))) (fun h => absurd h List.not_mem_nil)) gw_wsX10_at
theorem gX3_valueAt_X10_at_n35 : GoodIn wsX3_valueAt (wsX10_at) := ggX3_valueAt_X10_at
theorem dX3_valueAt_0 : decode cX3_valueAt 0 = .ok (.aload_n 0, 1) := by decide +kernel
theorem dX3_valueAt_1 : decode cX3_valueAt 1 = .ok (.getfield 11, 3) := by decide +kernel
theorem dX3_valueAt_4 : decode cX3_valueAt 4 = .ok (.iload_n 1, 1) := by decide +kernel
theorem dX3_valueAt_5 : decode cX3_valueAt 5 = .ok (.bipush 8, 2) := by decide +kernel
theorem dX3_valueAt_7 : decode cX3_valueAt 7 = .ok (.invokestatic 18, 3) := by decide +kernel
theorem dX3_valueAt_10 : decode cX3_valueAt 10 = .ok (.sipush 460, 3) := by decide +kernel
theorem dX3_valueAt_13 : decode cX3_valueAt 13 = .ok (.imul, 1) := by decide +kernel
theorem dX3_valueAt_14 : decode cX3_valueAt 14 = .ok (.iload_n 2, 1) := by decide +kernel
theorem dX3_valueAt_15 : decode cX3_valueAt 15 = .ok (.iadd, 1) := by decide +kernel
theorem dX3_valueAt_16 : decode cX3_valueAt 16 = .ok (.invokestatic 35, 3) := by decide +kernel
theorem dX3_valueAt_19 : decode cX3_valueAt 19 = .ok (.ireturn, 1) := by decide +kernel
theorem ggX4_init_X4_reset : GoodIn wsX4_init wsX4_reset := goodIn_sub (fun w h => (List.mem_cons.mp h).elim (fun e => ft_me e (List.mem_cons_of_mem _ (List.mem_append_left _ (List.mem_of_getElem? (i := 12) rfl)))) (fun h => (List.mem_append.mp h).elim (fun h => (List.forall_mem_cons.mpr ⟨(List.mem_cons_of_mem _ (List.mem_append_left _ (List.mem_of_getElem? (i := 13) rfl))), List.forall_mem_cons.mpr ⟨(List.mem_cons_of_mem _ (List.mem_append_left _ (List.mem_of_getElem? (i := 14) rfl))), List.forall_mem_cons.mpr ⟨(List.mem_cons_of_mem _ (List.mem_append_left _ (List.mem_of_getElem? (i := 15) rfl))), List.forall_mem_cons.mpr ⟨(List.mem_cons_of_mem _ (List.mem_append_left _ (List.mem_of_getElem? (i := 16) rfl))), fun _ h => absurd h List.not_mem_nil⟩⟩⟩⟩) w h) (fun h => k_wsX4_init_wsX40 w h))) gw_wsX4_reset
theorem gX4_init_X4_reset : GoodIn wsX4_init (wsV RX4 24 RX4 yX4_reset wsX4_reset) := goodIn_app (goodIn_sub (List.forall_mem_cons.mpr ⟨(List.mem_cons_of_mem _ (List.mem_append_left _ (List.mem_of_getElem? (i := 8) rfl))), List.forall_mem_cons.mpr ⟨(List.mem_cons_of_mem _ (List.mem_append_left _ (List.mem_of_getElem? (i := 9) rfl))), List.forall_mem_cons.mpr ⟨(List.mem_cons_of_mem _ (List.mem_append_left _ (List.mem_of_getElem? (i := 10) rfl))), List.forall_mem_cons.mpr ⟨(List.mem_cons_of_mem _ (List.mem_append_left _ (List.mem_of_getElem? (i := 11) rfl))), fun _ h => absurd h List.not_mem_nil⟩⟩⟩⟩) (by decide +kernel)) ggX4_init_X4_reset
theorem dX4_init_0 : decode cX4_init 0 = .ok (.aload_n 0, 1) := by decide +kernel
theorem dX4_init_1 : decode cX4_init 1 = .ok (.invokespecial 3, 3) := by decide +kernel
theorem dX4_init_4 : decode cX4_init 4 = .ok (.aload_n 0, 1) := by decide +kernel
theorem dX4_init_5 : decode cX4_init 5 = .ok (.bipush 10, 2) := by decide +kernel
theorem dX4_init_7 : decode cX4_init 7 = .ok (.newarray .int, 2) := by decide +kernel
theorem dX4_init_9 : decode cX4_init 9 = .ok (.putfield 9, 3) := by decide +kernel
theorem dX4_init_12 : decode cX4_init 12 = .ok (.aload_n 0, 1) := by decide +kernel
theorem dX4_init_13 : decode cX4_init 13 = .ok (.bipush 10, 2) := by decide +kernel
theorem dX4_init_15 : decode cX4_init 15 = .ok (.newarray .int, 2) := by decide +kernel
theorem dX4_init_17 : decode cX4_init 17 = .ok (.putfield 15, 3) := by decide +kernel
theorem dX4_init_20 : decode cX4_init 20 = .ok (.aload_n 0, 1) := by decide +kernel
theorem dX4_init_21 : decode cX4_init 21 = .ok (.bipush 10, 2) := by decide +kernel
theorem dX4_init_23 : decode cX4_init 23 = .ok (.newarray .int, 2) := by decide +kernel
theorem dX4_init_25 : decode cX4_init 25 = .ok (.putfield 18, 3) := by decide +kernel
theorem dX4_init_28 : decode cX4_init 28 = .ok (.aload_n 0, 1) := by decide +kernel
theorem dX4_init_29 : decode cX4_init 29 = .ok (.bipush 10, 2) := by decide +kernel
theorem dX4_init_31 : decode cX4_init 31 = .ok (.newarray .int, 2) := by decide +kernel
theorem dX4_init_33 : decode cX4_init 33 = .ok (.putfield 21, 3) := by decide +kernel
theorem dX4_init_36 : decode cX4_init 36 = .ok (.aload_n 0, 1) := by decide +kernel
theorem dX4_init_37 : decode cX4_init 37 = .ok (.invokevirtual 24, 3) := by decide +kernel
theorem dX4_init_40 : decode cX4_init 40 = .ok (.return_, 1) := by decide +kernel
theorem dX4_reset_0 : decode cX4_reset 0 = .ok (.aload_n 0, 1) := by decide +kernel
theorem dX4_reset_1 : decode cX4_reset 1 = .ok (.sipush 200, 3) := by decide +kernel
theorem dX4_reset_4 : decode cX4_reset 4 = .ok (.putfield 27, 3) := by decide +kernel
theorem dX4_reset_7 : decode cX4_reset 7 = .ok (.aload_n 0, 1) := by decide +kernel
theorem dX4_reset_8 : decode cX4_reset 8 = .ok (.bipush 10, 2) := by decide +kernel
theorem dX4_reset_10 : decode cX4_reset 10 = .ok (.putfield 31, 3) := by decide +kernel
theorem dX4_reset_13 : decode cX4_reset 13 = .ok (.aload_n 0, 1) := by decide +kernel
theorem dX4_reset_14 : decode cX4_reset 14 = .ok (.sipush 12000, 3) := by decide +kernel
theorem dX4_reset_17 : decode cX4_reset 17 = .ok (.putfield 34, 3) := by decide +kernel
theorem dX4_reset_20 : decode cX4_reset 20 = .ok (.aload_n 0, 1) := by decide +kernel
theorem dX4_reset_21 : decode cX4_reset 21 = .ok (.iconst 0, 1) := by decide +kernel
theorem dX4_reset_22 : decode cX4_reset 22 = .ok (.putfield 37, 3) := by decide +kernel
theorem dX4_reset_25 : decode cX4_reset 25 = .ok (.return_, 1) := by decide +kernel
theorem dX4_copyFrom_0 : decode cX4_copyFrom 0 = .ok (.aload_n 0, 1) := by decide +kernel
theorem dX4_copyFrom_1 : decode cX4_copyFrom 1 = .ok (.aload_n 1, 1) := by decide +kernel
theorem dX4_copyFrom_2 : decode cX4_copyFrom 2 = .ok (.getfield 27, 3) := by decide +kernel
theorem dX4_copyFrom_5 : decode cX4_copyFrom 5 = .ok (.putfield 27, 3) := by decide +kernel
theorem dX4_copyFrom_8 : decode cX4_copyFrom 8 = .ok (.aload_n 0, 1) := by decide +kernel
theorem dX4_copyFrom_9 : decode cX4_copyFrom 9 = .ok (.aload_n 1, 1) := by decide +kernel
theorem dX4_copyFrom_10 : decode cX4_copyFrom 10 = .ok (.getfield 31, 3) := by decide +kernel
theorem dX4_copyFrom_13 : decode cX4_copyFrom 13 = .ok (.putfield 31, 3) := by decide +kernel
theorem dX4_copyFrom_16 : decode cX4_copyFrom 16 = .ok (.aload_n 0, 1) := by decide +kernel
theorem dX4_copyFrom_17 : decode cX4_copyFrom 17 = .ok (.aload_n 1, 1) := by decide +kernel
theorem dX4_copyFrom_18 : decode cX4_copyFrom 18 = .ok (.getfield 34, 3) := by decide +kernel
theorem dX4_copyFrom_21 : decode cX4_copyFrom 21 = .ok (.putfield 34, 3) := by decide +kernel
theorem dX4_copyFrom_24 : decode cX4_copyFrom 24 = .ok (.aload_n 0, 1) := by decide +kernel
theorem dX4_copyFrom_25 : decode cX4_copyFrom 25 = .ok (.aload_n 1, 1) := by decide +kernel
theorem dX4_copyFrom_26 : decode cX4_copyFrom 26 = .ok (.getfield 37, 3) := by decide +kernel
theorem dX4_copyFrom_29 : decode cX4_copyFrom 29 = .ok (.putfield 37, 3) := by decide +kernel
theorem dX4_copyFrom_32 : decode cX4_copyFrom 32 = .ok (.aload_n 1, 1) := by decide +kernel
theorem dX4_copyFrom_33 : decode cX4_copyFrom 33 = .ok (.getfield 9, 3) := by decide +kernel
theorem dX4_copyFrom_36 : decode cX4_copyFrom 36 = .ok (.iconst 0, 1) := by decide +kernel
theorem dX4_copyFrom_37 : decode cX4_copyFrom 37 = .ok (.aload_n 0, 1) := by decide +kernel
theorem dX4_copyFrom_38 : decode cX4_copyFrom 38 = .ok (.getfield 9, 3) := by decide +kernel
theorem dX4_copyFrom_41 : decode cX4_copyFrom 41 = .ok (.iconst 0, 1) := by decide +kernel
theorem dX4_copyFrom_42 : decode cX4_copyFrom 42 = .ok (.bipush 10, 2) := by decide +kernel
theorem dX4_copyFrom_44 : decode cX4_copyFrom 44 = .ok (.invokestatic 40, 3) := by decide +kernel
theorem dX4_copyFrom_47 : decode cX4_copyFrom 47 = .ok (.aload_n 1, 1) := by decide +kernel
theorem dX4_copyFrom_48 : decode cX4_copyFrom 48 = .ok (.getfield 15, 3) := by decide +kernel
theorem dX4_copyFrom_51 : decode cX4_copyFrom 51 = .ok (.iconst 0, 1) := by decide +kernel
theorem dX4_copyFrom_52 : decode cX4_copyFrom 52 = .ok (.aload_n 0, 1) := by decide +kernel
theorem dX4_copyFrom_53 : decode cX4_copyFrom 53 = .ok (.getfield 15, 3) := by decide +kernel
theorem dX4_copyFrom_56 : decode cX4_copyFrom 56 = .ok (.iconst 0, 1) := by decide +kernel
theorem dX4_copyFrom_57 : decode cX4_copyFrom 57 = .ok (.bipush 10, 2) := by decide +kernel
theorem dX4_copyFrom_59 : decode cX4_copyFrom 59 = .ok (.invokestatic 40, 3) := by decide +kernel
theorem dX4_copyFrom_62 : decode cX4_copyFrom 62 = .ok (.aload_n 1, 1) := by decide +kernel
theorem dX4_copyFrom_63 : decode cX4_copyFrom 63 = .ok (.getfield 18, 3) := by decide +kernel
theorem dX4_copyFrom_66 : decode cX4_copyFrom 66 = .ok (.iconst 0, 1) := by decide +kernel
theorem dX4_copyFrom_67 : decode cX4_copyFrom 67 = .ok (.aload_n 0, 1) := by decide +kernel
theorem dX4_copyFrom_68 : decode cX4_copyFrom 68 = .ok (.getfield 18, 3) := by decide +kernel
theorem dX4_copyFrom_71 : decode cX4_copyFrom 71 = .ok (.iconst 0, 1) := by decide +kernel
theorem dX4_copyFrom_72 : decode cX4_copyFrom 72 = .ok (.bipush 10, 2) := by decide +kernel
theorem dX4_copyFrom_74 : decode cX4_copyFrom 74 = .ok (.invokestatic 40, 3) := by decide +kernel
theorem dX4_copyFrom_77 : decode cX4_copyFrom 77 = .ok (.aload_n 1, 1) := by decide +kernel
theorem dX4_copyFrom_78 : decode cX4_copyFrom 78 = .ok (.getfield 21, 3) := by decide +kernel
theorem dX4_copyFrom_81 : decode cX4_copyFrom 81 = .ok (.iconst 0, 1) := by decide +kernel
theorem dX4_copyFrom_82 : decode cX4_copyFrom 82 = .ok (.aload_n 0, 1) := by decide +kernel
theorem dX4_copyFrom_83 : decode cX4_copyFrom 83 = .ok (.getfield 21, 3) := by decide +kernel
theorem dX4_copyFrom_86 : decode cX4_copyFrom 86 = .ok (.iconst 0, 1) := by decide +kernel
theorem dX4_copyFrom_87 : decode cX4_copyFrom 87 = .ok (.bipush 10, 2) := by decide +kernel
theorem dX4_copyFrom_89 : decode cX4_copyFrom 89 = .ok (.invokestatic 40, 3) := by decide +kernel
theorem dX4_copyFrom_92 : decode cX4_copyFrom 92 = .ok (.return_, 1) := by decide +kernel
theorem ggX4_placeFits_X10_isWithin : GoodIn wsX4_placeFits wsX10_isWithin := goodIn_sub (fun w h => (List.mem_cons.mp h).elim (fun e => ft_me e (List.mem_cons_of_mem _ (List.mem_append_left _ (List.mem_of_getElem? (i := 3) rfl)))) (fun h => absurd h List.not_mem_nil)) gw_wsX10_isWithin
theorem gX4_placeFits_X10_isWithin_n46 : GoodIn wsX4_placeFits (wsX10_isWithin) := ggX4_placeFits_X10_isWithin
theorem dX4_placeFits_0 : decode cX4_placeFits 0 = .ok (.iload_n 1, 1) := by decide +kernel
theorem dX4_placeFits_1 : decode cX4_placeFits 1 = .ok (.iconst 1, 1) := by decide +kernel
theorem dX4_placeFits_2 : decode cX4_placeFits 2 = .ok (.aload_n 0, 1) := by decide +kernel
theorem dX4_placeFits_3 : decode cX4_placeFits 3 = .ok (.getfield 27, 3) := by decide +kernel
theorem dX4_placeFits_6 : decode cX4_placeFits 6 = .ok (.iconst 1, 1) := by decide +kernel
theorem dX4_placeFits_7 : decode cX4_placeFits 7 = .ok (.isub, 1) := by decide +kernel
theorem dX4_placeFits_8 : decode cX4_placeFits 8 = .ok (.invokestatic 46, 3) := by decide +kernel
theorem dX4_placeFits_11 : decode cX4_placeFits 11 = .ok (.ireturn, 1) := by decide +kernel
theorem ggX4_lossFits_X10_isWithin : GoodIn wsX4_lossFits wsX10_isWithin := goodIn_sub (fun w h => (List.mem_cons.mp h).elim (fun e => ft_me e (List.mem_cons_of_mem _ (List.mem_of_getElem? (i := 2) rfl))) (fun h => absurd h List.not_mem_nil)) gw_wsX10_isWithin
theorem gX4_lossFits_X10_isWithin_n46 : GoodIn wsX4_lossFits (wsX10_isWithin) := ggX4_lossFits_X10_isWithin
theorem dX4_lossFits_0 : decode cX4_lossFits 0 = .ok (.iload_n 0, 1) := by decide +kernel
theorem dX4_lossFits_1 : decode cX4_lossFits 1 = .ok (.lookupswitch 47 #[(0, 27), (1, 38)], 27) := by decide +kernel
theorem dX4_lossFits_28 : decode cX4_lossFits 28 = .ok (.iload_n 1, 1) := by decide +kernel
theorem dX4_lossFits_29 : decode cX4_lossFits 29 = .ok (.sipush (-500), 3) := by decide +kernel
theorem dX4_lossFits_32 : decode cX4_lossFits 32 = .ok (.sipush 5000, 3) := by decide +kernel
theorem dX4_lossFits_35 : decode cX4_lossFits 35 = .ok (.invokestatic 46, 3) := by decide +kernel
theorem dX4_lossFits_38 : decode cX4_lossFits 38 = .ok (.ireturn, 1) := by decide +kernel
theorem dX4_lossFits_39 : decode cX4_lossFits 39 = .ok (.iload_n 1, 1) := by decide +kernel
theorem dX4_lossFits_40 : decode cX4_lossFits 40 = .ok (.iconst 0, 1) := by decide +kernel
theorem dX4_lossFits_41 : decode cX4_lossFits 41 = .ok (.sipush 5000, 3) := by decide +kernel
theorem dX4_lossFits_44 : decode cX4_lossFits 44 = .ok (.invokestatic 46, 3) := by decide +kernel
theorem dX4_lossFits_47 : decode cX4_lossFits 47 = .ok (.ireturn, 1) := by decide +kernel
theorem dX4_lossFits_48 : decode cX4_lossFits 48 = .ok (.iload_n 1, 1) := by decide +kernel
theorem dX4_lossFits_49 : decode cX4_lossFits 49 = .ok (.iconst 0, 1) := by decide +kernel
theorem dX4_lossFits_50 : decode cX4_lossFits 50 = .ok (.bipush 50, 2) := by decide +kernel
theorem dX4_lossFits_52 : decode cX4_lossFits 52 = .ok (.invokestatic 46, 3) := by decide +kernel
theorem dX4_lossFits_55 : decode cX4_lossFits 55 = .ok (.ireturn, 1) := by decide +kernel
theorem ggX4_reflectionFits_X10_isWithin : GoodIn wsX4_reflectionFits wsX10_isWithin := goodIn_sub (fun w h => (List.mem_cons.mp h).elim (fun e => ft_me e (List.mem_cons_of_mem _ (List.mem_of_getElem? (i := 2) rfl))) (fun h => absurd h List.not_mem_nil)) gw_wsX10_isWithin
theorem gX4_reflectionFits_X10_isWithin_n46 : GoodIn wsX4_reflectionFits (wsX10_isWithin) := ggX4_reflectionFits_X10_isWithin
theorem dX4_reflectionFits_0 : decode cX4_reflectionFits 0 = .ok (.iload_n 0, 1) := by decide +kernel
theorem dX4_reflectionFits_1 : decode cX4_reflectionFits 1 = .ok (.iconst 1, 1) := by decide +kernel
theorem dX4_reflectionFits_2 : decode cX4_reflectionFits 2 = .ok (.if_icmp .ne 14, 3) := by decide +kernel
theorem dX4_reflectionFits_5 : decode cX4_reflectionFits 5 = .ok (.iload_n 1, 1) := by decide +kernel
theorem dX4_reflectionFits_6 : decode cX4_reflectionFits 6 = .ok (.iconst 1, 1) := by decide +kernel
theorem dX4_reflectionFits_7 : decode cX4_reflectionFits 7 = .ok (.sipush 20000, 3) := by decide +kernel
theorem dX4_reflectionFits_10 : decode cX4_reflectionFits 10 = .ok (.invokestatic 46, 3) := by decide +kernel
theorem dX4_reflectionFits_13 : decode cX4_reflectionFits 13 = .ok (.goto 12, 3) := by decide +kernel
theorem dX4_reflectionFits_16 : decode cX4_reflectionFits 16 = .ok (.iload_n 1, 1) := by decide +kernel
theorem dX4_reflectionFits_17 : decode cX4_reflectionFits 17 = .ok (.ifCond .ne 7, 3) := by decide +kernel
theorem dX4_reflectionFits_20 : decode cX4_reflectionFits 20 = .ok (.iconst 1, 1) := by decide +kernel
theorem dX4_reflectionFits_21 : decode cX4_reflectionFits 21 = .ok (.goto 4, 3) := by decide +kernel
theorem dX4_reflectionFits_24 : decode cX4_reflectionFits 24 = .ok (.iconst 0, 1) := by decide +kernel
theorem dX4_reflectionFits_25 : decode cX4_reflectionFits 25 = .ok (.ireturn, 1) := by decide +kernel
theorem ggX4_hasPartAt_X10_at : GoodIn wsX4_hasPartAt wsX10_at := goodIn_sub (fun w h => (List.mem_cons.mp h).elim (fun e => ft_me e (List.mem_cons_of_mem _ (List.mem_append_left _ (List.mem_of_getElem? (i := 4) rfl)))) (fun h => absurd h List.not_mem_nil)) gw_wsX10_at
theorem gX4_hasPartAt_X10_at_n50 : GoodIn wsX4_hasPartAt (wsX10_at) := ggX4_hasPartAt_X10_at
theorem dX4_hasPartAt_0 : decode cX4_hasPartAt 0 = .ok (.iconst 0, 1) := by decide +kernel
theorem dX4_hasPartAt_1 : decode cX4_hasPartAt 1 = .ok (.istore_n 2, 1) := by decide +kernel
theorem dX4_hasPartAt_2 : decode cX4_hasPartAt 2 = .ok (.iload_n 2, 1) := by decide +kernel
theorem dX4_hasPartAt_3 : decode cX4_hasPartAt 3 = .ok (.aload_n 0, 1) := by decide +kernel
theorem dX4_hasPartAt_4 : decode cX4_hasPartAt 4 = .ok (.getfield 37, 3) := by decide +kernel
theorem dX4_hasPartAt_7 : decode cX4_hasPartAt 7 = .ok (.if_icmp .ge 23, 3) := by decide +kernel
theorem dX4_hasPartAt_10 : decode cX4_hasPartAt 10 = .ok (.aload_n 0, 1) := by decide +kernel
theorem dX4_hasPartAt_11 : decode cX4_hasPartAt 11 = .ok (.getfield 15, 3) := by decide +kernel
theorem dX4_hasPartAt_14 : decode cX4_hasPartAt 14 = .ok (.iload_n 2, 1) := by decide +kernel
theorem dX4_hasPartAt_15 : decode cX4_hasPartAt 15 = .ok (.invokestatic 50, 3) := by decide +kernel
theorem dX4_hasPartAt_18 : decode cX4_hasPartAt 18 = .ok (.iload_n 1, 1) := by decide +kernel
theorem dX4_hasPartAt_19 : decode cX4_hasPartAt 19 = .ok (.if_icmp .ne 5, 3) := by decide +kernel
theorem dX4_hasPartAt_22 : decode cX4_hasPartAt 22 = .ok (.iconst 1, 1) := by decide +kernel
theorem dX4_hasPartAt_23 : decode cX4_hasPartAt 23 = .ok (.ireturn, 1) := by decide +kernel
theorem dX4_hasPartAt_24 : decode cX4_hasPartAt 24 = .ok (.iinc 2 1, 3) := by decide +kernel
theorem dX4_hasPartAt_27 : decode cX4_hasPartAt 27 = .ok (.goto (-25), 3) := by decide +kernel
theorem dX4_hasPartAt_30 : decode cX4_hasPartAt 30 = .ok (.iconst 0, 1) := by decide +kernel
theorem dX4_hasPartAt_31 : decode cX4_hasPartAt 31 = .ok (.ireturn, 1) := by decide +kernel
theorem ggX4_insert_X10_at : GoodIn wsX4_insert wsX10_at := goodIn_sub (fun w h => (List.mem_cons.mp h).elim (fun e => ft_me e (List.mem_cons_of_mem _ (List.mem_append_left _ (List.mem_of_getElem? (i := 7) rfl)))) (fun h => absurd h List.not_mem_nil)) gw_wsX10_at
theorem gX4_insert_X10_at_n50 : GoodIn wsX4_insert (wsX10_at) := ggX4_insert_X10_at
theorem ggX4_insert_X10_insertInto : GoodIn wsX4_insert wsX10_insertInto := goodIn_sub (fun w h => (List.mem_cons.mp h).elim (fun e => ft_me e (List.mem_cons_of_mem _ (List.mem_append_left _ (List.mem_of_getElem? (i := 9) rfl)))) (fun h => (List.forall_mem_cons.mpr ⟨(List.mem_cons_of_mem _ (List.mem_append_left _ (List.mem_of_getElem? (i := 10) rfl))), List.forall_mem_cons.mpr ⟨(List.mem_cons_of_mem _ (List.mem_append_left _ (List.mem_of_getElem? (i := 5) rfl))), List.forall_mem_cons.mpr ⟨(List.mem_cons_of_mem _ (List.mem_append_left _ (List.mem_of_getElem? (i := 6) rfl))), List.forall_mem_cons.mpr ⟨(List.mem_cons_of_mem _ (List.mem_append_left _ (List.mem_of_getElem? (i := 7) rfl))), List.forall_mem_cons.mpr ⟨(List.mem_cons_of_mem _ (List.mem_append_left _ (List.mem_of_getElem? (i := 11) rfl))), List.forall_mem_cons.mpr ⟨(List.mem_cons_of_mem _ (List.mem_append_left _ (List.mem_of_getElem? (i := 12) rfl))), List.forall_mem_cons.mpr ⟨(List.mem_cons_of_mem _ (List.mem_append_left _ (List.mem_of_getElem? (i := 13) rfl))), fun _ h => absurd h List.not_mem_nil⟩⟩⟩⟩⟩⟩⟩) w h)) gw_wsX10_insertInto
theorem gX4_insert_X10_insertInto_n54 : GoodIn wsX4_insert (wsX10_insertInto) := ggX4_insert_X10_insertInto
theorem dX4_insert_0 : decode cX4_insert 0 = .ok (.iconst 0, 1) := by decide +kernel
theorem dX4_insert_1 : decode cX4_insert 1 = .ok (.istore 5, 2) := by decide +kernel
theorem dX4_insert_3 : decode cX4_insert 3 = .ok (.iload 5, 2) := by decide +kernel
theorem dX4_insert_5 : decode cX4_insert 5 = .ok (.aload_n 0, 1) := by decide +kernel
theorem dX4_insert_6 : decode cX4_insert 6 = .ok (.getfield 37, 3) := by decide +kernel
theorem dX4_insert_9 : decode cX4_insert 9 = .ok (.if_icmp .ge 22, 3) := by decide +kernel
theorem dX4_insert_12 : decode cX4_insert 12 = .ok (.aload_n 0, 1) := by decide +kernel
theorem dX4_insert_13 : decode cX4_insert 13 = .ok (.getfield 15, 3) := by decide +kernel
theorem dX4_insert_16 : decode cX4_insert 16 = .ok (.iload 5, 2) := by decide +kernel
theorem dX4_insert_18 : decode cX4_insert 18 = .ok (.invokestatic 50, 3) := by decide +kernel
theorem dX4_insert_21 : decode cX4_insert 21 = .ok (.iload_n 2, 1) := by decide +kernel
theorem dX4_insert_22 : decode cX4_insert 22 = .ok (.if_icmp .ge 9, 3) := by decide +kernel
theorem dX4_insert_25 : decode cX4_insert 25 = .ok (.iinc 5 1, 3) := by decide +kernel
theorem dX4_insert_28 : decode cX4_insert 28 = .ok (.goto (-25), 3) := by decide +kernel
theorem dX4_insert_31 : decode cX4_insert 31 = .ok (.aload_n 0, 1) := by decide +kernel
theorem dX4_insert_32 : decode cX4_insert 32 = .ok (.getfield 9, 3) := by decide +kernel
theorem dX4_insert_35 : decode cX4_insert 35 = .ok (.aload_n 0, 1) := by decide +kernel
theorem dX4_insert_36 : decode cX4_insert 36 = .ok (.getfield 37, 3) := by decide +kernel
theorem dX4_insert_39 : decode cX4_insert 39 = .ok (.iload 5, 2) := by decide +kernel
theorem dX4_insert_41 : decode cX4_insert 41 = .ok (.iload_n 1, 1) := by decide +kernel
theorem dX4_insert_42 : decode cX4_insert 42 = .ok (.invokestatic 54, 3) := by decide +kernel
theorem dX4_insert_45 : decode cX4_insert 45 = .ok (.aload_n 0, 1) := by decide +kernel
theorem dX4_insert_46 : decode cX4_insert 46 = .ok (.getfield 15, 3) := by decide +kernel
theorem dX4_insert_49 : decode cX4_insert 49 = .ok (.aload_n 0, 1) := by decide +kernel
theorem dX4_insert_50 : decode cX4_insert 50 = .ok (.getfield 37, 3) := by decide +kernel
theorem dX4_insert_53 : decode cX4_insert 53 = .ok (.iload 5, 2) := by decide +kernel
theorem dX4_insert_55 : decode cX4_insert 55 = .ok (.iload_n 2, 1) := by decide +kernel
theorem dX4_insert_56 : decode cX4_insert 56 = .ok (.invokestatic 54, 3) := by decide +kernel
theorem dX4_insert_59 : decode cX4_insert 59 = .ok (.aload_n 0, 1) := by decide +kernel
theorem dX4_insert_60 : decode cX4_insert 60 = .ok (.getfield 18, 3) := by decide +kernel
theorem dX4_insert_63 : decode cX4_insert 63 = .ok (.aload_n 0, 1) := by decide +kernel
theorem dX4_insert_64 : decode cX4_insert 64 = .ok (.getfield 37, 3) := by decide +kernel
theorem dX4_insert_67 : decode cX4_insert 67 = .ok (.iload 5, 2) := by decide +kernel
theorem dX4_insert_69 : decode cX4_insert 69 = .ok (.iload_n 3, 1) := by decide +kernel
theorem dX4_insert_70 : decode cX4_insert 70 = .ok (.invokestatic 54, 3) := by decide +kernel
theorem dX4_insert_73 : decode cX4_insert 73 = .ok (.aload_n 0, 1) := by decide +kernel
theorem dX4_insert_74 : decode cX4_insert 74 = .ok (.getfield 21, 3) := by decide +kernel
theorem dX4_insert_77 : decode cX4_insert 77 = .ok (.aload_n 0, 1) := by decide +kernel
theorem dX4_insert_78 : decode cX4_insert 78 = .ok (.getfield 37, 3) := by decide +kernel
theorem dX4_insert_81 : decode cX4_insert 81 = .ok (.iload 5, 2) := by decide +kernel
theorem dX4_insert_83 : decode cX4_insert 83 = .ok (.iload 4, 2) := by decide +kernel
theorem dX4_insert_85 : decode cX4_insert 85 = .ok (.invokestatic 54, 3) := by decide +kernel
theorem dX4_insert_88 : decode cX4_insert 88 = .ok (.aload_n 0, 1) := by decide +kernel
theorem dX4_insert_89 : decode cX4_insert 89 = .ok (.dup, 1) := by decide +kernel
theorem dX4_insert_90 : decode cX4_insert 90 = .ok (.getfield 37, 3) := by decide +kernel
theorem dX4_insert_93 : decode cX4_insert 93 = .ok (.iconst 1, 1) := by decide +kernel
theorem dX4_insert_94 : decode cX4_insert 94 = .ok (.iadd, 1) := by decide +kernel
theorem dX4_insert_95 : decode cX4_insert 95 = .ok (.putfield 37, 3) := by decide +kernel
theorem dX4_insert_98 : decode cX4_insert 98 = .ok (.iload 5, 2) := by decide +kernel
theorem dX4_insert_100 : decode cX4_insert 100 = .ok (.ireturn, 1) := by decide +kernel
theorem ggX4_drop_X10_removeFrom : GoodIn wsX4_drop wsX10_removeFrom := goodIn_sub (fun w h => (List.mem_cons.mp h).elim (fun e => ft_me e (List.mem_cons_of_mem _ (List.mem_append_left _ (List.mem_of_getElem? (i := 7) rfl)))) (fun h => (List.forall_mem_cons.mpr ⟨(List.mem_cons_of_mem _ (List.mem_append_left _ (List.mem_of_getElem? (i := 8) rfl))), List.forall_mem_cons.mpr ⟨(List.mem_cons_of_mem _ (List.mem_append_left _ (List.mem_of_getElem? (i := 9) rfl))), List.forall_mem_cons.mpr ⟨(List.mem_cons_of_mem _ (List.mem_append_left _ (List.mem_of_getElem? (i := 6) rfl))), List.forall_mem_cons.mpr ⟨(List.mem_cons_of_mem _ (List.mem_append_left _ (List.mem_of_getElem? (i := 10) rfl))), List.forall_mem_cons.mpr ⟨(List.mem_cons_of_mem _ (List.mem_append_left _ (List.mem_of_getElem? (i := 11) rfl))), List.forall_mem_cons.mpr ⟨(List.mem_cons_of_mem _ (List.mem_append_left _ (List.mem_of_getElem? (i := 12) rfl))), List.forall_mem_cons.mpr ⟨(List.mem_cons_of_mem _ (List.mem_append_left _ (List.mem_of_getElem? (i := 13) rfl))), fun _ h => absurd h List.not_mem_nil⟩⟩⟩⟩⟩⟩⟩) w h)) gw_wsX10_removeFrom
theorem gX4_drop_X10_removeFrom_n58 : GoodIn wsX4_drop (wsX10_removeFrom) := ggX4_drop_X10_removeFrom
theorem dX4_drop_0 : decode cX4_drop 0 = .ok (.aload_n 0, 1) := by decide +kernel
theorem dX4_drop_1 : decode cX4_drop 1 = .ok (.getfield 9, 3) := by decide +kernel
theorem dX4_drop_4 : decode cX4_drop 4 = .ok (.aload_n 0, 1) := by decide +kernel
theorem dX4_drop_5 : decode cX4_drop 5 = .ok (.getfield 37, 3) := by decide +kernel
theorem dX4_drop_8 : decode cX4_drop 8 = .ok (.iload_n 1, 1) := by decide +kernel
theorem dX4_drop_9 : decode cX4_drop 9 = .ok (.invokestatic 58, 3) := by decide +kernel
theorem dX4_drop_12 : decode cX4_drop 12 = .ok (.aload_n 0, 1) := by decide +kernel
theorem dX4_drop_13 : decode cX4_drop 13 = .ok (.getfield 15, 3) := by decide +kernel
theorem dX4_drop_16 : decode cX4_drop 16 = .ok (.aload_n 0, 1) := by decide +kernel
theorem dX4_drop_17 : decode cX4_drop 17 = .ok (.getfield 37, 3) := by decide +kernel
theorem dX4_drop_20 : decode cX4_drop 20 = .ok (.iload_n 1, 1) := by decide +kernel
theorem dX4_drop_21 : decode cX4_drop 21 = .ok (.invokestatic 58, 3) := by decide +kernel
theorem dX4_drop_24 : decode cX4_drop 24 = .ok (.aload_n 0, 1) := by decide +kernel
theorem dX4_drop_25 : decode cX4_drop 25 = .ok (.getfield 18, 3) := by decide +kernel
theorem dX4_drop_28 : decode cX4_drop 28 = .ok (.aload_n 0, 1) := by decide +kernel
theorem dX4_drop_29 : decode cX4_drop 29 = .ok (.getfield 37, 3) := by decide +kernel
theorem dX4_drop_32 : decode cX4_drop 32 = .ok (.iload_n 1, 1) := by decide +kernel
theorem dX4_drop_33 : decode cX4_drop 33 = .ok (.invokestatic 58, 3) := by decide +kernel
theorem dX4_drop_36 : decode cX4_drop 36 = .ok (.aload_n 0, 1) := by decide +kernel
theorem dX4_drop_37 : decode cX4_drop 37 = .ok (.getfield 21, 3) := by decide +kernel
theorem dX4_drop_40 : decode cX4_drop 40 = .ok (.aload_n 0, 1) := by decide +kernel
theorem dX4_drop_41 : decode cX4_drop 41 = .ok (.getfield 37, 3) := by decide +kernel
theorem dX4_drop_44 : decode cX4_drop 44 = .ok (.iload_n 1, 1) := by decide +kernel
theorem dX4_drop_45 : decode cX4_drop 45 = .ok (.invokestatic 58, 3) := by decide +kernel
theorem dX4_drop_48 : decode cX4_drop 48 = .ok (.aload_n 0, 1) := by decide +kernel
theorem dX4_drop_49 : decode cX4_drop 49 = .ok (.dup, 1) := by decide +kernel
theorem dX4_drop_50 : decode cX4_drop 50 = .ok (.getfield 37, 3) := by decide +kernel
theorem dX4_drop_53 : decode cX4_drop 53 = .ok (.iconst 1, 1) := by decide +kernel
theorem dX4_drop_54 : decode cX4_drop 54 = .ok (.isub, 1) := by decide +kernel
theorem dX4_drop_55 : decode cX4_drop 55 = .ok (.putfield 37, 3) := by decide +kernel
theorem dX4_drop_58 : decode cX4_drop 58 = .ok (.aload_n 0, 1) := by decide +kernel
theorem dX4_drop_59 : decode cX4_drop 59 = .ok (.getfield 37, 3) := by decide +kernel
theorem dX4_drop_62 : decode cX4_drop 62 = .ok (.ireturn, 1) := by decide +kernel
theorem ggX4_isJoint_X10_at : GoodIn wsX4_isJoint wsX10_at := goodIn_sub (fun w h => (List.mem_cons.mp h).elim (fun e => ft_me e (List.mem_cons_of_mem _ (List.mem_append_left _ (List.mem_of_getElem? (i := 3) rfl)))) (fun h => absurd h List.not_mem_nil)) gw_wsX10_at
theorem gX4_isJoint_X10_at_n50 : GoodIn wsX4_isJoint (wsX10_at) := ggX4_isJoint_X10_at
theorem dX4_isJoint_0 : decode cX4_isJoint 0 = .ok (.aload_n 0, 1) := by decide +kernel
theorem dX4_isJoint_1 : decode cX4_isJoint 1 = .ok (.getfield 9, 3) := by decide +kernel
theorem dX4_isJoint_4 : decode cX4_isJoint 4 = .ok (.iload_n 1, 1) := by decide +kernel
theorem dX4_isJoint_5 : decode cX4_isJoint 5 = .ok (.invokestatic 50, 3) := by decide +kernel
theorem dX4_isJoint_8 : decode cX4_isJoint 8 = .ok (.iconst 2, 1) := by decide +kernel
theorem dX4_isJoint_9 : decode cX4_isJoint 9 = .ok (.if_icmp .eq 7, 3) := by decide +kernel
theorem dX4_isJoint_12 : decode cX4_isJoint 12 = .ok (.iconst 1, 1) := by decide +kernel
theorem dX4_isJoint_13 : decode cX4_isJoint 13 = .ok (.goto 4, 3) := by decide +kernel
theorem dX4_isJoint_16 : decode cX4_isJoint 16 = .ok (.iconst 0, 1) := by decide +kernel
theorem dX4_isJoint_17 : decode cX4_isJoint 17 = .ok (.ireturn, 1) := by decide +kernel
theorem ggX4_attenuationUpTo_X10_at : GoodIn wsX4_attenuationUpTo wsX10_at := goodIn_sub (fun w h => (List.mem_cons.mp h).elim (fun e => ft_me e (List.mem_cons_of_mem _ (List.mem_append_left _ (List.mem_of_getElem? (i := 7) rfl)))) (fun h => absurd h List.not_mem_nil)) gw_wsX10_at
theorem gX4_attenuationUpTo_X10_at_n50 : GoodIn wsX4_attenuationUpTo (wsX10_at) := ggX4_attenuationUpTo_X10_at
theorem dX4_attenuationUpTo_0 : decode cX4_attenuationUpTo 0 = .ok (.iconst 0, 1) := by decide +kernel
theorem dX4_attenuationUpTo_1 : decode cX4_attenuationUpTo 1 = .ok (.istore_n 2, 1) := by decide +kernel
theorem dX4_attenuationUpTo_2 : decode cX4_attenuationUpTo 2 = .ok (.aload_n 0, 1) := by decide +kernel
theorem dX4_attenuationUpTo_3 : decode cX4_attenuationUpTo 3 = .ok (.getfield 31, 3) := by decide +kernel
theorem dX4_attenuationUpTo_6 : decode cX4_attenuationUpTo 6 = .ok (.istore_n 3, 1) := by decide +kernel
theorem dX4_attenuationUpTo_7 : decode cX4_attenuationUpTo 7 = .ok (.iconst 0, 1) := by decide +kernel
theorem dX4_attenuationUpTo_8 : decode cX4_attenuationUpTo 8 = .ok (.istore 4, 2) := by decide +kernel
theorem dX4_attenuationUpTo_10 : decode cX4_attenuationUpTo 10 = .ok (.iconst 0, 1) := by decide +kernel
theorem dX4_attenuationUpTo_11 : decode cX4_attenuationUpTo 11 = .ok (.istore 5, 2) := by decide +kernel
theorem dX4_attenuationUpTo_13 : decode cX4_attenuationUpTo 13 = .ok (.iload 5, 2) := by decide +kernel
theorem dX4_attenuationUpTo_15 : decode cX4_attenuationUpTo 15 = .ok (.aload_n 0, 1) := by decide +kernel
theorem dX4_attenuationUpTo_16 : decode cX4_attenuationUpTo 16 = .ok (.getfield 37, 3) := by decide +kernel
theorem dX4_attenuationUpTo_19 : decode cX4_attenuationUpTo 19 = .ok (.if_icmp .ge 73, 3) := by decide +kernel
theorem dX4_attenuationUpTo_22 : decode cX4_attenuationUpTo 22 = .ok (.aload_n 0, 1) := by decide +kernel
theorem dX4_attenuationUpTo_23 : decode cX4_attenuationUpTo 23 = .ok (.getfield 15, 3) := by decide +kernel
theorem dX4_attenuationUpTo_26 : decode cX4_attenuationUpTo 26 = .ok (.iload 5, 2) := by decide +kernel
theorem dX4_attenuationUpTo_28 : decode cX4_attenuationUpTo 28 = .ok (.invokestatic 50, 3) := by decide +kernel
theorem dX4_attenuationUpTo_31 : decode cX4_attenuationUpTo 31 = .ok (.iload_n 1, 1) := by decide +kernel
theorem dX4_attenuationUpTo_32 : decode cX4_attenuationUpTo 32 = .ok (.if_icmp .ge 60, 3) := by decide +kernel
theorem dX4_attenuationUpTo_35 : decode cX4_attenuationUpTo 35 = .ok (.aload_n 0, 1) := by decide +kernel
theorem dX4_attenuationUpTo_36 : decode cX4_attenuationUpTo 36 = .ok (.getfield 9, 3) := by decide +kernel
theorem dX4_attenuationUpTo_39 : decode cX4_attenuationUpTo 39 = .ok (.iload 5, 2) := by decide +kernel
theorem dX4_attenuationUpTo_41 : decode cX4_attenuationUpTo 41 = .ok (.invokestatic 50, 3) := by decide +kernel
theorem dX4_attenuationUpTo_44 : decode cX4_attenuationUpTo 44 = .ok (.iconst 2, 1) := by decide +kernel
theorem dX4_attenuationUpTo_45 : decode cX4_attenuationUpTo 45 = .ok (.if_icmp .ne 41, 3) := by decide +kernel
theorem dX4_attenuationUpTo_48 : decode cX4_attenuationUpTo 48 = .ok (.iload_n 2, 1) := by decide +kernel
theorem dX4_attenuationUpTo_49 : decode cX4_attenuationUpTo 49 = .ok (.iload_n 3, 1) := by decide +kernel
theorem dX4_attenuationUpTo_50 : decode cX4_attenuationUpTo 50 = .ok (.aload_n 0, 1) := by decide +kernel
theorem dX4_attenuationUpTo_51 : decode cX4_attenuationUpTo 51 = .ok (.getfield 15, 3) := by decide +kernel
theorem dX4_attenuationUpTo_54 : decode cX4_attenuationUpTo 54 = .ok (.iload 5, 2) := by decide +kernel
theorem dX4_attenuationUpTo_56 : decode cX4_attenuationUpTo 56 = .ok (.invokestatic 50, 3) := by decide +kernel
theorem dX4_attenuationUpTo_59 : decode cX4_attenuationUpTo 59 = .ok (.iload 4, 2) := by decide +kernel
theorem dX4_attenuationUpTo_61 : decode cX4_attenuationUpTo 61 = .ok (.isub, 1) := by decide +kernel
theorem dX4_attenuationUpTo_62 : decode cX4_attenuationUpTo 62 = .ok (.imul, 1) := by decide +kernel
theorem dX4_attenuationUpTo_63 : decode cX4_attenuationUpTo 63 = .ok (.iadd, 1) := by decide +kernel
theorem dX4_attenuationUpTo_64 : decode cX4_attenuationUpTo 64 = .ok (.istore_n 2, 1) := by decide +kernel
theorem dX4_attenuationUpTo_65 : decode cX4_attenuationUpTo 65 = .ok (.aload_n 0, 1) := by decide +kernel
theorem dX4_attenuationUpTo_66 : decode cX4_attenuationUpTo 66 = .ok (.getfield 15, 3) := by decide +kernel
theorem dX4_attenuationUpTo_69 : decode cX4_attenuationUpTo 69 = .ok (.iload 5, 2) := by decide +kernel
theorem dX4_attenuationUpTo_71 : decode cX4_attenuationUpTo 71 = .ok (.invokestatic 50, 3) := by decide +kernel
theorem dX4_attenuationUpTo_74 : decode cX4_attenuationUpTo 74 = .ok (.istore 4, 2) := by decide +kernel
theorem dX4_attenuationUpTo_76 : decode cX4_attenuationUpTo 76 = .ok (.aload_n 0, 1) := by decide +kernel
theorem dX4_attenuationUpTo_77 : decode cX4_attenuationUpTo 77 = .ok (.getfield 18, 3) := by decide +kernel
theorem dX4_attenuationUpTo_80 : decode cX4_attenuationUpTo 80 = .ok (.iload 5, 2) := by decide +kernel
theorem dX4_attenuationUpTo_82 : decode cX4_attenuationUpTo 82 = .ok (.invokestatic 50, 3) := by decide +kernel
theorem dX4_attenuationUpTo_85 : decode cX4_attenuationUpTo 85 = .ok (.istore_n 3, 1) := by decide +kernel
theorem dX4_attenuationUpTo_86 : decode cX4_attenuationUpTo 86 = .ok (.iinc 5 1, 3) := by decide +kernel
theorem dX4_attenuationUpTo_89 : decode cX4_attenuationUpTo 89 = .ok (.goto (-76), 3) := by decide +kernel
theorem dX4_attenuationUpTo_92 : decode cX4_attenuationUpTo 92 = .ok (.iload_n 2, 1) := by decide +kernel
theorem dX4_attenuationUpTo_93 : decode cX4_attenuationUpTo 93 = .ok (.iload_n 3, 1) := by decide +kernel
theorem dX4_attenuationUpTo_94 : decode cX4_attenuationUpTo 94 = .ok (.iload_n 1, 1) := by decide +kernel
theorem dX4_attenuationUpTo_95 : decode cX4_attenuationUpTo 95 = .ok (.iload 4, 2) := by decide +kernel
theorem dX4_attenuationUpTo_97 : decode cX4_attenuationUpTo 97 = .ok (.isub, 1) := by decide +kernel
theorem dX4_attenuationUpTo_98 : decode cX4_attenuationUpTo 98 = .ok (.imul, 1) := by decide +kernel
theorem dX4_attenuationUpTo_99 : decode cX4_attenuationUpTo 99 = .ok (.iadd, 1) := by decide +kernel
theorem dX4_attenuationUpTo_100 : decode cX4_attenuationUpTo 100 = .ok (.ireturn, 1) := by decide +kernel
theorem ggX4_lossUpTo_X4_attenuationUpTo : GoodIn wsX4_lossUpTo wsX4_attenuationUpTo := goodIn_sub (fun w h => (List.mem_cons.mp h).elim (fun e => ft_me e (List.mem_cons_of_mem _ (List.mem_append_left _ (List.mem_of_getElem? (i := 7) rfl)))) (fun h => (List.mem_append.mp h).elim (fun h => (List.forall_mem_cons.mpr ⟨(List.mem_cons_of_mem _ (List.mem_append_left _ (List.mem_of_getElem? (i := 8) rfl))), List.forall_mem_cons.mpr ⟨(List.mem_cons_of_mem _ (List.mem_append_left _ (List.mem_of_getElem? (i := 0) rfl))), List.forall_mem_cons.mpr ⟨(List.mem_cons_of_mem _ (List.mem_append_left _ (List.mem_of_getElem? (i := 1) rfl))), List.forall_mem_cons.mpr ⟨(List.mem_cons_of_mem _ (List.mem_append_left _ (List.mem_of_getElem? (i := 9) rfl))), List.forall_mem_cons.mpr ⟨(List.mem_cons_of_mem _ (List.mem_append_left _ (List.mem_of_getElem? (i := 2) rfl))), List.forall_mem_cons.mpr ⟨(List.mem_cons_of_mem _ (List.mem_append_left _ (List.mem_of_getElem? (i := 10) rfl))), List.forall_mem_cons.mpr ⟨(List.mem_cons_of_mem _ (List.mem_append_left _ (List.mem_of_getElem? (i := 11) rfl))), List.forall_mem_cons.mpr ⟨(List.mem_cons_of_mem _ (List.mem_append_left _ (List.mem_of_getElem? (i := 12) rfl))), fun _ h => absurd h List.not_mem_nil⟩⟩⟩⟩⟩⟩⟩⟩) w h) (fun h => k_wsX4_lossUpTo_wsX40 w h))) gw_wsX4_attenuationUpTo
theorem gX4_lossUpTo_X4_attenuationUpTo : GoodIn wsX4_lossUpTo (wsV RX4 62 RX4 yX4_attenuationUpTo wsX4_attenuationUpTo) := goodIn_app (goodIn_sub (List.forall_mem_cons.mpr ⟨(List.mem_cons_of_mem _ (List.mem_append_left _ (List.mem_of_getElem? (i := 3) rfl))), List.forall_mem_cons.mpr ⟨(List.mem_cons_of_mem _ (List.mem_append_left _ (List.mem_of_getElem? (i := 4) rfl))), List.forall_mem_cons.mpr ⟨(List.mem_cons_of_mem _ (List.mem_append_left _ (List.mem_of_getElem? (i := 5) rfl))), List.forall_mem_cons.mpr ⟨(List.mem_cons_of_mem _ (List.mem_append_left _ (List.mem_of_getElem? (i := 6) rfl))), fun _ h => absurd h List.not_mem_nil⟩⟩⟩⟩) (by decide +kernel)) ggX4_lossUpTo_X4_attenuationUpTo
theorem ggX4_lossUpTo_X4_isJoint : GoodIn wsX4_lossUpTo wsX4_isJoint := goodIn_sub (fun w h => (List.mem_cons.mp h).elim (fun e => ft_me e (List.mem_cons_of_mem _ (List.mem_append_left _ (List.mem_of_getElem? (i := 16) rfl)))) (fun h => (List.mem_append.mp h).elim (fun h => (List.forall_mem_cons.mpr ⟨(List.mem_cons_of_mem _ (List.mem_append_left _ (List.mem_of_getElem? (i := 9) rfl))), List.forall_mem_cons.mpr ⟨(List.mem_cons_of_mem _ (List.mem_append_left _ (List.mem_of_getElem? (i := 10) rfl))), List.forall_mem_cons.mpr ⟨(List.mem_cons_of_mem _ (List.mem_append_left _ (List.mem_of_getElem? (i := 11) rfl))), List.forall_mem_cons.mpr ⟨(List.mem_cons_of_mem _ (List.mem_append_left _ (List.mem_of_getElem? (i := 12) rfl))), fun _ h => absurd h List.not_mem_nil⟩⟩⟩⟩) w h) (fun h => k_wsX4_lossUpTo_wsX40 w h))) gw_wsX4_isJoint
theorem gX4_lossUpTo_X4_isJoint : GoodIn wsX4_lossUpTo (wsV RX4 66 RX4 yX4_isJoint wsX4_isJoint) := goodIn_app (goodIn_sub (List.forall_mem_cons.mpr ⟨(List.mem_cons_of_mem _ (List.mem_append_left _ (List.mem_of_getElem? (i := 13) rfl))), List.forall_mem_cons.mpr ⟨(List.mem_cons_of_mem _ (List.mem_append_left _ (List.mem_of_getElem? (i := 14) rfl))), List.forall_mem_cons.mpr ⟨(List.mem_cons_of_mem _ (List.mem_append_left _ (List.mem_of_getElem? (i := 15) rfl))), List.forall_mem_cons.mpr ⟨(List.mem_cons_of_mem _ (List.mem_append_left _ (List.mem_of_getElem? (i := 6) rfl))), fun _ h => absurd h List.not_mem_nil⟩⟩⟩⟩) (by decide +kernel)) ggX4_lossUpTo_X4_isJoint
theorem ggX4_lossUpTo_X10_at : GoodIn wsX4_lossUpTo wsX10_at := goodIn_sub (fun w h => (List.mem_cons.mp h).elim (fun e => ft_me e (List.mem_cons_of_mem _ (List.mem_append_left _ (List.mem_of_getElem? (i := 12) rfl)))) (fun h => absurd h List.not_mem_nil)) gw_wsX10_at
theorem gX4_lossUpTo_X10_at_n50 : GoodIn wsX4_lossUpTo (wsX10_at) := ggX4_lossUpTo_X10_at
theorem dX4_lossUpTo_0 : decode cX4_lossUpTo 0 = .ok (.aload_n 0, 1) := by decide +kernel
theorem dX4_lossUpTo_1 : decode cX4_lossUpTo 1 = .ok (.iload_n 1, 1) := by decide +kernel
theorem dX4_lossUpTo_2 : decode cX4_lossUpTo 2 = .ok (.invokevirtual 62, 3) := by decide +kernel
theorem dX4_lossUpTo_5 : decode cX4_lossUpTo 5 = .ok (.istore_n 2, 1) := by decide +kernel
theorem dX4_lossUpTo_6 : decode cX4_lossUpTo 6 = .ok (.iconst 0, 1) := by decide +kernel
theorem dX4_lossUpTo_7 : decode cX4_lossUpTo 7 = .ok (.istore_n 3, 1) := by decide +kernel
theorem dX4_lossUpTo_8 : decode cX4_lossUpTo 8 = .ok (.iload_n 3, 1) := by decide +kernel
theorem dX4_lossUpTo_9 : decode cX4_lossUpTo 9 = .ok (.aload_n 0, 1) := by decide +kernel
theorem dX4_lossUpTo_10 : decode cX4_lossUpTo 10 = .ok (.getfield 37, 3) := by decide +kernel
theorem dX4_lossUpTo_13 : decode cX4_lossUpTo 13 = .ok (.if_icmp .ge 40, 3) := by decide +kernel
theorem dX4_lossUpTo_16 : decode cX4_lossUpTo 16 = .ok (.aload_n 0, 1) := by decide +kernel
theorem dX4_lossUpTo_17 : decode cX4_lossUpTo 17 = .ok (.iload_n 3, 1) := by decide +kernel
theorem dX4_lossUpTo_18 : decode cX4_lossUpTo 18 = .ok (.invokevirtual 66, 3) := by decide +kernel
theorem dX4_lossUpTo_21 : decode cX4_lossUpTo 21 = .ok (.ifCond .eq 26, 3) := by decide +kernel
theorem dX4_lossUpTo_24 : decode cX4_lossUpTo 24 = .ok (.aload_n 0, 1) := by decide +kernel
theorem dX4_lossUpTo_25 : decode cX4_lossUpTo 25 = .ok (.getfield 15, 3) := by decide +kernel
theorem dX4_lossUpTo_28 : decode cX4_lossUpTo 28 = .ok (.iload_n 3, 1) := by decide +kernel
theorem dX4_lossUpTo_29 : decode cX4_lossUpTo 29 = .ok (.invokestatic 50, 3) := by decide +kernel
theorem dX4_lossUpTo_32 : decode cX4_lossUpTo 32 = .ok (.iload_n 1, 1) := by decide +kernel
theorem dX4_lossUpTo_33 : decode cX4_lossUpTo 33 = .ok (.if_icmp .ge 14, 3) := by decide +kernel
theorem dX4_lossUpTo_36 : decode cX4_lossUpTo 36 = .ok (.iload_n 2, 1) := by decide +kernel
theorem dX4_lossUpTo_37 : decode cX4_lossUpTo 37 = .ok (.aload_n 0, 1) := by decide +kernel
theorem dX4_lossUpTo_38 : decode cX4_lossUpTo 38 = .ok (.getfield 18, 3) := by decide +kernel
theorem dX4_lossUpTo_41 : decode cX4_lossUpTo 41 = .ok (.iload_n 3, 1) := by decide +kernel
theorem dX4_lossUpTo_42 : decode cX4_lossUpTo 42 = .ok (.invokestatic 50, 3) := by decide +kernel
theorem dX4_lossUpTo_45 : decode cX4_lossUpTo 45 = .ok (.iadd, 1) := by decide +kernel
theorem dX4_lossUpTo_46 : decode cX4_lossUpTo 46 = .ok (.istore_n 2, 1) := by decide +kernel
theorem dX4_lossUpTo_47 : decode cX4_lossUpTo 47 = .ok (.iinc 3 1, 3) := by decide +kernel
theorem dX4_lossUpTo_50 : decode cX4_lossUpTo 50 = .ok (.goto (-42), 3) := by decide +kernel
theorem dX4_lossUpTo_53 : decode cX4_lossUpTo 53 = .ok (.iload_n 2, 1) := by decide +kernel
theorem dX4_lossUpTo_54 : decode cX4_lossUpTo 54 = .ok (.ireturn, 1) := by decide +kernel
theorem ggX4_spreadLossAt_X10_at : GoodIn wsX4_spreadLossAt wsX10_at := goodIn_sub (fun w h => (List.mem_cons.mp h).elim (fun e => ft_me e (List.mem_cons_of_mem _ (List.mem_append_left _ (List.mem_of_getElem? (i := 6) rfl)))) (fun h => absurd h List.not_mem_nil)) gw_wsX10_at
theorem gX4_spreadLossAt_X10_at_n50 : GoodIn wsX4_spreadLossAt (wsX10_at) := ggX4_spreadLossAt_X10_at
theorem ggX4_spreadLossAt_X10_quotient : GoodIn wsX4_spreadLossAt wsX10_quotient := goodIn_sub (fun w h => (List.mem_cons.mp h).elim (fun e => ft_me e (List.mem_cons_of_mem _ (List.mem_append_left _ (List.mem_of_getElem? (i := 8) rfl)))) (fun h => absurd h List.not_mem_nil)) gw_wsX10_quotient
theorem gX4_spreadLossAt_X10_quotient_n70 : GoodIn wsX4_spreadLossAt (wsX10_quotient) := ggX4_spreadLossAt_X10_quotient
theorem dX4_spreadLossAt_0 : decode cX4_spreadLossAt 0 = .ok (.iconst 0, 1) := by decide +kernel
theorem dX4_spreadLossAt_1 : decode cX4_spreadLossAt 1 = .ok (.istore_n 3, 1) := by decide +kernel
theorem dX4_spreadLossAt_2 : decode cX4_spreadLossAt 2 = .ok (.iconst 0, 1) := by decide +kernel
theorem dX4_spreadLossAt_3 : decode cX4_spreadLossAt 3 = .ok (.istore 4, 2) := by decide +kernel
theorem dX4_spreadLossAt_5 : decode cX4_spreadLossAt 5 = .ok (.iload 4, 2) := by decide +kernel
theorem dX4_spreadLossAt_7 : decode cX4_spreadLossAt 7 = .ok (.aload_n 0, 1) := by decide +kernel
theorem dX4_spreadLossAt_8 : decode cX4_spreadLossAt 8 = .ok (.getfield 37, 3) := by decide +kernel
theorem dX4_spreadLossAt_11 : decode cX4_spreadLossAt 11 = .ok (.if_icmp .ge 87, 3) := by decide +kernel
theorem dX4_spreadLossAt_14 : decode cX4_spreadLossAt 14 = .ok (.aload_n 0, 1) := by decide +kernel
theorem dX4_spreadLossAt_15 : decode cX4_spreadLossAt 15 = .ok (.getfield 15, 3) := by decide +kernel
theorem dX4_spreadLossAt_18 : decode cX4_spreadLossAt 18 = .ok (.iload 4, 2) := by decide +kernel
theorem dX4_spreadLossAt_20 : decode cX4_spreadLossAt 20 = .ok (.invokestatic 50, 3) := by decide +kernel
theorem dX4_spreadLossAt_23 : decode cX4_spreadLossAt 23 = .ok (.iload_n 1, 1) := by decide +kernel
theorem dX4_spreadLossAt_24 : decode cX4_spreadLossAt 24 = .ok (.if_icmp .gt 74, 3) := by decide +kernel
theorem dX4_spreadLossAt_27 : decode cX4_spreadLossAt 27 = .ok (.aload_n 0, 1) := by decide +kernel
theorem dX4_spreadLossAt_28 : decode cX4_spreadLossAt 28 = .ok (.getfield 9, 3) := by decide +kernel
theorem dX4_spreadLossAt_31 : decode cX4_spreadLossAt 31 = .ok (.iload 4, 2) := by decide +kernel
theorem dX4_spreadLossAt_33 : decode cX4_spreadLossAt 33 = .ok (.invokestatic 50, 3) := by decide +kernel
theorem dX4_spreadLossAt_36 : decode cX4_spreadLossAt 36 = .ok (.iconst 2, 1) := by decide +kernel
theorem dX4_spreadLossAt_37 : decode cX4_spreadLossAt 37 = .ok (.if_icmp .eq 55, 3) := by decide +kernel
theorem dX4_spreadLossAt_40 : decode cX4_spreadLossAt 40 = .ok (.iload_n 1, 1) := by decide +kernel
theorem dX4_spreadLossAt_41 : decode cX4_spreadLossAt 41 = .ok (.aload_n 0, 1) := by decide +kernel
theorem dX4_spreadLossAt_42 : decode cX4_spreadLossAt 42 = .ok (.getfield 15, 3) := by decide +kernel
theorem dX4_spreadLossAt_45 : decode cX4_spreadLossAt 45 = .ok (.iload 4, 2) := by decide +kernel
theorem dX4_spreadLossAt_47 : decode cX4_spreadLossAt 47 = .ok (.invokestatic 50, 3) := by decide +kernel
theorem dX4_spreadLossAt_50 : decode cX4_spreadLossAt 50 = .ok (.isub, 1) := by decide +kernel
theorem dX4_spreadLossAt_51 : decode cX4_spreadLossAt 51 = .ok (.iconst 1, 1) := by decide +kernel
theorem dX4_spreadLossAt_52 : decode cX4_spreadLossAt 52 = .ok (.iadd, 1) := by decide +kernel
theorem dX4_spreadLossAt_53 : decode cX4_spreadLossAt 53 = .ok (.istore 5, 2) := by decide +kernel
theorem dX4_spreadLossAt_55 : decode cX4_spreadLossAt 55 = .ok (.iload_n 3, 1) := by decide +kernel
theorem dX4_spreadLossAt_56 : decode cX4_spreadLossAt 56 = .ok (.iload 5, 2) := by decide +kernel
theorem dX4_spreadLossAt_58 : decode cX4_spreadLossAt 58 = .ok (.iload_n 2, 1) := by decide +kernel
theorem dX4_spreadLossAt_59 : decode cX4_spreadLossAt 59 = .ok (.if_icmp .lt 15, 3) := by decide +kernel
theorem dX4_spreadLossAt_62 : decode cX4_spreadLossAt 62 = .ok (.aload_n 0, 1) := by decide +kernel
theorem dX4_spreadLossAt_63 : decode cX4_spreadLossAt 63 = .ok (.getfield 18, 3) := by decide +kernel
theorem dX4_spreadLossAt_66 : decode cX4_spreadLossAt 66 = .ok (.iload 4, 2) := by decide +kernel
theorem dX4_spreadLossAt_68 : decode cX4_spreadLossAt 68 = .ok (.invokestatic 50, 3) := by decide +kernel
theorem dX4_spreadLossAt_71 : decode cX4_spreadLossAt 71 = .ok (.goto 19, 3) := by decide +kernel
theorem dX4_spreadLossAt_74 : decode cX4_spreadLossAt 74 = .ok (.aload_n 0, 1) := by decide +kernel
theorem dX4_spreadLossAt_75 : decode cX4_spreadLossAt 75 = .ok (.getfield 18, 3) := by decide +kernel
theorem dX4_spreadLossAt_78 : decode cX4_spreadLossAt 78 = .ok (.iload 4, 2) := by decide +kernel
theorem dX4_spreadLossAt_80 : decode cX4_spreadLossAt 80 = .ok (.invokestatic 50, 3) := by decide +kernel
theorem dX4_spreadLossAt_83 : decode cX4_spreadLossAt 83 = .ok (.iload 5, 2) := by decide +kernel
theorem dX4_spreadLossAt_85 : decode cX4_spreadLossAt 85 = .ok (.imul, 1) := by decide +kernel
theorem dX4_spreadLossAt_86 : decode cX4_spreadLossAt 86 = .ok (.iload_n 2, 1) := by decide +kernel
theorem dX4_spreadLossAt_87 : decode cX4_spreadLossAt 87 = .ok (.invokestatic 70, 3) := by decide +kernel
theorem dX4_spreadLossAt_90 : decode cX4_spreadLossAt 90 = .ok (.iadd, 1) := by decide +kernel
theorem dX4_spreadLossAt_91 : decode cX4_spreadLossAt 91 = .ok (.istore_n 3, 1) := by decide +kernel
theorem dX4_spreadLossAt_92 : decode cX4_spreadLossAt 92 = .ok (.iinc 4 1, 3) := by decide +kernel
theorem dX4_spreadLossAt_95 : decode cX4_spreadLossAt 95 = .ok (.goto (-90), 3) := by decide +kernel
theorem dX4_spreadLossAt_98 : decode cX4_spreadLossAt 98 = .ok (.iload_n 3, 1) := by decide +kernel
theorem dX4_spreadLossAt_99 : decode cX4_spreadLossAt 99 = .ok (.ireturn, 1) := by decide +kernel
theorem ggX5_init_X4_init : GoodIn wsX5_init wsX4_init := goodIn_sub (fun w h => (List.mem_cons.mp h).elim (fun e => ft_me e (k_wsX5_init_wsX5_init_r1 _ (List.mem_of_getElem? (i := 13) rfl))) (fun h => (List.mem_append.mp h).elim (fun h => (List.forall_mem_cons.mpr ⟨(k_wsX5_init_wsX5_init_r1 _ (List.mem_of_getElem? (i := 14) rfl)), List.forall_mem_cons.mpr ⟨(k_wsX5_init_wsX5_init_r1 _ (List.mem_of_getElem? (i := 1) rfl)), List.forall_mem_cons.mpr ⟨(k_wsX5_init_wsX5_init_r1 _ (List.mem_of_getElem? (i := 2) rfl)), List.forall_mem_cons.mpr ⟨(k_wsX5_init_wsX5_init_r1 _ (List.mem_of_getElem? (i := 3) rfl)), List.forall_mem_cons.mpr ⟨(k_wsX5_init_wsX5_init_r1 _ (List.mem_of_getElem? (i := 15) rfl)), List.forall_mem_cons.mpr ⟨(k_wsX5_init_wsX5_init_r1 _ (List.mem_of_getElem? (i := 16) rfl)), List.forall_mem_cons.mpr ⟨(k_wsX5_init_wsX5_init_r1 _ (List.mem_of_getElem? (i := 17) rfl)), List.forall_mem_cons.mpr ⟨(k_wsX5_init_wsX5_init_r1 _ (List.mem_of_getElem? (i := 18) rfl)), List.forall_mem_cons.mpr ⟨(k_wsX5_init_wsX5_init_r1 _ (List.mem_of_getElem? (i := 19) rfl)), List.forall_mem_cons.mpr ⟨(k_wsX5_init_wsX5_init_r1 _ (List.mem_of_getElem? (i := 20) rfl)), List.forall_mem_cons.mpr ⟨(k_wsX5_init_wsX5_init_r1 _ (List.mem_of_getElem? (i := 21) rfl)), List.forall_mem_cons.mpr ⟨(k_wsX5_init_wsX5_init_r1 _ (List.mem_of_getElem? (i := 9) rfl)), List.forall_mem_cons.mpr ⟨(k_wsX5_init_wsX5_init_r1 _ (List.mem_of_getElem? (i := 22) rfl)), List.forall_mem_cons.mpr ⟨(k_wsX5_init_wsX5_init_r1 _ (List.mem_of_getElem? (i := 23) rfl)), List.forall_mem_cons.mpr ⟨(k_wsX5_init_wsX5_init_r2 _ (List.mem_of_getElem? (i := 0) rfl)), List.forall_mem_cons.mpr ⟨(k_wsX5_init_wsX5_init_r2 _ (List.mem_of_getElem? (i := 1) rfl)), List.forall_mem_cons.mpr ⟨(k_wsX5_init_wsX5_init_r2 _ (List.mem_of_getElem? (i := 2) rfl)), fun _ h => absurd h List.not_mem_nil⟩⟩⟩⟩⟩⟩⟩⟩⟩⟩⟩⟩⟩⟩⟩⟩⟩) w h) (fun h => k_wsX5_init_wsX40 w h))) gw_wsX4_init
theorem gX5_init_X4_init : GoodIn wsX5_init (wsX4_init) := ggX5_init_X4_init
theorem dX5_init_0 : decode cX5_init 0 = .ok (.aload_n 0, 1) := by decide +kernel
theorem dX5_init_1 : decode cX5_init 1 = .ok (.invokespecial 3, 3) := by decide +kernel
theorem dX5_init_4 : decode cX5_init 4 = .ok (.aload_n 0, 1) := by decide +kernel
theorem dX5_init_5 : decode cX5_init 5 = .ok (.bipush 120, 2) := by decide +kernel
theorem dX5_init_7 : decode cX5_init 7 = .ok (.newarray .int, 2) := by decide +kernel
theorem dX5_init_9 : decode cX5_init 9 = .ok (.putfield 9, 3) := by decide +kernel
theorem dX5_init_12 : decode cX5_init 12 = .ok (.aload_n 0, 1) := by decide +kernel
theorem dX5_init_13 : decode cX5_init 13 = .ok (.iconst 3, 1) := by decide +kernel
theorem dX5_init_14 : decode cX5_init 14 = .ok (.newarray .int, 2) := by decide +kernel
theorem dX5_init_16 : decode cX5_init 16 = .ok (.putfield 15, 3) := by decide +kernel
theorem dX5_init_19 : decode cX5_init 19 = .ok (.aload_n 0, 1) := by decide +kernel
theorem dX5_init_20 : decode cX5_init 20 = .ok (.iconst 3, 1) := by decide +kernel
theorem dX5_init_21 : decode cX5_init 21 = .ok (.newarray .int, 2) := by decide +kernel
theorem dX5_init_23 : decode cX5_init 23 = .ok (.putfield 18, 3) := by decide +kernel
theorem dX5_init_26 : decode cX5_init 26 = .ok (.aload_n 0, 1) := by decide +kernel
theorem dX5_init_27 : decode cX5_init 27 = .ok (.new 21, 3) := by decide +kernel
theorem dX5_init_30 : decode cX5_init 30 = .ok (.dup, 1) := by decide +kernel
theorem dX5_init_31 : decode cX5_init 31 = .ok (.invokespecial 23, 3) := by decide +kernel
theorem dX5_init_34 : decode cX5_init 34 = .ok (.putfield 24, 3) := by decide +kernel
theorem dX5_init_37 : decode cX5_init 37 = .ok (.return_, 1) := by decide +kernel
theorem ggX5_append_X10_put : GoodIn wsX5_append wsX10_put := goodIn_sub (fun w h => (List.mem_cons.mp h).elim (fun e => ft_me e (List.mem_cons_of_mem _ (List.mem_append_left _ (List.mem_of_getElem? (i := 4) rfl)))) (fun h => absurd h List.not_mem_nil)) gw_wsX10_put
theorem gX5_append_X10_put_n32 : GoodIn wsX5_append (wsX10_put) := ggX5_append_X10_put
theorem dX5_append_0 : decode cX5_append 0 = .ok (.aload_n 0, 1) := by decide +kernel
theorem dX5_append_1 : decode cX5_append 1 = .ok (.getfield 9, 3) := by decide +kernel
theorem dX5_append_4 : decode cX5_append 4 = .ok (.aload_n 0, 1) := by decide +kernel
theorem dX5_append_5 : decode cX5_append 5 = .ok (.getfield 28, 3) := by decide +kernel
theorem dX5_append_8 : decode cX5_append 8 = .ok (.iload_n 1, 1) := by decide +kernel
theorem dX5_append_9 : decode cX5_append 9 = .ok (.invokestatic 32, 3) := by decide +kernel
theorem dX5_append_12 : decode cX5_append 12 = .ok (.aload_n 0, 1) := by decide +kernel
theorem dX5_append_13 : decode cX5_append 13 = .ok (.dup, 1) := by decide +kernel
theorem dX5_append_14 : decode cX5_append 14 = .ok (.getfield 28, 3) := by decide +kernel
theorem dX5_append_17 : decode cX5_append 17 = .ok (.iconst 1, 1) := by decide +kernel
theorem dX5_append_18 : decode cX5_append 18 = .ok (.iadd, 1) := by decide +kernel
theorem dX5_append_19 : decode cX5_append 19 = .ok (.putfield 28, 3) := by decide +kernel
theorem dX5_append_22 : decode cX5_append 22 = .ok (.aload_n 0, 1) := by decide +kernel
theorem dX5_append_23 : decode cX5_append 23 = .ok (.getfield 28, 3) := by decide +kernel
theorem dX5_append_26 : decode cX5_append 26 = .ok (.ireturn, 1) := by decide +kernel
theorem dX5_empty_0 : decode cX5_empty 0 = .ok (.aload_n 0, 1) := by decide +kernel
theorem dX5_empty_1 : decode cX5_empty 1 = .ok (.getfield 28, 3) := by decide +kernel
theorem dX5_empty_4 : decode cX5_empty 4 = .ok (.istore_n 1, 1) := by decide +kernel
theorem dX5_empty_5 : decode cX5_empty 5 = .ok (.aload_n 0, 1) := by decide +kernel
theorem dX5_empty_6 : decode cX5_empty 6 = .ok (.iconst 0, 1) := by decide +kernel
theorem dX5_empty_7 : decode cX5_empty 7 = .ok (.putfield 28, 3) := by decide +kernel
theorem dX5_empty_10 : decode cX5_empty 10 = .ok (.iload_n 1, 1) := by decide +kernel
theorem dX5_empty_11 : decode cX5_empty 11 = .ok (.ireturn, 1) := by decide +kernel
theorem ggX5_read_X4_reset : GoodIn wsX5_read wsX4_reset := goodIn_sub (fun w h => (List.mem_cons.mp h).elim (fun e => ft_me e (k_wsX5_read_wsX5_read_r1 _ (List.mem_of_getElem? (i := 9) rfl))) (fun h => (List.mem_append.mp h).elim (fun h => (List.forall_mem_cons.mpr ⟨(k_wsX5_read_wsX5_read_r1 _ (List.mem_of_getElem? (i := 10) rfl)), List.forall_mem_cons.mpr ⟨(k_wsX5_read_wsX5_read_r1 _ (List.mem_of_getElem? (i := 11) rfl)), List.forall_mem_cons.mpr ⟨(k_wsX5_read_wsX5_read_r1 _ (List.mem_of_getElem? (i := 12) rfl)), List.forall_mem_cons.mpr ⟨(k_wsX5_read_wsX5_read_r1 _ (List.mem_of_getElem? (i := 13) rfl)), fun _ h => absurd h List.not_mem_nil⟩⟩⟩⟩) w h) (fun h => k_wsX5_read_wsX40 w h))) gw_wsX4_reset
theorem gX5_read_X4_reset : GoodIn wsX5_read (wsV RX5 36 RX4 yX4_reset wsX4_reset) := goodIn_app (goodIn_sub (List.forall_mem_cons.mpr ⟨(k_wsX5_read_wsX5_read_r1 _ (List.mem_of_getElem? (i := 5) rfl)), List.forall_mem_cons.mpr ⟨(k_wsX5_read_wsX5_read_r1 _ (List.mem_of_getElem? (i := 6) rfl)), List.forall_mem_cons.mpr ⟨(k_wsX5_read_wsX5_read_r1 _ (List.mem_of_getElem? (i := 7) rfl)), List.forall_mem_cons.mpr ⟨(k_wsX5_read_wsX5_read_r1 _ (List.mem_of_getElem? (i := 8) rfl)), fun _ h => absurd h List.not_mem_nil⟩⟩⟩⟩) (by decide +kernel)) ggX5_read_X4_reset
theorem ggX5_read_X10_put : GoodIn wsX5_read wsX10_put := goodIn_sub (fun w h => (List.mem_cons.mp h).elim (fun e => ft_me e (k_wsX5_read_wsX5_read_r1 _ (List.mem_of_getElem? (i := 16) rfl))) (fun h => absurd h List.not_mem_nil)) gw_wsX10_put
theorem gX5_read_X10_put_n32 : GoodIn wsX5_read (wsX10_put) := ggX5_read_X10_put
set_option maxRecDepth 20000 in
theorem s_X5_read_X5_readItem_wsX5_readItem_r1 : ∀ w ∈ wsX5_readItem_r1, w ∈ wsX5_read := List.forall_mem_cons.mpr ⟨(k_wsX5_read_wsX5_read_r1 _ (List.mem_of_getElem? (i := 3) rfl)), List.forall_mem_cons.mpr ⟨(k_wsX5_read_wsX5_read_r1 _ (List.mem_of_getElem? (i := 22) rfl)), List.forall_mem_cons.mpr ⟨(k_wsX5_read_wsX5_read_r1 _ (List.mem_of_getElem? (i := 23) rfl)), List.forall_mem_cons.mpr ⟨(k_wsX5_read_wsX5_read_r2 _ (List.mem_of_getElem? (i := 0) rfl)), List.forall_mem_cons.mpr ⟨(k_wsX5_read_wsX5_read_r1 _ (List.mem_of_getElem? (i := 20) rfl)), List.forall_mem_cons.mpr ⟨(k_wsX5_read_wsX5_read_r2 _ (List.mem_of_getElem? (i := 1) rfl)), List.forall_mem_cons.mpr ⟨(k_wsX5_read_wsX5_read_r2 _ (List.mem_of_getElem? (i := 2) rfl)), List.forall_mem_cons.mpr ⟨(k_wsX5_read_wsX5_read_r2 _ (List.mem_of_getElem? (i := 3) rfl)), List.forall_mem_cons.mpr ⟨(k_wsX5_read_wsX5_read_r2 _ (List.mem_of_getElem? (i := 4) rfl)), List.forall_mem_cons.mpr ⟨(k_wsX5_read_wsX5_read_r2 _ (List.mem_of_getElem? (i := 5) rfl)), List.forall_mem_cons.mpr ⟨(k_wsX5_read_wsX5_read_r2 _ (List.mem_of_getElem? (i := 6) rfl)), List.forall_mem_cons.mpr ⟨(k_wsX5_read_wsX5_read_r2 _ (List.mem_of_getElem? (i := 7) rfl)), List.forall_mem_cons.mpr ⟨(k_wsX5_read_wsX5_read_r2 _ (List.mem_of_getElem? (i := 8) rfl)), List.forall_mem_cons.mpr ⟨(k_wsX5_read_wsX5_read_r2 _ (List.mem_of_getElem? (i := 9) rfl)), List.forall_mem_cons.mpr ⟨(k_wsX5_read_wsX5_read_r2 _ (List.mem_of_getElem? (i := 10) rfl)), List.forall_mem_cons.mpr ⟨(k_wsX5_read_wsX5_read_r2 _ (List.mem_of_getElem? (i := 11) rfl)), List.forall_mem_cons.mpr ⟨(k_wsX5_read_wsX5_read_r2 _ (List.mem_of_getElem? (i := 12) rfl)), List.forall_mem_cons.mpr ⟨(k_wsX5_read_wsX5_read_r2 _ (List.mem_of_getElem? (i := 13) rfl)), List.forall_mem_cons.mpr ⟨(k_wsX5_read_wsX5_read_r2 _ (List.mem_of_getElem? (i := 14) rfl)), List.forall_mem_cons.mpr ⟨(k_wsX5_read_wsX5_read_r2 _ (List.mem_of_getElem? (i := 15) rfl)), List.forall_mem_cons.mpr ⟨(k_wsX5_read_wsX5_read_r2 _ (List.mem_of_getElem? (i := 16) rfl)), List.forall_mem_cons.mpr ⟨(k_wsX5_read_wsX5_read_r2 _ (List.mem_of_getElem? (i := 17) rfl)), List.forall_mem_cons.mpr ⟨(k_wsX5_read_wsX5_read_r2 _ (List.mem_of_getElem? (i := 18) rfl)), List.forall_mem_cons.mpr ⟨(k_wsX5_read_wsX5_read_r2 _ (List.mem_of_getElem? (i := 19) rfl)), fun _ h => absurd h List.not_mem_nil⟩⟩⟩⟩⟩⟩⟩⟩⟩⟩⟩⟩⟩⟩⟩⟩⟩⟩⟩⟩⟩⟩⟩⟩
set_option maxRecDepth 20000 in
theorem s_X5_read_X5_readItem_wsX5_readItem_r2 : ∀ w ∈ wsX5_readItem_r2, w ∈ wsX5_read := List.forall_mem_cons.mpr ⟨(k_wsX5_read_wsX5_read_r2 _ (List.mem_of_getElem? (i := 20) rfl)), List.forall_mem_cons.mpr ⟨(k_wsX5_read_wsX5_read_r2 _ (List.mem_of_getElem? (i := 21) rfl)), List.forall_mem_cons.mpr ⟨(k_wsX5_read_wsX5_read_r2 _ (List.mem_of_getElem? (i := 22) rfl)), List.forall_mem_cons.mpr ⟨(k_wsX5_read_wsX5_read_r2 _ (List.mem_of_getElem? (i := 23) rfl)), List.forall_mem_cons.mpr ⟨(k_wsX5_read_wsX5_read_r3 _ (List.mem_of_getElem? (i := 0) rfl)), List.forall_mem_cons.mpr ⟨(k_wsX5_read_wsX5_read_r1 _ (List.mem_of_getElem? (i := 4) rfl)), List.forall_mem_cons.mpr ⟨(k_wsX5_read_wsX5_read_r3 _ (List.mem_of_getElem? (i := 1) rfl)), List.forall_mem_cons.mpr ⟨(k_wsX5_read_wsX5_read_r3 _ (List.mem_of_getElem? (i := 2) rfl)), List.forall_mem_cons.mpr ⟨(k_wsX5_read_wsX5_read_r1 _ (List.mem_of_getElem? (i := 15) rfl)), List.forall_mem_cons.mpr ⟨(k_wsX5_read_wsX5_read_r3 _ (List.mem_of_getElem? (i := 3) rfl)), List.forall_mem_cons.mpr ⟨(k_wsX5_read_wsX5_read_r3 _ (List.mem_of_getElem? (i := 4) rfl)), List.forall_mem_cons.mpr ⟨(k_wsX5_read_wsX5_read_r3 _ (List.mem_of_getElem? (i := 5) rfl)), List.forall_mem_cons.mpr ⟨(k_wsX5_read_wsX5_read_r3 _ (List.mem_of_getElem? (i := 6) rfl)), List.forall_mem_cons.mpr ⟨(k_wsX5_read_wsX5_read_r3 _ (List.mem_of_getElem? (i := 7) rfl)), List.forall_mem_cons.mpr ⟨(k_wsX5_read_wsX5_read_r3 _ (List.mem_of_getElem? (i := 8) rfl)), List.forall_mem_cons.mpr ⟨(k_wsX5_read_wsX5_read_r3 _ (List.mem_of_getElem? (i := 9) rfl)), List.forall_mem_cons.mpr ⟨(k_wsX5_read_wsX5_read_r3 _ (List.mem_of_getElem? (i := 10) rfl)), List.forall_mem_cons.mpr ⟨(k_wsX5_read_wsX5_read_r3 _ (List.mem_of_getElem? (i := 11) rfl)), List.forall_mem_cons.mpr ⟨(k_wsX5_read_wsX5_read_r3 _ (List.mem_of_getElem? (i := 12) rfl)), List.forall_mem_cons.mpr ⟨(k_wsX5_read_wsX5_read_r3 _ (List.mem_of_getElem? (i := 13) rfl)), List.forall_mem_cons.mpr ⟨(k_wsX5_read_wsX5_read_r3 _ (List.mem_of_getElem? (i := 14) rfl)), List.forall_mem_cons.mpr ⟨(k_wsX5_read_wsX5_read_r3 _ (List.mem_of_getElem? (i := 15) rfl)), List.forall_mem_cons.mpr ⟨(k_wsX5_read_wsX5_read_r3 _ (List.mem_of_getElem? (i := 16) rfl)), List.forall_mem_cons.mpr ⟨(k_wsX5_read_wsX5_read_r3 _ (List.mem_of_getElem? (i := 17) rfl)), fun _ h => absurd h List.not_mem_nil⟩⟩⟩⟩⟩⟩⟩⟩⟩⟩⟩⟩⟩⟩⟩⟩⟩⟩⟩⟩⟩⟩⟩⟩
set_option maxRecDepth 20000 in
theorem s_X5_read_X5_readItem_wsX5_readItem_r3 : ∀ w ∈ wsX5_readItem_r3, w ∈ wsX5_read := List.forall_mem_cons.mpr ⟨(k_wsX5_read_wsX5_read_r3 _ (List.mem_of_getElem? (i := 18) rfl)), List.forall_mem_cons.mpr ⟨(k_wsX5_read_wsX5_read_r3 _ (List.mem_of_getElem? (i := 19) rfl)), List.forall_mem_cons.mpr ⟨(k_wsX5_read_wsX5_read_r3 _ (List.mem_of_getElem? (i := 20) rfl)), List.forall_mem_cons.mpr ⟨(k_wsX5_read_wsX5_read_r3 _ (List.mem_of_getElem? (i := 21) rfl)), List.forall_mem_cons.mpr ⟨(k_wsX5_read_wsX5_read_r3 _ (List.mem_of_getElem? (i := 22) rfl)), List.forall_mem_cons.mpr ⟨(k_wsX5_read_wsX5_read_r3 _ (List.mem_of_getElem? (i := 23) rfl)), List.forall_mem_cons.mpr ⟨(k_wsX5_read_wsX5_read_r4 _ (List.mem_of_getElem? (i := 0) rfl)), List.forall_mem_cons.mpr ⟨(k_wsX5_read_wsX5_read_r4 _ (List.mem_of_getElem? (i := 1) rfl)), List.forall_mem_cons.mpr ⟨(k_wsX5_read_wsX5_read_r4 _ (List.mem_of_getElem? (i := 2) rfl)), List.forall_mem_cons.mpr ⟨(k_wsX5_read_wsX5_read_r4 _ (List.mem_of_getElem? (i := 3) rfl)), List.forall_mem_cons.mpr ⟨(k_wsX5_read_wsX5_read_r4 _ (List.mem_of_getElem? (i := 4) rfl)), List.forall_mem_cons.mpr ⟨(k_wsX5_read_wsX5_read_r4 _ (List.mem_of_getElem? (i := 5) rfl)), List.forall_mem_cons.mpr ⟨(k_wsX5_read_wsX5_read_r4 _ (List.mem_of_getElem? (i := 6) rfl)), List.forall_mem_cons.mpr ⟨(k_wsX5_read_wsX5_read_r4 _ (List.mem_of_getElem? (i := 7) rfl)), List.forall_mem_cons.mpr ⟨(k_wsX5_read_wsX5_read_r4 _ (List.mem_of_getElem? (i := 8) rfl)), List.forall_mem_cons.mpr ⟨(k_wsX5_read_wsX5_read_r4 _ (List.mem_of_getElem? (i := 9) rfl)), List.forall_mem_cons.mpr ⟨(k_wsX5_read_wsX5_read_r4 _ (List.mem_of_getElem? (i := 10) rfl)), List.forall_mem_cons.mpr ⟨(k_wsX5_read_wsX5_read_r4 _ (List.mem_of_getElem? (i := 11) rfl)), List.forall_mem_cons.mpr ⟨(k_wsX5_read_wsX5_read_r4 _ (List.mem_of_getElem? (i := 12) rfl)), List.forall_mem_cons.mpr ⟨(k_wsX5_read_wsX5_read_r4 _ (List.mem_of_getElem? (i := 13) rfl)), List.forall_mem_cons.mpr ⟨(k_wsX5_read_wsX5_read_r4 _ (List.mem_of_getElem? (i := 14) rfl)), List.forall_mem_cons.mpr ⟨(k_wsX5_read_wsX5_read_r4 _ (List.mem_of_getElem? (i := 15) rfl)), List.forall_mem_cons.mpr ⟨(k_wsX5_read_wsX5_read_r4 _ (List.mem_of_getElem? (i := 16) rfl)), List.forall_mem_cons.mpr ⟨(k_wsX5_read_wsX5_read_r4 _ (List.mem_of_getElem? (i := 17) rfl)), fun _ h => absurd h List.not_mem_nil⟩⟩⟩⟩⟩⟩⟩⟩⟩⟩⟩⟩⟩⟩⟩⟩⟩⟩⟩⟩⟩⟩⟩⟩
set_option maxRecDepth 20000 in
theorem s_X5_read_X5_readItem_wsX5_readItem_r4 : ∀ w ∈ wsX5_readItem_r4, w ∈ wsX5_read := List.forall_mem_cons.mpr ⟨(k_wsX5_read_wsX5_read_r4 _ (List.mem_of_getElem? (i := 18) rfl)), List.forall_mem_cons.mpr ⟨(k_wsX5_read_wsX5_read_r4 _ (List.mem_of_getElem? (i := 19) rfl)), List.forall_mem_cons.mpr ⟨(k_wsX5_read_wsX5_read_r4 _ (List.mem_of_getElem? (i := 20) rfl)), List.forall_mem_cons.mpr ⟨(k_wsX5_read_wsX5_read_r4 _ (List.mem_of_getElem? (i := 21) rfl)), List.forall_mem_cons.mpr ⟨(k_wsX5_read_wsX5_read_r4 _ (List.mem_of_getElem? (i := 22) rfl)), List.forall_mem_cons.mpr ⟨(k_wsX5_read_wsX5_read_r4 _ (List.mem_of_getElem? (i := 23) rfl)), List.forall_mem_cons.mpr ⟨(k_wsX5_read_wsX5_read_r5 _ (List.mem_of_getElem? (i := 0) rfl)), List.forall_mem_cons.mpr ⟨(k_wsX5_read_wsX5_read_r5 _ (List.mem_of_getElem? (i := 1) rfl)), List.forall_mem_cons.mpr ⟨(k_wsX5_read_wsX5_read_r5 _ (List.mem_of_getElem? (i := 2) rfl)), List.forall_mem_cons.mpr ⟨(k_wsX5_read_wsX5_read_r5 _ (List.mem_of_getElem? (i := 3) rfl)), List.forall_mem_cons.mpr ⟨(k_wsX5_read_wsX5_read_r5 _ (List.mem_of_getElem? (i := 4) rfl)), List.forall_mem_cons.mpr ⟨(k_wsX5_read_wsX5_read_r5 _ (List.mem_of_getElem? (i := 5) rfl)), List.forall_mem_cons.mpr ⟨(k_wsX5_read_wsX5_read_r1 _ (List.mem_of_getElem? (i := 2) rfl)), List.forall_mem_cons.mpr ⟨(k_wsX5_read_wsX5_read_r5 _ (List.mem_of_getElem? (i := 6) rfl)), List.forall_mem_cons.mpr ⟨(k_wsX5_read_wsX5_read_r5 _ (List.mem_of_getElem? (i := 7) rfl)), List.forall_mem_cons.mpr ⟨(k_wsX5_read_wsX5_read_r5 _ (List.mem_of_getElem? (i := 8) rfl)), List.forall_mem_cons.mpr ⟨(k_wsX5_read_wsX5_read_r5 _ (List.mem_of_getElem? (i := 9) rfl)), List.forall_mem_cons.mpr ⟨(k_wsX5_read_wsX5_read_r5 _ (List.mem_of_getElem? (i := 10) rfl)), List.forall_mem_cons.mpr ⟨(k_wsX5_read_wsX5_read_r5 _ (List.mem_of_getElem? (i := 11) rfl)), List.forall_mem_cons.mpr ⟨(k_wsX5_read_wsX5_read_r5 _ (List.mem_of_getElem? (i := 12) rfl)), List.forall_mem_cons.mpr ⟨(k_wsX5_read_wsX5_read_r5 _ (List.mem_of_getElem? (i := 13) rfl)), List.forall_mem_cons.mpr ⟨(k_wsX5_read_wsX5_read_r5 _ (List.mem_of_getElem? (i := 14) rfl)), List.forall_mem_cons.mpr ⟨(k_wsX5_read_wsX5_read_r5 _ (List.mem_of_getElem? (i := 15) rfl)), List.forall_mem_cons.mpr ⟨(k_wsX5_read_wsX5_read_r1 _ (List.mem_of_getElem? (i := 14) rfl)), fun _ h => absurd h List.not_mem_nil⟩⟩⟩⟩⟩⟩⟩⟩⟩⟩⟩⟩⟩⟩⟩⟩⟩⟩⟩⟩⟩⟩⟩⟩
set_option maxRecDepth 20000 in
theorem s_X5_read_X5_readItem_wsX5_readItem_r5 : ∀ w ∈ wsX5_readItem_r5, w ∈ wsX5_read := List.forall_mem_cons.mpr ⟨(k_wsX5_read_wsX5_read_r1 _ (List.mem_of_getElem? (i := 16) rfl)), List.forall_mem_cons.mpr ⟨(k_wsX5_read_wsX5_read_r5 _ (List.mem_of_getElem? (i := 16) rfl)), List.forall_mem_cons.mpr ⟨(k_wsX5_read_wsX5_read_r5 _ (List.mem_of_getElem? (i := 17) rfl)), List.forall_mem_cons.mpr ⟨(k_wsX5_read_wsX5_read_r5 _ (List.mem_of_getElem? (i := 18) rfl)), List.forall_mem_cons.mpr ⟨(k_wsX5_read_wsX5_read_r5 _ (List.mem_of_getElem? (i := 19) rfl)), List.forall_mem_cons.mpr ⟨(k_wsX5_read_wsX5_read_r5 _ (List.mem_of_getElem? (i := 20) rfl)), List.forall_mem_cons.mpr ⟨(k_wsX5_read_wsX5_read_r5 _ (List.mem_of_getElem? (i := 21) rfl)), List.forall_mem_cons.mpr ⟨(k_wsX5_read_wsX5_read_r5 _ (List.mem_of_getElem? (i := 22) rfl)), List.forall_mem_cons.mpr ⟨(k_wsX5_read_wsX5_read_r5 _ (List.mem_of_getElem? (i := 23) rfl)), List.forall_mem_cons.mpr ⟨(k_wsX5_read_wsX5_read_r1 _ (List.mem_of_getElem? (i := 0) rfl)), List.forall_mem_cons.mpr ⟨(k_wsX5_read_wsX5_read_r6 _ (List.mem_of_getElem? (i := 0) rfl)), List.forall_mem_cons.mpr ⟨(k_wsX5_read_wsX5_read_r6 _ (List.mem_of_getElem? (i := 1) rfl)), List.forall_mem_cons.mpr ⟨(k_wsX5_read_wsX5_read_r6 _ (List.mem_of_getElem? (i := 2) rfl)), List.forall_mem_cons.mpr ⟨(k_wsX5_read_wsX5_read_r1 _ (List.mem_of_getElem? (i := 8) rfl)), List.forall_mem_cons.mpr ⟨(k_wsX5_read_wsX5_read_r6 _ (List.mem_of_getElem? (i := 3) rfl)), List.forall_mem_cons.mpr ⟨(k_wsX5_read_wsX5_read_r1 _ (List.mem_of_getElem? (i := 10) rfl)), List.forall_mem_cons.mpr ⟨(k_wsX5_read_wsX5_read_r6 _ (List.mem_of_getElem? (i := 4) rfl)), List.forall_mem_cons.mpr ⟨(k_wsX5_read_wsX5_read_r6 _ (List.mem_of_getElem? (i := 5) rfl)), List.forall_mem_cons.mpr ⟨(k_wsX5_read_wsX5_read_r6 _ (List.mem_of_getElem? (i := 6) rfl)), List.forall_mem_cons.mpr ⟨(k_wsX5_read_wsX5_read_r6 _ (List.mem_of_getElem? (i := 7) rfl)), List.forall_mem_cons.mpr ⟨(k_wsX5_read_wsX5_read_r6 _ (List.mem_of_getElem? (i := 8) rfl)), List.forall_mem_cons.mpr ⟨(k_wsX5_read_wsX5_read_r6 _ (List.mem_of_getElem? (i := 9) rfl)), List.forall_mem_cons.mpr ⟨(k_wsX5_read_wsX5_read_r6 _ (List.mem_of_getElem? (i := 10) rfl)), List.forall_mem_cons.mpr ⟨(k_wsX5_read_wsX5_read_r6 _ (List.mem_of_getElem? (i := 11) rfl)), fun _ h => absurd h List.not_mem_nil⟩⟩⟩⟩⟩⟩⟩⟩⟩⟩⟩⟩⟩⟩⟩⟩⟩⟩⟩⟩⟩⟩⟩⟩
set_option maxRecDepth 20000 in
theorem s_X5_read_X5_readItem_wsX5_readItem_r6 : ∀ w ∈ wsX5_readItem_r6, w ∈ wsX5_read := List.forall_mem_cons.mpr ⟨(k_wsX5_read_wsX5_read_r6 _ (List.mem_of_getElem? (i := 12) rfl)), List.forall_mem_cons.mpr ⟨(k_wsX5_read_wsX5_read_r6 _ (List.mem_of_getElem? (i := 13) rfl)), List.forall_mem_cons.mpr ⟨(k_wsX5_read_wsX5_read_r1 _ (List.mem_of_getElem? (i := 1) rfl)), List.forall_mem_cons.mpr ⟨(k_wsX5_read_wsX5_read_r6 _ (List.mem_of_getElem? (i := 14) rfl)), List.forall_mem_cons.mpr ⟨(k_wsX5_read_wsX5_read_r6 _ (List.mem_of_getElem? (i := 15) rfl)), List.forall_mem_cons.mpr ⟨(k_wsX5_read_wsX5_read_r6 _ (List.mem_of_getElem? (i := 16) rfl)), List.forall_mem_cons.mpr ⟨(k_wsX5_read_wsX5_read_r6 _ (List.mem_of_getElem? (i := 17) rfl)), List.forall_mem_cons.mpr ⟨(k_wsX5_read_wsX5_read_r6 _ (List.mem_of_getElem? (i := 18) rfl)), List.forall_mem_cons.mpr ⟨(k_wsX5_read_wsX5_read_r1 _ (List.mem_of_getElem? (i := 13) rfl)), List.forall_mem_cons.mpr ⟨(k_wsX5_read_wsX5_read_r6 _ (List.mem_of_getElem? (i := 19) rfl)), List.forall_mem_cons.mpr ⟨(k_wsX5_read_wsX5_read_r6 _ (List.mem_of_getElem? (i := 20) rfl)), List.forall_mem_cons.mpr ⟨(k_wsX5_read_wsX5_read_r6 _ (List.mem_of_getElem? (i := 21) rfl)), List.forall_mem_cons.mpr ⟨(k_wsX5_read_wsX5_read_r6 _ (List.mem_of_getElem? (i := 22) rfl)), List.forall_mem_cons.mpr ⟨(k_wsX5_read_wsX5_read_r6 _ (List.mem_of_getElem? (i := 23) rfl)), List.forall_mem_cons.mpr ⟨(k_wsX5_read_wsX5_read_r7 _ (List.mem_of_getElem? (i := 0) rfl)), List.forall_mem_cons.mpr ⟨(k_wsX5_read_wsX5_read_r7 _ (List.mem_of_getElem? (i := 1) rfl)), List.forall_mem_cons.mpr ⟨(k_wsX5_read_wsX5_read_r7 _ (List.mem_of_getElem? (i := 2) rfl)), List.forall_mem_cons.mpr ⟨(k_wsX5_read_wsX5_read_r7 _ (List.mem_of_getElem? (i := 3) rfl)), List.forall_mem_cons.mpr ⟨(k_wsX5_read_wsX5_read_r7 _ (List.mem_of_getElem? (i := 4) rfl)), List.forall_mem_cons.mpr ⟨(k_wsX5_read_wsX5_read_r7 _ (List.mem_of_getElem? (i := 5) rfl)), List.forall_mem_cons.mpr ⟨(k_wsX5_read_wsX5_read_r7 _ (List.mem_of_getElem? (i := 6) rfl)), List.forall_mem_cons.mpr ⟨(k_wsX5_read_wsX5_read_r7 _ (List.mem_of_getElem? (i := 7) rfl)), List.forall_mem_cons.mpr ⟨(k_wsX5_read_wsX5_read_r7 _ (List.mem_of_getElem? (i := 8) rfl)), List.forall_mem_cons.mpr ⟨(k_wsX5_read_wsX5_read_r7 _ (List.mem_of_getElem? (i := 9) rfl)), fun _ h => absurd h List.not_mem_nil⟩⟩⟩⟩⟩⟩⟩⟩⟩⟩⟩⟩⟩⟩⟩⟩⟩⟩⟩⟩⟩⟩⟩⟩
set_option maxRecDepth 20000 in
theorem s_X5_read_X5_readItem_wsX5_readItem_r7 : ∀ w ∈ wsX5_readItem_r7, w ∈ wsX5_read := List.forall_mem_cons.mpr ⟨(k_wsX5_read_wsX5_read_r7 _ (List.mem_of_getElem? (i := 10) rfl)), List.forall_mem_cons.mpr ⟨(k_wsX5_read_wsX5_read_r7 _ (List.mem_of_getElem? (i := 11) rfl)), List.forall_mem_cons.mpr ⟨(k_wsX5_read_wsX5_read_r7 _ (List.mem_of_getElem? (i := 12) rfl)), List.forall_mem_cons.mpr ⟨(k_wsX5_read_wsX5_read_r7 _ (List.mem_of_getElem? (i := 13) rfl)), fun _ h => absurd h List.not_mem_nil⟩⟩⟩⟩
theorem ggX5_read_X5_readItem : GoodIn wsX5_read wsX5_readItem := goodIn_sub (fun w h => (List.mem_cons.mp h).elim (fun e => ft_me e (k_wsX5_read_wsX5_read_r1 _ (List.mem_of_getElem? (i := 21) rfl))) (fun h => (List.mem_append.mp h).elim (fun h => (List.mem_append.mp h).elim (fun h => (List.mem_append.mp h).elim (fun h => s_X5_read_X5_readItem_wsX5_readItem_r1 w h) (fun h => (List.mem_append.mp h).elim (fun h => s_X5_read_X5_readItem_wsX5_readItem_r2 w h) (fun h => (List.mem_append.mp h).elim (fun h => s_X5_read_X5_readItem_wsX5_readItem_r3 w h) (fun h => (List.mem_append.mp h).elim (fun h => s_X5_read_X5_readItem_wsX5_readItem_r4 w h) (fun h => (List.mem_append.mp h).elim (fun h => s_X5_read_X5_readItem_wsX5_readItem_r5 w h) (fun h => (List.mem_append.mp h).elim (fun h => s_X5_read_X5_readItem_wsX5_readItem_r6 w h) (fun h => s_X5_read_X5_readItem_wsX5_readItem_r7 w h))))))) (fun h => k_wsX5_read_wsX50 w h)) (fun h => k_wsX5_read_wsX40 w h))) gw_wsX5_readItem
theorem gX5_read_X5_readItem : GoodIn wsX5_read (wsV RX5 45 RX5 yX5_readItem wsX5_readItem) := goodIn_app (goodIn_sub (List.forall_mem_cons.mpr ⟨(k_wsX5_read_wsX5_read_r1 _ (List.mem_of_getElem? (i := 17) rfl)), List.forall_mem_cons.mpr ⟨(k_wsX5_read_wsX5_read_r1 _ (List.mem_of_getElem? (i := 18) rfl)), List.forall_mem_cons.mpr ⟨(k_wsX5_read_wsX5_read_r1 _ (List.mem_of_getElem? (i := 19) rfl)), List.forall_mem_cons.mpr ⟨(k_wsX5_read_wsX5_read_r1 _ (List.mem_of_getElem? (i := 20) rfl)), fun _ h => absurd h List.not_mem_nil⟩⟩⟩⟩) (by decide +kernel)) ggX5_read_X5_readItem
theorem dX5_read_0 : decode cX5_read 0 = .ok (.aload_n 0, 1) := by decide +kernel
theorem dX5_read_1 : decode cX5_read 1 = .ok (.getfield 24, 3) := by decide +kernel
theorem dX5_read_4 : decode cX5_read 4 = .ok (.invokevirtual 36, 3) := by decide +kernel
theorem dX5_read_7 : decode cX5_read 7 = .ok (.iconst 0, 1) := by decide +kernel
theorem dX5_read_8 : decode cX5_read 8 = .ok (.istore_n 1, 1) := by decide +kernel
theorem dX5_read_9 : decode cX5_read 9 = .ok (.iload_n 1, 1) := by decide +kernel
theorem dX5_read_10 : decode cX5_read 10 = .ok (.iconst 3, 1) := by decide +kernel
theorem dX5_read_11 : decode cX5_read 11 = .ok (.if_icmp .ge 18, 3) := by decide +kernel
theorem dX5_read_14 : decode cX5_read 14 = .ok (.aload_n 0, 1) := by decide +kernel
theorem dX5_read_15 : decode cX5_read 15 = .ok (.getfield 18, 3) := by decide +kernel
theorem dX5_read_18 : decode cX5_read 18 = .ok (.iload_n 1, 1) := by decide +kernel
theorem dX5_read_19 : decode cX5_read 19 = .ok (.iconst 0, 1) := by decide +kernel
theorem dX5_read_20 : decode cX5_read 20 = .ok (.invokestatic 32, 3) := by decide +kernel
theorem dX5_read_23 : decode cX5_read 23 = .ok (.iinc 1 1, 3) := by decide +kernel
theorem dX5_read_26 : decode cX5_read 26 = .ok (.goto (-17), 3) := by decide +kernel
theorem dX5_read_29 : decode cX5_read 29 = .ok (.aload_n 0, 1) := by decide +kernel
theorem dX5_read_30 : decode cX5_read 30 = .ok (.iconst 0, 1) := by decide +kernel
theorem dX5_read_31 : decode cX5_read 31 = .ok (.putfield 39, 3) := by decide +kernel
theorem dX5_read_34 : decode cX5_read 34 = .ok (.aload_n 0, 1) := by decide +kernel
theorem dX5_read_35 : decode cX5_read 35 = .ok (.iconst 0, 1) := by decide +kernel
theorem dX5_read_36 : decode cX5_read 36 = .ok (.putfield 42, 3) := by decide +kernel
theorem dX5_read_39 : decode cX5_read 39 = .ok (.iconst 0, 1) := by decide +kernel
theorem dX5_read_40 : decode cX5_read 40 = .ok (.istore_n 1, 1) := by decide +kernel
theorem dX5_read_41 : decode cX5_read 41 = .ok (.iload_n 1, 1) := by decide +kernel
theorem dX5_read_42 : decode cX5_read 42 = .ok (.bipush 120, 2) := by decide +kernel
theorem dX5_read_44 : decode cX5_read 44 = .ok (.if_icmp .ge 31, 3) := by decide +kernel
theorem dX5_read_47 : decode cX5_read 47 = .ok (.aload_n 0, 1) := by decide +kernel
theorem dX5_read_48 : decode cX5_read 48 = .ok (.getfield 42, 3) := by decide +kernel
theorem dX5_read_51 : decode cX5_read 51 = .ok (.aload_n 0, 1) := by decide +kernel
theorem dX5_read_52 : decode cX5_read 52 = .ok (.getfield 28, 3) := by decide +kernel
theorem dX5_read_55 : decode cX5_read 55 = .ok (.if_icmp .ge 20, 3) := by decide +kernel
theorem dX5_read_58 : decode cX5_read 58 = .ok (.aload_n 0, 1) := by decide +kernel
theorem dX5_read_59 : decode cX5_read 59 = .ok (.getfield 39, 3) := by decide +kernel
theorem dX5_read_62 : decode cX5_read 62 = .ok (.ifCond .ne 13, 3) := by decide +kernel
theorem dX5_read_65 : decode cX5_read 65 = .ok (.aload_n 0, 1) := by decide +kernel
theorem dX5_read_66 : decode cX5_read 66 = .ok (.invokevirtual 45, 3) := by decide +kernel
theorem dX5_read_69 : decode cX5_read 69 = .ok (.iinc 1 1, 3) := by decide +kernel
theorem dX5_read_72 : decode cX5_read 72 = .ok (.goto (-31), 3) := by decide +kernel
theorem dX5_read_75 : decode cX5_read 75 = .ok (.return_, 1) := by decide +kernel
set_option maxRecDepth 20000 in
theorem s_X5_readItem_X5_wordAt_wsX5_wordAt_r1 : ∀ w ∈ wsX5_wordAt_r1, w ∈ wsX5_readItem := List.forall_mem_cons.mpr ⟨(k_wsX5_readItem_wsX5_readItem_r1 _ (List.mem_of_getElem? (i := 6) rfl)), List.forall_mem_cons.mpr ⟨(k_wsX5_readItem_wsX5_readItem_r1 _ (List.mem_of_getElem? (i := 7) rfl)), List.forall_mem_cons.mpr ⟨(k_wsX5_readItem_wsX5_readItem_r1 _ (List.mem_of_getElem? (i := 4) rfl)), List.forall_mem_cons.mpr ⟨(k_wsX5_readItem_wsX5_readItem_r1 _ (List.mem_of_getElem? (i := 8) rfl)), List.forall_mem_cons.mpr ⟨(k_wsX5_readItem_wsX5_readItem_r1 _ (List.mem_of_getElem? (i := 9) rfl)), List.forall_mem_cons.mpr ⟨(k_wsX5_readItem_wsX5_readItem_r1 _ (List.mem_of_getElem? (i := 10) rfl)), List.forall_mem_cons.mpr ⟨(k_wsX5_readItem_wsX5_readItem_r1 _ (List.mem_of_getElem? (i := 11) rfl)), List.forall_mem_cons.mpr ⟨(k_wsX5_readItem_wsX5_readItem_r1 _ (List.mem_of_getElem? (i := 12) rfl)), List.forall_mem_cons.mpr ⟨(k_wsX5_readItem_wsX5_readItem_r1 _ (List.mem_of_getElem? (i := 13) rfl)), List.forall_mem_cons.mpr ⟨(k_wsX5_readItem_wsX5_readItem_r1 _ (List.mem_of_getElem? (i := 14) rfl)), List.forall_mem_cons.mpr ⟨(k_wsX5_readItem_wsX5_readItem_r1 _ (List.mem_of_getElem? (i := 15) rfl)), List.forall_mem_cons.mpr ⟨(k_wsX5_readItem_wsX5_readItem_r1 _ (List.mem_of_getElem? (i := 16) rfl)), List.forall_mem_cons.mpr ⟨(k_wsX5_readItem_wsX5_readItem_r1 _ (List.mem_of_getElem? (i := 17) rfl)), List.forall_mem_cons.mpr ⟨(k_wsX5_readItem_wsX5_readItem_r1 _ (List.mem_of_getElem? (i := 18) rfl)), List.forall_mem_cons.mpr ⟨(k_wsX5_readItem_wsX5_readItem_r1 _ (List.mem_of_getElem? (i := 19) rfl)), List.forall_mem_cons.mpr ⟨(k_wsX5_readItem_wsX5_readItem_r1 _ (List.mem_of_getElem? (i := 20) rfl)), List.forall_mem_cons.mpr ⟨(k_wsX5_readItem_wsX5_readItem_r1 _ (List.mem_of_getElem? (i := 21) rfl)), List.forall_mem_cons.mpr ⟨(k_wsX5_readItem_wsX5_readItem_r1 _ (List.mem_of_getElem? (i := 22) rfl)), List.forall_mem_cons.mpr ⟨(k_wsX5_readItem_wsX5_readItem_r1 _ (List.mem_of_getElem? (i := 23) rfl)), List.forall_mem_cons.mpr ⟨(k_wsX5_readItem_wsX5_readItem_r2 _ (List.mem_of_getElem? (i := 0) rfl)), List.forall_mem_cons.mpr ⟨(k_wsX5_readItem_wsX5_readItem_r2 _ (List.mem_of_getElem? (i := 1) rfl)), List.forall_mem_cons.mpr ⟨(k_wsX5_readItem_wsX5_readItem_r2 _ (List.mem_of_getElem? (i := 2) rfl)), List.forall_mem_cons.mpr ⟨(k_wsX5_readItem_wsX5_readItem_r2 _ (List.mem_of_getElem? (i := 3) rfl)), List.forall_mem_cons.mpr ⟨(k_wsX5_readItem_wsX5_readItem_r2 _ (List.mem_of_getElem? (i := 4) rfl)), fun _ h => absurd h List.not_mem_nil⟩⟩⟩⟩⟩⟩⟩⟩⟩⟩⟩⟩⟩⟩⟩⟩⟩⟩⟩⟩⟩⟩⟩⟩
set_option maxRecDepth 20000 in
theorem s_X5_readItem_X5_wordAt_wsX5_wordAt_r2 : ∀ w ∈ wsX5_wordAt_r2, w ∈ wsX5_readItem := List.forall_mem_cons.mpr ⟨(k_wsX5_readItem_wsX5_readItem_r2 _ (List.mem_of_getElem? (i := 5) rfl)), List.forall_mem_cons.mpr ⟨(k_wsX5_readItem_wsX5_readItem_r2 _ (List.mem_of_getElem? (i := 6) rfl)), List.forall_mem_cons.mpr ⟨(k_wsX5_readItem_wsX5_readItem_r2 _ (List.mem_of_getElem? (i := 7) rfl)), List.forall_mem_cons.mpr ⟨(k_wsX5_readItem_wsX5_readItem_r2 _ (List.mem_of_getElem? (i := 8) rfl)), List.forall_mem_cons.mpr ⟨(k_wsX5_readItem_wsX5_readItem_r2 _ (List.mem_of_getElem? (i := 9) rfl)), List.forall_mem_cons.mpr ⟨(k_wsX5_readItem_wsX5_readItem_r2 _ (List.mem_of_getElem? (i := 10) rfl)), List.forall_mem_cons.mpr ⟨(k_wsX5_readItem_wsX5_readItem_r2 _ (List.mem_of_getElem? (i := 11) rfl)), List.forall_mem_cons.mpr ⟨(k_wsX5_readItem_wsX5_readItem_r2 _ (List.mem_of_getElem? (i := 12) rfl)), List.forall_mem_cons.mpr ⟨(k_wsX5_readItem_wsX5_readItem_r2 _ (List.mem_of_getElem? (i := 13) rfl)), List.forall_mem_cons.mpr ⟨(k_wsX5_readItem_wsX5_readItem_r2 _ (List.mem_of_getElem? (i := 14) rfl)), List.forall_mem_cons.mpr ⟨(k_wsX5_readItem_wsX5_readItem_r2 _ (List.mem_of_getElem? (i := 15) rfl)), List.forall_mem_cons.mpr ⟨(k_wsX5_readItem_wsX5_readItem_r2 _ (List.mem_of_getElem? (i := 16) rfl)), List.forall_mem_cons.mpr ⟨(k_wsX5_readItem_wsX5_readItem_r2 _ (List.mem_of_getElem? (i := 17) rfl)), List.forall_mem_cons.mpr ⟨(k_wsX5_readItem_wsX5_readItem_r2 _ (List.mem_of_getElem? (i := 18) rfl)), List.forall_mem_cons.mpr ⟨(k_wsX5_readItem_wsX5_readItem_r2 _ (List.mem_of_getElem? (i := 19) rfl)), List.forall_mem_cons.mpr ⟨(k_wsX5_readItem_wsX5_readItem_r2 _ (List.mem_of_getElem? (i := 20) rfl)), List.forall_mem_cons.mpr ⟨(k_wsX5_readItem_wsX5_readItem_r2 _ (List.mem_of_getElem? (i := 21) rfl)), List.forall_mem_cons.mpr ⟨(k_wsX5_readItem_wsX5_readItem_r2 _ (List.mem_of_getElem? (i := 22) rfl)), List.forall_mem_cons.mpr ⟨(k_wsX5_readItem_wsX5_readItem_r2 _ (List.mem_of_getElem? (i := 23) rfl)), List.forall_mem_cons.mpr ⟨(k_wsX5_readItem_wsX5_readItem_r3 _ (List.mem_of_getElem? (i := 0) rfl)), List.forall_mem_cons.mpr ⟨(k_wsX5_readItem_wsX5_readItem_r3 _ (List.mem_of_getElem? (i := 1) rfl)), List.forall_mem_cons.mpr ⟨(k_wsX5_readItem_wsX5_readItem_r3 _ (List.mem_of_getElem? (i := 2) rfl)), List.forall_mem_cons.mpr ⟨(k_wsX5_readItem_wsX5_readItem_r3 _ (List.mem_of_getElem? (i := 3) rfl)), List.forall_mem_cons.mpr ⟨(k_wsX5_readItem_wsX5_readItem_r3 _ (List.mem_of_getElem? (i := 4) rfl)), fun _ h => absurd h List.not_mem_nil⟩⟩⟩⟩⟩⟩⟩⟩⟩⟩⟩⟩⟩⟩⟩⟩⟩⟩⟩⟩⟩⟩⟩⟩
set_option maxRecDepth 20000 in
theorem s_X5_readItem_X5_wordAt_wsX5_wordAt_r3 : ∀ w ∈ wsX5_wordAt_r3, w ∈ wsX5_readItem := List.forall_mem_cons.mpr ⟨(k_wsX5_readItem_wsX5_readItem_r3 _ (List.mem_of_getElem? (i := 5) rfl)), List.forall_mem_cons.mpr ⟨(k_wsX5_readItem_wsX5_readItem_r3 _ (List.mem_of_getElem? (i := 6) rfl)), List.forall_mem_cons.mpr ⟨(k_wsX5_readItem_wsX5_readItem_r3 _ (List.mem_of_getElem? (i := 7) rfl)), List.forall_mem_cons.mpr ⟨(k_wsX5_readItem_wsX5_readItem_r3 _ (List.mem_of_getElem? (i := 8) rfl)), List.forall_mem_cons.mpr ⟨(k_wsX5_readItem_wsX5_readItem_r3 _ (List.mem_of_getElem? (i := 9) rfl)), List.forall_mem_cons.mpr ⟨(k_wsX5_readItem_wsX5_readItem_r3 _ (List.mem_of_getElem? (i := 10) rfl)), List.forall_mem_cons.mpr ⟨(k_wsX5_readItem_wsX5_readItem_r3 _ (List.mem_of_getElem? (i := 11) rfl)), List.forall_mem_cons.mpr ⟨(k_wsX5_readItem_wsX5_readItem_r3 _ (List.mem_of_getElem? (i := 12) rfl)), List.forall_mem_cons.mpr ⟨(k_wsX5_readItem_wsX5_readItem_r3 _ (List.mem_of_getElem? (i := 13) rfl)), List.forall_mem_cons.mpr ⟨(k_wsX5_readItem_wsX5_readItem_r3 _ (List.mem_of_getElem? (i := 14) rfl)), List.forall_mem_cons.mpr ⟨(k_wsX5_readItem_wsX5_readItem_r3 _ (List.mem_of_getElem? (i := 15) rfl)), List.forall_mem_cons.mpr ⟨(k_wsX5_readItem_wsX5_readItem_r3 _ (List.mem_of_getElem? (i := 16) rfl)), List.forall_mem_cons.mpr ⟨(k_wsX5_readItem_wsX5_readItem_r3 _ (List.mem_of_getElem? (i := 17) rfl)), List.forall_mem_cons.mpr ⟨(k_wsX5_readItem_wsX5_readItem_r3 _ (List.mem_of_getElem? (i := 18) rfl)), List.forall_mem_cons.mpr ⟨(k_wsX5_readItem_wsX5_readItem_r3 _ (List.mem_of_getElem? (i := 19) rfl)), List.forall_mem_cons.mpr ⟨(k_wsX5_readItem_wsX5_readItem_r3 _ (List.mem_of_getElem? (i := 20) rfl)), List.forall_mem_cons.mpr ⟨(k_wsX5_readItem_wsX5_readItem_r3 _ (List.mem_of_getElem? (i := 21) rfl)), List.forall_mem_cons.mpr ⟨(k_wsX5_readItem_wsX5_readItem_r3 _ (List.mem_of_getElem? (i := 22) rfl)), List.forall_mem_cons.mpr ⟨(k_wsX5_readItem_wsX5_readItem_r3 _ (List.mem_of_getElem? (i := 23) rfl)), List.forall_mem_cons.mpr ⟨(k_wsX5_readItem_wsX5_readItem_r4 _ (List.mem_of_getElem? (i := 0) rfl)), List.forall_mem_cons.mpr ⟨(k_wsX5_readItem_wsX5_readItem_r4 _ (List.mem_of_getElem? (i := 1) rfl)), List.forall_mem_cons.mpr ⟨(k_wsX5_readItem_wsX5_readItem_r4 _ (List.mem_of_getElem? (i := 2) rfl)), List.forall_mem_cons.mpr ⟨(k_wsX5_readItem_wsX5_readItem_r4 _ (List.mem_of_getElem? (i := 3) rfl)), fun _ h => absurd h List.not_mem_nil⟩⟩⟩⟩⟩⟩⟩⟩⟩⟩⟩⟩⟩⟩⟩⟩⟩⟩⟩⟩⟩⟩⟩
theorem ggX5_readItem_X5_wordAt : GoodIn wsX5_readItem wsX5_wordAt := goodIn_sub (fun w h => (List.mem_cons.mp h).elim (fun e => ft_me e (k_wsX5_readItem_wsX5_readItem_r1 _ (List.mem_of_getElem? (i := 5) rfl))) (fun h => (List.mem_append.mp h).elim (fun h => (List.mem_append.mp h).elim (fun h => s_X5_readItem_X5_wordAt_wsX5_wordAt_r1 w h) (fun h => (List.mem_append.mp h).elim (fun h => s_X5_readItem_X5_wordAt_wsX5_wordAt_r2 w h) (fun h => s_X5_readItem_X5_wordAt_wsX5_wordAt_r3 w h))) (fun h => k_wsX5_readItem_wsX50 w h))) gw_wsX5_wordAt
theorem gX5_readItem_X5_wordAt : GoodIn wsX5_readItem (wsV RX5 48 RX5 yX5_wordAt wsX5_wordAt) := goodIn_app (goodIn_sub (List.forall_mem_cons.mpr ⟨(k_wsX5_readItem_wsX5_readItem_r1 _ (List.mem_of_getElem? (i := 1) rfl)), List.forall_mem_cons.mpr ⟨(k_wsX5_readItem_wsX5_readItem_r1 _ (List.mem_of_getElem? (i := 2) rfl)), List.forall_mem_cons.mpr ⟨(k_wsX5_readItem_wsX5_readItem_r1 _ (List.mem_of_getElem? (i := 3) rfl)), List.forall_mem_cons.mpr ⟨(k_wsX5_readItem_wsX5_readItem_r1 _ (List.mem_of_getElem? (i := 4) rfl)), fun _ h => absurd h List.not_mem_nil⟩⟩⟩⟩) (by decide +kernel)) ggX5_readItem_X5_wordAt
theorem ggX5_readItem_X5_numbersOf : GoodIn wsX5_readItem wsX5_numbersOf := goodIn_sub (fun w h => (List.mem_cons.mp h).elim (fun e => ft_me e (k_wsX5_readItem_wsX5_readItem_r4 _ (List.mem_of_getElem? (i := 6) rfl))) (fun h => absurd h List.not_mem_nil)) gw_wsX5_numbersOf
theorem gX5_readItem_X5_numbersOf : GoodIn wsX5_readItem (va_wsS RX5 52 yX5_numbersOf wsX5_numbersOf) := goodIn_app (goodIn_sub (List.forall_mem_cons.mpr ⟨(k_wsX5_readItem_wsX5_readItem_r4 _ (List.mem_of_getElem? (i := 4) rfl)), List.forall_mem_cons.mpr ⟨(k_wsX5_readItem_wsX5_readItem_r4 _ (List.mem_of_getElem? (i := 5) rfl)), List.forall_mem_cons.mpr ⟨(k_wsX5_readItem_wsX5_readItem_r1 _ (List.mem_of_getElem? (i := 4) rfl)), fun _ h => absurd h List.not_mem_nil⟩⟩⟩) (by decide +kernel)) ggX5_readItem_X5_numbersOf
theorem ggX5_readItem_X5_blame : GoodIn wsX5_readItem wsX5_blame := goodIn_sub (fun w h => (List.mem_cons.mp h).elim (fun e => ft_me e (k_wsX5_readItem_wsX5_readItem_r4 _ (List.mem_of_getElem? (i := 10) rfl))) (fun h => (List.mem_append.mp h).elim (fun h => (List.forall_mem_cons.mpr ⟨(k_wsX5_readItem_wsX5_readItem_r4 _ (List.mem_of_getElem? (i := 11) rfl)), List.forall_mem_cons.mpr ⟨(k_wsX5_readItem_wsX5_readItem_r4 _ (List.mem_of_getElem? (i := 12) rfl)), List.forall_mem_cons.mpr ⟨(k_wsX5_readItem_wsX5_readItem_r4 _ (List.mem_of_getElem? (i := 13) rfl)), fun _ h => absurd h List.not_mem_nil⟩⟩⟩) w h) (fun h => k_wsX5_readItem_wsX50 w h))) gw_wsX5_blame
theorem gX5_readItem_X5_blame : GoodIn wsX5_readItem (wsV RX5 55 RX5 yX5_blame wsX5_blame) := goodIn_app (goodIn_sub (List.forall_mem_cons.mpr ⟨(k_wsX5_readItem_wsX5_readItem_r4 _ (List.mem_of_getElem? (i := 7) rfl)), List.forall_mem_cons.mpr ⟨(k_wsX5_readItem_wsX5_readItem_r4 _ (List.mem_of_getElem? (i := 8) rfl)), List.forall_mem_cons.mpr ⟨(k_wsX5_readItem_wsX5_readItem_r4 _ (List.mem_of_getElem? (i := 9) rfl)), List.forall_mem_cons.mpr ⟨(k_wsX5_readItem_wsX5_readItem_r1 _ (List.mem_of_getElem? (i := 4) rfl)), fun _ h => absurd h List.not_mem_nil⟩⟩⟩⟩) (by decide +kernel)) ggX5_readItem_X5_blame
theorem ggX5_readItem_X5_nameOf : GoodIn wsX5_readItem wsX5_nameOf := goodIn_sub (fun w h => (List.mem_cons.mp h).elim (fun e => ft_me e (k_wsX5_readItem_wsX5_readItem_r1 _ (List.mem_of_getElem? (i := 8) rfl))) (fun h => absurd h List.not_mem_nil)) gw_wsX5_nameOf
theorem gX5_readItem_X5_nameOf : GoodIn wsX5_readItem (va_wsS RX5 59 yX5_nameOf wsX5_nameOf) := goodIn_app (goodIn_sub (List.forall_mem_cons.mpr ⟨(k_wsX5_readItem_wsX5_readItem_r1 _ (List.mem_of_getElem? (i := 6) rfl)), List.forall_mem_cons.mpr ⟨(k_wsX5_readItem_wsX5_readItem_r1 _ (List.mem_of_getElem? (i := 7) rfl)), List.forall_mem_cons.mpr ⟨(k_wsX5_readItem_wsX5_readItem_r1 _ (List.mem_of_getElem? (i := 4) rfl)), fun _ h => absurd h List.not_mem_nil⟩⟩⟩) (by decide +kernel)) ggX5_readItem_X5_nameOf
theorem ggX5_readItem_J0_length_8abf5 : GoodIn wsX5_readItem wsJ0_length_8abf5 := goodIn_sub (fun w h => (List.mem_cons.mp h).elim (fun e => ft_me e (k_wsX5_readItem_wsX5_readItem_r1 _ (List.mem_of_getElem? (i := 17) rfl))) (fun h => (List.forall_mem_cons.mpr ⟨(k_wsX5_readItem_wsX5_readItem_r1 _ (List.mem_of_getElem? (i := 18) rfl)), List.forall_mem_cons.mpr ⟨(k_wsX5_readItem_wsX5_readItem_r1 _ (List.mem_of_getElem? (i := 19) rfl)), List.forall_mem_cons.mpr ⟨(k_wsX5_readItem_wsX5_readItem_r1 _ (List.mem_of_getElem? (i := 20) rfl)), List.forall_mem_cons.mpr ⟨(k_wsX5_readItem_wsX5_readItem_r1 _ (List.mem_of_getElem? (i := 21) rfl)), List.forall_mem_cons.mpr ⟨(k_wsX5_readItem_wsX5_readItem_r1 _ (List.mem_of_getElem? (i := 16) rfl)), List.forall_mem_cons.mpr ⟨(k_wsX5_readItem_wsX5_readItem_r1 _ (List.mem_of_getElem? (i := 22) rfl)), List.forall_mem_cons.mpr ⟨(k_wsX5_readItem_wsX5_readItem_r1 _ (List.mem_of_getElem? (i := 23) rfl)), List.forall_mem_cons.mpr ⟨(k_wsX5_readItem_wsX5_readItem_r2 _ (List.mem_of_getElem? (i := 0) rfl)), fun _ h => absurd h List.not_mem_nil⟩⟩⟩⟩⟩⟩⟩⟩) w h)) gw_wsJ0_length_8abf5
theorem gX5_readItem_J0_length_8abf5 : GoodIn wsX5_readItem (wsV RX5 63 RJ0 yJ0_length_8abf5 wsJ0_length_8abf5) := goodIn_app (goodIn_sub (List.forall_mem_cons.mpr ⟨(k_wsX5_readItem_wsX5_readItem_r1 _ (List.mem_of_getElem? (i := 13) rfl)), List.forall_mem_cons.mpr ⟨(k_wsX5_readItem_wsX5_readItem_r1 _ (List.mem_of_getElem? (i := 14) rfl)), List.forall_mem_cons.mpr ⟨(k_wsX5_readItem_wsX5_readItem_r1 _ (List.mem_of_getElem? (i := 15) rfl)), List.forall_mem_cons.mpr ⟨(k_wsX5_readItem_wsX5_readItem_r1 _ (List.mem_of_getElem? (i := 16) rfl)), fun _ h => absurd h List.not_mem_nil⟩⟩⟩⟩) (by decide +kernel)) ggX5_readItem_J0_length_8abf5
theorem ggX5_readItem_X5_readNumbers : GoodIn wsX5_readItem wsX5_readNumbers := goodIn_sub (fun w h => (List.mem_cons.mp h).elim (fun e => ft_me e (k_wsX5_readItem_wsX5_readItem_r4 _ (List.mem_of_getElem? (i := 17) rfl))) (fun h => (List.mem_append.mp h).elim (fun h => (List.forall_mem_cons.mpr ⟨(k_wsX5_readItem_wsX5_readItem_r4 _ (List.mem_of_getElem? (i := 18) rfl)), List.forall_mem_cons.mpr ⟨(k_wsX5_readItem_wsX5_readItem_r4 _ (List.mem_of_getElem? (i := 19) rfl)), List.forall_mem_cons.mpr ⟨(k_wsX5_readItem_wsX5_readItem_r4 _ (List.mem_of_getElem? (i := 20) rfl)), List.forall_mem_cons.mpr ⟨(k_wsX5_readItem_wsX5_readItem_r1 _ (List.mem_of_getElem? (i := 4) rfl)), List.forall_mem_cons.mpr ⟨(k_wsX5_readItem_wsX5_readItem_r4 _ (List.mem_of_getElem? (i := 21) rfl)), List.forall_mem_cons.mpr ⟨(k_wsX5_readItem_wsX5_readItem_r1 _ (List.mem_of_getElem? (i := 0) rfl)), List.forall_mem_cons.mpr ⟨(k_wsX5_readItem_wsX5_readItem_r4 _ (List.mem_of_getElem? (i := 22) rfl)), List.forall_mem_cons.mpr ⟨(k_wsX5_readItem_wsX5_readItem_r2 _ (List.mem_of_getElem? (i := 1) rfl)), List.forall_mem_cons.mpr ⟨(k_wsX5_readItem_wsX5_readItem_r2 _ (List.mem_of_getElem? (i := 2) rfl)), List.forall_mem_cons.mpr ⟨(k_wsX5_readItem_wsX5_readItem_r2 _ (List.mem_of_getElem? (i := 3) rfl)), List.forall_mem_cons.mpr ⟨(k_wsX5_readItem_wsX5_readItem_r2 _ (List.mem_of_getElem? (i := 4) rfl)), List.forall_mem_cons.mpr ⟨(k_wsX5_readItem_wsX5_readItem_r2 _ (List.mem_of_getElem? (i := 5) rfl)), List.forall_mem_cons.mpr ⟨(k_wsX5_readItem_wsX5_readItem_r2 _ (List.mem_of_getElem? (i := 6) rfl)), List.forall_mem_cons.mpr ⟨(k_wsX5_readItem_wsX5_readItem_r2 _ (List.mem_of_getElem? (i := 7) rfl)), List.forall_mem_cons.mpr ⟨(k_wsX5_readItem_wsX5_readItem_r2 _ (List.mem_of_getElem? (i := 8) rfl)), List.forall_mem_cons.mpr ⟨(k_wsX5_readItem_wsX5_readItem_r2 _ (List.mem_of_getElem? (i := 9) rfl)), List.forall_mem_cons.mpr ⟨(k_wsX5_readItem_wsX5_readItem_r4 _ (List.mem_of_getElem? (i := 2) rfl)), List.forall_mem_cons.mpr ⟨(k_wsX5_readItem_wsX5_readItem_r4 _ (List.mem_of_getElem? (i := 3) rfl)), List.forall_mem_cons.mpr ⟨(k_wsX5_readItem_wsX5_readItem_r4 _ (List.mem_of_getElem? (i := 23) rfl)), List.forall_mem_cons.mpr ⟨(k_wsX5_readItem_wsX5_readItem_r5 _ (List.mem_of_getElem? (i := 0) rfl)), fun _ h => absurd h List.not_mem_nil⟩⟩⟩⟩⟩⟩⟩⟩⟩⟩⟩⟩⟩⟩⟩⟩⟩⟩⟩⟩) w h) (fun h => k_wsX5_readItem_wsX50 w h))) gw_wsX5_readNumbers
theorem gX5_readItem_X5_readNumbers : GoodIn wsX5_readItem (wsV RX5 69 RX5 yX5_readNumbers wsX5_readNumbers) := goodIn_app (goodIn_sub (List.forall_mem_cons.mpr ⟨(k_wsX5_readItem_wsX5_readItem_r4 _ (List.mem_of_getElem? (i := 14) rfl)), List.forall_mem_cons.mpr ⟨(k_wsX5_readItem_wsX5_readItem_r4 _ (List.mem_of_getElem? (i := 15) rfl)), List.forall_mem_cons.mpr ⟨(k_wsX5_readItem_wsX5_readItem_r4 _ (List.mem_of_getElem? (i := 16) rfl)), List.forall_mem_cons.mpr ⟨(k_wsX5_readItem_wsX5_readItem_r1 _ (List.mem_of_getElem? (i := 4) rfl)), fun _ h => absurd h List.not_mem_nil⟩⟩⟩⟩) (by decide +kernel)) ggX5_readItem_X5_readNumbers
theorem ggX5_readItem_X5_firstOutside : GoodIn wsX5_readItem wsX5_firstOutside := goodIn_sub (fun w h => (List.mem_cons.mp h).elim (fun e => ft_me e (k_wsX5_readItem_wsX5_readItem_r5 _ (List.mem_of_getElem? (i := 4) rfl))) (fun h => (List.mem_append.mp h).elim (fun h => (List.mem_append.mp h).elim (fun h => (List.forall_mem_cons.mpr ⟨(k_wsX5_readItem_wsX5_readItem_r4 _ (List.mem_of_getElem? (i := 22) rfl)), List.forall_mem_cons.mpr ⟨(k_wsX5_readItem_wsX5_readItem_r2 _ (List.mem_of_getElem? (i := 7) rfl)), List.forall_mem_cons.mpr ⟨(k_wsX5_readItem_wsX5_readItem_r2 _ (List.mem_of_getElem? (i := 8) rfl)), List.forall_mem_cons.mpr ⟨(k_wsX5_readItem_wsX5_readItem_r2 _ (List.mem_of_getElem? (i := 9) rfl)), List.forall_mem_cons.mpr ⟨(k_wsX5_readItem_wsX5_readItem_r5 _ (List.mem_of_getElem? (i := 5) rfl)), List.forall_mem_cons.mpr ⟨(k_wsX5_readItem_wsX5_readItem_r5 _ (List.mem_of_getElem? (i := 6) rfl)), List.forall_mem_cons.mpr ⟨(k_wsX5_readItem_wsX5_readItem_r5 _ (List.mem_of_getElem? (i := 7) rfl)), List.forall_mem_cons.mpr ⟨(k_wsX5_readItem_wsX5_readItem_r1 _ (List.mem_of_getElem? (i := 4) rfl)), List.forall_mem_cons.mpr ⟨(k_wsX5_readItem_wsX5_readItem_r5 _ (List.mem_of_getElem? (i := 8) rfl)), List.forall_mem_cons.mpr ⟨(k_wsX5_readItem_wsX5_readItem_r5 _ (List.mem_of_getElem? (i := 9) rfl)), List.forall_mem_cons.mpr ⟨(k_wsX5_readItem_wsX5_readItem_r4 _ (List.mem_of_getElem? (i := 2) rfl)), List.forall_mem_cons.mpr ⟨(k_wsX5_readItem_wsX5_readItem_r4 _ (List.mem_of_getElem? (i := 3) rfl)), List.forall_mem_cons.mpr ⟨(k_wsX5_readItem_wsX5_readItem_r5 _ (List.mem_of_getElem? (i := 10) rfl)), List.forall_mem_cons.mpr ⟨(k_wsX5_readItem_wsX5_readItem_r5 _ (List.mem_of_getElem? (i := 11) rfl)), List.forall_mem_cons.mpr ⟨(k_wsX5_readItem_wsX5_readItem_r5 _ (List.mem_of_getElem? (i := 12) rfl)), List.forall_mem_cons.mpr ⟨(k_wsX5_readItem_wsX5_readItem_r5 _ (List.mem_of_getElem? (i := 13) rfl)), List.forall_mem_cons.mpr ⟨(k_wsX5_readItem_wsX5_readItem_r5 _ (List.mem_of_getElem? (i := 14) rfl)), List.forall_mem_cons.mpr ⟨(k_wsX5_readItem_wsX5_readItem_r5 _ (List.mem_of_getElem? (i := 15) rfl)), List.forall_mem_cons.mpr ⟨(k_wsX5_readItem_wsX5_readItem_r5 _ (List.mem_of_getElem? (i := 16) rfl)), List.forall_mem_cons.mpr ⟨(k_wsX5_readItem_wsX5_readItem_r5 _ (List.mem_of_getElem? (i := 17) rfl)), List.forall_mem_cons.mpr ⟨(k_wsX5_readItem_wsX5_readItem_r5 _ (List.mem_of_getElem? (i := 18) rfl)), List.forall_mem_cons.mpr ⟨(k_wsX5_readItem_wsX5_readItem_r5 _ (List.mem_of_getElem? (i := 19) rfl)), List.forall_mem_cons.mpr ⟨(k_wsX5_readItem_wsX5_readItem_r5 _ (List.mem_of_getElem? (i := 20) rfl)), List.forall_mem_cons.mpr ⟨(k_wsX5_readItem_wsX5_readItem_r5 _ (List.mem_of_getElem? (i := 21) rfl)), fun _ h => absurd h List.not_mem_nil⟩⟩⟩⟩⟩⟩⟩⟩⟩⟩⟩⟩⟩⟩⟩⟩⟩⟩⟩⟩⟩⟩⟩⟩) w h) (fun h => k_wsX5_readItem_wsX50 w h)) (fun h => k_wsX5_readItem_wsX40 w h))) gw_wsX5_firstOutside
theorem gX5_readItem_X5_firstOutside : GoodIn wsX5_readItem (wsV RX5 72 RX5 yX5_firstOutside wsX5_firstOutside) := goodIn_app (goodIn_sub (List.forall_mem_cons.mpr ⟨(k_wsX5_readItem_wsX5_readItem_r5 _ (List.mem_of_getElem? (i := 1) rfl)), List.forall_mem_cons.mpr ⟨(k_wsX5_readItem_wsX5_readItem_r5 _ (List.mem_of_getElem? (i := 2) rfl)), List.forall_mem_cons.mpr ⟨(k_wsX5_readItem_wsX5_readItem_r5 _ (List.mem_of_getElem? (i := 3) rfl)), List.forall_mem_cons.mpr ⟨(k_wsX5_readItem_wsX5_readItem_r1 _ (List.mem_of_getElem? (i := 4) rfl)), fun _ h => absurd h List.not_mem_nil⟩⟩⟩⟩) (by decide +kernel)) ggX5_readItem_X5_firstOutside
theorem ggX5_readItem_X5_isAllowed : GoodIn wsX5_readItem wsX5_isAllowed := goodIn_sub (fun w h => (List.mem_cons.mp h).elim (fun e => ft_me e (k_wsX5_readItem_wsX5_readItem_r6 _ (List.mem_of_getElem? (i := 1) rfl))) (fun h => (List.mem_append.mp h).elim (fun h => (List.mem_append.mp h).elim (fun h => (List.forall_mem_cons.mpr ⟨(k_wsX5_readItem_wsX5_readItem_r6 _ (List.mem_of_getElem? (i := 2) rfl)), List.forall_mem_cons.mpr ⟨(k_wsX5_readItem_wsX5_readItem_r5 _ (List.mem_of_getElem? (i := 9) rfl)), List.forall_mem_cons.mpr ⟨(k_wsX5_readItem_wsX5_readItem_r6 _ (List.mem_of_getElem? (i := 3) rfl)), List.forall_mem_cons.mpr ⟨(k_wsX5_readItem_wsX5_readItem_r4 _ (List.mem_of_getElem? (i := 22) rfl)), List.forall_mem_cons.mpr ⟨(k_wsX5_readItem_wsX5_readItem_r2 _ (List.mem_of_getElem? (i := 7) rfl)), List.forall_mem_cons.mpr ⟨(k_wsX5_readItem_wsX5_readItem_r2 _ (List.mem_of_getElem? (i := 8) rfl)), List.forall_mem_cons.mpr ⟨(k_wsX5_readItem_wsX5_readItem_r2 _ (List.mem_of_getElem? (i := 9) rfl)), List.forall_mem_cons.mpr ⟨(k_wsX5_readItem_wsX5_readItem_r6 _ (List.mem_of_getElem? (i := 4) rfl)), List.forall_mem_cons.mpr ⟨(k_wsX5_readItem_wsX5_readItem_r6 _ (List.mem_of_getElem? (i := 5) rfl)), List.forall_mem_cons.mpr ⟨(k_wsX5_readItem_wsX5_readItem_r6 _ (List.mem_of_getElem? (i := 6) rfl)), List.forall_mem_cons.mpr ⟨(k_wsX5_readItem_wsX5_readItem_r5 _ (List.mem_of_getElem? (i := 13) rfl)), List.forall_mem_cons.mpr ⟨(k_wsX5_readItem_wsX5_readItem_r6 _ (List.mem_of_getElem? (i := 7) rfl)), List.forall_mem_cons.mpr ⟨(k_wsX5_readItem_wsX5_readItem_r6 _ (List.mem_of_getElem? (i := 8) rfl)), List.forall_mem_cons.mpr ⟨(k_wsX5_readItem_wsX5_readItem_r6 _ (List.mem_of_getElem? (i := 9) rfl)), fun _ h => absurd h List.not_mem_nil⟩⟩⟩⟩⟩⟩⟩⟩⟩⟩⟩⟩⟩⟩) w h) (fun h => k_wsX5_readItem_wsX50 w h)) (fun h => k_wsX5_readItem_wsX40 w h))) gw_wsX5_isAllowed
theorem gX5_readItem_X5_isAllowed : GoodIn wsX5_readItem (wsV RX5 76 RX5 yX5_isAllowed wsX5_isAllowed) := goodIn_app (goodIn_sub (List.forall_mem_cons.mpr ⟨(k_wsX5_readItem_wsX5_readItem_r5 _ (List.mem_of_getElem? (i := 22) rfl)), List.forall_mem_cons.mpr ⟨(k_wsX5_readItem_wsX5_readItem_r5 _ (List.mem_of_getElem? (i := 23) rfl)), List.forall_mem_cons.mpr ⟨(k_wsX5_readItem_wsX5_readItem_r6 _ (List.mem_of_getElem? (i := 0) rfl)), List.forall_mem_cons.mpr ⟨(k_wsX5_readItem_wsX5_readItem_r1 _ (List.mem_of_getElem? (i := 4) rfl)), fun _ h => absurd h List.not_mem_nil⟩⟩⟩⟩) (by decide +kernel)) ggX5_readItem_X5_isAllowed
theorem ggX5_readItem_X5_signAt : GoodIn wsX5_readItem wsX5_signAt := goodIn_sub (fun w h => (List.mem_cons.mp h).elim (fun e => ft_me e (k_wsX5_readItem_wsX5_readItem_r2 _ (List.mem_of_getElem? (i := 4) rfl))) (fun h => (List.mem_append.mp h).elim (fun h => (List.forall_mem_cons.mpr ⟨(k_wsX5_readItem_wsX5_readItem_r2 _ (List.mem_of_getElem? (i := 5) rfl)), List.forall_mem_cons.mpr ⟨(k_wsX5_readItem_wsX5_readItem_r2 _ (List.mem_of_getElem? (i := 6) rfl)), List.forall_mem_cons.mpr ⟨(k_wsX5_readItem_wsX5_readItem_r2 _ (List.mem_of_getElem? (i := 7) rfl)), List.forall_mem_cons.mpr ⟨(k_wsX5_readItem_wsX5_readItem_r2 _ (List.mem_of_getElem? (i := 8) rfl)), List.forall_mem_cons.mpr ⟨(k_wsX5_readItem_wsX5_readItem_r2 _ (List.mem_of_getElem? (i := 9) rfl)), fun _ h => absurd h List.not_mem_nil⟩⟩⟩⟩⟩) w h) (fun h => k_wsX5_readItem_wsX50 w h))) gw_wsX5_signAt
theorem gX5_readItem_X5_signAt : GoodIn wsX5_readItem (wsV RX5 80 RX5 yX5_signAt wsX5_signAt) := goodIn_app (goodIn_sub (List.forall_mem_cons.mpr ⟨(k_wsX5_readItem_wsX5_readItem_r2 _ (List.mem_of_getElem? (i := 1) rfl)), List.forall_mem_cons.mpr ⟨(k_wsX5_readItem_wsX5_readItem_r2 _ (List.mem_of_getElem? (i := 2) rfl)), List.forall_mem_cons.mpr ⟨(k_wsX5_readItem_wsX5_readItem_r2 _ (List.mem_of_getElem? (i := 3) rfl)), List.forall_mem_cons.mpr ⟨(k_wsX5_readItem_wsX5_readItem_r1 _ (List.mem_of_getElem? (i := 4) rfl)), fun _ h => absurd h List.not_mem_nil⟩⟩⟩⟩) (by decide +kernel)) ggX5_readItem_X5_signAt
set_option maxRecDepth 20000 in
theorem s_X5_readItem_X5_build_wsX5_build_r1 : ∀ w ∈ wsX5_build_r1, w ∈ wsX5_readItem := List.forall_mem_cons.mpr ⟨(k_wsX5_readItem_wsX5_readItem_r4 _ (List.mem_of_getElem? (i := 22) rfl)), List.forall_mem_cons.mpr ⟨(k_wsX5_readItem_wsX5_readItem_r6 _ (List.mem_of_getElem? (i := 2) rfl)), List.forall_mem_cons.mpr ⟨(k_wsX5_readItem_wsX5_readItem_r5 _ (List.mem_of_getElem? (i := 9) rfl)), List.forall_mem_cons.mpr ⟨(k_wsX5_readItem_wsX5_readItem_r6 _ (List.mem_of_getElem? (i := 14) rfl)), List.forall_mem_cons.mpr ⟨(k_wsX5_readItem_wsX5_readItem_r6 _ (List.mem_of_getElem? (i := 15) rfl)), List.forall_mem_cons.mpr ⟨(k_wsX5_readItem_wsX5_readItem_r6 _ (List.mem_of_getElem? (i := 16) rfl)), List.forall_mem_cons.mpr ⟨(k_wsX5_readItem_wsX5_readItem_r2 _ (List.mem_of_getElem? (i := 7) rfl)), List.forall_mem_cons.mpr ⟨(k_wsX5_readItem_wsX5_readItem_r2 _ (List.mem_of_getElem? (i := 8) rfl)), List.forall_mem_cons.mpr ⟨(k_wsX5_readItem_wsX5_readItem_r2 _ (List.mem_of_getElem? (i := 9) rfl)), List.forall_mem_cons.mpr ⟨(k_wsX5_readItem_wsX5_readItem_r4 _ (List.mem_of_getElem? (i := 23) rfl)), List.forall_mem_cons.mpr ⟨(k_wsX5_readItem_wsX5_readItem_r5 _ (List.mem_of_getElem? (i := 0) rfl)), List.forall_mem_cons.mpr ⟨(k_wsX5_readItem_wsX5_readItem_r6 _ (List.mem_of_getElem? (i := 17) rfl)), List.forall_mem_cons.mpr ⟨(k_wsX5_readItem_wsX5_readItem_r6 _ (List.mem_of_getElem? (i := 18) rfl)), List.forall_mem_cons.mpr ⟨(k_wsX5_readItem_wsX5_readItem_r6 _ (List.mem_of_getElem? (i := 19) rfl)), List.forall_mem_cons.mpr ⟨(k_wsX5_readItem_wsX5_readItem_r5 _ (List.mem_of_getElem? (i := 13) rfl)), List.forall_mem_cons.mpr ⟨(k_wsX5_readItem_wsX5_readItem_r6 _ (List.mem_of_getElem? (i := 20) rfl)), List.forall_mem_cons.mpr ⟨(k_wsX5_readItem_wsX5_readItem_r6 _ (List.mem_of_getElem? (i := 8) rfl)), List.forall_mem_cons.mpr ⟨(k_wsX5_readItem_wsX5_readItem_r6 _ (List.mem_of_getElem? (i := 9) rfl)), List.forall_mem_cons.mpr ⟨(k_wsX5_readItem_wsX5_readItem_r6 _ (List.mem_of_getElem? (i := 21) rfl)), List.forall_mem_cons.mpr ⟨(k_wsX5_readItem_wsX5_readItem_r6 _ (List.mem_of_getElem? (i := 22) rfl)), List.forall_mem_cons.mpr ⟨(k_wsX5_readItem_wsX5_readItem_r6 _ (List.mem_of_getElem? (i := 23) rfl)), List.forall_mem_cons.mpr ⟨(k_wsX5_readItem_wsX5_readItem_r7 _ (List.mem_of_getElem? (i := 0) rfl)), List.forall_mem_cons.mpr ⟨(k_wsX5_readItem_wsX5_readItem_r7 _ (List.mem_of_getElem? (i := 1) rfl)), List.forall_mem_cons.mpr ⟨(k_wsX5_readItem_wsX5_readItem_r7 _ (List.mem_of_getElem? (i := 2) rfl)), fun _ h => absurd h List.not_mem_nil⟩⟩⟩⟩⟩⟩⟩⟩⟩⟩⟩⟩⟩⟩⟩⟩⟩⟩⟩⟩⟩⟩⟩⟩
set_option maxRecDepth 20000 in
theorem s_X5_readItem_X5_build_wsX5_build_r2 : ∀ w ∈ wsX5_build_r2, w ∈ wsX5_readItem := List.forall_mem_cons.mpr ⟨(k_wsX5_readItem_wsX5_readItem_r7 _ (List.mem_of_getElem? (i := 3) rfl)), fun _ h => absurd h List.not_mem_nil⟩
theorem ggX5_readItem_X5_build : GoodIn wsX5_readItem wsX5_build := goodIn_sub (fun w h => (List.mem_cons.mp h).elim (fun e => ft_me e (k_wsX5_readItem_wsX5_readItem_r6 _ (List.mem_of_getElem? (i := 13) rfl))) (fun h => (List.mem_append.mp h).elim (fun h => (List.mem_append.mp h).elim (fun h => (List.mem_append.mp h).elim (fun h => s_X5_readItem_X5_build_wsX5_build_r1 w h) (fun h => s_X5_readItem_X5_build_wsX5_build_r2 w h)) (fun h => k_wsX5_readItem_wsX50 w h)) (fun h => k_wsX5_readItem_wsX40 w h))) gw_wsX5_build
theorem gX5_readItem_X5_build : GoodIn wsX5_readItem (wsV RX5 83 RX5 yX5_build wsX5_build) := goodIn_app (goodIn_sub (List.forall_mem_cons.mpr ⟨(k_wsX5_readItem_wsX5_readItem_r6 _ (List.mem_of_getElem? (i := 10) rfl)), List.forall_mem_cons.mpr ⟨(k_wsX5_readItem_wsX5_readItem_r6 _ (List.mem_of_getElem? (i := 11) rfl)), List.forall_mem_cons.mpr ⟨(k_wsX5_readItem_wsX5_readItem_r6 _ (List.mem_of_getElem? (i := 12) rfl)), List.forall_mem_cons.mpr ⟨(k_wsX5_readItem_wsX5_readItem_r1 _ (List.mem_of_getElem? (i := 4) rfl)), fun _ h => absurd h List.not_mem_nil⟩⟩⟩⟩) (by decide +kernel)) ggX5_readItem_X5_build
theorem dX5_readItem_0 : decode cX5_readItem 0 = .ok (.aload_n 0, 1) := by decide +kernel
theorem dX5_readItem_1 : decode cX5_readItem 1 = .ok (.getfield 42, 3) := by decide +kernel
theorem dX5_readItem_4 : decode cX5_readItem 4 = .ok (.istore_n 1, 1) := by decide +kernel
theorem dX5_readItem_5 : decode cX5_readItem 5 = .ok (.aload_n 0, 1) := by decide +kernel
theorem dX5_readItem_6 : decode cX5_readItem 6 = .ok (.iload_n 1, 1) := by decide +kernel
theorem dX5_readItem_7 : decode cX5_readItem 7 = .ok (.invokevirtual 48, 3) := by decide +kernel
theorem dX5_readItem_10 : decode cX5_readItem 10 = .ok (.istore_n 2, 1) := by decide +kernel
theorem dX5_readItem_11 : decode cX5_readItem 11 = .ok (.iload_n 2, 1) := by decide +kernel
theorem dX5_readItem_12 : decode cX5_readItem 12 = .ok (.invokestatic 52, 3) := by decide +kernel
theorem dX5_readItem_15 : decode cX5_readItem 15 = .ok (.istore_n 3, 1) := by decide +kernel
theorem dX5_readItem_16 : decode cX5_readItem 16 = .ok (.iload_n 2, 1) := by decide +kernel
theorem dX5_readItem_17 : decode cX5_readItem 17 = .ok (.iconst (-1), 1) := by decide +kernel
theorem dX5_readItem_18 : decode cX5_readItem 18 = .ok (.if_icmp .ne 11, 3) := by decide +kernel
theorem dX5_readItem_21 : decode cX5_readItem 21 = .ok (.aload_n 0, 1) := by decide +kernel
theorem dX5_readItem_22 : decode cX5_readItem 22 = .ok (.iload_n 1, 1) := by decide +kernel
theorem dX5_readItem_23 : decode cX5_readItem 23 = .ok (.iconst 1, 1) := by decide +kernel
theorem dX5_readItem_24 : decode cX5_readItem 24 = .ok (.iconst 0, 1) := by decide +kernel
theorem dX5_readItem_25 : decode cX5_readItem 25 = .ok (.invokevirtual 55, 3) := by decide +kernel
theorem dX5_readItem_28 : decode cX5_readItem 28 = .ok (.return_, 1) := by decide +kernel
theorem dX5_readItem_29 : decode cX5_readItem 29 = .ok (.aload_n 0, 1) := by decide +kernel
theorem dX5_readItem_30 : decode cX5_readItem 30 = .ok (.dup, 1) := by decide +kernel
theorem dX5_readItem_31 : decode cX5_readItem 31 = .ok (.getfield 42, 3) := by decide +kernel
theorem dX5_readItem_34 : decode cX5_readItem 34 = .ok (.iload_n 2, 1) := by decide +kernel
theorem dX5_readItem_35 : decode cX5_readItem 35 = .ok (.invokestatic 59, 3) := by decide +kernel
theorem dX5_readItem_38 : decode cX5_readItem 38 = .ok (.invokevirtual 63, 3) := by decide +kernel
theorem dX5_readItem_41 : decode cX5_readItem 41 = .ok (.iadd, 1) := by decide +kernel
theorem dX5_readItem_42 : decode cX5_readItem 42 = .ok (.putfield 42, 3) := by decide +kernel
theorem dX5_readItem_45 : decode cX5_readItem 45 = .ok (.aload_n 0, 1) := by decide +kernel
theorem dX5_readItem_46 : decode cX5_readItem 46 = .ok (.iload_n 3, 1) := by decide +kernel
theorem dX5_readItem_47 : decode cX5_readItem 47 = .ok (.invokevirtual 69, 3) := by decide +kernel
theorem dX5_readItem_50 : decode cX5_readItem 50 = .ok (.istore 4, 2) := by decide +kernel
theorem dX5_readItem_52 : decode cX5_readItem 52 = .ok (.aload_n 0, 1) := by decide +kernel
theorem dX5_readItem_53 : decode cX5_readItem 53 = .ok (.iload_n 2, 1) := by decide +kernel
theorem dX5_readItem_54 : decode cX5_readItem 54 = .ok (.iload_n 3, 1) := by decide +kernel
theorem dX5_readItem_55 : decode cX5_readItem 55 = .ok (.invokevirtual 72, 3) := by decide +kernel
theorem dX5_readItem_58 : decode cX5_readItem 58 = .ok (.istore 5, 2) := by decide +kernel
theorem dX5_readItem_60 : decode cX5_readItem 60 = .ok (.iload 4, 2) := by decide +kernel
theorem dX5_readItem_62 : decode cX5_readItem 62 = .ok (.iconst (-1), 1) := by decide +kernel
theorem dX5_readItem_63 : decode cX5_readItem 63 = .ok (.if_icmp .eq 16, 3) := by decide +kernel
theorem dX5_readItem_66 : decode cX5_readItem 66 = .ok (.aload_n 0, 1) := by decide +kernel
theorem dX5_readItem_67 : decode cX5_readItem 67 = .ok (.iload_n 1, 1) := by decide +kernel
theorem dX5_readItem_68 : decode cX5_readItem 68 = .ok (.iconst 2, 1) := by decide +kernel
theorem dX5_readItem_69 : decode cX5_readItem 69 = .ok (.iload 4, 2) := by decide +kernel
theorem dX5_readItem_71 : decode cX5_readItem 71 = .ok (.iconst 1, 1) := by decide +kernel
theorem dX5_readItem_72 : decode cX5_readItem 72 = .ok (.iadd, 1) := by decide +kernel
theorem dX5_readItem_73 : decode cX5_readItem 73 = .ok (.invokevirtual 55, 3) := by decide +kernel
theorem dX5_readItem_76 : decode cX5_readItem 76 = .ok (.goto 78, 3) := by decide +kernel
theorem dX5_readItem_79 : decode cX5_readItem 79 = .ok (.iload 5, 2) := by decide +kernel
theorem dX5_readItem_81 : decode cX5_readItem 81 = .ok (.iconst (-1), 1) := by decide +kernel
theorem dX5_readItem_82 : decode cX5_readItem 82 = .ok (.if_icmp .eq 16, 3) := by decide +kernel
theorem dX5_readItem_85 : decode cX5_readItem 85 = .ok (.aload_n 0, 1) := by decide +kernel
theorem dX5_readItem_86 : decode cX5_readItem 86 = .ok (.iload_n 1, 1) := by decide +kernel
theorem dX5_readItem_87 : decode cX5_readItem 87 = .ok (.iconst 3, 1) := by decide +kernel
theorem dX5_readItem_88 : decode cX5_readItem 88 = .ok (.iload 5, 2) := by decide +kernel
theorem dX5_readItem_90 : decode cX5_readItem 90 = .ok (.iconst 1, 1) := by decide +kernel
theorem dX5_readItem_91 : decode cX5_readItem 91 = .ok (.iadd, 1) := by decide +kernel
theorem dX5_readItem_92 : decode cX5_readItem 92 = .ok (.invokevirtual 55, 3) := by decide +kernel
theorem dX5_readItem_95 : decode cX5_readItem 95 = .ok (.goto 59, 3) := by decide +kernel
theorem dX5_readItem_98 : decode cX5_readItem 98 = .ok (.aload_n 0, 1) := by decide +kernel
theorem dX5_readItem_99 : decode cX5_readItem 99 = .ok (.iload_n 2, 1) := by decide +kernel
theorem dX5_readItem_100 : decode cX5_readItem 100 = .ok (.invokevirtual 76, 3) := by decide +kernel
theorem dX5_readItem_103 : decode cX5_readItem 103 = .ok (.ifCond .ne 13, 3) := by decide +kernel
theorem dX5_readItem_106 : decode cX5_readItem 106 = .ok (.aload_n 0, 1) := by decide +kernel
theorem dX5_readItem_107 : decode cX5_readItem 107 = .ok (.iload_n 1, 1) := by decide +kernel
theorem dX5_readItem_108 : decode cX5_readItem 108 = .ok (.iconst 4, 1) := by decide +kernel
theorem dX5_readItem_109 : decode cX5_readItem 109 = .ok (.iload_n 3, 1) := by decide +kernel
theorem dX5_readItem_110 : decode cX5_readItem 110 = .ok (.invokevirtual 55, 3) := by decide +kernel
theorem dX5_readItem_113 : decode cX5_readItem 113 = .ok (.goto 41, 3) := by decide +kernel
theorem dX5_readItem_116 : decode cX5_readItem 116 = .ok (.aload_n 0, 1) := by decide +kernel
theorem dX5_readItem_117 : decode cX5_readItem 117 = .ok (.aload_n 0, 1) := by decide +kernel
theorem dX5_readItem_118 : decode cX5_readItem 118 = .ok (.getfield 42, 3) := by decide +kernel
theorem dX5_readItem_121 : decode cX5_readItem 121 = .ok (.invokevirtual 80, 3) := by decide +kernel
theorem dX5_readItem_124 : decode cX5_readItem 124 = .ok (.bipush 59, 2) := by decide +kernel
theorem dX5_readItem_126 : decode cX5_readItem 126 = .ok (.if_icmp .eq 13, 3) := by decide +kernel
theorem dX5_readItem_129 : decode cX5_readItem 129 = .ok (.aload_n 0, 1) := by decide +kernel
theorem dX5_readItem_130 : decode cX5_readItem 130 = .ok (.iload_n 1, 1) := by decide +kernel
theorem dX5_readItem_131 : decode cX5_readItem 131 = .ok (.iconst 5, 1) := by decide +kernel
theorem dX5_readItem_132 : decode cX5_readItem 132 = .ok (.iload_n 3, 1) := by decide +kernel
theorem dX5_readItem_133 : decode cX5_readItem 133 = .ok (.invokevirtual 55, 3) := by decide +kernel
theorem dX5_readItem_136 : decode cX5_readItem 136 = .ok (.goto 18, 3) := by decide +kernel
theorem dX5_readItem_139 : decode cX5_readItem 139 = .ok (.aload_n 0, 1) := by decide +kernel
theorem dX5_readItem_140 : decode cX5_readItem 140 = .ok (.dup, 1) := by decide +kernel
theorem dX5_readItem_141 : decode cX5_readItem 141 = .ok (.getfield 42, 3) := by decide +kernel
theorem dX5_readItem_144 : decode cX5_readItem 144 = .ok (.iconst 1, 1) := by decide +kernel
theorem dX5_readItem_145 : decode cX5_readItem 145 = .ok (.iadd, 1) := by decide +kernel
theorem dX5_readItem_146 : decode cX5_readItem 146 = .ok (.putfield 42, 3) := by decide +kernel
theorem dX5_readItem_149 : decode cX5_readItem 149 = .ok (.aload_n 0, 1) := by decide +kernel
theorem dX5_readItem_150 : decode cX5_readItem 150 = .ok (.iload_n 2, 1) := by decide +kernel
theorem dX5_readItem_151 : decode cX5_readItem 151 = .ok (.invokevirtual 83, 3) := by decide +kernel
theorem dX5_readItem_154 : decode cX5_readItem 154 = .ok (.return_, 1) := by decide +kernel
theorem dX5_blame_0 : decode cX5_blame 0 = .ok (.aload_n 0, 1) := by decide +kernel
theorem dX5_blame_1 : decode cX5_blame 1 = .ok (.iload_n 1, 1) := by decide +kernel
theorem dX5_blame_2 : decode cX5_blame 2 = .ok (.putfield 87, 3) := by decide +kernel
theorem dX5_blame_5 : decode cX5_blame 5 = .ok (.aload_n 0, 1) := by decide +kernel
theorem dX5_blame_6 : decode cX5_blame 6 = .ok (.iload_n 2, 1) := by decide +kernel
theorem dX5_blame_7 : decode cX5_blame 7 = .ok (.putfield 39, 3) := by decide +kernel
theorem dX5_blame_10 : decode cX5_blame 10 = .ok (.aload_n 0, 1) := by decide +kernel
theorem dX5_blame_11 : decode cX5_blame 11 = .ok (.iload_n 3, 1) := by decide +kernel
theorem dX5_blame_12 : decode cX5_blame 12 = .ok (.putfield 90, 3) := by decide +kernel
theorem dX5_blame_15 : decode cX5_blame 15 = .ok (.return_, 1) := by decide +kernel
theorem ggX5_signAt_X10_at : GoodIn wsX5_signAt wsX10_at := goodIn_sub (fun w h => (List.mem_cons.mp h).elim (fun e => ft_me e (List.mem_cons_of_mem _ (List.mem_append_left _ (List.mem_of_getElem? (i := 4) rfl)))) (fun h => absurd h List.not_mem_nil)) gw_wsX10_at
theorem gX5_signAt_X10_at_n93 : GoodIn wsX5_signAt (wsX10_at) := ggX5_signAt_X10_at
theorem dX5_signAt_0 : decode cX5_signAt 0 = .ok (.iload_n 1, 1) := by decide +kernel
theorem dX5_signAt_1 : decode cX5_signAt 1 = .ok (.aload_n 0, 1) := by decide +kernel
theorem dX5_signAt_2 : decode cX5_signAt 2 = .ok (.getfield 28, 3) := by decide +kernel
theorem dX5_signAt_5 : decode cX5_signAt 5 = .ok (.if_icmp .ge 14, 3) := by decide +kernel
theorem dX5_signAt_8 : decode cX5_signAt 8 = .ok (.aload_n 0, 1) := by decide +kernel
theorem dX5_signAt_9 : decode cX5_signAt 9 = .ok (.getfield 9, 3) := by decide +kernel
theorem dX5_signAt_12 : decode cX5_signAt 12 = .ok (.iload_n 1, 1) := by decide +kernel
theorem dX5_signAt_13 : decode cX5_signAt 13 = .ok (.invokestatic 93, 3) := by decide +kernel
theorem dX5_signAt_16 : decode cX5_signAt 16 = .ok (.goto 4, 3) := by decide +kernel
theorem dX5_signAt_19 : decode cX5_signAt 19 = .ok (.iconst 0, 1) := by decide +kernel
theorem dX5_signAt_20 : decode cX5_signAt 20 = .ok (.ireturn, 1) := by decide +kernel
theorem dX5_nameOf_0 : decode cX5_nameOf 0 = .ok (.iload_n 0, 1) := by decide +kernel
theorem dX5_nameOf_1 : decode cX5_nameOf 1 = .ok (.tableswitch 50 0 4 #[35, 38, 41, 44, 47], 35) := by decide +kernel
theorem dX5_nameOf_36 : decode cX5_nameOf 36 = .ok (.ldc 97, 2) := by decide +kernel
theorem dX5_nameOf_38 : decode cX5_nameOf 38 = .ok (.areturn, 1) := by decide +kernel
theorem dX5_nameOf_39 : decode cX5_nameOf 39 = .ok (.ldc 98, 2) := by decide +kernel
theorem dX5_nameOf_41 : decode cX5_nameOf 41 = .ok (.areturn, 1) := by decide +kernel
theorem dX5_nameOf_42 : decode cX5_nameOf 42 = .ok (.ldc 100, 2) := by decide +kernel
theorem dX5_nameOf_44 : decode cX5_nameOf 44 = .ok (.areturn, 1) := by decide +kernel
theorem dX5_nameOf_45 : decode cX5_nameOf 45 = .ok (.ldc 102, 2) := by decide +kernel
theorem dX5_nameOf_47 : decode cX5_nameOf 47 = .ok (.areturn, 1) := by decide +kernel
theorem dX5_nameOf_48 : decode cX5_nameOf 48 = .ok (.ldc 104, 2) := by decide +kernel
theorem dX5_nameOf_50 : decode cX5_nameOf 50 = .ok (.areturn, 1) := by decide +kernel
theorem dX5_nameOf_51 : decode cX5_nameOf 51 = .ok (.ldc 106, 2) := by decide +kernel
theorem dX5_nameOf_53 : decode cX5_nameOf 53 = .ok (.areturn, 1) := by decide +kernel
theorem dX5_numbersOf_0 : decode cX5_numbersOf 0 = .ok (.iload_n 0, 1) := by decide +kernel
theorem dX5_numbersOf_1 : decode cX5_numbersOf 1 = .ok (.iconst 3, 1) := by decide +kernel
theorem dX5_numbersOf_2 : decode cX5_numbersOf 2 = .ok (.if_icmp .ge 5, 3) := by decide +kernel
theorem dX5_numbersOf_5 : decode cX5_numbersOf 5 = .ok (.iconst 1, 1) := by decide +kernel
theorem dX5_numbersOf_6 : decode cX5_numbersOf 6 = .ok (.ireturn, 1) := by decide +kernel
theorem dX5_numbersOf_7 : decode cX5_numbersOf 7 = .ok (.iload_n 0, 1) := by decide +kernel
theorem dX5_numbersOf_8 : decode cX5_numbersOf 8 = .ok (.iconst 4, 1) := by decide +kernel
theorem dX5_numbersOf_9 : decode cX5_numbersOf 9 = .ok (.if_icmp .ne 7, 3) := by decide +kernel
theorem dX5_numbersOf_12 : decode cX5_numbersOf 12 = .ok (.iconst 3, 1) := by decide +kernel
theorem dX5_numbersOf_13 : decode cX5_numbersOf 13 = .ok (.goto 4, 3) := by decide +kernel
theorem dX5_numbersOf_16 : decode cX5_numbersOf 16 = .ok (.iconst 2, 1) := by decide +kernel
theorem dX5_numbersOf_17 : decode cX5_numbersOf 17 = .ok (.ireturn, 1) := by decide +kernel
theorem ggX5_wordAt_X5_nameOf : GoodIn wsX5_wordAt wsX5_nameOf := goodIn_sub (fun w h => (List.mem_cons.mp h).elim (fun e => ft_me e (k_wsX5_wordAt_wsX5_wordAt_r1 _ (List.mem_of_getElem? (i := 3) rfl))) (fun h => absurd h List.not_mem_nil)) gw_wsX5_nameOf
theorem gX5_wordAt_X5_nameOf : GoodIn wsX5_wordAt (va_wsS RX5 59 yX5_nameOf wsX5_nameOf) := goodIn_app (goodIn_sub (List.forall_mem_cons.mpr ⟨(k_wsX5_wordAt_wsX5_wordAt_r1 _ (List.mem_of_getElem? (i := 0) rfl)), List.forall_mem_cons.mpr ⟨(k_wsX5_wordAt_wsX5_wordAt_r1 _ (List.mem_of_getElem? (i := 1) rfl)), List.forall_mem_cons.mpr ⟨(k_wsX5_wordAt_wsX5_wordAt_r1 _ (List.mem_of_getElem? (i := 2) rfl)), fun _ h => absurd h List.not_mem_nil⟩⟩⟩) (by decide +kernel)) ggX5_wordAt_X5_nameOf
set_option maxRecDepth 20000 in
theorem s_X5_wordAt_X5_standsAt_wsX5_standsAt_r1 : ∀ w ∈ wsX5_standsAt_r1, w ∈ wsX5_wordAt := List.forall_mem_cons.mpr ⟨(k_wsX5_wordAt_wsX5_wordAt_r1 _ (List.mem_of_getElem? (i := 8) rfl)), List.forall_mem_cons.mpr ⟨(k_wsX5_wordAt_wsX5_wordAt_r1 _ (List.mem_of_getElem? (i := 9) rfl)), List.forall_mem_cons.mpr ⟨(k_wsX5_wordAt_wsX5_wordAt_r1 _ (List.mem_of_getElem? (i := 10) rfl)), List.forall_mem_cons.mpr ⟨(k_wsX5_wordAt_wsX5_wordAt_r1 _ (List.mem_of_getElem? (i := 11) rfl)), List.forall_mem_cons.mpr ⟨(k_wsX5_wordAt_wsX5_wordAt_r1 _ (List.mem_of_getElem? (i := 12) rfl)), List.forall_mem_cons.mpr ⟨(k_wsX5_wordAt_wsX5_wordAt_r1 _ (List.mem_of_getElem? (i := 13) rfl)), List.forall_mem_cons.mpr ⟨(k_wsX5_wordAt_wsX5_wordAt_r1 _ (List.mem_of_getElem? (i := 14) rfl)), List.forall_mem_cons.mpr ⟨(k_wsX5_wordAt_wsX5_wordAt_r1 _ (List.mem_of_getElem? (i := 15) rfl)), List.forall_mem_cons.mpr ⟨(k_wsX5_wordAt_wsX5_wordAt_r1 _ (List.mem_of_getElem? (i := 16) rfl)), List.forall_mem_cons.mpr ⟨(k_wsX5_wordAt_wsX5_wordAt_r1 _ (List.mem_of_getElem? (i := 17) rfl)), List.forall_mem_cons.mpr ⟨(k_wsX5_wordAt_wsX5_wordAt_r1 _ (List.mem_of_getElem? (i := 18) rfl)), List.forall_mem_cons.mpr ⟨(k_wsX5_wordAt_wsX5_wordAt_r1 _ (List.mem_of_getElem? (i := 19) rfl)), List.forall_mem_cons.mpr ⟨(k_wsX5_wordAt_wsX5_wordAt_r1 _ (List.mem_of_getElem? (i := 20) rfl)), List.forall_mem_cons.mpr ⟨(k_wsX5_wordAt_wsX5_wordAt_r1 _ (List.mem_of_getElem? (i := 21) rfl)), List.forall_mem_cons.mpr ⟨(k_wsX5_wordAt_wsX5_wordAt_r1 _ (List.mem_of_getElem? (i := 22) rfl)), List.forall_mem_cons.mpr ⟨(k_wsX5_wordAt_wsX5_wordAt_r1 _ (List.mem_of_getElem? (i := 2) rfl)), List.forall_mem_cons.mpr ⟨(k_wsX5_wordAt_wsX5_wordAt_r1 _ (List.mem_of_getElem? (i := 23) rfl)), List.forall_mem_cons.mpr ⟨(k_wsX5_wordAt_wsX5_wordAt_r2 _ (List.mem_of_getElem? (i := 0) rfl)), List.forall_mem_cons.mpr ⟨(k_wsX5_wordAt_wsX5_wordAt_r2 _ (List.mem_of_getElem? (i := 1) rfl)), List.forall_mem_cons.mpr ⟨(k_wsX5_wordAt_wsX5_wordAt_r2 _ (List.mem_of_getElem? (i := 2) rfl)), List.forall_mem_cons.mpr ⟨(k_wsX5_wordAt_wsX5_wordAt_r2 _ (List.mem_of_getElem? (i := 3) rfl)), List.forall_mem_cons.mpr ⟨(k_wsX5_wordAt_wsX5_wordAt_r2 _ (List.mem_of_getElem? (i := 4) rfl)), List.forall_mem_cons.mpr ⟨(k_wsX5_wordAt_wsX5_wordAt_r2 _ (List.mem_of_getElem? (i := 5) rfl)), List.forall_mem_cons.mpr ⟨(k_wsX5_wordAt_wsX5_wordAt_r2 _ (List.mem_of_getElem? (i := 6) rfl)), fun _ h => absurd h List.not_mem_nil⟩⟩⟩⟩⟩⟩⟩⟩⟩⟩⟩⟩⟩⟩⟩⟩⟩⟩⟩⟩⟩⟩⟩⟩
set_option maxRecDepth 20000 in
theorem s_X5_wordAt_X5_standsAt_wsX5_standsAt_r2 : ∀ w ∈ wsX5_standsAt_r2, w ∈ wsX5_wordAt := List.forall_mem_cons.mpr ⟨(k_wsX5_wordAt_wsX5_wordAt_r2 _ (List.mem_of_getElem? (i := 7) rfl)), List.forall_mem_cons.mpr ⟨(k_wsX5_wordAt_wsX5_wordAt_r2 _ (List.mem_of_getElem? (i := 8) rfl)), List.forall_mem_cons.mpr ⟨(k_wsX5_wordAt_wsX5_wordAt_r2 _ (List.mem_of_getElem? (i := 9) rfl)), List.forall_mem_cons.mpr ⟨(k_wsX5_wordAt_wsX5_wordAt_r2 _ (List.mem_of_getElem? (i := 10) rfl)), List.forall_mem_cons.mpr ⟨(k_wsX5_wordAt_wsX5_wordAt_r2 _ (List.mem_of_getElem? (i := 11) rfl)), List.forall_mem_cons.mpr ⟨(k_wsX5_wordAt_wsX5_wordAt_r2 _ (List.mem_of_getElem? (i := 12) rfl)), List.forall_mem_cons.mpr ⟨(k_wsX5_wordAt_wsX5_wordAt_r2 _ (List.mem_of_getElem? (i := 13) rfl)), List.forall_mem_cons.mpr ⟨(k_wsX5_wordAt_wsX5_wordAt_r2 _ (List.mem_of_getElem? (i := 14) rfl)), List.forall_mem_cons.mpr ⟨(k_wsX5_wordAt_wsX5_wordAt_r2 _ (List.mem_of_getElem? (i := 15) rfl)), List.forall_mem_cons.mpr ⟨(k_wsX5_wordAt_wsX5_wordAt_r2 _ (List.mem_of_getElem? (i := 16) rfl)), List.forall_mem_cons.mpr ⟨(k_wsX5_wordAt_wsX5_wordAt_r2 _ (List.mem_of_getElem? (i := 17) rfl)), List.forall_mem_cons.mpr ⟨(k_wsX5_wordAt_wsX5_wordAt_r2 _ (List.mem_of_getElem? (i := 18) rfl)), List.forall_mem_cons.mpr ⟨(k_wsX5_wordAt_wsX5_wordAt_r2 _ (List.mem_of_getElem? (i := 19) rfl)), List.forall_mem_cons.mpr ⟨(k_wsX5_wordAt_wsX5_wordAt_r2 _ (List.mem_of_getElem? (i := 20) rfl)), List.forall_mem_cons.mpr ⟨(k_wsX5_wordAt_wsX5_wordAt_r2 _ (List.mem_of_getElem? (i := 21) rfl)), List.forall_mem_cons.mpr ⟨(k_wsX5_wordAt_wsX5_wordAt_r2 _ (List.mem_of_getElem? (i := 22) rfl)), List.forall_mem_cons.mpr ⟨(k_wsX5_wordAt_wsX5_wordAt_r2 _ (List.mem_of_getElem? (i := 23) rfl)), List.forall_mem_cons.mpr ⟨(k_wsX5_wordAt_wsX5_wordAt_r3 _ (List.mem_of_getElem? (i := 0) rfl)), List.forall_mem_cons.mpr ⟨(k_wsX5_wordAt_wsX5_wordAt_r3 _ (List.mem_of_getElem? (i := 1) rfl)), List.forall_mem_cons.mpr ⟨(k_wsX5_wordAt_wsX5_wordAt_r3 _ (List.mem_of_getElem? (i := 2) rfl)), List.forall_mem_cons.mpr ⟨(k_wsX5_wordAt_wsX5_wordAt_r3 _ (List.mem_of_getElem? (i := 3) rfl)), List.forall_mem_cons.mpr ⟨(k_wsX5_wordAt_wsX5_wordAt_r3 _ (List.mem_of_getElem? (i := 4) rfl)), List.forall_mem_cons.mpr ⟨(k_wsX5_wordAt_wsX5_wordAt_r3 _ (List.mem_of_getElem? (i := 5) rfl)), List.forall_mem_cons.mpr ⟨(k_wsX5_wordAt_wsX5_wordAt_r3 _ (List.mem_of_getElem? (i := 6) rfl)), fun _ h => absurd h List.not_mem_nil⟩⟩⟩⟩⟩⟩⟩⟩⟩⟩⟩⟩⟩⟩⟩⟩⟩⟩⟩⟩⟩⟩⟩⟩
set_option maxRecDepth 20000 in
theorem s_X5_wordAt_X5_standsAt_wsX5_standsAt_r3 : ∀ w ∈ wsX5_standsAt_r3, w ∈ wsX5_wordAt := List.forall_mem_cons.mpr ⟨(k_wsX5_wordAt_wsX5_wordAt_r3 _ (List.mem_of_getElem? (i := 7) rfl)), List.forall_mem_cons.mpr ⟨(k_wsX5_wordAt_wsX5_wordAt_r3 _ (List.mem_of_getElem? (i := 8) rfl)), List.forall_mem_cons.mpr ⟨(k_wsX5_wordAt_wsX5_wordAt_r3 _ (List.mem_of_getElem? (i := 9) rfl)), List.forall_mem_cons.mpr ⟨(k_wsX5_wordAt_wsX5_wordAt_r3 _ (List.mem_of_getElem? (i := 10) rfl)), List.forall_mem_cons.mpr ⟨(k_wsX5_wordAt_wsX5_wordAt_r3 _ (List.mem_of_getElem? (i := 11) rfl)), List.forall_mem_cons.mpr ⟨(k_wsX5_wordAt_wsX5_wordAt_r3 _ (List.mem_of_getElem? (i := 12) rfl)), List.forall_mem_cons.mpr ⟨(k_wsX5_wordAt_wsX5_wordAt_r3 _ (List.mem_of_getElem? (i := 13) rfl)), List.forall_mem_cons.mpr ⟨(k_wsX5_wordAt_wsX5_wordAt_r3 _ (List.mem_of_getElem? (i := 14) rfl)), List.forall_mem_cons.mpr ⟨(k_wsX5_wordAt_wsX5_wordAt_r3 _ (List.mem_of_getElem? (i := 15) rfl)), List.forall_mem_cons.mpr ⟨(k_wsX5_wordAt_wsX5_wordAt_r3 _ (List.mem_of_getElem? (i := 16) rfl)), List.forall_mem_cons.mpr ⟨(k_wsX5_wordAt_wsX5_wordAt_r3 _ (List.mem_of_getElem? (i := 17) rfl)), fun _ h => absurd h List.not_mem_nil⟩⟩⟩⟩⟩⟩⟩⟩⟩⟩⟩
theorem ggX5_wordAt_X5_standsAt : GoodIn wsX5_wordAt wsX5_standsAt := goodIn_sub (fun w h => (List.mem_cons.mp h).elim (fun e => ft_me e (k_wsX5_wordAt_wsX5_wordAt_r1 _ (List.mem_of_getElem? (i := 7) rfl))) (fun h => (List.mem_append.mp h).elim (fun h => (List.mem_append.mp h).elim (fun h => s_X5_wordAt_X5_standsAt_wsX5_standsAt_r1 w h) (fun h => (List.mem_append.mp h).elim (fun h => s_X5_wordAt_X5_standsAt_wsX5_standsAt_r2 w h) (fun h => s_X5_wordAt_X5_standsAt_wsX5_standsAt_r3 w h))) (fun h => k_wsX5_wordAt_wsX50 w h))) gw_wsX5_standsAt
theorem gX5_wordAt_X5_standsAt : GoodIn wsX5_wordAt (wsV RX5 108 RX5 yX5_standsAt wsX5_standsAt) := goodIn_app (goodIn_sub (List.forall_mem_cons.mpr ⟨(k_wsX5_wordAt_wsX5_wordAt_r1 _ (List.mem_of_getElem? (i := 4) rfl)), List.forall_mem_cons.mpr ⟨(k_wsX5_wordAt_wsX5_wordAt_r1 _ (List.mem_of_getElem? (i := 5) rfl)), List.forall_mem_cons.mpr ⟨(k_wsX5_wordAt_wsX5_wordAt_r1 _ (List.mem_of_getElem? (i := 6) rfl)), List.forall_mem_cons.mpr ⟨(k_wsX5_wordAt_wsX5_wordAt_r1 _ (List.mem_of_getElem? (i := 2) rfl)), fun _ h => absurd h List.not_mem_nil⟩⟩⟩⟩) (by decide +kernel)) ggX5_wordAt_X5_standsAt
theorem ggX5_wordAt_J0_length_8abf5 : GoodIn wsX5_wordAt wsJ0_length_8abf5 := goodIn_sub (fun w h => (List.mem_cons.mp h).elim (fun e => ft_me e (k_wsX5_wordAt_wsX5_wordAt_r1 _ (List.mem_of_getElem? (i := 12) rfl))) (fun h => (List.forall_mem_cons.mpr ⟨(k_wsX5_wordAt_wsX5_wordAt_r1 _ (List.mem_of_getElem? (i := 13) rfl)), List.forall_mem_cons.mpr ⟨(k_wsX5_wordAt_wsX5_wordAt_r1 _ (List.mem_of_getElem? (i := 14) rfl)), List.forall_mem_cons.mpr ⟨(k_wsX5_wordAt_wsX5_wordAt_r1 _ (List.mem_of_getElem? (i := 15) rfl)), List.forall_mem_cons.mpr ⟨(k_wsX5_wordAt_wsX5_wordAt_r1 _ (List.mem_of_getElem? (i := 16) rfl)), List.forall_mem_cons.mpr ⟨(k_wsX5_wordAt_wsX5_wordAt_r1 _ (List.mem_of_getElem? (i := 11) rfl)), List.forall_mem_cons.mpr ⟨(k_wsX5_wordAt_wsX5_wordAt_r1 _ (List.mem_of_getElem? (i := 17) rfl)), List.forall_mem_cons.mpr ⟨(k_wsX5_wordAt_wsX5_wordAt_r1 _ (List.mem_of_getElem? (i := 18) rfl)), List.forall_mem_cons.mpr ⟨(k_wsX5_wordAt_wsX5_wordAt_r1 _ (List.mem_of_getElem? (i := 19) rfl)), fun _ h => absurd h List.not_mem_nil⟩⟩⟩⟩⟩⟩⟩⟩) w h)) gw_wsJ0_length_8abf5
theorem gX5_wordAt_J0_length_8abf5 : GoodIn wsX5_wordAt (wsV RX5 63 RJ0 yJ0_length_8abf5 wsJ0_length_8abf5) := goodIn_app (goodIn_sub (List.forall_mem_cons.mpr ⟨(k_wsX5_wordAt_wsX5_wordAt_r1 _ (List.mem_of_getElem? (i := 8) rfl)), List.forall_mem_cons.mpr ⟨(k_wsX5_wordAt_wsX5_wordAt_r1 _ (List.mem_of_getElem? (i := 9) rfl)), List.forall_mem_cons.mpr ⟨(k_wsX5_wordAt_wsX5_wordAt_r1 _ (List.mem_of_getElem? (i := 10) rfl)), List.forall_mem_cons.mpr ⟨(k_wsX5_wordAt_wsX5_wordAt_r1 _ (List.mem_of_getElem? (i := 11) rfl)), fun _ h => absurd h List.not_mem_nil⟩⟩⟩⟩) (by decide +kernel)) ggX5_wordAt_J0_length_8abf5
theorem ggX5_wordAt_X5_signAt : GoodIn wsX5_wordAt wsX5_signAt := goodIn_sub (fun w h => (List.mem_cons.mp h).elim (fun e => ft_me e (k_wsX5_wordAt_wsX5_wordAt_r1 _ (List.mem_of_getElem? (i := 23) rfl))) (fun h => (List.mem_append.mp h).elim (fun h => (List.forall_mem_cons.mpr ⟨(k_wsX5_wordAt_wsX5_wordAt_r2 _ (List.mem_of_getElem? (i := 0) rfl)), List.forall_mem_cons.mpr ⟨(k_wsX5_wordAt_wsX5_wordAt_r2 _ (List.mem_of_getElem? (i := 1) rfl)), List.forall_mem_cons.mpr ⟨(k_wsX5_wordAt_wsX5_wordAt_r2 _ (List.mem_of_getElem? (i := 2) rfl)), List.forall_mem_cons.mpr ⟨(k_wsX5_wordAt_wsX5_wordAt_r2 _ (List.mem_of_getElem? (i := 3) rfl)), List.forall_mem_cons.mpr ⟨(k_wsX5_wordAt_wsX5_wordAt_r2 _ (List.mem_of_getElem? (i := 4) rfl)), fun _ h => absurd h List.not_mem_nil⟩⟩⟩⟩⟩) w h) (fun h => k_wsX5_wordAt_wsX50 w h))) gw_wsX5_signAt
theorem gX5_wordAt_X5_signAt : GoodIn wsX5_wordAt (wsV RX5 80 RX5 yX5_signAt wsX5_signAt) := goodIn_app (goodIn_sub (List.forall_mem_cons.mpr ⟨(k_wsX5_wordAt_wsX5_wordAt_r1 _ (List.mem_of_getElem? (i := 20) rfl)), List.forall_mem_cons.mpr ⟨(k_wsX5_wordAt_wsX5_wordAt_r1 _ (List.mem_of_getElem? (i := 21) rfl)), List.forall_mem_cons.mpr ⟨(k_wsX5_wordAt_wsX5_wordAt_r1 _ (List.mem_of_getElem? (i := 22) rfl)), List.forall_mem_cons.mpr ⟨(k_wsX5_wordAt_wsX5_wordAt_r1 _ (List.mem_of_getElem? (i := 2) rfl)), fun _ h => absurd h List.not_mem_nil⟩⟩⟩⟩) (by decide +kernel)) ggX5_wordAt_X5_signAt
theorem ggX5_wordAt_X5_isLetter : GoodIn wsX5_wordAt wsX5_isLetter := goodIn_sub (fun w h => (List.mem_cons.mp h).elim (fun e => ft_me e (k_wsX5_wordAt_wsX5_wordAt_r3 _ (List.mem_of_getElem? (i := 20) rfl))) (fun h => (List.forall_mem_cons.mpr ⟨(k_wsX5_wordAt_wsX5_wordAt_r3 _ (List.mem_of_getElem? (i := 21) rfl)), List.forall_mem_cons.mpr ⟨(k_wsX5_wordAt_wsX5_wordAt_r2 _ (List.mem_of_getElem? (i := 3) rfl)), List.forall_mem_cons.mpr ⟨(k_wsX5_wordAt_wsX5_wordAt_r3 _ (List.mem_of_getElem? (i := 22) rfl)), fun _ h => absurd h List.not_mem_nil⟩⟩⟩) w h)) gw_wsX5_isLetter
theorem gX5_wordAt_X5_isLetter : GoodIn wsX5_wordAt (va_wsS RX5 112 yX5_isLetter wsX5_isLetter) := goodIn_app (goodIn_sub (List.forall_mem_cons.mpr ⟨(k_wsX5_wordAt_wsX5_wordAt_r3 _ (List.mem_of_getElem? (i := 18) rfl)), List.forall_mem_cons.mpr ⟨(k_wsX5_wordAt_wsX5_wordAt_r3 _ (List.mem_of_getElem? (i := 19) rfl)), List.forall_mem_cons.mpr ⟨(k_wsX5_wordAt_wsX5_wordAt_r1 _ (List.mem_of_getElem? (i := 2) rfl)), fun _ h => absurd h List.not_mem_nil⟩⟩⟩) (by decide +kernel)) ggX5_wordAt_X5_isLetter
theorem dX5_wordAt_0 : decode cX5_wordAt 0 = .ok (.iconst 0, 1) := by decide +kernel
theorem dX5_wordAt_1 : decode cX5_wordAt 1 = .ok (.istore_n 2, 1) := by decide +kernel
theorem dX5_wordAt_2 : decode cX5_wordAt 2 = .ok (.iload_n 2, 1) := by decide +kernel
theorem dX5_wordAt_3 : decode cX5_wordAt 3 = .ok (.bipush 6, 2) := by decide +kernel
theorem dX5_wordAt_5 : decode cX5_wordAt 5 = .ok (.if_icmp .ge 41, 3) := by decide +kernel
theorem dX5_wordAt_8 : decode cX5_wordAt 8 = .ok (.iload_n 2, 1) := by decide +kernel
theorem dX5_wordAt_9 : decode cX5_wordAt 9 = .ok (.invokestatic 59, 3) := by decide +kernel
theorem dX5_wordAt_12 : decode cX5_wordAt 12 = .ok (.astore_n 3, 1) := by decide +kernel
theorem dX5_wordAt_13 : decode cX5_wordAt 13 = .ok (.aload_n 0, 1) := by decide +kernel
theorem dX5_wordAt_14 : decode cX5_wordAt 14 = .ok (.aload_n 3, 1) := by decide +kernel
theorem dX5_wordAt_15 : decode cX5_wordAt 15 = .ok (.iload_n 1, 1) := by decide +kernel
theorem dX5_wordAt_16 : decode cX5_wordAt 16 = .ok (.invokevirtual 108, 3) := by decide +kernel
theorem dX5_wordAt_19 : decode cX5_wordAt 19 = .ok (.ifCond .eq 21, 3) := by decide +kernel
theorem dX5_wordAt_22 : decode cX5_wordAt 22 = .ok (.aload_n 0, 1) := by decide +kernel
theorem dX5_wordAt_23 : decode cX5_wordAt 23 = .ok (.iload_n 1, 1) := by decide +kernel
theorem dX5_wordAt_24 : decode cX5_wordAt 24 = .ok (.aload_n 3, 1) := by decide +kernel
theorem dX5_wordAt_25 : decode cX5_wordAt 25 = .ok (.invokevirtual 63, 3) := by decide +kernel
theorem dX5_wordAt_28 : decode cX5_wordAt 28 = .ok (.iadd, 1) := by decide +kernel
theorem dX5_wordAt_29 : decode cX5_wordAt 29 = .ok (.invokevirtual 80, 3) := by decide +kernel
theorem dX5_wordAt_32 : decode cX5_wordAt 32 = .ok (.invokestatic 112, 3) := by decide +kernel
theorem dX5_wordAt_35 : decode cX5_wordAt 35 = .ok (.ifCond .ne 5, 3) := by decide +kernel
theorem dX5_wordAt_38 : decode cX5_wordAt 38 = .ok (.iload_n 2, 1) := by decide +kernel
theorem dX5_wordAt_39 : decode cX5_wordAt 39 = .ok (.ireturn, 1) := by decide +kernel
theorem dX5_wordAt_40 : decode cX5_wordAt 40 = .ok (.iinc 2 1, 3) := by decide +kernel
theorem dX5_wordAt_43 : decode cX5_wordAt 43 = .ok (.goto (-41), 3) := by decide +kernel
theorem dX5_wordAt_46 : decode cX5_wordAt 46 = .ok (.iconst (-1), 1) := by decide +kernel
theorem dX5_wordAt_47 : decode cX5_wordAt 47 = .ok (.ireturn, 1) := by decide +kernel
theorem ggX5_isLetter_X10_isWithin : GoodIn wsX5_isLetter wsX10_isWithin := goodIn_sub (fun w h => (List.mem_cons.mp h).elim (fun e => ft_me e (List.mem_cons_of_mem _ (List.mem_of_getElem? (i := 2) rfl))) (fun h => absurd h List.not_mem_nil)) gw_wsX10_isWithin
theorem gX5_isLetter_X10_isWithin_n115 : GoodIn wsX5_isLetter (wsX10_isWithin) := ggX5_isLetter_X10_isWithin
theorem dX5_isLetter_0 : decode cX5_isLetter 0 = .ok (.iload_n 0, 1) := by decide +kernel
theorem dX5_isLetter_1 : decode cX5_isLetter 1 = .ok (.bipush 97, 2) := by decide +kernel
theorem dX5_isLetter_3 : decode cX5_isLetter 3 = .ok (.bipush 122, 2) := by decide +kernel
theorem dX5_isLetter_5 : decode cX5_isLetter 5 = .ok (.invokestatic 115, 3) := by decide +kernel
theorem dX5_isLetter_8 : decode cX5_isLetter 8 = .ok (.ifCond .ne 14, 3) := by decide +kernel
theorem dX5_isLetter_11 : decode cX5_isLetter 11 = .ok (.iload_n 0, 1) := by decide +kernel
theorem dX5_isLetter_12 : decode cX5_isLetter 12 = .ok (.bipush 65, 2) := by decide +kernel
theorem dX5_isLetter_14 : decode cX5_isLetter 14 = .ok (.bipush 90, 2) := by decide +kernel
theorem dX5_isLetter_16 : decode cX5_isLetter 16 = .ok (.invokestatic 115, 3) := by decide +kernel
theorem dX5_isLetter_19 : decode cX5_isLetter 19 = .ok (.ifCond .eq 7, 3) := by decide +kernel
theorem dX5_isLetter_22 : decode cX5_isLetter 22 = .ok (.iconst 1, 1) := by decide +kernel
theorem dX5_isLetter_23 : decode cX5_isLetter 23 = .ok (.goto 4, 3) := by decide +kernel
theorem dX5_isLetter_26 : decode cX5_isLetter 26 = .ok (.iconst 0, 1) := by decide +kernel
theorem dX5_isLetter_27 : decode cX5_isLetter 27 = .ok (.ireturn, 1) := by decide +kernel
theorem ggX5_standsAt_J0_length_8abf5 : GoodIn wsX5_standsAt wsJ0_length_8abf5 := goodIn_sub (fun w h => (List.mem_cons.mp h).elim (fun e => ft_me e (k_wsX5_standsAt_wsX5_standsAt_r1 _ (List.mem_of_getElem? (i := 4) rfl))) (fun h => (List.forall_mem_cons.mpr ⟨(k_wsX5_standsAt_wsX5_standsAt_r1 _ (List.mem_of_getElem? (i := 5) rfl)), List.forall_mem_cons.mpr ⟨(k_wsX5_standsAt_wsX5_standsAt_r1 _ (List.mem_of_getElem? (i := 6) rfl)), List.forall_mem_cons.mpr ⟨(k_wsX5_standsAt_wsX5_standsAt_r1 _ (List.mem_of_getElem? (i := 7) rfl)), List.forall_mem_cons.mpr ⟨(k_wsX5_standsAt_wsX5_standsAt_r1 _ (List.mem_of_getElem? (i := 8) rfl)), List.forall_mem_cons.mpr ⟨(k_wsX5_standsAt_wsX5_standsAt_r1 _ (List.mem_of_getElem? (i := 3) rfl)), List.forall_mem_cons.mpr ⟨(k_wsX5_standsAt_wsX5_standsAt_r1 _ (List.mem_of_getElem? (i := 9) rfl)), List.forall_mem_cons.mpr ⟨(k_wsX5_standsAt_wsX5_standsAt_r1 _ (List.mem_of_getElem? (i := 10) rfl)), List.forall_mem_cons.mpr ⟨(k_wsX5_standsAt_wsX5_standsAt_r1 _ (List.mem_of_getElem? (i := 11) rfl)), fun _ h => absurd h List.not_mem_nil⟩⟩⟩⟩⟩⟩⟩⟩) w h)) gw_wsJ0_length_8abf5
theorem gX5_standsAt_J0_length_8abf5 : GoodIn wsX5_standsAt (wsV RX5 63 RJ0 yJ0_length_8abf5 wsJ0_length_8abf5) := goodIn_app (goodIn_sub (List.forall_mem_cons.mpr ⟨(k_wsX5_standsAt_wsX5_standsAt_r1 _ (List.mem_of_getElem? (i := 0) rfl)), List.forall_mem_cons.mpr ⟨(k_wsX5_standsAt_wsX5_standsAt_r1 _ (List.mem_of_getElem? (i := 1) rfl)), List.forall_mem_cons.mpr ⟨(k_wsX5_standsAt_wsX5_standsAt_r1 _ (List.mem_of_getElem? (i := 2) rfl)), List.forall_mem_cons.mpr ⟨(k_wsX5_standsAt_wsX5_standsAt_r1 _ (List.mem_of_getElem? (i := 3) rfl)), fun _ h => absurd h List.not_mem_nil⟩⟩⟩⟩) (by decide +kernel)) ggX5_standsAt_J0_length_8abf5
theorem ggX5_standsAt_X5_signAt : GoodIn wsX5_standsAt wsX5_signAt := goodIn_sub (fun w h => (List.mem_cons.mp h).elim (fun e => ft_me e (k_wsX5_standsAt_wsX5_standsAt_r1 _ (List.mem_of_getElem? (i := 16) rfl))) (fun h => (List.mem_append.mp h).elim (fun h => (List.forall_mem_cons.mpr ⟨(k_wsX5_standsAt_wsX5_standsAt_r1 _ (List.mem_of_getElem? (i := 17) rfl)), List.forall_mem_cons.mpr ⟨(k_wsX5_standsAt_wsX5_standsAt_r1 _ (List.mem_of_getElem? (i := 18) rfl)), List.forall_mem_cons.mpr ⟨(k_wsX5_standsAt_wsX5_standsAt_r1 _ (List.mem_of_getElem? (i := 19) rfl)), List.forall_mem_cons.mpr ⟨(k_wsX5_standsAt_wsX5_standsAt_r1 _ (List.mem_of_getElem? (i := 20) rfl)), List.forall_mem_cons.mpr ⟨(k_wsX5_standsAt_wsX5_standsAt_r1 _ (List.mem_of_getElem? (i := 21) rfl)), fun _ h => absurd h List.not_mem_nil⟩⟩⟩⟩⟩) w h) (fun h => k_wsX5_standsAt_wsX50 w h))) gw_wsX5_signAt
theorem gX5_standsAt_X5_signAt : GoodIn wsX5_standsAt (wsV RX5 80 RX5 yX5_signAt wsX5_signAt) := goodIn_app (goodIn_sub (List.forall_mem_cons.mpr ⟨(k_wsX5_standsAt_wsX5_standsAt_r1 _ (List.mem_of_getElem? (i := 12) rfl)), List.forall_mem_cons.mpr ⟨(k_wsX5_standsAt_wsX5_standsAt_r1 _ (List.mem_of_getElem? (i := 13) rfl)), List.forall_mem_cons.mpr ⟨(k_wsX5_standsAt_wsX5_standsAt_r1 _ (List.mem_of_getElem? (i := 14) rfl)), List.forall_mem_cons.mpr ⟨(k_wsX5_standsAt_wsX5_standsAt_r1 _ (List.mem_of_getElem? (i := 15) rfl)), fun _ h => absurd h List.not_mem_nil⟩⟩⟩⟩) (by decide +kernel)) ggX5_standsAt_X5_signAt
set_option maxRecDepth 20000 in
theorem s_X5_standsAt_J0_charAt_5068e_wsJ0_charAt_5068e_r1 : ∀ w ∈ wsJ0_charAt_5068e_r1, w ∈ wsX5_standsAt := List.forall_mem_cons.mpr ⟨(k_wsX5_standsAt_wsX5_standsAt_r1 _ (List.mem_of_getElem? (i := 5) rfl)), List.forall_mem_cons.mpr ⟨(k_wsX5_standsAt_wsX5_standsAt_r2 _ (List.mem_of_getElem? (i := 2) rfl)), List.forall_mem_cons.mpr ⟨(k_wsX5_standsAt_wsX5_standsAt_r2 _ (List.mem_of_getElem? (i := 3) rfl)), List.forall_mem_cons.mpr ⟨(k_wsX5_standsAt_wsX5_standsAt_r2 _ (List.mem_of_getElem? (i := 4) rfl)), List.forall_mem_cons.mpr ⟨(k_wsX5_standsAt_wsX5_standsAt_r1 _ (List.mem_of_getElem? (i := 3) rfl)), List.forall_mem_cons.mpr ⟨(k_wsX5_standsAt_wsX5_standsAt_r2 _ (List.mem_of_getElem? (i := 5) rfl)), List.forall_mem_cons.mpr ⟨(k_wsX5_standsAt_wsX5_standsAt_r1 _ (List.mem_of_getElem? (i := 10) rfl)), List.forall_mem_cons.mpr ⟨(k_wsX5_standsAt_wsX5_standsAt_r1 _ (List.mem_of_getElem? (i := 11) rfl)), List.forall_mem_cons.mpr ⟨(k_wsX5_standsAt_wsX5_standsAt_r2 _ (List.mem_of_getElem? (i := 6) rfl)), List.forall_mem_cons.mpr ⟨(k_wsX5_standsAt_wsX5_standsAt_r2 _ (List.mem_of_getElem? (i := 7) rfl)), List.forall_mem_cons.mpr ⟨(k_wsX5_standsAt_wsX5_standsAt_r2 _ (List.mem_of_getElem? (i := 8) rfl)), List.forall_mem_cons.mpr ⟨(k_wsX5_standsAt_wsX5_standsAt_r2 _ (List.mem_of_getElem? (i := 9) rfl)), List.forall_mem_cons.mpr ⟨(k_wsX5_standsAt_wsX5_standsAt_r2 _ (List.mem_of_getElem? (i := 10) rfl)), List.forall_mem_cons.mpr ⟨(k_wsX5_standsAt_wsX5_standsAt_r2 _ (List.mem_of_getElem? (i := 11) rfl)), List.forall_mem_cons.mpr ⟨(k_wsX5_standsAt_wsX5_standsAt_r2 _ (List.mem_of_getElem? (i := 12) rfl)), List.forall_mem_cons.mpr ⟨(k_wsX5_standsAt_wsX5_standsAt_r2 _ (List.mem_of_getElem? (i := 13) rfl)), List.forall_mem_cons.mpr ⟨(k_wsX5_standsAt_wsX5_standsAt_r2 _ (List.mem_of_getElem? (i := 14) rfl)), List.forall_mem_cons.mpr ⟨(k_wsX5_standsAt_wsX5_standsAt_r2 _ (List.mem_of_getElem? (i := 15) rfl)), List.forall_mem_cons.mpr ⟨(k_wsX5_standsAt_wsX5_standsAt_r2 _ (List.mem_of_getElem? (i := 16) rfl)), List.forall_mem_cons.mpr ⟨(k_wsX5_standsAt_wsX5_standsAt_r2 _ (List.mem_of_getElem? (i := 17) rfl)), List.forall_mem_cons.mpr ⟨(k_wsX5_standsAt_wsX5_standsAt_r2 _ (List.mem_of_getElem? (i := 18) rfl)), List.forall_mem_cons.mpr ⟨(k_wsX5_standsAt_wsX5_standsAt_r2 _ (List.mem_of_getElem? (i := 19) rfl)), List.forall_mem_cons.mpr ⟨(k_wsX5_standsAt_wsX5_standsAt_r2 _ (List.mem_of_getElem? (i := 20) rfl)), List.forall_mem_cons.mpr ⟨(k_wsX5_standsAt_wsX5_standsAt_r2 _ (List.mem_of_getElem? (i := 21) rfl)), fun _ h => absurd h List.not_mem_nil⟩⟩⟩⟩⟩⟩⟩⟩⟩⟩⟩⟩⟩⟩⟩⟩⟩⟩⟩⟩⟩⟩⟩⟩
set_option maxRecDepth 20000 in
theorem s_X5_standsAt_J0_charAt_5068e_wsJ0_charAt_5068e_r2 : ∀ w ∈ wsJ0_charAt_5068e_r2, w ∈ wsX5_standsAt := List.forall_mem_cons.mpr ⟨(k_wsX5_standsAt_wsX5_standsAt_r2 _ (List.mem_of_getElem? (i := 22) rfl)), List.forall_mem_cons.mpr ⟨(k_wsX5_standsAt_wsX5_standsAt_r2 _ (List.mem_of_getElem? (i := 23) rfl)), List.forall_mem_cons.mpr ⟨(k_wsX5_standsAt_wsX5_standsAt_r3 _ (List.mem_of_getElem? (i := 0) rfl)), List.forall_mem_cons.mpr ⟨(k_wsX5_standsAt_wsX5_standsAt_r3 _ (List.mem_of_getElem? (i := 1) rfl)), List.forall_mem_cons.mpr ⟨(k_wsX5_standsAt_wsX5_standsAt_r3 _ (List.mem_of_getElem? (i := 2) rfl)), List.forall_mem_cons.mpr ⟨(k_wsX5_standsAt_wsX5_standsAt_r3 _ (List.mem_of_getElem? (i := 3) rfl)), List.forall_mem_cons.mpr ⟨(k_wsX5_standsAt_wsX5_standsAt_r3 _ (List.mem_of_getElem? (i := 4) rfl)), List.forall_mem_cons.mpr ⟨(k_wsX5_standsAt_wsX5_standsAt_r3 _ (List.mem_of_getElem? (i := 5) rfl)), List.forall_mem_cons.mpr ⟨(k_wsX5_standsAt_wsX5_standsAt_r3 _ (List.mem_of_getElem? (i := 6) rfl)), List.forall_mem_cons.mpr ⟨(k_wsX5_standsAt_wsX5_standsAt_r3 _ (List.mem_of_getElem? (i := 7) rfl)), List.forall_mem_cons.mpr ⟨(k_wsX5_standsAt_wsX5_standsAt_r3 _ (List.mem_of_getElem? (i := 8) rfl)), List.forall_mem_cons.mpr ⟨(k_wsX5_standsAt_wsX5_standsAt_r3 _ (List.mem_of_getElem? (i := 9) rfl)), List.forall_mem_cons.mpr ⟨(k_wsX5_standsAt_wsX5_standsAt_r3 _ (List.mem_of_getElem? (i := 10) rfl)), fun _ h => absurd h List.not_mem_nil⟩⟩⟩⟩⟩⟩⟩⟩⟩⟩⟩⟩⟩
theorem ggX5_standsAt_J0_charAt_5068e : GoodIn wsX5_standsAt wsJ0_charAt_5068e := goodIn_sub (fun w h => (List.mem_cons.mp h).elim (fun e => ft_me e (k_wsX5_standsAt_wsX5_standsAt_r2 _ (List.mem_of_getElem? (i := 1) rfl))) (fun h => (List.mem_append.mp h).elim (fun h => s_X5_standsAt_J0_charAt_5068e_wsJ0_charAt_5068e_r1 w h) (fun h => s_X5_standsAt_J0_charAt_5068e_wsJ0_charAt_5068e_r2 w h))) gw_wsJ0_charAt_5068e
theorem gX5_standsAt_J0_charAt_5068e : GoodIn wsX5_standsAt (wsV RX5 119 RJ0 yJ0_charAt_5068e wsJ0_charAt_5068e) := goodIn_app (goodIn_sub (List.forall_mem_cons.mpr ⟨(k_wsX5_standsAt_wsX5_standsAt_r1 _ (List.mem_of_getElem? (i := 22) rfl)), List.forall_mem_cons.mpr ⟨(k_wsX5_standsAt_wsX5_standsAt_r1 _ (List.mem_of_getElem? (i := 23) rfl)), List.forall_mem_cons.mpr ⟨(k_wsX5_standsAt_wsX5_standsAt_r2 _ (List.mem_of_getElem? (i := 0) rfl)), List.forall_mem_cons.mpr ⟨(k_wsX5_standsAt_wsX5_standsAt_r1 _ (List.mem_of_getElem? (i := 3) rfl)), fun _ h => absurd h List.not_mem_nil⟩⟩⟩⟩) (by decide +kernel)) ggX5_standsAt_J0_charAt_5068e
theorem dX5_standsAt_0 : decode cX5_standsAt 0 = .ok (.iconst 0, 1) := by decide +kernel
theorem dX5_standsAt_1 : decode cX5_standsAt 1 = .ok (.istore_n 3, 1) := by decide +kernel
theorem dX5_standsAt_2 : decode cX5_standsAt 2 = .ok (.iload_n 3, 1) := by decide +kernel
theorem dX5_standsAt_3 : decode cX5_standsAt 3 = .ok (.aload_n 1, 1) := by decide +kernel
theorem dX5_standsAt_4 : decode cX5_standsAt 4 = .ok (.invokevirtual 63, 3) := by decide +kernel
theorem dX5_standsAt_7 : decode cX5_standsAt 7 = .ok (.if_icmp .ge 26, 3) := by decide +kernel
theorem dX5_standsAt_10 : decode cX5_standsAt 10 = .ok (.aload_n 0, 1) := by decide +kernel
theorem dX5_standsAt_11 : decode cX5_standsAt 11 = .ok (.iload_n 2, 1) := by decide +kernel
theorem dX5_standsAt_12 : decode cX5_standsAt 12 = .ok (.iload_n 3, 1) := by decide +kernel
theorem dX5_standsAt_13 : decode cX5_standsAt 13 = .ok (.iadd, 1) := by decide +kernel
theorem dX5_standsAt_14 : decode cX5_standsAt 14 = .ok (.invokevirtual 80, 3) := by decide +kernel
theorem dX5_standsAt_17 : decode cX5_standsAt 17 = .ok (.aload_n 1, 1) := by decide +kernel
theorem dX5_standsAt_18 : decode cX5_standsAt 18 = .ok (.iload_n 3, 1) := by decide +kernel
theorem dX5_standsAt_19 : decode cX5_standsAt 19 = .ok (.invokevirtual 119, 3) := by decide +kernel
theorem dX5_standsAt_22 : decode cX5_standsAt 22 = .ok (.if_icmp .eq 5, 3) := by decide +kernel
theorem dX5_standsAt_25 : decode cX5_standsAt 25 = .ok (.iconst 0, 1) := by decide +kernel
theorem dX5_standsAt_26 : decode cX5_standsAt 26 = .ok (.ireturn, 1) := by decide +kernel
theorem dX5_standsAt_27 : decode cX5_standsAt 27 = .ok (.iinc 3 1, 3) := by decide +kernel
theorem dX5_standsAt_30 : decode cX5_standsAt 30 = .ok (.goto (-28), 3) := by decide +kernel
theorem dX5_standsAt_33 : decode cX5_standsAt 33 = .ok (.iconst 1, 1) := by decide +kernel
theorem dX5_standsAt_34 : decode cX5_standsAt 34 = .ok (.ireturn, 1) := by decide +kernel
theorem ggX5_readNumbers_X5_readNumber : GoodIn wsX5_readNumbers wsX5_readNumber := goodIn_sub (fun w h => (List.mem_cons.mp h).elim (fun e => ft_me e (List.mem_cons_of_mem _ (List.mem_append_left _ (List.mem_of_getElem? (i := 4) rfl)))) (fun h => (List.mem_append.mp h).elim (fun h => (List.forall_mem_cons.mpr ⟨(List.mem_cons_of_mem _ (List.mem_append_left _ (List.mem_of_getElem? (i := 5) rfl))), List.forall_mem_cons.mpr ⟨(List.mem_cons_of_mem _ (List.mem_append_left _ (List.mem_of_getElem? (i := 6) rfl))), List.forall_mem_cons.mpr ⟨(List.mem_cons_of_mem _ (List.mem_append_left _ (List.mem_of_getElem? (i := 7) rfl))), List.forall_mem_cons.mpr ⟨(List.mem_cons_of_mem _ (List.mem_append_left _ (List.mem_of_getElem? (i := 8) rfl))), List.forall_mem_cons.mpr ⟨(List.mem_cons_of_mem _ (List.mem_append_left _ (List.mem_of_getElem? (i := 9) rfl))), List.forall_mem_cons.mpr ⟨(List.mem_cons_of_mem _ (List.mem_append_left _ (List.mem_of_getElem? (i := 3) rfl))), List.forall_mem_cons.mpr ⟨(List.mem_cons_of_mem _ (List.mem_append_left _ (List.mem_of_getElem? (i := 10) rfl))), List.forall_mem_cons.mpr ⟨(List.mem_cons_of_mem _ (List.mem_append_left _ (List.mem_of_getElem? (i := 11) rfl))), List.forall_mem_cons.mpr ⟨(List.mem_cons_of_mem _ (List.mem_append_left _ (List.mem_of_getElem? (i := 12) rfl))), List.forall_mem_cons.mpr ⟨(List.mem_cons_of_mem _ (List.mem_append_left _ (List.mem_of_getElem? (i := 13) rfl))), List.forall_mem_cons.mpr ⟨(List.mem_cons_of_mem _ (List.mem_append_left _ (List.mem_of_getElem? (i := 14) rfl))), List.forall_mem_cons.mpr ⟨(List.mem_cons_of_mem _ (List.mem_append_left _ (List.mem_of_getElem? (i := 15) rfl))), List.forall_mem_cons.mpr ⟨(List.mem_cons_of_mem _ (List.mem_append_left _ (List.mem_of_getElem? (i := 16) rfl))), List.forall_mem_cons.mpr ⟨(List.mem_cons_of_mem _ (List.mem_append_left _ (List.mem_of_getElem? (i := 17) rfl))), List.forall_mem_cons.mpr ⟨(List.mem_cons_of_mem _ (List.mem_append_left _ (List.mem_of_getElem? (i := 18) rfl))), List.forall_mem_cons.mpr ⟨(List.mem_cons_of_mem _ (List.mem_append_left _ (List.mem_of_getElem? (i := 19) rfl))), fun _ h => absurd h List.not_mem_nil⟩⟩⟩⟩⟩⟩⟩⟩⟩⟩⟩⟩⟩⟩⟩⟩) w h) (fun h => k_wsX5_readNumbers_wsX50 w h))) gw_wsX5_readNumber
theorem gX5_readNumbers_X5_readNumber : GoodIn wsX5_readNumbers (wsV RX5 123 RX5 yX5_readNumber wsX5_readNumber) := goodIn_app (goodIn_sub (List.forall_mem_cons.mpr ⟨(List.mem_cons_of_mem _ (List.mem_append_left _ (List.mem_of_getElem? (i := 0) rfl))), List.forall_mem_cons.mpr ⟨(List.mem_cons_of_mem _ (List.mem_append_left _ (List.mem_of_getElem? (i := 1) rfl))), List.forall_mem_cons.mpr ⟨(List.mem_cons_of_mem _ (List.mem_append_left _ (List.mem_of_getElem? (i := 2) rfl))), List.forall_mem_cons.mpr ⟨(List.mem_cons_of_mem _ (List.mem_append_left _ (List.mem_of_getElem? (i := 3) rfl))), fun _ h => absurd h List.not_mem_nil⟩⟩⟩⟩) (by decide +kernel)) ggX5_readNumbers_X5_readNumber
theorem dX5_readNumbers_0 : decode cX5_readNumbers 0 = .ok (.iconst 0, 1) := by decide +kernel
theorem dX5_readNumbers_1 : decode cX5_readNumbers 1 = .ok (.istore_n 2, 1) := by decide +kernel
theorem dX5_readNumbers_2 : decode cX5_readNumbers 2 = .ok (.iload_n 2, 1) := by decide +kernel
theorem dX5_readNumbers_3 : decode cX5_readNumbers 3 = .ok (.iload_n 1, 1) := by decide +kernel
theorem dX5_readNumbers_4 : decode cX5_readNumbers 4 = .ok (.if_icmp .ge 19, 3) := by decide +kernel
theorem dX5_readNumbers_7 : decode cX5_readNumbers 7 = .ok (.aload_n 0, 1) := by decide +kernel
theorem dX5_readNumbers_8 : decode cX5_readNumbers 8 = .ok (.iload_n 2, 1) := by decide +kernel
theorem dX5_readNumbers_9 : decode cX5_readNumbers 9 = .ok (.invokevirtual 123, 3) := by decide +kernel
theorem dX5_readNumbers_12 : decode cX5_readNumbers 12 = .ok (.ifCond .ne 5, 3) := by decide +kernel
theorem dX5_readNumbers_15 : decode cX5_readNumbers 15 = .ok (.iload_n 2, 1) := by decide +kernel
theorem dX5_readNumbers_16 : decode cX5_readNumbers 16 = .ok (.ireturn, 1) := by decide +kernel
theorem dX5_readNumbers_17 : decode cX5_readNumbers 17 = .ok (.iinc 2 1, 3) := by decide +kernel
theorem dX5_readNumbers_20 : decode cX5_readNumbers 20 = .ok (.goto (-18), 3) := by decide +kernel
theorem dX5_readNumbers_23 : decode cX5_readNumbers 23 = .ok (.iconst (-1), 1) := by decide +kernel
theorem dX5_readNumbers_24 : decode cX5_readNumbers 24 = .ok (.ireturn, 1) := by decide +kernel
theorem ggX5_readNumber_X5_signAt : GoodIn wsX5_readNumber wsX5_signAt := goodIn_sub (fun w h => (List.mem_cons.mp h).elim (fun e => ft_me e (List.mem_cons_of_mem _ (List.mem_append_left _ (List.mem_of_getElem? (i := 6) rfl)))) (fun h => (List.mem_append.mp h).elim (fun h => (List.forall_mem_cons.mpr ⟨(List.mem_cons_of_mem _ (List.mem_append_left _ (List.mem_of_getElem? (i := 7) rfl))), List.forall_mem_cons.mpr ⟨(List.mem_cons_of_mem _ (List.mem_append_left _ (List.mem_of_getElem? (i := 8) rfl))), List.forall_mem_cons.mpr ⟨(List.mem_cons_of_mem _ (List.mem_append_left _ (List.mem_of_getElem? (i := 9) rfl))), List.forall_mem_cons.mpr ⟨(List.mem_cons_of_mem _ (List.mem_append_left _ (List.mem_of_getElem? (i := 10) rfl))), List.forall_mem_cons.mpr ⟨(List.mem_cons_of_mem _ (List.mem_append_left _ (List.mem_of_getElem? (i := 11) rfl))), fun _ h => absurd h List.not_mem_nil⟩⟩⟩⟩⟩) w h) (fun h => k_wsX5_readNumber_wsX50 w h))) gw_wsX5_signAt
theorem gX5_readNumber_X5_signAt : GoodIn wsX5_readNumber (wsV RX5 80 RX5 yX5_signAt wsX5_signAt) := goodIn_app (goodIn_sub (List.forall_mem_cons.mpr ⟨(List.mem_cons_of_mem _ (List.mem_append_left _ (List.mem_of_getElem? (i := 2) rfl))), List.forall_mem_cons.mpr ⟨(List.mem_cons_of_mem _ (List.mem_append_left _ (List.mem_of_getElem? (i := 3) rfl))), List.forall_mem_cons.mpr ⟨(List.mem_cons_of_mem _ (List.mem_append_left _ (List.mem_of_getElem? (i := 4) rfl))), List.forall_mem_cons.mpr ⟨(List.mem_cons_of_mem _ (List.mem_append_left _ (List.mem_of_getElem? (i := 5) rfl))), fun _ h => absurd h List.not_mem_nil⟩⟩⟩⟩) (by decide +kernel)) ggX5_readNumber_X5_signAt
theorem ggX5_readNumber_X10_isWithin : GoodIn wsX5_readNumber wsX10_isWithin := goodIn_sub (fun w h => (List.mem_cons.mp h).elim (fun e => ft_me e (List.mem_cons_of_mem _ (List.mem_append_left _ (List.mem_of_getElem? (i := 13) rfl)))) (fun h => absurd h List.not_mem_nil)) gw_wsX10_isWithin
theorem gX5_readNumber_X10_isWithin_n115 : GoodIn wsX5_readNumber (wsX10_isWithin) := ggX5_readNumber_X10_isWithin
theorem ggX5_readNumber_X10_put : GoodIn wsX5_readNumber wsX10_put := goodIn_sub (fun w h => (List.mem_cons.mp h).elim (fun e => ft_me e (List.mem_cons_of_mem _ (List.mem_append_left _ (List.mem_of_getElem? (i := 15) rfl)))) (fun h => absurd h List.not_mem_nil)) gw_wsX10_put
theorem gX5_readNumber_X10_put_n32 : GoodIn wsX5_readNumber (wsX10_put) := ggX5_readNumber_X10_put
theorem dX5_readNumber_0 : decode cX5_readNumber 0 = .ok (.aload_n 0, 1) := by decide +kernel
theorem dX5_readNumber_1 : decode cX5_readNumber 1 = .ok (.aload_n 0, 1) := by decide +kernel
theorem dX5_readNumber_2 : decode cX5_readNumber 2 = .ok (.getfield 42, 3) := by decide +kernel
theorem dX5_readNumber_5 : decode cX5_readNumber 5 = .ok (.invokevirtual 80, 3) := by decide +kernel
theorem dX5_readNumber_8 : decode cX5_readNumber 8 = .ok (.bipush 32, 2) := by decide +kernel
theorem dX5_readNumber_10 : decode cX5_readNumber 10 = .ok (.if_icmp .eq 5, 3) := by decide +kernel
theorem dX5_readNumber_13 : decode cX5_readNumber 13 = .ok (.iconst 0, 1) := by decide +kernel
theorem dX5_readNumber_14 : decode cX5_readNumber 14 = .ok (.ireturn, 1) := by decide +kernel
theorem dX5_readNumber_15 : decode cX5_readNumber 15 = .ok (.aload_n 0, 1) := by decide +kernel
theorem dX5_readNumber_16 : decode cX5_readNumber 16 = .ok (.dup, 1) := by decide +kernel
theorem dX5_readNumber_17 : decode cX5_readNumber 17 = .ok (.getfield 42, 3) := by decide +kernel
theorem dX5_readNumber_20 : decode cX5_readNumber 20 = .ok (.iconst 1, 1) := by decide +kernel
theorem dX5_readNumber_21 : decode cX5_readNumber 21 = .ok (.iadd, 1) := by decide +kernel
theorem dX5_readNumber_22 : decode cX5_readNumber 22 = .ok (.putfield 42, 3) := by decide +kernel
theorem dX5_readNumber_25 : decode cX5_readNumber 25 = .ok (.aload_n 0, 1) := by decide +kernel
theorem dX5_readNumber_26 : decode cX5_readNumber 26 = .ok (.aload_n 0, 1) := by decide +kernel
theorem dX5_readNumber_27 : decode cX5_readNumber 27 = .ok (.getfield 42, 3) := by decide +kernel
theorem dX5_readNumber_30 : decode cX5_readNumber 30 = .ok (.invokevirtual 80, 3) := by decide +kernel
theorem dX5_readNumber_33 : decode cX5_readNumber 33 = .ok (.bipush 45, 2) := by decide +kernel
theorem dX5_readNumber_35 : decode cX5_readNumber 35 = .ok (.if_icmp .ne 7, 3) := by decide +kernel
theorem dX5_readNumber_38 : decode cX5_readNumber 38 = .ok (.iconst 1, 1) := by decide +kernel
theorem dX5_readNumber_39 : decode cX5_readNumber 39 = .ok (.goto 4, 3) := by decide +kernel
theorem dX5_readNumber_42 : decode cX5_readNumber 42 = .ok (.iconst 0, 1) := by decide +kernel
theorem dX5_readNumber_43 : decode cX5_readNumber 43 = .ok (.istore_n 2, 1) := by decide +kernel
theorem dX5_readNumber_44 : decode cX5_readNumber 44 = .ok (.iload_n 2, 1) := by decide +kernel
theorem dX5_readNumber_45 : decode cX5_readNumber 45 = .ok (.ifCond .eq 13, 3) := by decide +kernel
theorem dX5_readNumber_48 : decode cX5_readNumber 48 = .ok (.aload_n 0, 1) := by decide +kernel
theorem dX5_readNumber_49 : decode cX5_readNumber 49 = .ok (.dup, 1) := by decide +kernel
theorem dX5_readNumber_50 : decode cX5_readNumber 50 = .ok (.getfield 42, 3) := by decide +kernel
theorem dX5_readNumber_53 : decode cX5_readNumber 53 = .ok (.iconst 1, 1) := by decide +kernel
theorem dX5_readNumber_54 : decode cX5_readNumber 54 = .ok (.iadd, 1) := by decide +kernel
theorem dX5_readNumber_55 : decode cX5_readNumber 55 = .ok (.putfield 42, 3) := by decide +kernel
theorem dX5_readNumber_58 : decode cX5_readNumber 58 = .ok (.iconst 0, 1) := by decide +kernel
theorem dX5_readNumber_59 : decode cX5_readNumber 59 = .ok (.istore_n 3, 1) := by decide +kernel
theorem dX5_readNumber_60 : decode cX5_readNumber 60 = .ok (.iconst 0, 1) := by decide +kernel
theorem dX5_readNumber_61 : decode cX5_readNumber 61 = .ok (.istore 4, 2) := by decide +kernel
theorem dX5_readNumber_63 : decode cX5_readNumber 63 = .ok (.iload 4, 2) := by decide +kernel
theorem dX5_readNumber_65 : decode cX5_readNumber 65 = .ok (.iconst 5, 1) := by decide +kernel
theorem dX5_readNumber_66 : decode cX5_readNumber 66 = .ok (.if_icmp .ge 54, 3) := by decide +kernel
theorem dX5_readNumber_69 : decode cX5_readNumber 69 = .ok (.aload_n 0, 1) := by decide +kernel
theorem dX5_readNumber_70 : decode cX5_readNumber 70 = .ok (.aload_n 0, 1) := by decide +kernel
theorem dX5_readNumber_71 : decode cX5_readNumber 71 = .ok (.getfield 42, 3) := by decide +kernel
theorem dX5_readNumber_74 : decode cX5_readNumber 74 = .ok (.invokevirtual 80, 3) := by decide +kernel
theorem dX5_readNumber_77 : decode cX5_readNumber 77 = .ok (.bipush 48, 2) := by decide +kernel
theorem dX5_readNumber_79 : decode cX5_readNumber 79 = .ok (.bipush 57, 2) := by decide +kernel
theorem dX5_readNumber_81 : decode cX5_readNumber 81 = .ok (.invokestatic 115, 3) := by decide +kernel
theorem dX5_readNumber_84 : decode cX5_readNumber 84 = .ok (.ifCond .eq 36, 3) := by decide +kernel
theorem dX5_readNumber_87 : decode cX5_readNumber 87 = .ok (.iload_n 3, 1) := by decide +kernel
theorem dX5_readNumber_88 : decode cX5_readNumber 88 = .ok (.bipush 10, 2) := by decide +kernel
theorem dX5_readNumber_90 : decode cX5_readNumber 90 = .ok (.imul, 1) := by decide +kernel
theorem dX5_readNumber_91 : decode cX5_readNumber 91 = .ok (.aload_n 0, 1) := by decide +kernel
theorem dX5_readNumber_92 : decode cX5_readNumber 92 = .ok (.aload_n 0, 1) := by decide +kernel
theorem dX5_readNumber_93 : decode cX5_readNumber 93 = .ok (.getfield 42, 3) := by decide +kernel
theorem dX5_readNumber_96 : decode cX5_readNumber 96 = .ok (.invokevirtual 80, 3) := by decide +kernel
theorem dX5_readNumber_99 : decode cX5_readNumber 99 = .ok (.iadd, 1) := by decide +kernel
theorem dX5_readNumber_100 : decode cX5_readNumber 100 = .ok (.bipush 48, 2) := by decide +kernel
theorem dX5_readNumber_102 : decode cX5_readNumber 102 = .ok (.isub, 1) := by decide +kernel
theorem dX5_readNumber_103 : decode cX5_readNumber 103 = .ok (.istore_n 3, 1) := by decide +kernel
theorem dX5_readNumber_104 : decode cX5_readNumber 104 = .ok (.aload_n 0, 1) := by decide +kernel
theorem dX5_readNumber_105 : decode cX5_readNumber 105 = .ok (.dup, 1) := by decide +kernel
theorem dX5_readNumber_106 : decode cX5_readNumber 106 = .ok (.getfield 42, 3) := by decide +kernel
theorem dX5_readNumber_109 : decode cX5_readNumber 109 = .ok (.iconst 1, 1) := by decide +kernel
theorem dX5_readNumber_110 : decode cX5_readNumber 110 = .ok (.iadd, 1) := by decide +kernel
theorem dX5_readNumber_111 : decode cX5_readNumber 111 = .ok (.putfield 42, 3) := by decide +kernel
theorem dX5_readNumber_114 : decode cX5_readNumber 114 = .ok (.iinc 4 1, 3) := by decide +kernel
theorem dX5_readNumber_117 : decode cX5_readNumber 117 = .ok (.goto (-54), 3) := by decide +kernel
theorem dX5_readNumber_120 : decode cX5_readNumber 120 = .ok (.aload_n 0, 1) := by decide +kernel
theorem dX5_readNumber_121 : decode cX5_readNumber 121 = .ok (.getfield 15, 3) := by decide +kernel
theorem dX5_readNumber_124 : decode cX5_readNumber 124 = .ok (.iload_n 1, 1) := by decide +kernel
theorem dX5_readNumber_125 : decode cX5_readNumber 125 = .ok (.iload_n 2, 1) := by decide +kernel
theorem dX5_readNumber_126 : decode cX5_readNumber 126 = .ok (.ifCond .eq 8, 3) := by decide +kernel
theorem dX5_readNumber_129 : decode cX5_readNumber 129 = .ok (.iload_n 3, 1) := by decide +kernel
theorem dX5_readNumber_130 : decode cX5_readNumber 130 = .ok (.ineg, 1) := by decide +kernel
theorem dX5_readNumber_131 : decode cX5_readNumber 131 = .ok (.goto 4, 3) := by decide +kernel
theorem dX5_readNumber_134 : decode cX5_readNumber 134 = .ok (.iload_n 3, 1) := by decide +kernel
theorem dX5_readNumber_135 : decode cX5_readNumber 135 = .ok (.invokestatic 32, 3) := by decide +kernel
theorem dX5_readNumber_138 : decode cX5_readNumber 138 = .ok (.iload 4, 2) := by decide +kernel
theorem dX5_readNumber_140 : decode cX5_readNumber 140 = .ok (.ifCond .le 7, 3) := by decide +kernel
theorem dX5_readNumber_143 : decode cX5_readNumber 143 = .ok (.iconst 1, 1) := by decide +kernel
theorem dX5_readNumber_144 : decode cX5_readNumber 144 = .ok (.goto 4, 3) := by decide +kernel
theorem dX5_readNumber_147 : decode cX5_readNumber 147 = .ok (.iconst 0, 1) := by decide +kernel
theorem dX5_readNumber_148 : decode cX5_readNumber 148 = .ok (.ireturn, 1) := by decide +kernel
theorem ggX5_firstOutside_X10_at : GoodIn wsX5_firstOutside wsX10_at := goodIn_sub (fun w h => (List.mem_cons.mp h).elim (fun e => ft_me e (List.mem_cons_of_mem _ (List.mem_append_left _ (List.mem_append_left _ (List.mem_of_getElem? (i := 3) rfl))))) (fun h => absurd h List.not_mem_nil)) gw_wsX10_at
theorem gX5_firstOutside_X10_at_n93 : GoodIn wsX5_firstOutside (wsX10_at) := ggX5_firstOutside_X10_at
theorem ggX5_firstOutside_X5_isInRange : GoodIn wsX5_firstOutside wsX5_isInRange := goodIn_sub (fun w h => (List.mem_cons.mp h).elim (fun e => ft_me e (List.mem_cons_of_mem _ (List.mem_append_left _ (List.mem_append_left _ (List.mem_of_getElem? (i := 8) rfl))))) (fun h => (List.mem_append.mp h).elim (fun h => (List.mem_append.mp h).elim (fun h => (List.forall_mem_cons.mpr ⟨(List.mem_cons_of_mem _ (List.mem_append_left _ (List.mem_append_left _ (List.mem_of_getElem? (i := 9) rfl)))), List.forall_mem_cons.mpr ⟨(List.mem_cons_of_mem _ (List.mem_append_left _ (List.mem_append_left _ (List.mem_of_getElem? (i := 10) rfl)))), List.forall_mem_cons.mpr ⟨(List.mem_cons_of_mem _ (List.mem_append_left _ (List.mem_append_left _ (List.mem_of_getElem? (i := 2) rfl)))), List.forall_mem_cons.mpr ⟨(List.mem_cons_of_mem _ (List.mem_append_left _ (List.mem_append_left _ (List.mem_of_getElem? (i := 11) rfl)))), List.forall_mem_cons.mpr ⟨(List.mem_cons_of_mem _ (List.mem_append_left _ (List.mem_append_left _ (List.mem_of_getElem? (i := 12) rfl)))), List.forall_mem_cons.mpr ⟨(List.mem_cons_of_mem _ (List.mem_append_left _ (List.mem_append_left _ (List.mem_of_getElem? (i := 13) rfl)))), List.forall_mem_cons.mpr ⟨(List.mem_cons_of_mem _ (List.mem_append_left _ (List.mem_append_left _ (List.mem_of_getElem? (i := 14) rfl)))), List.forall_mem_cons.mpr ⟨(List.mem_cons_of_mem _ (List.mem_append_left _ (List.mem_append_left _ (List.mem_of_getElem? (i := 15) rfl)))), List.forall_mem_cons.mpr ⟨(List.mem_cons_of_mem _ (List.mem_append_left _ (List.mem_append_left _ (List.mem_of_getElem? (i := 16) rfl)))), List.forall_mem_cons.mpr ⟨(List.mem_cons_of_mem _ (List.mem_append_left _ (List.mem_append_left _ (List.mem_of_getElem? (i := 17) rfl)))), List.forall_mem_cons.mpr ⟨(List.mem_cons_of_mem _ (List.mem_append_left _ (List.mem_append_left _ (List.mem_of_getElem? (i := 18) rfl)))), List.forall_mem_cons.mpr ⟨(List.mem_cons_of_mem _ (List.mem_append_left _ (List.mem_append_left _ (List.mem_of_getElem? (i := 19) rfl)))), List.forall_mem_cons.mpr ⟨(List.mem_cons_of_mem _ (List.mem_append_left _ (List.mem_append_left _ (List.mem_of_getElem? (i := 20) rfl)))), List.forall_mem_cons.mpr ⟨(List.mem_cons_of_mem _ (List.mem_append_left _ (List.mem_append_left _ (List.mem_of_getElem? (i := 21) rfl)))), List.forall_mem_cons.mpr ⟨(List.mem_cons_of_mem _ (List.mem_append_left _ (List.mem_append_left _ (List.mem_of_getElem? (i := 22) rfl)))), List.forall_mem_cons.mpr ⟨(List.mem_cons_of_mem _ (List.mem_append_left _ (List.mem_append_left _ (List.mem_of_getElem? (i := 23) rfl)))), fun _ h => absurd h List.not_mem_nil⟩⟩⟩⟩⟩⟩⟩⟩⟩⟩⟩⟩⟩⟩⟩⟩) w h) (fun h => k_wsX5_firstOutside_wsX50 w h)) (fun h => k_wsX5_firstOutside_wsX40 w h))) gw_wsX5_isInRange
theorem gX5_firstOutside_X5_isInRange : GoodIn wsX5_firstOutside (wsV RX5 126 RX5 yX5_isInRange wsX5_isInRange) := goodIn_app (goodIn_sub (List.forall_mem_cons.mpr ⟨(List.mem_cons_of_mem _ (List.mem_append_left _ (List.mem_append_left _ (List.mem_of_getElem? (i := 4) rfl)))), List.forall_mem_cons.mpr ⟨(List.mem_cons_of_mem _ (List.mem_append_left _ (List.mem_append_left _ (List.mem_of_getElem? (i := 5) rfl)))), List.forall_mem_cons.mpr ⟨(List.mem_cons_of_mem _ (List.mem_append_left _ (List.mem_append_left _ (List.mem_of_getElem? (i := 6) rfl)))), List.forall_mem_cons.mpr ⟨(List.mem_cons_of_mem _ (List.mem_append_left _ (List.mem_append_left _ (List.mem_of_getElem? (i := 7) rfl)))), fun _ h => absurd h List.not_mem_nil⟩⟩⟩⟩) (by decide +kernel)) ggX5_firstOutside_X5_isInRange
theorem dX5_firstOutside_0 : decode cX5_firstOutside 0 = .ok (.iconst 0, 1) := by decide +kernel
theorem dX5_firstOutside_1 : decode cX5_firstOutside 1 = .ok (.istore_n 3, 1) := by decide +kernel
theorem dX5_firstOutside_2 : decode cX5_firstOutside 2 = .ok (.iload_n 3, 1) := by decide +kernel
theorem dX5_firstOutside_3 : decode cX5_firstOutside 3 = .ok (.iload_n 2, 1) := by decide +kernel
theorem dX5_firstOutside_4 : decode cX5_firstOutside 4 = .ok (.if_icmp .ge 28, 3) := by decide +kernel
theorem dX5_firstOutside_7 : decode cX5_firstOutside 7 = .ok (.aload_n 0, 1) := by decide +kernel
theorem dX5_firstOutside_8 : decode cX5_firstOutside 8 = .ok (.iload_n 1, 1) := by decide +kernel
theorem dX5_firstOutside_9 : decode cX5_firstOutside 9 = .ok (.iload_n 3, 1) := by decide +kernel
theorem dX5_firstOutside_10 : decode cX5_firstOutside 10 = .ok (.aload_n 0, 1) := by decide +kernel
theorem dX5_firstOutside_11 : decode cX5_firstOutside 11 = .ok (.getfield 15, 3) := by decide +kernel
theorem dX5_firstOutside_14 : decode cX5_firstOutside 14 = .ok (.iload_n 3, 1) := by decide +kernel
theorem dX5_firstOutside_15 : decode cX5_firstOutside 15 = .ok (.invokestatic 93, 3) := by decide +kernel
theorem dX5_firstOutside_18 : decode cX5_firstOutside 18 = .ok (.invokevirtual 126, 3) := by decide +kernel
theorem dX5_firstOutside_21 : decode cX5_firstOutside 21 = .ok (.ifCond .ne 5, 3) := by decide +kernel
theorem dX5_firstOutside_24 : decode cX5_firstOutside 24 = .ok (.iload_n 3, 1) := by decide +kernel
theorem dX5_firstOutside_25 : decode cX5_firstOutside 25 = .ok (.ireturn, 1) := by decide +kernel
theorem dX5_firstOutside_26 : decode cX5_firstOutside 26 = .ok (.iinc 3 1, 3) := by decide +kernel
theorem dX5_firstOutside_29 : decode cX5_firstOutside 29 = .ok (.goto (-27), 3) := by decide +kernel
theorem dX5_firstOutside_32 : decode cX5_firstOutside 32 = .ok (.iconst (-1), 1) := by decide +kernel
theorem dX5_firstOutside_33 : decode cX5_firstOutside 33 = .ok (.ireturn, 1) := by decide +kernel
theorem ggX5_isInRange_X10_isWithin : GoodIn wsX5_isInRange wsX10_isWithin := goodIn_sub (fun w h => (List.mem_cons.mp h).elim (fun e => ft_me e (List.mem_cons_of_mem _ (List.mem_append_left _ (List.mem_append_left _ (List.mem_of_getElem? (i := 3) rfl))))) (fun h => absurd h List.not_mem_nil)) gw_wsX10_isWithin
theorem gX5_isInRange_X10_isWithin_n115 : GoodIn wsX5_isInRange (wsX10_isWithin) := ggX5_isInRange_X10_isWithin
theorem ggX5_isInRange_X4_placeFits : GoodIn wsX5_isInRange wsX4_placeFits := goodIn_sub (fun w h => (List.mem_cons.mp h).elim (fun e => ft_me e (List.mem_cons_of_mem _ (List.mem_append_left _ (List.mem_append_left _ (List.mem_of_getElem? (i := 8) rfl))))) (fun h => (List.mem_append.mp h).elim (fun h => (List.forall_mem_cons.mpr ⟨(List.mem_cons_of_mem _ (List.mem_append_left _ (List.mem_append_left _ (List.mem_of_getElem? (i := 9) rfl)))), List.forall_mem_cons.mpr ⟨(List.mem_cons_of_mem _ (List.mem_append_left _ (List.mem_append_left _ (List.mem_of_getElem? (i := 1) rfl)))), List.forall_mem_cons.mpr ⟨(List.mem_cons_of_mem _ (List.mem_append_left _ (List.mem_append_left _ (List.mem_of_getElem? (i := 2) rfl)))), List.forall_mem_cons.mpr ⟨(List.mem_cons_of_mem _ (List.mem_append_left _ (List.mem_append_left _ (List.mem_of_getElem? (i := 3) rfl)))), fun _ h => absurd h List.not_mem_nil⟩⟩⟩⟩) w h) (fun h => k_wsX5_isInRange_wsX40 w h))) gw_wsX4_placeFits
theorem gX5_isInRange_X4_placeFits : GoodIn wsX5_isInRange (wsV RX5 129 RX4 yX4_placeFits wsX4_placeFits) := goodIn_app (goodIn_sub (List.forall_mem_cons.mpr ⟨(List.mem_cons_of_mem _ (List.mem_append_left _ (List.mem_append_left _ (List.mem_of_getElem? (i := 4) rfl)))), List.forall_mem_cons.mpr ⟨(List.mem_cons_of_mem _ (List.mem_append_left _ (List.mem_append_left _ (List.mem_of_getElem? (i := 5) rfl)))), List.forall_mem_cons.mpr ⟨(List.mem_cons_of_mem _ (List.mem_append_left _ (List.mem_append_left _ (List.mem_of_getElem? (i := 6) rfl)))), List.forall_mem_cons.mpr ⟨(List.mem_cons_of_mem _ (List.mem_append_left _ (List.mem_append_left _ (List.mem_of_getElem? (i := 7) rfl)))), fun _ h => absurd h List.not_mem_nil⟩⟩⟩⟩) (by decide +kernel)) ggX5_isInRange_X4_placeFits
theorem ggX5_isInRange_X4_lossFits : GoodIn wsX5_isInRange wsX4_lossFits := goodIn_sub (fun w h => (List.mem_cons.mp h).elim (fun e => ft_me e (List.mem_cons_of_mem _ (List.mem_append_left _ (List.mem_append_left _ (List.mem_of_getElem? (i := 12) rfl))))) (fun h => (List.forall_mem_cons.mpr ⟨(List.mem_cons_of_mem _ (List.mem_append_left _ (List.mem_append_left _ (List.mem_of_getElem? (i := 1) rfl)))), List.forall_mem_cons.mpr ⟨(List.mem_cons_of_mem _ (List.mem_append_left _ (List.mem_append_left _ (List.mem_of_getElem? (i := 2) rfl)))), List.forall_mem_cons.mpr ⟨(List.mem_cons_of_mem _ (List.mem_append_left _ (List.mem_append_left _ (List.mem_of_getElem? (i := 3) rfl)))), fun _ h => absurd h List.not_mem_nil⟩⟩⟩) w h)) gw_wsX4_lossFits
theorem gX5_isInRange_X4_lossFits : GoodIn wsX5_isInRange (va_wsS RX5 132 yX4_lossFits wsX4_lossFits) := goodIn_app (goodIn_sub (List.forall_mem_cons.mpr ⟨(List.mem_cons_of_mem _ (List.mem_append_left _ (List.mem_append_left _ (List.mem_of_getElem? (i := 10) rfl)))), List.forall_mem_cons.mpr ⟨(List.mem_cons_of_mem _ (List.mem_append_left _ (List.mem_append_left _ (List.mem_of_getElem? (i := 11) rfl)))), List.forall_mem_cons.mpr ⟨(List.mem_cons_of_mem _ (List.mem_append_left _ (List.mem_append_left _ (List.mem_of_getElem? (i := 7) rfl)))), fun _ h => absurd h List.not_mem_nil⟩⟩⟩) (by decide +kernel)) ggX5_isInRange_X4_lossFits
theorem ggX5_isInRange_X4_reflectionFits : GoodIn wsX5_isInRange wsX4_reflectionFits := goodIn_sub (fun w h => (List.mem_cons.mp h).elim (fun e => ft_me e (List.mem_cons_of_mem _ (List.mem_append_left _ (List.mem_append_left _ (List.mem_of_getElem? (i := 15) rfl))))) (fun h => (List.forall_mem_cons.mpr ⟨(List.mem_cons_of_mem _ (List.mem_append_left _ (List.mem_append_left _ (List.mem_of_getElem? (i := 1) rfl)))), List.forall_mem_cons.mpr ⟨(List.mem_cons_of_mem _ (List.mem_append_left _ (List.mem_append_left _ (List.mem_of_getElem? (i := 2) rfl)))), List.forall_mem_cons.mpr ⟨(List.mem_cons_of_mem _ (List.mem_append_left _ (List.mem_append_left _ (List.mem_of_getElem? (i := 3) rfl)))), fun _ h => absurd h List.not_mem_nil⟩⟩⟩) w h)) gw_wsX4_reflectionFits
theorem gX5_isInRange_X4_reflectionFits : GoodIn wsX5_isInRange (va_wsS RX5 136 yX4_reflectionFits wsX4_reflectionFits) := goodIn_app (goodIn_sub (List.forall_mem_cons.mpr ⟨(List.mem_cons_of_mem _ (List.mem_append_left _ (List.mem_append_left _ (List.mem_of_getElem? (i := 13) rfl)))), List.forall_mem_cons.mpr ⟨(List.mem_cons_of_mem _ (List.mem_append_left _ (List.mem_append_left _ (List.mem_of_getElem? (i := 14) rfl)))), List.forall_mem_cons.mpr ⟨(List.mem_cons_of_mem _ (List.mem_append_left _ (List.mem_append_left _ (List.mem_of_getElem? (i := 7) rfl)))), fun _ h => absurd h List.not_mem_nil⟩⟩⟩) (by decide +kernel)) ggX5_isInRange_X4_reflectionFits
theorem dX5_isInRange_0 : decode cX5_isInRange 0 = .ok (.iload_n 1, 1) := by decide +kernel
theorem dX5_isInRange_1 : decode cX5_isInRange 1 = .ok (.tableswitch 54 0 2 #[27, 37, 45], 27) := by decide +kernel
theorem dX5_isInRange_28 : decode cX5_isInRange 28 = .ok (.iload_n 3, 1) := by decide +kernel
theorem dX5_isInRange_29 : decode cX5_isInRange 29 = .ok (.bipush 50, 2) := by decide +kernel
theorem dX5_isInRange_31 : decode cX5_isInRange 31 = .ok (.sipush 400, 3) := by decide +kernel
theorem dX5_isInRange_34 : decode cX5_isInRange 34 = .ok (.invokestatic 115, 3) := by decide +kernel
theorem dX5_isInRange_37 : decode cX5_isInRange 37 = .ok (.ireturn, 1) := by decide +kernel
theorem dX5_isInRange_38 : decode cX5_isInRange 38 = .ok (.iload_n 3, 1) := by decide +kernel
theorem dX5_isInRange_39 : decode cX5_isInRange 39 = .ok (.iconst 0, 1) := by decide +kernel
theorem dX5_isInRange_40 : decode cX5_isInRange 40 = .ok (.bipush 50, 2) := by decide +kernel
theorem dX5_isInRange_42 : decode cX5_isInRange 42 = .ok (.invokestatic 115, 3) := by decide +kernel
theorem dX5_isInRange_45 : decode cX5_isInRange 45 = .ok (.ireturn, 1) := by decide +kernel
theorem dX5_isInRange_46 : decode cX5_isInRange 46 = .ok (.iload_n 3, 1) := by decide +kernel
theorem dX5_isInRange_47 : decode cX5_isInRange 47 = .ok (.iconst 0, 1) := by decide +kernel
theorem dX5_isInRange_48 : decode cX5_isInRange 48 = .ok (.sipush 20000, 3) := by decide +kernel
theorem dX5_isInRange_51 : decode cX5_isInRange 51 = .ok (.invokestatic 115, 3) := by decide +kernel
theorem dX5_isInRange_54 : decode cX5_isInRange 54 = .ok (.ireturn, 1) := by decide +kernel
theorem dX5_isInRange_55 : decode cX5_isInRange 55 = .ok (.iload_n 1, 1) := by decide +kernel
theorem dX5_isInRange_56 : decode cX5_isInRange 56 = .ok (.iconst 3, 1) := by decide +kernel
theorem dX5_isInRange_57 : decode cX5_isInRange 57 = .ok (.isub, 1) := by decide +kernel
theorem dX5_isInRange_58 : decode cX5_isInRange 58 = .ok (.istore 4, 2) := by decide +kernel
theorem dX5_isInRange_60 : decode cX5_isInRange 60 = .ok (.iload_n 2, 1) := by decide +kernel
theorem dX5_isInRange_61 : decode cX5_isInRange 61 = .ok (.lookupswitch 43 #[(0, 27), (1, 36)], 27) := by decide +kernel
theorem dX5_isInRange_88 : decode cX5_isInRange 88 = .ok (.aload_n 0, 1) := by decide +kernel
theorem dX5_isInRange_89 : decode cX5_isInRange 89 = .ok (.getfield 24, 3) := by decide +kernel
theorem dX5_isInRange_92 : decode cX5_isInRange 92 = .ok (.iload_n 3, 1) := by decide +kernel
theorem dX5_isInRange_93 : decode cX5_isInRange 93 = .ok (.invokevirtual 129, 3) := by decide +kernel
theorem dX5_isInRange_96 : decode cX5_isInRange 96 = .ok (.ireturn, 1) := by decide +kernel
theorem dX5_isInRange_97 : decode cX5_isInRange 97 = .ok (.iload 4, 2) := by decide +kernel
theorem dX5_isInRange_99 : decode cX5_isInRange 99 = .ok (.iload_n 3, 1) := by decide +kernel
theorem dX5_isInRange_100 : decode cX5_isInRange 100 = .ok (.invokestatic 132, 3) := by decide +kernel
theorem dX5_isInRange_103 : decode cX5_isInRange 103 = .ok (.ireturn, 1) := by decide +kernel
theorem dX5_isInRange_104 : decode cX5_isInRange 104 = .ok (.iload 4, 2) := by decide +kernel
theorem dX5_isInRange_106 : decode cX5_isInRange 106 = .ok (.iload_n 3, 1) := by decide +kernel
theorem dX5_isInRange_107 : decode cX5_isInRange 107 = .ok (.invokestatic 136, 3) := by decide +kernel
theorem dX5_isInRange_110 : decode cX5_isInRange 110 = .ok (.ireturn, 1) := by decide +kernel
theorem ggX5_isAllowed_X10_at : GoodIn wsX5_isAllowed wsX10_at := goodIn_sub (fun w h => (List.mem_cons.mp h).elim (fun e => ft_me e (List.mem_cons_of_mem _ (List.mem_append_left _ (List.mem_append_left _ (List.mem_of_getElem? (i := 6) rfl))))) (fun h => absurd h List.not_mem_nil)) gw_wsX10_at
theorem gX5_isAllowed_X10_at_n93 : GoodIn wsX5_isAllowed (wsX10_at) := ggX5_isAllowed_X10_at
theorem ggX5_isAllowed_X4_hasPartAt : GoodIn wsX5_isAllowed wsX4_hasPartAt := goodIn_sub (fun w h => (List.mem_cons.mp h).elim (fun e => ft_me e (List.mem_cons_of_mem _ (List.mem_append_left _ (List.mem_append_left _ (List.mem_of_getElem? (i := 11) rfl))))) (fun h => (List.mem_append.mp h).elim (fun h => (List.forall_mem_cons.mpr ⟨(List.mem_cons_of_mem _ (List.mem_append_left _ (List.mem_append_left _ (List.mem_of_getElem? (i := 12) rfl)))), List.forall_mem_cons.mpr ⟨(List.mem_cons_of_mem _ (List.mem_append_left _ (List.mem_append_left _ (List.mem_of_getElem? (i := 13) rfl)))), List.forall_mem_cons.mpr ⟨(List.mem_cons_of_mem _ (List.mem_append_left _ (List.mem_append_left _ (List.mem_of_getElem? (i := 4) rfl)))), List.forall_mem_cons.mpr ⟨(List.mem_cons_of_mem _ (List.mem_append_left _ (List.mem_append_left _ (List.mem_of_getElem? (i := 5) rfl)))), List.forall_mem_cons.mpr ⟨(List.mem_cons_of_mem _ (List.mem_append_left _ (List.mem_append_left _ (List.mem_of_getElem? (i := 6) rfl)))), fun _ h => absurd h List.not_mem_nil⟩⟩⟩⟩⟩) w h) (fun h => k_wsX5_isAllowed_wsX40 w h))) gw_wsX4_hasPartAt
theorem gX5_isAllowed_X4_hasPartAt : GoodIn wsX5_isAllowed (wsV RX5 140 RX4 yX4_hasPartAt wsX4_hasPartAt) := goodIn_app (goodIn_sub (List.forall_mem_cons.mpr ⟨(List.mem_cons_of_mem _ (List.mem_append_left _ (List.mem_append_left _ (List.mem_of_getElem? (i := 7) rfl)))), List.forall_mem_cons.mpr ⟨(List.mem_cons_of_mem _ (List.mem_append_left _ (List.mem_append_left _ (List.mem_of_getElem? (i := 8) rfl)))), List.forall_mem_cons.mpr ⟨(List.mem_cons_of_mem _ (List.mem_append_left _ (List.mem_append_left _ (List.mem_of_getElem? (i := 9) rfl)))), List.forall_mem_cons.mpr ⟨(List.mem_cons_of_mem _ (List.mem_append_left _ (List.mem_append_left _ (List.mem_of_getElem? (i := 10) rfl)))), fun _ h => absurd h List.not_mem_nil⟩⟩⟩⟩) (by decide +kernel)) ggX5_isAllowed_X4_hasPartAt
theorem dX5_isAllowed_0 : decode cX5_isAllowed 0 = .ok (.iload_n 1, 1) := by decide +kernel
theorem dX5_isAllowed_1 : decode cX5_isAllowed 1 = .ok (.iconst 3, 1) := by decide +kernel
theorem dX5_isAllowed_2 : decode cX5_isAllowed 2 = .ok (.if_icmp .ge 30, 3) := by decide +kernel
theorem dX5_isAllowed_5 : decode cX5_isAllowed 5 = .ok (.aload_n 0, 1) := by decide +kernel
theorem dX5_isAllowed_6 : decode cX5_isAllowed 6 = .ok (.getfield 18, 3) := by decide +kernel
theorem dX5_isAllowed_9 : decode cX5_isAllowed 9 = .ok (.iload_n 1, 1) := by decide +kernel
theorem dX5_isAllowed_10 : decode cX5_isAllowed 10 = .ok (.invokestatic 93, 3) := by decide +kernel
theorem dX5_isAllowed_13 : decode cX5_isAllowed 13 = .ok (.ifCond .ne 17, 3) := by decide +kernel
theorem dX5_isAllowed_16 : decode cX5_isAllowed 16 = .ok (.aload_n 0, 1) := by decide +kernel
theorem dX5_isAllowed_17 : decode cX5_isAllowed 17 = .ok (.getfield 24, 3) := by decide +kernel
theorem dX5_isAllowed_20 : decode cX5_isAllowed 20 = .ok (.getfield 139, 3) := by decide +kernel
theorem dX5_isAllowed_23 : decode cX5_isAllowed 23 = .ok (.ifCond .ne 7, 3) := by decide +kernel
theorem dX5_isAllowed_26 : decode cX5_isAllowed 26 = .ok (.iconst 1, 1) := by decide +kernel
theorem dX5_isAllowed_27 : decode cX5_isAllowed 27 = .ok (.goto 4, 3) := by decide +kernel
theorem dX5_isAllowed_30 : decode cX5_isAllowed 30 = .ok (.iconst 0, 1) := by decide +kernel
theorem dX5_isAllowed_31 : decode cX5_isAllowed 31 = .ok (.ireturn, 1) := by decide +kernel
theorem dX5_isAllowed_32 : decode cX5_isAllowed 32 = .ok (.aload_n 0, 1) := by decide +kernel
theorem dX5_isAllowed_33 : decode cX5_isAllowed 33 = .ok (.getfield 24, 3) := by decide +kernel
theorem dX5_isAllowed_36 : decode cX5_isAllowed 36 = .ok (.aload_n 0, 1) := by decide +kernel
theorem dX5_isAllowed_37 : decode cX5_isAllowed 37 = .ok (.getfield 15, 3) := by decide +kernel
theorem dX5_isAllowed_40 : decode cX5_isAllowed 40 = .ok (.iconst 0, 1) := by decide +kernel
theorem dX5_isAllowed_41 : decode cX5_isAllowed 41 = .ok (.invokestatic 93, 3) := by decide +kernel
theorem dX5_isAllowed_44 : decode cX5_isAllowed 44 = .ok (.invokevirtual 140, 3) := by decide +kernel
theorem dX5_isAllowed_47 : decode cX5_isAllowed 47 = .ok (.ifCond .ne 19, 3) := by decide +kernel
theorem dX5_isAllowed_50 : decode cX5_isAllowed 50 = .ok (.aload_n 0, 1) := by decide +kernel
theorem dX5_isAllowed_51 : decode cX5_isAllowed 51 = .ok (.getfield 24, 3) := by decide +kernel
theorem dX5_isAllowed_54 : decode cX5_isAllowed 54 = .ok (.getfield 139, 3) := by decide +kernel
theorem dX5_isAllowed_57 : decode cX5_isAllowed 57 = .ok (.bipush 10, 2) := by decide +kernel
theorem dX5_isAllowed_59 : decode cX5_isAllowed 59 = .ok (.if_icmp .ge 7, 3) := by decide +kernel
theorem dX5_isAllowed_62 : decode cX5_isAllowed 62 = .ok (.iconst 1, 1) := by decide +kernel
theorem dX5_isAllowed_63 : decode cX5_isAllowed 63 = .ok (.goto 4, 3) := by decide +kernel
theorem dX5_isAllowed_66 : decode cX5_isAllowed 66 = .ok (.iconst 0, 1) := by decide +kernel
theorem dX5_isAllowed_67 : decode cX5_isAllowed 67 = .ok (.ireturn, 1) := by decide +kernel
theorem ggX5_build_X10_at : GoodIn wsX5_build wsX10_at := goodIn_sub (fun w h => (List.mem_cons.mp h).elim (fun e => ft_me e (k_wsX5_build_wsX5_build_r1 _ (List.mem_of_getElem? (i := 8) rfl))) (fun h => absurd h List.not_mem_nil)) gw_wsX10_at
theorem gX5_build_X10_at_n93 : GoodIn wsX5_build (wsX10_at) := ggX5_build_X10_at
theorem ggX5_build_X10_put : GoodIn wsX5_build wsX10_put := goodIn_sub (fun w h => (List.mem_cons.mp h).elim (fun e => ft_me e (k_wsX5_build_wsX5_build_r1 _ (List.mem_of_getElem? (i := 10) rfl))) (fun h => absurd h List.not_mem_nil)) gw_wsX10_put
theorem gX5_build_X10_put_n32 : GoodIn wsX5_build (wsX10_put) := ggX5_build_X10_put
theorem ggX5_build_X4_insert : GoodIn wsX5_build wsX4_insert := goodIn_sub (fun w h => (List.mem_cons.mp h).elim (fun e => ft_me e (k_wsX5_build_wsX5_build_r1 _ (List.mem_of_getElem? (i := 15) rfl))) (fun h => (List.mem_append.mp h).elim (fun h => (List.forall_mem_cons.mpr ⟨(k_wsX5_build_wsX5_build_r1 _ (List.mem_of_getElem? (i := 16) rfl)), List.forall_mem_cons.mpr ⟨(k_wsX5_build_wsX5_build_r1 _ (List.mem_of_getElem? (i := 17) rfl)), List.forall_mem_cons.mpr ⟨(k_wsX5_build_wsX5_build_r1 _ (List.mem_of_getElem? (i := 18) rfl)), List.forall_mem_cons.mpr ⟨(k_wsX5_build_wsX5_build_r1 _ (List.mem_of_getElem? (i := 19) rfl)), List.forall_mem_cons.mpr ⟨(k_wsX5_build_wsX5_build_r1 _ (List.mem_of_getElem? (i := 20) rfl)), List.forall_mem_cons.mpr ⟨(k_wsX5_build_wsX5_build_r1 _ (List.mem_of_getElem? (i := 6) rfl)), List.forall_mem_cons.mpr ⟨(k_wsX5_build_wsX5_build_r1 _ (List.mem_of_getElem? (i := 7) rfl)), List.forall_mem_cons.mpr ⟨(k_wsX5_build_wsX5_build_r1 _ (List.mem_of_getElem? (i := 8) rfl)), List.forall_mem_cons.mpr ⟨(k_wsX5_build_wsX5_build_r1 _ (List.mem_of_getElem? (i := 21) rfl)), List.forall_mem_cons.mpr ⟨(k_wsX5_build_wsX5_build_r1 _ (List.mem_of_getElem? (i := 22) rfl)), List.forall_mem_cons.mpr ⟨(k_wsX5_build_wsX5_build_r1 _ (List.mem_of_getElem? (i := 23) rfl)), List.forall_mem_cons.mpr ⟨(k_wsX5_build_wsX5_build_r2 _ (List.mem_of_getElem? (i := 0) rfl)), List.forall_mem_cons.mpr ⟨(k_wsX5_build_wsX5_build_r1 _ (List.mem_of_getElem? (i := 9) rfl)), List.forall_mem_cons.mpr ⟨(k_wsX5_build_wsX5_build_r1 _ (List.mem_of_getElem? (i := 10) rfl)), fun _ h => absurd h List.not_mem_nil⟩⟩⟩⟩⟩⟩⟩⟩⟩⟩⟩⟩⟩⟩) w h) (fun h => k_wsX5_build_wsX40 w h))) gw_wsX4_insert
theorem gX5_build_X4_insert : GoodIn wsX5_build (wsV RX5 149 RX4 yX4_insert wsX4_insert) := goodIn_app (goodIn_sub (List.forall_mem_cons.mpr ⟨(k_wsX5_build_wsX5_build_r1 _ (List.mem_of_getElem? (i := 11) rfl)), List.forall_mem_cons.mpr ⟨(k_wsX5_build_wsX5_build_r1 _ (List.mem_of_getElem? (i := 12) rfl)), List.forall_mem_cons.mpr ⟨(k_wsX5_build_wsX5_build_r1 _ (List.mem_of_getElem? (i := 13) rfl)), List.forall_mem_cons.mpr ⟨(k_wsX5_build_wsX5_build_r1 _ (List.mem_of_getElem? (i := 14) rfl)), fun _ h => absurd h List.not_mem_nil⟩⟩⟩⟩) (by decide +kernel)) ggX5_build_X4_insert
theorem dX5_build_0 : decode cX5_build 0 = .ok (.aload_n 0, 1) := by decide +kernel
theorem dX5_build_1 : decode cX5_build 1 = .ok (.getfield 15, 3) := by decide +kernel
theorem dX5_build_4 : decode cX5_build 4 = .ok (.iconst 0, 1) := by decide +kernel
theorem dX5_build_5 : decode cX5_build 5 = .ok (.invokestatic 93, 3) := by decide +kernel
theorem dX5_build_8 : decode cX5_build 8 = .ok (.istore_n 2, 1) := by decide +kernel
theorem dX5_build_9 : decode cX5_build 9 = .ok (.aload_n 0, 1) := by decide +kernel
theorem dX5_build_10 : decode cX5_build 10 = .ok (.getfield 18, 3) := by decide +kernel
theorem dX5_build_13 : decode cX5_build 13 = .ok (.iload_n 1, 1) := by decide +kernel
theorem dX5_build_14 : decode cX5_build 14 = .ok (.iconst 1, 1) := by decide +kernel
theorem dX5_build_15 : decode cX5_build 15 = .ok (.invokestatic 32, 3) := by decide +kernel
theorem dX5_build_18 : decode cX5_build 18 = .ok (.iload_n 1, 1) := by decide +kernel
theorem dX5_build_19 : decode cX5_build 19 = .ok (.tableswitch 58 0 2 #[25, 36, 47], 25) := by decide +kernel
theorem dX5_build_44 : decode cX5_build 44 = .ok (.aload_n 0, 1) := by decide +kernel
theorem dX5_build_45 : decode cX5_build 45 = .ok (.getfield 24, 3) := by decide +kernel
theorem dX5_build_48 : decode cX5_build 48 = .ok (.iload_n 2, 1) := by decide +kernel
theorem dX5_build_49 : decode cX5_build 49 = .ok (.putfield 143, 3) := by decide +kernel
theorem dX5_build_52 : decode cX5_build 52 = .ok (.goto 64, 3) := by decide +kernel
theorem dX5_build_55 : decode cX5_build 55 = .ok (.aload_n 0, 1) := by decide +kernel
theorem dX5_build_56 : decode cX5_build 56 = .ok (.getfield 24, 3) := by decide +kernel
theorem dX5_build_59 : decode cX5_build 59 = .ok (.iload_n 2, 1) := by decide +kernel
theorem dX5_build_60 : decode cX5_build 60 = .ok (.putfield 145, 3) := by decide +kernel
theorem dX5_build_63 : decode cX5_build 63 = .ok (.goto 53, 3) := by decide +kernel
theorem dX5_build_66 : decode cX5_build 66 = .ok (.aload_n 0, 1) := by decide +kernel
theorem dX5_build_67 : decode cX5_build 67 = .ok (.getfield 24, 3) := by decide +kernel
theorem dX5_build_70 : decode cX5_build 70 = .ok (.iload_n 2, 1) := by decide +kernel
theorem dX5_build_71 : decode cX5_build 71 = .ok (.putfield 147, 3) := by decide +kernel
theorem dX5_build_74 : decode cX5_build 74 = .ok (.goto 42, 3) := by decide +kernel
theorem dX5_build_77 : decode cX5_build 77 = .ok (.iload_n 1, 1) := by decide +kernel
theorem dX5_build_78 : decode cX5_build 78 = .ok (.iconst 3, 1) := by decide +kernel
theorem dX5_build_79 : decode cX5_build 79 = .ok (.isub, 1) := by decide +kernel
theorem dX5_build_80 : decode cX5_build 80 = .ok (.istore_n 3, 1) := by decide +kernel
theorem dX5_build_81 : decode cX5_build 81 = .ok (.aload_n 0, 1) := by decide +kernel
theorem dX5_build_82 : decode cX5_build 82 = .ok (.getfield 24, 3) := by decide +kernel
theorem dX5_build_85 : decode cX5_build 85 = .ok (.iload_n 3, 1) := by decide +kernel
theorem dX5_build_86 : decode cX5_build 86 = .ok (.iload_n 2, 1) := by decide +kernel
theorem dX5_build_87 : decode cX5_build 87 = .ok (.aload_n 0, 1) := by decide +kernel
theorem dX5_build_88 : decode cX5_build 88 = .ok (.getfield 15, 3) := by decide +kernel
theorem dX5_build_91 : decode cX5_build 91 = .ok (.iconst 1, 1) := by decide +kernel
theorem dX5_build_92 : decode cX5_build 92 = .ok (.invokestatic 93, 3) := by decide +kernel
theorem dX5_build_95 : decode cX5_build 95 = .ok (.iload_n 3, 1) := by decide +kernel
theorem dX5_build_96 : decode cX5_build 96 = .ok (.iconst 1, 1) := by decide +kernel
theorem dX5_build_97 : decode cX5_build 97 = .ok (.if_icmp .ne 14, 3) := by decide +kernel
theorem dX5_build_100 : decode cX5_build 100 = .ok (.aload_n 0, 1) := by decide +kernel
theorem dX5_build_101 : decode cX5_build 101 = .ok (.getfield 15, 3) := by decide +kernel
theorem dX5_build_104 : decode cX5_build 104 = .ok (.iconst 2, 1) := by decide +kernel
theorem dX5_build_105 : decode cX5_build 105 = .ok (.invokestatic 93, 3) := by decide +kernel
theorem dX5_build_108 : decode cX5_build 108 = .ok (.goto 4, 3) := by decide +kernel
theorem dX5_build_111 : decode cX5_build 111 = .ok (.iconst 0, 1) := by decide +kernel
theorem dX5_build_112 : decode cX5_build 112 = .ok (.invokevirtual 149, 3) := by decide +kernel
theorem dX5_build_115 : decode cX5_build 115 = .ok (.pop, 1) := by decide +kernel
theorem dX5_build_116 : decode cX5_build 116 = .ok (.return_, 1) := by decide +kernel
theorem dX6_init_0 : decode cX6_init 0 = .ok (.aload_n 0, 1) := by decide +kernel
theorem dX6_init_1 : decode cX6_init 1 = .ok (.invokespecial 3, 3) := by decide +kernel
theorem dX6_init_4 : decode cX6_init 4 = .ok (.return_, 1) := by decide +kernel
theorem ggX6_begin_X10_at : GoodIn wsX6_begin wsX10_at := goodIn_sub (fun w h => (List.mem_cons.mp h).elim (fun e => ft_me e (List.mem_cons_of_mem _ (List.mem_append_left _ (List.mem_of_getElem? (i := 4) rfl)))) (fun h => absurd h List.not_mem_nil)) gw_wsX10_at
theorem gX6_begin_X10_at_n9 : GoodIn wsX6_begin (wsX10_at) := ggX6_begin_X10_at
theorem dX6_begin_0 : decode cX6_begin 0 = .ok (.aload_n 0, 1) := by decide +kernel
theorem dX6_begin_1 : decode cX6_begin 1 = .ok (.aload_n 1, 1) := by decide +kernel
theorem dX6_begin_2 : decode cX6_begin 2 = .ok (.iconst 5, 1) := by decide +kernel
theorem dX6_begin_3 : decode cX6_begin 3 = .ok (.invokestatic 9, 3) := by decide +kernel
theorem dX6_begin_6 : decode cX6_begin 6 = .ok (.putfield 13, 3) := by decide +kernel
theorem dX6_begin_9 : decode cX6_begin 9 = .ok (.aload_n 0, 1) := by decide +kernel
theorem dX6_begin_10 : decode cX6_begin 10 = .ok (.aload_n 1, 1) := by decide +kernel
theorem dX6_begin_11 : decode cX6_begin 11 = .ok (.iconst 3, 1) := by decide +kernel
theorem dX6_begin_12 : decode cX6_begin 12 = .ok (.invokestatic 9, 3) := by decide +kernel
theorem dX6_begin_15 : decode cX6_begin 15 = .ok (.putfield 19, 3) := by decide +kernel
theorem dX6_begin_18 : decode cX6_begin 18 = .ok (.return_, 1) := by decide +kernel
theorem ggX6_next_X10_quotient : GoodIn wsX6_next wsX10_quotient := goodIn_sub (fun w h => (List.mem_cons.mp h).elim (fun e => ft_me e (List.mem_cons_of_mem _ (List.mem_append_left _ (List.mem_of_getElem? (i := 5) rfl)))) (fun h => absurd h List.not_mem_nil)) gw_wsX10_quotient
theorem gX6_next_X10_quotient_n23 : GoodIn wsX6_next (wsX10_quotient) := ggX6_next_X10_quotient
theorem dX6_next_0 : decode cX6_next 0 = .ok (.aload_n 0, 1) := by decide +kernel
theorem dX6_next_1 : decode cX6_next 1 = .ok (.getfield 19, 3) := by decide +kernel
theorem dX6_next_4 : decode cX6_next 4 = .ok (.ifCond .ne 5, 3) := by decide +kernel
theorem dX6_next_7 : decode cX6_next 7 = .ok (.iconst 0, 1) := by decide +kernel
theorem dX6_next_8 : decode cX6_next 8 = .ok (.ireturn, 1) := by decide +kernel
theorem dX6_next_9 : decode cX6_next 9 = .ok (.iconst 2, 1) := by decide +kernel
theorem dX6_next_10 : decode cX6_next 10 = .ok (.aload_n 0, 1) := by decide +kernel
theorem dX6_next_11 : decode cX6_next 11 = .ok (.getfield 19, 3) := by decide +kernel
theorem dX6_next_14 : decode cX6_next 14 = .ok (.imul, 1) := by decide +kernel
theorem dX6_next_15 : decode cX6_next 15 = .ok (.iconst 1, 1) := by decide +kernel
theorem dX6_next_16 : decode cX6_next 16 = .ok (.iadd, 1) := by decide +kernel
theorem dX6_next_17 : decode cX6_next 17 = .ok (.istore_n 2, 1) := by decide +kernel
theorem dX6_next_18 : decode cX6_next 18 = .ok (.iconst 0, 1) := by decide +kernel
theorem dX6_next_19 : decode cX6_next 19 = .ok (.istore_n 3, 1) := by decide +kernel
theorem dX6_next_20 : decode cX6_next 20 = .ok (.iconst 0, 1) := by decide +kernel
theorem dX6_next_21 : decode cX6_next 21 = .ok (.istore 4, 2) := by decide +kernel
theorem dX6_next_23 : decode cX6_next 23 = .ok (.iload 4, 2) := by decide +kernel
theorem dX6_next_25 : decode cX6_next 25 = .ok (.iload_n 1, 1) := by decide +kernel
theorem dX6_next_26 : decode cX6_next 26 = .ok (.if_icmp .ge 48, 3) := by decide +kernel
theorem dX6_next_29 : decode cX6_next 29 = .ok (.aload_n 0, 1) := by decide +kernel
theorem dX6_next_30 : decode cX6_next 30 = .ok (.aload_n 0, 1) := by decide +kernel
theorem dX6_next_31 : decode cX6_next 31 = .ok (.getfield 13, 3) := by decide +kernel
theorem dX6_next_34 : decode cX6_next 34 = .ok (.bipush 75, 2) := by decide +kernel
theorem dX6_next_36 : decode cX6_next 36 = .ok (.imul, 1) := by decide +kernel
theorem dX6_next_37 : decode cX6_next 37 = .ok (.bipush 74, 2) := by decide +kernel
theorem dX6_next_39 : decode cX6_next 39 = .ok (.iadd, 1) := by decide +kernel
theorem dX6_next_40 : decode cX6_next 40 = .ok (.ldc 22, 2) := by decide +kernel
theorem dX6_next_42 : decode cX6_next 42 = .ok (.irem, 1) := by decide +kernel
theorem dX6_next_43 : decode cX6_next 43 = .ok (.putfield 13, 3) := by decide +kernel
theorem dX6_next_46 : decode cX6_next 46 = .ok (.iload_n 3, 1) := by decide +kernel
theorem dX6_next_47 : decode cX6_next 47 = .ok (.iload_n 2, 1) := by decide +kernel
theorem dX6_next_48 : decode cX6_next 48 = .ok (.ifCond .ne 7, 3) := by decide +kernel
theorem dX6_next_51 : decode cX6_next 51 = .ok (.iconst 0, 1) := by decide +kernel
theorem dX6_next_52 : decode cX6_next 52 = .ok (.goto 9, 3) := by decide +kernel
theorem dX6_next_55 : decode cX6_next 55 = .ok (.aload_n 0, 1) := by decide +kernel
theorem dX6_next_56 : decode cX6_next 56 = .ok (.getfield 13, 3) := by decide +kernel
theorem dX6_next_59 : decode cX6_next 59 = .ok (.iload_n 2, 1) := by decide +kernel
theorem dX6_next_60 : decode cX6_next 60 = .ok (.irem, 1) := by decide +kernel
theorem dX6_next_61 : decode cX6_next 61 = .ok (.aload_n 0, 1) := by decide +kernel
theorem dX6_next_62 : decode cX6_next 62 = .ok (.getfield 19, 3) := by decide +kernel
theorem dX6_next_65 : decode cX6_next 65 = .ok (.isub, 1) := by decide +kernel
theorem dX6_next_66 : decode cX6_next 66 = .ok (.iadd, 1) := by decide +kernel
theorem dX6_next_67 : decode cX6_next 67 = .ok (.istore_n 3, 1) := by decide +kernel
theorem dX6_next_68 : decode cX6_next 68 = .ok (.iinc 4 1, 3) := by decide +kernel
theorem dX6_next_71 : decode cX6_next 71 = .ok (.goto (-48), 3) := by decide +kernel
theorem dX6_next_74 : decode cX6_next 74 = .ok (.iload_n 3, 1) := by decide +kernel
theorem dX6_next_75 : decode cX6_next 75 = .ok (.iload_n 1, 1) := by decide +kernel
theorem dX6_next_76 : decode cX6_next 76 = .ok (.invokestatic 23, 3) := by decide +kernel
theorem dX6_next_79 : decode cX6_next 79 = .ok (.ireturn, 1) := by decide +kernel
theorem ggX8_init_X4_init : GoodIn wsX8_init wsX4_init := goodIn_sub (fun w h => (List.mem_cons.mp h).elim (fun e => ft_me e (k_wsX8_init_wsX8_init_r1 _ (List.mem_of_getElem? (i := 16) rfl))) (fun h => (List.mem_append.mp h).elim (fun h => (List.forall_mem_cons.mpr ⟨(k_wsX8_init_wsX8_init_r1 _ (List.mem_of_getElem? (i := 17) rfl)), List.forall_mem_cons.mpr ⟨(k_wsX8_init_wsX8_init_r1 _ (List.mem_of_getElem? (i := 1) rfl)), List.forall_mem_cons.mpr ⟨(k_wsX8_init_wsX8_init_r1 _ (List.mem_of_getElem? (i := 2) rfl)), List.forall_mem_cons.mpr ⟨(k_wsX8_init_wsX8_init_r1 _ (List.mem_of_getElem? (i := 7) rfl)), List.forall_mem_cons.mpr ⟨(k_wsX8_init_wsX8_init_r1 _ (List.mem_of_getElem? (i := 18) rfl)), List.forall_mem_cons.mpr ⟨(k_wsX8_init_wsX8_init_r1 _ (List.mem_of_getElem? (i := 19) rfl)), List.forall_mem_cons.mpr ⟨(k_wsX8_init_wsX8_init_r1 _ (List.mem_of_getElem? (i := 20) rfl)), List.forall_mem_cons.mpr ⟨(k_wsX8_init_wsX8_init_r1 _ (List.mem_of_getElem? (i := 21) rfl)), List.forall_mem_cons.mpr ⟨(k_wsX8_init_wsX8_init_r1 _ (List.mem_of_getElem? (i := 22) rfl)), List.forall_mem_cons.mpr ⟨(k_wsX8_init_wsX8_init_r1 _ (List.mem_of_getElem? (i := 23) rfl)), List.forall_mem_cons.mpr ⟨(k_wsX8_init_wsX8_init_r2 _ (List.mem_of_getElem? (i := 0) rfl)), List.forall_mem_cons.mpr ⟨(k_wsX8_init_wsX8_init_r1 _ (List.mem_of_getElem? (i := 5) rfl)), List.forall_mem_cons.mpr ⟨(k_wsX8_init_wsX8_init_r2 _ (List.mem_of_getElem? (i := 1) rfl)), List.forall_mem_cons.mpr ⟨(k_wsX8_init_wsX8_init_r2 _ (List.mem_of_getElem? (i := 2) rfl)), List.forall_mem_cons.mpr ⟨(k_wsX8_init_wsX8_init_r2 _ (List.mem_of_getElem? (i := 3) rfl)), List.forall_mem_cons.mpr ⟨(k_wsX8_init_wsX8_init_r2 _ (List.mem_of_getElem? (i := 4) rfl)), List.forall_mem_cons.mpr ⟨(k_wsX8_init_wsX8_init_r2 _ (List.mem_of_getElem? (i := 5) rfl)), fun _ h => absurd h List.not_mem_nil⟩⟩⟩⟩⟩⟩⟩⟩⟩⟩⟩⟩⟩⟩⟩⟩⟩) w h) (fun h => k_wsX8_init_wsX40 w h))) gw_wsX4_init
theorem gX8_init_X4_init : GoodIn wsX8_init (wsX4_init) := ggX8_init_X4_init
theorem dX8_init_0 : decode cX8_init 0 = .ok (.aload_n 0, 1) := by decide +kernel
theorem dX8_init_1 : decode cX8_init 1 = .ok (.invokespecial 3, 3) := by decide +kernel
theorem dX8_init_4 : decode cX8_init 4 = .ok (.aload_n 0, 1) := by decide +kernel
theorem dX8_init_5 : decode cX8_init 5 = .ok (.new 9, 3) := by decide +kernel
theorem dX8_init_8 : decode cX8_init 8 = .ok (.dup, 1) := by decide +kernel
theorem dX8_init_9 : decode cX8_init 9 = .ok (.invokespecial 11, 3) := by decide +kernel
theorem dX8_init_12 : decode cX8_init 12 = .ok (.putfield 12, 3) := by decide +kernel
theorem dX8_init_15 : decode cX8_init 15 = .ok (.aload_n 0, 1) := by decide +kernel
theorem dX8_init_16 : decode cX8_init 16 = .ok (.bipush 11, 2) := by decide +kernel
theorem dX8_init_18 : decode cX8_init 18 = .ok (.newarray .int, 2) := by decide +kernel
theorem dX8_init_20 : decode cX8_init 20 = .ok (.putfield 18, 3) := by decide +kernel
theorem dX8_init_23 : decode cX8_init 23 = .ok (.getstatic 22, 3) := by decide +kernel
theorem dX8_init_26 : decode cX8_init 26 = .ok (.iconst 0, 1) := by decide +kernel
theorem dX8_init_27 : decode cX8_init 27 = .ok (.aload_n 0, 1) := by decide +kernel
theorem dX8_init_28 : decode cX8_init 28 = .ok (.getfield 18, 3) := by decide +kernel
theorem dX8_init_31 : decode cX8_init 31 = .ok (.iconst 0, 1) := by decide +kernel
theorem dX8_init_32 : decode cX8_init 32 = .ok (.bipush 11, 2) := by decide +kernel
theorem dX8_init_34 : decode cX8_init 34 = .ok (.invokestatic 25, 3) := by decide +kernel
theorem dX8_init_37 : decode cX8_init 37 = .ok (.aload_n 0, 1) := by decide +kernel
theorem dX8_init_38 : decode cX8_init 38 = .ok (.iconst 0, 1) := by decide +kernel
theorem dX8_init_39 : decode cX8_init 39 = .ok (.putfield 31, 3) := by decide +kernel
theorem dX8_init_42 : decode cX8_init 42 = .ok (.return_, 1) := by decide +kernel
theorem ggX8_copyFrom_X4_copyFrom : GoodIn wsX8_copyFrom wsX4_copyFrom := goodIn_sub (fun w h => (List.mem_cons.mp h).elim (fun e => ft_me e (List.mem_cons_of_mem _ (List.mem_append_left _ (List.mem_append_left _ (List.mem_of_getElem? (i := 11) rfl))))) (fun h => (List.mem_append.mp h).elim (fun h => (List.forall_mem_cons.mpr ⟨(List.mem_cons_of_mem _ (List.mem_append_left _ (List.mem_append_left _ (List.mem_of_getElem? (i := 12) rfl)))), List.forall_mem_cons.mpr ⟨(List.mem_cons_of_mem _ (List.mem_append_left _ (List.mem_append_left _ (List.mem_of_getElem? (i := 13) rfl)))), List.forall_mem_cons.mpr ⟨(List.mem_cons_of_mem _ (List.mem_append_left _ (List.mem_append_left _ (List.mem_of_getElem? (i := 14) rfl)))), List.forall_mem_cons.mpr ⟨(List.mem_cons_of_mem _ (List.mem_append_left _ (List.mem_append_left _ (List.mem_of_getElem? (i := 15) rfl)))), List.forall_mem_cons.mpr ⟨(List.mem_cons_of_mem _ (List.mem_append_left _ (List.mem_append_left _ (List.mem_of_getElem? (i := 16) rfl)))), List.forall_mem_cons.mpr ⟨(List.mem_cons_of_mem _ (List.mem_append_left _ (List.mem_append_left _ (List.mem_of_getElem? (i := 17) rfl)))), List.forall_mem_cons.mpr ⟨(List.mem_cons_of_mem _ (List.mem_append_left _ (List.mem_append_left _ (List.mem_of_getElem? (i := 3) rfl)))), List.forall_mem_cons.mpr ⟨(List.mem_cons_of_mem _ (List.mem_append_left _ (List.mem_append_left _ (List.mem_of_getElem? (i := 4) rfl)))), List.forall_mem_cons.mpr ⟨(List.mem_cons_of_mem _ (List.mem_append_left _ (List.mem_append_left _ (List.mem_of_getElem? (i := 5) rfl)))), List.forall_mem_cons.mpr ⟨(List.mem_cons_of_mem _ (List.mem_append_left _ (List.mem_append_left _ (List.mem_of_getElem? (i := 18) rfl)))), List.forall_mem_cons.mpr ⟨(List.mem_cons_of_mem _ (List.mem_append_left _ (List.mem_append_left _ (List.mem_of_getElem? (i := 19) rfl)))), List.forall_mem_cons.mpr ⟨(List.mem_cons_of_mem _ (List.mem_append_left _ (List.mem_append_left _ (List.mem_of_getElem? (i := 20) rfl)))), fun _ h => absurd h List.not_mem_nil⟩⟩⟩⟩⟩⟩⟩⟩⟩⟩⟩⟩) w h) (fun h => k_wsX8_copyFrom_wsX40 w h))) gw_wsX4_copyFrom
theorem gX8_copyFrom_X4_copyFrom : GoodIn wsX8_copyFrom (wsV RX8 35 RX4 yX4_copyFrom wsX4_copyFrom) := goodIn_app (goodIn_sub (List.forall_mem_cons.mpr ⟨(List.mem_cons_of_mem _ (List.mem_append_left _ (List.mem_append_left _ (List.mem_of_getElem? (i := 7) rfl)))), List.forall_mem_cons.mpr ⟨(List.mem_cons_of_mem _ (List.mem_append_left _ (List.mem_append_left _ (List.mem_of_getElem? (i := 8) rfl)))), List.forall_mem_cons.mpr ⟨(List.mem_cons_of_mem _ (List.mem_append_left _ (List.mem_append_left _ (List.mem_of_getElem? (i := 9) rfl)))), List.forall_mem_cons.mpr ⟨(List.mem_cons_of_mem _ (List.mem_append_left _ (List.mem_append_left _ (List.mem_of_getElem? (i := 10) rfl)))), fun _ h => absurd h List.not_mem_nil⟩⟩⟩⟩) (by decide +kernel)) ggX8_copyFrom_X4_copyFrom
theorem dX8_copyFrom_0 : decode cX8_copyFrom 0 = .ok (.aload_n 0, 1) := by decide +kernel
theorem dX8_copyFrom_1 : decode cX8_copyFrom 1 = .ok (.getfield 12, 3) := by decide +kernel
theorem dX8_copyFrom_4 : decode cX8_copyFrom 4 = .ok (.aload_n 1, 1) := by decide +kernel
theorem dX8_copyFrom_5 : decode cX8_copyFrom 5 = .ok (.getfield 12, 3) := by decide +kernel
theorem dX8_copyFrom_8 : decode cX8_copyFrom 8 = .ok (.invokevirtual 35, 3) := by decide +kernel
theorem dX8_copyFrom_11 : decode cX8_copyFrom 11 = .ok (.aload_n 1, 1) := by decide +kernel
theorem dX8_copyFrom_12 : decode cX8_copyFrom 12 = .ok (.getfield 18, 3) := by decide +kernel
theorem dX8_copyFrom_15 : decode cX8_copyFrom 15 = .ok (.iconst 0, 1) := by decide +kernel
theorem dX8_copyFrom_16 : decode cX8_copyFrom 16 = .ok (.aload_n 0, 1) := by decide +kernel
theorem dX8_copyFrom_17 : decode cX8_copyFrom 17 = .ok (.getfield 18, 3) := by decide +kernel
theorem dX8_copyFrom_20 : decode cX8_copyFrom 20 = .ok (.iconst 0, 1) := by decide +kernel
theorem dX8_copyFrom_21 : decode cX8_copyFrom 21 = .ok (.bipush 11, 2) := by decide +kernel
theorem dX8_copyFrom_23 : decode cX8_copyFrom 23 = .ok (.invokestatic 25, 3) := by decide +kernel
theorem dX8_copyFrom_26 : decode cX8_copyFrom 26 = .ok (.aload_n 0, 1) := by decide +kernel
theorem dX8_copyFrom_27 : decode cX8_copyFrom 27 = .ok (.aload_n 1, 1) := by decide +kernel
theorem dX8_copyFrom_28 : decode cX8_copyFrom 28 = .ok (.getfield 31, 3) := by decide +kernel
theorem dX8_copyFrom_31 : decode cX8_copyFrom 31 = .ok (.putfield 31, 3) := by decide +kernel
theorem dX8_copyFrom_34 : decode cX8_copyFrom 34 = .ok (.return_, 1) := by decide +kernel
theorem dX8_keptCount_0 : decode cX8_keptCount 0 = .ok (.aload_n 0, 1) := by decide +kernel
theorem dX8_keptCount_1 : decode cX8_keptCount 1 = .ok (.getfield 31, 3) := by decide +kernel
theorem dX8_keptCount_4 : decode cX8_keptCount 4 = .ok (.iconst 3, 1) := by decide +kernel
theorem dX8_keptCount_5 : decode cX8_keptCount 5 = .ok (.invokestatic 39, 3) := by decide +kernel
theorem dX8_keptCount_8 : decode cX8_keptCount 8 = .ok (.ireturn, 1) := by decide +kernel
theorem dX9_init_0 : decode cX9_init 0 = .ok (.aload_n 0, 1) := by decide +kernel
theorem dX9_init_1 : decode cX9_init 1 = .ok (.invokespecial 3, 3) := by decide +kernel
theorem dX9_init_4 : decode cX9_init 4 = .ok (.aload_n 0, 1) := by decide +kernel
theorem dX9_init_5 : decode cX9_init 5 = .ok (.sipush 460, 3) := by decide +kernel
theorem dX9_init_8 : decode cX9_init 8 = .ok (.newarray .int, 2) := by decide +kernel
theorem dX9_init_10 : decode cX9_init 10 = .ok (.putfield 9, 3) := by decide +kernel
theorem dX9_init_13 : decode cX9_init 13 = .ok (.aload_n 0, 1) := by decide +kernel
theorem dX9_init_14 : decode cX9_init 14 = .ok (.sipush 460, 3) := by decide +kernel
theorem dX9_init_17 : decode cX9_init 17 = .ok (.newarray .int, 2) := by decide +kernel
theorem dX9_init_19 : decode cX9_init 19 = .ok (.putfield 15, 3) := by decide +kernel
theorem dX9_init_22 : decode cX9_init 22 = .ok (.aload_n 0, 1) := by decide +kernel
theorem dX9_init_23 : decode cX9_init 23 = .ok (.sipush 460, 3) := by decide +kernel
theorem dX9_init_26 : decode cX9_init 26 = .ok (.newarray .int, 2) := by decide +kernel
theorem dX9_init_28 : decode cX9_init 28 = .ok (.putfield 18, 3) := by decide +kernel
theorem dX9_init_31 : decode cX9_init 31 = .ok (.aload_n 0, 1) := by decide +kernel
theorem dX9_init_32 : decode cX9_init 32 = .ok (.sipush 460, 3) := by decide +kernel
theorem dX9_init_35 : decode cX9_init 35 = .ok (.newarray .int, 2) := by decide +kernel
theorem dX9_init_37 : decode cX9_init 37 = .ok (.putfield 21, 3) := by decide +kernel
theorem dX9_init_40 : decode cX9_init 40 = .ok (.return_, 1) := by decide +kernel
theorem ggX9_make_X10_at : GoodIn wsX9_make wsX10_at := goodIn_sub (fun w h => (List.mem_cons.mp h).elim (fun e => ft_me e (k_wsX9_make_wsX9_make_r1 _ (List.mem_of_getElem? (i := 8) rfl))) (fun h => absurd h List.not_mem_nil)) gw_wsX10_at
theorem gX9_make_X10_at_n33 : GoodIn wsX9_make (wsX10_at) := ggX9_make_X10_at
set_option maxRecDepth 20000 in
theorem s_X9_make_X9_makeBase_wsX9_makeBase_r1 : ∀ w ∈ wsX9_makeBase_r1, w ∈ wsX9_make := List.forall_mem_cons.mpr ⟨(k_wsX9_make_wsX9_make_r1 _ (List.mem_of_getElem? (i := 1) rfl)), List.forall_mem_cons.mpr ⟨(k_wsX9_make_wsX9_make_r1 _ (List.mem_of_getElem? (i := 14) rfl)), List.forall_mem_cons.mpr ⟨(k_wsX9_make_wsX9_make_r1 _ (List.mem_of_getElem? (i := 3) rfl)), List.forall_mem_cons.mpr ⟨(k_wsX9_make_wsX9_make_r1 _ (List.mem_of_getElem? (i := 0) rfl)), List.forall_mem_cons.mpr ⟨(k_wsX9_make_wsX9_make_r1 _ (List.mem_of_getElem? (i := 15) rfl)), List.forall_mem_cons.mpr ⟨(k_wsX9_make_wsX9_make_r1 _ (List.mem_of_getElem? (i := 16) rfl)), List.forall_mem_cons.mpr ⟨(k_wsX9_make_wsX9_make_r1 _ (List.mem_of_getElem? (i := 17) rfl)), List.forall_mem_cons.mpr ⟨(k_wsX9_make_wsX9_make_r1 _ (List.mem_of_getElem? (i := 18) rfl)), List.forall_mem_cons.mpr ⟨(k_wsX9_make_wsX9_make_r1 _ (List.mem_of_getElem? (i := 19) rfl)), List.forall_mem_cons.mpr ⟨(k_wsX9_make_wsX9_make_r1 _ (List.mem_of_getElem? (i := 20) rfl)), List.forall_mem_cons.mpr ⟨(k_wsX9_make_wsX9_make_r1 _ (List.mem_of_getElem? (i := 21) rfl)), List.forall_mem_cons.mpr ⟨(k_wsX9_make_wsX9_make_r1 _ (List.mem_of_getElem? (i := 22) rfl)), List.forall_mem_cons.mpr ⟨(k_wsX9_make_wsX9_make_r1 _ (List.mem_of_getElem? (i := 23) rfl)), List.forall_mem_cons.mpr ⟨(k_wsX9_make_wsX9_make_r2 _ (List.mem_of_getElem? (i := 0) rfl)), List.forall_mem_cons.mpr ⟨(k_wsX9_make_wsX9_make_r1 _ (List.mem_of_getElem? (i := 6) rfl)), List.forall_mem_cons.mpr ⟨(k_wsX9_make_wsX9_make_r1 _ (List.mem_of_getElem? (i := 7) rfl)), List.forall_mem_cons.mpr ⟨(k_wsX9_make_wsX9_make_r1 _ (List.mem_of_getElem? (i := 8) rfl)), List.forall_mem_cons.mpr ⟨(k_wsX9_make_wsX9_make_r2 _ (List.mem_of_getElem? (i := 1) rfl)), List.forall_mem_cons.mpr ⟨(k_wsX9_make_wsX9_make_r2 _ (List.mem_of_getElem? (i := 2) rfl)), List.forall_mem_cons.mpr ⟨(k_wsX9_make_wsX9_make_r2 _ (List.mem_of_getElem? (i := 3) rfl)), List.forall_mem_cons.mpr ⟨(k_wsX9_make_wsX9_make_r2 _ (List.mem_of_getElem? (i := 4) rfl)), List.forall_mem_cons.mpr ⟨(k_wsX9_make_wsX9_make_r2 _ (List.mem_of_getElem? (i := 5) rfl)), List.forall_mem_cons.mpr ⟨(k_wsX9_make_wsX9_make_r2 _ (List.mem_of_getElem? (i := 6) rfl)), List.forall_mem_cons.mpr ⟨(k_wsX9_make_wsX9_make_r2 _ (List.mem_of_getElem? (i := 7) rfl)), fun _ h => absurd h List.not_mem_nil⟩⟩⟩⟩⟩⟩⟩⟩⟩⟩⟩⟩⟩⟩⟩⟩⟩⟩⟩⟩⟩⟩⟩⟩
set_option maxRecDepth 20000 in
theorem s_X9_make_X9_makeBase_wsX9_makeBase_r2 : ∀ w ∈ wsX9_makeBase_r2, w ∈ wsX9_make := List.forall_mem_cons.mpr ⟨(k_wsX9_make_wsX9_make_r2 _ (List.mem_of_getElem? (i := 8) rfl)), fun _ h => absurd h List.not_mem_nil⟩
theorem ggX9_make_X9_makeBase : GoodIn wsX9_make wsX9_makeBase := goodIn_sub (fun w h => (List.mem_cons.mp h).elim (fun e => ft_me e (k_wsX9_make_wsX9_make_r1 _ (List.mem_of_getElem? (i := 13) rfl))) (fun h => (List.mem_append.mp h).elim (fun h => (List.mem_append.mp h).elim (fun h => (List.mem_append.mp h).elim (fun h => s_X9_make_X9_makeBase_wsX9_makeBase_r1 w h) (fun h => s_X9_make_X9_makeBase_wsX9_makeBase_r2 w h)) (fun h => k_wsX9_make_wsX90 w h)) (fun h => k_wsX9_make_wsX40 w h))) gw_wsX9_makeBase
theorem gX9_make_X9_makeBase : GoodIn wsX9_make (wsV RX9 37 RX9 yX9_makeBase wsX9_makeBase) := goodIn_app (goodIn_sub (List.forall_mem_cons.mpr ⟨(k_wsX9_make_wsX9_make_r1 _ (List.mem_of_getElem? (i := 9) rfl)), List.forall_mem_cons.mpr ⟨(k_wsX9_make_wsX9_make_r1 _ (List.mem_of_getElem? (i := 10) rfl)), List.forall_mem_cons.mpr ⟨(k_wsX9_make_wsX9_make_r1 _ (List.mem_of_getElem? (i := 11) rfl)), List.forall_mem_cons.mpr ⟨(k_wsX9_make_wsX9_make_r1 _ (List.mem_of_getElem? (i := 12) rfl)), fun _ h => absurd h List.not_mem_nil⟩⟩⟩⟩) (by decide +kernel)) ggX9_make_X9_makeBase
set_option maxRecDepth 20000 in
theorem s_X9_make_X9_makePeaks_wsX9_makePeaks_r1 : ∀ w ∈ wsX9_makePeaks_r1, w ∈ wsX9_make := List.forall_mem_cons.mpr ⟨(k_wsX9_make_wsX9_make_r1 _ (List.mem_of_getElem? (i := 1) rfl)), List.forall_mem_cons.mpr ⟨(k_wsX9_make_wsX9_make_r1 _ (List.mem_of_getElem? (i := 4) rfl)), List.forall_mem_cons.mpr ⟨(k_wsX9_make_wsX9_make_r2 _ (List.mem_of_getElem? (i := 13) rfl)), List.forall_mem_cons.mpr ⟨(k_wsX9_make_wsX9_make_r2 _ (List.mem_of_getElem? (i := 14) rfl)), List.forall_mem_cons.mpr ⟨(k_wsX9_make_wsX9_make_r2 _ (List.mem_of_getElem? (i := 15) rfl)), List.forall_mem_cons.mpr ⟨(k_wsX9_make_wsX9_make_r2 _ (List.mem_of_getElem? (i := 16) rfl)), List.forall_mem_cons.mpr ⟨(k_wsX9_make_wsX9_make_r2 _ (List.mem_of_getElem? (i := 17) rfl)), List.forall_mem_cons.mpr ⟨(k_wsX9_make_wsX9_make_r2 _ (List.mem_of_getElem? (i := 7) rfl)), List.forall_mem_cons.mpr ⟨(k_wsX9_make_wsX9_make_r1 _ (List.mem_of_getElem? (i := 7) rfl)), List.forall_mem_cons.mpr ⟨(k_wsX9_make_wsX9_make_r2 _ (List.mem_of_getElem? (i := 8) rfl)), List.forall_mem_cons.mpr ⟨(k_wsX9_make_wsX9_make_r1 _ (List.mem_of_getElem? (i := 6) rfl)), List.forall_mem_cons.mpr ⟨(k_wsX9_make_wsX9_make_r1 _ (List.mem_of_getElem? (i := 8) rfl)), List.forall_mem_cons.mpr ⟨(k_wsX9_make_wsX9_make_r2 _ (List.mem_of_getElem? (i := 18) rfl)), List.forall_mem_cons.mpr ⟨(k_wsX9_make_wsX9_make_r2 _ (List.mem_of_getElem? (i := 19) rfl)), List.forall_mem_cons.mpr ⟨(k_wsX9_make_wsX9_make_r2 _ (List.mem_of_getElem? (i := 20) rfl)), List.forall_mem_cons.mpr ⟨(k_wsX9_make_wsX9_make_r1 _ (List.mem_of_getElem? (i := 12) rfl)), List.forall_mem_cons.mpr ⟨(k_wsX9_make_wsX9_make_r2 _ (List.mem_of_getElem? (i := 21) rfl)), List.forall_mem_cons.mpr ⟨(k_wsX9_make_wsX9_make_r2 _ (List.mem_of_getElem? (i := 22) rfl)), List.forall_mem_cons.mpr ⟨(k_wsX9_make_wsX9_make_r2 _ (List.mem_of_getElem? (i := 23) rfl)), List.forall_mem_cons.mpr ⟨(k_wsX9_make_wsX9_make_r3 _ (List.mem_of_getElem? (i := 0) rfl)), List.forall_mem_cons.mpr ⟨(k_wsX9_make_wsX9_make_r3 _ (List.mem_of_getElem? (i := 1) rfl)), List.forall_mem_cons.mpr ⟨(k_wsX9_make_wsX9_make_r3 _ (List.mem_of_getElem? (i := 2) rfl)), List.forall_mem_cons.mpr ⟨(k_wsX9_make_wsX9_make_r3 _ (List.mem_of_getElem? (i := 3) rfl)), List.forall_mem_cons.mpr ⟨(k_wsX9_make_wsX9_make_r3 _ (List.mem_of_getElem? (i := 4) rfl)), fun _ h => absurd h List.not_mem_nil⟩⟩⟩⟩⟩⟩⟩⟩⟩⟩⟩⟩⟩⟩⟩⟩⟩⟩⟩⟩⟩⟩⟩⟩
set_option maxRecDepth 20000 in
theorem s_X9_make_X9_makePeaks_wsX9_makePeaks_r2 : ∀ w ∈ wsX9_makePeaks_r2, w ∈ wsX9_make := List.forall_mem_cons.mpr ⟨(k_wsX9_make_wsX9_make_r3 _ (List.mem_of_getElem? (i := 5) rfl)), List.forall_mem_cons.mpr ⟨(k_wsX9_make_wsX9_make_r3 _ (List.mem_of_getElem? (i := 6) rfl)), List.forall_mem_cons.mpr ⟨(k_wsX9_make_wsX9_make_r3 _ (List.mem_of_getElem? (i := 7) rfl)), List.forall_mem_cons.mpr ⟨(k_wsX9_make_wsX9_make_r3 _ (List.mem_of_getElem? (i := 8) rfl)), fun _ h => absurd h List.not_mem_nil⟩⟩⟩⟩
theorem ggX9_make_X9_makePeaks : GoodIn wsX9_make wsX9_makePeaks := goodIn_sub (fun w h => (List.mem_cons.mp h).elim (fun e => ft_me e (k_wsX9_make_wsX9_make_r2 _ (List.mem_of_getElem? (i := 12) rfl))) (fun h => (List.mem_append.mp h).elim (fun h => (List.mem_append.mp h).elim (fun h => (List.mem_append.mp h).elim (fun h => s_X9_make_X9_makePeaks_wsX9_makePeaks_r1 w h) (fun h => s_X9_make_X9_makePeaks_wsX9_makePeaks_r2 w h)) (fun h => k_wsX9_make_wsX90 w h)) (fun h => k_wsX9_make_wsX10 w h))) gw_wsX9_makePeaks
theorem gX9_make_X9_makePeaks : GoodIn wsX9_make (wsV RX9 41 RX9 yX9_makePeaks wsX9_makePeaks) := goodIn_app (goodIn_sub (List.forall_mem_cons.mpr ⟨(k_wsX9_make_wsX9_make_r2 _ (List.mem_of_getElem? (i := 9) rfl)), List.forall_mem_cons.mpr ⟨(k_wsX9_make_wsX9_make_r2 _ (List.mem_of_getElem? (i := 10) rfl)), List.forall_mem_cons.mpr ⟨(k_wsX9_make_wsX9_make_r2 _ (List.mem_of_getElem? (i := 11) rfl)), List.forall_mem_cons.mpr ⟨(k_wsX9_make_wsX9_make_r1 _ (List.mem_of_getElem? (i := 12) rfl)), fun _ h => absurd h List.not_mem_nil⟩⟩⟩⟩) (by decide +kernel)) ggX9_make_X9_makePeaks
theorem ggX9_make_X9_isDrawnFor : GoodIn wsX9_make wsX9_isDrawnFor := goodIn_sub (fun w h => (List.mem_cons.mp h).elim (fun e => ft_me e (k_wsX9_make_wsX9_make_r3 _ (List.mem_of_getElem? (i := 12) rfl))) (fun h => (List.mem_append.mp h).elim (fun h => (List.forall_mem_cons.mpr ⟨(k_wsX9_make_wsX9_make_r3 _ (List.mem_of_getElem? (i := 13) rfl)), List.forall_mem_cons.mpr ⟨(k_wsX9_make_wsX9_make_r1 _ (List.mem_of_getElem? (i := 1) rfl)), List.forall_mem_cons.mpr ⟨(k_wsX9_make_wsX9_make_r3 _ (List.mem_of_getElem? (i := 14) rfl)), List.forall_mem_cons.mpr ⟨(k_wsX9_make_wsX9_make_r3 _ (List.mem_of_getElem? (i := 15) rfl)), List.forall_mem_cons.mpr ⟨(k_wsX9_make_wsX9_make_r3 _ (List.mem_of_getElem? (i := 16) rfl)), List.forall_mem_cons.mpr ⟨(k_wsX9_make_wsX9_make_r1 _ (List.mem_of_getElem? (i := 6) rfl)), List.forall_mem_cons.mpr ⟨(k_wsX9_make_wsX9_make_r1 _ (List.mem_of_getElem? (i := 7) rfl)), List.forall_mem_cons.mpr ⟨(k_wsX9_make_wsX9_make_r1 _ (List.mem_of_getElem? (i := 8) rfl)), fun _ h => absurd h List.not_mem_nil⟩⟩⟩⟩⟩⟩⟩⟩) w h) (fun h => k_wsX9_make_wsX90 w h))) gw_wsX9_isDrawnFor
theorem gX9_make_X9_isDrawnFor : GoodIn wsX9_make (wsV RX9 45 RX9 yX9_isDrawnFor wsX9_isDrawnFor) := goodIn_app (goodIn_sub (List.forall_mem_cons.mpr ⟨(k_wsX9_make_wsX9_make_r3 _ (List.mem_of_getElem? (i := 9) rfl)), List.forall_mem_cons.mpr ⟨(k_wsX9_make_wsX9_make_r3 _ (List.mem_of_getElem? (i := 10) rfl)), List.forall_mem_cons.mpr ⟨(k_wsX9_make_wsX9_make_r3 _ (List.mem_of_getElem? (i := 11) rfl)), List.forall_mem_cons.mpr ⟨(k_wsX9_make_wsX9_make_r1 _ (List.mem_of_getElem? (i := 12) rfl)), fun _ h => absurd h List.not_mem_nil⟩⟩⟩⟩) (by decide +kernel)) ggX9_make_X9_isDrawnFor
set_option maxRecDepth 20000 in
theorem s_X9_make_X9_draw_wsX9_draw_r1 : ∀ w ∈ wsX9_draw_r1, w ∈ wsX9_make := List.forall_mem_cons.mpr ⟨(k_wsX9_make_wsX9_make_r1 _ (List.mem_of_getElem? (i := 1) rfl)), List.forall_mem_cons.mpr ⟨(k_wsX9_make_wsX9_make_r3 _ (List.mem_of_getElem? (i := 13) rfl)), List.forall_mem_cons.mpr ⟨(k_wsX9_make_wsX9_make_r3 _ (List.mem_of_getElem? (i := 14) rfl)), List.forall_mem_cons.mpr ⟨(k_wsX9_make_wsX9_make_r3 _ (List.mem_of_getElem? (i := 15) rfl)), List.forall_mem_cons.mpr ⟨(k_wsX9_make_wsX9_make_r3 _ (List.mem_of_getElem? (i := 16) rfl)), List.forall_mem_cons.mpr ⟨(k_wsX9_make_wsX9_make_r1 _ (List.mem_of_getElem? (i := 5) rfl)), List.forall_mem_cons.mpr ⟨(k_wsX9_make_wsX9_make_r1 _ (List.mem_of_getElem? (i := 6) rfl)), List.forall_mem_cons.mpr ⟨(k_wsX9_make_wsX9_make_r1 _ (List.mem_of_getElem? (i := 7) rfl)), List.forall_mem_cons.mpr ⟨(k_wsX9_make_wsX9_make_r1 _ (List.mem_of_getElem? (i := 8) rfl)), List.forall_mem_cons.mpr ⟨(k_wsX9_make_wsX9_make_r3 _ (List.mem_of_getElem? (i := 21) rfl)), List.forall_mem_cons.mpr ⟨(k_wsX9_make_wsX9_make_r3 _ (List.mem_of_getElem? (i := 22) rfl)), List.forall_mem_cons.mpr ⟨(k_wsX9_make_wsX9_make_r3 _ (List.mem_of_getElem? (i := 23) rfl)), List.forall_mem_cons.mpr ⟨(k_wsX9_make_wsX9_make_r4 _ (List.mem_of_getElem? (i := 0) rfl)), List.forall_mem_cons.mpr ⟨(k_wsX9_make_wsX9_make_r4 _ (List.mem_of_getElem? (i := 1) rfl)), List.forall_mem_cons.mpr ⟨(k_wsX9_make_wsX9_make_r4 _ (List.mem_of_getElem? (i := 2) rfl)), List.forall_mem_cons.mpr ⟨(k_wsX9_make_wsX9_make_r4 _ (List.mem_of_getElem? (i := 3) rfl)), List.forall_mem_cons.mpr ⟨(k_wsX9_make_wsX9_make_r4 _ (List.mem_of_getElem? (i := 4) rfl)), List.forall_mem_cons.mpr ⟨(k_wsX9_make_wsX9_make_r4 _ (List.mem_of_getElem? (i := 5) rfl)), List.forall_mem_cons.mpr ⟨(k_wsX9_make_wsX9_make_r4 _ (List.mem_of_getElem? (i := 6) rfl)), List.forall_mem_cons.mpr ⟨(k_wsX9_make_wsX9_make_r4 _ (List.mem_of_getElem? (i := 7) rfl)), List.forall_mem_cons.mpr ⟨(k_wsX9_make_wsX9_make_r4 _ (List.mem_of_getElem? (i := 8) rfl)), List.forall_mem_cons.mpr ⟨(k_wsX9_make_wsX9_make_r2 _ (List.mem_of_getElem? (i := 5) rfl)), List.forall_mem_cons.mpr ⟨(k_wsX9_make_wsX9_make_r2 _ (List.mem_of_getElem? (i := 6) rfl)), List.forall_mem_cons.mpr ⟨(k_wsX9_make_wsX9_make_r2 _ (List.mem_of_getElem? (i := 7) rfl)), fun _ h => absurd h List.not_mem_nil⟩⟩⟩⟩⟩⟩⟩⟩⟩⟩⟩⟩⟩⟩⟩⟩⟩⟩⟩⟩⟩⟩⟩⟩
set_option maxRecDepth 20000 in
theorem s_X9_make_X9_draw_wsX9_draw_r2 : ∀ w ∈ wsX9_draw_r2, w ∈ wsX9_make := List.forall_mem_cons.mpr ⟨(k_wsX9_make_wsX9_make_r2 _ (List.mem_of_getElem? (i := 8) rfl)), fun _ h => absurd h List.not_mem_nil⟩
theorem ggX9_make_X9_draw : GoodIn wsX9_make wsX9_draw := goodIn_sub (fun w h => (List.mem_cons.mp h).elim (fun e => ft_me e (k_wsX9_make_wsX9_make_r3 _ (List.mem_of_getElem? (i := 20) rfl))) (fun h => (List.mem_append.mp h).elim (fun h => (List.mem_append.mp h).elim (fun h => (List.mem_append.mp h).elim (fun h => s_X9_make_X9_draw_wsX9_draw_r1 w h) (fun h => s_X9_make_X9_draw_wsX9_draw_r2 w h)) (fun h => k_wsX9_make_wsX90 w h)) (fun h => k_wsX9_make_wsX60 w h))) gw_wsX9_draw
theorem gX9_make_X9_draw : GoodIn wsX9_make (wsV RX9 49 RX9 yX9_draw wsX9_draw) := goodIn_app (goodIn_sub (List.forall_mem_cons.mpr ⟨(k_wsX9_make_wsX9_make_r3 _ (List.mem_of_getElem? (i := 17) rfl)), List.forall_mem_cons.mpr ⟨(k_wsX9_make_wsX9_make_r3 _ (List.mem_of_getElem? (i := 18) rfl)), List.forall_mem_cons.mpr ⟨(k_wsX9_make_wsX9_make_r3 _ (List.mem_of_getElem? (i := 19) rfl)), List.forall_mem_cons.mpr ⟨(k_wsX9_make_wsX9_make_r1 _ (List.mem_of_getElem? (i := 12) rfl)), fun _ h => absurd h List.not_mem_nil⟩⟩⟩⟩) (by decide +kernel)) ggX9_make_X9_draw
theorem ggX9_make_X10_put : GoodIn wsX9_make wsX10_put := goodIn_sub (fun w h => (List.mem_cons.mp h).elim (fun e => ft_me e (k_wsX9_make_wsX9_make_r2 _ (List.mem_of_getElem? (i := 8) rfl))) (fun h => absurd h List.not_mem_nil)) gw_wsX10_put
theorem gX9_make_X10_put_n53 : GoodIn wsX9_make (wsX10_put) := ggX9_make_X10_put
theorem dX9_make_0 : decode cX9_make 0 = .ok (.aload_n 0, 1) := by decide +kernel
theorem dX9_make_1 : decode cX9_make 1 = .ok (.aload_n 1, 1) := by decide +kernel
theorem dX9_make_2 : decode cX9_make 2 = .ok (.getfield 24, 3) := by decide +kernel
theorem dX9_make_5 : decode cX9_make 5 = .ok (.bipush 60, 2) := by decide +kernel
theorem dX9_make_7 : decode cX9_make 7 = .ok (.iadd, 1) := by decide +kernel
theorem dX9_make_8 : decode cX9_make 8 = .ok (.putfield 30, 3) := by decide +kernel
theorem dX9_make_11 : decode cX9_make 11 = .ok (.aload_n 0, 1) := by decide +kernel
theorem dX9_make_12 : decode cX9_make 12 = .ok (.aload_n 1, 1) := by decide +kernel
theorem dX9_make_13 : decode cX9_make 13 = .ok (.aload_n 2, 1) := by decide +kernel
theorem dX9_make_14 : decode cX9_make 14 = .ok (.iconst 0, 1) := by decide +kernel
theorem dX9_make_15 : decode cX9_make 15 = .ok (.invokestatic 33, 3) := by decide +kernel
theorem dX9_make_18 : decode cX9_make 18 = .ok (.invokevirtual 37, 3) := by decide +kernel
theorem dX9_make_21 : decode cX9_make 21 = .ok (.aload_n 0, 1) := by decide +kernel
theorem dX9_make_22 : decode cX9_make 22 = .ok (.aload_n 3, 1) := by decide +kernel
theorem dX9_make_23 : decode cX9_make 23 = .ok (.aload_n 2, 1) := by decide +kernel
theorem dX9_make_24 : decode cX9_make 24 = .ok (.iconst 0, 1) := by decide +kernel
theorem dX9_make_25 : decode cX9_make 25 = .ok (.invokestatic 33, 3) := by decide +kernel
theorem dX9_make_28 : decode cX9_make 28 = .ok (.aload_n 2, 1) := by decide +kernel
theorem dX9_make_29 : decode cX9_make 29 = .ok (.iconst 1, 1) := by decide +kernel
theorem dX9_make_30 : decode cX9_make 30 = .ok (.invokestatic 33, 3) := by decide +kernel
theorem dX9_make_33 : decode cX9_make 33 = .ok (.invokevirtual 41, 3) := by decide +kernel
theorem dX9_make_36 : decode cX9_make 36 = .ok (.aload_n 0, 1) := by decide +kernel
theorem dX9_make_37 : decode cX9_make 37 = .ok (.aload_n 2, 1) := by decide +kernel
theorem dX9_make_38 : decode cX9_make 38 = .ok (.invokevirtual 45, 3) := by decide +kernel
theorem dX9_make_41 : decode cX9_make 41 = .ok (.ifCond .ne 10, 3) := by decide +kernel
theorem dX9_make_44 : decode cX9_make 44 = .ok (.aload_n 0, 1) := by decide +kernel
theorem dX9_make_45 : decode cX9_make 45 = .ok (.aload_n 2, 1) := by decide +kernel
theorem dX9_make_46 : decode cX9_make 46 = .ok (.aload 4, 2) := by decide +kernel
theorem dX9_make_48 : decode cX9_make 48 = .ok (.invokevirtual 49, 3) := by decide +kernel
theorem dX9_make_51 : decode cX9_make 51 = .ok (.iconst 0, 1) := by decide +kernel
theorem dX9_make_52 : decode cX9_make 52 = .ok (.istore 5, 2) := by decide +kernel
theorem dX9_make_54 : decode cX9_make 54 = .ok (.iload 5, 2) := by decide +kernel
theorem dX9_make_56 : decode cX9_make 56 = .ok (.aload_n 0, 1) := by decide +kernel
theorem dX9_make_57 : decode cX9_make 57 = .ok (.getfield 30, 3) := by decide +kernel
theorem dX9_make_60 : decode cX9_make 60 = .ok (.if_icmp .ge 47, 3) := by decide +kernel
theorem dX9_make_63 : decode cX9_make 63 = .ok (.aload_n 0, 1) := by decide +kernel
theorem dX9_make_64 : decode cX9_make 64 = .ok (.getfield 21, 3) := by decide +kernel
theorem dX9_make_67 : decode cX9_make 67 = .ok (.iload 5, 2) := by decide +kernel
theorem dX9_make_69 : decode cX9_make 69 = .ok (.aload_n 0, 1) := by decide +kernel
theorem dX9_make_70 : decode cX9_make 70 = .ok (.getfield 9, 3) := by decide +kernel
theorem dX9_make_73 : decode cX9_make 73 = .ok (.iload 5, 2) := by decide +kernel
theorem dX9_make_75 : decode cX9_make 75 = .ok (.invokestatic 33, 3) := by decide +kernel
theorem dX9_make_78 : decode cX9_make 78 = .ok (.aload_n 0, 1) := by decide +kernel
theorem dX9_make_79 : decode cX9_make 79 = .ok (.getfield 15, 3) := by decide +kernel
theorem dX9_make_82 : decode cX9_make 82 = .ok (.iload 5, 2) := by decide +kernel
theorem dX9_make_84 : decode cX9_make 84 = .ok (.invokestatic 33, 3) := by decide +kernel
theorem dX9_make_87 : decode cX9_make 87 = .ok (.iadd, 1) := by decide +kernel
theorem dX9_make_88 : decode cX9_make 88 = .ok (.aload_n 0, 1) := by decide +kernel
theorem dX9_make_89 : decode cX9_make 89 = .ok (.getfield 18, 3) := by decide +kernel
theorem dX9_make_92 : decode cX9_make 92 = .ok (.iload 5, 2) := by decide +kernel
theorem dX9_make_94 : decode cX9_make 94 = .ok (.invokestatic 33, 3) := by decide +kernel
theorem dX9_make_97 : decode cX9_make 97 = .ok (.iadd, 1) := by decide +kernel
theorem dX9_make_98 : decode cX9_make 98 = .ok (.invokestatic 53, 3) := by decide +kernel
theorem dX9_make_101 : decode cX9_make 101 = .ok (.iinc 5 1, 3) := by decide +kernel
theorem dX9_make_104 : decode cX9_make 104 = .ok (.goto (-50), 3) := by decide +kernel
theorem dX9_make_107 : decode cX9_make 107 = .ok (.return_, 1) := by decide +kernel
theorem ggX9_makeBase_X4_attenuationUpTo : GoodIn wsX9_makeBase wsX4_attenuationUpTo := goodIn_sub (fun w h => (List.mem_cons.mp h).elim (fun e => ft_me e (k_wsX9_makeBase_wsX9_makeBase_r1 _ (List.mem_of_getElem? (i := 8) rfl))) (fun h => (List.mem_append.mp h).elim (fun h => (List.forall_mem_cons.mpr ⟨(k_wsX9_makeBase_wsX9_makeBase_r1 _ (List.mem_of_getElem? (i := 9) rfl)), List.forall_mem_cons.mpr ⟨(k_wsX9_makeBase_wsX9_makeBase_r1 _ (List.mem_of_getElem? (i := 10) rfl)), List.forall_mem_cons.mpr ⟨(k_wsX9_makeBase_wsX9_makeBase_r1 _ (List.mem_of_getElem? (i := 11) rfl)), List.forall_mem_cons.mpr ⟨(k_wsX9_makeBase_wsX9_makeBase_r1 _ (List.mem_of_getElem? (i := 12) rfl)), List.forall_mem_cons.mpr ⟨(k_wsX9_makeBase_wsX9_makeBase_r1 _ (List.mem_of_getElem? (i := 13) rfl)), List.forall_mem_cons.mpr ⟨(k_wsX9_makeBase_wsX9_makeBase_r1 _ (List.mem_of_getElem? (i := 14) rfl)), List.forall_mem_cons.mpr ⟨(k_wsX9_makeBase_wsX9_makeBase_r1 _ (List.mem_of_getElem? (i := 15) rfl)), List.forall_mem_cons.mpr ⟨(k_wsX9_makeBase_wsX9_makeBase_r1 _ (List.mem_of_getElem? (i := 16) rfl)), fun _ h => absurd h List.not_mem_nil⟩⟩⟩⟩⟩⟩⟩⟩) w h) (fun h => k_wsX9_makeBase_wsX40 w h))) gw_wsX4_attenuationUpTo
theorem gX9_makeBase_X4_attenuationUpTo : GoodIn wsX9_makeBase (wsV RX9 58 RX4 yX4_attenuationUpTo wsX4_attenuationUpTo) := goodIn_app (goodIn_sub (List.forall_mem_cons.mpr ⟨(k_wsX9_makeBase_wsX9_makeBase_r1 _ (List.mem_of_getElem? (i := 4) rfl)), List.forall_mem_cons.mpr ⟨(k_wsX9_makeBase_wsX9_makeBase_r1 _ (List.mem_of_getElem? (i := 5) rfl)), List.forall_mem_cons.mpr ⟨(k_wsX9_makeBase_wsX9_makeBase_r1 _ (List.mem_of_getElem? (i := 6) rfl)), List.forall_mem_cons.mpr ⟨(k_wsX9_makeBase_wsX9_makeBase_r1 _ (List.mem_of_getElem? (i := 7) rfl)), fun _ h => absurd h List.not_mem_nil⟩⟩⟩⟩) (by decide +kernel)) ggX9_makeBase_X4_attenuationUpTo
theorem ggX9_makeBase_X4_spreadLossAt : GoodIn wsX9_makeBase wsX4_spreadLossAt := goodIn_sub (fun w h => (List.mem_cons.mp h).elim (fun e => ft_me e (k_wsX9_makeBase_wsX9_makeBase_r1 _ (List.mem_of_getElem? (i := 20) rfl))) (fun h => (List.mem_append.mp h).elim (fun h => (List.forall_mem_cons.mpr ⟨(k_wsX9_makeBase_wsX9_makeBase_r1 _ (List.mem_of_getElem? (i := 10) rfl)), List.forall_mem_cons.mpr ⟨(k_wsX9_makeBase_wsX9_makeBase_r1 _ (List.mem_of_getElem? (i := 11) rfl)), List.forall_mem_cons.mpr ⟨(k_wsX9_makeBase_wsX9_makeBase_r1 _ (List.mem_of_getElem? (i := 12) rfl)), List.forall_mem_cons.mpr ⟨(k_wsX9_makeBase_wsX9_makeBase_r1 _ (List.mem_of_getElem? (i := 13) rfl)), List.forall_mem_cons.mpr ⟨(k_wsX9_makeBase_wsX9_makeBase_r1 _ (List.mem_of_getElem? (i := 14) rfl)), List.forall_mem_cons.mpr ⟨(k_wsX9_makeBase_wsX9_makeBase_r1 _ (List.mem_of_getElem? (i := 15) rfl)), List.forall_mem_cons.mpr ⟨(k_wsX9_makeBase_wsX9_makeBase_r1 _ (List.mem_of_getElem? (i := 16) rfl)), List.forall_mem_cons.mpr ⟨(k_wsX9_makeBase_wsX9_makeBase_r1 _ (List.mem_of_getElem? (i := 21) rfl)), List.forall_mem_cons.mpr ⟨(k_wsX9_makeBase_wsX9_makeBase_r1 _ (List.mem_of_getElem? (i := 22) rfl)), fun _ h => absurd h List.not_mem_nil⟩⟩⟩⟩⟩⟩⟩⟩⟩) w h) (fun h => k_wsX9_makeBase_wsX40 w h))) gw_wsX4_spreadLossAt
theorem gX9_makeBase_X4_spreadLossAt : GoodIn wsX9_makeBase (wsV RX9 62 RX4 yX4_spreadLossAt wsX4_spreadLossAt) := goodIn_app (goodIn_sub (List.forall_mem_cons.mpr ⟨(k_wsX9_makeBase_wsX9_makeBase_r1 _ (List.mem_of_getElem? (i := 17) rfl)), List.forall_mem_cons.mpr ⟨(k_wsX9_makeBase_wsX9_makeBase_r1 _ (List.mem_of_getElem? (i := 18) rfl)), List.forall_mem_cons.mpr ⟨(k_wsX9_makeBase_wsX9_makeBase_r1 _ (List.mem_of_getElem? (i := 19) rfl)), List.forall_mem_cons.mpr ⟨(k_wsX9_makeBase_wsX9_makeBase_r1 _ (List.mem_of_getElem? (i := 7) rfl)), fun _ h => absurd h List.not_mem_nil⟩⟩⟩⟩) (by decide +kernel)) ggX9_makeBase_X4_spreadLossAt
theorem ggX9_makeBase_X10_put : GoodIn wsX9_makeBase wsX10_put := goodIn_sub (fun w h => (List.mem_cons.mp h).elim (fun e => ft_me e (k_wsX9_makeBase_wsX9_makeBase_r2 _ (List.mem_of_getElem? (i := 0) rfl))) (fun h => absurd h List.not_mem_nil)) gw_wsX10_put
theorem gX9_makeBase_X10_put_n53 : GoodIn wsX9_makeBase (wsX10_put) := ggX9_makeBase_X10_put
theorem dX9_makeBase_0 : decode cX9_makeBase 0 = .ok (.iconst 0, 1) := by decide +kernel
theorem dX9_makeBase_1 : decode cX9_makeBase 1 = .ok (.istore_n 3, 1) := by decide +kernel
theorem dX9_makeBase_2 : decode cX9_makeBase 2 = .ok (.iload_n 3, 1) := by decide +kernel
theorem dX9_makeBase_3 : decode cX9_makeBase 3 = .ok (.aload_n 0, 1) := by decide +kernel
theorem dX9_makeBase_4 : decode cX9_makeBase 4 = .ok (.getfield 30, 3) := by decide +kernel
theorem dX9_makeBase_7 : decode cX9_makeBase 7 = .ok (.if_icmp .ge 50, 3) := by decide +kernel
theorem dX9_makeBase_10 : decode cX9_makeBase 10 = .ok (.ldc 57, 2) := by decide +kernel
theorem dX9_makeBase_12 : decode cX9_makeBase 12 = .ok (.aload_n 1, 1) := by decide +kernel
theorem dX9_makeBase_13 : decode cX9_makeBase 13 = .ok (.iload_n 3, 1) := by decide +kernel
theorem dX9_makeBase_14 : decode cX9_makeBase 14 = .ok (.invokevirtual 58, 3) := by decide +kernel
theorem dX9_makeBase_17 : decode cX9_makeBase 17 = .ok (.isub, 1) := by decide +kernel
theorem dX9_makeBase_18 : decode cX9_makeBase 18 = .ok (.aload_n 1, 1) := by decide +kernel
theorem dX9_makeBase_19 : decode cX9_makeBase 19 = .ok (.iload_n 3, 1) := by decide +kernel
theorem dX9_makeBase_20 : decode cX9_makeBase 20 = .ok (.iload_n 2, 1) := by decide +kernel
theorem dX9_makeBase_21 : decode cX9_makeBase 21 = .ok (.invokevirtual 62, 3) := by decide +kernel
theorem dX9_makeBase_24 : decode cX9_makeBase 24 = .ok (.isub, 1) := by decide +kernel
theorem dX9_makeBase_25 : decode cX9_makeBase 25 = .ok (.istore 4, 2) := by decide +kernel
theorem dX9_makeBase_27 : decode cX9_makeBase 27 = .ok (.aload_n 0, 1) := by decide +kernel
theorem dX9_makeBase_28 : decode cX9_makeBase 28 = .ok (.getfield 9, 3) := by decide +kernel
theorem dX9_makeBase_31 : decode cX9_makeBase 31 = .ok (.iload_n 3, 1) := by decide +kernel
theorem dX9_makeBase_32 : decode cX9_makeBase 32 = .ok (.iload_n 3, 1) := by decide +kernel
theorem dX9_makeBase_33 : decode cX9_makeBase 33 = .ok (.aload_n 1, 1) := by decide +kernel
theorem dX9_makeBase_34 : decode cX9_makeBase 34 = .ok (.getfield 24, 3) := by decide +kernel
theorem dX9_makeBase_37 : decode cX9_makeBase 37 = .ok (.if_icmp .ge 8, 3) := by decide +kernel
theorem dX9_makeBase_40 : decode cX9_makeBase 40 = .ok (.iload 4, 2) := by decide +kernel
theorem dX9_makeBase_42 : decode cX9_makeBase 42 = .ok (.goto 6, 3) := by decide +kernel
theorem dX9_makeBase_45 : decode cX9_makeBase 45 = .ok (.sipush 5000, 3) := by decide +kernel
theorem dX9_makeBase_48 : decode cX9_makeBase 48 = .ok (.invokestatic 53, 3) := by decide +kernel
theorem dX9_makeBase_51 : decode cX9_makeBase 51 = .ok (.iinc 3 1, 3) := by decide +kernel
theorem dX9_makeBase_54 : decode cX9_makeBase 54 = .ok (.goto (-52), 3) := by decide +kernel
theorem dX9_makeBase_57 : decode cX9_makeBase 57 = .ok (.return_, 1) := by decide +kernel
theorem ggX9_makePeaks_X10_put : GoodIn wsX9_makePeaks wsX10_put := goodIn_sub (fun w h => (List.mem_cons.mp h).elim (fun e => ft_me e (k_wsX9_makePeaks_wsX9_makePeaks_r1 _ (List.mem_of_getElem? (i := 9) rfl))) (fun h => absurd h List.not_mem_nil)) gw_wsX10_put
theorem gX9_makePeaks_X10_put_n53 : GoodIn wsX9_makePeaks (wsX10_put) := ggX9_makePeaks_X10_put
theorem ggX9_makePeaks_X10_at : GoodIn wsX9_makePeaks wsX10_at := goodIn_sub (fun w h => (List.mem_cons.mp h).elim (fun e => ft_me e (k_wsX9_makePeaks_wsX9_makePeaks_r1 _ (List.mem_of_getElem? (i := 11) rfl))) (fun h => absurd h List.not_mem_nil)) gw_wsX10_at
theorem gX9_makePeaks_X10_at_n33 : GoodIn wsX9_makePeaks (wsX10_at) := ggX9_makePeaks_X10_at
theorem ggX9_makePeaks_X9_raise : GoodIn wsX9_makePeaks wsX9_raise := goodIn_sub (fun w h => (List.mem_cons.mp h).elim (fun e => ft_me e (k_wsX9_makePeaks_wsX9_makePeaks_r1 _ (List.mem_of_getElem? (i := 16) rfl))) (fun h => (List.mem_append.mp h).elim (fun h => (List.forall_mem_cons.mpr ⟨(k_wsX9_makePeaks_wsX9_makePeaks_r1 _ (List.mem_of_getElem? (i := 0) rfl)), List.forall_mem_cons.mpr ⟨(k_wsX9_makePeaks_wsX9_makePeaks_r1 _ (List.mem_of_getElem? (i := 1) rfl)), List.forall_mem_cons.mpr ⟨(k_wsX9_makePeaks_wsX9_makePeaks_r1 _ (List.mem_of_getElem? (i := 17) rfl)), List.forall_mem_cons.mpr ⟨(k_wsX9_makePeaks_wsX9_makePeaks_r1 _ (List.mem_of_getElem? (i := 18) rfl)), List.forall_mem_cons.mpr ⟨(k_wsX9_makePeaks_wsX9_makePeaks_r1 _ (List.mem_of_getElem? (i := 19) rfl)), List.forall_mem_cons.mpr ⟨(k_wsX9_makePeaks_wsX9_makePeaks_r1 _ (List.mem_of_getElem? (i := 20) rfl)), List.forall_mem_cons.mpr ⟨(k_wsX9_makePeaks_wsX9_makePeaks_r1 _ (List.mem_of_getElem? (i := 10) rfl)), List.forall_mem_cons.mpr ⟨(k_wsX9_makePeaks_wsX9_makePeaks_r1 _ (List.mem_of_getElem? (i := 8) rfl)), List.forall_mem_cons.mpr ⟨(k_wsX9_makePeaks_wsX9_makePeaks_r1 _ (List.mem_of_getElem? (i := 11) rfl)), List.forall_mem_cons.mpr ⟨(k_wsX9_makePeaks_wsX9_makePeaks_r1 _ (List.mem_of_getElem? (i := 7) rfl)), List.forall_mem_cons.mpr ⟨(k_wsX9_makePeaks_wsX9_makePeaks_r1 _ (List.mem_of_getElem? (i := 9) rfl)), fun _ h => absurd h List.not_mem_nil⟩⟩⟩⟩⟩⟩⟩⟩⟩⟩⟩) w h) (fun h => k_wsX9_makePeaks_wsX90 w h))) gw_wsX9_raise
theorem gX9_makePeaks_X9_raise : GoodIn wsX9_makePeaks (wsV RX9 77 RX9 yX9_raise wsX9_raise) := goodIn_app (goodIn_sub (List.forall_mem_cons.mpr ⟨(k_wsX9_makePeaks_wsX9_makePeaks_r1 _ (List.mem_of_getElem? (i := 12) rfl)), List.forall_mem_cons.mpr ⟨(k_wsX9_makePeaks_wsX9_makePeaks_r1 _ (List.mem_of_getElem? (i := 13) rfl)), List.forall_mem_cons.mpr ⟨(k_wsX9_makePeaks_wsX9_makePeaks_r1 _ (List.mem_of_getElem? (i := 14) rfl)), List.forall_mem_cons.mpr ⟨(k_wsX9_makePeaks_wsX9_makePeaks_r1 _ (List.mem_of_getElem? (i := 15) rfl)), fun _ h => absurd h List.not_mem_nil⟩⟩⟩⟩) (by decide +kernel)) ggX9_makePeaks_X9_raise
theorem ggX9_makePeaks_X1_ghostPlace : GoodIn wsX9_makePeaks wsX1_ghostPlace := goodIn_sub (fun w h => (List.mem_cons.mp h).elim (fun e => ft_me e (k_wsX9_makePeaks_wsX9_makePeaks_r2 _ (List.mem_of_getElem? (i := 1) rfl))) (fun h => (List.mem_append.mp h).elim (fun h => (List.forall_mem_cons.mpr ⟨(k_wsX9_makePeaks_wsX9_makePeaks_r2 _ (List.mem_of_getElem? (i := 2) rfl)), List.forall_mem_cons.mpr ⟨(k_wsX9_makePeaks_wsX9_makePeaks_r2 _ (List.mem_of_getElem? (i := 3) rfl)), List.forall_mem_cons.mpr ⟨(k_wsX9_makePeaks_wsX9_makePeaks_r1 _ (List.mem_of_getElem? (i := 10) rfl)), List.forall_mem_cons.mpr ⟨(k_wsX9_makePeaks_wsX9_makePeaks_r1 _ (List.mem_of_getElem? (i := 8) rfl)), List.forall_mem_cons.mpr ⟨(k_wsX9_makePeaks_wsX9_makePeaks_r1 _ (List.mem_of_getElem? (i := 11) rfl)), fun _ h => absurd h List.not_mem_nil⟩⟩⟩⟩⟩) w h) (fun h => k_wsX9_makePeaks_wsX10 w h))) gw_wsX1_ghostPlace
theorem gX9_makePeaks_X1_ghostPlace : GoodIn wsX9_makePeaks (wsV RX9 84 RX1 yX1_ghostPlace wsX1_ghostPlace) := goodIn_app (goodIn_sub (List.forall_mem_cons.mpr ⟨(k_wsX9_makePeaks_wsX9_makePeaks_r1 _ (List.mem_of_getElem? (i := 21) rfl)), List.forall_mem_cons.mpr ⟨(k_wsX9_makePeaks_wsX9_makePeaks_r1 _ (List.mem_of_getElem? (i := 22) rfl)), List.forall_mem_cons.mpr ⟨(k_wsX9_makePeaks_wsX9_makePeaks_r1 _ (List.mem_of_getElem? (i := 23) rfl)), List.forall_mem_cons.mpr ⟨(k_wsX9_makePeaks_wsX9_makePeaks_r2 _ (List.mem_of_getElem? (i := 0) rfl)), fun _ h => absurd h List.not_mem_nil⟩⟩⟩⟩) (by decide +kernel)) ggX9_makePeaks_X1_ghostPlace
theorem dX9_makePeaks_0 : decode cX9_makePeaks 0 = .ok (.iconst 0, 1) := by decide +kernel
theorem dX9_makePeaks_1 : decode cX9_makePeaks 1 = .ok (.istore 4, 2) := by decide +kernel
theorem dX9_makePeaks_3 : decode cX9_makePeaks 3 = .ok (.iload 4, 2) := by decide +kernel
theorem dX9_makePeaks_5 : decode cX9_makePeaks 5 = .ok (.aload_n 0, 1) := by decide +kernel
theorem dX9_makePeaks_6 : decode cX9_makePeaks 6 = .ok (.getfield 30, 3) := by decide +kernel
theorem dX9_makePeaks_9 : decode cX9_makePeaks 9 = .ok (.if_icmp .ge 19, 3) := by decide +kernel
theorem dX9_makePeaks_12 : decode cX9_makePeaks 12 = .ok (.aload_n 0, 1) := by decide +kernel
theorem dX9_makePeaks_13 : decode cX9_makePeaks 13 = .ok (.getfield 15, 3) := by decide +kernel
theorem dX9_makePeaks_16 : decode cX9_makePeaks 16 = .ok (.iload 4, 2) := by decide +kernel
theorem dX9_makePeaks_18 : decode cX9_makePeaks 18 = .ok (.iconst 0, 1) := by decide +kernel
theorem dX9_makePeaks_19 : decode cX9_makePeaks 19 = .ok (.invokestatic 53, 3) := by decide +kernel
theorem dX9_makePeaks_22 : decode cX9_makePeaks 22 = .ok (.iinc 4 1, 3) := by decide +kernel
theorem dX9_makePeaks_25 : decode cX9_makePeaks 25 = .ok (.goto (-22), 3) := by decide +kernel
theorem dX9_makePeaks_28 : decode cX9_makePeaks 28 = .ok (.iconst 0, 1) := by decide +kernel
theorem dX9_makePeaks_29 : decode cX9_makePeaks 29 = .ok (.istore 4, 2) := by decide +kernel
theorem dX9_makePeaks_31 : decode cX9_makePeaks 31 = .ok (.iload 4, 2) := by decide +kernel
theorem dX9_makePeaks_33 : decode cX9_makePeaks 33 = .ok (.aload_n 1, 1) := by decide +kernel
theorem dX9_makePeaks_34 : decode cX9_makePeaks 34 = .ok (.getfield 66, 3) := by decide +kernel
theorem dX9_makePeaks_37 : decode cX9_makePeaks 37 = .ok (.if_icmp .ge 33, 3) := by decide +kernel
theorem dX9_makePeaks_40 : decode cX9_makePeaks 40 = .ok (.aload_n 0, 1) := by decide +kernel
theorem dX9_makePeaks_41 : decode cX9_makePeaks 41 = .ok (.aload_n 1, 1) := by decide +kernel
theorem dX9_makePeaks_42 : decode cX9_makePeaks 42 = .ok (.getfield 71, 3) := by decide +kernel
theorem dX9_makePeaks_45 : decode cX9_makePeaks 45 = .ok (.iload 4, 2) := by decide +kernel
theorem dX9_makePeaks_47 : decode cX9_makePeaks 47 = .ok (.invokestatic 33, 3) := by decide +kernel
theorem dX9_makePeaks_50 : decode cX9_makePeaks 50 = .ok (.aload_n 1, 1) := by decide +kernel
theorem dX9_makePeaks_51 : decode cX9_makePeaks 51 = .ok (.getfield 74, 3) := by decide +kernel
theorem dX9_makePeaks_54 : decode cX9_makePeaks 54 = .ok (.iload 4, 2) := by decide +kernel
theorem dX9_makePeaks_56 : decode cX9_makePeaks 56 = .ok (.invokestatic 33, 3) := by decide +kernel
theorem dX9_makePeaks_59 : decode cX9_makePeaks 59 = .ok (.iload_n 2, 1) := by decide +kernel
theorem dX9_makePeaks_60 : decode cX9_makePeaks 60 = .ok (.iload_n 3, 1) := by decide +kernel
theorem dX9_makePeaks_61 : decode cX9_makePeaks 61 = .ok (.invokevirtual 77, 3) := by decide +kernel
theorem dX9_makePeaks_64 : decode cX9_makePeaks 64 = .ok (.iinc 4 1, 3) := by decide +kernel
theorem dX9_makePeaks_67 : decode cX9_makePeaks 67 = .ok (.goto (-36), 3) := by decide +kernel
theorem dX9_makePeaks_70 : decode cX9_makePeaks 70 = .ok (.iconst 0, 1) := by decide +kernel
theorem dX9_makePeaks_71 : decode cX9_makePeaks 71 = .ok (.istore 4, 2) := by decide +kernel
theorem dX9_makePeaks_73 : decode cX9_makePeaks 73 = .ok (.iload 4, 2) := by decide +kernel
theorem dX9_makePeaks_75 : decode cX9_makePeaks 75 = .ok (.aload_n 1, 1) := by decide +kernel
theorem dX9_makePeaks_76 : decode cX9_makePeaks 76 = .ok (.getfield 81, 3) := by decide +kernel
theorem dX9_makePeaks_79 : decode cX9_makePeaks 79 = .ok (.if_icmp .ge 30, 3) := by decide +kernel
theorem dX9_makePeaks_82 : decode cX9_makePeaks 82 = .ok (.aload_n 0, 1) := by decide +kernel
theorem dX9_makePeaks_83 : decode cX9_makePeaks 83 = .ok (.aload_n 1, 1) := by decide +kernel
theorem dX9_makePeaks_84 : decode cX9_makePeaks 84 = .ok (.iload 4, 2) := by decide +kernel
theorem dX9_makePeaks_86 : decode cX9_makePeaks 86 = .ok (.invokevirtual 84, 3) := by decide +kernel
theorem dX9_makePeaks_89 : decode cX9_makePeaks 89 = .ok (.aload_n 1, 1) := by decide +kernel
theorem dX9_makePeaks_90 : decode cX9_makePeaks 90 = .ok (.getfield 87, 3) := by decide +kernel
theorem dX9_makePeaks_93 : decode cX9_makePeaks 93 = .ok (.iload 4, 2) := by decide +kernel
theorem dX9_makePeaks_95 : decode cX9_makePeaks 95 = .ok (.invokestatic 33, 3) := by decide +kernel
theorem dX9_makePeaks_98 : decode cX9_makePeaks 98 = .ok (.iload_n 2, 1) := by decide +kernel
theorem dX9_makePeaks_99 : decode cX9_makePeaks 99 = .ok (.iload_n 3, 1) := by decide +kernel
theorem dX9_makePeaks_100 : decode cX9_makePeaks 100 = .ok (.invokevirtual 77, 3) := by decide +kernel
theorem dX9_makePeaks_103 : decode cX9_makePeaks 103 = .ok (.iinc 4 1, 3) := by decide +kernel
theorem dX9_makePeaks_106 : decode cX9_makePeaks 106 = .ok (.goto (-33), 3) := by decide +kernel
theorem dX9_makePeaks_109 : decode cX9_makePeaks 109 = .ok (.return_, 1) := by decide +kernel
theorem ggX9_raise_X10_at : GoodIn wsX9_raise wsX10_at := goodIn_sub (fun w h => (List.mem_cons.mp h).elim (fun e => ft_me e (List.mem_cons_of_mem _ (List.mem_append_left _ (List.mem_of_getElem? (i := 8) rfl)))) (fun h => absurd h List.not_mem_nil)) gw_wsX10_at
theorem gX9_raise_X10_at_n33 : GoodIn wsX9_raise (wsX10_at) := ggX9_raise_X10_at
theorem ggX9_raise_X10_put : GoodIn wsX9_raise wsX10_put := goodIn_sub (fun w h => (List.mem_cons.mp h).elim (fun e => ft_me e (List.mem_cons_of_mem _ (List.mem_append_left _ (List.mem_of_getElem? (i := 10) rfl)))) (fun h => absurd h List.not_mem_nil)) gw_wsX10_put
theorem gX9_raise_X10_put_n53 : GoodIn wsX9_raise (wsX10_put) := ggX9_raise_X10_put
theorem dX9_raise_0 : decode cX9_raise 0 = .ok (.iload_n 2, 1) := by decide +kernel
theorem dX9_raise_1 : decode cX9_raise 1 = .ok (.istore 5, 2) := by decide +kernel
theorem dX9_raise_3 : decode cX9_raise 3 = .ok (.iload_n 1, 1) := by decide +kernel
theorem dX9_raise_4 : decode cX9_raise 4 = .ok (.istore 6, 2) := by decide +kernel
theorem dX9_raise_6 : decode cX9_raise 6 = .ok (.iload 6, 2) := by decide +kernel
theorem dX9_raise_8 : decode cX9_raise 8 = .ok (.aload_n 0, 1) := by decide +kernel
theorem dX9_raise_9 : decode cX9_raise 9 = .ok (.getfield 30, 3) := by decide +kernel
theorem dX9_raise_12 : decode cX9_raise 12 = .ok (.if_icmp .ge 64, 3) := by decide +kernel
theorem dX9_raise_15 : decode cX9_raise 15 = .ok (.iload 5, 2) := by decide +kernel
theorem dX9_raise_17 : decode cX9_raise 17 = .ok (.ifCond .le 59, 3) := by decide +kernel
theorem dX9_raise_20 : decode cX9_raise 20 = .ok (.iload 6, 2) := by decide +kernel
theorem dX9_raise_22 : decode cX9_raise 22 = .ok (.iload_n 1, 1) := by decide +kernel
theorem dX9_raise_23 : decode cX9_raise 23 = .ok (.iload_n 3, 1) := by decide +kernel
theorem dX9_raise_24 : decode cX9_raise 24 = .ok (.iadd, 1) := by decide +kernel
theorem dX9_raise_25 : decode cX9_raise 25 = .ok (.if_icmp .ge 7, 3) := by decide +kernel
theorem dX9_raise_28 : decode cX9_raise 28 = .ok (.iload_n 2, 1) := by decide +kernel
theorem dX9_raise_29 : decode cX9_raise 29 = .ok (.goto 16, 3) := by decide +kernel
theorem dX9_raise_32 : decode cX9_raise 32 = .ok (.iload_n 2, 1) := by decide +kernel
theorem dX9_raise_33 : decode cX9_raise 33 = .ok (.iload 4, 2) := by decide +kernel
theorem dX9_raise_35 : decode cX9_raise 35 = .ok (.iload 6, 2) := by decide +kernel
theorem dX9_raise_37 : decode cX9_raise 37 = .ok (.iload_n 1, 1) := by decide +kernel
theorem dX9_raise_38 : decode cX9_raise 38 = .ok (.isub, 1) := by decide +kernel
theorem dX9_raise_39 : decode cX9_raise 39 = .ok (.iload_n 3, 1) := by decide +kernel
theorem dX9_raise_40 : decode cX9_raise 40 = .ok (.isub, 1) := by decide +kernel
theorem dX9_raise_41 : decode cX9_raise 41 = .ok (.iconst 1, 1) := by decide +kernel
theorem dX9_raise_42 : decode cX9_raise 42 = .ok (.iadd, 1) := by decide +kernel
theorem dX9_raise_43 : decode cX9_raise 43 = .ok (.imul, 1) := by decide +kernel
theorem dX9_raise_44 : decode cX9_raise 44 = .ok (.isub, 1) := by decide +kernel
theorem dX9_raise_45 : decode cX9_raise 45 = .ok (.istore 5, 2) := by decide +kernel
theorem dX9_raise_47 : decode cX9_raise 47 = .ok (.aload_n 0, 1) := by decide +kernel
theorem dX9_raise_48 : decode cX9_raise 48 = .ok (.getfield 15, 3) := by decide +kernel
theorem dX9_raise_51 : decode cX9_raise 51 = .ok (.iload 6, 2) := by decide +kernel
theorem dX9_raise_53 : decode cX9_raise 53 = .ok (.iload 5, 2) := by decide +kernel
theorem dX9_raise_55 : decode cX9_raise 55 = .ok (.aload_n 0, 1) := by decide +kernel
theorem dX9_raise_56 : decode cX9_raise 56 = .ok (.getfield 15, 3) := by decide +kernel
theorem dX9_raise_59 : decode cX9_raise 59 = .ok (.iload 6, 2) := by decide +kernel
theorem dX9_raise_61 : decode cX9_raise 61 = .ok (.invokestatic 33, 3) := by decide +kernel
theorem dX9_raise_64 : decode cX9_raise 64 = .ok (.invokestatic 90, 3) := by decide +kernel
theorem dX9_raise_67 : decode cX9_raise 67 = .ok (.invokestatic 53, 3) := by decide +kernel
theorem dX9_raise_70 : decode cX9_raise 70 = .ok (.iinc 6 1, 3) := by decide +kernel
theorem dX9_raise_73 : decode cX9_raise 73 = .ok (.goto (-67), 3) := by decide +kernel
theorem dX9_raise_76 : decode cX9_raise 76 = .ok (.return_, 1) := by decide +kernel
theorem ggX9_isDrawnFor_X10_at : GoodIn wsX9_isDrawnFor wsX10_at := goodIn_sub (fun w h => (List.mem_cons.mp h).elim (fun e => ft_me e (List.mem_cons_of_mem _ (List.mem_append_left _ (List.mem_of_getElem? (i := 7) rfl)))) (fun h => absurd h List.not_mem_nil)) gw_wsX10_at
theorem gX9_isDrawnFor_X10_at_n33 : GoodIn wsX9_isDrawnFor (wsX10_at) := ggX9_isDrawnFor_X10_at
theorem dX9_isDrawnFor_0 : decode cX9_isDrawnFor 0 = .ok (.aload_n 0, 1) := by decide +kernel
theorem dX9_isDrawnFor_1 : decode cX9_isDrawnFor 1 = .ok (.getfield 95, 3) := by decide +kernel
theorem dX9_isDrawnFor_4 : decode cX9_isDrawnFor 4 = .ok (.aload_n 0, 1) := by decide +kernel
theorem dX9_isDrawnFor_5 : decode cX9_isDrawnFor 5 = .ok (.getfield 30, 3) := by decide +kernel
theorem dX9_isDrawnFor_8 : decode cX9_isDrawnFor 8 = .ok (.if_icmp .ne 43, 3) := by decide +kernel
theorem dX9_isDrawnFor_11 : decode cX9_isDrawnFor 11 = .ok (.aload_n 0, 1) := by decide +kernel
theorem dX9_isDrawnFor_12 : decode cX9_isDrawnFor 12 = .ok (.getfield 98, 3) := by decide +kernel
theorem dX9_isDrawnFor_15 : decode cX9_isDrawnFor 15 = .ok (.aload_n 1, 1) := by decide +kernel
theorem dX9_isDrawnFor_16 : decode cX9_isDrawnFor 16 = .ok (.iconst 3, 1) := by decide +kernel
theorem dX9_isDrawnFor_17 : decode cX9_isDrawnFor 17 = .ok (.invokestatic 33, 3) := by decide +kernel
theorem dX9_isDrawnFor_20 : decode cX9_isDrawnFor 20 = .ok (.if_icmp .ne 31, 3) := by decide +kernel
theorem dX9_isDrawnFor_23 : decode cX9_isDrawnFor 23 = .ok (.aload_n 0, 1) := by decide +kernel
theorem dX9_isDrawnFor_24 : decode cX9_isDrawnFor 24 = .ok (.getfield 101, 3) := by decide +kernel
theorem dX9_isDrawnFor_27 : decode cX9_isDrawnFor 27 = .ok (.aload_n 1, 1) := by decide +kernel
theorem dX9_isDrawnFor_28 : decode cX9_isDrawnFor 28 = .ok (.iconst 4, 1) := by decide +kernel
theorem dX9_isDrawnFor_29 : decode cX9_isDrawnFor 29 = .ok (.invokestatic 33, 3) := by decide +kernel
theorem dX9_isDrawnFor_32 : decode cX9_isDrawnFor 32 = .ok (.if_icmp .ne 19, 3) := by decide +kernel
theorem dX9_isDrawnFor_35 : decode cX9_isDrawnFor 35 = .ok (.aload_n 0, 1) := by decide +kernel
theorem dX9_isDrawnFor_36 : decode cX9_isDrawnFor 36 = .ok (.getfield 104, 3) := by decide +kernel
theorem dX9_isDrawnFor_39 : decode cX9_isDrawnFor 39 = .ok (.aload_n 1, 1) := by decide +kernel
theorem dX9_isDrawnFor_40 : decode cX9_isDrawnFor 40 = .ok (.iconst 5, 1) := by decide +kernel
theorem dX9_isDrawnFor_41 : decode cX9_isDrawnFor 41 = .ok (.invokestatic 33, 3) := by decide +kernel
theorem dX9_isDrawnFor_44 : decode cX9_isDrawnFor 44 = .ok (.if_icmp .ne 7, 3) := by decide +kernel
theorem dX9_isDrawnFor_47 : decode cX9_isDrawnFor 47 = .ok (.iconst 1, 1) := by decide +kernel
theorem dX9_isDrawnFor_48 : decode cX9_isDrawnFor 48 = .ok (.goto 4, 3) := by decide +kernel
theorem dX9_isDrawnFor_51 : decode cX9_isDrawnFor 51 = .ok (.iconst 0, 1) := by decide +kernel
theorem dX9_isDrawnFor_52 : decode cX9_isDrawnFor 52 = .ok (.ireturn, 1) := by decide +kernel
theorem ggX9_draw_X10_at : GoodIn wsX9_draw wsX10_at := goodIn_sub (fun w h => (List.mem_cons.mp h).elim (fun e => ft_me e (k_wsX9_draw_wsX9_draw_r1 _ (List.mem_of_getElem? (i := 8) rfl))) (fun h => absurd h List.not_mem_nil)) gw_wsX10_at
theorem gX9_draw_X10_at_n33 : GoodIn wsX9_draw (wsX10_at) := ggX9_draw_X10_at
theorem ggX9_draw_X6_begin : GoodIn wsX9_draw wsX6_begin := goodIn_sub (fun w h => (List.mem_cons.mp h).elim (fun e => ft_me e (k_wsX9_draw_wsX9_draw_r1 _ (List.mem_of_getElem? (i := 13) rfl))) (fun h => (List.mem_append.mp h).elim (fun h => (List.forall_mem_cons.mpr ⟨(k_wsX9_draw_wsX9_draw_r1 _ (List.mem_of_getElem? (i := 14) rfl)), List.forall_mem_cons.mpr ⟨(k_wsX9_draw_wsX9_draw_r1 _ (List.mem_of_getElem? (i := 15) rfl)), List.forall_mem_cons.mpr ⟨(k_wsX9_draw_wsX9_draw_r1 _ (List.mem_of_getElem? (i := 6) rfl)), List.forall_mem_cons.mpr ⟨(k_wsX9_draw_wsX9_draw_r1 _ (List.mem_of_getElem? (i := 7) rfl)), List.forall_mem_cons.mpr ⟨(k_wsX9_draw_wsX9_draw_r1 _ (List.mem_of_getElem? (i := 8) rfl)), fun _ h => absurd h List.not_mem_nil⟩⟩⟩⟩⟩) w h) (fun h => k_wsX9_draw_wsX60 w h))) gw_wsX6_begin
theorem gX9_draw_X6_begin : GoodIn wsX9_draw (wsV RX9 107 RX6 yX6_begin wsX6_begin) := goodIn_app (goodIn_sub (List.forall_mem_cons.mpr ⟨(k_wsX9_draw_wsX9_draw_r1 _ (List.mem_of_getElem? (i := 9) rfl)), List.forall_mem_cons.mpr ⟨(k_wsX9_draw_wsX9_draw_r1 _ (List.mem_of_getElem? (i := 10) rfl)), List.forall_mem_cons.mpr ⟨(k_wsX9_draw_wsX9_draw_r1 _ (List.mem_of_getElem? (i := 11) rfl)), List.forall_mem_cons.mpr ⟨(k_wsX9_draw_wsX9_draw_r1 _ (List.mem_of_getElem? (i := 12) rfl)), fun _ h => absurd h List.not_mem_nil⟩⟩⟩⟩) (by decide +kernel)) ggX9_draw_X6_begin
theorem ggX9_draw_X6_next : GoodIn wsX9_draw wsX6_next := goodIn_sub (fun w h => (List.mem_cons.mp h).elim (fun e => ft_me e (k_wsX9_draw_wsX9_draw_r1 _ (List.mem_of_getElem? (i := 19) rfl))) (fun h => (List.mem_append.mp h).elim (fun h => (List.forall_mem_cons.mpr ⟨(k_wsX9_draw_wsX9_draw_r1 _ (List.mem_of_getElem? (i := 15) rfl)), List.forall_mem_cons.mpr ⟨(k_wsX9_draw_wsX9_draw_r1 _ (List.mem_of_getElem? (i := 14) rfl)), List.forall_mem_cons.mpr ⟨(k_wsX9_draw_wsX9_draw_r1 _ (List.mem_of_getElem? (i := 20) rfl)), List.forall_mem_cons.mpr ⟨(k_wsX9_draw_wsX9_draw_r1 _ (List.mem_of_getElem? (i := 21) rfl)), List.forall_mem_cons.mpr ⟨(k_wsX9_draw_wsX9_draw_r1 _ (List.mem_of_getElem? (i := 7) rfl)), List.forall_mem_cons.mpr ⟨(k_wsX9_draw_wsX9_draw_r1 _ (List.mem_of_getElem? (i := 22) rfl)), fun _ h => absurd h List.not_mem_nil⟩⟩⟩⟩⟩⟩) w h) (fun h => k_wsX9_draw_wsX60 w h))) gw_wsX6_next
theorem gX9_draw_X6_next : GoodIn wsX9_draw (wsV RX9 113 RX6 yX6_next wsX6_next) := goodIn_app (goodIn_sub (List.forall_mem_cons.mpr ⟨(k_wsX9_draw_wsX9_draw_r1 _ (List.mem_of_getElem? (i := 16) rfl)), List.forall_mem_cons.mpr ⟨(k_wsX9_draw_wsX9_draw_r1 _ (List.mem_of_getElem? (i := 17) rfl)), List.forall_mem_cons.mpr ⟨(k_wsX9_draw_wsX9_draw_r1 _ (List.mem_of_getElem? (i := 18) rfl)), List.forall_mem_cons.mpr ⟨(k_wsX9_draw_wsX9_draw_r1 _ (List.mem_of_getElem? (i := 12) rfl)), fun _ h => absurd h List.not_mem_nil⟩⟩⟩⟩) (by decide +kernel)) ggX9_draw_X6_next
theorem ggX9_draw_X10_put : GoodIn wsX9_draw wsX10_put := goodIn_sub (fun w h => (List.mem_cons.mp h).elim (fun e => ft_me e (k_wsX9_draw_wsX9_draw_r2 _ (List.mem_of_getElem? (i := 0) rfl))) (fun h => absurd h List.not_mem_nil)) gw_wsX10_put
theorem gX9_draw_X10_put_n53 : GoodIn wsX9_draw (wsX10_put) := ggX9_draw_X10_put
theorem dX9_draw_0 : decode cX9_draw 0 = .ok (.aload_n 0, 1) := by decide +kernel
theorem dX9_draw_1 : decode cX9_draw 1 = .ok (.aload_n 0, 1) := by decide +kernel
theorem dX9_draw_2 : decode cX9_draw 2 = .ok (.getfield 30, 3) := by decide +kernel
theorem dX9_draw_5 : decode cX9_draw 5 = .ok (.putfield 95, 3) := by decide +kernel
theorem dX9_draw_8 : decode cX9_draw 8 = .ok (.aload_n 0, 1) := by decide +kernel
theorem dX9_draw_9 : decode cX9_draw 9 = .ok (.aload_n 1, 1) := by decide +kernel
theorem dX9_draw_10 : decode cX9_draw 10 = .ok (.iconst 3, 1) := by decide +kernel
theorem dX9_draw_11 : decode cX9_draw 11 = .ok (.invokestatic 33, 3) := by decide +kernel
theorem dX9_draw_14 : decode cX9_draw 14 = .ok (.putfield 98, 3) := by decide +kernel
theorem dX9_draw_17 : decode cX9_draw 17 = .ok (.aload_n 0, 1) := by decide +kernel
theorem dX9_draw_18 : decode cX9_draw 18 = .ok (.aload_n 1, 1) := by decide +kernel
theorem dX9_draw_19 : decode cX9_draw 19 = .ok (.iconst 4, 1) := by decide +kernel
theorem dX9_draw_20 : decode cX9_draw 20 = .ok (.invokestatic 33, 3) := by decide +kernel
theorem dX9_draw_23 : decode cX9_draw 23 = .ok (.putfield 101, 3) := by decide +kernel
theorem dX9_draw_26 : decode cX9_draw 26 = .ok (.aload_n 0, 1) := by decide +kernel
theorem dX9_draw_27 : decode cX9_draw 27 = .ok (.aload_n 1, 1) := by decide +kernel
theorem dX9_draw_28 : decode cX9_draw 28 = .ok (.iconst 5, 1) := by decide +kernel
theorem dX9_draw_29 : decode cX9_draw 29 = .ok (.invokestatic 33, 3) := by decide +kernel
theorem dX9_draw_32 : decode cX9_draw 32 = .ok (.putfield 104, 3) := by decide +kernel
theorem dX9_draw_35 : decode cX9_draw 35 = .ok (.aload_n 2, 1) := by decide +kernel
theorem dX9_draw_36 : decode cX9_draw 36 = .ok (.aload_n 1, 1) := by decide +kernel
theorem dX9_draw_37 : decode cX9_draw 37 = .ok (.invokevirtual 107, 3) := by decide +kernel
theorem dX9_draw_40 : decode cX9_draw 40 = .ok (.iconst 0, 1) := by decide +kernel
theorem dX9_draw_41 : decode cX9_draw 41 = .ok (.istore_n 3, 1) := by decide +kernel
theorem dX9_draw_42 : decode cX9_draw 42 = .ok (.iload_n 3, 1) := by decide +kernel
theorem dX9_draw_43 : decode cX9_draw 43 = .ok (.aload_n 0, 1) := by decide +kernel
theorem dX9_draw_44 : decode cX9_draw 44 = .ok (.getfield 30, 3) := by decide +kernel
theorem dX9_draw_47 : decode cX9_draw 47 = .ok (.if_icmp .ge 25, 3) := by decide +kernel
theorem dX9_draw_50 : decode cX9_draw 50 = .ok (.aload_n 0, 1) := by decide +kernel
theorem dX9_draw_51 : decode cX9_draw 51 = .ok (.getfield 18, 3) := by decide +kernel
theorem dX9_draw_54 : decode cX9_draw 54 = .ok (.iload_n 3, 1) := by decide +kernel
theorem dX9_draw_55 : decode cX9_draw 55 = .ok (.aload_n 2, 1) := by decide +kernel
theorem dX9_draw_56 : decode cX9_draw 56 = .ok (.aload_n 0, 1) := by decide +kernel
theorem dX9_draw_57 : decode cX9_draw 57 = .ok (.getfield 101, 3) := by decide +kernel
theorem dX9_draw_60 : decode cX9_draw 60 = .ok (.invokevirtual 113, 3) := by decide +kernel
theorem dX9_draw_63 : decode cX9_draw 63 = .ok (.invokestatic 53, 3) := by decide +kernel
theorem dX9_draw_66 : decode cX9_draw 66 = .ok (.iinc 3 1, 3) := by decide +kernel
theorem dX9_draw_69 : decode cX9_draw 69 = .ok (.goto (-27), 3) := by decide +kernel
theorem dX9_draw_72 : decode cX9_draw 72 = .ok (.return_, 1) := by decide +kernel
end

-- 35.turns: how each loop turns (out of wip/whole/gen/turns.py)
theorem sX7_copy_2 (s0 : Nat) (s1 : Nat) (n : Nat) : fX7_copy_2 s0 s1 (n + 1) = fX7_copy_2b s0 s1 (fX7_copy_2 s0 s1 n) := rfl
theorem sX7_bits_4 (n : Nat) : fX7_bits_4 (n + 1) = fX7_bits_4b (fX7_bits_4 n) := rfl
theorem sX7_freeNow_4 (n : Nat) : fX7_freeNow_4 (n + 1) = fX7_freeNow_4b (fX7_freeNow_4 n) := rfl
theorem sX7_ownNow_4 (n : Nat) : fX7_ownNow_4 (n + 1) = fX7_ownNow_4b (fX7_ownNow_4 n) := rfl
theorem sX7_allOdds_4 (n : Nat) : fX7_allOdds_4 (n + 1) = fX7_allOdds_4b (fX7_allOdds_4 n) := rfl
theorem sX7_four_3 (n : Nat) : fX7_four_3 (n + 1) = fX7_four_3b (fX7_four_3 n) := rfl
theorem sX7_nextToken_0 (n : Nat) : fX7_nextToken_0 (n + 1) = fX7_nextToken_0b (fX7_nextToken_0 n) := rfl
theorem sX7_nextToken_168 (n : Nat) : fX7_nextToken_168 (n + 1) = fX7_nextToken_168b (fX7_nextToken_168 n) := rfl
theorem sX7_nextToken_85 (n : Nat) : fX7_nextToken_85 (n + 1) = fX7_nextToken_85b (fX7_nextToken_85 n) := rfl
theorem sX7_settle_0 (n : Nat) : fX7_settle_0 (n + 1) = fX7_settle_0b (fX7_settle_0 n) := rfl
theorem sX7_openAt_7 (n : Nat) : fX7_openAt_7 (n + 1) = fX7_openAt_7b (fX7_openAt_7 n) := rfl
theorem sX7_isCompared_7 (n : Nat) : fX7_isCompared_7 (n + 1) = fX7_isCompared_7b (fX7_isCompared_7 n) := rfl
theorem sX7_summed_15 (n : Nat) : fX7_summed_15 (n + 1) = fX7_summed_15b (fX7_summed_15 n) := rfl
theorem sX7_readText_43 (n : Nat) : fX7_readText_43 (n + 1) = fX7_readText_43b (fX7_readText_43 n) := rfl
theorem sX7_summedUp_38 (n : Nat) : fX7_summedUp_38 (n + 1) = fX7_summedUp_38b (fX7_summedUp_38 n) := rfl
theorem sX7_says_3 (n : Nat) : fX7_says_3 (n + 1) = fX7_says_3b (fX7_says_3 n) := rfl
theorem sX7_write_23 (n : Nat) : fX7_write_23 (n + 1) = fX7_write_23b (fX7_write_23 n) := rfl
theorem sX7_sellNow_52 (n : Nat) : fX7_sellNow_52 (n + 1) = fX7_sellNow_52b (fX7_sellNow_52 n) := rfl
theorem sX7_turnNow_2 (n : Nat) : fX7_turnNow_2 (n + 1) = fX7_turnNow_2b (fX7_turnNow_2 n) := rfl
theorem sX7_nextSort_28 (n : Nat) : fX7_nextSort_28 (n + 1) = fX7_nextSort_28b (fX7_nextSort_28 n) := rfl
theorem sX7_passDay_2 (n : Nat) : fX7_passDay_2 (n + 1) = fX7_passDay_2b (fX7_passDay_2 n) := rfl
theorem sX7_passDay_52 (n : Nat) : fX7_passDay_52 (n + 1) = fX7_passDay_52b (fX7_passDay_52 n) := rfl
theorem sX7_keepStep_82 (n : Nat) : fX7_keepStep_82 (n + 1) = fX7_keepStep_82b (fX7_keepStep_82 n) := rfl
theorem sX7_keepStep_115 (n : Nat) : fX7_keepStep_115 (n + 1) = fX7_keepStep_115b (fX7_keepStep_115 n) := rfl
theorem sX7_keepStep_13 (n : Nat) : fX7_keepStep_13 (n + 1) = fX7_keepStep_13b (fX7_keepStep_13 n) := rfl
theorem sX7_undo_36 (n : Nat) : fX7_undo_36 (n + 1) = fX7_undo_36b (fX7_undo_36 n) := rfl
theorem sX7_undo_74 (n : Nat) : fX7_undo_74 (n + 1) = fX7_undo_74b (fX7_undo_74 n) := rfl
theorem sX7_undo_110 (n : Nat) : fX7_undo_110 (n + 1) = fX7_undo_110b (fX7_undo_110 n) := rfl
theorem sX7_pass_73 (n : Nat) : fX7_pass_73 (n + 1) = fX7_pass_73b (fX7_pass_73 n) := rfl
theorem sX7_arePassed_2 (n : Nat) : fX7_arePassed_2 (n + 1) = fX7_arePassed_2b (fX7_arePassed_2 n) := rfl
theorem sX7_played_21 (n : Nat) : fX7_played_21 (n + 1) = fX7_played_21b (fX7_played_21 n) := rfl
theorem sX7_years_43 (n : Nat) : fX7_years_43 (n + 1) = fX7_years_43b (fX7_years_43 n) := rfl
theorem sX7_ledger_16 (n : Nat) : fX7_ledger_16 (n + 1) = fX7_ledger_16b (fX7_ledger_16 n) := rfl
theorem sX7_richest_4 (n : Nat) : fX7_richest_4 (n + 1) = fX7_richest_4b (fX7_richest_4 n) := rfl
theorem sX7_rival_14 (n : Nat) : fX7_rival_14 (n + 1) = fX7_rival_14b (fX7_rival_14 n) := rfl
theorem sX7_divisor_6 (n : Nat) : fX7_divisor_6 (n + 1) = fX7_divisor_6b (fX7_divisor_6 n) := rfl
theorem sX7_learnt_19 (n : Nat) : fX7_learnt_19 (n + 1) = fX7_learnt_19b (fX7_learnt_19 n) := rfl
theorem sX7_wanted_13 (n : Nat) : fX7_wanted_13 (n + 1) = fX7_wanted_13b (fX7_wanted_13 n) := rfl
theorem sX7_alone_18 (n : Nat) : fX7_alone_18 (n + 1) = fX7_alone_18b (fX7_alone_18 n) := rfl
theorem sX7_since_19 (n : Nat) : fX7_since_19 (n + 1) = fX7_since_19b (fX7_since_19 n) := rfl
theorem sX7_idle_7 (n : Nat) : fX7_idle_7 (n + 1) = fX7_idle_7b (fX7_idle_7 n) := rfl
theorem sX7_poor_4 (n : Nat) : fX7_poor_4 (n + 1) = fX7_poor_4b (fX7_poor_4 n) := rfl
theorem sX7_room_14 (n : Nat) : fX7_room_14 (n + 1) = fX7_room_14b (fX7_room_14 n) := rfl
theorem sX7_foretold_24 (n : Nat) : fX7_foretold_24 (n + 1) = fX7_foretold_24b (fX7_foretold_24 n) := rfl
theorem sX7_foretold_55 (n : Nat) : fX7_foretold_55 (n + 1) = fX7_foretold_55b (fX7_foretold_55 n) := rfl
theorem sX7_foretold_135 (n : Nat) : fX7_foretold_135 (n + 1) = fX7_foretold_135b (fX7_foretold_135 n) := rfl
theorem sX7_foretold_101 (n : Nat) : fX7_foretold_101 (n + 1) = fX7_foretold_101b (fX7_foretold_101 n) := rfl
theorem sX7_broughtBy_8 (n : Nat) : fX7_broughtBy_8 (n + 1) = fX7_broughtBy_8b (fX7_broughtBy_8 n) := rfl
theorem sX7_bestSet_5 (n : Nat) : fX7_bestSet_5 (n + 1) = fX7_bestSet_5b (fX7_bestSet_5 n) := rfl
theorem sX7_allRows_5 (n : Nat) : fX7_allRows_5 (n + 1) = fX7_allRows_5b (fX7_allRows_5 n) := rfl
theorem sX7_hoped_17 (n : Nat) : fX7_hoped_17 (n + 1) = fX7_hoped_17b (fX7_hoped_17 n) := rfl
theorem sX7_hoped_5 (n : Nat) : fX7_hoped_5 (n + 1) = fX7_hoped_5b (fX7_hoped_5 n) := rfl
theorem sX7_first_14 (n : Nat) : fX7_first_14 (n + 1) = fX7_first_14b (fX7_first_14 n) := rfl
theorem sX7_paid_7 (n : Nat) : fX7_paid_7 (n + 1) = fX7_paid_7b (fX7_paid_7 n) := rfl
theorem sX7_doesFit_12 (n : Nat) : fX7_doesFit_12 (n + 1) = fX7_doesFit_12b (fX7_doesFit_12 n) := rfl
theorem sX7_fitting_4 (n : Nat) : fX7_fitting_4 (n + 1) = fX7_fitting_4b (fX7_fitting_4 n) := rfl
theorem sX7_oddsOfSet_4 (n : Nat) : fX7_oddsOfSet_4 (n + 1) = fX7_oddsOfSet_4b (fX7_oddsOfSet_4 n) := rfl
theorem sX7_likeliestNow_4 (n : Nat) : fX7_likeliestNow_4 (n + 1) = fX7_likeliestNow_4b (fX7_likeliestNow_4 n) := rfl
theorem sX7_ask_17 (n : Nat) : fX7_ask_17 (n + 1) = fX7_ask_17b (fX7_ask_17 n) := rfl
theorem sX7_bidderOf_5 (n : Nat) : fX7_bidderOf_5 (n + 1) = fX7_bidderOf_5b (fX7_bidderOf_5 n) := rfl
theorem sX7_auction_46 (n : Nat) : fX7_auction_46 (n + 1) = fX7_auction_46b (fX7_auction_46 n) := rfl
theorem sX7_areServed_2 (n : Nat) : fX7_areServed_2 (n + 1) = fX7_areServed_2b (fX7_areServed_2 n) := rfl
theorem sX7_stab_8 (n : Nat) : fX7_stab_8 (n + 1) = fX7_stab_8b (fX7_stab_8 n) := rfl
theorem sX7_crowdAt_4 (n : Nat) : fX7_crowdAt_4 (n + 1) = fX7_crowdAt_4b (fX7_crowdAt_4 n) := rfl
theorem sX7_crowd_4 (n : Nat) : fX7_crowd_4 (n + 1) = fX7_crowd_4b (fX7_crowd_4 n) := rfl
theorem sX7_layDawns_2 (n : Nat) : fX7_layDawns_2 (n + 1) = fX7_layDawns_2b (fX7_layDawns_2 n) := rfl
theorem sX7_layDawns_59 (n : Nat) : fX7_layDawns_59 (n + 1) = fX7_layDawns_59b (fX7_layDawns_59 n) := rfl
theorem sX7_layDawns_31 (n : Nat) : fX7_layDawns_31 (n + 1) = fX7_layDawns_31b (fX7_layDawns_31 n) := rfl
theorem sX7_layDawns_23 (n : Nat) : fX7_layDawns_23 (n + 1) = fX7_layDawns_23b (fX7_layDawns_23 n) := rfl
theorem sX7_month_19 (n : Nat) : fX7_month_19 (n + 1) = fX7_month_19b (fX7_month_19 n) := rfl
theorem sX7_layGames_10 (n : Nat) : fX7_layGames_10 (n + 1) = fX7_layGames_10b (fX7_layGames_10 n) := rfl
theorem sX7_layGames_2 (n : Nat) : fX7_layGames_2 (n + 1) = fX7_layGames_2b (fX7_layGames_2 n) := rfl
theorem sX7_runOf_5 (n : Nat) : fX7_runOf_5 (n + 1) = fX7_runOf_5b (fX7_runOf_5 n) := rfl
theorem sX7_best_40 (n : Nat) : fX7_best_40 (n + 1) = fX7_best_40b (fX7_best_40 n) := rfl
theorem sX7_best_30 (n : Nat) : fX7_best_30 (n + 1) = fX7_best_30b (fX7_best_30 n) := rfl
theorem sX7_whose_20 (n : Nat) : fX7_whose_20 (n + 1) = fX7_whose_20b (fX7_whose_20 n) := rfl
theorem sX7_whose_4 (n : Nat) : fX7_whose_4 (n + 1) = fX7_whose_4b (fX7_whose_4 n) := rfl
theorem sX0_become_161 (p0 : Nat) (p1 : Nat) (n : Nat) : fX0_become_161 p0 p1 (n + 1) = fX0_become_161b p0 p1 (fX0_become_161 p0 p1 n) := rfl
theorem sX1_splitNumber_6 (n : Nat) : fX1_splitNumber_6 (n + 1) = fX1_splitNumber_6b (fX1_splitNumber_6 n) := rfl
theorem sX3_clear_12 (t0 : Nat) (n : Nat) : fX3_clear_12 t0 (n + 1) = fX3_clear_12b t0 (fX3_clear_12 t0 n) := rfl
theorem sX2_worked_14 (t0 : Nat) (w1 : Nat) (n : Nat) : fX2_worked_14 t0 w1 (n + 1) = fX2_worked_14b t0 w1 (fX2_worked_14 t0 w1 n) := rfl
theorem sX6_putBytes_3 (n : Nat) : fX6_putBytes_3 (n + 1) = fX6_putBytes_3b (fX6_putBytes_3 n) := rfl
theorem sX6_oddsTogether_4 (n : Nat) : fX6_oddsTogether_4 (n + 1) = fX6_oddsTogether_4b (fX6_oddsTogether_4 n) := rfl
theorem sX6_drawSort_39 (w0 : Nat) (n : Nat) : fX6_drawSort_39 w0 (n + 1) = fX6_drawSort_39b w0 (fX6_drawSort_39 w0 n) := rfl
theorem sX6_dawnComes_2 (w0 : Nat) (n : Nat) : fX6_dawnComes_2 w0 (n + 1) = fX6_dawnComes_2b w0 (fX6_dawnComes_2 w0 n) := rfl
theorem sX6_dawnComes_54 (w0 : Nat) (n : Nat) : fX6_dawnComes_54 w0 (n + 1) = fX6_dawnComes_54b w0 (fX6_dawnComes_54 w0 n) := rfl
theorem sX6_passDays_2 (n : Nat) : fX6_passDays_2 (n + 1) = fX6_passDays_2b (fX6_passDays_2 n) := rfl
theorem sX6_played_20 (tt8 : Nat) (n : Nat) : fX6_played_20 tt8 (n + 1) = fX6_played_20b tt8 (fX6_played_20 tt8 n) := rfl
theorem sX6_years_49 (n : Nat) : fX6_years_49 (n + 1) = fX6_years_49b (fX6_years_49 n) := rfl
theorem sX6_undo_73 (n : Nat) : fX6_undo_73 (n + 1) = fX6_undo_73b (fX6_undo_73 n) := rfl
theorem sX6_at_22 (n : Nat) : fX6_at_22 (n + 1) = fX6_at_22b (fX6_at_22 n) := rfl
theorem sX6_linesOf_4 (n : Nat) : fX6_linesOf_4 (n + 1) = fX6_linesOf_4b (fX6_linesOf_4 n) := rfl
theorem sX6_foretold_37 (n : Nat) : fX6_foretold_37 (n + 1) = fX6_foretold_37b (fX6_foretold_37 n) := rfl
theorem sX6_foretold_86 (n : Nat) : fX6_foretold_86 (n + 1) = fX6_foretold_86b (fX6_foretold_86 n) := rfl
theorem sX6_bidTogether_4 (n : Nat) : fX6_bidTogether_4 (n + 1) = fX6_bidTogether_4b (fX6_bidTogether_4 n) := rfl
theorem sX6_fitTogether_5 (n : Nat) : fX6_fitTogether_5 (n + 1) = fX6_fitTogether_5b (fX6_fitTogether_5 n) := rfl
theorem sX6_bestSet_2 (n : Nat) : fX6_bestSet_2 (n + 1) = fX6_bestSet_2b (fX6_bestSet_2 n) := rfl
theorem sX6_bestSet_46 (n : Nat) : fX6_bestSet_46 (n + 1) = fX6_bestSet_46b (fX6_bestSet_46 n) := rfl
theorem sX6_lowest_9 (n : Nat) : fX6_lowest_9 (n + 1) = fX6_lowest_9b (fX6_lowest_9 n) := rfl
theorem sX6_month_19 (n : Nat) : fX6_month_19 (n + 1) = fX6_month_19b (fX6_month_19 n) := rfl
theorem sX6_hoped_20 (n : Nat) : fX6_hoped_20 (n + 1) = fX6_hoped_20b (fX6_hoped_20 n) := rfl
theorem sX6_hoped_8 (n : Nat) : fX6_hoped_8 (n + 1) = fX6_hoped_8b (fX6_hoped_8 n) := rfl
theorem sX6_first_22 (n : Nat) : fX6_first_22 (n + 1) = fX6_first_22b (fX6_first_22 n) := rfl
theorem sX6_was_4 (n : Nat) : fX6_was_4 (n + 1) = fX6_was_4b (fX6_was_4 n) := rfl
theorem sX6_was_31 (n : Nat) : fX6_was_31 (n + 1) = fX6_was_31b (fX6_was_31 n) := rfl
theorem sX6_likeliest_9 (n : Nat) : fX6_likeliest_9 (n + 1) = fX6_likeliest_9b (fX6_likeliest_9 n) := rfl
theorem sX6_likelihoodOf_4 (n : Nat) : fX6_likelihoodOf_4 (n + 1) = fX6_likelihoodOf_4b (fX6_likelihoodOf_4 n) := rfl
theorem sX6_ask_28 (n : Nat) : fX6_ask_28 (n + 1) = fX6_ask_28b (fX6_ask_28 n) := rfl
theorem sX6_auction_32 (n : Nat) : fX6_auction_32 (n + 1) = fX6_auction_32b (fX6_auction_32 n) := rfl
theorem sX6_stab_20 (n : Nat) : fX6_stab_20 (n + 1) = fX6_stab_20b (fX6_stab_20 n) := rfl
theorem sX6_stab_9 (n : Nat) : fX6_stab_9 (n + 1) = fX6_stab_9b (fX6_stab_9 n) := rfl
theorem sX6_crowd_20 (n : Nat) : fX6_crowd_20 (n + 1) = fX6_crowd_20b (fX6_crowd_20 n) := rfl
theorem sX6_crowd_7 (n : Nat) : fX6_crowd_7 (n + 1) = fX6_crowd_7b (fX6_crowd_7 n) := rfl
theorem sX6_lowestDawn_2 (n : Nat) : fX6_lowestDawn_2 (n + 1) = fX6_lowestDawn_2b (fX6_lowestDawn_2 n) := rfl
theorem sX6_dawns_12 (n : Nat) : fX6_dawns_12 (n + 1) = fX6_dawns_12b (fX6_dawns_12 n) := rfl
theorem sX6_dawns_41 (n : Nat) : fX6_dawns_41 (n + 1) = fX6_dawns_41b (fX6_dawns_41 n) := rfl
theorem sX6_dawns_33 (n : Nat) : fX6_dawns_33 (n + 1) = fX6_dawns_33b (fX6_dawns_33 n) := rfl
theorem sX6_lead_9 (n : Nat) : fX6_lead_9 (n + 1) = fX6_lead_9b (fX6_lead_9 n) := rfl
theorem sX6_lead_47 (n : Nat) : fX6_lead_47 (n + 1) = fX6_lead_47b (fX6_lead_47 n) := rfl
theorem sX6_lead_37 (n : Nat) : fX6_lead_37 (n + 1) = fX6_lead_37b (fX6_lead_37 n) := rfl
theorem sX6_best_57 (n : Nat) : fX6_best_57 (n + 1) = fX6_best_57b (fX6_best_57 n) := rfl
theorem sX6_best_44 (n : Nat) : fX6_best_44 (n + 1) = fX6_best_44b (fX6_best_44 n) := rfl
theorem sX6_whose_20 (n : Nat) : fX6_whose_20 (n + 1) = fX6_whose_20b (fX6_whose_20 n) := rfl
theorem sX6_whose_4 (n : Nat) : fX6_whose_4 (n + 1) = fX6_whose_4b (fX6_whose_4 n) := rfl
theorem sX6_richest_6 (n : Nat) : fX6_richest_6 (n + 1) = fX6_richest_6b (fX6_richest_6 n) := rfl
theorem sX6_rival_14 (n : Nat) : fX6_rival_14 (n + 1) = fX6_rival_14b (fX6_rival_14 n) := rfl
theorem sX6_learnt_16 (n : Nat) : fX6_learnt_16 (n + 1) = fX6_learnt_16b (fX6_learnt_16 n) := rfl
theorem sX6_since_22 (n : Nat) : fX6_since_22 (n + 1) = fX6_since_22b (fX6_since_22 n) := rfl
theorem sX6_wanted_13 (n : Nat) : fX6_wanted_13 (n + 1) = fX6_wanted_13b (fX6_wanted_13 n) := rfl
theorem sX6_alone_21 (n : Nat) : fX6_alone_21 (n + 1) = fX6_alone_21b (fX6_alone_21 n) := rfl
theorem sX6_idle_13 (n : Nat) : fX6_idle_13 (n + 1) = fX6_idle_13b (fX6_idle_13 n) := rfl
theorem sX6_poor_4 (n : Nat) : fX6_poor_4 (n + 1) = fX6_poor_4b (fX6_poor_4 n) := rfl
theorem sX6_room_14 (n : Nat) : fX6_room_14 (n + 1) = fX6_room_14b (fX6_room_14 n) := rfl
theorem sX1_sum_12 (rg : gR) (n : Nat) : fX1_sum_12 rg (n + 1) = fX1_sum_12b rg (fX1_sum_12 rg n) := rfl
theorem sX1_product_12 (rg : gR) (n : Nat) : fX1_product_12 rg (n + 1) = fX1_product_12b rg (fX1_product_12 rg n) := rfl
theorem sX1_either_12 (rg : gR) (n : Nat) : fX1_either_12 rg (n + 1) = fX1_either_12b rg (fX1_either_12 rg n) := rfl
theorem sX1_both_12 (rg : gR) (n : Nat) : fX1_both_12 rg (n + 1) = fX1_both_12b rg (fX1_both_12 rg n) := rfl
theorem sX4_ofWord_25 (n : Nat) : fX4_ofWord_25 (n + 1) = fX4_ofWord_25b (fX4_ofWord_25 n) := rfl
theorem sX4_ofWord_7 (n : Nat) : fX4_ofWord_7 (n + 1) = fX4_ofWord_7b (fX4_ofWord_7 n) := rfl
theorem sX1_splitWord_3 (n : Nat) : fX1_splitWord_3 (n + 1) = fX1_splitWord_3b (fX1_splitWord_3 n) := rfl
theorem sX1_split_10 (n : Nat) : fX1_split_10 (n + 1) = fX1_split_10b (fX1_split_10 n) := rfl
theorem sX1_reads_63 (t0 : Nat) (n : Nat) : fX1_reads_63 t0 (n + 1) = fX1_reads_63b t0 (fX1_reads_63 t0 n) := rfl

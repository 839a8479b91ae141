set_option maxRecDepth 20000 in
theorem gL_law_X4_step : GoodIn wsL_law (wsV RL 22 RX4 yX4_step wsX4_step) := goodIn_app (goodIn_of _ (by decide +kernel)) ggL_law_X4_step
set_option maxRecDepth 20000 in
theorem ggL_law_X3_act : GoodIn wsL_law wsX3_act := goodIn_r _ [120, 87, 88, 2, 89, 121, 122, 123, 124, 125, 19, 18, 126, 127, 20, 128, 129, 130, 131, 132, 10, 11, 12, 133, 134, 135, 136, 137, 138, 139, 140, 141, 142, 143, 144, 145, 146, 147, 580, 581, 582, 583, 584, 585, 586, 587, 588, 589, 590, 591, 592, 593, 594, 595, 596, 597, 643, 644, 645, 646, 647, 648, 649, 650, 651, 652, 653, 654, 655, 656, 657, 658, 659, 660, 661, 662] (by decide +kernel) (by decide +kernel)
set_option maxRecDepth 20000 in
theorem gL_law_X3_act : GoodIn wsL_law (wsV RL 23 RX3 yX3_act wsX3_act) := goodIn_app (goodIn_of _ (by decide +kernel)) ggL_law_X3_act
set_option maxRecDepth 20000 in
theorem ggL_law_X4_act : GoodIn wsL_law wsX4_act := goodIn_r _ [151, 94, 95, 5, 96, 97, 98, 99, 152, 153, 154, 155, 156, 56, 57, 58, 68, 66, 69, 598, 599, 600, 601, 602, 603, 604, 605, 606, 607, 608, 609, 610, 611, 612, 613, 614, 615, 616, 617, 618, 619, 620, 621, 622, 623, 624, 625, 626, 627, 628, 629, 630, 631, 632, 633, 634, 635, 636] (by decide +kernel) (by decide +kernel)
set_option maxRecDepth 20000 in
theorem gL_law_X4_act : GoodIn wsL_law (wsV RL 27 RX4 yX4_act wsX4_act) := goodIn_app (goodIn_of _ (by decide +kernel)) ggL_law_X4_act
set_option maxRecDepth 20000 in
theorem ggL_law_X3_limit : GoodIn wsL_law wsX3_limit := goodIn_r _ [160, 15, 87, 88, 2, 89, 580, 581, 582, 583, 584, 585, 586, 587, 588, 589, 590, 591, 592, 593, 594, 595, 596, 597] (by decide +kernel) (by decide +kernel)
set_option maxRecDepth 20000 in
theorem gL_law_X3_limit : GoodIn wsL_law (wsV RL 28 RX3 yX3_limit wsX3_limit) := goodIn_app (goodIn_of _ (by decide +kernel)) ggL_law_X3_limit
set_option maxRecDepth 20000 in
theorem ggL_law_X4_limit : GoodIn wsL_law wsX4_limit := goodIn_r _ [164, 53, 97, 98, 5, 99, 598, 599, 600, 601, 602, 603, 604, 605, 606, 607, 608, 609, 610, 611, 612, 613, 614, 615, 616, 617, 618, 619, 620, 621, 622, 623, 624, 625, 626, 627, 628, 629, 630, 631, 632, 633, 634, 635, 636] (by decide +kernel) (by decide +kernel)
set_option maxRecDepth 20000 in
theorem gL_law_X4_limit : GoodIn wsL_law (wsV RL 32 RX4 yX4_limit wsX4_limit) := goodIn_app (goodIn_of _ (by decide +kernel)) ggL_law_X4_limit
set_option maxRecDepth 20000 in
theorem ggL_law_X3_floor : GoodIn wsL_law wsX3_floor := goodIn_r _ [168, 16, 87, 88, 2, 89, 169, 170, 171, 172, 17, 125, 19, 173, 174, 580, 581, 582, 583, 584, 585, 586, 587, 588, 589, 590, 591, 592, 593, 594, 595, 596, 597, 643, 644, 645, 646, 647, 648, 649, 650, 651, 652, 653, 654, 655, 656, 657, 658, 659, 660, 661, 662] (by decide +kernel) (by decide +kernel)

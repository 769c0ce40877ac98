set_option maxRecDepth 100000 in
theorem ii_X0 : ∀ w ∈ wsX00, w ∈ lw_good := g_memL (goodIn_r (big := lw_tbl) _ [483, 485, 487, 489, 491, 493, 495, 497, 499] (by decide +kernel) (by decide +kernel)) (by decide +kernel)
set_option maxRecDepth 100000 in
theorem ii_X1 : ∀ w ∈ wsX10, w ∈ lw_good := g_memL (goodIn_r (big := lw_tbl) _ [547, 549, 551] (by decide +kernel) (by decide +kernel)) (by decide +kernel)
set_option maxRecDepth 100000 in
theorem ii_X2 : ∀ w ∈ wsX20, w ∈ lw_good := g_memL (goodIn_r (big := lw_tbl) _ [379, 381, 383, 385, 387, 389, 391, 393] (by decide +kernel) (by decide +kernel)) (by decide +kernel)
set_option maxRecDepth 100000 in
theorem ii_X3 : ∀ w ∈ wsX30, w ∈ lw_good := g_memL (goodIn_r (big := lw_tbl) _ [753, 755, 757, 759, 761, 763, 765, 767, 769, 771, 773, 775, 777, 779, 781, 783] (by decide +kernel) (by decide +kernel)) (by decide +kernel)
set_option maxRecDepth 100000 in
theorem ii_X4 : ∀ w ∈ wsX40, w ∈ lw_good := g_memL (goodIn_r (big := lw_tbl) _ [421, 423, 425, 427, 429, 431, 433, 435, 437, 439, 441, 443, 445, 447, 449, 451, 453, 455] (by decide +kernel) (by decide +kernel)) (by decide +kernel)
set_option maxRecDepth 100000 in
theorem ii_X5 : ∀ w ∈ wsX50, w ∈ lw_good := g_memL (goodIn_r (big := lw_tbl) _ [654, 656] (by decide +kernel) (by decide +kernel)) (by decide +kernel)
set_option maxRecDepth 100000 in
theorem ii_X6 : ∀ w ∈ wsX60, w ∈ lw_good := g_memL (goodIn_r (big := lw_tbl) _ [701, 703, 705, 707, 709, 711, 713, 715, 717, 719, 721, 723] (by decide +kernel) (by decide +kernel)) (by decide +kernel)
set_option maxRecDepth 100000 in
theorem ii_X7 : ∀ w ∈ wsX70, w ∈ lw_good := g_memL (goodIn_r (big := lw_tbl) _ [605, 607, 609, 611, 613, 615, 617, 619, 621, 623, 625, 627, 629, 631, 633, 635, 637, 639, 641] (by decide +kernel) (by decide +kernel)) (by decide +kernel)
set_option maxRecDepth 100000 in
theorem ii_X8 : ∀ w ∈ wsX80, w ∈ lw_good := g_memL (goodIn_r (big := lw_tbl) _ [809, 811, 813, 815, 817, 819, 821, 823, 825, 827, 829, 831, 833, 835, 837, 839] (by decide +kernel) (by decide +kernel)) (by decide +kernel)
set_option maxRecDepth 100000 in
theorem ii_X9 : ∀ w ∈ wsX90, w ∈ lw_good := g_memL (goodIn_r (big := lw_tbl) _ [518, 520, 522, 524, 526, 528, 530, 532, 534] (by decide +kernel) (by decide +kernel)) (by decide +kernel)
set_option maxRecDepth 100000 in
theorem ii_X10 : ∀ w ∈ wsX100, w ∈ lw_good := g_memL (goodIn_r (big := lw_tbl) _ [336, 338, 340, 342, 344, 346, 348, 350, 352, 354, 356, 358] (by decide +kernel) (by decide +kernel)) (by decide +kernel)
set_option maxRecDepth 100000 in
theorem ii_X11 : ∀ w ∈ wsX110, w ∈ lw_good := g_memL (goodIn_r (big := lw_tbl) _ [862, 864, 866, 868, 870, 872, 874, 876, 878, 880, 882, 884, 886, 888, 890, 892, 894, 896, 898] (by decide +kernel) (by decide +kernel)) (by decide +kernel)
set_option maxRecDepth 100000 in
theorem ii_X12 : ∀ w ∈ wsX120, w ∈ lw_good := g_memL (goodIn_r (big := lw_tbl) _ [2387, 2389, 2391, 2393, 2395, 2397, 2399, 2401, 2403, 2405, 2407, 2409, 2411, 2413, 2415, 2417, 2419, 2421, 2423, 2425, 2427, 2429, 2431, 2433, 2435, 2437, 2439, 2441, 2443, 2445, 2447, 2449, 2451, 2453, 2455, 2457, 2459, 2461, 2463, 2465, 2467, 2469, 2471, 2473, 2475, 2477, 2479, 2481, 2483, 2485, 2487, 2489, 2491, 2493, 2495, 2497, 2499, 2501, 2503, 2505, 2507, 2509, 2511, 2513, 2515, 2517, 2519, 2521, 2523, 2525, 2527, 2529, 2531, 2533, 2535, 2537, 2539, 2541, 2543, 2545, 2547, 2549, 2551, 2553, 2555, 2557, 2559, 2561, 2563, 2565, 2567, 2569, 2571, 2573, 2575, 2577, 2579, 2581, 2583, 2585, 2587, 2589, 2591, 2593, 2595, 2597, 2599, 2601, 2603, 2605, 2607, 2609, 2611, 2613, 2615, 2617, 2619, 2621, 2623, 2625, 2627, 2629, 2631] (by decide +kernel) (by decide +kernel)) (by decide +kernel)
theorem wx_99 : ∀ w ∈ (vx_atS RX11 99 "java/lang/IllegalArgumentException" ["java/lang/RuntimeException", "java/lang/Exception"]).filter goodWord, w ∈ lw_good := fun w h => g_mem ((by decide +kernel : ∀ w ∈ (vx_atS RX11 99 "java/lang/IllegalArgumentException" ["java/lang/RuntimeException", "java/lang/Exception"]).filter goodWord, w ∈ lw_tbl) w h) (List.mem_filter.mp h).2
theorem wx_119 : ∀ w ∈ (vx_atS RX11 119 "java/lang/IllegalStateException" ["java/lang/RuntimeException", "java/lang/Exception"]).filter goodWord, w ∈ lw_good := fun w h => g_mem ((by decide +kernel : ∀ w ∈ (vx_atS RX11 119 "java/lang/IllegalStateException" ["java/lang/RuntimeException", "java/lang/Exception"]).filter goodWord, w ∈ lw_tbl) w h) (List.mem_filter.mp h).2
theorem wx_227 : ∀ w ∈ (vx_atS RX11 227 "java/lang/IndexOutOfBoundsException" ["java/lang/RuntimeException", "java/lang/Exception"]).filter goodWord, w ∈ lw_good := fun w h => g_mem ((by decide +kernel : ∀ w ∈ (vx_atS RX11 227 "java/lang/IndexOutOfBoundsException" ["java/lang/RuntimeException", "java/lang/Exception"]).filter goodWord, w ∈ lw_tbl) w h) (List.mem_filter.mp h).2
